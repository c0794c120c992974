/-! Refusals. -/
def c_ex (k : Nat) : am_C := (200 + k, List.replicate 6 .null)
def c_No (k : Nat) (hp hp1 : am_H) (o : am_R) : Prop := o = .inr (k, hp.length) ∧ hp1 = hp ++ [c_ex k]
section TH
variable {d j pc : Nat} {lo : am_L} {st : List Value} {hp : am_H} {Q : am_H → am_R → Prop}
theorem am_Rq.thrN {ix k ic : Nat} (hd : decode (am_by j) pc = .ok (.new ix, 3)) (hx : am_ex (am_w j) ix = some (k, ic)) (h4 : 4 ≤ d) (hh : am_hd j = []) (d3 : decode (am_by j) (pc + 3) = .ok (.dup, 1)) (d4 : decode (am_by j) (pc + 4) = .ok (.invokespecial ic, 3)) (d7 : decode (am_by j) (pc + 7) = .ok (.athrow, 1)) (hq : Q (hp ++ [c_ex k]) (.inr (k, hp.length))) : am_Rq d j pc lo [] hp Q :=
  am_Rq.thr hd rfl rfl rfl (by simp only [am_th, hx]; exact if_pos ⟨h4, trivial, hh, d3, d4, d7⟩) hq
/-- a call that is refused, by a method that catches nothing -/
theorem am_Rq.callNo {ix j2 a k : Nat} {fs : List Value} (hd : decode (am_by j) pc = .ok (.invokevirtual ix, 3)) (h2 : am_mt (am_w j) ix = some j2) (ws rest : List Value) (hst : st = (.ref a :: ws).reverse ++ rest) (hn : ws.length + 1 = am_na j2) (hw : (rest.map fun v => v.category).sum ≤ 8) (hk : (!am_st j2 && !am_ini j2) = true) (hr : hp[a]? = some (am_w j2, fs)) (hen : (am_en (.ref a :: ws) (am_mx j2)).length = am_mx j2)
    (hh : am_hd j = []) (hc : am_Rq d j2 0 (am_en (.ref a :: ws) (am_mx j2)) [] hp (c_No k hp)) (hq : Q (hp ++ [c_ex k]) (.inr (k, hp.length))) : am_Rq (d + 1) j pc lo st hp Q :=
  am_Rq.callVX hd h2 ws rest hst hn hw hk hr hen hc (fun hp1 o h => by
    obtain ⟨rfl, rfl⟩ := h
    unfold am_Aft
    rw [hh]
    exact ⟨rfl, hq⟩)
end TH
/-- in a range: as the class and the reference ask -/
def rg_r (a b x : Int32) : Bool := decide (a ≤ x) && decide (x ≤ b)
theorem rg_of {a b : Nat} {x : Int32} (h : rg_r (nI a) (nI b) x = true) (ha : a < 2 ^ 31) (hb : b < 2 ^ 31) : ∃ n : Nat, a ≤ n ∧ n ≤ b ∧ x = nI n := nm_in h ha hb
