/-! What a call of the reference leaves that changes its row. -/
theorem m_up {s : Nat → Nat} {k v : Nat} : va_up (fun i => nI (s i)) k (nI v) = fun i => nI (va_up s k v i) := by
  funext i
  by_cases e : i = k
  · subst e; rw [va_up_self, va_up_self]
  · rw [va_up_ne _ _ e, va_up_ne _ _ e]
def m_Chg (hp : am_H) (f : Nat → Int32) (kn co : Nat) (s s' : Nat → Nat) (hp1 : am_H) : Prop := hp1[238]? = some (7, m_ob 0 (m_kn kn + 1) co) ∧ hp1[239]? = some (100, am_ia (fun i => nI (s' i)) 160) ∧ (∃ f1 : Nat → Int32, hp1[240]? = some (100, am_ia f1 1280) ∧ (∀ k, k < 160 → f1 (160 * m_kn kn + k) = nI (s k)) ∧ ∀ q, q < 160 * m_kn kn → f1 q = if kn = 8 then f (q + 160) else f q) ∧ am_fr (fun x => 238 ≤ x ∧ x < 246) hp hp1
theorem am_Rq.nas {d j pc : Nat} {lo : am_L} {st : List Value} {hp : am_H} {Q : am_H → am_R → Prop} {a n k v : Nat} {s : Nat → Nat} (hd : decode (am_by j) pc = .ok (.iastore, 1)) (hc : hp[a]? = some (100, am_ia (fun i => nI (s i)) n)) (hk : k < n) (hn : n < 2 ^ 31) (ha : 2 ≤ a) (kk : am_Rq d j (pc + 1) lo st (hp.set a (100, am_ia (fun i => nI (va_up s k v i)) n)) Q) : am_Rq d j pc lo (.int (nI v) :: .int (nI k) :: .ref a :: st) hp Q :=
  am_Rq.ias hd hc hk hn ha (by rw [m_up]; exact kk)
