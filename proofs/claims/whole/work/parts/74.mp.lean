/-! What a call of the reference leaves that changes its row. -/
theorem m_up {s : Nat → Nat} {k v : Nat} : va_up (fun i => nI (s i)) k (nI v) = fun i => nI (va_up s k v i) := by
  funext i
  by_cases e : i = k
  · subst e; rw [va_up_self, va_up_self]
  · rw [va_up_ne _ _ e, va_up_ne _ _ e]
def m_Chg (hp : am_H) (f : Nat → Int32) (kn co : Nat) (s s' : Nat → Nat) (hp1 : am_H) : Prop := hp1[238]? = some (7, m_ob 0 (m_kn kn + 1) co) ∧ hp1[239]? = some (100, am_ia (fun i => nI (s' i)) 160) ∧ (∃ f1 : Nat → Int32, hp1[240]? = some (100, am_ia f1 1280) ∧ (∀ k, k < 160 → f1 (160 * m_kn kn + k) = nI (s k)) ∧ ∀ q, q < 160 * m_kn kn → f1 q = if kn = 8 then f (q + 160) else f q) ∧ am_fr (fun x => 238 ≤ x ∧ x < 246) hp hp1
