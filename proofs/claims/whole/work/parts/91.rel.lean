/-! What each change does to the reference's row, and to that row as a ledger's. -/
theorem m_iss_ne {s : Nat → Nat} {i v c : Nat} (h : ∀ k, k < 8 → i ≠ 40 + 8 * c + k) : m_iss (va_up s i v) c = m_iss s c :=
  sp_sm_congr (fun k hk => va_up_ne _ _ (fun q => h k hk q.symm))
theorem m_iss_up {s : Nat → Nat} {v c k : Nat} (hk : k < 8) : m_iss (va_up s (40 + 8 * c + k) v) c + s (40 + 8 * c + k) = m_iss s c + v := by
  have e : m_iss (va_up s (40 + 8 * c + k) v) c = sp_sm (va_up (fun h => s (40 + 8 * c + h)) k v) 8 := sp_sm_congr (fun h _ => by
    by_cases q : h = k
    · subst q; rw [va_up_self, va_up_self]
    · rw [va_up_ne _ _ q, va_up_ne _ _ (by omega)])
  have := sp_sm_up (f := fun h => s (40 + 8 * c + h)) (v := v) hk
  unfold m_iss at e ⊢
  rw [e]
  exact this
theorem m_iss_ge {s : Nat → Nat} {c k : Nat} (hk : k < 8) : s (40 + 8 * c + k) ≤ m_iss s c := sp_sm_ge (f := fun h => s (40 + 8 * c + h)) hk
theorem m_iss_congr {s s' : Nat → Nat} {c : Nat} (h : ∀ k, k < 8 → s (40 + 8 * c + k) = s' (40 + 8 * c + k)) : m_iss s c = m_iss s' c := sp_sm_congr h
theorem mt_of {S T : Nat → Nat} (h1 : ∀ c, c < 5 → T (8 * c + 7) = m_iss S c) (h2 : ∀ c k, 1 ≤ c → c ≤ S 0 → c < 5 → k < 7 → T (8 * c + k) = S (1 + 8 * (c - 1) + k)) (h3 : ∀ c k, c < 5 → c = 0 ∨ S 0 < c → k < 7 → T (8 * c + k) = if k = 0 then 1 else if k = 6 then 1000 else 0) (h4 : ∀ q, 40 ≤ q → q < 153 → T q = S q) (h5 : T 153 = S 0 + 1) : ∀ q, q < 154 → T q = mt S q := by
  intro q hq
  by_cases e1 : q < 40
  · by_cases e7 : q % 8 = 7
    · rw [show q = 8 * (q / 8) + 7 by omega, mt_i (by omega)]
      exact h1 _ (by omega)
    · by_cases e2 : 1 ≤ q / 8 ∧ q / 8 ≤ S 0
      · rw [show q = 8 * (q / 8) + q % 8 by omega, mt_f (by omega) (by omega) (by omega) (by omega)]
        exact h2 _ _ (by omega) (by omega) (by omega) (by omega)
      · rw [show q = 8 * (q / 8) + q % 8 by omega, mt_d (by omega) (by omega) (by omega)]
        exact h3 _ _ (by omega) (by omega) (by omega)
  · by_cases e2 : q < 153
    · rw [mt_h (by omega) e2]
      exact h4 q (by omega) e2
    · have : q = 153 := by omega
      subst this
      rw [mt_n]
      exact h5
/-- what holds of the reference's row at all times -/
def s_okc (s : Nat → Nat) (c : Nat) : Prop := 1 ≤ s (1 + 8 * (c - 1) + 0) ∧ s (1 + 8 * (c - 1) + 0) ≤ 1000 ∧ s (1 + 8 * (c - 1) + 1) ≤ 300 ∧ s (1 + 8 * (c - 1) + 2) ≤ 3 ∧ s (1 + 8 * (c - 1) + 3) ≤ 2 ∧ s (1 + 8 * (c - 1) + 4) ≤ 900 ∧ s (1 + 8 * (c - 1) + 5) ≤ 2 ∧ 1000 ≤ s (1 + 8 * (c - 1) + 6) ∧ s (1 + 8 * (c - 1) + 6) ≤ 1000 * s (1 + 8 * (c - 1) + 0)
def s_ok (K : Nat) (s : Nat → Nat) : Prop := s 0 ≤ 4 ∧ (∀ c, 1 ≤ c → c ≤ s 0 → s_okc s c) ∧ (∀ c, c < 5 → m_iss s c ≤ 20000 ∧ (1 ≤ c → m_iss s c ≤ 5000) ∧ (s 0 < c → m_iss s c = 0)) ∧ (∀ g, g < 10 → c_okg s g) ∧ s 80 ≤ 5000 ∧ s 81 ≤ 60 * K ∧ s 82 ≤ 10
theorem s_ok.more {K K' : Nat} {s : Nat → Nat} (h : s_ok K s) (hk : K ≤ K') : s_ok K' s := by
  obtain ⟨h0, h1, h2, h3, h4, h5, h6⟩ := h
  exact ⟨h0, h1, h2, h3, h4, by omega, h6⟩
theorem s_ok.ok {K : Nat} {s : Nat → Nat} (h : s_ok K s) : c_ok K (mt s) := by
  obtain ⟨h0, h1, h2, h3, h4, h5, h6⟩ := h
  have hsum : ∀ c, c < 5 → mt s (8 * c + 7) = sp_sm (fun h => mt s (40 + 8 * c + h)) 8 := fun c hc => by
    rw [mt_i hc]
    exact sp_sm_congr (fun k hk => (mt_h (by omega) (by omega)).symm)
  have hdef : ∀ c, c < 5 → c = 0 ∨ s 0 < c → c_okd (mt s) c := fun c hc hd => by
    have e := fun k (hk : k < 7) => mt_d (s := s) (c := c) (k := k) hd hc hk
    exact ⟨e 0 (by omega), e 1 (by omega), e 2 (by omega), e 3 (by omega), e 4 (by omega), e 5 (by omega), e 6 (by omega)⟩
  refine ⟨fun c hc => ?_, fun g hg => ?_, ?_, ?_, ?_, ?_, ?_, hdef 0 (by omega) (Or.inl rfl), fun c c1 c2 => ?_⟩
  · obtain ⟨i1, i2, i3⟩ := h2 c hc
    have hs := hsum c hc
    have hi := mt_i (s := s) hc
    by_cases hd : 1 ≤ c ∧ c ≤ s 0
    · obtain ⟨a0, a1, a2, a3, a4, a5, a6, a7, a8⟩ := h1 c hd.1 hd.2
      have e := fun k (hk : k < 7) => mt_f (s := s) (c := c) (k := k) hd.1 hd.2 hc hk
      have e0 := e 0 (by omega)
      have e1 := e 1 (by omega)
      have e2 := e 2 (by omega)
      have e3 := e 3 (by omega)
      have e4 := e 4 (by omega)
      have e5 := e 5 (by omega)
      have e6 := e 6 (by omega)
      rw [Nat.add_zero] at e0
      exact ⟨by omega, by omega, by omega, by omega, by omega, by omega, by omega, by omega, by omega, by omega, by omega, hs⟩
    · obtain ⟨e0, e1, e2, e3, e4, e5, e6⟩ := hdef c hc (by omega)
      exact ⟨by omega, by omega, by omega, by omega, by omega, by omega, by omega, by omega, by omega, by omega, by omega, hs⟩
  · have hg := h3 g hg
    unfold c_okg at hg ⊢
    rw [mt_h (by omega) (by omega), mt_h (by omega) (by omega), mt_h (by omega) (by omega), mt_h (by omega) (by omega), mt_h (by omega) (by omega), mt_h (by omega) (by omega), mt_h (by omega) (by omega), mt_h (by omega) (by omega)]
    exact hg
  · rw [mt_h (by omega) (by omega)]; exact h4
  · rw [mt_h (by omega) (by omega)]; exact h5
  · rw [mt_h (by omega) (by omega)]; exact h6
  · rw [mt_n]; omega
  · rw [mt_n]; omega
  · rw [mt_n] at c1
    exact ⟨hdef c c2 (by omega), by rw [mt_i c2]; exact (h2 c c2).2.2 (by omega)⟩
/-- rows that are the same at all places that count -/
theorem s_okc.congr {s s' : Nat → Nat} {c : Nat} (h : s_okc s c) (he : ∀ k, k < 7 → s' (1 + 8 * (c - 1) + k) = s (1 + 8 * (c - 1) + k)) : s_okc s' c := by
  unfold s_okc at h ⊢
  rw [he 0 (by omega), he 1 (by omega), he 2 (by omega), he 3 (by omega), he 4 (by omega), he 5 (by omega), he 6 (by omega)]
  exact h
theorem c_okg.congr {s s' : Nat → Nat} {g : Nat} (h : c_okg s g) (he : ∀ k, k < 7 → s' (83 + 7 * g + k) = s (83 + 7 * g + k)) (h81 : s 81 ≤ s' 81) : c_okg s' g := by
  unfold c_okg at h ⊢
  have e0 := he 0 (by omega)
  rw [Nat.add_zero] at e0
  rw [e0, he 1 (by omega), he 2 (by omega), he 3 (by omega), he 4 (by omega), he 5 (by omega), he 6 (by omega)]
  omega
section RL
variable {s : Nat → Nat} {K : Nat}
/-- a place behind the held shares -/
theorem mt_U {i v : Nat} (h1 : 80 ≤ i) (h2 : i < 153) : ∀ q, q < 154 → va_up (mt s) i v q = mt (va_up s i v) q := by
  have e0 : va_up s i v 0 = s 0 := va_up_ne _ _ (by omega)
  refine mt_of (fun c hc => ?_) (fun c k c1 c2 c3 hk => ?_) (fun c k hc hd hk => ?_) (fun q q1 q2 => ?_) ?_
  · rw [va_up_ne _ _ (by omega), mt_i hc, m_iss_ne (fun k hk => by omega)]
  · rw [e0] at c2
    rw [va_up_ne _ _ (by omega), mt_f c1 c2 c3 hk, va_up_ne _ _ (by omega)]
  · rw [e0] at hd
    rw [va_up_ne _ _ (by omega), mt_d hd hc hk]
  · by_cases e : q = i
    · subst e; rw [va_up_self, va_up_self]
    · rw [va_up_ne _ _ e, va_up_ne _ _ e, mt_h q1 q2]
  · rw [va_up_ne _ _ (by omega), mt_n, e0]
/-- held shares -/
theorem mt_H {c k v w : Nat} (hc : c < 5) (hk : k < 8) (hw : w + s (40 + 8 * c + k) = m_iss s c + v) : ∀ q, q < 154 → va_up (va_up (mt s) (40 + 8 * c + k) v) (8 * c + 7) w q = mt (va_up s (40 + 8 * c + k) v) q := by
  have e0 : va_up s (40 + 8 * c + k) v 0 = s 0 := va_up_ne _ _ (by omega)
  refine mt_of (fun a ha => ?_) (fun a m c1 c2 c3 hm => ?_) (fun a m ha hd hm => ?_) (fun q q1 q2 => ?_) ?_
  · by_cases e : a = c
    · subst e
      have := m_iss_up (s := s) (v := v) (c := a) hk
      rw [va_up_self]
      omega
    · rw [va_up_ne _ _ (by omega), va_up_ne _ _ (by omega), mt_i ha, m_iss_ne (fun k hk => by omega)]
  · rw [e0] at c2
    rw [va_up_ne _ _ (by omega), va_up_ne _ _ (by omega), mt_f c1 c2 c3 hm, va_up_ne _ _ (by omega)]
  · rw [e0] at hd
    rw [va_up_ne _ _ (by omega), va_up_ne _ _ (by omega), mt_d hd ha hm]
  · rw [va_up_ne _ _ (by omega)]
    by_cases e : q = 40 + 8 * c + k
    · subst e; rw [va_up_self, va_up_self]
    · rw [va_up_ne _ _ e, va_up_ne _ _ e, mt_h q1 q2]
  · rw [va_up_ne _ _ (by omega), va_up_ne _ _ (by omega), mt_n, e0]
theorem up_congr {t t' : Nat → Nat} {i v v' : Nat} (h : ∀ q, q < 154 → t q = t' q) (hv : v = v') : ∀ q, q < 154 → va_up t i v q = va_up t' i v' q := fun q hq => by
  subst hv
  by_cases e : q = i
  · subst e; rw [va_up_self, va_up_self]
  · rw [va_up_ne _ _ e, va_up_ne _ _ e, h q hq]
/-- a change of places behind 40 that keeps what is in issue within bounds -/
theorem s_ok.up {s' : Nat → Nat} {K' : Nat} (h : s_ok K s) (h1 : ∀ q, q < 40 → s' q = s q) (hm : ∀ c, c < 5 → m_iss s' c ≤ 20000 ∧ (1 ≤ c → m_iss s' c ≤ 5000) ∧ (s 0 < c → m_iss s' c = 0)) (hg : ∀ g, g < 10 → c_okg s' g) (h80 : s' 80 ≤ 5000) (h81 : s' 81 ≤ 60 * K') (h82 : s' 82 ≤ 10) : s_ok K' s' := by
  obtain ⟨g0, g1, g2, g3, g4, g5, g6⟩ := h
  have e0 := h1 0 (by omega)
  refine ⟨by omega, fun c c1 c2 => ?_, fun c hc => ?_, hg, h80, h81, h82⟩
  · exact (g1 c c1 (by omega)).congr (fun k hk => h1 _ (by omega))
  · rw [e0]; exact hm c hc
theorem s_pool {n : Nat} (h : s_ok K s) (hn : n ≤ 5000) : s_ok (K + 1) (va_up s 80 n) := by
  obtain ⟨g0, g1, g2, g3, g4, g5, g6⟩ := id h
  refine h.up (fun q hq => va_up_ne _ _ (by omega)) (fun c hc => ?_) (fun g hg => (g3 g hg).congr (fun k hk => va_up_ne _ _ (by omega)) (Nat.le_of_eq (va_up_ne _ _ (by omega)).symm)) ?_ ?_ ?_
  · rw [m_iss_ne (fun k hk => by omega)]; exact g2 c hc
  · rw [va_up_self]; exact hn
  · rw [va_up_ne _ _ (by omega)]; omega
  · rw [va_up_ne _ _ (by omega)]; exact g6
theorem s_pass {n : Nat} (h : s_ok K s) (hn : n ≤ 60) : s_ok (K + 1) (va_up s 81 (s 81 + n)) := by
  obtain ⟨g0, g1, g2, g3, g4, g5, g6⟩ := id h
  refine h.up (fun q hq => va_up_ne _ _ (by omega)) (fun c hc => ?_) (fun g hg => (g3 g hg).congr (fun k hk => va_up_ne _ _ (by omega)) (by rw [va_up_self]; omega)) ?_ ?_ ?_
  · rw [m_iss_ne (fun k hk => by omega)]; exact g2 c hc
  · rw [va_up_ne _ _ (by omega)]; exact g4
  · rw [va_up_self]; omega
  · rw [va_up_ne _ _ (by omega)]; exact g6
/-- held shares move -/
theorem s_held {c k v : Nat} (hc : c < 5) (hk : k < 8) (h : s_ok K s) (hb : m_iss (va_up s (40 + 8 * c + k) v) c ≤ 20000 ∧ (1 ≤ c → m_iss (va_up s (40 + 8 * c + k) v) c ≤ 5000) ∧ (s 0 < c → m_iss (va_up s (40 + 8 * c + k) v) c = 0)) : s_ok K (va_up s (40 + 8 * c + k) v) := by
  obtain ⟨g0, g1, g2, g3, g4, g5, g6⟩ := id h
  refine h.up (fun q hq => va_up_ne _ _ (by omega)) (fun a ha => ?_) (fun g hg => (g3 g hg).congr (fun m hm => va_up_ne _ _ (by omega)) (Nat.le_of_eq (va_up_ne _ _ (by omega)).symm)) ?_ ?_ ?_
  · by_cases e : a = c
    · subst e; exact hb
    · rw [m_iss_ne (fun m hm => by omega)]; exact g2 a ha
  · rw [va_up_ne _ _ (by omega)]; exact g4
  · rw [va_up_ne _ _ (by omega)]; omega
  · rw [va_up_ne _ _ (by omega)]; exact g6
end RL
