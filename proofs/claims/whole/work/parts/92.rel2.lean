/-! The changes themselves: transfer, convert, issue, preferred, grant, leave, exercise. -/
section R2
variable {s : Nat → Nat} {K : Nat}
theorem r_transfer {c f g n : Nat} (hc : c < 5) (hf : f < 8) (hg : g < 8) (hn : n ≤ s (40 + 8 * c + f)) : ∀ q, q < 154 → va_up (va_up (va_up (va_up (mt s) (40 + 8 * c + f) (mt s (40 + 8 * c + f) - n)) (8 * c + 7) (mt s (8 * c + 7) - n)) (40 + 8 * c + g) ((va_up (va_up (mt s) (40 + 8 * c + f) (mt s (40 + 8 * c + f) - n)) (8 * c + 7) (mt s (8 * c + 7) - n)) (40 + 8 * c + g) + n)) (8 * c + 7) ((va_up (va_up (mt s) (40 + 8 * c + f) (mt s (40 + 8 * c + f) - n)) (8 * c + 7) (mt s (8 * c + 7) - n)) (8 * c + 7) + n) q = mt (va_up (va_up s (40 + 8 * c + f) (s (40 + 8 * c + f) - n)) (40 + 8 * c + g) ((va_up s (40 + 8 * c + f) (s (40 + 8 * c + f) - n)) (40 + 8 * c + g) + n)) q := by
  have hge := m_iss_ge (s := s) (c := c) hf
  have h1 : ∀ q, q < 154 → va_up (va_up (mt s) (40 + 8 * c + f) (mt s (40 + 8 * c + f) - n)) (8 * c + 7) (mt s (8 * c + 7) - n) q = mt (va_up s (40 + 8 * c + f) (s (40 + 8 * c + f) - n)) q := fun q hq => by
    rw [← mt_H (s := s) (v := s (40 + 8 * c + f) - n) (w := m_iss s c - n) hc hf (by omega) q hq]
    exact up_congr (up_congr (fun _ _ => rfl) (by rw [mt_h (by omega) (by omega)])) (by rw [mt_i hc]) q hq
  intro q hq
  rw [← mt_H (s := va_up s (40 + 8 * c + f) (s (40 + 8 * c + f) - n)) (k := g) (v := (va_up s (40 + 8 * c + f) (s (40 + 8 * c + f) - n)) (40 + 8 * c + g) + n) (w := m_iss (va_up s (40 + 8 * c + f) (s (40 + 8 * c + f) - n)) c + n) hc hg (by omega) q hq]
  exact up_congr (up_congr h1 (by rw [h1 _ (by omega), mt_h (by omega) (by omega)])) (by rw [h1 _ (by omega), mt_i hc]) q hq
theorem s_transfer {c f g n : Nat} (h : s_ok K s) (hc : c < 5) (hf : f < 8) (hg : g < 8) (hn : n ≤ s (40 + 8 * c + f)) : s_ok (K + 1) (va_up (va_up s (40 + 8 * c + f) (s (40 + 8 * c + f) - n)) (40 + 8 * c + g) ((va_up s (40 + 8 * c + f) (s (40 + 8 * c + f) - n)) (40 + 8 * c + g) + n)) := by
  have hge := m_iss_ge (s := s) (c := c) hf
  obtain ⟨i1, i2, i3⟩ := h.2.2.1 c hc
  have u1 := m_iss_up (s := s) (v := s (40 + 8 * c + f) - n) (c := c) hf
  have k1 : s_ok K (va_up s (40 + 8 * c + f) (s (40 + 8 * c + f) - n)) := s_held hc hf h ⟨by omega, fun z => by have := i2 z; omega, fun z => by have := i3 z; omega⟩
  have e0 : va_up s (40 + 8 * c + f) (s (40 + 8 * c + f) - n) 0 = s 0 := va_up_ne _ _ (by omega)
  have u2 := m_iss_up (s := va_up s (40 + 8 * c + f) (s (40 + 8 * c + f) - n)) (v := (va_up s (40 + 8 * c + f) (s (40 + 8 * c + f) - n)) (40 + 8 * c + g) + n) (c := c) hg
  refine (s_held hc hg k1 ⟨by omega, fun z => by have := i2 z; omega, fun z => by rw [e0] at z; have := i3 z; omega⟩).more (by omega)
theorem r_cv {c n : Nat} (h1 : 1 ≤ c) (hc : c ≤ s 0) (h5 : c < 5) : n * 1000 * mt s (8 * c) / mt s (8 * c + 6) = m_cv s c n := by
  unfold m_cv
  rw [if_neg (by omega), ← mt_f h1 hc h5 (show 0 < 7 by omega), ← mt_f h1 hc h5 (show 6 < 7 by omega)]
  rfl
theorem r_convert {c k n v : Nat} (h1 : 1 ≤ c) (hc : c < 5) (hk : k < 8) (hn : n ≤ s (40 + 8 * c + k)) : ∀ q, q < 154 → va_up (va_up (va_up (va_up (mt s) (40 + 8 * c + k) (mt s (40 + 8 * c + k) - n)) (8 * c + 7) (mt s (8 * c + 7) - n)) (40 + 8 * 0 + k) ((va_up (va_up (mt s) (40 + 8 * c + k) (mt s (40 + 8 * c + k) - n)) (8 * c + 7) (mt s (8 * c + 7) - n)) (40 + 8 * 0 + k) + v)) (8 * 0 + 7) ((va_up (va_up (mt s) (40 + 8 * c + k) (mt s (40 + 8 * c + k) - n)) (8 * c + 7) (mt s (8 * c + 7) - n)) (8 * 0 + 7) + v) q = mt (va_up (va_up s (40 + 8 * c + k) (s (40 + 8 * c + k) - n)) (40 + k) ((va_up s (40 + 8 * c + k) (s (40 + 8 * c + k) - n)) (40 + k) + v)) q := by
  have hge := m_iss_ge (s := s) (c := c) hk
  have e1 : ∀ q, q < 154 → va_up (va_up (mt s) (40 + 8 * c + k) (mt s (40 + 8 * c + k) - n)) (8 * c + 7) (mt s (8 * c + 7) - n) q = mt (va_up s (40 + 8 * c + k) (s (40 + 8 * c + k) - n)) q := fun q hq => by
    rw [← mt_H (s := s) (v := s (40 + 8 * c + k) - n) (w := m_iss s c - n) hc hk (by omega) q hq]
    exact up_congr (up_congr (fun _ _ => rfl) (by rw [mt_h (by omega) (by omega)])) (by rw [mt_i hc]) q hq
  intro q hq
  have e2 := mt_H (s := va_up s (40 + 8 * c + k) (s (40 + 8 * c + k) - n)) (c := 0) (k := k) (v := (va_up s (40 + 8 * c + k) (s (40 + 8 * c + k) - n)) (40 + 8 * 0 + k) + v) (w := m_iss (va_up s (40 + 8 * c + k) (s (40 + 8 * c + k) - n)) 0 + v) (by omega) hk (by omega) q hq
  rw [show (40 + k) = 40 + 8 * 0 + k by omega, ← e2]
  exact up_congr (up_congr e1 (by rw [e1 _ (by omega), mt_h (by omega) (by omega)])) (by rw [e1 _ (by omega), mt_i (c := 0) (by omega)]) q hq
theorem s_convert {c k n v : Nat} (h : s_ok K s) (h1 : 1 ≤ c) (hc : c < 5) (hk : k < 8) (hn : n ≤ s (40 + 8 * c + k)) (hv : m_iss s 0 + v ≤ 20000) : s_ok (K + 1) (va_up (va_up s (40 + 8 * c + k) (s (40 + 8 * c + k) - n)) (40 + k) ((va_up s (40 + 8 * c + k) (s (40 + 8 * c + k) - n)) (40 + k) + v)) := by
  have hge := m_iss_ge (s := s) (c := c) hk
  obtain ⟨i1, i2, i3⟩ := h.2.2.1 c hc
  have u1 := m_iss_up (s := s) (v := s (40 + 8 * c + k) - n) (c := c) hk
  have k1 : s_ok K (va_up s (40 + 8 * c + k) (s (40 + 8 * c + k) - n)) := s_held hc hk h ⟨by omega, fun z => by have := i2 z; omega, fun z => by have := i3 z; omega⟩
  have e0 : m_iss (va_up s (40 + 8 * c + k) (s (40 + 8 * c + k) - n)) 0 = m_iss s 0 := m_iss_ne (fun m hm => by omega)
  have u2 := m_iss_up (s := va_up s (40 + 8 * c + k) (s (40 + 8 * c + k) - n)) (v := (va_up s (40 + 8 * c + k) (s (40 + 8 * c + k) - n)) (40 + 8 * 0 + k) + v) (c := 0) hk
  rw [show (40 + k) = 40 + 8 * 0 + k by omega]
  exact (s_held (by omega) hk k1 ⟨by omega, fun z => by omega, fun z => by omega⟩).more (by omega)
theorem r_all (h : s_ok K s) : sp_sm (c_ic (mt s)) 5 = sp_sm (fun c => m_cv s c (m_iss s c)) (s 0 + 1) := by
  have ok := h.ok
  have h0 := h.1
  rw [sp_sm_tail (f := c_ic (mt s)) (n := s 0 + 1) (fun c c1 c2 => by unfold c_ic; rw [mt_out ok (by omega) c2]; simp) (by omega)]
  exact sp_sm_congr (fun c hc => (mt_ic ok (by omega)).symm)
theorem m_ag0 {c n p k : Nat} : m_ag s c n p k 0 = s 0 := by unfold m_ag; rw [if_neg (by omega)]
theorem r_guards {c n p : Nat} (h : s_ok K s) : ∀ q, q < 154 → c_ag (mt s) c n p 5 q = mt (m_ag s c n p (s 0 + 1)) q := by
  have ok := h.ok
  have h0 := h.1
  have hm : ∀ a, a < 5 → m_iss (m_ag s c n p (s 0 + 1)) a = m_iss s a := fun a ha => m_iss_congr (fun k hk => m_ag_out (by omega) (by omega))
  refine mt_of (fun a ha => ?_) (fun a k c1 c2 c3 hk => ?_) (fun a k ha hd hk => ?_) (fun q q1 q2 => ?_) ?_
  · rw [hm a ha, ← mt_i (s := s) ha]
    unfold c_ag
    rw [if_neg (by omega)]
  · rw [m_ag0] at c2
    unfold c_ag m_ag
    by_cases e6 : k = 6
    · subst e6
      rw [if_pos (show 1 ≤ 1 + 8 * (a - 1) + 6 ∧ 1 + 8 * (a - 1) + 6 < 1 + 8 * (s 0 + 1 - 1) ∧ (1 + 8 * (a - 1) + 6 - 1) % 8 = 6 by omega), show (1 + 8 * (a - 1) + 6 - 1) / 8 + 1 = a by omega]
      unfold m_gp
      by_cases ec : a = c
      · rw [if_neg (by omega), if_pos ec, mt_f c1 c2 c3 (by omega)]
      · rw [if_pos (by omega), if_neg ec, r_all h, show 8 * a + 6 + 1 = 8 * a + 7 by omega, show 8 * a + 6 - 1 = 8 * a + 5 by omega, mt_i c3, mt_f c1 c2 c3 (by omega), mt_f c1 c2 c3 (by omega)]
    · rw [if_neg (by omega), if_neg (by omega), mt_f c1 c2 c3 hk]
  · rw [m_ag0] at hd
    rw [← mt_d (s := s) hd ha hk]
    unfold c_ag
    split
    · rename_i z
      have ea : (8 * a + k) / 8 = a := by omega
      rw [show 8 * a + k + 1 = 8 * a + 7 by omega, mt_out ok (by omega) ha]
      unfold g_p
      rw [if_pos (Or.inl rfl)]
    · rfl
  · rw [m_ag_out q1 (by omega), ← mt_h (s := s) q1 q2]
    unfold c_ag
    rw [if_neg (by omega)]
  · rw [m_ag0, ← mt_n (s := s)]
    unfold c_ag
    rw [if_neg (by omega)]
theorem s_guards {c n p : Nat} (h : s_ok K s) (n1 : 1 ≤ n) (p1 : 1 ≤ p) : s_ok K (m_ag s c n p (s 0 + 1)) := by
  obtain ⟨g0, g1, g2, g3, g4, g5, g6⟩ := id h
  have hm : ∀ a, a < 5 → m_iss (m_ag s c n p (s 0 + 1)) a = m_iss s a := fun a ha => m_iss_congr (fun k hk => m_ag_out (by omega) (by omega))
  refine ⟨by rw [m_ag0]; exact g0, fun a a1 a2 => ?_, fun a ha => ?_, fun g hg => (g3 g hg).congr (fun k hk => m_ag_out (by omega) (by omega)) (Nat.le_of_eq (m_ag_out (by omega) (by omega)).symm), ?_, ?_, ?_⟩
  · rw [m_ag0] at a2
    obtain ⟨b0, b1, b2, b3, b4, b5, b6, b7, b8⟩ := g1 a a1 a2
    have e : ∀ k, k < 6 → m_ag s c n p (s 0 + 1) (1 + 8 * (a - 1) + k) = s (1 + 8 * (a - 1) + k) := fun k hk => by
      unfold m_ag
      rw [if_neg (by omega)]
    have e6 : m_ag s c n p (s 0 + 1) (1 + 8 * (a - 1) + 6) = m_gp s c n p a := by
      unfold m_ag
      rw [if_pos (by omega), show (1 + 8 * (a - 1) + 6 - 1) / 8 + 1 = a by omega]
    have e7 : 1000 ≤ m_gp s c n p a ∧ m_gp s c n p a ≤ s (1 + 8 * (a - 1) + 6) := by
      unfold m_gp
      split
      · exact ⟨b7, Nat.le_refl _⟩
      · exact ⟨g_p_ge (by omega) p1 b7, g_p_le (by omega)⟩
    unfold s_okc
    rw [e 0 (by omega), e 1 (by omega), e 2 (by omega), e 3 (by omega), e 4 (by omega), e 5 (by omega), e6]
    exact ⟨b0, b1, b2, b3, b4, b5, b6, e7.1, by omega⟩
  · rw [hm a ha, m_ag0]; exact g2 a ha
  · rw [m_ag_out (by omega) (by omega)]; exact g4
  · rw [m_ag_out (by omega) (by omega)]; exact g5
  · rw [m_ag_out (by omega) (by omega)]; exact g6
theorem r_issue {c k n p : Nat} (h : s_ok K s) (hc : c < 5) (hk : k < 8) : ∀ q, q < 154 → va_up (va_up (c_ag (mt s) c n p 5) (40 + 8 * c + k) (c_ag (mt s) c n p 5 (40 + 8 * c + k) + n)) (8 * c + 7) (c_ag (mt s) c n p 5 (8 * c + 7) + n) q = mt (va_up (m_ag s c n p (s 0 + 1)) (40 + 8 * c + k) (s (40 + 8 * c + k) + n)) q := by
  have h0 := h.1
  have e1 := r_guards (c := c) (n := n) (p := p) h
  have eo : m_ag s c n p (s 0 + 1) (40 + 8 * c + k) = s (40 + 8 * c + k) := m_ag_out (by omega) (by omega)
  intro q hq
  rw [← mt_H (s := m_ag s c n p (s 0 + 1)) (v := s (40 + 8 * c + k) + n) (w := m_iss (m_ag s c n p (s 0 + 1)) c + n) hc hk (by omega) q hq]
  exact up_congr (up_congr e1 (by rw [e1 _ (by omega), mt_h (by omega) (by omega), eo])) (by rw [e1 _ (by omega), mt_i hc]) q hq
theorem s_issue {c k n p : Nat} (h : s_ok K s) (hc : c ≤ s 0) (hk : k < 8) (n1 : 1 ≤ n) (p1 : 1 ≤ p) (h5 : m_iss s c + n ≤ 5000) : s_ok (K + 1) (va_up (m_ag s c n p (s 0 + 1)) (40 + 8 * c + k) (s (40 + 8 * c + k) + n)) ∧ m_iss (va_up (m_ag s c n p (s 0 + 1)) (40 + 8 * c + k) (s (40 + 8 * c + k) + n)) c = m_iss s c + n := by
  have h0 := h.1
  have k1 := s_guards (c := c) (p := p) h n1 p1
  have eo : m_ag s c n p (s 0 + 1) (40 + 8 * c + k) = s (40 + 8 * c + k) := m_ag_out (by omega) (by omega)
  have hm : m_iss (m_ag s c n p (s 0 + 1)) c = m_iss s c := m_iss_congr (fun k hk => m_ag_out (by omega) (by omega))
  have u := m_iss_up (s := m_ag s c n p (s 0 + 1)) (v := s (40 + 8 * c + k) + n) (c := c) hk
  rw [eo] at u
  exact ⟨(s_held (by omega) hk k1 ⟨by omega, fun _ => by omega, fun z => by rw [m_ag0] at z; omega⟩).more (by omega), by omega⟩
theorem r_preferred {p0 p1 p2 p3 p4 p5 p6 : Nat} (h : s_ok K s) (h4 : s 0 < 4) : ∀ q, q < 154 → va_up (va_up (va_up (va_up (va_up (va_up (va_up (va_up (mt s) 153 (mt s 153 + 1)) (8 * (mt s 153) + 0) p0) (8 * (mt s 153) + 1) p1) (8 * (mt s 153) + 2) p2) (8 * (mt s 153) + 3) p3) (8 * (mt s 153) + 4) p4) (8 * (mt s 153) + 5) p5) (8 * (mt s 153) + 6) p6 q = mt (va_up (va_up (va_up (va_up (va_up (va_up (va_up (va_up s 0 (s 0 + 1)) (1 + 8 * s 0 + 0) p0) (1 + 8 * s 0 + 1) p1) (1 + 8 * s 0 + 2) p2) (1 + 8 * s 0 + 3) p3) (1 + 8 * s 0 + 4) p4) (1 + 8 * s 0 + 5) p5) (1 + 8 * s 0 + 6) p6) q := by
  rw [mt_n]
  have e0 : (va_up (va_up (va_up (va_up (va_up (va_up (va_up (va_up s 0 (s 0 + 1)) (1 + 8 * s 0 + 0) p0) (1 + 8 * s 0 + 1) p1) (1 + 8 * s 0 + 2) p2) (1 + 8 * s 0 + 3) p3) (1 + 8 * s 0 + 4) p4) (1 + 8 * s 0 + 5) p5) (1 + 8 * s 0 + 6) p6) 0 = s 0 + 1 := by
    repeat rw [va_up_ne _ _ (by omega)]
    rw [va_up_self]
  refine mt_of (fun a ha => ?_) (fun a k c1 c2 c3 hk => ?_) (fun a k ha hd hk => ?_) (fun q q1 q2 => ?_) ?_
  · rw [va_up_ne _ _ (by omega), va_up_ne _ _ (by omega), va_up_ne _ _ (by omega), va_up_ne _ _ (by omega), va_up_ne _ _ (by omega), va_up_ne _ _ (by omega), va_up_ne _ _ (by omega), va_up_ne _ _ (by omega), mt_i ha]
    repeat rw [m_iss_ne (fun k hk => by omega)]
  · rw [e0] at c2
    by_cases e : a = s 0 + 1
    · subst e
      rw [show s 0 + 1 - 1 = s 0 by omega]
      have : k = 0 ∨ k = 1 ∨ k = 2 ∨ k = 3 ∨ k = 4 ∨ k = 5 ∨ k = 6 := by omega
      rcases this with rfl | rfl | rfl | rfl | rfl | rfl | rfl
      all_goals
        repeat (first | rw [va_up_self] | rw [va_up_ne _ _ (by omega)])
    · rw [va_up_ne _ _ (by omega), va_up_ne _ _ (by omega), va_up_ne _ _ (by omega), va_up_ne _ _ (by omega), va_up_ne _ _ (by omega), va_up_ne _ _ (by omega), va_up_ne _ _ (by omega), va_up_ne _ _ (by omega), mt_f c1 (by omega) c3 hk]
      repeat rw [va_up_ne _ _ (by omega)]
  · rw [e0] at hd
    rw [va_up_ne _ _ (by omega), va_up_ne _ _ (by omega), va_up_ne _ _ (by omega), va_up_ne _ _ (by omega), va_up_ne _ _ (by omega), va_up_ne _ _ (by omega), va_up_ne _ _ (by omega), va_up_ne _ _ (by omega), mt_d (by omega) ha hk]
  · rw [va_up_ne _ _ (by omega), va_up_ne _ _ (by omega), va_up_ne _ _ (by omega), va_up_ne _ _ (by omega), va_up_ne _ _ (by omega), va_up_ne _ _ (by omega), va_up_ne _ _ (by omega), va_up_ne _ _ (by omega), mt_h q1 q2]
    repeat rw [va_up_ne _ _ (by omega)]
  · rw [e0]
    repeat rw [va_up_ne _ _ (by omega)]
    rw [va_up_self]
theorem s_preferred {p0 p1 p2 p3 p4 p5 : Nat} (h : s_ok K s) (h4 : s 0 < 4) (l0 : 1 ≤ p0) (u0 : p0 ≤ 1000) (u1 : p1 ≤ 300) (u2 : p2 ≤ 3) (u3 : p3 ≤ 2) (u4 : p4 ≤ 900) (u5 : p5 ≤ 2) : s_ok (K + 1) (va_up (va_up (va_up (va_up (va_up (va_up (va_up (va_up s 0 (s 0 + 1)) (1 + 8 * s 0 + 0) p0) (1 + 8 * s 0 + 1) p1) (1 + 8 * s 0 + 2) p2) (1 + 8 * s 0 + 3) p3) (1 + 8 * s 0 + 4) p4) (1 + 8 * s 0 + 5) p5) (1 + 8 * s 0 + 6) (1000 * p0)) := by
  obtain ⟨g0, g1, g2, g3, g4, g5, g6⟩ := id h
  generalize hS : va_up (va_up (va_up (va_up (va_up (va_up (va_up (va_up s 0 (s 0 + 1)) (1 + 8 * s 0 + 0) p0) (1 + 8 * s 0 + 1) p1) (1 + 8 * s 0 + 2) p2) (1 + 8 * s 0 + 3) p3) (1 + 8 * s 0 + 4) p4) (1 + 8 * s 0 + 5) p5) (1 + 8 * s 0 + 6) (1000 * p0) = S
  have e0 : S 0 = s 0 + 1 := by
    rw [← hS]
    repeat rw [va_up_ne _ _ (by omega)]
    rw [va_up_self]
  have eo : ∀ q, q ≠ 0 → (q < 1 + 8 * s 0 ∨ 1 + 8 * s 0 + 7 ≤ q) → S q = s q := fun q q0 q1 => by
    rw [← hS]
    repeat rw [va_up_ne _ _ (by omega)]
  have hm : ∀ a, a < 5 → m_iss S a = m_iss s a := fun a ha => m_iss_congr (fun k hk => eo _ (by omega) (by omega))
  refine ⟨by omega, fun a a1 a2 => ?_, fun a ha => ?_, fun g hg => (g3 g hg).congr (fun k hk => eo _ (by omega) (by omega)) (Nat.le_of_eq (eo _ (by omega) (by omega)).symm), ?_, ?_, ?_⟩
  · by_cases e : a = s 0 + 1
    · subst e
      unfold s_okc
      rw [show s 0 + 1 - 1 = s 0 by omega]
      have f6 : S (1 + 8 * s 0 + 6) = 1000 * p0 := by rw [← hS, va_up_self]
      have f5 : S (1 + 8 * s 0 + 5) = p5 := by rw [← hS, va_up_ne _ _ (by omega), va_up_self]
      have f4 : S (1 + 8 * s 0 + 4) = p4 := by rw [← hS, va_up_ne _ _ (by omega), va_up_ne _ _ (by omega), va_up_self]
      have f3 : S (1 + 8 * s 0 + 3) = p3 := by rw [← hS, va_up_ne _ _ (by omega), va_up_ne _ _ (by omega), va_up_ne _ _ (by omega), va_up_self]
      have f2 : S (1 + 8 * s 0 + 2) = p2 := by rw [← hS, va_up_ne _ _ (by omega), va_up_ne _ _ (by omega), va_up_ne _ _ (by omega), va_up_ne _ _ (by omega), va_up_self]
      have f1 : S (1 + 8 * s 0 + 1) = p1 := by rw [← hS, va_up_ne _ _ (by omega), va_up_ne _ _ (by omega), va_up_ne _ _ (by omega), va_up_ne _ _ (by omega), va_up_ne _ _ (by omega), va_up_self]
      have f0 : S (1 + 8 * s 0 + 0) = p0 := by rw [← hS, va_up_ne _ _ (by omega), va_up_ne _ _ (by omega), va_up_ne _ _ (by omega), va_up_ne _ _ (by omega), va_up_ne _ _ (by omega), va_up_ne _ _ (by omega), va_up_self]
      omega
    · exact (g1 a a1 (by omega)).congr (fun k hk => eo _ (by omega) (by omega))
  · rw [hm a ha]
    obtain ⟨i1, i2, i3⟩ := g2 a ha
    exact ⟨i1, i2, fun z => i3 (by omega)⟩
  · rw [eo 80 (by omega) (by omega)]; exact g4
  · rw [eo 81 (by omega) (by omega)]; omega
  · rw [eo 82 (by omega) (by omega)]; exact g6
/-- changes behind place 80 -/
theorem mt_tail {S T : Nat → Nat} (h1 : ∀ q, q < 80 → S q = s q) (h2 : ∀ q, q < 80 → T q = mt s q) (h3 : T 153 = mt s 153) (h4 : ∀ q, 80 ≤ q → q < 153 → T q = S q) : ∀ q, q < 154 → T q = mt S q := by
  have e0 := h1 0 (by omega)
  refine mt_of (fun a ha => ?_) (fun a k c1 c2 c3 hk => ?_) (fun a k ha hd hk => ?_) (fun q q1 q2 => ?_) ?_
  · rw [h2 _ (by omega), mt_i ha, m_iss_congr (fun k hk => (h1 _ (by omega)).symm)]
  · rw [h2 _ (by omega), mt_f c1 (by omega) c3 hk, h1 _ (by omega)]
  · rw [h2 _ (by omega), mt_d (by omega) ha hk]
  · by_cases e : q < 80
    · rw [h2 q e, h1 q e, mt_h q1 q2]
    · exact h4 q (by omega) q2
  · rw [h3, mt_n, e0]
theorem s_tail {S : Nat → Nat} (h : s_ok K s) (h1 : ∀ q, q < 80 → S q = s q) (hg : ∀ g, g < 10 → c_okg S g) (h80 : S 80 ≤ 5000) (h81 : S 81 ≤ 60 * (K + 1)) (h82 : S 82 ≤ 10) : s_ok (K + 1) S := by
  obtain ⟨g0, g1, g2, g3, g4, g5, g6⟩ := id h
  exact h.up (fun q hq => h1 q (by omega)) (fun c hc => by rw [m_iss_congr (s := S) (s' := s) (fun k hk => h1 _ (by omega))]; exact g2 c hc) hg h80 h81 h82
theorem r_vg {g : Nat} (hg : g < 10) : c_vg (mt s) g = c_vg s g := by
  unfold c_vg
  rw [mt_h (by omega) (by omega), mt_h (by omega) (by omega), mt_h (by omega) (by omega), mt_h (by omega) (by omega), mt_h (by omega) (by omega), mt_h (by omega) (by omega)]
theorem r_leave {k : Nat} (h : s_ok K s) : ∀ q, q < 154 → c_eg (mt s) k (mt s 82) q = mt (c_eg s k (s 82)) q := by
  have h82 := h.2.2.2.2.2.2
  rw [mt_h (s := s) (q := 82) (by omega) (by omega)]
  refine mt_tail (s := s) (fun q hq => by unfold c_eg; rw [if_neg (by omega)]) (fun q hq => by unfold c_eg; rw [if_neg (by omega)]) (by unfold c_eg; rw [if_neg (by omega)]) (fun q q1 q2 => ?_)
  unfold c_eg
  by_cases e : 83 ≤ q ∧ q < 83 + 7 * s 82
  · rw [mt_h (s := s) (q := 83 + 7 * ((q - 83) / 7)) (by omega) (by omega), mt_h (s := s) (q := q) (by omega) (by omega), r_vg (by omega)]
  · rw [if_neg (fun z => e ⟨z.1, z.2.1⟩), if_neg (fun z => e ⟨z.1, z.2.1⟩), mt_h (by omega) q2]
theorem s_leave {k : Nat} (h : s_ok K s) : s_ok (K + 1) (c_eg s k (s 82)) := by
  obtain ⟨g0, g1, g2, g3, g4, g5, g6⟩ := id h
  have eo : ∀ q, q < 83 → c_eg s k (s 82) q = s q := fun q hq => by unfold c_eg; rw [if_neg (by omega)]
  refine s_tail h (fun q hq => eo q (by omega)) (fun g hg => ?_) (by rw [eo 80 (by omega)]; exact g4) (by rw [eo 81 (by omega)]; omega) (by rw [eo 82 (by omega)]; exact g6)
  have hgg := g3 g hg
  by_cases e : g < s 82 ∧ s (83 + 7 * g) = k
  · have f : ∀ m, m < 7 → c_eg s k (s 82) (83 + 7 * g + m) = if m = 1 then c_vg s g else if m = 5 then 1 else s (83 + 7 * g + m) := fun m hm => by
      unfold c_eg
      rw [show (83 + 7 * g + m - 83) / 7 = g by omega, show (83 + 7 * g + m - 83) % 7 = m by omega, if_pos ⟨by omega, by omega, e.2⟩]
    have f0 := f 0 (by omega)
    have f1 := f 1 (by omega)
    have f2 := f 2 (by omega)
    have f3 := f 3 (by omega)
    have f4 := f 4 (by omega)
    have f5 := f 5 (by omega)
    have f6 := f 6 (by omega)
    rw [if_neg (by omega), if_neg (by omega), Nat.add_zero] at f0
    rw [if_pos rfl] at f1
    rw [if_neg (by omega), if_neg (by omega)] at f2 f3 f4 f6
    rw [if_neg (by omega), if_pos rfl] at f5
    have hv : c_vg s g ≤ s (83 + 7 * g + 1) := g_v_le _ _ _ _ _
    have e81 := eo 81 (by omega)
    unfold c_okg at hgg ⊢
    omega
  · refine hgg.congr (fun m hm => ?_) (Nat.le_of_eq (eo 81 (by omega)).symm)
    unfold c_eg
    rw [show (83 + 7 * g + m - 83) / 7 = g by omega, if_neg (fun z => e ⟨by omega, z.2.2⟩)]
theorem r_exercise {g n hh : Nat} (h : s_ok K s) (hg : g < 10) (hH : s (83 + 7 * g) = hh) : ∀ q, q < 154 → va_up (va_up (va_up (mt s) (83 + 7 * g + 6) (mt s (83 + 7 * g + 6) + n)) (40 + 8 * 0 + mt s (83 + 7 * g)) ((va_up (mt s) (83 + 7 * g + 6) (mt s (83 + 7 * g + 6) + n)) (40 + 8 * 0 + mt s (83 + 7 * g)) + n)) (8 * 0 + 7) ((va_up (mt s) (83 + 7 * g + 6) (mt s (83 + 7 * g + 6) + n)) (8 * 0 + 7) + n) q = mt (va_up (va_up s (83 + 7 * g + 6) (s (83 + 7 * g + 6) + n)) (40 + s (83 + 7 * g + 0)) (s (40 + s (83 + 7 * g + 0)) + n)) q := by
  obtain ⟨a0, a1, a2, a3, a4, a5, a6⟩ := h.2.2.2.1 g hg
  have e1 : ∀ q, q < 154 → va_up (mt s) (83 + 7 * g + 6) (mt s (83 + 7 * g + 6) + n) q = mt (va_up s (83 + 7 * g + 6) (s (83 + 7 * g + 6) + n)) q := by
    rw [mt_h (s := s) (q := 83 + 7 * g + 6) (by omega) (by omega)]
    exact mt_U (by omega) (by omega)
  rw [mt_h (s := s) (q := 83 + 7 * g) (by omega) (by omega), show 83 + 7 * g + 0 = 83 + 7 * g from rfl, hH]
  intro q hq
  have e2 := mt_H (s := va_up s (83 + 7 * g + 6) (s (83 + 7 * g + 6) + n)) (c := 0) (k := hh) (v := s (40 + hh) + n) (w := m_iss (va_up s (83 + 7 * g + 6) (s (83 + 7 * g + 6) + n)) 0 + n) (by omega) (by omega) (by rw [va_up_ne _ _ (by omega), show 40 + 8 * 0 + hh = 40 + hh by omega]; omega) q hq
  rw [show (40 + hh) = 40 + 8 * 0 + hh by omega] at e2 ⊢
  rw [← e2]
  exact up_congr (up_congr e1 (by rw [e1 _ (by omega), mt_h (by omega) (by omega), va_up_ne _ _ (by omega)])) (by rw [e1 _ (by omega), mt_i (c := 0) (by omega)]) q hq
theorem s_exercise {g n : Nat} (h : s_ok K s) (hg : g < 10) (hn : s (83 + 7 * g + 6) + n ≤ 2000) (h20 : m_iss s 0 + n ≤ 20000) : s_ok (K + 1) (va_up (va_up s (83 + 7 * g + 6) (s (83 + 7 * g + 6) + n)) (40 + s (83 + 7 * g + 0)) (s (40 + s (83 + 7 * g + 0)) + n)) := by
  obtain ⟨g0, g1, g2, g3, g4, g5, g6⟩ := id h
  obtain ⟨a0, a1, a2, a3, a4, a5, a6⟩ := g3 g hg
  rw [Nat.add_zero]
  have k1 : s_ok K (va_up s (83 + 7 * g + 6) (s (83 + 7 * g + 6) + n)) := by
    refine h.up (fun q hq => va_up_ne _ _ (by omega)) (fun c hc => ?_) (fun e he => ?_) ?_ ?_ ?_
    · rw [m_iss_ne (fun k hk => by omega)]; exact g2 c hc
    · by_cases ee : e = g
      · subst ee
        unfold c_okg
        rw [va_up_ne _ _ (by omega), va_up_ne _ _ (by omega), va_up_ne _ _ (by omega), va_up_ne _ _ (by omega), va_up_ne _ _ (by omega), va_up_ne _ _ (by omega), va_up_ne _ _ (by omega), va_up_self]
        omega
      · exact (g3 e he).congr (fun k hk => va_up_ne _ _ (by omega)) (Nat.le_of_eq (va_up_ne _ _ (by omega)).symm)
    · rw [va_up_ne _ _ (by omega)]; exact g4
    · rw [va_up_ne _ _ (by omega)]; exact g5
    · rw [va_up_ne _ _ (by omega)]; exact g6
  have e0 : m_iss (va_up s (83 + 7 * g + 6) (s (83 + 7 * g + 6) + n)) 0 = m_iss s 0 := m_iss_ne (fun m hm => by omega)
  have u := m_iss_up (s := va_up s (83 + 7 * g + 6) (s (83 + 7 * g + 6) + n)) (v := s (40 + s (83 + 7 * g)) + n) (c := 0) (k := s (83 + 7 * g)) (by omega)
  rw [va_up_ne _ _ (by omega), show 40 + 8 * 0 + s (83 + 7 * g) = 40 + s (83 + 7 * g) by omega] at u
  have k2 := s_held (c := 0) (k := s (83 + 7 * g)) (v := s (40 + s (83 + 7 * g)) + n) (by omega) (by omega) k1 (by rw [show 40 + 8 * 0 + s (83 + 7 * g) = 40 + s (83 + 7 * g) by omega]; exact ⟨by omega, fun z => by omega, fun z => by omega⟩)
  rw [show 40 + 8 * 0 + s (83 + 7 * g) = 40 + s (83 + 7 * g) by omega] at k2
  exact k2.more (by omega)
theorem r_grant {k n cl ln : Nat} (hg : s 82 < 10) : ∀ q, q < 154 → va_up (va_up (va_up (va_up (va_up (va_up (va_up (va_up (mt s) 82 (mt s 82 + 1)) (83 + 7 * (mt s 82) + 0) k) (83 + 7 * (mt s 82) + 1) n) (83 + 7 * (mt s 82) + 4) (mt s 81)) (83 + 7 * (mt s 82) + 2) cl) (83 + 7 * (mt s 82) + 3) ln) (83 + 7 * (mt s 82) + 6) 0) (83 + 7 * (mt s 82) + 5) 0 q = mt (va_up (va_up (va_up (va_up (va_up (va_up (va_up (va_up s 82 (s 82 + 1)) (83 + 7 * s 82 + 0) k) (83 + 7 * s 82 + 1) n) (83 + 7 * s 82 + 2) cl) (83 + 7 * s 82 + 3) ln) (83 + 7 * s 82 + 4) ((va_up (va_up (va_up (va_up (va_up s 82 (s 82 + 1)) (83 + 7 * s 82 + 0) k) (83 + 7 * s 82 + 1) n) (83 + 7 * s 82 + 2) cl) (83 + 7 * s 82 + 3) ln) 81)) (83 + 7 * s 82 + 5) 0) (83 + 7 * s 82 + 6) 0) q := by
  have e81 : (va_up (va_up (va_up (va_up (va_up s 82 (s 82 + 1)) (83 + 7 * s 82 + 0) k) (83 + 7 * s 82 + 1) n) (83 + 7 * s 82 + 2) cl) (83 + 7 * s 82 + 3) ln) 81 = s 81 := by repeat rw [va_up_ne _ _ (by omega)]
  rw [e81, mt_h (s := s) (q := 82) (by omega) (by omega), mt_h (s := s) (q := 81) (by omega) (by omega)]
  refine mt_tail (s := s) (fun q hq => by repeat rw [va_up_ne _ _ (by omega)]) (fun q hq => by repeat rw [va_up_ne _ _ (by omega)]) (by repeat rw [va_up_ne _ _ (by omega)]) (fun q q1 q2 => ?_)
  by_cases e : q = 82 ∨ q = 83 + 7 * s 82 + 0 ∨ q = 83 + 7 * s 82 + 1 ∨ q = 83 + 7 * s 82 + 2 ∨ q = 83 + 7 * s 82 + 3 ∨ q = 83 + 7 * s 82 + 4 ∨ q = 83 + 7 * s 82 + 5 ∨ q = 83 + 7 * s 82 + 6
  · rcases e with rfl | rfl | rfl | rfl | rfl | rfl | rfl | rfl
    all_goals
      repeat (first | rw [va_up_self] | rw [va_up_ne _ _ (by omega)])
  · rw [va_up_ne _ _ (by omega), va_up_ne _ _ (by omega), va_up_ne _ _ (by omega), va_up_ne _ _ (by omega), va_up_ne _ _ (by omega), va_up_ne _ _ (by omega), va_up_ne _ _ (by omega), va_up_ne _ _ (by omega), mt_h (by omega) q2]
    repeat rw [va_up_ne _ _ (by omega)]
theorem s_grant {k n cl ln : Nat} (h : s_ok K s) (hg : s 82 < 10) (hk : k < 8) (n2 : n ≤ 2000) (c2 : cl ≤ 60) (l2 : ln ≤ 60) : s_ok (K + 1) (va_up (va_up (va_up (va_up (va_up (va_up (va_up (va_up s 82 (s 82 + 1)) (83 + 7 * s 82 + 0) k) (83 + 7 * s 82 + 1) n) (83 + 7 * s 82 + 2) cl) (83 + 7 * s 82 + 3) ln) (83 + 7 * s 82 + 4) ((va_up (va_up (va_up (va_up (va_up s 82 (s 82 + 1)) (83 + 7 * s 82 + 0) k) (83 + 7 * s 82 + 1) n) (83 + 7 * s 82 + 2) cl) (83 + 7 * s 82 + 3) ln) 81)) (83 + 7 * s 82 + 5) 0) (83 + 7 * s 82 + 6) 0) := by
  obtain ⟨g0, g1, g2, g3, g4, g5, g6⟩ := id h
  have e81 : (va_up (va_up (va_up (va_up (va_up s 82 (s 82 + 1)) (83 + 7 * s 82 + 0) k) (83 + 7 * s 82 + 1) n) (83 + 7 * s 82 + 2) cl) (83 + 7 * s 82 + 3) ln) 81 = s 81 := by repeat rw [va_up_ne _ _ (by omega)]
  rw [e81]
  generalize hS : va_up (va_up (va_up (va_up (va_up (va_up (va_up (va_up s 82 (s 82 + 1)) (83 + 7 * s 82 + 0) k) (83 + 7 * s 82 + 1) n) (83 + 7 * s 82 + 2) cl) (83 + 7 * s 82 + 3) ln) (83 + 7 * s 82 + 4) (s 81)) (83 + 7 * s 82 + 5) 0) (83 + 7 * s 82 + 6) 0 = S
  have eo : ∀ q, q ≠ 82 → (q < 83 + 7 * s 82 ∨ 83 + 7 * s 82 + 7 ≤ q) → S q = s q := fun q q0 q1 => by
    rw [← hS]
    repeat rw [va_up_ne _ _ (by omega)]
  have e82 : S 82 = s 82 + 1 := by
    rw [← hS]
    repeat rw [va_up_ne _ _ (by omega)]
    rw [va_up_self]
  have f : ∀ m, m < 7 → S (83 + 7 * s 82 + m) = if m = 0 then k else if m = 1 then n else if m = 2 then cl else if m = 3 then ln else if m = 4 then s 81 else 0 := fun m hm => by
    rw [← hS]
    have : m = 0 ∨ m = 1 ∨ m = 2 ∨ m = 3 ∨ m = 4 ∨ m = 5 ∨ m = 6 := by omega
    rcases this with rfl | rfl | rfl | rfl | rfl | rfl | rfl
    all_goals
      repeat (first | rw [va_up_self] | rw [va_up_ne _ _ (by omega)])
    all_goals rfl
  refine s_tail h (fun q hq => eo q (by omega) (by omega)) (fun g hgg => ?_) (by rw [eo 80 (by omega) (by omega)]; exact g4) (by rw [eo 81 (by omega) (by omega)]; omega) (by omega)
  by_cases e : g = s 82
  · subst e
    have f0 : S (83 + 7 * s 82) = k := f 0 (by omega)
    have f1 : S (83 + 7 * s 82 + 1) = n := f 1 (by omega)
    have f2 : S (83 + 7 * s 82 + 2) = cl := f 2 (by omega)
    have f3 : S (83 + 7 * s 82 + 3) = ln := f 3 (by omega)
    have f4 : S (83 + 7 * s 82 + 4) = s 81 := f 4 (by omega)
    have f5 : S (83 + 7 * s 82 + 5) = 0 := f 5 (by omega)
    have f6 : S (83 + 7 * s 82 + 6) = 0 := f 6 (by omega)
    have f8 := eo 81 (by omega) (by omega)
    unfold c_okg
    omega
  · exact (g3 g hgg).congr (fun m hm => eo _ (by omega) (by omega)) (Nat.le_of_eq (eo 81 (by omega) (by omega)).symm)
end R2
