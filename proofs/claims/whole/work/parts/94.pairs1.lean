/-! The twenty calls: class and reference come out alike (rows by prog/pairs.py). -/
section P94
variable {K kn nx : Nat} {s : Nat → Nat} {f : Nat → Int32} {ks hs : Nat → Nat → Nat}
theorem r_gn (h : s_ok K s) : sp_sm (fun g => mt s (83 + 7 * g + 1)) (mt s 82) = sp_sm (fun g => s (83 + 7 * g + 1)) (s 82) := by
  have h82 := h.2.2.2.2.2.2
  rw [mt_h (s := s) (q := 82) (by omega) (by omega)]
  exact sp_sm_congr (fun g hg => mt_h (by omega) (by omega))
theorem r_gn2 (h : s_ok K s) : sp_sm (fun g => s (83 + 7 * g + 1)) (s 82) ≤ 20000 := by
  have h82 := h.2.2.2.2.2.2
  have h1 := sp_sm_bd (f := fun g => s (83 + 7 * g + 1)) (n := s 82) (b := 2000) (fun g hg => (h.2.2.2.1 g (by omega)).2.1)
  have h2 := Nat.mul_le_mul_right 2000 h82
  omega
theorem r_cl (h : s_ok K s) (a : Int32) (x : Int32) : rg_r a (nI (mt s 153) - nI 1) x = rg_r a (nI (s 0)) x := by
  rw [mt_n, nm_isub (by omega), Nat.add_sub_cancel]
theorem r_pos {u : Int32} (h : ¬ u < nI 1) : ∃ n : Nat, 1 ≤ n ∧ n < 2 ^ 31 ∧ u = nI n := by
  have h0 : ¬ u < 0 := fun z => h (Int32.lt_of_lt_of_le z (by decide))
  obtain ⟨n, hn, rfl⟩ := nI_of h0
  refine ⟨n, ?_, hn, rfl⟩
  rw [nI_ltI hn (by omega)] at h
  omega
theorem r_rg1 {n : Nat} {x : Int32} (h : rg_r (nI 1) (nI n) x = false) : rg_r (nI 0) (nI n) x = false ∨ x = nI 0 := by
  cases hr : rg_r (nI 0) (nI n) x with
  | false => exact Or.inl rfl
  | true =>
    right
    unfold rg_r at h hr
    rw [Bool.and_eq_true] at hr
    rw [hr.2, Bool.and_true] at h
    have h1 := of_decide_eq_false h
    have h2 := of_decide_eq_true hr.1
    have e1 := Int32.le_iff_toInt_le.mp h2
    have e2 : ¬ (nI 1).toInt ≤ x.toInt := fun z => h1 (Int32.le_iff_toInt_le.mpr z)
    rw [nI_toInt (by omega)] at e1 e2
    rw [← Int32.toInt_inj, nI_toInt (by omega)]
    omega
theorem r_bits {x : Int32} {b : Nat} (hb : b < 16) (h : am_c1 .ne (x &&& (nI b ^^^ am_ic (-1))) = false) : ∃ e, e < 16 ∧ x = nI e := by
  have h0 : x &&& (nI b ^^^ am_ic (-1)) = 0 := by
    simp only [am_c1] at h
    exact Decidable.of_not_not (of_decide_eq_false h)
  have h1 : x.toBitVec &&& (BitVec.ofNat 32 b ^^^ BitVec.allOnes 32) = 0#32 := by
    have := congrArg Int32.toBitVec h0
    rw [Int32.toBitVec_and, Int32.toBitVec_xor] at this
    exact this
  have h2 : x.toBitVec = x.toBitVec &&& BitVec.ofNat 32 b := by
    apply BitVec.eq_of_getLsbD_eq
    intro i hi
    have h3 := congrArg (fun v => v.getLsbD i) h1
    simp only [BitVec.getLsbD_and, BitVec.getLsbD_xor, BitVec.getLsbD_allOnes, hi, decide_true, BitVec.getLsbD_zero] at h3
    rw [BitVec.getLsbD_and]
    cases hx : x.toBitVec.getLsbD i with
    | false => rfl
    | true =>
      rw [hx] at h3
      cases hbi : (BitVec.ofNat 32 b).getLsbD i with
      | true => rfl
      | false => rw [hbi] at h3; cases h3
  have h4 : x.toBitVec.toNat ≤ b := by
    rw [h2, BitVec.toNat_and, BitVec.toNat_ofNat]
    exact Nat.le_trans Nat.and_le_right (Nat.mod_le _ _)
  refine ⟨x.toBitVec.toNat, by omega, ?_⟩
  rw [← Int32.toBitVec_inj]
  show x.toBitVec = BitVec.ofNat 32 x.toBitVec.toNat
  rw [BitVec.ofNat_toNat, BitVec.setWidth_eq]
theorem p_pool (h : RL K s f kn nx ks hs) (hK : K ≤ 800) (x : Int32) : PR 36 104 [.int x] [(0, 1)] K s f kn nx ks := by
  have ok := h.1.ok
  obtain ⟨g0, g1, g2, g3, g4, g5, g6⟩ := id h.1
  cases hr : rg_r (nI 0) (nI 5000) x with
  | false =>
    exact PR.no (k := 0) (c := 1) (by simp) (fun hp hC => by obtain ⟨hT, hO, hL, hH, t0, A0, hS⟩ := hC; exact c_pool_no1 (d := 4) hO hL ok (by omega) (by omega) hr) (fun hp th co h1 h2 => m_pool_no1 (d := 6) h1 h2 hr)
  | true =>
    obtain ⟨n, -, hn, rfl⟩ := rg_of hr (by omega) (by omega)
    have e := r_gn h.1
    have e2 := r_gn2 h.1
    by_cases hg : sp_sm (fun g => s (83 + 7 * g + 1)) (s 82) ≤ n
    · exact PR.chg h (v := nI (mt s 80)) (T := va_up (mt s) 80 n) (s' := va_up s 80 n) (fun hp hC => by obtain ⟨hT, hO, hL, hH, t0, A0, hS⟩ := hC; exact c_pool (d := 4) hO hL ok (by omega) (by omega) hH hn (by rw [e]; exact hg)) (fun hp th co h1 h2 h3 => by rw [mt_h (s := s) (q := 80) (by omega) (by omega)]; exact m_pool (d := 6) h1 h2 h3 h.2.1 hn g6 hg) (mt_U (by omega) (by omega)) (s_pool h.1 hn)
    ·
      exact PR.no (k := 0) (c := 1) (by simp) (fun hp hC => by obtain ⟨hT, hO, hL, hH, t0, A0, hS⟩ := hC; exact c_pool_no2 (d := 4) hO hL ok (by omega) (by omega) hn (by rw [e]; omega) (by rw [e]; omega)) (fun hp th co h1 h2 => m_pool_no2 (d := 6) h1 h2 hn g6 (by omega) (by omega))
theorem p_pass (h : RL K s f kn nx ks hs) (hK : K ≤ 800) (x : Int32) : PR 41 108 [.int x] [(0, 1)] K s f kn nx ks := by
  have ok := h.1.ok
  obtain ⟨g0, g1, g2, g3, g4, g5, g6⟩ := id h.1
  cases hr : rg_r (nI 0) (nI 60) x with
  | false =>
    exact PR.no (k := 0) (c := 1) (by simp) (fun hp hC => by obtain ⟨hT, hO, hL, hH, t0, A0, hS⟩ := hC; exact c_pass_no (d := 4) hO hL ok (by omega) (by omega) hr) (fun hp th co h1 h2 => m_pass_no (d := 6) h1 h2 hr)
  | true =>
    obtain ⟨n, -, hn, rfl⟩ := rg_of hr (by omega) (by omega)
    have e := mt_U (s := s) (i := 81) (v := s 81 + n) (by omega) (by omega)
    exact PR.chg h (v := nI (mt s 81 + n)) (T := va_up (mt s) 81 (mt s 81 + n)) (s' := va_up s 81 (s 81 + n)) (fun hp hC => by obtain ⟨hT, hO, hL, hH, t0, A0, hS⟩ := hC; exact c_pass (d := 4) hO hL ok (by omega) (by omega) hH hn) (fun hp th co h1 h2 h3 => by rw [mt_h (s := s) (q := 81) (by omega) (by omega)]; exact m_pass (d := 6) h1 h2 h3 h.2.1 hn) (by rw [mt_h (s := s) (q := 81) (by omega) (by omega)]; exact e) (s_pass h.1 hn)
theorem p_undo (h : RL K s f kn nx ks hs) (hK : K ≤ 800) : PR 87 136 [] [(1, 1)] K s f kn nx ks := by
  have ok := h.1.ok
  obtain ⟨g0, g1, g2, g3, g4, g5, g6⟩ := id h.1
  by_cases hz : kn = 0
  ·
    exact PR.no (k := 1) (c := 1) (by simp) (fun hp hC => by obtain ⟨hT, hO, hL, hH, t0, A0, hS⟩ := hC; exact c_undo_no (d := 4) hO hL ok (by omega) (by omega) hH hz) (fun hp th co h1 h2 => m_undo_no (d := 6) h1 h2 hz)
  · obtain ⟨u1, u2, u3⟩ := h.undo (by omega)
    refine Or.inl ⟨nI (kn - 1), hs (kn - 1), kn - 1, (nx + 7) % 8, ks, fun hp hC => ?_, fun hp th hM => ?_⟩
    · have hC2 := hC
      obtain ⟨hT, hO, hL, hH, t0, A0, hS⟩ := hC2
      refine (c_undo (d := 4) hO hL ok (by omega) (by omega) hH (by omega) (fun g hg => ?_)).mono (fun hp1 o q => ?_)
      · rw [u2 _ (by omega), mt_h (by omega) (by omega)]
        exact (u1.1.2.2.2.1 g hg).2.2.2.2.2.1
      · obtain ⟨r, q0, q1, q2, q3, q4⟩ := q
        obtain ⟨z1, z2⟩ := hC.chg q2 q3 q4 u2
        exact ⟨r, q0, q1, z1, z2⟩
    · have hM2 := hM
      obtain ⟨⟨⟨co, hO⟩, hS, ⟨f1, y1⟩, ⟨f2, y2⟩, ⟨f3, y3⟩, ⟨f4, y4⟩⟩, hF, pf, hP⟩ := hM2
      refine (m_undo (d := 7) hO hS hF (by omega) h.2.1).mono (fun hp1 o q => ?_)
      obtain ⟨r, q0, q1, q2, ⟨f5, q3, q4⟩, q5, q6⟩ := q
      have hk : ∀ a, 241 ≤ a → hp1[a]? = hp[a]? := fun a ha => q6.2.2 a (fun z => by obtain ⟨_, _⟩ := z; omega)
      rw [c_ia_congr (fun k hk2 => (q4 k hk2).trans (u3 k hk2))] at q3
      exact ⟨r, q0, q1, ⟨f, ⟨⟨⟨co, q2⟩, q3, ⟨_, (hk _ (by omega)).trans y1⟩, ⟨_, (hk _ (by omega)).trans y2⟩, ⟨_, (hk _ (by omega)).trans y3⟩, ⟨_, (hk _ (by omega)).trans y4⟩⟩, q5, pf, (hk _ (by omega)).trans hP⟩, hs, u1⟩, q6.mono (fun a z => by obtain ⟨_, _⟩ := z; exact ⟨by omega, by omega⟩)⟩
theorem p_granted (h : RL K s f kn nx ks hs) (hK : K ≤ 800) : PR 8 114 [] [] K s f kn nx ks := by
  have ok := h.1.ok
  obtain ⟨g0, g1, g2, g3, g4, g5, g6⟩ := id h.1
  have e := r_gn h.1
  exact PR.read h (v := nI (sp_sm (fun g => mt s (83 + 7 * g + 1)) (mt s 82))) (fun hp hC => by obtain ⟨hT, hO, hL, hH, t0, A0, hS⟩ := hC; exact c_granted (d := 4) hO hL ok (by omega) (by omega) ) (fun hp th co h1 h2 => by rw [e]; exact m_granted (d := 6) h1 h2 g6)
theorem p_asConverted (h : RL K s f kn nx ks hs) (hK : K ≤ 800) : PR 10 117 [] [] K s f kn nx ks := by
  have ok := h.1.ok
  obtain ⟨g0, g1, g2, g3, g4, g5, g6⟩ := id h.1
  have e := r_all h.1
  exact PR.read h (v := nI (sp_sm (c_ic (mt s)) 5)) (fun hp hC => by obtain ⟨hT, hO, hL, hH, t0, A0, hS⟩ := hC; exact c_asConverted (d := 4) hO hL ok (by omega) (by omega) ) (fun hp th co h1 h2 => by rw [e]; exact m_asConverted (d := 5) h1 h2 (mt_bd ok))
theorem p_inIssue (h : RL K s f kn nx ks hs) (hK : K ≤ 800) (x : Int32) : PR 55 116 [.int x] [(2, 1)] K s f kn nx ks := by
  have ok := h.1.ok
  obtain ⟨g0, g1, g2, g3, g4, g5, g6⟩ := id h.1
  cases hx : rg_r (nI 0) (nI (s 0)) x with
  | false =>
    exact PR.no (k := 2) (c := 1) (by simp) (fun hp hC => by obtain ⟨hT, hO, hL, hH, t0, A0, hS⟩ := hC; exact c_inIssue_no (d := 4) hO hL ok (by omega) (by omega) (by rw [r_cl h.1]; exact hx)) (fun hp th co h1 h2 => m_inIssue_no (d := 6) h1 h2 hx)
  | true =>
    obtain ⟨c, -, hc, rfl⟩ := rg_of hx (by omega) (by omega)
    have hc2 : c < mt s 153 := by rw [mt_n]; omega
    exact PR.read h (v := nI (mt s (8 * c + 7))) (fun hp hC => by obtain ⟨hT, hO, hL, hH, t0, A0, hS⟩ := hC; exact c_inIssue (d := 4) hO hL ok (by omega) (by omega) hc2) (fun hp th co h1 h2 => by rw [mt_i (by omega)]; exact m_inIssue (d := 6) h1 h2 hc (by omega) (by omega))
theorem p_held (h : RL K s f kn nx ks hs) (hK : K ≤ 800) (x y : Int32) : PR 53 115 [.int x, .int y] [(2, 1)] K s f kn nx ks := by
  have ok := h.1.ok
  obtain ⟨g0, g1, g2, g3, g4, g5, g6⟩ := id h.1
  cases hx : rg_r (nI 0) (nI (s 0)) x with
  | false =>
    exact PR.no (k := 2) (c := 1) (by simp) (fun hp hC => by obtain ⟨hT, hO, hL, hH, t0, A0, hS⟩ := hC; exact c_held_no1 (d := 4) hO hL ok (by omega) (by omega) (by rw [r_cl h.1]; exact hx)) (fun hp th co h1 h2 => m_held_no1 (d := 6) h1 h2 hx)
  | true =>
    obtain ⟨c, -, hc, rfl⟩ := rg_of hx (by omega) (by omega)
    have hc2 : c < mt s 153 := by rw [mt_n]; omega
    cases hy : rg_r (nI 0) (nI 7) y with
    | false =>
      exact PR.no (k := 2) (c := 1) (by simp) (fun hp hC => by obtain ⟨hT, hO, hL, hH, t0, A0, hS⟩ := hC; exact c_held_no2 (d := 4) hO hL ok (by omega) (by omega) hc2 hy) (fun hp th co h1 h2 => m_held_no2 (d := 6) h1 h2 hc (by omega) hy)
    | true =>
      obtain ⟨k, -, hk, rfl⟩ := rg_of hy (by omega) (by omega)
      exact PR.read h (v := nI (mt s (40 + 8 * c + k))) (fun hp hC => by obtain ⟨hT, hO, hL, hH, t0, A0, hS⟩ := hC; exact c_held (d := 4) hO hL ok (by omega) (by omega) hc2 (by omega)) (fun hp th co h1 h2 => by rw [mt_h (by omega) (by omega)]; exact m_held (d := 6) h1 h2 hc (by omega) (by omega) (by omega))
theorem p_conversion (h : RL K s f kn nx ks hs) (hK : K ≤ 800) (x : Int32) : PR 57 118 [.int x] [(2, 1)] K s f kn nx ks := by
  have ok := h.1.ok
  obtain ⟨g0, g1, g2, g3, g4, g5, g6⟩ := id h.1
  cases hx : rg_r (nI 1) (nI (s 0)) x with
  | false =>
    rcases r_rg1 hx with hz | rfl
    ·
      exact PR.no (k := 2) (c := 1) (by simp) (fun hp hC => by obtain ⟨hT, hO, hL, hH, t0, A0, hS⟩ := hC; exact c_conversion_no (d := 4) hO hL ok (by omega) (by omega) (by rw [r_cl h.1]; exact hx)) (fun hp th co h1 h2 => m_conversion_no1 (d := 6) h1 h2 hz)
    ·
      exact PR.no (k := 2) (c := 1) (by simp) (fun hp hC => by obtain ⟨hT, hO, hL, hH, t0, A0, hS⟩ := hC; exact c_conversion_no (d := 4) hO hL ok (by omega) (by omega) (by rw [r_cl h.1]; exact hx)) (fun hp th co h1 h2 => m_conversion_no2 (d := 6) h1 h2 (by omega))
  | true =>
    obtain ⟨c, c1, hc, rfl⟩ := rg_of hx (by omega) (by omega)
    exact PR.read h (v := nI (mt s (8 * c + 6))) (fun hp hC => by obtain ⟨hT, hO, hL, hH, t0, A0, hS⟩ := hC; exact c_conversion (d := 4) hO hL ok (by omega) (by omega) c1 (by rw [mt_n]; omega)) (fun hp th co h1 h2 => by rw [mt_f c1 hc (by omega) (by omega)]; exact m_conversion (d := 6) h1 h2 c1 hc (by omega) (by omega))
theorem p_vested (h : RL K s f kn nx ks hs) (hK : K ≤ 800) (x : Int32) : PR 51 113 [.int x] [(2, 1)] K s f kn nx ks := by
  have ok := h.1.ok
  obtain ⟨g0, g1, g2, g3, g4, g5, g6⟩ := id h.1
  have h82 := mt_h (s := s) (q := 82) (by omega) (by omega)
  cases hx : rg_r (nI 0) (nI (s 82) - nI 1) x with
  | false =>
    exact PR.no (k := 2) (c := 1) (by simp) (fun hp hC => by obtain ⟨hT, hO, hL, hH, t0, A0, hS⟩ := hC; exact c_vestedOf_no (d := 4) hO hL ok (by omega) (by omega) (by rw [h82]; exact hx)) (fun hp th co h1 h2 => m_vested_no (d := 6) h1 h2 hx)
  | true =>
    obtain ⟨g, hg, rfl⟩ := rg_ltI hx (by omega)
    obtain ⟨a0, a1, a2, a3, a4, a5, a6⟩ := g3 g (by omega)
    exact PR.read h (v := nI (c_vg (mt s) g)) (fun hp hC => by obtain ⟨hT, hO, hL, hH, t0, A0, hS⟩ := hC; exact c_vestedOf (d := 4) hO hL ok (by omega) (by omega) (by rw [h82]; exact hg)) (fun hp th co h1 h2 => by rw [r_vg (by omega)]; exact m_vested (d := 6) h1 h2 hg g6 (by omega) a4 a1 a3 a2 a5)
theorem p_leave (h : RL K s f kn nx ks hs) (hK : K ≤ 800) (x : Int32) : PR 43 109 [.int x] [(2, 1)] K s f kn nx ks := by
  have ok := h.1.ok
  obtain ⟨g0, g1, g2, g3, g4, g5, g6⟩ := id h.1
  cases hx : rg_r (nI 0) (nI 7) x with
  | false =>
    exact PR.no (k := 2) (c := 1) (by simp) (fun hp hC => by obtain ⟨hT, hO, hL, hH, t0, A0, hS⟩ := hC; exact c_leave_no (d := 4) hO hL ok (by omega) (by omega) hx) (fun hp th co h1 h2 => m_leave_no (d := 6) h1 h2 hx)
  | true =>
    obtain ⟨k, -, hk, rfl⟩ := rg_of hx (by omega) (by omega)
    have e : sp_sm (fun g => if mt s (83 + 7 * g) = k ∧ c_vg (mt s) g < mt s (83 + 7 * g + 1) then 1 else 0) (mt s 82) = sp_sm (fun g => if s (83 + 7 * g) = k ∧ c_vg s g < s (83 + 7 * g + 1) then 1 else 0) (s 82) := by
      rw [mt_h (s := s) (q := 82) (by omega) (by omega)]
      exact sp_sm_congr (fun g hg => by rw [mt_h (by omega) (by omega), mt_h (by omega) (by omega), r_vg (by omega)])
    exact PR.chg h (v := nI (sp_sm (fun g => if mt s (83 + 7 * g) = k ∧ c_vg (mt s) g < mt s (83 + 7 * g + 1) then 1 else 0) (mt s 82))) (T := c_eg (mt s) k (mt s 82)) (s' := c_eg s k (s 82)) (fun hp hC => by obtain ⟨hT, hO, hL, hH, t0, A0, hS⟩ := hC; exact c_leave (d := 4) hO hL ok (by omega) (by omega) hH (by omega)) (fun hp th co h1 h2 h3 => by rw [e]; exact m_leave (d := 6) h1 h2 h3 h.2.1 g6 (by omega) (by omega) (fun g hg => by obtain ⟨a0, a1, a2, a3, a4, a5, a6⟩ := g3 g (by omega); exact ⟨a0, a1, a2, a3, a4, a5⟩)) (r_leave h.1) (s_leave h.1)
theorem p_transfer (h : RL K s f kn nx ks hs) (hK : K ≤ 800) (x y z u : Int32) : PR 30 102 [.int x, .int y, .int z, .int u] [(2, 1), (0, 2), (1, 3)] K s f kn nx ks := by
  have ok := h.1.ok
  obtain ⟨g0, g1, g2, g3, g4, g5, g6⟩ := id h.1
  cases hx : rg_r (nI 0) (nI (s 0)) x with
  | false =>
    exact PR.no (k := 2) (c := 1) (by simp) (fun hp hC => by obtain ⟨hT, hO, hL, hH, t0, A0, hS⟩ := hC; exact c_transfer_no1 (d := 4) hO hL ok (by omega) (by omega) (by rw [r_cl h.1]; exact hx)) (fun hp th co h1 h2 => m_transfer_no1 (d := 6) h1 h2 hx)
  | true =>
    obtain ⟨c, -, hc, rfl⟩ := rg_of hx (by omega) (by omega)
    have hc2 : c < mt s 153 := by rw [mt_n]; omega
    cases hy : rg_r (nI 0) (nI 7) y with
    | false =>
      exact PR.no (k := 2) (c := 1) (by simp) (fun hp hC => by obtain ⟨hT, hO, hL, hH, t0, A0, hS⟩ := hC; exact c_transfer_no2 (d := 4) hO hL ok (by omega) (by omega) hc2 hy) (fun hp th co h1 h2 => m_transfer_no2 (d := 6) h1 h2 hc (by omega) (by omega) hy)
    | true =>
    obtain ⟨k, -, hk, rfl⟩ := rg_of hy (by omega) (by omega)
    cases hz : rg_r (nI 0) (nI 7) z with
    | false =>
      exact PR.no (k := 2) (c := 1) (by simp) (fun hp hC => by obtain ⟨hT, hO, hL, hH, t0, A0, hS⟩ := hC; exact c_transfer_no3 (d := 4) hO hL ok (by omega) (by omega) hc2 (by omega) hz) (fun hp th co h1 h2 => m_transfer_no3 (d := 6) h1 h2 hc (by omega) (by omega) (by omega) hz)
    | true =>
    obtain ⟨m, -, hm, rfl⟩ := rg_of hz (by omega) (by omega)
    have hb : ∀ i, 40 ≤ i → i < 80 → s i < 2 ^ 31 := fun i i1 i2 => by
      have := (g2 ((i - 40) / 8) (by omega)).1
      have h9 := m_iss_ge (s := s) (c := (i - 40) / 8) (k := (i - 40) % 8) (by omega)
      rw [show 40 + 8 * ((i - 40) / 8) + (i - 40) % 8 = i by omega] at h9
      omega
    have hbk := hb (40 + 8 * c + k) (by omega) (by omega)
    by_cases ekm : k = m
    ·
      exact PR.no (k := 0) (c := 2) (by simp) (fun hp hC => by obtain ⟨hT, hO, hL, hH, t0, A0, hS⟩ := hC; exact c_transfer_no4 (d := 4) hO hL ok (by omega) (by omega) hc2 (by omega) (by omega) (Or.inl ekm)) (fun hp th co h1 h2 => m_transfer_no4a (d := 6) h1 h2 hc (by omega) (by omega) (by omega) (by omega) hb ekm)
    by_cases hu : u < nI 1
    ·
      exact PR.no (k := 0) (c := 2) (by simp) (fun hp hC => by obtain ⟨hT, hO, hL, hH, t0, A0, hS⟩ := hC; exact c_transfer_no4 (d := 4) hO hL ok (by omega) (by omega) hc2 (by omega) (by omega) (Or.inr hu)) (fun hp th co h1 h2 => m_transfer_no4b (d := 6) h1 h2 hc (by omega) (by omega) (by omega) (by omega) hb ekm hu)
    obtain ⟨n, n1, n2, rfl⟩ := r_pos hu
    by_cases hn : n ≤ s (40 + 8 * c + k)
    · have hc5 : c < 5 := by omega
      have hk8 : k < 8 := by omega
      have hm8 : m < 8 := by omega
      have e := r_transfer (s := s) (c := c) (f := k) (g := m) (n := n) hc5 hk8 hm8 hn
      refine PR.chg h (v := nI ((va_up (va_up s (40 + 8 * c + k) (s (40 + 8 * c + k) - n)) (40 + 8 * c + m) ((va_up s (40 + 8 * c + k) (s (40 + 8 * c + k) - n)) (40 + 8 * c + m) + n)) (40 + 8 * c + m))) (s' := va_up (va_up s (40 + 8 * c + k) (s (40 + 8 * c + k) - n)) (40 + 8 * c + m) ((va_up s (40 + 8 * c + k) (s (40 + 8 * c + k) - n)) (40 + 8 * c + m) + n)) (fun hp hC => ?_) (fun hp th co h1 h2 h3 => ?_) e (s_transfer h.1 hc5 hk8 hm8 hn)
      · obtain ⟨hT, hO, hL, hH, t0, A0, hS⟩ := hC
        have z := c_transfer (d := 4) hO hL ok (by omega) (by omega) hH (a := c) hc2 (f := k) hk8 (g := m) hm8 ekm n1 (by rw [mt_h (by omega) (by omega)]; exact hn)
        rw [e _ (by omega), mt_h (by omega) (by omega)] at z
        exact z
      · exact m_transfer (d := 6) h1 h2 h3 h.2.1 (c := c) (fr := k) (to := m) hc hc5 (by omega) hk8 hm8 hb ekm n1 hn
    ·
      exact PR.no (k := 1) (c := 3) (by simp) (fun hp hC => by obtain ⟨hT, hO, hL, hH, t0, A0, hS⟩ := hC; exact c_transfer_no5 (d := 4) hO hL ok (by omega) (by omega) hc2 (by omega) (by omega) ekm n1 n2 (by rw [mt_h (by omega) (by omega)]; omega)) (fun hp th co h1 h2 => m_transfer_no5 (d := 6) h1 h2 hc (by omega) (by omega) (by omega) (by omega) hb ekm n1 n2 (by omega))
theorem p_convert (h : RL K s f kn nx ks hs) (hK : K ≤ 800) (x y u : Int32) : PR 33 103 [.int x, .int y, .int u] [(2, 1), (0, 2), (1, 3)] K s f kn nx ks := by
  have ok := h.1.ok
  obtain ⟨g0, g1, g2, g3, g4, g5, g6⟩ := id h.1
  cases hx : rg_r (nI 1) (nI (s 0)) x with
  | false =>
    rcases r_rg1 hx with hz | rfl
    ·
      exact PR.no (k := 2) (c := 1) (by simp) (fun hp hC => by obtain ⟨hT, hO, hL, hH, t0, A0, hS⟩ := hC; exact c_convert_no1 (d := 4) hO hL ok (by omega) (by omega) (by rw [r_cl h.1]; exact hx)) (fun hp th co h1 h2 => m_convert_no1 (d := 5) h1 h2 hz)
    ·
      exact PR.no (k := 2) (c := 1) (by simp) (fun hp hC => by obtain ⟨hT, hO, hL, hH, t0, A0, hS⟩ := hC; exact c_convert_no1 (d := 4) hO hL ok (by omega) (by omega) (by rw [r_cl h.1]; exact hx)) (fun hp th co h1 h2 => m_convert_no1b (d := 5) h1 h2 (by omega))
  | true =>
    obtain ⟨c, c1, hc, rfl⟩ := rg_of hx (by omega) (by omega)
    have hc2 : c < mt s 153 := by rw [mt_n]; omega
    have hc5 : c < 5 := by omega
    cases hy : rg_r (nI 0) (nI 7) y with
    | false =>
      exact PR.no (k := 2) (c := 1) (by simp) (fun hp hC => by obtain ⟨hT, hO, hL, hH, t0, A0, hS⟩ := hC; exact c_convert_no2 (d := 4) hO hL ok (by omega) (by omega) c1 hc2 hy) (fun hp th co h1 h2 => m_convert_no2 (d := 5) h1 h2 c1 hc hc5 (by omega) hy)
    | true =>
    obtain ⟨k, -, hk, rfl⟩ := rg_of hy (by omega) (by omega)
    have hk8 : k < 8 := by omega
    have hge := m_iss_ge (s := s) (c := c) hk8
    have hgi := (g2 c hc5).1
    by_cases hu : u < nI 1
    ·
      exact PR.no (k := 0) (c := 2) (by simp) (fun hp hC => by obtain ⟨hT, hO, hL, hH, t0, A0, hS⟩ := hC; exact c_convert_no3 (d := 4) hO hL ok (by omega) (by omega) c1 hc2 hk8 hu) (fun hp th co h1 h2 => m_convert_no3 (d := 5) h1 h2 c1 hc hc5 (by omega) hk8 hu)
    obtain ⟨n, n1, n2, rfl⟩ := r_pos hu
    by_cases hn : n ≤ s (40 + 8 * c + k)
    · have ecv := r_cv (s := s) (c := c) (n := n) c1 hc hc5
      have h0i : mt s (8 * 0 + 7) = m_iss s 0 := mt_i (by omega)
      have hcv : m_cv s c n ≤ 20000000 := by
        obtain ⟨p1, p2, p3⟩ := (mt_bd ok).2.2 c c1 hc
        have hm := Nat.mul_le_mul (Nat.mul_le_mul_right 1000 (show n ≤ 20000 by omega)) p1
        unfold m_cv
        rw [if_neg (by omega)]
        exact Nat.le_trans (Nat.div_le_div_left p2 (by decide)) (by omega)
      by_cases h20 : m_iss s 0 + m_cv s c n ≤ 20000
      · refine PR.chg h (v := nI (m_cv s c n)) (s' := va_up (va_up s (40 + 8 * c + k) (s (40 + 8 * c + k) - n)) (40 + k) ((va_up s (40 + 8 * c + k) (s (40 + 8 * c + k) - n)) (40 + k) + m_cv s c n)) (fun hp hC => ?_) (fun hp th co h1 h2 h3 => ?_) (r_convert (s := s) (v := m_cv s c n) c1 hc5 hk8 hn) (s_convert h.1 c1 hc5 hk8 hn h20)
        · obtain ⟨hT, hO, hL, hH, t0, A0, hS⟩ := hC
          have z := c_convert (d := 4) hO hL ok (by omega) (by omega) hH (a := c) c1 hc2 (k := k) hk8 (n := n) n1 (by rw [mt_h (by omega) (by omega)]; exact hn) (by rw [ecv, h0i]; exact h20)
          rw [ecv] at z
          exact z
        · exact m_convert (d := 5) h1 h2 h3 h.2.1 (mt_bd ok) c1 hc hk8 n1 hn (by omega) h20
      ·
        exact PR.no (k := 1) (c := 3) (by simp) (fun hp hC => by obtain ⟨hT, hO, hL, hH, t0, A0, hS⟩ := hC; exact c_convert_no5 (d := 4) hO hL ok (by omega) (by omega) c1 hc2 hk8 (n := n) n1 (by rw [mt_h (by omega) (by omega)]; exact hn) (by rw [ecv, h0i]; omega)) (fun hp th co h1 h2 => m_convert_no5 (d := 5) h1 h2 (mt_bd ok) c1 hc hc5 (by omega) hk8 n1 hn (by omega) (by omega) (by omega))
    ·
      exact PR.no (k := 1) (c := 3) (by simp) (fun hp hC => by obtain ⟨hT, hO, hL, hH, t0, A0, hS⟩ := hC; exact c_convert_no4 (d := 4) hO hL ok (by omega) (by omega) c1 hc2 hk8 n1 n2 (by rw [mt_h (by omega) (by omega)]; omega)) (fun hp th co h1 h2 => m_convert_no4 (d := 5) h1 h2 c1 hc hc5 (by omega) hk8 n1 n2 (by omega) (by omega))
theorem p_issue (h : RL K s f kn nx ks hs) (hK : K ≤ 800) (x y u z : Int32) : PR 23 95 [.int x, .int y, .int u, .int z] [(2, 1), (0, 2), (1, 3)] K s f kn nx ks := by
  have ok := h.1.ok
  obtain ⟨g0, g1, g2, g3, g4, g5, g6⟩ := id h.1
  cases hx : rg_r (nI 0) (nI (s 0)) x with
  | false =>
    exact PR.no (k := 2) (c := 1) (by simp) (fun hp hC => by obtain ⟨hT, hO, hL, hH, t0, A0, hS⟩ := hC; exact c_issue_no1 (d := 4) hO hL ok (by omega) (by omega) (by rw [r_cl h.1]; exact hx)) (fun hp th co h1 h2 => m_issue_no1 (d := 6) h1 h2 hx)
  | true =>
    obtain ⟨c, -, hc, rfl⟩ := rg_of hx (by omega) (by omega)
    have hc2 : c < mt s 153 := by rw [mt_n]; omega
    have hc5 : c < 5 := by omega
    cases hy : rg_r (nI 0) (nI 7) y with
    | false =>
      exact PR.no (k := 2) (c := 1) (by simp) (fun hp hC => by obtain ⟨hT, hO, hL, hH, t0, A0, hS⟩ := hC; exact c_issue_no2 (d := 4) hO hL ok (by omega) (by omega) hc2 hy) (fun hp th co h1 h2 => m_issue_no2 (d := 6) h1 h2 hc hc5 (by omega) hy)
    | true =>
    obtain ⟨k, -, hk, rfl⟩ := rg_of hy (by omega) (by omega)
    have hk8 : k < 8 := by omega
    have hgi := (g2 c hc5).1
    have hmi : mt s (8 * c + 7) = m_iss s c := mt_i hc5
    cases hu : rg_r (nI 1) (nI 1000) u with
    | false =>
      exact PR.no (k := 0) (c := 2) (by simp) (fun hp hC => by obtain ⟨hT, hO, hL, hH, t0, A0, hS⟩ := hC; exact c_issue_no3 (d := 4) hO hL ok (by omega) (by omega) hc2 hk8 (Or.inl hu)) (fun hp th co h1 h2 => m_issue_no3a (d := 6) h1 h2 hc hc5 (by omega) hk8 hu)
    | true =>
    cases hz : rg_r (nI 1) (nI 1000) z with
    | false =>
      exact PR.no (k := 0) (c := 2) (by simp) (fun hp hC => by obtain ⟨hT, hO, hL, hH, t0, A0, hS⟩ := hC; exact c_issue_no3 (d := 4) hO hL ok (by omega) (by omega) hc2 hk8 (Or.inr hz)) (fun hp th co h1 h2 => m_issue_no3b (d := 6) h1 h2 hc hc5 (by omega) hk8 hu hz)
    | true =>
    obtain ⟨n, n1, n2, rfl⟩ := rg_of hu (by omega) (by omega)
    obtain ⟨p, p1, p2, rfl⟩ := rg_of hz (by omega) (by omega)
    by_cases h5 : m_iss s c + n ≤ 5000
    · have e := r_issue (K := K) (s := s) (c := c) (k := k) (n := n) (p := p) h.1 hc5 hk8
      obtain ⟨k1, k2⟩ := s_issue h.1 hc hk8 n1 p1 h5
      refine Or.inl ⟨nI (m_iss (va_up (m_ag s c n p (s 0 + 1)) (40 + 8 * c + k) (s (40 + 8 * c + k) + n)) c), va_up (m_ag s c n p (s 0 + 1)) (40 + 8 * c + k) (s (40 + 8 * c + k) + n), m_kn kn + 1, (nx + 1) % 8, va_up ks nx (mt s), fun hp hC => ?_, fun hp th hM => ?_⟩
      · have hC2 := hC
        obtain ⟨hT, hO, hL, hH, t0, A0, hS⟩ := hC2
        have z := c_issue (d := 4) hO hL ok (by omega) (by omega) hH (a := c) hc2 (k := k) hk8 (n := n) (p := p) n1 n2 p1 p2 (by rw [hmi]; exact h5)
        rw [e _ (by omega), mt_i hc5] at z
        refine z.mono (fun hp1 o q => ?_)
        obtain ⟨r, q0, q1, q2, q3, q4⟩ := q
        rw [← m_kn1 h.2.1] at q3
        obtain ⟨z1, z2⟩ := hC.chg q2 q3 q4 e
        exact ⟨r, q0, q1, z1, z2⟩
      · have hM2 := hM
        obtain ⟨⟨⟨co, hO⟩, hS, -⟩, hF, pf, hP⟩ := hM2
        refine (m_issue (d := 5) hO hS hF h.2.1 (mt_bd ok) hP hc hk8 n1 n2 p1 p2 (fun a a1 a2 => (g1 a a1 a2).2.2.2.2.2.2.1) h5).mono (fun hp1 o q => ?_)
        obtain ⟨r, q0, q1, q2⟩ := q
        obtain ⟨⟨f1, z1, z2⟩, z3⟩ := hM.chgI q2
        exact ⟨r, q0, q1, ⟨f1, z1, h.chg z2 k1⟩, z3⟩
    ·
      exact PR.no (k := 1) (c := 3) (by simp) (fun hp hC => by obtain ⟨hT, hO, hL, hH, t0, A0, hS⟩ := hC; exact c_issue_no4 (d := 4) hO hL ok (by omega) (by omega) hc2 hk8 n1 n2 p1 p2 (by rw [hmi]; omega)) (fun hp th co h1 h2 => m_issue_no4 (d := 6) h1 h2 hc hc5 (by omega) hk8 n1 n2 p1 p2 hgi (by omega))
theorem p_preferred (h : RL K s f kn nx ks hs) (hK : K ≤ 800) (x0 x1 x2 x3 x4 x5 : Int32) : PR 14 91 [.int x0, .int x1, .int x2, .int x3, .int x4, .int x5] [(0, 1), (1, 2)] K s f kn nx ks := by
  have ok := h.1.ok
  obtain ⟨g0, g1, g2, g3, g4, g5, g6⟩ := id h.1
  cases hx : (rg_r (nI 1) (nI 1000) (x0) && (rg_r (nI 50) (nI 300) (x1) && (rg_r (nI 0) (nI 3) (x2) && (rg_r (nI 0) (nI 2) (x3) && (rg_r (nI 100) (nI 900) (x4) && (rg_r (nI 0) (nI 2) (x5))))))) with
  | false =>
    exact PR.no (k := 0) (c := 1) (by simp) (fun hp hC => by obtain ⟨hT, hO, hL, hH, t0, A0, hS⟩ := hC; exact c_preferred_no1 (d := 4) hO hL ok (by omega) (by omega) hx) (fun hp th co h1 h2 => m_preferred_no1 (d := 6) h1 h2 hx)
  | true =>
    simp only [Bool.and_eq_true] at hx
    obtain ⟨r0, r1, r2, r3, r4, r5⟩ := hx
    obtain ⟨p0, l0, u0, rfl⟩ := rg_of r0 (by omega) (by omega)
    obtain ⟨p1, l1, u1, rfl⟩ := rg_of r1 (by omega) (by omega)
    obtain ⟨p2, l2, u2, rfl⟩ := rg_of r2 (by omega) (by omega)
    obtain ⟨p3, l3, u3, rfl⟩ := rg_of r3 (by omega) (by omega)
    obtain ⟨p4, l4, u4, rfl⟩ := rg_of r4 (by omega) (by omega)
    obtain ⟨p5, l5, u5, rfl⟩ := rg_of r5 (by omega) (by omega)
    by_cases h4 : s 0 < 4
    · refine PR.chg h (v := nI (mt s 153)) (s' := va_up (va_up (va_up (va_up (va_up (va_up (va_up (va_up s 0 (s 0 + 1)) (1 + 8 * s 0 + 0) p0) (1 + 8 * s 0 + 1) p1) (1 + 8 * s 0 + 2) p2) (1 + 8 * s 0 + 3) p3) (1 + 8 * s 0 + 4) p4) (1 + 8 * s 0 + 5) p5) (1 + 8 * s 0 + 6) (1000 * p0)) (fun hp hC => ?_) (fun hp th co h1 h2 h3 => ?_) (r_preferred h.1 h4) (s_preferred h.1 h4 l0 u0 u1 u2 u3 u4 u5)
      · obtain ⟨hT, hO, hL, hH, t0, A0, hS⟩ := hC
        exact c_preferred (d := 4) hO hL ok (by omega) (by omega) hH l0 u0 l1 u1 l2 u2 l3 u3 l4 u4 l5 u5 (by rw [mt_n]; omega)
      · have z := m_preferred (d := 6) h1 h2 h3 h.2.1 l0 u0 l1 u1 l2 u2 l3 u3 l4 u4 l5 u5 h4
        rw [show (va_up (va_up (va_up (va_up (va_up (va_up (va_up (va_up s 0 (s 0 + 1)) (1 + 8 * s 0 + 0) p0) (1 + 8 * s 0 + 1) p1) (1 + 8 * s 0 + 2) p2) (1 + 8 * s 0 + 3) p3) (1 + 8 * s 0 + 4) p4) (1 + 8 * s 0 + 5) p5) (1 + 8 * s 0 + 6) (1000 * p0)) 0 = mt s 153 by
          rw [mt_n]
          repeat rw [va_up_ne _ _ (by omega)]
          rw [va_up_self]] at z
        exact z
    ·
      exact PR.no (k := 1) (c := 2) (by simp) (fun hp hC => by obtain ⟨hT, hO, hL, hH, t0, A0, hS⟩ := hC; exact c_preferred_no2 (d := 4) hO hL ok (by omega) (by omega) l0 u0 l1 u1 l2 u2 l3 u3 l4 u4 l5 u5 (by rw [mt_n]; omega)) (fun hp th co h1 h2 => m_preferred_no2 (d := 6) h1 h2 l0 u0 l1 u1 l2 u2 l3 u3 l4 u4 l5 u5 (by omega))
theorem p_grant (h : RL K s f kn nx ks hs) (hK : K ≤ 800) (x y u z : Int32) : PR 38 107 [.int x, .int y, .int u, .int z] [(2, 1), (0, 2), (1, 3)] K s f kn nx ks := by
  have ok := h.1.ok
  obtain ⟨g0, g1, g2, g3, g4, g5, g6⟩ := id h.1
  have e := r_gn h.1
  have e2 := r_gn2 h.1
  have e80 := mt_h (s := s) (q := 80) (by omega) (by omega)
  have e82 := mt_h (s := s) (q := 82) (by omega) (by omega)
  cases hx : rg_r (nI 0) (nI 7) x with
  | false =>
    exact PR.no (k := 2) (c := 1) (by simp) (fun hp hC => by obtain ⟨hT, hO, hL, hH, t0, A0, hS⟩ := hC; exact c_grant_no1 (d := 4) hO hL ok (by omega) (by omega) hx) (fun hp th co h1 h2 => m_grant_no1 (d := 6) h1 h2 g6 hx)
  | true =>
    obtain ⟨k, -, hk, rfl⟩ := rg_of hx (by omega) (by omega)
    have hk8 : k < 8 := by omega
    cases hg : (rg_r (nI 1) (nI 2000) y && (rg_r (nI 0) (nI 60) u && rg_r u (nI 60) z)) with
    | false =>
      have hno : rg_r (nI 1) (nI 2000) y = true → rg_r (nI 0) (nI 60) u = true → rg_r (nI 0) (nI 60) z = true → am_c2 .lt z u = false → False := fun w1 w2 w3 w4 => by
        have w5 : rg_r u (nI 60) z = true := by
          unfold rg_r at w3 ⊢
          rw [Bool.and_eq_true] at w3
          rw [w3.2, Bool.and_true]
          exact decide_eq_true (Int32.not_lt.mp (of_decide_eq_false w4))
        rw [w1, w2, w5] at hg
        cases hg
      exact PR.no (k := 0) (c := 2) (by simp) (fun hp hC => by obtain ⟨hT, hO, hL, hH, t0, A0, hS⟩ := hC; exact c_grant_no2 (d := 4) hO hL ok (by omega) (by omega) hk8 hg) (fun hp th co h1 h2 => m_grant_no2 (d := 6) h1 h2 g6 hk8 hno)
    | true =>
    simp only [Bool.and_eq_true] at hg
    obtain ⟨w1, w2, w3⟩ := hg
    obtain ⟨n, n1, n2, rfl⟩ := rg_of w1 (by omega) (by omega)
    obtain ⟨cl, -, c2, rfl⟩ := rg_of w2 (by omega) (by omega)
    obtain ⟨ln, l1, l2, rfl⟩ := rg_of w3 (by omega) (by omega)
    by_cases h10 : s 82 = 10
    ·
      exact PR.no (k := 1) (c := 3) (by simp) (fun hp hC => by obtain ⟨hT, hO, hL, hH, t0, A0, hS⟩ := hC; exact c_grant_no3 (d := 4) hO hL ok (by omega) (by omega) hk8 n1 n2 c2 l1 l2 (by rw [e]; omega) (by rw [e82]; omega)) (fun hp th co h1 h2 => m_grant_no3 (d := 6) h1 h2 g6 hk8 n1 n2 c2 l1 l2 g4 (by omega) h10)
    by_cases ho : sp_sm (fun g => s (83 + 7 * g + 1)) (s 82) + n ≤ s 80
    · refine PR.chg h (v := nI (mt s 82)) (s' := va_up (va_up (va_up (va_up (va_up (va_up (va_up (va_up s 82 (s 82 + 1)) (83 + 7 * s 82 + 0) k) (83 + 7 * s 82 + 1) n) (83 + 7 * s 82 + 2) cl) (83 + 7 * s 82 + 3) ln) (83 + 7 * s 82 + 4) ((va_up (va_up (va_up (va_up (va_up s 82 (s 82 + 1)) (83 + 7 * s 82 + 0) k) (83 + 7 * s 82 + 1) n) (83 + 7 * s 82 + 2) cl) (83 + 7 * s 82 + 3) ln) 81)) (83 + 7 * s 82 + 5) 0) (83 + 7 * s 82 + 6) 0) (fun hp hC => ?_) (fun hp th co h1 h2 h3 => ?_) (r_grant (by omega)) (s_grant h.1 (by omega) hk8 n2 c2 l2)
      · obtain ⟨hT, hO, hL, hH, t0, A0, hS⟩ := hC
        exact c_grant (d := 4) hO hL ok (by omega) (by omega) hH hk8 n1 n2 c2 l1 l2 (by rw [e]; omega) (by rw [e82]; omega) (by rw [e, e80]; exact ho)
      · rw [e82]
        exact m_grant (d := 6) h1 h2 h3 h.2.1 g6 hk8 n1 n2 c2 l1 l2 g4 (by omega) (by omega) ho
    ·
      exact PR.no (k := 1) (c := 3) (by simp) (fun hp hC => by obtain ⟨hT, hO, hL, hH, t0, A0, hS⟩ := hC; exact c_grant_no4 (d := 4) hO hL ok (by omega) (by omega) hk8 n1 n2 c2 l1 l2 (by rw [e]; omega) (by rw [e82]; omega) (by rw [e, e80]; omega)) (fun hp th co h1 h2 => m_grant_no4 (d := 6) h1 h2 g6 hk8 n1 n2 c2 l1 l2 g4 (by omega) (by omega) (by omega))
theorem p_exercise (h : RL K s f kn nx ks hs) (hK : K ≤ 800) (x u : Int32) : PR 48 111 [.int x, .int u] [(2, 1), (0, 2), (1, 3)] K s f kn nx ks := by
  have ok := h.1.ok
  obtain ⟨g0, g1, g2, g3, g4, g5, g6⟩ := id h.1
  have h82 := mt_h (s := s) (q := 82) (by omega) (by omega)
  cases hx : rg_r (nI 0) (nI (s 82) - nI 1) x with
  | false =>
    exact PR.no (k := 2) (c := 1) (by simp) (fun hp hC => by obtain ⟨hT, hO, hL, hH, t0, A0, hS⟩ := hC; exact c_exercise_no1 (d := 4) hO hL ok (by omega) (by omega) (by rw [h82]; exact hx)) (fun hp th co h1 h2 => m_exercise_no1 (d := 6) h1 h2 hx)
  | true =>
    obtain ⟨g, hg, rfl⟩ := rg_ltI hx (by omega)
    obtain ⟨a0, a1, a2, a3, a4, a5, a6⟩ := g3 g (by omega)
    have hg10 : g < 10 := by omega
    have hgm : g < mt s 82 := by rw [h82]; exact hg
    have ev := r_vg (s := s) hg10
    have hi0 := (g2 0 (by omega)).1
    have e0 : mt s (8 * 0 + 7) = m_iss s 0 := mt_i (by omega)
    have hvl : c_vg s g ≤ 2000 := Nat.le_trans (g_v_le _ _ _ _ _) a1
    have e6 := mt_h (s := s) (q := 83 + 7 * g + 6) (by omega) (by omega)
    by_cases hu : u < nI 1
    ·
      exact PR.no (k := 0) (c := 2) (by simp) (fun hp hC => by obtain ⟨hT, hO, hL, hH, t0, A0, hS⟩ := hC; exact c_exercise_no2 (d := 4) hO hL ok (by omega) (by omega) hgm hu) (fun hp th co h1 h2 => m_exercise_no2 (d := 6) h1 h2 hg g6 hu)
    obtain ⟨n, n1, n2, rfl⟩ := r_pos hu
    by_cases ho : s (83 + 7 * g + 6) + n ≤ c_vg s g
    · by_cases h20 : m_iss s 0 + n ≤ 20000
      · refine PR.chg h (v := nI (c_vg s g - s (83 + 7 * g + 6) - n)) (s' := va_up (va_up s (83 + 7 * g + 6) (s (83 + 7 * g + 6) + n)) (40 + s (83 + 7 * g + 0)) (s (40 + s (83 + 7 * g + 0)) + n)) (fun hp hC => ?_) (fun hp th co h1 h2 h3 => ?_) (r_exercise h.1 hg10 rfl) (s_exercise h.1 hg10 (by omega) h20)
        · obtain ⟨hT, hO, hL, hH, t0, A0, hS⟩ := hC
          have z := c_exercise (d := 4) hO hL ok (by omega) (by omega) hH hgm n1 (by rw [e6, ev]; exact ho) (by rw [e0]; exact h20)
          rw [show nI (c_vg (mt s) g - mt s (83 + 7 * g + 6) - n) = nI (c_vg s g - s (83 + 7 * g + 6) - n) by rw [ev, e6]] at z
          exact z
        · exact m_exercise (d := 6) h1 h2 h3 h.2.1 hg g6 n1 (by omega) a4 a1 a3 a2 a5 a6 a0 hi0 ho h20
      ·
        exact PR.no (k := 1) (c := 3) (by simp) (fun hp hC => by obtain ⟨hT, hO, hL, hH, t0, A0, hS⟩ := hC; exact c_exercise_no4 (d := 4) hO hL ok (by omega) (by omega) hgm n1 (by rw [e6, ev]; exact ho) (by rw [e0]; omega)) (fun hp th co h1 h2 => m_exercise_no4 (d := 6) h1 h2 hg g6 n1 (by omega) a4 a1 a3 a2 a5 a6 hi0 ho (by omega))
    ·
      exact PR.no (k := 1) (c := 3) (by simp) (fun hp hC => by obtain ⟨hT, hO, hL, hH, t0, A0, hS⟩ := hC; exact c_exercise_no3 (d := 4) hO hL ok (by omega) (by omega) hgm n1 n2 (by rw [e6, ev]; omega)) (fun hp th co h1 h2 => m_exercise_no3 (d := 6) h1 h2 hg g6 n1 (by omega) a4 a1 a3 a2 a5 a6 n2 (by omega))
theorem p_set (h : RL K s f kn nx ks hs) (hK : K ≤ 800) (x : Int32) : PR 59 119 [.int x] [(0, 1)] K s f kn nx ks := by
  have ok := h.1.ok
  obtain ⟨g0, g1, g2, g3, g4, g5, g6⟩ := id h.1
  cases hx : rg_r (nI 0) (nI 2000000000) x with
  | false =>
    exact PR.no (k := 0) (c := 1) (by simp) (fun hp hC => by obtain ⟨hT, hO, hL, hH, t0, A0, hS⟩ := hC; exact c_set_no (d := 0) hO hL ok (by omega) hT hS hx) (fun hp th co h1 h2 => m_set_no (d := 0) h1 h2 ok (by omega) hx)
  | true =>
    obtain ⟨A, -, hA, rfl⟩ := rg_of hx (by omega) (by omega)
    exact PR.sale h (v := sl_v (sl_set (mt s) A)) (fun hp hC => by obtain ⟨hT, hO, hL, hH, t0, A0, hS⟩ := hC; exact c_set (d := 0) hO hL ok (by omega) hT hS hA) (fun hp th co h1 h2 hQ => m_set (d := 0) h1 h2 ok (by omega) hQ hA)
theorem p_gets (h : RL K s f kn nx ks hs) (hK : K ≤ 800) (x y z : Int32) : PR 80 133 [.int x, .int y, .int z] [(0, 1), (2, 2)] K s f kn nx ks := by
  have ok := h.1.ok
  obtain ⟨g0, g1, g2, g3, g4, g5, g6⟩ := id h.1
  cases hx : rg_r (nI 0) (nI 2000000000) x with
  | false =>
    exact PR.no (k := 0) (c := 1) (by simp) (fun hp hC => by obtain ⟨hT, hO, hL, hH, t0, A0, hS⟩ := hC; exact c_gets_no1 (d := 0) hO hL ok (by omega) hT hS hx) (fun hp th co h1 h2 => m_gets_no1 (d := 0) h1 h2 ok (by omega) hx)
  | true =>
    obtain ⟨A, -, hA, rfl⟩ := rg_of hx (by omega) (by omega)
    cases hb : am_c1 .ne (y &&& (nI (m_bi (mt s) 5) ^^^ am_ic (-1))) with
    | true =>
      have hcn : (decide (0 ≤ y) && (decide (y ≤ nI 15) && c_cv (mt s) y.toNatClampNeg 5)) = false := by
        cases hq : (decide (0 ≤ y) && (decide (y ≤ nI 15) && c_cv (mt s) y.toNatClampNeg 5)) with
        | false => rfl
        | true =>
          rw [Bool.and_eq_true, Bool.and_eq_true] at hq
          obtain ⟨e, -, he, rfl⟩ := nm_in (a := 0) (b := 15) (x := y) (by rw [Bool.and_eq_true]; exact ⟨hq.1, hq.2.1⟩) (by omega) (by omega)
          rw [nI_clamp (by omega)] at hq
          rw [m_cvE (by omega), hq.2.2] at hb
          cases hb
      exact PR.no (k := 0) (c := 1) (by simp) (fun hp hC => by obtain ⟨hT, hO, hL, hH, t0, A0, hS⟩ := hC; exact c_gets_no2 (d := 0) hO hL ok (by omega) hT hS hA hcn) (fun hp th co h1 h2 => m_gets_no2 (d := 0) h1 h2 ok (by omega) hA hb)
    | false =>
      obtain ⟨e, he, rfl⟩ := r_bits (m_bi_lt (by omega)) hb
      have hcv : c_cv (mt s) e 5 = true := by
        rw [m_cvE he] at hb
        cases hq : c_cv (mt s) e 5 with
        | true => rfl
        | false => rw [hq] at hb; cases hb
      cases hz : am_c2 .eq z (am_ic (-1)) with
      | true =>
        have hz := of_decide_eq_true hz
        subst hz
        exact PR.sale h (v := nI (sl_dv (mt s) A e 5)) (fun hp hC => by obtain ⟨hT, hO, hL, hH, t0, A0, hS⟩ := hC; exact c_gets1 (d := 0) hO hL ok (by omega) hT hS hA he hcv) (fun hp th co h1 h2 hQ => m_gets1 (d := 0) h1 h2 ok (by omega) hQ hA he hcv)
      | false =>
        cases hc : rg_r (nI 0) (nI (s 0)) z with
        | false =>
          exact PR.no (k := 2) (c := 2) (by simp) (fun hp hC => by obtain ⟨hT, hO, hL, hH, t0, A0, hS⟩ := hC; exact c_gets_no3 (d := 0) hO hL ok (by omega) hT hS hA he hcv hz (by rw [r_cl h.1]; exact hc)) (fun hp th co h1 h2 => m_gets_no3 (d := 0) h1 h2 ok (by omega) hA he hcv hz hc)
        | true =>
          obtain ⟨c, -, hc9, rfl⟩ := rg_of hc (by omega) (by omega)
          exact PR.sale h (v := nI (sl_dv (mt s) A e c)) (fun hp hC => by obtain ⟨hT, hO, hL, hH, t0, A0, hS⟩ := hC; exact c_gets2 (d := 0) hO hL ok (by omega) hT hS hA he hcv (by rw [mt_n]; omega)) (fun hp th co h1 h2 hQ => m_gets2 (d := 0) h1 h2 ok (by omega) hQ hA he hcv hc9)
theorem p_brings (h : RL K s f kn nx ks hs) (hK : K ≤ 800) (x y : Int32) : PR 82 134 [.int x, .int y] [(0, 1), (2, 2)] K s f kn nx ks := by
  have ok := h.1.ok
  obtain ⟨g0, g1, g2, g3, g4, g5, g6⟩ := id h.1
  cases hx : rg_r (nI 0) (nI 2000000000) x with
  | false =>
    exact PR.no (k := 0) (c := 1) (by simp) (fun hp hC => by obtain ⟨hT, hO, hL, hH, t0, A0, hS⟩ := hC; exact c_brings_no1 (d := 0) hO hL ok (by omega) hT hS hx) (fun hp th co h1 h2 => m_brings_no1 (d := 0) h1 h2 ok (by omega) hx)
  | true =>
    obtain ⟨A, -, hA, rfl⟩ := rg_of hx (by omega) (by omega)
    cases hy : rg_r (nI 0) (nI 7) y with
    | false =>
      exact PR.no (k := 2) (c := 2) (by simp) (fun hp hC => by obtain ⟨hT, hO, hL, hH, t0, A0, hS⟩ := hC; exact c_brings_no2 (d := 0) hO hL ok (by omega) hT hS hA hy) (fun hp th co h1 h2 => m_brings_no2 (d := 0) h1 h2 ok (by omega) hA hy)
    | true =>
      obtain ⟨k, -, hk, rfl⟩ := rg_of hy (by omega) (by omega)
      cases hs9 : sl_set (mt s) A with
      | none => exact PR.sale h (v := am_ic (-1)) (fun hp hC => by obtain ⟨hT, hO, hL, hH, t0, A0, hS⟩ := hC; exact c_brings1 (d := 0) hO hL ok (by omega) hT hS hA (by omega) hs9) (fun hp th co h1 h2 hQ => m_brings1 (d := 0) h1 h2 ok (by omega) hQ hA (by omega) hs9)
      | some e => exact PR.sale h (v := nI (sl_br (mt s) A e k 5)) (fun hp hC => by obtain ⟨hT, hO, hL, hH, t0, A0, hS⟩ := hC; exact c_brings2 (d := 0) hO hL ok (by omega) hT hS hA (by omega) hs9) (fun hp th co h1 h2 hQ => m_brings2 (d := 0) h1 h2 ok (by omega) hQ hA (by omega) hs9)
theorem p_flip (h : RL K s f kn nx ks hs) (hK : K ≤ 800) (x y : Int32) : PR 85 135 [.int x, .int y] [(0, 1)] K s f kn nx ks := by
  have ok := h.1.ok
  obtain ⟨g0, g1, g2, g3, g4, g5, g6⟩ := id h.1
  cases hx : rg_r (nI 0) (nI 2000000000) x with
  | false =>
    exact PR.no (k := 0) (c := 1) (by simp) (fun hp hC => by obtain ⟨hT, hO, hL, hH, t0, A0, hS⟩ := hC; exact c_flip_no1 (d := 0) hO hL ok (by omega) hT hS hx) (fun hp th co h1 h2 => m_flip_no1 (d := 0) h1 h2 ok (by omega) hx)
  | true =>
    obtain ⟨A, -, hA, rfl⟩ := rg_of hx (by omega) (by omega)
    cases hy : rg_r (nI 0) (nI 2000000000) y with
    | false =>
      exact PR.no (k := 0) (c := 1) (by simp) (fun hp hC => by obtain ⟨hT, hO, hL, hH, t0, A0, hS⟩ := hC; exact c_flip_no2 (d := 0) hO hL ok (by omega) hT hS hA hy) (fun hp th co h1 h2 => m_flip_no2 (d := 0) h1 h2 ok (by omega) hA hy)
    | true =>
      obtain ⟨Z, -, hZ, rfl⟩ := rg_of hy (by omega) (by omega)
      by_cases hge : Z ≤ A
      ·
        exact PR.no (k := 0) (c := 1) (by simp) (fun hp hC => by obtain ⟨hT, hO, hL, hH, t0, A0, hS⟩ := hC; exact c_flip_no3 (d := 0) hO hL ok (by omega) hT hS hA hZ hge) (fun hp th co h1 h2 => m_flip_no3 (d := 0) h1 h2 ok (by omega) hA hZ hge)
      by_cases hs9 : sl_set (mt s) Z = sl_set (mt s) A
      · exact PR.sale h (v := am_ic (-1)) (fun hp hC => by obtain ⟨hT, hO, hL, hH, t0, A0, hS⟩ := hC; exact c_flip1 (d := 0) hO hL ok (by omega) hT hS hA hZ (by omega) hs9) (fun hp th co h1 h2 hQ => m_flip1 (d := 0) h1 h2 ok (by omega) hQ hA hZ (by omega) hs9)
      · exact PR.sale h (v := nI (sl_fl (fun m => decide (sl_set (mt s) m = sl_set (mt s) A)) 64 A Z)) (fun hp hC => by obtain ⟨hT, hO, hL, hH, t0, A0, hS⟩ := hC; exact c_flip2 (d := 0) hO hL ok (by omega) hT hS hA hZ (by omega) hs9) (fun hp th co h1 h2 hQ => m_flip2 (d := 0) h1 h2 ok (by omega) hQ hA hZ (by omega) hs9)
end P94
