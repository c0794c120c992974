/-! The two sides of a call: what class and reference do alike. -/
theorem Sal.kept {hp hp1 : am_H} {t : Nat → Nat} {A : Nat} (h : Sal hp t A) (hk : ∀ a, 212 ≤ a → a < 238 → hp1[a]? = hp[a]?) : Sal hp1 t A := by
  obtain ⟨hO, hSh, ⟨f14, h14⟩, ⟨g15, h15⟩, h16, ⟨f34, h34⟩, ⟨f35, h35⟩, ⟨f36, h36⟩, ⟨f37, h37⟩, dd, hdd, hro⟩ := h
  refine ⟨(hk _ (by omega) (by omega)).trans hO, (hk _ (by omega) (by omega)).trans hSh, ⟨_, (hk _ (by omega) (by omega)).trans h14⟩, ⟨_, (hk _ (by omega) (by omega)).trans h15⟩, (hk _ (by omega) (by omega)).trans h16, ⟨_, (hk _ (by omega) (by omega)).trans h34⟩, ⟨_, (hk _ (by omega) (by omega)).trans h35⟩, ⟨_, (hk _ (by omega) (by omega)).trans h36⟩, ⟨_, (hk _ (by omega) (by omega)).trans h37⟩, dd, (hk _ (by omega) (by omega)).trans hdd, fun e he => ?_⟩
  obtain ⟨u1, u2, u3, u4⟩ := hro e he
  exact ⟨u1, u2, (hk _ (by omega) (by omega)).trans u3, u4⟩
/-- the class's cells -/
def CS (hp : am_H) (t : Nat → Nat) (nx ct : Nat) (ks : Nat → Nat → Nat) : Prop := hp[1]? = some (100, am_ia (fun k => nI (sl_ord k)) 16) ∧ hp[2]? = some (0, [.ref 3, .ref 26, .ref 212]) ∧ Led hp 3 t ∧ c_H hp 26 nx ct ks ∧ ∃ t0 A0, Sal hp t0 A0
theorem CS.kept {hp hp1 : am_H} {t : Nat → Nat} {nx ct : Nat} {ks : Nat → Nat → Nat} (h : CS hp t nx ct ks) (hk : ∀ a, 1 ≤ a → a < 238 → hp1[a]? = hp[a]?) : CS hp1 t nx ct ks := by
  obtain ⟨hT, hO, hL, hH, t0, A0, hS⟩ := h
  exact ⟨(hk _ (by omega) (by omega)).trans hT, (hk _ (by omega) (by omega)).trans hO, hL.kept (fun a ha => by obtain ⟨a1, a2⟩ := ha; exact hk a (by omega) (by omega)), hH.kept (fun a ha => by obtain ⟨a1, a2⟩ := ha; exact hk a (by omega) (by omega)), t0, A0, hS.kept (fun a a1 a2 => hk a (by omega) a2)⟩
theorem CS.chg {hp hp1 : am_H} {t T t' : Nat → Nat} {nx ct nx' ct' : Nat} {ks ks' : Nat → Nat → Nat} (h : CS hp t nx ct ks) (hL : Led hp1 3 T) (hH : c_H hp1 26 nx' ct' ks') (hf : am_fr c_all hp hp1) (e : ∀ q, q < 154 → T q = t' q) : CS hp1 t' nx' ct' ks' ∧ am_fr (fun x => 3 ≤ x ∧ x < 238) hp hp1 := by
  obtain ⟨hT, hO, -, -, t0, A0, hS⟩ := h
  have hk : ∀ a, a < 3 ∨ 212 ≤ a → hp1[a]? = hp[a]? := fun a ha => hf.2.2 a (fun q => by obtain ⟨_, _⟩ := q; omega)
  exact ⟨⟨(hk _ (by omega)).trans hT, (hk _ (by omega)).trans hO, hL.congr e, hH, t0, A0, hS.kept (fun a a1 a2 => hk a (by omega))⟩, hf.mono (fun a q => by obtain ⟨_, _⟩ := q; exact ⟨by omega, by omega⟩)⟩
theorem CS.sale {hp hp1 : am_H} {t : Nat → Nat} {nx ct : Nat} {ks : Nat → Nat → Nat} (h : CS hp t nx ct ks) (hS : ∃ t1 A1, Sal hp1 t1 A1) (hf : am_fr (fun x => 212 ≤ x ∧ x < 238) hp hp1) : CS hp1 t nx ct ks ∧ am_fr (fun x => 3 ≤ x ∧ x < 238) hp hp1 := by
  obtain ⟨hT, hO, hL, hH, -⟩ := h
  have hk : ∀ a, a < 212 → hp1[a]? = hp[a]? := fun a ha => hf.2.2 a (fun q => by obtain ⟨_, _⟩ := q; omega)
  exact ⟨⟨(hk _ (by omega)).trans hT, (hk _ (by omega)).trans hO, hL.kept (fun a ha => by obtain ⟨_, _⟩ := ha; exact hk a (by omega)), hH.kept (fun a ha => by obtain ⟨_, _⟩ := ha; exact hk a (by omega)), hS⟩, hf.mono (fun a q => by obtain ⟨_, _⟩ := q; exact ⟨by omega, by omega⟩)⟩
/-- the reference's cells -/
def MS (hp : am_H) (s : Nat → Nat) (f : Nat → Int32) (kn th : Nat) : Prop := m_Sl hp s th kn ∧ hp[240]? = some (100, am_ia f 1280) ∧ ∃ pf : Nat → Int32, hp[245]? = some (100, am_ia pf 5)
theorem MS.kept {hp hp1 : am_H} {s : Nat → Nat} {f : Nat → Int32} {kn th : Nat} (h : MS hp s f kn th) (hk : ∀ a, 238 ≤ a → a < 246 → hp1[a]? = hp[a]?) : MS hp1 s f kn th := by
  obtain ⟨⟨⟨co, hM⟩, hS, ⟨f1, h1⟩, ⟨f2, h2⟩, ⟨f3, h3⟩, ⟨f4, h4⟩⟩, hF, pf, hP⟩ := h
  exact ⟨⟨⟨co, (hk _ (by omega) (by omega)).trans hM⟩, (hk _ (by omega) (by omega)).trans hS, ⟨_, (hk _ (by omega) (by omega)).trans h1⟩, ⟨_, (hk _ (by omega) (by omega)).trans h2⟩, ⟨_, (hk _ (by omega) (by omega)).trans h3⟩, ⟨_, (hk _ (by omega) (by omega)).trans h4⟩⟩, (hk _ (by omega) (by omega)).trans hF, pf, (hk _ (by omega) (by omega)).trans hP⟩
/-- what is remembered behind a change -/
def KF (s : Nat → Nat) (f : Nat → Int32) (kn : Nat) (f1 : Nat → Int32) : Prop := (∀ k, k < 160 → f1 (160 * m_kn kn + k) = nI (s k)) ∧ ∀ q, q < 160 * m_kn kn → f1 q = if kn = 8 then f (q + 160) else f q
theorem MS.chg {hp hp1 : am_H} {s s' : Nat → Nat} {f : Nat → Int32} {kn th co : Nat} (h : MS hp s f kn th) (hc : m_Chg hp f kn co s s' hp1) : (∃ f1, MS hp1 s' f1 (m_kn kn + 1) 0 ∧ KF s f kn f1) ∧ am_fr (fun x => 238 ≤ x ∧ x < 246) hp hp1 := by
  obtain ⟨⟨-, -, ⟨f1, h1⟩, ⟨f2, h2⟩, ⟨f3, h3⟩, ⟨f4, h4⟩⟩, -, pf, hP⟩ := h
  obtain ⟨hM, hS, ⟨g, hg, g1, g2⟩, hf⟩ := hc
  have hk : ∀ a, 241 ≤ a → hp1[a]? = hp[a]? := fun a ha => hf.2.2 a (fun q => by obtain ⟨_, _⟩ := q; omega)
  exact ⟨⟨g, ⟨⟨⟨co, hM⟩, hS, ⟨_, (hk _ (by omega)).trans h1⟩, ⟨_, (hk _ (by omega)).trans h2⟩, ⟨_, (hk _ (by omega)).trans h3⟩, ⟨_, (hk _ (by omega)).trans h4⟩⟩, hg, pf, (hk _ (by omega)).trans hP⟩, g1, g2⟩, hf.mono (fun a q => by obtain ⟨_, _⟩ := q; exact ⟨by omega, by omega⟩)⟩
theorem MS.chgI {hp hp1 : am_H} {s s' : Nat → Nat} {f : Nat → Int32} {kn th co : Nat} (h : MS hp s f kn th) (hc : m_ChgI hp f kn co s s' hp1) : (∃ f1, MS hp1 s' f1 (m_kn kn + 1) 0 ∧ KF s f kn f1) ∧ am_fr (fun x => 238 ≤ x ∧ x < 246) hp hp1 := by
  obtain ⟨⟨-, -, ⟨f1, h1⟩, ⟨f2, h2⟩, ⟨f3, h3⟩, ⟨f4, h4⟩⟩, -, pf, hP⟩ := h
  obtain ⟨hM, hS, ⟨g, hg, g1, g2⟩, hP2, hf⟩ := hc
  have hk : ∀ a, 241 ≤ a → a < 245 → hp1[a]? = hp[a]? := fun a a1 a2 => hf.2.2 a (fun q => by omega)
  exact ⟨⟨g, ⟨⟨⟨co, hM⟩, hS, ⟨_, (hk _ (by omega) (by omega)).trans h1⟩, ⟨_, (hk _ (by omega) (by omega)).trans h2⟩, ⟨_, (hk _ (by omega) (by omega)).trans h3⟩, ⟨_, (hk _ (by omega) (by omega)).trans h4⟩⟩, hg, hP2⟩, g1, g2⟩, hf.mono (fun a q => by omega)⟩
theorem MS.th {hp : am_H} {s : Nat → Nat} {f : Nat → Int32} {kn th co k : Nat} (h : MS hp s f kn th) (hM : hp[238]? = some (7, m_ob th kn co)) : MS (hp.set 238 (7, m_ob k kn co)) s f kn k ∧ am_fr (fun x => 238 ≤ x ∧ x < 246) hp (hp.set 238 (7, m_ob k kn co)) := by
  obtain ⟨hQ, hF, pf, hP⟩ := h
  exact ⟨⟨m_Sl.th hM hQ, (am_sn (by omega)).trans hF, pf, (am_sn (by omega)).trans hP⟩, am_fr.rf.set ⟨by omega, by omega⟩ hM rfl⟩
theorem MS.sale {hp hp1 : am_H} {s : Nat → Nat} {f : Nat → Int32} {kn th : Nat} (h : MS hp s f kn th) (hQ : m_Sl hp1 s 0 kn) (hf : am_fr (fun x => x = 238 ∨ x = 241 ∨ x = 242 ∨ x = 243 ∨ x = 244) hp hp1) : MS hp1 s f kn 0 ∧ am_fr (fun x => 238 ≤ x ∧ x < 246) hp hp1 := by
  obtain ⟨-, hF, pf, hP⟩ := h
  exact ⟨⟨hQ, (hf.2.2 240 (fun q => by omega)).trans hF, pf, (hf.2.2 245 (fun q => by omega)).trans hP⟩, hf.mono (fun a q => by omega)⟩
/-- what is remembered on both sides -/
def HR (K : Nat) (f : Nat → Int32) (kn nx : Nat) (ks hs : Nat → Nat → Nat) : Prop := ∀ i, i < kn → (∀ k, k < 160 → f (160 * i + k) = nI (hs i k)) ∧ (∀ q, q < 154 → ks ((nx + 8 - kn + i) % 8) q = mt (hs i) q) ∧ s_ok K (hs i)
def RL (K : Nat) (s : Nat → Nat) (f : Nat → Int32) (kn nx : Nat) (ks hs : Nat → Nat → Nat) : Prop := s_ok K s ∧ kn ≤ 8 ∧ nx < 8 ∧ HR K f kn nx ks hs
theorem RL.more {K : Nat} {s : Nat → Nat} {f : Nat → Int32} {kn nx : Nat} {ks hs : Nat → Nat → Nat} (h : RL K s f kn nx ks hs) : RL (K + 1) s f kn nx ks hs :=
  ⟨h.1.more (by omega), h.2.1, h.2.2.1, fun i hi => ⟨(h.2.2.2 i hi).1, (h.2.2.2 i hi).2.1, (h.2.2.2 i hi).2.2.more (by omega)⟩⟩
theorem m_kn1 {kn : Nat} (h : kn ≤ 8) : m_kn kn + 1 = min (kn + 1) 8 := by
  unfold m_kn
  split <;> omega
theorem RL.chg {K : Nat} {s s' : Nat → Nat} {f f1 : Nat → Int32} {kn nx : Nat} {ks hs : Nat → Nat → Nat} (h : RL K s f kn nx ks hs) (hk : KF s f kn f1) (ok : s_ok (K + 1) s') : ∃ hs', RL (K + 1) s' f1 (m_kn kn + 1) ((nx + 1) % 8) (va_up ks nx (mt s)) hs' := by
  obtain ⟨h0, h8, hx, hr⟩ := h
  refine ⟨fun i => if i = m_kn kn then s else if kn = 8 then hs (i + 1) else hs i, ok, by rw [m_kn1 h8]; omega, by omega, fun i hi => ?_⟩
  dsimp only
  by_cases e : i = m_kn kn
  · rw [if_pos e]
    refine ⟨fun k hk2 => by rw [e]; exact hk.1 k hk2, fun q hq => ?_, h0.more (by omega)⟩
    rw [show ((nx + 1) % 8 + 8 - (m_kn kn + 1) + i) % 8 = nx by rw [e]; unfold m_kn; split <;> omega, va_up_self]
  · rw [if_neg e]
    have hi2 : i < m_kn kn := by omega
    by_cases e8 : kn = 8
    · rw [if_pos e8]
      have h7 : m_kn kn = 7 := by unfold m_kn; rw [if_pos e8]
      obtain ⟨r1, r2, r3⟩ := hr (i + 1) (by omega)
      refine ⟨fun k hk2 => ?_, fun q hq => ?_, r3.more (by omega)⟩
      · rw [hk.2 _ (by omega), if_pos e8, show 160 * i + k + 160 = 160 * (i + 1) + k by omega]
        exact r1 k hk2
      · rw [va_up_ne _ _ (by omega), show ((nx + 1) % 8 + 8 - (m_kn kn + 1) + i) % 8 = (nx + 8 - kn + (i + 1)) % 8 by omega]
        exact r2 q hq
    · rw [if_neg e8]
      have h7 : m_kn kn = kn := by unfold m_kn; rw [if_neg e8]
      obtain ⟨r1, r2, r3⟩ := hr i (by omega)
      refine ⟨fun k hk2 => ?_, fun q hq => ?_, r3.more (by omega)⟩
      · rw [hk.2 _ (by omega), if_neg e8]
        exact r1 k hk2
      · rw [va_up_ne _ _ (by omega), show ((nx + 1) % 8 + 8 - (m_kn kn + 1) + i) % 8 = (nx + 8 - kn + i) % 8 by omega]
        exact r2 q hq
theorem RL.undo {K : Nat} {s : Nat → Nat} {f : Nat → Int32} {kn nx : Nat} {ks hs : Nat → Nat → Nat} (h : RL K s f kn nx ks hs) (h1 : 1 ≤ kn) : RL (K + 1) (hs (kn - 1)) f (kn - 1) ((nx + 7) % 8) ks hs ∧ (∀ q, q < 154 → ks ((nx + 7) % 8) q = mt (hs (kn - 1)) q) ∧ ∀ k, k < 160 → f (160 * (kn - 1) + k) = nI (hs (kn - 1) k) := by
  obtain ⟨h0, h8, hx, hr⟩ := h
  obtain ⟨r1, r2, r3⟩ := hr (kn - 1) (by omega)
  refine ⟨⟨r3.more (by omega), by omega, by omega, fun i hi => ?_⟩, fun q hq => ?_, r1⟩
  · obtain ⟨t1, t2, t3⟩ := hr i (by omega)
    refine ⟨t1, fun q hq => ?_, t3.more (by omega)⟩
    rw [show ((nx + 7) % 8 + 8 - (kn - 1) + i) % 8 = (nx + 8 - kn + i) % 8 by omega]
    exact t2 q hq
  · rw [show (nx + 7) % 8 = (nx + 8 - kn + (kn - 1)) % 8 by omega]
    exact r2 q hq
/-- a call of class and reference that comes out alike -/
def COk (j : Nat) (args : List Value) (v : Int32) (t : Nat → Nat) (nx ct : Nat) (ks : Nat → Nat → Nat) (t' : Nat → Nat) (nx' ct' : Nat) (ks' : Nat → Nat → Nat) : Prop := ∀ hp, CS hp t nx ct ks → am_Rq 7 j 0 (am_en (.ref 2 :: args) (am_mx j)) [] hp (am_Ret fun hp1 r => r = some (.int v) ∧ CS hp1 t' nx' ct' ks' ∧ am_fr (fun x => 3 ≤ x ∧ x < 238) hp hp1)
def CNo (j : Nat) (args : List Value) (k : Nat) (t : Nat → Nat) (nx ct : Nat) (ks : Nat → Nat → Nat) : Prop := ∀ hp, CS hp t nx ct ks → am_Rq 7 j 0 (am_en (.ref 2 :: args) (am_mx j)) [] hp (c_No k hp)
def MOk (j : Nat) (args : List Value) (v : Int32) (s : Nat → Nat) (f : Nat → Int32) (kn : Nat) (s' : Nat → Nat) (kn' : Nat) (Pf : (Nat → Int32) → Prop) : Prop := ∀ hp th, MS hp s f kn th → am_Rq 8 j 0 (am_en (.ref 238 :: args) (am_mx j)) [] hp (am_Ret fun hp1 r => r = some (.int v) ∧ (∃ f', MS hp1 s' f' kn' 0 ∧ Pf f') ∧ am_fr (fun x => 238 ≤ x ∧ x < 246) hp hp1)
def MNo (j : Nat) (args : List Value) (c : Nat) (s : Nat → Nat) (f : Nat → Int32) (kn : Nat) : Prop := ∀ hp th, MS hp s f kn th → am_Rq 8 j 0 (am_en (.ref 238 :: args) (am_mx j)) [] hp (am_Ret fun hp1 r => r = some (.int (nI 0)) ∧ MS hp1 s f kn c ∧ am_fr (fun x => 238 ≤ x ∧ x < 246) hp hp1)
def PR (jc jm : Nat) (args : List Value) (cd : List (Nat × Nat)) (K : Nat) (s : Nat → Nat) (f : Nat → Int32) (kn nx : Nat) (ks : Nat → Nat → Nat) : Prop :=
  (∃ (v : Int32) (s' : Nat → Nat) (kn' nx' : Nat) (ks' : Nat → Nat → Nat), COk jc args v (mt s) nx kn ks (mt s') nx' kn' ks' ∧ MOk jm args v s f kn s' kn' (fun f' => ∃ hs', RL (K + 1) s' f' kn' nx' ks' hs')) ∨ ∃ k c, (k, c) ∈ cd ∧ CNo jc args k (mt s) nx kn ks ∧ MNo jm args c s f kn
section PRS
variable {jc jm K kn nx : Nat} {args : List Value} {cd : List (Nat × Nat)} {s : Nat → Nat} {f : Nat → Int32} {ks hs : Nat → Nat → Nat}
theorem PR.chg (h : RL K s f kn nx ks hs) {v : Int32} {s' T : Nat → Nat} (hc : ∀ hp, CS hp (mt s) nx kn ks → am_Rq 7 jc 0 (am_en (.ref 2 :: args) (am_mx jc)) [] hp (am_Ret fun hp1 r => r = some (.int v) ∧ Led hp1 3 T ∧ c_H hp1 26 ((nx + 1) % 8) (min (kn + 1) 8) (va_up ks nx (mt s)) ∧ am_fr c_all hp hp1)) (hm : ∀ hp th co, hp[238]? = some (7, m_ob th kn co) → hp[239]? = some (100, am_ia (fun i => nI (s i)) 160) → hp[240]? = some (100, am_ia f 1280) → am_Rq 8 jm 0 (am_en (.ref 238 :: args) (am_mx jm)) [] hp (am_Ret fun hp1 r => r = some (.int v) ∧ m_Chg hp f kn co s s' hp1)) (e : ∀ q, q < 154 → T q = mt s' q) (ok : s_ok (K + 1) s') : PR jc jm args cd K s f kn nx ks := by
  refine Or.inl ⟨v, s', m_kn kn + 1, (nx + 1) % 8, va_up ks nx (mt s), fun hp hC => ?_, fun hp th hM => ?_⟩
  · refine (hc hp hC).mono (fun hp1 o q => ?_)
    obtain ⟨r, q0, q1, q2, q3, q4⟩ := q
    rw [← m_kn1 h.2.1] at q3
    obtain ⟨z1, z2⟩ := hC.chg q2 q3 q4 e
    exact ⟨r, q0, q1, z1, z2⟩
  · have hM2 := hM
    obtain ⟨⟨⟨co, hO⟩, hS, -⟩, hF, -⟩ := hM2
    refine (hm hp th co hO hS hF).mono (fun hp1 o q => ?_)
    obtain ⟨r, q0, q1, q2⟩ := q
    obtain ⟨⟨f1, z1, z2⟩, z3⟩ := hM.chg q2
    exact ⟨r, q0, q1, ⟨f1, z1, h.chg z2 ok⟩, z3⟩
theorem PR.read (h : RL K s f kn nx ks hs) {v : Int32} (hc : ∀ hp, CS hp (mt s) nx kn ks → am_Rq 7 jc 0 (am_en (.ref 2 :: args) (am_mx jc)) [] hp (am_Ret fun hp1 r => hp1 = hp ∧ r = some (.int v))) (hm : ∀ hp th co, hp[238]? = some (7, m_ob th kn co) → hp[239]? = some (100, am_ia (fun i => nI (s i)) 160) → am_Rq 8 jm 0 (am_en (.ref 238 :: args) (am_mx jm)) [] hp (am_Ret fun hp1 r => hp1 = hp.set 238 (7, m_ob 0 kn co) ∧ r = some (.int v))) : PR jc jm args cd K s f kn nx ks := by
  refine Or.inl ⟨v, s, kn, nx, ks, fun hp hC => ?_, fun hp th hM => ?_⟩
  · refine (hc hp hC).mono (fun hp1 o q => ?_)
    obtain ⟨r, q0, q1, q2⟩ := q
    subst q1
    exact ⟨r, q0, q2, hC, am_fr.rf⟩
  · have hM2 := hM
    obtain ⟨⟨⟨co, hO⟩, hS, -⟩, hF, -⟩ := hM2
    refine (hm hp th co hO hS).mono (fun hp1 o q => ?_)
    obtain ⟨r, q0, q1, q2⟩ := q
    subst q1
    obtain ⟨z1, z2⟩ := hM.th (k := 0) hO
    exact ⟨r, q0, q2, ⟨f, z1, hs, h.more⟩, z2⟩
theorem PR.no {k c : Nat} (hin : (k, c) ∈ cd) (hc : ∀ hp, CS hp (mt s) nx kn ks → am_Rq 7 jc 0 (am_en (.ref 2 :: args) (am_mx jc)) [] hp (c_No k hp)) (hm : ∀ hp th co, hp[238]? = some (7, m_ob th kn co) → hp[239]? = some (100, am_ia (fun i => nI (s i)) 160) → am_Rq 8 jm 0 (am_en (.ref 238 :: args) (am_mx jm)) [] hp (am_Ret fun hp1 r => hp1 = hp.set 238 (7, m_ob c kn co) ∧ r = some (.int (nI 0)))) : PR jc jm args cd K s f kn nx ks := by
  refine Or.inr ⟨k, c, hin, hc, fun hp th hM => ?_⟩
  have hM2 := hM
  obtain ⟨⟨⟨co, hO⟩, hS, -⟩, hF, -⟩ := hM2
  refine (hm hp th co hO hS).mono (fun hp1 o q => ?_)
  obtain ⟨r, q0, q1, q2⟩ := q
  subst q1
  obtain ⟨z1, z2⟩ := hM.th (k := c) hO
  exact ⟨r, q0, q2, z1, z2⟩
theorem PR.sale (h : RL K s f kn nx ks hs) {v : Int32} (hc : ∀ hp, CS hp (mt s) nx kn ks → am_Rq 7 jc 0 (am_en (.ref 2 :: args) (am_mx jc)) [] hp (am_Ret fun hp1 r => r = some (.int v) ∧ (∃ t1 A1, Sal hp1 t1 A1) ∧ am_fr (fun x => 212 ≤ x ∧ x < 238) hp hp1)) (hm : ∀ hp th co, hp[238]? = some (7, m_ob th kn co) → hp[239]? = some (100, am_ia (fun i => nI (s i)) 160) → m_Sl hp s th kn → am_Rq 8 jm 0 (am_en (.ref 238 :: args) (am_mx jm)) [] hp (am_Ret fun hp1 r => r = some (.int v) ∧ m_Sl hp1 s 0 kn ∧ am_fr (fun x => x = 238 ∨ x = 241 ∨ x = 242 ∨ x = 243 ∨ x = 244) hp hp1)) : PR jc jm args cd K s f kn nx ks := by
  refine Or.inl ⟨v, s, kn, nx, ks, fun hp hC => ?_, fun hp th hM => ?_⟩
  · refine (hc hp hC).mono (fun hp1 o q => ?_)
    obtain ⟨r, q0, q1, q2, q3⟩ := q
    obtain ⟨z1, z2⟩ := hC.sale q2 q3
    exact ⟨r, q0, q1, z1, z2⟩
  · have hM2 := hM
    obtain ⟨hQ, hF, -⟩ := hM2
    have hQ2 := hQ
    obtain ⟨⟨co, hO⟩, hS, -⟩ := hQ2
    refine (hm hp th co hO hS hQ).mono (fun hp1 o q => ?_)
    obtain ⟨r, q0, q1, q2, q3⟩ := q
    obtain ⟨z1, z2⟩ := hM.sale q2 q3
    exact ⟨r, q0, q1, ⟨f, z1, hs, h.more⟩, z2⟩
end PRS
