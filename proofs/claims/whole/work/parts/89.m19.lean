/-! The reference's sale: isStable, setOf (rows by prog/m19.py). -/
/-- the reference's cells that a sale uses -/
def m_Sl (hp : am_H) (s : Nat → Nat) (th kn : Nat) : Prop := (∃ co, hp[238]? = some (7, m_ob th kn co)) ∧ hp[239]? = some (100, am_ia (fun i => nI (s i)) 160) ∧ (∃ f : Nat → Int64, hp[241]? = some (101, am_la f 8)) ∧ (∃ f : Nat → Int64, hp[242]? = some (101, am_la f 8)) ∧ (∃ f : Nat → Int64, hp[243]? = some (101, am_la f 8)) ∧ ∃ f : Nat → Int64, hp[244]? = some (101, am_la f 5)
/-- the classes in issue, as bits -/
def m_bi (t : Nat → Nat) : Nat → Nat
  | 0 => 0
  | n + 1 => if 1 ≤ n ∧ 0 < t (8 * n + 7) then m_bi t n ||| 1 <<< (n - 1) else m_bi t n
theorem m_or : ∀ b, b < 16 → ∀ c, c < 5 → 1 ≤ c → nI b ||| (nI 1 <<< (nI (c - 1) &&& 31)) = nI (b ||| 1 <<< (c - 1)) ∧ b ||| 1 <<< (c - 1) < 16 := by decide +kernel
theorem m_bi_lt {t : Nat → Nat} : ∀ {n : Nat}, n ≤ 5 → m_bi t n < 16
  | 0, _ => by show 0 < 16; omega
  | n + 1, h => by
    have h1 := m_bi_lt (t := t) (n := n) (by omega)
    simp only [m_bi]
    split
    · rename_i z
      exact (m_or _ h1 n (by omega) z.1).2
    · exact h1
theorem m_bi_bit {t : Nat → Nat} {c : Nat} (h1 : 1 ≤ c) : ∀ {n : Nat}, n ≤ 5 → Nat.testBit (m_bi t n) (c - 1) = (decide (c < n) && decide (0 < t (8 * c + 7)))
  | 0, _ => by simp [m_bi]
  | n + 1, h => by
    have ih := m_bi_bit (t := t) h1 (n := n) (by omega)
    simp only [m_bi]
    by_cases z : 1 ≤ n ∧ 0 < t (8 * n + 7)
    · rw [if_pos z, Nat.testBit_or, ih, Nat.one_shiftLeft, Nat.testBit_two_pow]
      by_cases e : c = n
      · subst e
        rw [decide_eq_true (show c - 1 = c - 1 from rfl), Bool.or_true, decide_eq_true (show c < c + 1 by omega), decide_eq_true z.2]
        rfl
      · rw [decide_eq_false (show ¬ n - 1 = c - 1 by omega), Bool.or_false]
        by_cases l : c < n
        · rw [decide_eq_true l, decide_eq_true (show c < n + 1 by omega)]
        · rw [decide_eq_false l, decide_eq_false (show ¬ c < n + 1 by omega)]
    · rw [if_neg z, ih]
      by_cases e : c = n
      · subst e
        rw [decide_eq_false (show ¬ c < c by omega), decide_eq_false (show ¬ 0 < t (8 * c + 7) by omega), Bool.and_false, Bool.and_false]
      · by_cases l : c < n
        · rw [decide_eq_true l, decide_eq_true (show c < n + 1 by omega)]
        · rw [decide_eq_false l, decide_eq_false (show ¬ c < n + 1 by omega)]
theorem m_bi_tail {t : Nat → Nat} {n : Nat} (hn : n ≤ 5) (h : ∀ c, n ≤ c → c < 5 → t (8 * c + 7) = 0) : ∀ m, n ≤ m → m ≤ 5 → m_bi t m = m_bi t n
  | 0, h1, _ => by have : n = 0 := by omega
                   subst this; rfl
  | m + 1, h1, h2 => by
    by_cases e : n = m + 1
    · subst e; rfl
    · simp only [m_bi]
      rw [if_neg (fun z => by have := h m (by omega) (by omega); omega)]
      exact m_bi_tail hn h m (by omega) (by omega)
theorem m_and : ∀ x, x < 16 → ∀ b, b < 16 → am_c1 .ne (nI x &&& (nI b ^^^ am_ic (-1))) = !((List.range 5).all fun c => !(Nat.testBit x (c - 1) && (decide (1 ≤ c) && !Nat.testBit b (c - 1)))) := by decide +kernel
/-- a set that the reference takes is one that the class takes -/
theorem m_cvE {t : Nat → Nat} {x : Nat} (hx : x < 16) : am_c1 .ne (nI x &&& (nI (m_bi t 5) ^^^ am_ic (-1))) = !(c_cv t x 5) := by
  rw [m_and x hx _ (m_bi_lt (by omega))]
  congr 1
  unfold c_cv
  have e : ∀ c, c < 5 → (!(Nat.testBit x (c - 1) && (decide (1 ≤ c) && !Nat.testBit (m_bi t 5) (c - 1)))) = !(Nat.testBit x (c - 1) && (decide (1 ≤ c) && decide (t (8 * c + 7) = 0))) := fun c hc => by
    by_cases h1 : 1 ≤ c
    · rw [m_bi_bit h1 (by omega), decide_eq_true hc, Bool.true_and]
      by_cases z : t (8 * c + 7) = 0
      · rw [decide_eq_true z, decide_eq_false (show ¬ 0 < t (8 * c + 7) by omega)]
        rfl
      · rw [decide_eq_false z, decide_eq_true (show 0 < t (8 * c + 7) by omega)]
        rfl
    · rw [decide_eq_false h1, Bool.false_and, Bool.false_and]
  rw [Bool.eq_iff_iff, List.all_eq_true, List.all_eq_true]
  exact ⟨fun h c hc => by rw [← e c (List.mem_range.mp hc)]; exact h c hc, fun h c hc => by rw [e c (List.mem_range.mp hc)]; exact h c hc⟩
theorem m_bt : ∀ x, x < 16 → ((nI x &&& nI 1) + ((nI x >>> (nI 1 &&& 31)) &&& nI 1) + ((nI x >>> (nI 2 &&& 31)) &&& nI 1) + ((nI x >>> (nI 3 &&& 31)) &&& nI 1)) = nI (sl_bt x) ∧ sl_bt x < 5 := by decide +kernel
section M19
variable {d : Nat} {hp : am_H}
theorem m_bits {th kn co : Nat} (hM : hp[238]? = some (7, [.int (nI th), .ref 239, .ref 240, .int (nI kn), .ref 241, .ref 242, .ref 243, .ref 244, .long (lN co), .ref 245])) {s : Nat → Nat} (hS : hp[239]? = some (100, am_ia (fun i => nI (s i)) 160)) {K : Nat} (ok : c_ok K (mt s)) (hK : K ≤ 900)  : am_Rq (d + 1) 121 0 (am_en [.ref 238] 3) [] hp (am_Ret fun hp1 v => hp1 = hp ∧ v = some (.int (nI (m_bi (mt s) 5)))) := by
  show am_Rq _ 121 0 [some (.ref 238), none, none] [] _ _
  have hs0 := mt_s0 ok
  have hB := ok.b (by omega)
  refine am_Rq.blk (is := [(.iconst 0, 1), (.istore_n 1, 1), (.iconst 1, 1), (.istore_n 2, 1)]) (q := (4, [some (.ref 238), some (.int (nI 0)), some (.int (nI 1))], [])) (by decide +kernel) rfl ?_
  dsimp only
  have key : ∀ hz, hz = hp → am_Rq (d + 1) 121 4 [some (.ref 238), some (.int (nI 0)), some (.int (nI 1))] [] hz (am_Ret fun hp1 v => hp1 = hp ∧ v = some (.int (nI (m_bi (mt s) 5)))) := ?_
  · exact key hp rfl
  intro hz hze
  subst hze
  refine am_for (n := (s 0 + 1)) (fun i lo hp => lo = [some (.ref 238), some (.int (nI (m_bi (mt s) i))), some (.int (nI i))] ∧ hp = hz ∧ 1 ≤ i) ?_ ?_ (i := 1) (by omega) ⟨rfl, rfl, Nat.le_refl _⟩
  · rintro i lo hp hi ⟨rfl, rfl, hi1⟩ ih
    have b7 := hB (8 * i + 7) (by omega)
    obtain ⟨o1, o2⟩ := m_or _ (m_bi_lt (t := mt s) (n := i) (by omega)) i (by omega) hi1
    refine am_Rq.blk (is := [(.iload_n 2, 1), (.aload_n 0, 1)]) (q := (6, [some (.ref 238), some (.int (nI (m_bi (mt s) i))), some (.int (nI i))], [.ref 238, .int (nI i)])) (by decide +kernel) rfl ?_
    dsimp only
    refine am_Rq.getf (v := .ref 239) (show decode (am_by 121) 6 = .ok (.getfield 7, 3) by decide +kernel) rfl hM rfl ?_
    refine am_Rq.blk (is := [(.iconst 0, 1)]) (q := (10, [some (.ref 238), some (.int (nI (m_bi (mt s) i))), some (.int (nI i))], [.int (nI 0), .ref 239, .int (nI i)])) (by decide +kernel) rfl ?_
    dsimp only
    refine am_Rq.ial (k := 0) (show decode (am_by 121) 10 = .ok (.iaload, 1) by decide +kernel) hS (by omega) (by omega) ?_
    refine am_Rq.if2F (show decode (am_by 121) 11 = .ok (.if_icmp .gt 29, 3) by decide +kernel) (by decide) (by rw [nm_gt (by omega) (by omega)]; exact decide_eq_false (by omega)) ?_
    refine am_Rq.blk (is := [(.aload_n 0, 1), (.iload_n 2, 1)]) (q := (16, [some (.ref 238), some (.int (nI (m_bi (mt s) i))), some (.int (nI i))], [.int (nI i), .ref 238])) (by decide +kernel) rfl ?_
    dsimp only
    refine am_Rq.callV (show decode (am_by 121) 16 = .ok (.invokevirtual 49, 3) by decide +kernel) rfl [.int (nI i)] [] rfl rfl (Nat.le_of_ble_eq_true rfl) rfl hM rfl (m_issT hM hS (c := i) (by omega)) ?_
    rintro hq _ ⟨e1, rfl⟩
    rw [e1]
    clear e1 hq
    show am_Rq _ 121 19 [some (.ref 238), some (.int (nI (m_bi (mt s) i))), some (.int (nI i))] [.int (nI (mt s (8 * i + 7)))] _ _
    refine am_Rq.if1 (t := 32) (show decode (am_by 121) 19 = .ok (.ifCond .le 13, 3) by decide +kernel) (by decide) (fun h7 => ?_) (fun h7 => ?_)
    ·
      rw [nm_le0 (by omega)] at h7
      have h7 := of_decide_eq_true h7
      refine am_Rq.blk (is := [(.iload_n 1, 1), (.istore_n 1, 1), (.iinc 2 1, 3)]) (q := (37, [some (.ref 238), some (.int (nI (m_bi (mt s) i))), some (.int ((nI i) + (nI 1)))], [])) (by decide +kernel) rfl ?_
      dsimp only
      rw [show (nI i) + (nI 1) = nI (i + 1) from nI_add _ _]
      refine am_Rq.blk (is := [(.goto (-33), 3)]) (q := (4, [some (.ref 238), some (.int (nI (m_bi (mt s) i))), some (.int (nI (i + 1)))], [])) (by decide +kernel) rfl ?_
      dsimp only
      exact ih _ _ ⟨by simp only [m_bi]; rw [if_neg (by omega)], rfl, by omega⟩
    ·
      rw [nm_le0 (by omega)] at h7
      have h7 := of_decide_eq_false h7
      refine am_Rq.blk (is := [(.iload_n 1, 1), (.iconst 1, 1), (.iload_n 2, 1), (.iconst 1, 1), (.isub, 1)]) (q := (27, [some (.ref 238), some (.int (nI (m_bi (mt s) i))), some (.int (nI i))], [.int ((nI i) - (nI 1)), .int (nI 1), .int (nI (m_bi (mt s) i))])) (by decide +kernel) rfl ?_
      dsimp only
      rw [show (nI i) - (nI 1) = nI (i - 1) from nm_isub (by omega)]
      refine am_Rq.blk (is := [(.ishl, 1), (.ior, 1)]) (q := (29, [some (.ref 238), some (.int (nI (m_bi (mt s) i))), some (.int (nI i))], [.int ((nI (m_bi (mt s) i)) ||| ((nI 1) <<< ((nI (i - 1)) &&& 31)))])) (by decide +kernel) rfl ?_
      dsimp only
      rw [o1]
      refine am_Rq.blk (is := [(.goto 4, 3)]) (q := (33, [some (.ref 238), some (.int (nI (m_bi (mt s) i))), some (.int (nI i))], [.int (nI (m_bi (mt s) i ||| 1 <<< (i - 1)))])) (by decide +kernel) rfl ?_
      dsimp only
      refine am_Rq.blk (is := [(.istore_n 1, 1), (.iinc 2 1, 3)]) (q := (37, [some (.ref 238), some (.int (nI (m_bi (mt s) i ||| 1 <<< (i - 1)))), some (.int ((nI i) + (nI 1)))], [])) (by decide +kernel) rfl ?_
      dsimp only
      rw [show (nI i) + (nI 1) = nI (i + 1) from nI_add _ _]
      refine am_Rq.blk (is := [(.goto (-33), 3)]) (q := (4, [some (.ref 238), some (.int (nI (m_bi (mt s) i ||| 1 <<< (i - 1)))), some (.int (nI (i + 1)))], [])) (by decide +kernel) rfl ?_
      dsimp only
      exact ih _ _ ⟨by simp only [m_bi]; rw [if_pos (by omega)], rfl, by omega⟩
  · rintro lo hp ⟨rfl, rfl, hi1⟩
    refine am_Rq.blk (is := [(.iload_n 2, 1), (.aload_n 0, 1)]) (q := (6, [some (.ref 238), some (.int (nI (m_bi (mt s) (s 0 + 1)))), some (.int (nI (s 0 + 1)))], [.ref 238, .int (nI (s 0 + 1))])) (by decide +kernel) rfl ?_
    dsimp only
    refine am_Rq.getf (v := .ref 239) (show decode (am_by 121) 6 = .ok (.getfield 7, 3) by decide +kernel) rfl hM rfl ?_
    refine am_Rq.blk (is := [(.iconst 0, 1)]) (q := (10, [some (.ref 238), some (.int (nI (m_bi (mt s) (s 0 + 1)))), some (.int (nI (s 0 + 1)))], [.int (nI 0), .ref 239, .int (nI (s 0 + 1))])) (by decide +kernel) rfl ?_
    dsimp only
    refine am_Rq.ial (k := 0) (show decode (am_by 121) 10 = .ok (.iaload, 1) by decide +kernel) hS (by omega) (by omega) ?_
    refine am_Rq.if2T (t := 40) (show decode (am_by 121) 11 = .ok (.if_icmp .gt 29, 3) by decide +kernel) (by decide) (by rw [nm_gt (by omega) (by omega)]; exact decide_eq_true (by omega)) ?_
    refine am_Rq.blk (is := [(.iload_n 1, 1)]) (q := (41, [some (.ref 238), some (.int (nI (m_bi (mt s) (s 0 + 1)))), some (.int (nI (s 0 + 1)))], [.int (nI (m_bi (mt s) (s 0 + 1)))])) (by decide +kernel) rfl ?_
    dsimp only
    refine am_Rq.ret (v := some (.int (nI (m_bi (mt s) (s 0 + 1))))) (show decode (am_by 121) 41 = .ok (.ireturn, 1) by decide +kernel) rfl rfl ?_
    refine ⟨_, rfl, rfl, ?_⟩
    rw [m_bi_tail (t := mt s) (n := s 0 + 1) (by omega) (fun c c1 c2 => mt_out ok (by omega) c2) 5 (by omega) (by omega)]
theorem m_bitsOf {x : Nat} (hx : x < 16) : am_Rq d 122 0 (am_en [.int (nI x)] 1) [] hp (am_Ret fun hp1 v => hp1 = hp ∧ v = some (.int (nI (sl_bt x)))) := by
  show am_Rq _ 122 0 [some (.int (nI x))] [] _ _
  refine am_Rq.blk (is := [(.iload_n 0, 1), (.iconst 1, 1), (.iand, 1), (.iload_n 0, 1), (.iconst 1, 1), (.ishr, 1), (.iconst 1, 1), (.iand, 1), (.iadd, 1), (.iload_n 0, 1), (.iconst 2, 1), (.ishr, 1), (.iconst 1, 1), (.iand, 1), (.iadd, 1), (.iload_n 0, 1), (.iconst 3, 1), (.ishr, 1), (.iconst 1, 1), (.iand, 1), (.iadd, 1)]) (q := (21, [some (.int (nI x))], [.int (((((nI x) &&& (nI 1)) + (((nI x) >>> ((nI 1) &&& 31)) &&& (nI 1))) + (((nI x) >>> ((nI 2) &&& 31)) &&& (nI 1))) + (((nI x) >>> ((nI 3) &&& 31)) &&& (nI 1)))])) (by decide +kernel) rfl ?_
  dsimp only
  refine am_Rq.ret (v := some (.int (((((nI x) &&& (nI 1)) + (((nI x) >>> ((nI 1) &&& 31)) &&& (nI 1))) + (((nI x) >>> ((nI 2) &&& 31)) &&& (nI 1))) + (((nI x) >>> ((nI 3) &&& 31)) &&& (nI 1))))) (show decode (am_by 122) 21 = .ok (.ireturn, 1) by decide +kernel) rfl rfl ?_
  exact ⟨_, rfl, rfl, by rw [(m_bt x hx).1]⟩
theorem m_isStable {s : Nat → Nat} {th kn : Nat} (hQ : m_Sl hp s th kn) {K : Nat} (ok : c_ok K (mt s)) (hK : K ≤ 900) {A e : Nat} (hA : A ≤ 2000000000) (he : e < 16) : am_Rq (d + 6) 123 0 (am_en [.ref 238, .int (nI A), .int (nI e)] 7) [] hp (am_Ret fun hp1 v => v = some (.int (nI (am_b (sl_st (mt s) A e 5)))) ∧ m_Sl hp1 s th kn ∧ am_fr (fun x => x = 238 ∨ x = 241 ∨ x = 242 ∨ x = 243 ∨ x = 244) hp hp1) := by
  show am_Rq _ 123 0 [some (.ref 238), some (.int (nI A)), some (.int (nI e)), none, none, none, none] [] _ _
  have hs0 := mt_s0 ok
  have hB := ok.b (by omega)
  obtain ⟨⟨co, hM⟩, hS, h1, h2, h3, h4⟩ := hQ
  refine am_Rq.blk (is := [(.aload_n 0, 1)]) (q := (1, [some (.ref 238), some (.int (nI A)), some (.int (nI e)), none, none, none, none], [.ref 238])) (by decide +kernel) rfl ?_
  dsimp only
  refine am_Rq.callV (show decode (am_by 123) 1 = .ok (.invokevirtual 125, 3) by decide +kernel) rfl [] [] rfl rfl (Nat.le_of_ble_eq_true rfl) rfl hM rfl (m_bits hM hS ok hK) ?_
  rintro hq _ ⟨e1, rfl⟩
  rw [e1]
  clear e1 hq
  show am_Rq _ 123 4 [some (.ref 238), some (.int (nI A)), some (.int (nI e)), none, none, none, none] [.int (nI (m_bi (mt s) 5))] _ _
  refine am_Rq.blk (is := [(.istore_n 3, 1), (.iconst 1, 1), (.istore 4, 2)]) (q := (8, [some (.ref 238), some (.int (nI A)), some (.int (nI e)), some (.int (nI (m_bi (mt s) 5))), some (.int (nI 1)), none, none], [])) (by decide +kernel) rfl ?_
  dsimp only
  have key : ∀ hz, hz = hp → am_Rq (d + 6) 123 8 [some (.ref 238), some (.int (nI A)), some (.int (nI e)), some (.int (nI (m_bi (mt s) 5))), some (.int (nI 1)), none, none] [] hz (am_Ret fun hp1 v => v = some (.int (nI (am_b (sl_st (mt s) A e 5)))) ∧ m_Sl hp1 s th kn ∧ am_fr (fun x => x = 238 ∨ x = 241 ∨ x = 242 ∨ x = 243 ∨ x = 244) hp hp1) := ?_
  · exact key hp rfl
  intro hz hze
  subst hze
  refine am_for (n := 5) (fun i lo hp => ∃ z5 z6 : Option Value, lo = [some (.ref 238), some (.int (nI A)), some (.int (nI e)), some (.int (nI (m_bi (mt s) 5))), some (.int (nI i)), z5, z6] ∧ 1 ≤ i ∧ sl_st (mt s) A e i = true ∧ m_Sl hp s th kn ∧ am_fr (fun x => x = 238 ∨ x = 241 ∨ x = 242 ∨ x = 243 ∨ x = 244) hz hp) ?_ ?_ (i := 1) (by omega) ⟨_, _, rfl, Nat.le_refl _, rfl, ⟨⟨co, hM⟩, hS, h1, h2, h3, h4⟩, am_fr.rf⟩
  · rintro i lo hp hi ⟨z5, z6, rfl, hi1, hst, ⟨⟨co, hM⟩, hS, ⟨f1, h1⟩, ⟨f2, h2⟩, ⟨f3, h3⟩, ⟨f4, h4⟩⟩, hf0⟩ ih
    obtain ⟨x1, x2, x3⟩ := c_xor e he i (by omega) hi1
    have b7 := hB (8 * i + 7) (by omega)
    refine am_Rq.blk (is := [(.iload 4, 2), (.iconst 5, 1)]) (q := (11, [some (.ref 238), some (.int (nI A)), some (.int (nI e)), some (.int (nI (m_bi (mt s) 5))), some (.int (nI i)), z5, z6], [.int (nI 5), .int (nI i)])) (by decide +kernel) rfl ?_
    dsimp only
    refine am_Rq.if2F (show decode (am_by 123) 11 = .ok (.if_icmp .ge 64, 3) by decide +kernel) (by decide) (by rw [nm_ge (by omega) (by omega)]; exact decide_eq_false (by omega)) ?_
    refine am_Rq.blk (is := [(.iload_n 3, 1), (.iload 4, 2), (.iconst 1, 1), (.isub, 1), (.ishr, 1), (.iconst 1, 1), (.iand, 1), (.iconst 1, 1)]) (q := (23, [some (.ref 238), some (.int (nI A)), some (.int (nI e)), some (.int (nI (m_bi (mt s) 5))), some (.int (nI i)), z5, z6], [.int (nI 1), .int (((nI (m_bi (mt s) 5)) >>> (((nI i) - (nI 1)) &&& 31)) &&& (nI 1))])) (by decide +kernel) rfl ?_
    dsimp only
    refine am_Rq.if2 (t := 69) (show decode (am_by 123) 23 = .ok (.if_icmp .ne 46, 3) by decide +kernel) (by decide) (fun hb => ?_) (fun hb => ?_)
    ·
      rw [c_bits (m_bi (mt s) 5) (m_bi_lt (by omega)) i (by omega) hi1, m_bi_bit hi1 (by omega), decide_eq_true (show i < 5 by omega), Bool.true_and, Bool.not_eq_true'] at hb
      have hb := of_decide_eq_false hb
      refine am_Rq.blk (is := [(.iinc 4 1, 3)]) (q := (72, [some (.ref 238), some (.int (nI A)), some (.int (nI e)), some (.int (nI (m_bi (mt s) 5))), some (.int ((nI i) + (nI 1))), z5, z6], [])) (by decide +kernel) rfl ?_
      dsimp only
      rw [show (nI i) + (nI 1) = nI (i + 1) from nI_add _ _]
      refine am_Rq.blk (is := [(.goto (-64), 3)]) (q := (8, [some (.ref 238), some (.int (nI A)), some (.int (nI e)), some (.int (nI (m_bi (mt s) 5))), some (.int (nI (i + 1))), z5, z6], [])) (by decide +kernel) rfl ?_
      dsimp only
      exact ih _ _ ⟨_, _, rfl, by omega, by rw [sl_st_succ, hst, decide_eq_false hb, Bool.false_and, Bool.and_false]; rfl, ⟨⟨co, hM⟩, hS, ⟨_, h1⟩, ⟨_, h2⟩, ⟨_, h3⟩, ⟨_, h4⟩⟩, hf0⟩
    ·
      rw [c_bits (m_bi (mt s) 5) (m_bi_lt (by omega)) i (by omega) hi1, m_bi_bit hi1 (by omega), decide_eq_true (show i < 5 by omega), Bool.true_and, Bool.not_eq_false'] at hb
      have hb := of_decide_eq_true hb
      refine am_Rq.blk (is := [(.aload_n 0, 1), (.iload_n 1, 1), (.iload_n 2, 1)]) (q := (29, [some (.ref 238), some (.int (nI A)), some (.int (nI e)), some (.int (nI (m_bi (mt s) 5))), some (.int (nI i)), z5, z6], [.int (nI e), .int (nI A), .ref 238])) (by decide +kernel) rfl ?_
      dsimp only
      refine am_Rq.callV (show decode (am_by 123) 29 = .ok (.invokevirtual 128, 3) by decide +kernel) rfl [.int (nI A), .int (nI e)] [] rfl rfl (Nat.le_of_ble_eq_true rfl) rfl hM rfl (m_divide (e := e) hM hS ok hK hA he h1 h2 h3 h4) ?_
      rintro hp1 _ ⟨rfl, hMp, hGp, ⟨a1p, y1p⟩, ⟨a2p, y2p⟩, ⟨a3p, y3p⟩, hf1⟩
      have hc1_239 := (hf1.2.2 (239) (fun q => by omega)).trans hS
      show am_Rq _ 123 32 [some (.ref 238), some (.int (nI A)), some (.int (nI e)), some (.int (nI (m_bi (mt s) 5))), some (.int (nI i)), z5, z6] [] _ _
      refine am_Rq.blk (is := [(.aload_n 0, 1)]) (q := (33, [some (.ref 238), some (.int (nI A)), some (.int (nI e)), some (.int (nI (m_bi (mt s) 5))), some (.int (nI i)), z5, z6], [.ref 238])) (by decide +kernel) rfl ?_
      dsimp only
      refine am_Rq.getf (v := .ref 244) (show decode (am_by 123) 33 = .ok (.getfield 26, 3) by decide +kernel) rfl hMp rfl ?_
      refine am_Rq.blk (is := [(.iload 4, 2)]) (q := (38, [some (.ref 238), some (.int (nI A)), some (.int (nI e)), some (.int (nI (m_bi (mt s) 5))), some (.int (nI i)), z5, z6], [.int (nI i), .ref 244])) (by decide +kernel) rfl ?_
      dsimp only
      refine am_Rq.lal (k := i) (show decode (am_by 123) 38 = .ok (.laload, 1) by decide +kernel) hGp (by omega) (by omega) ?_
      refine am_Rq.blk (is := [(.lstore 5, 2), (.aload_n 0, 1), (.iload_n 1, 1), (.iload_n 2, 1), (.iconst 1, 1), (.iload 4, 2), (.iconst 1, 1), (.isub, 1)]) (q := (49, [some (.ref 238), some (.int (nI A)), some (.int (nI e)), some (.int (nI (m_bi (mt s) 5))), some (.int (nI i)), some (.long (lN (sl_dv (mt s) A e i))), none], [.int ((nI i) - (nI 1)), .int (nI 1), .int (nI e), .int (nI A), .ref 238])) (by decide +kernel) rfl ?_
      dsimp only
      rw [show (nI i) - (nI 1) = nI (i - 1) from nm_isub (by omega)]
      refine am_Rq.blk (is := [(.ishl, 1), (.ixor, 1)]) (q := (51, [some (.ref 238), some (.int (nI A)), some (.int (nI e)), some (.int (nI (m_bi (mt s) 5))), some (.int (nI i)), some (.long (lN (sl_dv (mt s) A e i))), none], [.int ((nI e) ^^^ ((nI 1) <<< ((nI (i - 1)) &&& 31))), .int (nI A), .ref 238])) (by decide +kernel) rfl ?_
      dsimp only
      rw [x1]
      refine am_Rq.callV (show decode (am_by 123) 51 = .ok (.invokevirtual 128, 3) by decide +kernel) rfl [.int (nI A), .int (nI (e ^^^ 1 <<< (i - 1)))] [] rfl rfl (Nat.le_of_ble_eq_true rfl) rfl hMp rfl (m_divide (e := e ^^^ 1 <<< (i - 1)) hMp hc1_239 ok hK hA x2 y1p y2p y3p hGp) ?_
      rintro hp2 _ ⟨rfl, hMr, hGr, ⟨a1r, y1r⟩, ⟨a2r, y2r⟩, ⟨a3r, y3r⟩, hf2⟩
      have hc2_239 := (hf2.2.2 (239) (fun q => by omega)).trans hc1_239
      show am_Rq _ 123 54 [some (.ref 238), some (.int (nI A)), some (.int (nI e)), some (.int (nI (m_bi (mt s) 5))), some (.int (nI i)), some (.long (lN (sl_dv (mt s) A e i))), none] [] _ _
      have o1 : sl_dv (mt s) A e i ≤ A := dv_out_le _ _ _ _ _ _ (by omega)
      have o2 : sl_dv (mt s) A (e ^^^ 1 <<< (i - 1)) i ≤ A := dv_out_le _ _ _ _ _ _ (by omega)
      refine am_Rq.blk (is := [(.aload_n 0, 1)]) (q := (55, [some (.ref 238), some (.int (nI A)), some (.int (nI e)), some (.int (nI (m_bi (mt s) 5))), some (.int (nI i)), some (.long (lN (sl_dv (mt s) A e i))), none], [.ref 238])) (by decide +kernel) rfl ?_
      dsimp only
      refine am_Rq.getf (v := .ref 244) (show decode (am_by 123) 55 = .ok (.getfield 26, 3) by decide +kernel) rfl hMr rfl ?_
      refine am_Rq.blk (is := [(.iload 4, 2)]) (q := (60, [some (.ref 238), some (.int (nI A)), some (.int (nI e)), some (.int (nI (m_bi (mt s) 5))), some (.int (nI i)), some (.long (lN (sl_dv (mt s) A e i))), none], [.int (nI i), .ref 244])) (by decide +kernel) rfl ?_
      dsimp only
      refine am_Rq.lal (k := i) (show decode (am_by 123) 60 = .ok (.laload, 1) by decide +kernel) hGr (by omega) (by omega) ?_
      refine am_Rq.blk (is := [(.lload 5, 2), (.lcmp, 1)]) (q := (64, [some (.ref 238), some (.int (nI A)), some (.int (nI e)), some (.int (nI (m_bi (mt s) 5))), some (.int (nI i)), some (.long (lN (sl_dv (mt s) A e i))), none], [.int (lg_cmp (lN (sl_dv (mt s) A (e ^^^ 1 <<< (i - 1)) i)) (lN (sl_dv (mt s) A e i)))])) (by decide +kernel) rfl ?_
      dsimp only
      refine am_Rq.if1 (t := 69) (show decode (am_by 123) 64 = .ok (.ifCond .le 5, 3) by decide +kernel) (by decide) (fun hle => ?_) (fun hle => ?_)
      ·
        have hle := of_decide_eq_true ((nm_cle _ _).symm.trans hle)
        rw [nm_lle (a := (sl_dv (mt s) A (e ^^^ 1 <<< (i - 1)) i)) (b := (sl_dv (mt s) A e i)) (by omega) (by omega)] at hle
        refine am_Rq.blk (is := [(.iinc 4 1, 3)]) (q := (72, [some (.ref 238), some (.int (nI A)), some (.int (nI e)), some (.int (nI (m_bi (mt s) 5))), some (.int ((nI i) + (nI 1))), some (.long (lN (sl_dv (mt s) A e i))), none], [])) (by decide +kernel) rfl ?_
        dsimp only
        rw [show (nI i) + (nI 1) = nI (i + 1) from nI_add _ _]
        refine am_Rq.blk (is := [(.goto (-64), 3)]) (q := (8, [some (.ref 238), some (.int (nI A)), some (.int (nI e)), some (.int (nI (m_bi (mt s) 5))), some (.int (nI (i + 1))), some (.long (lN (sl_dv (mt s) A e i))), none], [])) (by decide +kernel) rfl ?_
        dsimp only
        exact ih _ _ ⟨_, _, rfl, by omega, by rw [sl_st_succ, hst, decide_eq_false (show ¬ sl_dv (mt s) A e i < sl_dv (mt s) A (e ^^^ 1 <<< (i - 1)) i by omega), Bool.and_false, Bool.and_false]; rfl, ⟨⟨_, hMr⟩, hc2_239, ⟨_, y1r⟩, ⟨_, y2r⟩, ⟨_, y3r⟩, ⟨_, hGr⟩⟩, ((hf0.trans (hf1.mono (A' := fun x => x = 238 ∨ x = 241 ∨ x = 242 ∨ x = 243 ∨ x = 244) (fun x q => by omega))).trans (hf2.mono (A' := fun x => x = 238 ∨ x = 241 ∨ x = 242 ∨ x = 243 ∨ x = 244) (fun x q => by omega)))⟩
      ·
        have hle := of_decide_eq_false ((nm_cle _ _).symm.trans hle)
        rw [nm_lle (a := (sl_dv (mt s) A (e ^^^ 1 <<< (i - 1)) i)) (b := (sl_dv (mt s) A e i)) (by omega) (by omega)] at hle
        refine am_Rq.blk (is := [(.iconst 0, 1)]) (q := (68, [some (.ref 238), some (.int (nI A)), some (.int (nI e)), some (.int (nI (m_bi (mt s) 5))), some (.int (nI i)), some (.long (lN (sl_dv (mt s) A e i))), none], [.int (nI 0)])) (by decide +kernel) rfl ?_
        dsimp only
        refine am_Rq.ret (v := some (.int (nI 0))) (show decode (am_by 123) 68 = .ok (.ireturn, 1) by decide +kernel) rfl rfl ?_
        refine ⟨_, rfl, ?_, ⟨⟨_, hMr⟩, hc2_239, ⟨_, y1r⟩, ⟨_, y2r⟩, ⟨_, y3r⟩, ⟨_, hGr⟩⟩, ((hf0.trans (hf1.mono (A' := fun x => x = 238 ∨ x = 241 ∨ x = 242 ∨ x = 243 ∨ x = 244) (fun x q => by omega))).trans (hf2.mono (A' := fun x => x = 238 ∨ x = 241 ∨ x = 242 ∨ x = 243 ∨ x = 244) (fun x q => by omega)))⟩
        rw [sl_st_false hi (by rw [decide_eq_true hi1, decide_eq_true hb, decide_eq_true (show sl_dv (mt s) A e i < sl_dv (mt s) A (e ^^^ 1 <<< (i - 1)) i by omega)]; rfl)]
        rfl
  · rintro lo hp ⟨z5, z6, rfl, hi1, hst, ⟨⟨co, hM⟩, hS, ⟨f1, h1⟩, ⟨f2, h2⟩, ⟨f3, h3⟩, ⟨f4, h4⟩⟩, hf0⟩
    refine am_Rq.blk (is := [(.iload 4, 2), (.iconst 5, 1)]) (q := (11, [some (.ref 238), some (.int (nI A)), some (.int (nI e)), some (.int (nI (m_bi (mt s) 5))), some (.int (nI 5)), z5, z6], [.int (nI 5), .int (nI 5)])) (by decide +kernel) rfl ?_
    dsimp only
    refine am_Rq.if2T (t := 75) (show decode (am_by 123) 11 = .ok (.if_icmp .ge 64, 3) by decide +kernel) (by decide) (by rw [nm_ge (by omega) (by omega)]; exact decide_eq_true (by omega)) ?_
    refine am_Rq.blk (is := [(.iconst 1, 1)]) (q := (76, [some (.ref 238), some (.int (nI A)), some (.int (nI e)), some (.int (nI (m_bi (mt s) 5))), some (.int (nI 5)), z5, z6], [.int (nI 1)])) (by decide +kernel) rfl ?_
    dsimp only
    refine am_Rq.ret (v := some (.int (nI 1))) (show decode (am_by 123) 76 = .ok (.ireturn, 1) by decide +kernel) rfl rfl ?_
    exact ⟨_, rfl, by rw [hst]; rfl, ⟨⟨co, hM⟩, hS, ⟨_, h1⟩, ⟨_, h2⟩, ⟨_, h3⟩, ⟨_, h4⟩⟩, hf0⟩
theorem m_setOf {s : Nat → Nat} {th kn : Nat} (hQ : m_Sl hp s th kn) {K : Nat} (ok : c_ok K (mt s)) (hK : K ≤ 900) {A : Nat} (hA : A ≤ 2000000000) : am_Rq (d + 7) 120 0 (am_en [.ref 238, .int (nI A)] 5) [] hp (am_Ret fun hp1 v => v = some (.int (sl_v (sl_set (mt s) A))) ∧ m_Sl hp1 s th kn ∧ am_fr (fun x => x = 238 ∨ x = 241 ∨ x = 242 ∨ x = 243 ∨ x = 244) hp hp1) := by
  show am_Rq _ 120 0 [some (.ref 238), some (.int (nI A)), none, none, none] [] _ _
  obtain ⟨⟨co, hM⟩, hS, h1⟩ := hQ
  refine am_Rq.blk (is := [(.aload_n 0, 1)]) (q := (1, [some (.ref 238), some (.int (nI A)), none, none, none], [.ref 238])) (by decide +kernel) rfl ?_
  dsimp only
  refine am_Rq.callV (show decode (am_by 120) 1 = .ok (.invokevirtual 125, 3) by decide +kernel) rfl [] [] rfl rfl (Nat.le_of_ble_eq_true rfl) rfl hM rfl (m_bits hM hS ok hK) ?_
  rintro hq _ ⟨e1, rfl⟩
  rw [e1]
  clear e1 hq
  show am_Rq _ 120 4 [some (.ref 238), some (.int (nI A)), none, none, none] [.int (nI (m_bi (mt s) 5))] _ _
  refine am_Rq.blk (is := [(.istore_n 2, 1), (.iconst 0, 1), (.istore_n 3, 1)]) (q := (7, [some (.ref 238), some (.int (nI A)), some (.int (nI (m_bi (mt s) 5))), some (.int (nI 0)), none], [])) (by decide +kernel) rfl ?_
  dsimp only
  have key : ∀ hz, hz = hp → am_Rq (d + 7) 120 7 [some (.ref 238), some (.int (nI A)), some (.int (nI (m_bi (mt s) 5))), some (.int (nI 0)), none] [] hz (am_Ret fun hp1 v => v = some (.int (sl_v (sl_set (mt s) A))) ∧ m_Sl hp1 s th kn ∧ am_fr (fun x => x = 238 ∨ x = 241 ∨ x = 242 ∨ x = 243 ∨ x = 244) hp hp1) := ?_
  · exact key hp rfl
  intro hz hze
  subst hze
  refine am_for (n := 5) (fun i lo hp => ∃ z4 : Option Value, lo = [some (.ref 238), some (.int (nI A)), some (.int (nI (m_bi (mt s) 5))), some (.int (nI i)), z4] ∧ (∀ x, x < 16 → 16 * sl_bt x + x < 16 * i + 0 → sl_ok (mt s) A x = false) ∧ m_Sl hp s th kn ∧ am_fr (fun x => x = 238 ∨ x = 241 ∨ x = 242 ∨ x = 243 ∨ x = 244) hz hp) ?_ ?_ (i := 0) (by omega) ⟨_, rfl, fun x _ h => by omega, ⟨⟨co, hM⟩, hS, h1⟩, am_fr.rf⟩
  · rintro i lo hp hi ⟨z4, rfl, hx, hQ, hf0⟩ ih
    refine am_Rq.blk (is := [(.iload_n 3, 1), (.iconst 5, 1)]) (q := (9, [some (.ref 238), some (.int (nI A)), some (.int (nI (m_bi (mt s) 5))), some (.int (nI i)), z4], [.int (nI 5), .int (nI i)])) (by decide +kernel) rfl ?_
    dsimp only
    refine am_Rq.if2F (show decode (am_by 120) 9 = .ok (.if_icmp .ge 56, 3) by decide +kernel) (by decide) (by rw [nm_ge (by omega) (by omega)]; exact decide_eq_false (by omega)) ?_
    refine am_Rq.blk (is := [(.iconst 0, 1), (.istore 4, 2)]) (q := (15, [some (.ref 238), some (.int (nI A)), some (.int (nI (m_bi (mt s) 5))), some (.int (nI i)), some (.int (nI 0))], [])) (by decide +kernel) rfl ?_
    dsimp only
    refine am_for (n := 16) (fun q lo hp => lo = [some (.ref 238), some (.int (nI A)), some (.int (nI (m_bi (mt s) 5))), some (.int (nI i)), some (.int (nI q))] ∧ (∀ x, x < 16 → 16 * sl_bt x + x < 16 * i + q → sl_ok (mt s) A x = false) ∧ m_Sl hp s th kn ∧ am_fr (fun x => x = 238 ∨ x = 241 ∨ x = 242 ∨ x = 243 ∨ x = 244) hz hp) ?_ ?_ (i := 0) (by omega) ⟨rfl, hx, hQ, hf0⟩
    · rintro q lo hp hq ⟨rfl, hx, hQ, hf0⟩ ihq
      refine am_Rq.blk (is := [(.iload 4, 2), (.bipush 16, 2)]) (q := (19, [some (.ref 238), some (.int (nI A)), some (.int (nI (m_bi (mt s) 5))), some (.int (nI i)), some (.int (nI q))], [.int (nI 16), .int (nI q)])) (by decide +kernel) rfl ?_
      dsimp only
      refine am_Rq.if2F (show decode (am_by 120) 19 = .ok (.if_icmp .ge 40, 3) by decide +kernel) (by decide) (by rw [nm_ge (by omega) (by omega)]; exact decide_eq_false (by omega)) ?_
      have hbt := (m_bt q hq).2
      refine am_Rq.blk (is := [(.iload 4, 2)]) (q := (24, [some (.ref 238), some (.int (nI A)), some (.int (nI (m_bi (mt s) 5))), some (.int (nI i)), some (.int (nI q))], [.int (nI q)])) (by decide +kernel) rfl ?_
      dsimp only
      refine am_Rq.callS (show decode (am_by 120) 24 = .ok (.invokestatic 132, 3) by decide +kernel) rfl [.int (nI q)] [] rfl rfl (Nat.le_of_ble_eq_true rfl) rfl rfl (m_bitsOf hq) ?_
      rintro hq _ ⟨e1, rfl⟩
      rw [e1]
      clear e1 hq
      show am_Rq _ 120 27 [some (.ref 238), some (.int (nI A)), some (.int (nI (m_bi (mt s) 5))), some (.int (nI i)), some (.int (nI q))] [.int (nI (sl_bt q))] _ _
      refine am_Rq.blk (is := [(.iload_n 3, 1)]) (q := (28, [some (.ref 238), some (.int (nI A)), some (.int (nI (m_bi (mt s) 5))), some (.int (nI i)), some (.int (nI q))], [.int (nI i), .int (nI (sl_bt q))])) (by decide +kernel) rfl ?_
      dsimp only
      refine am_Rq.if2 (t := 53) (show decode (am_by 120) 28 = .ok (.if_icmp .ne 25, 3) by decide +kernel) (by decide) (fun hbm => ?_) (fun hbm => ?_)
      ·
        rw [nm_ne (by omega) (by omega)] at hbm
        have hbm := of_decide_eq_true hbm
        refine am_Rq.blk (is := [(.iinc 4 1, 3)]) (q := (56, [some (.ref 238), some (.int (nI A)), some (.int (nI (m_bi (mt s) 5))), some (.int (nI i)), some (.int ((nI q) + (nI 1)))], [])) (by decide +kernel) rfl ?_
        dsimp only
        rw [show (nI q) + (nI 1) = nI (q + 1) from nI_add _ _]
        refine am_Rq.blk (is := [(.goto (-41), 3)]) (q := (15, [some (.ref 238), some (.int (nI A)), some (.int (nI (m_bi (mt s) 5))), some (.int (nI i)), some (.int (nI (q + 1)))], [])) (by decide +kernel) rfl ?_
        dsimp only
        refine ihq _ _ ⟨rfl, fun x x1 x2 => ?_, hQ, hf0⟩
        by_cases ex : 16 * sl_bt x + x = 16 * i + q
        · have : x = q := by omega
          subst this
          omega
        · exact hx x x1 (by omega)
      ·
        rw [nm_ne (by omega) (by omega)] at hbm
        have hbm := of_decide_eq_false hbm
        refine am_Rq.blk (is := [(.iload 4, 2), (.iload_n 2, 1), (.iconst (-1), 1), (.ixor, 1), (.iand, 1)]) (q := (37, [some (.ref 238), some (.int (nI A)), some (.int (nI (m_bi (mt s) 5))), some (.int (nI i)), some (.int (nI q))], [.int ((nI q) &&& ((nI (m_bi (mt s) 5)) ^^^ (am_ic (-1))))])) (by decide +kernel) rfl ?_
        dsimp only
        refine am_Rq.if1 (t := 53) (show decode (am_by 120) 37 = .ok (.ifCond .ne 16, 3) by decide +kernel) (by decide) (fun hc => ?_) (fun hc => ?_)
        ·
          rw [m_cvE hq, Bool.not_eq_true'] at hc
          refine am_Rq.blk (is := [(.iinc 4 1, 3)]) (q := (56, [some (.ref 238), some (.int (nI A)), some (.int (nI (m_bi (mt s) 5))), some (.int (nI i)), some (.int ((nI q) + (nI 1)))], [])) (by decide +kernel) rfl ?_
          dsimp only
          rw [show (nI q) + (nI 1) = nI (q + 1) from nI_add _ _]
          refine am_Rq.blk (is := [(.goto (-41), 3)]) (q := (15, [some (.ref 238), some (.int (nI A)), some (.int (nI (m_bi (mt s) 5))), some (.int (nI i)), some (.int (nI (q + 1)))], [])) (by decide +kernel) rfl ?_
          dsimp only
          refine ihq _ _ ⟨rfl, fun x x1 x2 => ?_, hQ, hf0⟩
          by_cases ex : 16 * sl_bt x + x = 16 * i + q
          · have : x = q := by omega
            subst this
            unfold sl_ok
            rw [hc]; rfl
          · exact hx x x1 (by omega)
        ·
          rw [m_cvE hq, Bool.not_eq_false'] at hc
          refine am_Rq.blk (is := [(.aload_n 0, 1), (.iload_n 1, 1), (.iload 4, 2)]) (q := (44, [some (.ref 238), some (.int (nI A)), some (.int (nI (m_bi (mt s) 5))), some (.int (nI i)), some (.int (nI q))], [.int (nI q), .int (nI A), .ref 238])) (by decide +kernel) rfl ?_
          dsimp only
          have hM9 := hQ.1
          obtain ⟨co9, hM9⟩ := hM9
          refine am_Rq.callV (show decode (am_by 120) 44 = .ok (.invokevirtual 135, 3) by decide +kernel) rfl [.int (nI A), .int (nI q)] [] rfl rfl (Nat.le_of_ble_eq_true rfl) rfl hM9 rfl (m_isStable hQ ok hK hA hq) ?_
          rintro hp1 _ ⟨rfl, hQ1, hf1⟩
          show am_Rq _ 120 47 [some (.ref 238), some (.int (nI A)), some (.int (nI (m_bi (mt s) 5))), some (.int (nI i)), some (.int (nI q))] [.int (nI (am_b (sl_st (mt s) A q 5)))] _ _
          refine am_Rq.if1 (t := 53) (show decode (am_by 120) 47 = .ok (.ifCond .eq 6, 3) by decide +kernel) (by decide) (fun hd => ?_) (fun hd => ?_)
          ·
            rw [am_b_eq, Bool.not_eq_true'] at hd
            refine am_Rq.blk (is := [(.iinc 4 1, 3)]) (q := (56, [some (.ref 238), some (.int (nI A)), some (.int (nI (m_bi (mt s) 5))), some (.int (nI i)), some (.int ((nI q) + (nI 1)))], [])) (by decide +kernel) rfl ?_
            dsimp only
            rw [show (nI q) + (nI 1) = nI (q + 1) from nI_add _ _]
            refine am_Rq.blk (is := [(.goto (-41), 3)]) (q := (15, [some (.ref 238), some (.int (nI A)), some (.int (nI (m_bi (mt s) 5))), some (.int (nI i)), some (.int (nI (q + 1)))], [])) (by decide +kernel) rfl ?_
            dsimp only
            refine ihq _ _ ⟨rfl, fun x x1 x2 => ?_, hQ1, (hf0.trans (hf1.mono (A' := fun x => x = 238 ∨ x = 241 ∨ x = 242 ∨ x = 243 ∨ x = 244) (fun x q => by omega)))⟩
            by_cases ex : 16 * sl_bt x + x = 16 * i + q
            · have : x = q := by omega
              subst this
              unfold sl_ok
              rw [hc, hd]; rfl
            · exact hx x x1 (by omega)
          ·
            rw [am_b_eq, Bool.not_eq_false'] at hd
            refine am_Rq.blk (is := [(.iload 4, 2)]) (q := (52, [some (.ref 238), some (.int (nI A)), some (.int (nI (m_bi (mt s) 5))), some (.int (nI i)), some (.int (nI q))], [.int (nI q)])) (by decide +kernel) rfl ?_
            dsimp only
            refine am_Rq.ret (v := some (.int (nI q))) (show decode (am_by 120) 52 = .ok (.ireturn, 1) by decide +kernel) rfl rfl ?_
            refine ⟨_, rfl, ?_, hQ1, (hf0.trans (hf1.mono (A' := fun x => x = 238 ∨ x = 241 ∨ x = 242 ∨ x = 243 ∨ x = 244) (fun x q => by omega)))⟩
            unfold sl_set
            rw [sl_find hq (show sl_ok (mt s) A q = true by unfold sl_ok; rw [hc, hd]; rfl) (fun x x1 x2 => hx x x1 (by omega))]
            rfl
    · rintro lo hp ⟨rfl, hx, hQ, hf0⟩
      refine am_Rq.blk (is := [(.iload 4, 2), (.bipush 16, 2)]) (q := (19, [some (.ref 238), some (.int (nI A)), some (.int (nI (m_bi (mt s) 5))), some (.int (nI i)), some (.int (nI 16))], [.int (nI 16), .int (nI 16)])) (by decide +kernel) rfl ?_
      dsimp only
      refine am_Rq.if2T (t := 59) (show decode (am_by 120) 19 = .ok (.if_icmp .ge 40, 3) by decide +kernel) (by decide) (by rw [nm_ge (by omega) (by omega)]; exact decide_eq_true (by omega)) ?_
      refine am_Rq.blk (is := [(.iinc 3 1, 3)]) (q := (62, [some (.ref 238), some (.int (nI A)), some (.int (nI (m_bi (mt s) 5))), some (.int ((nI i) + (nI 1))), some (.int (nI 16))], [])) (by decide +kernel) rfl ?_
      dsimp only
      rw [show (nI i) + (nI 1) = nI (i + 1) from nI_add _ _]
      refine am_Rq.blk (is := [(.goto (-55), 3)]) (q := (7, [some (.ref 238), some (.int (nI A)), some (.int (nI (m_bi (mt s) 5))), some (.int (nI (i + 1))), some (.int (nI 16))], [])) (by decide +kernel) rfl ?_
      dsimp only
      exact ih _ _ ⟨_, rfl, fun x x1 x2 => hx x x1 (by omega), hQ, hf0⟩
  · rintro lo hp ⟨z4, rfl, hx, hQ, hf0⟩
    refine am_Rq.blk (is := [(.iload_n 3, 1), (.iconst 5, 1)]) (q := (9, [some (.ref 238), some (.int (nI A)), some (.int (nI (m_bi (mt s) 5))), some (.int (nI 5)), z4], [.int (nI 5), .int (nI 5)])) (by decide +kernel) rfl ?_
    dsimp only
    refine am_Rq.if2T (t := 65) (show decode (am_by 120) 9 = .ok (.if_icmp .ge 56, 3) by decide +kernel) (by decide) (by rw [nm_ge (by omega) (by omega)]; exact decide_eq_true (by omega)) ?_
    refine am_Rq.blk (is := [(.iconst (-1), 1)]) (q := (66, [some (.ref 238), some (.int (nI A)), some (.int (nI (m_bi (mt s) 5))), some (.int (nI 5)), z4], [.int (am_ic (-1))])) (by decide +kernel) rfl ?_
    dsimp only
    refine am_Rq.ret (v := some (.int (am_ic (-1)))) (show decode (am_by 120) 66 = .ok (.ireturn, 1) by decide +kernel) rfl rfl ?_
    refine ⟨_, rfl, ?_, hQ, hf0⟩
    unfold sl_set
    rw [sl_findNo (fun x x1 => hx x x1 (by have := (m_bt x x1).2; omega))]
    rfl
end M19
