/-! The history in the heap: its object at hh, the eight ledgers behind. -/
def c_H (hp : am_H) (hh nx ct : Nat) (ks : Nat → Nat → Nat) : Prop := 2 ≤ hh ∧ nx < 8 ∧ ct ≤ 8 ∧ hp[hh]? = some (4, [.ref (hh + 1), .int (nI nx), .int (nI ct)]) ∧ hp[hh + 1]? = some (113, am_ra (hh + 2) 23 8) ∧ ∀ i, i < 8 → Led hp (hh + 2 + 23 * i) (ks i)
def c_hin (hh a : Nat) : Prop := hh ≤ a ∧ a < hh + 186
theorem c_H.kept {hp hp1 : am_H} {hh nx ct : Nat} {ks : Nat → Nat → Nat} (h : c_H hp hh nx ct ks) (hk : ∀ a, c_hin hh a → hp1[a]? = hp[a]?) : c_H hp1 hh nx ct ks :=
  ⟨h.1, h.2.1, h.2.2.1, by rw [hk hh ⟨by omega, by omega⟩]; exact h.2.2.2.1, by rw [hk (hh + 1) ⟨by omega, by omega⟩]; exact h.2.2.2.2.1, fun i hi => (h.2.2.2.2.2 i hi).kept (fun a ha => hk a ⟨by have := ha.1; omega, by have := ha.2; omega⟩)⟩
