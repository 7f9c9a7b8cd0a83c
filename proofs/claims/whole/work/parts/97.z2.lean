/-! bow -/
theorem testBit_lt {k nb : Nat} (h : k < 2 ^ nb) {b : Nat} (hb : nb ≤ b) : k.testBit b = false := Nat.testBit_lt_two_pow (Nat.lt_of_lt_of_le h (Nat.pow_le_pow_right (by decide) hb))
theorem m_adds (s : Nat → Int32) (nb : Nat) (hnb : nb < 9) (h3 : s 3 = nI nb) (v : Int32) : X6_addsBow s v = some (upd (upd (upd (upd (upd s (10 + 4 * nb) v) (11 + 4 * nb) 10) (12 + 4 * nb) 5) (13 + 4 * nb) 0) 3 (nI nb + 1)) := by
  have p : ∀ (s : Nat → Int32) (k : Nat) (c v : Int32), c = nI k → k < 4 → X6_puts s (nI nb) c v = some (upd s (10 + k + 4 * nb) v) := by
    intro s k c v h hk
    rw [h, m_puts s nb k v hnb hk, show 10 + 4 * nb + k = 10 + k + 4 * nb by omega]
  have q : ∀ (s : Nat → Int32) (k : Nat) (v : Int32), upd s (10 + k + 4 * nb) v 3 = s 3 := fun s k v => upd_ne (by omega)
  unfold X6_addsBow
  rw [h3, p s 0 0 v rfl (by decide), Option.bind_some]
  rw [p _ 1 1 10 rfl (by decide), Option.bind_some]
  rw [p _ 2 2 5 rfl (by decide), Option.bind_some]
  rw [p _ 3 3 0 rfl (by decide), Option.bind_some]
  rw [q, q, q, q, h3]
