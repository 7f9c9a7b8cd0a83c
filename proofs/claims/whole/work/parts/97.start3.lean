/-! the strings differ, by their places -/
theorem st_f6_1 : ∀ j : Nat, j < 1 → Cond.not (Cond.eq (st_tm j) (st_tm 1)) ∈ st_fl := by decide +kernel
theorem st_f6_2 : ∀ j : Nat, j < 2 → Cond.not (Cond.eq (st_tm j) (st_tm 2)) ∈ st_fl := by decide +kernel
theorem st_f6_3 : ∀ j : Nat, j < 3 → Cond.not (Cond.eq (st_tm j) (st_tm 3)) ∈ st_fl := by decide +kernel
theorem st_f6_4 : ∀ j : Nat, j < 4 → Cond.not (Cond.eq (st_tm j) (st_tm 4)) ∈ st_fl := by decide +kernel
theorem st_f6_5 : ∀ j : Nat, j < 5 → Cond.not (Cond.eq (st_tm j) (st_tm 5)) ∈ st_fl := by decide +kernel
theorem st_f6_6 : ∀ j : Nat, j < 6 → Cond.not (Cond.eq (st_tm j) (st_tm 6)) ∈ st_fl := by decide +kernel
theorem st_f6_7 : ∀ j : Nat, j < 7 → Cond.not (Cond.eq (st_tm j) (st_tm 7)) ∈ st_fl := by decide +kernel
theorem st_f6_8 : ∀ j : Nat, j < 8 → Cond.not (Cond.eq (st_tm j) (st_tm 8)) ∈ st_fl := by decide +kernel
theorem st_f6_9 : ∀ j : Nat, j < 9 → Cond.not (Cond.eq (st_tm j) (st_tm 9)) ∈ st_fl := by decide +kernel
theorem st_f6_10 : ∀ j : Nat, j < 10 → Cond.not (Cond.eq (st_tm j) (st_tm 10)) ∈ st_fl := by decide +kernel
theorem st_f6_11 : ∀ j : Nat, j < 11 → Cond.not (Cond.eq (st_tm j) (st_tm 11)) ∈ st_fl := by decide +kernel
theorem st_f6_12 : ∀ j : Nat, j < 12 → Cond.not (Cond.eq (st_tm j) (st_tm 12)) ∈ st_fl := by decide +kernel
theorem st_f6_13 : ∀ j : Nat, j < 13 → Cond.not (Cond.eq (st_tm j) (st_tm 13)) ∈ st_fl := by decide +kernel
theorem st_f6_14 : ∀ j : Nat, j < 14 → Cond.not (Cond.eq (st_tm j) (st_tm 14)) ∈ st_fl := by decide +kernel
theorem st_f6_15 : ∀ j : Nat, j < 15 → Cond.not (Cond.eq (st_tm j) (st_tm 15)) ∈ st_fl := by decide +kernel
theorem st_f6h : ∀ i : Nat, i < 16 → ∀ j : Nat, j < i → Cond.not (Cond.eq (st_tm j) (st_tm i)) ∈ st_fl := by
  intro i hi j hj
  match i, hi, hj with
  | 0, _, hj => exact absurd hj (Nat.not_lt_zero _)
  | 1, _, hj => exact st_f6_1 j hj
  | 2, _, hj => exact st_f6_2 j hj
  | 3, _, hj => exact st_f6_3 j hj
  | 4, _, hj => exact st_f6_4 j hj
  | 5, _, hj => exact st_f6_5 j hj
  | 6, _, hj => exact st_f6_6 j hj
  | 7, _, hj => exact st_f6_7 j hj
  | 8, _, hj => exact st_f6_8 j hj
  | 9, _, hj => exact st_f6_9 j hj
  | 10, _, hj => exact st_f6_10 j hj
  | 11, _, hj => exact st_f6_11 j hj
  | 12, _, hj => exact st_f6_12 j hj
  | 13, _, hj => exact st_f6_13 j hj
  | 14, _, hj => exact st_f6_14 j hj
  | 15, _, hj => exact st_f6_15 j hj
  | n + 16, hi, _ => exact absurd hi (by omega)
theorem st_f6 : ∀ i j : Nat, i < 16 → j < 16 → i ≠ j → Cond.not (Cond.eq (st_tm i) (st_tm j)) ∈ st_fl ∨ Cond.not (Cond.eq (st_tm j) (st_tm i)) ∈ st_fl := by
  intro i j hi hj hij
  rcases Nat.lt_or_gt_of_ne hij with h | h
  · exact Or.inl (st_f6h j hj i h)
  · exact Or.inr (st_f6h i hi j h)
