/-! what a bow leaves, the noise, the seconds: equal on both sides -/
theorem most_eq (a b : Int32) : X6_most a b = xmax a b := by
  unfold X6_most xmax
  by_cases h : a < b
  · rw [if_pos h, if_pos (Int32.le_of_lt h)]
  · rw [if_neg h]
    by_cases h2 : a ≤ b
    · rw [if_pos h2]
      exact Int32.le_antisymm (Int32.not_lt.mp h) h2
    · rw [if_neg h2]
theorem noise_eq (a b c : Int32) : X6_noiseOf a b c = X0_noiseOf a b c := by
  unfold X6_noiseOf X0_noiseOf X0_fallingNoise
  simp only [most_eq, Int32.add_assoc]
  rfl
theorem left_eq (s kd lo : Nat → Int32) {j k : Nat} (hj : j < 9) (hk : k ≤ 6) (h1 : s (10 + 4 * j) = nI k) (h2 : kd j = s (10 + 4 * j)) (h3 : lo j = s (11 + 4 * j)) : X6_leaves s (nI j) = some (X0_leftBy (kd j) (lo j)) ∧ X2_leftBy kd lo (nI j) = some (X0_leftBy (kd j) (lo j)) := by
  have g0 : X6_get s (nI j) 0 = some (s (10 + 4 * j)) := m_get s j 0 hj (by decide)
  have g1 : X6_get s (nI j) 1 = some (s (11 + 4 * j)) := by
    have := m_get s j 1 hj (by decide)
    rw [show 10 + 4 * j + 1 = 11 + 4 * j by omega] at this
    exact this
  have i1 : (nI j).toInt = j := nI_toInt (by omega)
  have i2 : (nI j).toNatClampNeg = j := nI_clamp (by omega)
  have i3 : inr (nI j) 9 := by constructor <;> omega
  refine ⟨?_, by simp only [X2_leftBy, if_pos i3, i2]⟩
  unfold X6_leaves X0_leftBy
  rw [g0, g1, h2, h3, h1]
  simp only [Option.bind_some]
  have : k = 0 ∨ k = 1 ∨ k = 2 ∨ k = 3 ∨ k = 4 ∨ k = 5 ∨ k = 6 := by omega
  rcases this with rfl | rfl | rfl | rfl | rfl | rfl | rfl <;> rfl
