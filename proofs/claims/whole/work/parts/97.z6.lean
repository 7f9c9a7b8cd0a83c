/-! seconds, noise of a bow, the latest of the stage: equal on both sides -/
theorem last_eq (s kd se : Nat → Int32) {j k : Nat} (hj : j < 9) (hk : k ≤ 6) (h1 : s (10 + 4 * j) = nI k) (h2 : kd j = s (10 + 4 * j)) (h3 : se j = s (12 + 4 * j)) : X6_secondsOf s (nI j) = some (X0_lastedBy (kd j) (se j)) ∧ X2_lastedBy kd se (nI j) = some (X0_lastedBy (kd j) (se j)) := by
  have g0 : X6_get s (nI j) 0 = some (s (10 + 4 * j)) := m_get s j 0 hj (by decide)
  have g1 : X6_get s (nI j) 2 = some (s (12 + 4 * j)) := by
    have := m_get s j 2 hj (by decide)
    rw [show 10 + 4 * j + 2 = 12 + 4 * j by omega] at this
    exact this
  have i1 : (nI j).toInt = j := nI_toInt (by omega)
  have i2 : (nI j).toNatClampNeg = j := nI_clamp (by omega)
  have i3 : inr (nI j) 9 := by constructor <;> omega
  refine ⟨?_, by simp only [X2_lastedBy, if_pos i3, i2]⟩
  unfold X6_secondsOf X0_lastedBy
  rw [g0, g1, h2, h3, h1]
  simp only [Option.bind_some, most_eq]
  have e6 : ∀ x : Int32, x + 1 + 5 = x + 6 := fun x => by rw [Int32.add_assoc]; rfl
  simp only [e6]
  have : k = 0 ∨ k = 1 ∨ k = 2 ∨ k = 3 ∨ k = 4 ∨ k = 5 ∨ k = 6 := by omega
  rcases this with rfl | rfl | rfl | rfl | rfl | rfl | rfl <;> rfl
theorem noiseBy_eq (s kd lo : Nat → Int32) {j : Nat} (hj : j < 9) (h2 : kd j = s (10 + 4 * j)) (h3 : lo j = s (11 + 4 * j)) (x : Int32) : X6_noiseBy s (nI j) x = some (X0_noiseOf (kd j) (lo j) x) ∧ X2_noiseBy kd lo (nI j) x = some (X0_noiseOf (kd j) (lo j) x) := by
  have g0 : X6_get s (nI j) 0 = some (s (10 + 4 * j)) := m_get s j 0 hj (by decide)
  have g1 : X6_get s (nI j) 1 = some (s (11 + 4 * j)) := by
    have := m_get s j 1 hj (by decide)
    rw [show 10 + 4 * j + 1 = 11 + 4 * j by omega] at this
    exact this
  have i1 : (nI j).toInt = j := nI_toInt (by omega)
  have i2 : (nI j).toNatClampNeg = j := nI_clamp (by omega)
  have i3 : inr (nI j) 9 := by constructor <;> omega
  refine ⟨?_, by simp only [X2_noiseBy, if_pos i3, i2]⟩
  unfold X6_noiseBy
  rw [g0, g1, h2, h3]
  simp only [Option.bind_some, noise_eq]
