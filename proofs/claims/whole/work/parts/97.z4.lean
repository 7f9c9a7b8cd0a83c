/-! small helpers of both sides, equal -/
theorem ltI {a b : Int32} : a < b ↔ a.toInt < b.toInt := Int32.lt_iff_toInt_lt
theorem isBow_eq {s : Nat → Int32} {nb : Nat} (h3 : s 3 = nI nb) (hnb : nb ≤ 9) (v : Int32) : X6_isBow s v = some (X2_isBow (nI nb) v) ∧ (X2_isBow (nI nb) v = true → ∃ j, j < nb ∧ v = nI j) := by
  have hn : (nI nb).toInt = nb := nI_toInt (by omega)
  constructor
  · unfold X6_isBow X6_in1 X2_isBow
    rw [h3]
    congr 1
    by_cases h0 : v < 0
    · rw [if_pos h0, if_pos h0]
    · rw [if_neg h0, if_neg h0]
      obtain ⟨j, hj, rfl⟩ := nI_of h0
      rcases nb with _ | n
      · rw [if_pos (nI_le (Nat.zero_le _) hj)]
        rw [if_pos]
        rw [ltI, nI_toInt hj]
        show (-1 : Int) < j
        omega
      · rw [nI_pred]
        by_cases h : n + 1 ≤ j
        · rw [if_pos (nI_le h hj), if_pos (nI_lt (by omega) hj)]
        · rw [if_neg (nI_ge (by omega) (by omega)), if_neg (nI_nlt (by omega) (by omega))]
  · intro h
    unfold X2_isBow at h
    by_cases h0 : v < 0
    · rw [if_pos h0] at h; cases h
    · rw [if_neg h0] at h
      obtain ⟨j, hj, rfl⟩ := nI_of h0
      by_cases h1 : nI nb ≤ nI j
      · rw [if_pos h1] at h; cases h
      · exact ⟨j, Nat.lt_of_not_le (fun z => h1 (nI_le z hj)), rfl⟩
