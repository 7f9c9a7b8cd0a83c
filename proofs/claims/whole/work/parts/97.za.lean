/-! stood -/
theorem who_eq (s : Nat → Int32) {n : Nat} (hn : n < 9) : X6_whoAt s (nI n) = some (s (46 + 3 * n)) := by
  have e : (46 : Int32) + 3 * nI n = nI (46 + 3 * n) := by
    rw [← nI_add]
    congr 1
    exact (Int32.ofNat_mul 3 n).symm
  have i1 : (nI (46 + 3 * n)).toInt = ((46 + 3 * n : Nat) : Int) := nI_toInt (by omega)
  have i3 : inr (nI (46 + 3 * n)) 83 := by constructor <;> omega
  unfold X6_whoAt
  rw [e, if_pos i3, nI_clamp (by omega)]
theorem p_stoodR {s f5 f6 kd lo se ah ru sg no ti sp : Nat → Int32} {bw th cm hd ck zz : Int32} (h : SR s bw th cm hd ck zz kd lo se ah ru sg no ti sp) (hf : FR f5 f6) (v : Int32) :
    ∃ r5 r6, X5_stood f5 th sg v = some r5 ∧ X6_stood s f6 v = some r6 ∧ r5.1 = r6.1 ∧ FR r5.2 r6.2 := by
  obtain ⟨nb, nt, ⟨a1, a2, a3, a4, a5, a6⟩, hb, ⟨f, f1, -⟩, -⟩ := h
  unfold X5_stood X6_stood
  rw [a5, a6]
  by_cases h0 : (0 : Int32) ≤ v
  · simp only [if_pos h0]
    obtain ⟨j, hj, rfl⟩ := nI_of (Int32.not_lt.mpr h0)
    by_cases hlt : j < nt
    · have i1 : (nI j).toInt = j := nI_toInt hj
      have i3 : inr (nI j) 9 := by constructor <;> omega
      rw [if_pos (nI_lt hlt (by omega)), if_pos i3, if_neg (nI_ge hlt (by omega)), nI_clamp hj, who_eq s (by omega)]
      obtain ⟨-, q2, q3, -⟩ := f1 j hlt
      exact ⟨_, _, rfl, rfl, by rw [q2]; exact q3, hf⟩
    · rw [if_neg (nI_nlt (by omega) hj), if_pos (nI_le (by omega) hj), show X5_finding f5 3 = _ from fnd5 f5 3 (by decide), show X6_no f6 3 = _ from fnd6 f6 3 (by decide)]
      exact ⟨_, _, rfl, rfl, rfl, hf.up 3 (by decide)⟩
  · simp only [if_neg h0, show X5_finding f5 0 = _ from fnd5 f5 0 (by decide), show X6_no f6 0 = _ from fnd6 f6 0 (by decide)]
    exact ⟨_, _, rfl, rfl, rfl, hf.up 0 (by decide)⟩
