/-! of -/
theorem latest_eq {s kd lo se ah ru sg no ti sp : Nat → Int32} {bw th cm hd ck zz : Int32} (h : SR s bw th cm hd ck zz kd lo se ah ru sg no ti sp) : ∃ q x, X6_latest s = some q ∧ X6_leftBy s q = some x ∧ X2_leftByLatest th kd lo sg = some x := by
  obtain ⟨nb, nt, ⟨a1, a2, a3, a4, a5, a6⟩, hb, ⟨f, f1, -⟩, -⟩ := h
  unfold X6_latest X2_leftByLatest
  rw [a5, a6]
  rcases nt with _ | n
  · exact ⟨-1, 0, rfl, rfl, rfl⟩
  · have hz : ¬ nI (n + 1) = 0 := nI_ne0 (Nat.succ_pos n) (by omega)
    rw [if_neg hz, if_neg hz, nI_pred]
    obtain ⟨q1, q2, q3, -⟩ := f1 n (by omega)
    have w : X6_whoAt s (nI n) = some (nI (f n)) := by
      have e : (46 : Int32) + 3 * nI n = nI (46 + 3 * n) := by
        rw [← nI_add]
        congr 1
        exact (Int32.ofNat_mul 3 n).symm
      have i1 : (nI (46 + 3 * n)).toInt = ((46 + 3 * n : Nat) : Int) := nI_toInt (by omega)
      have i3 : inr (nI (46 + 3 * n)) 83 := by constructor <;> omega
      unfold X6_whoAt
      rw [e, if_pos i3, nI_clamp (by omega), q2]
    have i1 : (nI n).toInt = n := nI_toInt (by omega)
    have i3 : inr (nI n) 9 := by constructor <;> omega
    obtain ⟨⟨k, k1, k2⟩, -, -, -, b5, b6, -⟩ := hb (f n) q1
    obtain ⟨l1, l2⟩ := left_eq s kd lo (show f n < 9 by omega) k1 k2 b5 b6
    refine ⟨nI (f n), X0_leftBy (kd (f n)) (lo (f n)), by rw [w]; rfl, ?_, ?_⟩
    · unfold X6_leftBy
      rw [if_pos (nI_pos' (by omega)), l1]
      rfl
    · rw [if_pos i3, nI_clamp (by omega), q3, l2]
      rfl
theorem p_ofR {s f5 f6 kd lo se ah ru sg no ti sp : Nat → Int32} {bw th cm hd ck zz : Int32} (h : SR s bw th cm hd ck zz kd lo se ah ru sg no ti sp) (hf : FR f5 f6) (v w : Int32) :
    ∃ r5 r6, X5_of f5 bw th kd lo se ah sg v w = some r5 ∧ X6_of s f6 v w = some r6 ∧ r5.1 = r6.1 ∧ FR r5.2 r6.2 := by
  have hno : ∃ r5 r6, (Option.bind (X5_finding f5 0) fun r => some (r.1, r.2)) = some r5 ∧ (Option.bind (X6_no f6 0) fun r => some (r.1, r.2)) = some r6 ∧ r5.1 = r6.1 ∧ FR r5.2 r6.2 := by
    rw [show X5_finding f5 0 = _ from fnd5 f5 0 (by decide), show X6_no f6 0 = _ from fnd6 f6 0 (by decide)]
    exact ⟨_, _, rfl, rfl, rfl, hf.up 0 (by decide)⟩
  obtain ⟨q, x, x1, x2, x3⟩ := latest_eq h
  obtain ⟨nb, nt, ⟨a1, a2, a3, a4, a5, a6⟩, hb, -⟩ := h
  obtain ⟨i1, i2⟩ := isBow_eq a3 a1 v
  unfold X5_of X6_of
  rw [i1, a4, Option.bind_some]
  cases hi : X2_isBow (nI nb) v with
  | false =>
    simp only [if_pos (show xb false = 0 from rfl)]
    exact hno
  | true =>
    simp only [if_neg (show ¬ xb true = 0 by decide)]
    obtain ⟨j, hj, rfl⟩ := i2 hi
    obtain ⟨⟨k, k1, k2⟩, -, -, -, b5, b6, b7, b8⟩ := hb j hj
    have hj9 : j < 9 := by omega
    obtain ⟨l1, l2⟩ := left_eq s kd lo hj9 k1 k2 b5 b6
    obtain ⟨m1, m2⟩ := last_eq s kd se hj9 k1 k2 b5 b7
    obtain ⟨n1, n2⟩ := noiseBy_eq s kd lo hj9 b5 b6 x
    have j1 : (nI j).toInt = j := nI_toInt (by omega)
    have j2 : (nI j).toNatClampNeg = j := nI_clamp (by omega)
    have j3 : inr (nI j) 9 := by constructor <;> omega
    have g : ∀ k, k < 4 → X6_get s (nI j) (nI k) = some (s (10 + k + 4 * j)) := fun k hk => by rw [m_get s j k hj9 hk, show 10 + 4 * j + k = 10 + k + 4 * j by omega]
    rw [isIn_eq]
    cases hw : X5_isIn w 0 6 with
    | false =>
      have hn : ∀ k, k ≤ 6 → ¬ w = nI k := by
        rintro k hk rfl
        unfold X5_isIn at hw
        rw [if_neg (nI_pos (by omega)), if_neg (show ¬ (6 : Int32) < nI k from nI_nlt (a := 6) hk (by decide))] at hw
        cases hw
      rw [if_neg (show ¬ w = 0 from hn 0 (by decide)), if_neg (show ¬ w = 1 from hn 1 (by decide)), if_neg (show ¬ w = 2 from hn 2 (by decide)), if_neg (show ¬ w = 3 from hn 3 (by decide)), if_neg (show ¬ w = 4 from hn 4 (by decide)), if_neg (show ¬ w = 5 from hn 5 (by decide)), if_neg (show ¬ w = 6 from hn 6 (by decide))]
      simp only [if_pos (show xb false = 0 from rfl)]
      exact hno
    | true =>
      obtain ⟨c, hc, rfl⟩ := isIn_t (n := 6) (by decide) hw
      simp only [if_neg (show ¬ xb true = 0 by decide), if_pos j3, j2, l1, l2, m1, m2, x1, x2, x3, n1, n2, Option.bind_some]
      have : c = 0 ∨ c = 1 ∨ c = 2 ∨ c = 3 ∨ c = 4 ∨ c = 5 ∨ c = 6 := by omega
      rcases this with rfl | rfl | rfl | rfl | rfl | rfl | rfl
      · rw [g 0 (by decide)]; exact ⟨_, _, rfl, rfl, b5, hf⟩
      · rw [g 1 (by decide)]; exact ⟨_, _, rfl, rfl, b6, hf⟩
      · rw [g 2 (by decide)]; exact ⟨_, _, rfl, rfl, b7, hf⟩
      · rw [g 3 (by decide)]; exact ⟨_, _, rfl, rfl, b8, hf⟩
      · exact ⟨_, _, rfl, rfl, rfl, hf⟩
      · exact ⟨_, _, rfl, rfl, rfl, hf⟩
      · exact ⟨_, _, rfl, rfl, rfl, hf⟩
