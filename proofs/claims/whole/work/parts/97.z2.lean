/-! bow -/
theorem testBit_lt {k nb : Nat} (h : k < 2 ^ nb) {b : Nat} (hb : nb ≤ b) : k.testBit b = false := Nat.testBit_lt_two_pow (Nat.lt_of_lt_of_le h (Nat.pow_le_pow_right (by decide) hb))
theorem m_adds (s : Nat → Int32) (nb : Nat) (hnb : nb < 9) (h3 : s 3 = nI nb) (v : Int32) : X6_addsBow s v = some (upd (upd (upd (upd (upd s (10 + 4 * nb) v) (11 + 4 * nb) 10) (12 + 4 * nb) 5) (13 + 4 * nb) 0) 3 (nI nb + 1)) := by
  have p : ∀ (s : Nat → Int32) (k : Nat) (c v : Int32), c = nI k → k < 4 → X6_puts s (nI nb) c v = some (upd s (10 + k + 4 * nb) v) := by
    intro s k c v h hk
    rw [h, m_puts s nb k v hnb hk, show 10 + 4 * nb + k = 10 + k + 4 * nb by omega]
  have q : ∀ (s : Nat → Int32) (k : Nat) (v : Int32), upd s (10 + k + 4 * nb) v 3 = s 3 := fun s k v => upd_ne (by omega)
  unfold X6_addsBow
  rw [h3, p s 0 0 v rfl (by decide), Option.bind_some]
  rw [p _ 1 1 10 rfl (by decide), Option.bind_some]
  rw [p _ 2 2 5 rfl (by decide), Option.bind_some]
  rw [p _ 3 3 0 rfl (by decide), Option.bind_some]
  rw [q, q, q, q, h3]
theorem SR_add {s kd lo se ah ru sg no ti sp : Nat → Int32} {bw th cm hd ck zz : Int32} (h : SR s bw th cm hd ck zz kd lo se ah ru sg no ti sp) {nb : Nat} (h3 : s 3 = nI nb) (hnb : nb < 9) {j : Nat} (hj : j ≤ 6) :
    SR (upd (upd (upd (upd (upd s (10 + 4 * nb) (nI j)) (11 + 4 * nb) 10) (12 + 4 * nb) 5) (13 + 4 * nb) 0) 3 (nI nb + 1)) (nI nb + 1) th cm hd ck zz (upd kd nb (nI j)) (upd lo nb 10) (upd se nb 5) (upd ah nb 0) ru sg no ti sp := by
  obtain ⟨nb', nt, ⟨a1, a2, a3, a4, a5, a6⟩, hb, ⟨f, f1, f2, c, c1, c2, c3⟩, ⟨g1, g2, g3⟩, r1, s1⟩ := h
  have e : nb' = nb := (nI_eq (by omega) (by omega)).mp (a3.symm.trans h3)
  subst e
  have hlow : ∀ i, i < 10 → i ≠ 3 → upd (upd (upd (upd (upd s (10 + 4 * nb') (nI j)) (11 + 4 * nb') 10) (12 + 4 * nb') 5) (13 + 4 * nb') 0) 3 (nI nb' + 1) i = s i := by
    intro i h1 h2
    rw [upd_ne h2, upd_ne (by omega), upd_ne (by omega), upd_ne (by omega), upd_ne (by omega)]
  have hhigh : ∀ i, 46 ≤ i → upd (upd (upd (upd (upd s (10 + 4 * nb') (nI j)) (11 + 4 * nb') 10) (12 + 4 * nb') 5) (13 + 4 * nb') 0) 3 (nI nb' + 1) i = s i := by
    intro i h1
    rw [upd_ne (by omega), upd_ne (by omega), upd_ne (by omega), upd_ne (by omega), upd_ne (by omega)]
  refine ⟨nb' + 1, nt, ⟨by omega, by omega, by rw [upd_eq, nI_1], nI_1 _, by rw [hlow 2 (by omega) (by omega), a5], a6⟩, ?_, ⟨f, ?_, f2, c, ?_, c2, ?_⟩, ⟨by rw [hlow 0 (by omega) (by omega), g1], by rw [hlow 1 (by omega) (by omega), g2], by rw [hlow 4 (by omega) (by omega), g3]⟩, fun k hk => by rw [hlow (5 + k) (by omega) (by omega), r1 k hk], ?_⟩
  · intro b hlt
    by_cases e : b = nb'
    · subst e
      have v0 : upd (upd (upd (upd (upd s (10 + 4 * b) (nI j)) (11 + 4 * b) 10) (12 + 4 * b) 5) (13 + 4 * b) 0) 3 (nI b + 1) (10 + 4 * b) = nI j := by
        rw [upd_ne (by omega), upd_ne (by omega), upd_ne (by omega), upd_ne (by omega), upd_eq]
      have v1 : upd (upd (upd (upd (upd s (10 + 4 * b) (nI j)) (11 + 4 * b) 10) (12 + 4 * b) 5) (13 + 4 * b) 0) 3 (nI b + 1) (11 + 4 * b) = 10 := by
        rw [upd_ne (by omega), upd_ne (by omega), upd_ne (by omega), upd_eq]
      have v2 : upd (upd (upd (upd (upd s (10 + 4 * b) (nI j)) (11 + 4 * b) 10) (12 + 4 * b) 5) (13 + 4 * b) 0) 3 (nI b + 1) (12 + 4 * b) = 5 := by
        rw [upd_ne (by omega), upd_ne (by omega), upd_eq]
      have v3 : upd (upd (upd (upd (upd s (10 + 4 * b) (nI j)) (11 + 4 * b) 10) (12 + 4 * b) 5) (13 + 4 * b) 0) 3 (nI b + 1) (13 + 4 * b) = 0 := by
        rw [upd_ne (by omega), upd_eq]
      rw [v0, v1, v2, v3]
      refine ⟨⟨j, hj, rfl⟩, ⟨10, by decide, rfl⟩, ⟨5, by decide, by decide, rfl⟩, ⟨0, Nat.two_pow_pos _, Nat.zero_testBit _, rfl⟩, upd_eq, upd_eq, upd_eq, upd_eq⟩
    · have hb' : b < nb' := by omega
      have v : ∀ k, k < 4 → upd (upd (upd (upd (upd s (10 + 4 * nb') (nI j)) (11 + 4 * nb') 10) (12 + 4 * nb') 5) (13 + 4 * nb') 0) 3 (nI nb' + 1) (10 + k + 4 * b) = s (10 + k + 4 * b) := by
        intro k hk
        rw [upd_ne (by omega), upd_ne (by omega), upd_ne (by omega), upd_ne (by omega), upd_ne (by omega)]
      obtain ⟨b1, b2, b3, ⟨k, k1, k2, k3⟩, b5, b6, b7, b8⟩ := hb b hb'
      rw [v 0 (by omega), v 1 (by omega), v 2 (by omega), v 3 (by omega), upd_ne e, upd_ne e, upd_ne e, upd_ne e]
      exact ⟨b1, b2, b3, ⟨k, Nat.lt_of_lt_of_le k1 (Nat.pow_le_pow_right (by decide) (by omega)), k2, k3⟩, b5, b6, b7, b8⟩
  · intro i hi
    obtain ⟨q1, q2, q3, q4, q5⟩ := f1 i hi
    rw [hhigh _ (by omega), hhigh _ (by omega), hhigh _ (by omega)]
    exact ⟨by omega, q2, q3, q4, q5⟩
  · exact Nat.lt_of_lt_of_le c1 (Nat.pow_le_pow_right (by decide) (by omega))
  · intro b hlt
    by_cases e : b = nb'
    · subst e
      rw [testBit_lt c1 (Nat.le_refl _)]
      refine ⟨fun h => (by cases h), fun ⟨i, h1, h2⟩ => ?_⟩
      have := (f1 i h1).1
      omega
    · exact c3 b (by omega)
  · intro k hk
    rw [hhigh _ (by omega)]
    obtain ⟨q1, q2⟩ := s1 k hk
    refine ⟨q1, q2.imp_right (fun ⟨b, h1, h2⟩ => ⟨b, by omega, h2⟩)⟩
theorem p_bow {s f5 f6 kd lo se ah ru sg no ti sp : Nat → Int32} {bw th cm hd ck zz : Int32} (h : SR s bw th cm hd ck zz kd lo se ah ru sg no ti sp) (hf : FR f5 f6) (v : Int32) :
    ∃ r5 r6, X5_bow f5 bw kd lo se ah v = some r5 ∧ X6_bow s f6 v = some r6 ∧ r5.1 = r6.1 ∧ FR r5.2.1 r6.2.2 ∧ SR r6.2.1 r5.2.2.1 th cm hd ck zz r5.2.2.2.1 r5.2.2.2.2.1 r5.2.2.2.2.2.1 r5.2.2.2.2.2.2 ru sg no ti sp := by
  have h0 := h
  obtain ⟨nb, nt, ⟨a1, a2, a3, a4, a5, a6⟩, -⟩ := h0
  unfold X5_bow X6_bow
  rw [isIn_eq]
  cases hi : X5_isIn v 0 6 with
  | false =>
    simp only [if_pos (show xb false = 0 from rfl), show X5_finding f5 0 = _ from fnd5 f5 0 (by decide), show X6_no f6 0 = _ from fnd6 f6 0 (by decide)]
    exact ⟨_, _, rfl, rfl, rfl, hf.up 0 (by decide), h⟩
  | true =>
    obtain ⟨j, hj, rfl⟩ := isIn_t (n := 6) (by decide) hi
    simp only [if_neg (show ¬ xb true = 0 by decide), a3, a4]
    by_cases h9 : nb = 9
    · subst h9
      simp only [if_neg (show ¬ nI 9 < 9 by decide), if_pos (show nI 9 = 9 from rfl), show X5_finding f5 1 = _ from fnd5 f5 1 (by decide), show X6_no f6 1 = _ from fnd6 f6 1 (by decide)]
      refine ⟨_, _, rfl, rfl, rfl, hf.up 1 (by decide), ?_⟩
      rw [← a4]
      exact h
    · have hlt : nb < 9 := by omega
      have h1 : (nI nb).toInt = nb := nI_toInt (by omega)
      have h2 : (nI nb).toNatClampNeg = nb := nI_clamp (by omega)
      have h4 : inr (nI nb) 9 := by constructor <;> omega
      rw [if_pos (show nI nb < 9 from nI_lt hlt (by decide)), if_neg (show ¬ nI nb = 9 from fun z => h9 ((nI_eq (by omega) (by decide)).mp (show nI nb = nI 9 from z))), m_adds s nb hlt a3]
      simp only [X2_addBow_sc, if_pos h4, h2, Option.bind_some]
      refine ⟨_, _, rfl, rfl, ?_, hf, SR_add h a3 hlt hj⟩
      show nI nb = upd _ 3 (nI nb + 1) 3 - 1
      rw [upd_eq, nI_1, nI_pred]
