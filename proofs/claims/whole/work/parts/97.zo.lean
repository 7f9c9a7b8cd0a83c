/-! broken -/
theorem bit_lt {x n i : Nat} (hx : x < 2 ^ n) (h : x.testBit i = true) : i < n := by
  rcases Nat.lt_or_ge i n with h1 | h1
  · exact h1
  · rw [testBit_lt hx h1] at h; cases h
theorem nd_two_lt {x b : Nat} (h : x.testBit b = true) : nd x (2 ^ b) < x := by
  have h1 : nd x (2 ^ b) ≤ x := sub_le (fun i hi => by rw [nd_tb, Bool.and_eq_true] at hi; exact hi.1)
  have h2 : nd x (2 ^ b) ≠ x := fun e => by
    have h3 : (nd x (2 ^ b)).testBit b = true := by rw [e]; exact h
    rw [nd_tb, Nat.testBit_two_pow_self, h] at h3
    cases h3
  omega
theorem has_bit {x n : Nat} (hx : x < 2 ^ n) (h : 0 < x) : ∃ b, b < n ∧ x.testBit b = true := by
  by_cases e : ∃ b, b < n ∧ x.testBit b = true
  · exact e
  · exfalso
    have : x = 0 := set_ext (n := n) hx (Nat.two_pow_pos n) (fun i hi => by
      rw [Nat.zero_testBit]
      cases e2 : x.testBit i with
      | false => rfl
      | true => exact absurd ⟨i, hi, e2⟩ e)
    omega
section
variable {s s' kd lo se ah ru sg no ti sp f5 f6 : Nat → Int32} {bw th cm hd ck zz : Int32} {nb nt : Nat} {K L E A R F : Nat → Nat}
theorem broken_inner (h : SP s bw th cm hd ck zz kd lo se ah ru sg no ti sp nb nt K L E A R F) {ah' : Nat → Int32} (hco : CO ah' nb A) (k9 : Int32 → (Nat → Int32) → Option (Int32 × (Nat → Int32))) (k9' : Int32 → (Nat → Int32) → Option (Int32 × (Nat → Int32))) {t : Nat} (ht : t < 2 ^ nb) (ht0 : 0 < t) (P : Nat → Int32) :
    ∀ d k n n' acc Q, k + d = nb → d < n → d < n' → (∀ u, u < t → ∃ m, m ≤ 8 * pcn 9 u ∧ P u = nI m ∧ Q u = nI m) → ((acc = 72 ∧ Q t = -1 ∧ ∀ b, b < k → t.testBit b = false) ∨ ∃ m, m ≤ 8 * pcn 9 t ∧ acc = nI m ∧ Q t = nI m) →
      ∃ m Q', m ≤ 8 * pcn 9 t ∧ X1_fewestBroken_L22 k9 (nI nb) ah' n (nI t) acc (nI k) P = k9 (nI (t + 1)) (upd P t (nI m)) ∧ X6_broken_L26 k9' s n' (nI t) (nI k) Q = k9' (nI (t + 1)) Q' ∧ Q' t = nI m ∧ ∀ u, u ≠ t → Q' u = Q u := by
  have h9 := h.h9
  have h2 := two_lt h9
  have pt := pcn_le 9 t
  have m1 : (-1 : Int32).toInt = -1 := by decide
  have z0 : (0 : Int32).toInt = 0 := by decide
  intro d
  induction d with
  | zero =>
    intro k n n' acc Q hk hn hn' hP hS
    obtain ⟨n, rfl⟩ : ∃ m, n = m + 1 := ⟨n - 1, by omega⟩
    obtain ⟨n', rfl⟩ : ∃ m, n' = m + 1 := ⟨n' - 1, by omega⟩
    rcases hS with ⟨-, -, hb⟩ | ⟨m, hm, h3, h4⟩
    · exfalso
      obtain ⟨b, hb1, hb2⟩ := has_bit ht ht0
      rw [hb b (by omega)] at hb2
      cases hb2
    · refine ⟨m, Q, hm, ?_, ?_, h4, fun u _ => rfl⟩
      · rw [X1_fewestBroken_L22, if_pos (nI_le (by omega) (by omega)), if_pos (inr_lt (by omega) (by decide)), nI_clamp (by omega), nI_1, h3]
      · rw [X6_broken_L26, h.b3, if_pos (nI_le (by omega) (by omega)), nI_1]
  | succ d ih =>
    intro k n n' acc Q hk hn hn' hP hS
    obtain ⟨n, rfl⟩ : ∃ m, n = m + 1 := ⟨n - 1, by omega⟩
    obtain ⟨n', rfl⟩ : ∃ m, n' = m + 1 := ⟨n' - 1, by omega⟩
    obtain ⟨e1, e2⟩ := hco k (by omega)
    rw [X1_fewestBroken_L22, X6_broken_L26, h.b3, if_neg (nI_ge (by omega) (by omega)), if_neg (nI_ge (by omega) (by omega)), isIn_tb (by omega) (by omega)]
    cases e : t.testBit k with
    | false =>
      rw [if_pos ((bit_eq (by omega) (by omega)).mpr e), if_pos xbf, nI_1]
      refine ih (k + 1) n n' acc Q (by omega) (by omega) (by omega) hP ?_
      rcases hS with ⟨h3, h4, h5⟩ | h3
      · refine Or.inl ⟨h3, h4, fun b hb => ?_⟩
        by_cases e3 : b = k
        · rw [e3]; exact e
        · exact h5 b (by omega)
      · exact Or.inr h3
    | true =>
      have hlt := nd_two_lt e
      have hnd : nd (A k) t < 512 := Nat.lt_of_lt_of_le (nd_lt (y := t) e2) h2
      have hpc : pcn 9 (nd (A k) t) ≤ 8 := by
        rcases Nat.lt_or_ge (pcn 9 (nd (A k) t)) 9 with h5 | h5
        · omega
        · have h6 := pcn_full h5 k (by omega)
          rw [nd_tb, e, Bool.not_true, Bool.and_false] at h6
          cases h6
      have hps : pcn 9 (nd t (2 ^ k)) < pcn 9 t := pcn_lt (j := k) (by omega) (fun i _ hi => by rw [nd_tb, Bool.and_eq_true] at hi; exact hi.1) (by rw [nd_tb, Nat.testBit_two_pow_self, Bool.not_true, Bool.and_false]) e
      obtain ⟨m, hm, hPm, hQm⟩ := hP _ hlt
      rw [if_neg (fun z => by rw [bit_eq (by omega) (by omega), e] at z; cases z), if_neg xbt, if_pos (inr_lt (by omega) (by decide)), shl_eq (by omega), ny_nd, if_pos (inr_lt (by omega) (by decide)), if_pos (inr_lt (by omega) (by decide)), nI_clamp (by omega), nI_clamp (by omega), e1, ny_nd, bc_eq hnd, ge3 s (by omega), Option.bind_some, (h.ca (show k < nb by omega)).2.2.2, ny_nd, bits_eq hnd, Option.bind_some, nI_1, hPm, hQm, nI_add]
      simp only [if_pos (inr_lt (show t < 512 by omega) (by decide)), nI_clamp (show t < 2 ^ 31 by omega)]
      have go : ∀ Q2 x, x ≤ 8 * pcn 9 t → Q2 t = nI x → (∀ u, u ≠ t → Q2 u = Q u) → ∃ m Q', m ≤ 8 * pcn 9 t ∧ X1_fewestBroken_L22 k9 (nI nb) ah' n (nI t) (nI x) (nI (k + 1)) P = k9 (nI (t + 1)) (upd P t (nI m)) ∧ X6_broken_L26 k9' s n' (nI t) (nI (k + 1)) Q2 = k9' (nI (t + 1)) Q' ∧ Q' t = nI m ∧ ∀ u, u ≠ t → Q' u = Q u := by
        intro Q2 x hx hQ2 hQ3
        obtain ⟨m, Q', g1, g2, g3, g4, g5⟩ := ih (k + 1) n n' (nI x) Q2 (by omega) (by omega) (by omega) (fun u hu => by rw [hQ3 u (by omega)]; exact hP u hu) (Or.inr ⟨x, hx, rfl, hQ2⟩)
        exact ⟨m, Q', g1, g2, g3, g4, fun u hu => by rw [g5 u hu, hQ3 u hu]⟩
      rcases hS with ⟨h3, h4, -⟩ | ⟨y, hy, h3, h4⟩
      · rw [h4, if_pos (show (-1 : Int32) < 0 by decide)]
        have : xmin acc (nI (m + pcn 9 (nd (A k) t))) = nI (m + pcn 9 (nd (A k) t)) := by
          unfold xmin
          rw [h3]
          by_cases h7 : m + pcn 9 (nd (A k) t) = 72
          · rw [h7]; decide
          · rw [if_pos (show nI (m + pcn 9 (nd (A k) t)) < (72 : Int32) from nI_lt (b := 72) (by omega) (by decide))]
        rw [this]
        exact go _ _ (by omega) upd_eq (fun u hu => upd_ne hu)
      · rw [h4, if_neg (nI_pos (by omega))]
        by_cases hle : y ≤ m + pcn 9 (nd (A k) t)
        · have : xmin acc (nI (m + pcn 9 (nd (A k) t))) = nI y := by
            unfold xmin
            rw [h3, if_neg (nI_nlt hle (by omega))]
          rw [this, if_pos (nI_le hle (by omega))]
          exact go _ _ hy upd_eq (fun u hu => upd_ne hu)
        · have : xmin acc (nI (m + pcn 9 (nd (A k) t))) = nI (m + pcn 9 (nd (A k) t)) := by
            unfold xmin
            rw [h3, if_pos (nI_lt (by omega) (by omega))]
          rw [this, if_neg (nI_ge (by omega) (by omega))]
          exact go _ _ (by omega) upd_eq (fun u hu => upd_ne hu)
theorem p_broken (h : SP s bw th cm hd ck zz kd lo se ah ru sg no ti sp nb nt K L E A R F) (c3300 c3400 c3500 c4000 c5900 : Nat → Int32) :
    ∃ r5 r6, X5_broken bw th cm kd lo ah sg c3300 c3400 c3500 c4000 = some r5 ∧ X6_broken s c5900 = some r6 ∧ r5.1 = r6.1 := by
  have h9 := h.h9
  have h2 := two_lt h9
  have hpos := Nat.two_pow_pos nb
  obtain ⟨kd', lo', ah', g1, g2, g3⟩ := h.start c3300 c3400 c3500
  have hall : X6_allBows s = some (nI (2 ^ nb - 1)) := by unfold X6_allBows; rw [h.b3, full_eq h9]
  have outer : ∀ e t n n' P Q, t + e = 2 ^ nb → 0 < t → e < n → e < n' → (∀ u, u < t → ∃ m, m ≤ 8 * pcn 9 u ∧ P u = nI m ∧ Q u = nI m) → ∃ r P' Q', X1_fewestBroken_L9 (nI nb) (nI (2 ^ nb - 1)) ah' n (nI t) P = some (r, P') ∧ X6_broken_L9 s n' (nI t) Q = some (r, Q') := by
    intro e
    induction e with
    | zero =>
      intro t n n' P Q ht ht0 hn hn' hP
      obtain ⟨n, rfl⟩ : ∃ m, n = m + 1 := ⟨n - 1, by omega⟩
      obtain ⟨n', rfl⟩ : ∃ m, n' = m + 1 := ⟨n' - 1, by omega⟩
      obtain ⟨m, hm, hPm, hQm⟩ := hP (2 ^ nb - 1) (by omega)
      rw [X1_fewestBroken_L9, X6_broken_L9, hall, Option.bind_some, Option.bind_some, if_pos (nI_lt (by omega) (by omega)), if_pos (nI_lt (by omega) (by omega)), if_pos (inr_lt (by omega) (by decide)), if_pos (inr_lt (by omega) (by decide)), nI_clamp (by omega), hPm, hQm]
      exact ⟨_, _, _, rfl, rfl⟩
    | succ e ih =>
      intro t n n' P Q ht ht0 hn hn' hP
      obtain ⟨n, rfl⟩ : ∃ m, n = m + 1 := ⟨n - 1, by omega⟩
      obtain ⟨n', rfl⟩ : ∃ m, n' = m + 1 := ⟨n' - 1, by omega⟩
      obtain ⟨m, Q', q1, q2, q3, q4, q5⟩ := broken_inner h g3 (fun v10 od_bySet_0 => X1_fewestBroken_L9 (nI nb) (nI (2 ^ nb - 1)) ah' n v10 od_bySet_0) (fun v10 m_comesTo_0 => X6_broken_L9 s n' v10 m_comesTo_0) (t := t) (by omega) ht0 P nb 0 FU FU 72 (upd Q t (-1)) (by omega) (by unfold FU; omega) (by unfold FU; omega) (fun u hu => by rw [upd_ne (by omega)]; exact hP u hu) (Or.inl ⟨rfl, upd_eq, fun b hb => absurd hb (Nat.not_lt_zero b)⟩)
      rw [X1_fewestBroken_L9, X6_broken_L9, hall, Option.bind_some, Option.bind_some, if_neg (nI_nlt (by omega) (by omega)), if_neg (nI_nlt (by omega) (by omega)), if_pos (inr_lt (by omega) (by decide)), nI_clamp (by omega), show (0 : Int32) = nI 0 from rfl, q2, q3]
      refine ih (t + 1) n n' _ _ (by omega) (by omega) (by omega) (by omega) (fun u hu => ?_)
      by_cases e : u = t
      · rw [e, upd_eq]
        exact ⟨m, by omega, rfl, q4⟩
      · rw [upd_ne e, q5 u e, upd_ne e]
        exact hP u (by omega)
  obtain ⟨r, P', Q', e1, e2⟩ := outer (2 ^ nb - 1) 1 FU FU (upd c4000 0 0) (upd c5900 0 0) (by omega) (by omega) (by unfold FU; omega) (by unfold FU; omega) (fun u hu => by
    rw [show u = 0 by omega, upd_eq, upd_eq]
    exact ⟨0, Nat.zero_le _, rfl, rfl⟩)
  unfold X5_broken X6_broken X1_fewestBroken
  rw [g1, Option.bind_some]
  have e1' : X1_fewestBroken_L9 (nI nb) (nI (2 ^ nb - 1)) ah' FU 1 (upd c4000 0 0) = some (r, P') := e1
  have e2' : X6_broken_L9 s FU 1 (upd c5900 0 0) = some (r, Q') := e2
  rw [e2']
  simp only [e1', Option.bind_some]
  exact ⟨_, _, rfl, rfl, rfl⟩
end
