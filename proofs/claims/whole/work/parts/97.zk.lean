/-! sheets -/
theorem isIn_m1 {n : Nat} (hn : n < 2 ^ 20) {a : Int32} (h : X5_isIn a 0 (nI n - 1) = true) : ∃ i, i < n ∧ a = nI i := by
  rcases n with _ | n
  · exfalso
    unfold X5_isIn at h
    by_cases h1 : a < 0
    · rw [if_pos h1] at h; cases h
    · rw [if_neg h1] at h
      obtain ⟨j, hj, rfl⟩ := nI_of h1
      rw [if_pos] at h
      · cases h
      · rw [ltI, nI_toInt hj, show (nI 0 - 1 : Int32).toInt = -1 by decide]; omega
  · rw [nI_pred] at h
    obtain ⟨j, hj, rfl⟩ := isIn_t (by omega) h
    exact ⟨j, by omega, rfl⟩
theorem at5 (j i : Nat) : nI j * 40 + nI i = nI (40 * j + i) := by
  rw [show nI j * (40 : Int32) = nI (j * 40) from nI_mul j 40, nI_add, Nat.mul_comm]
theorem at6 (j i : Nat) : (40 : Int32) * nI j + nI i = nI (40 * j + i) := by
  rw [show (40 : Int32) * nI j = nI (40 * j) from nI_mul 40 j, nI_add]
theorem w8_eq (v : Int32) : xshr (xshl v (32 - 8)) (32 - 8) = xi2b v := by
  rw [show (32 : Int32) - 8 = nI 24 by decide]
  apply b_ext
  intro i hi
  have e : bt (xi2b v) i = if i < 8 then bt v i else bt v 7 := by
    show ((v.toBitVec.signExtend 8).signExtend 32).getLsbD i = if i < 8 then v.toBitVec.getLsbD i else v.toBitVec.getLsbD 7
    rw [BitVec.getLsbD_signExtend, BitVec.getLsbD_signExtend, decide_eq_true hi, Bool.true_and]
    by_cases h : i < 8
    · rw [if_pos h, if_pos h, if_pos hi, decide_eq_true h, Bool.true_and]
    · rw [if_neg h, if_neg h, BitVec.msb_eq_getLsbD_last, BitVec.getLsbD_signExtend]
      rfl
  rw [e, b_sshr 24 (by omega) _ hi]
  by_cases h : i < 8
  · rw [if_pos (by omega), if_pos h, shl_bt 24 (by omega) v (by omega), decide_eq_true (by omega), Bool.true_and, show 24 + i - 24 = i by omega]
  · rw [if_neg (by omega), if_neg h, shl_bt 24 (by omega) v (by omega)]
    rfl
theorem w16_eq (v : Int32) : xshr (xshl v (32 - 16)) (32 - 16) = xi2s v := by
  rw [show (32 : Int32) - 16 = nI 16 by decide]
  apply b_ext
  intro i hi
  have e : bt (xi2s v) i = if i < 16 then bt v i else bt v 15 := by
    show ((v.toBitVec.signExtend 16).signExtend 32).getLsbD i = if i < 16 then v.toBitVec.getLsbD i else v.toBitVec.getLsbD 15
    rw [BitVec.getLsbD_signExtend, BitVec.getLsbD_signExtend, decide_eq_true hi, Bool.true_and]
    by_cases h : i < 16
    · rw [if_pos h, if_pos h, if_pos hi, decide_eq_true h, Bool.true_and]
    · rw [if_neg h, if_neg h, BitVec.msb_eq_getLsbD_last, BitVec.getLsbD_signExtend]
      rfl
  rw [e, b_sshr 16 (by omega) _ hi]
  by_cases h : i < 16
  · rw [if_pos (by omega), if_pos h, shl_bt 16 (by omega) v (by omega), decide_eq_true (by omega), Bool.true_and, show 16 + i - 16 = i by omega]
  · rw [if_neg (by omega), if_neg h, shl_bt 16 (by omega) v (by omega)]
    rfl
theorem w32_eq (v : Int32) : xshr (xshl v (32 - 32)) (32 - 32) = v := by
  rw [show (32 : Int32) - 32 = nI 0 by decide]
  apply b_ext
  intro i hi
  rw [b_sshr 0 (by omega) _ hi, if_pos (by omega), shl_bt 0 (by omega) v (by omega), decide_eq_true (by omega), Bool.true_and, show 0 + i - 0 = i by omega]
section
variable {s s' s2 kd lo se ah ru sg no ti sp f5 f6 wb wz wn vb vz vn : Nat → Int32} {bw th cm hd ck zz : Int32} {nb nt : Nat} {K L E A R F : Nat → Nat}
theorem WR.wrong (hs : WR wb wz wn vb vz vn) (v1 : Int32) : (X3_wrongWith wb v1 = some 0 ∧ X6_wrongSheet vb v1 = some 0) ∨ (X3_wrongWith wb v1 = some 5 ∧ X6_wrongSheet vb v1 = some 5) ∨ (X3_wrongWith wb v1 = some (-1) ∧ X6_wrongSheet vb v1 = some (-1) ∧ ∃ j, j < 4 ∧ v1 = nI j ∧ ¬ vb j = 0) := by
  unfold X3_wrongWith X6_wrongSheet X3_isSheet X6_isSheet
  rw [isIn_eq]
  cases hi : X5_isIn v1 0 3 with
  | false => rw [if_pos xbf, if_pos xbf]; exact Or.inl ⟨rfl, rfl⟩
  | true =>
    obtain ⟨j, hj, rfl⟩ := isIn_t (n := 3) (by decide) hi
    obtain ⟨e1, -, -, -⟩ := hs.1 j (by omega)
    rw [if_neg xbt, if_neg xbt, if_pos (inr_lt (by omega) (by decide)), if_pos (inr_lt (by omega) (by decide)), nI_clamp (by omega), e1]
    by_cases e : vb j = 0
    · rw [if_pos e]; exact Or.inr (Or.inl ⟨rfl, rfl⟩)
    · rw [if_neg e]; exact Or.inr (Or.inr ⟨rfl, rfl, j, by omega, rfl, e⟩)
theorem lay_loop (f6 wb wz vb vz : Nat → Int32) {j : Nat} (hj : j < 4) : ∀ d k n m wn vn, k + d = 40 → d < n → d < m → (∀ i, i < 160 → wn i = vn i) → ∃ wn' vn', X3_lay_L25 n (nI j) (nI k) wb wz wn = some (wz j, wb, wz, wn') ∧ X6_sheet_L83 f6 m (nI j) (nI k) vb vz vn = some (vz j, f6, vb, vz, vn') ∧ ∀ i, i < 160 → wn' i = vn' i := by
  intro d
  induction d with
  | zero =>
    intro k n m wn vn hk hn hm hw
    obtain ⟨n, rfl⟩ : ∃ m, n = m + 1 := ⟨n - 1, by omega⟩
    obtain ⟨m, rfl⟩ : ∃ q, m = q + 1 := ⟨m - 1, by omega⟩
    rw [X3_lay_L25, X6_sheet_L83, if_pos (show (40 : Int32) ≤ nI k from nI_le (a := 40) (by omega) (by omega)), if_pos (show (40 : Int32) ≤ nI k from nI_le (a := 40) (by omega) (by omega)), if_pos (inr_lt hj (by decide)), if_pos (inr_lt hj (by decide)), nI_clamp (by omega)]
    exact ⟨_, _, rfl, rfl, hw⟩
  | succ d ih =>
    intro k n m wn vn hk hn hm hw
    obtain ⟨n, rfl⟩ : ∃ m, n = m + 1 := ⟨n - 1, by omega⟩
    obtain ⟨m, rfl⟩ : ∃ q, m = q + 1 := ⟨m - 1, by omega⟩
    rw [X3_lay_L25, X6_sheet_L83, if_neg (show ¬ (40 : Int32) ≤ nI k from nI_ge (b := 40) (by omega) (by omega)), if_neg (show ¬ (40 : Int32) ≤ nI k from nI_ge (b := 40) (by omega) (by omega)), at5, at6, if_pos (inr_lt (by omega) (by decide)), if_pos (inr_lt (by omega) (by decide)), nI_clamp (by omega), nI_1]
    refine ih (k + 1) n m _ _ (by omega) (by omega) (by omega) (fun i hi => ?_)
    by_cases e : i = 40 * j + k
    · rw [e, upd_eq, upd_eq]
    · rw [upd_ne e, upd_ne e, hw i hi]
theorem p_sheet (hf : FR f5 f6) (hs : WR wb wz wn vb vz vn) (v1 v2 v3 : Int32) :
    ∃ r5 r6, X5_sheet f5 wb wz wn v1 v2 v3 = some r5 ∧ X6_sheet f6 vb vz vn v1 v2 v3 = some r6 ∧ r5.1 = r6.1 ∧ FR r5.2.1 r6.2.1 ∧ WR r5.2.2.1 r5.2.2.2.1 r5.2.2.2.2 r6.2.2.1 r6.2.2.2.1 r6.2.2.2.2 := by
  unfold X5_sheet X6_sheet X3_isSheet X6_isSheet
  rw [isIn_eq]
  cases hi : X5_isIn v1 0 3 with
  | false =>
    simp only [f5_0, f6_0, Option.bind_some, if_pos xbf]
    exact ⟨_, _, rfl, rfl, rfl, hf.up 0 (by decide), hs⟩
  | true =>
    obtain ⟨j, hj, rfl⟩ := isIn_t (n := 3) (by decide) hi
    have hj4 : j < 4 := by omega
    have core : (v2 = 0 ∨ v2 = 8 ∨ v2 = 16 ∨ v2 = 32) → ∃ r5 r6, X5_sheet_L39 f5 wb wz wn (nI j) v2 v3 = some r5 ∧ X6_sheet_L35 f6 vb vz vn (nI j) v2 v3 = some r6 ∧ r5.1 = r6.1 ∧ FR r5.2.1 r6.2.1 ∧ WR r5.2.2.1 r5.2.2.2.1 r5.2.2.2.2 r6.2.2.1 r6.2.2.2.1 r6.2.2.2.2 := by
      intro hv
      unfold X5_sheet_L39 X6_sheet_L35 X3_lay
      simp only [f5_0, f6_0, f5_6, f6_6, Option.bind_some]
      by_cases h0 : (0 : Int32) ≤ v3
      · rw [if_pos h0, if_pos h0]
        by_cases h40 : v3 ≤ 40
        · simp only [if_pos h40, if_pos (inr_lt hj4 (show 4 ≤ 2 ^ 31 by decide)), nI_clamp (show j < 2 ^ 31 by omega)]
          obtain ⟨q, hq, rfl⟩ := nI_of2 (M := 40) (n := 40) (by decide) (Int32.not_lt.mpr h0) h40
          have fin : ∀ x : Int32, (∃ n, n ≤ 40 ∧ x = nI n) → ∃ r5 r6, (Option.bind (X3_lay_L25 FU (nI j) 0 (upd wb j v2) (upd wz j x) wn) fun r69 => some (r69.1, f5, r69.2.1, r69.2.2.1, r69.2.2.2)) = some r5 ∧ X6_sheet_L83 f6 FU (nI j) 0 (upd vb j v2) (upd vz j x) vn = some r6 ∧ r5.1 = r6.1 ∧ FR r5.2.1 r6.2.1 ∧ WR r5.2.2.1 r5.2.2.2.1 r5.2.2.2.2 r6.2.2.1 r6.2.2.2.1 r6.2.2.2.2 := by
            intro x hx
            obtain ⟨wn', vn', g1, g2, g3⟩ := lay_loop f6 (upd wb j v2) (upd wz j x) (upd vb j v2) (upd vz j x) hj4 40 0 FU FU wn vn (by omega) (by unfold FU; omega) (by unfold FU; omega) hs.2
            rw [show nI 0 = (0 : Int32) from rfl] at g1 g2
            have W : WR (upd wb j v2) (upd wz j x) wn' (upd vb j v2) (upd vz j x) vn' := by
              refine ⟨fun i hi => ?_, g3⟩
              obtain ⟨q1, q2, q3, q4⟩ := hs.1 i hi
              by_cases e : i = j
              · rw [e, upd_eq, upd_eq, upd_eq, upd_eq]
                exact ⟨rfl, hv, rfl, hx⟩
              · rw [upd_ne e, upd_ne e, upd_ne e, upd_ne e]
                exact ⟨q1, q2, q3, q4⟩
            rw [g1, g2, Option.bind_some]
            exact ⟨_, _, rfl, rfl, by rw [upd_eq, upd_eq], hf, W⟩
          by_cases e : v2 = 0
          · rw [if_pos e, if_pos e]
            exact fin 0 ⟨0, by decide, rfl⟩
          · rw [if_neg e, if_neg e]
            exact fin _ ⟨q, hq, rfl⟩
        · rw [if_neg h40, if_neg h40]
          exact ⟨_, _, rfl, rfl, rfl, hf.up 0 (by decide), hs⟩
      · rw [if_neg h0, if_neg h0]
        exact ⟨_, _, rfl, rfl, rfl, hf.up 6 (by decide), hs⟩
    rw [if_neg xbt, if_neg xbt]
    by_cases e0 : v2 = 0
    · rw [if_pos e0, if_pos e0]; exact core (Or.inl e0)
    by_cases e8 : v2 = 8
    · rw [if_neg e0, if_neg e0, if_pos e8, if_pos e8]; exact core (Or.inr (Or.inl e8))
    by_cases e16 : v2 = 16
    · rw [if_neg e0, if_neg e0, if_neg e8, if_neg e8, if_pos e16, if_pos e16]; exact core (Or.inr (Or.inr (Or.inl e16)))
    by_cases e32 : v2 = 32
    · rw [if_neg e0, if_neg e0, if_neg e8, if_neg e8, if_neg e16, if_neg e16, if_pos e32, if_pos e32]; exact core (Or.inr (Or.inr (Or.inr e32)))
    rw [if_neg e0, if_neg e0, if_neg e8, if_neg e8, if_neg e16, if_neg e16, if_neg e32, if_neg e32, f5_0, f6_0]
    exact ⟨_, _, rfl, rfl, rfl, hf.up 0 (by decide), hs⟩
theorem p_write (hf : FR f5 f6) (hs : WR wb wz wn vb vz vn) (v1 v2 v3 : Int32) :
    ∃ r5 r6, X5_write f5 wb wz wn v1 v2 v3 = some r5 ∧ X6_write f6 vb vz vn v1 v2 v3 = some r6 ∧ r5.1 = r6.1 ∧ FR r5.2.1 r6.2.1 ∧ WR wb wz r5.2.2 vb vz r6.2.2 := by
  unfold X5_write X6_write X6_write_L31
  rcases hs.wrong v1 with ⟨g1, g2⟩ | ⟨g1, g2⟩ | ⟨g1, g2, j, hj, rfl, hz⟩
  · rw [g1, g2, Option.bind_some, Option.bind_some, if_neg (by decide), if_pos (by decide), if_neg (by decide), f5_0, f6_0]
    exact ⟨_, _, rfl, rfl, rfl, hf.up 0 (by decide), hs⟩
  · rw [g1, g2, Option.bind_some, Option.bind_some, if_neg (by decide), if_pos (by decide), if_neg (by decide), f5_5, f6_5]
    exact ⟨_, _, rfl, rfl, rfl, hf.up 5 (by decide), hs⟩
  · obtain ⟨q1, q2, q3, n, q4, q5⟩ := hs.1 j hj
    rw [g1, g2, Option.bind_some, Option.bind_some, if_pos rfl, if_neg (show ¬ (0 : Int32) ≤ -1 by decide)]
    simp only [if_pos (inr_lt hj (show 4 ≤ 2 ^ 31 by decide)), nI_clamp (show j < 2 ^ 31 by omega), isIn_eq, q3, q5, f5_0, f6_0, Option.bind_some]
    cases hi : X5_isIn v2 0 (nI n - 1) with
    | false =>
      simp only [if_pos xbf, if_neg (show ¬ (0 : Int32) < 0 by decide)]
      exact ⟨_, _, rfl, rfl, rfl, hf.up 0 (by decide), hs⟩
    | true =>
      obtain ⟨i, hi2, rfl⟩ := isIn_m1 (by omega) hi
      have fin : ∀ x, ∃ r5 r6, some ((1 : Int32), f5, upd wn (40 * j + i) x) = some r5 ∧ some ((1 : Int32), f6, upd vn (40 * j + i) x) = some r6 ∧ r5.1 = r6.1 ∧ FR r5.2.1 r6.2.1 ∧ WR wb wz r5.2.2 vb vz r6.2.2 := by
        intro x
        refine ⟨_, _, rfl, rfl, rfl, hf, hs.1, fun k hk => ?_⟩
        show upd wn (40 * j + i) x k = upd vn (40 * j + i) x k
        by_cases e : k = 40 * j + i
        · rw [e, upd_eq, upd_eq]
        · rw [upd_ne e, upd_ne e, hs.2 k hk]
      unfold X3_set
      simp only [if_neg xbt, if_pos (show (-1 : Int32) < 0 by decide), if_pos (inr_lt hj (show 4 ≤ 2 ^ 31 by decide)), nI_clamp (show j < 2 ^ 31 by omega), at5, at6, if_pos (inr_lt (show 40 * j + i < 160 by omega) (by decide)), nI_clamp (show 40 * j + i < 2 ^ 31 by omega), Option.bind_some, q1]
      rcases q2 with q2 | q2 | q2 | q2
      · exact absurd q2 hz
      · rw [q2, w8_eq, if_pos rfl]
        exact fin _
      · rw [q2, w16_eq, if_neg (by decide), if_pos rfl]
        exact fin _
      · rw [q2, w32_eq, if_neg (by decide), if_neg (by decide)]
        exact fin _
theorem copy_loop2 (f6 ca : Nat → Int32) {j c n : Nat} (hn : 40 * j + c + n ≤ 160) (h40 : n ≤ 40) (vn : Nat → Int32) : ∀ d k m x, k + d = n → d < m → (∀ i, i < 160 → x i = if 40 * j + c ≤ i ∧ i < 40 * j + c + k then ca (i - (40 * j + c)) else vn i) → ∃ x', X6_copy_L152 f6 m (nI j) (nI c) (nI n) (nI k) x ca = some (nI n, f6, x', ca) ∧ ∀ i, i < 160 → x' i = if 40 * j + c ≤ i ∧ i < 40 * j + c + n then ca (i - (40 * j + c)) else vn i := by
  intro d
  induction d with
  | zero =>
    intro k m x hk hm hx
    obtain ⟨m, rfl⟩ : ∃ q, m = q + 1 := ⟨m - 1, by omega⟩
    rw [X6_copy_L152, if_pos (nI_le (by omega) (by omega))]
    exact ⟨_, rfl, by rw [← show k = n by omega]; exact hx⟩
  | succ d ih =>
    intro k m x hk hm hx
    obtain ⟨m, rfl⟩ : ∃ q, m = q + 1 := ⟨m - 1, by omega⟩
    rw [X6_copy_L152, if_neg (nI_ge (by omega) (by omega)), at6, nI_add, if_pos (inr_lt (by omega) (by decide)), if_pos (inr_lt (by omega) (by decide)), nI_clamp (by omega), nI_clamp (by omega), nI_1]
    refine ih (k + 1) m _ (by omega) (by omega) (fun i hi => ?_)
    by_cases e : i = 40 * j + c + k
    · rw [e, upd_eq, if_pos (by omega), show 40 * j + c + k - (40 * j + c) = k by omega]
    · rw [upd_ne e, hx i hi]
      by_cases h1 : 40 * j + c ≤ i ∧ i < 40 * j + c + k
      · rw [if_pos h1, if_pos (by omega)]
      · rw [if_neg h1, if_neg (by omega)]
theorem copy_loop1 (f6 vn : Nat → Int32) {j1 a j2 c n : Nat} (hn1 : 40 * j1 + a + n ≤ 160) (hn : 40 * j2 + c + n ≤ 160) (h40 : n ≤ 40) : ∀ d k m ca, k + d = n → d < m → (∀ i, i < k → ca i = vn (40 * j1 + a + i)) → ∃ x' ca', X6_copy_L115 f6 vn m (nI j1) (nI a) (nI j2) (nI c) (nI n) (nI k) ca = some (nI n, f6, x', ca') ∧ ∀ i, i < 160 → x' i = if 40 * j2 + c ≤ i ∧ i < 40 * j2 + c + n then vn (40 * j1 + a + (i - (40 * j2 + c))) else vn i := by
  intro d
  induction d with
  | zero =>
    intro k m ca hk hm hc
    obtain ⟨m, rfl⟩ : ∃ q, m = q + 1 := ⟨m - 1, by omega⟩
    rw [X6_copy_L115, if_pos (nI_le (by omega) (by omega))]
    obtain ⟨x', g1, g2⟩ := copy_loop2 f6 ca hn h40 vn n 0 FU vn (by omega) (by unfold FU; omega) (fun i hi => by rw [if_neg (by omega)])
    refine ⟨x', ca, g1, fun i hi => ?_⟩
    rw [g2 i hi]
    by_cases h1 : 40 * j2 + c ≤ i ∧ i < 40 * j2 + c + n
    · rw [if_pos h1, if_pos h1, hc _ (by omega)]
    · rw [if_neg h1, if_neg h1]
  | succ d ih =>
    intro k m ca hk hm hc
    obtain ⟨m, rfl⟩ : ∃ q, m = q + 1 := ⟨m - 1, by omega⟩
    rw [X6_copy_L115, if_neg (nI_ge (by omega) (by omega)), at6, nI_add, if_pos (inr_lt (by omega) (by decide)), if_pos (inr_lt (by omega) (by decide)), nI_clamp (by omega), nI_clamp (by omega), nI_1]
    refine ih (k + 1) m _ (by omega) (by omega) (fun i hi => ?_)
    by_cases e : i = k
    · rw [e, upd_eq]
    · rw [upd_ne e, hc i (by omega)]
theorem part_eq (wz : Nat → Int32) {j z a n : Nat} (hj : j < 4) (hz : z ≤ 40) (hw : wz j = nI z) (ha : a < 2 ^ 31) (hn : n < 2 ^ 31) : X3_hasPart wz (nI j) (nI a) (nI n) = some (decide (a + n ≤ z)) := by
  unfold X3_hasPart
  rw [if_neg (nI_pos hn), if_pos (inr_lt hj (by decide)), if_pos (inr_lt hj (by decide)), nI_clamp (by omega), hw]
  by_cases h : a ≤ z
  · rw [isIn_k (by omega) h, if_neg xbt, nI_sub h]
    by_cases h2 : n ≤ z - a
    · rw [if_neg (nI_nlt h2 (by omega)), decide_eq_true (by omega)]
    · rw [if_pos (nI_lt (by omega) (by omega)), decide_eq_false (by omega)]
  · cases hi : X5_isIn (nI a) 0 (nI z) with
    | true =>
      obtain ⟨i, h1, h2⟩ := isIn_t (by omega) hi
      have := (nI_eq ha (by omega)).mp h2
      omega
    | false => rw [if_pos xbf, decide_eq_false (by omega)]
theorem part_neg (wz : Nat → Int32) {j z : Nat} (hj : j < 4) (hz : z ≤ 40) (hw : wz j = nI z) {v n : Int32} (hn : ¬ n < 0) (hv : v < 0) : X3_hasPart wz (nI j) v n = some false := by
  unfold X3_hasPart
  rw [if_neg hn, if_pos (inr_lt hj (by decide)), if_pos (inr_lt hj (by decide)), nI_clamp (by omega), hw]
  have : X5_isIn v 0 (nI z) = false := by unfold X5_isIn; rw [if_pos hv]
  rw [this, if_pos xbf]
theorem p_copy (hf : FR f5 f6) (hs : WR wb wz wn vb vz vn) (c6800 : Nat → Int32) (v1 v2 v3 v4 v5 : Int32) :
    ∃ r5 r6, X5_copy f5 wb wz wn v1 v2 v3 v4 v5 = some r5 ∧ X6_copy f6 vb vz vn c6800 v1 v2 v3 v4 v5 = some r6 ∧ r5.1 = r6.1 ∧ FR r5.2.1 r6.2.1 ∧ WR wb wz r5.2.2 vb vz r6.2.2.1 := by
  unfold X5_copy X6_copy X3_isSheet X6_isSheet
  simp only [f5_0, f6_0, f5_2, f6_2, f5_5, f6_5, Option.bind_some, isIn_eq]
  cases hi : X5_isIn v1 0 3 with
  | false =>
    simp only [if_pos xbf]
    exact ⟨_, _, rfl, rfl, rfl, hf.up 0 (by decide), hs⟩
  | true =>
    obtain ⟨j1, hj1, rfl⟩ := isIn_t (n := 3) (by decide) hi
    cases hi3 : X5_isIn v3 0 3 with
    | false =>
      simp only [if_pos xbf, if_neg xbt]
      exact ⟨_, _, rfl, rfl, rfl, hf.up 0 (by decide), hs⟩
    | true =>
      obtain ⟨j2, hj2, rfl⟩ := isIn_t (n := 3) (by decide) hi3
      obtain ⟨q1, q2, q3, z1, q4, q5⟩ := hs.1 j1 (by omega)
      obtain ⟨u1, u2, u3, z2, u4, u5⟩ := hs.1 j2 (by omega)
      have ww : ∀ j, j < 4 → wb j = vb j → X3_wrongWith wb (nI j) = some (if vb j = 0 then 5 else -1) := by
        intro j hj e
        unfold X3_wrongWith X3_isSheet
        rw [show X5_isIn (nI j) 0 3 = true from isIn_k (n := 3) (by decide) (by omega), if_neg xbt, if_pos (inr_lt hj (by decide)), nI_clamp (by omega), e]
        by_cases e2 : vb j = 0
        · rw [if_pos e2, if_pos e2]
        · rw [if_neg e2, if_neg e2]
      simp only [if_neg xbt, ww j1 (by omega) q1, ww j2 (by omega) u1, if_pos (inr_lt (show j1 < 4 by omega) (by decide)), if_pos (inr_lt (show j2 < 4 by omega) (by decide)), nI_clamp (show j1 < 2 ^ 31 by omega), nI_clamp (show j2 < 2 ^ 31 by omega), Option.bind_some]
      by_cases e1 : vb j1 = 0
      · rw [if_pos e1, if_pos e1, if_neg (by decide)]
        exact ⟨_, _, rfl, rfl, rfl, hf.up 5 (by decide), hs⟩
      by_cases e2 : vb j2 = 0
      · rw [if_neg e1, if_neg e1, if_pos rfl, if_pos e2, if_neg (by decide), if_pos e2]
        exact ⟨_, _, rfl, rfl, rfl, hf.up 5 (by decide), hs⟩
      rw [if_neg e1, if_neg e1, if_neg e2, if_neg e2, if_pos rfl, if_pos rfl, q1, u1]
      by_cases e3 : vb j1 = vb j2
      · rw [if_pos e3, if_pos e3]
        have nope : ∃ r5 r6, some (-1000001 - nI 0, upd f5 0 (f5 0 + 1), wn) = some r5 ∧ some (-1000001 - nI 0, upd f6 0 (f6 0 + 1), vn, c6800) = some r6 ∧ r5.1 = r6.1 ∧ FR r5.2.1 r6.2.1 ∧ WR wb wz r5.2.2 vb vz r6.2.2.1 := ⟨_, _, rfl, rfl, rfl, hf.up 0 (by decide), hs⟩
        by_cases n0 : v5 < 0
        · have hp : X3_hasPart wz (nI j1) v2 v5 = some false := by unfold X3_hasPart; rw [if_pos n0]
          rw [if_pos n0, hp, Option.bind_some, if_pos xbf]
          exact nope
        rw [if_neg n0]
        by_cases a0 : v2 < 0
        · rw [if_pos a0, part_neg wz (by omega) q4 (q3.trans q5) n0 a0, Option.bind_some, if_pos xbf]
          exact nope
        rw [if_neg a0]
        obtain ⟨n, hn, rfl⟩ := nI_of n0
        obtain ⟨a, ha, rfl⟩ := nI_of a0
        rw [part_eq wz (by omega) q4 (q3.trans q5) ha hn, Option.bind_some, q5, u5]
        have tz : ∀ z, z ≤ 40 → (nI z - nI n).toInt = (z : Int) - n := fun z hz => by
          rw [Int32.toInt_sub, nI_toInt (by omega), nI_toInt (by omega), Int.bmod_eq_of_le (by omega) (by omega)]
        by_cases c0 : v4 < 0
        · rw [if_pos c0]
          by_cases h1 : a + n ≤ z1
          · rw [decide_eq_true h1, if_neg xbt, part_neg wz (by omega) u4 (u3.trans u5) n0 c0, Option.bind_some, if_pos xbf]
            exact nope
          · rw [decide_eq_false h1, if_pos xbf]
            exact nope
        rw [if_neg c0]
        obtain ⟨c, hc, rfl⟩ := nI_of c0
        rw [part_eq wz (by omega) u4 (u3.trans u5) hc hn, Option.bind_some]
        by_cases h1 : a + n ≤ z1
        · rw [decide_eq_true h1, if_neg xbt, if_neg (show ¬ nI z1 - nI n < nI a from fun z => by rw [ltI, tz z1 q4, nI_toInt ha] at z; omega)]
          by_cases h2 : c + n ≤ z2
          · rw [decide_eq_true h2, if_neg xbt, if_pos (show nI c ≤ nI z2 - nI n by rw [Int32.le_iff_toInt_le, tz z2 u4, nI_toInt hc]; omega)]
            obtain ⟨x', ca', g1, g2⟩ := copy_loop1 f6 vn (j1 := j1) (a := a) (j2 := j2) (c := c) (n := n) (by omega) (by omega) (by omega) n 0 FU c6800 (by omega) (by unfold FU; omega) (fun i hi => absurd hi (Nat.not_lt_zero i))
            rw [show nI 0 = (0 : Int32) from rfl] at g1
            have i1 : (nI (40 * j1 + a)).toInt = ((40 * j1 + a : Nat) : Int) := nI_toInt (by omega)
            have i2 : (nI (40 * j2 + c)).toInt = ((40 * j2 + c : Nat) : Int) := nI_toInt (by omega)
            have i3 : (nI n).toInt = (n : Int) := nI_toInt (by omega)
            unfold X3_move
            rw [at5, at5, if_pos (by rw [i1, i2, i3]; omega), Option.bind_some, nI_clamp (by omega), nI_clamp (by omega), nI_clamp (by omega), g1]
            refine ⟨_, _, rfl, rfl, rfl, hf, hs.1, fun i hi => ?_⟩
            show va_cpy wn wn (40 * j1 + a) (40 * j2 + c) n i = x' i
            rw [g2 i hi]
            unfold va_cpy
            by_cases h3 : 40 * j2 + c ≤ i ∧ i < 40 * j2 + c + n
            · rw [if_pos h3, if_pos h3, hs.2 _ (by omega)]
            · rw [if_neg h3, if_neg h3, hs.2 i hi]
          · rw [decide_eq_false h2, if_pos xbf, if_neg (show ¬ nI c ≤ nI z2 - nI n from fun z => by rw [Int32.le_iff_toInt_le, tz z2 u4, nI_toInt hc] at z; omega)]
            exact nope
        · rw [decide_eq_false h1, if_pos xbf, if_pos (show nI z1 - nI n < nI a by rw [ltI, tz z1 q4, nI_toInt ha]; omega)]
          exact nope
      · rw [if_neg e3, if_neg e3]
        exact ⟨_, _, rfl, rfl, rfl, hf.up 2 (by decide), hs⟩
theorem num_eq (wn : Nat → Int32) {j i : Nat} (hj : j < 4) (hi : i < 40) : X3_numberAt wn (nI j) (nI i) = some (wn (40 * j + i)) := by
  unfold X3_numberAt
  rw [at5, if_pos (inr_lt (by omega) (by decide)), nI_clamp (by omega)]
theorem p_load (h : SP s bw th cm hd ck zz kd lo se ah ru sg no ti sp nb nt K L E A R F) (hf : FR f5 f6) (hs : WR wb wz wn vb vz vn) (v1 : Int32) :
    ∃ r5 r6, X5_load f5 bw lo wb wz wn v1 = some r5 ∧ X6_load s f6 vb vz vn v1 = some r6 ∧ r5.1 = r6.1 ∧ SQ r6.2.1 bw th cm hd ck zz kd r5.2.2 se ah ru sg no ti sp ∧ FR r5.2.1 r6.2.2 := by
  have h9 := h.h9
  unfold X5_load X6_load
  rcases hs.wrong v1 with ⟨g1, g2⟩ | ⟨g1, g2⟩ | ⟨g1, g2, j, hj, rfl, hz⟩
  · rw [g1, g2, Option.bind_some, Option.bind_some, if_neg (by decide), if_neg (by decide), f5_0, f6_0]
    exact ⟨_, _, rfl, rfl, rfl, h.sq, hf.up 0 (by decide)⟩
  · rw [g1, g2, Option.bind_some, Option.bind_some, if_neg (by decide), if_neg (by decide), f5_5, f6_5]
    exact ⟨_, _, rfl, rfl, rfl, h.sq, hf.up 5 (by decide)⟩
  · obtain ⟨q1, q2, q3, z, q4, q5⟩ := hs.1 j hj
    have hm : xmin (nI z) (nI nb) = nI (min z nb) := by
      unfold xmin
      by_cases e : nb < z
      · rw [if_pos (nI_lt e (by omega)), Nat.min_eq_right (by omega)]
      · rw [if_neg (nI_nlt (by omega) (by omega)), Nat.min_eq_left (by omega)]
    have hm1 := Nat.min_le_left z nb
    have hm2 := Nat.min_le_right z nb
    have loop : ∀ d k n m lo s L, k + d = min z nb → d < n → d < m → SP s bw th cm hd ck zz kd lo se ah ru sg no ti sp nb nt K L E A R F → ∃ w lo' s', X5_load_L43 f5 wn n (nI j) (nI k) (nI (min z nb)) lo = some (w, f5, lo') ∧ X6_load_L18 f6 vz vn m (nI j) (nI k) s = some (w, s', f6) ∧ SQ s' bw th cm hd ck zz kd lo' se ah ru sg no ti sp := by
      intro d
      induction d with
      | zero =>
        intro k n m lo s L hk hn hm h
        obtain ⟨n, rfl⟩ : ∃ m, n = m + 1 := ⟨n - 1, by omega⟩
        obtain ⟨m, rfl⟩ : ∃ q, m = q + 1 := ⟨m - 1, by omega⟩
        rw [X5_load_L43, if_pos (nI_le (by omega) (by omega)), X6_load_L18, if_pos (inr_lt hj (by decide)), nI_clamp (by omega), q5]
        by_cases e : z ≤ k
        · rw [if_pos (nI_le e (by omega))]
          exact ⟨_, _, _, rfl, rfl, h.sq⟩
        · have : X2_isBow bw (nI k) = false := by
            rw [h.bw_]
            unfold X2_isBow
            rw [if_neg (nI_pos (by omega)), if_pos (nI_le (by omega) (by omega))]
          rw [if_neg (nI_ge (by omega) (by omega)), (h.ib (nI k)).1, Option.bind_some, this, if_pos xbf]
          exact ⟨_, _, _, rfl, rfl, h.sq⟩
      | succ d ih =>
        intro k n m lo s L hk hn hm h
        obtain ⟨n, rfl⟩ : ∃ m, n = m + 1 := ⟨n - 1, by omega⟩
        obtain ⟨m, rfl⟩ : ∃ q, m = q + 1 := ⟨m - 1, by omega⟩
        have hkb : k < nb := by omega
        have hib : X2_isBow bw (nI k) = true := by rw [h.bw_]; exact isBow_k h9 hkb
        rw [X5_load_L43, if_neg (nI_ge (by omega) (by omega)), num_eq wn hj (by omega), hs.2 _ (by omega), X6_load_L18]
        simp only [Option.bind_some, if_pos (inr_lt hj (show 4 ≤ 2 ^ 31 by decide)), nI_clamp (show j < 2 ^ 31 by omega), q5, if_neg (nI_ge (show k < z by omega) (show z < 2 ^ 31 by omega)), (h.ib (nI k)).1, hib, if_neg xbt, at6, if_pos (inr_lt (show 40 * j + k < 160 by omega) (by decide)), nI_clamp (show 40 * j + k < 2 ^ 31 by omega), isIn_eq, if_pos (inr_lt (show k < 9 by omega) (by decide)), nI_clamp (show k < 2 ^ 31 by omega)]
        cases hi : X5_isIn (vn (40 * j + k)) 0 99 with
        | false =>
          simp only [if_pos xbf]
          exact ⟨_, _, _, rfl, rfl, h.sq⟩
        | true =>
          obtain ⟨x, hx, e⟩ := isIn_t (n := 99) (by decide) hi
          simp only [if_neg xbt]
          rw [e, pu1 s (by omega), Option.bind_some, nI_1]
          exact ih (k + 1) n m _ _ _ (by omega) (by omega) (by omega) (h.setL hkb hx)
    obtain ⟨w, lo', s', e1, e2, e3⟩ := loop (min z nb) 0 FU FU lo s L (by omega) (by unfold FU; omega) (by unfold FU; omega) h
    rw [show nI 0 = (0 : Int32) from rfl] at e1 e2
    rw [g1, g2, Option.bind_some, Option.bind_some, if_pos rfl, if_pos (show (-1 : Int32) < 0 by decide), if_pos (inr_lt hj (by decide)), nI_clamp (by omega), q3, q5, h.bw_, hm, e1, e2, ← h.bw_]
    exact ⟨_, _, rfl, rfl, rfl, e3, hf⟩
/-- the sheet read as an order: how far it goes, and what it brings -/
theorem sheet_run (h : SP s bw th cm hd ck zz kd lo se ah ru sg no ti sp nb nt K L E A R F) (hs : WR wb wz wn vb vz vn) {j z : Nat} (hj : j < 4) (hz : z ≤ 40) (hv : vz j = nI z) (hw : wz j = nI z) :
    ∀ d i n5 n6 c last p lb, i + d = z → d < n5 → d < n6 → c < 2 ^ nb → p ≤ 198 → X6_leftBy s last = some (nI p) → ∃ i' lb', i' ≤ z ∧ X6_comeOf_L18 s vz vn n6 (nI j) (nI c) last (nI i) lb = some (nI i', lb') ∧ X5_firstThatCannot_L10 bw ah wz wn n5 (nI j) (nI c) (nI i) = some (if i' = z then 0 else 1 + nI i') ∧ (i' = z → ∀ acc m, d < m → X5_loud_L54 f5 kd lo wz wn m (nI j) (acc + lb) (nI p) (nI i) = some (acc + lb', f5)) := by
  have h9 := h.h9
  have h2 := two_lt h9
  intro d
  induction d with
  | zero =>
    intro i n5 n6 c last p lb hi h5 h6 hc hp hl
    obtain ⟨n5, rfl⟩ : ∃ m, n5 = m + 1 := ⟨n5 - 1, by omega⟩
    obtain ⟨n6, rfl⟩ : ∃ m, n6 = m + 1 := ⟨n6 - 1, by omega⟩
    have e : i = z := by omega
    subst e
    refine ⟨i, lb, Nat.le_refl _, ?_, ?_, ?_⟩
    · rw [X6_comeOf_L18, if_pos (inr_lt hj (by decide)), nI_clamp (by omega), hv, if_pos (Int32.le_refl _)]
    · rw [X5_firstThatCannot_L10, if_pos (inr_lt hj (by decide)), nI_clamp (by omega), hw, if_pos (Int32.le_refl _), if_pos rfl]
    · intro _ acc m hm
      obtain ⟨m, rfl⟩ : ∃ q, m = q + 1 := ⟨m - 1, by omega⟩
      rw [X5_loud_L54, if_pos (inr_lt hj (by decide)), nI_clamp (by omega), hw, if_pos (Int32.le_refl _)]
  | succ d ih =>
    intro i n5 n6 c last p lb hi h5 h6 hc hp hl
    obtain ⟨n5, rfl⟩ : ∃ m, n5 = m + 1 := ⟨n5 - 1, by omega⟩
    obtain ⟨n6, rfl⟩ : ∃ m, n6 = m + 1 := ⟨n6 - 1, by omega⟩
    obtain ⟨i1, i2⟩ := h.ib (vn (40 * j + i))
    have hsz : ¬ nI z ≤ nI i := nI_ge (by omega) (by omega)
    rw [X6_comeOf_L18, X5_firstThatCannot_L10, num_eq wn hj (by omega), hs.2 _ (by omega)]
    simp only [if_pos (inr_lt hj (show 4 ≤ 2 ^ 31 by decide)), nI_clamp (show j < 2 ^ 31 by omega), hv, hw, if_neg hsz, at6, if_pos (inr_lt (show 40 * j + i < 160 by omega) (by decide)), nI_clamp (show 40 * j + i < 2 ^ 31 by omega), Option.bind_some, i1]
    have stop : ∃ i' lb', i' ≤ z ∧ some (nI i, lb) = some (nI i', lb') ∧ some ((1 : Int32) + nI i) = some (if i' = z then 0 else 1 + nI i') ∧ (i' = z → ∀ acc m, d + 1 < m → X5_loud_L54 f5 kd lo wz wn m (nI j) (acc + lb) (nI p) (nI i) = some (acc + lb', f5)) :=
      ⟨i, lb, by omega, rfl, by rw [if_neg (by omega)], fun e => absurd e (by omega)⟩
    cases hb : X2_isBow bw (vn (40 * j + i)) with
    | false =>
      simp only [if_pos xbf]
      exact stop
    | true =>
      obtain ⟨b, hbn, e⟩ := i2 hb
      obtain ⟨c1, c2, -⟩ := h.can5 hbn (show c < 512 by omega)
      simp only [if_neg xbt, e, c1, c2, Option.bind_some]
      cases hcan : canF A b c with
      | false =>
        simp only [if_pos xbf]
        exact stop
      | true =>
        obtain ⟨n1, n2⟩ := h.nz hbn (p := p) (by omega)
        obtain ⟨l1, l2⟩ := h.lv hbn
        have hl2 : X6_leftBy s (nI b) = some (nI (lvN (K b) (L b))) := by
          unfold X6_leftBy
          rw [if_pos (nI_pos' (by omega)), l1]; rfl
        obtain ⟨i', lb', g1, g2, g3, g4⟩ := ih (i + 1) n5 n6 (c ||| 2 ^ b) (nI b) (lvN (K b) (L b)) (lb + nI (nzN (K b) (L b) p)) (by omega) (by omega) (by omega) (Nat.or_lt_two_pow hc (Nat.pow_lt_pow_right (by decide) hbn)) (lv_le (h.cc hbn).2.1) hl2
        simp only [if_neg xbt, hl, n1, Option.bind_some, shl_eq (show b < 31 by omega), ny_or, nI_1, g2, g3]
        refine ⟨i', lb', g1, rfl, rfl, fun ez acc m hm => ?_⟩
        obtain ⟨m, rfl⟩ : ∃ q, m = q + 1 := ⟨m - 1, by omega⟩
        have := g4 ez acc m (by omega)
        rw [X5_loud_L54, if_pos (inr_lt hj (by decide)), nI_clamp (by omega), hw, if_neg hsz, num_eq wn hj (by omega), hs.2 _ (by omega), Option.bind_some, e, n2, Option.bind_some, l2, Option.bind_some, nI_1, Int32.add_assoc]
        exact this
theorem p_judge (h : SP s bw th cm hd ck zz kd lo se ah ru sg no ti sp nb nt K L E A R F) (hf : FR f5 f6) (hs : WR wb wz wn vb vz vn) (c5225 : Int32) (v1 : Int32) :
    ∃ r5 r6, X5_judge f5 bw cm ah wb wz wn v1 = some r5 ∧ X6_judge c5225 s f6 vb vz vn v1 = some r6 ∧ r5.1 = r6.1 ∧ FR r5.2 r6.2.2 := by
  unfold X5_judge X6_judge
  rcases hs.wrong v1 with ⟨g1, g2⟩ | ⟨g1, g2⟩ | ⟨g1, g2, j, hj, rfl, hz⟩
  · rw [g1, g2, Option.bind_some, Option.bind_some, if_neg (by decide), if_neg (by decide), f5_0, f6_0]
    exact ⟨_, _, rfl, rfl, rfl, hf.up 0 (by decide)⟩
  · rw [g1, g2, Option.bind_some, Option.bind_some, if_neg (by decide), if_neg (by decide), f5_5, f6_5]
    exact ⟨_, _, rfl, rfl, rfl, hf.up 5 (by decide)⟩
  · obtain ⟨q1, q2, q3, z, q4, q5⟩ := hs.1 j hj
    obtain ⟨l1, l2, l3⟩ := h.latest
    obtain ⟨i', lb', e1, e2, e3, -⟩ := sheet_run (f5 := f5) h hs hj q4 q5 (q3.trans q5) z 0 FU FU (stg F nt) _ (lat K L F nt) 0 (by omega) (by unfold FU; omega) (by unfold FU; omega) h.c_lt h.lat_le l2
    rw [show nI 0 = (0 : Int32) from rfl] at e2 e3
    unfold X5_firstThatCannot X6_comeOf
    rw [g1, g2, Option.bind_some, Option.bind_some, if_pos rfl, if_pos (show (-1 : Int32) < 0 by decide), h.cm_, e3, Option.bind_some, h.stage, Option.bind_some, l1, Option.bind_some, e2, Option.bind_some, if_pos (inr_lt hj (by decide)), nI_clamp (by omega), q5]
    by_cases e : i' = z
    · rw [if_pos e, if_pos (by rw [e])]
      exact ⟨_, _, rfl, rfl, rfl, hf⟩
    · rw [if_neg e, if_neg (fun w => e ((nI_eq (by omega) (by omega)).mp w))]
      exact ⟨_, _, rfl, rfl, rfl, hf⟩
theorem p_loud (h : SP s bw th cm hd ck zz kd lo se ah ru sg no ti sp nb nt K L E A R F) (hf : FR f5 f6) (hs : WR wb wz wn vb vz vn) (c5225 : Int32) (v1 : Int32) :
    ∃ r5 r6, X5_loud f5 bw th cm hd kd lo ah sg wb wz wn v1 = some r5 ∧ X6_loud c5225 s f6 vb vz vn v1 = some r6 ∧ r5.1 = r6.1 ∧ FR r5.2 r6.2.2 := by
  unfold X5_loud X6_loud
  rcases hs.wrong v1 with ⟨g1, g2⟩ | ⟨g1, g2⟩ | ⟨g1, g2, j, hj, rfl, hz⟩
  · rw [g1, g2, Option.bind_some, Option.bind_some, if_neg (by decide), if_neg (by decide), f5_0, f6_0]
    exact ⟨_, _, rfl, rfl, rfl, hf.up 0 (by decide)⟩
  · rw [g1, g2, Option.bind_some, Option.bind_some, if_neg (by decide), if_neg (by decide), f5_5, f6_5]
    exact ⟨_, _, rfl, rfl, rfl, hf.up 5 (by decide)⟩
  · obtain ⟨q1, q2, q3, z, q4, q5⟩ := hs.1 j hj
    obtain ⟨l1, l2, l3⟩ := h.latest
    obtain ⟨i', lb', e1, e2, e3, e4⟩ := sheet_run (f5 := f5) h hs hj q4 q5 (q3.trans q5) z 0 FU FU (stg F nt) _ (lat K L F nt) 0 (by omega) (by unfold FU; omega) (by unfold FU; omega) h.c_lt h.lat_le l2
    rw [show nI 0 = (0 : Int32) from rfl] at e2 e3 e4
    unfold X5_firstThatCannot X6_comeOf
    rw [g1, g2, Option.bind_some, Option.bind_some, if_pos rfl, if_pos (show (-1 : Int32) < 0 by decide), h.cm_, e3, Option.bind_some, h.stage, Option.bind_some, l1, Option.bind_some, e2, Option.bind_some, if_pos (inr_lt hj (by decide)), nI_clamp (by omega), q5, f5_4, f6_4]
    by_cases e : i' = z
    · have := e4 e hd FU (by unfold FU; omega)
      rw [Int32.add_zero] at this
      rw [if_pos e, if_pos rfl, if_pos (by rw [e]), l3, Option.bind_some, this]
      exact ⟨_, _, rfl, rfl, by rw [h.1.2.2.2.2.2.2.2.1], hf⟩
    · rw [if_neg e, if_neg (fun w => e ((nI_eq (by omega) (by omega)).mp w)), if_neg (fun w => nI_ne0 (n := 1 + i') (by omega) (by omega) (by rw [← nI_add]; exact w))]
      exact ⟨_, _, rfl, rfl, rfl, hf.up 4 (by decide)⟩
end
