/-! THE COMMANDS: each answers alike and keeps the relation -/
def INV (σ : xM) (_ : Int64) : Prop := SQ (σ 5300) (σ 201 0) (σ 207 0) (σ 208 0) (σ 209 0) (σ 210 0) (σ 214 0) (σ 300) (σ 400) (σ 500) (σ 600) (σ 700) (σ 800) (σ 900) (σ 1000) (σ 1100) ∧ FR (σ 100) (σ 5600) ∧ KR (σ 8 0) (σ 5204 0) (σ 5400) (σ 1201 0) (σ 1207 0) (σ 1208 0) (σ 1209 0) (σ 1210 0) (σ 1214 0) (σ 1300) (σ 1400) (σ 1500) (σ 1600) (σ 1700) (σ 1800) (σ 1900) (σ 2000) (σ 2100) ∧ TR (σ 4202 0) (σ 5213 0) (σ 4300) (σ 6100) ∧ WR (σ 4900) (σ 5000) (σ 5100) (σ 6500) (σ 6600) (σ 6700) ∧ LR (σ 6200) (σ 6300) (σ 6400)
def R0 : Nat → Nat
  | 0 => 1
  | 1 => 1
  | 2 => 20
  | 3 => 30
  | 4 => 60
  | _ => 0
theorem inv0 : INV xm0 0 := by
  refine ⟨⟨0, 0, fun _ => 0, fun _ => 0, fun _ => 0, fun _ => 0, R0, fun _ => 0, ⟨by decide, by decide, by decide +kernel, by decide +kernel, by decide +kernel, by decide +kernel, by decide +kernel, by decide +kernel, by decide +kernel, by decide +kernel⟩, fun b hb => absurd hb (Nat.not_lt_zero b), ?_, ⟨fun i hi => absurd hi (Nat.not_lt_zero i), fun i j hi => absurd hi (Nat.not_lt_zero i)⟩, ?_⟩, ?_, ⟨by decide +kernel, Or.inl (by decide +kernel)⟩, ⟨0, by decide, by decide +kernel, by decide +kernel, fun i hi => absurd hi (Nat.not_lt_zero i)⟩, ⟨?_, ?_⟩, rfl, rfl, rfl⟩
  · exact (by decide +kernel : ∀ k, k < 5 → xm0 700 k = nI (R0 k) ∧ xm0 5300 (5 + k) = nI (R0 k) ∧ R0 k ≤ mr k)
  · intro k hk
    obtain ⟨h1, h2⟩ := (by decide +kernel : ∀ k, k < 10 → xm0 1100 k = xm0 5300 (73 + k) ∧ xm0 5300 (73 + k) = -1) k hk
    exact ⟨h1, Or.inl h2⟩
  · exact (by decide +kernel : ∀ k, k < 7 → xm0 100 k = xm0 5600 k)
  · intro j hj
    obtain ⟨h1, h2, h3, h4⟩ := (by decide +kernel : ∀ j, j < 4 → xm0 4900 j = xm0 6500 j ∧ xm0 6500 j = 0 ∧ xm0 5000 j = xm0 6600 j ∧ xm0 6600 j = nI 0) j hj
    exact ⟨h1, Or.inl h2, h3, 0, by decide, h4⟩
  · exact (by decide +kernel : ∀ i, i < 160 → xm0 5100 i = xm0 6700 i)
theorem c_bow {X : xX} (σ : xM) (lg : Int64) (v1 : Int32) (I : INV σ lg) : xCmdI X INV 68 144 [.int v1] σ lg := by
  obtain ⟨⟨nb, nt, K, L, E, A, R, F, hA⟩, hB, hK, hT, hS, hL⟩ := I
  obtain ⟨r5, r6, h1, h2, h3, gA, gB⟩ := p_bow hA hB v1
  have e5 := EM_up (d' := 11) (by decide) (e_X5_bow X σ lg v1 r5 h1)
  have e6 := EM_up (d' := 11) (by decide) (e_X6_bow X (xget [(100, r5.2.1), (201, fun _ => r5.2.2.1), (300, r5.2.2.2.1), (400, r5.2.2.2.2.1), (500, r5.2.2.2.2.2.1), (600, r5.2.2.2.2.2.2)] σ) lg v1 r6 h2)
  rw [← h3] at e6
  exact ⟨r5.1, _, _, _, _, e5, e6, gA, gB, hK, hT, hS, hL⟩
theorem c_of {X : xX} (σ : xM) (lg : Int64) (v1 v2 : Int32) (I : INV σ lg) : xCmdI X INV 69 145 [.int v1, .int v2] σ lg := by
  obtain ⟨⟨nb, nt, K, L, E, A, R, F, hA⟩, hB, hK, hT, hS, hL⟩ := I
  obtain ⟨r5, r6, h1, h2, h3, gB⟩ := p_of hA hB v1 v2
  have e5 := EM_up (d' := 11) (by decide) (e_X5_of X σ lg v1 v2 r5 h1)
  have e6 := EM_up (d' := 11) (by decide) (e_X6_of X (xget [(100, r5.2)] σ) lg v1 v2 r6 h2)
  rw [← h3] at e6
  exact ⟨r5.1, _, _, _, _, e5, e6, ⟨nb, nt, K, L, E, A, R, F, hA⟩, gB, hK, hT, hS, hL⟩
theorem c_change {X : xX} (σ : xM) (lg : Int64) (v1 v2 v3 : Int32) (I : INV σ lg) : xCmdI X INV 70 146 [.int v1, .int v2, .int v3] σ lg := by
  obtain ⟨⟨nb, nt, K, L, E, A, R, F, hA⟩, hB, hK, hT, hS, hL⟩ := I
  obtain ⟨r5, r6, h1, h2, h3, gA, gB⟩ := p_change hA hB v1 v2 v3
  have e5 := EM_up (d' := 11) (by decide) (e_X5_change X σ lg v1 v2 v3 r5 h1)
  have e6 := EM_up (d' := 11) (by decide) (e_X6_change X (xget [(100, r5.2.1), (300, r5.2.2.1), (400, r5.2.2.2.1), (500, r5.2.2.2.2.1), (600, r5.2.2.2.2.2)] σ) lg v1 v2 v3 r6 h2)
  rw [← h3] at e6
  exact ⟨r5.1, _, _, _, _, e5, e6, gA, gB, hK, hT, hS, hL⟩
theorem c_contract {X : xX} (σ : xM) (lg : Int64) (v1 v2 v3 : Int32) (I : INV σ lg) : xCmdI X INV 71 147 [.int v1, .int v2, .int v3] σ lg := by
  obtain ⟨⟨nb, nt, K, L, E, A, R, F, hA⟩, hB, hK, hT, hS, hL⟩ := I
  obtain ⟨r5, r6, h1, h2, h3, gA, gB⟩ := p_contract hA hB v1 v2 v3
  have e5 := EM_up (d' := 11) (by decide) (e_X5_contract X σ lg v1 v2 v3 r5 h1)
  have e6 := EM_up (d' := 11) (by decide) (e_X6_contract X (xget [(100, r5.2.1), (600, r5.2.2)] σ) lg v1 v2 v3 r6 h2)
  rw [← h3] at e6
  exact ⟨r5.1, _, _, _, _, e5, e6, gA, gB, hK, hT, hS, hL⟩
theorem c_rule {X : xX} (σ : xM) (lg : Int64) (v1 v2 : Int32) (I : INV σ lg) : xCmdI X INV 72 149 [.int v1, .int v2] σ lg := by
  obtain ⟨⟨nb, nt, K, L, E, A, R, F, hA⟩, hB, hK, hT, hS, hL⟩ := I
  obtain ⟨r5, r6, h1, h2, h3, gA, gB⟩ := p_rule hA hB v1 v2
  have e5 := EM_up (d' := 11) (by decide) (e_X5_rule X σ lg v1 v2 r5 h1)
  have e6 := EM_up (d' := 11) (by decide) (e_X6_rule X (xget [(100, r5.2.1), (700, r5.2.2)] σ) lg v1 v2 r6 h2)
  rw [← h3] at e6
  exact ⟨r5.1, _, _, _, _, e5, e6, gA, gB, hK, hT, hS, hL⟩
theorem c_noise {X : xX} (σ : xM) (lg : Int64) (v1 v2 : Int32) (I : INV σ lg) : xCmdI X INV 73 150 [.int v1, .int v2] σ lg := by
  obtain ⟨⟨nb, nt, K, L, E, A, R, F, hA⟩, hB, hK, hT, hS, hL⟩ := I
  obtain ⟨r5, r6, h1, h2, h3, gB⟩ := p_noise hA hB v1 v2
  have e5 := EM_up (d' := 11) (by decide) (e_X5_noise X σ lg v1 v2 r5 h1)
  have e6 := EM_up (d' := 11) (by decide) (e_X6_noise X (xget [(100, r5.2)] σ) lg v1 v2 r6 h2)
  rw [← h3] at e6
  exact ⟨r5.1, _, _, _, _, e5, e6, ⟨nb, nt, K, L, E, A, R, F, hA⟩, gB, hK, hT, hS, hL⟩
theorem c_come {X : xX} (σ : xM) (lg : Int64) (v1 : Int32) (I : INV σ lg) : xCmdI X INV 74 151 [.int v1] σ lg := by
  obtain ⟨⟨nb, nt, K, L, E, A, R, F, hA⟩, hB, hK, hT, hS, hL⟩ := I
  obtain ⟨r5, r6, h1, h2, h3, gA, gB⟩ := p_come hA hB v1
  have e5 := EM_up (d' := 11) (by decide) (e_X5_come X σ lg v1 r5 h1)
  have e6 := EM_up (d' := 11) (by decide) (e_X6_come X (xget [(100, r5.2.1), (207, fun _ => r5.2.2.1), (208, fun _ => r5.2.2.2.1), (209, fun _ => r5.2.2.2.2.1), (210, fun _ => r5.2.2.2.2.2.1), (800, r5.2.2.2.2.2.2.1), (900, r5.2.2.2.2.2.2.2.1), (1000, r5.2.2.2.2.2.2.2.2)] σ) lg v1 r6 h2)
  rw [← h3] at e6
  exact ⟨r5.1, _, _, _, _, e5, e6, gA, gB, hK, hT, hS, hL⟩
theorem c_back {X : xX} (σ : xM) (lg : Int64) (I : INV σ lg) : xCmdI X INV 75 152 [] σ lg := by
  obtain ⟨⟨nb, nt, K, L, E, A, R, F, hA⟩, hB, hK, hT, hS, hL⟩ := I
  obtain ⟨r5, r6, h1, h2, h3, gA, gB⟩ := p_back hA hB
  have e5 := EM_up (d' := 11) (by decide) (e_X5_back X σ lg  r5 h1)
  have e6 := EM_up (d' := 11) (by decide) (e_X6_back X (xget [(100, r5.2.1), (207, fun _ => r5.2.2.1), (208, fun _ => r5.2.2.2.1), (209, fun _ => r5.2.2.2.2.1), (210, fun _ => r5.2.2.2.2.2)] σ) lg  r6 h2)
  rw [← h3] at e6
  exact ⟨r5.1, _, _, _, _, e5, e6, gA, gB, hK, hT, hS, hL⟩
theorem c_clear {X : xX} (σ : xM) (lg : Int64) (I : INV σ lg) : xCmdI X INV 76 153 [] σ lg := by
  obtain ⟨⟨nb, nt, K, L, E, A, R, F, hA⟩, hB, hK, hT, hS, hL⟩ := I
  obtain ⟨r5, r6, h1, h2, h3, gA⟩ := p_clear hA
  have e5 := EM_up (d' := 11) (by decide) (e_X5_clear X σ lg  r5 h1)
  have e6 := EM_up (d' := 11) (by decide) (e_X6_clear X (xget [(207, fun _ => r5.2.1), (208, fun _ => r5.2.2.1), (209, fun _ => r5.2.2.2.1), (210, fun _ => r5.2.2.2.2)] σ) lg  r6 h2)
  rw [← h3] at e6
  exact ⟨r5.1, _, _, _, _, e5, e6, gA, hB, hK, hT, hS, hL⟩
theorem c_stood {X : xX} (σ : xM) (lg : Int64) (v1 : Int32) (I : INV σ lg) : xCmdI X INV 77 154 [.int v1] σ lg := by
  obtain ⟨⟨nb, nt, K, L, E, A, R, F, hA⟩, hB, hK, hT, hS, hL⟩ := I
  obtain ⟨r5, r6, h1, h2, h3, gB⟩ := p_stood hA hB v1
  have e5 := EM_up (d' := 11) (by decide) (e_X5_stood X σ lg v1 r5 h1)
  have e6 := EM_up (d' := 11) (by decide) (e_X6_stood X (xget [(100, r5.2)] σ) lg v1 r6 h2)
  rw [← h3] at e6
  exact ⟨r5.1, _, _, _, _, e5, e6, ⟨nb, nt, K, L, E, A, R, F, hA⟩, gB, hK, hT, hS, hL⟩
theorem c_now {X : xX} (σ : xM) (lg : Int64) (v1 : Int32) (I : INV σ lg) : xCmdI X INV 78 156 [.int v1] σ lg := by
  obtain ⟨⟨nb, nt, K, L, E, A, R, F, hA⟩, hB, hK, hT, hS, hL⟩ := I
  obtain ⟨r5, r6, h1, h2, h3, gB⟩ := p_now hA hB v1
  have e5 := EM_up (d' := 11) (by decide) (e_X5_now X σ lg v1 r5 h1)
  have e6 := EM_up (d' := 11) (by decide) (e_X6_now X (xget [(100, r5.2)] σ) lg v1 r6 h2)
  rw [← h3] at e6
  exact ⟨r5.1, _, _, _, _, e5, e6, ⟨nb, nt, K, L, E, A, R, F, hA⟩, gB, hK, hT, hS, hL⟩
theorem c_best {X : xX} (σ : xM) (lg : Int64) (v1 : Int32) (I : INV σ lg) : xCmdI X INV 79 160 [.int v1] σ lg := by
  obtain ⟨⟨nb, nt, K, L, E, A, R, F, hA⟩, hB, hK, hT, hS, hL⟩ := I
  obtain ⟨r5, r6, h1, h2, h3, gB⟩ := p_best hA hB (σ 3208 0) (σ 3211 0) (σ 3212 0) (σ 3213 0) (σ 3214 0) (σ 3300) (σ 3400) (σ 3500) (σ 3600) (σ 3700) (σ 3800) (σ 3900) (σ 5700) v1
  have e5 := EM_up (d' := 11) (by decide) (e_X5_best X σ lg v1 r5 h1)
  have e6 := EM_up (d' := 11) (by decide) (e_X6_best X (xget [(100, r5.2.1), (3208, fun _ => r5.2.2.1), (3211, fun _ => r5.2.2.2.1), (3212, fun _ => r5.2.2.2.2.1), (3213, fun _ => r5.2.2.2.2.2.1), (3214, fun _ => r5.2.2.2.2.2.2.1), (3300, r5.2.2.2.2.2.2.2.1), (3400, r5.2.2.2.2.2.2.2.2.1), (3500, r5.2.2.2.2.2.2.2.2.2.1), (3600, r5.2.2.2.2.2.2.2.2.2.2.1), (3700, r5.2.2.2.2.2.2.2.2.2.2.2.1), (3800, r5.2.2.2.2.2.2.2.2.2.2.2.2.1), (3900, r5.2.2.2.2.2.2.2.2.2.2.2.2.2)] σ) lg v1 r6 h2)
  rw [← h3] at e6
  exact ⟨r5.1, _, _, _, _, e5, e6, ⟨nb, nt, K, L, E, A, R, F, hA⟩, gB, hK, hT, hS, hL⟩
theorem c_ith {X : xX} (σ : xM) (lg : Int64) (v1 v2 : Int32) (I : INV σ lg) : xCmdI X INV 80 161 [.int v1, .int v2] σ lg := by
  obtain ⟨⟨nb, nt, K, L, E, A, R, F, hA⟩, hB, hK, hT, hS, hL⟩ := I
  obtain ⟨r5, r6, h1, h2, h3, gB⟩ := p_ith hA hB (σ 3208 0) (σ 3211 0) (σ 3212 0) (σ 3213 0) (σ 3214 0) (σ 5208 0) (σ 3300) (σ 3400) (σ 3500) (σ 3600) (σ 3700) (σ 3800) (σ 3900) (σ 4100) (σ 5700) (σ 5800) v1 v2
  have e5 := EM_up (d' := 11) (by decide) (e_X5_ith X σ lg v1 v2 r5 h1)
  have e6 := EM_up (d' := 11) (by decide) (e_X6_ith X (xget [(100, r5.2.1), (3208, fun _ => r5.2.2.1), (3211, fun _ => r5.2.2.2.1), (3212, fun _ => r5.2.2.2.2.1), (3213, fun _ => r5.2.2.2.2.2.1), (3214, fun _ => r5.2.2.2.2.2.2.1), (3300, r5.2.2.2.2.2.2.2.1), (3400, r5.2.2.2.2.2.2.2.2.1), (3500, r5.2.2.2.2.2.2.2.2.2.1), (3600, r5.2.2.2.2.2.2.2.2.2.2.1), (3700, r5.2.2.2.2.2.2.2.2.2.2.2.1), (3800, r5.2.2.2.2.2.2.2.2.2.2.2.2.1), (3900, r5.2.2.2.2.2.2.2.2.2.2.2.2.2.1), (4100, r5.2.2.2.2.2.2.2.2.2.2.2.2.2.2)] σ) lg v1 v2 r6 h2)
  rw [← h3] at e6
  exact ⟨r5.1, _, _, _, _, e5, e6, ⟨nb, nt, K, L, E, A, R, F, hA⟩, gB, hK, hT, hS, hL⟩
theorem c_ways {X : xX} (σ : xM) (lg : Int64) (I : INV σ lg) : xCmdI X INV 81 163 [] σ lg := by
  obtain ⟨⟨nb, nt, K, L, E, A, R, F, hA⟩, hB, hK, hT, hS, hL⟩ := I
  obtain ⟨r5, r6, h1, h2, h3⟩ := p_ways hA (σ 3300) (σ 3400) (σ 3500) (σ 4000) (σ 5900) (σ 6000)
  have e5 := EM_up (d' := 11) (by decide) (e_X5_ways X σ lg  r5 h1)
  have e6 := EM_up (d' := 11) (by decide) (e_X6_ways X (xget [(3211, fun _ => r5.2.1), (3212, fun _ => r5.2.2.1), (3213, fun _ => r5.2.2.2.1), (3214, fun _ => r5.2.2.2.2.1), (3300, r5.2.2.2.2.2.1), (3400, r5.2.2.2.2.2.2.1), (3500, r5.2.2.2.2.2.2.2.1), (4000, r5.2.2.2.2.2.2.2.2)] σ) lg  r6 h2)
  rw [← h3] at e6
  exact ⟨r5.1, _, _, _, _, e5, e6, ⟨nb, nt, K, L, E, A, R, F, hA⟩, hB, hK, hT, hS, hL⟩
theorem c_lasts {X : xX} (σ : xM) (lg : Int64) (I : INV σ lg) : xCmdI X INV 82 164 [] σ lg := by
  obtain ⟨⟨nb, nt, K, L, E, A, R, F, hA⟩, hB, hK, hT, hS, hL⟩ := I
  obtain ⟨r5, r6, h1, h2, h3⟩ := p_lasts hA (σ 3300) (σ 3400) (σ 3500) (σ 5900) (σ 6000)
  have e5 := EM_up (d' := 11) (by decide) (e_X5_lasts X σ lg  r5 h1)
  have e6 := EM_up (d' := 11) (by decide) (e_X6_lasts X (xget [(3211, fun _ => r5.2.1), (3212, fun _ => r5.2.2.1), (3213, fun _ => r5.2.2.2.1), (3214, fun _ => r5.2.2.2.2.1), (3300, r5.2.2.2.2.2.1), (3400, r5.2.2.2.2.2.2.1), (3500, r5.2.2.2.2.2.2.2)] σ) lg  r6 h2)
  rw [← h3] at e6
  exact ⟨r5.1, _, _, _, _, e5, e6, ⟨nb, nt, K, L, E, A, R, F, hA⟩, hB, hK, hT, hS, hL⟩
theorem c_place {X : xX} (σ : xM) (lg : Int64) (v1 v2 : Int32) (I : INV σ lg) : xCmdI X INV 83 165 [.int v1, .int v2] σ lg := by
  obtain ⟨⟨nb, nt, K, L, E, A, R, F, hA⟩, hB, hK, hT, hS, hL⟩ := I
  obtain ⟨r5, r6, h1, h2, h3, gB⟩ := p_place hA hB (σ 3211 0) (σ 3212 0) (σ 3213 0) (σ 3214 0) (σ 3300) (σ 3400) (σ 3500) (σ 5900) (σ 6000) v1 v2
  have e5 := EM_up (d' := 11) (by decide) (e_X5_place X σ lg v1 v2 r5 h1)
  have e6 := EM_up (d' := 11) (by decide) (e_X6_place X (xget [(100, r5.2.1), (3211, fun _ => r5.2.2.1), (3212, fun _ => r5.2.2.2.1), (3213, fun _ => r5.2.2.2.2.1), (3214, fun _ => r5.2.2.2.2.2.1), (3300, r5.2.2.2.2.2.2.1), (3400, r5.2.2.2.2.2.2.2.1), (3500, r5.2.2.2.2.2.2.2.2)] σ) lg v1 v2 r6 h2)
  rw [← h3] at e6
  exact ⟨r5.1, _, _, _, _, e5, e6, ⟨nb, nt, K, L, E, A, R, F, hA⟩, gB, hK, hT, hS, hL⟩
theorem c_all {X : xX} (σ : xM) (lg : Int64) (v1 : Int32) (I : INV σ lg) : xCmdI X INV 84 167 [.int v1] σ lg := by
  obtain ⟨⟨nb, nt, K, L, E, A, R, F, hA⟩, hB, hK, hT, hS, hL⟩ := I
  obtain ⟨r5, r6, h1, h2, h3, gB⟩ := p_all hA hB (σ 3211 0) (σ 3212 0) (σ 3213 0) (σ 3214 0) (σ 3300) (σ 3400) (σ 3500) v1
  have e5 := EM_up (d' := 11) (by decide) (e_X5_all X σ lg v1 r5 h1)
  have e6 := EM_up (d' := 11) (by decide) (e_X6_all X (xget [(100, r5.2.1), (3211, fun _ => r5.2.2.1), (3212, fun _ => r5.2.2.2.1), (3213, fun _ => r5.2.2.2.2.1), (3214, fun _ => r5.2.2.2.2.2.1), (3300, r5.2.2.2.2.2.2.1), (3400, r5.2.2.2.2.2.2.2.1), (3500, r5.2.2.2.2.2.2.2.2)] σ) lg v1 r6 h2)
  rw [← h3] at e6
  exact ⟨r5.1, _, _, _, _, e5, e6, ⟨nb, nt, K, L, E, A, R, F, hA⟩, gB, hK, hT, hS, hL⟩
theorem c_clash {X : xX} (σ : xM) (lg : Int64) (I : INV σ lg) : xCmdI X INV 85 168 [] σ lg := by
  obtain ⟨⟨nb, nt, K, L, E, A, R, F, hA⟩, hB, hK, hT, hS, hL⟩ := I
  obtain ⟨r5, r6, h1, h2, h3⟩ := p_clash hA (σ 3300) (σ 3400) (σ 3500)
  have e5 := EM_up (d' := 11) (by decide) (e_X5_clash X σ lg  r5 h1)
  have e6 := EM_up (d' := 11) (by decide) (e_X6_clash X (xget [(3211, fun _ => r5.2.1), (3212, fun _ => r5.2.2.1), (3213, fun _ => r5.2.2.2.1), (3214, fun _ => r5.2.2.2.2.1), (3300, r5.2.2.2.2.2.1), (3400, r5.2.2.2.2.2.2.1), (3500, r5.2.2.2.2.2.2.2)] σ) lg  r6 h2)
  rw [← h3] at e6
  exact ⟨r5.1, _, _, _, _, e5, e6, ⟨nb, nt, K, L, E, A, R, F, hA⟩, hB, hK, hT, hS, hL⟩
theorem c_broken {X : xX} (σ : xM) (lg : Int64) (I : INV σ lg) : xCmdI X INV 86 169 [] σ lg := by
  obtain ⟨⟨nb, nt, K, L, E, A, R, F, hA⟩, hB, hK, hT, hS, hL⟩ := I
  obtain ⟨r5, r6, h1, h2, h3⟩ := p_broken hA (σ 3300) (σ 3400) (σ 3500) (σ 4000) (σ 5900)
  have e5 := EM_up (d' := 11) (by decide) (e_X5_broken X σ lg  r5 h1)
  have e6 := EM_up (d' := 11) (by decide) (e_X6_broken X (xget [(3211, fun _ => r5.2.1), (3212, fun _ => r5.2.2.1), (3213, fun _ => r5.2.2.2.1), (3214, fun _ => r5.2.2.2.2.1), (3300, r5.2.2.2.2.2.1), (3400, r5.2.2.2.2.2.2.1), (3500, r5.2.2.2.2.2.2.2.1), (4000, r5.2.2.2.2.2.2.2.2)] σ) lg  r6 h2)
  rw [← h3] at e6
  exact ⟨r5.1, _, _, _, _, e5, e6, ⟨nb, nt, K, L, E, A, R, F, hA⟩, hB, hK, hT, hS, hL⟩
theorem c_between {X : xX} (σ : xM) (lg : Int64) (v1 v2 : Int32) (I : INV σ lg) : xCmdI X INV 87 170 [.int v1, .int v2] σ lg := by
  obtain ⟨⟨nb, nt, K, L, E, A, R, F, hA⟩, hB, hK, hT, hS, hL⟩ := I
  obtain ⟨r5, r6, h1, h2, h3, gB⟩ := p_between hA hB v1 v2
  have e5 := EM_up (d' := 11) (by decide) (e_X5_between X σ lg v1 v2 r5 h1)
  have e6 := EM_up (d' := 11) (by decide) (e_X6_between X (xget [(100, r5.2)] σ) lg v1 v2 r6 h2)
  rw [← h3] at e6
  exact ⟨r5.1, _, _, _, _, e5, e6, ⟨nb, nt, K, L, E, A, R, F, hA⟩, gB, hK, hT, hS, hL⟩
theorem c_kindFor {X : xX} (σ : xM) (lg : Int64) (v1 : Int32) (I : INV σ lg) : xCmdI X INV 88 171 [.int v1] σ lg := by
  obtain ⟨⟨nb, nt, K, L, E, A, R, F, hA⟩, hB, hK, hT, hS, hL⟩ := I
  obtain ⟨r5, r6, h1, h2, h3, gA, gB⟩ := p_kindFor hA hB (σ 3208 0) (σ 3211 0) (σ 3212 0) (σ 3213 0) (σ 3214 0) (σ 3300) (σ 3400) (σ 3500) (σ 3600) (σ 3700) (σ 3800) (σ 3900) (σ 5700) v1
  have e5 := EM_up (d' := 11) (by decide) (e_X5_kindFor X σ lg v1 r5 h1)
  have e6 := EM_up (d' := 11) (by decide) (e_X6_kindFor X (xget [(100, r5.2.1), (3208, fun _ => r5.2.2.1), (3211, fun _ => r5.2.2.2.1), (3212, fun _ => r5.2.2.2.2.1), (3213, fun _ => r5.2.2.2.2.2.1), (3214, fun _ => r5.2.2.2.2.2.2.1), (3300, r5.2.2.2.2.2.2.2.1), (3400, r5.2.2.2.2.2.2.2.2.1), (3500, r5.2.2.2.2.2.2.2.2.2.1), (3600, r5.2.2.2.2.2.2.2.2.2.2.1), (3700, r5.2.2.2.2.2.2.2.2.2.2.2.1), (3800, r5.2.2.2.2.2.2.2.2.2.2.2.2.1), (3900, r5.2.2.2.2.2.2.2.2.2.2.2.2.2)] σ) lg v1 r6 h2)
  rw [← h3] at e6
  exact ⟨r5.1, _, _, _, _, e5, e6, gA, gB, hK, hT, hS, hL⟩
theorem c_freed {X : xX} (σ : xM) (lg : Int64) (I : INV σ lg) : xCmdI X INV 89 173 [] σ lg := by
  obtain ⟨⟨nb, nt, K, L, E, A, R, F, hA⟩, hB, hK, hT, hS, hL⟩ := I
  obtain ⟨r5, r6, h1, h2, h3, gA, gB⟩ := p_freed hA hB (σ 3208 0) (σ 3215 0) (σ 3216 0) (σ 3300) (σ 3400) (σ 3500) (σ 3600) (σ 3700) (σ 3800) (σ 3900) (σ 5700)
  have e5 := EM_up (d' := 11) (by decide) (e_X5_freed X σ lg  r5 h1)
  have e6 := EM_up (d' := 11) (by decide) (e_X6_freed X (xget [(100, r5.2.1), (3208, fun _ => r5.2.2.1), (3211, fun _ => r5.2.2.2.1), (3212, fun _ => r5.2.2.2.2.1), (3213, fun _ => r5.2.2.2.2.2.1), (3214, fun _ => r5.2.2.2.2.2.2.1), (3215, fun _ => r5.2.2.2.2.2.2.2.1), (3216, fun _ => r5.2.2.2.2.2.2.2.2.1), (3300, r5.2.2.2.2.2.2.2.2.2.1), (3400, r5.2.2.2.2.2.2.2.2.2.2.1), (3500, r5.2.2.2.2.2.2.2.2.2.2.2.1), (3600, r5.2.2.2.2.2.2.2.2.2.2.2.2.1), (3700, r5.2.2.2.2.2.2.2.2.2.2.2.2.2.1), (3800, r5.2.2.2.2.2.2.2.2.2.2.2.2.2.2.1), (3900, r5.2.2.2.2.2.2.2.2.2.2.2.2.2.2.2)] σ) lg  r6 h2)
  rw [← h3] at e6
  exact ⟨r5.1, _, _, _, _, e5, e6, gA, gB, hK, hT, hS, hL⟩
theorem c_free {X : xX} (σ : xM) (lg : Int64) (I : INV σ lg) : xCmdI X INV 90 174 [] σ lg := by
  obtain ⟨⟨nb, nt, K, L, E, A, R, F, hA⟩, hB, hK, hT, hS, hL⟩ := I
  obtain ⟨r5, r6, h1, h2, h3, gA, gB⟩ := p_free hA hB (σ 3208 0) (σ 3215 0) (σ 3216 0) (σ 3300) (σ 3400) (σ 3500) (σ 3600) (σ 3700) (σ 3800) (σ 3900) (σ 5700)
  have e5 := EM_up (d' := 11) (by decide) (e_X5_free X σ lg  r5 h1)
  have e6 := EM_up (d' := 11) (by decide) (e_X6_free X (xget [(100, r5.2.1), (3208, fun _ => r5.2.2.1), (3211, fun _ => r5.2.2.2.1), (3212, fun _ => r5.2.2.2.2.1), (3213, fun _ => r5.2.2.2.2.2.1), (3214, fun _ => r5.2.2.2.2.2.2.1), (3215, fun _ => r5.2.2.2.2.2.2.2.1), (3216, fun _ => r5.2.2.2.2.2.2.2.2.1), (3300, r5.2.2.2.2.2.2.2.2.2.1), (3400, r5.2.2.2.2.2.2.2.2.2.2.1), (3500, r5.2.2.2.2.2.2.2.2.2.2.2.1), (3600, r5.2.2.2.2.2.2.2.2.2.2.2.2.1), (3700, r5.2.2.2.2.2.2.2.2.2.2.2.2.2.1), (3800, r5.2.2.2.2.2.2.2.2.2.2.2.2.2.2.1), (3900, r5.2.2.2.2.2.2.2.2.2.2.2.2.2.2.2)] σ) lg  r6 h2)
  rw [← h3] at e6
  exact ⟨r5.1, _, _, _, _, e5, e6, gA, gB, hK, hT, hS, hL⟩
theorem c_train {X : xX} (σ : xM) (lg : Int64) (I : INV σ lg) : xCmdI X INV 91 175 [] σ lg := by
  obtain ⟨⟨nb, nt, K, L, E, A, R, F, hA⟩, hB, hK, hT, hS, hL⟩ := I
  obtain ⟨r5, r6, h1, h2, h3, gB⟩ := p_train hA hB (σ 3208 0) (σ 3300) (σ 3400) (σ 3500) (σ 3600) (σ 3700) (σ 3800) (σ 3900) (σ 4100) (σ 5700) (σ 5800)
  have e5 := EM_up (d' := 11) (by decide) (e_X5_train X σ lg  r5 h1)
  have e6 := EM_up (d' := 11) (by decide) (e_X6_train X (xget [(100, r5.2.1), (3208, fun _ => r5.2.2.1), (3211, fun _ => r5.2.2.2.1), (3212, fun _ => r5.2.2.2.2.1), (3213, fun _ => r5.2.2.2.2.2.1), (3214, fun _ => r5.2.2.2.2.2.2.1), (3300, r5.2.2.2.2.2.2.2.1), (3400, r5.2.2.2.2.2.2.2.2.1), (3500, r5.2.2.2.2.2.2.2.2.2.1), (3600, r5.2.2.2.2.2.2.2.2.2.2.1), (3700, r5.2.2.2.2.2.2.2.2.2.2.2.1), (3800, r5.2.2.2.2.2.2.2.2.2.2.2.2.1), (3900, r5.2.2.2.2.2.2.2.2.2.2.2.2.2.1), (4100, r5.2.2.2.2.2.2.2.2.2.2.2.2.2.2)] σ) lg  r6 h2)
  rw [← h3] at e6
  exact ⟨r5.1, _, _, _, _, e5, e6, ⟨nb, nt, K, L, E, A, R, F, hA⟩, gB, hK, hT, hS, hL⟩
theorem c_fits {X : xX} (σ : xM) (lg : Int64) (v1 v2 v3 : Int32) (I : INV σ lg) : xCmdI X INV 92 177 [.int v1, .int v2, .int v3] σ lg := by
  obtain ⟨⟨nb, nt, K, L, E, A, R, F, hA⟩, hB, hK, hT, hS, hL⟩ := I
  obtain ⟨r5, r6, h1, h2, h3, gB⟩ := p_fits hA hB v1 v2 v3
  have e5 := EM_up (d' := 11) (by decide) (e_X5_fits X σ lg v1 v2 v3 r5 h1)
  have e6 := EM_up (d' := 11) (by decide) (e_X6_fits X (xget [(100, r5.2)] σ) lg v1 v2 v3 r6 h2)
  rw [← h3] at e6
  exact ⟨r5.1, _, _, _, _, e5, e6, ⟨nb, nt, K, L, E, A, R, F, hA⟩, gB, hK, hT, hS, hL⟩
theorem c_love {X : xX} (σ : xM) (lg : Int64) (v1 v2 v3 : Int32) (I : INV σ lg) : xCmdI X INV 93 178 [.int v1, .int v2, .int v3] σ lg := by
  obtain ⟨⟨nb, nt, K, L, E, A, R, F, hA⟩, hB, hK, hT, hS, hL⟩ := I
  obtain ⟨r5, r6, h1, h2, h3, gB⟩ := p_love hA hB v1 v2 v3
  have e5 := EM_up (d' := 11) (by decide) (e_X5_love X σ lg v1 v2 v3 r5 h1)
  have e6 := EM_up (d' := 11) (by decide) (e_X6_love X (xget [(100, r5.2)] σ) lg v1 v2 v3 r6 h2)
  rw [← h3] at e6
  exact ⟨r5.1, _, _, _, _, e5, e6, ⟨nb, nt, K, L, E, A, R, F, hA⟩, gB, hK, hT, hS, hL⟩
theorem c_curtain {X : xX} (σ : xM) (lg : Int64) (v1 v2 : Int32) (I : INV σ lg) : xCmdL X INV 94 182 [.int v1, .int v2] σ lg := by
  obtain ⟨⟨nb, nt, K, L, E, A, R, F, hA⟩, hB, hK, hT, hS, hL⟩ := I
  obtain ⟨r5, r6, h1, h2, h3, gB⟩ := p_curtain hA hB v1 v2
  have e5 := EM_up (d' := 11) (by decide) (e_X5_curtain X σ lg v1 v2 r5 h1)
  have e6 := EM_up (d' := 11) (by decide) (e_X6_curtain X (xget [(100, r5.2)] σ) lg v1 v2 r6 h2)
  rw [← h3] at e6
  exact ⟨r5.1, _, _, _, _, e5, e6, ⟨nb, nt, K, L, E, A, R, F, hA⟩, gB, hK, hT, hS, hL⟩
theorem c_stop {X : xX} (σ : xM) (lg : Int64) (I : INV σ lg) : xCmdI X INV 95 183 [] σ lg := by
  obtain ⟨⟨nb, nt, K, L, E, A, R, F, hA⟩, hB, hK, hT, hS, hL⟩ := I
  obtain ⟨r5, r6, h1, h2, h3⟩ := p_stop hA
  have e5 := EM_up (d' := 11) (by decide) (e_X5_stop X σ lg  r5 h1)
  have e6 := EM_up (d' := 11) (by decide) (e_X6_stop X (xget [] σ) lg  r6 h2)
  rw [← h3] at e6
  exact ⟨r5, _, _, _, _, e5, e6, ⟨nb, nt, K, L, E, A, R, F, hA⟩, hB, hK, hT, hS, hL⟩
theorem c_evening {X : xX} (σ : xM) (lg : Int64) (v1 : Int32) (I : INV σ lg) : xCmdI X INV 96 185 [.int v1] σ lg := by
  obtain ⟨⟨nb, nt, K, L, E, A, R, F, hA⟩, hB, hK, hT, hS, hL⟩ := I
  obtain ⟨r5, r6, h1, h2, h3, gA, gB⟩ := p_evening hA hB v1
  have e5 := EM_up (d' := 11) (by decide) (e_X5_evening X σ lg v1 r5 h1)
  have e6 := EM_up (d' := 11) (by decide) (e_X6_evening X (xget [(100, r5.2.1), (214, fun _ => r5.2.2)] σ) lg v1 r6 h2)
  rw [← h3] at e6
  exact ⟨r5.1, _, _, _, _, e5, e6, gA, gB, hK, hT, hS, hL⟩
theorem c_lot {X : xX} (σ : xM) (lg : Int64) (I : INV σ lg) : xCmdI X INV 97 186 [] σ lg := by
  obtain ⟨⟨nb, nt, K, L, E, A, R, F, hA⟩, hB, hK, hT, hS, hL⟩ := I
  obtain ⟨r5, r6, h1, h2, h3, gA⟩ := p_lot hA
  have e5 := EM_up (d' := 11) (by decide) (e_X5_lot X σ lg  r5 h1)
  have e6 := EM_up (d' := 11) (by decide) (e_X6_lot X (xget [(207, fun _ => r5.2.1), (208, fun _ => r5.2.2.1), (209, fun _ => r5.2.2.2.1), (210, fun _ => r5.2.2.2.2.1), (214, fun _ => r5.2.2.2.2.2.1), (800, r5.2.2.2.2.2.2.1), (900, r5.2.2.2.2.2.2.2.1), (1000, r5.2.2.2.2.2.2.2.2)] σ) lg  r6 h2)
  rw [← h3] at e6
  exact ⟨r5.1, _, _, _, _, e5, e6, gA, hB, hK, hT, hS, hL⟩
theorem c_seed {X : xX} (σ : xM) (lg : Int64) (v1 : Int32) (I : INV σ lg) : xCmdI X INV 98 187 [.int v1] σ lg := by
  obtain ⟨⟨nb, nt, K, L, E, A, R, F, hA⟩, hB, hK, hT, hS, hL⟩ := I
  obtain ⟨r5, r6, h1, h2, h3, gA⟩ := p_seed hA v1
  have e5 := EM_up (d' := 11) (by decide) (e_X5_seed X σ lg v1 r5 h1)
  have e6 := EM_up (d' := 11) (by decide) (e_X6_seed X (xget [(214, fun _ => r5.2)] σ) lg v1 r6 h2)
  rw [← h3] at e6
  exact ⟨r5.1, _, _, _, _, e5, e6, gA, hB, hK, hT, hS, hL⟩
theorem c_feed {X : xX} (σ : xM) (lg : Int64) (v1 v2 : Int32) (I : INV σ lg) : xCmdI X INV 99 190 [.int v1, .int v2] σ lg := by
  obtain ⟨⟨nb, nt, K, L, E, A, R, F, hA⟩, hB, hK, hT, hS, hL⟩ := I
  obtain ⟨r5, r6, h1, h2, h3, gB, gT⟩ := p_feed hB hT v1 v2
  have e5 := EM_up (d' := 11) (by decide) (e_X5_feed X σ lg v1 v2 r5 h1)
  have e6 := EM_up (d' := 11) (by decide) (e_X6_feed X (xget [(100, r5.2.1), (4202, fun _ => r5.2.2.1), (4300, r5.2.2.2)] σ) lg v1 v2 r6 h2)
  rw [← h3] at e6
  exact ⟨r5.1, _, _, _, _, e5, e6, ⟨nb, nt, K, L, E, A, R, F, hA⟩, gB, hK, gT, hS, hL⟩
theorem c_wipe {X : xX} (σ : xM) (lg : Int64) (I : INV σ lg) : xCmdI X INV 100 191 [] σ lg := by
  obtain ⟨⟨nb, nt, K, L, E, A, R, F, hA⟩, hB, hK, hT, hS, hL⟩ := I
  obtain ⟨r5, r6, h1, h2, h3, gT⟩ := p_wipe hT
  have e5 := EM_up (d' := 11) (by decide) (e_X5_wipe X σ lg  r5 h1)
  have e6 := EM_up (d' := 11) (by decide) (e_X6_wipe X (xget [(4202, fun _ => r5.2)] σ) lg  r6 h2)
  rw [← h3] at e6
  exact ⟨r5.1, _, _, _, _, e5, e6, ⟨nb, nt, K, L, E, A, R, F, hA⟩, hB, hK, gT, hS, hL⟩
theorem c_text {X : xX} (σ : xM) (lg : Int64) (I : INV σ lg) : xCmdI X INV 101 200 [] σ lg := by
  obtain ⟨⟨nb, nt, K, L, E, A, R, F, hA⟩, hB, hK, hT, hS, hL⟩ := I
  obtain ⟨r5, r6, h1, h2, h3, gA, gT⟩ := p_text hA hT hL (σ 2300) (σ 2400) (σ 2500) (σ 2600) (σ 2700) (σ 2800) (σ 2900) (σ 3000) (σ 3100) (σ 4400) (σ 4500) (σ 4600) (σ 4700) (σ 5500)
  have e5 := EM_up (d' := 11) (by decide) (e_X5_text X σ lg  r5 h1)
  have e6 := EM_up (d' := 11) (by decide) (e_X6_text X (xget [(201, fun _ => r5.2.1), (207, fun _ => r5.2.2.1), (208, fun _ => r5.2.2.2.1), (209, fun _ => r5.2.2.2.2.1), (210, fun _ => r5.2.2.2.2.2.1), (214, fun _ => r5.2.2.2.2.2.2.1), (300, r5.2.2.2.2.2.2.2.1), (400, r5.2.2.2.2.2.2.2.2.1), (500, r5.2.2.2.2.2.2.2.2.2.1), (600, r5.2.2.2.2.2.2.2.2.2.2.1), (700, r5.2.2.2.2.2.2.2.2.2.2.2.1), (800, r5.2.2.2.2.2.2.2.2.2.2.2.2.1), (900, r5.2.2.2.2.2.2.2.2.2.2.2.2.2.1), (1000, r5.2.2.2.2.2.2.2.2.2.2.2.2.2.2.1), (1100, r5.2.2.2.2.2.2.2.2.2.2.2.2.2.2.2.1), (2201, fun _ => r5.2.2.2.2.2.2.2.2.2.2.2.2.2.2.2.2.1), (2207, fun _ => r5.2.2.2.2.2.2.2.2.2.2.2.2.2.2.2.2.2.1), (2208, fun _ => r5.2.2.2.2.2.2.2.2.2.2.2.2.2.2.2.2.2.2.1), (2209, fun _ => r5.2.2.2.2.2.2.2.2.2.2.2.2.2.2.2.2.2.2.2.1), (2210, fun _ => r5.2.2.2.2.2.2.2.2.2.2.2.2.2.2.2.2.2.2.2.2.1), (2214, fun _ => r5.2.2.2.2.2.2.2.2.2.2.2.2.2.2.2.2.2.2.2.2.2.1), (2300, r5.2.2.2.2.2.2.2.2.2.2.2.2.2.2.2.2.2.2.2.2.2.2.1), (2400, r5.2.2.2.2.2.2.2.2.2.2.2.2.2.2.2.2.2.2.2.2.2.2.2.1), (2500, r5.2.2.2.2.2.2.2.2.2.2.2.2.2.2.2.2.2.2.2.2.2.2.2.2.1), (2600, r5.2.2.2.2.2.2.2.2.2.2.2.2.2.2.2.2.2.2.2.2.2.2.2.2.2.1), (2700, r5.2.2.2.2.2.2.2.2.2.2.2.2.2.2.2.2.2.2.2.2.2.2.2.2.2.2.1), (2800, r5.2.2.2.2.2.2.2.2.2.2.2.2.2.2.2.2.2.2.2.2.2.2.2.2.2.2.2.1), (2900, r5.2.2.2.2.2.2.2.2.2.2.2.2.2.2.2.2.2.2.2.2.2.2.2.2.2.2.2.2.1), (3000, r5.2.2.2.2.2.2.2.2.2.2.2.2.2.2.2.2.2.2.2.2.2.2.2.2.2.2.2.2.2.1), (3100, r5.2.2.2.2.2.2.2.2.2.2.2.2.2.2.2.2.2.2.2.2.2.2.2.2.2.2.2.2.2.2.1), (4202, fun _ => r5.2.2.2.2.2.2.2.2.2.2.2.2.2.2.2.2.2.2.2.2.2.2.2.2.2.2.2.2.2.2.2.1), (4207, fun _ => r5.2.2.2.2.2.2.2.2.2.2.2.2.2.2.2.2.2.2.2.2.2.2.2.2.2.2.2.2.2.2.2.2.1), (4208, fun _ => r5.2.2.2.2.2.2.2.2.2.2.2.2.2.2.2.2.2.2.2.2.2.2.2.2.2.2.2.2.2.2.2.2.2.1), (4209, fun _ => r5.2.2.2.2.2.2.2.2.2.2.2.2.2.2.2.2.2.2.2.2.2.2.2.2.2.2.2.2.2.2.2.2.2.2.1), (4210, fun _ => r5.2.2.2.2.2.2.2.2.2.2.2.2.2.2.2.2.2.2.2.2.2.2.2.2.2.2.2.2.2.2.2.2.2.2.2.1), (4400, r5.2.2.2.2.2.2.2.2.2.2.2.2.2.2.2.2.2.2.2.2.2.2.2.2.2.2.2.2.2.2.2.2.2.2.2.2.1), (4500, r5.2.2.2.2.2.2.2.2.2.2.2.2.2.2.2.2.2.2.2.2.2.2.2.2.2.2.2.2.2.2.2.2.2.2.2.2.2.1), (4600, r5.2.2.2.2.2.2.2.2.2.2.2.2.2.2.2.2.2.2.2.2.2.2.2.2.2.2.2.2.2.2.2.2.2.2.2.2.2.2.1), (4700, r5.2.2.2.2.2.2.2.2.2.2.2.2.2.2.2.2.2.2.2.2.2.2.2.2.2.2.2.2.2.2.2.2.2.2.2.2.2.2.2)] σ) lg  r6 h2)
  rw [← h3] at e6
  exact ⟨r5.1, _, _, _, _, e5, e6, gA, hB, hK, gT, hS, hL⟩
theorem c_hold {X : xX} (σ : xM) (lg : Int64) (v1 v2 : Int32) (I : INV σ lg) : xCmdI X INV 102 202 [.int v1, .int v2] σ lg := by
  obtain ⟨⟨nb, nt, K, L, E, A, R, F, hA⟩, hB, hK, hT, hS, hL⟩ := I
  obtain ⟨r5, r6, h1, h2, h3, gA, gB⟩ := p_hold hA hB v1 v2
  have e5 := EM_up (d' := 11) (by decide) (e_X5_hold X σ lg v1 v2 r5 h1)
  have e6 := EM_up (d' := 11) (by decide) (e_X6_hold X (xget [(100, r5.2.1), (1100, r5.2.2)] σ) lg v1 v2 r6 h2)
  rw [← h3] at e6
  exact ⟨r5.1, _, _, _, _, e5, e6, gA, gB, hK, hT, hS, hL⟩
theorem c_as {X : xX} (σ : xM) (lg : Int64) (v1 v2 : Int32) (I : INV σ lg) : xCmdI X INV 103 206 [.int v1, .int v2] σ lg := by
  obtain ⟨⟨nb, nt, K, L, E, A, R, F, hA⟩, hB, hK, hT, hS, hL⟩ := I
  obtain ⟨r5, r6, h1, h2, h3, gB⟩ := p_as hA hB v1 v2
  have e5 := EM_up (d' := 11) (by decide) (e_X5_as X σ lg v1 v2 r5 h1)
  have e6 := EM_up (d' := 11) (by decide) (e_X6_as X (xget [(100, r5.2)] σ) lg v1 v2 r6 h2)
  rw [← h3] at e6
  exact ⟨r5.1, _, _, _, _, e5, e6, ⟨nb, nt, K, L, E, A, R, F, hA⟩, gB, hK, hT, hS, hL⟩
theorem c_sheet {X : xX} (σ : xM) (lg : Int64) (v1 v2 v3 : Int32) (I : INV σ lg) : xCmdI X INV 104 207 [.int v1, .int v2, .int v3] σ lg := by
  obtain ⟨⟨nb, nt, K, L, E, A, R, F, hA⟩, hB, hK, hT, hS, hL⟩ := I
  obtain ⟨r5, r6, h1, h2, h3, gB, gS⟩ := p_sheet hB hS v1 v2 v3
  have e5 := EM_up (d' := 11) (by decide) (e_X5_sheet X σ lg v1 v2 v3 r5 h1)
  have e6 := EM_up (d' := 11) (by decide) (e_X6_sheet X (xget [(100, r5.2.1), (4900, r5.2.2.1), (5000, r5.2.2.2.1), (5100, r5.2.2.2.2)] σ) lg v1 v2 v3 r6 h2)
  rw [← h3] at e6
  exact ⟨r5.1, _, _, _, _, e5, e6, ⟨nb, nt, K, L, E, A, R, F, hA⟩, gB, hK, hT, gS, hL⟩
theorem c_write {X : xX} (σ : xM) (lg : Int64) (v1 v2 v3 : Int32) (I : INV σ lg) : xCmdI X INV 105 208 [.int v1, .int v2, .int v3] σ lg := by
  obtain ⟨⟨nb, nt, K, L, E, A, R, F, hA⟩, hB, hK, hT, hS, hL⟩ := I
  obtain ⟨r5, r6, h1, h2, h3, gB, gS⟩ := p_write hB hS v1 v2 v3
  have e5 := EM_up (d' := 11) (by decide) (e_X5_write X σ lg v1 v2 v3 r5 h1)
  have e6 := EM_up (d' := 11) (by decide) (e_X6_write X (xget [(100, r5.2.1), (5100, r5.2.2)] σ) lg v1 v2 v3 r6 h2)
  rw [← h3] at e6
  exact ⟨r5.1, _, _, _, _, e5, e6, ⟨nb, nt, K, L, E, A, R, F, hA⟩, gB, hK, hT, gS, hL⟩
theorem c_copy {X : xX} (σ : xM) (lg : Int64) (v1 v2 v3 v4 v5 : Int32) (I : INV σ lg) : xCmdI X INV 106 209 [.int v1, .int v2, .int v3, .int v4, .int v5] σ lg := by
  obtain ⟨⟨nb, nt, K, L, E, A, R, F, hA⟩, hB, hK, hT, hS, hL⟩ := I
  obtain ⟨r5, r6, h1, h2, h3, gB, gS⟩ := p_copy hB hS (σ 6800) v1 v2 v3 v4 v5
  have e5 := EM_up (d' := 11) (by decide) (e_X5_copy X σ lg v1 v2 v3 v4 v5 r5 h1)
  have e6 := EM_up (d' := 11) (by decide) (e_X6_copy X (xget [(100, r5.2.1), (5100, r5.2.2)] σ) lg v1 v2 v3 v4 v5 r6 h2)
  rw [← h3] at e6
  exact ⟨r5.1, _, _, _, _, e5, e6, ⟨nb, nt, K, L, E, A, R, F, hA⟩, gB, hK, hT, gS, hL⟩
theorem c_load {X : xX} (σ : xM) (lg : Int64) (v1 : Int32) (I : INV σ lg) : xCmdI X INV 107 210 [.int v1] σ lg := by
  obtain ⟨⟨nb, nt, K, L, E, A, R, F, hA⟩, hB, hK, hT, hS, hL⟩ := I
  obtain ⟨r5, r6, h1, h2, h3, gA, gB⟩ := p_load hA hB hS v1
  have e5 := EM_up (d' := 11) (by decide) (e_X5_load X σ lg v1 r5 h1)
  have e6 := EM_up (d' := 11) (by decide) (e_X6_load X (xget [(100, r5.2.1), (400, r5.2.2)] σ) lg v1 r6 h2)
  rw [← h3] at e6
  exact ⟨r5.1, _, _, _, _, e5, e6, gA, gB, hK, hT, hS, hL⟩
theorem c_judge {X : xX} (σ : xM) (lg : Int64) (v1 : Int32) (I : INV σ lg) : xCmdI X INV 108 212 [.int v1] σ lg := by
  obtain ⟨⟨nb, nt, K, L, E, A, R, F, hA⟩, hB, hK, hT, hS, hL⟩ := I
  obtain ⟨r5, r6, h1, h2, h3, gB⟩ := p_judge hA hB hS (σ 5225 0) v1
  have e5 := EM_up (d' := 11) (by decide) (e_X5_judge X σ lg v1 r5 h1)
  have e6 := EM_up (d' := 11) (by decide) (e_X6_judge X (xget [(100, r5.2)] σ) lg v1 r6 h2)
  rw [← h3] at e6
  exact ⟨r5.1, _, _, _, _, e5, e6, ⟨nb, nt, K, L, E, A, R, F, hA⟩, gB, hK, hT, hS, hL⟩
theorem c_loud {X : xX} (σ : xM) (lg : Int64) (v1 : Int32) (I : INV σ lg) : xCmdI X INV 109 213 [.int v1] σ lg := by
  obtain ⟨⟨nb, nt, K, L, E, A, R, F, hA⟩, hB, hK, hT, hS, hL⟩ := I
  obtain ⟨r5, r6, h1, h2, h3, gB⟩ := p_loud hA hB hS (σ 5225 0) v1
  have e5 := EM_up (d' := 11) (by decide) (e_X5_loud X σ lg v1 r5 h1)
  have e6 := EM_up (d' := 11) (by decide) (e_X6_loud X (xget [(100, r5.2)] σ) lg v1 r6 h2)
  rw [← h3] at e6
  exact ⟨r5.1, _, _, _, _, e5, e6, ⟨nb, nt, K, L, E, A, R, F, hA⟩, gB, hK, hT, hS, hL⟩
theorem c_image {X : xX} (σ : xM) (lg : Int64) (I : INV σ lg) : xCmdI X INV 110 214 [] σ lg := by
  obtain ⟨⟨nb, nt, K, L, E, A, R, F, hA⟩, hB, hK, hT, hS, hL⟩ := I
  obtain ⟨r5, r6, h1, h2, h3, gK⟩ := p_image hA hK
  have e5 := EM_up (d' := 11) (by decide) (e_X5_image X σ lg  r5 h1)
  have e6 := EM_up (d' := 11) (by decide) (e_X6_image X (xget [(8, fun _ => r5.2.1), (1201, fun _ => r5.2.2.1), (1207, fun _ => r5.2.2.2.1), (1208, fun _ => r5.2.2.2.2.1), (1209, fun _ => r5.2.2.2.2.2.1), (1210, fun _ => r5.2.2.2.2.2.2.1), (1214, fun _ => r5.2.2.2.2.2.2.2.1), (1300, r5.2.2.2.2.2.2.2.2.1), (1400, r5.2.2.2.2.2.2.2.2.2.1), (1500, r5.2.2.2.2.2.2.2.2.2.2.1), (1600, r5.2.2.2.2.2.2.2.2.2.2.2.1), (1700, r5.2.2.2.2.2.2.2.2.2.2.2.2.1), (1800, r5.2.2.2.2.2.2.2.2.2.2.2.2.2.1), (1900, r5.2.2.2.2.2.2.2.2.2.2.2.2.2.2.1), (2000, r5.2.2.2.2.2.2.2.2.2.2.2.2.2.2.2.1), (2100, r5.2.2.2.2.2.2.2.2.2.2.2.2.2.2.2.2)] σ) lg  r6 h2)
  rw [← h3] at e6
  exact ⟨r5.1, _, _, _, _, e5, e6, ⟨nb, nt, K, L, E, A, R, F, hA⟩, hB, gK, hT, hS, hL⟩
theorem c_undo {X : xX} (σ : xM) (lg : Int64) (I : INV σ lg) : xCmdI X INV 111 215 [] σ lg := by
  obtain ⟨⟨nb, nt, K, L, E, A, R, F, hA⟩, hB, hK, hT, hS, hL⟩ := I
  obtain ⟨r5, r6, h1, h2, h3, gA, gB⟩ := p_undo hA hB hK
  have e5 := EM_up (d' := 11) (by decide) (e_X5_undo X σ lg  r5 h1)
  have e6 := EM_up (d' := 11) (by decide) (e_X6_undo X (xget [(100, r5.2.1), (201, fun _ => r5.2.2.1), (207, fun _ => r5.2.2.2.1), (208, fun _ => r5.2.2.2.2.1), (209, fun _ => r5.2.2.2.2.2.1), (210, fun _ => r5.2.2.2.2.2.2.1), (214, fun _ => r5.2.2.2.2.2.2.2.1), (300, r5.2.2.2.2.2.2.2.2.1), (400, r5.2.2.2.2.2.2.2.2.2.1), (500, r5.2.2.2.2.2.2.2.2.2.2.1), (600, r5.2.2.2.2.2.2.2.2.2.2.2.1), (700, r5.2.2.2.2.2.2.2.2.2.2.2.2.1), (800, r5.2.2.2.2.2.2.2.2.2.2.2.2.2.1), (900, r5.2.2.2.2.2.2.2.2.2.2.2.2.2.2.1), (1000, r5.2.2.2.2.2.2.2.2.2.2.2.2.2.2.2.1), (1100, r5.2.2.2.2.2.2.2.2.2.2.2.2.2.2.2.2)] σ) lg  r6 h2)
  rw [← h3] at e6
  exact ⟨r5.1, _, _, _, _, e5, e6, gA, gB, hK, hT, hS, hL⟩
theorem c_tear {X : xX} (σ : xM) (lg : Int64) (I : INV σ lg) : xCmdI X INV 112 216 [] σ lg := by
  obtain ⟨⟨nb, nt, K, L, E, A, R, F, hA⟩, hB, hK, hT, hS, hL⟩ := I
  obtain ⟨r5, r6, h1, h2, h3, gK⟩ := p_tear hK
  have e5 := EM_up (d' := 11) (by decide) (e_X5_tear X σ lg  r5 h1)
  have e6 := EM_up (d' := 11) (by decide) (e_X6_tear X (xget [(8, fun _ => r5.2)] σ) lg  r6 h2)
  rw [← h3] at e6
  exact ⟨r5.1, _, _, _, _, e5, e6, ⟨nb, nt, K, L, E, A, R, F, hA⟩, hB, gK, hT, hS, hL⟩
theorem c_count {X : xX} (σ : xM) (lg : Int64) (v1 : Int32) (I : INV σ lg) : xCmdI X INV 113 217 [.int v1] σ lg := by
  obtain ⟨⟨nb, nt, K, L, E, A, R, F, hA⟩, hB, hK, hT, hS, hL⟩ := I
  obtain ⟨r5, r6, h1, h2, h3, gB⟩ := p_count hA hB hT v1
  have e5 := EM_up (d' := 11) (by decide) (e_X5_count X σ lg v1 r5 h1)
  have e6 := EM_up (d' := 11) (by decide) (e_X6_count X (xget [(100, r5.2)] σ) lg v1 r6 h2)
  rw [← h3] at e6
  exact ⟨r5.1, _, _, _, _, e5, e6, ⟨nb, nt, K, L, E, A, R, F, hA⟩, gB, hK, hT, hS, hL⟩
theorem c_status {X : xX} (σ : xM) (lg : Int64) (v1 : Int32) (I : INV σ lg) : xCmdI X INV 114 218 [.int v1] σ lg := by
  obtain ⟨⟨nb, nt, K, L, E, A, R, F, hA⟩, hB, hK, hT, hS, hL⟩ := I
  obtain ⟨r5, r6, h1, h2, h3, gB⟩ := p_status hB v1
  have e5 := EM_up (d' := 11) (by decide) (e_X5_status X σ lg v1 r5 h1)
  have e6 := EM_up (d' := 11) (by decide) (e_X6_status X (xget [(100, r5.2)] σ) lg v1 r6 h2)
  rw [← h3] at e6
  exact ⟨r5.1, _, _, _, _, e5, e6, ⟨nb, nt, K, L, E, A, R, F, hA⟩, gB, hK, hT, hS, hL⟩
