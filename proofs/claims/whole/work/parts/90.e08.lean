/-! what the machine answers is what the functions say (by gen/emit.py) -/
set_option maxHeartbeats 4000000 in
set_option maxRecDepth 20000 in
theorem e_X5_kindFor (X : xX) (σ : xM) (lg : Int64) (v1 : Int32) (r : Int32 × (Nat → Int32) × Int32 × Int32 × Int32 × Int32 × Int32 × (Nat → Int32) × (Nat → Int32) × (Nat → Int32) × (Nat → Int32) × (Nat → Int32) × (Nat → Int32) × (Nat → Int32)) (h : X5_kindFor (σ 100) (σ 201 0) (σ 207 0) (σ 208 0) (σ 300) (σ 400) (σ 600) (σ 800) (σ 3208 0) (σ 3211 0) (σ 3212 0) (σ 3213 0) (σ 3214 0) (σ 3300) (σ 3400) (σ 3500) (σ 3600) (σ 3700) (σ 3800) (σ 3900) v1 = some r) : EM XP X 6 88 [.ref 0, .int v1] SH0 lg σ (some (.int r.1), SH0, [(100, r.2.1), (3208, fun _ => r.2.2.1), (3211, fun _ => r.2.2.2.1), (3212, fun _ => r.2.2.2.2.1), (3213, fun _ => r.2.2.2.2.2.1), (3214, fun _ => r.2.2.2.2.2.2.1), (3300, r.2.2.2.2.2.2.2.1), (3400, r.2.2.2.2.2.2.2.2.1), (3500, r.2.2.2.2.2.2.2.2.2.1), (3600, r.2.2.2.2.2.2.2.2.2.2.1), (3700, r.2.2.2.2.2.2.2.2.2.2.2.1), (3800, r.2.2.2.2.2.2.2.2.2.2.2.2.1), (3900, r.2.2.2.2.2.2.2.2.2.2.2.2.2)], lg) := by
  refine EM_of (M := xm_88) rfl rfl ?_
  unfold X5_kindFor at h
  refine E_sts 3 (5, [(0, .ref 0), (1, .int v1)], [.int v1, .ref 2], SH0, [], lg) rfl ?_
  refine E_call rfl (e_X2_isBow X _ _ _ (X2_isBow (σ 201 0) v1) rfl) (by decide) ?_
  refine E_sts 1 (if (xb (X2_isBow (σ 201 0) v1)) = 0 then 11 else 17, [(0, .ref 0), (1, .int v1)], [], SH0, [], lg) rfl ?_
  rcases x_br h with ⟨hc, h⟩ | ⟨hc, h⟩
  · refine E_itt hc ?_
    refine E_sts 2 (13, [(0, .ref 0), (1, .int v1)], [.int 0, .ref 0], SH0, [], lg) rfl ?_
    obtain ⟨r13, hr, h⟩ := x_bind h
    refine E_call rfl (e_X5_finding X _ _ _ r13 hr) (by decide) ?_
    obtain rfl := Option.some.inj h
    refine E_sts 1 (16, [], [.int r13.1], SH0, [(100, r13.2), (3208, fun _ => (σ 3208 0)), (3211, fun _ => (σ 3211 0)), (3212, fun _ => (σ 3212 0)), (3213, fun _ => (σ 3213 0)), (3214, fun _ => (σ 3214 0)), (3300, (σ 3300)), (3400, (σ 3400)), (3500, (σ 3500)), (3600, (σ 3600)), (3700, (σ 3700)), (3800, (σ 3800)), (3900, (σ 3900))], lg) rfl ?_
    exact E_ret rfl
  · refine E_itf hc ?_
    refine E_sts 4 (25, [(0, .ref 0), (1, .int v1)], [.ref 2, .ref 32], SH0, [], lg) rfl ?_
    obtain ⟨r25, hr, h⟩ := x_bind h
    refine E_call rfl (e_X1_startFrom X _ _ r25 hr) (by decide) ?_
    refine E_sts 2 (32, [(0, .ref 0), (1, .int v1)], [.ref 32], SH0, [(3211, fun _ => r25.1), (3212, fun _ => r25.2.1), (3213, fun _ => r25.2.2.1), (3214, fun _ => r25.2.2.2.1), (3300, r25.2.2.2.2.1), (3400, r25.2.2.2.2.2.1), (3500, r25.2.2.2.2.2.2)], lg) rfl ?_
    obtain ⟨r32, hr, h⟩ := x_bind h
    refine E_call rfl (e_X1_haveWay X _ _ r32 hr) (by decide) ?_
    refine E_sts 1 (if (xb r32) = 0 then 38 else 44, [(0, .ref 0), (1, .int v1)], [], SH0, [(3211, fun _ => r25.1), (3212, fun _ => r25.2.1), (3213, fun _ => r25.2.2.1), (3214, fun _ => r25.2.2.2.1), (3300, r25.2.2.2.2.1), (3400, r25.2.2.2.2.2.1), (3500, r25.2.2.2.2.2.2)], lg) rfl ?_
    rcases x_br h with ⟨hc, h⟩ | ⟨hc, h⟩
    · refine E_itt hc ?_
      refine E_sts 2 (40, [(0, .ref 0), (1, .int v1)], [.int 3, .ref 0], SH0, [(3211, fun _ => r25.1), (3212, fun _ => r25.2.1), (3213, fun _ => r25.2.2.1), (3214, fun _ => r25.2.2.2.1), (3300, r25.2.2.2.2.1), (3400, r25.2.2.2.2.2.1), (3500, r25.2.2.2.2.2.2)], lg) rfl ?_
      obtain ⟨r40, hr, h⟩ := x_bind h
      refine E_call rfl (e_X5_finding X _ _ _ r40 hr) (by decide) ?_
      obtain rfl := Option.some.inj h
      refine E_sts 1 (43, [], [.int r40.1], SH0, [(100, r40.2), (3208, fun _ => (σ 3208 0)), (3211, fun _ => r25.1), (3212, fun _ => r25.2.1), (3213, fun _ => r25.2.2.1), (3214, fun _ => r25.2.2.2.1), (3300, r25.2.2.2.2.1), (3400, r25.2.2.2.2.2.1), (3500, r25.2.2.2.2.2.2), (3600, (σ 3600)), (3700, (σ 3700)), (3800, (σ 3800)), (3900, (σ 3900))], lg) rfl ?_
      exact E_ret rfl
    · refine E_itf hc ?_
      refine E_sts 3 (49, [(0, .ref 0), (1, .int v1)], [.int v1, .ref 32], SH0, [(3211, fun _ => r25.1), (3212, fun _ => r25.2.1), (3213, fun _ => r25.2.2.1), (3214, fun _ => r25.2.2.2.1), (3300, r25.2.2.2.2.1), (3400, r25.2.2.2.2.2.1), (3500, r25.2.2.2.2.2.2)], lg) rfl ?_
      obtain ⟨r49, hr, h⟩ := x_bind h
      refine E_call rfl (e_X1_bestKind X _ _ _ r49 hr) (by decide) ?_
      obtain rfl := Option.some.inj h
      refine E_sts 1 (52, [], [.int r49.1], SH0, [(100, (σ 100)), (3208, fun _ => r49.2.1), (3211, fun _ => r25.1), (3212, fun _ => r25.2.1), (3213, fun _ => r25.2.2.1), (3214, fun _ => r25.2.2.2.1), (3300, r49.2.2.1), (3400, r25.2.2.2.2.2.1), (3500, r25.2.2.2.2.2.2), (3600, r49.2.2.2.1), (3700, r49.2.2.2.2.1), (3800, r49.2.2.2.2.2.1), (3900, r49.2.2.2.2.2.2)], lg) rfl ?_
      exact E_ret rfl
set_option maxHeartbeats 4000000 in
set_option maxRecDepth 20000 in
theorem e_X6_kindFor_L30 (X : xX) (σ : xM) (lg : Int64) : ∀ (n : Nat), ∀ (v1 : Int32) (v2 : Int32) (v3 : Int32) (v4 : Int32) (v5 : Int32) (m_s_ : (Nat → Int32)) (m_behind_ : (Nat → Int32)) (r : Int32 × (Nat → Int32) × (Nat → Int32) × (Nat → Int32)), X6_kindFor_L30 (σ 5600) n v1 v2 v3 v4 v5 m_s_ m_behind_ = some r → E XP X 5 xm_171 σ (30, [(0, .ref 52), (1, .int v1), (2, .int v2), (3, .int v3), (4, .int v4), (5, .int v5)], [], SH0, [(5300, m_s_), (5700, m_behind_)], lg) (some (.int r.1), SH0, [(5300, r.2.1), (5600, r.2.2.1), (5700, r.2.2.2)], lg) := by
  intro n
  induction n with
  | zero => intro v1 v2 v3 v4 v5 m_s_ m_behind_ r h; rw [X6_kindFor_L30] at h; cases h
  | succ n ih =>
    intro v1 v2 v3 v4 v5 m_s_ m_behind_ r h
    rw [X6_kindFor_L30] at h
    refine E_sts 3 (if 6 < v5 then 81 else 37, [(0, .ref 52), (1, .int v1), (2, .int v2), (3, .int v3), (4, .int v4), (5, .int v5)], [], SH0, [(5300, m_s_), (5700, m_behind_)], lg) rfl ?_
    rcases x_br h with ⟨hc, h⟩ | ⟨hc, h⟩
    · refine E_itt hc ?_
      refine E_sts 4 (85, [(0, .ref 52), (1, .int v1), (2, .int v2), (3, .int v3), (4, .int v4), (5, .int v5)], [.int v2, .int 0, .int v1, .ref 52], SH0, [(5300, m_s_), (5700, m_behind_)], lg) rfl ?_
      obtain ⟨r85, hr, h⟩ := x_bind h
      refine E_call rfl (e_X6_puts X _ _ _ _ _ r85 hr) (by decide) ?_
      refine E_sts 2 (if 0 ≤ v3 then 100 else 92, [(0, .ref 52), (1, .int v1), (2, .int v2), (3, .int v3), (4, .int v4), (5, .int v5)], [], SH0, [(5300, r85), (5700, m_behind_)], lg) rfl ?_
      rcases x_br h with ⟨hc, h⟩ | ⟨hc, h⟩
      · refine E_itt hc ?_
        obtain rfl := Option.some.inj h
        refine E_sts 2 (101, [], [.int v3], SH0, [(5300, r85), (5600, (σ 5600)), (5700, m_behind_)], lg) rfl ?_
        exact E_ret rfl
      · refine E_itf hc ?_
        refine E_sts 2 (94, [(0, .ref 52), (1, .int v1), (2, .int v2), (3, .int v3), (4, .int v4), (5, .int v5)], [.int 3, .ref 52], SH0, [(5300, r85), (5700, m_behind_)], lg) rfl ?_
        obtain ⟨r94, hr, h⟩ := x_bind h
        refine E_call rfl (e_X6_no X _ _ _ r94 hr) (by decide) ?_
        obtain rfl := Option.some.inj h
        refine E_sts 2 (101, [], [.int r94.1], SH0, [(5300, r85), (5600, r94.2), (5700, m_behind_)], lg) rfl ?_
        exact E_ret rfl
    · refine E_itf hc ?_
      refine E_sts 4 (42, [(0, .ref 52), (1, .int v1), (2, .int v2), (3, .int v3), (4, .int v4), (5, .int v5)], [.int v5, .int 0, .int v1, .ref 52], SH0, [(5300, m_s_), (5700, m_behind_)], lg) rfl ?_
      obtain ⟨r42, hr, h⟩ := x_bind h
      refine E_call rfl (e_X6_puts X _ _ _ _ _ r42 hr) (by decide) ?_
      refine E_sts 2 (47, [(0, .ref 52), (1, .int v1), (2, .int v2), (3, .int v3), (4, .int v4), (5, .int v5)], [.int 0, .ref 52], SH0, [(5300, r42), (5700, m_behind_)], lg) rfl ?_
      obtain ⟨r47, hr, h⟩ := x_bind h
      refine E_call rfl (e_X6_findsBest X _ _ _ r47 hr) (by decide) ?_
      refine E_sts 4 (if r47.1 ≤ v4 then 64 else 59, [(0, .ref 52), (1, .int v1), (2, .int v2), (3, .int v3), (4, .int v4), (5, .int v5), (6, .int r47.1)], [], SH0, [(5300, r42), (5700, r47.2)], lg) rfl ?_
      rcases x_br h with ⟨hc, h⟩ | ⟨hc, h⟩
      · refine E_itt hc ?_
        refine E_sts 4 (70, [(0, .ref 52), (1, .int v1), (2, .int v2), (3, .int v3), (4, .int v4), (5, .int v5), (6, .int r47.1)], [.int r47.1, .int v4], SH0, [(5300, r42), (5700, r47.2)], lg) rfl ?_
        refine E_call rfl (e_X6_most X _ _ _ _ (X6_most v4 r47.1) rfl) (by decide) ?_
        refine E_sts 4 (30, [(0, .ref 52), (1, .int v1), (2, .int v2), (3, .int v3), (4, .int (X6_most v4 r47.1)), (5, .int (v5 + 1))], [], SH0, [(5300, r42), (5700, r47.2)], lg) rfl ?_
        exact ih v1 v2 v3 (X6_most v4 r47.1) (v5 + 1) r42 r47.2 r h
      · refine E_itf hc ?_
        refine E_sts 5 (70, [(0, .ref 52), (1, .int v1), (2, .int v2), (3, .int v5), (4, .int v4), (5, .int v5), (6, .int r47.1)], [.int r47.1, .int v4], SH0, [(5300, r42), (5700, r47.2)], lg) rfl ?_
        refine E_call rfl (e_X6_most X _ _ _ _ (X6_most v4 r47.1) rfl) (by decide) ?_
        refine E_sts 4 (30, [(0, .ref 52), (1, .int v1), (2, .int v2), (3, .int v5), (4, .int (X6_most v4 r47.1)), (5, .int (v5 + 1))], [], SH0, [(5300, r42), (5700, r47.2)], lg) rfl ?_
        exact ih v1 v2 v5 (X6_most v4 r47.1) (v5 + 1) r42 r47.2 r h
set_option maxHeartbeats 4000000 in
set_option maxRecDepth 20000 in
theorem e_X6_kindFor (X : xX) (σ : xM) (lg : Int64) (v1 : Int32) (r : Int32 × (Nat → Int32) × (Nat → Int32) × (Nat → Int32)) (h : X6_kindFor (σ 5300) (σ 5600) (σ 5700) v1 = some r) : EM XP X 6 171 [.ref 52, .int v1] SH0 lg σ (some (.int r.1), SH0, [(5300, r.2.1), (5600, r.2.2.1), (5700, r.2.2.2)], lg) := by
  refine EM_of (M := xm_171) rfl rfl ?_
  unfold X6_kindFor at h
  refine E_sts 2 (2, [(0, .ref 52), (1, .int v1)], [.int v1, .ref 52], SH0, [], lg) rfl ?_
  obtain ⟨r2, hr, h⟩ := x_bind h
  refine E_call rfl (e_X6_isBow X _ _ _ r2 hr) (by decide) ?_
  refine E_sts 1 (if (xb r2) = 0 then 8 else 14, [(0, .ref 52), (1, .int v1)], [], SH0, [], lg) rfl ?_
  rcases x_br h with ⟨hc, h⟩ | ⟨hc, h⟩
  · refine E_itt hc ?_
    refine E_sts 2 (10, [(0, .ref 52), (1, .int v1)], [.int 0, .ref 52], SH0, [], lg) rfl ?_
    obtain ⟨r10, hr, h⟩ := x_bind h
    refine E_call rfl (e_X6_no X _ _ _ r10 hr) (by decide) ?_
    obtain rfl := Option.some.inj h
    refine E_sts 1 (13, [], [.int r10.1], SH0, [(5300, (σ 5300)), (5600, r10.2), (5700, (σ 5700))], lg) rfl ?_
    exact E_ret rfl
  · refine E_itf hc ?_
    refine E_sts 3 (17, [(0, .ref 52), (1, .int v1)], [.int 0, .int v1, .ref 52], SH0, [], lg) rfl ?_
    obtain ⟨r17, hr, h⟩ := x_bind h
    refine E_call rfl (e_X6_get X _ _ _ _ r17 hr) (by decide) ?_
    refine E_sts 8 (30, [(0, .ref 52), (1, .int v1), (2, .int r17), (3, .int (-1)), (4, .int (-99999999)), (5, .int 0)], [], SH0, [(5300, (σ 5300)), (5700, (σ 5700))], lg) rfl ?_
    exact e_X6_kindFor_L30 X σ lg _ v1 r17 (-1) (-99999999) 0 (σ 5300) (σ 5700) r h
set_option maxHeartbeats 4000000 in
set_option maxRecDepth 20000 in
theorem e_X1_freeOne_L82 (X : xX) (σ : xM) (lg : Int64) (k4 : Int32 → Int32 → Int32 → Int32 → Int32 → (Nat → Int32) → (Nat → Int32) → (Nat → Int32) → (Nat → Int32) → (Nat → Int32) → Option (Bool × Int32 × Int32 × Int32 × (Nat → Int32) × (Nat → Int32) × (Nat → Int32) × (Nat → Int32) × (Nat → Int32))) (k14 : Int32 → Int32 → Int32 → Int32 → Int32 → Int32 → (Nat → Int32) → (Nat → Int32) → (Nat → Int32) → (Nat → Int32) → (Nat → Int32) → Option (Bool × Int32 × Int32 × Int32 × (Nat → Int32) × (Nat → Int32) × (Nat → Int32) × (Nat → Int32) × (Nat → Int32))) (h4 : ∀ (v1 : Int32) (v2 : Int32) (od_many_ : Int32) (od_freedOne_ : Int32) (od_freedMost_ : Int32) (od_aheads_ : (Nat → Int32)) (od_scores_ : (Nat → Int32)) (od_most_ : (Nat → Int32)) (od_followers_ : (Nat → Int32)) (od_mostThen_ : (Nat → Int32)) (r : Bool × Int32 × Int32 × Int32 × (Nat → Int32) × (Nat → Int32) × (Nat → Int32) × (Nat → Int32) × (Nat → Int32)), k4 v1 v2 od_many_ od_freedOne_ od_freedMost_ od_aheads_ od_scores_ od_most_ od_followers_ od_mostThen_ = some r → E XP X 4 xm_23 σ (4, [(0, .ref 32), (1, .int v1), (2, .int v2)], [], SH0, [(3208, fun _ => od_many_), (3215, fun _ => od_freedOne_), (3216, fun _ => od_freedMost_), (3500, od_aheads_), (3600, od_scores_), (3700, od_most_), (3800, od_followers_), (3900, od_mostThen_)], lg) (some (.int (xb r.1)), SH0, [(3208, fun _ => r.2.1), (3215, fun _ => r.2.2.1), (3216, fun _ => r.2.2.2.1), (3500, r.2.2.2.2.1), (3600, r.2.2.2.2.2.1), (3700, r.2.2.2.2.2.2.1), (3800, r.2.2.2.2.2.2.2.1), (3900, r.2.2.2.2.2.2.2.2)], lg)) (h14 : ∀ (v1 : Int32) (v2 : Int32) (v3 : Int32) (od_many_ : Int32) (od_freedOne_ : Int32) (od_freedMost_ : Int32) (od_aheads_ : (Nat → Int32)) (od_scores_ : (Nat → Int32)) (od_most_ : (Nat → Int32)) (od_followers_ : (Nat → Int32)) (od_mostThen_ : (Nat → Int32)) (r : Bool × Int32 × Int32 × Int32 × (Nat → Int32) × (Nat → Int32) × (Nat → Int32) × (Nat → Int32) × (Nat → Int32)), k14 v1 v2 v3 od_many_ od_freedOne_ od_freedMost_ od_aheads_ od_scores_ od_most_ od_followers_ od_mostThen_ = some r → E XP X 4 xm_23 σ (14, [(0, .ref 32), (1, .int v1), (2, .int v2), (3, .int v3)], [], SH0, [(3208, fun _ => od_many_), (3215, fun _ => od_freedOne_), (3216, fun _ => od_freedMost_), (3500, od_aheads_), (3600, od_scores_), (3700, od_most_), (3800, od_followers_), (3900, od_mostThen_)], lg) (some (.int (xb r.1)), SH0, [(3208, fun _ => r.2.1), (3215, fun _ => r.2.2.1), (3216, fun _ => r.2.2.2.1), (3500, r.2.2.2.2.1), (3600, r.2.2.2.2.2.1), (3700, r.2.2.2.2.2.2.1), (3800, r.2.2.2.2.2.2.2.1), (3900, r.2.2.2.2.2.2.2.2)], lg)) : ∀ (v2 : Int32) (v3 : Int32) (v4 : Int32) (v5 : Int32) (od_many_ : Int32) (od_freedOne_ : Int32) (od_freedMost_ : Int32) (od_aheads_ : (Nat → Int32)) (od_scores_ : (Nat → Int32)) (od_most_ : (Nat → Int32)) (od_followers_ : (Nat → Int32)) (od_mostThen_ : (Nat → Int32)) (r : Bool × Int32 × Int32 × Int32 × (Nat → Int32) × (Nat → Int32) × (Nat → Int32) × (Nat → Int32) × (Nat → Int32)), X1_freeOne_L82 k4 k14 v2 v3 v4 v5 od_many_ od_freedOne_ od_freedMost_ od_aheads_ od_scores_ od_most_ od_followers_ od_mostThen_ = some r → E XP X 4 xm_23 σ (82, [(0, .ref 32), (2, .int v2), (3, .int v3), (4, .int v4), (5, .int v5)], [], SH0, [(3208, fun _ => od_many_), (3215, fun _ => od_freedOne_), (3216, fun _ => od_freedMost_), (3500, od_aheads_), (3600, od_scores_), (3700, od_most_), (3800, od_followers_), (3900, od_mostThen_)], lg) (some (.int (xb r.1)), SH0, [(3208, fun _ => r.2.1), (3215, fun _ => r.2.2.1), (3216, fun _ => r.2.2.2.1), (3500, r.2.2.2.2.1), (3600, r.2.2.2.2.2.1), (3700, r.2.2.2.2.2.2.1), (3800, r.2.2.2.2.2.2.2.1), (3900, r.2.2.2.2.2.2.2.2)], lg) := by
  intro v2 v3 v4 v5 od_many_ od_freedOne_ od_freedMost_ od_aheads_ od_scores_ od_most_ od_followers_ od_mostThen_ r h
  unfold X1_freeOne_L82 at h
  refine E_sts 16 (107, [(0, .ref 32), (1, .int 1), (2, .int v2), (3, .int v3), (4, .int v4), (5, .int v5)], [.int v4, .int v3, .ref 35], SH0, [(3208, fun _ => od_many_), (3215, fun _ => ((10 * v2) + v3)), (3216, fun _ => v5), (3500, od_aheads_), (3600, od_scores_), (3700, od_most_), (3800, od_followers_), (3900, od_mostThen_)], lg) rfl ?_
  obtain ⟨hp, h⟩ := x_ite h
  refine E_par (p := inr v3 9) (108, [(0, .ref 32), (1, .int 1), (2, .int v2), (3, .int v3), (4, .int v4), (5, .int v5)], [], SH0, [(3208, fun _ => od_many_), (3215, fun _ => ((10 * v2) + v3)), (3216, fun _ => v5), (3500, (upd od_aheads_ v3.toNatClampNeg v4)), (3600, od_scores_), (3700, od_most_), (3800, od_followers_), (3900, od_mostThen_)], lg) rfl hp ?_
  refine E_sts 3 (14, [(0, .ref 32), (1, .int 1), (2, .int v2), (3, .int (v3 + 1))], [], SH0, [(3208, fun _ => od_many_), (3215, fun _ => ((10 * v2) + v3)), (3216, fun _ => v5), (3500, (upd od_aheads_ v3.toNatClampNeg v4)), (3600, od_scores_), (3700, od_most_), (3800, od_followers_), (3900, od_mostThen_)], lg) rfl ?_
  exact h14 1 v2 (v3 + 1) od_many_ ((10 * v2) + v3) v5 (upd od_aheads_ v3.toNatClampNeg v4) od_scores_ od_most_ od_followers_ od_mostThen_ r h
set_option maxHeartbeats 4000000 in
set_option maxRecDepth 20000 in
theorem e_X1_freeOne_L14 (X : xX) (σ : xM) (lg : Int64) (k4 : Int32 → Int32 → Int32 → Int32 → Int32 → (Nat → Int32) → (Nat → Int32) → (Nat → Int32) → (Nat → Int32) → (Nat → Int32) → Option (Bool × Int32 × Int32 × Int32 × (Nat → Int32) × (Nat → Int32) × (Nat → Int32) × (Nat → Int32) × (Nat → Int32))) (h4 : ∀ (v1 : Int32) (v2 : Int32) (od_many_ : Int32) (od_freedOne_ : Int32) (od_freedMost_ : Int32) (od_aheads_ : (Nat → Int32)) (od_scores_ : (Nat → Int32)) (od_most_ : (Nat → Int32)) (od_followers_ : (Nat → Int32)) (od_mostThen_ : (Nat → Int32)) (r : Bool × Int32 × Int32 × Int32 × (Nat → Int32) × (Nat → Int32) × (Nat → Int32) × (Nat → Int32) × (Nat → Int32)), k4 v1 v2 od_many_ od_freedOne_ od_freedMost_ od_aheads_ od_scores_ od_most_ od_followers_ od_mostThen_ = some r → E XP X 4 xm_23 σ (4, [(0, .ref 32), (1, .int v1), (2, .int v2)], [], SH0, [(3208, fun _ => od_many_), (3215, fun _ => od_freedOne_), (3216, fun _ => od_freedMost_), (3500, od_aheads_), (3600, od_scores_), (3700, od_most_), (3800, od_followers_), (3900, od_mostThen_)], lg) (some (.int (xb r.1)), SH0, [(3208, fun _ => r.2.1), (3215, fun _ => r.2.2.1), (3216, fun _ => r.2.2.2.1), (3500, r.2.2.2.2.1), (3600, r.2.2.2.2.2.1), (3700, r.2.2.2.2.2.2.1), (3800, r.2.2.2.2.2.2.2.1), (3900, r.2.2.2.2.2.2.2.2)], lg)) : ∀ (n : Nat), ∀ (v1 : Int32) (v2 : Int32) (v3 : Int32) (od_many_ : Int32) (od_freedOne_ : Int32) (od_freedMost_ : Int32) (od_aheads_ : (Nat → Int32)) (od_scores_ : (Nat → Int32)) (od_most_ : (Nat → Int32)) (od_followers_ : (Nat → Int32)) (od_mostThen_ : (Nat → Int32)) (r : Bool × Int32 × Int32 × Int32 × (Nat → Int32) × (Nat → Int32) × (Nat → Int32) × (Nat → Int32) × (Nat → Int32)), X1_freeOne_L14 k4 (σ 3211 0) (σ 3212 0) (σ 3213 0) (σ 3214 0) (σ 3300) (σ 3400) n v1 v2 v3 od_many_ od_freedOne_ od_freedMost_ od_aheads_ od_scores_ od_most_ od_followers_ od_mostThen_ = some r → E XP X 4 xm_23 σ (14, [(0, .ref 32), (1, .int v1), (2, .int v2), (3, .int v3)], [], SH0, [(3208, fun _ => od_many_), (3215, fun _ => od_freedOne_), (3216, fun _ => od_freedMost_), (3500, od_aheads_), (3600, od_scores_), (3700, od_most_), (3800, od_followers_), (3900, od_mostThen_)], lg) (some (.int (xb r.1)), SH0, [(3208, fun _ => r.2.1), (3215, fun _ => r.2.2.1), (3216, fun _ => r.2.2.2.1), (3500, r.2.2.2.2.1), (3600, r.2.2.2.2.2.1), (3700, r.2.2.2.2.2.2.1), (3800, r.2.2.2.2.2.2.2.1), (3900, r.2.2.2.2.2.2.2.2)], lg) := by
  intro n
  induction n with
  | zero => intro v1 v2 v3 od_many_ od_freedOne_ od_freedMost_ od_aheads_ od_scores_ od_most_ od_followers_ od_mostThen_ r h; rw [X1_freeOne_L14] at h; cases h
  | succ n ih =>
    intro v1 v2 v3 od_many_ od_freedOne_ od_freedMost_ od_aheads_ od_scores_ od_most_ od_followers_ od_mostThen_ r h
    rw [X1_freeOne_L14] at h
    refine E_sts 4 (if (σ 3211 0) ≤ v3 then 114 else 22, [(0, .ref 32), (1, .int v1), (2, .int v2), (3, .int v3)], [], SH0, [(3208, fun _ => od_many_), (3215, fun _ => od_freedOne_), (3216, fun _ => od_freedMost_), (3500, od_aheads_), (3600, od_scores_), (3700, od_most_), (3800, od_followers_), (3900, od_mostThen_)], lg) rfl ?_
    rcases x_br h with ⟨hc, h⟩ | ⟨hc, h⟩
    · refine E_itt hc ?_
      refine E_sts 3 (4, [(0, .ref 32), (1, .int v1), (2, .int (v2 + 1))], [], SH0, [(3208, fun _ => od_many_), (3215, fun _ => od_freedOne_), (3216, fun _ => od_freedMost_), (3500, od_aheads_), (3600, od_scores_), (3700, od_most_), (3800, od_followers_), (3900, od_mostThen_)], lg) rfl ?_
      exact h4 v1 (v2 + 1) od_many_ od_freedOne_ od_freedMost_ od_aheads_ od_scores_ od_most_ od_followers_ od_mostThen_ r h
    · refine E_itf hc ?_
      refine E_sts 3 (27, [(0, .ref 32), (1, .int v1), (2, .int v2), (3, .int v3)], [.int v3, .ref 35], SH0, [(3208, fun _ => od_many_), (3215, fun _ => od_freedOne_), (3216, fun _ => od_freedMost_), (3500, od_aheads_), (3600, od_scores_), (3700, od_most_), (3800, od_followers_), (3900, od_mostThen_)], lg) rfl ?_
      obtain ⟨hp, h⟩ := x_ite h
      refine E_par (p := inr v3 9) (28, [(0, .ref 32), (1, .int v1), (2, .int v2), (3, .int v3)], [.int (od_aheads_ v3.toNatClampNeg)], SH0, [(3208, fun _ => od_many_), (3215, fun _ => od_freedOne_), (3216, fun _ => od_freedMost_), (3500, od_aheads_), (3600, od_scores_), (3700, od_most_), (3800, od_followers_), (3900, od_mostThen_)], lg) rfl hp ?_
      refine E_sts 11 (43, [(0, .ref 32), (1, .int v1), (2, .int v2), (3, .int v3), (4, .int (od_aheads_ v3.toNatClampNeg))], [.int ((od_aheads_ v3.toNatClampNeg) &&& ((xshl 1 v2) ^^^ (-1))), .int v3, .ref 35], SH0, [(3208, fun _ => od_many_), (3215, fun _ => od_freedOne_), (3216, fun _ => od_freedMost_), (3500, od_aheads_), (3600, od_scores_), (3700, od_most_), (3800, od_followers_), (3900, od_mostThen_)], lg) rfl ?_
      obtain ⟨hp, h⟩ := x_ite h
      refine E_par (p := inr v3 9) (44, [(0, .ref 32), (1, .int v1), (2, .int v2), (3, .int v3), (4, .int (od_aheads_ v3.toNatClampNeg))], [], SH0, [(3208, fun _ => od_many_), (3215, fun _ => od_freedOne_), (3216, fun _ => od_freedMost_), (3500, (upd od_aheads_ v3.toNatClampNeg ((od_aheads_ v3.toNatClampNeg) &&& ((xshl 1 v2) ^^^ (-1))))), (3600, od_scores_), (3700, od_most_), (3800, od_followers_), (3900, od_mostThen_)], lg) rfl hp ?_
      refine E_sts 4 (51, [(0, .ref 32), (1, .int v1), (2, .int v2), (3, .int v3), (4, .int (od_aheads_ v3.toNatClampNeg))], [.int v3, .ref 35, .int (od_aheads_ v3.toNatClampNeg)], SH0, [(3208, fun _ => od_many_), (3215, fun _ => od_freedOne_), (3216, fun _ => od_freedMost_), (3500, (upd od_aheads_ v3.toNatClampNeg ((od_aheads_ v3.toNatClampNeg) &&& ((xshl 1 v2) ^^^ (-1))))), (3600, od_scores_), (3700, od_most_), (3800, od_followers_), (3900, od_mostThen_)], lg) rfl ?_
      obtain ⟨hp, h⟩ := x_ite h
      refine E_par (p := inr v3 9) (52, [(0, .ref 32), (1, .int v1), (2, .int v2), (3, .int v3), (4, .int (od_aheads_ v3.toNatClampNeg))], [.int ((upd od_aheads_ v3.toNatClampNeg ((od_aheads_ v3.toNatClampNeg) &&& ((xshl 1 v2) ^^^ (-1)))) v3.toNatClampNeg), .int (od_aheads_ v3.toNatClampNeg)], SH0, [(3208, fun _ => od_many_), (3215, fun _ => od_freedOne_), (3216, fun _ => od_freedMost_), (3500, (upd od_aheads_ v3.toNatClampNeg ((od_aheads_ v3.toNatClampNeg) &&& ((xshl 1 v2) ^^^ (-1))))), (3600, od_scores_), (3700, od_most_), (3800, od_followers_), (3900, od_mostThen_)], lg) rfl hp ?_
      refine E_sts 1 (if (od_aheads_ v3.toNatClampNeg) = ((upd od_aheads_ v3.toNatClampNeg ((od_aheads_ v3.toNatClampNeg) &&& ((xshl 1 v2) ^^^ (-1)))) v3.toNatClampNeg) then 100 else 55, [(0, .ref 32), (1, .int v1), (2, .int v2), (3, .int v3), (4, .int (od_aheads_ v3.toNatClampNeg))], [], SH0, [(3208, fun _ => od_many_), (3215, fun _ => od_freedOne_), (3216, fun _ => od_freedMost_), (3500, (upd od_aheads_ v3.toNatClampNeg ((od_aheads_ v3.toNatClampNeg) &&& ((xshl 1 v2) ^^^ (-1))))), (3600, od_scores_), (3700, od_most_), (3800, od_followers_), (3900, od_mostThen_)], lg) rfl ?_
      rcases x_br h with ⟨hc, h⟩ | ⟨hc, h⟩
      · refine E_itt hc ?_
        refine E_sts 4 (107, [(0, .ref 32), (1, .int v1), (2, .int v2), (3, .int v3), (4, .int (od_aheads_ v3.toNatClampNeg))], [.int (od_aheads_ v3.toNatClampNeg), .int v3, .ref 35], SH0, [(3208, fun _ => od_many_), (3215, fun _ => od_freedOne_), (3216, fun _ => od_freedMost_), (3500, (upd od_aheads_ v3.toNatClampNeg ((od_aheads_ v3.toNatClampNeg) &&& ((xshl 1 v2) ^^^ (-1))))), (3600, od_scores_), (3700, od_most_), (3800, od_followers_), (3900, od_mostThen_)], lg) rfl ?_
        obtain ⟨hp, h⟩ := x_ite h
        refine E_par (p := inr v3 9) (108, [(0, .ref 32), (1, .int v1), (2, .int v2), (3, .int v3), (4, .int (od_aheads_ v3.toNatClampNeg))], [], SH0, [(3208, fun _ => od_many_), (3215, fun _ => od_freedOne_), (3216, fun _ => od_freedMost_), (3500, (upd (upd od_aheads_ v3.toNatClampNeg ((od_aheads_ v3.toNatClampNeg) &&& ((xshl 1 v2) ^^^ (-1)))) v3.toNatClampNeg (od_aheads_ v3.toNatClampNeg))), (3600, od_scores_), (3700, od_most_), (3800, od_followers_), (3900, od_mostThen_)], lg) rfl hp ?_
        refine E_sts 3 (14, [(0, .ref 32), (1, .int v1), (2, .int v2), (3, .int (v3 + 1))], [], SH0, [(3208, fun _ => od_many_), (3215, fun _ => od_freedOne_), (3216, fun _ => od_freedMost_), (3500, (upd (upd od_aheads_ v3.toNatClampNeg ((od_aheads_ v3.toNatClampNeg) &&& ((xshl 1 v2) ^^^ (-1)))) v3.toNatClampNeg (od_aheads_ v3.toNatClampNeg))), (3600, od_scores_), (3700, od_most_), (3800, od_followers_), (3900, od_mostThen_)], lg) rfl ?_
        exact ih v1 v2 (v3 + 1) od_many_ od_freedOne_ od_freedMost_ (upd (upd od_aheads_ v3.toNatClampNeg ((od_aheads_ v3.toNatClampNeg) &&& ((xshl 1 v2) ^^^ (-1)))) v3.toNatClampNeg (od_aheads_ v3.toNatClampNeg)) od_scores_ od_most_ od_followers_ od_mostThen_ r h
      · refine E_itf hc ?_
        refine E_sts 1 (56, [(0, .ref 32), (1, .int v1), (2, .int v2), (3, .int v3), (4, .int (od_aheads_ v3.toNatClampNeg))], [.ref 32], SH0, [(3208, fun _ => od_many_), (3215, fun _ => od_freedOne_), (3216, fun _ => od_freedMost_), (3500, (upd od_aheads_ v3.toNatClampNeg ((od_aheads_ v3.toNatClampNeg) &&& ((xshl 1 v2) ^^^ (-1))))), (3600, od_scores_), (3700, od_most_), (3800, od_followers_), (3900, od_mostThen_)], lg) rfl ?_
        obtain ⟨r56, hr, h⟩ := x_bind h
        refine E_call rfl (e_X1_haveWay X _ _ r56 hr) (by decide) ?_
        refine E_sts 1 (if (xb r56) = 0 then 100 else 62, [(0, .ref 32), (1, .int v1), (2, .int v2), (3, .int v3), (4, .int (od_aheads_ v3.toNatClampNeg))], [], SH0, [(3208, fun _ => od_many_), (3215, fun _ => od_freedOne_), (3216, fun _ => od_freedMost_), (3500, (upd od_aheads_ v3.toNatClampNeg ((od_aheads_ v3.toNatClampNeg) &&& ((xshl 1 v2) ^^^ (-1))))), (3600, od_scores_), (3700, od_most_), (3800, od_followers_), (3900, od_mostThen_)], lg) rfl ?_
        rcases x_br h with ⟨hc, h⟩ | ⟨hc, h⟩
        · refine E_itt hc ?_
          refine E_sts 4 (107, [(0, .ref 32), (1, .int v1), (2, .int v2), (3, .int v3), (4, .int (od_aheads_ v3.toNatClampNeg))], [.int (od_aheads_ v3.toNatClampNeg), .int v3, .ref 35], SH0, [(3208, fun _ => od_many_), (3215, fun _ => od_freedOne_), (3216, fun _ => od_freedMost_), (3500, (upd od_aheads_ v3.toNatClampNeg ((od_aheads_ v3.toNatClampNeg) &&& ((xshl 1 v2) ^^^ (-1))))), (3600, od_scores_), (3700, od_most_), (3800, od_followers_), (3900, od_mostThen_)], lg) rfl ?_
          obtain ⟨hp, h⟩ := x_ite h
          refine E_par (p := inr v3 9) (108, [(0, .ref 32), (1, .int v1), (2, .int v2), (3, .int v3), (4, .int (od_aheads_ v3.toNatClampNeg))], [], SH0, [(3208, fun _ => od_many_), (3215, fun _ => od_freedOne_), (3216, fun _ => od_freedMost_), (3500, (upd (upd od_aheads_ v3.toNatClampNeg ((od_aheads_ v3.toNatClampNeg) &&& ((xshl 1 v2) ^^^ (-1)))) v3.toNatClampNeg (od_aheads_ v3.toNatClampNeg))), (3600, od_scores_), (3700, od_most_), (3800, od_followers_), (3900, od_mostThen_)], lg) rfl hp ?_
          refine E_sts 3 (14, [(0, .ref 32), (1, .int v1), (2, .int v2), (3, .int (v3 + 1))], [], SH0, [(3208, fun _ => od_many_), (3215, fun _ => od_freedOne_), (3216, fun _ => od_freedMost_), (3500, (upd (upd od_aheads_ v3.toNatClampNeg ((od_aheads_ v3.toNatClampNeg) &&& ((xshl 1 v2) ^^^ (-1)))) v3.toNatClampNeg (od_aheads_ v3.toNatClampNeg))), (3600, od_scores_), (3700, od_most_), (3800, od_followers_), (3900, od_mostThen_)], lg) rfl ?_
          exact ih v1 v2 (v3 + 1) od_many_ od_freedOne_ od_freedMost_ (upd (upd od_aheads_ v3.toNatClampNeg ((od_aheads_ v3.toNatClampNeg) &&& ((xshl 1 v2) ^^^ (-1)))) v3.toNatClampNeg (od_aheads_ v3.toNatClampNeg)) od_scores_ od_most_ od_followers_ od_mostThen_ r h
        · refine E_itf hc ?_
          refine E_sts 2 (64, [(0, .ref 32), (1, .int v1), (2, .int v2), (3, .int v3), (4, .int (od_aheads_ v3.toNatClampNeg))], [.int 0, .ref 32], SH0, [(3208, fun _ => od_many_), (3215, fun _ => od_freedOne_), (3216, fun _ => od_freedMost_), (3500, (upd od_aheads_ v3.toNatClampNeg ((od_aheads_ v3.toNatClampNeg) &&& ((xshl 1 v2) ^^^ (-1))))), (3600, od_scores_), (3700, od_most_), (3800, od_followers_), (3900, od_mostThen_)], lg) rfl ?_
          obtain ⟨r64, hr, h⟩ := x_bind h
          refine E_call rfl (e_X1_weigh X _ _ _ r64 hr) (by decide) ?_
          refine E_sts 3 (if v1 = 0 then 100082 else 73, [(0, .ref 32), (1, .int v1), (2, .int v2), (3, .int v3), (4, .int (od_aheads_ v3.toNatClampNeg)), (5, .int r64.1)], [], SH0, [(3208, fun _ => r64.2.1), (3215, fun _ => od_freedOne_), (3216, fun _ => od_freedMost_), (3500, (upd od_aheads_ v3.toNatClampNeg ((od_aheads_ v3.toNatClampNeg) &&& ((xshl 1 v2) ^^^ (-1))))), (3600, r64.2.2.1), (3700, r64.2.2.2.1), (3800, r64.2.2.2.2.1), (3900, r64.2.2.2.2.2)], lg) rfl ?_
          rcases x_br h with ⟨hc, h⟩ | ⟨hc, h⟩
          · refine E_itt hc ?_
            refine E_sts 1 (82, [(0, .ref 32), (2, .int v2), (3, .int v3), (4, .int (od_aheads_ v3.toNatClampNeg)), (5, .int r64.1)], [], SH0, [(3208, fun _ => r64.2.1), (3215, fun _ => od_freedOne_), (3216, fun _ => od_freedMost_), (3500, (upd od_aheads_ v3.toNatClampNeg ((od_aheads_ v3.toNatClampNeg) &&& ((xshl 1 v2) ^^^ (-1))))), (3600, r64.2.2.1), (3700, r64.2.2.2.1), (3800, r64.2.2.2.2.1), (3900, r64.2.2.2.2.2)], lg) rfl ?_
            exact e_X1_freeOne_L82 X σ lg _ _ (fun v10 v20 od_many_0 od_freedOne_0 od_freedMost_0 od_aheads_0 od_scores_0 od_most_0 od_followers_0 od_mostThen_0 r h => h4 v10 v20 od_many_0 od_freedOne_0 od_freedMost_0 od_aheads_0 od_scores_0 od_most_0 od_followers_0 od_mostThen_0 r h) (fun v10 v20 v30 od_many_0 od_freedOne_0 od_freedMost_0 od_aheads_0 od_scores_0 od_most_0 od_followers_0 od_mostThen_0 r h => ih v10 v20 v30 od_many_0 od_freedOne_0 od_freedMost_0 od_aheads_0 od_scores_0 od_most_0 od_followers_0 od_mostThen_0 r h) v2 v3 (od_aheads_ v3.toNatClampNeg) r64.1 r64.2.1 od_freedOne_ od_freedMost_ (upd od_aheads_ v3.toNatClampNeg ((od_aheads_ v3.toNatClampNeg) &&& ((xshl 1 v2) ^^^ (-1)))) r64.2.2.1 r64.2.2.2.1 r64.2.2.2.2.1 r64.2.2.2.2.2 r h
          · refine E_itf hc ?_
            refine E_sts 4 (if r64.1 ≤ od_freedMost_ then 100 else 100082, [(0, .ref 32), (1, .int v1), (2, .int v2), (3, .int v3), (4, .int (od_aheads_ v3.toNatClampNeg)), (5, .int r64.1)], [], SH0, [(3208, fun _ => r64.2.1), (3215, fun _ => od_freedOne_), (3216, fun _ => od_freedMost_), (3500, (upd od_aheads_ v3.toNatClampNeg ((od_aheads_ v3.toNatClampNeg) &&& ((xshl 1 v2) ^^^ (-1))))), (3600, r64.2.2.1), (3700, r64.2.2.2.1), (3800, r64.2.2.2.2.1), (3900, r64.2.2.2.2.2)], lg) rfl ?_
            rcases x_br h with ⟨hc, h⟩ | ⟨hc, h⟩
            · refine E_itt hc ?_
              refine E_sts 4 (107, [(0, .ref 32), (1, .int v1), (2, .int v2), (3, .int v3), (4, .int (od_aheads_ v3.toNatClampNeg)), (5, .int r64.1)], [.int (od_aheads_ v3.toNatClampNeg), .int v3, .ref 35], SH0, [(3208, fun _ => r64.2.1), (3215, fun _ => od_freedOne_), (3216, fun _ => od_freedMost_), (3500, (upd od_aheads_ v3.toNatClampNeg ((od_aheads_ v3.toNatClampNeg) &&& ((xshl 1 v2) ^^^ (-1))))), (3600, r64.2.2.1), (3700, r64.2.2.2.1), (3800, r64.2.2.2.2.1), (3900, r64.2.2.2.2.2)], lg) rfl ?_
              obtain ⟨hp, h⟩ := x_ite h
              refine E_par (p := inr v3 9) (108, [(0, .ref 32), (1, .int v1), (2, .int v2), (3, .int v3), (4, .int (od_aheads_ v3.toNatClampNeg)), (5, .int r64.1)], [], SH0, [(3208, fun _ => r64.2.1), (3215, fun _ => od_freedOne_), (3216, fun _ => od_freedMost_), (3500, (upd (upd od_aheads_ v3.toNatClampNeg ((od_aheads_ v3.toNatClampNeg) &&& ((xshl 1 v2) ^^^ (-1)))) v3.toNatClampNeg (od_aheads_ v3.toNatClampNeg))), (3600, r64.2.2.1), (3700, r64.2.2.2.1), (3800, r64.2.2.2.2.1), (3900, r64.2.2.2.2.2)], lg) rfl hp ?_
              refine E_sts 3 (14, [(0, .ref 32), (1, .int v1), (2, .int v2), (3, .int (v3 + 1))], [], SH0, [(3208, fun _ => r64.2.1), (3215, fun _ => od_freedOne_), (3216, fun _ => od_freedMost_), (3500, (upd (upd od_aheads_ v3.toNatClampNeg ((od_aheads_ v3.toNatClampNeg) &&& ((xshl 1 v2) ^^^ (-1)))) v3.toNatClampNeg (od_aheads_ v3.toNatClampNeg))), (3600, r64.2.2.1), (3700, r64.2.2.2.1), (3800, r64.2.2.2.2.1), (3900, r64.2.2.2.2.2)], lg) rfl ?_
              exact ih v1 v2 (v3 + 1) r64.2.1 od_freedOne_ od_freedMost_ (upd (upd od_aheads_ v3.toNatClampNeg ((od_aheads_ v3.toNatClampNeg) &&& ((xshl 1 v2) ^^^ (-1)))) v3.toNatClampNeg (od_aheads_ v3.toNatClampNeg)) r64.2.2.1 r64.2.2.2.1 r64.2.2.2.2.1 r64.2.2.2.2.2 r h
            · refine E_itf hc ?_
              refine E_sts 1 (82, [(0, .ref 32), (2, .int v2), (3, .int v3), (4, .int (od_aheads_ v3.toNatClampNeg)), (5, .int r64.1)], [], SH0, [(3208, fun _ => r64.2.1), (3215, fun _ => od_freedOne_), (3216, fun _ => od_freedMost_), (3500, (upd od_aheads_ v3.toNatClampNeg ((od_aheads_ v3.toNatClampNeg) &&& ((xshl 1 v2) ^^^ (-1))))), (3600, r64.2.2.1), (3700, r64.2.2.2.1), (3800, r64.2.2.2.2.1), (3900, r64.2.2.2.2.2)], lg) rfl ?_
              exact e_X1_freeOne_L82 X σ lg _ _ (fun v10 v20 od_many_0 od_freedOne_0 od_freedMost_0 od_aheads_0 od_scores_0 od_most_0 od_followers_0 od_mostThen_0 r h => h4 v10 v20 od_many_0 od_freedOne_0 od_freedMost_0 od_aheads_0 od_scores_0 od_most_0 od_followers_0 od_mostThen_0 r h) (fun v10 v20 v30 od_many_0 od_freedOne_0 od_freedMost_0 od_aheads_0 od_scores_0 od_most_0 od_followers_0 od_mostThen_0 r h => ih v10 v20 v30 od_many_0 od_freedOne_0 od_freedMost_0 od_aheads_0 od_scores_0 od_most_0 od_followers_0 od_mostThen_0 r h) v2 v3 (od_aheads_ v3.toNatClampNeg) r64.1 r64.2.1 od_freedOne_ od_freedMost_ (upd od_aheads_ v3.toNatClampNeg ((od_aheads_ v3.toNatClampNeg) &&& ((xshl 1 v2) ^^^ (-1)))) r64.2.2.1 r64.2.2.2.1 r64.2.2.2.2.1 r64.2.2.2.2.2 r h
set_option maxHeartbeats 4000000 in
set_option maxRecDepth 20000 in
theorem e_X1_freeOne_L4 (X : xX) (σ : xM) (lg : Int64) : ∀ (n : Nat), ∀ (v1 : Int32) (v2 : Int32) (od_many_ : Int32) (od_freedOne_ : Int32) (od_freedMost_ : Int32) (od_aheads_ : (Nat → Int32)) (od_scores_ : (Nat → Int32)) (od_most_ : (Nat → Int32)) (od_followers_ : (Nat → Int32)) (od_mostThen_ : (Nat → Int32)) (r : Bool × Int32 × Int32 × Int32 × (Nat → Int32) × (Nat → Int32) × (Nat → Int32) × (Nat → Int32) × (Nat → Int32)), X1_freeOne_L4 (σ 3211 0) (σ 3212 0) (σ 3213 0) (σ 3214 0) (σ 3300) (σ 3400) n v1 v2 od_many_ od_freedOne_ od_freedMost_ od_aheads_ od_scores_ od_most_ od_followers_ od_mostThen_ = some r → E XP X 4 xm_23 σ (4, [(0, .ref 32), (1, .int v1), (2, .int v2)], [], SH0, [(3208, fun _ => od_many_), (3215, fun _ => od_freedOne_), (3216, fun _ => od_freedMost_), (3500, od_aheads_), (3600, od_scores_), (3700, od_most_), (3800, od_followers_), (3900, od_mostThen_)], lg) (some (.int (xb r.1)), SH0, [(3208, fun _ => r.2.1), (3215, fun _ => r.2.2.1), (3216, fun _ => r.2.2.2.1), (3500, r.2.2.2.2.1), (3600, r.2.2.2.2.2.1), (3700, r.2.2.2.2.2.2.1), (3800, r.2.2.2.2.2.2.2.1), (3900, r.2.2.2.2.2.2.2.2)], lg) := by
  intro n
  induction n with
  | zero => intro v1 v2 od_many_ od_freedOne_ od_freedMost_ od_aheads_ od_scores_ od_most_ od_followers_ od_mostThen_ r h; rw [X1_freeOne_L4] at h; cases h
  | succ n ih =>
    intro v1 v2 od_many_ od_freedOne_ od_freedMost_ od_aheads_ od_scores_ od_most_ od_followers_ od_mostThen_ r h
    rw [X1_freeOne_L4] at h
    refine E_sts 4 (if (σ 3211 0) ≤ v2 then 120 else 12, [(0, .ref 32), (1, .int v1), (2, .int v2)], [], SH0, [(3208, fun _ => od_many_), (3215, fun _ => od_freedOne_), (3216, fun _ => od_freedMost_), (3500, od_aheads_), (3600, od_scores_), (3700, od_most_), (3800, od_followers_), (3900, od_mostThen_)], lg) rfl ?_
    rcases x_br h with ⟨hc, h⟩ | ⟨hc, h⟩
    · refine E_itt hc ?_
      obtain ⟨hp, h⟩ := x_ite h
      obtain rfl := Option.some.inj h
      refine E_sts 2 (121, [], [.int v1], SH0, [(3208, fun _ => od_many_), (3215, fun _ => od_freedOne_), (3216, fun _ => od_freedMost_), (3500, od_aheads_), (3600, od_scores_), (3700, od_most_), (3800, od_followers_), (3900, od_mostThen_)], lg) rfl ?_
      exact E_retd rfl hp
    · refine E_itf hc ?_
      refine E_sts 3 (14, [(0, .ref 32), (1, .int v1), (2, .int v2), (3, .int 0)], [], SH0, [(3208, fun _ => od_many_), (3215, fun _ => od_freedOne_), (3216, fun _ => od_freedMost_), (3500, od_aheads_), (3600, od_scores_), (3700, od_most_), (3800, od_followers_), (3900, od_mostThen_)], lg) rfl ?_
      exact e_X1_freeOne_L14 X σ lg _ (fun v10 v20 od_many_0 od_freedOne_0 od_freedMost_0 od_aheads_0 od_scores_0 od_most_0 od_followers_0 od_mostThen_0 r h => ih v10 v20 od_many_0 od_freedOne_0 od_freedMost_0 od_aheads_0 od_scores_0 od_most_0 od_followers_0 od_mostThen_0 r h) _ v1 v2 0 od_many_ od_freedOne_ od_freedMost_ od_aheads_ od_scores_ od_most_ od_followers_ od_mostThen_ r h
set_option maxHeartbeats 4000000 in
set_option maxRecDepth 20000 in
theorem e_X1_freeOne (X : xX) (σ : xM) (lg : Int64) (r : Bool × Int32 × Int32 × Int32 × (Nat → Int32) × (Nat → Int32) × (Nat → Int32) × (Nat → Int32) × (Nat → Int32)) (h : X1_freeOne (σ 3208 0) (σ 3211 0) (σ 3212 0) (σ 3213 0) (σ 3214 0) (σ 3215 0) (σ 3216 0) (σ 3300) (σ 3400) (σ 3500) (σ 3600) (σ 3700) (σ 3800) (σ 3900) = some r) : EM XP X 5 23 [.ref 32] SH0 lg σ (some (.int (xb r.1)), SH0, [(3208, fun _ => r.2.1), (3215, fun _ => r.2.2.1), (3216, fun _ => r.2.2.2.1), (3500, r.2.2.2.2.1), (3600, r.2.2.2.2.2.1), (3700, r.2.2.2.2.2.2.1), (3800, r.2.2.2.2.2.2.2.1), (3900, r.2.2.2.2.2.2.2.2)], lg) := by
  refine EM_of (M := xm_23) rfl rfl ?_
  unfold X1_freeOne at h
  refine E_sts 5 (4, [(0, .ref 32), (1, .int 0), (2, .int 0)], [], SH0, [(3208, fun _ => (σ 3208 0)), (3215, fun _ => (σ 3215 0)), (3216, fun _ => (σ 3216 0)), (3500, (σ 3500)), (3600, (σ 3600)), (3700, (σ 3700)), (3800, (σ 3800)), (3900, (σ 3900))], lg) rfl ?_
  exact e_X1_freeOne_L4 X σ lg _ 0 0 (σ 3208 0) (σ 3215 0) (σ 3216 0) (σ 3500) (σ 3600) (σ 3700) (σ 3800) (σ 3900) r h
set_option maxHeartbeats 4000000 in
set_option maxRecDepth 20000 in
theorem e_X5_freed (X : xX) (σ : xM) (lg : Int64) (r : Int32 × (Nat → Int32) × Int32 × Int32 × Int32 × Int32 × Int32 × Int32 × Int32 × (Nat → Int32) × (Nat → Int32) × (Nat → Int32) × (Nat → Int32) × (Nat → Int32) × (Nat → Int32) × (Nat → Int32)) (h : X5_freed (σ 100) (σ 201 0) (σ 207 0) (σ 208 0) (σ 300) (σ 400) (σ 600) (σ 800) (σ 3208 0) (σ 3215 0) (σ 3216 0) (σ 3300) (σ 3400) (σ 3500) (σ 3600) (σ 3700) (σ 3800) (σ 3900) = some r) : EM XP X 6 89 [.ref 0] SH0 lg σ (some (.int r.1), SH0, [(100, r.2.1), (3208, fun _ => r.2.2.1), (3211, fun _ => r.2.2.2.1), (3212, fun _ => r.2.2.2.2.1), (3213, fun _ => r.2.2.2.2.2.1), (3214, fun _ => r.2.2.2.2.2.2.1), (3215, fun _ => r.2.2.2.2.2.2.2.1), (3216, fun _ => r.2.2.2.2.2.2.2.2.1), (3300, r.2.2.2.2.2.2.2.2.2.1), (3400, r.2.2.2.2.2.2.2.2.2.2.1), (3500, r.2.2.2.2.2.2.2.2.2.2.2.1), (3600, r.2.2.2.2.2.2.2.2.2.2.2.2.1), (3700, r.2.2.2.2.2.2.2.2.2.2.2.2.2.1), (3800, r.2.2.2.2.2.2.2.2.2.2.2.2.2.2.1), (3900, r.2.2.2.2.2.2.2.2.2.2.2.2.2.2.2)], lg) := by
  refine EM_of (M := xm_89) rfl rfl ?_
  unfold X5_freed at h
  refine E_sts 4 (8, [(0, .ref 0)], [.ref 2, .ref 32], SH0, [], lg) rfl ?_
  obtain ⟨r8, hr, h⟩ := x_bind h
  refine E_call rfl (e_X1_startFrom X _ _ r8 hr) (by decide) ?_
  refine E_sts 2 (15, [(0, .ref 0)], [.ref 32], SH0, [(3211, fun _ => r8.1), (3212, fun _ => r8.2.1), (3213, fun _ => r8.2.2.1), (3214, fun _ => r8.2.2.2.1), (3300, r8.2.2.2.2.1), (3400, r8.2.2.2.2.2.1), (3500, r8.2.2.2.2.2.2)], lg) rfl ?_
  obtain ⟨r15, hr, h⟩ := x_bind h
  refine E_call rfl (e_X1_freeOne X _ _ r15 hr) (by decide) ?_
  refine E_sts 1 (if (xb r15.1) = 0 then 31 else 21, [(0, .ref 0)], [], SH0, [(3208, fun _ => r15.2.1), (3211, fun _ => r8.1), (3212, fun _ => r8.2.1), (3213, fun _ => r8.2.2.1), (3214, fun _ => r8.2.2.2.1), (3215, fun _ => r15.2.2.1), (3216, fun _ => r15.2.2.2.1), (3300, r8.2.2.2.2.1), (3400, r8.2.2.2.2.2.1), (3500, r15.2.2.2.2.1), (3600, r15.2.2.2.2.2.1), (3700, r15.2.2.2.2.2.2.1), (3800, r15.2.2.2.2.2.2.2.1), (3900, r15.2.2.2.2.2.2.2.2)], lg) rfl ?_
  rcases x_br h with ⟨hc, h⟩ | ⟨hc, h⟩
  · refine E_itt hc ?_
    refine E_sts 2 (33, [(0, .ref 0)], [.int 3, .ref 0], SH0, [(3208, fun _ => r15.2.1), (3211, fun _ => r8.1), (3212, fun _ => r8.2.1), (3213, fun _ => r8.2.2.1), (3214, fun _ => r8.2.2.2.1), (3215, fun _ => r15.2.2.1), (3216, fun _ => r15.2.2.2.1), (3300, r8.2.2.2.2.1), (3400, r8.2.2.2.2.2.1), (3500, r15.2.2.2.2.1), (3600, r15.2.2.2.2.2.1), (3700, r15.2.2.2.2.2.2.1), (3800, r15.2.2.2.2.2.2.2.1), (3900, r15.2.2.2.2.2.2.2.2)], lg) rfl ?_
    obtain ⟨r33, hr, h⟩ := x_bind h
    refine E_call rfl (e_X5_finding X _ _ _ r33 hr) (by decide) ?_
    obtain rfl := Option.some.inj h
    refine E_sts 1 (36, [], [.int r33.1], SH0, [(100, r33.2), (3208, fun _ => r15.2.1), (3211, fun _ => r8.1), (3212, fun _ => r8.2.1), (3213, fun _ => r8.2.2.1), (3214, fun _ => r8.2.2.2.1), (3215, fun _ => r15.2.2.1), (3216, fun _ => r15.2.2.2.1), (3300, r8.2.2.2.2.1), (3400, r8.2.2.2.2.2.1), (3500, r15.2.2.2.2.1), (3600, r15.2.2.2.2.2.1), (3700, r15.2.2.2.2.2.2.1), (3800, r15.2.2.2.2.2.2.2.1), (3900, r15.2.2.2.2.2.2.2.2)], lg) rfl ?_
    exact E_ret rfl
  · refine E_itf hc ?_
    obtain rfl := Option.some.inj h
    refine E_sts 5 (36, [], [.int r15.2.2.1], SH0, [(100, (σ 100)), (3208, fun _ => r15.2.1), (3211, fun _ => r8.1), (3212, fun _ => r8.2.1), (3213, fun _ => r8.2.2.1), (3214, fun _ => r8.2.2.2.1), (3215, fun _ => r15.2.2.1), (3216, fun _ => r15.2.2.2.1), (3300, r8.2.2.2.2.1), (3400, r8.2.2.2.2.2.1), (3500, r15.2.2.2.2.1), (3600, r15.2.2.2.2.2.1), (3700, r15.2.2.2.2.2.2.1), (3800, r15.2.2.2.2.2.2.2.1), (3900, r15.2.2.2.2.2.2.2.2)], lg) rfl ?_
    exact E_ret rfl
set_option maxHeartbeats 4000000 in
set_option maxRecDepth 20000 in
theorem e_X6_findsFreed_L10 (X : xX) (σ : xM) (lg : Int64) : ∀ (n : Nat), ∀ (v1 : Int32) (v2 : Int32) (m_freedBy_ : Int32) (m_s_ : (Nat → Int32)) (m_behind_ : (Nat → Int32)) (r : Int32 × Int32 × (Nat → Int32) × (Nat → Int32)), X6_findsFreed_L10 n v1 v2 m_freedBy_ m_s_ m_behind_ = some r → E XP X 5 xm_172 σ (10, [(0, .ref 52), (1, .int v1), (2, .int v2)], [], SH0, [(5211, fun _ => m_freedBy_), (5300, m_s_), (5700, m_behind_)], lg) (some (.int r.1), SH0, [(5211, fun _ => r.2.1), (5300, r.2.2.1), (5700, r.2.2.2)], lg) := by
  intro n
  induction n with
  | zero => intro v1 v2 m_freedBy_ m_s_ m_behind_ r h; rw [X6_findsFreed_L10] at h; cases h
  | succ n ih =>
    intro v1 v2 m_freedBy_ m_s_ m_behind_ r h
    rw [X6_findsFreed_L10] at h
    refine E_sts 5 (18, [(0, .ref 52), (1, .int v1), (2, .int v2)], [.int 3, .ref 53, .int 10, .int v2], SH0, [(5211, fun _ => m_freedBy_), (5300, m_s_), (5700, m_behind_)], lg) rfl ?_
    refine E_par (p := inr 3 83) (19, [(0, .ref 52), (1, .int v1), (2, .int v2)], [.int (m_s_ 3), .int 10, .int v2], SH0, [(5211, fun _ => m_freedBy_), (5300, m_s_), (5700, m_behind_)], lg) rfl (by decide) ?_
    refine E_sts 2 (if (10 * (m_s_ 3)) ≤ v2 then 131 else 23, [(0, .ref 52), (1, .int v1), (2, .int v2)], [], SH0, [(5211, fun _ => m_freedBy_), (5300, m_s_), (5700, m_behind_)], lg) rfl ?_
    rcases x_br h with ⟨hc, h⟩ | ⟨hc, h⟩
    · refine E_itt hc ?_
      obtain rfl := Option.some.inj h
      refine E_sts 2 (132, [], [.int v1], SH0, [(5211, fun _ => m_freedBy_), (5300, m_s_), (5700, m_behind_)], lg) rfl ?_
      exact E_ret rfl
    · refine E_itf hc ?_
      refine E_sts 2 (26, [(0, .ref 52), (1, .int v1), (2, .int v2)], [.int 10, .int v2], SH0, [(5211, fun _ => m_freedBy_), (5300, m_s_), (5700, m_behind_)], lg) rfl ?_
      refine E_parn (p := 10 = 0) (27, [(0, .ref 52), (1, .int v1), (2, .int v2)], [.int (v2 / 10)], SH0, [(5211, fun _ => m_freedBy_), (5300, m_s_), (5700, m_behind_)], lg) rfl (by decide) ?_
      refine E_sts 3 (31, [(0, .ref 52), (1, .int v1), (2, .int v2), (3, .int (v2 / 10))], [.int 10, .int v2], SH0, [(5211, fun _ => m_freedBy_), (5300, m_s_), (5700, m_behind_)], lg) rfl ?_
      refine E_parn (p := 10 = 0) (32, [(0, .ref 52), (1, .int v1), (2, .int v2), (3, .int (v2 / 10))], [.int (xirem v2 10)], SH0, [(5211, fun _ => m_freedBy_), (5300, m_s_), (5700, m_behind_)], lg) rfl (by decide) ?_
      refine E_sts 3 (37, [(0, .ref 52), (1, .int v1), (2, .int v2), (3, .int (v2 / 10)), (4, .int (xirem v2 10))], [.int (xirem v2 10), .ref 52], SH0, [(5211, fun _ => m_freedBy_), (5300, m_s_), (5700, m_behind_)], lg) rfl ?_
      obtain ⟨r37, hr, h⟩ := x_bind h
      refine E_call rfl (e_X6_isBow X _ _ _ r37 hr) (by decide) ?_
      refine E_sts 1 (if (xb r37) = 0 then 125 else 43, [(0, .ref 52), (1, .int v1), (2, .int v2), (3, .int (v2 / 10)), (4, .int (xirem v2 10))], [], SH0, [(5211, fun _ => m_freedBy_), (5300, m_s_), (5700, m_behind_)], lg) rfl ?_
      rcases x_br h with ⟨hc, h⟩ | ⟨hc, h⟩
      · refine E_itt hc ?_
        refine E_sts 3 (10, [(0, .ref 52), (1, .int v1), (2, .int (v2 + 1))], [], SH0, [(5211, fun _ => m_freedBy_), (5300, m_s_), (5700, m_behind_)], lg) rfl ?_
        exact ih v1 (v2 + 1) m_freedBy_ m_s_ m_behind_ r h
      · refine E_itf hc ?_
        refine E_sts 3 (47, [(0, .ref 52), (1, .int v1), (2, .int v2), (3, .int (v2 / 10)), (4, .int (xirem v2 10))], [.int 3, .int (xirem v2 10), .ref 52], SH0, [(5211, fun _ => m_freedBy_), (5300, m_s_), (5700, m_behind_)], lg) rfl ?_
        obtain ⟨r47, hr, h⟩ := x_bind h
        refine E_call rfl (e_X6_get X _ _ _ _ r47 hr) (by decide) ?_
        refine E_sts 1 (51, [(0, .ref 52), (1, .int v1), (2, .int v2), (3, .int (v2 / 10)), (4, .int (xirem v2 10))], [.int (v2 / 10), .int r47], SH0, [(5211, fun _ => m_freedBy_), (5300, m_s_), (5700, m_behind_)], lg) rfl ?_
        refine E_call rfl (e_X6_isIn X _ _ _ _ (X6_isIn r47 (v2 / 10)) rfl) (by decide) ?_
        refine E_sts 1 (if (xb (X6_isIn r47 (v2 / 10))) = 0 then 125 else 57, [(0, .ref 52), (1, .int v1), (2, .int v2), (3, .int (v2 / 10)), (4, .int (xirem v2 10))], [], SH0, [(5211, fun _ => m_freedBy_), (5300, m_s_), (5700, m_behind_)], lg) rfl ?_
        rcases x_br h with ⟨hc, h⟩ | ⟨hc, h⟩
        · refine E_itt hc ?_
          refine E_sts 3 (10, [(0, .ref 52), (1, .int v1), (2, .int (v2 + 1))], [], SH0, [(5211, fun _ => m_freedBy_), (5300, m_s_), (5700, m_behind_)], lg) rfl ?_
          exact ih v1 (v2 + 1) m_freedBy_ m_s_ m_behind_ r h
        · refine E_itf hc ?_
          refine E_sts 3 (61, [(0, .ref 52), (1, .int v1), (2, .int v2), (3, .int (v2 / 10)), (4, .int (xirem v2 10))], [.int 3, .int (xirem v2 10), .ref 52], SH0, [(5211, fun _ => m_freedBy_), (5300, m_s_), (5700, m_behind_)], lg) rfl ?_
          obtain ⟨r61, hr, h⟩ := x_bind h
          refine E_call rfl (e_X6_get X _ _ _ _ r61 hr) (by decide) ?_
          refine E_sts 11 (78, [(0, .ref 52), (1, .int v1), (2, .int v2), (3, .int (v2 / 10)), (4, .int (xirem v2 10)), (5, .int r61)], [.int (r61 &&& ((xshl 1 (v2 / 10)) ^^^ (-1))), .int 3, .int (xirem v2 10), .ref 52], SH0, [(5211, fun _ => m_freedBy_), (5300, m_s_), (5700, m_behind_)], lg) rfl ?_
          obtain ⟨r78, hr, h⟩ := x_bind h
          refine E_call rfl (e_X6_puts X _ _ _ _ _ r78 hr) (by decide) ?_
          refine E_sts 2 (83, [(0, .ref 52), (1, .int v1), (2, .int v2), (3, .int (v2 / 10)), (4, .int (xirem v2 10)), (5, .int r61)], [.int 0, .ref 52], SH0, [(5211, fun _ => m_freedBy_), (5300, r78), (5700, m_behind_)], lg) rfl ?_
          obtain ⟨r83, hr, h⟩ := x_bind h
          refine E_call rfl (e_X6_findsBest X _ _ _ r83 hr) (by decide) ?_
          refine E_sts 5 (94, [(0, .ref 52), (1, .int v1), (2, .int v2), (3, .int (v2 / 10)), (4, .int (xirem v2 10)), (5, .int r61), (6, .int r83.1)], [.int r61, .int 3, .int (xirem v2 10), .ref 52], SH0, [(5211, fun _ => m_freedBy_), (5300, r78), (5700, r83.2)], lg) rfl ?_
          obtain ⟨r94, hr, h⟩ := x_bind h
          refine E_call rfl (e_X6_puts X _ _ _ _ _ r94 hr) (by decide) ?_
          refine E_sts 4 (if r83.1 ≤ m_freedBy_ then 110 else 106, [(0, .ref 52), (1, .int v1), (2, .int v2), (3, .int (v2 / 10)), (4, .int (xirem v2 10)), (5, .int r61), (6, .int r83.1)], [], SH0, [(5211, fun _ => m_freedBy_), (5300, r94), (5700, r83.2)], lg) rfl ?_
          rcases x_br h with ⟨hc, h⟩ | ⟨hc, h⟩
          · refine E_itt hc ?_
            refine E_sts 6 (119, [(0, .ref 52), (1, .int v1), (2, .int v2), (3, .int (v2 / 10)), (4, .int (xirem v2 10)), (5, .int r61), (6, .int r83.1)], [.int r83.1, .int m_freedBy_, .ref 52], SH0, [(5211, fun _ => m_freedBy_), (5300, r94), (5700, r83.2)], lg) rfl ?_
            refine E_call rfl (e_X6_most X _ _ _ _ (X6_most m_freedBy_ r83.1) rfl) (by decide) ?_
            refine E_sts 4 (10, [(0, .ref 52), (1, .int v1), (2, .int (v2 + 1))], [], SH0, [(5211, fun _ => (X6_most m_freedBy_ r83.1)), (5300, r94), (5700, r83.2)], lg) rfl ?_
            exact ih v1 (v2 + 1) (X6_most m_freedBy_ r83.1) r94 r83.2 r h
          · refine E_itf hc ?_
            refine E_sts 7 (119, [(0, .ref 52), (1, .int v2), (2, .int v2), (3, .int (v2 / 10)), (4, .int (xirem v2 10)), (5, .int r61), (6, .int r83.1)], [.int r83.1, .int m_freedBy_, .ref 52], SH0, [(5211, fun _ => m_freedBy_), (5300, r94), (5700, r83.2)], lg) rfl ?_
            refine E_call rfl (e_X6_most X _ _ _ _ (X6_most m_freedBy_ r83.1) rfl) (by decide) ?_
            refine E_sts 4 (10, [(0, .ref 52), (1, .int v2), (2, .int (v2 + 1))], [], SH0, [(5211, fun _ => (X6_most m_freedBy_ r83.1)), (5300, r94), (5700, r83.2)], lg) rfl ?_
            exact ih v2 (v2 + 1) (X6_most m_freedBy_ r83.1) r94 r83.2 r h
set_option maxHeartbeats 4000000 in
set_option maxRecDepth 20000 in
theorem e_X6_findsFreed (X : xX) (σ : xM) (lg : Int64) (r : Int32 × Int32 × (Nat → Int32) × (Nat → Int32)) (h : X6_findsFreed (σ 5300) (σ 5700) = some r) : EM XP X 6 172 [.ref 52] SH0 lg σ (some (.int r.1), SH0, [(5211, fun _ => r.2.1), (5300, r.2.2.1), (5700, r.2.2.2)], lg) := by
  refine EM_of (M := xm_172) rfl rfl ?_
  unfold X6_findsFreed at h
  refine E_sts 8 (10, [(0, .ref 52), (1, .int (-1)), (2, .int 0)], [], SH0, [(5211, fun _ => (-99999999)), (5300, (σ 5300)), (5700, (σ 5700))], lg) rfl ?_
  exact e_X6_findsFreed_L10 X σ lg _ (-1) 0 (-99999999) (σ 5300) (σ 5700) r h
set_option maxHeartbeats 4000000 in
set_option maxRecDepth 20000 in
theorem e_X6_freed (X : xX) (σ : xM) (lg : Int64) (r : Int32 × Int32 × (Nat → Int32) × (Nat → Int32) × (Nat → Int32)) (h : X6_freed (σ 5300) (σ 5600) (σ 5700) = some r) : EM XP X 7 173 [.ref 52] SH0 lg σ (some (.int r.1), SH0, [(5211, fun _ => r.2.1), (5300, r.2.2.1), (5600, r.2.2.2.1), (5700, r.2.2.2.2)], lg) := by
  refine EM_of (M := xm_173) rfl rfl ?_
  unfold X6_freed at h
  refine E_sts 1 (1, [(0, .ref 52)], [.ref 52], SH0, [], lg) rfl ?_
  obtain ⟨r1, hr, h⟩ := x_bind h
  refine E_call rfl (e_X6_findsFreed X _ _ r1 hr) (by decide) ?_
  refine E_sts 3 (if 0 ≤ r1.1 then 17 else 9, [(0, .ref 52), (1, .int r1.1)], [], SH0, [(5211, fun _ => r1.2.1), (5300, r1.2.2.1), (5700, r1.2.2.2)], lg) rfl ?_
  rcases x_br h with ⟨hc, h⟩ | ⟨hc, h⟩
  · refine E_itt hc ?_
    obtain rfl := Option.some.inj h
    refine E_sts 2 (18, [], [.int r1.1], SH0, [(5211, fun _ => r1.2.1), (5300, r1.2.2.1), (5600, (σ 5600)), (5700, r1.2.2.2)], lg) rfl ?_
    exact E_ret rfl
  · refine E_itf hc ?_
    refine E_sts 2 (11, [(0, .ref 52), (1, .int r1.1)], [.int 3, .ref 52], SH0, [(5211, fun _ => r1.2.1), (5300, r1.2.2.1), (5700, r1.2.2.2)], lg) rfl ?_
    obtain ⟨r11, hr, h⟩ := x_bind h
    refine E_call rfl (e_X6_no X _ _ _ r11 hr) (by decide) ?_
    obtain rfl := Option.some.inj h
    refine E_sts 2 (18, [], [.int r11.1], SH0, [(5211, fun _ => r1.2.1), (5300, r1.2.2.1), (5600, r11.2), (5700, r1.2.2.2)], lg) rfl ?_
    exact E_ret rfl
set_option maxHeartbeats 4000000 in
set_option maxRecDepth 20000 in
theorem e_X5_free (X : xX) (σ : xM) (lg : Int64) (r : Int32 × (Nat → Int32) × Int32 × Int32 × Int32 × Int32 × Int32 × Int32 × Int32 × (Nat → Int32) × (Nat → Int32) × (Nat → Int32) × (Nat → Int32) × (Nat → Int32) × (Nat → Int32) × (Nat → Int32)) (h : X5_free (σ 100) (σ 201 0) (σ 207 0) (σ 208 0) (σ 300) (σ 400) (σ 600) (σ 800) (σ 3208 0) (σ 3215 0) (σ 3216 0) (σ 3300) (σ 3400) (σ 3500) (σ 3600) (σ 3700) (σ 3800) (σ 3900) = some r) : EM XP X 6 90 [.ref 0] SH0 lg σ (some (.int r.1), SH0, [(100, r.2.1), (3208, fun _ => r.2.2.1), (3211, fun _ => r.2.2.2.1), (3212, fun _ => r.2.2.2.2.1), (3213, fun _ => r.2.2.2.2.2.1), (3214, fun _ => r.2.2.2.2.2.2.1), (3215, fun _ => r.2.2.2.2.2.2.2.1), (3216, fun _ => r.2.2.2.2.2.2.2.2.1), (3300, r.2.2.2.2.2.2.2.2.2.1), (3400, r.2.2.2.2.2.2.2.2.2.2.1), (3500, r.2.2.2.2.2.2.2.2.2.2.2.1), (3600, r.2.2.2.2.2.2.2.2.2.2.2.2.1), (3700, r.2.2.2.2.2.2.2.2.2.2.2.2.2.1), (3800, r.2.2.2.2.2.2.2.2.2.2.2.2.2.2.1), (3900, r.2.2.2.2.2.2.2.2.2.2.2.2.2.2.2)], lg) := by
  refine EM_of (M := xm_90) rfl rfl ?_
  unfold X5_free at h
  refine E_sts 4 (8, [(0, .ref 0)], [.ref 2, .ref 32], SH0, [], lg) rfl ?_
  obtain ⟨r8, hr, h⟩ := x_bind h
  refine E_call rfl (e_X1_startFrom X _ _ r8 hr) (by decide) ?_
  refine E_sts 2 (15, [(0, .ref 0)], [.ref 32], SH0, [(3211, fun _ => r8.1), (3212, fun _ => r8.2.1), (3213, fun _ => r8.2.2.1), (3214, fun _ => r8.2.2.2.1), (3300, r8.2.2.2.2.1), (3400, r8.2.2.2.2.2.1), (3500, r8.2.2.2.2.2.2)], lg) rfl ?_
  obtain ⟨r15, hr, h⟩ := x_bind h
  refine E_call rfl (e_X1_freeOne X _ _ r15 hr) (by decide) ?_
  refine E_sts 1 (if (xb r15.1) = 0 then 31 else 21, [(0, .ref 0)], [], SH0, [(3208, fun _ => r15.2.1), (3211, fun _ => r8.1), (3212, fun _ => r8.2.1), (3213, fun _ => r8.2.2.1), (3214, fun _ => r8.2.2.2.1), (3215, fun _ => r15.2.2.1), (3216, fun _ => r15.2.2.2.1), (3300, r8.2.2.2.2.1), (3400, r8.2.2.2.2.2.1), (3500, r15.2.2.2.2.1), (3600, r15.2.2.2.2.2.1), (3700, r15.2.2.2.2.2.2.1), (3800, r15.2.2.2.2.2.2.2.1), (3900, r15.2.2.2.2.2.2.2.2)], lg) rfl ?_
  rcases x_br h with ⟨hc, h⟩ | ⟨hc, h⟩
  · refine E_itt hc ?_
    refine E_sts 2 (33, [(0, .ref 0)], [.int 3, .ref 0], SH0, [(3208, fun _ => r15.2.1), (3211, fun _ => r8.1), (3212, fun _ => r8.2.1), (3213, fun _ => r8.2.2.1), (3214, fun _ => r8.2.2.2.1), (3215, fun _ => r15.2.2.1), (3216, fun _ => r15.2.2.2.1), (3300, r8.2.2.2.2.1), (3400, r8.2.2.2.2.2.1), (3500, r15.2.2.2.2.1), (3600, r15.2.2.2.2.2.1), (3700, r15.2.2.2.2.2.2.1), (3800, r15.2.2.2.2.2.2.2.1), (3900, r15.2.2.2.2.2.2.2.2)], lg) rfl ?_
    obtain ⟨r33, hr, h⟩ := x_bind h
    refine E_call rfl (e_X5_finding X _ _ _ r33 hr) (by decide) ?_
    obtain rfl := Option.some.inj h
    refine E_sts 1 (36, [], [.int r33.1], SH0, [(100, r33.2), (3208, fun _ => r15.2.1), (3211, fun _ => r8.1), (3212, fun _ => r8.2.1), (3213, fun _ => r8.2.2.1), (3214, fun _ => r8.2.2.2.1), (3215, fun _ => r15.2.2.1), (3216, fun _ => r15.2.2.2.1), (3300, r8.2.2.2.2.1), (3400, r8.2.2.2.2.2.1), (3500, r15.2.2.2.2.1), (3600, r15.2.2.2.2.2.1), (3700, r15.2.2.2.2.2.2.1), (3800, r15.2.2.2.2.2.2.2.1), (3900, r15.2.2.2.2.2.2.2.2)], lg) rfl ?_
    exact E_ret rfl
  · refine E_itf hc ?_
    obtain rfl := Option.some.inj h
    refine E_sts 5 (36, [], [.int r15.2.2.2.1], SH0, [(100, (σ 100)), (3208, fun _ => r15.2.1), (3211, fun _ => r8.1), (3212, fun _ => r8.2.1), (3213, fun _ => r8.2.2.1), (3214, fun _ => r8.2.2.2.1), (3215, fun _ => r15.2.2.1), (3216, fun _ => r15.2.2.2.1), (3300, r8.2.2.2.2.1), (3400, r8.2.2.2.2.2.1), (3500, r15.2.2.2.2.1), (3600, r15.2.2.2.2.2.1), (3700, r15.2.2.2.2.2.2.1), (3800, r15.2.2.2.2.2.2.2.1), (3900, r15.2.2.2.2.2.2.2.2)], lg) rfl ?_
    exact E_ret rfl
set_option maxHeartbeats 4000000 in
set_option maxRecDepth 20000 in
theorem e_X6_free (X : xX) (σ : xM) (lg : Int64) (r : Int32 × Int32 × (Nat → Int32) × (Nat → Int32) × (Nat → Int32)) (h : X6_free (σ 5300) (σ 5600) (σ 5700) = some r) : EM XP X 7 174 [.ref 52] SH0 lg σ (some (.int r.1), SH0, [(5211, fun _ => r.2.1), (5300, r.2.2.1), (5600, r.2.2.2.1), (5700, r.2.2.2.2)], lg) := by
  refine EM_of (M := xm_174) rfl rfl ?_
  unfold X6_free at h
  refine E_sts 1 (1, [(0, .ref 52)], [.ref 52], SH0, [], lg) rfl ?_
  obtain ⟨r1, hr, h⟩ := x_bind h
  refine E_call rfl (e_X6_findsFreed X _ _ r1 hr) (by decide) ?_
  refine E_sts 3 (if 0 ≤ r1.1 then 17 else 9, [(0, .ref 52), (1, .int r1.1)], [], SH0, [(5211, fun _ => r1.2.1), (5300, r1.2.2.1), (5700, r1.2.2.2)], lg) rfl ?_
  rcases x_br h with ⟨hc, h⟩ | ⟨hc, h⟩
  · refine E_itt hc ?_
    obtain rfl := Option.some.inj h
    refine E_sts 3 (21, [], [.int r1.2.1], SH0, [(5211, fun _ => r1.2.1), (5300, r1.2.2.1), (5600, (σ 5600)), (5700, r1.2.2.2)], lg) rfl ?_
    exact E_ret rfl
  · refine E_itf hc ?_
    refine E_sts 2 (11, [(0, .ref 52), (1, .int r1.1)], [.int 3, .ref 52], SH0, [(5211, fun _ => r1.2.1), (5300, r1.2.2.1), (5700, r1.2.2.2)], lg) rfl ?_
    obtain ⟨r11, hr, h⟩ := x_bind h
    refine E_call rfl (e_X6_no X _ _ _ r11 hr) (by decide) ?_
    obtain rfl := Option.some.inj h
    refine E_sts 2 (21, [], [.int r11.1], SH0, [(5211, fun _ => r1.2.1), (5300, r1.2.2.1), (5600, r11.2), (5700, r1.2.2.2)], lg) rfl ?_
    exact E_ret rfl
set_option maxHeartbeats 4000000 in
set_option maxRecDepth 20000 in
theorem e_X5_train_L47 (X : xX) (σ : xM) (lg : Int64) : ∀ (n : Nat), ∀ (v1 : Int32) (v2 : Int32) (v3 : Int32) (od_many_ : Int32) (od_bows_ : Int32) (od_came_ : Int32) (od_latest_ : Int32) (od_full_ : Int32) (od_kinds_ : (Nat → Int32)) (od_loves_ : (Nat → Int32)) (od_aheads_ : (Nat → Int32)) (od_scores_ : (Nat → Int32)) (od_most_ : (Nat → Int32)) (od_followers_ : (Nat → Int32)) (od_mostThen_ : (Nat → Int32)) (od_first_ : (Nat → Int32)) (r : Int32 × (Nat → Int32) × Int32 × Int32 × Int32 × Int32 × Int32 × (Nat → Int32) × (Nat → Int32) × (Nat → Int32) × (Nat → Int32) × (Nat → Int32) × (Nat → Int32) × (Nat → Int32) × (Nat → Int32)), X5_train_L47 (σ 100) (σ 300) (σ 500) (σ 700) n v1 v2 v3 od_many_ od_bows_ od_came_ od_latest_ od_full_ od_kinds_ od_loves_ od_aheads_ od_scores_ od_most_ od_followers_ od_mostThen_ od_first_ = some r → E XP X 5 xm_91 σ (47, [(0, .ref 0), (1, .int v1), (2, .int v2), (3, .int v3)], [], SH0, [(3208, fun _ => od_many_), (3211, fun _ => od_bows_), (3212, fun _ => od_came_), (3213, fun _ => od_latest_), (3214, fun _ => od_full_), (3300, od_kinds_), (3400, od_loves_), (3500, od_aheads_), (3600, od_scores_), (3700, od_most_), (3800, od_followers_), (3900, od_mostThen_), (4100, od_first_)], lg) (some (.int r.1), SH0, [(100, r.2.1), (3208, fun _ => r.2.2.1), (3211, fun _ => r.2.2.2.1), (3212, fun _ => r.2.2.2.2.1), (3213, fun _ => r.2.2.2.2.2.1), (3214, fun _ => r.2.2.2.2.2.2.1), (3300, r.2.2.2.2.2.2.2.1), (3400, r.2.2.2.2.2.2.2.2.1), (3500, r.2.2.2.2.2.2.2.2.2.1), (3600, r.2.2.2.2.2.2.2.2.2.2.1), (3700, r.2.2.2.2.2.2.2.2.2.2.2.1), (3800, r.2.2.2.2.2.2.2.2.2.2.2.2.1), (3900, r.2.2.2.2.2.2.2.2.2.2.2.2.2.1), (4100, r.2.2.2.2.2.2.2.2.2.2.2.2.2.2)], lg) := by
  intro n
  induction n with
  | zero => intro v1 v2 v3 od_many_ od_bows_ od_came_ od_latest_ od_full_ od_kinds_ od_loves_ od_aheads_ od_scores_ od_most_ od_followers_ od_mostThen_ od_first_ r h; rw [X5_train_L47] at h; cases h
  | succ n ih =>
    intro v1 v2 v3 od_many_ od_bows_ od_came_ od_latest_ od_full_ od_kinds_ od_loves_ od_aheads_ od_scores_ od_most_ od_followers_ od_mostThen_ od_first_ r h
    rw [X5_train_L47] at h
    refine E_sts 3 (52, [(0, .ref 0), (1, .int v1), (2, .int v2), (3, .int v3)], [.ref 32, .int v3], SH0, [(3208, fun _ => od_many_), (3211, fun _ => od_bows_), (3212, fun _ => od_came_), (3213, fun _ => od_latest_), (3214, fun _ => od_full_), (3300, od_kinds_), (3400, od_loves_), (3500, od_aheads_), (3600, od_scores_), (3700, od_most_), (3800, od_followers_), (3900, od_mostThen_), (4100, od_first_)], lg) rfl ?_
    refine E_call rfl (e_X1_rest X _ _ (X1_rest od_came_ od_full_) rfl) (by decide) ?_
    refine E_sts 1 (if (X1_rest od_came_ od_full_) ≤ v3 then 99 else 58, [(0, .ref 0), (1, .int v1), (2, .int v2), (3, .int v3)], [], SH0, [(3208, fun _ => od_many_), (3211, fun _ => od_bows_), (3212, fun _ => od_came_), (3213, fun _ => od_latest_), (3214, fun _ => od_full_), (3300, od_kinds_), (3400, od_loves_), (3500, od_aheads_), (3600, od_scores_), (3700, od_most_), (3800, od_followers_), (3900, od_mostThen_), (4100, od_first_)], lg) rfl ?_
    rcases x_br h with ⟨hc, h⟩ | ⟨hc, h⟩
    · refine E_itt hc ?_
      obtain rfl := Option.some.inj h
      refine E_sts 2 (100, [], [.int v2], SH0, [(100, (σ 100)), (3208, fun _ => od_many_), (3211, fun _ => od_bows_), (3212, fun _ => od_came_), (3213, fun _ => od_latest_), (3214, fun _ => od_full_), (3300, od_kinds_), (3400, od_loves_), (3500, od_aheads_), (3600, od_scores_), (3700, od_most_), (3800, od_followers_), (3900, od_mostThen_), (4100, od_first_)], lg) rfl ?_
      exact E_ret rfl
    · refine E_itf hc ?_
      refine E_sts 7 (71, [(0, .ref 0), (1, .int v1), (2, .int v2), (3, .int v3)], [.int v3, .ref 41, .ref 2, .int v1], SH0, [(3208, fun _ => od_many_), (3211, fun _ => od_bows_), (3212, fun _ => od_came_), (3213, fun _ => od_latest_), (3214, fun _ => od_full_), (3300, od_kinds_), (3400, od_loves_), (3500, od_aheads_), (3600, od_scores_), (3700, od_most_), (3800, od_followers_), (3900, od_mostThen_), (4100, od_first_)], lg) rfl ?_
      obtain ⟨hp, h⟩ := x_ite h
      refine E_par (p := inr v3 9) (72, [(0, .ref 0), (1, .int v1), (2, .int v2), (3, .int v3)], [.int (od_first_ v3.toNatClampNeg), .ref 2, .int v1], SH0, [(3208, fun _ => od_many_), (3211, fun _ => od_bows_), (3212, fun _ => od_came_), (3213, fun _ => od_latest_), (3214, fun _ => od_full_), (3300, od_kinds_), (3400, od_loves_), (3500, od_aheads_), (3600, od_scores_), (3700, od_most_), (3800, od_followers_), (3900, od_mostThen_), (4100, od_first_)], lg) rfl hp ?_
      obtain ⟨r72, hr, h⟩ := x_bind h
      refine E_call rfl (e_X2_lastedBy X _ _ _ r72 hr) (by decide) ?_
      refine E_sts 7 (86, [(0, .ref 0), (1, .int (v1 + r72)), (2, .int v2), (3, .int v3)], [.int 4, .ref 7, .int (v1 + r72)], SH0, [(3208, fun _ => od_many_), (3211, fun _ => od_bows_), (3212, fun _ => od_came_), (3213, fun _ => od_latest_), (3214, fun _ => od_full_), (3300, od_kinds_), (3400, od_loves_), (3500, od_aheads_), (3600, od_scores_), (3700, od_most_), (3800, od_followers_), (3900, od_mostThen_), (4100, od_first_)], lg) rfl ?_
      refine E_par (p := inr 4 5) (87, [(0, .ref 0), (1, .int (v1 + r72)), (2, .int v2), (3, .int v3)], [.int ((σ 700) 4), .int (v1 + r72)], SH0, [(3208, fun _ => od_many_), (3211, fun _ => od_bows_), (3212, fun _ => od_came_), (3213, fun _ => od_latest_), (3214, fun _ => od_full_), (3300, od_kinds_), (3400, od_loves_), (3500, od_aheads_), (3600, od_scores_), (3700, od_most_), (3800, od_followers_), (3900, od_mostThen_), (4100, od_first_)], lg) rfl (by decide) ?_
      refine E_sts 1 (if ((σ 700) 4) < (v1 + r72) then 93 else 90, [(0, .ref 0), (1, .int (v1 + r72)), (2, .int v2), (3, .int v3)], [], SH0, [(3208, fun _ => od_many_), (3211, fun _ => od_bows_), (3212, fun _ => od_came_), (3213, fun _ => od_latest_), (3214, fun _ => od_full_), (3300, od_kinds_), (3400, od_loves_), (3500, od_aheads_), (3600, od_scores_), (3700, od_most_), (3800, od_followers_), (3900, od_mostThen_), (4100, od_first_)], lg) rfl ?_
      rcases x_br h with ⟨hc, h⟩ | ⟨hc, h⟩
      · refine E_itt hc ?_
        refine E_sts 3 (47, [(0, .ref 0), (1, .int (v1 + r72)), (2, .int v2), (3, .int (v3 + 1))], [], SH0, [(3208, fun _ => od_many_), (3211, fun _ => od_bows_), (3212, fun _ => od_came_), (3213, fun _ => od_latest_), (3214, fun _ => od_full_), (3300, od_kinds_), (3400, od_loves_), (3500, od_aheads_), (3600, od_scores_), (3700, od_most_), (3800, od_followers_), (3900, od_mostThen_), (4100, od_first_)], lg) rfl ?_
        exact ih (v1 + r72) v2 (v3 + 1) od_many_ od_bows_ od_came_ od_latest_ od_full_ od_kinds_ od_loves_ od_aheads_ od_scores_ od_most_ od_followers_ od_mostThen_ od_first_ r h
      · refine E_itf hc ?_
        refine E_sts 4 (47, [(0, .ref 0), (1, .int (v1 + r72)), (2, .int (v2 + 1)), (3, .int (v3 + 1))], [], SH0, [(3208, fun _ => od_many_), (3211, fun _ => od_bows_), (3212, fun _ => od_came_), (3213, fun _ => od_latest_), (3214, fun _ => od_full_), (3300, od_kinds_), (3400, od_loves_), (3500, od_aheads_), (3600, od_scores_), (3700, od_most_), (3800, od_followers_), (3900, od_mostThen_), (4100, od_first_)], lg) rfl ?_
        exact ih (v1 + r72) (v2 + 1) (v3 + 1) od_many_ od_bows_ od_came_ od_latest_ od_full_ od_kinds_ od_loves_ od_aheads_ od_scores_ od_most_ od_followers_ od_mostThen_ od_first_ r h
set_option maxHeartbeats 4000000 in
set_option maxRecDepth 20000 in
theorem e_X5_train (X : xX) (σ : xM) (lg : Int64) (r : Int32 × (Nat → Int32) × Int32 × Int32 × Int32 × Int32 × Int32 × (Nat → Int32) × (Nat → Int32) × (Nat → Int32) × (Nat → Int32) × (Nat → Int32) × (Nat → Int32) × (Nat → Int32) × (Nat → Int32)) (h : X5_train (σ 100) (σ 201 0) (σ 207 0) (σ 208 0) (σ 210 0) (σ 300) (σ 400) (σ 500) (σ 600) (σ 700) (σ 800) (σ 3208 0) (σ 3300) (σ 3400) (σ 3500) (σ 3600) (σ 3700) (σ 3800) (σ 3900) (σ 4100) = some r) : EM XP X 6 91 [.ref 0] SH0 lg σ (some (.int r.1), SH0, [(100, r.2.1), (3208, fun _ => r.2.2.1), (3211, fun _ => r.2.2.2.1), (3212, fun _ => r.2.2.2.2.1), (3213, fun _ => r.2.2.2.2.2.1), (3214, fun _ => r.2.2.2.2.2.2.1), (3300, r.2.2.2.2.2.2.2.1), (3400, r.2.2.2.2.2.2.2.2.1), (3500, r.2.2.2.2.2.2.2.2.2.1), (3600, r.2.2.2.2.2.2.2.2.2.2.1), (3700, r.2.2.2.2.2.2.2.2.2.2.2.1), (3800, r.2.2.2.2.2.2.2.2.2.2.2.2.1), (3900, r.2.2.2.2.2.2.2.2.2.2.2.2.2.1), (4100, r.2.2.2.2.2.2.2.2.2.2.2.2.2.2)], lg) := by
  refine EM_of (M := xm_91) rfl rfl ?_
  unfold X5_train at h
  refine E_sts 4 (8, [(0, .ref 0)], [.ref 2, .ref 32], SH0, [], lg) rfl ?_
  obtain ⟨r8, hr, h⟩ := x_bind h
  refine E_call rfl (e_X1_startFrom X _ _ r8 hr) (by decide) ?_
  refine E_sts 2 (15, [(0, .ref 0)], [.ref 32], SH0, [(3211, fun _ => r8.1), (3212, fun _ => r8.2.1), (3213, fun _ => r8.2.2.1), (3214, fun _ => r8.2.2.2.1), (3300, r8.2.2.2.2.1), (3400, r8.2.2.2.2.2.1), (3500, r8.2.2.2.2.2.2)], lg) rfl ?_
  obtain ⟨r15, hr, h⟩ := x_bind h
  refine E_call rfl (e_X1_haveWay X _ _ r15 hr) (by decide) ?_
  refine E_sts 1 (if (xb r15) = 0 then 21 else 27, [(0, .ref 0)], [], SH0, [(3211, fun _ => r8.1), (3212, fun _ => r8.2.1), (3213, fun _ => r8.2.2.1), (3214, fun _ => r8.2.2.2.1), (3300, r8.2.2.2.2.1), (3400, r8.2.2.2.2.2.1), (3500, r8.2.2.2.2.2.2)], lg) rfl ?_
  rcases x_br h with ⟨hc, h⟩ | ⟨hc, h⟩
  · refine E_itt hc ?_
    refine E_sts 2 (23, [(0, .ref 0)], [.int 3, .ref 0], SH0, [(3211, fun _ => r8.1), (3212, fun _ => r8.2.1), (3213, fun _ => r8.2.2.1), (3214, fun _ => r8.2.2.2.1), (3300, r8.2.2.2.2.1), (3400, r8.2.2.2.2.2.1), (3500, r8.2.2.2.2.2.2)], lg) rfl ?_
    obtain ⟨r23, hr, h⟩ := x_bind h
    refine E_call rfl (e_X5_finding X _ _ _ r23 hr) (by decide) ?_
    obtain rfl := Option.some.inj h
    refine E_sts 1 (26, [], [.int r23.1], SH0, [(100, r23.2), (3208, fun _ => (σ 3208 0)), (3211, fun _ => r8.1), (3212, fun _ => r8.2.1), (3213, fun _ => r8.2.2.1), (3214, fun _ => r8.2.2.2.1), (3300, r8.2.2.2.2.1), (3400, r8.2.2.2.2.2.1), (3500, r8.2.2.2.2.2.2), (3600, (σ 3600)), (3700, (σ 3700)), (3800, (σ 3800)), (3900, (σ 3900)), (4100, (σ 4100))], lg) rfl ?_
    exact E_ret rfl
  · refine E_itf hc ?_
    refine E_sts 3 (32, [(0, .ref 0)], [.int 0, .ref 32], SH0, [(3211, fun _ => r8.1), (3212, fun _ => r8.2.1), (3213, fun _ => r8.2.2.1), (3214, fun _ => r8.2.2.2.1), (3300, r8.2.2.2.2.1), (3400, r8.2.2.2.2.2.1), (3500, r8.2.2.2.2.2.2)], lg) rfl ?_
    obtain ⟨r32, hr, h⟩ := x_bind h
    refine E_call rfl (e_X1_findFirst X _ _ _ r32 hr) (by decide) ?_
    refine E_sts 9 (47, [(0, .ref 0), (1, .int (σ 210 0)), (2, .int 0), (3, .int 0)], [], SH0, [(3208, fun _ => r32.1), (3211, fun _ => r8.1), (3212, fun _ => r8.2.1), (3213, fun _ => r8.2.2.1), (3214, fun _ => r8.2.2.2.1), (3300, r8.2.2.2.2.1), (3400, r8.2.2.2.2.2.1), (3500, r8.2.2.2.2.2.2), (3600, r32.2.1), (3700, r32.2.2.1), (3800, r32.2.2.2.1), (3900, r32.2.2.2.2.1), (4100, r32.2.2.2.2.2)], lg) rfl ?_
    exact e_X5_train_L47 X σ lg _ (σ 210 0) 0 0 r32.1 r8.1 r8.2.1 r8.2.2.1 r8.2.2.2.1 r8.2.2.2.2.1 r8.2.2.2.2.2.1 r8.2.2.2.2.2.2 r32.2.1 r32.2.2.1 r32.2.2.2.1 r32.2.2.2.2.1 r32.2.2.2.2.2 r h
set_option maxHeartbeats 4000000 in
set_option maxRecDepth 20000 in
theorem e_X6_train_L25 (X : xX) (σ : xM) (lg : Int64) : ∀ (n : Nat), ∀ (v1 : Int32) (v2 : Int32) (v3 : Int32) (m_rowMany_ : Int32) (m_behind_ : (Nat → Int32)) (m_row_ : (Nat → Int32)) (r : Int32 × Int32 × (Nat → Int32) × (Nat → Int32) × (Nat → Int32)), X6_train_L25 (σ 5300) (σ 5600) n v1 v2 v3 m_rowMany_ m_behind_ m_row_ = some r → E XP X 6 xm_175 σ (25, [(0, .ref 52), (1, .int v1), (2, .int v2), (3, .int v3)], [], SH0, [(5208, fun _ => m_rowMany_), (5700, m_behind_), (5800, m_row_)], lg) (some (.int r.1), SH0, [(5208, fun _ => r.2.1), (5600, r.2.2.1), (5700, r.2.2.2.1), (5800, r.2.2.2.2)], lg) := by
  intro n
  induction n with
  | zero => intro v1 v2 v3 m_rowMany_ m_behind_ m_row_ r h; rw [X6_train_L25] at h; cases h
  | succ n ih =>
    intro v1 v2 v3 m_rowMany_ m_behind_ m_row_ r h
    rw [X6_train_L25] at h
    refine E_sts 4 (if m_rowMany_ ≤ v3 then 71 else 33, [(0, .ref 52), (1, .int v1), (2, .int v2), (3, .int v3)], [], SH0, [(5208, fun _ => m_rowMany_), (5700, m_behind_), (5800, m_row_)], lg) rfl ?_
    rcases x_br h with ⟨hc, h⟩ | ⟨hc, h⟩
    · refine E_itt hc ?_
      obtain rfl := Option.some.inj h
      refine E_sts 2 (72, [], [.int v2], SH0, [(5208, fun _ => m_rowMany_), (5600, (σ 5600)), (5700, m_behind_), (5800, m_row_)], lg) rfl ?_
      exact E_ret rfl
    · refine E_itf hc ?_
      refine E_sts 5 (40, [(0, .ref 52), (1, .int v1), (2, .int v2), (3, .int v3)], [.int v3, .ref 58, .ref 52, .int v1], SH0, [(5208, fun _ => m_rowMany_), (5700, m_behind_), (5800, m_row_)], lg) rfl ?_
      obtain ⟨hp, h⟩ := x_ite h
      refine E_par (p := inr v3 9) (41, [(0, .ref 52), (1, .int v1), (2, .int v2), (3, .int v3)], [.int (m_row_ v3.toNatClampNeg), .ref 52, .int v1], SH0, [(5208, fun _ => m_rowMany_), (5700, m_behind_), (5800, m_row_)], lg) rfl hp ?_
      obtain ⟨r41, hr, h⟩ := x_bind h
      refine E_call rfl (e_X6_secondsOf X _ _ _ r41 hr) (by decide) ?_
      refine E_sts 7 (54, [(0, .ref 52), (1, .int (v1 + r41)), (2, .int v2), (3, .int v3)], [.int 9, .ref 53, .int (v1 + r41), .int v2], SH0, [(5208, fun _ => m_rowMany_), (5700, m_behind_), (5800, m_row_)], lg) rfl ?_
      refine E_par (p := inr 9 83) (55, [(0, .ref 52), (1, .int (v1 + r41)), (2, .int v2), (3, .int v3)], [.int ((σ 5300) 9), .int (v1 + r41), .int v2], SH0, [(5208, fun _ => m_rowMany_), (5700, m_behind_), (5800, m_row_)], lg) rfl (by decide) ?_
      refine E_sts 1 (if ((σ 5300) 9) < (v1 + r41) then 62 else 58, [(0, .ref 52), (1, .int (v1 + r41)), (2, .int v2), (3, .int v3)], [.int v2], SH0, [(5208, fun _ => m_rowMany_), (5700, m_behind_), (5800, m_row_)], lg) rfl ?_
      rcases x_br h with ⟨hc, h⟩ | ⟨hc, h⟩
      · refine E_itt hc ?_
        refine E_sts 6 (25, [(0, .ref 52), (1, .int (v1 + r41)), (2, .int (v2 + 0)), (3, .int (v3 + 1))], [], SH0, [(5208, fun _ => m_rowMany_), (5700, m_behind_), (5800, m_row_)], lg) rfl ?_
        exact ih (v1 + r41) (v2 + 0) (v3 + 1) m_rowMany_ m_behind_ m_row_ r h
      · refine E_itf hc ?_
        refine E_sts 7 (25, [(0, .ref 52), (1, .int (v1 + r41)), (2, .int (v2 + 1)), (3, .int (v3 + 1))], [], SH0, [(5208, fun _ => m_rowMany_), (5700, m_behind_), (5800, m_row_)], lg) rfl ?_
        exact ih (v1 + r41) (v2 + 1) (v3 + 1) m_rowMany_ m_behind_ m_row_ r h
set_option maxHeartbeats 4000000 in
set_option maxRecDepth 20000 in
theorem e_X6_train (X : xX) (σ : xM) (lg : Int64) (r : Int32 × Int32 × (Nat → Int32) × (Nat → Int32) × (Nat → Int32)) (h : X6_train (σ 5300) (σ 5600) (σ 5700) (σ 5800) = some r) : EM XP X 7 175 [.ref 52] SH0 lg σ (some (.int r.1), SH0, [(5208, fun _ => r.2.1), (5600, r.2.2.1), (5700, r.2.2.2.1), (5800, r.2.2.2.2)], lg) := by
  refine EM_of (M := xm_175) rfl rfl ?_
  unfold X6_train at h
  refine E_sts 2 (2, [(0, .ref 52)], [.int 0, .ref 52], SH0, [], lg) rfl ?_
  obtain ⟨r2, hr, h⟩ := x_bind h
  refine E_call rfl (e_X6_findsRow X _ _ _ r2 hr) (by decide) ?_
  refine E_sts 1 (if (xb r2.1) = 0 then 8 else 14, [(0, .ref 52)], [], SH0, [(5208, fun _ => r2.2.1), (5700, r2.2.2.1), (5800, r2.2.2.2)], lg) rfl ?_
  rcases x_br h with ⟨hc, h⟩ | ⟨hc, h⟩
  · refine E_itt hc ?_
    refine E_sts 2 (10, [(0, .ref 52)], [.int 3, .ref 52], SH0, [(5208, fun _ => r2.2.1), (5700, r2.2.2.1), (5800, r2.2.2.2)], lg) rfl ?_
    obtain ⟨r10, hr, h⟩ := x_bind h
    refine E_call rfl (e_X6_no X _ _ _ r10 hr) (by decide) ?_
    obtain rfl := Option.some.inj h
    exact E_ret rfl
  · refine E_itf hc ?_
    refine E_sts 3 (19, [(0, .ref 52)], [.int 1, .ref 53], SH0, [(5208, fun _ => r2.2.1), (5700, r2.2.2.1), (5800, r2.2.2.2)], lg) rfl ?_
    refine E_par (p := inr 1 83) (20, [(0, .ref 52)], [.int ((σ 5300) 1)], SH0, [(5208, fun _ => r2.2.1), (5700, r2.2.2.1), (5800, r2.2.2.2)], lg) rfl (by decide) ?_
    refine E_sts 6 (25, [(0, .ref 52), (1, .int ((σ 5300) 1)), (2, .int 0), (3, .int 0)], [], SH0, [(5208, fun _ => r2.2.1), (5700, r2.2.2.1), (5800, r2.2.2.2)], lg) rfl ?_
    exact e_X6_train_L25 X σ lg _ ((σ 5300) 1) 0 0 r2.2.1 r2.2.2.1 r2.2.2.2 r h
set_option maxHeartbeats 4000000 in
set_option maxRecDepth 20000 in
theorem e_X5_fits_L34 (X : xX) (σ : xM) (lg : Int64) : ∀ (n : Nat), ∀ (v1 : Int32) (v2 : Int32) (v3 : Int32) (v4 : Int32) (v5 : Int32) (r : Int32 × (Nat → Int32)), X5_fits_L34 (σ 100) (σ 300) n v1 v2 v3 v4 v5 = some r → E XP X 2 xm_92 σ (34, [(0, .ref 0), (1, .int v1), (2, .int v2), (3, .int v3), (4, .int v4), (5, .int v5)], [], SH0, [], lg) (some (.int r.1), SH0, [(100, r.2)], lg) := by
  intro n
  induction n with
  | zero => intro v1 v2 v3 v4 v5 r h; rw [X5_fits_L34] at h; cases h
  | succ n ih =>
    intro v1 v2 v3 v4 v5 r h
    rw [X5_fits_L34] at h
    refine E_sts 3 (if 99 < v5 then 69 else 41, [(0, .ref 0), (1, .int v1), (2, .int v2), (3, .int v3), (4, .int v4), (5, .int v5)], [], SH0, [], lg) rfl ?_
    rcases x_br h with ⟨hc, h⟩ | ⟨hc, h⟩
    · refine E_itt hc ?_
      obtain rfl := Option.some.inj h
      refine E_sts 2 (71, [], [.int v4], SH0, [(100, (σ 100))], lg) rfl ?_
      exact E_ret rfl
    · refine E_itf hc ?_
      refine E_sts 4 (49, [(0, .ref 0), (1, .int v1), (2, .int v2), (3, .int v3), (4, .int v4), (5, .int v5)], [.int v1, .ref 3], SH0, [], lg) rfl ?_
      obtain ⟨hp, h⟩ := x_ite h
      refine E_par (p := inr v1 9) (50, [(0, .ref 0), (1, .int v1), (2, .int v2), (3, .int v3), (4, .int v4), (5, .int v5)], [.int ((σ 300) v1.toNatClampNeg)], SH0, [], lg) rfl hp ?_
      refine E_sts 2 (53, [(0, .ref 0), (1, .int v1), (2, .int v2), (3, .int v3), (4, .int v4), (5, .int v5)], [.int v2, .int v5, .int ((σ 300) v1.toNatClampNeg)], SH0, [], lg) rfl ?_
      refine E_call rfl (e_X0_noiseOf X _ _ _ _ _ (X0_noiseOf ((σ 300) v1.toNatClampNeg) v5 v2) rfl) (by decide) ?_
      refine E_sts 2 (if (X0_noiseOf ((σ 300) v1.toNatClampNeg) v5 v2) = v3 then 60 else 63, [(0, .ref 0), (1, .int v1), (2, .int v2), (3, .int v3), (4, .int v4), (5, .int v5)], [], SH0, [], lg) rfl ?_
      rcases x_br h with ⟨hc, h⟩ | ⟨hc, h⟩
      · refine E_itt hc ?_
        refine E_sts 4 (34, [(0, .ref 0), (1, .int v1), (2, .int v2), (3, .int v3), (4, .int (v4 + 1)), (5, .int (v5 + 1))], [], SH0, [], lg) rfl ?_
        exact ih v1 v2 v3 (v4 + 1) (v5 + 1) r h
      · refine E_itf hc ?_
        refine E_sts 3 (34, [(0, .ref 0), (1, .int v1), (2, .int v2), (3, .int v3), (4, .int v4), (5, .int (v5 + 1))], [], SH0, [], lg) rfl ?_
        exact ih v1 v2 v3 v4 (v5 + 1) r h
set_option maxHeartbeats 4000000 in
set_option maxRecDepth 20000 in
theorem e_X5_fits (X : xX) (σ : xM) (lg : Int64) (v1 : Int32) (v2 : Int32) (v3 : Int32) (r : Int32 × (Nat → Int32)) (h : X5_fits (σ 100) (σ 201 0) (σ 300) v1 v2 v3 = some r) : EM XP X 3 92 [.ref 0, .int v1, .int v2, .int v3] SH0 lg σ (some (.int r.1), SH0, [(100, r.2)], lg) := by
  refine EM_of (M := xm_92) rfl rfl ?_
  unfold X5_fits at h
  refine E_sts 3 (5, [(0, .ref 0), (1, .int v1), (2, .int v2), (3, .int v3)], [.int v1, .ref 2], SH0, [], lg) rfl ?_
  refine E_call rfl (e_X2_isBow X _ _ _ (X2_isBow (σ 201 0) v1) rfl) (by decide) ?_
  refine E_sts 1 (if (xb (X2_isBow (σ 201 0) v1)) = 0 then 22 else 11, [(0, .ref 0), (1, .int v1), (2, .int v2), (3, .int v3)], [], SH0, [], lg) rfl ?_
  rcases x_br h with ⟨hc, h⟩ | ⟨hc, h⟩
  · refine E_itt hc ?_
    refine E_sts 2 (24, [(0, .ref 0), (1, .int v1), (2, .int v2), (3, .int v3)], [.int 0, .ref 0], SH0, [], lg) rfl ?_
    obtain ⟨r24, hr, h⟩ := x_bind h
    refine E_call rfl (e_X5_finding X _ _ _ r24 hr) (by decide) ?_
    obtain rfl := Option.some.inj h
    exact E_ret rfl
  · refine E_itf hc ?_
    refine E_sts 3 (16, [(0, .ref 0), (1, .int v1), (2, .int v2), (3, .int v3)], [.int 999, .int 0, .int v2], SH0, [], lg) rfl ?_
    refine E_call rfl (e_X5_isIn X _ _ _ _ _ (X5_isIn v2 0 999) rfl) (by decide) ?_
    refine E_sts 1 (if (xb (X5_isIn v2 0 999)) = 0 then 22 else 28, [(0, .ref 0), (1, .int v1), (2, .int v2), (3, .int v3)], [], SH0, [], lg) rfl ?_
    rcases x_br h with ⟨hc, h⟩ | ⟨hc, h⟩
    · refine E_itt hc ?_
      refine E_sts 2 (24, [(0, .ref 0), (1, .int v1), (2, .int v2), (3, .int v3)], [.int 0, .ref 0], SH0, [], lg) rfl ?_
      obtain ⟨r24_1, hr, h⟩ := x_bind h
      refine E_call rfl (e_X5_finding X _ _ _ r24_1 hr) (by decide) ?_
      obtain rfl := Option.some.inj h
      exact E_ret rfl
    · refine E_itf hc ?_
      refine E_sts 5 (34, [(0, .ref 0), (1, .int v1), (2, .int v2), (3, .int v3), (4, .int 0), (5, .int 0)], [], SH0, [], lg) rfl ?_
      exact e_X5_fits_L34 X σ lg _ v1 v2 v3 0 0 r h
set_option maxHeartbeats 4000000 in
set_option maxRecDepth 20000 in
theorem e_X6_isAsked (X : xX) (σ : xM) (lg : Int64) (v1 : Int32) (v2 : Int32) (r : Bool) (h : X6_isAsked (σ 5300) v1 v2 = some r) : EM XP X 3 176 [.ref 52, .int v1, .int v2] SH0 lg σ (some (.int (xb r)), SH0, [], lg) := by
  refine EM_of (M := xm_176) rfl rfl ?_
  unfold X6_isAsked at h
  refine E_sts 2 (2, [(0, .ref 52), (1, .int v1), (2, .int v2)], [.int v1, .ref 52], SH0, [], lg) rfl ?_
  obtain ⟨r2, hr, h⟩ := x_bind h
  refine E_call rfl (e_X6_isBow X _ _ _ r2 hr) (by decide) ?_
  refine E_sts 1 (if (xb r2) = 0 then 23 else 8, [(0, .ref 52), (1, .int v1), (2, .int v2)], [], SH0, [], lg) rfl ?_
  rcases x_br h with ⟨hc, h⟩ | ⟨hc, h⟩
  · refine E_itt hc ?_
    obtain rfl := Option.some.inj h
    refine E_sts 1 (24, [(0, .ref 52), (1, .int v1), (2, .int v2)], [.int 0], SH0, [], lg) rfl ?_
    exact E_retp (p := (0 : Int32) = 0 ∨ (0 : Int32) = 1) rfl (by decide)
  · refine E_itf hc ?_
    refine E_sts 3 (13, [(0, .ref 52), (1, .int v1), (2, .int v2)], [.int 999, .int 0, .int v2], SH0, [], lg) rfl ?_
    refine E_call rfl (e_X6_in1 X _ _ _ _ _ (X6_in1 v2 0 999) rfl) (by decide) ?_
    refine E_sts 1 (if (xb (X6_in1 v2 0 999)) = 0 then 23 else 19, [(0, .ref 52), (1, .int v1), (2, .int v2)], [], SH0, [], lg) rfl ?_
    rcases x_br h with ⟨hc, h⟩ | ⟨hc, h⟩
    · refine E_itt hc ?_
      obtain rfl := Option.some.inj h
      refine E_sts 1 (24, [(0, .ref 52), (1, .int v1), (2, .int v2)], [.int 0], SH0, [], lg) rfl ?_
      exact E_retp (p := (0 : Int32) = 0 ∨ (0 : Int32) = 1) rfl (by decide)
    · refine E_itf hc ?_
      obtain rfl := Option.some.inj h
      refine E_sts 2 (24, [(0, .ref 52), (1, .int v1), (2, .int v2)], [.int 1], SH0, [], lg) rfl ?_
      exact E_retp (p := (1 : Int32) = 0 ∨ (1 : Int32) = 1) rfl (by decide)
set_option maxHeartbeats 4000000 in
set_option maxRecDepth 20000 in
theorem e_X6_fits_L21 (X : xX) (σ : xM) (lg : Int64) : ∀ (n : Nat), ∀ (v1 : Int32) (v2 : Int32) (v3 : Int32) (v4 : Int32) (v5 : Int32) (r : Int32 × (Nat → Int32)), X6_fits_L21 (σ 5300) (σ 5600) n v1 v2 v3 v4 v5 = some r → E XP X 3 xm_177 σ (21, [(0, .ref 52), (1, .int v1), (2, .int v2), (3, .int v3), (4, .int v4), (5, .int v5)], [], SH0, [], lg) (some (.int r.1), SH0, [(5600, r.2)], lg) := by
  intro n
  induction n with
  | zero => intro v1 v2 v3 v4 v5 r h; rw [X6_fits_L21] at h; cases h
  | succ n ih =>
    intro v1 v2 v3 v4 v5 r h
    rw [X6_fits_L21] at h
    refine E_sts 3 (if 100 ≤ v5 then 60 else 28, [(0, .ref 52), (1, .int v1), (2, .int v2), (3, .int v3), (4, .int v4), (5, .int v5)], [], SH0, [], lg) rfl ?_
    rcases x_br h with ⟨hc, h⟩ | ⟨hc, h⟩
    · refine E_itt hc ?_
      obtain rfl := Option.some.inj h
      refine E_sts 2 (62, [], [.int v4], SH0, [(5600, (σ 5600))], lg) rfl ?_
      exact E_ret rfl
    · refine E_itf hc ?_
      refine E_sts 4 (33, [(0, .ref 52), (1, .int v1), (2, .int v2), (3, .int v3), (4, .int v4), (5, .int v5)], [.int 0, .int v1, .ref 52, .int v4], SH0, [], lg) rfl ?_
      obtain ⟨r33, hr, h⟩ := x_bind h
      refine E_call rfl (e_X6_get X _ _ _ _ r33 hr) (by decide) ?_
      refine E_sts 2 (39, [(0, .ref 52), (1, .int v1), (2, .int v2), (3, .int v3), (4, .int v4), (5, .int v5)], [.int v2, .int v5, .int r33, .int v4], SH0, [], lg) rfl ?_
      refine E_call rfl (e_X6_noiseOf X _ _ _ _ _ (X6_noiseOf r33 v5 v2) rfl) (by decide) ?_
      refine E_sts 2 (if (X6_noiseOf r33 v5 v2) = v3 then 46 else 50, [(0, .ref 52), (1, .int v1), (2, .int v2), (3, .int v3), (4, .int v4), (5, .int v5)], [.int v4], SH0, [], lg) rfl ?_
      rcases x_br h with ⟨hc, h⟩ | ⟨hc, h⟩
      · refine E_itt hc ?_
        refine E_sts 7 (21, [(0, .ref 52), (1, .int v1), (2, .int v2), (3, .int v3), (4, .int (v4 + 1)), (5, .int (v5 + 1))], [], SH0, [], lg) rfl ?_
        exact ih v1 v2 v3 (v4 + 1) (v5 + 1) r h
      · refine E_itf hc ?_
        refine E_sts 6 (21, [(0, .ref 52), (1, .int v1), (2, .int v2), (3, .int v3), (4, .int (v4 + 0)), (5, .int (v5 + 1))], [], SH0, [], lg) rfl ?_
        exact ih v1 v2 v3 (v4 + 0) (v5 + 1) r h
set_option maxHeartbeats 4000000 in
set_option maxRecDepth 20000 in
theorem e_X6_fits (X : xX) (σ : xM) (lg : Int64) (v1 : Int32) (v2 : Int32) (v3 : Int32) (r : Int32 × (Nat → Int32)) (h : X6_fits (σ 5300) (σ 5600) v1 v2 v3 = some r) : EM XP X 4 177 [.ref 52, .int v1, .int v2, .int v3] SH0 lg σ (some (.int r.1), SH0, [(5600, r.2)], lg) := by
  refine EM_of (M := xm_177) rfl rfl ?_
  unfold X6_fits at h
  refine E_sts 3 (3, [(0, .ref 52), (1, .int v1), (2, .int v2), (3, .int v3)], [.int v2, .int v1, .ref 52], SH0, [], lg) rfl ?_
  obtain ⟨r3, hr, h⟩ := x_bind h
  refine E_call rfl (e_X6_isAsked X _ _ _ _ r3 hr) (by decide) ?_
  refine E_sts 1 (if (xb r3) = 0 then 9 else 15, [(0, .ref 52), (1, .int v1), (2, .int v2), (3, .int v3)], [], SH0, [], lg) rfl ?_
  rcases x_br h with ⟨hc, h⟩ | ⟨hc, h⟩
  · refine E_itt hc ?_
    refine E_sts 2 (11, [(0, .ref 52), (1, .int v1), (2, .int v2), (3, .int v3)], [.int 0, .ref 52], SH0, [], lg) rfl ?_
    obtain ⟨r11, hr, h⟩ := x_bind h
    refine E_call rfl (e_X6_no X _ _ _ r11 hr) (by decide) ?_
    obtain rfl := Option.some.inj h
    exact E_ret rfl
  · refine E_itf hc ?_
    refine E_sts 5 (21, [(0, .ref 52), (1, .int v1), (2, .int v2), (3, .int v3), (4, .int 0), (5, .int 0)], [], SH0, [], lg) rfl ?_
    exact e_X6_fits_L21 X σ lg _ v1 v2 v3 0 0 r h
set_option maxHeartbeats 4000000 in
set_option maxRecDepth 20000 in
theorem e_X5_love_L31 (X : xX) (σ : xM) (lg : Int64) : ∀ (n : Nat), ∀ (v1 : Int32) (v2 : Int32) (v3 : Int32) (v4 : Int32) (r : Int32 × (Nat → Int32)), X5_love_L31 (σ 100) (σ 300) n v1 v2 v3 v4 = some r → E XP X 2 xm_93 σ (31, [(0, .ref 0), (1, .int v1), (2, .int v2), (3, .int v3), (4, .int v4)], [], SH0, [], lg) (some (.int r.1), SH0, [(100, r.2)], lg) := by
  intro n
  induction n with
  | zero => intro v1 v2 v3 v4 r h; rw [X5_love_L31] at h; cases h
  | succ n ih =>
    intro v1 v2 v3 v4 r h
    rw [X5_love_L31] at h
    refine E_sts 3 (if 99 < v4 then 66 else 38, [(0, .ref 0), (1, .int v1), (2, .int v2), (3, .int v3), (4, .int v4)], [], SH0, [], lg) rfl ?_
    rcases x_br h with ⟨hc, h⟩ | ⟨hc, h⟩
    · refine E_itt hc ?_
      refine E_sts 2 (68, [(0, .ref 0), (1, .int v1), (2, .int v2), (3, .int v3), (4, .int v4)], [.int 3, .ref 0], SH0, [], lg) rfl ?_
      obtain ⟨r68, hr, h⟩ := x_bind h
      refine E_call rfl (e_X5_finding X _ _ _ r68 hr) (by decide) ?_
      obtain rfl := Option.some.inj h
      exact E_ret rfl
    · refine E_itf hc ?_
      refine E_sts 4 (46, [(0, .ref 0), (1, .int v1), (2, .int v2), (3, .int v3), (4, .int v4)], [.int v1, .ref 3], SH0, [], lg) rfl ?_
      obtain ⟨hp, h⟩ := x_ite h
      refine E_par (p := inr v1 9) (47, [(0, .ref 0), (1, .int v1), (2, .int v2), (3, .int v3), (4, .int v4)], [.int ((σ 300) v1.toNatClampNeg)], SH0, [], lg) rfl hp ?_
      refine E_sts 2 (50, [(0, .ref 0), (1, .int v1), (2, .int v2), (3, .int v3), (4, .int v4)], [.int v2, .int v4, .int ((σ 300) v1.toNatClampNeg)], SH0, [], lg) rfl ?_
      refine E_call rfl (e_X0_noiseOf X _ _ _ _ _ (X0_noiseOf ((σ 300) v1.toNatClampNeg) v4 v2) rfl) (by decide) ?_
      refine E_sts 2 (if (X0_noiseOf ((σ 300) v1.toNatClampNeg) v4 v2) = v3 then 57 else 60, [(0, .ref 0), (1, .int v1), (2, .int v2), (3, .int v3), (4, .int v4)], [], SH0, [], lg) rfl ?_
      rcases x_br h with ⟨hc, h⟩ | ⟨hc, h⟩
      · refine E_itt hc ?_
        obtain rfl := Option.some.inj h
        refine E_sts 2 (59, [], [.int v4], SH0, [(100, (σ 100))], lg) rfl ?_
        exact E_ret rfl
      · refine E_itf hc ?_
        refine E_sts 3 (31, [(0, .ref 0), (1, .int v1), (2, .int v2), (3, .int v3), (4, .int (v4 + 1))], [], SH0, [], lg) rfl ?_
        exact ih v1 v2 v3 (v4 + 1) r h
set_option maxHeartbeats 4000000 in
set_option maxRecDepth 20000 in
theorem e_X5_love (X : xX) (σ : xM) (lg : Int64) (v1 : Int32) (v2 : Int32) (v3 : Int32) (r : Int32 × (Nat → Int32)) (h : X5_love (σ 100) (σ 201 0) (σ 300) v1 v2 v3 = some r) : EM XP X 3 93 [.ref 0, .int v1, .int v2, .int v3] SH0 lg σ (some (.int r.1), SH0, [(100, r.2)], lg) := by
  refine EM_of (M := xm_93) rfl rfl ?_
  unfold X5_love at h
  refine E_sts 3 (5, [(0, .ref 0), (1, .int v1), (2, .int v2), (3, .int v3)], [.int v1, .ref 2], SH0, [], lg) rfl ?_
  refine E_call rfl (e_X2_isBow X _ _ _ (X2_isBow (σ 201 0) v1) rfl) (by decide) ?_
  refine E_sts 1 (if (xb (X2_isBow (σ 201 0) v1)) = 0 then 22 else 11, [(0, .ref 0), (1, .int v1), (2, .int v2), (3, .int v3)], [], SH0, [], lg) rfl ?_
  rcases x_br h with ⟨hc, h⟩ | ⟨hc, h⟩
  · refine E_itt hc ?_
    refine E_sts 2 (24, [(0, .ref 0), (1, .int v1), (2, .int v2), (3, .int v3)], [.int 0, .ref 0], SH0, [], lg) rfl ?_
    obtain ⟨r24, hr, h⟩ := x_bind h
    refine E_call rfl (e_X5_finding X _ _ _ r24 hr) (by decide) ?_
    obtain rfl := Option.some.inj h
    exact E_ret rfl
  · refine E_itf hc ?_
    refine E_sts 3 (16, [(0, .ref 0), (1, .int v1), (2, .int v2), (3, .int v3)], [.int 999, .int 0, .int v2], SH0, [], lg) rfl ?_
    refine E_call rfl (e_X5_isIn X _ _ _ _ _ (X5_isIn v2 0 999) rfl) (by decide) ?_
    refine E_sts 1 (if (xb (X5_isIn v2 0 999)) = 0 then 22 else 28, [(0, .ref 0), (1, .int v1), (2, .int v2), (3, .int v3)], [], SH0, [], lg) rfl ?_
    rcases x_br h with ⟨hc, h⟩ | ⟨hc, h⟩
    · refine E_itt hc ?_
      refine E_sts 2 (24, [(0, .ref 0), (1, .int v1), (2, .int v2), (3, .int v3)], [.int 0, .ref 0], SH0, [], lg) rfl ?_
      obtain ⟨r24_1, hr, h⟩ := x_bind h
      refine E_call rfl (e_X5_finding X _ _ _ r24_1 hr) (by decide) ?_
      obtain rfl := Option.some.inj h
      exact E_ret rfl
    · refine E_itf hc ?_
      refine E_sts 3 (31, [(0, .ref 0), (1, .int v1), (2, .int v2), (3, .int v3), (4, .int 0)], [], SH0, [], lg) rfl ?_
      exact e_X5_love_L31 X σ lg _ v1 v2 v3 0 r h
