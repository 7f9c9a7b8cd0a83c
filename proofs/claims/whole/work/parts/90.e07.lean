/-! what the machine answers is what the functions say (by gen/emit.py) -/
set_option maxHeartbeats 4000000 in
set_option maxRecDepth 20000 in
theorem e_X5_place (X : xX) (σ : xM) (lg : Int64) (v1 : Int32) (v2 : Int32) (r : Int32 × (Nat → Int32) × Int32 × Int32 × Int32 × Int32 × (Nat → Int32) × (Nat → Int32) × (Nat → Int32)) (h : X5_place (σ 100) (σ 201 0) (σ 207 0) (σ 208 0) (σ 300) (σ 400) (σ 600) (σ 800) (σ 3211 0) (σ 3212 0) (σ 3213 0) (σ 3214 0) (σ 3300) (σ 3400) (σ 3500) v1 v2 = some r) : EM XP X 4 83 [.ref 0, .int v1, .int v2] SH0 lg σ (some (.int r.1), SH0, [(100, r.2.1), (3211, fun _ => r.2.2.1), (3212, fun _ => r.2.2.2.1), (3213, fun _ => r.2.2.2.2.1), (3214, fun _ => r.2.2.2.2.2.1), (3300, r.2.2.2.2.2.2.1), (3400, r.2.2.2.2.2.2.2.1), (3500, r.2.2.2.2.2.2.2.2)], lg) := by
  refine EM_of (M := xm_83) rfl rfl ?_
  unfold X5_place at h
  refine E_sts 3 (5, [(0, .ref 0), (1, .int v1), (2, .int v2)], [.int v1, .ref 2], SH0, [], lg) rfl ?_
  refine E_call rfl (e_X2_isBow X _ _ _ (X2_isBow (σ 201 0) v1) rfl) (by decide) ?_
  refine E_sts 1 (if (xb (X2_isBow (σ 201 0) v1)) = 0 then 20 else 11, [(0, .ref 0), (1, .int v1), (2, .int v2)], [], SH0, [], lg) rfl ?_
  rcases x_br h with ⟨hc, h⟩ | ⟨hc, h⟩
  · refine E_itt hc ?_
    refine E_sts 2 (22, [(0, .ref 0), (1, .int v1), (2, .int v2)], [.int 0, .ref 0], SH0, [], lg) rfl ?_
    obtain ⟨r22, hr, h⟩ := x_bind h
    refine E_call rfl (e_X5_finding X _ _ _ r22 hr) (by decide) ?_
    obtain rfl := Option.some.inj h
    refine E_sts 1 (25, [], [.int r22.1], SH0, [(100, r22.2), (3211, fun _ => (σ 3211 0)), (3212, fun _ => (σ 3212 0)), (3213, fun _ => (σ 3213 0)), (3214, fun _ => (σ 3214 0)), (3300, (σ 3300)), (3400, (σ 3400)), (3500, (σ 3500))], lg) rfl ?_
    exact E_ret rfl
  · refine E_itf hc ?_
    refine E_sts 3 (14, [(0, .ref 0), (1, .int v1), (2, .int v2)], [.int 1, .int 0, .int v2], SH0, [], lg) rfl ?_
    refine E_call rfl (e_X5_isIn X _ _ _ _ _ (X5_isIn v2 0 1) rfl) (by decide) ?_
    refine E_sts 1 (if (xb (X5_isIn v2 0 1)) = 0 then 20 else 26, [(0, .ref 0), (1, .int v1), (2, .int v2)], [], SH0, [], lg) rfl ?_
    rcases x_br h with ⟨hc, h⟩ | ⟨hc, h⟩
    · refine E_itt hc ?_
      refine E_sts 2 (22, [(0, .ref 0), (1, .int v1), (2, .int v2)], [.int 0, .ref 0], SH0, [], lg) rfl ?_
      obtain ⟨r22_1, hr, h⟩ := x_bind h
      refine E_call rfl (e_X5_finding X _ _ _ r22_1 hr) (by decide) ?_
      obtain rfl := Option.some.inj h
      refine E_sts 1 (25, [], [.int r22_1.1], SH0, [(100, r22_1.2), (3211, fun _ => (σ 3211 0)), (3212, fun _ => (σ 3212 0)), (3213, fun _ => (σ 3213 0)), (3214, fun _ => (σ 3214 0)), (3300, (σ 3300)), (3400, (σ 3400)), (3500, (σ 3500))], lg) rfl ?_
      exact E_ret rfl
    · refine E_itf hc ?_
      refine E_sts 3 (31, [(0, .ref 0), (1, .int v1), (2, .int v2)], [.int v1, .ref 2], SH0, [], lg) rfl ?_
      refine E_call rfl (e_X2_hasCome X _ _ _ (X2_hasCome (σ 208 0) v1) rfl) (by decide) ?_
      refine E_sts 1 (if (xb (X2_hasCome (σ 208 0) v1)) = 0 then 43 else 37, [(0, .ref 0), (1, .int v1), (2, .int v2)], [], SH0, [], lg) rfl ?_
      rcases x_br h with ⟨hc, h⟩ | ⟨hc, h⟩
      · refine E_itt hc ?_
        refine E_sts 4 (51, [(0, .ref 0), (1, .int v1), (2, .int v2)], [.ref 2, .ref 32], SH0, [], lg) rfl ?_
        obtain ⟨r51, hr, h⟩ := x_bind h
        refine E_call rfl (e_X1_startFrom X _ _ r51 hr) (by decide) ?_
        refine E_sts 2 (58, [(0, .ref 0), (1, .int v1), (2, .int v2)], [.ref 32], SH0, [(3211, fun _ => r51.1), (3212, fun _ => r51.2.1), (3213, fun _ => r51.2.2.1), (3214, fun _ => r51.2.2.2.1), (3300, r51.2.2.2.2.1), (3400, r51.2.2.2.2.2.1), (3500, r51.2.2.2.2.2.2)], lg) rfl ?_
        obtain ⟨r58, hr, h⟩ := x_bind h
        refine E_call rfl (e_X1_haveWay X _ _ r58 hr) (by decide) ?_
        refine E_sts 1 (if (xb r58) = 0 then 64 else 70, [(0, .ref 0), (1, .int v1), (2, .int v2)], [], SH0, [(3211, fun _ => r51.1), (3212, fun _ => r51.2.1), (3213, fun _ => r51.2.2.1), (3214, fun _ => r51.2.2.2.1), (3300, r51.2.2.2.2.1), (3400, r51.2.2.2.2.2.1), (3500, r51.2.2.2.2.2.2)], lg) rfl ?_
        rcases x_br h with ⟨hc, h⟩ | ⟨hc, h⟩
        · refine E_itt hc ?_
          refine E_sts 2 (66, [(0, .ref 0), (1, .int v1), (2, .int v2)], [.int 3, .ref 0], SH0, [(3211, fun _ => r51.1), (3212, fun _ => r51.2.1), (3213, fun _ => r51.2.2.1), (3214, fun _ => r51.2.2.2.1), (3300, r51.2.2.2.2.1), (3400, r51.2.2.2.2.2.1), (3500, r51.2.2.2.2.2.2)], lg) rfl ?_
          obtain ⟨r66, hr, h⟩ := x_bind h
          refine E_call rfl (e_X5_finding X _ _ _ r66 hr) (by decide) ?_
          obtain rfl := Option.some.inj h
          exact E_ret rfl
        · refine E_itf hc ?_
          refine E_sts 2 (if v2 = 0 then 74 else 85, [(0, .ref 0), (1, .int v1), (2, .int v2)], [], SH0, [(3211, fun _ => r51.1), (3212, fun _ => r51.2.1), (3213, fun _ => r51.2.2.1), (3214, fun _ => r51.2.2.2.1), (3300, r51.2.2.2.2.1), (3400, r51.2.2.2.2.2.1), (3500, r51.2.2.2.2.2.2)], lg) rfl ?_
          rcases x_br h with ⟨hc, h⟩ | ⟨hc, h⟩
          · refine E_itt hc ?_
            refine E_sts 3 (79, [(0, .ref 0), (1, .int v1), (2, .int v2)], [.int v1, .ref 32], SH0, [(3211, fun _ => r51.1), (3212, fun _ => r51.2.1), (3213, fun _ => r51.2.2.1), (3214, fun _ => r51.2.2.2.1), (3300, r51.2.2.2.2.1), (3400, r51.2.2.2.2.2.1), (3500, r51.2.2.2.2.2.2)], lg) rfl ?_
            obtain ⟨r79, hr, h⟩ := x_bind h
            refine E_call rfl (e_X1_earliest X _ _ _ r79 hr) (by decide) ?_
            obtain rfl := Option.some.inj h
            refine E_sts 2 (93, [], [.int r79], SH0, [(100, (σ 100)), (3211, fun _ => r51.1), (3212, fun _ => r51.2.1), (3213, fun _ => r51.2.2.1), (3214, fun _ => r51.2.2.2.1), (3300, r51.2.2.2.2.1), (3400, r51.2.2.2.2.2.1), (3500, r51.2.2.2.2.2.2)], lg) rfl ?_
            exact E_ret rfl
          · refine E_itf hc ?_
            refine E_sts 3 (90, [(0, .ref 0), (1, .int v1), (2, .int v2)], [.int v1, .ref 32], SH0, [(3211, fun _ => r51.1), (3212, fun _ => r51.2.1), (3213, fun _ => r51.2.2.1), (3214, fun _ => r51.2.2.2.1), (3300, r51.2.2.2.2.1), (3400, r51.2.2.2.2.2.1), (3500, r51.2.2.2.2.2.2)], lg) rfl ?_
            obtain ⟨r90, hr, h⟩ := x_bind h
            refine E_call rfl (e_X1_latest X _ _ _ r90 hr) (by decide) ?_
            obtain rfl := Option.some.inj h
            refine E_sts 1 (93, [], [.int r90], SH0, [(100, (σ 100)), (3211, fun _ => r51.1), (3212, fun _ => r51.2.1), (3213, fun _ => r51.2.2.1), (3214, fun _ => r51.2.2.2.1), (3300, r51.2.2.2.2.1), (3400, r51.2.2.2.2.2.1), (3500, r51.2.2.2.2.2.2)], lg) rfl ?_
            exact E_ret rfl
      · refine E_itf hc ?_
        refine E_sts 2 (39, [(0, .ref 0), (1, .int v1), (2, .int v2)], [.int 4, .ref 0], SH0, [], lg) rfl ?_
        obtain ⟨r39, hr, h⟩ := x_bind h
        refine E_call rfl (e_X5_finding X _ _ _ r39 hr) (by decide) ?_
        obtain rfl := Option.some.inj h
        refine E_sts 1 (42, [], [.int r39.1], SH0, [(100, r39.2), (3211, fun _ => (σ 3211 0)), (3212, fun _ => (σ 3212 0)), (3213, fun _ => (σ 3213 0)), (3214, fun _ => (σ 3214 0)), (3300, (σ 3300)), (3400, (σ 3400)), (3500, (σ 3500))], lg) rfl ?_
        exact E_ret rfl
set_option maxHeartbeats 4000000 in
set_option maxRecDepth 20000 in
theorem e_X6_bits_L4 (X : xX) (σ : xM) (lg : Int64) : ∀ (n : Nat), ∀ (v1 : Int32) (v2 : Int32) (r : Int32), X6_bits_L4 n v1 v2 = some r → E XP X 0 xm_126 σ (4, [(1, .int v1), (2, .int v2)], [], SH0, [], lg) (some (.int r), SH0, [], lg) := by
  intro n
  induction n with
  | zero => intro v1 v2 r h; rw [X6_bits_L4] at h; cases h
  | succ n ih =>
    intro v1 v2 r h
    rw [X6_bits_L4] at h
    refine E_sts 2 (if v2 = 0 then 20 else 8, [(1, .int v1), (2, .int v2)], [], SH0, [], lg) rfl ?_
    rcases x_br h with ⟨hc, h⟩ | ⟨hc, h⟩
    · refine E_itt hc ?_
      obtain rfl := Option.some.inj h
      refine E_sts 1 (21, [(1, .int v1), (2, .int v2)], [.int v1], SH0, [], lg) rfl ?_
      exact E_ret rfl
    · refine E_itf hc ?_
      refine E_sts 9 (4, [(1, .int (v1 + 1)), (2, .int (v2 &&& (v2 - 1)))], [], SH0, [], lg) rfl ?_
      exact ih (v1 + 1) (v2 &&& (v2 - 1)) r h
set_option maxHeartbeats 4000000 in
set_option maxRecDepth 20000 in
theorem e_X6_bits (X : xX) (σ : xM) (lg : Int64) (v0 : Int32) (r : Int32) (h : X6_bits v0 = some r) : EM XP X 1 126 [.int v0] SH0 lg σ (some (.int r), SH0, [], lg) := by
  refine EM_of (M := xm_126) rfl rfl ?_
  unfold X6_bits at h
  refine E_sts 5 (4, [(1, .int 0), (2, .int v0)], [], SH0, [], lg) rfl ?_
  exact e_X6_bits_L4 X σ lg _ 0 v0 r h
set_option maxHeartbeats 4000000 in
set_option maxRecDepth 20000 in
theorem e_X6_place_L142 (X : xX) (σ : xM) (lg : Int64) (k62 : Int32 → Int32 → Int32 → Int32 → Int32 → (Nat → Int32) → (Nat → Int32) → Option (Int32 × (Nat → Int32) × (Nat → Int32) × (Nat → Int32))) (h62 : ∀ (v1 : Int32) (v2 : Int32) (v3 : Int32) (v4 : Int32) (v5 : Int32) (m_comesTo_ : (Nat → Int32)) (m_goesOn_ : (Nat → Int32)) (r : Int32 × (Nat → Int32) × (Nat → Int32) × (Nat → Int32)), k62 v1 v2 v3 v4 v5 m_comesTo_ m_goesOn_ = some r → E XP X 3 xm_165 σ (62, [(0, .ref 52), (1, .int v1), (2, .int v2), (3, .int v3), (4, .int v4), (5, .int v5)], [], SH0, [(5900, m_comesTo_), (6000, m_goesOn_)], lg) (some (.int r.1), SH0, [(5600, r.2.1), (5900, r.2.2.1), (6000, r.2.2.2)], lg)) : ∀ (v1 : Int32) (v2 : Int32) (v4 : Int32) (v5 : Int32) (v6 : Int32) (v7 : Int32) (t0 : Int32) (m_comesTo_ : (Nat → Int32)) (m_goesOn_ : (Nat → Int32)) (r : Int32 × (Nat → Int32) × (Nat → Int32) × (Nat → Int32)), X6_place_L142 k62 v1 v2 v4 v5 v6 v7 t0 m_comesTo_ m_goesOn_ = some r → E XP X 3 xm_165 σ (142, [(0, .ref 52), (1, .int v1), (2, .int v2), (4, .int v4), (5, .int v5), (6, .int v6), (7, .int v7)], [.int t0], SH0, [(5900, m_comesTo_), (6000, m_goesOn_)], lg) (some (.int r.1), SH0, [(5600, r.2.1), (5900, r.2.2.1), (6000, r.2.2.2)], lg) := by
  intro v1 v2 v4 v5 v6 v7 t0 m_comesTo_ m_goesOn_ r h
  unfold X6_place_L142 at h
  refine E_sts 3 (if v6 = 0 then 158 else 148, [(0, .ref 52), (1, .int v1), (2, .int v2), (3, .int t0), (4, .int v4), (5, .int v5), (6, .int v6), (7, .int v7)], [], SH0, [(5900, m_comesTo_), (6000, m_goesOn_)], lg) rfl ?_
  rcases x_br h with ⟨hc, h⟩ | ⟨hc, h⟩
  · refine E_itt hc ?_
    refine E_sts 5 (62, [(0, .ref 52), (1, .int v1), (2, .int v2), (3, .int t0), (4, .int v4), (5, .int (v5 + 1))], [], SH0, [(5900, m_comesTo_), (6000, m_goesOn_)], lg) rfl ?_
    exact h62 v1 v2 t0 v4 (v5 + 1) m_comesTo_ m_goesOn_ r h
  · refine E_itf hc ?_
    refine E_sts 2 (152, [(0, .ref 52), (1, .int v1), (2, .int v2), (3, .int t0), (4, .int v4), (5, .int v5), (6, .int v6), (7, .int v7)], [.int v7, .int v4], SH0, [(5900, m_comesTo_), (6000, m_goesOn_)], lg) rfl ?_
    refine E_call rfl (e_X6_most X _ _ _ _ (X6_most v4 v7) rfl) (by decide) ?_
    refine E_sts 5 (62, [(0, .ref 52), (1, .int v1), (2, .int v2), (3, .int t0), (4, .int (X6_most v4 v7)), (5, .int (v5 + 1))], [], SH0, [(5900, m_comesTo_), (6000, m_goesOn_)], lg) rfl ?_
    exact h62 v1 v2 t0 (X6_most v4 v7) (v5 + 1) m_comesTo_ m_goesOn_ r h
set_option maxHeartbeats 4000000 in
set_option maxRecDepth 20000 in
theorem e_X6_place_L109 (X : xX) (σ : xM) (lg : Int64) (k62 : Int32 → Int32 → Int32 → Int32 → Int32 → (Nat → Int32) → (Nat → Int32) → Option (Int32 × (Nat → Int32) × (Nat → Int32) × (Nat → Int32))) (h62 : ∀ (v1 : Int32) (v2 : Int32) (v3 : Int32) (v4 : Int32) (v5 : Int32) (m_comesTo_ : (Nat → Int32)) (m_goesOn_ : (Nat → Int32)) (r : Int32 × (Nat → Int32) × (Nat → Int32) × (Nat → Int32)), k62 v1 v2 v3 v4 v5 m_comesTo_ m_goesOn_ = some r → E XP X 3 xm_165 σ (62, [(0, .ref 52), (1, .int v1), (2, .int v2), (3, .int v3), (4, .int v4), (5, .int v5)], [], SH0, [(5900, m_comesTo_), (6000, m_goesOn_)], lg) (some (.int r.1), SH0, [(5600, r.2.1), (5900, r.2.2.1), (6000, r.2.2.2)], lg)) : ∀ (v1 : Int32) (v2 : Int32) (v3 : Int32) (v4 : Int32) (v5 : Int32) (t0 : Int32) (m_comesTo_ : (Nat → Int32)) (m_goesOn_ : (Nat → Int32)) (r : Int32 × (Nat → Int32) × (Nat → Int32) × (Nat → Int32)), X6_place_L109 k62 (σ 5300) v1 v2 v3 v4 v5 t0 m_comesTo_ m_goesOn_ = some r → E XP X 3 xm_165 σ (109, [(0, .ref 52), (1, .int v1), (2, .int v2), (3, .int v3), (4, .int v4), (5, .int v5)], [.int t0], SH0, [(5900, m_comesTo_), (6000, m_goesOn_)], lg) (some (.int r.1), SH0, [(5600, r.2.1), (5900, r.2.2.1), (6000, r.2.2.2)], lg) := by
  intro v1 v2 v3 v4 v5 t0 m_comesTo_ m_goesOn_ r h
  unfold X6_place_L109 at h
  refine E_sts 2 (113, [(0, .ref 52), (1, .int v1), (2, .int v2), (3, .int v3), (4, .int v4), (5, .int v5), (6, .int t0)], [.int v5], SH0, [(5900, m_comesTo_), (6000, m_goesOn_)], lg) rfl ?_
  obtain ⟨r113, hr, h⟩ := x_bind h
  refine E_call rfl (e_X6_bits X _ _ _ r113 hr) (by decide) ?_
  refine E_sts 3 (121, [(0, .ref 52), (1, .int v1), (2, .int v2), (3, .int v3), (4, .int v4), (5, .int v5), (6, .int t0)], [.int 2, .ref 53, .int r113], SH0, [(5900, m_comesTo_), (6000, m_goesOn_)], lg) rfl ?_
  refine E_par (p := inr 2 83) (122, [(0, .ref 52), (1, .int v1), (2, .int v2), (3, .int v3), (4, .int v4), (5, .int v5), (6, .int t0)], [.int ((σ 5300) 2), .int r113], SH0, [(5900, m_comesTo_), (6000, m_goesOn_)], lg) rfl (by decide) ?_
  refine E_sts 4 (if t0 = 0 then 141 else 130, [(0, .ref 52), (1, .int v1), (2, .int v2), (3, .int v3), (4, .int v4), (5, .int v5), (6, .int t0), (7, .int (r113 - ((σ 5300) 2)))], [], SH0, [(5900, m_comesTo_), (6000, m_goesOn_)], lg) rfl ?_
  rcases x_br h with ⟨hc, h⟩ | ⟨hc, h⟩
  · refine E_itt hc ?_
    refine E_sts 2 (142, [(0, .ref 52), (1, .int v1), (2, .int v2), (4, .int v4), (5, .int v5), (6, .int t0), (7, .int (r113 - ((σ 5300) 2)))], [.int v3], SH0, [(5900, m_comesTo_), (6000, m_goesOn_)], lg) rfl ?_
    exact e_X6_place_L142 X σ lg _ (fun v10 v20 v30 v40 v50 m_comesTo_0 m_goesOn_0 r h => h62 v10 v20 v30 v40 v50 m_comesTo_0 m_goesOn_0 r h) v1 v2 v4 v5 t0 (r113 - ((σ 5300) 2)) v3 m_comesTo_ m_goesOn_ r h
  · refine E_itf hc ?_
    refine E_sts 3 (if v3 ≤ (r113 - ((σ 5300) 2)) then 141 else 136, [(0, .ref 52), (1, .int v1), (2, .int v2), (3, .int v3), (4, .int v4), (5, .int v5), (6, .int t0), (7, .int (r113 - ((σ 5300) 2)))], [], SH0, [(5900, m_comesTo_), (6000, m_goesOn_)], lg) rfl ?_
    rcases x_br h with ⟨hc, h⟩ | ⟨hc, h⟩
    · refine E_itt hc ?_
      refine E_sts 2 (142, [(0, .ref 52), (1, .int v1), (2, .int v2), (4, .int v4), (5, .int v5), (6, .int t0), (7, .int (r113 - ((σ 5300) 2)))], [.int v3], SH0, [(5900, m_comesTo_), (6000, m_goesOn_)], lg) rfl ?_
      exact e_X6_place_L142 X σ lg _ (fun v10 v20 v30 v40 v50 m_comesTo_0 m_goesOn_0 r h => h62 v10 v20 v30 v40 v50 m_comesTo_0 m_goesOn_0 r h) v1 v2 v4 v5 t0 (r113 - ((σ 5300) 2)) v3 m_comesTo_ m_goesOn_ r h
    · refine E_itf hc ?_
      refine E_sts 3 (142, [(0, .ref 52), (1, .int v1), (2, .int v2), (4, .int v4), (5, .int v5), (6, .int t0), (7, .int (r113 - ((σ 5300) 2)))], [.int (r113 - ((σ 5300) 2))], SH0, [(5900, m_comesTo_), (6000, m_goesOn_)], lg) rfl ?_
      exact e_X6_place_L142 X σ lg _ (fun v10 v20 v30 v40 v50 m_comesTo_0 m_goesOn_0 r h => h62 v10 v20 v30 v40 v50 m_comesTo_0 m_goesOn_0 r h) v1 v2 v4 v5 t0 (r113 - ((σ 5300) 2)) (r113 - ((σ 5300) 2)) m_comesTo_ m_goesOn_ r h
set_option maxHeartbeats 4000000 in
set_option maxRecDepth 20000 in
theorem e_X6_place_L62 (X : xX) (σ : xM) (lg : Int64) : ∀ (n : Nat), ∀ (v1 : Int32) (v2 : Int32) (v3 : Int32) (v4 : Int32) (v5 : Int32) (m_comesTo_ : (Nat → Int32)) (m_goesOn_ : (Nat → Int32)) (r : Int32 × (Nat → Int32) × (Nat → Int32) × (Nat → Int32)), X6_place_L62 (σ 5300) (σ 5600) n v1 v2 v3 v4 v5 m_comesTo_ m_goesOn_ = some r → E XP X 3 xm_165 σ (62, [(0, .ref 52), (1, .int v1), (2, .int v2), (3, .int v3), (4, .int v4), (5, .int v5)], [], SH0, [(5900, m_comesTo_), (6000, m_goesOn_)], lg) (some (.int r.1), SH0, [(5600, r.2.1), (5900, r.2.2.1), (6000, r.2.2.2)], lg) := by
  intro n
  induction n with
  | zero => intro v1 v2 v3 v4 v5 m_comesTo_ m_goesOn_ r h; rw [X6_place_L62] at h; cases h
  | succ n ih =>
    intro v1 v2 v3 v4 v5 m_comesTo_ m_goesOn_ r h
    rw [X6_place_L62] at h
    refine E_sts 3 (if 512 ≤ v5 then 168 else 70, [(0, .ref 52), (1, .int v1), (2, .int v2), (3, .int v3), (4, .int v4), (5, .int v5)], [], SH0, [(5900, m_comesTo_), (6000, m_goesOn_)], lg) rfl ?_
    rcases x_br h with ⟨hc, h⟩ | ⟨hc, h⟩
    · refine E_itt hc ?_
      refine E_sts 2 (if v2 = 0 then 172 else 176, [(0, .ref 52), (1, .int v1), (2, .int v2), (3, .int v3), (4, .int v4), (5, .int v5)], [], SH0, [(5900, m_comesTo_), (6000, m_goesOn_)], lg) rfl ?_
      rcases x_br h with ⟨hc, h⟩ | ⟨hc, h⟩
      · refine E_itt hc ?_
        obtain rfl := Option.some.inj h
        refine E_sts 3 (178, [], [.int v3], SH0, [(5600, (σ 5600)), (5900, m_comesTo_), (6000, m_goesOn_)], lg) rfl ?_
        exact E_ret rfl
      · refine E_itf hc ?_
        obtain rfl := Option.some.inj h
        refine E_sts 2 (178, [], [.int v4], SH0, [(5600, (σ 5600)), (5900, m_comesTo_), (6000, m_goesOn_)], lg) rfl ?_
        exact E_ret rfl
    · refine E_itf hc ?_
      refine E_sts 3 (76, [(0, .ref 52), (1, .int v1), (2, .int v2), (3, .int v3), (4, .int v4), (5, .int v5)], [.int v5, .ref 59], SH0, [(5900, m_comesTo_), (6000, m_goesOn_)], lg) rfl ?_
      obtain ⟨hp, h⟩ := x_ite h
      refine E_par (p := inr v5 512) (77, [(0, .ref 52), (1, .int v1), (2, .int v2), (3, .int v3), (4, .int v4), (5, .int v5)], [.int (m_comesTo_ v5.toNatClampNeg)], SH0, [(5900, m_comesTo_), (6000, m_goesOn_)], lg) rfl hp ?_
      refine E_sts 1 (if (m_comesTo_ v5.toNatClampNeg) ≤ 0 then 108 else 80, [(0, .ref 52), (1, .int v1), (2, .int v2), (3, .int v3), (4, .int v4), (5, .int v5)], [], SH0, [(5900, m_comesTo_), (6000, m_goesOn_)], lg) rfl ?_
      rcases x_br h with ⟨hc, h⟩ | ⟨hc, h⟩
      · refine E_itt hc ?_
        refine E_sts 2 (109, [(0, .ref 52), (1, .int v1), (2, .int v2), (3, .int v3), (4, .int v4), (5, .int v5)], [.int 0], SH0, [(5900, m_comesTo_), (6000, m_goesOn_)], lg) rfl ?_
        exact e_X6_place_L109 X σ lg _ (fun v10 v20 v30 v40 v50 m_comesTo_0 m_goesOn_0 r h => ih v10 v20 v30 v40 v50 m_comesTo_0 m_goesOn_0 r h) v1 v2 v3 v4 v5 0 m_comesTo_ m_goesOn_ r h
      · refine E_itf hc ?_
        refine E_sts 3 (84, [(0, .ref 52), (1, .int v1), (2, .int v2), (3, .int v3), (4, .int v4), (5, .int v5)], [.int v5, .int v1, .ref 52], SH0, [(5900, m_comesTo_), (6000, m_goesOn_)], lg) rfl ?_
        obtain ⟨r84, hr, h⟩ := x_bind h
        refine E_call rfl (e_X6_canBehind X _ _ _ _ r84 hr) (by decide) ?_
        refine E_sts 1 (if (xb r84) = 0 then 108 else 90, [(0, .ref 52), (1, .int v1), (2, .int v2), (3, .int v3), (4, .int v4), (5, .int v5)], [], SH0, [(5900, m_comesTo_), (6000, m_goesOn_)], lg) rfl ?_
        rcases x_br h with ⟨hc, h⟩ | ⟨hc, h⟩
        · refine E_itt hc ?_
          refine E_sts 2 (109, [(0, .ref 52), (1, .int v1), (2, .int v2), (3, .int v3), (4, .int v4), (5, .int v5)], [.int 0], SH0, [(5900, m_comesTo_), (6000, m_goesOn_)], lg) rfl ?_
          exact e_X6_place_L109 X σ lg _ (fun v10 v20 v30 v40 v50 m_comesTo_0 m_goesOn_0 r h => ih v10 v20 v30 v40 v50 m_comesTo_0 m_goesOn_0 r h) v1 v2 v3 v4 v5 0 m_comesTo_ m_goesOn_ r h
        · refine E_itf hc ?_
          refine E_sts 7 (100, [(0, .ref 52), (1, .int v1), (2, .int v2), (3, .int v3), (4, .int v4), (5, .int v5)], [.int (v5 ||| (xshl 1 v1)), .ref 60], SH0, [(5900, m_comesTo_), (6000, m_goesOn_)], lg) rfl ?_
          obtain ⟨hp, h⟩ := x_ite h
          refine E_par (p := inr (v5 ||| (xshl 1 v1)) 512) (101, [(0, .ref 52), (1, .int v1), (2, .int v2), (3, .int v3), (4, .int v4), (5, .int v5)], [.int (m_goesOn_ (v5 ||| (xshl 1 v1)).toNatClampNeg)], SH0, [(5900, m_comesTo_), (6000, m_goesOn_)], lg) rfl hp ?_
          refine E_sts 1 (if (m_goesOn_ (v5 ||| (xshl 1 v1)).toNatClampNeg) ≤ 0 then 108 else 104, [(0, .ref 52), (1, .int v1), (2, .int v2), (3, .int v3), (4, .int v4), (5, .int v5)], [], SH0, [(5900, m_comesTo_), (6000, m_goesOn_)], lg) rfl ?_
          rcases x_br h with ⟨hc, h⟩ | ⟨hc, h⟩
          · refine E_itt hc ?_
            refine E_sts 2 (109, [(0, .ref 52), (1, .int v1), (2, .int v2), (3, .int v3), (4, .int v4), (5, .int v5)], [.int 0], SH0, [(5900, m_comesTo_), (6000, m_goesOn_)], lg) rfl ?_
            exact e_X6_place_L109 X σ lg _ (fun v10 v20 v30 v40 v50 m_comesTo_0 m_goesOn_0 r h => ih v10 v20 v30 v40 v50 m_comesTo_0 m_goesOn_0 r h) v1 v2 v3 v4 v5 0 m_comesTo_ m_goesOn_ r h
          · refine E_itf hc ?_
            refine E_sts 3 (109, [(0, .ref 52), (1, .int v1), (2, .int v2), (3, .int v3), (4, .int v4), (5, .int v5)], [.int 1], SH0, [(5900, m_comesTo_), (6000, m_goesOn_)], lg) rfl ?_
            exact e_X6_place_L109 X σ lg _ (fun v10 v20 v30 v40 v50 m_comesTo_0 m_goesOn_0 r h => ih v10 v20 v30 v40 v50 m_comesTo_0 m_goesOn_0 r h) v1 v2 v3 v4 v5 1 m_comesTo_ m_goesOn_ r h
set_option maxHeartbeats 4000000 in
set_option maxRecDepth 20000 in
theorem e_X6_place (X : xX) (σ : xM) (lg : Int64) (v1 : Int32) (v2 : Int32) (r : Int32 × (Nat → Int32) × (Nat → Int32) × (Nat → Int32)) (h : X6_place (σ 5300) (σ 5600) (σ 5900) (σ 6000) v1 v2 = some r) : EM XP X 4 165 [.ref 52, .int v1, .int v2] SH0 lg σ (some (.int r.1), SH0, [(5600, r.2.1), (5900, r.2.2.1), (6000, r.2.2.2)], lg) := by
  refine EM_of (M := xm_165) rfl rfl ?_
  unfold X6_place at h
  refine E_sts 2 (2, [(0, .ref 52), (1, .int v1), (2, .int v2)], [.int v1, .ref 52], SH0, [], lg) rfl ?_
  obtain ⟨r2, hr, h⟩ := x_bind h
  refine E_call rfl (e_X6_isBow X _ _ _ r2 hr) (by decide) ?_
  refine E_sts 1 (if (xb r2) = 0 then 17 else 8, [(0, .ref 52), (1, .int v1), (2, .int v2)], [], SH0, [], lg) rfl ?_
  rcases x_br h with ⟨hc, h⟩ | ⟨hc, h⟩
  · refine E_itt hc ?_
    refine E_sts 2 (19, [(0, .ref 52), (1, .int v1), (2, .int v2)], [.int 0, .ref 52], SH0, [], lg) rfl ?_
    obtain ⟨r19, hr, h⟩ := x_bind h
    refine E_call rfl (e_X6_no X _ _ _ r19 hr) (by decide) ?_
    obtain rfl := Option.some.inj h
    refine E_sts 1 (22, [], [.int r19.1], SH0, [(5600, r19.2), (5900, (σ 5900)), (6000, (σ 6000))], lg) rfl ?_
    exact E_ret rfl
  · refine E_itf hc ?_
    refine E_sts 3 (11, [(0, .ref 52), (1, .int v1), (2, .int v2)], [.int 1, .int 0, .int v2], SH0, [], lg) rfl ?_
    refine E_call rfl (e_X6_in1 X _ _ _ _ _ (X6_in1 v2 0 1) rfl) (by decide) ?_
    refine E_sts 1 (if (xb (X6_in1 v2 0 1)) = 0 then 17 else 23, [(0, .ref 52), (1, .int v1), (2, .int v2)], [], SH0, [], lg) rfl ?_
    rcases x_br h with ⟨hc, h⟩ | ⟨hc, h⟩
    · refine E_itt hc ?_
      refine E_sts 2 (19, [(0, .ref 52), (1, .int v1), (2, .int v2)], [.int 0, .ref 52], SH0, [], lg) rfl ?_
      obtain ⟨r19_1, hr, h⟩ := x_bind h
      refine E_call rfl (e_X6_no X _ _ _ r19_1 hr) (by decide) ?_
      obtain rfl := Option.some.inj h
      refine E_sts 1 (22, [], [.int r19_1.1], SH0, [(5600, r19_1.2), (5900, (σ 5900)), (6000, (σ 6000))], lg) rfl ?_
      exact E_ret rfl
    · refine E_itf hc ?_
      refine E_sts 1 (24, [(0, .ref 52), (1, .int v1), (2, .int v2)], [.ref 52], SH0, [], lg) rfl ?_
      obtain ⟨r24, hr, h⟩ := x_bind h
      refine E_call rfl (e_X6_stageSet X _ _ r24 hr) (by decide) ?_
      refine E_sts 1 (28, [(0, .ref 52), (1, .int v1), (2, .int v2)], [.int v1, .int r24], SH0, [], lg) rfl ?_
      refine E_call rfl (e_X6_isIn X _ _ _ _ (X6_isIn r24 v1) rfl) (by decide) ?_
      refine E_sts 1 (if (xb (X6_isIn r24 v1)) = 0 then 40 else 34, [(0, .ref 52), (1, .int v1), (2, .int v2)], [], SH0, [], lg) rfl ?_
      rcases x_br h with ⟨hc, h⟩ | ⟨hc, h⟩
      · refine E_itt hc ?_
        refine E_sts 1 (41, [(0, .ref 52), (1, .int v1), (2, .int v2)], [.ref 52], SH0, [], lg) rfl ?_
        obtain ⟨r41, hr, h⟩ := x_bind h
        refine E_call rfl (e_X6_countsWays X _ _ r41 hr) (by decide) ?_
        refine E_sts 1 (if r41.1 = 0 then 47 else 53, [(0, .ref 52), (1, .int v1), (2, .int v2)], [], SH0, [(5900, r41.2.1), (6000, r41.2.2)], lg) rfl ?_
        rcases x_br h with ⟨hc, h⟩ | ⟨hc, h⟩
        · refine E_itt hc ?_
          refine E_sts 2 (49, [(0, .ref 52), (1, .int v1), (2, .int v2)], [.int 3, .ref 52], SH0, [(5900, r41.2.1), (6000, r41.2.2)], lg) rfl ?_
          obtain ⟨r49, hr, h⟩ := x_bind h
          refine E_call rfl (e_X6_no X _ _ _ r49 hr) (by decide) ?_
          obtain rfl := Option.some.inj h
          exact E_ret rfl
        · refine E_itf hc ?_
          refine E_sts 7 (62, [(0, .ref 52), (1, .int v1), (2, .int v2), (3, .int 9), (4, .int 0), (5, .int 0)], [], SH0, [(5900, r41.2.1), (6000, r41.2.2)], lg) rfl ?_
          exact e_X6_place_L62 X σ lg _ v1 v2 9 0 0 r41.2.1 r41.2.2 r h
      · refine E_itf hc ?_
        refine E_sts 2 (36, [(0, .ref 52), (1, .int v1), (2, .int v2)], [.int 4, .ref 52], SH0, [], lg) rfl ?_
        obtain ⟨r36, hr, h⟩ := x_bind h
        refine E_call rfl (e_X6_no X _ _ _ r36 hr) (by decide) ?_
        obtain rfl := Option.some.inj h
        refine E_sts 1 (39, [], [.int r36.1], SH0, [(5600, r36.2), (5900, (σ 5900)), (6000, (σ 6000))], lg) rfl ?_
        exact E_ret rfl
set_option maxHeartbeats 4000000 in
set_option maxRecDepth 20000 in
theorem e_X5_all (X : xX) (σ : xM) (lg : Int64) (v1 : Int32) (r : Int32 × (Nat → Int32) × Int32 × Int32 × Int32 × Int32 × (Nat → Int32) × (Nat → Int32) × (Nat → Int32)) (h : X5_all (σ 100) (σ 201 0) (σ 207 0) (σ 208 0) (σ 300) (σ 400) (σ 600) (σ 800) (σ 3211 0) (σ 3212 0) (σ 3213 0) (σ 3214 0) (σ 3300) (σ 3400) (σ 3500) v1 = some r) : EM XP X 2 84 [.ref 0, .int v1] SH0 lg σ (some (.int r.1), SH0, [(100, r.2.1), (3211, fun _ => r.2.2.1), (3212, fun _ => r.2.2.2.1), (3213, fun _ => r.2.2.2.2.1), (3214, fun _ => r.2.2.2.2.2.1), (3300, r.2.2.2.2.2.2.1), (3400, r.2.2.2.2.2.2.2.1), (3500, r.2.2.2.2.2.2.2.2)], lg) := by
  refine EM_of (M := xm_84) rfl rfl ?_
  unfold X5_all at h
  refine E_sts 3 (5, [(0, .ref 0), (1, .int v1)], [.int v1, .ref 2], SH0, [], lg) rfl ?_
  refine E_call rfl (e_X2_isBow X _ _ _ (X2_isBow (σ 201 0) v1) rfl) (by decide) ?_
  refine E_sts 1 (if (xb (X2_isBow (σ 201 0) v1)) = 0 then 11 else 17, [(0, .ref 0), (1, .int v1)], [], SH0, [], lg) rfl ?_
  rcases x_br h with ⟨hc, h⟩ | ⟨hc, h⟩
  · refine E_itt hc ?_
    refine E_sts 2 (13, [(0, .ref 0), (1, .int v1)], [.int 0, .ref 0], SH0, [], lg) rfl ?_
    obtain ⟨r13, hr, h⟩ := x_bind h
    refine E_call rfl (e_X5_finding X _ _ _ r13 hr) (by decide) ?_
    obtain rfl := Option.some.inj h
    refine E_sts 1 (16, [], [.int r13.1], SH0, [(100, r13.2), (3211, fun _ => (σ 3211 0)), (3212, fun _ => (σ 3212 0)), (3213, fun _ => (σ 3213 0)), (3214, fun _ => (σ 3214 0)), (3300, (σ 3300)), (3400, (σ 3400)), (3500, (σ 3500))], lg) rfl ?_
    exact E_ret rfl
  · refine E_itf hc ?_
    refine E_sts 4 (25, [(0, .ref 0), (1, .int v1)], [.ref 2, .ref 32], SH0, [], lg) rfl ?_
    obtain ⟨r25, hr, h⟩ := x_bind h
    refine E_call rfl (e_X1_startFrom X _ _ r25 hr) (by decide) ?_
    refine E_sts 6 (40, [(0, .ref 0), (1, .int v1)], [.int r25.2.2.2.1, .int v1, .ref 32], SH0, [(3211, fun _ => r25.1), (3212, fun _ => r25.2.1), (3213, fun _ => r25.2.2.1), (3214, fun _ => r25.2.2.2.1), (3300, r25.2.2.2.2.1), (3400, r25.2.2.2.2.2.1), (3500, r25.2.2.2.2.2.2)], lg) rfl ?_
    obtain ⟨r40, hr, h⟩ := x_bind h
    refine E_call rfl (e_X1_allAhead X _ _ _ _ r40 hr) (by decide) ?_
    obtain rfl := Option.some.inj h
    refine E_sts 1 (43, [], [.int r40], SH0, [(100, (σ 100)), (3211, fun _ => r25.1), (3212, fun _ => r25.2.1), (3213, fun _ => r25.2.2.1), (3214, fun _ => r25.2.2.2.1), (3300, r25.2.2.2.2.1), (3400, r25.2.2.2.2.2.1), (3500, r25.2.2.2.2.2.2)], lg) rfl ?_
    exact E_ret rfl
set_option maxHeartbeats 4000000 in
set_option maxRecDepth 20000 in
theorem e_X6_allAhead_L18 (X : xX) (σ : xM) (lg : Int64) (k9 : Int32 → Int32 → Option (Int32)) (h9 : ∀ (v2 : Int32) (v3 : Int32) (r : Int32), k9 v2 v3 = some r → E XP X 1 xm_166 σ (9, [(0, .ref 52), (2, .int v2), (3, .int v3)], [], SH0, [], lg) (some (.int r), SH0, [], lg)) : ∀ (n : Nat), ∀ (v2 : Int32) (v3 : Int32) (v4 : Int32) (r : Int32), X6_allAhead_L18 k9 (σ 5300) n v2 v3 v4 = some r → E XP X 1 xm_166 σ (18, [(0, .ref 52), (2, .int v2), (3, .int v3), (4, .int v4)], [], SH0, [], lg) (some (.int r), SH0, [], lg) := by
  intro n
  induction n with
  | zero => intro v2 v3 v4 r h; rw [X6_allAhead_L18] at h; cases h
  | succ n ih =>
    intro v2 v3 v4 r h
    rw [X6_allAhead_L18] at h
    refine E_sts 4 (25, [(0, .ref 52), (2, .int v2), (3, .int v3), (4, .int v4)], [.int 3, .ref 53, .int v4], SH0, [], lg) rfl ?_
    refine E_par (p := inr 3 83) (26, [(0, .ref 52), (2, .int v2), (3, .int v3), (4, .int v4)], [.int ((σ 5300) 3), .int v4], SH0, [], lg) rfl (by decide) ?_
    refine E_sts 1 (if ((σ 5300) 3) ≤ v4 then 58 else 29, [(0, .ref 52), (2, .int v2), (3, .int v3), (4, .int v4)], [], SH0, [], lg) rfl ?_
    rcases x_br h with ⟨hc, h⟩ | ⟨hc, h⟩
    · refine E_itt hc ?_
      refine E_sts 3 (9, [(0, .ref 52), (2, .int v2), (3, .int (v3 + 1))], [], SH0, [], lg) rfl ?_
      exact h9 v2 (v3 + 1) r h
    · refine E_itf hc ?_
      refine E_sts 3 (33, [(0, .ref 52), (2, .int v2), (3, .int v3), (4, .int v4)], [.int v4, .int v2, .int v2], SH0, [], lg) rfl ?_
      refine E_call rfl (e_X6_isIn X _ _ _ _ (X6_isIn v2 v4) rfl) (by decide) ?_
      refine E_sts 1 (if (xb (X6_isIn v2 v4)) = 0 then 49 else 39, [(0, .ref 52), (2, .int v2), (3, .int v3), (4, .int v4)], [.int v2], SH0, [], lg) rfl ?_
      rcases x_br h with ⟨hc, h⟩ | ⟨hc, h⟩
      · refine E_itt hc ?_
        refine E_sts 6 (18, [(0, .ref 52), (2, .int (v2 ||| 0)), (3, .int v3), (4, .int (v4 + 1))], [], SH0, [], lg) rfl ?_
        exact ih (v2 ||| 0) v3 (v4 + 1) r h
      · refine E_itf hc ?_
        refine E_sts 3 (43, [(0, .ref 52), (2, .int v2), (3, .int v3), (4, .int v4)], [.int 3, .int v4, .ref 52, .int v2], SH0, [], lg) rfl ?_
        obtain ⟨r43, hr, h⟩ := x_bind h
        refine E_call rfl (e_X6_get X _ _ _ _ r43 hr) (by decide) ?_
        refine E_sts 6 (18, [(0, .ref 52), (2, .int (v2 ||| r43)), (3, .int v3), (4, .int (v4 + 1))], [], SH0, [], lg) rfl ?_
        exact ih (v2 ||| r43) v3 (v4 + 1) r h
set_option maxHeartbeats 4000000 in
set_option maxRecDepth 20000 in
theorem e_X6_allAhead_L9 (X : xX) (σ : xM) (lg : Int64) : ∀ (n : Nat), ∀ (v2 : Int32) (v3 : Int32) (r : Int32), X6_allAhead_L9 (σ 5300) n v2 v3 = some r → E XP X 1 xm_166 σ (9, [(0, .ref 52), (2, .int v2), (3, .int v3)], [], SH0, [], lg) (some (.int r), SH0, [], lg) := by
  intro n
  induction n with
  | zero => intro v2 v3 r h; rw [X6_allAhead_L9] at h; cases h
  | succ n ih =>
    intro v2 v3 r h
    rw [X6_allAhead_L9] at h
    refine E_sts 3 (if 9 ≤ v3 then 64 else 15, [(0, .ref 52), (2, .int v2), (3, .int v3)], [], SH0, [], lg) rfl ?_
    rcases x_br h with ⟨hc, h⟩ | ⟨hc, h⟩
    · refine E_itt hc ?_
      obtain rfl := Option.some.inj h
      refine E_sts 1 (65, [(0, .ref 52), (2, .int v2), (3, .int v3)], [.int v2], SH0, [], lg) rfl ?_
      exact E_ret rfl
    · refine E_itf hc ?_
      refine E_sts 3 (18, [(0, .ref 52), (2, .int v2), (3, .int v3), (4, .int 0)], [], SH0, [], lg) rfl ?_
      exact e_X6_allAhead_L18 X σ lg _ (fun v20 v30 r h => ih v20 v30 r h) _ v2 v3 0 r h
set_option maxHeartbeats 4000000 in
set_option maxRecDepth 20000 in
theorem e_X6_allAhead (X : xX) (σ : xM) (lg : Int64) (v1 : Int32) (r : Int32) (h : X6_allAhead (σ 5300) v1 = some r) : EM XP X 2 166 [.ref 52, .int v1] SH0 lg σ (some (.int r), SH0, [], lg) := by
  refine EM_of (M := xm_166) rfl rfl ?_
  unfold X6_allAhead at h
  refine E_sts 3 (3, [(0, .ref 52), (1, .int v1)], [.int 3, .int v1, .ref 52], SH0, [], lg) rfl ?_
  obtain ⟨r3, hr, h⟩ := x_bind h
  refine E_call rfl (e_X6_get X _ _ _ _ r3 hr) (by decide) ?_
  refine E_sts 4 (9, [(0, .ref 52), (2, .int r3), (3, .int 0)], [], SH0, [], lg) rfl ?_
  exact e_X6_allAhead_L9 X σ lg _ r3 0 r h
set_option maxHeartbeats 4000000 in
set_option maxRecDepth 20000 in
theorem e_X6_all (X : xX) (σ : xM) (lg : Int64) (v1 : Int32) (r : Int32 × (Nat → Int32)) (h : X6_all (σ 5300) (σ 5600) v1 = some r) : EM XP X 3 167 [.ref 52, .int v1] SH0 lg σ (some (.int r.1), SH0, [(5600, r.2)], lg) := by
  refine EM_of (M := xm_167) rfl rfl ?_
  unfold X6_all at h
  refine E_sts 2 (2, [(0, .ref 52), (1, .int v1)], [.int v1, .ref 52], SH0, [], lg) rfl ?_
  obtain ⟨r2, hr, h⟩ := x_bind h
  refine E_call rfl (e_X6_isBow X _ _ _ r2 hr) (by decide) ?_
  refine E_sts 1 (if (xb r2) = 0 then 16 else 8, [(0, .ref 52), (1, .int v1)], [], SH0, [], lg) rfl ?_
  rcases x_br h with ⟨hc, h⟩ | ⟨hc, h⟩
  · refine E_itt hc ?_
    refine E_sts 2 (18, [(0, .ref 52), (1, .int v1)], [.int 0, .ref 52], SH0, [], lg) rfl ?_
    obtain ⟨r18, hr, h⟩ := x_bind h
    refine E_call rfl (e_X6_no X _ _ _ r18 hr) (by decide) ?_
    obtain rfl := Option.some.inj h
    refine E_sts 1 (21, [], [.int r18.1], SH0, [(5600, r18.2)], lg) rfl ?_
    exact E_ret rfl
  · refine E_itf hc ?_
    refine E_sts 2 (10, [(0, .ref 52), (1, .int v1)], [.int v1, .ref 52], SH0, [], lg) rfl ?_
    obtain ⟨r10, hr, h⟩ := x_bind h
    refine E_call rfl (e_X6_allAhead X _ _ _ r10 hr) (by decide) ?_
    obtain rfl := Option.some.inj h
    refine E_sts 2 (21, [], [.int r10], SH0, [(5600, (σ 5600))], lg) rfl ?_
    exact E_ret rfl
set_option maxHeartbeats 4000000 in
set_option maxRecDepth 20000 in
theorem e_X5_clash_L15 (X : xX) (σ : xM) (lg : Int64) : ∀ (n : Nat), ∀ (v1 : Int32) (v2 : Int32) (od_bows_ : Int32) (od_came_ : Int32) (od_latest_ : Int32) (od_full_ : Int32) (od_kinds_ : (Nat → Int32)) (od_loves_ : (Nat → Int32)) (od_aheads_ : (Nat → Int32)) (r : Int32 × Int32 × Int32 × Int32 × Int32 × (Nat → Int32) × (Nat → Int32) × (Nat → Int32)), X5_clash_L15 (σ 201 0) n v1 v2 od_bows_ od_came_ od_latest_ od_full_ od_kinds_ od_loves_ od_aheads_ = some r → E XP X 1 xm_85 σ (15, [(0, .ref 0), (1, .int v1), (2, .int v2)], [], SH0, [(3211, fun _ => od_bows_), (3212, fun _ => od_came_), (3213, fun _ => od_latest_), (3214, fun _ => od_full_), (3300, od_kinds_), (3400, od_loves_), (3500, od_aheads_)], lg) (some (.int r.1), SH0, [(3211, fun _ => r.2.1), (3212, fun _ => r.2.2.1), (3213, fun _ => r.2.2.2.1), (3214, fun _ => r.2.2.2.2.1), (3300, r.2.2.2.2.2.1), (3400, r.2.2.2.2.2.2.1), (3500, r.2.2.2.2.2.2.2)], lg) := by
  intro n
  induction n with
  | zero => intro v1 v2 od_bows_ od_came_ od_latest_ od_full_ od_kinds_ od_loves_ od_aheads_ r h; rw [X5_clash_L15] at h; cases h
  | succ n ih =>
    intro v1 v2 od_bows_ od_came_ od_latest_ od_full_ od_kinds_ od_loves_ od_aheads_ r h
    rw [X5_clash_L15] at h
    refine E_sts 5 (if (σ 201 0) ≤ v2 then 54 else 26, [(0, .ref 0), (1, .int v1), (2, .int v2)], [], SH0, [(3211, fun _ => od_bows_), (3212, fun _ => od_came_), (3213, fun _ => od_latest_), (3214, fun _ => od_full_), (3300, od_kinds_), (3400, od_loves_), (3500, od_aheads_)], lg) rfl ?_
    rcases x_br h with ⟨hc, h⟩ | ⟨hc, h⟩
    · refine E_itt hc ?_
      obtain rfl := Option.some.inj h
      refine E_sts 1 (55, [(0, .ref 0), (1, .int v1), (2, .int v2)], [.int v1], SH0, [(3211, fun _ => od_bows_), (3212, fun _ => od_came_), (3213, fun _ => od_latest_), (3214, fun _ => od_full_), (3300, od_kinds_), (3400, od_loves_), (3500, od_aheads_)], lg) rfl ?_
      exact E_ret rfl
    · refine E_itf hc ?_
      refine E_sts 7 (39, [(0, .ref 0), (1, .int v1), (2, .int v2)], [.int od_full_, .int v2, .ref 32, .int v1], SH0, [(3211, fun _ => od_bows_), (3212, fun _ => od_came_), (3213, fun _ => od_latest_), (3214, fun _ => od_full_), (3300, od_kinds_), (3400, od_loves_), (3500, od_aheads_)], lg) rfl ?_
      obtain ⟨r39, hr, h⟩ := x_bind h
      refine E_call rfl (e_X1_allAhead X _ _ _ _ r39 hr) (by decide) ?_
      refine E_sts 9 (15, [(0, .ref 0), (1, .int (v1 ||| (r39 &&& (xshl 1 v2)))), (2, .int (v2 + 1))], [], SH0, [(3211, fun _ => od_bows_), (3212, fun _ => od_came_), (3213, fun _ => od_latest_), (3214, fun _ => od_full_), (3300, od_kinds_), (3400, od_loves_), (3500, od_aheads_)], lg) rfl ?_
      exact ih (v1 ||| (r39 &&& (xshl 1 v2))) (v2 + 1) od_bows_ od_came_ od_latest_ od_full_ od_kinds_ od_loves_ od_aheads_ r h
set_option maxHeartbeats 4000000 in
set_option maxRecDepth 20000 in
theorem e_X5_clash (X : xX) (σ : xM) (lg : Int64) (r : Int32 × Int32 × Int32 × Int32 × Int32 × (Nat → Int32) × (Nat → Int32) × (Nat → Int32)) (h : X5_clash (σ 201 0) (σ 207 0) (σ 208 0) (σ 300) (σ 400) (σ 600) (σ 800) (σ 3300) (σ 3400) (σ 3500) = some r) : EM XP X 2 85 [.ref 0] SH0 lg σ (some (.int r.1), SH0, [(3211, fun _ => r.2.1), (3212, fun _ => r.2.2.1), (3213, fun _ => r.2.2.2.1), (3214, fun _ => r.2.2.2.2.1), (3300, r.2.2.2.2.2.1), (3400, r.2.2.2.2.2.2.1), (3500, r.2.2.2.2.2.2.2)], lg) := by
  refine EM_of (M := xm_85) rfl rfl ?_
  unfold X5_clash at h
  refine E_sts 4 (8, [(0, .ref 0)], [.ref 2, .ref 32], SH0, [], lg) rfl ?_
  obtain ⟨r8, hr, h⟩ := x_bind h
  refine E_call rfl (e_X1_startFrom X _ _ r8 hr) (by decide) ?_
  refine E_sts 5 (15, [(0, .ref 0), (1, .int 0), (2, .int 0)], [], SH0, [(3211, fun _ => r8.1), (3212, fun _ => r8.2.1), (3213, fun _ => r8.2.2.1), (3214, fun _ => r8.2.2.2.1), (3300, r8.2.2.2.2.1), (3400, r8.2.2.2.2.2.1), (3500, r8.2.2.2.2.2.2)], lg) rfl ?_
  exact e_X5_clash_L15 X σ lg _ 0 0 r8.1 r8.2.1 r8.2.2.1 r8.2.2.2.1 r8.2.2.2.2.1 r8.2.2.2.2.2.1 r8.2.2.2.2.2.2 r h
set_option maxHeartbeats 4000000 in
set_option maxRecDepth 20000 in
theorem e_X6_clash_L4 (X : xX) (σ : xM) (lg : Int64) : ∀ (n : Nat), ∀ (v1 : Int32) (v2 : Int32) (r : Int32), X6_clash_L4 (σ 5300) n v1 v2 = some r → E XP X 2 xm_168 σ (4, [(0, .ref 52), (1, .int v1), (2, .int v2)], [], SH0, [], lg) (some (.int r), SH0, [], lg) := by
  intro n
  induction n with
  | zero => intro v1 v2 r h; rw [X6_clash_L4] at h; cases h
  | succ n ih =>
    intro v1 v2 r h
    rw [X6_clash_L4] at h
    refine E_sts 4 (10, [(0, .ref 52), (1, .int v1), (2, .int v2)], [.int 3, .ref 53, .int v2], SH0, [], lg) rfl ?_
    refine E_par (p := inr 3 83) (11, [(0, .ref 52), (1, .int v1), (2, .int v2)], [.int ((σ 5300) 3), .int v2], SH0, [], lg) rfl (by decide) ?_
    refine E_sts 1 (if ((σ 5300) 3) ≤ v2 then 42 else 14, [(0, .ref 52), (1, .int v1), (2, .int v2)], [], SH0, [], lg) rfl ?_
    rcases x_br h with ⟨hc, h⟩ | ⟨hc, h⟩
    · refine E_itt hc ?_
      obtain rfl := Option.some.inj h
      refine E_sts 1 (43, [(0, .ref 52), (1, .int v1), (2, .int v2)], [.int v1], SH0, [], lg) rfl ?_
      exact E_ret rfl
    · refine E_itf hc ?_
      refine E_sts 3 (17, [(0, .ref 52), (1, .int v1), (2, .int v2)], [.int v2, .ref 52, .int v1], SH0, [], lg) rfl ?_
      obtain ⟨r17, hr, h⟩ := x_bind h
      refine E_call rfl (e_X6_allAhead X _ _ _ r17 hr) (by decide) ?_
      refine E_sts 1 (21, [(0, .ref 52), (1, .int v1), (2, .int v2)], [.int v2, .int r17, .int v1], SH0, [], lg) rfl ?_
      refine E_call rfl (e_X6_isIn X _ _ _ _ (X6_isIn r17 v2) rfl) (by decide) ?_
      refine E_sts 1 (if (xb (X6_isIn r17 v2)) = 0 then 33 else 27, [(0, .ref 52), (1, .int v1), (2, .int v2)], [.int v1], SH0, [], lg) rfl ?_
      rcases x_br h with ⟨hc, h⟩ | ⟨hc, h⟩
      · refine E_itt hc ?_
        refine E_sts 6 (4, [(0, .ref 52), (1, .int (v1 ||| 0)), (2, .int (v2 + 1))], [], SH0, [], lg) rfl ?_
        exact ih (v1 ||| 0) (v2 + 1) r h
      · refine E_itf hc ?_
        refine E_sts 9 (4, [(0, .ref 52), (1, .int (v1 ||| (xshl 1 v2))), (2, .int (v2 + 1))], [], SH0, [], lg) rfl ?_
        exact ih (v1 ||| (xshl 1 v2)) (v2 + 1) r h
set_option maxHeartbeats 4000000 in
set_option maxRecDepth 20000 in
theorem e_X6_clash (X : xX) (σ : xM) (lg : Int64) (r : Int32) (h : X6_clash (σ 5300) = some r) : EM XP X 3 168 [.ref 52] SH0 lg σ (some (.int r), SH0, [], lg) := by
  refine EM_of (M := xm_168) rfl rfl ?_
  unfold X6_clash at h
  refine E_sts 5 (4, [(0, .ref 52), (1, .int 0), (2, .int 0)], [], SH0, [], lg) rfl ?_
  exact e_X6_clash_L4 X σ lg _ 0 0 r h
set_option maxHeartbeats 4000000 in
set_option maxRecDepth 20000 in
theorem e_X1_fewestBroken_L22 (X : xX) (σ : xM) (lg : Int64) (k9 : Int32 → (Nat → Int32) → Option (Int32 × (Nat → Int32))) (h9 : ∀ (v1 : Int32) (od_bySet_ : (Nat → Int32)) (r : Int32 × (Nat → Int32)), k9 v1 od_bySet_ = some r → E XP X 1 xm_21 σ (9, [(0, .ref 32), (1, .int v1)], [], SH0, [(4000, od_bySet_)], lg) (some (.int r.1), SH0, [(4000, r.2)], lg)) : ∀ (n : Nat), ∀ (v1 : Int32) (v2 : Int32) (v3 : Int32) (od_bySet_ : (Nat → Int32)) (r : Int32 × (Nat → Int32)), X1_fewestBroken_L22 k9 (σ 3211 0) (σ 3500) n v1 v2 v3 od_bySet_ = some r → E XP X 1 xm_21 σ (22, [(0, .ref 32), (1, .int v1), (2, .int v2), (3, .int v3)], [], SH0, [(4000, od_bySet_)], lg) (some (.int r.1), SH0, [(4000, r.2)], lg) := by
  intro n
  induction n with
  | zero => intro v1 v2 v3 od_bySet_ r h; rw [X1_fewestBroken_L22] at h; cases h
  | succ n ih =>
    intro v1 v2 v3 od_bySet_ r h
    rw [X1_fewestBroken_L22] at h
    refine E_sts 4 (if (σ 3211 0) ≤ v3 then 79 else 30, [(0, .ref 32), (1, .int v1), (2, .int v2), (3, .int v3)], [], SH0, [(4000, od_bySet_)], lg) rfl ?_
    rcases x_br h with ⟨hc, h⟩ | ⟨hc, h⟩
    · refine E_itt hc ?_
      refine E_sts 4 (85, [(0, .ref 32), (1, .int v1), (2, .int v2), (3, .int v3)], [.int v2, .int v1, .ref 40], SH0, [(4000, od_bySet_)], lg) rfl ?_
      obtain ⟨hp, h⟩ := x_ite h
      refine E_par (p := inr v1 512) (86, [(0, .ref 32), (1, .int v1), (2, .int v2), (3, .int v3)], [], SH0, [(4000, (upd od_bySet_ v1.toNatClampNeg v2))], lg) rfl hp ?_
      refine E_sts 3 (9, [(0, .ref 32), (1, .int (v1 + 1))], [], SH0, [(4000, (upd od_bySet_ v1.toNatClampNeg v2))], lg) rfl ?_
      exact h9 (v1 + 1) (upd od_bySet_ v1.toNatClampNeg v2) r h
    · refine E_itf hc ?_
      refine E_sts 6 (if (v1 &&& (xshl 1 v3)) = 0 then 73 else 38, [(0, .ref 32), (1, .int v1), (2, .int v2), (3, .int v3)], [], SH0, [(4000, od_bySet_)], lg) rfl ?_
      rcases x_br h with ⟨hc, h⟩ | ⟨hc, h⟩
      · refine E_itt hc ?_
        refine E_sts 3 (22, [(0, .ref 32), (1, .int v1), (2, .int v2), (3, .int (v3 + 1))], [], SH0, [(4000, od_bySet_)], lg) rfl ?_
        exact ih v1 v2 (v3 + 1) od_bySet_ r h
      · refine E_itf hc ?_
        refine E_sts 3 (43, [(0, .ref 32), (1, .int v1), (2, .int v2), (3, .int v3)], [.int v3, .ref 35], SH0, [(4000, od_bySet_)], lg) rfl ?_
        obtain ⟨hp, h⟩ := x_ite h
        refine E_par (p := inr v3 9) (44, [(0, .ref 32), (1, .int v1), (2, .int v2), (3, .int v3)], [.int ((σ 3500) v3.toNatClampNeg)], SH0, [(4000, od_bySet_)], lg) rfl hp ?_
        refine E_sts 4 (48, [(0, .ref 32), (1, .int v1), (2, .int v2), (3, .int v3)], [.int (((σ 3500) v3.toNatClampNeg) &&& (v1 ^^^ (-1)))], SH0, [(4000, od_bySet_)], lg) rfl ?_
        refine E_call rfl (e_J6_bitCount_0f7a4 X _ _ _ (J6_bitCount_0f7a4 (((σ 3500) v3.toNatClampNeg) &&& (v1 ^^^ (-1)))) rfl) (by decide) ?_
        refine E_sts 11 (65, [(0, .ref 32), (1, .int v1), (2, .int v2), (3, .int v3), (4, .int (J6_bitCount_0f7a4 (((σ 3500) v3.toNatClampNeg) &&& (v1 ^^^ (-1)))))], [.int (v1 &&& ((xshl 1 v3) ^^^ (-1))), .ref 40, .int v2], SH0, [(4000, od_bySet_)], lg) rfl ?_
        obtain ⟨hp, h⟩ := x_ite h
        refine E_par (p := inr (v1 &&& ((xshl 1 v3) ^^^ (-1))) 512) (66, [(0, .ref 32), (1, .int v1), (2, .int v2), (3, .int v3), (4, .int (J6_bitCount_0f7a4 (((σ 3500) v3.toNatClampNeg) &&& (v1 ^^^ (-1)))))], [.int (od_bySet_ (v1 &&& ((xshl 1 v3) ^^^ (-1))).toNatClampNeg), .int v2], SH0, [(4000, od_bySet_)], lg) rfl hp ?_
        refine E_sts 7 (22, [(0, .ref 32), (1, .int v1), (2, .int (xmin v2 ((od_bySet_ (v1 &&& ((xshl 1 v3) ^^^ (-1))).toNatClampNeg) + (J6_bitCount_0f7a4 (((σ 3500) v3.toNatClampNeg) &&& (v1 ^^^ (-1))))))), (3, .int (v3 + 1))], [], SH0, [(4000, od_bySet_)], lg) rfl ?_
        exact ih v1 (xmin v2 ((od_bySet_ (v1 &&& ((xshl 1 v3) ^^^ (-1))).toNatClampNeg) + (J6_bitCount_0f7a4 (((σ 3500) v3.toNatClampNeg) &&& (v1 ^^^ (-1)))))) (v3 + 1) od_bySet_ r h
set_option maxHeartbeats 4000000 in
set_option maxRecDepth 20000 in
theorem e_X1_fewestBroken_L9 (X : xX) (σ : xM) (lg : Int64) : ∀ (n : Nat), ∀ (v1 : Int32) (od_bySet_ : (Nat → Int32)) (r : Int32 × (Nat → Int32)), X1_fewestBroken_L9 (σ 3211 0) (σ 3214 0) (σ 3500) n v1 od_bySet_ = some r → E XP X 1 xm_21 σ (9, [(0, .ref 32), (1, .int v1)], [], SH0, [(4000, od_bySet_)], lg) (some (.int r.1), SH0, [(4000, r.2)], lg) := by
  intro n
  induction n with
  | zero => intro v1 od_bySet_ r h; rw [X1_fewestBroken_L9] at h; cases h
  | succ n ih =>
    intro v1 od_bySet_ r h
    rw [X1_fewestBroken_L9] at h
    refine E_sts 4 (if (σ 3214 0) < v1 then 92 else 17, [(0, .ref 32), (1, .int v1)], [], SH0, [(4000, od_bySet_)], lg) rfl ?_
    rcases x_br h with ⟨hc, h⟩ | ⟨hc, h⟩
    · refine E_itt hc ?_
      refine E_sts 4 (100, [(0, .ref 32), (1, .int v1)], [.int (σ 3214 0), .ref 40], SH0, [(4000, od_bySet_)], lg) rfl ?_
      obtain ⟨hp, h⟩ := x_ite h
      refine E_par (p := inr (σ 3214 0) 512) (101, [(0, .ref 32), (1, .int v1)], [.int (od_bySet_ (σ 3214 0).toNatClampNeg)], SH0, [(4000, od_bySet_)], lg) rfl hp ?_
      obtain rfl := Option.some.inj h
      exact E_ret rfl
    · refine E_itf hc ?_
      refine E_sts 5 (22, [(0, .ref 32), (1, .int v1), (2, .int 72), (3, .int 0)], [], SH0, [(4000, od_bySet_)], lg) rfl ?_
      exact e_X1_fewestBroken_L22 X σ lg _ (fun v10 od_bySet_0 r h => ih v10 od_bySet_0 r h) _ v1 72 0 od_bySet_ r h
set_option maxHeartbeats 4000000 in
set_option maxRecDepth 20000 in
theorem e_X1_fewestBroken (X : xX) (σ : xM) (lg : Int64) (r : Int32 × (Nat → Int32)) (h : X1_fewestBroken (σ 3211 0) (σ 3214 0) (σ 3500) (σ 4000) = some r) : EM XP X 2 21 [.ref 32] SH0 lg σ (some (.int r.1), SH0, [(4000, r.2)], lg) := by
  refine EM_of (M := xm_21) rfl rfl ?_
  unfold X1_fewestBroken at h
  refine E_sts 4 (6, [(0, .ref 32)], [.int 0, .int 0, .ref 40], SH0, [], lg) rfl ?_
  refine E_par (p := inr 0 512) (7, [(0, .ref 32)], [], SH0, [(4000, (upd (σ 4000) 0 0))], lg) rfl (by decide) ?_
  refine E_sts 3 (9, [(0, .ref 32), (1, .int 1)], [], SH0, [(4000, (upd (σ 4000) 0 0))], lg) rfl ?_
  exact e_X1_fewestBroken_L9 X σ lg _ 1 (upd (σ 4000) 0 0) r h
set_option maxHeartbeats 4000000 in
set_option maxRecDepth 20000 in
theorem e_X5_broken (X : xX) (σ : xM) (lg : Int64) (r : Int32 × Int32 × Int32 × Int32 × Int32 × (Nat → Int32) × (Nat → Int32) × (Nat → Int32) × (Nat → Int32)) (h : X5_broken (σ 201 0) (σ 207 0) (σ 208 0) (σ 300) (σ 400) (σ 600) (σ 800) (σ 3300) (σ 3400) (σ 3500) (σ 4000) = some r) : EM XP X 3 86 [.ref 0] SH0 lg σ (some (.int r.1), SH0, [(3211, fun _ => r.2.1), (3212, fun _ => r.2.2.1), (3213, fun _ => r.2.2.2.1), (3214, fun _ => r.2.2.2.2.1), (3300, r.2.2.2.2.2.1), (3400, r.2.2.2.2.2.2.1), (3500, r.2.2.2.2.2.2.2.1), (4000, r.2.2.2.2.2.2.2.2)], lg) := by
  refine EM_of (M := xm_86) rfl rfl ?_
  unfold X5_broken at h
  refine E_sts 4 (8, [(0, .ref 0)], [.ref 2, .ref 32], SH0, [], lg) rfl ?_
  obtain ⟨r8, hr, h⟩ := x_bind h
  refine E_call rfl (e_X1_startFrom X _ _ r8 hr) (by decide) ?_
  refine E_sts 2 (15, [(0, .ref 0)], [.ref 32], SH0, [(3211, fun _ => r8.1), (3212, fun _ => r8.2.1), (3213, fun _ => r8.2.2.1), (3214, fun _ => r8.2.2.2.1), (3300, r8.2.2.2.2.1), (3400, r8.2.2.2.2.2.1), (3500, r8.2.2.2.2.2.2)], lg) rfl ?_
  obtain ⟨r15, hr, h⟩ := x_bind h
  refine E_call rfl (e_X1_fewestBroken X _ _ r15 hr) (by decide) ?_
  obtain rfl := Option.some.inj h
  exact E_ret rfl
set_option maxHeartbeats 4000000 in
set_option maxRecDepth 20000 in
theorem e_X6_broken_L26 (X : xX) (σ : xM) (lg : Int64) (k9 : Int32 → (Nat → Int32) → Option (Int32 × (Nat → Int32))) (h9 : ∀ (v1 : Int32) (m_comesTo_ : (Nat → Int32)) (r : Int32 × (Nat → Int32)), k9 v1 m_comesTo_ = some r → E XP X 1 xm_169 σ (9, [(0, .ref 52), (1, .int v1)], [], SH0, [(5900, m_comesTo_)], lg) (some (.int r.1), SH0, [(5900, r.2)], lg)) : ∀ (n : Nat), ∀ (v1 : Int32) (v2 : Int32) (m_comesTo_ : (Nat → Int32)) (r : Int32 × (Nat → Int32)), X6_broken_L26 k9 (σ 5300) n v1 v2 m_comesTo_ = some r → E XP X 1 xm_169 σ (26, [(0, .ref 52), (1, .int v1), (2, .int v2)], [], SH0, [(5900, m_comesTo_)], lg) (some (.int r.1), SH0, [(5900, r.2)], lg) := by
  intro n
  induction n with
  | zero => intro v1 v2 m_comesTo_ r h; rw [X6_broken_L26] at h; cases h
  | succ n ih =>
    intro v1 v2 m_comesTo_ r h
    rw [X6_broken_L26] at h
    refine E_sts 4 (32, [(0, .ref 52), (1, .int v1), (2, .int v2)], [.int 3, .ref 53, .int v2], SH0, [(5900, m_comesTo_)], lg) rfl ?_
    refine E_par (p := inr 3 83) (33, [(0, .ref 52), (1, .int v1), (2, .int v2)], [.int ((σ 5300) 3), .int v2], SH0, [(5900, m_comesTo_)], lg) rfl (by decide) ?_
    refine E_sts 1 (if ((σ 5300) 3) ≤ v2 then 112 else 36, [(0, .ref 52), (1, .int v1), (2, .int v2)], [], SH0, [(5900, m_comesTo_)], lg) rfl ?_
    rcases x_br h with ⟨hc, h⟩ | ⟨hc, h⟩
    · refine E_itt hc ?_
      refine E_sts 3 (9, [(0, .ref 52), (1, .int (v1 + 1))], [], SH0, [(5900, m_comesTo_)], lg) rfl ?_
      exact h9 (v1 + 1) m_comesTo_ r h
    · refine E_itf hc ?_
      refine E_sts 2 (38, [(0, .ref 52), (1, .int v1), (2, .int v2)], [.int v2, .int v1], SH0, [(5900, m_comesTo_)], lg) rfl ?_
      refine E_call rfl (e_X6_isIn X _ _ _ _ (X6_isIn v1 v2) rfl) (by decide) ?_
      refine E_sts 1 (if (xb (X6_isIn v1 v2)) = 0 then 106 else 44, [(0, .ref 52), (1, .int v1), (2, .int v2)], [], SH0, [(5900, m_comesTo_)], lg) rfl ?_
      rcases x_br h with ⟨hc, h⟩ | ⟨hc, h⟩
      · refine E_itt hc ?_
        refine E_sts 3 (26, [(0, .ref 52), (1, .int v1), (2, .int (v2 + 1))], [], SH0, [(5900, m_comesTo_)], lg) rfl ?_
        exact ih v1 (v2 + 1) m_comesTo_ r h
      · refine E_itf hc ?_
        refine E_sts 9 (55, [(0, .ref 52), (1, .int v1), (2, .int v2)], [.int (v1 &&& ((xshl 1 v2) ^^^ (-1))), .ref 59], SH0, [(5900, m_comesTo_)], lg) rfl ?_
        obtain ⟨hp, h⟩ := x_ite h
        refine E_par (p := inr (v1 &&& ((xshl 1 v2) ^^^ (-1))) 512) (56, [(0, .ref 52), (1, .int v1), (2, .int v2)], [.int (m_comesTo_ (v1 &&& ((xshl 1 v2) ^^^ (-1))).toNatClampNeg)], SH0, [(5900, m_comesTo_)], lg) rfl hp ?_
        refine E_sts 3 (59, [(0, .ref 52), (1, .int v1), (2, .int v2)], [.int 3, .int v2, .ref 52, .int (m_comesTo_ (v1 &&& ((xshl 1 v2) ^^^ (-1))).toNatClampNeg)], SH0, [(5900, m_comesTo_)], lg) rfl ?_
        obtain ⟨r59, hr, h⟩ := x_bind h
        refine E_call rfl (e_X6_get X _ _ _ _ r59 hr) (by decide) ?_
        refine E_sts 4 (66, [(0, .ref 52), (1, .int v1), (2, .int v2)], [.int (r59 &&& (v1 ^^^ (-1))), .int (m_comesTo_ (v1 &&& ((xshl 1 v2) ^^^ (-1))).toNatClampNeg)], SH0, [(5900, m_comesTo_)], lg) rfl ?_
        obtain ⟨r66, hr, h⟩ := x_bind h
        refine E_call rfl (e_X6_bits X _ _ _ r66 hr) (by decide) ?_
        refine E_sts 8 (81, [(0, .ref 52), (1, .int v1), (2, .int v2), (3, .int ((m_comesTo_ (v1 &&& ((xshl 1 v2) ^^^ (-1))).toNatClampNeg) + r66))], [.int v1, .ref 59, .int v1, .ref 59], SH0, [(5900, m_comesTo_)], lg) rfl ?_
        obtain ⟨hp, h⟩ := x_ite h
        refine E_par (p := inr v1 512) (82, [(0, .ref 52), (1, .int v1), (2, .int v2), (3, .int ((m_comesTo_ (v1 &&& ((xshl 1 v2) ^^^ (-1))).toNatClampNeg) + r66))], [.int (m_comesTo_ v1.toNatClampNeg), .int v1, .ref 59], SH0, [(5900, m_comesTo_)], lg) rfl hp ?_
        refine E_sts 1 (if (m_comesTo_ v1.toNatClampNeg) < 0 then 95 else 85, [(0, .ref 52), (1, .int v1), (2, .int v2), (3, .int ((m_comesTo_ (v1 &&& ((xshl 1 v2) ^^^ (-1))).toNatClampNeg) + r66))], [.int v1, .ref 59], SH0, [(5900, m_comesTo_)], lg) rfl ?_
        rcases x_br h with ⟨hc, h⟩ | ⟨hc, h⟩
        · refine E_itt hc ?_
          refine E_sts 2 (105, [(0, .ref 52), (1, .int v1), (2, .int v2), (3, .int ((m_comesTo_ (v1 &&& ((xshl 1 v2) ^^^ (-1))).toNatClampNeg) + r66))], [.int ((m_comesTo_ (v1 &&& ((xshl 1 v2) ^^^ (-1))).toNatClampNeg) + r66), .int v1, .ref 59], SH0, [(5900, m_comesTo_)], lg) rfl ?_
          obtain ⟨hp, h⟩ := x_ite h
          refine E_par (p := inr v1 512) (106, [(0, .ref 52), (1, .int v1), (2, .int v2), (3, .int ((m_comesTo_ (v1 &&& ((xshl 1 v2) ^^^ (-1))).toNatClampNeg) + r66))], [], SH0, [(5900, (upd m_comesTo_ v1.toNatClampNeg ((m_comesTo_ (v1 &&& ((xshl 1 v2) ^^^ (-1))).toNatClampNeg) + r66)))], lg) rfl hp ?_
          refine E_sts 3 (26, [(0, .ref 52), (1, .int v1), (2, .int (v2 + 1))], [], SH0, [(5900, (upd m_comesTo_ v1.toNatClampNeg ((m_comesTo_ (v1 &&& ((xshl 1 v2) ^^^ (-1))).toNatClampNeg) + r66)))], lg) rfl ?_
          exact ih v1 (v2 + 1) (upd m_comesTo_ v1.toNatClampNeg ((m_comesTo_ (v1 &&& ((xshl 1 v2) ^^^ (-1))).toNatClampNeg) + r66)) r h
        · refine E_itf hc ?_
          refine E_sts 4 (91, [(0, .ref 52), (1, .int v1), (2, .int v2), (3, .int ((m_comesTo_ (v1 &&& ((xshl 1 v2) ^^^ (-1))).toNatClampNeg) + r66))], [.int v1, .ref 59, .int ((m_comesTo_ (v1 &&& ((xshl 1 v2) ^^^ (-1))).toNatClampNeg) + r66), .int v1, .ref 59], SH0, [(5900, m_comesTo_)], lg) rfl ?_
          obtain ⟨hp, h⟩ := x_ite h
          refine E_par (p := inr v1 512) (92, [(0, .ref 52), (1, .int v1), (2, .int v2), (3, .int ((m_comesTo_ (v1 &&& ((xshl 1 v2) ^^^ (-1))).toNatClampNeg) + r66))], [.int (m_comesTo_ v1.toNatClampNeg), .int ((m_comesTo_ (v1 &&& ((xshl 1 v2) ^^^ (-1))).toNatClampNeg) + r66), .int v1, .ref 59], SH0, [(5900, m_comesTo_)], lg) rfl hp ?_
          refine E_sts 1 (if (m_comesTo_ v1.toNatClampNeg) ≤ ((m_comesTo_ (v1 &&& ((xshl 1 v2) ^^^ (-1))).toNatClampNeg) + r66) then 99 else 95, [(0, .ref 52), (1, .int v1), (2, .int v2), (3, .int ((m_comesTo_ (v1 &&& ((xshl 1 v2) ^^^ (-1))).toNatClampNeg) + r66))], [.int v1, .ref 59], SH0, [(5900, m_comesTo_)], lg) rfl ?_
          rcases x_br h with ⟨hc, h⟩ | ⟨hc, h⟩
          · refine E_itt hc ?_
            refine E_sts 3 (104, [(0, .ref 52), (1, .int v1), (2, .int v2), (3, .int ((m_comesTo_ (v1 &&& ((xshl 1 v2) ^^^ (-1))).toNatClampNeg) + r66))], [.int v1, .ref 59, .int v1, .ref 59], SH0, [(5900, m_comesTo_)], lg) rfl ?_
            obtain ⟨hp, h⟩ := x_ite h
            refine E_par (p := inr v1 512) (105, [(0, .ref 52), (1, .int v1), (2, .int v2), (3, .int ((m_comesTo_ (v1 &&& ((xshl 1 v2) ^^^ (-1))).toNatClampNeg) + r66))], [.int (m_comesTo_ v1.toNatClampNeg), .int v1, .ref 59], SH0, [(5900, m_comesTo_)], lg) rfl hp ?_
            obtain ⟨hp, h⟩ := x_ite h
            refine E_par (p := inr v1 512) (106, [(0, .ref 52), (1, .int v1), (2, .int v2), (3, .int ((m_comesTo_ (v1 &&& ((xshl 1 v2) ^^^ (-1))).toNatClampNeg) + r66))], [], SH0, [(5900, (upd m_comesTo_ v1.toNatClampNeg (m_comesTo_ v1.toNatClampNeg)))], lg) rfl hp ?_
            refine E_sts 3 (26, [(0, .ref 52), (1, .int v1), (2, .int (v2 + 1))], [], SH0, [(5900, (upd m_comesTo_ v1.toNatClampNeg (m_comesTo_ v1.toNatClampNeg)))], lg) rfl ?_
            exact ih v1 (v2 + 1) (upd m_comesTo_ v1.toNatClampNeg (m_comesTo_ v1.toNatClampNeg)) r h
          · refine E_itf hc ?_
            refine E_sts 2 (105, [(0, .ref 52), (1, .int v1), (2, .int v2), (3, .int ((m_comesTo_ (v1 &&& ((xshl 1 v2) ^^^ (-1))).toNatClampNeg) + r66))], [.int ((m_comesTo_ (v1 &&& ((xshl 1 v2) ^^^ (-1))).toNatClampNeg) + r66), .int v1, .ref 59], SH0, [(5900, m_comesTo_)], lg) rfl ?_
            obtain ⟨hp, h⟩ := x_ite h
            refine E_par (p := inr v1 512) (106, [(0, .ref 52), (1, .int v1), (2, .int v2), (3, .int ((m_comesTo_ (v1 &&& ((xshl 1 v2) ^^^ (-1))).toNatClampNeg) + r66))], [], SH0, [(5900, (upd m_comesTo_ v1.toNatClampNeg ((m_comesTo_ (v1 &&& ((xshl 1 v2) ^^^ (-1))).toNatClampNeg) + r66)))], lg) rfl hp ?_
            refine E_sts 3 (26, [(0, .ref 52), (1, .int v1), (2, .int (v2 + 1))], [], SH0, [(5900, (upd m_comesTo_ v1.toNatClampNeg ((m_comesTo_ (v1 &&& ((xshl 1 v2) ^^^ (-1))).toNatClampNeg) + r66)))], lg) rfl ?_
            exact ih v1 (v2 + 1) (upd m_comesTo_ v1.toNatClampNeg ((m_comesTo_ (v1 &&& ((xshl 1 v2) ^^^ (-1))).toNatClampNeg) + r66)) r h
set_option maxHeartbeats 4000000 in
set_option maxRecDepth 20000 in
theorem e_X6_broken_L9 (X : xX) (σ : xM) (lg : Int64) : ∀ (n : Nat), ∀ (v1 : Int32) (m_comesTo_ : (Nat → Int32)) (r : Int32 × (Nat → Int32)), X6_broken_L9 (σ 5300) n v1 m_comesTo_ = some r → E XP X 1 xm_169 σ (9, [(0, .ref 52), (1, .int v1)], [], SH0, [(5900, m_comesTo_)], lg) (some (.int r.1), SH0, [(5900, r.2)], lg) := by
  intro n
  induction n with
  | zero => intro v1 m_comesTo_ r h; rw [X6_broken_L9] at h; cases h
  | succ n ih =>
    intro v1 m_comesTo_ r h
    rw [X6_broken_L9] at h
    refine E_sts 2 (11, [(0, .ref 52), (1, .int v1)], [.ref 52, .int v1], SH0, [(5900, m_comesTo_)], lg) rfl ?_
    obtain ⟨r11, hr, h⟩ := x_bind h
    refine E_call rfl (e_X6_allBows X _ _ r11 hr) (by decide) ?_
    refine E_sts 1 (if r11 < v1 then 118 else 17, [(0, .ref 52), (1, .int v1)], [], SH0, [(5900, m_comesTo_)], lg) rfl ?_
    rcases x_br h with ⟨hc, h⟩ | ⟨hc, h⟩
    · refine E_itt hc ?_
      refine E_sts 3 (123, [(0, .ref 52), (1, .int v1)], [.ref 52, .ref 59], SH0, [(5900, m_comesTo_)], lg) rfl ?_
      obtain ⟨r123, hr, h⟩ := x_bind h
      refine E_call rfl (e_X6_allBows X _ _ r123 hr) (by decide) ?_
      obtain ⟨hp, h⟩ := x_ite h
      refine E_par (p := inr r123 512) (127, [(0, .ref 52), (1, .int v1)], [.int (m_comesTo_ r123.toNatClampNeg)], SH0, [(5900, m_comesTo_)], lg) rfl hp ?_
      obtain rfl := Option.some.inj h
      exact E_ret rfl
    · refine E_itf hc ?_
      refine E_sts 4 (23, [(0, .ref 52), (1, .int v1)], [.int (-1), .int v1, .ref 59], SH0, [(5900, m_comesTo_)], lg) rfl ?_
      obtain ⟨hp, h⟩ := x_ite h
      refine E_par (p := inr v1 512) (24, [(0, .ref 52), (1, .int v1)], [], SH0, [(5900, (upd m_comesTo_ v1.toNatClampNeg (-1)))], lg) rfl hp ?_
      refine E_sts 3 (26, [(0, .ref 52), (1, .int v1), (2, .int 0)], [], SH0, [(5900, (upd m_comesTo_ v1.toNatClampNeg (-1)))], lg) rfl ?_
      exact e_X6_broken_L26 X σ lg _ (fun v10 m_comesTo_0 r h => ih v10 m_comesTo_0 r h) _ v1 0 (upd m_comesTo_ v1.toNatClampNeg (-1)) r h
set_option maxHeartbeats 4000000 in
set_option maxRecDepth 20000 in
theorem e_X6_broken (X : xX) (σ : xM) (lg : Int64) (r : Int32 × (Nat → Int32)) (h : X6_broken (σ 5300) (σ 5900) = some r) : EM XP X 2 169 [.ref 52] SH0 lg σ (some (.int r.1), SH0, [(5900, r.2)], lg) := by
  refine EM_of (M := xm_169) rfl rfl ?_
  unfold X6_broken at h
  refine E_sts 4 (6, [(0, .ref 52)], [.int 0, .int 0, .ref 59], SH0, [], lg) rfl ?_
  refine E_par (p := inr 0 512) (7, [(0, .ref 52)], [], SH0, [(5900, (upd (σ 5900) 0 0))], lg) rfl (by decide) ?_
  refine E_sts 3 (9, [(0, .ref 52), (1, .int 1)], [], SH0, [(5900, (upd (σ 5900) 0 0))], lg) rfl ?_
  exact e_X6_broken_L9 X σ lg _ 1 (upd (σ 5900) 0 0) r h
set_option maxHeartbeats 4000000 in
set_option maxRecDepth 20000 in
theorem e_X5_between_L58 (X : xX) (σ : xM) (lg : Int64) : ∀ (n : Nat), ∀ (v1 : Int32) (v2 : Int32) (v3 : Int32) (v4 : Int32) (v5 : Int32) (r : Int32 × (Nat → Int32)), X5_between_L58 (σ 100) (σ 201 0) (σ 300) (σ 400) n v1 v2 v3 v4 v5 = some r → E XP X 3 xm_87 σ (58, [(0, .ref 0), (1, .int v1), (2, .int v2), (3, .int v3), (4, .int v4), (5, .int v5)], [], SH0, [], lg) (some (.int r.1), SH0, [(100, r.2)], lg) := by
  intro n
  induction n with
  | zero => intro v1 v2 v3 v4 v5 r h; rw [X5_between_L58] at h; cases h
  | succ n ih =>
    intro v1 v2 v3 v4 v5 r h
    rw [X5_between_L58] at h
    refine E_sts 5 (if (σ 201 0) ≤ v5 then 138 else 70, [(0, .ref 0), (1, .int v1), (2, .int v2), (3, .int v3), (4, .int v4), (5, .int v5)], [], SH0, [], lg) rfl ?_
    rcases x_br h with ⟨hc, h⟩ | ⟨hc, h⟩
    · refine E_itt hc ?_
      obtain rfl := Option.some.inj h
      refine E_sts 2 (140, [], [.int v4], SH0, [(100, (σ 100))], lg) rfl ?_
      exact E_ret rfl
    · refine E_itf hc ?_
      refine E_sts 3 (if v5 = v1 then 132 else 76, [(0, .ref 0), (1, .int v1), (2, .int v2), (3, .int v3), (4, .int v4), (5, .int v5)], [], SH0, [], lg) rfl ?_
      rcases x_br h with ⟨hc, h⟩ | ⟨hc, h⟩
      · refine E_itt hc ?_
        refine E_sts 3 (58, [(0, .ref 0), (1, .int v1), (2, .int v2), (3, .int v3), (4, .int v4), (5, .int (v5 + 1))], [], SH0, [], lg) rfl ?_
        exact ih v1 v2 v3 v4 (v5 + 1) r h
      · refine E_itf hc ?_
        refine E_sts 3 (if v5 = v2 then 132 else 82, [(0, .ref 0), (1, .int v1), (2, .int v2), (3, .int v3), (4, .int v4), (5, .int v5)], [], SH0, [], lg) rfl ?_
        rcases x_br h with ⟨hc, h⟩ | ⟨hc, h⟩
        · refine E_itt hc ?_
          refine E_sts 3 (58, [(0, .ref 0), (1, .int v1), (2, .int v2), (3, .int v3), (4, .int v4), (5, .int (v5 + 1))], [], SH0, [], lg) rfl ?_
          exact ih v1 v2 v3 v4 (v5 + 1) r h
        · refine E_itf hc ?_
          refine E_sts 6 (93, [(0, .ref 0), (1, .int v1), (2, .int v2), (3, .int v3), (4, .int v4), (5, .int v5)], [.int v1, .ref 2, .int v5, .ref 2], SH0, [], lg) rfl ?_
          obtain ⟨r93, hr, h⟩ := x_bind h
          refine E_call rfl (e_X2_leftBy X _ _ _ r93 hr) (by decide) ?_
          obtain ⟨r96, hr, h⟩ := x_bind h
          refine E_call rfl (e_X2_noiseBy X _ _ _ _ r96 hr) (by decide) ?_
          refine E_sts 6 (110, [(0, .ref 0), (1, .int v1), (2, .int v2), (3, .int v3), (4, .int v4), (5, .int v5)], [.int v5, .ref 2, .int v2, .ref 2, .int r96], SH0, [], lg) rfl ?_
          obtain ⟨r110, hr, h⟩ := x_bind h
          refine E_call rfl (e_X2_leftBy X _ _ _ r110 hr) (by decide) ?_
          obtain ⟨r113, hr, h⟩ := x_bind h
          refine E_call rfl (e_X2_noiseBy X _ _ _ _ r113 hr) (by decide) ?_
          refine E_sts 5 (if (r96 + r113) ≤ v3 then 132 else 125, [(0, .ref 0), (1, .int v1), (2, .int v2), (3, .int v3), (4, .int v4), (5, .int v5), (6, .int (r96 + r113))], [], SH0, [], lg) rfl ?_
          rcases x_br h with ⟨hc, h⟩ | ⟨hc, h⟩
          · refine E_itt hc ?_
            refine E_sts 3 (58, [(0, .ref 0), (1, .int v1), (2, .int v2), (3, .int v3), (4, .int v4), (5, .int (v5 + 1))], [], SH0, [], lg) rfl ?_
            exact ih v1 v2 v3 v4 (v5 + 1) r h
          · refine E_itf hc ?_
            refine E_sts 7 (58, [(0, .ref 0), (1, .int v1), (2, .int v2), (3, .int (r96 + r113)), (4, .int v5), (5, .int (v5 + 1))], [], SH0, [], lg) rfl ?_
            exact ih v1 v2 (r96 + r113) v5 (v5 + 1) r h
set_option maxHeartbeats 4000000 in
set_option maxRecDepth 20000 in
theorem e_X5_between (X : xX) (σ : xM) (lg : Int64) (v1 : Int32) (v2 : Int32) (r : Int32 × (Nat → Int32)) (h : X5_between (σ 100) (σ 201 0) (σ 300) (σ 400) v1 v2 = some r) : EM XP X 4 87 [.ref 0, .int v1, .int v2] SH0 lg σ (some (.int r.1), SH0, [(100, r.2)], lg) := by
  refine EM_of (M := xm_87) rfl rfl ?_
  unfold X5_between at h
  refine E_sts 3 (5, [(0, .ref 0), (1, .int v1), (2, .int v2)], [.int v1, .ref 2], SH0, [], lg) rfl ?_
  refine E_call rfl (e_X2_isBow X _ _ _ (X2_isBow (σ 201 0) v1) rfl) (by decide) ?_
  refine E_sts 1 (if (xb (X2_isBow (σ 201 0) v1)) = 0 then 27 else 11, [(0, .ref 0), (1, .int v1), (2, .int v2)], [], SH0, [], lg) rfl ?_
  rcases x_br h with ⟨hc, h⟩ | ⟨hc, h⟩
  · refine E_itt hc ?_
    refine E_sts 2 (29, [(0, .ref 0), (1, .int v1), (2, .int v2)], [.int 0, .ref 0], SH0, [], lg) rfl ?_
    obtain ⟨r29, hr, h⟩ := x_bind h
    refine E_call rfl (e_X5_finding X _ _ _ r29 hr) (by decide) ?_
    obtain rfl := Option.some.inj h
    exact E_ret rfl
  · refine E_itf hc ?_
    refine E_sts 3 (16, [(0, .ref 0), (1, .int v1), (2, .int v2)], [.int v2, .ref 2], SH0, [], lg) rfl ?_
    refine E_call rfl (e_X2_isBow X _ _ _ (X2_isBow (σ 201 0) v2) rfl) (by decide) ?_
    refine E_sts 1 (if (xb (X2_isBow (σ 201 0) v2)) = 0 then 27 else 22, [(0, .ref 0), (1, .int v1), (2, .int v2)], [], SH0, [], lg) rfl ?_
    rcases x_br h with ⟨hc, h⟩ | ⟨hc, h⟩
    · refine E_itt hc ?_
      refine E_sts 2 (29, [(0, .ref 0), (1, .int v1), (2, .int v2)], [.int 0, .ref 0], SH0, [], lg) rfl ?_
      obtain ⟨r29_1, hr, h⟩ := x_bind h
      refine E_call rfl (e_X5_finding X _ _ _ r29_1 hr) (by decide) ?_
      obtain rfl := Option.some.inj h
      exact E_ret rfl
    · refine E_itf hc ?_
      refine E_sts 3 (if v1 = v2 then 27 else 33, [(0, .ref 0), (1, .int v1), (2, .int v2)], [], SH0, [], lg) rfl ?_
      rcases x_br h with ⟨hc, h⟩ | ⟨hc, h⟩
      · refine E_itt hc ?_
        refine E_sts 2 (29, [(0, .ref 0), (1, .int v1), (2, .int v2)], [.int 0, .ref 0], SH0, [], lg) rfl ?_
        obtain ⟨r29_2, hr, h⟩ := x_bind h
        refine E_call rfl (e_X5_finding X _ _ _ r29_2 hr) (by decide) ?_
        obtain rfl := Option.some.inj h
        exact E_ret rfl
      · refine E_itf hc ?_
        refine E_sts 5 (if (σ 201 0) = 2 then 44 else 50, [(0, .ref 0), (1, .int v1), (2, .int v2)], [], SH0, [], lg) rfl ?_
        rcases x_br h with ⟨hc, h⟩ | ⟨hc, h⟩
        · refine E_itt hc ?_
          refine E_sts 2 (46, [(0, .ref 0), (1, .int v1), (2, .int v2)], [.int 3, .ref 0], SH0, [], lg) rfl ?_
          obtain ⟨r46, hr, h⟩ := x_bind h
          refine E_call rfl (e_X5_finding X _ _ _ r46 hr) (by decide) ?_
          obtain rfl := Option.some.inj h
          exact E_ret rfl
        · refine E_itf hc ?_
          refine E_sts 7 (58, [(0, .ref 0), (1, .int v1), (2, .int v2), (3, .int (-1)), (4, .int (-1)), (5, .int 0)], [], SH0, [], lg) rfl ?_
          exact e_X5_between_L58 X σ lg _ v1 v2 (-1) (-1) 0 r h
set_option maxHeartbeats 4000000 in
set_option maxRecDepth 20000 in
theorem e_X6_between_L85 (X : xX) (σ : xM) (lg : Int64) (k35 : Int32 → Int32 → Int32 → Int32 → Int32 → Option (Int32 × (Nat → Int32))) (h35 : ∀ (v1 : Int32) (v2 : Int32) (v3 : Int32) (v4 : Int32) (v5 : Int32) (r : Int32 × (Nat → Int32)), k35 v1 v2 v3 v4 v5 = some r → E XP X 3 xm_170 σ (35, [(0, .ref 52), (1, .int v1), (2, .int v2), (3, .int v3), (4, .int v4), (5, .int v5)], [], SH0, [], lg) (some (.int r.1), SH0, [(5600, r.2)], lg)) : ∀ (v1 : Int32) (v2 : Int32) (v3 : Int32) (v4 : Int32) (v5 : Int32) (t0 : Int32) (r : Int32 × (Nat → Int32)), X6_between_L85 k35 v1 v2 v3 v4 v5 t0 = some r → E XP X 3 xm_170 σ (85, [(0, .ref 52), (1, .int v1), (2, .int v2), (3, .int v3), (4, .int v4), (5, .int v5)], [.int t0], SH0, [], lg) (some (.int r.1), SH0, [(5600, r.2)], lg) := by
  intro v1 v2 v3 v4 v5 t0 r h
  unfold X6_between_L85 at h
  refine E_sts 4 (if t0 ≤ v4 then 99 else 94, [(0, .ref 52), (1, .int v1), (2, .int v2), (3, .int v3), (4, .int v4), (5, .int v5), (6, .int t0)], [], SH0, [], lg) rfl ?_
  rcases x_br h with ⟨hc, h⟩ | ⟨hc, h⟩
  · refine E_itt hc ?_
    refine E_sts 4 (105, [(0, .ref 52), (1, .int v1), (2, .int v2), (3, .int v3), (4, .int v4), (5, .int v5), (6, .int t0)], [.int t0, .int v4], SH0, [], lg) rfl ?_
    refine E_call rfl (e_X6_most X _ _ _ _ (X6_most v4 t0) rfl) (by decide) ?_
    refine E_sts 4 (35, [(0, .ref 52), (1, .int v1), (2, .int v2), (3, .int v3), (4, .int (X6_most v4 t0)), (5, .int (v5 + 1))], [], SH0, [], lg) rfl ?_
    exact h35 v1 v2 v3 (X6_most v4 t0) (v5 + 1) r h
  · refine E_itf hc ?_
    refine E_sts 5 (105, [(0, .ref 52), (1, .int v1), (2, .int v2), (3, .int v5), (4, .int v4), (5, .int v5), (6, .int t0)], [.int t0, .int v4], SH0, [], lg) rfl ?_
    refine E_call rfl (e_X6_most X _ _ _ _ (X6_most v4 t0) rfl) (by decide) ?_
    refine E_sts 4 (35, [(0, .ref 52), (1, .int v1), (2, .int v2), (3, .int v5), (4, .int (X6_most v4 t0)), (5, .int (v5 + 1))], [], SH0, [], lg) rfl ?_
    exact h35 v1 v2 v5 (X6_most v4 t0) (v5 + 1) r h
set_option maxHeartbeats 4000000 in
set_option maxRecDepth 20000 in
theorem e_X6_between_L35 (X : xX) (σ : xM) (lg : Int64) : ∀ (n : Nat), ∀ (v1 : Int32) (v2 : Int32) (v3 : Int32) (v4 : Int32) (v5 : Int32) (r : Int32 × (Nat → Int32)), X6_between_L35 (σ 5300) (σ 5600) n v1 v2 v3 v4 v5 = some r → E XP X 3 xm_170 σ (35, [(0, .ref 52), (1, .int v1), (2, .int v2), (3, .int v3), (4, .int v4), (5, .int v5)], [], SH0, [], lg) (some (.int r.1), SH0, [(5600, r.2)], lg) := by
  intro n
  induction n with
  | zero => intro v1 v2 v3 v4 v5 r h; rw [X6_between_L35] at h; cases h
  | succ n ih =>
    intro v1 v2 v3 v4 v5 r h
    rw [X6_between_L35] at h
    refine E_sts 4 (42, [(0, .ref 52), (1, .int v1), (2, .int v2), (3, .int v3), (4, .int v4), (5, .int v5)], [.int 3, .ref 53, .int v5], SH0, [], lg) rfl ?_
    refine E_par (p := inr 3 83) (43, [(0, .ref 52), (1, .int v1), (2, .int v2), (3, .int v3), (4, .int v4), (5, .int v5)], [.int ((σ 5300) 3), .int v5], SH0, [], lg) rfl (by decide) ?_
    refine E_sts 1 (if ((σ 5300) 3) ≤ v5 then 116 else 46, [(0, .ref 52), (1, .int v1), (2, .int v2), (3, .int v3), (4, .int v4), (5, .int v5)], [], SH0, [], lg) rfl ?_
    rcases x_br h with ⟨hc, h⟩ | ⟨hc, h⟩
    · refine E_itt hc ?_
      refine E_sts 2 (if 0 ≤ v3 then 128 else 120, [(0, .ref 52), (1, .int v1), (2, .int v2), (3, .int v3), (4, .int v4), (5, .int v5)], [], SH0, [], lg) rfl ?_
      rcases x_br h with ⟨hc, h⟩ | ⟨hc, h⟩
      · refine E_itt hc ?_
        obtain rfl := Option.some.inj h
        refine E_sts 2 (129, [], [.int v3], SH0, [(5600, (σ 5600))], lg) rfl ?_
        exact E_ret rfl
      · refine E_itf hc ?_
        refine E_sts 2 (122, [(0, .ref 52), (1, .int v1), (2, .int v2), (3, .int v3), (4, .int v4), (5, .int v5)], [.int 3, .ref 52], SH0, [], lg) rfl ?_
        obtain ⟨r122, hr, h⟩ := x_bind h
        refine E_call rfl (e_X6_no X _ _ _ r122 hr) (by decide) ?_
        obtain rfl := Option.some.inj h
        refine E_sts 2 (129, [], [.int r122.1], SH0, [(5600, r122.2)], lg) rfl ?_
        exact E_ret rfl
    · refine E_itf hc ?_
      refine E_sts 3 (if v5 = v1 then 58 else 52, [(0, .ref 52), (1, .int v1), (2, .int v2), (3, .int v3), (4, .int v4), (5, .int v5)], [], SH0, [], lg) rfl ?_
      rcases x_br h with ⟨hc, h⟩ | ⟨hc, h⟩
      · refine E_itt hc ?_
        refine E_sts 3 (85, [(0, .ref 52), (1, .int v1), (2, .int v2), (3, .int v3), (4, .int v4), (5, .int v5)], [.int (-1)], SH0, [], lg) rfl ?_
        exact e_X6_between_L85 X σ lg _ (fun v10 v20 v30 v40 v50 r h => ih v10 v20 v30 v40 v50 r h) v1 v2 v3 v4 v5 (-1) r h
      · refine E_itf hc ?_
        refine E_sts 3 (if v5 = v2 then 58 else 62, [(0, .ref 52), (1, .int v1), (2, .int v2), (3, .int v3), (4, .int v4), (5, .int v5)], [], SH0, [], lg) rfl ?_
        rcases x_br h with ⟨hc, h⟩ | ⟨hc, h⟩
        · refine E_itt hc ?_
          refine E_sts 3 (85, [(0, .ref 52), (1, .int v1), (2, .int v2), (3, .int v3), (4, .int v4), (5, .int v5)], [.int (-1)], SH0, [], lg) rfl ?_
          exact e_X6_between_L85 X σ lg _ (fun v10 v20 v30 v40 v50 r h => ih v10 v20 v30 v40 v50 r h) v1 v2 v3 v4 v5 (-1) r h
        · refine E_itf hc ?_
          refine E_sts 4 (67, [(0, .ref 52), (1, .int v1), (2, .int v2), (3, .int v3), (4, .int v4), (5, .int v5)], [.int v1, .ref 52, .int v5, .ref 52], SH0, [], lg) rfl ?_
          obtain ⟨r67, hr, h⟩ := x_bind h
          refine E_call rfl (e_X6_leaves X _ _ _ r67 hr) (by decide) ?_
          obtain ⟨r70, hr, h⟩ := x_bind h
          refine E_call rfl (e_X6_noiseBy X _ _ _ _ r70 hr) (by decide) ?_
          refine E_sts 4 (78, [(0, .ref 52), (1, .int v1), (2, .int v2), (3, .int v3), (4, .int v4), (5, .int v5)], [.int v5, .ref 52, .int v2, .ref 52, .int r70], SH0, [], lg) rfl ?_
          obtain ⟨r78, hr, h⟩ := x_bind h
          refine E_call rfl (e_X6_leaves X _ _ _ r78 hr) (by decide) ?_
          obtain ⟨r81, hr, h⟩ := x_bind h
          refine E_call rfl (e_X6_noiseBy X _ _ _ _ r81 hr) (by decide) ?_
          refine E_sts 2 (85, [(0, .ref 52), (1, .int v1), (2, .int v2), (3, .int v3), (4, .int v4), (5, .int v5)], [.int (r70 + r81)], SH0, [], lg) rfl ?_
          exact e_X6_between_L85 X σ lg _ (fun v10 v20 v30 v40 v50 r h => ih v10 v20 v30 v40 v50 r h) v1 v2 v3 v4 v5 (r70 + r81) r h
set_option maxHeartbeats 4000000 in
set_option maxRecDepth 20000 in
theorem e_X6_between (X : xX) (σ : xM) (lg : Int64) (v1 : Int32) (v2 : Int32) (r : Int32 × (Nat → Int32)) (h : X6_between (σ 5300) (σ 5600) v1 v2 = some r) : EM XP X 4 170 [.ref 52, .int v1, .int v2] SH0 lg σ (some (.int r.1), SH0, [(5600, r.2)], lg) := by
  refine EM_of (M := xm_170) rfl rfl ?_
  unfold X6_between at h
  refine E_sts 2 (2, [(0, .ref 52), (1, .int v1), (2, .int v2)], [.int v1, .ref 52], SH0, [], lg) rfl ?_
  obtain ⟨r2, hr, h⟩ := x_bind h
  refine E_call rfl (e_X6_isBow X _ _ _ r2 hr) (by decide) ?_
  refine E_sts 1 (if (xb r2) = 0 then 21 else 8, [(0, .ref 52), (1, .int v1), (2, .int v2)], [], SH0, [], lg) rfl ?_
  rcases x_br h with ⟨hc, h⟩ | ⟨hc, h⟩
  · refine E_itt hc ?_
    refine E_sts 2 (23, [(0, .ref 52), (1, .int v1), (2, .int v2)], [.int 0, .ref 52], SH0, [], lg) rfl ?_
    obtain ⟨r23, hr, h⟩ := x_bind h
    refine E_call rfl (e_X6_no X _ _ _ r23 hr) (by decide) ?_
    obtain rfl := Option.some.inj h
    exact E_ret rfl
  · refine E_itf hc ?_
    refine E_sts 2 (10, [(0, .ref 52), (1, .int v1), (2, .int v2)], [.int v2, .ref 52], SH0, [], lg) rfl ?_
    obtain ⟨r10, hr, h⟩ := x_bind h
    refine E_call rfl (e_X6_isBow X _ _ _ r10 hr) (by decide) ?_
    refine E_sts 1 (if (xb r10) = 0 then 21 else 16, [(0, .ref 52), (1, .int v1), (2, .int v2)], [], SH0, [], lg) rfl ?_
    rcases x_br h with ⟨hc, h⟩ | ⟨hc, h⟩
    · refine E_itt hc ?_
      refine E_sts 2 (23, [(0, .ref 52), (1, .int v1), (2, .int v2)], [.int 0, .ref 52], SH0, [], lg) rfl ?_
      obtain ⟨r23_1, hr, h⟩ := x_bind h
      refine E_call rfl (e_X6_no X _ _ _ r23_1 hr) (by decide) ?_
      obtain rfl := Option.some.inj h
      exact E_ret rfl
    · refine E_itf hc ?_
      refine E_sts 3 (if v1 = v2 then 21 else 27, [(0, .ref 52), (1, .int v1), (2, .int v2)], [], SH0, [], lg) rfl ?_
      rcases x_br h with ⟨hc, h⟩ | ⟨hc, h⟩
      · refine E_itt hc ?_
        refine E_sts 2 (23, [(0, .ref 52), (1, .int v1), (2, .int v2)], [.int 0, .ref 52], SH0, [], lg) rfl ?_
        obtain ⟨r23_2, hr, h⟩ := x_bind h
        refine E_call rfl (e_X6_no X _ _ _ r23_2 hr) (by decide) ?_
        obtain rfl := Option.some.inj h
        exact E_ret rfl
      · refine E_itf hc ?_
        refine E_sts 7 (35, [(0, .ref 52), (1, .int v1), (2, .int v2), (3, .int (-1)), (4, .int (-1)), (5, .int 0)], [], SH0, [], lg) rfl ?_
        exact e_X6_between_L35 X σ lg _ v1 v2 (-1) (-1) 0 r h
set_option maxHeartbeats 4000000 in
set_option maxRecDepth 20000 in
theorem e_X1_bestKind_L8 (X : xX) (σ : xM) (lg : Int64) : ∀ (n : Nat), ∀ (v1 : Int32) (v2 : Int32) (v3 : Int32) (v4 : Int32) (od_many_ : Int32) (od_kinds_ : (Nat → Int32)) (od_scores_ : (Nat → Int32)) (od_most_ : (Nat → Int32)) (od_followers_ : (Nat → Int32)) (od_mostThen_ : (Nat → Int32)) (r : Int32 × Int32 × (Nat → Int32) × (Nat → Int32) × (Nat → Int32) × (Nat → Int32) × (Nat → Int32)), X1_bestKind_L8 (σ 3211 0) (σ 3212 0) (σ 3213 0) (σ 3214 0) (σ 3400) (σ 3500) n v1 v2 v3 v4 od_many_ od_kinds_ od_scores_ od_most_ od_followers_ od_mostThen_ = some r → E XP X 4 xm_22 σ (8, [(0, .ref 32), (1, .int v1), (2, .int v2), (3, .int v3), (4, .int v4)], [], SH0, [(3208, fun _ => od_many_), (3300, od_kinds_), (3600, od_scores_), (3700, od_most_), (3800, od_followers_), (3900, od_mostThen_)], lg) (some (.int r.1), SH0, [(3208, fun _ => r.2.1), (3300, r.2.2.1), (3600, r.2.2.2.1), (3700, r.2.2.2.2.1), (3800, r.2.2.2.2.2.1), (3900, r.2.2.2.2.2.2)], lg) := by
  intro n
  induction n with
  | zero => intro v1 v2 v3 v4 od_many_ od_kinds_ od_scores_ od_most_ od_followers_ od_mostThen_ r h; rw [X1_bestKind_L8] at h; cases h
  | succ n ih =>
    intro v1 v2 v3 v4 od_many_ od_kinds_ od_scores_ od_most_ od_followers_ od_mostThen_ r h
    rw [X1_bestKind_L8] at h
    refine E_sts 3 (if 7 ≤ v4 then 48 else 15, [(0, .ref 32), (1, .int v1), (2, .int v2), (3, .int v3), (4, .int v4)], [], SH0, [(3208, fun _ => od_many_), (3300, od_kinds_), (3600, od_scores_), (3700, od_most_), (3800, od_followers_), (3900, od_mostThen_)], lg) rfl ?_
    rcases x_br h with ⟨hc, h⟩ | ⟨hc, h⟩
    · refine E_itt hc ?_
      obtain rfl := Option.some.inj h
      refine E_sts 2 (49, [], [.int v3], SH0, [(3208, fun _ => od_many_), (3300, od_kinds_), (3600, od_scores_), (3700, od_most_), (3800, od_followers_), (3900, od_mostThen_)], lg) rfl ?_
      exact E_ret rfl
    · refine E_itf hc ?_
      refine E_sts 4 (22, [(0, .ref 32), (1, .int v1), (2, .int v2), (3, .int v3), (4, .int v4)], [.int v4, .int v1, .ref 33], SH0, [(3208, fun _ => od_many_), (3300, od_kinds_), (3600, od_scores_), (3700, od_most_), (3800, od_followers_), (3900, od_mostThen_)], lg) rfl ?_
      obtain ⟨hp, h⟩ := x_ite h
      refine E_par (p := inr v1 9) (23, [(0, .ref 32), (1, .int v1), (2, .int v2), (3, .int v3), (4, .int v4)], [], SH0, [(3208, fun _ => od_many_), (3300, (upd od_kinds_ v1.toNatClampNeg v4)), (3600, od_scores_), (3700, od_most_), (3800, od_followers_), (3900, od_mostThen_)], lg) rfl hp ?_
      refine E_sts 2 (25, [(0, .ref 32), (1, .int v1), (2, .int v2), (3, .int v3), (4, .int v4)], [.int 0, .ref 32], SH0, [(3208, fun _ => od_many_), (3300, (upd od_kinds_ v1.toNatClampNeg v4)), (3600, od_scores_), (3700, od_most_), (3800, od_followers_), (3900, od_mostThen_)], lg) rfl ?_
      obtain ⟨r25, hr, h⟩ := x_bind h
      refine E_call rfl (e_X1_weigh X _ _ _ r25 hr) (by decide) ?_
      refine E_sts 4 (if r25.1 ≤ v2 then 42 else 36, [(0, .ref 32), (1, .int v1), (2, .int v2), (3, .int v3), (4, .int v4), (5, .int r25.1)], [], SH0, [(3208, fun _ => r25.2.1), (3300, (upd od_kinds_ v1.toNatClampNeg v4)), (3600, r25.2.2.1), (3700, r25.2.2.2.1), (3800, r25.2.2.2.2.1), (3900, r25.2.2.2.2.2)], lg) rfl ?_
      rcases x_br h with ⟨hc, h⟩ | ⟨hc, h⟩
      · refine E_itt hc ?_
        refine E_sts 3 (8, [(0, .ref 32), (1, .int v1), (2, .int v2), (3, .int v3), (4, .int (v4 + 1))], [], SH0, [(3208, fun _ => r25.2.1), (3300, (upd od_kinds_ v1.toNatClampNeg v4)), (3600, r25.2.2.1), (3700, r25.2.2.2.1), (3800, r25.2.2.2.2.1), (3900, r25.2.2.2.2.2)], lg) rfl ?_
        exact ih v1 v2 v3 (v4 + 1) r25.2.1 (upd od_kinds_ v1.toNatClampNeg v4) r25.2.2.1 r25.2.2.2.1 r25.2.2.2.2.1 r25.2.2.2.2.2 r h
      · refine E_itf hc ?_
        refine E_sts 7 (8, [(0, .ref 32), (1, .int v1), (2, .int r25.1), (3, .int v4), (4, .int (v4 + 1))], [], SH0, [(3208, fun _ => r25.2.1), (3300, (upd od_kinds_ v1.toNatClampNeg v4)), (3600, r25.2.2.1), (3700, r25.2.2.2.1), (3800, r25.2.2.2.2.1), (3900, r25.2.2.2.2.2)], lg) rfl ?_
        exact ih v1 r25.1 v4 (v4 + 1) r25.2.1 (upd od_kinds_ v1.toNatClampNeg v4) r25.2.2.1 r25.2.2.2.1 r25.2.2.2.2.1 r25.2.2.2.2.2 r h
set_option maxHeartbeats 4000000 in
set_option maxRecDepth 20000 in
theorem e_X1_bestKind (X : xX) (σ : xM) (lg : Int64) (v1 : Int32) (r : Int32 × Int32 × (Nat → Int32) × (Nat → Int32) × (Nat → Int32) × (Nat → Int32) × (Nat → Int32)) (h : X1_bestKind (σ 3208 0) (σ 3211 0) (σ 3212 0) (σ 3213 0) (σ 3214 0) (σ 3300) (σ 3400) (σ 3500) (σ 3600) (σ 3700) (σ 3800) (σ 3900) v1 = some r) : EM XP X 5 22 [.ref 32, .int v1] SH0 lg σ (some (.int r.1), SH0, [(3208, fun _ => r.2.1), (3300, r.2.2.1), (3600, r.2.2.2.1), (3700, r.2.2.2.2.1), (3800, r.2.2.2.2.2.1), (3900, r.2.2.2.2.2.2)], lg) := by
  refine EM_of (M := xm_22) rfl rfl ?_
  unfold X1_bestKind at h
  refine E_sts 7 (8, [(0, .ref 32), (1, .int v1), (2, .int (-1000000)), (3, .int 0), (4, .int 0)], [], SH0, [(3208, fun _ => (σ 3208 0)), (3300, (σ 3300)), (3600, (σ 3600)), (3700, (σ 3700)), (3800, (σ 3800)), (3900, (σ 3900))], lg) rfl ?_
  exact e_X1_bestKind_L8 X σ lg _ v1 (-1000000) 0 0 (σ 3208 0) (σ 3300) (σ 3600) (σ 3700) (σ 3800) (σ 3900) r h
