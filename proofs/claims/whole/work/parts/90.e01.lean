/-! what the machine answers is what the functions say (by gen/emit.py) -/
set_option maxHeartbeats 4000000 in
set_option maxRecDepth 20000 in
theorem e_X0_noiseOf (X : xX) (σ : xM) (lg : Int64) (v0 : Int32) (v1 : Int32) (v2 : Int32) (r : Int32) (h : X0_noiseOf v0 v1 v2 = r) : EM XP X 2 0 [.int v0, .int v1, .int v2] SH0 lg σ (some (.int r), SH0, [], lg) := by
  refine EM_of (M := xm_0) rfl rfl ?_
  unfold X0_noiseOf at h
  refine E_sts 2 (if v0 = 1 then 40 else if v0 = 2 then 44 else if v0 = 3 then 51 else if v0 = 4 then 57 else if v0 = 5 then 65 else if v0 = 6 then 69 else 76, [(0, .int v0), (1, .int v1), (2, .int v2)], [], SH0, [], lg) rfl ?_
  rcases x_br h with ⟨hc, h⟩ | ⟨hc, h⟩
  · refine E_itt hc ?_
    refine E_sts 2 (42, [(0, .int v0), (1, .int v1), (2, .int v2)], [.int 4, .int v1], SH0, [], lg) rfl ?_
    refine E_parn (p := 4 = 0) (43, [(0, .int v0), (1, .int v1), (2, .int v2)], [.int (v1 / 4)], SH0, [], lg) rfl (by decide) ?_
    subst h
    exact E_ret rfl
  refine E_itf hc ?_
  rcases x_br h with ⟨hc, h⟩ | ⟨hc, h⟩
  · refine E_itt hc ?_
    refine E_sts 3 (48, [(0, .int v0), (1, .int v1), (2, .int v2)], [.int 10, .int v2, .int v1], SH0, [], lg) rfl ?_
    refine E_parn (p := 10 = 0) (49, [(0, .int v0), (1, .int v1), (2, .int v2)], [.int (v2 / 10), .int v1], SH0, [], lg) rfl (by decide) ?_
    subst h
    refine E_sts 1 (50, [(0, .int v0), (1, .int v1), (2, .int v2)], [.int (v1 + (v2 / 10))], SH0, [], lg) rfl ?_
    exact E_ret rfl
  refine E_itf hc ?_
  rcases x_br h with ⟨hc, h⟩ | ⟨hc, h⟩
  · refine E_itt hc ?_
    refine E_sts 2 (53, [(0, .int v0), (1, .int v1), (2, .int v2)], [.int v2, .int v1], SH0, [], lg) rfl ?_
    refine E_call rfl (e_X0_fallingNoise X _ _ _ _ (X0_fallingNoise v1 v2) rfl) (by decide) ?_
    subst h
    exact E_ret rfl
  refine E_itf hc ?_
  rcases x_br h with ⟨hc, h⟩ | ⟨hc, h⟩
  · refine E_itt hc ?_
    refine E_sts 3 (60, [(0, .int v0), (1, .int v1), (2, .int v2)], [.int v2, .int v1, .int 2], SH0, [], lg) rfl ?_
    refine E_call rfl (e_X0_fallingNoise X _ _ _ _ (X0_fallingNoise v1 v2) rfl) (by decide) ?_
    subst h
    refine E_sts 1 (64, [(0, .int v0), (1, .int v1), (2, .int v2)], [.int (2 * (X0_fallingNoise v1 v2))], SH0, [], lg) rfl ?_
    exact E_ret rfl
  refine E_itf hc ?_
  rcases x_br h with ⟨hc, h⟩ | ⟨hc, h⟩
  · refine E_itt hc ?_
    subst h
    refine E_sts 3 (68, [(0, .int v0), (1, .int v1), (2, .int v2)], [.int (v1 + 5)], SH0, [], lg) rfl ?_
    exact E_ret rfl
  refine E_itf hc ?_
  rcases x_br h with ⟨hc, h⟩ | ⟨hc, h⟩
  · refine E_itt hc ?_
    subst h
    refine E_sts 5 (75, [(0, .int v0), (1, .int v1), (2, .int v2)], [.int ((v1 + 5) + 20)], SH0, [], lg) rfl ?_
    exact E_ret rfl
  refine E_itf hc ?_
  subst h
  refine E_sts 1 (77, [(0, .int v0), (1, .int v1), (2, .int v2)], [.int v1], SH0, [], lg) rfl ?_
  exact E_ret rfl
set_option maxHeartbeats 4000000 in
set_option maxRecDepth 20000 in
theorem e_X2_noiseBy (X : xX) (σ : xM) (lg : Int64) (v1 : Int32) (v2 : Int32) (r : Int32) (h : X2_noiseBy (σ 300) (σ 400) v1 v2 = some r) : EM XP X 3 28 [.ref 2, .int v1, .int v2] SH0 lg σ (some (.int r), SH0, [], lg) := by
  refine EM_of (M := xm_28) rfl rfl ?_
  unfold X2_noiseBy at h
  refine E_sts 3 (5, [(0, .ref 2), (1, .int v1), (2, .int v2)], [.int v1, .ref 3], SH0, [], lg) rfl ?_
  obtain ⟨hp, h⟩ := x_ite h
  refine E_par (p := inr v1 9) (6, [(0, .ref 2), (1, .int v1), (2, .int v2)], [.int ((σ 300) v1.toNatClampNeg)], SH0, [], lg) rfl hp ?_
  refine E_sts 3 (11, [(0, .ref 2), (1, .int v1), (2, .int v2)], [.int v1, .ref 4, .int ((σ 300) v1.toNatClampNeg)], SH0, [], lg) rfl ?_
  obtain ⟨hp, h⟩ := x_ite h
  refine E_par (p := inr v1 9) (12, [(0, .ref 2), (1, .int v1), (2, .int v2)], [.int ((σ 400) v1.toNatClampNeg), .int ((σ 300) v1.toNatClampNeg)], SH0, [], lg) rfl hp ?_
  refine E_sts 1 (13, [(0, .ref 2), (1, .int v1), (2, .int v2)], [.int v2, .int ((σ 400) v1.toNatClampNeg), .int ((σ 300) v1.toNatClampNeg)], SH0, [], lg) rfl ?_
  refine E_call rfl (e_X0_noiseOf X _ _ _ _ _ (X0_noiseOf ((σ 300) v1.toNatClampNeg) ((σ 400) v1.toNatClampNeg) v2) rfl) (by decide) ?_
  obtain rfl := Option.some.inj h
  exact E_ret rfl
set_option maxHeartbeats 4000000 in
set_option maxRecDepth 20000 in
theorem e_X0_lastedBy (X : xX) (σ : xM) (lg : Int64) (v0 : Int32) (v1 : Int32) (r : Int32) (h : X0_lastedBy v0 v1 = r) : EM XP X 1 3 [.int v0, .int v1] SH0 lg σ (some (.int r), SH0, [], lg) := by
  refine EM_of (M := xm_3) rfl rfl ?_
  unfold X0_lastedBy at h
  refine E_sts 2 (if v0 = 1 then 40 else if v0 = 2 then 66 else if v0 = 3 then 48 else if v0 = 4 then 52 else if v0 = 5 then 66 else if v0 = 6 then 58 else 66, [(0, .int v0), (1, .int v1)], [], SH0, [], lg) rfl ?_
  rcases x_br h with ⟨hc, h⟩ | ⟨hc, h⟩
  · refine E_itt hc ?_
    refine E_sts 3 (43, [(0, .int v0), (1, .int v1)], [.int 4, .int v1, .int 1], SH0, [], lg) rfl ?_
    refine E_parn (p := 4 = 0) (44, [(0, .int v0), (1, .int v1)], [.int (v1 / 4), .int 1], SH0, [], lg) rfl (by decide) ?_
    subst h
    refine E_sts 1 (47, [(0, .int v0), (1, .int v1)], [.int (xmax 1 (v1 / 4))], SH0, [], lg) rfl ?_
    exact E_ret rfl
  refine E_itf hc ?_
  rcases x_br h with ⟨hc, h⟩ | ⟨hc, h⟩
  · refine E_itt hc ?_
    subst h
    refine E_sts 1 (67, [(0, .int v0), (1, .int v1)], [.int v1], SH0, [], lg) rfl ?_
    exact E_ret rfl
  refine E_itf hc ?_
  rcases x_br h with ⟨hc, h⟩ | ⟨hc, h⟩
  · refine E_itt hc ?_
    subst h
    refine E_sts 3 (51, [(0, .int v0), (1, .int v1)], [.int (v1 + 1)], SH0, [], lg) rfl ?_
    exact E_ret rfl
  refine E_itf hc ?_
  rcases x_br h with ⟨hc, h⟩ | ⟨hc, h⟩
  · refine E_itt hc ?_
    subst h
    refine E_sts 5 (57, [(0, .int v0), (1, .int v1)], [.int ((v1 + 1) + 5)], SH0, [], lg) rfl ?_
    exact E_ret rfl
  refine E_itf hc ?_
  rcases x_br h with ⟨hc, h⟩ | ⟨hc, h⟩
  · refine E_itt hc ?_
    subst h
    refine E_sts 1 (67, [(0, .int v0), (1, .int v1)], [.int v1], SH0, [], lg) rfl ?_
    exact E_ret rfl
  refine E_itf hc ?_
  rcases x_br h with ⟨hc, h⟩ | ⟨hc, h⟩
  · refine E_itt hc ?_
    refine E_sts 3 (61, [(0, .int v0), (1, .int v1)], [.int 2, .int v1, .int 1], SH0, [], lg) rfl ?_
    refine E_parn (p := 2 = 0) (62, [(0, .int v0), (1, .int v1)], [.int (v1 / 2), .int 1], SH0, [], lg) rfl (by decide) ?_
    subst h
    refine E_sts 1 (65, [(0, .int v0), (1, .int v1)], [.int (xmax 1 (v1 / 2))], SH0, [], lg) rfl ?_
    exact E_ret rfl
  refine E_itf hc ?_
  subst h
  refine E_sts 1 (67, [(0, .int v0), (1, .int v1)], [.int v1], SH0, [], lg) rfl ?_
  exact E_ret rfl
set_option maxHeartbeats 4000000 in
set_option maxRecDepth 20000 in
theorem e_X2_lastedBy (X : xX) (σ : xM) (lg : Int64) (v1 : Int32) (r : Int32) (h : X2_lastedBy (σ 300) (σ 500) v1 = some r) : EM XP X 2 31 [.ref 2, .int v1] SH0 lg σ (some (.int r), SH0, [], lg) := by
  refine EM_of (M := xm_31) rfl rfl ?_
  unfold X2_lastedBy at h
  refine E_sts 3 (5, [(0, .ref 2), (1, .int v1)], [.int v1, .ref 3], SH0, [], lg) rfl ?_
  obtain ⟨hp, h⟩ := x_ite h
  refine E_par (p := inr v1 9) (6, [(0, .ref 2), (1, .int v1)], [.int ((σ 300) v1.toNatClampNeg)], SH0, [], lg) rfl hp ?_
  refine E_sts 3 (11, [(0, .ref 2), (1, .int v1)], [.int v1, .ref 5, .int ((σ 300) v1.toNatClampNeg)], SH0, [], lg) rfl ?_
  obtain ⟨hp, h⟩ := x_ite h
  refine E_par (p := inr v1 9) (12, [(0, .ref 2), (1, .int v1)], [.int ((σ 500) v1.toNatClampNeg), .int ((σ 300) v1.toNatClampNeg)], SH0, [], lg) rfl hp ?_
  refine E_call rfl (e_X0_lastedBy X _ _ _ _ (X0_lastedBy ((σ 300) v1.toNatClampNeg) ((σ 500) v1.toNatClampNeg)) rfl) (by decide) ?_
  obtain rfl := Option.some.inj h
  exact E_ret rfl
set_option maxHeartbeats 4000000 in
set_option maxRecDepth 20000 in
theorem e_X5_of (X : xX) (σ : xM) (lg : Int64) (v1 : Int32) (v2 : Int32) (r : Int32 × (Nat → Int32)) (h : X5_of (σ 100) (σ 201 0) (σ 207 0) (σ 300) (σ 400) (σ 500) (σ 600) (σ 800) v1 v2 = some r) : EM XP X 4 69 [.ref 0, .int v1, .int v2] SH0 lg σ (some (.int r.1), SH0, [(100, r.2)], lg) := by
  refine EM_of (M := xm_69) rfl rfl ?_
  unfold X5_of at h
  refine E_sts 3 (5, [(0, .ref 0), (1, .int v1), (2, .int v2)], [.int v1, .ref 2], SH0, [], lg) rfl ?_
  refine E_call rfl (e_X2_isBow X _ _ _ (X2_isBow (σ 201 0) v1) rfl) (by decide) ?_
  refine E_sts 1 (if (xb (X2_isBow (σ 201 0) v1)) = 0 then 11 else 17, [(0, .ref 0), (1, .int v1), (2, .int v2)], [], SH0, [], lg) rfl ?_
  rcases x_br h with ⟨hc, h⟩ | ⟨hc, h⟩
  · refine E_itt hc ?_
    refine E_sts 2 (13, [(0, .ref 0), (1, .int v1), (2, .int v2)], [.int 0, .ref 0], SH0, [], lg) rfl ?_
    obtain ⟨r13, hr, h⟩ := x_bind h
    refine E_call rfl (e_X5_finding X _ _ _ r13 hr) (by decide) ?_
    obtain rfl := Option.some.inj h
    exact E_ret rfl
  · refine E_itf hc ?_
    refine E_sts 2 (if v2 = 0 then 60 else if v2 = 1 then 70 else if v2 = 2 then 80 else if v2 = 3 then 90 else if v2 = 4 then 100 else if v2 = 5 then 109 else if v2 = 6 then 118 else 134, [(0, .ref 0), (1, .int v1), (2, .int v2)], [], SH0, [], lg) rfl ?_
    rcases x_br h with ⟨hc, h⟩ | ⟨hc, h⟩
    · refine E_itt hc ?_
      refine E_sts 4 (68, [(0, .ref 0), (1, .int v1), (2, .int v2)], [.int v1, .ref 3], SH0, [], lg) rfl ?_
      obtain ⟨hp, h⟩ := x_ite h
      refine E_par (p := inr v1 9) (100069, [(0, .ref 0), (1, .int v1), (2, .int v2)], [.int ((σ 300) v1.toNatClampNeg)], SH0, [], lg) rfl hp ?_
      obtain rfl := Option.some.inj h
      refine E_sts 1 (69, [], [.int ((σ 300) v1.toNatClampNeg)], SH0, [(100, (σ 100))], lg) rfl ?_
      exact E_ret rfl
    refine E_itf hc ?_
    rcases x_br h with ⟨hc, h⟩ | ⟨hc, h⟩
    · refine E_itt hc ?_
      refine E_sts 4 (78, [(0, .ref 0), (1, .int v1), (2, .int v2)], [.int v1, .ref 4], SH0, [], lg) rfl ?_
      obtain ⟨hp, h⟩ := x_ite h
      refine E_par (p := inr v1 9) (100079, [(0, .ref 0), (1, .int v1), (2, .int v2)], [.int ((σ 400) v1.toNatClampNeg)], SH0, [], lg) rfl hp ?_
      obtain rfl := Option.some.inj h
      refine E_sts 1 (79, [], [.int ((σ 400) v1.toNatClampNeg)], SH0, [(100, (σ 100))], lg) rfl ?_
      exact E_ret rfl
    refine E_itf hc ?_
    rcases x_br h with ⟨hc, h⟩ | ⟨hc, h⟩
    · refine E_itt hc ?_
      refine E_sts 4 (88, [(0, .ref 0), (1, .int v1), (2, .int v2)], [.int v1, .ref 5], SH0, [], lg) rfl ?_
      obtain ⟨hp, h⟩ := x_ite h
      refine E_par (p := inr v1 9) (100089, [(0, .ref 0), (1, .int v1), (2, .int v2)], [.int ((σ 500) v1.toNatClampNeg)], SH0, [], lg) rfl hp ?_
      obtain rfl := Option.some.inj h
      refine E_sts 1 (89, [], [.int ((σ 500) v1.toNatClampNeg)], SH0, [(100, (σ 100))], lg) rfl ?_
      exact E_ret rfl
    refine E_itf hc ?_
    rcases x_br h with ⟨hc, h⟩ | ⟨hc, h⟩
    · refine E_itt hc ?_
      refine E_sts 4 (98, [(0, .ref 0), (1, .int v1), (2, .int v2)], [.int v1, .ref 6], SH0, [], lg) rfl ?_
      obtain ⟨hp, h⟩ := x_ite h
      refine E_par (p := inr v1 9) (100099, [(0, .ref 0), (1, .int v1), (2, .int v2)], [.int ((σ 600) v1.toNatClampNeg)], SH0, [], lg) rfl hp ?_
      obtain rfl := Option.some.inj h
      refine E_sts 1 (99, [], [.int ((σ 600) v1.toNatClampNeg)], SH0, [(100, (σ 100))], lg) rfl ?_
      exact E_ret rfl
    refine E_itf hc ?_
    rcases x_br h with ⟨hc, h⟩ | ⟨hc, h⟩
    · refine E_itt hc ?_
      refine E_sts 3 (105, [(0, .ref 0), (1, .int v1), (2, .int v2)], [.int v1, .ref 2], SH0, [], lg) rfl ?_
      obtain ⟨r105, hr, h⟩ := x_bind h
      refine E_call rfl (e_X2_leftBy X _ _ _ r105 hr) (by decide) ?_
      obtain rfl := Option.some.inj h
      refine E_sts 1 (108, [], [.int r105], SH0, [(100, (σ 100))], lg) rfl ?_
      exact E_ret rfl
    refine E_itf hc ?_
    rcases x_br h with ⟨hc, h⟩ | ⟨hc, h⟩
    · refine E_itt hc ?_
      refine E_sts 3 (114, [(0, .ref 0), (1, .int v1), (2, .int v2)], [.int v1, .ref 2], SH0, [], lg) rfl ?_
      obtain ⟨r114, hr, h⟩ := x_bind h
      refine E_call rfl (e_X2_lastedBy X _ _ _ r114 hr) (by decide) ?_
      obtain rfl := Option.some.inj h
      refine E_sts 1 (117, [], [.int r114], SH0, [(100, (σ 100))], lg) rfl ?_
      exact E_ret rfl
    refine E_itf hc ?_
    rcases x_br h with ⟨hc, h⟩ | ⟨hc, h⟩
    · refine E_itt hc ?_
      refine E_sts 5 (127, [(0, .ref 0), (1, .int v1), (2, .int v2)], [.ref 2, .int v1, .ref 2], SH0, [], lg) rfl ?_
      obtain ⟨r127, hr, h⟩ := x_bind h
      refine E_call rfl (e_X2_leftByLatest X _ _ r127 hr) (by decide) ?_
      obtain ⟨r130, hr, h⟩ := x_bind h
      refine E_call rfl (e_X2_noiseBy X _ _ _ _ r130 hr) (by decide) ?_
      obtain rfl := Option.some.inj h
      refine E_sts 1 (133, [], [.int r130], SH0, [(100, (σ 100))], lg) rfl ?_
      exact E_ret rfl
    refine E_itf hc ?_
    refine E_sts 2 (136, [(0, .ref 0), (1, .int v1), (2, .int v2)], [.int 0, .ref 0], SH0, [], lg) rfl ?_
    obtain ⟨r136, hr, h⟩ := x_bind h
    refine E_call rfl (e_X5_finding X _ _ _ r136 hr) (by decide) ?_
    obtain rfl := Option.some.inj h
    exact E_ret rfl
set_option maxHeartbeats 4000000 in
set_option maxRecDepth 20000 in
theorem e_X6_isBow (X : xX) (σ : xM) (lg : Int64) (v1 : Int32) (r : Bool) (h : X6_isBow (σ 5300) v1 = some r) : EM XP X 2 128 [.ref 52, .int v1] SH0 lg σ (some (.int (xb r)), SH0, [], lg) := by
  refine EM_of (M := xm_128) rfl rfl ?_
  unfold X6_isBow at h
  refine E_sts 5 (7, [(0, .ref 52), (1, .int v1)], [.int 3, .ref 53, .int 0, .int v1], SH0, [], lg) rfl ?_
  refine E_par (p := inr 3 83) (8, [(0, .ref 52), (1, .int v1)], [.int ((σ 5300) 3), .int 0, .int v1], SH0, [], lg) rfl (by decide) ?_
  refine E_sts 2 (10, [(0, .ref 52), (1, .int v1)], [.int (((σ 5300) 3) - 1), .int 0, .int v1], SH0, [], lg) rfl ?_
  refine E_call rfl (e_X6_in1 X _ _ _ _ _ (X6_in1 v1 0 (((σ 5300) 3) - 1)) rfl) (by decide) ?_
  obtain rfl := Option.some.inj h
  exact E_retp (p := (xb (X6_in1 v1 0 (((σ 5300) 3) - 1))) = 0 ∨ (xb (X6_in1 v1 0 (((σ 5300) 3) - 1))) = 1) rfl (xb01 _)
set_option maxHeartbeats 4000000 in
set_option maxRecDepth 20000 in
theorem e_X6_get (X : xX) (σ : xM) (lg : Int64) (v1 : Int32) (v2 : Int32) (r : Int32) (h : X6_get (σ 5300) v1 v2 = some r) : EM XP X 1 129 [.ref 52, .int v1, .int v2] SH0 lg σ (some (.int r), SH0, [], lg) := by
  refine EM_of (M := xm_129) rfl rfl ?_
  unfold X6_get at h
  refine E_sts 9 (12, [(0, .ref 52), (1, .int v1), (2, .int v2)], [.int ((10 + (4 * v1)) + v2), .ref 53], SH0, [], lg) rfl ?_
  obtain ⟨hp, h⟩ := x_ite h
  refine E_par (p := inr ((10 + (4 * v1)) + v2) 83) (13, [(0, .ref 52), (1, .int v1), (2, .int v2)], [.int ((σ 5300) ((10 + (4 * v1)) + v2).toNatClampNeg)], SH0, [], lg) rfl hp ?_
  obtain rfl := Option.some.inj h
  exact E_ret rfl
set_option maxHeartbeats 4000000 in
set_option maxRecDepth 20000 in
theorem e_X6_leaves (X : xX) (σ : xM) (lg : Int64) (v1 : Int32) (r : Int32) (h : X6_leaves (σ 5300) v1 = some r) : EM XP X 2 134 [.ref 52, .int v1] SH0 lg σ (some (.int r), SH0, [], lg) := by
  refine EM_of (M := xm_134) rfl rfl ?_
  unfold X6_leaves at h
  refine E_sts 3 (3, [(0, .ref 52), (1, .int v1)], [.int 0, .int v1, .ref 52], SH0, [], lg) rfl ?_
  obtain ⟨r3, hr, h⟩ := x_bind h
  refine E_call rfl (e_X6_get X _ _ _ _ r3 hr) (by decide) ?_
  refine E_sts 4 (if r3 = 1 then 17 else 12, [(0, .ref 52), (1, .int v1), (2, .int r3)], [], SH0, [], lg) rfl ?_
  rcases x_br h with ⟨hc, h⟩ | ⟨hc, h⟩
  · refine E_itt hc ?_
    obtain rfl := Option.some.inj h
    refine E_sts 2 (54, [(0, .ref 52), (1, .int v1), (2, .int r3)], [.int 0], SH0, [], lg) rfl ?_
    exact E_ret rfl
  · refine E_itf hc ?_
    refine E_sts 3 (if r3 = 5 then 17 else 21, [(0, .ref 52), (1, .int v1), (2, .int r3)], [], SH0, [], lg) rfl ?_
    rcases x_br h with ⟨hc, h⟩ | ⟨hc, h⟩
    · refine E_itt hc ?_
      obtain rfl := Option.some.inj h
      refine E_sts 2 (54, [(0, .ref 52), (1, .int v1), (2, .int r3)], [.int 0], SH0, [], lg) rfl ?_
      exact E_ret rfl
    · refine E_itf hc ?_
      refine E_sts 3 (if r3 = 4 then 26 else 37, [(0, .ref 52), (1, .int v1), (2, .int r3)], [], SH0, [], lg) rfl ?_
      rcases x_br h with ⟨hc, h⟩ | ⟨hc, h⟩
      · refine E_itt hc ?_
        refine E_sts 4 (30, [(0, .ref 52), (1, .int v1), (2, .int r3)], [.int 1, .int v1, .ref 52, .int 2], SH0, [], lg) rfl ?_
        obtain ⟨r30, hr, h⟩ := x_bind h
        refine E_call rfl (e_X6_get X _ _ _ _ r30 hr) (by decide) ?_
        obtain rfl := Option.some.inj h
        refine E_sts 2 (54, [(0, .ref 52), (1, .int v1), (2, .int r3)], [.int (2 * r30)], SH0, [], lg) rfl ?_
        exact E_ret rfl
      · refine E_itf hc ?_
        refine E_sts 3 (if r3 = 6 then 43 else 48, [(0, .ref 52), (1, .int v1), (2, .int r3)], [], SH0, [], lg) rfl ?_
        rcases x_br h with ⟨hc, h⟩ | ⟨hc, h⟩
        · refine E_itt hc ?_
          obtain rfl := Option.some.inj h
          refine E_sts 2 (54, [(0, .ref 52), (1, .int v1), (2, .int r3)], [.int 50], SH0, [], lg) rfl ?_
          exact E_ret rfl
        · refine E_itf hc ?_
          refine E_sts 3 (51, [(0, .ref 52), (1, .int v1), (2, .int r3)], [.int 1, .int v1, .ref 52], SH0, [], lg) rfl ?_
          obtain ⟨r51, hr, h⟩ := x_bind h
          refine E_call rfl (e_X6_get X _ _ _ _ r51 hr) (by decide) ?_
          obtain rfl := Option.some.inj h
          exact E_ret rfl
set_option maxHeartbeats 4000000 in
set_option maxRecDepth 20000 in
theorem e_X6_most (X : xX) (σ : xM) (lg : Int64) (v0 : Int32) (v1 : Int32) (r : Int32) (h : X6_most v0 v1 = r) : EM XP X 1 125 [.int v0, .int v1] SH0 lg σ (some (.int r), SH0, [], lg) := by
  refine EM_of (M := xm_125) rfl rfl ?_
  unfold X6_most at h
  refine E_sts 3 (if v0 ≤ v1 then 9 else 5, [(0, .int v0), (1, .int v1)], [], SH0, [], lg) rfl ?_
  rcases x_br h with ⟨hc, h⟩ | ⟨hc, h⟩
  · refine E_itt hc ?_
    subst h
    refine E_sts 1 (10, [(0, .int v0), (1, .int v1)], [.int v1], SH0, [], lg) rfl ?_
    exact E_ret rfl
  · refine E_itf hc ?_
    subst h
    refine E_sts 2 (10, [(0, .int v0), (1, .int v1)], [.int v0], SH0, [], lg) rfl ?_
    exact E_ret rfl
set_option maxHeartbeats 4000000 in
set_option maxRecDepth 20000 in
theorem e_X6_secondsOf (X : xX) (σ : xM) (lg : Int64) (v1 : Int32) (r : Int32) (h : X6_secondsOf (σ 5300) v1 = some r) : EM XP X 2 135 [.ref 52, .int v1] SH0 lg σ (some (.int r), SH0, [], lg) := by
  refine EM_of (M := xm_135) rfl rfl ?_
  unfold X6_secondsOf at h
  refine E_sts 3 (3, [(0, .ref 52), (1, .int v1)], [.int 2, .int v1, .ref 52], SH0, [], lg) rfl ?_
  obtain ⟨r3, hr, h⟩ := x_bind h
  refine E_call rfl (e_X6_get X _ _ _ _ r3 hr) (by decide) ?_
  refine E_sts 4 (10, [(0, .ref 52), (1, .int v1), (2, .int r3)], [.int 0, .int v1, .ref 52], SH0, [], lg) rfl ?_
  obtain ⟨r10, hr, h⟩ := x_bind h
  refine E_call rfl (e_X6_get X _ _ _ _ r10 hr) (by decide) ?_
  refine E_sts 1 (if r10 = 1 then 52 else if r10 = 2 then 77 else if r10 = 3 then 60 else if r10 = 4 then 64 else if r10 = 5 then 77 else if r10 = 6 then 69 else 77, [(0, .ref 52), (1, .int v1), (2, .int r3)], [], SH0, [], lg) rfl ?_
  rcases x_br h with ⟨hc, h⟩ | ⟨hc, h⟩
  · refine E_itt hc ?_
    refine E_sts 3 (55, [(0, .ref 52), (1, .int v1), (2, .int r3)], [.int 4, .int r3, .int 1], SH0, [], lg) rfl ?_
    refine E_parn (p := 4 = 0) (56, [(0, .ref 52), (1, .int v1), (2, .int r3)], [.int (r3 / 4), .int 1], SH0, [], lg) rfl (by decide) ?_
    refine E_call rfl (e_X6_most X _ _ _ _ (X6_most 1 (r3 / 4)) rfl) (by decide) ?_
    obtain rfl := Option.some.inj h
    exact E_ret rfl
  refine E_itf hc ?_
  rcases x_br h with ⟨hc, h⟩ | ⟨hc, h⟩
  · refine E_itt hc ?_
    obtain rfl := Option.some.inj h
    refine E_sts 1 (78, [(0, .ref 52), (1, .int v1), (2, .int r3)], [.int r3], SH0, [], lg) rfl ?_
    exact E_ret rfl
  refine E_itf hc ?_
  rcases x_br h with ⟨hc, h⟩ | ⟨hc, h⟩
  · refine E_itt hc ?_
    obtain rfl := Option.some.inj h
    refine E_sts 3 (63, [(0, .ref 52), (1, .int v1), (2, .int r3)], [.int (r3 + 1)], SH0, [], lg) rfl ?_
    exact E_ret rfl
  refine E_itf hc ?_
  rcases x_br h with ⟨hc, h⟩ | ⟨hc, h⟩
  · refine E_itt hc ?_
    obtain rfl := Option.some.inj h
    refine E_sts 3 (68, [(0, .ref 52), (1, .int v1), (2, .int r3)], [.int (r3 + 6)], SH0, [], lg) rfl ?_
    exact E_ret rfl
  refine E_itf hc ?_
  rcases x_br h with ⟨hc, h⟩ | ⟨hc, h⟩
  · refine E_itt hc ?_
    obtain rfl := Option.some.inj h
    refine E_sts 1 (78, [(0, .ref 52), (1, .int v1), (2, .int r3)], [.int r3], SH0, [], lg) rfl ?_
    exact E_ret rfl
  refine E_itf hc ?_
  rcases x_br h with ⟨hc, h⟩ | ⟨hc, h⟩
  · refine E_itt hc ?_
    refine E_sts 3 (72, [(0, .ref 52), (1, .int v1), (2, .int r3)], [.int 2, .int r3, .int 1], SH0, [], lg) rfl ?_
    refine E_parn (p := 2 = 0) (73, [(0, .ref 52), (1, .int v1), (2, .int r3)], [.int (r3 / 2), .int 1], SH0, [], lg) rfl (by decide) ?_
    refine E_call rfl (e_X6_most X _ _ _ _ (X6_most 1 (r3 / 2)) rfl) (by decide) ?_
    obtain rfl := Option.some.inj h
    exact E_ret rfl
  refine E_itf hc ?_
  obtain rfl := Option.some.inj h
  refine E_sts 1 (78, [(0, .ref 52), (1, .int v1), (2, .int r3)], [.int r3], SH0, [], lg) rfl ?_
  exact E_ret rfl
set_option maxHeartbeats 4000000 in
set_option maxRecDepth 20000 in
theorem e_X6_whoAt (X : xX) (σ : xM) (lg : Int64) (v1 : Int32) (r : Int32) (h : X6_whoAt (σ 5300) v1 = some r) : EM XP X 1 137 [.ref 52, .int v1] SH0 lg σ (some (.int r), SH0, [], lg) := by
  refine EM_of (M := xm_137) rfl rfl ?_
  unfold X6_whoAt at h
  refine E_sts 7 (10, [(0, .ref 52), (1, .int v1)], [.int (46 + (3 * v1)), .ref 53], SH0, [], lg) rfl ?_
  obtain ⟨hp, h⟩ := x_ite h
  refine E_par (p := inr (46 + (3 * v1)) 83) (11, [(0, .ref 52), (1, .int v1)], [.int ((σ 5300) (46 + (3 * v1)).toNatClampNeg)], SH0, [], lg) rfl hp ?_
  obtain rfl := Option.some.inj h
  exact E_ret rfl
set_option maxHeartbeats 4000000 in
set_option maxRecDepth 20000 in
theorem e_X6_latest (X : xX) (σ : xM) (lg : Int64) (r : Int32) (h : X6_latest (σ 5300) = some r) : EM XP X 2 139 [.ref 52] SH0 lg σ (some (.int r), SH0, [], lg) := by
  refine EM_of (M := xm_139) rfl rfl ?_
  unfold X6_latest at h
  refine E_sts 3 (5, [(0, .ref 52)], [.int 2, .ref 53], SH0, [], lg) rfl ?_
  refine E_par (p := inr 2 83) (6, [(0, .ref 52)], [.int ((σ 5300) 2)], SH0, [], lg) rfl (by decide) ?_
  refine E_sts 1 (if ((σ 5300) 2) = 0 then 9 else 13, [(0, .ref 52)], [], SH0, [], lg) rfl ?_
  rcases x_br h with ⟨hc, h⟩ | ⟨hc, h⟩
  · refine E_itt hc ?_
    obtain rfl := Option.some.inj h
    refine E_sts 2 (25, [(0, .ref 52)], [.int (-1)], SH0, [], lg) rfl ?_
    exact E_ret rfl
  · refine E_itf hc ?_
    refine E_sts 4 (19, [(0, .ref 52)], [.int 2, .ref 53, .ref 52], SH0, [], lg) rfl ?_
    refine E_par (p := inr 2 83) (20, [(0, .ref 52)], [.int ((σ 5300) 2), .ref 52], SH0, [], lg) rfl (by decide) ?_
    refine E_sts 2 (22, [(0, .ref 52)], [.int (((σ 5300) 2) - 1), .ref 52], SH0, [], lg) rfl ?_
    obtain ⟨r22, hr, h⟩ := x_bind h
    refine E_call rfl (e_X6_whoAt X _ _ _ r22 hr) (by decide) ?_
    obtain rfl := Option.some.inj h
    exact E_ret rfl
set_option maxHeartbeats 4000000 in
set_option maxRecDepth 20000 in
theorem e_X6_leftBy (X : xX) (σ : xM) (lg : Int64) (v1 : Int32) (r : Int32) (h : X6_leftBy (σ 5300) v1 = some r) : EM XP X 3 136 [.ref 52, .int v1] SH0 lg σ (some (.int r), SH0, [], lg) := by
  refine EM_of (M := xm_136) rfl rfl ?_
  unfold X6_leftBy at h
  refine E_sts 2 (if 0 ≤ v1 then 8 else 4, [(0, .ref 52), (1, .int v1)], [], SH0, [], lg) rfl ?_
  rcases x_br h with ⟨hc, h⟩ | ⟨hc, h⟩
  · refine E_itt hc ?_
    refine E_sts 2 (10, [(0, .ref 52), (1, .int v1)], [.int v1, .ref 52], SH0, [], lg) rfl ?_
    obtain ⟨r10, hr, h⟩ := x_bind h
    refine E_call rfl (e_X6_leaves X _ _ _ r10 hr) (by decide) ?_
    obtain rfl := Option.some.inj h
    exact E_ret rfl
  · refine E_itf hc ?_
    obtain rfl := Option.some.inj h
    refine E_sts 2 (13, [(0, .ref 52), (1, .int v1)], [.int 0], SH0, [], lg) rfl ?_
    exact E_ret rfl
set_option maxHeartbeats 4000000 in
set_option maxRecDepth 20000 in
theorem e_X6_noiseOf (X : xX) (σ : xM) (lg : Int64) (v0 : Int32) (v1 : Int32) (v2 : Int32) (r : Int32) (h : X6_noiseOf v0 v1 v2 = r) : EM XP X 2 132 [.int v0, .int v1, .int v2] SH0 lg σ (some (.int r), SH0, [], lg) := by
  refine EM_of (M := xm_132) rfl rfl ?_
  unfold X6_noiseOf at h
  refine E_sts 3 (4, [(0, .int v0), (1, .int v1), (2, .int v2)], [.int 10, .int v2, .int v1], SH0, [], lg) rfl ?_
  refine E_parn (p := 10 = 0) (5, [(0, .int v0), (1, .int v1), (2, .int v2)], [.int (v2 / 10), .int v1], SH0, [], lg) rfl (by decide) ?_
  refine E_sts 8 (13, [(0, .int v0), (1, .int v1), (2, .int v2), (3, .int (v1 + (v2 / 10)))], [.int (v2 - v1), .int 0, .int (v1 + (v2 / 10)), .int 0], SH0, [], lg) rfl ?_
  refine E_call rfl (e_X6_most X _ _ _ _ (X6_most 0 (v2 - v1)) rfl) (by decide) ?_
  refine E_sts 1 (17, [(0, .int v0), (1, .int v1), (2, .int v2), (3, .int (v1 + (v2 / 10)))], [.int ((v1 + (v2 / 10)) - (X6_most 0 (v2 - v1))), .int 0], SH0, [], lg) rfl ?_
  refine E_call rfl (e_X6_most X _ _ _ _ (X6_most 0 ((v1 + (v2 / 10)) - (X6_most 0 (v2 - v1)))) rfl) (by decide) ?_
  refine E_sts 3 (if v0 = 1 then 60 else if v0 = 2 then 64 else if v0 = 3 then 66 else if v0 = 4 then 69 else if v0 = 5 then 74 else if v0 = 6 then 78 else 83, [(0, .int v0), (1, .int v1), (2, .int v2), (3, .int (v1 + (v2 / 10))), (4, .int (X6_most 0 ((v1 + (v2 / 10)) - (X6_most 0 (v2 - v1)))))], [], SH0, [], lg) rfl ?_
  rcases x_br h with ⟨hc, h⟩ | ⟨hc, h⟩
  · refine E_itt hc ?_
    refine E_sts 2 (62, [(0, .int v0), (1, .int v1), (2, .int v2), (3, .int (v1 + (v2 / 10))), (4, .int (X6_most 0 ((v1 + (v2 / 10)) - (X6_most 0 (v2 - v1)))))], [.int 4, .int v1], SH0, [], lg) rfl ?_
    refine E_parn (p := 4 = 0) (63, [(0, .int v0), (1, .int v1), (2, .int v2), (3, .int (v1 + (v2 / 10))), (4, .int (X6_most 0 ((v1 + (v2 / 10)) - (X6_most 0 (v2 - v1)))))], [.int (v1 / 4)], SH0, [], lg) rfl (by decide) ?_
    subst h
    exact E_ret rfl
  refine E_itf hc ?_
  rcases x_br h with ⟨hc, h⟩ | ⟨hc, h⟩
  · refine E_itt hc ?_
    subst h
    refine E_sts 1 (65, [(0, .int v0), (1, .int v1), (2, .int v2), (3, .int (v1 + (v2 / 10))), (4, .int (X6_most 0 ((v1 + (v2 / 10)) - (X6_most 0 (v2 - v1)))))], [.int (v1 + (v2 / 10))], SH0, [], lg) rfl ?_
    exact E_ret rfl
  refine E_itf hc ?_
  rcases x_br h with ⟨hc, h⟩ | ⟨hc, h⟩
  · refine E_itt hc ?_
    subst h
    refine E_sts 1 (68, [(0, .int v0), (1, .int v1), (2, .int v2), (3, .int (v1 + (v2 / 10))), (4, .int (X6_most 0 ((v1 + (v2 / 10)) - (X6_most 0 (v2 - v1)))))], [.int (X6_most 0 ((v1 + (v2 / 10)) - (X6_most 0 (v2 - v1))))], SH0, [], lg) rfl ?_
    exact E_ret rfl
  refine E_itf hc ?_
  rcases x_br h with ⟨hc, h⟩ | ⟨hc, h⟩
  · refine E_itt hc ?_
    subst h
    refine E_sts 3 (73, [(0, .int v0), (1, .int v1), (2, .int v2), (3, .int (v1 + (v2 / 10))), (4, .int (X6_most 0 ((v1 + (v2 / 10)) - (X6_most 0 (v2 - v1)))))], [.int (2 * (X6_most 0 ((v1 + (v2 / 10)) - (X6_most 0 (v2 - v1)))))], SH0, [], lg) rfl ?_
    exact E_ret rfl
  refine E_itf hc ?_
  rcases x_br h with ⟨hc, h⟩ | ⟨hc, h⟩
  · refine E_itt hc ?_
    subst h
    refine E_sts 3 (77, [(0, .int v0), (1, .int v1), (2, .int v2), (3, .int (v1 + (v2 / 10))), (4, .int (X6_most 0 ((v1 + (v2 / 10)) - (X6_most 0 (v2 - v1)))))], [.int (v1 + 5)], SH0, [], lg) rfl ?_
    exact E_ret rfl
  refine E_itf hc ?_
  rcases x_br h with ⟨hc, h⟩ | ⟨hc, h⟩
  · refine E_itt hc ?_
    subst h
    refine E_sts 3 (82, [(0, .int v0), (1, .int v1), (2, .int v2), (3, .int (v1 + (v2 / 10))), (4, .int (X6_most 0 ((v1 + (v2 / 10)) - (X6_most 0 (v2 - v1)))))], [.int (v1 + 25)], SH0, [], lg) rfl ?_
    exact E_ret rfl
  refine E_itf hc ?_
  subst h
  refine E_sts 1 (84, [(0, .int v0), (1, .int v1), (2, .int v2), (3, .int (v1 + (v2 / 10))), (4, .int (X6_most 0 ((v1 + (v2 / 10)) - (X6_most 0 (v2 - v1)))))], [.int v1], SH0, [], lg) rfl ?_
  exact E_ret rfl
