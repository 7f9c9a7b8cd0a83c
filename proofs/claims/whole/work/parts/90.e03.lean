/-! what the machine answers is what the functions say (by gen/emit.py) -/
set_option maxHeartbeats 4000000 in
set_option maxRecDepth 20000 in
theorem e_X5_rule (X : xX) (σ : xM) (lg : Int64) (v1 : Int32) (v2 : Int32) (r : Int32 × (Nat → Int32) × (Nat → Int32)) (h : X5_rule (σ 100) (σ 700) v1 v2 = some r) : EM XP X 2 72 [.ref 0, .int v1, .int v2] SH0 lg σ (some (.int r.1), SH0, [(100, r.2.1), (700, r.2.2)], lg) := by
  refine EM_of (M := xm_72) rfl rfl ?_
  unfold X5_rule at h
  refine E_sts 3 (3, [(0, .ref 0), (1, .int v1), (2, .int v2)], [.int 4, .int 0, .int v1], SH0, [], lg) rfl ?_
  refine E_call rfl (e_X5_isIn X _ _ _ _ _ (X5_isIn v1 0 4) rfl) (by decide) ?_
  refine E_sts 1 (if (xb (X5_isIn v1 0 4)) = 0 then 22 else 9, [(0, .ref 0), (1, .int v1), (2, .int v2)], [], SH0, [], lg) rfl ?_
  rcases x_br h with ⟨hc, h⟩ | ⟨hc, h⟩
  · refine E_itt hc ?_
    refine E_sts 2 (24, [(0, .ref 0), (1, .int v1), (2, .int v2)], [.int 0, .ref 0], SH0, [], lg) rfl ?_
    obtain ⟨r24, hr, h⟩ := x_bind h
    refine E_call rfl (e_X5_finding X _ _ _ r24 hr) (by decide) ?_
    obtain rfl := Option.some.inj h
    refine E_sts 1 (27, [], [.int r24.1], SH0, [(100, r24.2), (700, (σ 700))], lg) rfl ?_
    exact E_ret rfl
  · refine E_itf hc ?_
    refine E_sts 4 (15, [(0, .ref 0), (1, .int v1), (2, .int v2)], [.int v1, .ref 1000, .int 0, .int v2], SH0, [], lg) rfl ?_
    obtain ⟨hp, h⟩ := x_ite h
    refine E_par (p := inr v1 5) (16, [(0, .ref 0), (1, .int v1), (2, .int v2)], [.int (xstat 0 v1.toNatClampNeg), .int 0, .int v2], SH0, [], lg) rfl hp ?_
    refine E_call rfl (e_X5_isIn X _ _ _ _ _ (X5_isIn v2 0 (xstat 0 v1.toNatClampNeg)) rfl) (by decide) ?_
    refine E_sts 1 (if (xb (X5_isIn v2 0 (xstat 0 v1.toNatClampNeg))) = 0 then 22 else 28, [(0, .ref 0), (1, .int v1), (2, .int v2)], [], SH0, [], lg) rfl ?_
    rcases x_br h with ⟨hc, h⟩ | ⟨hc, h⟩
    · refine E_itt hc ?_
      refine E_sts 2 (24, [(0, .ref 0), (1, .int v1), (2, .int v2)], [.int 0, .ref 0], SH0, [], lg) rfl ?_
      obtain ⟨r24_1, hr, h⟩ := x_bind h
      refine E_call rfl (e_X5_finding X _ _ _ r24_1 hr) (by decide) ?_
      obtain rfl := Option.some.inj h
      refine E_sts 1 (27, [], [.int r24_1.1], SH0, [(100, r24_1.2), (700, (σ 700))], lg) rfl ?_
      exact E_ret rfl
    · refine E_itf hc ?_
      refine E_sts 5 (37, [(0, .ref 0), (1, .int v1), (2, .int v2)], [.int v2, .int v1, .ref 7], SH0, [], lg) rfl ?_
      obtain ⟨r37, hr, h⟩ := x_bind h
      refine E_call rfl (e_X5_put_sc_rules X _ _ _ _ r37 hr) (by decide) ?_
      obtain rfl := Option.some.inj h
      refine E_sts 1 (40, [], [.int r37.1], SH0, [(100, (σ 100)), (700, r37.2)], lg) rfl ?_
      exact E_ret rfl
set_option maxHeartbeats 4000000 in
set_option maxRecDepth 20000 in
theorem e_X6_greatestRule (X : xX) (σ : xM) (lg : Int64) (v0 : Int32) (r : Int32) (h : X6_greatestRule v0 = r) : EM XP X 1 148 [.int v0] SH0 lg σ (some (.int r), SH0, [], lg) := by
  refine EM_of (M := xm_148) rfl rfl ?_
  unfold X6_greatestRule at h
  refine E_sts 2 (if v0 = 0 then 4 else 9, [(0, .int v0)], [], SH0, [], lg) rfl ?_
  rcases x_br h with ⟨hc, h⟩ | ⟨hc, h⟩
  · refine E_itt hc ?_
    subst h
    refine E_sts 2 (32, [(0, .int v0)], [.int 9], SH0, [], lg) rfl ?_
    exact E_ret rfl
  · refine E_itf hc ?_
    refine E_sts 3 (if v0 = 1 then 14 else 19, [(0, .int v0)], [], SH0, [], lg) rfl ?_
    rcases x_br h with ⟨hc, h⟩ | ⟨hc, h⟩
    · refine E_itt hc ?_
      subst h
      refine E_sts 2 (32, [(0, .int v0)], [.int 10], SH0, [], lg) rfl ?_
      exact E_ret rfl
    · refine E_itf hc ?_
      refine E_sts 3 (if v0 = 4 then 24 else 30, [(0, .int v0)], [], SH0, [], lg) rfl ?_
      rcases x_br h with ⟨hc, h⟩ | ⟨hc, h⟩
      · refine E_itt hc ?_
        subst h
        refine E_sts 2 (32, [(0, .int v0)], [.int 999], SH0, [], lg) rfl ?_
        exact E_ret rfl
      · refine E_itf hc ?_
        subst h
        refine E_sts 1 (32, [(0, .int v0)], [.int 99], SH0, [], lg) rfl ?_
        exact E_ret rfl
set_option maxHeartbeats 4000000 in
set_option maxRecDepth 20000 in
theorem e_X6_rule (X : xX) (σ : xM) (lg : Int64) (v1 : Int32) (v2 : Int32) (r : Int32 × (Nat → Int32) × (Nat → Int32)) (h : X6_rule (σ 5300) (σ 5600) v1 v2 = some r) : EM XP X 2 149 [.ref 52, .int v1, .int v2] SH0 lg σ (some (.int r.1), SH0, [(5300, r.2.1), (5600, r.2.2)], lg) := by
  refine EM_of (M := xm_149) rfl rfl ?_
  unfold X6_rule at h
  refine E_sts 3 (3, [(0, .ref 52), (1, .int v1), (2, .int v2)], [.int 4, .int 0, .int v1], SH0, [], lg) rfl ?_
  refine E_call rfl (e_X6_in1 X _ _ _ _ _ (X6_in1 v1 0 4) rfl) (by decide) ?_
  refine E_sts 1 (if (xb (X6_in1 v1 0 4)) = 0 then 21 else 9, [(0, .ref 52), (1, .int v1), (2, .int v2)], [], SH0, [], lg) rfl ?_
  rcases x_br h with ⟨hc, h⟩ | ⟨hc, h⟩
  · refine E_itt hc ?_
    refine E_sts 2 (23, [(0, .ref 52), (1, .int v1), (2, .int v2)], [.int 0, .ref 52], SH0, [], lg) rfl ?_
    obtain ⟨r23, hr, h⟩ := x_bind h
    refine E_call rfl (e_X6_no X _ _ _ r23 hr) (by decide) ?_
    obtain rfl := Option.some.inj h
    refine E_sts 1 (26, [], [.int r23.1], SH0, [(5300, (σ 5300)), (5600, r23.2)], lg) rfl ?_
    exact E_ret rfl
  · refine E_itf hc ?_
    refine E_sts 3 (12, [(0, .ref 52), (1, .int v1), (2, .int v2)], [.int v1, .int 0, .int v2], SH0, [], lg) rfl ?_
    refine E_call rfl (e_X6_greatestRule X _ _ _ (X6_greatestRule v1) rfl) (by decide) ?_
    refine E_call rfl (e_X6_in1 X _ _ _ _ _ (X6_in1 v2 0 (X6_greatestRule v1)) rfl) (by decide) ?_
    refine E_sts 1 (if (xb (X6_in1 v2 0 (X6_greatestRule v1))) = 0 then 21 else 27, [(0, .ref 52), (1, .int v1), (2, .int v2)], [], SH0, [], lg) rfl ?_
    rcases x_br h with ⟨hc, h⟩ | ⟨hc, h⟩
    · refine E_itt hc ?_
      refine E_sts 2 (23, [(0, .ref 52), (1, .int v1), (2, .int v2)], [.int 0, .ref 52], SH0, [], lg) rfl ?_
      obtain ⟨r23_1, hr, h⟩ := x_bind h
      refine E_call rfl (e_X6_no X _ _ _ r23_1 hr) (by decide) ?_
      obtain rfl := Option.some.inj h
      refine E_sts 1 (26, [], [.int r23_1.1], SH0, [(5300, (σ 5300)), (5600, r23_1.2)], lg) rfl ?_
      exact E_ret rfl
    · refine E_itf hc ?_
      refine E_sts 5 (34, [(0, .ref 52), (1, .int v1), (2, .int v2)], [.int (5 + v1), .ref 53], SH0, [], lg) rfl ?_
      obtain ⟨hp, h⟩ := x_ite h
      refine E_par (p := inr (5 + v1) 83) (35, [(0, .ref 52), (1, .int v1), (2, .int v2)], [.int ((σ 5300) (5 + v1).toNatClampNeg)], SH0, [], lg) rfl hp ?_
      refine E_sts 7 (44, [(0, .ref 52), (1, .int v1), (2, .int v2), (3, .int ((σ 5300) (5 + v1).toNatClampNeg))], [.int v2, .int (5 + v1), .ref 53], SH0, [], lg) rfl ?_
      obtain ⟨hp, h⟩ := x_ite h
      refine E_par (p := inr (5 + v1) 83) (45, [(0, .ref 52), (1, .int v1), (2, .int v2), (3, .int ((σ 5300) (5 + v1).toNatClampNeg))], [], SH0, [(5300, (upd (σ 5300) (5 + v1).toNatClampNeg v2))], lg) rfl hp ?_
      obtain rfl := Option.some.inj h
      refine E_sts 2 (46, [], [.int ((σ 5300) (5 + v1).toNatClampNeg)], SH0, [(5300, (upd (σ 5300) (5 + v1).toNatClampNeg v2)), (5600, (σ 5600))], lg) rfl ?_
      exact E_ret rfl
set_option maxHeartbeats 4000000 in
set_option maxRecDepth 20000 in
theorem e_X5_noise (X : xX) (σ : xM) (lg : Int64) (v1 : Int32) (v2 : Int32) (r : Int32 × (Nat → Int32)) (h : X5_noise (σ 100) (σ 201 0) (σ 300) (σ 400) v1 v2 = some r) : EM XP X 4 73 [.ref 0, .int v1, .int v2] SH0 lg σ (some (.int r.1), SH0, [(100, r.2)], lg) := by
  refine EM_of (M := xm_73) rfl rfl ?_
  unfold X5_noise at h
  refine E_sts 3 (5, [(0, .ref 0), (1, .int v1), (2, .int v2)], [.int v1, .ref 2], SH0, [], lg) rfl ?_
  refine E_call rfl (e_X2_isBow X _ _ _ (X2_isBow (σ 201 0) v1) rfl) (by decide) ?_
  refine E_sts 1 (if (xb (X2_isBow (σ 201 0) v1)) = 0 then 22 else 11, [(0, .ref 0), (1, .int v1), (2, .int v2)], [], SH0, [], lg) rfl ?_
  rcases x_br h with ⟨hc, h⟩ | ⟨hc, h⟩
  · refine E_itt hc ?_
    refine E_sts 2 (24, [(0, .ref 0), (1, .int v1), (2, .int v2)], [.int 0, .ref 0], SH0, [], lg) rfl ?_
    obtain ⟨r24, hr, h⟩ := x_bind h
    refine E_call rfl (e_X5_finding X _ _ _ r24 hr) (by decide) ?_
    obtain rfl := Option.some.inj h
    exact E_ret rfl
  · refine E_itf hc ?_
    refine E_sts 3 (16, [(0, .ref 0), (1, .int v1), (2, .int v2)], [.int 999, .int 0, .int v2], SH0, [], lg) rfl ?_
    refine E_call rfl (e_X5_isIn X _ _ _ _ _ (X5_isIn v2 0 999) rfl) (by decide) ?_
    refine E_sts 1 (if (xb (X5_isIn v2 0 999)) = 0 then 22 else 28, [(0, .ref 0), (1, .int v1), (2, .int v2)], [], SH0, [], lg) rfl ?_
    rcases x_br h with ⟨hc, h⟩ | ⟨hc, h⟩
    · refine E_itt hc ?_
      refine E_sts 2 (24, [(0, .ref 0), (1, .int v1), (2, .int v2)], [.int 0, .ref 0], SH0, [], lg) rfl ?_
      obtain ⟨r24_1, hr, h⟩ := x_bind h
      refine E_call rfl (e_X5_finding X _ _ _ r24_1 hr) (by decide) ?_
      obtain rfl := Option.some.inj h
      exact E_ret rfl
    · refine E_itf hc ?_
      refine E_sts 4 (34, [(0, .ref 0), (1, .int v1), (2, .int v2)], [.int v2, .int v1, .ref 2], SH0, [], lg) rfl ?_
      obtain ⟨r34, hr, h⟩ := x_bind h
      refine E_call rfl (e_X2_noiseBy X _ _ _ _ r34 hr) (by decide) ?_
      obtain rfl := Option.some.inj h
      refine E_sts 1 (37, [], [.int r34], SH0, [(100, (σ 100))], lg) rfl ?_
      exact E_ret rfl
set_option maxHeartbeats 4000000 in
set_option maxRecDepth 20000 in
theorem e_X6_noise (X : xX) (σ : xM) (lg : Int64) (v1 : Int32) (v2 : Int32) (r : Int32 × (Nat → Int32)) (h : X6_noise (σ 5300) (σ 5600) v1 v2 = some r) : EM XP X 4 150 [.ref 52, .int v1, .int v2] SH0 lg σ (some (.int r.1), SH0, [(5600, r.2)], lg) := by
  refine EM_of (M := xm_150) rfl rfl ?_
  unfold X6_noise at h
  refine E_sts 2 (2, [(0, .ref 52), (1, .int v1), (2, .int v2)], [.int v1, .ref 52], SH0, [], lg) rfl ?_
  obtain ⟨r2, hr, h⟩ := x_bind h
  refine E_call rfl (e_X6_isBow X _ _ _ r2 hr) (by decide) ?_
  refine E_sts 1 (if (xb r2) = 0 then 28 else 8, [(0, .ref 52), (1, .int v1), (2, .int v2)], [], SH0, [], lg) rfl ?_
  rcases x_br h with ⟨hc, h⟩ | ⟨hc, h⟩
  · refine E_itt hc ?_
    refine E_sts 2 (30, [(0, .ref 52), (1, .int v1), (2, .int v2)], [.int 0, .ref 52], SH0, [], lg) rfl ?_
    obtain ⟨r30, hr, h⟩ := x_bind h
    refine E_call rfl (e_X6_no X _ _ _ r30 hr) (by decide) ?_
    obtain rfl := Option.some.inj h
    refine E_sts 1 (33, [], [.int r30.1], SH0, [(5600, r30.2)], lg) rfl ?_
    exact E_ret rfl
  · refine E_itf hc ?_
    refine E_sts 3 (13, [(0, .ref 52), (1, .int v1), (2, .int v2)], [.int 999, .int 0, .int v2], SH0, [], lg) rfl ?_
    refine E_call rfl (e_X6_in1 X _ _ _ _ _ (X6_in1 v2 0 999) rfl) (by decide) ?_
    refine E_sts 1 (if (xb (X6_in1 v2 0 999)) = 0 then 28 else 19, [(0, .ref 52), (1, .int v1), (2, .int v2)], [], SH0, [], lg) rfl ?_
    rcases x_br h with ⟨hc, h⟩ | ⟨hc, h⟩
    · refine E_itt hc ?_
      refine E_sts 2 (30, [(0, .ref 52), (1, .int v1), (2, .int v2)], [.int 0, .ref 52], SH0, [], lg) rfl ?_
      obtain ⟨r30_1, hr, h⟩ := x_bind h
      refine E_call rfl (e_X6_no X _ _ _ r30_1 hr) (by decide) ?_
      obtain rfl := Option.some.inj h
      refine E_sts 1 (33, [], [.int r30_1.1], SH0, [(5600, r30_1.2)], lg) rfl ?_
      exact E_ret rfl
    · refine E_itf hc ?_
      refine E_sts 3 (22, [(0, .ref 52), (1, .int v1), (2, .int v2)], [.int v2, .int v1, .ref 52], SH0, [], lg) rfl ?_
      obtain ⟨r22, hr, h⟩ := x_bind h
      refine E_call rfl (e_X6_noiseBy X _ _ _ _ r22 hr) (by decide) ?_
      obtain rfl := Option.some.inj h
      refine E_sts 2 (33, [], [.int r22], SH0, [(5600, (σ 5600))], lg) rfl ?_
      exact E_ret rfl
set_option maxHeartbeats 4000000 in
set_option maxRecDepth 20000 in
theorem e_X2_couldCome (X : xX) (σ : xM) (lg : Int64) (v1 : Int32) (v2 : Int32) (r : Bool) (h : X2_couldCome (σ 600) v1 v2 = some r) : EM XP X 1 33 [.ref 2, .int v1, .int v2] SH0 lg σ (some (.int (xb r)), SH0, [], lg) := by
  refine EM_of (M := xm_33) rfl rfl ?_
  unfold X2_couldCome at h
  refine E_sts 6 (if (v2 &&& (xshl 1 v1)) = 0 then 8 else 25, [(0, .ref 2), (1, .int v1), (2, .int v2)], [], SH0, [], lg) rfl ?_
  rcases x_br h with ⟨hc, h⟩ | ⟨hc, h⟩
  · refine E_itt hc ?_
    refine E_sts 3 (13, [(0, .ref 2), (1, .int v1), (2, .int v2)], [.int v1, .ref 6], SH0, [], lg) rfl ?_
    obtain ⟨hp, h⟩ := x_ite h
    refine E_par (p := inr v1 9) (14, [(0, .ref 2), (1, .int v1), (2, .int v2)], [.int ((σ 600) v1.toNatClampNeg)], SH0, [], lg) rfl hp ?_
    refine E_sts 5 (if (((σ 600) v1.toNatClampNeg) &&& (v2 ^^^ (-1))) = 0 then 21 else 25, [(0, .ref 2), (1, .int v1), (2, .int v2)], [], SH0, [], lg) rfl ?_
    rcases x_br h with ⟨hc, h⟩ | ⟨hc, h⟩
    · refine E_itt hc ?_
      obtain rfl := Option.some.inj h
      refine E_sts 2 (26, [(0, .ref 2), (1, .int v1), (2, .int v2)], [.int 1], SH0, [], lg) rfl ?_
      exact E_retp (p := (1 : Int32) = 0 ∨ (1 : Int32) = 1) rfl (by decide)
    · refine E_itf hc ?_
      obtain rfl := Option.some.inj h
      refine E_sts 1 (26, [(0, .ref 2), (1, .int v1), (2, .int v2)], [.int 0], SH0, [], lg) rfl ?_
      exact E_retp (p := (0 : Int32) = 0 ∨ (0 : Int32) = 1) rfl (by decide)
  · refine E_itf hc ?_
    obtain rfl := Option.some.inj h
    refine E_sts 1 (26, [(0, .ref 2), (1, .int v1), (2, .int v2)], [.int 0], SH0, [], lg) rfl ?_
    exact E_retp (p := (0 : Int32) = 0 ∨ (0 : Int32) = 1) rfl (by decide)
set_option maxHeartbeats 4000000 in
set_option maxRecDepth 20000 in
theorem e_X2_enter (X : xX) (σ : xM) (lg : Int64) (v1 : Int32) (r : Int32 × Int32 × Int32 × Int32 × Int32 × (Nat → Int32) × (Nat → Int32) × (Nat → Int32)) (h : X2_enter (σ 207 0) (σ 208 0) (σ 209 0) (σ 210 0) (σ 300) (σ 400) (σ 500) (σ 800) (σ 900) (σ 1000) v1 = some r) : EM XP X 4 35 [.ref 2, .int v1] SH0 lg σ (some (.int r.1), SH0, [(207, fun _ => r.2.1), (208, fun _ => r.2.2.1), (209, fun _ => r.2.2.2.1), (210, fun _ => r.2.2.2.2.1), (800, r.2.2.2.2.2.1), (900, r.2.2.2.2.2.2.1), (1000, r.2.2.2.2.2.2.2)], lg) := by
  refine EM_of (M := xm_35) rfl rfl ?_
  unfold X2_enter at h
  refine E_sts 3 (3, [(0, .ref 2), (1, .int v1)], [.ref 2, .int v1, .ref 2], SH0, [], lg) rfl ?_
  obtain ⟨r3, hr, h⟩ := x_bind h
  refine E_call rfl (e_X2_leftByLatest X _ _ r3 hr) (by decide) ?_
  obtain ⟨r6, hr, h⟩ := x_bind h
  refine E_call rfl (e_X2_noiseBy X _ _ _ _ r6 hr) (by decide) ?_
  refine E_sts 3 (12, [(0, .ref 2), (1, .int v1), (2, .int r6)], [.int v1, .ref 2], SH0, [], lg) rfl ?_
  obtain ⟨r12, hr, h⟩ := x_bind h
  refine E_call rfl (e_X2_lastedBy X _ _ _ r12 hr) (by decide) ?_
  refine E_sts 6 (25, [(0, .ref 2), (1, .int v1), (2, .int r6), (3, .int r12)], [.int v1, .int (σ 207 0), .ref 8], SH0, [], lg) rfl ?_
  obtain ⟨hp, h⟩ := x_ite h
  refine E_par (p := inr (σ 207 0) 9) (26, [(0, .ref 2), (1, .int v1), (2, .int r6), (3, .int r12)], [], SH0, [(800, (upd (σ 800) (σ 207 0).toNatClampNeg v1))], lg) rfl hp ?_
  refine E_sts 5 (35, [(0, .ref 2), (1, .int v1), (2, .int r6), (3, .int r12)], [.int r6, .int (σ 207 0), .ref 9], SH0, [(800, (upd (σ 800) (σ 207 0).toNatClampNeg v1))], lg) rfl ?_
  obtain ⟨hp, h⟩ := x_ite h
  refine E_par (p := inr (σ 207 0) 9) (36, [(0, .ref 2), (1, .int v1), (2, .int r6), (3, .int r12)], [], SH0, [(800, (upd (σ 800) (σ 207 0).toNatClampNeg v1)), (900, (upd (σ 900) (σ 207 0).toNatClampNeg r6))], lg) rfl hp ?_
  refine E_sts 5 (45, [(0, .ref 2), (1, .int v1), (2, .int r6), (3, .int r12)], [.int r12, .int (σ 207 0), .ref 10], SH0, [(800, (upd (σ 800) (σ 207 0).toNatClampNeg v1)), (900, (upd (σ 900) (σ 207 0).toNatClampNeg r6))], lg) rfl ?_
  obtain ⟨hp, h⟩ := x_ite h
  refine E_par (p := inr (σ 207 0) 9) (46, [(0, .ref 2), (1, .int v1), (2, .int r6), (3, .int r12)], [], SH0, [(800, (upd (σ 800) (σ 207 0).toNatClampNeg v1)), (900, (upd (σ 900) (σ 207 0).toNatClampNeg r6)), (1000, (upd (σ 1000) (σ 207 0).toNatClampNeg r12))], lg) rfl hp ?_
  obtain rfl := Option.some.inj h
  refine E_sts 27 (89, [(0, .ref 2), (1, .int v1), (2, .int r6), (3, .int r12)], [.int r6], SH0, [(207, fun _ => ((σ 207 0) + 1)), (208, fun _ => ((σ 208 0) ||| (xshl 1 v1))), (209, fun _ => ((σ 209 0) + r6)), (210, fun _ => ((σ 210 0) + r12)), (800, (upd (σ 800) (σ 207 0).toNatClampNeg v1)), (900, (upd (σ 900) (σ 207 0).toNatClampNeg r6)), (1000, (upd (σ 1000) (σ 207 0).toNatClampNeg r12))], lg) rfl ?_
  exact E_ret rfl
set_option maxHeartbeats 4000000 in
set_option maxRecDepth 20000 in
theorem e_X5_come (X : xX) (σ : xM) (lg : Int64) (v1 : Int32) (r : Int32 × (Nat → Int32) × Int32 × Int32 × Int32 × Int32 × (Nat → Int32) × (Nat → Int32) × (Nat → Int32)) (h : X5_come (σ 100) (σ 201 0) (σ 207 0) (σ 208 0) (σ 209 0) (σ 210 0) (σ 300) (σ 400) (σ 500) (σ 600) (σ 800) (σ 900) (σ 1000) v1 = some r) : EM XP X 5 74 [.ref 0, .int v1] SH0 lg σ (some (.int r.1), SH0, [(100, r.2.1), (207, fun _ => r.2.2.1), (208, fun _ => r.2.2.2.1), (209, fun _ => r.2.2.2.2.1), (210, fun _ => r.2.2.2.2.2.1), (800, r.2.2.2.2.2.2.1), (900, r.2.2.2.2.2.2.2.1), (1000, r.2.2.2.2.2.2.2.2)], lg) := by
  refine EM_of (M := xm_74) rfl rfl ?_
  unfold X5_come at h
  refine E_sts 3 (5, [(0, .ref 0), (1, .int v1)], [.int v1, .ref 2], SH0, [], lg) rfl ?_
  refine E_call rfl (e_X2_isBow X _ _ _ (X2_isBow (σ 201 0) v1) rfl) (by decide) ?_
  refine E_sts 1 (if (xb (X2_isBow (σ 201 0) v1)) = 0 then 11 else 17, [(0, .ref 0), (1, .int v1)], [], SH0, [], lg) rfl ?_
  rcases x_br h with ⟨hc, h⟩ | ⟨hc, h⟩
  · refine E_itt hc ?_
    refine E_sts 2 (13, [(0, .ref 0), (1, .int v1)], [.int 0, .ref 0], SH0, [], lg) rfl ?_
    obtain ⟨r13, hr, h⟩ := x_bind h
    refine E_call rfl (e_X5_finding X _ _ _ r13 hr) (by decide) ?_
    obtain rfl := Option.some.inj h
    refine E_sts 1 (16, [], [.int r13.1], SH0, [(100, r13.2), (207, fun _ => (σ 207 0)), (208, fun _ => (σ 208 0)), (209, fun _ => (σ 209 0)), (210, fun _ => (σ 210 0)), (800, (σ 800)), (900, (σ 900)), (1000, (σ 1000))], lg) rfl ?_
    exact E_ret rfl
  · refine E_itf hc ?_
    refine E_sts 6 (29, [(0, .ref 0), (1, .int v1)], [.int (σ 208 0), .int v1, .ref 2], SH0, [], lg) rfl ?_
    obtain ⟨r29, hr, h⟩ := x_bind h
    refine E_call rfl (e_X2_couldCome X _ _ _ _ r29 hr) (by decide) ?_
    refine E_sts 1 (if (xb r29) = 0 then 35 else 41, [(0, .ref 0), (1, .int v1)], [], SH0, [], lg) rfl ?_
    rcases x_br h with ⟨hc, h⟩ | ⟨hc, h⟩
    · refine E_itt hc ?_
      refine E_sts 2 (37, [(0, .ref 0), (1, .int v1)], [.int 4, .ref 0], SH0, [], lg) rfl ?_
      obtain ⟨r37, hr, h⟩ := x_bind h
      refine E_call rfl (e_X5_finding X _ _ _ r37 hr) (by decide) ?_
      obtain rfl := Option.some.inj h
      refine E_sts 1 (40, [], [.int r37.1], SH0, [(100, r37.2), (207, fun _ => (σ 207 0)), (208, fun _ => (σ 208 0)), (209, fun _ => (σ 209 0)), (210, fun _ => (σ 210 0)), (800, (σ 800)), (900, (σ 900)), (1000, (σ 1000))], lg) rfl ?_
      exact E_ret rfl
    · refine E_itf hc ?_
      refine E_sts 3 (46, [(0, .ref 0), (1, .int v1)], [.int v1, .ref 2], SH0, [], lg) rfl ?_
      obtain ⟨r46, hr, h⟩ := x_bind h
      refine E_call rfl (e_X2_enter X _ _ _ r46 hr) (by decide) ?_
      obtain rfl := Option.some.inj h
      refine E_sts 1 (49, [], [.int r46.1], SH0, [(100, (σ 100)), (207, fun _ => r46.2.1), (208, fun _ => r46.2.2.1), (209, fun _ => r46.2.2.2.1), (210, fun _ => r46.2.2.2.2.1), (800, r46.2.2.2.2.2.1), (900, r46.2.2.2.2.2.2.1), (1000, r46.2.2.2.2.2.2.2)], lg) rfl ?_
      exact E_ret rfl
set_option maxHeartbeats 4000000 in
set_option maxRecDepth 20000 in
theorem e_X6_stageSet_L4 (X : xX) (σ : xM) (lg : Int64) : ∀ (n : Nat), ∀ (v1 : Int32) (v2 : Int32) (r : Int32), X6_stageSet_L4 (σ 5300) n v1 v2 = some r → E XP X 1 xm_138 σ (4, [(0, .ref 52), (1, .int v1), (2, .int v2)], [], SH0, [], lg) (some (.int r), SH0, [], lg) := by
  intro n
  induction n with
  | zero => intro v1 v2 r h; rw [X6_stageSet_L4] at h; cases h
  | succ n ih =>
    intro v1 v2 r h
    rw [X6_stageSet_L4] at h
    refine E_sts 4 (10, [(0, .ref 52), (1, .int v1), (2, .int v2)], [.int 2, .ref 53, .int v2], SH0, [], lg) rfl ?_
    refine E_par (p := inr 2 83) (11, [(0, .ref 52), (1, .int v1), (2, .int v2)], [.int ((σ 5300) 2), .int v2], SH0, [], lg) rfl (by decide) ?_
    refine E_sts 1 (if ((σ 5300) 2) ≤ v2 then 30 else 14, [(0, .ref 52), (1, .int v1), (2, .int v2)], [], SH0, [], lg) rfl ?_
    rcases x_br h with ⟨hc, h⟩ | ⟨hc, h⟩
    · refine E_itt hc ?_
      obtain rfl := Option.some.inj h
      refine E_sts 1 (31, [(0, .ref 52), (1, .int v1), (2, .int v2)], [.int v1], SH0, [], lg) rfl ?_
      exact E_ret rfl
    · refine E_itf hc ?_
      refine E_sts 4 (18, [(0, .ref 52), (1, .int v1), (2, .int v2)], [.int v2, .ref 52, .int 1, .int v1], SH0, [], lg) rfl ?_
      obtain ⟨r18, hr, h⟩ := x_bind h
      refine E_call rfl (e_X6_whoAt X _ _ _ r18 hr) (by decide) ?_
      refine E_sts 6 (4, [(0, .ref 52), (1, .int (v1 ||| (xshl 1 r18))), (2, .int (v2 + 1))], [], SH0, [], lg) rfl ?_
      exact ih (v1 ||| (xshl 1 r18)) (v2 + 1) r h
set_option maxHeartbeats 4000000 in
set_option maxRecDepth 20000 in
theorem e_X6_stageSet (X : xX) (σ : xM) (lg : Int64) (r : Int32) (h : X6_stageSet (σ 5300) = some r) : EM XP X 2 138 [.ref 52] SH0 lg σ (some (.int r), SH0, [], lg) := by
  refine EM_of (M := xm_138) rfl rfl ?_
  unfold X6_stageSet at h
  refine E_sts 5 (4, [(0, .ref 52), (1, .int 0), (2, .int 0)], [], SH0, [], lg) rfl ?_
  exact e_X6_stageSet_L4 X σ lg _ 0 0 r h
set_option maxHeartbeats 4000000 in
set_option maxRecDepth 20000 in
theorem e_X6_canBehind (X : xX) (σ : xM) (lg : Int64) (v1 : Int32) (v2 : Int32) (r : Bool) (h : X6_canBehind (σ 5300) v1 v2 = some r) : EM XP X 2 140 [.ref 52, .int v1, .int v2] SH0 lg σ (some (.int (xb r)), SH0, [], lg) := by
  refine EM_of (M := xm_140) rfl rfl ?_
  unfold X6_canBehind at h
  refine E_sts 2 (2, [(0, .ref 52), (1, .int v1), (2, .int v2)], [.int v1, .int v2], SH0, [], lg) rfl ?_
  refine E_call rfl (e_X6_isIn X _ _ _ _ (X6_isIn v2 v1) rfl) (by decide) ?_
  refine E_sts 1 (if (xb (X6_isIn v2 v1)) = 0 then 8 else 25, [(0, .ref 52), (1, .int v1), (2, .int v2)], [], SH0, [], lg) rfl ?_
  rcases x_br h with ⟨hc, h⟩ | ⟨hc, h⟩
  · refine E_itt hc ?_
    refine E_sts 3 (11, [(0, .ref 52), (1, .int v1), (2, .int v2)], [.int 3, .int v1, .ref 52], SH0, [], lg) rfl ?_
    obtain ⟨r11, hr, h⟩ := x_bind h
    refine E_call rfl (e_X6_get X _ _ _ _ r11 hr) (by decide) ?_
    refine E_sts 5 (if (r11 &&& (v2 ^^^ (-1))) = 0 then 21 else 25, [(0, .ref 52), (1, .int v1), (2, .int v2)], [], SH0, [], lg) rfl ?_
    rcases x_br h with ⟨hc, h⟩ | ⟨hc, h⟩
    · refine E_itt hc ?_
      obtain rfl := Option.some.inj h
      refine E_sts 2 (26, [(0, .ref 52), (1, .int v1), (2, .int v2)], [.int 1], SH0, [], lg) rfl ?_
      exact E_retp (p := (1 : Int32) = 0 ∨ (1 : Int32) = 1) rfl (by decide)
    · refine E_itf hc ?_
      obtain rfl := Option.some.inj h
      refine E_sts 1 (26, [(0, .ref 52), (1, .int v1), (2, .int v2)], [.int 0], SH0, [], lg) rfl ?_
      exact E_retp (p := (0 : Int32) = 0 ∨ (0 : Int32) = 1) rfl (by decide)
  · refine E_itf hc ?_
    obtain rfl := Option.some.inj h
    refine E_sts 1 (26, [(0, .ref 52), (1, .int v1), (2, .int v2)], [.int 0], SH0, [], lg) rfl ?_
    exact E_retp (p := (0 : Int32) = 0 ∨ (0 : Int32) = 1) rfl (by decide)
set_option maxHeartbeats 4000000 in
set_option maxRecDepth 20000 in
theorem e_X6_comes (X : xX) (σ : xM) (lg : Int64) (v1 : Int32) (r : Int32 × (Nat → Int32)) (h : X6_comes (σ 5300) v1 = some r) : EM XP X 4 142 [.ref 52, .int v1] SH0 lg σ (some (.int r.1), SH0, [(5300, r.2)], lg) := by
  refine EM_of (M := xm_142) rfl rfl ?_
  unfold X6_comes at h
  refine E_sts 4 (4, [(0, .ref 52), (1, .int v1)], [.ref 52, .ref 52, .int v1, .ref 52], SH0, [], lg) rfl ?_
  obtain ⟨r4, hr, h⟩ := x_bind h
  refine E_call rfl (e_X6_latest X _ _ r4 hr) (by decide) ?_
  obtain ⟨r7, hr, h⟩ := x_bind h
  refine E_call rfl (e_X6_leftBy X _ _ _ r7 hr) (by decide) ?_
  obtain ⟨r10, hr, h⟩ := x_bind h
  refine E_call rfl (e_X6_noiseBy X _ _ _ _ r10 hr) (by decide) ?_
  refine E_sts 6 (22, [(0, .ref 52), (1, .int v1), (2, .int r10)], [.int 2, .ref 53, .int 3, .int 46], SH0, [], lg) rfl ?_
  refine E_par (p := inr 2 83) (23, [(0, .ref 52), (1, .int v1), (2, .int r10)], [.int ((σ 5300) 2), .int 3, .int 46], SH0, [], lg) rfl (by decide) ?_
  refine E_sts 7 (32, [(0, .ref 52), (1, .int v1), (2, .int r10), (3, .int (46 + (3 * ((σ 5300) 2))))], [.int v1, .int (46 + (3 * ((σ 5300) 2))), .ref 53], SH0, [], lg) rfl ?_
  obtain ⟨hp, h⟩ := x_ite h
  refine E_par (p := inr (46 + (3 * ((σ 5300) 2))) 83) (33, [(0, .ref 52), (1, .int v1), (2, .int r10), (3, .int (46 + (3 * ((σ 5300) 2))))], [], SH0, [(5300, (upd (σ 5300) (46 + (3 * ((σ 5300) 2))).toNatClampNeg v1))], lg) rfl hp ?_
  refine E_sts 6 (41, [(0, .ref 52), (1, .int v1), (2, .int r10), (3, .int (46 + (3 * ((σ 5300) 2))))], [.int r10, .int ((46 + (3 * ((σ 5300) 2))) + 1), .ref 53], SH0, [(5300, (upd (σ 5300) (46 + (3 * ((σ 5300) 2))).toNatClampNeg v1))], lg) rfl ?_
  obtain ⟨hp, h⟩ := x_ite h
  refine E_par (p := inr ((46 + (3 * ((σ 5300) 2))) + 1) 83) (42, [(0, .ref 52), (1, .int v1), (2, .int r10), (3, .int (46 + (3 * ((σ 5300) 2))))], [], SH0, [(5300, (upd (upd (σ 5300) (46 + (3 * ((σ 5300) 2))).toNatClampNeg v1) ((46 + (3 * ((σ 5300) 2))) + 1).toNatClampNeg r10))], lg) rfl hp ?_
  refine E_sts 7 (51, [(0, .ref 52), (1, .int v1), (2, .int r10), (3, .int (46 + (3 * ((σ 5300) 2))))], [.int v1, .ref 52, .int ((46 + (3 * ((σ 5300) 2))) + 2), .ref 53], SH0, [(5300, (upd (upd (σ 5300) (46 + (3 * ((σ 5300) 2))).toNatClampNeg v1) ((46 + (3 * ((σ 5300) 2))) + 1).toNatClampNeg r10))], lg) rfl ?_
  obtain ⟨r51, hr, h⟩ := x_bind h
  refine E_call rfl (e_X6_secondsOf X _ _ _ r51 hr) (by decide) ?_
  obtain ⟨hp, h⟩ := x_ite h
  refine E_par (p := inr ((46 + (3 * ((σ 5300) 2))) + 2) 83) (55, [(0, .ref 52), (1, .int v1), (2, .int r10), (3, .int (46 + (3 * ((σ 5300) 2))))], [], SH0, [(5300, (upd (upd (upd (σ 5300) (46 + (3 * ((σ 5300) 2))).toNatClampNeg v1) ((46 + (3 * ((σ 5300) 2))) + 1).toNatClampNeg r10) ((46 + (3 * ((σ 5300) 2))) + 2).toNatClampNeg r51))], lg) rfl hp ?_
  refine E_sts 4 (61, [(0, .ref 52), (1, .int v1), (2, .int r10), (3, .int (46 + (3 * ((σ 5300) 2))))], [.int 2, .ref 53, .int 2, .ref 53], SH0, [(5300, (upd (upd (upd (σ 5300) (46 + (3 * ((σ 5300) 2))).toNatClampNeg v1) ((46 + (3 * ((σ 5300) 2))) + 1).toNatClampNeg r10) ((46 + (3 * ((σ 5300) 2))) + 2).toNatClampNeg r51))], lg) rfl ?_
  refine E_par (p := inr 2 83) (62, [(0, .ref 52), (1, .int v1), (2, .int r10), (3, .int (46 + (3 * ((σ 5300) 2))))], [.int ((upd (upd (upd (σ 5300) (46 + (3 * ((σ 5300) 2))).toNatClampNeg v1) ((46 + (3 * ((σ 5300) 2))) + 1).toNatClampNeg r10) ((46 + (3 * ((σ 5300) 2))) + 2).toNatClampNeg r51) 2), .int 2, .ref 53], SH0, [(5300, (upd (upd (upd (σ 5300) (46 + (3 * ((σ 5300) 2))).toNatClampNeg v1) ((46 + (3 * ((σ 5300) 2))) + 1).toNatClampNeg r10) ((46 + (3 * ((σ 5300) 2))) + 2).toNatClampNeg r51))], lg) rfl (by decide) ?_
  refine E_sts 2 (64, [(0, .ref 52), (1, .int v1), (2, .int r10), (3, .int (46 + (3 * ((σ 5300) 2))))], [.int (((upd (upd (upd (σ 5300) (46 + (3 * ((σ 5300) 2))).toNatClampNeg v1) ((46 + (3 * ((σ 5300) 2))) + 1).toNatClampNeg r10) ((46 + (3 * ((σ 5300) 2))) + 2).toNatClampNeg r51) 2) + 1), .int 2, .ref 53], SH0, [(5300, (upd (upd (upd (σ 5300) (46 + (3 * ((σ 5300) 2))).toNatClampNeg v1) ((46 + (3 * ((σ 5300) 2))) + 1).toNatClampNeg r10) ((46 + (3 * ((σ 5300) 2))) + 2).toNatClampNeg r51))], lg) rfl ?_
  refine E_par (p := inr 2 83) (65, [(0, .ref 52), (1, .int v1), (2, .int r10), (3, .int (46 + (3 * ((σ 5300) 2))))], [], SH0, [(5300, (upd (upd (upd (upd (σ 5300) (46 + (3 * ((σ 5300) 2))).toNatClampNeg v1) ((46 + (3 * ((σ 5300) 2))) + 1).toNatClampNeg r10) ((46 + (3 * ((σ 5300) 2))) + 2).toNatClampNeg r51) 2 (((upd (upd (upd (σ 5300) (46 + (3 * ((σ 5300) 2))).toNatClampNeg v1) ((46 + (3 * ((σ 5300) 2))) + 1).toNatClampNeg r10) ((46 + (3 * ((σ 5300) 2))) + 2).toNatClampNeg r51) 2) + 1)))], lg) rfl (by decide) ?_
  refine E_sts 4 (71, [(0, .ref 52), (1, .int v1), (2, .int r10), (3, .int (46 + (3 * ((σ 5300) 2))))], [.int 0, .ref 53, .int 0, .ref 53], SH0, [(5300, (upd (upd (upd (upd (σ 5300) (46 + (3 * ((σ 5300) 2))).toNatClampNeg v1) ((46 + (3 * ((σ 5300) 2))) + 1).toNatClampNeg r10) ((46 + (3 * ((σ 5300) 2))) + 2).toNatClampNeg r51) 2 (((upd (upd (upd (σ 5300) (46 + (3 * ((σ 5300) 2))).toNatClampNeg v1) ((46 + (3 * ((σ 5300) 2))) + 1).toNatClampNeg r10) ((46 + (3 * ((σ 5300) 2))) + 2).toNatClampNeg r51) 2) + 1)))], lg) rfl ?_
  refine E_par (p := inr 0 83) (72, [(0, .ref 52), (1, .int v1), (2, .int r10), (3, .int (46 + (3 * ((σ 5300) 2))))], [.int ((upd (upd (upd (upd (σ 5300) (46 + (3 * ((σ 5300) 2))).toNatClampNeg v1) ((46 + (3 * ((σ 5300) 2))) + 1).toNatClampNeg r10) ((46 + (3 * ((σ 5300) 2))) + 2).toNatClampNeg r51) 2 (((upd (upd (upd (σ 5300) (46 + (3 * ((σ 5300) 2))).toNatClampNeg v1) ((46 + (3 * ((σ 5300) 2))) + 1).toNatClampNeg r10) ((46 + (3 * ((σ 5300) 2))) + 2).toNatClampNeg r51) 2) + 1)) 0), .int 0, .ref 53], SH0, [(5300, (upd (upd (upd (upd (σ 5300) (46 + (3 * ((σ 5300) 2))).toNatClampNeg v1) ((46 + (3 * ((σ 5300) 2))) + 1).toNatClampNeg r10) ((46 + (3 * ((σ 5300) 2))) + 2).toNatClampNeg r51) 2 (((upd (upd (upd (σ 5300) (46 + (3 * ((σ 5300) 2))).toNatClampNeg v1) ((46 + (3 * ((σ 5300) 2))) + 1).toNatClampNeg r10) ((46 + (3 * ((σ 5300) 2))) + 2).toNatClampNeg r51) 2) + 1)))], lg) rfl (by decide) ?_
  refine E_sts 2 (74, [(0, .ref 52), (1, .int v1), (2, .int r10), (3, .int (46 + (3 * ((σ 5300) 2))))], [.int (((upd (upd (upd (upd (σ 5300) (46 + (3 * ((σ 5300) 2))).toNatClampNeg v1) ((46 + (3 * ((σ 5300) 2))) + 1).toNatClampNeg r10) ((46 + (3 * ((σ 5300) 2))) + 2).toNatClampNeg r51) 2 (((upd (upd (upd (σ 5300) (46 + (3 * ((σ 5300) 2))).toNatClampNeg v1) ((46 + (3 * ((σ 5300) 2))) + 1).toNatClampNeg r10) ((46 + (3 * ((σ 5300) 2))) + 2).toNatClampNeg r51) 2) + 1)) 0) + r10), .int 0, .ref 53], SH0, [(5300, (upd (upd (upd (upd (σ 5300) (46 + (3 * ((σ 5300) 2))).toNatClampNeg v1) ((46 + (3 * ((σ 5300) 2))) + 1).toNatClampNeg r10) ((46 + (3 * ((σ 5300) 2))) + 2).toNatClampNeg r51) 2 (((upd (upd (upd (σ 5300) (46 + (3 * ((σ 5300) 2))).toNatClampNeg v1) ((46 + (3 * ((σ 5300) 2))) + 1).toNatClampNeg r10) ((46 + (3 * ((σ 5300) 2))) + 2).toNatClampNeg r51) 2) + 1)))], lg) rfl ?_
  refine E_par (p := inr 0 83) (75, [(0, .ref 52), (1, .int v1), (2, .int r10), (3, .int (46 + (3 * ((σ 5300) 2))))], [], SH0, [(5300, (upd (upd (upd (upd (upd (σ 5300) (46 + (3 * ((σ 5300) 2))).toNatClampNeg v1) ((46 + (3 * ((σ 5300) 2))) + 1).toNatClampNeg r10) ((46 + (3 * ((σ 5300) 2))) + 2).toNatClampNeg r51) 2 (((upd (upd (upd (σ 5300) (46 + (3 * ((σ 5300) 2))).toNatClampNeg v1) ((46 + (3 * ((σ 5300) 2))) + 1).toNatClampNeg r10) ((46 + (3 * ((σ 5300) 2))) + 2).toNatClampNeg r51) 2) + 1)) 0 (((upd (upd (upd (upd (σ 5300) (46 + (3 * ((σ 5300) 2))).toNatClampNeg v1) ((46 + (3 * ((σ 5300) 2))) + 1).toNatClampNeg r10) ((46 + (3 * ((σ 5300) 2))) + 2).toNatClampNeg r51) 2 (((upd (upd (upd (σ 5300) (46 + (3 * ((σ 5300) 2))).toNatClampNeg v1) ((46 + (3 * ((σ 5300) 2))) + 1).toNatClampNeg r10) ((46 + (3 * ((σ 5300) 2))) + 2).toNatClampNeg r51) 2) + 1)) 0) + r10)))], lg) rfl (by decide) ?_
  refine E_sts 4 (81, [(0, .ref 52), (1, .int v1), (2, .int r10), (3, .int (46 + (3 * ((σ 5300) 2))))], [.int 1, .ref 53, .int 1, .ref 53], SH0, [(5300, (upd (upd (upd (upd (upd (σ 5300) (46 + (3 * ((σ 5300) 2))).toNatClampNeg v1) ((46 + (3 * ((σ 5300) 2))) + 1).toNatClampNeg r10) ((46 + (3 * ((σ 5300) 2))) + 2).toNatClampNeg r51) 2 (((upd (upd (upd (σ 5300) (46 + (3 * ((σ 5300) 2))).toNatClampNeg v1) ((46 + (3 * ((σ 5300) 2))) + 1).toNatClampNeg r10) ((46 + (3 * ((σ 5300) 2))) + 2).toNatClampNeg r51) 2) + 1)) 0 (((upd (upd (upd (upd (σ 5300) (46 + (3 * ((σ 5300) 2))).toNatClampNeg v1) ((46 + (3 * ((σ 5300) 2))) + 1).toNatClampNeg r10) ((46 + (3 * ((σ 5300) 2))) + 2).toNatClampNeg r51) 2 (((upd (upd (upd (σ 5300) (46 + (3 * ((σ 5300) 2))).toNatClampNeg v1) ((46 + (3 * ((σ 5300) 2))) + 1).toNatClampNeg r10) ((46 + (3 * ((σ 5300) 2))) + 2).toNatClampNeg r51) 2) + 1)) 0) + r10)))], lg) rfl ?_
  refine E_par (p := inr 1 83) (82, [(0, .ref 52), (1, .int v1), (2, .int r10), (3, .int (46 + (3 * ((σ 5300) 2))))], [.int ((upd (upd (upd (upd (upd (σ 5300) (46 + (3 * ((σ 5300) 2))).toNatClampNeg v1) ((46 + (3 * ((σ 5300) 2))) + 1).toNatClampNeg r10) ((46 + (3 * ((σ 5300) 2))) + 2).toNatClampNeg r51) 2 (((upd (upd (upd (σ 5300) (46 + (3 * ((σ 5300) 2))).toNatClampNeg v1) ((46 + (3 * ((σ 5300) 2))) + 1).toNatClampNeg r10) ((46 + (3 * ((σ 5300) 2))) + 2).toNatClampNeg r51) 2) + 1)) 0 (((upd (upd (upd (upd (σ 5300) (46 + (3 * ((σ 5300) 2))).toNatClampNeg v1) ((46 + (3 * ((σ 5300) 2))) + 1).toNatClampNeg r10) ((46 + (3 * ((σ 5300) 2))) + 2).toNatClampNeg r51) 2 (((upd (upd (upd (σ 5300) (46 + (3 * ((σ 5300) 2))).toNatClampNeg v1) ((46 + (3 * ((σ 5300) 2))) + 1).toNatClampNeg r10) ((46 + (3 * ((σ 5300) 2))) + 2).toNatClampNeg r51) 2) + 1)) 0) + r10)) 1), .int 1, .ref 53], SH0, [(5300, (upd (upd (upd (upd (upd (σ 5300) (46 + (3 * ((σ 5300) 2))).toNatClampNeg v1) ((46 + (3 * ((σ 5300) 2))) + 1).toNatClampNeg r10) ((46 + (3 * ((σ 5300) 2))) + 2).toNatClampNeg r51) 2 (((upd (upd (upd (σ 5300) (46 + (3 * ((σ 5300) 2))).toNatClampNeg v1) ((46 + (3 * ((σ 5300) 2))) + 1).toNatClampNeg r10) ((46 + (3 * ((σ 5300) 2))) + 2).toNatClampNeg r51) 2) + 1)) 0 (((upd (upd (upd (upd (σ 5300) (46 + (3 * ((σ 5300) 2))).toNatClampNeg v1) ((46 + (3 * ((σ 5300) 2))) + 1).toNatClampNeg r10) ((46 + (3 * ((σ 5300) 2))) + 2).toNatClampNeg r51) 2 (((upd (upd (upd (σ 5300) (46 + (3 * ((σ 5300) 2))).toNatClampNeg v1) ((46 + (3 * ((σ 5300) 2))) + 1).toNatClampNeg r10) ((46 + (3 * ((σ 5300) 2))) + 2).toNatClampNeg r51) 2) + 1)) 0) + r10)))], lg) rfl (by decide) ?_
  refine E_sts 5 (89, [(0, .ref 52), (1, .int v1), (2, .int r10), (3, .int (46 + (3 * ((σ 5300) 2))))], [.int ((46 + (3 * ((σ 5300) 2))) + 2), .ref 53, .int ((upd (upd (upd (upd (upd (σ 5300) (46 + (3 * ((σ 5300) 2))).toNatClampNeg v1) ((46 + (3 * ((σ 5300) 2))) + 1).toNatClampNeg r10) ((46 + (3 * ((σ 5300) 2))) + 2).toNatClampNeg r51) 2 (((upd (upd (upd (σ 5300) (46 + (3 * ((σ 5300) 2))).toNatClampNeg v1) ((46 + (3 * ((σ 5300) 2))) + 1).toNatClampNeg r10) ((46 + (3 * ((σ 5300) 2))) + 2).toNatClampNeg r51) 2) + 1)) 0 (((upd (upd (upd (upd (σ 5300) (46 + (3 * ((σ 5300) 2))).toNatClampNeg v1) ((46 + (3 * ((σ 5300) 2))) + 1).toNatClampNeg r10) ((46 + (3 * ((σ 5300) 2))) + 2).toNatClampNeg r51) 2 (((upd (upd (upd (σ 5300) (46 + (3 * ((σ 5300) 2))).toNatClampNeg v1) ((46 + (3 * ((σ 5300) 2))) + 1).toNatClampNeg r10) ((46 + (3 * ((σ 5300) 2))) + 2).toNatClampNeg r51) 2) + 1)) 0) + r10)) 1), .int 1, .ref 53], SH0, [(5300, (upd (upd (upd (upd (upd (σ 5300) (46 + (3 * ((σ 5300) 2))).toNatClampNeg v1) ((46 + (3 * ((σ 5300) 2))) + 1).toNatClampNeg r10) ((46 + (3 * ((σ 5300) 2))) + 2).toNatClampNeg r51) 2 (((upd (upd (upd (σ 5300) (46 + (3 * ((σ 5300) 2))).toNatClampNeg v1) ((46 + (3 * ((σ 5300) 2))) + 1).toNatClampNeg r10) ((46 + (3 * ((σ 5300) 2))) + 2).toNatClampNeg r51) 2) + 1)) 0 (((upd (upd (upd (upd (σ 5300) (46 + (3 * ((σ 5300) 2))).toNatClampNeg v1) ((46 + (3 * ((σ 5300) 2))) + 1).toNatClampNeg r10) ((46 + (3 * ((σ 5300) 2))) + 2).toNatClampNeg r51) 2 (((upd (upd (upd (σ 5300) (46 + (3 * ((σ 5300) 2))).toNatClampNeg v1) ((46 + (3 * ((σ 5300) 2))) + 1).toNatClampNeg r10) ((46 + (3 * ((σ 5300) 2))) + 2).toNatClampNeg r51) 2) + 1)) 0) + r10)))], lg) rfl ?_
  obtain ⟨hp, h⟩ := x_ite h
  refine E_par (p := inr ((46 + (3 * ((σ 5300) 2))) + 2) 83) (90, [(0, .ref 52), (1, .int v1), (2, .int r10), (3, .int (46 + (3 * ((σ 5300) 2))))], [.int ((upd (upd (upd (upd (upd (σ 5300) (46 + (3 * ((σ 5300) 2))).toNatClampNeg v1) ((46 + (3 * ((σ 5300) 2))) + 1).toNatClampNeg r10) ((46 + (3 * ((σ 5300) 2))) + 2).toNatClampNeg r51) 2 (((upd (upd (upd (σ 5300) (46 + (3 * ((σ 5300) 2))).toNatClampNeg v1) ((46 + (3 * ((σ 5300) 2))) + 1).toNatClampNeg r10) ((46 + (3 * ((σ 5300) 2))) + 2).toNatClampNeg r51) 2) + 1)) 0 (((upd (upd (upd (upd (σ 5300) (46 + (3 * ((σ 5300) 2))).toNatClampNeg v1) ((46 + (3 * ((σ 5300) 2))) + 1).toNatClampNeg r10) ((46 + (3 * ((σ 5300) 2))) + 2).toNatClampNeg r51) 2 (((upd (upd (upd (σ 5300) (46 + (3 * ((σ 5300) 2))).toNatClampNeg v1) ((46 + (3 * ((σ 5300) 2))) + 1).toNatClampNeg r10) ((46 + (3 * ((σ 5300) 2))) + 2).toNatClampNeg r51) 2) + 1)) 0) + r10)) ((46 + (3 * ((σ 5300) 2))) + 2).toNatClampNeg), .int ((upd (upd (upd (upd (upd (σ 5300) (46 + (3 * ((σ 5300) 2))).toNatClampNeg v1) ((46 + (3 * ((σ 5300) 2))) + 1).toNatClampNeg r10) ((46 + (3 * ((σ 5300) 2))) + 2).toNatClampNeg r51) 2 (((upd (upd (upd (σ 5300) (46 + (3 * ((σ 5300) 2))).toNatClampNeg v1) ((46 + (3 * ((σ 5300) 2))) + 1).toNatClampNeg r10) ((46 + (3 * ((σ 5300) 2))) + 2).toNatClampNeg r51) 2) + 1)) 0 (((upd (upd (upd (upd (σ 5300) (46 + (3 * ((σ 5300) 2))).toNatClampNeg v1) ((46 + (3 * ((σ 5300) 2))) + 1).toNatClampNeg r10) ((46 + (3 * ((σ 5300) 2))) + 2).toNatClampNeg r51) 2 (((upd (upd (upd (σ 5300) (46 + (3 * ((σ 5300) 2))).toNatClampNeg v1) ((46 + (3 * ((σ 5300) 2))) + 1).toNatClampNeg r10) ((46 + (3 * ((σ 5300) 2))) + 2).toNatClampNeg r51) 2) + 1)) 0) + r10)) 1), .int 1, .ref 53], SH0, [(5300, (upd (upd (upd (upd (upd (σ 5300) (46 + (3 * ((σ 5300) 2))).toNatClampNeg v1) ((46 + (3 * ((σ 5300) 2))) + 1).toNatClampNeg r10) ((46 + (3 * ((σ 5300) 2))) + 2).toNatClampNeg r51) 2 (((upd (upd (upd (σ 5300) (46 + (3 * ((σ 5300) 2))).toNatClampNeg v1) ((46 + (3 * ((σ 5300) 2))) + 1).toNatClampNeg r10) ((46 + (3 * ((σ 5300) 2))) + 2).toNatClampNeg r51) 2) + 1)) 0 (((upd (upd (upd (upd (σ 5300) (46 + (3 * ((σ 5300) 2))).toNatClampNeg v1) ((46 + (3 * ((σ 5300) 2))) + 1).toNatClampNeg r10) ((46 + (3 * ((σ 5300) 2))) + 2).toNatClampNeg r51) 2 (((upd (upd (upd (σ 5300) (46 + (3 * ((σ 5300) 2))).toNatClampNeg v1) ((46 + (3 * ((σ 5300) 2))) + 1).toNatClampNeg r10) ((46 + (3 * ((σ 5300) 2))) + 2).toNatClampNeg r51) 2) + 1)) 0) + r10)))], lg) rfl hp ?_
  refine E_sts 1 (91, [(0, .ref 52), (1, .int v1), (2, .int r10), (3, .int (46 + (3 * ((σ 5300) 2))))], [.int (((upd (upd (upd (upd (upd (σ 5300) (46 + (3 * ((σ 5300) 2))).toNatClampNeg v1) ((46 + (3 * ((σ 5300) 2))) + 1).toNatClampNeg r10) ((46 + (3 * ((σ 5300) 2))) + 2).toNatClampNeg r51) 2 (((upd (upd (upd (σ 5300) (46 + (3 * ((σ 5300) 2))).toNatClampNeg v1) ((46 + (3 * ((σ 5300) 2))) + 1).toNatClampNeg r10) ((46 + (3 * ((σ 5300) 2))) + 2).toNatClampNeg r51) 2) + 1)) 0 (((upd (upd (upd (upd (σ 5300) (46 + (3 * ((σ 5300) 2))).toNatClampNeg v1) ((46 + (3 * ((σ 5300) 2))) + 1).toNatClampNeg r10) ((46 + (3 * ((σ 5300) 2))) + 2).toNatClampNeg r51) 2 (((upd (upd (upd (σ 5300) (46 + (3 * ((σ 5300) 2))).toNatClampNeg v1) ((46 + (3 * ((σ 5300) 2))) + 1).toNatClampNeg r10) ((46 + (3 * ((σ 5300) 2))) + 2).toNatClampNeg r51) 2) + 1)) 0) + r10)) 1) + ((upd (upd (upd (upd (upd (σ 5300) (46 + (3 * ((σ 5300) 2))).toNatClampNeg v1) ((46 + (3 * ((σ 5300) 2))) + 1).toNatClampNeg r10) ((46 + (3 * ((σ 5300) 2))) + 2).toNatClampNeg r51) 2 (((upd (upd (upd (σ 5300) (46 + (3 * ((σ 5300) 2))).toNatClampNeg v1) ((46 + (3 * ((σ 5300) 2))) + 1).toNatClampNeg r10) ((46 + (3 * ((σ 5300) 2))) + 2).toNatClampNeg r51) 2) + 1)) 0 (((upd (upd (upd (upd (σ 5300) (46 + (3 * ((σ 5300) 2))).toNatClampNeg v1) ((46 + (3 * ((σ 5300) 2))) + 1).toNatClampNeg r10) ((46 + (3 * ((σ 5300) 2))) + 2).toNatClampNeg r51) 2 (((upd (upd (upd (σ 5300) (46 + (3 * ((σ 5300) 2))).toNatClampNeg v1) ((46 + (3 * ((σ 5300) 2))) + 1).toNatClampNeg r10) ((46 + (3 * ((σ 5300) 2))) + 2).toNatClampNeg r51) 2) + 1)) 0) + r10)) ((46 + (3 * ((σ 5300) 2))) + 2).toNatClampNeg)), .int 1, .ref 53], SH0, [(5300, (upd (upd (upd (upd (upd (σ 5300) (46 + (3 * ((σ 5300) 2))).toNatClampNeg v1) ((46 + (3 * ((σ 5300) 2))) + 1).toNatClampNeg r10) ((46 + (3 * ((σ 5300) 2))) + 2).toNatClampNeg r51) 2 (((upd (upd (upd (σ 5300) (46 + (3 * ((σ 5300) 2))).toNatClampNeg v1) ((46 + (3 * ((σ 5300) 2))) + 1).toNatClampNeg r10) ((46 + (3 * ((σ 5300) 2))) + 2).toNatClampNeg r51) 2) + 1)) 0 (((upd (upd (upd (upd (σ 5300) (46 + (3 * ((σ 5300) 2))).toNatClampNeg v1) ((46 + (3 * ((σ 5300) 2))) + 1).toNatClampNeg r10) ((46 + (3 * ((σ 5300) 2))) + 2).toNatClampNeg r51) 2 (((upd (upd (upd (σ 5300) (46 + (3 * ((σ 5300) 2))).toNatClampNeg v1) ((46 + (3 * ((σ 5300) 2))) + 1).toNatClampNeg r10) ((46 + (3 * ((σ 5300) 2))) + 2).toNatClampNeg r51) 2) + 1)) 0) + r10)))], lg) rfl ?_
  refine E_par (p := inr 1 83) (92, [(0, .ref 52), (1, .int v1), (2, .int r10), (3, .int (46 + (3 * ((σ 5300) 2))))], [], SH0, [(5300, (upd (upd (upd (upd (upd (upd (σ 5300) (46 + (3 * ((σ 5300) 2))).toNatClampNeg v1) ((46 + (3 * ((σ 5300) 2))) + 1).toNatClampNeg r10) ((46 + (3 * ((σ 5300) 2))) + 2).toNatClampNeg r51) 2 (((upd (upd (upd (σ 5300) (46 + (3 * ((σ 5300) 2))).toNatClampNeg v1) ((46 + (3 * ((σ 5300) 2))) + 1).toNatClampNeg r10) ((46 + (3 * ((σ 5300) 2))) + 2).toNatClampNeg r51) 2) + 1)) 0 (((upd (upd (upd (upd (σ 5300) (46 + (3 * ((σ 5300) 2))).toNatClampNeg v1) ((46 + (3 * ((σ 5300) 2))) + 1).toNatClampNeg r10) ((46 + (3 * ((σ 5300) 2))) + 2).toNatClampNeg r51) 2 (((upd (upd (upd (σ 5300) (46 + (3 * ((σ 5300) 2))).toNatClampNeg v1) ((46 + (3 * ((σ 5300) 2))) + 1).toNatClampNeg r10) ((46 + (3 * ((σ 5300) 2))) + 2).toNatClampNeg r51) 2) + 1)) 0) + r10)) 1 (((upd (upd (upd (upd (upd (σ 5300) (46 + (3 * ((σ 5300) 2))).toNatClampNeg v1) ((46 + (3 * ((σ 5300) 2))) + 1).toNatClampNeg r10) ((46 + (3 * ((σ 5300) 2))) + 2).toNatClampNeg r51) 2 (((upd (upd (upd (σ 5300) (46 + (3 * ((σ 5300) 2))).toNatClampNeg v1) ((46 + (3 * ((σ 5300) 2))) + 1).toNatClampNeg r10) ((46 + (3 * ((σ 5300) 2))) + 2).toNatClampNeg r51) 2) + 1)) 0 (((upd (upd (upd (upd (σ 5300) (46 + (3 * ((σ 5300) 2))).toNatClampNeg v1) ((46 + (3 * ((σ 5300) 2))) + 1).toNatClampNeg r10) ((46 + (3 * ((σ 5300) 2))) + 2).toNatClampNeg r51) 2 (((upd (upd (upd (σ 5300) (46 + (3 * ((σ 5300) 2))).toNatClampNeg v1) ((46 + (3 * ((σ 5300) 2))) + 1).toNatClampNeg r10) ((46 + (3 * ((σ 5300) 2))) + 2).toNatClampNeg r51) 2) + 1)) 0) + r10)) 1) + ((upd (upd (upd (upd (upd (σ 5300) (46 + (3 * ((σ 5300) 2))).toNatClampNeg v1) ((46 + (3 * ((σ 5300) 2))) + 1).toNatClampNeg r10) ((46 + (3 * ((σ 5300) 2))) + 2).toNatClampNeg r51) 2 (((upd (upd (upd (σ 5300) (46 + (3 * ((σ 5300) 2))).toNatClampNeg v1) ((46 + (3 * ((σ 5300) 2))) + 1).toNatClampNeg r10) ((46 + (3 * ((σ 5300) 2))) + 2).toNatClampNeg r51) 2) + 1)) 0 (((upd (upd (upd (upd (σ 5300) (46 + (3 * ((σ 5300) 2))).toNatClampNeg v1) ((46 + (3 * ((σ 5300) 2))) + 1).toNatClampNeg r10) ((46 + (3 * ((σ 5300) 2))) + 2).toNatClampNeg r51) 2 (((upd (upd (upd (σ 5300) (46 + (3 * ((σ 5300) 2))).toNatClampNeg v1) ((46 + (3 * ((σ 5300) 2))) + 1).toNatClampNeg r10) ((46 + (3 * ((σ 5300) 2))) + 2).toNatClampNeg r51) 2) + 1)) 0) + r10)) ((46 + (3 * ((σ 5300) 2))) + 2).toNatClampNeg))))], lg) rfl (by decide) ?_
  obtain rfl := Option.some.inj h
  refine E_sts 1 (93, [(0, .ref 52), (1, .int v1), (2, .int r10), (3, .int (46 + (3 * ((σ 5300) 2))))], [.int r10], SH0, [(5300, (upd (upd (upd (upd (upd (upd (σ 5300) (46 + (3 * ((σ 5300) 2))).toNatClampNeg v1) ((46 + (3 * ((σ 5300) 2))) + 1).toNatClampNeg r10) ((46 + (3 * ((σ 5300) 2))) + 2).toNatClampNeg r51) 2 (((upd (upd (upd (σ 5300) (46 + (3 * ((σ 5300) 2))).toNatClampNeg v1) ((46 + (3 * ((σ 5300) 2))) + 1).toNatClampNeg r10) ((46 + (3 * ((σ 5300) 2))) + 2).toNatClampNeg r51) 2) + 1)) 0 (((upd (upd (upd (upd (σ 5300) (46 + (3 * ((σ 5300) 2))).toNatClampNeg v1) ((46 + (3 * ((σ 5300) 2))) + 1).toNatClampNeg r10) ((46 + (3 * ((σ 5300) 2))) + 2).toNatClampNeg r51) 2 (((upd (upd (upd (σ 5300) (46 + (3 * ((σ 5300) 2))).toNatClampNeg v1) ((46 + (3 * ((σ 5300) 2))) + 1).toNatClampNeg r10) ((46 + (3 * ((σ 5300) 2))) + 2).toNatClampNeg r51) 2) + 1)) 0) + r10)) 1 (((upd (upd (upd (upd (upd (σ 5300) (46 + (3 * ((σ 5300) 2))).toNatClampNeg v1) ((46 + (3 * ((σ 5300) 2))) + 1).toNatClampNeg r10) ((46 + (3 * ((σ 5300) 2))) + 2).toNatClampNeg r51) 2 (((upd (upd (upd (σ 5300) (46 + (3 * ((σ 5300) 2))).toNatClampNeg v1) ((46 + (3 * ((σ 5300) 2))) + 1).toNatClampNeg r10) ((46 + (3 * ((σ 5300) 2))) + 2).toNatClampNeg r51) 2) + 1)) 0 (((upd (upd (upd (upd (σ 5300) (46 + (3 * ((σ 5300) 2))).toNatClampNeg v1) ((46 + (3 * ((σ 5300) 2))) + 1).toNatClampNeg r10) ((46 + (3 * ((σ 5300) 2))) + 2).toNatClampNeg r51) 2 (((upd (upd (upd (σ 5300) (46 + (3 * ((σ 5300) 2))).toNatClampNeg v1) ((46 + (3 * ((σ 5300) 2))) + 1).toNatClampNeg r10) ((46 + (3 * ((σ 5300) 2))) + 2).toNatClampNeg r51) 2) + 1)) 0) + r10)) 1) + ((upd (upd (upd (upd (upd (σ 5300) (46 + (3 * ((σ 5300) 2))).toNatClampNeg v1) ((46 + (3 * ((σ 5300) 2))) + 1).toNatClampNeg r10) ((46 + (3 * ((σ 5300) 2))) + 2).toNatClampNeg r51) 2 (((upd (upd (upd (σ 5300) (46 + (3 * ((σ 5300) 2))).toNatClampNeg v1) ((46 + (3 * ((σ 5300) 2))) + 1).toNatClampNeg r10) ((46 + (3 * ((σ 5300) 2))) + 2).toNatClampNeg r51) 2) + 1)) 0 (((upd (upd (upd (upd (σ 5300) (46 + (3 * ((σ 5300) 2))).toNatClampNeg v1) ((46 + (3 * ((σ 5300) 2))) + 1).toNatClampNeg r10) ((46 + (3 * ((σ 5300) 2))) + 2).toNatClampNeg r51) 2 (((upd (upd (upd (σ 5300) (46 + (3 * ((σ 5300) 2))).toNatClampNeg v1) ((46 + (3 * ((σ 5300) 2))) + 1).toNatClampNeg r10) ((46 + (3 * ((σ 5300) 2))) + 2).toNatClampNeg r51) 2) + 1)) 0) + r10)) ((46 + (3 * ((σ 5300) 2))) + 2).toNatClampNeg))))], lg) rfl ?_
  exact E_ret rfl
set_option maxHeartbeats 4000000 in
set_option maxRecDepth 20000 in
theorem e_X6_come (X : xX) (σ : xM) (lg : Int64) (v1 : Int32) (r : Int32 × (Nat → Int32) × (Nat → Int32)) (h : X6_come (σ 5300) (σ 5600) v1 = some r) : EM XP X 5 151 [.ref 52, .int v1] SH0 lg σ (some (.int r.1), SH0, [(5300, r.2.1), (5600, r.2.2)], lg) := by
  refine EM_of (M := xm_151) rfl rfl ?_
  unfold X6_come at h
  refine E_sts 2 (2, [(0, .ref 52), (1, .int v1)], [.int v1, .ref 52], SH0, [], lg) rfl ?_
  obtain ⟨r2, hr, h⟩ := x_bind h
  refine E_call rfl (e_X6_isBow X _ _ _ r2 hr) (by decide) ?_
  refine E_sts 1 (if (xb r2) = 0 then 8 else 14, [(0, .ref 52), (1, .int v1)], [], SH0, [], lg) rfl ?_
  rcases x_br h with ⟨hc, h⟩ | ⟨hc, h⟩
  · refine E_itt hc ?_
    refine E_sts 2 (10, [(0, .ref 52), (1, .int v1)], [.int 0, .ref 52], SH0, [], lg) rfl ?_
    obtain ⟨r10, hr, h⟩ := x_bind h
    refine E_call rfl (e_X6_no X _ _ _ r10 hr) (by decide) ?_
    obtain rfl := Option.some.inj h
    refine E_sts 1 (13, [], [.int r10.1], SH0, [(5300, (σ 5300)), (5600, r10.2)], lg) rfl ?_
    exact E_ret rfl
  · refine E_itf hc ?_
    refine E_sts 3 (17, [(0, .ref 52), (1, .int v1)], [.ref 52, .int v1, .ref 52], SH0, [], lg) rfl ?_
    obtain ⟨r17, hr, h⟩ := x_bind h
    refine E_call rfl (e_X6_stageSet X _ _ r17 hr) (by decide) ?_
    obtain ⟨r20, hr, h⟩ := x_bind h
    refine E_call rfl (e_X6_canBehind X _ _ _ _ r20 hr) (by decide) ?_
    refine E_sts 1 (if (xb r20) = 0 then 34 else 26, [(0, .ref 52), (1, .int v1)], [], SH0, [], lg) rfl ?_
    rcases x_br h with ⟨hc, h⟩ | ⟨hc, h⟩
    · refine E_itt hc ?_
      refine E_sts 2 (36, [(0, .ref 52), (1, .int v1)], [.int 4, .ref 52], SH0, [], lg) rfl ?_
      obtain ⟨r36, hr, h⟩ := x_bind h
      refine E_call rfl (e_X6_no X _ _ _ r36 hr) (by decide) ?_
      obtain rfl := Option.some.inj h
      refine E_sts 1 (39, [], [.int r36.1], SH0, [(5300, (σ 5300)), (5600, r36.2)], lg) rfl ?_
      exact E_ret rfl
    · refine E_itf hc ?_
      refine E_sts 2 (28, [(0, .ref 52), (1, .int v1)], [.int v1, .ref 52], SH0, [], lg) rfl ?_
      obtain ⟨r28, hr, h⟩ := x_bind h
      refine E_call rfl (e_X6_comes X _ _ _ r28 hr) (by decide) ?_
      obtain rfl := Option.some.inj h
      refine E_sts 2 (39, [], [.int r28.1], SH0, [(5300, r28.2), (5600, (σ 5600))], lg) rfl ?_
      exact E_ret rfl
set_option maxHeartbeats 4000000 in
set_option maxRecDepth 20000 in
theorem e_X2_leave (X : xX) (σ : xM) (lg : Int64) (r : Int32 × Int32 × Int32 × Int32 × Int32) (h : X2_leave (σ 207 0) (σ 208 0) (σ 209 0) (σ 210 0) (σ 800) (σ 900) (σ 1000) = some r) : EM XP X 1 36 [.ref 2] SH0 lg σ (some (.int r.1), SH0, [(207, fun _ => r.2.1), (208, fun _ => r.2.2.1), (209, fun _ => r.2.2.2.1), (210, fun _ => r.2.2.2.2)], lg) := by
  refine EM_of (M := xm_36) rfl rfl ?_
  unfold X2_leave at h
  refine E_sts 10 (18, [(0, .ref 2)], [.int ((σ 207 0) - 1), .ref 8], SH0, [(207, fun _ => ((σ 207 0) - 1))], lg) rfl ?_
  obtain ⟨hp, h⟩ := x_ite h
  refine E_par (p := inr ((σ 207 0) - 1) 9) (19, [(0, .ref 2)], [.int ((σ 800) ((σ 207 0) - 1).toNatClampNeg)], SH0, [(207, fun _ => ((σ 207 0) - 1))], lg) rfl hp ?_
  refine E_sts 18 (47, [(0, .ref 2), (1, .int ((σ 800) ((σ 207 0) - 1).toNatClampNeg))], [.int ((σ 207 0) - 1), .ref 9, .int (σ 209 0), .ref 2], SH0, [(207, fun _ => ((σ 207 0) - 1)), (208, fun _ => ((σ 208 0) &&& ((xshl 1 ((σ 800) ((σ 207 0) - 1).toNatClampNeg)) ^^^ (-1))))], lg) rfl ?_
  obtain ⟨hp, h⟩ := x_ite h
  refine E_par (p := inr ((σ 207 0) - 1) 9) (48, [(0, .ref 2), (1, .int ((σ 800) ((σ 207 0) - 1).toNatClampNeg))], [.int ((σ 900) ((σ 207 0) - 1).toNatClampNeg), .int (σ 209 0), .ref 2], SH0, [(207, fun _ => ((σ 207 0) - 1)), (208, fun _ => ((σ 208 0) &&& ((xshl 1 ((σ 800) ((σ 207 0) - 1).toNatClampNeg)) ^^^ (-1))))], lg) rfl hp ?_
  refine E_sts 9 (65, [(0, .ref 2), (1, .int ((σ 800) ((σ 207 0) - 1).toNatClampNeg))], [.int ((σ 207 0) - 1), .ref 10, .int (σ 210 0), .ref 2], SH0, [(207, fun _ => ((σ 207 0) - 1)), (208, fun _ => ((σ 208 0) &&& ((xshl 1 ((σ 800) ((σ 207 0) - 1).toNatClampNeg)) ^^^ (-1)))), (209, fun _ => ((σ 209 0) - ((σ 900) ((σ 207 0) - 1).toNatClampNeg)))], lg) rfl ?_
  obtain ⟨hp, h⟩ := x_ite h
  refine E_par (p := inr ((σ 207 0) - 1) 9) (66, [(0, .ref 2), (1, .int ((σ 800) ((σ 207 0) - 1).toNatClampNeg))], [.int ((σ 1000) ((σ 207 0) - 1).toNatClampNeg), .int (σ 210 0), .ref 2], SH0, [(207, fun _ => ((σ 207 0) - 1)), (208, fun _ => ((σ 208 0) &&& ((xshl 1 ((σ 800) ((σ 207 0) - 1).toNatClampNeg)) ^^^ (-1)))), (209, fun _ => ((σ 209 0) - ((σ 900) ((σ 207 0) - 1).toNatClampNeg)))], lg) rfl hp ?_
  obtain rfl := Option.some.inj h
  refine E_sts 3 (71, [(0, .ref 2), (1, .int ((σ 800) ((σ 207 0) - 1).toNatClampNeg))], [.int ((σ 800) ((σ 207 0) - 1).toNatClampNeg)], SH0, [(207, fun _ => ((σ 207 0) - 1)), (208, fun _ => ((σ 208 0) &&& ((xshl 1 ((σ 800) ((σ 207 0) - 1).toNatClampNeg)) ^^^ (-1)))), (209, fun _ => ((σ 209 0) - ((σ 900) ((σ 207 0) - 1).toNatClampNeg))), (210, fun _ => ((σ 210 0) - ((σ 1000) ((σ 207 0) - 1).toNatClampNeg)))], lg) rfl ?_
  exact E_ret rfl
set_option maxHeartbeats 4000000 in
set_option maxRecDepth 20000 in
theorem e_X5_back (X : xX) (σ : xM) (lg : Int64) (r : Int32 × (Nat → Int32) × Int32 × Int32 × Int32 × Int32) (h : X5_back (σ 100) (σ 207 0) (σ 208 0) (σ 209 0) (σ 210 0) (σ 800) (σ 900) (σ 1000) = some r) : EM XP X 2 75 [.ref 0] SH0 lg σ (some (.int r.1), SH0, [(100, r.2.1), (207, fun _ => r.2.2.1), (208, fun _ => r.2.2.2.1), (209, fun _ => r.2.2.2.2.1), (210, fun _ => r.2.2.2.2.2)], lg) := by
  refine EM_of (M := xm_75) rfl rfl ?_
  unfold X5_back at h
  refine E_sts 4 (if (σ 207 0) = 0 then 10 else 16, [(0, .ref 0)], [], SH0, [], lg) rfl ?_
  rcases x_br h with ⟨hc, h⟩ | ⟨hc, h⟩
  · refine E_itt hc ?_
    refine E_sts 2 (12, [(0, .ref 0)], [.int 3, .ref 0], SH0, [], lg) rfl ?_
    obtain ⟨r12, hr, h⟩ := x_bind h
    refine E_call rfl (e_X5_finding X _ _ _ r12 hr) (by decide) ?_
    obtain rfl := Option.some.inj h
    refine E_sts 1 (15, [], [.int r12.1], SH0, [(100, r12.2), (207, fun _ => (σ 207 0)), (208, fun _ => (σ 208 0)), (209, fun _ => (σ 209 0)), (210, fun _ => (σ 210 0))], lg) rfl ?_
    exact E_ret rfl
  · refine E_itf hc ?_
    refine E_sts 2 (20, [(0, .ref 0)], [.ref 2], SH0, [], lg) rfl ?_
    obtain ⟨r20, hr, h⟩ := x_bind h
    refine E_call rfl (e_X2_leave X _ _ r20 hr) (by decide) ?_
    obtain rfl := Option.some.inj h
    refine E_sts 1 (23, [], [.int r20.1], SH0, [(100, (σ 100)), (207, fun _ => r20.2.1), (208, fun _ => r20.2.2.1), (209, fun _ => r20.2.2.2.1), (210, fun _ => r20.2.2.2.2)], lg) rfl ?_
    exact E_ret rfl
