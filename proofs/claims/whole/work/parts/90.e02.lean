/-! what the machine answers is what the functions say (by gen/emit.py) -/
set_option maxHeartbeats 4000000 in
set_option maxRecDepth 20000 in
theorem e_X6_noiseBy (X : xX) (σ : xM) (lg : Int64) (v1 : Int32) (v2 : Int32) (r : Int32) (h : X6_noiseBy (σ 5300) v1 v2 = some r) : EM XP X 3 133 [.ref 52, .int v1, .int v2] SH0 lg σ (some (.int r), SH0, [], lg) := by
  refine EM_of (M := xm_133) rfl rfl ?_
  unfold X6_noiseBy at h
  refine E_sts 3 (3, [(0, .ref 52), (1, .int v1), (2, .int v2)], [.int 0, .int v1, .ref 52], SH0, [], lg) rfl ?_
  obtain ⟨r3, hr, h⟩ := x_bind h
  refine E_call rfl (e_X6_get X _ _ _ _ r3 hr) (by decide) ?_
  refine E_sts 3 (9, [(0, .ref 52), (1, .int v1), (2, .int v2)], [.int 1, .int v1, .ref 52, .int r3], SH0, [], lg) rfl ?_
  obtain ⟨r9, hr, h⟩ := x_bind h
  refine E_call rfl (e_X6_get X _ _ _ _ r9 hr) (by decide) ?_
  refine E_sts 1 (13, [(0, .ref 52), (1, .int v1), (2, .int v2)], [.int v2, .int r9, .int r3], SH0, [], lg) rfl ?_
  refine E_call rfl (e_X6_noiseOf X _ _ _ _ _ (X6_noiseOf r3 r9 v2) rfl) (by decide) ?_
  obtain rfl := Option.some.inj h
  exact E_ret rfl
set_option maxHeartbeats 4000000 in
set_option maxRecDepth 20000 in
theorem e_X6_of (X : xX) (σ : xM) (lg : Int64) (v1 : Int32) (v2 : Int32) (r : Int32 × (Nat → Int32)) (h : X6_of (σ 5300) (σ 5600) v1 v2 = some r) : EM XP X 4 145 [.ref 52, .int v1, .int v2] SH0 lg σ (some (.int r.1), SH0, [(5600, r.2)], lg) := by
  refine EM_of (M := xm_145) rfl rfl ?_
  unfold X6_of at h
  refine E_sts 2 (2, [(0, .ref 52), (1, .int v1), (2, .int v2)], [.int v1, .ref 52], SH0, [], lg) rfl ?_
  obtain ⟨r2, hr, h⟩ := x_bind h
  refine E_call rfl (e_X6_isBow X _ _ _ r2 hr) (by decide) ?_
  refine E_sts 1 (if (xb r2) = 0 then 18 else 8, [(0, .ref 52), (1, .int v1), (2, .int v2)], [], SH0, [], lg) rfl ?_
  rcases x_br h with ⟨hc, h⟩ | ⟨hc, h⟩
  · refine E_itt hc ?_
    refine E_sts 2 (20, [(0, .ref 52), (1, .int v1), (2, .int v2)], [.int 0, .ref 52], SH0, [], lg) rfl ?_
    obtain ⟨r20, hr, h⟩ := x_bind h
    refine E_call rfl (e_X6_no X _ _ _ r20 hr) (by decide) ?_
    obtain rfl := Option.some.inj h
    exact E_ret rfl
  · refine E_itf hc ?_
    refine E_sts 3 (12, [(0, .ref 52), (1, .int v1), (2, .int v2)], [.int 6, .int 0, .int v2], SH0, [], lg) rfl ?_
    refine E_call rfl (e_X6_in1 X _ _ _ _ _ (X6_in1 v2 0 6) rfl) (by decide) ?_
    refine E_sts 1 (if (xb (X6_in1 v2 0 6)) = 0 then 18 else 24, [(0, .ref 52), (1, .int v1), (2, .int v2)], [], SH0, [], lg) rfl ?_
    rcases x_br h with ⟨hc, h⟩ | ⟨hc, h⟩
    · refine E_itt hc ?_
      refine E_sts 2 (20, [(0, .ref 52), (1, .int v1), (2, .int v2)], [.int 0, .ref 52], SH0, [], lg) rfl ?_
      obtain ⟨r20_1, hr, h⟩ := x_bind h
      refine E_call rfl (e_X6_no X _ _ _ r20_1 hr) (by decide) ?_
      obtain rfl := Option.some.inj h
      exact E_ret rfl
    · refine E_itf hc ?_
      refine E_sts 3 (if 4 ≤ v2 then 38 else 29, [(0, .ref 52), (1, .int v1), (2, .int v2)], [], SH0, [], lg) rfl ?_
      rcases x_br h with ⟨hc, h⟩ | ⟨hc, h⟩
      · refine E_itt hc ?_
        refine E_sts 3 (if v2 = 4 then 43 else 51, [(0, .ref 52), (1, .int v1), (2, .int v2)], [], SH0, [], lg) rfl ?_
        rcases x_br h with ⟨hc, h⟩ | ⟨hc, h⟩
        · refine E_itt hc ?_
          refine E_sts 2 (45, [(0, .ref 52), (1, .int v1), (2, .int v2)], [.int v1, .ref 52], SH0, [], lg) rfl ?_
          obtain ⟨r45, hr, h⟩ := x_bind h
          refine E_call rfl (e_X6_leaves X _ _ _ r45 hr) (by decide) ?_
          obtain rfl := Option.some.inj h
          refine E_sts 2 (77, [], [.int r45], SH0, [(5600, (σ 5600))], lg) rfl ?_
          exact E_ret rfl
        · refine E_itf hc ?_
          refine E_sts 3 (if v2 = 5 then 56 else 64, [(0, .ref 52), (1, .int v1), (2, .int v2)], [], SH0, [], lg) rfl ?_
          rcases x_br h with ⟨hc, h⟩ | ⟨hc, h⟩
          · refine E_itt hc ?_
            refine E_sts 2 (58, [(0, .ref 52), (1, .int v1), (2, .int v2)], [.int v1, .ref 52], SH0, [], lg) rfl ?_
            obtain ⟨r58, hr, h⟩ := x_bind h
            refine E_call rfl (e_X6_secondsOf X _ _ _ r58 hr) (by decide) ?_
            obtain rfl := Option.some.inj h
            refine E_sts 2 (77, [], [.int r58], SH0, [(5600, (σ 5600))], lg) rfl ?_
            exact E_ret rfl
          · refine E_itf hc ?_
            refine E_sts 4 (68, [(0, .ref 52), (1, .int v1), (2, .int v2)], [.ref 52, .ref 52, .int v1, .ref 52], SH0, [], lg) rfl ?_
            obtain ⟨r68, hr, h⟩ := x_bind h
            refine E_call rfl (e_X6_latest X _ _ r68 hr) (by decide) ?_
            obtain ⟨r71, hr, h⟩ := x_bind h
            refine E_call rfl (e_X6_leftBy X _ _ _ r71 hr) (by decide) ?_
            obtain ⟨r74, hr, h⟩ := x_bind h
            refine E_call rfl (e_X6_noiseBy X _ _ _ _ r74 hr) (by decide) ?_
            obtain rfl := Option.some.inj h
            refine E_sts 1 (77, [], [.int r74], SH0, [(5600, (σ 5600))], lg) rfl ?_
            exact E_ret rfl
      · refine E_itf hc ?_
        refine E_sts 3 (32, [(0, .ref 52), (1, .int v1), (2, .int v2)], [.int v2, .int v1, .ref 52], SH0, [], lg) rfl ?_
        obtain ⟨r32, hr, h⟩ := x_bind h
        refine E_call rfl (e_X6_get X _ _ _ _ r32 hr) (by decide) ?_
        obtain rfl := Option.some.inj h
        refine E_sts 2 (77, [], [.int r32], SH0, [(5600, (σ 5600))], lg) rfl ?_
        exact E_ret rfl
set_option maxHeartbeats 4000000 in
set_option maxRecDepth 20000 in
theorem e_X2_isSetWithout (X : xX) (σ : xM) (lg : Int64) (v1 : Int32) (v2 : Int32) (r : Bool) (h : X2_isSetWithout (σ 201 0) v1 v2 = r) : EM XP X 2 26 [.ref 2, .int v1, .int v2] SH0 lg σ (some (.int (xb r)), SH0, [], lg) := by
  refine EM_of (M := xm_26) rfl rfl ?_
  unfold X2_isSetWithout at h
  refine E_sts 8 (10, [(0, .ref 2), (1, .int v1), (2, .int v2)], [.int ((xshl 1 (σ 201 0)) - 1), .int 0, .int v1], SH0, [], lg) rfl ?_
  refine E_call rfl (e_X5_isIn X _ _ _ _ _ (X5_isIn v1 0 ((xshl 1 (σ 201 0)) - 1)) rfl) (by decide) ?_
  refine E_sts 1 (if (xb (X5_isIn v1 0 ((xshl 1 (σ 201 0)) - 1))) = 0 then 28 else 16, [(0, .ref 2), (1, .int v1), (2, .int v2)], [], SH0, [], lg) rfl ?_
  rcases x_br h with ⟨hc, h⟩ | ⟨hc, h⟩
  · refine E_itt hc ?_
    subst h
    refine E_sts 1 (29, [(0, .ref 2), (1, .int v1), (2, .int v2)], [.int 0], SH0, [], lg) rfl ?_
    exact E_retp (p := (0 : Int32) = 0 ∨ (0 : Int32) = 1) rfl (by decide)
  · refine E_itf hc ?_
    refine E_sts 6 (if (v1 &&& (xshl 1 v2)) = 0 then 24 else 28, [(0, .ref 2), (1, .int v1), (2, .int v2)], [], SH0, [], lg) rfl ?_
    rcases x_br h with ⟨hc, h⟩ | ⟨hc, h⟩
    · refine E_itt hc ?_
      subst h
      refine E_sts 2 (29, [(0, .ref 2), (1, .int v1), (2, .int v2)], [.int 1], SH0, [], lg) rfl ?_
      exact E_retp (p := (1 : Int32) = 0 ∨ (1 : Int32) = 1) rfl (by decide)
    · refine E_itf hc ?_
      subst h
      refine E_sts 1 (29, [(0, .ref 2), (1, .int v1), (2, .int v2)], [.int 0], SH0, [], lg) rfl ?_
      exact E_retp (p := (0 : Int32) = 0 ∨ (0 : Int32) = 1) rfl (by decide)
set_option maxHeartbeats 4000000 in
set_option maxRecDepth 20000 in
theorem e_X5_put_sc_aheads (X : xX) (σ : xM) (lg : Int64) (v1 : Int32) (v2 : Int32) (r : Int32 × (Nat → Int32)) (h : X5_put_sc_aheads (σ 600) v1 v2 = some r) : EM XP X 1 117 [.ref 6, .int v1, .int v2] SH0 lg σ (some (.int r.1), SH0, [(600, r.2)], lg) := by
  refine EM_of (M := xm_117) rfl rfl ?_
  unfold X5_put_sc_aheads at h
  refine E_sts 2 (2, [(0, .ref 6), (1, .int v1), (2, .int v2)], [.int v1, .ref 6], SH0, [], lg) rfl ?_
  obtain ⟨hp, h⟩ := x_ite h
  refine E_par (p := inr v1 9) (3, [(0, .ref 6), (1, .int v1), (2, .int v2)], [.int ((σ 600) v1.toNatClampNeg)], SH0, [], lg) rfl hp ?_
  refine E_sts 4 (7, [(0, .ref 6), (1, .int v1), (2, .int v2), (3, .int ((σ 600) v1.toNatClampNeg))], [.int v2, .int v1, .ref 6], SH0, [], lg) rfl ?_
  obtain ⟨hp, h⟩ := x_ite h
  refine E_par (p := inr v1 9) (8, [(0, .ref 6), (1, .int v1), (2, .int v2), (3, .int ((σ 600) v1.toNatClampNeg))], [], SH0, [(600, (upd (σ 600) v1.toNatClampNeg v2))], lg) rfl hp ?_
  obtain rfl := Option.some.inj h
  refine E_sts 1 (9, [(0, .ref 6), (1, .int v1), (2, .int v2), (3, .int ((σ 600) v1.toNatClampNeg))], [.int ((σ 600) v1.toNatClampNeg)], SH0, [(600, (upd (σ 600) v1.toNatClampNeg v2))], lg) rfl ?_
  exact E_ret rfl
set_option maxHeartbeats 4000000 in
set_option maxRecDepth 20000 in
theorem e_X5_put_sc_seconds (X : xX) (σ : xM) (lg : Int64) (v1 : Int32) (v2 : Int32) (r : Int32 × (Nat → Int32)) (h : X5_put_sc_seconds (σ 500) v1 v2 = some r) : EM XP X 1 117 [.ref 5, .int v1, .int v2] SH0 lg σ (some (.int r.1), SH0, [(500, r.2)], lg) := by
  refine EM_of (M := xm_117) rfl rfl ?_
  unfold X5_put_sc_seconds at h
  refine E_sts 2 (2, [(0, .ref 5), (1, .int v1), (2, .int v2)], [.int v1, .ref 5], SH0, [], lg) rfl ?_
  obtain ⟨hp, h⟩ := x_ite h
  refine E_par (p := inr v1 9) (3, [(0, .ref 5), (1, .int v1), (2, .int v2)], [.int ((σ 500) v1.toNatClampNeg)], SH0, [], lg) rfl hp ?_
  refine E_sts 4 (7, [(0, .ref 5), (1, .int v1), (2, .int v2), (3, .int ((σ 500) v1.toNatClampNeg))], [.int v2, .int v1, .ref 5], SH0, [], lg) rfl ?_
  obtain ⟨hp, h⟩ := x_ite h
  refine E_par (p := inr v1 9) (8, [(0, .ref 5), (1, .int v1), (2, .int v2), (3, .int ((σ 500) v1.toNatClampNeg))], [], SH0, [(500, (upd (σ 500) v1.toNatClampNeg v2))], lg) rfl hp ?_
  obtain rfl := Option.some.inj h
  refine E_sts 1 (9, [(0, .ref 5), (1, .int v1), (2, .int v2), (3, .int ((σ 500) v1.toNatClampNeg))], [.int ((σ 500) v1.toNatClampNeg)], SH0, [(500, (upd (σ 500) v1.toNatClampNeg v2))], lg) rfl ?_
  exact E_ret rfl
set_option maxHeartbeats 4000000 in
set_option maxRecDepth 20000 in
theorem e_X5_put_sc_loves (X : xX) (σ : xM) (lg : Int64) (v1 : Int32) (v2 : Int32) (r : Int32 × (Nat → Int32)) (h : X5_put_sc_loves (σ 400) v1 v2 = some r) : EM XP X 1 117 [.ref 4, .int v1, .int v2] SH0 lg σ (some (.int r.1), SH0, [(400, r.2)], lg) := by
  refine EM_of (M := xm_117) rfl rfl ?_
  unfold X5_put_sc_loves at h
  refine E_sts 2 (2, [(0, .ref 4), (1, .int v1), (2, .int v2)], [.int v1, .ref 4], SH0, [], lg) rfl ?_
  obtain ⟨hp, h⟩ := x_ite h
  refine E_par (p := inr v1 9) (3, [(0, .ref 4), (1, .int v1), (2, .int v2)], [.int ((σ 400) v1.toNatClampNeg)], SH0, [], lg) rfl hp ?_
  refine E_sts 4 (7, [(0, .ref 4), (1, .int v1), (2, .int v2), (3, .int ((σ 400) v1.toNatClampNeg))], [.int v2, .int v1, .ref 4], SH0, [], lg) rfl ?_
  obtain ⟨hp, h⟩ := x_ite h
  refine E_par (p := inr v1 9) (8, [(0, .ref 4), (1, .int v1), (2, .int v2), (3, .int ((σ 400) v1.toNatClampNeg))], [], SH0, [(400, (upd (σ 400) v1.toNatClampNeg v2))], lg) rfl hp ?_
  obtain rfl := Option.some.inj h
  refine E_sts 1 (9, [(0, .ref 4), (1, .int v1), (2, .int v2), (3, .int ((σ 400) v1.toNatClampNeg))], [.int ((σ 400) v1.toNatClampNeg)], SH0, [(400, (upd (σ 400) v1.toNatClampNeg v2))], lg) rfl ?_
  exact E_ret rfl
set_option maxHeartbeats 4000000 in
set_option maxRecDepth 20000 in
theorem e_X5_put_sc_kinds (X : xX) (σ : xM) (lg : Int64) (v1 : Int32) (v2 : Int32) (r : Int32 × (Nat → Int32)) (h : X5_put_sc_kinds (σ 300) v1 v2 = some r) : EM XP X 1 117 [.ref 3, .int v1, .int v2] SH0 lg σ (some (.int r.1), SH0, [(300, r.2)], lg) := by
  refine EM_of (M := xm_117) rfl rfl ?_
  unfold X5_put_sc_kinds at h
  refine E_sts 2 (2, [(0, .ref 3), (1, .int v1), (2, .int v2)], [.int v1, .ref 3], SH0, [], lg) rfl ?_
  obtain ⟨hp, h⟩ := x_ite h
  refine E_par (p := inr v1 9) (3, [(0, .ref 3), (1, .int v1), (2, .int v2)], [.int ((σ 300) v1.toNatClampNeg)], SH0, [], lg) rfl hp ?_
  refine E_sts 4 (7, [(0, .ref 3), (1, .int v1), (2, .int v2), (3, .int ((σ 300) v1.toNatClampNeg))], [.int v2, .int v1, .ref 3], SH0, [], lg) rfl ?_
  obtain ⟨hp, h⟩ := x_ite h
  refine E_par (p := inr v1 9) (8, [(0, .ref 3), (1, .int v1), (2, .int v2), (3, .int ((σ 300) v1.toNatClampNeg))], [], SH0, [(300, (upd (σ 300) v1.toNatClampNeg v2))], lg) rfl hp ?_
  obtain rfl := Option.some.inj h
  refine E_sts 1 (9, [(0, .ref 3), (1, .int v1), (2, .int v2), (3, .int ((σ 300) v1.toNatClampNeg))], [.int ((σ 300) v1.toNatClampNeg)], SH0, [(300, (upd (σ 300) v1.toNatClampNeg v2))], lg) rfl ?_
  exact E_ret rfl
set_option maxHeartbeats 4000000 in
set_option maxRecDepth 20000 in
theorem e_X5_change (X : xX) (σ : xM) (lg : Int64) (v1 : Int32) (v2 : Int32) (v3 : Int32) (r : Int32 × (Nat → Int32) × (Nat → Int32) × (Nat → Int32) × (Nat → Int32) × (Nat → Int32)) (h : X5_change (σ 100) (σ 201 0) (σ 300) (σ 400) (σ 500) (σ 600) v1 v2 v3 = some r) : EM XP X 3 70 [.ref 0, .int v1, .int v2, .int v3] SH0 lg σ (some (.int r.1), SH0, [(100, r.2.1), (300, r.2.2.1), (400, r.2.2.2.1), (500, r.2.2.2.2.1), (600, r.2.2.2.2.2)], lg) := by
  refine EM_of (M := xm_70) rfl rfl ?_
  unfold X5_change at h
  refine E_sts 3 (5, [(0, .ref 0), (1, .int v1), (2, .int v2), (3, .int v3)], [.int v1, .ref 2], SH0, [], lg) rfl ?_
  refine E_call rfl (e_X2_isBow X _ _ _ (X2_isBow (σ 201 0) v1) rfl) (by decide) ?_
  refine E_sts 1 (if (xb (X2_isBow (σ 201 0) v1)) = 0 then 11 else 17, [(0, .ref 0), (1, .int v1), (2, .int v2), (3, .int v3)], [], SH0, [], lg) rfl ?_
  rcases x_br h with ⟨hc, h⟩ | ⟨hc, h⟩
  · refine E_itt hc ?_
    refine E_sts 2 (13, [(0, .ref 0), (1, .int v1), (2, .int v2), (3, .int v3)], [.int 0, .ref 0], SH0, [], lg) rfl ?_
    obtain ⟨r13, hr, h⟩ := x_bind h
    refine E_call rfl (e_X5_finding X _ _ _ r13 hr) (by decide) ?_
    obtain rfl := Option.some.inj h
    refine E_sts 1 (16, [], [.int r13.1], SH0, [(100, r13.2), (300, (σ 300)), (400, (σ 400)), (500, (σ 500)), (600, (σ 600))], lg) rfl ?_
    exact E_ret rfl
  · refine E_itf hc ?_
    refine E_sts 2 (if v2 = 0 then 48 else if v2 = 1 then 79 else if v2 = 2 then 110 else if v2 = 3 then 141 else 174, [(0, .ref 0), (1, .int v1), (2, .int v2), (3, .int v3)], [], SH0, [], lg) rfl ?_
    rcases x_br h with ⟨hc, h⟩ | ⟨hc, h⟩
    · refine E_itt hc ?_
      refine E_sts 3 (52, [(0, .ref 0), (1, .int v1), (2, .int v2), (3, .int v3)], [.int 6, .int 0, .int v3], SH0, [], lg) rfl ?_
      refine E_call rfl (e_X5_isIn X _ _ _ _ _ (X5_isIn v3 0 6) rfl) (by decide) ?_
      refine E_sts 1 (if (xb (X5_isIn v3 0 6)) = 0 then 73 else 58, [(0, .ref 0), (1, .int v1), (2, .int v2), (3, .int v3)], [], SH0, [], lg) rfl ?_
      rcases x_br h with ⟨hc, h⟩ | ⟨hc, h⟩
      · refine E_itt hc ?_
        refine E_sts 2 (75, [(0, .ref 0), (1, .int v1), (2, .int v2), (3, .int v3)], [.int 0, .ref 0], SH0, [], lg) rfl ?_
        obtain ⟨r75, hr, h⟩ := x_bind h
        refine E_call rfl (e_X5_finding X _ _ _ r75 hr) (by decide) ?_
        obtain rfl := Option.some.inj h
        refine E_sts 1 (78, [], [.int r75.1], SH0, [(100, r75.2), (300, (σ 300)), (400, (σ 400)), (500, (σ 500)), (600, (σ 600))], lg) rfl ?_
        exact E_ret rfl
      · refine E_itf hc ?_
        refine E_sts 5 (67, [(0, .ref 0), (1, .int v1), (2, .int v2), (3, .int v3)], [.int v3, .int v1, .ref 3], SH0, [], lg) rfl ?_
        obtain ⟨r67, hr, h⟩ := x_bind h
        refine E_call rfl (e_X5_put_sc_kinds X _ _ _ _ r67 hr) (by decide) ?_
        obtain rfl := Option.some.inj h
        refine E_sts 2 (78, [], [.int r67.1], SH0, [(100, (σ 100)), (300, r67.2), (400, (σ 400)), (500, (σ 500)), (600, (σ 600))], lg) rfl ?_
        exact E_ret rfl
    refine E_itf hc ?_
    rcases x_br h with ⟨hc, h⟩ | ⟨hc, h⟩
    · refine E_itt hc ?_
      refine E_sts 3 (83, [(0, .ref 0), (1, .int v1), (2, .int v2), (3, .int v3)], [.int 99, .int 0, .int v3], SH0, [], lg) rfl ?_
      refine E_call rfl (e_X5_isIn X _ _ _ _ _ (X5_isIn v3 0 99) rfl) (by decide) ?_
      refine E_sts 1 (if (xb (X5_isIn v3 0 99)) = 0 then 104 else 89, [(0, .ref 0), (1, .int v1), (2, .int v2), (3, .int v3)], [], SH0, [], lg) rfl ?_
      rcases x_br h with ⟨hc, h⟩ | ⟨hc, h⟩
      · refine E_itt hc ?_
        refine E_sts 2 (106, [(0, .ref 0), (1, .int v1), (2, .int v2), (3, .int v3)], [.int 0, .ref 0], SH0, [], lg) rfl ?_
        obtain ⟨r106, hr, h⟩ := x_bind h
        refine E_call rfl (e_X5_finding X _ _ _ r106 hr) (by decide) ?_
        obtain rfl := Option.some.inj h
        refine E_sts 1 (109, [], [.int r106.1], SH0, [(100, r106.2), (300, (σ 300)), (400, (σ 400)), (500, (σ 500)), (600, (σ 600))], lg) rfl ?_
        exact E_ret rfl
      · refine E_itf hc ?_
        refine E_sts 5 (98, [(0, .ref 0), (1, .int v1), (2, .int v2), (3, .int v3)], [.int v3, .int v1, .ref 4], SH0, [], lg) rfl ?_
        obtain ⟨r98, hr, h⟩ := x_bind h
        refine E_call rfl (e_X5_put_sc_loves X _ _ _ _ r98 hr) (by decide) ?_
        obtain rfl := Option.some.inj h
        refine E_sts 2 (109, [], [.int r98.1], SH0, [(100, (σ 100)), (300, (σ 300)), (400, r98.2), (500, (σ 500)), (600, (σ 600))], lg) rfl ?_
        exact E_ret rfl
    refine E_itf hc ?_
    rcases x_br h with ⟨hc, h⟩ | ⟨hc, h⟩
    · refine E_itt hc ?_
      refine E_sts 3 (114, [(0, .ref 0), (1, .int v1), (2, .int v2), (3, .int v3)], [.int 60, .int 1, .int v3], SH0, [], lg) rfl ?_
      refine E_call rfl (e_X5_isIn X _ _ _ _ _ (X5_isIn v3 1 60) rfl) (by decide) ?_
      refine E_sts 1 (if (xb (X5_isIn v3 1 60)) = 0 then 135 else 120, [(0, .ref 0), (1, .int v1), (2, .int v2), (3, .int v3)], [], SH0, [], lg) rfl ?_
      rcases x_br h with ⟨hc, h⟩ | ⟨hc, h⟩
      · refine E_itt hc ?_
        refine E_sts 2 (137, [(0, .ref 0), (1, .int v1), (2, .int v2), (3, .int v3)], [.int 0, .ref 0], SH0, [], lg) rfl ?_
        obtain ⟨r137, hr, h⟩ := x_bind h
        refine E_call rfl (e_X5_finding X _ _ _ r137 hr) (by decide) ?_
        obtain rfl := Option.some.inj h
        refine E_sts 1 (140, [], [.int r137.1], SH0, [(100, r137.2), (300, (σ 300)), (400, (σ 400)), (500, (σ 500)), (600, (σ 600))], lg) rfl ?_
        exact E_ret rfl
      · refine E_itf hc ?_
        refine E_sts 5 (129, [(0, .ref 0), (1, .int v1), (2, .int v2), (3, .int v3)], [.int v3, .int v1, .ref 5], SH0, [], lg) rfl ?_
        obtain ⟨r129, hr, h⟩ := x_bind h
        refine E_call rfl (e_X5_put_sc_seconds X _ _ _ _ r129 hr) (by decide) ?_
        obtain rfl := Option.some.inj h
        refine E_sts 2 (140, [], [.int r129.1], SH0, [(100, (σ 100)), (300, (σ 300)), (400, (σ 400)), (500, r129.2), (600, (σ 600))], lg) rfl ?_
        exact E_ret rfl
    refine E_itf hc ?_
    rcases x_br h with ⟨hc, h⟩ | ⟨hc, h⟩
    · refine E_itt hc ?_
      refine E_sts 4 (147, [(0, .ref 0), (1, .int v1), (2, .int v2), (3, .int v3)], [.int v1, .int v3, .ref 2], SH0, [], lg) rfl ?_
      refine E_call rfl (e_X2_isSetWithout X _ _ _ _ (X2_isSetWithout (σ 201 0) v3 v1) rfl) (by decide) ?_
      refine E_sts 1 (if (xb (X2_isSetWithout (σ 201 0) v3 v1)) = 0 then 168 else 153, [(0, .ref 0), (1, .int v1), (2, .int v2), (3, .int v3)], [], SH0, [], lg) rfl ?_
      rcases x_br h with ⟨hc, h⟩ | ⟨hc, h⟩
      · refine E_itt hc ?_
        refine E_sts 2 (170, [(0, .ref 0), (1, .int v1), (2, .int v2), (3, .int v3)], [.int 0, .ref 0], SH0, [], lg) rfl ?_
        obtain ⟨r170, hr, h⟩ := x_bind h
        refine E_call rfl (e_X5_finding X _ _ _ r170 hr) (by decide) ?_
        obtain rfl := Option.some.inj h
        refine E_sts 1 (173, [], [.int r170.1], SH0, [(100, r170.2), (300, (σ 300)), (400, (σ 400)), (500, (σ 500)), (600, (σ 600))], lg) rfl ?_
        exact E_ret rfl
      · refine E_itf hc ?_
        refine E_sts 5 (162, [(0, .ref 0), (1, .int v1), (2, .int v2), (3, .int v3)], [.int v3, .int v1, .ref 6], SH0, [], lg) rfl ?_
        obtain ⟨r162, hr, h⟩ := x_bind h
        refine E_call rfl (e_X5_put_sc_aheads X _ _ _ _ r162 hr) (by decide) ?_
        obtain rfl := Option.some.inj h
        refine E_sts 2 (173, [], [.int r162.1], SH0, [(100, (σ 100)), (300, (σ 300)), (400, (σ 400)), (500, (σ 500)), (600, r162.2)], lg) rfl ?_
        exact E_ret rfl
    refine E_itf hc ?_
    refine E_sts 2 (176, [(0, .ref 0), (1, .int v1), (2, .int v2), (3, .int v3)], [.int 0, .ref 0], SH0, [], lg) rfl ?_
    obtain ⟨r176, hr, h⟩ := x_bind h
    refine E_call rfl (e_X5_finding X _ _ _ r176 hr) (by decide) ?_
    obtain rfl := Option.some.inj h
    refine E_sts 1 (179, [], [.int r176.1], SH0, [(100, r176.2), (300, (σ 300)), (400, (σ 400)), (500, (σ 500)), (600, (σ 600))], lg) rfl ?_
    exact E_ret rfl
set_option maxHeartbeats 4000000 in
set_option maxRecDepth 20000 in
theorem e_X6_isIn (X : xX) (σ : xM) (lg : Int64) (v0 : Int32) (v1 : Int32) (r : Bool) (h : X6_isIn v0 v1 = r) : EM XP X 1 127 [.int v0, .int v1] SH0 lg σ (some (.int (xb r)), SH0, [], lg) := by
  refine EM_of (M := xm_127) rfl rfl ?_
  unfold X6_isIn at h
  refine E_sts 7 (if ((xshr v0 v1) &&& 1) = 1 then 9 else 13, [(0, .int v0), (1, .int v1)], [], SH0, [], lg) rfl ?_
  rcases x_br h with ⟨hc, h⟩ | ⟨hc, h⟩
  · refine E_itt hc ?_
    subst h
    refine E_sts 2 (14, [(0, .int v0), (1, .int v1)], [.int 1], SH0, [], lg) rfl ?_
    exact E_retp (p := (1 : Int32) = 0 ∨ (1 : Int32) = 1) rfl (by decide)
  · refine E_itf hc ?_
    subst h
    refine E_sts 1 (14, [(0, .int v0), (1, .int v1)], [.int 0], SH0, [], lg) rfl ?_
    exact E_retp (p := (0 : Int32) = 0 ∨ (0 : Int32) = 1) rfl (by decide)
set_option maxHeartbeats 4000000 in
set_option maxRecDepth 20000 in
theorem e_X6_allBows (X : xX) (σ : xM) (lg : Int64) (r : Int32) (h : X6_allBows (σ 5300) = some r) : EM XP X 1 131 [.ref 52] SH0 lg σ (some (.int r), SH0, [], lg) := by
  refine EM_of (M := xm_131) rfl rfl ?_
  unfold X6_allBows at h
  refine E_sts 4 (6, [(0, .ref 52)], [.int 3, .ref 53, .int 1], SH0, [], lg) rfl ?_
  refine E_par (p := inr 3 83) (7, [(0, .ref 52)], [.int ((σ 5300) 3), .int 1], SH0, [], lg) rfl (by decide) ?_
  obtain rfl := Option.some.inj h
  refine E_sts 3 (10, [(0, .ref 52)], [.int ((xshl 1 ((σ 5300) 3)) - 1)], SH0, [], lg) rfl ?_
  exact E_ret rfl
set_option maxHeartbeats 4000000 in
set_option maxRecDepth 20000 in
theorem e_X6_change_L96 (X : xX) (σ : xM) (lg : Int64) : ∀ (v1 : Int32) (v2 : Int32) (v3 : Int32) (r : Int32 × (Nat → Int32) × (Nat → Int32)), X6_change_L96 (σ 5300) (σ 5600) v1 v2 v3 = some r → E XP X 2 xm_146 σ (96, [(0, .ref 52), (1, .int v1), (2, .int v2), (3, .int v3)], [], SH0, [], lg) (some (.int r.1), SH0, [(5300, r.2.1), (5600, r.2.2)], lg) := by
  intro v1 v2 v3 r h
  unfold X6_change_L96 at h
  refine E_sts 3 (99, [(0, .ref 52), (1, .int v1), (2, .int v2), (3, .int v3)], [.int v2, .int v1, .ref 52], SH0, [], lg) rfl ?_
  obtain ⟨r99, hr, h⟩ := x_bind h
  refine E_call rfl (e_X6_get X _ _ _ _ r99 hr) (by decide) ?_
  refine E_sts 5 (108, [(0, .ref 52), (1, .int v1), (2, .int v2), (3, .int v3), (5, .int r99)], [.int v3, .int v2, .int v1, .ref 52], SH0, [], lg) rfl ?_
  obtain ⟨r108, hr, h⟩ := x_bind h
  refine E_call rfl (e_X6_puts X _ _ _ _ _ r108 hr) (by decide) ?_
  obtain rfl := Option.some.inj h
  refine E_sts 2 (113, [], [.int r99], SH0, [(5300, r108), (5600, (σ 5600))], lg) rfl ?_
  exact E_ret rfl
set_option maxHeartbeats 4000000 in
set_option maxRecDepth 20000 in
theorem e_X6_change_L69 (X : xX) (σ : xM) (lg : Int64) : ∀ (v1 : Int32) (v2 : Int32) (v3 : Int32) (v4 : Int32) (t0 : Int32) (t1 : Int32) (r : Int32 × (Nat → Int32) × (Nat → Int32)), X6_change_L69 (σ 5300) (σ 5600) v1 v2 v3 v4 t0 t1 = some r → E XP X 2 xm_146 σ (69, [(0, .ref 52), (1, .int v1), (2, .int v2), (3, .int v3), (4, .int v4)], [.int t1, .int t0], SH0, [], lg) (some (.int r.1), SH0, [(5300, r.2.1), (5600, r.2.2)], lg) := by
  intro v1 v2 v3 v4 t0 t1 r h
  unfold X6_change_L69 at h
  refine E_sts 1 (71, [(0, .ref 52), (1, .int v1), (2, .int v2), (3, .int v3), (4, .int v4)], [.int v4, .int t1, .int t0], SH0, [], lg) rfl ?_
  refine E_call rfl (e_X6_in1 X _ _ _ _ _ (X6_in1 t0 t1 v4) rfl) (by decide) ?_
  refine E_sts 1 (if (xb (X6_in1 t0 t1 v4)) = 0 then 90 else 77, [(0, .ref 52), (1, .int v1), (2, .int v2), (3, .int v3), (4, .int v4)], [], SH0, [], lg) rfl ?_
  rcases x_br h with ⟨hc, h⟩ | ⟨hc, h⟩
  · refine E_itt hc ?_
    refine E_sts 2 (92, [(0, .ref 52), (1, .int v1), (2, .int v2), (3, .int v3), (4, .int v4)], [.int 0, .ref 52], SH0, [], lg) rfl ?_
    obtain ⟨r92, hr, h⟩ := x_bind h
    refine E_call rfl (e_X6_no X _ _ _ r92 hr) (by decide) ?_
    obtain rfl := Option.some.inj h
    refine E_sts 1 (95, [], [.int r92.1], SH0, [(5300, (σ 5300)), (5600, r92.2)], lg) rfl ?_
    exact E_ret rfl
  · refine E_itf hc ?_
    refine E_sts 3 (if v2 = 3 then 82 else 100096, [(0, .ref 52), (1, .int v1), (2, .int v2), (3, .int v3), (4, .int v4)], [], SH0, [], lg) rfl ?_
    rcases x_br h with ⟨hc, h⟩ | ⟨hc, h⟩
    · refine E_itt hc ?_
      refine E_sts 2 (84, [(0, .ref 52), (1, .int v1), (2, .int v2), (3, .int v3), (4, .int v4)], [.int v1, .int v3], SH0, [], lg) rfl ?_
      refine E_call rfl (e_X6_isIn X _ _ _ _ (X6_isIn v3 v1) rfl) (by decide) ?_
      refine E_sts 1 (if (xb (X6_isIn v3 v1)) = 0 then 100096 else 90, [(0, .ref 52), (1, .int v1), (2, .int v2), (3, .int v3), (4, .int v4)], [], SH0, [], lg) rfl ?_
      rcases x_br h with ⟨hc, h⟩ | ⟨hc, h⟩
      · refine E_itt hc ?_
        refine E_sts 1 (96, [(0, .ref 52), (1, .int v1), (2, .int v2), (3, .int v3)], [], SH0, [], lg) rfl ?_
        exact e_X6_change_L96 X σ lg v1 v2 v3 r h
      · refine E_itf hc ?_
        refine E_sts 2 (92, [(0, .ref 52), (1, .int v1), (2, .int v2), (3, .int v3), (4, .int v4)], [.int 0, .ref 52], SH0, [], lg) rfl ?_
        obtain ⟨r92_1, hr, h⟩ := x_bind h
        refine E_call rfl (e_X6_no X _ _ _ r92_1 hr) (by decide) ?_
        obtain rfl := Option.some.inj h
        refine E_sts 1 (95, [], [.int r92_1.1], SH0, [(5300, (σ 5300)), (5600, r92_1.2)], lg) rfl ?_
        exact E_ret rfl
    · refine E_itf hc ?_
      refine E_sts 1 (96, [(0, .ref 52), (1, .int v1), (2, .int v2), (3, .int v3)], [], SH0, [], lg) rfl ?_
      exact e_X6_change_L96 X σ lg v1 v2 v3 r h
set_option maxHeartbeats 4000000 in
set_option maxRecDepth 20000 in
theorem e_X6_change_L56 (X : xX) (σ : xM) (lg : Int64) : ∀ (v1 : Int32) (v2 : Int32) (v3 : Int32) (t0 : Int32) (r : Int32 × (Nat → Int32) × (Nat → Int32)), X6_change_L56 (σ 5300) (σ 5600) v1 v2 v3 t0 = some r → E XP X 2 xm_146 σ (56, [(0, .ref 52), (1, .int v1), (2, .int v2), (3, .int v3)], [.int t0], SH0, [], lg) (some (.int r.1), SH0, [(5300, r.2.1), (5600, r.2.2)], lg) := by
  intro v1 v2 v3 t0 r h
  unfold X6_change_L56 at h
  refine E_sts 5 (if v2 = 2 then 64 else 68, [(0, .ref 52), (1, .int v1), (2, .int v2), (3, .int v3), (4, .int t0)], [.int v3], SH0, [], lg) rfl ?_
  rcases x_br h with ⟨hc, h⟩ | ⟨hc, h⟩
  · refine E_itt hc ?_
    refine E_sts 3 (69, [(0, .ref 52), (1, .int v1), (2, .int v2), (3, .int v3), (4, .int t0)], [.int 1, .int v3], SH0, [], lg) rfl ?_
    exact e_X6_change_L69 X σ lg v1 v2 v3 t0 v3 1 r h
  · refine E_itf hc ?_
    refine E_sts 2 (69, [(0, .ref 52), (1, .int v1), (2, .int v2), (3, .int v3), (4, .int t0)], [.int 0, .int v3], SH0, [], lg) rfl ?_
    exact e_X6_change_L69 X σ lg v1 v2 v3 t0 v3 0 r h
set_option maxHeartbeats 4000000 in
set_option maxRecDepth 20000 in
theorem e_X6_change (X : xX) (σ : xM) (lg : Int64) (v1 : Int32) (v2 : Int32) (v3 : Int32) (r : Int32 × (Nat → Int32) × (Nat → Int32)) (h : X6_change (σ 5300) (σ 5600) v1 v2 v3 = some r) : EM XP X 3 146 [.ref 52, .int v1, .int v2, .int v3] SH0 lg σ (some (.int r.1), SH0, [(5300, r.2.1), (5600, r.2.2)], lg) := by
  refine EM_of (M := xm_146) rfl rfl ?_
  unfold X6_change at h
  refine E_sts 2 (2, [(0, .ref 52), (1, .int v1), (2, .int v2), (3, .int v3)], [.int v1, .ref 52], SH0, [], lg) rfl ?_
  obtain ⟨r2, hr, h⟩ := x_bind h
  refine E_call rfl (e_X6_isBow X _ _ _ r2 hr) (by decide) ?_
  refine E_sts 1 (if (xb r2) = 0 then 17 else 8, [(0, .ref 52), (1, .int v1), (2, .int v2), (3, .int v3)], [], SH0, [], lg) rfl ?_
  rcases x_br h with ⟨hc, h⟩ | ⟨hc, h⟩
  · refine E_itt hc ?_
    refine E_sts 2 (19, [(0, .ref 52), (1, .int v1), (2, .int v2), (3, .int v3)], [.int 0, .ref 52], SH0, [], lg) rfl ?_
    obtain ⟨r19, hr, h⟩ := x_bind h
    refine E_call rfl (e_X6_no X _ _ _ r19 hr) (by decide) ?_
    obtain rfl := Option.some.inj h
    refine E_sts 1 (22, [], [.int r19.1], SH0, [(5300, (σ 5300)), (5600, r19.2)], lg) rfl ?_
    exact E_ret rfl
  · refine E_itf hc ?_
    refine E_sts 3 (11, [(0, .ref 52), (1, .int v1), (2, .int v2), (3, .int v3)], [.int 3, .int 0, .int v2], SH0, [], lg) rfl ?_
    refine E_call rfl (e_X6_in1 X _ _ _ _ _ (X6_in1 v2 0 3) rfl) (by decide) ?_
    refine E_sts 1 (if (xb (X6_in1 v2 0 3)) = 0 then 17 else 23, [(0, .ref 52), (1, .int v1), (2, .int v2), (3, .int v3)], [], SH0, [], lg) rfl ?_
    rcases x_br h with ⟨hc, h⟩ | ⟨hc, h⟩
    · refine E_itt hc ?_
      refine E_sts 2 (19, [(0, .ref 52), (1, .int v1), (2, .int v2), (3, .int v3)], [.int 0, .ref 52], SH0, [], lg) rfl ?_
      obtain ⟨r19_1, hr, h⟩ := x_bind h
      refine E_call rfl (e_X6_no X _ _ _ r19_1 hr) (by decide) ?_
      obtain rfl := Option.some.inj h
      refine E_sts 1 (22, [], [.int r19_1.1], SH0, [(5300, (σ 5300)), (5600, r19_1.2)], lg) rfl ?_
      exact E_ret rfl
    · refine E_itf hc ?_
      refine E_sts 2 (if v2 = 0 then 27 else 32, [(0, .ref 52), (1, .int v1), (2, .int v2), (3, .int v3)], [], SH0, [], lg) rfl ?_
      rcases x_br h with ⟨hc, h⟩ | ⟨hc, h⟩
      · refine E_itt hc ?_
        refine E_sts 3 (56, [(0, .ref 52), (1, .int v1), (2, .int v2), (3, .int v3)], [.int 6], SH0, [], lg) rfl ?_
        exact e_X6_change_L56 X σ lg v1 v2 v3 6 r h
      · refine E_itf hc ?_
        refine E_sts 3 (if v2 = 1 then 37 else 42, [(0, .ref 52), (1, .int v1), (2, .int v2), (3, .int v3)], [], SH0, [], lg) rfl ?_
        rcases x_br h with ⟨hc, h⟩ | ⟨hc, h⟩
        · refine E_itt hc ?_
          refine E_sts 3 (56, [(0, .ref 52), (1, .int v1), (2, .int v2), (3, .int v3)], [.int 99], SH0, [], lg) rfl ?_
          exact e_X6_change_L56 X σ lg v1 v2 v3 99 r h
        · refine E_itf hc ?_
          refine E_sts 3 (if v2 = 2 then 47 else 52, [(0, .ref 52), (1, .int v1), (2, .int v2), (3, .int v3)], [], SH0, [], lg) rfl ?_
          rcases x_br h with ⟨hc, h⟩ | ⟨hc, h⟩
          · refine E_itt hc ?_
            refine E_sts 3 (56, [(0, .ref 52), (1, .int v1), (2, .int v2), (3, .int v3)], [.int 60], SH0, [], lg) rfl ?_
            exact e_X6_change_L56 X σ lg v1 v2 v3 60 r h
          · refine E_itf hc ?_
            refine E_sts 1 (53, [(0, .ref 52), (1, .int v1), (2, .int v2), (3, .int v3)], [.ref 52], SH0, [], lg) rfl ?_
            obtain ⟨r53, hr, h⟩ := x_bind h
            refine E_call rfl (e_X6_allBows X _ _ r53 hr) (by decide) ?_
            refine E_sts 1 (56, [(0, .ref 52), (1, .int v1), (2, .int v2), (3, .int v3)], [.int r53], SH0, [], lg) rfl ?_
            exact e_X6_change_L56 X σ lg v1 v2 v3 r53 r h
set_option maxHeartbeats 4000000 in
set_option maxRecDepth 20000 in
theorem e_X5_contract_L75 (X : xX) (σ : xM) (lg : Int64) : ∀ (v2 : Int32) (v4 : Int32) (t0 : Int32) (r : Int32 × (Nat → Int32) × (Nat → Int32)), X5_contract_L75 (σ 100) (σ 600) v2 v4 t0 = some r → E XP X 1 xm_71 σ (75, [(0, .ref 0), (2, .int v2), (4, .int v4)], [.int t0], SH0, [], lg) (some (.int r.1), SH0, [(100, r.2.1), (600, r.2.2)], lg) := by
  intro v2 v4 t0 r h
  unfold X5_contract_L75 at h
  refine E_sts 6 (87, [(0, .ref 0), (2, .int v2), (4, .int v4), (5, .int t0)], [.int t0, .int v2, .ref 6], SH0, [], lg) rfl ?_
  obtain ⟨hp, h⟩ := x_ite h
  refine E_par (p := inr v2 9) (88, [(0, .ref 0), (2, .int v2), (4, .int v4), (5, .int t0)], [], SH0, [(600, (upd (σ 600) v2.toNatClampNeg t0))], lg) rfl hp ?_
  refine E_sts 3 (if t0 = v4 then 99 else 95, [(0, .ref 0), (2, .int v2), (4, .int v4), (5, .int t0)], [], SH0, [(600, (upd (σ 600) v2.toNatClampNeg t0))], lg) rfl ?_
  rcases x_br h with ⟨hc, h⟩ | ⟨hc, h⟩
  · refine E_itt hc ?_
    obtain rfl := Option.some.inj h
    refine E_sts 2 (100, [], [.int 0], SH0, [(100, (σ 100)), (600, (upd (σ 600) v2.toNatClampNeg t0))], lg) rfl ?_
    exact E_ret rfl
  · refine E_itf hc ?_
    obtain rfl := Option.some.inj h
    refine E_sts 3 (100, [], [.int 1], SH0, [(100, (σ 100)), (600, (upd (σ 600) v2.toNatClampNeg t0))], lg) rfl ?_
    exact E_ret rfl
set_option maxHeartbeats 4000000 in
set_option maxRecDepth 20000 in
theorem e_X5_contract (X : xX) (σ : xM) (lg : Int64) (v1 : Int32) (v2 : Int32) (v3 : Int32) (r : Int32 × (Nat → Int32) × (Nat → Int32)) (h : X5_contract (σ 100) (σ 201 0) (σ 600) v1 v2 v3 = some r) : EM XP X 2 71 [.ref 0, .int v1, .int v2, .int v3] SH0 lg σ (some (.int r.1), SH0, [(100, r.2.1), (600, r.2.2)], lg) := by
  refine EM_of (M := xm_71) rfl rfl ?_
  unfold X5_contract at h
  refine E_sts 3 (5, [(0, .ref 0), (1, .int v1), (2, .int v2), (3, .int v3)], [.int v1, .ref 2], SH0, [], lg) rfl ?_
  refine E_call rfl (e_X2_isBow X _ _ _ (X2_isBow (σ 201 0) v1) rfl) (by decide) ?_
  refine E_sts 1 (if (xb (X2_isBow (σ 201 0) v1)) = 0 then 36 else 11, [(0, .ref 0), (1, .int v1), (2, .int v2), (3, .int v3)], [], SH0, [], lg) rfl ?_
  rcases x_br h with ⟨hc, h⟩ | ⟨hc, h⟩
  · refine E_itt hc ?_
    refine E_sts 2 (38, [(0, .ref 0), (1, .int v1), (2, .int v2), (3, .int v3)], [.int 0, .ref 0], SH0, [], lg) rfl ?_
    obtain ⟨r38, hr, h⟩ := x_bind h
    refine E_call rfl (e_X5_finding X _ _ _ r38 hr) (by decide) ?_
    obtain rfl := Option.some.inj h
    refine E_sts 1 (41, [], [.int r38.1], SH0, [(100, r38.2), (600, (σ 600))], lg) rfl ?_
    exact E_ret rfl
  · refine E_itf hc ?_
    refine E_sts 3 (16, [(0, .ref 0), (1, .int v1), (2, .int v2), (3, .int v3)], [.int v2, .ref 2], SH0, [], lg) rfl ?_
    refine E_call rfl (e_X2_isBow X _ _ _ (X2_isBow (σ 201 0) v2) rfl) (by decide) ?_
    refine E_sts 1 (if (xb (X2_isBow (σ 201 0) v2)) = 0 then 36 else 22, [(0, .ref 0), (1, .int v1), (2, .int v2), (3, .int v3)], [], SH0, [], lg) rfl ?_
    rcases x_br h with ⟨hc, h⟩ | ⟨hc, h⟩
    · refine E_itt hc ?_
      refine E_sts 2 (38, [(0, .ref 0), (1, .int v1), (2, .int v2), (3, .int v3)], [.int 0, .ref 0], SH0, [], lg) rfl ?_
      obtain ⟨r38_1, hr, h⟩ := x_bind h
      refine E_call rfl (e_X5_finding X _ _ _ r38_1 hr) (by decide) ?_
      obtain rfl := Option.some.inj h
      refine E_sts 1 (41, [], [.int r38_1.1], SH0, [(100, r38_1.2), (600, (σ 600))], lg) rfl ?_
      exact E_ret rfl
    · refine E_itf hc ?_
      refine E_sts 3 (if v1 = v2 then 36 else 27, [(0, .ref 0), (1, .int v1), (2, .int v2), (3, .int v3)], [], SH0, [], lg) rfl ?_
      rcases x_br h with ⟨hc, h⟩ | ⟨hc, h⟩
      · refine E_itt hc ?_
        refine E_sts 2 (38, [(0, .ref 0), (1, .int v1), (2, .int v2), (3, .int v3)], [.int 0, .ref 0], SH0, [], lg) rfl ?_
        obtain ⟨r38_2, hr, h⟩ := x_bind h
        refine E_call rfl (e_X5_finding X _ _ _ r38_2 hr) (by decide) ?_
        obtain rfl := Option.some.inj h
        refine E_sts 1 (41, [], [.int r38_2.1], SH0, [(100, r38_2.2), (600, (σ 600))], lg) rfl ?_
        exact E_ret rfl
      · refine E_itf hc ?_
        refine E_sts 3 (30, [(0, .ref 0), (1, .int v1), (2, .int v2), (3, .int v3)], [.int 1, .int 0, .int v3], SH0, [], lg) rfl ?_
        refine E_call rfl (e_X5_isIn X _ _ _ _ _ (X5_isIn v3 0 1) rfl) (by decide) ?_
        refine E_sts 1 (if (xb (X5_isIn v3 0 1)) = 0 then 36 else 42, [(0, .ref 0), (1, .int v1), (2, .int v2), (3, .int v3)], [], SH0, [], lg) rfl ?_
        rcases x_br h with ⟨hc, h⟩ | ⟨hc, h⟩
        · refine E_itt hc ?_
          refine E_sts 2 (38, [(0, .ref 0), (1, .int v1), (2, .int v2), (3, .int v3)], [.int 0, .ref 0], SH0, [], lg) rfl ?_
          obtain ⟨r38_3, hr, h⟩ := x_bind h
          refine E_call rfl (e_X5_finding X _ _ _ r38_3 hr) (by decide) ?_
          obtain rfl := Option.some.inj h
          refine E_sts 1 (41, [], [.int r38_3.1], SH0, [(100, r38_3.2), (600, (σ 600))], lg) rfl ?_
          exact E_ret rfl
        · refine E_itf hc ?_
          refine E_sts 4 (50, [(0, .ref 0), (1, .int v1), (2, .int v2), (3, .int v3)], [.int v2, .ref 6], SH0, [], lg) rfl ?_
          obtain ⟨hp, h⟩ := x_ite h
          refine E_par (p := inr v2 9) (51, [(0, .ref 0), (1, .int v1), (2, .int v2), (3, .int v3)], [.int ((σ 600) v2.toNatClampNeg)], SH0, [], lg) rfl hp ?_
          refine E_sts 4 (if v3 = 1 then 58 else 67, [(0, .ref 0), (1, .int v1), (2, .int v2), (3, .int v3), (4, .int ((σ 600) v2.toNatClampNeg))], [], SH0, [], lg) rfl ?_
          rcases x_br h with ⟨hc, h⟩ | ⟨hc, h⟩
          · refine E_itt hc ?_
            refine E_sts 7 (75, [(0, .ref 0), (2, .int v2), (4, .int ((σ 600) v2.toNatClampNeg))], [.int (((σ 600) v2.toNatClampNeg) ||| (xshl 1 v1))], SH0, [], lg) rfl ?_
            exact e_X5_contract_L75 X σ lg v2 ((σ 600) v2.toNatClampNeg) (((σ 600) v2.toNatClampNeg) ||| (xshl 1 v1)) r h
          · refine E_itf hc ?_
            refine E_sts 8 (75, [(0, .ref 0), (2, .int v2), (4, .int ((σ 600) v2.toNatClampNeg))], [.int (((σ 600) v2.toNatClampNeg) &&& ((xshl 1 v1) ^^^ (-1)))], SH0, [], lg) rfl ?_
            exact e_X5_contract_L75 X σ lg v2 ((σ 600) v2.toNatClampNeg) (((σ 600) v2.toNatClampNeg) &&& ((xshl 1 v1) ^^^ (-1))) r h
set_option maxHeartbeats 4000000 in
set_option maxRecDepth 20000 in
theorem e_X6_contract_L69 (X : xX) (σ : xM) (lg : Int64) : ∀ (v2 : Int32) (v4 : Int32) (t1 : Int32) (t2 : Int32) (t3 : Int32) (r : Int32 × (Nat → Int32) × (Nat → Int32)), X6_contract_L69 (σ 5300) (σ 5600) v2 v4 t1 t2 t3 = some r → E XP X 2 xm_147 σ (69, [(0, .ref 52), (2, .int v2), (4, .int v4)], [.int t3, .int t2, .int t1, .ref 52], SH0, [], lg) (some (.int r.1), SH0, [(5300, r.2.1), (5600, r.2.2)], lg) := by
  intro v2 v4 t1 t2 t3 r h
  unfold X6_contract_L69 at h
  obtain ⟨r69, hr, h⟩ := x_bind h
  refine E_call rfl (e_X6_puts X _ _ _ _ _ r69 hr) (by decide) ?_
  refine E_sts 4 (77, [(0, .ref 52), (2, .int v2), (4, .int v4)], [.int 3, .int v2, .ref 52, .int v4], SH0, [(5300, r69)], lg) rfl ?_
  obtain ⟨r77, hr, h⟩ := x_bind h
  refine E_call rfl (e_X6_get X _ _ _ _ r77 hr) (by decide) ?_
  refine E_sts 1 (if v4 = r77 then 83 else 87, [(0, .ref 52), (2, .int v2), (4, .int v4)], [], SH0, [(5300, r69)], lg) rfl ?_
  rcases x_br h with ⟨hc, h⟩ | ⟨hc, h⟩
  · refine E_itt hc ?_
    obtain rfl := Option.some.inj h
    refine E_sts 3 (88, [], [.int 0], SH0, [(5300, r69), (5600, (σ 5600))], lg) rfl ?_
    exact E_ret rfl
  · refine E_itf hc ?_
    obtain rfl := Option.some.inj h
    refine E_sts 2 (88, [], [.int 1], SH0, [(5300, r69), (5600, (σ 5600))], lg) rfl ?_
    exact E_ret rfl
set_option maxHeartbeats 4000000 in
set_option maxRecDepth 20000 in
theorem e_X6_contract (X : xX) (σ : xM) (lg : Int64) (v1 : Int32) (v2 : Int32) (v3 : Int32) (r : Int32 × (Nat → Int32) × (Nat → Int32)) (h : X6_contract (σ 5300) (σ 5600) v1 v2 v3 = some r) : EM XP X 3 147 [.ref 52, .int v1, .int v2, .int v3] SH0 lg σ (some (.int r.1), SH0, [(5300, r.2.1), (5600, r.2.2)], lg) := by
  refine EM_of (M := xm_147) rfl rfl ?_
  unfold X6_contract at h
  refine E_sts 2 (2, [(0, .ref 52), (1, .int v1), (2, .int v2), (3, .int v3)], [.int v1, .ref 52], SH0, [], lg) rfl ?_
  obtain ⟨r2, hr, h⟩ := x_bind h
  refine E_call rfl (e_X6_isBow X _ _ _ r2 hr) (by decide) ?_
  refine E_sts 1 (if (xb r2) = 0 then 30 else 8, [(0, .ref 52), (1, .int v1), (2, .int v2), (3, .int v3)], [], SH0, [], lg) rfl ?_
  rcases x_br h with ⟨hc, h⟩ | ⟨hc, h⟩
  · refine E_itt hc ?_
    refine E_sts 2 (32, [(0, .ref 52), (1, .int v1), (2, .int v2), (3, .int v3)], [.int 0, .ref 52], SH0, [], lg) rfl ?_
    obtain ⟨r32, hr, h⟩ := x_bind h
    refine E_call rfl (e_X6_no X _ _ _ r32 hr) (by decide) ?_
    obtain rfl := Option.some.inj h
    refine E_sts 1 (35, [], [.int r32.1], SH0, [(5300, (σ 5300)), (5600, r32.2)], lg) rfl ?_
    exact E_ret rfl
  · refine E_itf hc ?_
    refine E_sts 2 (10, [(0, .ref 52), (1, .int v1), (2, .int v2), (3, .int v3)], [.int v2, .ref 52], SH0, [], lg) rfl ?_
    obtain ⟨r10, hr, h⟩ := x_bind h
    refine E_call rfl (e_X6_isBow X _ _ _ r10 hr) (by decide) ?_
    refine E_sts 1 (if (xb r10) = 0 then 30 else 16, [(0, .ref 52), (1, .int v1), (2, .int v2), (3, .int v3)], [], SH0, [], lg) rfl ?_
    rcases x_br h with ⟨hc, h⟩ | ⟨hc, h⟩
    · refine E_itt hc ?_
      refine E_sts 2 (32, [(0, .ref 52), (1, .int v1), (2, .int v2), (3, .int v3)], [.int 0, .ref 52], SH0, [], lg) rfl ?_
      obtain ⟨r32_1, hr, h⟩ := x_bind h
      refine E_call rfl (e_X6_no X _ _ _ r32_1 hr) (by decide) ?_
      obtain rfl := Option.some.inj h
      refine E_sts 1 (35, [], [.int r32_1.1], SH0, [(5300, (σ 5300)), (5600, r32_1.2)], lg) rfl ?_
      exact E_ret rfl
    · refine E_itf hc ?_
      refine E_sts 3 (if v1 = v2 then 30 else 21, [(0, .ref 52), (1, .int v1), (2, .int v2), (3, .int v3)], [], SH0, [], lg) rfl ?_
      rcases x_br h with ⟨hc, h⟩ | ⟨hc, h⟩
      · refine E_itt hc ?_
        refine E_sts 2 (32, [(0, .ref 52), (1, .int v1), (2, .int v2), (3, .int v3)], [.int 0, .ref 52], SH0, [], lg) rfl ?_
        obtain ⟨r32_2, hr, h⟩ := x_bind h
        refine E_call rfl (e_X6_no X _ _ _ r32_2 hr) (by decide) ?_
        obtain rfl := Option.some.inj h
        refine E_sts 1 (35, [], [.int r32_2.1], SH0, [(5300, (σ 5300)), (5600, r32_2.2)], lg) rfl ?_
        exact E_ret rfl
      · refine E_itf hc ?_
        refine E_sts 3 (24, [(0, .ref 52), (1, .int v1), (2, .int v2), (3, .int v3)], [.int 1, .int 0, .int v3], SH0, [], lg) rfl ?_
        refine E_call rfl (e_X6_in1 X _ _ _ _ _ (X6_in1 v3 0 1) rfl) (by decide) ?_
        refine E_sts 1 (if (xb (X6_in1 v3 0 1)) = 0 then 30 else 36, [(0, .ref 52), (1, .int v1), (2, .int v2), (3, .int v3)], [], SH0, [], lg) rfl ?_
        rcases x_br h with ⟨hc, h⟩ | ⟨hc, h⟩
        · refine E_itt hc ?_
          refine E_sts 2 (32, [(0, .ref 52), (1, .int v1), (2, .int v2), (3, .int v3)], [.int 0, .ref 52], SH0, [], lg) rfl ?_
          obtain ⟨r32_3, hr, h⟩ := x_bind h
          refine E_call rfl (e_X6_no X _ _ _ r32_3 hr) (by decide) ?_
          obtain rfl := Option.some.inj h
          refine E_sts 1 (35, [], [.int r32_3.1], SH0, [(5300, (σ 5300)), (5600, r32_3.2)], lg) rfl ?_
          exact E_ret rfl
        · refine E_itf hc ?_
          refine E_sts 3 (39, [(0, .ref 52), (1, .int v1), (2, .int v2), (3, .int v3)], [.int 3, .int v2, .ref 52], SH0, [], lg) rfl ?_
          obtain ⟨r39, hr, h⟩ := x_bind h
          refine E_call rfl (e_X6_get X _ _ _ _ r39 hr) (by decide) ?_
          refine E_sts 7 (if v3 = 1 then 52 else 61, [(0, .ref 52), (1, .int v1), (2, .int v2), (3, .int v3), (4, .int r39)], [.int 3, .int v2, .ref 52], SH0, [], lg) rfl ?_
          rcases x_br h with ⟨hc, h⟩ | ⟨hc, h⟩
          · refine E_itt hc ?_
            refine E_sts 7 (69, [(0, .ref 52), (2, .int v2), (4, .int r39)], [.int (r39 ||| (xshl 1 v1)), .int 3, .int v2, .ref 52], SH0, [], lg) rfl ?_
            exact e_X6_contract_L69 X σ lg v2 r39 v2 3 (r39 ||| (xshl 1 v1)) r h
          · refine E_itf hc ?_
            refine E_sts 8 (69, [(0, .ref 52), (2, .int v2), (4, .int r39)], [.int (r39 &&& ((xshl 1 v1) ^^^ (-1))), .int 3, .int v2, .ref 52], SH0, [], lg) rfl ?_
            exact e_X6_contract_L69 X σ lg v2 r39 v2 3 (r39 &&& ((xshl 1 v1) ^^^ (-1))) r h
set_option maxHeartbeats 4000000 in
set_option maxRecDepth 20000 in
theorem e_X5_put_sc_rules (X : xX) (σ : xM) (lg : Int64) (v1 : Int32) (v2 : Int32) (r : Int32 × (Nat → Int32)) (h : X5_put_sc_rules (σ 700) v1 v2 = some r) : EM XP X 1 117 [.ref 7, .int v1, .int v2] SH0 lg σ (some (.int r.1), SH0, [(700, r.2)], lg) := by
  refine EM_of (M := xm_117) rfl rfl ?_
  unfold X5_put_sc_rules at h
  refine E_sts 2 (2, [(0, .ref 7), (1, .int v1), (2, .int v2)], [.int v1, .ref 7], SH0, [], lg) rfl ?_
  obtain ⟨hp, h⟩ := x_ite h
  refine E_par (p := inr v1 5) (3, [(0, .ref 7), (1, .int v1), (2, .int v2)], [.int ((σ 700) v1.toNatClampNeg)], SH0, [], lg) rfl hp ?_
  refine E_sts 4 (7, [(0, .ref 7), (1, .int v1), (2, .int v2), (3, .int ((σ 700) v1.toNatClampNeg))], [.int v2, .int v1, .ref 7], SH0, [], lg) rfl ?_
  obtain ⟨hp, h⟩ := x_ite h
  refine E_par (p := inr v1 5) (8, [(0, .ref 7), (1, .int v1), (2, .int v2), (3, .int ((σ 700) v1.toNatClampNeg))], [], SH0, [(700, (upd (σ 700) v1.toNatClampNeg v2))], lg) rfl hp ?_
  obtain rfl := Option.some.inj h
  refine E_sts 1 (9, [(0, .ref 7), (1, .int v1), (2, .int v2), (3, .int ((σ 700) v1.toNatClampNeg))], [.int ((σ 700) v1.toNatClampNeg)], SH0, [(700, (upd (σ 700) v1.toNatClampNeg v2))], lg) rfl ?_
  exact E_ret rfl
