/-! what the machine answers is what the functions say (by gen/emit.py) -/
set_option maxHeartbeats 4000000 in
set_option maxRecDepth 20000 in
theorem e_X5_isIn (X : xX) (σ : xM) (lg : Int64) (v0 : Int32) (v1 : Int32) (v2 : Int32) (r : Bool) (h : X5_isIn v0 v1 v2 = r) : EM XP X 1 116 [.int v0, .int v1, .int v2] SH0 lg σ (some (.int (xb r)), SH0, [], lg) := by
  refine EM_of (M := xm_116) rfl rfl ?_
  unfold X5_isIn at h
  refine E_sts 3 (if v0 < v1 then 14 else 5, [(0, .int v0), (1, .int v1), (2, .int v2)], [], SH0, [], lg) rfl ?_
  rcases x_br h with ⟨hc, h⟩ | ⟨hc, h⟩
  · refine E_itt hc ?_
    subst h
    refine E_sts 1 (15, [(0, .int v0), (1, .int v1), (2, .int v2)], [.int 0], SH0, [], lg) rfl ?_
    exact E_retp (p := (0 : Int32) = 0 ∨ (0 : Int32) = 1) rfl (by decide)
  · refine E_itf hc ?_
    refine E_sts 3 (if v2 < v0 then 14 else 10, [(0, .int v0), (1, .int v1), (2, .int v2)], [], SH0, [], lg) rfl ?_
    rcases x_br h with ⟨hc, h⟩ | ⟨hc, h⟩
    · refine E_itt hc ?_
      subst h
      refine E_sts 1 (15, [(0, .int v0), (1, .int v1), (2, .int v2)], [.int 0], SH0, [], lg) rfl ?_
      exact E_retp (p := (0 : Int32) = 0 ∨ (0 : Int32) = 1) rfl (by decide)
    · refine E_itf hc ?_
      subst h
      refine E_sts 2 (15, [(0, .int v0), (1, .int v1), (2, .int v2)], [.int 1], SH0, [], lg) rfl ?_
      exact E_retp (p := (1 : Int32) = 0 ∨ (1 : Int32) = 1) rfl (by decide)
set_option maxHeartbeats 4000000 in
set_option maxRecDepth 20000 in
theorem e_X5_finding (X : xX) (σ : xM) (lg : Int64) (v1 : Int32) (r : Int32 × (Nat → Int32)) (h : X5_finding (σ 100) v1 = some r) : EM XP X 1 115 [.ref 0, .int v1] SH0 lg σ (some (.int r.1), SH0, [(100, r.2)], lg) := by
  refine EM_of (M := xm_115) rfl rfl ?_
  unfold X5_finding at h
  refine E_sts 4 (6, [(0, .ref 0), (1, .int v1)], [.int v1, .ref 1, .int v1, .ref 1], SH0, [], lg) rfl ?_
  obtain ⟨hp, h⟩ := x_ite h
  refine E_par (p := inr v1 7) (7, [(0, .ref 0), (1, .int v1)], [.int ((σ 100) v1.toNatClampNeg), .int v1, .ref 1], SH0, [], lg) rfl hp ?_
  refine E_sts 2 (9, [(0, .ref 0), (1, .int v1)], [.int (((σ 100) v1.toNatClampNeg) + 1), .int v1, .ref 1], SH0, [], lg) rfl ?_
  obtain ⟨hp, h⟩ := x_ite h
  refine E_par (p := inr v1 7) (10, [(0, .ref 0), (1, .int v1)], [], SH0, [(100, (upd (σ 100) v1.toNatClampNeg (((σ 100) v1.toNatClampNeg) + 1)))], lg) rfl hp ?_
  obtain rfl := Option.some.inj h
  refine E_sts 3 (15, [(0, .ref 0), (1, .int v1)], [.int ((-1000001) - v1)], SH0, [(100, (upd (σ 100) v1.toNatClampNeg (((σ 100) v1.toNatClampNeg) + 1)))], lg) rfl ?_
  exact E_ret rfl
set_option maxHeartbeats 4000000 in
set_option maxRecDepth 20000 in
theorem e_X2_addBow_sc (X : xX) (σ : xM) (lg : Int64) (v1 : Int32) (r : Int32 × Int32 × (Nat → Int32) × (Nat → Int32) × (Nat → Int32) × (Nat → Int32)) (h : X2_addBow_sc (σ 201 0) (σ 300) (σ 400) (σ 500) (σ 600) v1 = some r) : EM XP X 1 27 [.ref 2, .int v1] SH0 lg σ (some (.int r.1), SH0, [(201, fun _ => r.2.1), (300, r.2.2.1), (400, r.2.2.2.1), (500, r.2.2.2.2.1), (600, r.2.2.2.2.2)], lg) := by
  refine EM_of (M := xm_27) rfl rfl ?_
  unfold X2_addBow_sc at h
  refine E_sts 7 (11, [(0, .ref 2), (1, .int v1), (2, .int (σ 201 0))], [.int v1, .int (σ 201 0), .ref 3], SH0, [], lg) rfl ?_
  obtain ⟨hp, h⟩ := x_ite h
  refine E_par (p := inr (σ 201 0) 9) (12, [(0, .ref 2), (1, .int v1), (2, .int (σ 201 0))], [], SH0, [(300, (upd (σ 300) (σ 201 0).toNatClampNeg v1))], lg) rfl hp ?_
  refine E_sts 4 (19, [(0, .ref 2), (1, .int v1), (2, .int (σ 201 0))], [.int 10, .int (σ 201 0), .ref 4], SH0, [(300, (upd (σ 300) (σ 201 0).toNatClampNeg v1))], lg) rfl ?_
  obtain ⟨hp, h⟩ := x_ite h
  refine E_par (p := inr (σ 201 0) 9) (20, [(0, .ref 2), (1, .int v1), (2, .int (σ 201 0))], [], SH0, [(300, (upd (σ 300) (σ 201 0).toNatClampNeg v1)), (400, (upd (σ 400) (σ 201 0).toNatClampNeg 10))], lg) rfl hp ?_
  refine E_sts 4 (26, [(0, .ref 2), (1, .int v1), (2, .int (σ 201 0))], [.int 5, .int (σ 201 0), .ref 5], SH0, [(300, (upd (σ 300) (σ 201 0).toNatClampNeg v1)), (400, (upd (σ 400) (σ 201 0).toNatClampNeg 10))], lg) rfl ?_
  obtain ⟨hp, h⟩ := x_ite h
  refine E_par (p := inr (σ 201 0) 9) (27, [(0, .ref 2), (1, .int v1), (2, .int (σ 201 0))], [], SH0, [(300, (upd (σ 300) (σ 201 0).toNatClampNeg v1)), (400, (upd (σ 400) (σ 201 0).toNatClampNeg 10)), (500, (upd (σ 500) (σ 201 0).toNatClampNeg 5))], lg) rfl hp ?_
  refine E_sts 4 (33, [(0, .ref 2), (1, .int v1), (2, .int (σ 201 0))], [.int 0, .int (σ 201 0), .ref 6], SH0, [(300, (upd (σ 300) (σ 201 0).toNatClampNeg v1)), (400, (upd (σ 400) (σ 201 0).toNatClampNeg 10)), (500, (upd (σ 500) (σ 201 0).toNatClampNeg 5))], lg) rfl ?_
  obtain ⟨hp, h⟩ := x_ite h
  refine E_par (p := inr (σ 201 0) 9) (34, [(0, .ref 2), (1, .int v1), (2, .int (σ 201 0))], [], SH0, [(300, (upd (σ 300) (σ 201 0).toNatClampNeg v1)), (400, (upd (σ 400) (σ 201 0).toNatClampNeg 10)), (500, (upd (σ 500) (σ 201 0).toNatClampNeg 5)), (600, (upd (σ 600) (σ 201 0).toNatClampNeg 0))], lg) rfl hp ?_
  obtain rfl := Option.some.inj h
  refine E_sts 7 (45, [(0, .ref 2), (1, .int v1), (2, .int (σ 201 0))], [.int (σ 201 0)], SH0, [(201, fun _ => ((σ 201 0) + 1)), (300, (upd (σ 300) (σ 201 0).toNatClampNeg v1)), (400, (upd (σ 400) (σ 201 0).toNatClampNeg 10)), (500, (upd (σ 500) (σ 201 0).toNatClampNeg 5)), (600, (upd (σ 600) (σ 201 0).toNatClampNeg 0))], lg) rfl ?_
  exact E_ret rfl
set_option maxHeartbeats 4000000 in
set_option maxRecDepth 20000 in
theorem e_X5_bow (X : xX) (σ : xM) (lg : Int64) (v1 : Int32) (r : Int32 × (Nat → Int32) × Int32 × (Nat → Int32) × (Nat → Int32) × (Nat → Int32) × (Nat → Int32)) (h : X5_bow (σ 100) (σ 201 0) (σ 300) (σ 400) (σ 500) (σ 600) v1 = some r) : EM XP X 2 68 [.ref 0, .int v1] SH0 lg σ (some (.int r.1), SH0, [(100, r.2.1), (201, fun _ => r.2.2.1), (300, r.2.2.2.1), (400, r.2.2.2.2.1), (500, r.2.2.2.2.2.1), (600, r.2.2.2.2.2.2)], lg) := by
  refine EM_of (M := xm_68) rfl rfl ?_
  unfold X5_bow at h
  refine E_sts 3 (4, [(0, .ref 0), (1, .int v1)], [.int 6, .int 0, .int v1], SH0, [], lg) rfl ?_
  refine E_call rfl (e_X5_isIn X _ _ _ _ _ (X5_isIn v1 0 6) rfl) (by decide) ?_
  refine E_sts 1 (if (xb (X5_isIn v1 0 6)) = 0 then 10 else 16, [(0, .ref 0), (1, .int v1)], [], SH0, [], lg) rfl ?_
  rcases x_br h with ⟨hc, h⟩ | ⟨hc, h⟩
  · refine E_itt hc ?_
    refine E_sts 2 (12, [(0, .ref 0), (1, .int v1)], [.int 0, .ref 0], SH0, [], lg) rfl ?_
    obtain ⟨r12, hr, h⟩ := x_bind h
    refine E_call rfl (e_X5_finding X _ _ _ r12 hr) (by decide) ?_
    obtain rfl := Option.some.inj h
    refine E_sts 1 (15, [], [.int r12.1], SH0, [(100, r12.2), (201, fun _ => (σ 201 0)), (300, (σ 300)), (400, (σ 400)), (500, (σ 500)), (600, (σ 600))], lg) rfl ?_
    exact E_ret rfl
  · refine E_itf hc ?_
    refine E_sts 5 (if (σ 201 0) < 9 then 34 else 28, [(0, .ref 0), (1, .int v1)], [], SH0, [], lg) rfl ?_
    rcases x_br h with ⟨hc, h⟩ | ⟨hc, h⟩
    · refine E_itt hc ?_
      refine E_sts 3 (39, [(0, .ref 0), (1, .int v1)], [.int v1, .ref 2], SH0, [], lg) rfl ?_
      obtain ⟨r39, hr, h⟩ := x_bind h
      refine E_call rfl (e_X2_addBow_sc X _ _ _ r39 hr) (by decide) ?_
      obtain rfl := Option.some.inj h
      refine E_sts 1 (42, [], [.int r39.1], SH0, [(100, (σ 100)), (201, fun _ => r39.2.1), (300, r39.2.2.1), (400, r39.2.2.2.1), (500, r39.2.2.2.2.1), (600, r39.2.2.2.2.2)], lg) rfl ?_
      exact E_ret rfl
    · refine E_itf hc ?_
      refine E_sts 2 (30, [(0, .ref 0), (1, .int v1)], [.int 1, .ref 0], SH0, [], lg) rfl ?_
      obtain ⟨r30, hr, h⟩ := x_bind h
      refine E_call rfl (e_X5_finding X _ _ _ r30 hr) (by decide) ?_
      obtain rfl := Option.some.inj h
      refine E_sts 1 (33, [], [.int r30.1], SH0, [(100, r30.2), (201, fun _ => (σ 201 0)), (300, (σ 300)), (400, (σ 400)), (500, (σ 500)), (600, (σ 600))], lg) rfl ?_
      exact E_ret rfl
set_option maxHeartbeats 4000000 in
set_option maxRecDepth 20000 in
theorem e_X6_in1 (X : xX) (σ : xM) (lg : Int64) (v0 : Int32) (v1 : Int32) (v2 : Int32) (r : Bool) (h : X6_in1 v0 v1 v2 = r) : EM XP X 1 124 [.int v0, .int v1, .int v2] SH0 lg σ (some (.int (xb r)), SH0, [], lg) := by
  refine EM_of (M := xm_124) rfl rfl ?_
  unfold X6_in1 at h
  refine E_sts 3 (if v0 < v1 then 14 else 5, [(0, .int v0), (1, .int v1), (2, .int v2)], [], SH0, [], lg) rfl ?_
  rcases x_br h with ⟨hc, h⟩ | ⟨hc, h⟩
  · refine E_itt hc ?_
    subst h
    refine E_sts 1 (15, [(0, .int v0), (1, .int v1), (2, .int v2)], [.int 0], SH0, [], lg) rfl ?_
    exact E_retp (p := (0 : Int32) = 0 ∨ (0 : Int32) = 1) rfl (by decide)
  · refine E_itf hc ?_
    refine E_sts 3 (if v2 < v0 then 14 else 10, [(0, .int v0), (1, .int v1), (2, .int v2)], [], SH0, [], lg) rfl ?_
    rcases x_br h with ⟨hc, h⟩ | ⟨hc, h⟩
    · refine E_itt hc ?_
      subst h
      refine E_sts 1 (15, [(0, .int v0), (1, .int v1), (2, .int v2)], [.int 0], SH0, [], lg) rfl ?_
      exact E_retp (p := (0 : Int32) = 0 ∨ (0 : Int32) = 1) rfl (by decide)
    · refine E_itf hc ?_
      subst h
      refine E_sts 2 (15, [(0, .int v0), (1, .int v1), (2, .int v2)], [.int 1], SH0, [], lg) rfl ?_
      exact E_retp (p := (1 : Int32) = 0 ∨ (1 : Int32) = 1) rfl (by decide)
set_option maxHeartbeats 4000000 in
set_option maxRecDepth 20000 in
theorem e_X6_no (X : xX) (σ : xM) (lg : Int64) (v1 : Int32) (r : Int32 × (Nat → Int32)) (h : X6_no (σ 5600) v1 = some r) : EM XP X 1 123 [.ref 52, .int v1] SH0 lg σ (some (.int r.1), SH0, [(5600, r.2)], lg) := by
  refine EM_of (M := xm_123) rfl rfl ?_
  unfold X6_no at h
  refine E_sts 4 (6, [(0, .ref 52), (1, .int v1)], [.int v1, .ref 56, .int v1, .ref 56], SH0, [], lg) rfl ?_
  obtain ⟨hp, h⟩ := x_ite h
  refine E_par (p := inr v1 7) (7, [(0, .ref 52), (1, .int v1)], [.int ((σ 5600) v1.toNatClampNeg), .int v1, .ref 56], SH0, [], lg) rfl hp ?_
  refine E_sts 2 (9, [(0, .ref 52), (1, .int v1)], [.int (((σ 5600) v1.toNatClampNeg) + 1), .int v1, .ref 56], SH0, [], lg) rfl ?_
  obtain ⟨hp, h⟩ := x_ite h
  refine E_par (p := inr v1 7) (10, [(0, .ref 52), (1, .int v1)], [], SH0, [(5600, (upd (σ 5600) v1.toNatClampNeg (((σ 5600) v1.toNatClampNeg) + 1)))], lg) rfl hp ?_
  obtain rfl := Option.some.inj h
  refine E_sts 3 (14, [(0, .ref 52), (1, .int v1)], [.int ((-1000001) - v1)], SH0, [(5600, (upd (σ 5600) v1.toNatClampNeg (((σ 5600) v1.toNatClampNeg) + 1)))], lg) rfl ?_
  exact E_ret rfl
set_option maxHeartbeats 4000000 in
set_option maxRecDepth 20000 in
theorem e_X6_puts (X : xX) (σ : xM) (lg : Int64) (v1 : Int32) (v2 : Int32) (v3 : Int32) (r : (Nat → Int32)) (h : X6_puts (σ 5300) v1 v2 v3 = some r) : EM XP X 1 130 [.ref 52, .int v1, .int v2, .int v3] SH0 lg σ (none, SH0, [(5300, r)], lg) := by
  refine EM_of (M := xm_130) rfl rfl ?_
  unfold X6_puts at h
  refine E_sts 10 (13, [(0, .ref 52), (1, .int v1), (2, .int v2), (3, .int v3)], [.int v3, .int ((10 + (4 * v1)) + v2), .ref 53], SH0, [], lg) rfl ?_
  obtain ⟨hp, h⟩ := x_ite h
  refine E_par (p := inr ((10 + (4 * v1)) + v2) 83) (14, [(0, .ref 52), (1, .int v1), (2, .int v2), (3, .int v3)], [], SH0, [(5300, (upd (σ 5300) ((10 + (4 * v1)) + v2).toNatClampNeg v3))], lg) rfl hp ?_
  obtain rfl := Option.some.inj h
  exact E_ret rfl
set_option maxHeartbeats 4000000 in
set_option maxRecDepth 20000 in
theorem e_X6_addsBow (X : xX) (σ : xM) (lg : Int64) (v1 : Int32) (r : (Nat → Int32)) (h : X6_addsBow (σ 5300) v1 = some r) : EM XP X 2 143 [.ref 52, .int v1] SH0 lg σ (none, SH0, [(5300, r)], lg) := by
  refine EM_of (M := xm_143) rfl rfl ?_
  unfold X6_addsBow at h
  refine E_sts 3 (5, [(0, .ref 52), (1, .int v1)], [.int 3, .ref 53], SH0, [], lg) rfl ?_
  refine E_par (p := inr 3 83) (6, [(0, .ref 52), (1, .int v1)], [.int ((σ 5300) 3)], SH0, [], lg) rfl (by decide) ?_
  refine E_sts 5 (11, [(0, .ref 52), (1, .int v1), (2, .int ((σ 5300) 3))], [.int v1, .int 0, .int ((σ 5300) 3), .ref 52], SH0, [], lg) rfl ?_
  obtain ⟨r11, hr, h⟩ := x_bind h
  refine E_call rfl (e_X6_puts X _ _ _ _ _ r11 hr) (by decide) ?_
  refine E_sts 4 (19, [(0, .ref 52), (1, .int v1), (2, .int ((σ 5300) 3))], [.int 10, .int 1, .int ((σ 5300) 3), .ref 52], SH0, [(5300, r11)], lg) rfl ?_
  obtain ⟨r19, hr, h⟩ := x_bind h
  refine E_call rfl (e_X6_puts X _ _ _ _ _ r19 hr) (by decide) ?_
  refine E_sts 4 (26, [(0, .ref 52), (1, .int v1), (2, .int ((σ 5300) 3))], [.int 5, .int 2, .int ((σ 5300) 3), .ref 52], SH0, [(5300, r19)], lg) rfl ?_
  obtain ⟨r26, hr, h⟩ := x_bind h
  refine E_call rfl (e_X6_puts X _ _ _ _ _ r26 hr) (by decide) ?_
  refine E_sts 4 (33, [(0, .ref 52), (1, .int v1), (2, .int ((σ 5300) 3))], [.int 0, .int 3, .int ((σ 5300) 3), .ref 52], SH0, [(5300, r26)], lg) rfl ?_
  obtain ⟨r33, hr, h⟩ := x_bind h
  refine E_call rfl (e_X6_puts X _ _ _ _ _ r33 hr) (by decide) ?_
  refine E_sts 4 (42, [(0, .ref 52), (1, .int v1), (2, .int ((σ 5300) 3))], [.int 3, .ref 53, .int 3, .ref 53], SH0, [(5300, r33)], lg) rfl ?_
  refine E_par (p := inr 3 83) (43, [(0, .ref 52), (1, .int v1), (2, .int ((σ 5300) 3))], [.int (r33 3), .int 3, .ref 53], SH0, [(5300, r33)], lg) rfl (by decide) ?_
  refine E_sts 2 (45, [(0, .ref 52), (1, .int v1), (2, .int ((σ 5300) 3))], [.int ((r33 3) + 1), .int 3, .ref 53], SH0, [(5300, r33)], lg) rfl ?_
  refine E_par (p := inr 3 83) (46, [(0, .ref 52), (1, .int v1), (2, .int ((σ 5300) 3))], [], SH0, [(5300, (upd r33 3 ((r33 3) + 1)))], lg) rfl (by decide) ?_
  obtain rfl := Option.some.inj h
  exact E_ret rfl
set_option maxHeartbeats 4000000 in
set_option maxRecDepth 20000 in
theorem e_X6_bow (X : xX) (σ : xM) (lg : Int64) (v1 : Int32) (r : Int32 × (Nat → Int32) × (Nat → Int32)) (h : X6_bow (σ 5300) (σ 5600) v1 = some r) : EM XP X 3 144 [.ref 52, .int v1] SH0 lg σ (some (.int r.1), SH0, [(5300, r.2.1), (5600, r.2.2)], lg) := by
  refine EM_of (M := xm_144) rfl rfl ?_
  unfold X6_bow at h
  refine E_sts 3 (4, [(0, .ref 52), (1, .int v1)], [.int 6, .int 0, .int v1], SH0, [], lg) rfl ?_
  refine E_call rfl (e_X6_in1 X _ _ _ _ _ (X6_in1 v1 0 6) rfl) (by decide) ?_
  refine E_sts 1 (if (xb (X6_in1 v1 0 6)) = 0 then 10 else 16, [(0, .ref 52), (1, .int v1)], [], SH0, [], lg) rfl ?_
  rcases x_br h with ⟨hc, h⟩ | ⟨hc, h⟩
  · refine E_itt hc ?_
    refine E_sts 2 (12, [(0, .ref 52), (1, .int v1)], [.int 0, .ref 52], SH0, [], lg) rfl ?_
    obtain ⟨r12, hr, h⟩ := x_bind h
    refine E_call rfl (e_X6_no X _ _ _ r12 hr) (by decide) ?_
    obtain rfl := Option.some.inj h
    refine E_sts 1 (15, [], [.int r12.1], SH0, [(5300, (σ 5300)), (5600, r12.2)], lg) rfl ?_
    exact E_ret rfl
  · refine E_itf hc ?_
    refine E_sts 3 (21, [(0, .ref 52), (1, .int v1)], [.int 3, .ref 53], SH0, [], lg) rfl ?_
    refine E_par (p := inr 3 83) (22, [(0, .ref 52), (1, .int v1)], [.int ((σ 5300) 3)], SH0, [], lg) rfl (by decide) ?_
    refine E_sts 2 (if ((σ 5300) 3) = 9 then 27 else 33, [(0, .ref 52), (1, .int v1)], [], SH0, [], lg) rfl ?_
    rcases x_br h with ⟨hc, h⟩ | ⟨hc, h⟩
    · refine E_itt hc ?_
      refine E_sts 2 (29, [(0, .ref 52), (1, .int v1)], [.int 1, .ref 52], SH0, [], lg) rfl ?_
      obtain ⟨r29, hr, h⟩ := x_bind h
      refine E_call rfl (e_X6_no X _ _ _ r29 hr) (by decide) ?_
      obtain rfl := Option.some.inj h
      refine E_sts 1 (32, [], [.int r29.1], SH0, [(5300, (σ 5300)), (5600, r29.2)], lg) rfl ?_
      exact E_ret rfl
    · refine E_itf hc ?_
      refine E_sts 2 (35, [(0, .ref 52), (1, .int v1)], [.int v1, .ref 52], SH0, [], lg) rfl ?_
      obtain ⟨r35, hr, h⟩ := x_bind h
      refine E_call rfl (e_X6_addsBow X _ _ _ r35 hr) (by decide) ?_
      refine E_sts 3 (43, [(0, .ref 52), (1, .int v1)], [.int 3, .ref 53], SH0, [(5300, r35)], lg) rfl ?_
      refine E_par (p := inr 3 83) (44, [(0, .ref 52), (1, .int v1)], [.int (r35 3)], SH0, [(5300, r35)], lg) rfl (by decide) ?_
      obtain rfl := Option.some.inj h
      refine E_sts 3 (46, [], [.int ((r35 3) - 1)], SH0, [(5300, r35), (5600, (σ 5600))], lg) rfl ?_
      exact E_ret rfl
set_option maxHeartbeats 4000000 in
set_option maxRecDepth 20000 in
theorem e_X2_isBow (X : xX) (σ : xM) (lg : Int64) (v1 : Int32) (r : Bool) (h : X2_isBow (σ 201 0) v1 = r) : EM XP X 1 25 [.ref 2, .int v1] SH0 lg σ (some (.int (xb r)), SH0, [], lg) := by
  refine EM_of (M := xm_25) rfl rfl ?_
  unfold X2_isBow at h
  refine E_sts 2 (if v1 < 0 then 16 else 4, [(0, .ref 2), (1, .int v1)], [], SH0, [], lg) rfl ?_
  rcases x_br h with ⟨hc, h⟩ | ⟨hc, h⟩
  · refine E_itt hc ?_
    subst h
    refine E_sts 1 (17, [(0, .ref 2), (1, .int v1)], [.int 0], SH0, [], lg) rfl ?_
    exact E_retp (p := (0 : Int32) = 0 ∨ (0 : Int32) = 1) rfl (by decide)
  · refine E_itf hc ?_
    refine E_sts 4 (if (σ 201 0) ≤ v1 then 16 else 12, [(0, .ref 2), (1, .int v1)], [], SH0, [], lg) rfl ?_
    rcases x_br h with ⟨hc, h⟩ | ⟨hc, h⟩
    · refine E_itt hc ?_
      subst h
      refine E_sts 1 (17, [(0, .ref 2), (1, .int v1)], [.int 0], SH0, [], lg) rfl ?_
      exact E_retp (p := (0 : Int32) = 0 ∨ (0 : Int32) = 1) rfl (by decide)
    · refine E_itf hc ?_
      subst h
      refine E_sts 2 (17, [(0, .ref 2), (1, .int v1)], [.int 1], SH0, [], lg) rfl ?_
      exact E_retp (p := (1 : Int32) = 0 ∨ (1 : Int32) = 1) rfl (by decide)
set_option maxHeartbeats 4000000 in
set_option maxRecDepth 20000 in
theorem e_X0_leftBy (X : xX) (σ : xM) (lg : Int64) (v0 : Int32) (v1 : Int32) (r : Int32) (h : X0_leftBy v0 v1 = r) : EM XP X 1 2 [.int v0, .int v1] SH0 lg σ (some (.int r), SH0, [], lg) := by
  refine EM_of (M := xm_2) rfl rfl ?_
  unfold X0_leftBy at h
  refine E_sts 2 (if v0 = 1 then 40 else if v0 = 2 then 49 else if v0 = 3 then 49 else if v0 = 4 then 42 else if v0 = 5 then 40 else if v0 = 6 then 46 else 49, [(0, .int v0), (1, .int v1)], [], SH0, [], lg) rfl ?_
  rcases x_br h with ⟨hc, h⟩ | ⟨hc, h⟩
  · refine E_itt hc ?_
    subst h
    refine E_sts 1 (41, [(0, .int v0), (1, .int v1)], [.int 0], SH0, [], lg) rfl ?_
    exact E_ret rfl
  refine E_itf hc ?_
  rcases x_br h with ⟨hc, h⟩ | ⟨hc, h⟩
  · refine E_itt hc ?_
    subst h
    refine E_sts 1 (50, [(0, .int v0), (1, .int v1)], [.int v1], SH0, [], lg) rfl ?_
    exact E_ret rfl
  refine E_itf hc ?_
  rcases x_br h with ⟨hc, h⟩ | ⟨hc, h⟩
  · refine E_itt hc ?_
    subst h
    refine E_sts 1 (50, [(0, .int v0), (1, .int v1)], [.int v1], SH0, [], lg) rfl ?_
    exact E_ret rfl
  refine E_itf hc ?_
  rcases x_br h with ⟨hc, h⟩ | ⟨hc, h⟩
  · refine E_itt hc ?_
    subst h
    refine E_sts 3 (45, [(0, .int v0), (1, .int v1)], [.int (2 * v1)], SH0, [], lg) rfl ?_
    exact E_ret rfl
  refine E_itf hc ?_
  rcases x_br h with ⟨hc, h⟩ | ⟨hc, h⟩
  · refine E_itt hc ?_
    subst h
    refine E_sts 1 (41, [(0, .int v0), (1, .int v1)], [.int 0], SH0, [], lg) rfl ?_
    exact E_ret rfl
  refine E_itf hc ?_
  rcases x_br h with ⟨hc, h⟩ | ⟨hc, h⟩
  · refine E_itt hc ?_
    subst h
    refine E_sts 1 (48, [(0, .int v0), (1, .int v1)], [.int 50], SH0, [], lg) rfl ?_
    exact E_ret rfl
  refine E_itf hc ?_
  subst h
  refine E_sts 1 (50, [(0, .int v0), (1, .int v1)], [.int v1], SH0, [], lg) rfl ?_
  exact E_ret rfl
set_option maxHeartbeats 4000000 in
set_option maxRecDepth 20000 in
theorem e_X2_leftBy (X : xX) (σ : xM) (lg : Int64) (v1 : Int32) (r : Int32) (h : X2_leftBy (σ 300) (σ 400) v1 = some r) : EM XP X 2 29 [.ref 2, .int v1] SH0 lg σ (some (.int r), SH0, [], lg) := by
  refine EM_of (M := xm_29) rfl rfl ?_
  unfold X2_leftBy at h
  refine E_sts 3 (5, [(0, .ref 2), (1, .int v1)], [.int v1, .ref 3], SH0, [], lg) rfl ?_
  obtain ⟨hp, h⟩ := x_ite h
  refine E_par (p := inr v1 9) (6, [(0, .ref 2), (1, .int v1)], [.int ((σ 300) v1.toNatClampNeg)], SH0, [], lg) rfl hp ?_
  refine E_sts 3 (11, [(0, .ref 2), (1, .int v1)], [.int v1, .ref 4, .int ((σ 300) v1.toNatClampNeg)], SH0, [], lg) rfl ?_
  obtain ⟨hp, h⟩ := x_ite h
  refine E_par (p := inr v1 9) (12, [(0, .ref 2), (1, .int v1)], [.int ((σ 400) v1.toNatClampNeg), .int ((σ 300) v1.toNatClampNeg)], SH0, [], lg) rfl hp ?_
  refine E_call rfl (e_X0_leftBy X _ _ _ _ (X0_leftBy ((σ 300) v1.toNatClampNeg) ((σ 400) v1.toNatClampNeg)) rfl) (by decide) ?_
  obtain rfl := Option.some.inj h
  exact E_ret rfl
set_option maxHeartbeats 4000000 in
set_option maxRecDepth 20000 in
theorem e_X2_leftByLatest (X : xX) (σ : xM) (lg : Int64) (r : Int32) (h : X2_leftByLatest (σ 207 0) (σ 300) (σ 400) (σ 800) = some r) : EM XP X 3 30 [.ref 2] SH0 lg σ (some (.int r), SH0, [], lg) := by
  refine EM_of (M := xm_30) rfl rfl ?_
  unfold X2_leftByLatest at h
  refine E_sts 3 (if (σ 207 0) = 0 then 7 else 11, [(0, .ref 2)], [], SH0, [], lg) rfl ?_
  rcases x_br h with ⟨hc, h⟩ | ⟨hc, h⟩
  · refine E_itt hc ?_
    obtain rfl := Option.some.inj h
    refine E_sts 2 (26, [(0, .ref 2)], [.int 0], SH0, [], lg) rfl ?_
    exact E_ret rfl
  · refine E_itf hc ?_
    refine E_sts 7 (22, [(0, .ref 2)], [.int ((σ 207 0) - 1), .ref 8, .ref 2], SH0, [], lg) rfl ?_
    obtain ⟨hp, h⟩ := x_ite h
    refine E_par (p := inr ((σ 207 0) - 1) 9) (23, [(0, .ref 2)], [.int ((σ 800) ((σ 207 0) - 1).toNatClampNeg), .ref 2], SH0, [], lg) rfl hp ?_
    obtain ⟨r23, hr, h⟩ := x_bind h
    refine E_call rfl (e_X2_leftBy X _ _ _ r23 hr) (by decide) ?_
    obtain rfl := Option.some.inj h
    exact E_ret rfl
set_option maxHeartbeats 4000000 in
set_option maxRecDepth 20000 in
theorem e_X0_fallingNoise (X : xX) (σ : xM) (lg : Int64) (v0 : Int32) (v1 : Int32) (r : Int32) (h : X0_fallingNoise v0 v1 = r) : EM XP X 1 1 [.int v0, .int v1] SH0 lg σ (some (.int r), SH0, [], lg) := by
  refine EM_of (M := xm_1) rfl rfl ?_
  unfold X0_fallingNoise at h
  refine E_sts 4 (5, [(0, .int v0), (1, .int v1)], [.int 10, .int v1, .int v0, .int 0], SH0, [], lg) rfl ?_
  refine E_parn (p := 10 = 0) (6, [(0, .int v0), (1, .int v1)], [.int (v1 / 10), .int v0, .int 0], SH0, [], lg) rfl (by decide) ?_
  subst h
  refine E_sts 8 (18, [(0, .int v0), (1, .int v1)], [.int (xmax 0 ((v0 + (v1 / 10)) - (xmax 0 (v1 - v0))))], SH0, [], lg) rfl ?_
  exact E_ret rfl
