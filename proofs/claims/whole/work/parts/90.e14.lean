/-! what the machine answers is what the functions say (by gen/emit.py) -/
set_option maxHeartbeats 4000000 in
set_option maxRecDepth 20000 in
theorem e_X6_hold (X : xX) (σ : xM) (lg : Int64) (v1 : Int32) (v2 : Int32) (r : Int32 × (Nat → Int32) × (Nat → Int32)) (h : X6_hold (σ 5300) (σ 5600) v1 v2 = some r) : EM XP X 3 202 [.ref 52, .int v1, .int v2] SH0 lg σ (some (.int r.1), SH0, [(5300, r.2.1), (5600, r.2.2)], lg) := by
  refine EM_of (M := xm_202) rfl rfl ?_
  unfold X6_hold at h
  refine E_sts 1 (1, [(0, .ref 52), (1, .int v1), (2, .int v2)], [.int v1], SH0, [], lg) rfl ?_
  refine E_call rfl (e_X6_isSpot X _ _ _ (X6_isSpot v1) rfl) (by decide) ?_
  refine E_sts 1 (if (xb (X6_isSpot v1)) = 0 then 20 else 7, [(0, .ref 52), (1, .int v1), (2, .int v2)], [], SH0, [], lg) rfl ?_
  rcases x_br h with ⟨hc, h⟩ | ⟨hc, h⟩
  · refine E_itt hc ?_
    refine E_sts 2 (22, [(0, .ref 52), (1, .int v1), (2, .int v2)], [.int 0, .ref 52], SH0, [], lg) rfl ?_
    obtain ⟨r22, hr, h⟩ := x_bind h
    refine E_call rfl (e_X6_no X _ _ _ r22 hr) (by decide) ?_
    obtain rfl := Option.some.inj h
    refine E_sts 1 (25, [], [.int r22.1], SH0, [(5300, (σ 5300)), (5600, r22.2)], lg) rfl ?_
    exact E_ret rfl
  · refine E_itf hc ?_
    refine E_sts 3 (if v2 = (-1) then 26 else 12, [(0, .ref 52), (1, .int v1), (2, .int v2)], [], SH0, [], lg) rfl ?_
    rcases x_br h with ⟨hc, h⟩ | ⟨hc, h⟩
    · refine E_itt hc ?_
      refine E_sts 6 (35, [(0, .ref 52), (1, .int v1), (2, .int v2)], [.int v2, .int (73 + v1), .ref 53], SH0, [], lg) rfl ?_
      obtain ⟨hp, h⟩ := x_ite h
      refine E_par (p := inr (73 + v1) 83) (36, [(0, .ref 52), (1, .int v1), (2, .int v2)], [], SH0, [(5300, (upd (σ 5300) (73 + v1).toNatClampNeg v2))], lg) rfl hp ?_
      obtain rfl := Option.some.inj h
      refine E_sts 2 (37, [], [.int 1], SH0, [(5300, (upd (σ 5300) (73 + v1).toNatClampNeg v2)), (5600, (σ 5600))], lg) rfl ?_
      exact E_ret rfl
    · refine E_itf hc ?_
      refine E_sts 2 (14, [(0, .ref 52), (1, .int v1), (2, .int v2)], [.int v2, .ref 52], SH0, [], lg) rfl ?_
      obtain ⟨r14, hr, h⟩ := x_bind h
      refine E_call rfl (e_X6_isBow X _ _ _ r14 hr) (by decide) ?_
      refine E_sts 1 (if (xb r14) = 0 then 20 else 26, [(0, .ref 52), (1, .int v1), (2, .int v2)], [], SH0, [], lg) rfl ?_
      rcases x_br h with ⟨hc, h⟩ | ⟨hc, h⟩
      · refine E_itt hc ?_
        refine E_sts 2 (22, [(0, .ref 52), (1, .int v1), (2, .int v2)], [.int 0, .ref 52], SH0, [], lg) rfl ?_
        obtain ⟨r22_1, hr, h⟩ := x_bind h
        refine E_call rfl (e_X6_no X _ _ _ r22_1 hr) (by decide) ?_
        obtain rfl := Option.some.inj h
        refine E_sts 1 (25, [], [.int r22_1.1], SH0, [(5300, (σ 5300)), (5600, r22_1.2)], lg) rfl ?_
        exact E_ret rfl
      · refine E_itf hc ?_
        refine E_sts 6 (35, [(0, .ref 52), (1, .int v1), (2, .int v2)], [.int v2, .int (73 + v1), .ref 53], SH0, [], lg) rfl ?_
        obtain ⟨hp, h⟩ := x_ite h
        refine E_par (p := inr (73 + v1) 83) (36, [(0, .ref 52), (1, .int v1), (2, .int v2)], [], SH0, [(5300, (upd (σ 5300) (73 + v1).toNatClampNeg v2))], lg) rfl hp ?_
        obtain rfl := Option.some.inj h
        refine E_sts 2 (37, [], [.int 1], SH0, [(5300, (upd (σ 5300) (73 + v1).toNatClampNeg v2)), (5600, (σ 5600))], lg) rfl ?_
        exact E_ret rfl
set_option maxHeartbeats 4000000 in
set_option maxRecDepth 20000 in
theorem e_X0_isUnder_L4 (X : xX) (σ : xM) (lg : Int64) : ∀ (n : Nat), ∀ (v1 : Int32) (v2 : Int32) (v3 : Int32) (r : Bool), X0_isUnder_L4 n v1 v2 v3 = some r → E XP X 0 xm_4 σ (4, [(1, .int v1), (2, .int v2), (3, .int v3)], [], SH0, [], lg) (some (.int (xb r)), SH0, [], lg) := by
  intro n
  induction n with
  | zero => intro v1 v2 v3 r h; rw [X0_isUnder_L4] at h; cases h
  | succ n ih =>
    intro v1 v2 v3 r h
    rw [X0_isUnder_L4] at h
    refine E_sts 3 (if 7 ≤ v3 then 29 else 10, [(1, .int v1), (2, .int v2), (3, .int v3)], [], SH0, [], lg) rfl ?_
    rcases x_br h with ⟨hc, h⟩ | ⟨hc, h⟩
    · refine E_itt hc ?_
      obtain rfl := Option.some.inj h
      refine E_sts 1 (30, [(1, .int v1), (2, .int v2), (3, .int v3)], [.int 0], SH0, [], lg) rfl ?_
      exact E_retp (p := (0 : Int32) = 0 ∨ (0 : Int32) = 1) rfl (by decide)
    · refine E_itf hc ?_
      refine E_sts 3 (if v2 = v1 then 15 else 17, [(1, .int v1), (2, .int v2), (3, .int v3)], [], SH0, [], lg) rfl ?_
      rcases x_br h with ⟨hc, h⟩ | ⟨hc, h⟩
      · refine E_itt hc ?_
        obtain rfl := Option.some.inj h
        refine E_sts 1 (16, [(1, .int v1), (2, .int v2), (3, .int v3)], [.int 1], SH0, [], lg) rfl ?_
        exact E_retp (p := (1 : Int32) = 0 ∨ (1 : Int32) = 1) rfl (by decide)
      · refine E_itf hc ?_
        refine E_sts 2 (21, [(1, .int v1), (2, .int v2), (3, .int v3)], [.int v2, .ref 1001], SH0, [], lg) rfl ?_
        obtain ⟨hp, h⟩ := x_ite h
        refine E_par (p := inr v2 7) (22, [(1, .int v1), (2, .int v2), (3, .int v3)], [.int (xstat 1 v2.toNatClampNeg)], SH0, [], lg) rfl hp ?_
        refine E_sts 4 (4, [(1, .int v1), (2, .int (xstat 1 v2.toNatClampNeg)), (3, .int (v3 + 1))], [], SH0, [], lg) rfl ?_
        exact ih v1 (xstat 1 v2.toNatClampNeg) (v3 + 1) r h
set_option maxHeartbeats 4000000 in
set_option maxRecDepth 20000 in
theorem e_X0_isUnder (X : xX) (σ : xM) (lg : Int64) (v0 : Int32) (v1 : Int32) (r : Bool) (h : X0_isUnder v0 v1 = some r) : EM XP X 1 4 [.int v0, .int v1] SH0 lg σ (some (.int (xb r)), SH0, [], lg) := by
  refine EM_of (M := xm_4) rfl rfl ?_
  unfold X0_isUnder at h
  refine E_sts 5 (4, [(1, .int v1), (2, .int v0), (3, .int 0)], [], SH0, [], lg) rfl ?_
  exact e_X0_isUnder_L4 X σ lg _ v1 v0 0 r h
set_option maxHeartbeats 4000000 in
set_option maxRecDepth 20000 in
theorem e_X5_as (X : xX) (σ : xM) (lg : Int64) (v1 : Int32) (v2 : Int32) (r : Int32 × (Nat → Int32)) (h : X5_as (σ 100) (σ 201 0) (σ 300) (σ 1100) v1 v2 = some r) : EM XP X 2 103 [.ref 0, .int v1, .int v2] SH0 lg σ (some (.int r.1), SH0, [(100, r.2)], lg) := by
  refine EM_of (M := xm_103) rfl rfl ?_
  unfold X5_as at h
  refine E_sts 3 (4, [(0, .ref 0), (1, .int v1), (2, .int v2)], [.int 9, .int 0, .int v1], SH0, [], lg) rfl ?_
  refine E_call rfl (e_X5_isIn X _ _ _ _ _ (X5_isIn v1 0 9) rfl) (by decide) ?_
  refine E_sts 1 (if (xb (X5_isIn v1 0 9)) = 0 then 20 else 10, [(0, .ref 0), (1, .int v1), (2, .int v2)], [], SH0, [], lg) rfl ?_
  rcases x_br h with ⟨hc, h⟩ | ⟨hc, h⟩
  · refine E_itt hc ?_
    refine E_sts 2 (22, [(0, .ref 0), (1, .int v1), (2, .int v2)], [.int 0, .ref 0], SH0, [], lg) rfl ?_
    obtain ⟨r22, hr, h⟩ := x_bind h
    refine E_call rfl (e_X5_finding X _ _ _ r22 hr) (by decide) ?_
    obtain rfl := Option.some.inj h
    exact E_ret rfl
  · refine E_itf hc ?_
    refine E_sts 3 (14, [(0, .ref 0), (1, .int v1), (2, .int v2)], [.int 6, .int 0, .int v2], SH0, [], lg) rfl ?_
    refine E_call rfl (e_X5_isIn X _ _ _ _ _ (X5_isIn v2 0 6) rfl) (by decide) ?_
    refine E_sts 1 (if (xb (X5_isIn v2 0 6)) = 0 then 20 else 26, [(0, .ref 0), (1, .int v1), (2, .int v2)], [], SH0, [], lg) rfl ?_
    rcases x_br h with ⟨hc, h⟩ | ⟨hc, h⟩
    · refine E_itt hc ?_
      refine E_sts 2 (22, [(0, .ref 0), (1, .int v1), (2, .int v2)], [.int 0, .ref 0], SH0, [], lg) rfl ?_
      obtain ⟨r22_1, hr, h⟩ := x_bind h
      refine E_call rfl (e_X5_finding X _ _ _ r22_1 hr) (by decide) ?_
      obtain rfl := Option.some.inj h
      exact E_ret rfl
    · refine E_itf hc ?_
      refine E_sts 4 (34, [(0, .ref 0), (1, .int v1), (2, .int v2)], [.int v1, .ref 11], SH0, [], lg) rfl ?_
      obtain ⟨hp, h⟩ := x_ite h
      refine E_par (p := inr v1 10) (35, [(0, .ref 0), (1, .int v1), (2, .int v2)], [.int ((σ 1100) v1.toNatClampNeg)], SH0, [], lg) rfl hp ?_
      refine E_sts 4 (41, [(0, .ref 0), (1, .int v1), (2, .int v2), (3, .int ((σ 1100) v1.toNatClampNeg))], [.int ((σ 1100) v1.toNatClampNeg), .ref 2], SH0, [], lg) rfl ?_
      refine E_call rfl (e_X2_isBow X _ _ _ (X2_isBow (σ 201 0) ((σ 1100) v1.toNatClampNeg)) rfl) (by decide) ?_
      refine E_sts 1 (if (xb (X2_isBow (σ 201 0) ((σ 1100) v1.toNatClampNeg))) = 0 then 47 else 53, [(0, .ref 0), (1, .int v1), (2, .int v2), (3, .int ((σ 1100) v1.toNatClampNeg))], [], SH0, [], lg) rfl ?_
      rcases x_br h with ⟨hc, h⟩ | ⟨hc, h⟩
      · refine E_itt hc ?_
        refine E_sts 2 (49, [(0, .ref 0), (1, .int v1), (2, .int v2), (3, .int ((σ 1100) v1.toNatClampNeg))], [.int 5, .ref 0], SH0, [], lg) rfl ?_
        obtain ⟨r49, hr, h⟩ := x_bind h
        refine E_call rfl (e_X5_finding X _ _ _ r49 hr) (by decide) ?_
        obtain rfl := Option.some.inj h
        exact E_ret rfl
      · refine E_itf hc ?_
        refine E_sts 4 (61, [(0, .ref 0), (1, .int v1), (2, .int v2), (3, .int ((σ 1100) v1.toNatClampNeg))], [.int ((σ 1100) v1.toNatClampNeg), .ref 3], SH0, [], lg) rfl ?_
        obtain ⟨hp, h⟩ := x_ite h
        refine E_par (p := inr ((σ 1100) v1.toNatClampNeg) 9) (62, [(0, .ref 0), (1, .int v1), (2, .int v2), (3, .int ((σ 1100) v1.toNatClampNeg))], [.int ((σ 300) ((σ 1100) v1.toNatClampNeg).toNatClampNeg)], SH0, [], lg) rfl hp ?_
        refine E_sts 1 (63, [(0, .ref 0), (1, .int v1), (2, .int v2), (3, .int ((σ 1100) v1.toNatClampNeg))], [.int v2, .int ((σ 300) ((σ 1100) v1.toNatClampNeg).toNatClampNeg)], SH0, [], lg) rfl ?_
        obtain ⟨r63, hr, h⟩ := x_bind h
        refine E_call rfl (e_X0_isUnder X _ _ _ _ r63 hr) (by decide) ?_
        refine E_sts 1 (if (xb r63) = 0 then 69 else 75, [(0, .ref 0), (1, .int v1), (2, .int v2), (3, .int ((σ 1100) v1.toNatClampNeg))], [], SH0, [], lg) rfl ?_
        rcases x_br h with ⟨hc, h⟩ | ⟨hc, h⟩
        · refine E_itt hc ?_
          refine E_sts 2 (71, [(0, .ref 0), (1, .int v1), (2, .int v2), (3, .int ((σ 1100) v1.toNatClampNeg))], [.int 2, .ref 0], SH0, [], lg) rfl ?_
          obtain ⟨r71, hr, h⟩ := x_bind h
          refine E_call rfl (e_X5_finding X _ _ _ r71 hr) (by decide) ?_
          obtain rfl := Option.some.inj h
          exact E_ret rfl
        · refine E_itf hc ?_
          obtain rfl := Option.some.inj h
          refine E_sts 2 (76, [], [.int ((σ 1100) v1.toNatClampNeg)], SH0, [(100, (σ 100))], lg) rfl ?_
          exact E_ret rfl
set_option maxHeartbeats 4000000 in
set_option maxRecDepth 20000 in
theorem e_X6_above (X : xX) (σ : xM) (lg : Int64) (v0 : Int32) (r : Int32) (h : X6_above v0 = r) : EM XP X 1 203 [.int v0] SH0 lg σ (some (.int r), SH0, [], lg) := by
  refine EM_of (M := xm_203) rfl rfl ?_
  unfold X6_above at h
  refine E_sts 3 (if v0 = 6 then 6 else 10, [(0, .int v0)], [], SH0, [], lg) rfl ?_
  rcases x_br h with ⟨hc, h⟩ | ⟨hc, h⟩
  · refine E_itt hc ?_
    subst h
    refine E_sts 2 (29, [(0, .int v0)], [.int 5], SH0, [], lg) rfl ?_
    exact E_ret rfl
  · refine E_itf hc ?_
    refine E_sts 3 (if v0 = 4 then 15 else 19, [(0, .int v0)], [], SH0, [], lg) rfl ?_
    rcases x_br h with ⟨hc, h⟩ | ⟨hc, h⟩
    · refine E_itt hc ?_
      subst h
      refine E_sts 2 (29, [(0, .int v0)], [.int 3], SH0, [], lg) rfl ?_
      exact E_ret rfl
    · refine E_itf hc ?_
      refine E_sts 3 (if v0 = 3 then 24 else 28, [(0, .int v0)], [], SH0, [], lg) rfl ?_
      rcases x_br h with ⟨hc, h⟩ | ⟨hc, h⟩
      · refine E_itt hc ?_
        subst h
        refine E_sts 2 (29, [(0, .int v0)], [.int 2], SH0, [], lg) rfl ?_
        exact E_ret rfl
      · refine E_itf hc ?_
        subst h
        refine E_sts 1 (29, [(0, .int v0)], [.int 0], SH0, [], lg) rfl ?_
        exact E_ret rfl
set_option maxHeartbeats 4000000 in
set_option maxRecDepth 20000 in
theorem e_X6_as_L72 (X : xX) (σ : xM) (lg : Int64) : ∀ (v2 : Int32) (v3 : Int32) (v4 : Int32) (r : Int32 × (Nat → Int32)), X6_as_L72 (σ 5600) v2 v3 v4 = some r → E XP X 2 xm_206 σ (72, [(0, .ref 52), (2, .int v2), (3, .int v3), (4, .int v4)], [], SH0, [], lg) (some (.int r.1), SH0, [(5600, r.2)], lg) := by
  intro v2 v3 v4 r h
  unfold X6_as_L72 at h
  refine E_sts 3 (if v4 = v2 then 78 else 82, [(0, .ref 52), (2, .int v2), (3, .int v3), (4, .int v4)], [], SH0, [], lg) rfl ?_
  rcases x_br h with ⟨hc, h⟩ | ⟨hc, h⟩
  · refine E_itt hc ?_
    obtain rfl := Option.some.inj h
    refine E_sts 3 (87, [], [.int v3], SH0, [(5600, (σ 5600))], lg) rfl ?_
    exact E_ret rfl
  · refine E_itf hc ?_
    refine E_sts 2 (84, [(0, .ref 52), (2, .int v2), (3, .int v3), (4, .int v4)], [.int 2, .ref 52], SH0, [], lg) rfl ?_
    obtain ⟨r84, hr, h⟩ := x_bind h
    refine E_call rfl (e_X6_no X _ _ _ r84 hr) (by decide) ?_
    obtain rfl := Option.some.inj h
    refine E_sts 1 (87, [], [.int r84.1], SH0, [(5600, r84.2)], lg) rfl ?_
    exact E_ret rfl
set_option maxHeartbeats 4000000 in
set_option maxRecDepth 20000 in
theorem e_X6_as_L51 (X : xX) (σ : xM) (lg : Int64) : ∀ (n : Nat), ∀ (v2 : Int32) (v3 : Int32) (v4 : Int32) (r : Int32 × (Nat → Int32)), X6_as_L51 (σ 5600) n v2 v3 v4 = some r → E XP X 2 xm_206 σ (51, [(0, .ref 52), (2, .int v2), (3, .int v3), (4, .int v4)], [], SH0, [], lg) (some (.int r.1), SH0, [(5600, r.2)], lg) := by
  intro n
  induction n with
  | zero => intro v2 v3 v4 r h; rw [X6_as_L51] at h; cases h
  | succ n ih =>
    intro v2 v3 v4 r h
    rw [X6_as_L51] at h
    refine E_sts 3 (if v4 = v2 then 100072 else 57, [(0, .ref 52), (2, .int v2), (3, .int v3), (4, .int v4)], [], SH0, [], lg) rfl ?_
    rcases x_br h with ⟨hc, h⟩ | ⟨hc, h⟩
    · refine E_itt hc ?_
      refine E_sts 1 (72, [(0, .ref 52), (2, .int v2), (3, .int v3), (4, .int v4)], [], SH0, [], lg) rfl ?_
      exact e_X6_as_L72 X σ lg v2 v3 v4 r h
    · refine E_itf hc ?_
      refine E_sts 2 (if v4 = 0 then 100072 else 62, [(0, .ref 52), (2, .int v2), (3, .int v3), (4, .int v4)], [], SH0, [], lg) rfl ?_
      rcases x_br h with ⟨hc, h⟩ | ⟨hc, h⟩
      · refine E_itt hc ?_
        refine E_sts 1 (72, [(0, .ref 52), (2, .int v2), (3, .int v3), (4, .int v4)], [], SH0, [], lg) rfl ?_
        exact e_X6_as_L72 X σ lg v2 v3 v4 r h
      · refine E_itf hc ?_
        refine E_sts 1 (64, [(0, .ref 52), (2, .int v2), (3, .int v3), (4, .int v4)], [.int v4], SH0, [], lg) rfl ?_
        refine E_call rfl (e_X6_above X _ _ _ (X6_above v4) rfl) (by decide) ?_
        refine E_sts 3 (51, [(0, .ref 52), (2, .int v2), (3, .int v3), (4, .int (X6_above v4))], [], SH0, [], lg) rfl ?_
        exact ih v2 v3 (X6_above v4) r h
set_option maxHeartbeats 4000000 in
set_option maxRecDepth 20000 in
theorem e_X6_as (X : xX) (σ : xM) (lg : Int64) (v1 : Int32) (v2 : Int32) (r : Int32 × (Nat → Int32)) (h : X6_as (σ 5300) (σ 5600) v1 v2 = some r) : EM XP X 3 206 [.ref 52, .int v1, .int v2] SH0 lg σ (some (.int r.1), SH0, [(5600, r.2)], lg) := by
  refine EM_of (M := xm_206) rfl rfl ?_
  unfold X6_as at h
  refine E_sts 1 (1, [(0, .ref 52), (1, .int v1), (2, .int v2)], [.int v1], SH0, [], lg) rfl ?_
  refine E_call rfl (e_X6_isSpot X _ _ _ (X6_isSpot v1) rfl) (by decide) ?_
  refine E_sts 1 (if (xb (X6_isSpot v1)) = 0 then 17 else 7, [(0, .ref 52), (1, .int v1), (2, .int v2)], [], SH0, [], lg) rfl ?_
  rcases x_br h with ⟨hc, h⟩ | ⟨hc, h⟩
  · refine E_itt hc ?_
    refine E_sts 2 (19, [(0, .ref 52), (1, .int v1), (2, .int v2)], [.int 0, .ref 52], SH0, [], lg) rfl ?_
    obtain ⟨r19, hr, h⟩ := x_bind h
    refine E_call rfl (e_X6_no X _ _ _ r19 hr) (by decide) ?_
    obtain rfl := Option.some.inj h
    exact E_ret rfl
  · refine E_itf hc ?_
    refine E_sts 3 (11, [(0, .ref 52), (1, .int v1), (2, .int v2)], [.int 6, .int 0, .int v2], SH0, [], lg) rfl ?_
    refine E_call rfl (e_X6_in1 X _ _ _ _ _ (X6_in1 v2 0 6) rfl) (by decide) ?_
    refine E_sts 1 (if (xb (X6_in1 v2 0 6)) = 0 then 17 else 23, [(0, .ref 52), (1, .int v1), (2, .int v2)], [], SH0, [], lg) rfl ?_
    rcases x_br h with ⟨hc, h⟩ | ⟨hc, h⟩
    · refine E_itt hc ?_
      refine E_sts 2 (19, [(0, .ref 52), (1, .int v1), (2, .int v2)], [.int 0, .ref 52], SH0, [], lg) rfl ?_
      obtain ⟨r19_1, hr, h⟩ := x_bind h
      refine E_call rfl (e_X6_no X _ _ _ r19_1 hr) (by decide) ?_
      obtain rfl := Option.some.inj h
      exact E_ret rfl
    · refine E_itf hc ?_
      refine E_sts 5 (31, [(0, .ref 52), (1, .int v1), (2, .int v2)], [.int (73 + v1), .ref 53], SH0, [], lg) rfl ?_
      obtain ⟨hp, h⟩ := x_ite h
      refine E_par (p := inr (73 + v1) 83) (32, [(0, .ref 52), (1, .int v1), (2, .int v2)], [.int ((σ 5300) (73 + v1).toNatClampNeg)], SH0, [], lg) rfl hp ?_
      refine E_sts 3 (if 0 ≤ ((σ 5300) (73 + v1).toNatClampNeg) then 43 else 37, [(0, .ref 52), (1, .int v1), (2, .int v2), (3, .int ((σ 5300) (73 + v1).toNatClampNeg))], [], SH0, [], lg) rfl ?_
      rcases x_br h with ⟨hc, h⟩ | ⟨hc, h⟩
      · refine E_itt hc ?_
        refine E_sts 3 (46, [(0, .ref 52), (1, .int v1), (2, .int v2), (3, .int ((σ 5300) (73 + v1).toNatClampNeg))], [.int 0, .int ((σ 5300) (73 + v1).toNatClampNeg), .ref 52], SH0, [], lg) rfl ?_
        obtain ⟨r46, hr, h⟩ := x_bind h
        refine E_call rfl (e_X6_get X _ _ _ _ r46 hr) (by decide) ?_
        refine E_sts 2 (51, [(0, .ref 52), (2, .int v2), (3, .int ((σ 5300) (73 + v1).toNatClampNeg)), (4, .int r46)], [], SH0, [], lg) rfl ?_
        exact e_X6_as_L51 X σ lg _ v2 ((σ 5300) (73 + v1).toNatClampNeg) r46 r h
      · refine E_itf hc ?_
        refine E_sts 2 (39, [(0, .ref 52), (1, .int v1), (2, .int v2), (3, .int ((σ 5300) (73 + v1).toNatClampNeg))], [.int 5, .ref 52], SH0, [], lg) rfl ?_
        obtain ⟨r39, hr, h⟩ := x_bind h
        refine E_call rfl (e_X6_no X _ _ _ r39 hr) (by decide) ?_
        obtain rfl := Option.some.inj h
        exact E_ret rfl
set_option maxHeartbeats 4000000 in
set_option maxRecDepth 20000 in
theorem e_X3_isSheet (X : xX) (σ : xM) (lg : Int64) (v1 : Int32) (r : Bool) (h : X3_isSheet v1 = r) : EM XP X 2 43 [.ref 48, .int v1] SH0 lg σ (some (.int (xb r)), SH0, [], lg) := by
  refine EM_of (M := xm_43) rfl rfl ?_
  unfold X3_isSheet at h
  refine E_sts 3 (3, [(0, .ref 48), (1, .int v1)], [.int 3, .int 0, .int v1], SH0, [], lg) rfl ?_
  refine E_call rfl (e_X5_isIn X _ _ _ _ _ (X5_isIn v1 0 3) rfl) (by decide) ?_
  subst h
  exact E_retp (p := (xb (X5_isIn v1 0 3)) = 0 ∨ (xb (X5_isIn v1 0 3)) = 1) rfl (xb01 _)
set_option maxHeartbeats 4000000 in
set_option maxRecDepth 20000 in
theorem e_X3_lay_L25 (X : xX) (σ : xM) (lg : Int64) : ∀ (n : Nat), ∀ (v1 : Int32) (v4 : Int32) (sh_bits_ : (Nat → Int32)) (sh_sizes_ : (Nat → Int32)) (sh_numbers_ : (Nat → Int32)) (r : Int32 × (Nat → Int32) × (Nat → Int32) × (Nat → Int32)), X3_lay_L25 n v1 v4 sh_bits_ sh_sizes_ sh_numbers_ = some r → E XP X 0 xm_45 σ (25, [(0, .ref 48), (1, .int v1), (4, .int v4)], [], SH0, [(4900, sh_bits_), (5000, sh_sizes_), (5100, sh_numbers_)], lg) (some (.int r.1), SH0, [(4900, r.2.1), (5000, r.2.2.1), (5100, r.2.2.2)], lg) := by
  intro n
  induction n with
  | zero => intro v1 v4 sh_bits_ sh_sizes_ sh_numbers_ r h; rw [X3_lay_L25] at h; cases h
  | succ n ih =>
    intro v1 v4 sh_bits_ sh_sizes_ sh_numbers_ r h
    rw [X3_lay_L25] at h
    refine E_sts 3 (if 40 ≤ v4 then 51 else 32, [(0, .ref 48), (1, .int v1), (4, .int v4)], [], SH0, [(4900, sh_bits_), (5000, sh_sizes_), (5100, sh_numbers_)], lg) rfl ?_
    rcases x_br h with ⟨hc, h⟩ | ⟨hc, h⟩
    · refine E_itt hc ?_
      refine E_sts 3 (56, [(0, .ref 48), (1, .int v1), (4, .int v4)], [.int v1, .ref 50], SH0, [(4900, sh_bits_), (5000, sh_sizes_), (5100, sh_numbers_)], lg) rfl ?_
      obtain ⟨hp, h⟩ := x_ite h
      refine E_par (p := inr v1 4) (100057, [(0, .ref 48), (1, .int v1), (4, .int v4)], [.int (sh_sizes_ v1.toNatClampNeg)], SH0, [(4900, sh_bits_), (5000, sh_sizes_), (5100, sh_numbers_)], lg) rfl hp ?_
      obtain rfl := Option.some.inj h
      refine E_sts 1 (57, [], [.int (sh_sizes_ v1.toNatClampNeg)], SH0, [(4900, sh_bits_), (5000, sh_sizes_), (5100, sh_numbers_)], lg) rfl ?_
      exact E_ret rfl
    · refine E_itf hc ?_
      refine E_sts 8 (44, [(0, .ref 48), (1, .int v1), (4, .int v4)], [.int 0, .int ((v1 * 40) + v4), .ref 51], SH0, [(4900, sh_bits_), (5000, sh_sizes_), (5100, sh_numbers_)], lg) rfl ?_
      obtain ⟨hp, h⟩ := x_ite h
      refine E_par (p := inr ((v1 * 40) + v4) 160) (45, [(0, .ref 48), (1, .int v1), (4, .int v4)], [], SH0, [(4900, sh_bits_), (5000, sh_sizes_), (5100, (upd sh_numbers_ ((v1 * 40) + v4).toNatClampNeg 0))], lg) rfl hp ?_
      refine E_sts 3 (25, [(0, .ref 48), (1, .int v1), (4, .int (v4 + 1))], [], SH0, [(4900, sh_bits_), (5000, sh_sizes_), (5100, (upd sh_numbers_ ((v1 * 40) + v4).toNatClampNeg 0))], lg) rfl ?_
      exact ih v1 (v4 + 1) sh_bits_ sh_sizes_ (upd sh_numbers_ ((v1 * 40) + v4).toNatClampNeg 0) r h
set_option maxHeartbeats 4000000 in
set_option maxRecDepth 20000 in
theorem e_X3_lay (X : xX) (σ : xM) (lg : Int64) (v1 : Int32) (v2 : Int32) (v3 : Int32) (r : Int32 × (Nat → Int32) × (Nat → Int32) × (Nat → Int32)) (h : X3_lay (σ 4900) (σ 5000) (σ 5100) v1 v2 v3 = some r) : EM XP X 1 45 [.ref 48, .int v1, .int v2, .int v3] SH0 lg σ (some (.int r.1), SH0, [(4900, r.2.1), (5000, r.2.2.1), (5100, r.2.2.2)], lg) := by
  refine EM_of (M := xm_45) rfl rfl ?_
  unfold X3_lay at h
  refine E_sts 4 (6, [(0, .ref 48), (1, .int v1), (2, .int v2), (3, .int v3)], [.int v2, .int v1, .ref 49], SH0, [], lg) rfl ?_
  obtain ⟨hp, h⟩ := x_ite h
  refine E_par (p := inr v1 4) (7, [(0, .ref 48), (1, .int v1), (2, .int v2), (3, .int v3)], [], SH0, [(4900, (upd (σ 4900) v1.toNatClampNeg v2))], lg) rfl hp ?_
  refine E_sts 5 (if v2 = 0 then 16 else 20, [(0, .ref 48), (1, .int v1), (2, .int v2), (3, .int v3)], [.int v1, .ref 50], SH0, [(4900, (upd (σ 4900) v1.toNatClampNeg v2))], lg) rfl ?_
  rcases x_br h with ⟨hc, h⟩ | ⟨hc, h⟩
  · refine E_itt hc ?_
    refine E_sts 2 (21, [(0, .ref 48), (1, .int v1), (2, .int v2), (3, .int v3)], [.int 0, .int v1, .ref 50], SH0, [(4900, (upd (σ 4900) v1.toNatClampNeg v2))], lg) rfl ?_
    obtain ⟨hp, h⟩ := x_ite h
    refine E_par (p := inr v1 4) (22, [(0, .ref 48), (1, .int v1), (2, .int v2), (3, .int v3)], [], SH0, [(4900, (upd (σ 4900) v1.toNatClampNeg v2)), (5000, (upd (σ 5000) v1.toNatClampNeg 0))], lg) rfl hp ?_
    refine E_sts 3 (25, [(0, .ref 48), (1, .int v1), (4, .int 0)], [], SH0, [(4900, (upd (σ 4900) v1.toNatClampNeg v2)), (5000, (upd (σ 5000) v1.toNatClampNeg 0)), (5100, (σ 5100))], lg) rfl ?_
    exact e_X3_lay_L25 X σ lg _ v1 0 (upd (σ 4900) v1.toNatClampNeg v2) (upd (σ 5000) v1.toNatClampNeg 0) (σ 5100) r h
  · refine E_itf hc ?_
    refine E_sts 1 (21, [(0, .ref 48), (1, .int v1), (2, .int v2), (3, .int v3)], [.int v3, .int v1, .ref 50], SH0, [(4900, (upd (σ 4900) v1.toNatClampNeg v2))], lg) rfl ?_
    obtain ⟨hp, h⟩ := x_ite h
    refine E_par (p := inr v1 4) (22, [(0, .ref 48), (1, .int v1), (2, .int v2), (3, .int v3)], [], SH0, [(4900, (upd (σ 4900) v1.toNatClampNeg v2)), (5000, (upd (σ 5000) v1.toNatClampNeg v3))], lg) rfl hp ?_
    refine E_sts 3 (25, [(0, .ref 48), (1, .int v1), (4, .int 0)], [], SH0, [(4900, (upd (σ 4900) v1.toNatClampNeg v2)), (5000, (upd (σ 5000) v1.toNatClampNeg v3)), (5100, (σ 5100))], lg) rfl ?_
    exact e_X3_lay_L25 X σ lg _ v1 0 (upd (σ 4900) v1.toNatClampNeg v2) (upd (σ 5000) v1.toNatClampNeg v3) (σ 5100) r h
set_option maxHeartbeats 4000000 in
set_option maxRecDepth 20000 in
theorem e_X5_sheet_L39 (X : xX) (σ : xM) (lg : Int64) : ∀ (v1 : Int32) (v2 : Int32) (v3 : Int32) (r : Int32 × (Nat → Int32) × (Nat → Int32) × (Nat → Int32) × (Nat → Int32)), X5_sheet_L39 (σ 100) (σ 4900) (σ 5000) (σ 5100) v1 v2 v3 = some r → E XP X 2 xm_104 σ (39, [(0, .ref 0), (1, .int v1), (2, .int v2), (3, .int v3)], [], SH0, [], lg) (some (.int r.1), SH0, [(100, r.2.1), (4900, r.2.2.1), (5000, r.2.2.2.1), (5100, r.2.2.2.2)], lg) := by
  intro v1 v2 v3 r h
  unfold X5_sheet_L39 at h
  refine E_sts 2 (if 0 ≤ v3 then 50 else 43, [(0, .ref 0), (1, .int v1), (2, .int v2), (3, .int v3)], [], SH0, [], lg) rfl ?_
  rcases x_br h with ⟨hc, h⟩ | ⟨hc, h⟩
  · refine E_itt hc ?_
    refine E_sts 3 (if v3 ≤ 40 then 62 else 56, [(0, .ref 0), (1, .int v1), (2, .int v2), (3, .int v3)], [], SH0, [], lg) rfl ?_
    rcases x_br h with ⟨hc, h⟩ | ⟨hc, h⟩
    · refine E_itt hc ?_
      refine E_sts 5 (69, [(0, .ref 0), (1, .int v1), (2, .int v2), (3, .int v3)], [.int v3, .int v2, .int v1, .ref 48], SH0, [], lg) rfl ?_
      obtain ⟨r69, hr, h⟩ := x_bind h
      refine E_call rfl (e_X3_lay X _ _ _ _ _ r69 hr) (by decide) ?_
      obtain rfl := Option.some.inj h
      refine E_sts 1 (72, [], [.int r69.1], SH0, [(100, (σ 100)), (4900, r69.2.1), (5000, r69.2.2.1), (5100, r69.2.2.2)], lg) rfl ?_
      exact E_ret rfl
    · refine E_itf hc ?_
      refine E_sts 2 (58, [(0, .ref 0), (1, .int v1), (2, .int v2), (3, .int v3)], [.int 0, .ref 0], SH0, [], lg) rfl ?_
      obtain ⟨r58, hr, h⟩ := x_bind h
      refine E_call rfl (e_X5_finding X _ _ _ r58 hr) (by decide) ?_
      obtain rfl := Option.some.inj h
      refine E_sts 1 (61, [], [.int r58.1], SH0, [(100, r58.2), (4900, (σ 4900)), (5000, (σ 5000)), (5100, (σ 5100))], lg) rfl ?_
      exact E_ret rfl
  · refine E_itf hc ?_
    refine E_sts 2 (46, [(0, .ref 0), (1, .int v1), (2, .int v2), (3, .int v3)], [.int 6, .ref 0], SH0, [], lg) rfl ?_
    obtain ⟨r46, hr, h⟩ := x_bind h
    refine E_call rfl (e_X5_finding X _ _ _ r46 hr) (by decide) ?_
    obtain rfl := Option.some.inj h
    refine E_sts 1 (49, [], [.int r46.1], SH0, [(100, r46.2), (4900, (σ 4900)), (5000, (σ 5000)), (5100, (σ 5100))], lg) rfl ?_
    exact E_ret rfl
set_option maxHeartbeats 4000000 in
set_option maxRecDepth 20000 in
theorem e_X5_sheet (X : xX) (σ : xM) (lg : Int64) (v1 : Int32) (v2 : Int32) (v3 : Int32) (r : Int32 × (Nat → Int32) × (Nat → Int32) × (Nat → Int32) × (Nat → Int32)) (h : X5_sheet (σ 100) (σ 4900) (σ 5000) (σ 5100) v1 v2 v3 = some r) : EM XP X 3 104 [.ref 0, .int v1, .int v2, .int v3] SH0 lg σ (some (.int r.1), SH0, [(100, r.2.1), (4900, r.2.2.1), (5000, r.2.2.2.1), (5100, r.2.2.2.2)], lg) := by
  refine EM_of (M := xm_104) rfl rfl ?_
  unfold X5_sheet at h
  refine E_sts 3 (5, [(0, .ref 0), (1, .int v1), (2, .int v2), (3, .int v3)], [.int v1, .ref 48], SH0, [], lg) rfl ?_
  refine E_call rfl (e_X3_isSheet X _ _ _ (X3_isSheet v1) rfl) (by decide) ?_
  refine E_sts 1 (if (xb (X3_isSheet v1)) = 0 then 33 else 11, [(0, .ref 0), (1, .int v1), (2, .int v2), (3, .int v3)], [], SH0, [], lg) rfl ?_
  rcases x_br h with ⟨hc, h⟩ | ⟨hc, h⟩
  · refine E_itt hc ?_
    refine E_sts 2 (35, [(0, .ref 0), (1, .int v1), (2, .int v2), (3, .int v3)], [.int 0, .ref 0], SH0, [], lg) rfl ?_
    obtain ⟨r35, hr, h⟩ := x_bind h
    refine E_call rfl (e_X5_finding X _ _ _ r35 hr) (by decide) ?_
    obtain rfl := Option.some.inj h
    refine E_sts 1 (38, [], [.int r35.1], SH0, [(100, r35.2), (4900, (σ 4900)), (5000, (σ 5000)), (5100, (σ 5100))], lg) rfl ?_
    exact E_ret rfl
  · refine E_itf hc ?_
    refine E_sts 2 (if v2 = 0 then 100039 else 15, [(0, .ref 0), (1, .int v1), (2, .int v2), (3, .int v3)], [], SH0, [], lg) rfl ?_
    rcases x_br h with ⟨hc, h⟩ | ⟨hc, h⟩
    · refine E_itt hc ?_
      refine E_sts 1 (39, [(0, .ref 0), (1, .int v1), (2, .int v2), (3, .int v3)], [], SH0, [], lg) rfl ?_
      exact e_X5_sheet_L39 X σ lg v1 v2 v3 r h
    · refine E_itf hc ?_
      refine E_sts 3 (if v2 = 8 then 100039 else 21, [(0, .ref 0), (1, .int v1), (2, .int v2), (3, .int v3)], [], SH0, [], lg) rfl ?_
      rcases x_br h with ⟨hc, h⟩ | ⟨hc, h⟩
      · refine E_itt hc ?_
        refine E_sts 1 (39, [(0, .ref 0), (1, .int v1), (2, .int v2), (3, .int v3)], [], SH0, [], lg) rfl ?_
        exact e_X5_sheet_L39 X σ lg v1 v2 v3 r h
      · refine E_itf hc ?_
        refine E_sts 3 (if v2 = 16 then 100039 else 27, [(0, .ref 0), (1, .int v1), (2, .int v2), (3, .int v3)], [], SH0, [], lg) rfl ?_
        rcases x_br h with ⟨hc, h⟩ | ⟨hc, h⟩
        · refine E_itt hc ?_
          refine E_sts 1 (39, [(0, .ref 0), (1, .int v1), (2, .int v2), (3, .int v3)], [], SH0, [], lg) rfl ?_
          exact e_X5_sheet_L39 X σ lg v1 v2 v3 r h
        · refine E_itf hc ?_
          refine E_sts 3 (if v2 = 32 then 100039 else 33, [(0, .ref 0), (1, .int v1), (2, .int v2), (3, .int v3)], [], SH0, [], lg) rfl ?_
          rcases x_br h with ⟨hc, h⟩ | ⟨hc, h⟩
          · refine E_itt hc ?_
            refine E_sts 1 (39, [(0, .ref 0), (1, .int v1), (2, .int v2), (3, .int v3)], [], SH0, [], lg) rfl ?_
            exact e_X5_sheet_L39 X σ lg v1 v2 v3 r h
          · refine E_itf hc ?_
            refine E_sts 2 (35, [(0, .ref 0), (1, .int v1), (2, .int v2), (3, .int v3)], [.int 0, .ref 0], SH0, [], lg) rfl ?_
            obtain ⟨r35_1, hr, h⟩ := x_bind h
            refine E_call rfl (e_X5_finding X _ _ _ r35_1 hr) (by decide) ?_
            obtain rfl := Option.some.inj h
            refine E_sts 1 (38, [], [.int r35_1.1], SH0, [(100, r35_1.2), (4900, (σ 4900)), (5000, (σ 5000)), (5100, (σ 5100))], lg) rfl ?_
            exact E_ret rfl
set_option maxHeartbeats 4000000 in
set_option maxRecDepth 20000 in
theorem e_X6_isSheet (X : xX) (σ : xM) (lg : Int64) (v0 : Int32) (r : Bool) (h : X6_isSheet v0 = r) : EM XP X 2 204 [.int v0] SH0 lg σ (some (.int (xb r)), SH0, [], lg) := by
  refine EM_of (M := xm_204) rfl rfl ?_
  unfold X6_isSheet at h
  refine E_sts 3 (3, [(0, .int v0)], [.int 3, .int 0, .int v0], SH0, [], lg) rfl ?_
  refine E_call rfl (e_X6_in1 X _ _ _ _ _ (X6_in1 v0 0 3) rfl) (by decide) ?_
  subst h
  exact E_retp (p := (xb (X6_in1 v0 0 3)) = 0 ∨ (xb (X6_in1 v0 0 3)) = 1) rfl (xb01 _)
set_option maxHeartbeats 4000000 in
set_option maxRecDepth 20000 in
theorem e_X6_sheet_L83 (X : xX) (σ : xM) (lg : Int64) : ∀ (n : Nat), ∀ (v1 : Int32) (v4 : Int32) (m_widths_ : (Nat → Int32)) (m_sizes_ : (Nat → Int32)) (m_cells_ : (Nat → Int32)) (r : Int32 × (Nat → Int32) × (Nat → Int32) × (Nat → Int32) × (Nat → Int32)), X6_sheet_L83 (σ 5600) n v1 v4 m_widths_ m_sizes_ m_cells_ = some r → E XP X 2 xm_207 σ (83, [(0, .ref 52), (1, .int v1), (4, .int v4)], [], SH0, [(6500, m_widths_), (6600, m_sizes_), (6700, m_cells_)], lg) (some (.int r.1), SH0, [(5600, r.2.1), (6500, r.2.2.1), (6600, r.2.2.2.1), (6700, r.2.2.2.2)], lg) := by
  intro n
  induction n with
  | zero => intro v1 v4 m_widths_ m_sizes_ m_cells_ r h; rw [X6_sheet_L83] at h; cases h
  | succ n ih =>
    intro v1 v4 m_widths_ m_sizes_ m_cells_ r h
    rw [X6_sheet_L83] at h
    refine E_sts 3 (if 40 ≤ v4 then 109 else 90, [(0, .ref 52), (1, .int v1), (4, .int v4)], [], SH0, [(6500, m_widths_), (6600, m_sizes_), (6700, m_cells_)], lg) rfl ?_
    rcases x_br h with ⟨hc, h⟩ | ⟨hc, h⟩
    · refine E_itt hc ?_
      refine E_sts 3 (114, [(0, .ref 52), (1, .int v1), (4, .int v4)], [.int v1, .ref 66], SH0, [(6500, m_widths_), (6600, m_sizes_), (6700, m_cells_)], lg) rfl ?_
      obtain ⟨hp, h⟩ := x_ite h
      refine E_par (p := inr v1 4) (100115, [(0, .ref 52), (1, .int v1), (4, .int v4)], [.int (m_sizes_ v1.toNatClampNeg)], SH0, [(6500, m_widths_), (6600, m_sizes_), (6700, m_cells_)], lg) rfl hp ?_
      obtain rfl := Option.some.inj h
      refine E_sts 1 (115, [], [.int (m_sizes_ v1.toNatClampNeg)], SH0, [(5600, (σ 5600)), (6500, m_widths_), (6600, m_sizes_), (6700, m_cells_)], lg) rfl ?_
      exact E_ret rfl
    · refine E_itf hc ?_
      refine E_sts 8 (102, [(0, .ref 52), (1, .int v1), (4, .int v4)], [.int 0, .int ((40 * v1) + v4), .ref 67], SH0, [(6500, m_widths_), (6600, m_sizes_), (6700, m_cells_)], lg) rfl ?_
      obtain ⟨hp, h⟩ := x_ite h
      refine E_par (p := inr ((40 * v1) + v4) 160) (103, [(0, .ref 52), (1, .int v1), (4, .int v4)], [], SH0, [(6500, m_widths_), (6600, m_sizes_), (6700, (upd m_cells_ ((40 * v1) + v4).toNatClampNeg 0))], lg) rfl hp ?_
      refine E_sts 3 (83, [(0, .ref 52), (1, .int v1), (4, .int (v4 + 1))], [], SH0, [(6500, m_widths_), (6600, m_sizes_), (6700, (upd m_cells_ ((40 * v1) + v4).toNatClampNeg 0))], lg) rfl ?_
      exact ih v1 (v4 + 1) m_widths_ m_sizes_ (upd m_cells_ ((40 * v1) + v4).toNatClampNeg 0) r h
set_option maxHeartbeats 4000000 in
set_option maxRecDepth 20000 in
theorem e_X6_sheet_L35 (X : xX) (σ : xM) (lg : Int64) : ∀ (v1 : Int32) (v2 : Int32) (v3 : Int32) (r : Int32 × (Nat → Int32) × (Nat → Int32) × (Nat → Int32) × (Nat → Int32)), X6_sheet_L35 (σ 5600) (σ 6500) (σ 6600) (σ 6700) v1 v2 v3 = some r → E XP X 2 xm_207 σ (35, [(0, .ref 52), (1, .int v1), (2, .int v2), (3, .int v3)], [], SH0, [], lg) (some (.int r.1), SH0, [(5600, r.2.1), (6500, r.2.2.1), (6600, r.2.2.2.1), (6700, r.2.2.2.2)], lg) := by
  intro v1 v2 v3 r h
  unfold X6_sheet_L35 at h
  refine E_sts 2 (if 0 ≤ v3 then 46 else 39, [(0, .ref 52), (1, .int v1), (2, .int v2), (3, .int v3)], [], SH0, [], lg) rfl ?_
  rcases x_br h with ⟨hc, h⟩ | ⟨hc, h⟩
  · refine E_itt hc ?_
    refine E_sts 3 (if v3 ≤ 40 then 58 else 52, [(0, .ref 52), (1, .int v1), (2, .int v2), (3, .int v3)], [], SH0, [], lg) rfl ?_
    rcases x_br h with ⟨hc, h⟩ | ⟨hc, h⟩
    · refine E_itt hc ?_
      refine E_sts 4 (64, [(0, .ref 52), (1, .int v1), (2, .int v2), (3, .int v3)], [.int v2, .int v1, .ref 65], SH0, [], lg) rfl ?_
      obtain ⟨hp, h⟩ := x_ite h
      refine E_par (p := inr v1 4) (65, [(0, .ref 52), (1, .int v1), (2, .int v2), (3, .int v3)], [], SH0, [(6500, (upd (σ 6500) v1.toNatClampNeg v2))], lg) rfl hp ?_
      refine E_sts 5 (if v2 = 0 then 74 else 78, [(0, .ref 52), (1, .int v1), (2, .int v2), (3, .int v3)], [.int v1, .ref 66], SH0, [(6500, (upd (σ 6500) v1.toNatClampNeg v2))], lg) rfl ?_
      rcases x_br h with ⟨hc, h⟩ | ⟨hc, h⟩
      · refine E_itt hc ?_
        refine E_sts 2 (79, [(0, .ref 52), (1, .int v1), (2, .int v2), (3, .int v3)], [.int 0, .int v1, .ref 66], SH0, [(6500, (upd (σ 6500) v1.toNatClampNeg v2))], lg) rfl ?_
        obtain ⟨hp, h⟩ := x_ite h
        refine E_par (p := inr v1 4) (80, [(0, .ref 52), (1, .int v1), (2, .int v2), (3, .int v3)], [], SH0, [(6500, (upd (σ 6500) v1.toNatClampNeg v2)), (6600, (upd (σ 6600) v1.toNatClampNeg 0))], lg) rfl hp ?_
        refine E_sts 3 (83, [(0, .ref 52), (1, .int v1), (4, .int 0)], [], SH0, [(6500, (upd (σ 6500) v1.toNatClampNeg v2)), (6600, (upd (σ 6600) v1.toNatClampNeg 0)), (6700, (σ 6700))], lg) rfl ?_
        exact e_X6_sheet_L83 X σ lg _ v1 0 (upd (σ 6500) v1.toNatClampNeg v2) (upd (σ 6600) v1.toNatClampNeg 0) (σ 6700) r h
      · refine E_itf hc ?_
        refine E_sts 1 (79, [(0, .ref 52), (1, .int v1), (2, .int v2), (3, .int v3)], [.int v3, .int v1, .ref 66], SH0, [(6500, (upd (σ 6500) v1.toNatClampNeg v2))], lg) rfl ?_
        obtain ⟨hp, h⟩ := x_ite h
        refine E_par (p := inr v1 4) (80, [(0, .ref 52), (1, .int v1), (2, .int v2), (3, .int v3)], [], SH0, [(6500, (upd (σ 6500) v1.toNatClampNeg v2)), (6600, (upd (σ 6600) v1.toNatClampNeg v3))], lg) rfl hp ?_
        refine E_sts 3 (83, [(0, .ref 52), (1, .int v1), (4, .int 0)], [], SH0, [(6500, (upd (σ 6500) v1.toNatClampNeg v2)), (6600, (upd (σ 6600) v1.toNatClampNeg v3)), (6700, (σ 6700))], lg) rfl ?_
        exact e_X6_sheet_L83 X σ lg _ v1 0 (upd (σ 6500) v1.toNatClampNeg v2) (upd (σ 6600) v1.toNatClampNeg v3) (σ 6700) r h
    · refine E_itf hc ?_
      refine E_sts 2 (54, [(0, .ref 52), (1, .int v1), (2, .int v2), (3, .int v3)], [.int 0, .ref 52], SH0, [], lg) rfl ?_
      obtain ⟨r54, hr, h⟩ := x_bind h
      refine E_call rfl (e_X6_no X _ _ _ r54 hr) (by decide) ?_
      obtain rfl := Option.some.inj h
      refine E_sts 1 (57, [], [.int r54.1], SH0, [(5600, r54.2), (6500, (σ 6500)), (6600, (σ 6600)), (6700, (σ 6700))], lg) rfl ?_
      exact E_ret rfl
  · refine E_itf hc ?_
    refine E_sts 2 (42, [(0, .ref 52), (1, .int v1), (2, .int v2), (3, .int v3)], [.int 6, .ref 52], SH0, [], lg) rfl ?_
    obtain ⟨r42, hr, h⟩ := x_bind h
    refine E_call rfl (e_X6_no X _ _ _ r42 hr) (by decide) ?_
    obtain rfl := Option.some.inj h
    refine E_sts 1 (45, [], [.int r42.1], SH0, [(5600, r42.2), (6500, (σ 6500)), (6600, (σ 6600)), (6700, (σ 6700))], lg) rfl ?_
    exact E_ret rfl
set_option maxHeartbeats 4000000 in
set_option maxRecDepth 20000 in
theorem e_X6_sheet (X : xX) (σ : xM) (lg : Int64) (v1 : Int32) (v2 : Int32) (v3 : Int32) (r : Int32 × (Nat → Int32) × (Nat → Int32) × (Nat → Int32) × (Nat → Int32)) (h : X6_sheet (σ 5600) (σ 6500) (σ 6600) (σ 6700) v1 v2 v3 = some r) : EM XP X 3 207 [.ref 52, .int v1, .int v2, .int v3] SH0 lg σ (some (.int r.1), SH0, [(5600, r.2.1), (6500, r.2.2.1), (6600, r.2.2.2.1), (6700, r.2.2.2.2)], lg) := by
  refine EM_of (M := xm_207) rfl rfl ?_
  unfold X6_sheet at h
  refine E_sts 1 (1, [(0, .ref 52), (1, .int v1), (2, .int v2), (3, .int v3)], [.int v1], SH0, [], lg) rfl ?_
  refine E_call rfl (e_X6_isSheet X _ _ _ (X6_isSheet v1) rfl) (by decide) ?_
  refine E_sts 1 (if (xb (X6_isSheet v1)) = 0 then 29 else 7, [(0, .ref 52), (1, .int v1), (2, .int v2), (3, .int v3)], [], SH0, [], lg) rfl ?_
  rcases x_br h with ⟨hc, h⟩ | ⟨hc, h⟩
  · refine E_itt hc ?_
    refine E_sts 2 (31, [(0, .ref 52), (1, .int v1), (2, .int v2), (3, .int v3)], [.int 0, .ref 52], SH0, [], lg) rfl ?_
    obtain ⟨r31, hr, h⟩ := x_bind h
    refine E_call rfl (e_X6_no X _ _ _ r31 hr) (by decide) ?_
    obtain rfl := Option.some.inj h
    refine E_sts 1 (34, [], [.int r31.1], SH0, [(5600, r31.2), (6500, (σ 6500)), (6600, (σ 6600)), (6700, (σ 6700))], lg) rfl ?_
    exact E_ret rfl
  · refine E_itf hc ?_
    refine E_sts 2 (if v2 = 0 then 100035 else 11, [(0, .ref 52), (1, .int v1), (2, .int v2), (3, .int v3)], [], SH0, [], lg) rfl ?_
    rcases x_br h with ⟨hc, h⟩ | ⟨hc, h⟩
    · refine E_itt hc ?_
      refine E_sts 1 (35, [(0, .ref 52), (1, .int v1), (2, .int v2), (3, .int v3)], [], SH0, [], lg) rfl ?_
      exact e_X6_sheet_L35 X σ lg v1 v2 v3 r h
    · refine E_itf hc ?_
      refine E_sts 3 (if v2 = 8 then 100035 else 17, [(0, .ref 52), (1, .int v1), (2, .int v2), (3, .int v3)], [], SH0, [], lg) rfl ?_
      rcases x_br h with ⟨hc, h⟩ | ⟨hc, h⟩
      · refine E_itt hc ?_
        refine E_sts 1 (35, [(0, .ref 52), (1, .int v1), (2, .int v2), (3, .int v3)], [], SH0, [], lg) rfl ?_
        exact e_X6_sheet_L35 X σ lg v1 v2 v3 r h
      · refine E_itf hc ?_
        refine E_sts 3 (if v2 = 16 then 100035 else 23, [(0, .ref 52), (1, .int v1), (2, .int v2), (3, .int v3)], [], SH0, [], lg) rfl ?_
        rcases x_br h with ⟨hc, h⟩ | ⟨hc, h⟩
        · refine E_itt hc ?_
          refine E_sts 1 (35, [(0, .ref 52), (1, .int v1), (2, .int v2), (3, .int v3)], [], SH0, [], lg) rfl ?_
          exact e_X6_sheet_L35 X σ lg v1 v2 v3 r h
        · refine E_itf hc ?_
          refine E_sts 3 (if v2 = 32 then 100035 else 29, [(0, .ref 52), (1, .int v1), (2, .int v2), (3, .int v3)], [], SH0, [], lg) rfl ?_
          rcases x_br h with ⟨hc, h⟩ | ⟨hc, h⟩
          · refine E_itt hc ?_
            refine E_sts 1 (35, [(0, .ref 52), (1, .int v1), (2, .int v2), (3, .int v3)], [], SH0, [], lg) rfl ?_
            exact e_X6_sheet_L35 X σ lg v1 v2 v3 r h
          · refine E_itf hc ?_
            refine E_sts 2 (31, [(0, .ref 52), (1, .int v1), (2, .int v2), (3, .int v3)], [.int 0, .ref 52], SH0, [], lg) rfl ?_
            obtain ⟨r31_1, hr, h⟩ := x_bind h
            refine E_call rfl (e_X6_no X _ _ _ r31_1 hr) (by decide) ?_
            obtain rfl := Option.some.inj h
            refine E_sts 1 (34, [], [.int r31_1.1], SH0, [(5600, r31_1.2), (6500, (σ 6500)), (6600, (σ 6600)), (6700, (σ 6700))], lg) rfl ?_
            exact E_ret rfl
set_option maxHeartbeats 4000000 in
set_option maxRecDepth 20000 in
theorem e_X3_wrongWith (X : xX) (σ : xM) (lg : Int64) (v1 : Int32) (r : Int32) (h : X3_wrongWith (σ 4900) v1 = some r) : EM XP X 3 44 [.ref 48, .int v1] SH0 lg σ (some (.int r), SH0, [], lg) := by
  refine EM_of (M := xm_44) rfl rfl ?_
  unfold X3_wrongWith at h
  refine E_sts 2 (2, [(0, .ref 48), (1, .int v1)], [.int v1, .ref 48], SH0, [], lg) rfl ?_
  refine E_call rfl (e_X3_isSheet X _ _ _ (X3_isSheet v1) rfl) (by decide) ?_
  refine E_sts 1 (if (xb (X3_isSheet v1)) = 0 then 8 else 10, [(0, .ref 48), (1, .int v1)], [], SH0, [], lg) rfl ?_
  rcases x_br h with ⟨hc, h⟩ | ⟨hc, h⟩
  · refine E_itt hc ?_
    obtain rfl := Option.some.inj h
    refine E_sts 1 (9, [(0, .ref 48), (1, .int v1)], [.int 0], SH0, [], lg) rfl ?_
    exact E_ret rfl
  · refine E_itf hc ?_
    refine E_sts 3 (15, [(0, .ref 48), (1, .int v1)], [.int v1, .ref 49], SH0, [], lg) rfl ?_
    obtain ⟨hp, h⟩ := x_ite h
    refine E_par (p := inr v1 4) (16, [(0, .ref 48), (1, .int v1)], [.int ((σ 4900) v1.toNatClampNeg)], SH0, [], lg) rfl hp ?_
    refine E_sts 1 (if ((σ 4900) v1.toNatClampNeg) = 0 then 19 else 23, [(0, .ref 48), (1, .int v1)], [], SH0, [], lg) rfl ?_
    rcases x_br h with ⟨hc, h⟩ | ⟨hc, h⟩
    · refine E_itt hc ?_
      obtain rfl := Option.some.inj h
      refine E_sts 2 (24, [(0, .ref 48), (1, .int v1)], [.int 5], SH0, [], lg) rfl ?_
      exact E_ret rfl
    · refine E_itf hc ?_
      obtain rfl := Option.some.inj h
      refine E_sts 1 (24, [(0, .ref 48), (1, .int v1)], [.int (-1)], SH0, [], lg) rfl ?_
      exact E_ret rfl
set_option maxHeartbeats 4000000 in
set_option maxRecDepth 20000 in
theorem e_X3_set (X : xX) (σ : xM) (lg : Int64) (v1 : Int32) (v2 : Int32) (v3 : Int32) (r : (Nat → Int32)) (h : X3_set (σ 4900) (σ 5100) v1 v2 v3 = some r) : EM XP X 1 47 [.ref 48, .int v1, .int v2, .int v3] SH0 lg σ (none, SH0, [(5100, r)], lg) := by
  refine EM_of (M := xm_47) rfl rfl ?_
  unfold X3_set at h
  refine E_sts 4 (7, [(0, .ref 48), (1, .int v1), (2, .int v2), (3, .int v3)], [.int v1, .ref 49, .int 32], SH0, [], lg) rfl ?_
  obtain ⟨hp, h⟩ := x_ite h
  refine E_par (p := inr v1 4) (8, [(0, .ref 48), (1, .int v1), (2, .int v2), (3, .int v3)], [.int ((σ 4900) v1.toNatClampNeg), .int 32], SH0, [], lg) rfl hp ?_
  refine E_sts 14 (28, [(0, .ref 48), (1, .int v1), (2, .int v2), (3, .int v3), (4, .int (32 - ((σ 4900) v1.toNatClampNeg)))], [.int (xshr (xshl v3 (32 - ((σ 4900) v1.toNatClampNeg))) (32 - ((σ 4900) v1.toNatClampNeg))), .int ((v1 * 40) + v2), .ref 51], SH0, [], lg) rfl ?_
  obtain ⟨hp, h⟩ := x_ite h
  refine E_par (p := inr ((v1 * 40) + v2) 160) (29, [(0, .ref 48), (1, .int v1), (2, .int v2), (3, .int v3), (4, .int (32 - ((σ 4900) v1.toNatClampNeg)))], [], SH0, [(5100, (upd (σ 5100) ((v1 * 40) + v2).toNatClampNeg (xshr (xshl v3 (32 - ((σ 4900) v1.toNatClampNeg))) (32 - ((σ 4900) v1.toNatClampNeg)))))], lg) rfl hp ?_
  obtain rfl := Option.some.inj h
  exact E_ret rfl
set_option maxHeartbeats 4000000 in
set_option maxRecDepth 20000 in
theorem e_X5_write (X : xX) (σ : xM) (lg : Int64) (v1 : Int32) (v2 : Int32) (v3 : Int32) (r : Int32 × (Nat → Int32) × (Nat → Int32)) (h : X5_write (σ 100) (σ 4900) (σ 5000) (σ 5100) v1 v2 v3 = some r) : EM XP X 4 105 [.ref 0, .int v1, .int v2, .int v3] SH0 lg σ (some (.int r.1), SH0, [(100, r.2.1), (5100, r.2.2)], lg) := by
  refine EM_of (M := xm_105) rfl rfl ?_
  unfold X5_write at h
  refine E_sts 3 (5, [(0, .ref 0), (1, .int v1), (2, .int v2), (3, .int v3)], [.int v1, .ref 48], SH0, [], lg) rfl ?_
  obtain ⟨r5, hr, h⟩ := x_bind h
  refine E_call rfl (e_X3_wrongWith X _ _ _ r5 hr) (by decide) ?_
  refine E_sts 4 (if r5 = (-1) then 23 else 16, [(0, .ref 0), (1, .int v1), (2, .int v2), (3, .int v3), (4, .int r5)], [], SH0, [], lg) rfl ?_
  rcases x_br h with ⟨hc, h⟩ | ⟨hc, h⟩
  · refine E_itt hc ?_
    refine E_sts 6 (33, [(0, .ref 0), (1, .int v1), (2, .int v2), (3, .int v3), (4, .int r5)], [.int v1, .ref 50, .int 0, .int v2], SH0, [], lg) rfl ?_
    obtain ⟨hp, h⟩ := x_ite h
    refine E_par (p := inr v1 4) (34, [(0, .ref 0), (1, .int v1), (2, .int v2), (3, .int v3), (4, .int r5)], [.int ((σ 5000) v1.toNatClampNeg), .int 0, .int v2], SH0, [], lg) rfl hp ?_
    refine E_sts 2 (36, [(0, .ref 0), (1, .int v1), (2, .int v2), (3, .int v3), (4, .int r5)], [.int (((σ 5000) v1.toNatClampNeg) - 1), .int 0, .int v2], SH0, [], lg) rfl ?_
    refine E_call rfl (e_X5_isIn X _ _ _ _ _ (X5_isIn v2 0 (((σ 5000) v1.toNatClampNeg) - 1)) rfl) (by decide) ?_
    refine E_sts 1 (if (xb (X5_isIn v2 0 (((σ 5000) v1.toNatClampNeg) - 1))) = 0 then 42 else 48, [(0, .ref 0), (1, .int v1), (2, .int v2), (3, .int v3), (4, .int r5)], [], SH0, [], lg) rfl ?_
    rcases x_br h with ⟨hc, h⟩ | ⟨hc, h⟩
    · refine E_itt hc ?_
      refine E_sts 2 (44, [(0, .ref 0), (1, .int v1), (2, .int v2), (3, .int v3), (4, .int r5)], [.int 0, .ref 0], SH0, [], lg) rfl ?_
      obtain ⟨r44, hr, h⟩ := x_bind h
      refine E_call rfl (e_X5_finding X _ _ _ r44 hr) (by decide) ?_
      obtain rfl := Option.some.inj h
      refine E_sts 1 (47, [], [.int r44.1], SH0, [(100, r44.2), (5100, (σ 5100))], lg) rfl ?_
      exact E_ret rfl
    · refine E_itf hc ?_
      refine E_sts 5 (55, [(0, .ref 0), (1, .int v1), (2, .int v2), (3, .int v3), (4, .int r5)], [.int v3, .int v2, .int v1, .ref 48], SH0, [], lg) rfl ?_
      obtain ⟨r55, hr, h⟩ := x_bind h
      refine E_call rfl (e_X3_set X _ _ _ _ _ r55 hr) (by decide) ?_
      obtain rfl := Option.some.inj h
      refine E_sts 2 (59, [], [.int 1], SH0, [(100, (σ 100)), (5100, r55)], lg) rfl ?_
      exact E_ret rfl
  · refine E_itf hc ?_
    refine E_sts 2 (19, [(0, .ref 0), (1, .int v1), (2, .int v2), (3, .int v3), (4, .int r5)], [.int r5, .ref 0], SH0, [], lg) rfl ?_
    obtain ⟨r19, hr, h⟩ := x_bind h
    refine E_call rfl (e_X5_finding X _ _ _ r19 hr) (by decide) ?_
    obtain rfl := Option.some.inj h
    refine E_sts 1 (22, [], [.int r19.1], SH0, [(100, r19.2), (5100, (σ 5100))], lg) rfl ?_
    exact E_ret rfl
set_option maxHeartbeats 4000000 in
set_option maxRecDepth 20000 in
theorem e_X6_wrongSheet (X : xX) (σ : xM) (lg : Int64) (v1 : Int32) (r : Int32) (h : X6_wrongSheet (σ 6500) v1 = some r) : EM XP X 3 205 [.ref 52, .int v1] SH0 lg σ (some (.int r), SH0, [], lg) := by
  refine EM_of (M := xm_205) rfl rfl ?_
  unfold X6_wrongSheet at h
  refine E_sts 1 (1, [(0, .ref 52), (1, .int v1)], [.int v1], SH0, [], lg) rfl ?_
  refine E_call rfl (e_X6_isSheet X _ _ _ (X6_isSheet v1) rfl) (by decide) ?_
  refine E_sts 1 (if (xb (X6_isSheet v1)) = 0 then 7 else 11, [(0, .ref 52), (1, .int v1)], [], SH0, [], lg) rfl ?_
  rcases x_br h with ⟨hc, h⟩ | ⟨hc, h⟩
  · refine E_itt hc ?_
    obtain rfl := Option.some.inj h
    refine E_sts 2 (25, [(0, .ref 52), (1, .int v1)], [.int 0], SH0, [], lg) rfl ?_
    exact E_ret rfl
  · refine E_itf hc ?_
    refine E_sts 3 (16, [(0, .ref 52), (1, .int v1)], [.int v1, .ref 65], SH0, [], lg) rfl ?_
    obtain ⟨hp, h⟩ := x_ite h
    refine E_par (p := inr v1 4) (17, [(0, .ref 52), (1, .int v1)], [.int ((σ 6500) v1.toNatClampNeg)], SH0, [], lg) rfl hp ?_
    refine E_sts 1 (if ((σ 6500) v1.toNatClampNeg) = 0 then 20 else 24, [(0, .ref 52), (1, .int v1)], [], SH0, [], lg) rfl ?_
    rcases x_br h with ⟨hc, h⟩ | ⟨hc, h⟩
    · refine E_itt hc ?_
      obtain rfl := Option.some.inj h
      refine E_sts 2 (25, [(0, .ref 52), (1, .int v1)], [.int 5], SH0, [], lg) rfl ?_
      exact E_ret rfl
    · refine E_itf hc ?_
      obtain rfl := Option.some.inj h
      refine E_sts 1 (25, [(0, .ref 52), (1, .int v1)], [.int (-1)], SH0, [], lg) rfl ?_
      exact E_ret rfl
