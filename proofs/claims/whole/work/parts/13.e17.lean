/-! what the machine answers is what the functions say (by gen/emit.py) -/
set_option maxHeartbeats 4000000 in
set_option maxRecDepth 20000 in
theorem e_X5_count (X : xX) (σ : xM) (lg : Int64) (v1 : Int32) (r : Int32 × (Nat → Int32)) (h : X5_count (σ 100) (σ 201 0) (σ 207 0) (σ 209 0) (σ 214 0) (σ 400) (σ 600) (σ 1100) (σ 4202 0) v1 = some r) : EM XP X 3 113 [.ref 0, .int v1] SH0 lg σ (some (.int r.1), SH0, [(100, r.2)], lg) := by
  refine EM_of (M := xm_113) rfl ?_
  unfold X5_count at h
  refine E_sts 2 (if v1 = 0 then 48 else if v1 = 1 then 56 else if v1 = 2 then 64 else if v1 = 3 then 72 else if v1 = 4 then 80 else if v1 = 5 then 88 else if v1 = 6 then 96 else if v1 = 7 then 104 else 112, [(0, .ref 0), (1, .int v1)], [], SH0, [], lg) rfl ?_
  rcases x_br h with ⟨hc, h⟩ | ⟨hc, h⟩
  · refine E_itt hc ?_
    obtain rfl := Option.some.inj h
    refine E_sts 4 (55, [], [.int (σ 207 0)], SH0, [(100, (σ 100))], lg) rfl ?_
    exact E_ret rfl
  refine E_itf hc ?_
  rcases x_br h with ⟨hc, h⟩ | ⟨hc, h⟩
  · refine E_itt hc ?_
    obtain rfl := Option.some.inj h
    refine E_sts 4 (63, [], [.int (σ 201 0)], SH0, [(100, (σ 100))], lg) rfl ?_
    exact E_ret rfl
  refine E_itf hc ?_
  rcases x_br h with ⟨hc, h⟩ | ⟨hc, h⟩
  · refine E_itt hc ?_
    refine E_sts 2 (68, [(0, .ref 0), (1, .int v1)], [.ref 2], SH0, [], lg) rfl ?_
    obtain ⟨r68, hr, h⟩ := x_bind h
    refine E_call rfl (e_X2_contracts X _ _ r68 hr) (by decide) ?_
    obtain rfl := Option.some.inj h
    refine E_sts 1 (71, [], [.int r68], SH0, [(100, (σ 100))], lg) rfl ?_
    exact E_ret rfl
  refine E_itf hc ?_
  rcases x_br h with ⟨hc, h⟩ | ⟨hc, h⟩
  · refine E_itt hc ?_
    obtain rfl := Option.some.inj h
    refine E_sts 4 (79, [], [.int (σ 209 0)], SH0, [(100, (σ 100))], lg) rfl ?_
    exact E_ret rfl
  refine E_itf hc ?_
  rcases x_br h with ⟨hc, h⟩ | ⟨hc, h⟩
  · refine E_itt hc ?_
    refine E_sts 2 (84, [(0, .ref 0), (1, .int v1)], [.ref 2], SH0, [], lg) rfl ?_
    obtain ⟨r84, hr, h⟩ := x_bind h
    refine E_call rfl (e_X2_lovesTogether X _ _ r84 hr) (by decide) ?_
    obtain rfl := Option.some.inj h
    refine E_sts 1 (87, [], [.int r84], SH0, [(100, (σ 100))], lg) rfl ?_
    exact E_ret rfl
  refine E_itf hc ?_
  rcases x_br h with ⟨hc, h⟩ | ⟨hc, h⟩
  · refine E_itt hc ?_
    obtain rfl := Option.some.inj h
    refine E_sts 4 (95, [], [.int (σ 4202 0)], SH0, [(100, (σ 100))], lg) rfl ?_
    exact E_ret rfl
  refine E_itf hc ?_
  rcases x_br h with ⟨hc, h⟩ | ⟨hc, h⟩
  · refine E_itt hc ?_
    obtain rfl := Option.some.inj h
    refine E_sts 4 (103, [], [.int (σ 214 0)], SH0, [(100, (σ 100))], lg) rfl ?_
    exact E_ret rfl
  refine E_itf hc ?_
  rcases x_br h with ⟨hc, h⟩ | ⟨hc, h⟩
  · refine E_itt hc ?_
    refine E_sts 2 (108, [(0, .ref 0), (1, .int v1)], [.ref 2], SH0, [], lg) rfl ?_
    obtain ⟨r108, hr, h⟩ := x_bind h
    refine E_call rfl (e_X2_heldSpots X _ _ r108 hr) (by decide) ?_
    obtain rfl := Option.some.inj h
    refine E_sts 1 (111, [], [.int r108], SH0, [(100, (σ 100))], lg) rfl ?_
    exact E_ret rfl
  refine E_itf hc ?_
  refine E_sts 2 (114, [(0, .ref 0), (1, .int v1)], [.int 0, .ref 0], SH0, [], lg) rfl ?_
  obtain ⟨r114, hr, h⟩ := x_bind h
  refine E_call rfl (e_X5_finding X _ _ _ r114 hr) (by decide) ?_
  obtain rfl := Option.some.inj h
  exact E_ret rfl
set_option maxHeartbeats 4000000 in
set_option maxRecDepth 20000 in
theorem e_X6_count_L64 (X : xX) (σ : xM) (lg : Int64) : ∀ (n : Nat), ∀ (v2 : Int32) (v3 : Int32) (r : Int32 × (Nat → Int32)), X6_count_L64 (σ 5300) (σ 5600) n v2 v3 = some r → E XP X 1 xm_217 σ (64, [(0, .ref 52), (2, .int v2), (3, .int v3)], [], SH0, [], lg) (some (.int r.1), SH0, [(5600, r.2)], lg) := by
  intro n
  induction n with
  | zero => intro v2 v3 r h; rw [X6_count_L64] at h; cases h
  | succ n ih =>
    intro v2 v3 r h
    rw [X6_count_L64] at h
    refine E_sts 4 (70, [(0, .ref 52), (2, .int v2), (3, .int v3)], [.int 3, .ref 53, .int v3], SH0, [], lg) rfl ?_
    refine E_par (p := inr 3 83) (71, [(0, .ref 52), (2, .int v2), (3, .int v3)], [.int ((σ 5300) 3), .int v3], SH0, [], lg) rfl (by decide) ?_
    refine E_sts 1 (if ((σ 5300) 3) ≤ v3 then 92 else 74, [(0, .ref 52), (2, .int v2), (3, .int v3)], [], SH0, [], lg) rfl ?_
    rcases x_br h with ⟨hc, h⟩ | ⟨hc, h⟩
    · refine E_itt hc ?_
      obtain rfl := Option.some.inj h
      refine E_sts 2 (93, [], [.int v2], SH0, [(5600, (σ 5600))], lg) rfl ?_
      exact E_ret rfl
    · refine E_itf hc ?_
      refine E_sts 4 (78, [(0, .ref 52), (2, .int v2), (3, .int v3)], [.int 3, .int v3, .ref 52, .int v2], SH0, [], lg) rfl ?_
      obtain ⟨r78, hr, h⟩ := x_bind h
      refine E_call rfl (e_X6_get X _ _ _ _ r78 hr) (by decide) ?_
      obtain ⟨r81, hr, h⟩ := x_bind h
      refine E_call rfl (e_X6_bits X _ _ _ r81 hr) (by decide) ?_
      refine E_sts 5 (64, [(0, .ref 52), (2, .int (v2 + r81)), (3, .int (v3 + 1))], [], SH0, [], lg) rfl ?_
      exact ih (v2 + r81) (v3 + 1) r h
set_option maxHeartbeats 4000000 in
set_option maxRecDepth 20000 in
theorem e_X6_count_L103 (X : xX) (σ : xM) (lg : Int64) : ∀ (n : Nat), ∀ (v2 : Int32) (v3 : Int32) (r : Int32 × (Nat → Int32)), X6_count_L103 (σ 5300) (σ 5600) n v2 v3 = some r → E XP X 1 xm_217 σ (103, [(0, .ref 52), (2, .int v2), (3, .int v3)], [], SH0, [], lg) (some (.int r.1), SH0, [(5600, r.2)], lg) := by
  intro n
  induction n with
  | zero => intro v2 v3 r h; rw [X6_count_L103] at h; cases h
  | succ n ih =>
    intro v2 v3 r h
    rw [X6_count_L103] at h
    refine E_sts 4 (109, [(0, .ref 52), (2, .int v2), (3, .int v3)], [.int 3, .ref 53, .int v3], SH0, [], lg) rfl ?_
    refine E_par (p := inr 3 83) (110, [(0, .ref 52), (2, .int v2), (3, .int v3)], [.int ((σ 5300) 3), .int v3], SH0, [], lg) rfl (by decide) ?_
    refine E_sts 1 (if ((σ 5300) 3) ≤ v3 then 128 else 113, [(0, .ref 52), (2, .int v2), (3, .int v3)], [], SH0, [], lg) rfl ?_
    rcases x_br h with ⟨hc, h⟩ | ⟨hc, h⟩
    · refine E_itt hc ?_
      obtain rfl := Option.some.inj h
      refine E_sts 2 (129, [], [.int v2], SH0, [(5600, (σ 5600))], lg) rfl ?_
      exact E_ret rfl
    · refine E_itf hc ?_
      refine E_sts 4 (117, [(0, .ref 52), (2, .int v2), (3, .int v3)], [.int 1, .int v3, .ref 52, .int v2], SH0, [], lg) rfl ?_
      obtain ⟨r117, hr, h⟩ := x_bind h
      refine E_call rfl (e_X6_get X _ _ _ _ r117 hr) (by decide) ?_
      refine E_sts 5 (103, [(0, .ref 52), (2, .int (v2 + r117)), (3, .int (v3 + 1))], [], SH0, [], lg) rfl ?_
      exact ih (v2 + r117) (v3 + 1) r h
set_option maxHeartbeats 4000000 in
set_option maxRecDepth 20000 in
theorem e_X6_count_L144 (X : xX) (σ : xM) (lg : Int64) : ∀ (n : Nat), ∀ (v2 : Int32) (v3 : Int32) (r : Int32 × (Nat → Int32)), X6_count_L144 (σ 5300) (σ 5600) n v2 v3 = some r → E XP X 1 xm_217 σ (144, [(0, .ref 52), (2, .int v2), (3, .int v3)], [], SH0, [], lg) (some (.int r.1), SH0, [(5600, r.2)], lg) := by
  intro n
  induction n with
  | zero => intro v2 v3 r h; rw [X6_count_L144] at h; cases h
  | succ n ih =>
    intro v2 v3 r h
    rw [X6_count_L144] at h
    refine E_sts 3 (if 10 ≤ v3 then 176 else 150, [(0, .ref 52), (2, .int v2), (3, .int v3)], [], SH0, [], lg) rfl ?_
    rcases x_br h with ⟨hc, h⟩ | ⟨hc, h⟩
    · refine E_itt hc ?_
      obtain rfl := Option.some.inj h
      refine E_sts 2 (177, [], [.int v2], SH0, [(5600, (σ 5600))], lg) rfl ?_
      exact E_ret rfl
    · refine E_itf hc ?_
      refine E_sts 6 (159, [(0, .ref 52), (2, .int v2), (3, .int v3)], [.int (73 + v3), .ref 53, .int v2], SH0, [], lg) rfl ?_
      obtain ⟨hp, h⟩ := x_ite h
      refine E_par (p := inr (73 + v3) 83) (160, [(0, .ref 52), (2, .int v2), (3, .int v3)], [.int ((σ 5300) (73 + v3).toNatClampNeg), .int v2], SH0, [], lg) rfl hp ?_
      refine E_sts 1 (if ((σ 5300) (73 + v3).toNatClampNeg) < 0 then 167 else 163, [(0, .ref 52), (2, .int v2), (3, .int v3)], [.int v2], SH0, [], lg) rfl ?_
      rcases x_br h with ⟨hc, h⟩ | ⟨hc, h⟩
      · refine E_itt hc ?_
        refine E_sts 6 (144, [(0, .ref 52), (2, .int (v2 + 0)), (3, .int (v3 + 1))], [], SH0, [], lg) rfl ?_
        exact ih (v2 + 0) (v3 + 1) r h
      · refine E_itf hc ?_
        refine E_sts 7 (144, [(0, .ref 52), (2, .int (v2 + 1)), (3, .int (v3 + 1))], [], SH0, [], lg) rfl ?_
        exact ih (v2 + 1) (v3 + 1) r h
set_option maxHeartbeats 4000000 in
set_option maxRecDepth 20000 in
theorem e_X6_count (X : xX) (σ : xM) (lg : Int64) (v1 : Int32) (r : Int32 × (Nat → Int32)) (h : X6_count (σ 5213 0) (σ 5300) (σ 5600) v1 = some r) : EM XP X 2 217 [.ref 52, .int v1] SH0 lg σ (some (.int r.1), SH0, [(5600, r.2)], lg) := by
  refine EM_of (M := xm_217) rfl ?_
  unfold X6_count at h
  refine E_sts 4 (if v1 = 0 then 48 else if v1 = 1 then 55 else if v1 = 2 then 62 else if v1 = 3 then 94 else if v1 = 4 then 101 else if v1 = 5 then 130 else if v1 = 6 then 135 else if v1 = 7 then 142 else 178, [(0, .ref 52), (1, .int v1), (2, .int 0)], [], SH0, [], lg) rfl ?_
  rcases x_br h with ⟨hc, h⟩ | ⟨hc, h⟩
  · refine E_itt hc ?_
    refine E_sts 3 (53, [(0, .ref 52), (1, .int v1), (2, .int 0)], [.int 2, .ref 53], SH0, [], lg) rfl ?_
    refine E_par (p := inr 2 83) (100054, [(0, .ref 52), (1, .int v1), (2, .int 0)], [.int ((σ 5300) 2)], SH0, [], lg) rfl (by decide) ?_
    obtain rfl := Option.some.inj h
    refine E_sts 1 (54, [], [.int ((σ 5300) 2)], SH0, [(5600, (σ 5600))], lg) rfl ?_
    exact E_ret rfl
  refine E_itf hc ?_
  rcases x_br h with ⟨hc, h⟩ | ⟨hc, h⟩
  · refine E_itt hc ?_
    refine E_sts 3 (60, [(0, .ref 52), (1, .int v1), (2, .int 0)], [.int 3, .ref 53], SH0, [], lg) rfl ?_
    refine E_par (p := inr 3 83) (100061, [(0, .ref 52), (1, .int v1), (2, .int 0)], [.int ((σ 5300) 3)], SH0, [], lg) rfl (by decide) ?_
    obtain rfl := Option.some.inj h
    refine E_sts 1 (61, [], [.int ((σ 5300) 3)], SH0, [(5600, (σ 5600))], lg) rfl ?_
    exact E_ret rfl
  refine E_itf hc ?_
  rcases x_br h with ⟨hc, h⟩ | ⟨hc, h⟩
  · refine E_itt hc ?_
    refine E_sts 3 (64, [(0, .ref 52), (2, .int 0), (3, .int 0)], [], SH0, [], lg) rfl ?_
    exact e_X6_count_L64 X σ lg _ 0 0 r h
  refine E_itf hc ?_
  rcases x_br h with ⟨hc, h⟩ | ⟨hc, h⟩
  · refine E_itt hc ?_
    refine E_sts 3 (99, [(0, .ref 52), (1, .int v1), (2, .int 0)], [.int 0, .ref 53], SH0, [], lg) rfl ?_
    refine E_par (p := inr 0 83) (100100, [(0, .ref 52), (1, .int v1), (2, .int 0)], [.int ((σ 5300) 0)], SH0, [], lg) rfl (by decide) ?_
    obtain rfl := Option.some.inj h
    refine E_sts 1 (100, [], [.int ((σ 5300) 0)], SH0, [(5600, (σ 5600))], lg) rfl ?_
    exact E_ret rfl
  refine E_itf hc ?_
  rcases x_br h with ⟨hc, h⟩ | ⟨hc, h⟩
  · refine E_itt hc ?_
    refine E_sts 3 (103, [(0, .ref 52), (2, .int 0), (3, .int 0)], [], SH0, [], lg) rfl ?_
    exact e_X6_count_L103 X σ lg _ 0 0 r h
  refine E_itf hc ?_
  rcases x_br h with ⟨hc, h⟩ | ⟨hc, h⟩
  · refine E_itt hc ?_
    obtain rfl := Option.some.inj h
    refine E_sts 3 (134, [], [.int (σ 5213 0)], SH0, [(5600, (σ 5600))], lg) rfl ?_
    exact E_ret rfl
  refine E_itf hc ?_
  rcases x_br h with ⟨hc, h⟩ | ⟨hc, h⟩
  · refine E_itt hc ?_
    refine E_sts 3 (140, [(0, .ref 52), (1, .int v1), (2, .int 0)], [.int 4, .ref 53], SH0, [], lg) rfl ?_
    refine E_par (p := inr 4 83) (100141, [(0, .ref 52), (1, .int v1), (2, .int 0)], [.int ((σ 5300) 4)], SH0, [], lg) rfl (by decide) ?_
    obtain rfl := Option.some.inj h
    refine E_sts 1 (141, [], [.int ((σ 5300) 4)], SH0, [(5600, (σ 5600))], lg) rfl ?_
    exact E_ret rfl
  refine E_itf hc ?_
  rcases x_br h with ⟨hc, h⟩ | ⟨hc, h⟩
  · refine E_itt hc ?_
    refine E_sts 3 (144, [(0, .ref 52), (2, .int 0), (3, .int 0)], [], SH0, [], lg) rfl ?_
    exact e_X6_count_L144 X σ lg _ 0 0 r h
  refine E_itf hc ?_
  refine E_sts 2 (180, [(0, .ref 52), (1, .int v1), (2, .int 0)], [.int 0, .ref 52], SH0, [], lg) rfl ?_
  obtain ⟨r180, hr, h⟩ := x_bind h
  refine E_call rfl (e_X6_no X _ _ _ r180 hr) (by decide) ?_
  obtain rfl := Option.some.inj h
  exact E_ret rfl
set_option maxHeartbeats 4000000 in
set_option maxRecDepth 20000 in
theorem e_X5_status_L31 (X : xX) (σ : xM) (lg : Int64) : ∀ (n : Nat), ∀ (v2 : Int32) (v3 : Int32) (r : Int32 × (Nat → Int32)), X5_status_L31 (σ 100) n v2 v3 = some r → E XP X 1 xm_114 σ (31, [(0, .ref 0), (2, .int v2), (3, .int v3)], [], SH0, [], lg) (some (.int r.1), SH0, [(100, r.2)], lg) := by
  intro n
  induction n with
  | zero => intro v2 v3 r h; rw [X5_status_L31] at h; cases h
  | succ n ih =>
    intro v2 v3 r h
    rw [X5_status_L31] at h
    refine E_sts 3 (if 7 ≤ v3 then 52 else 37, [(0, .ref 0), (2, .int v2), (3, .int v3)], [], SH0, [], lg) rfl ?_
    rcases x_br h with ⟨hc, h⟩ | ⟨hc, h⟩
    · refine E_itt hc ?_
      obtain rfl := Option.some.inj h
      refine E_sts 2 (53, [], [.int v2], SH0, [(100, (σ 100))], lg) rfl ?_
      exact E_ret rfl
    · refine E_itf hc ?_
      refine E_sts 4 (43, [(0, .ref 0), (2, .int v2), (3, .int v3)], [.int v3, .ref 1, .int v2], SH0, [], lg) rfl ?_
      obtain ⟨hp, h⟩ := x_ite h
      refine E_par (p := inr v3 7) (44, [(0, .ref 0), (2, .int v2), (3, .int v3)], [.int ((σ 100) v3.toNatClampNeg), .int v2], SH0, [], lg) rfl hp ?_
      refine E_sts 5 (31, [(0, .ref 0), (2, .int (v2 + ((σ 100) v3.toNatClampNeg))), (3, .int (v3 + 1))], [], SH0, [], lg) rfl ?_
      exact ih (v2 + ((σ 100) v3.toNatClampNeg)) (v3 + 1) r h
set_option maxHeartbeats 4000000 in
set_option maxRecDepth 20000 in
theorem e_X5_status (X : xX) (σ : xM) (lg : Int64) (v1 : Int32) (r : Int32 × (Nat → Int32)) (h : X5_status (σ 100) v1 = some r) : EM XP X 2 114 [.ref 0, .int v1] SH0 lg σ (some (.int r.1), SH0, [(100, r.2)], lg) := by
  refine EM_of (M := xm_114) rfl ?_
  unfold X5_status at h
  refine E_sts 3 (4, [(0, .ref 0), (1, .int v1)], [.int 6, .int (-1), .int v1], SH0, [], lg) rfl ?_
  refine E_call rfl (e_X5_isIn X _ _ _ _ _ (X5_isIn v1 (-1) 6) rfl) (by decide) ?_
  refine E_sts 1 (if (xb (X5_isIn v1 (-1) 6)) = 0 then 10 else 16, [(0, .ref 0), (1, .int v1)], [], SH0, [], lg) rfl ?_
  rcases x_br h with ⟨hc, h⟩ | ⟨hc, h⟩
  · refine E_itt hc ?_
    refine E_sts 2 (12, [(0, .ref 0), (1, .int v1)], [.int 0, .ref 0], SH0, [], lg) rfl ?_
    obtain ⟨r12, hr, h⟩ := x_bind h
    refine E_call rfl (e_X5_finding X _ _ _ r12 hr) (by decide) ?_
    obtain rfl := Option.some.inj h
    exact E_ret rfl
  · refine E_itf hc ?_
    refine E_sts 2 (if v1 < 0 then 27 else 20, [(0, .ref 0), (1, .int v1)], [], SH0, [], lg) rfl ?_
    rcases x_br h with ⟨hc, h⟩ | ⟨hc, h⟩
    · refine E_itt hc ?_
      refine E_sts 5 (31, [(0, .ref 0), (2, .int 0), (3, .int 0)], [], SH0, [], lg) rfl ?_
      exact e_X5_status_L31 X σ lg _ 0 0 r h
    · refine E_itf hc ?_
      refine E_sts 3 (25, [(0, .ref 0), (1, .int v1)], [.int v1, .ref 1], SH0, [], lg) rfl ?_
      obtain ⟨hp, h⟩ := x_ite h
      refine E_par (p := inr v1 7) (100026, [(0, .ref 0), (1, .int v1)], [.int ((σ 100) v1.toNatClampNeg)], SH0, [], lg) rfl hp ?_
      obtain rfl := Option.some.inj h
      refine E_sts 1 (26, [], [.int ((σ 100) v1.toNatClampNeg)], SH0, [(100, (σ 100))], lg) rfl ?_
      exact E_ret rfl
set_option maxHeartbeats 4000000 in
set_option maxRecDepth 20000 in
theorem e_X6_status_L20 (X : xX) (σ : xM) (lg : Int64) : ∀ (n : Nat), ∀ (v1 : Int32) (v2 : Int32) (v3 : Int32) (r : Int32 × (Nat → Int32)), X6_status_L20 (σ 5600) n v1 v2 v3 = some r → E XP X 1 xm_218 σ (20, [(0, .ref 52), (1, .int v1), (2, .int v2), (3, .int v3)], [], SH0, [], lg) (some (.int r.1), SH0, [(5600, r.2)], lg) := by
  intro n
  induction n with
  | zero => intro v1 v2 v3 r h; rw [X6_status_L20] at h; cases h
  | succ n ih =>
    intro v1 v2 v3 r h
    rw [X6_status_L20] at h
    refine E_sts 3 (if 7 ≤ v3 then 55 else 26, [(0, .ref 52), (1, .int v1), (2, .int v2), (3, .int v3)], [], SH0, [], lg) rfl ?_
    rcases x_br h with ⟨hc, h⟩ | ⟨hc, h⟩
    · refine E_itt hc ?_
      obtain rfl := Option.some.inj h
      refine E_sts 2 (56, [], [.int v2], SH0, [(5600, (σ 5600))], lg) rfl ?_
      exact E_ret rfl
    · refine E_itf hc ?_
      refine E_sts 4 (if v1 = (-1) then 37 else 32, [(0, .ref 52), (1, .int v1), (2, .int v2), (3, .int v3)], [.int v2], SH0, [], lg) rfl ?_
      rcases x_br h with ⟨hc, h⟩ | ⟨hc, h⟩
      · refine E_itt hc ?_
        refine E_sts 3 (42, [(0, .ref 52), (1, .int v1), (2, .int v2), (3, .int v3)], [.int v3, .ref 56, .int v2], SH0, [], lg) rfl ?_
        obtain ⟨hp, h⟩ := x_ite h
        refine E_par (p := inr v3 7) (43, [(0, .ref 52), (1, .int v1), (2, .int v2), (3, .int v3)], [.int ((σ 5600) v3.toNatClampNeg), .int v2], SH0, [], lg) rfl hp ?_
        refine E_sts 6 (20, [(0, .ref 52), (1, .int v1), (2, .int (v2 + ((σ 5600) v3.toNatClampNeg))), (3, .int (v3 + 1))], [], SH0, [], lg) rfl ?_
        exact ih v1 (v2 + ((σ 5600) v3.toNatClampNeg)) (v3 + 1) r h
      · refine E_itf hc ?_
        refine E_sts 3 (if v1 = v3 then 37 else 46, [(0, .ref 52), (1, .int v1), (2, .int v2), (3, .int v3)], [.int v2], SH0, [], lg) rfl ?_
        rcases x_br h with ⟨hc, h⟩ | ⟨hc, h⟩
        · refine E_itt hc ?_
          refine E_sts 3 (42, [(0, .ref 52), (1, .int v1), (2, .int v2), (3, .int v3)], [.int v3, .ref 56, .int v2], SH0, [], lg) rfl ?_
          obtain ⟨hp, h⟩ := x_ite h
          refine E_par (p := inr v3 7) (43, [(0, .ref 52), (1, .int v1), (2, .int v2), (3, .int v3)], [.int ((σ 5600) v3.toNatClampNeg), .int v2], SH0, [], lg) rfl hp ?_
          refine E_sts 6 (20, [(0, .ref 52), (1, .int v1), (2, .int (v2 + ((σ 5600) v3.toNatClampNeg))), (3, .int (v3 + 1))], [], SH0, [], lg) rfl ?_
          exact ih v1 (v2 + ((σ 5600) v3.toNatClampNeg)) (v3 + 1) r h
        · refine E_itf hc ?_
          refine E_sts 6 (20, [(0, .ref 52), (1, .int v1), (2, .int (v2 + 0)), (3, .int (v3 + 1))], [], SH0, [], lg) rfl ?_
          exact ih v1 (v2 + 0) (v3 + 1) r h
set_option maxHeartbeats 4000000 in
set_option maxRecDepth 20000 in
theorem e_X6_status (X : xX) (σ : xM) (lg : Int64) (v1 : Int32) (r : Int32 × (Nat → Int32)) (h : X6_status (σ 5600) v1 = some r) : EM XP X 2 218 [.ref 52, .int v1] SH0 lg σ (some (.int r.1), SH0, [(5600, r.2)], lg) := by
  refine EM_of (M := xm_218) rfl ?_
  unfold X6_status at h
  refine E_sts 3 (4, [(0, .ref 52), (1, .int v1)], [.int 6, .int (-1), .int v1], SH0, [], lg) rfl ?_
  refine E_call rfl (e_X6_in1 X _ _ _ _ _ (X6_in1 v1 (-1) 6) rfl) (by decide) ?_
  refine E_sts 1 (if (xb (X6_in1 v1 (-1) 6)) = 0 then 10 else 16, [(0, .ref 52), (1, .int v1)], [], SH0, [], lg) rfl ?_
  rcases x_br h with ⟨hc, h⟩ | ⟨hc, h⟩
  · refine E_itt hc ?_
    refine E_sts 2 (12, [(0, .ref 52), (1, .int v1)], [.int 0, .ref 52], SH0, [], lg) rfl ?_
    obtain ⟨r12, hr, h⟩ := x_bind h
    refine E_call rfl (e_X6_no X _ _ _ r12 hr) (by decide) ?_
    obtain rfl := Option.some.inj h
    exact E_ret rfl
  · refine E_itf hc ?_
    refine E_sts 5 (20, [(0, .ref 52), (1, .int v1), (2, .int 0), (3, .int 0)], [], SH0, [], lg) rfl ?_
    exact e_X6_status_L20 X σ lg _ v1 0 0 r h
