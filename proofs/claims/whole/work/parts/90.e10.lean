/-! what the machine answers is what the functions say (by gen/emit.py) -/
set_option maxHeartbeats 4000000 in
set_option maxRecDepth 20000 in
theorem e_X6_evening_L58 (X : xX) (σ : xM) (lg : Int64) (k23 : Int32 → Int32 → Int32 → Int32 → (Nat → Int32) → Option (Int32 × (Nat → Int32) × (Nat → Int32))) (h23 : ∀ (v1 : Int32) (v2 : Int32) (v3 : Int32) (v4 : Int32) (m_s_ : (Nat → Int32)) (r : Int32 × (Nat → Int32) × (Nat → Int32)), k23 v1 v2 v3 v4 m_s_ = some r → E XP X 1 xm_185 σ (23, [(0, .ref 52), (1, .int v1), (2, .int v2), (3, .int v3), (4, .int v4)], [], SH0, [(5300, m_s_)], lg) (some (.int r.1), SH0, [(5300, r.2.1), (5600, r.2.2)], lg)) : ∀ (v1 : Int32) (v2 : Int32) (v4 : Int32) (t0 : Int32) (m_s_ : (Nat → Int32)) (r : Int32 × (Nat → Int32) × (Nat → Int32)), X6_evening_L58 k23 v1 v2 v4 t0 m_s_ = some r → E XP X 1 xm_185 σ (58, [(0, .ref 52), (1, .int v1), (2, .int v2), (4, .int v4)], [.int t0], SH0, [(5300, m_s_)], lg) (some (.int r.1), SH0, [(5300, r.2.1), (5600, r.2.2)], lg) := by
  intro v1 v2 v4 t0 m_s_ r h
  unfold X6_evening_L58 at h
  refine E_sts 4 (if t0 = 0 then 84 else 64, [(0, .ref 52), (1, .int v1), (2, .int v2), (3, .int t0), (4, .int v4)], [.int v2], SH0, [(5300, m_s_)], lg) rfl ?_
  rcases x_br h with ⟨hc, h⟩ | ⟨hc, h⟩
  · refine E_itt hc ?_
    refine E_sts 3 (90, [(0, .ref 52), (1, .int v1), (2, .int v2), (3, .int t0), (4, .int v4)], [.int 8, .ref 53, .int v2], SH0, [(5300, m_s_)], lg) rfl ?_
    refine E_par (p := inr 8 83) (91, [(0, .ref 52), (1, .int v1), (2, .int v2), (3, .int t0), (4, .int v4)], [.int (m_s_ 8), .int v2], SH0, [(5300, m_s_)], lg) rfl (by decide) ?_
    refine E_sts 6 (23, [(0, .ref 52), (1, .int v1), (2, .int (v2 + (-(m_s_ 8)))), (3, .int t0), (4, .int (v4 + 1))], [], SH0, [(5300, m_s_)], lg) rfl ?_
    exact h23 v1 (v2 + (-(m_s_ 8))) t0 (v4 + 1) m_s_ r h
  · refine E_itf hc ?_
    refine E_sts 3 (70, [(0, .ref 52), (1, .int v1), (2, .int v2), (3, .int t0), (4, .int v4)], [.int 7, .ref 53, .int v2], SH0, [(5300, m_s_)], lg) rfl ?_
    refine E_par (p := inr 7 83) (71, [(0, .ref 52), (1, .int v1), (2, .int v2), (3, .int t0), (4, .int v4)], [.int (m_s_ 7), .int v2], SH0, [(5300, m_s_)], lg) rfl (by decide) ?_
    refine E_sts 4 (78, [(0, .ref 52), (1, .int v1), (2, .int v2), (3, .int t0), (4, .int v4)], [.int 5, .ref 53, .int v4, .int (m_s_ 7), .int v2], SH0, [(5300, m_s_)], lg) rfl ?_
    refine E_par (p := inr 5 83) (79, [(0, .ref 52), (1, .int v1), (2, .int v2), (3, .int t0), (4, .int v4)], [.int (m_s_ 5), .int v4, .int (m_s_ 7), .int v2], SH0, [(5300, m_s_)], lg) rfl (by decide) ?_
    refine E_sts 8 (23, [(0, .ref 52), (1, .int v1), (2, .int (v2 + ((m_s_ 7) - (v4 * (m_s_ 5))))), (3, .int t0), (4, .int (v4 + 1))], [], SH0, [(5300, m_s_)], lg) rfl ?_
    exact h23 v1 (v2 + ((m_s_ 7) - (v4 * (m_s_ 5)))) t0 (v4 + 1) m_s_ r h
set_option maxHeartbeats 4000000 in
set_option maxRecDepth 20000 in
theorem e_X6_evening_L23 (X : xX) (σ : xM) (lg : Int64) : ∀ (n : Nat), ∀ (v1 : Int32) (v2 : Int32) (v3 : Int32) (v4 : Int32) (m_s_ : (Nat → Int32)) (r : Int32 × (Nat → Int32) × (Nat → Int32)), X6_evening_L23 (σ 5600) n v1 v2 v3 v4 m_s_ = some r → E XP X 1 xm_185 σ (23, [(0, .ref 52), (1, .int v1), (2, .int v2), (3, .int v3), (4, .int v4)], [], SH0, [(5300, m_s_)], lg) (some (.int r.1), SH0, [(5300, r.2.1), (5600, r.2.2)], lg) := by
  intro n
  induction n with
  | zero => intro v1 v2 v3 v4 m_s_ r h; rw [X6_evening_L23] at h; cases h
  | succ n ih =>
    intro v1 v2 v3 v4 m_s_ r h
    rw [X6_evening_L23] at h
    refine E_sts 3 (if v1 ≤ v4 then 100 else 29, [(0, .ref 52), (1, .int v1), (2, .int v2), (3, .int v3), (4, .int v4)], [], SH0, [(5300, m_s_)], lg) rfl ?_
    rcases x_br h with ⟨hc, h⟩ | ⟨hc, h⟩
    · refine E_itt hc ?_
      obtain rfl := Option.some.inj h
      refine E_sts 2 (101, [], [.int v2], SH0, [(5300, m_s_), (5600, (σ 5600))], lg) rfl ?_
      exact E_ret rfl
    · refine E_itf hc ?_
      refine E_sts 2 (if v3 = 0 then 100 else 33, [(0, .ref 52), (1, .int v1), (2, .int v2), (3, .int v3), (4, .int v4)], [], SH0, [(5300, m_s_)], lg) rfl ?_
      rcases x_br h with ⟨hc, h⟩ | ⟨hc, h⟩
      · refine E_itt hc ?_
        obtain rfl := Option.some.inj h
        refine E_sts 2 (101, [], [.int v2], SH0, [(5300, m_s_), (5600, (σ 5600))], lg) rfl ?_
        exact E_ret rfl
      · refine E_itf hc ?_
        refine E_sts 1 (34, [(0, .ref 52), (1, .int v1), (2, .int v2), (3, .int v3), (4, .int v4)], [.ref 52], SH0, [(5300, m_s_)], lg) rfl ?_
        obtain ⟨r34, hr, h⟩ := x_bind h
        refine E_call rfl (e_X6_draw X _ _ r34 hr) (by decide) ?_
        refine E_sts 1 (39, [(0, .ref 52), (1, .int v1), (2, .int v2), (3, .int v3), (4, .int v4)], [.int 10, .int r34.1], SH0, [(5300, r34.2)], lg) rfl ?_
        refine E_parn (p := 10 = 0) (40, [(0, .ref 52), (1, .int v1), (2, .int v2), (3, .int v3), (4, .int v4)], [.int (xirem r34.1 10)], SH0, [(5300, r34.2)], lg) rfl (by decide) ?_
        refine E_sts 3 (46, [(0, .ref 52), (1, .int v1), (2, .int v2), (3, .int v3), (4, .int v4)], [.int 6, .ref 53, .int (xirem r34.1 10)], SH0, [(5300, r34.2)], lg) rfl ?_
        refine E_par (p := inr 6 83) (47, [(0, .ref 52), (1, .int v1), (2, .int v2), (3, .int v3), (4, .int v4)], [.int (r34.2 6), .int (xirem r34.1 10)], SH0, [(5300, r34.2)], lg) rfl (by decide) ?_
        refine E_sts 3 (if (xirem r34.1 10) < ((r34.2 6) * v4) then 57 else 53, [(0, .ref 52), (1, .int v1), (2, .int v2), (3, .int v3), (4, .int v4)], [], SH0, [(5300, r34.2)], lg) rfl ?_
        rcases x_br h with ⟨hc, h⟩ | ⟨hc, h⟩
        · refine E_itt hc ?_
          refine E_sts 2 (58, [(0, .ref 52), (1, .int v1), (2, .int v2), (4, .int v4)], [.int 0], SH0, [(5300, r34.2)], lg) rfl ?_
          exact e_X6_evening_L58 X σ lg _ (fun v10 v20 v30 v40 m_s_0 r h => ih v10 v20 v30 v40 m_s_0 r h) v1 v2 v4 0 r34.2 r h
        · refine E_itf hc ?_
          refine E_sts 3 (58, [(0, .ref 52), (1, .int v1), (2, .int v2), (4, .int v4)], [.int 1], SH0, [(5300, r34.2)], lg) rfl ?_
          exact e_X6_evening_L58 X σ lg _ (fun v10 v20 v30 v40 m_s_0 r h => ih v10 v20 v30 v40 m_s_0 r h) v1 v2 v4 1 r34.2 r h
set_option maxHeartbeats 4000000 in
set_option maxRecDepth 20000 in
theorem e_X6_evening (X : xX) (σ : xM) (lg : Int64) (v1 : Int32) (r : Int32 × (Nat → Int32) × (Nat → Int32)) (h : X6_evening (σ 5300) (σ 5600) v1 = some r) : EM XP X 2 185 [.ref 52, .int v1] SH0 lg σ (some (.int r.1), SH0, [(5300, r.2.1), (5600, r.2.2)], lg) := by
  refine EM_of (M := xm_185) rfl rfl ?_
  unfold X6_evening at h
  refine E_sts 3 (4, [(0, .ref 52), (1, .int v1)], [.int 8, .int 1, .int v1], SH0, [], lg) rfl ?_
  refine E_call rfl (e_X6_in1 X _ _ _ _ _ (X6_in1 v1 1 8) rfl) (by decide) ?_
  refine E_sts 1 (if (xb (X6_in1 v1 1 8)) = 0 then 10 else 16, [(0, .ref 52), (1, .int v1)], [], SH0, [], lg) rfl ?_
  rcases x_br h with ⟨hc, h⟩ | ⟨hc, h⟩
  · refine E_itt hc ?_
    refine E_sts 2 (12, [(0, .ref 52), (1, .int v1)], [.int 0, .ref 52], SH0, [], lg) rfl ?_
    obtain ⟨r12, hr, h⟩ := x_bind h
    refine E_call rfl (e_X6_no X _ _ _ r12 hr) (by decide) ?_
    obtain rfl := Option.some.inj h
    refine E_sts 1 (15, [], [.int r12.1], SH0, [(5300, (σ 5300)), (5600, r12.2)], lg) rfl ?_
    exact E_ret rfl
  · refine E_itf hc ?_
    refine E_sts 7 (23, [(0, .ref 52), (1, .int v1), (2, .int 0), (3, .int 1), (4, .int 0)], [], SH0, [(5300, (σ 5300))], lg) rfl ?_
    exact e_X6_evening_L23 X σ lg _ v1 0 1 0 (σ 5300) r h
set_option maxHeartbeats 4000000 in
set_option maxRecDepth 20000 in
theorem e_X5_memberOf_L7 (X : xX) (σ : xM) (lg : Int64) : ∀ (n : Nat), ∀ (v0 : Int32) (v1 : Int32) (v2 : Int32) (v3 : Int32) (v4 : Int32) (r : Int32), X5_memberOf_L7 n v0 v1 v2 v3 v4 = some r → E XP X 0 xm_118 σ (7, [(0, .int v0), (1, .int v1), (2, .int v2), (3, .int v3), (4, .int v4)], [], SH0, [], lg) (some (.int r), SH0, [], lg) := by
  intro n
  induction n with
  | zero => intro v0 v1 v2 v3 v4 r h; rw [X5_memberOf_L7] at h; cases h
  | succ n ih =>
    intro v0 v1 v2 v3 v4 r h
    rw [X5_memberOf_L7] at h
    refine E_sts 3 (if 9 ≤ v4 then 40 else 14, [(0, .int v0), (1, .int v1), (2, .int v2), (3, .int v3), (4, .int v4)], [], SH0, [], lg) rfl ?_
    rcases x_br h with ⟨hc, h⟩ | ⟨hc, h⟩
    · refine E_itt hc ?_
      obtain rfl := Option.some.inj h
      refine E_sts 1 (41, [(0, .int v0), (1, .int v1), (2, .int v2), (3, .int v3), (4, .int v4)], [.int v2], SH0, [], lg) rfl ?_
      exact E_ret rfl
    · refine E_itf hc ?_
      refine E_sts 6 (if (v0 &&& (xshl 1 v4)) = 0 then 34 else 23, [(0, .int v0), (1, .int v1), (2, .int v2), (3, .int v3), (4, .int v4)], [], SH0, [], lg) rfl ?_
      rcases x_br h with ⟨hc, h⟩ | ⟨hc, h⟩
      · refine E_itt hc ?_
        refine E_sts 3 (7, [(0, .int v0), (1, .int v1), (2, .int v2), (3, .int v3), (4, .int (v4 + 1))], [], SH0, [], lg) rfl ?_
        exact ih v0 v1 v2 v3 (v4 + 1) r h
      · refine E_itf hc ?_
        refine E_sts 3 (if v1 < v3 then 34 else 28, [(0, .int v0), (1, .int v1), (2, .int v2), (3, .int v3), (4, .int v4)], [], SH0, [], lg) rfl ?_
        rcases x_br h with ⟨hc, h⟩ | ⟨hc, h⟩
        · refine E_itt hc ?_
          refine E_sts 3 (7, [(0, .int v0), (1, .int v1), (2, .int v2), (3, .int v3), (4, .int (v4 + 1))], [], SH0, [], lg) rfl ?_
          exact ih v0 v1 v2 v3 (v4 + 1) r h
        · refine E_itf hc ?_
          refine E_sts 6 (7, [(0, .int v0), (1, .int v1), (2, .int v4), (3, .int (v3 + 1)), (4, .int (v4 + 1))], [], SH0, [], lg) rfl ?_
          exact ih v0 v1 v4 (v3 + 1) (v4 + 1) r h
set_option maxHeartbeats 4000000 in
set_option maxRecDepth 20000 in
theorem e_X5_memberOf (X : xX) (σ : xM) (lg : Int64) (v0 : Int32) (v1 : Int32) (r : Int32) (h : X5_memberOf v0 v1 = some r) : EM XP X 1 118 [.int v0, .int v1] SH0 lg σ (some (.int r), SH0, [], lg) := by
  refine EM_of (M := xm_118) rfl rfl ?_
  unfold X5_memberOf at h
  refine E_sts 7 (7, [(0, .int v0), (1, .int v1), (2, .int 0), (3, .int 0), (4, .int 0)], [], SH0, [], lg) rfl ?_
  exact e_X5_memberOf_L7 X σ lg _ v0 v1 0 0 0 r h
set_option maxHeartbeats 4000000 in
set_option maxRecDepth 20000 in
theorem e_X5_lot_L4 (X : xX) (σ : xM) (lg : Int64) : ∀ (n : Nat), ∀ (v1 : Int32) (v2 : Int32) (sc_there_ : Int32) (sc_came_ : Int32) (sc_heard_ : Int32) (sc_clock_ : Int32) (sc_z_ : Int32) (sc_stage_ : (Nat → Int32)) (sc_noises_ : (Nat → Int32)) (sc_times_ : (Nat → Int32)) (r : Int32 × Int32 × Int32 × Int32 × Int32 × Int32 × (Nat → Int32) × (Nat → Int32) × (Nat → Int32)), X5_lot_L4 (σ 201 0) (σ 300) (σ 400) (σ 500) (σ 600) n v1 v2 sc_there_ sc_came_ sc_heard_ sc_clock_ sc_z_ sc_stage_ sc_noises_ sc_times_ = some r → E XP X 4 xm_97 σ (4, [(0, .ref 0), (1, .int v1), (2, .int v2)], [], SH0, [(207, fun _ => sc_there_), (208, fun _ => sc_came_), (209, fun _ => sc_heard_), (210, fun _ => sc_clock_), (214, fun _ => sc_z_), (800, sc_stage_), (900, sc_noises_), (1000, sc_times_)], lg) (some (.int r.1), SH0, [(207, fun _ => r.2.1), (208, fun _ => r.2.2.1), (209, fun _ => r.2.2.2.1), (210, fun _ => r.2.2.2.2.1), (214, fun _ => r.2.2.2.2.2.1), (800, r.2.2.2.2.2.2.1), (900, r.2.2.2.2.2.2.2.1), (1000, r.2.2.2.2.2.2.2.2)], lg) := by
  intro n
  induction n with
  | zero => intro v1 v2 sc_there_ sc_came_ sc_heard_ sc_clock_ sc_z_ sc_stage_ sc_noises_ sc_times_ r h; rw [X5_lot_L4] at h; cases h
  | succ n ih =>
    intro v1 v2 sc_there_ sc_came_ sc_heard_ sc_clock_ sc_z_ sc_stage_ sc_noises_ sc_times_ r h
    rw [X5_lot_L4] at h
    refine E_sts 3 (if 9 ≤ v2 then 60 else 10, [(0, .ref 0), (1, .int v1), (2, .int v2)], [], SH0, [(207, fun _ => sc_there_), (208, fun _ => sc_came_), (209, fun _ => sc_heard_), (210, fun _ => sc_clock_), (214, fun _ => sc_z_), (800, sc_stage_), (900, sc_noises_), (1000, sc_times_)], lg) rfl ?_
    rcases x_br h with ⟨hc, h⟩ | ⟨hc, h⟩
    · refine E_itt hc ?_
      obtain rfl := Option.some.inj h
      refine E_sts 2 (61, [], [.int v1], SH0, [(207, fun _ => sc_there_), (208, fun _ => sc_came_), (209, fun _ => sc_heard_), (210, fun _ => sc_clock_), (214, fun _ => sc_z_), (800, sc_stage_), (900, sc_noises_), (1000, sc_times_)], lg) rfl ?_
      exact E_ret rfl
    · refine E_itf hc ?_
      refine E_sts 2 (14, [(0, .ref 0), (1, .int v1), (2, .int v2)], [.ref 2], SH0, [(207, fun _ => sc_there_), (208, fun _ => sc_came_), (209, fun _ => sc_heard_), (210, fun _ => sc_clock_), (214, fun _ => sc_z_), (800, sc_stage_), (900, sc_noises_), (1000, sc_times_)], lg) rfl ?_
      obtain ⟨r14, hr, h⟩ := x_bind h
      refine E_call rfl (e_X2_comers X _ _ r14 hr) (by decide) ?_
      refine E_sts 2 (19, [(0, .ref 0), (1, .int v1), (2, .int v2), (3, .int r14)], [.int r14], SH0, [(207, fun _ => sc_there_), (208, fun _ => sc_came_), (209, fun _ => sc_heard_), (210, fun _ => sc_clock_), (214, fun _ => sc_z_), (800, sc_stage_), (900, sc_noises_), (1000, sc_times_)], lg) rfl ?_
      refine E_call rfl (e_J6_bitCount_0f7a4 X _ _ _ (J6_bitCount_0f7a4 r14) rfl) (by decide) ?_
      refine E_sts 3 (if (J6_bitCount_0f7a4 r14) ≤ 0 then 54 else 29, [(0, .ref 0), (1, .int v1), (2, .int v2), (3, .int r14), (4, .int (J6_bitCount_0f7a4 r14))], [], SH0, [(207, fun _ => sc_there_), (208, fun _ => sc_came_), (209, fun _ => sc_heard_), (210, fun _ => sc_clock_), (214, fun _ => sc_z_), (800, sc_stage_), (900, sc_noises_), (1000, sc_times_)], lg) rfl ?_
      rcases x_br h with ⟨hc, h⟩ | ⟨hc, h⟩
      · refine E_itt hc ?_
        refine E_sts 3 (4, [(0, .ref 0), (1, .int v1), (2, .int (v2 + 1))], [], SH0, [(207, fun _ => sc_there_), (208, fun _ => sc_came_), (209, fun _ => sc_heard_), (210, fun _ => sc_clock_), (214, fun _ => sc_z_), (800, sc_stage_), (900, sc_noises_), (1000, sc_times_)], lg) rfl ?_
        exact ih v1 (v2 + 1) sc_there_ sc_came_ sc_heard_ sc_clock_ sc_z_ sc_stage_ sc_noises_ sc_times_ r h
      · refine E_itf hc ?_
        refine E_sts 5 (38, [(0, .ref 0), (1, .int v1), (2, .int v2), (3, .int r14), (4, .int (J6_bitCount_0f7a4 r14))], [.ref 2, .int r14, .ref 2], SH0, [(207, fun _ => sc_there_), (208, fun _ => sc_came_), (209, fun _ => sc_heard_), (210, fun _ => sc_clock_), (214, fun _ => sc_z_), (800, sc_stage_), (900, sc_noises_), (1000, sc_times_)], lg) rfl ?_
        obtain ⟨r38, hr, h⟩ := x_bind h
        refine E_call rfl (e_X2_draw X _ _ r38 hr) (by decide) ?_
        refine E_sts 1 (43, [(0, .ref 0), (1, .int v1), (2, .int v2), (3, .int r14), (4, .int (J6_bitCount_0f7a4 r14))], [.int (J6_bitCount_0f7a4 r14), .int r38.1, .int r14, .ref 2], SH0, [(207, fun _ => sc_there_), (208, fun _ => sc_came_), (209, fun _ => sc_heard_), (210, fun _ => sc_clock_), (214, fun _ => r38.2), (800, sc_stage_), (900, sc_noises_), (1000, sc_times_)], lg) rfl ?_
        obtain ⟨hp, h⟩ := x_iteN h
        refine E_parn (p := (J6_bitCount_0f7a4 r14) = 0) (44, [(0, .ref 0), (1, .int v1), (2, .int v2), (3, .int r14), (4, .int (J6_bitCount_0f7a4 r14))], [.int (xirem r38.1 (J6_bitCount_0f7a4 r14)), .int r14, .ref 2], SH0, [(207, fun _ => sc_there_), (208, fun _ => sc_came_), (209, fun _ => sc_heard_), (210, fun _ => sc_clock_), (214, fun _ => r38.2), (800, sc_stage_), (900, sc_noises_), (1000, sc_times_)], lg) rfl hp ?_
        obtain ⟨r44, hr, h⟩ := x_bind h
        refine E_call rfl (e_X5_memberOf X _ _ _ _ r44 hr) (by decide) ?_
        obtain ⟨r47, hr, h⟩ := x_bind h
        refine E_call rfl (e_X2_enter X _ _ _ r47 hr) (by decide) ?_
        refine E_sts 5 (4, [(0, .ref 0), (1, .int (v1 + 1)), (2, .int (v2 + 1))], [], SH0, [(207, fun _ => r47.2.1), (208, fun _ => r47.2.2.1), (209, fun _ => r47.2.2.2.1), (210, fun _ => r47.2.2.2.2.1), (214, fun _ => r38.2), (800, r47.2.2.2.2.2.1), (900, r47.2.2.2.2.2.2.1), (1000, r47.2.2.2.2.2.2.2)], lg) rfl ?_
        exact ih (v1 + 1) (v2 + 1) r47.2.1 r47.2.2.1 r47.2.2.2.1 r47.2.2.2.2.1 r38.2 r47.2.2.2.2.2.1 r47.2.2.2.2.2.2.1 r47.2.2.2.2.2.2.2 r h
set_option maxHeartbeats 4000000 in
set_option maxRecDepth 20000 in
theorem e_X5_lot (X : xX) (σ : xM) (lg : Int64) (r : Int32 × Int32 × Int32 × Int32 × Int32 × Int32 × (Nat → Int32) × (Nat → Int32) × (Nat → Int32)) (h : X5_lot (σ 201 0) (σ 207 0) (σ 208 0) (σ 209 0) (σ 210 0) (σ 214 0) (σ 300) (σ 400) (σ 500) (σ 600) (σ 800) (σ 900) (σ 1000) = some r) : EM XP X 5 97 [.ref 0] SH0 lg σ (some (.int r.1), SH0, [(207, fun _ => r.2.1), (208, fun _ => r.2.2.1), (209, fun _ => r.2.2.2.1), (210, fun _ => r.2.2.2.2.1), (214, fun _ => r.2.2.2.2.2.1), (800, r.2.2.2.2.2.2.1), (900, r.2.2.2.2.2.2.2.1), (1000, r.2.2.2.2.2.2.2.2)], lg) := by
  refine EM_of (M := xm_97) rfl rfl ?_
  unfold X5_lot at h
  refine E_sts 5 (4, [(0, .ref 0), (1, .int 0), (2, .int 0)], [], SH0, [(207, fun _ => (σ 207 0)), (208, fun _ => (σ 208 0)), (209, fun _ => (σ 209 0)), (210, fun _ => (σ 210 0)), (214, fun _ => (σ 214 0)), (800, (σ 800)), (900, (σ 900)), (1000, (σ 1000))], lg) rfl ?_
  exact e_X5_lot_L4 X σ lg _ 0 0 (σ 207 0) (σ 208 0) (σ 209 0) (σ 210 0) (σ 214 0) (σ 800) (σ 900) (σ 1000) r h
set_option maxHeartbeats 4000000 in
set_option maxRecDepth 20000 in
theorem e_X6_lot_L41 (X : xX) (σ : xM) (lg : Int64) (k11 : Int32 → Int32 → (Nat → Int32) → Option (Int32 × (Nat → Int32))) (k28 : Int32 → Int32 → Int32 → Int32 → (Nat → Int32) → Option (Int32 × (Nat → Int32))) (h11 : ∀ (v1 : Int32) (v2 : Int32) (m_s_ : (Nat → Int32)) (r : Int32 × (Nat → Int32)), k11 v1 v2 m_s_ = some r → E XP X 4 xm_186 σ (11, [(0, .ref 52), (1, .int v1), (2, .int v2)], [], SH0, [(5300, m_s_)], lg) (some (.int r.1), SH0, [(5300, r.2)], lg)) (h28 : ∀ (v1 : Int32) (v2 : Int32) (v3 : Int32) (v4 : Int32) (m_s_ : (Nat → Int32)) (r : Int32 × (Nat → Int32)), k28 v1 v2 v3 v4 m_s_ = some r → E XP X 4 xm_186 σ (28, [(0, .ref 52), (1, .int v1), (2, .int v2), (3, .int v3), (4, .int v4)], [], SH0, [(5300, m_s_)], lg) (some (.int r.1), SH0, [(5300, r.2)], lg)) : ∀ (v1 : Int32) (v2 : Int32) (v3 : Int32) (v4 : Int32) (m_s_ : (Nat → Int32)) (r : Int32 × (Nat → Int32)), X6_lot_L41 k11 k28 v1 v2 v3 v4 m_s_ = some r → E XP X 4 xm_186 σ (41, [(0, .ref 52), (1, .int v1), (2, .int v2), (3, .int v3), (4, .int v4)], [], SH0, [(5300, m_s_)], lg) (some (.int r.1), SH0, [(5300, r.2)], lg) := by
  intro v1 v2 v3 v4 m_s_ r h
  unfold X6_lot_L41 at h
  refine E_sts 3 (45, [(0, .ref 52), (1, .int v1), (2, .int v2), (3, .int v3), (4, .int v4)], [.int v4, .int v2, .int v3], SH0, [(5300, m_s_)], lg) rfl ?_
  refine E_call rfl (e_X6_isIn X _ _ _ _ (X6_isIn v2 v4) rfl) (by decide) ?_
  refine E_sts 1 (if (xb (X6_isIn v2 v4)) = 0 then 55 else 51, [(0, .ref 52), (1, .int v1), (2, .int v2), (3, .int v3), (4, .int v4)], [.int v3], SH0, [(5300, m_s_)], lg) rfl ?_
  rcases x_br h with ⟨hc, h⟩ | ⟨hc, h⟩
  · refine E_itt hc ?_
    refine E_sts 6 (28, [(0, .ref 52), (1, .int v1), (2, .int v2), (3, .int (v3 - 0)), (4, .int (v4 + 1))], [], SH0, [(5300, m_s_)], lg) rfl ?_
    exact h28 v1 v2 (v3 - 0) (v4 + 1) m_s_ r h
  · refine E_itf hc ?_
    refine E_sts 7 (28, [(0, .ref 52), (1, .int v1), (2, .int v2), (3, .int (v3 - 1)), (4, .int (v4 + 1))], [], SH0, [(5300, m_s_)], lg) rfl ?_
    exact h28 v1 v2 (v3 - 1) (v4 + 1) m_s_ r h
set_option maxHeartbeats 4000000 in
set_option maxRecDepth 20000 in
theorem e_X6_lot_L83 (X : xX) (σ : xM) (lg : Int64) (k11 : Int32 → Int32 → (Nat → Int32) → Option (Int32 × (Nat → Int32))) (h11 : ∀ (v1 : Int32) (v2 : Int32) (m_s_ : (Nat → Int32)) (r : Int32 × (Nat → Int32)), k11 v1 v2 m_s_ = some r → E XP X 4 xm_186 σ (11, [(0, .ref 52), (1, .int v1), (2, .int v2)], [], SH0, [(5300, m_s_)], lg) (some (.int r.1), SH0, [(5300, r.2)], lg)) : ∀ (t0 : Int32) (t1 : Int32) (m_s_ : (Nat → Int32)) (r : Int32 × (Nat → Int32)), X6_lot_L83 k11 t0 t1 m_s_ = some r → E XP X 4 xm_186 σ (83, [(0, .ref 52)], [.int t1, .int t0], SH0, [(5300, m_s_)], lg) (some (.int r.1), SH0, [(5300, r.2)], lg) := by
  intro t0 t1 m_s_ r h
  unfold X6_lot_L83 at h
  refine E_sts 4 (87, [(0, .ref 52), (1, .int (t0 + t1))], [.ref 52, .ref 52], SH0, [(5300, m_s_)], lg) rfl ?_
  obtain ⟨r87, hr, h⟩ := x_bind h
  refine E_call rfl (e_X6_stageSet X _ _ r87 hr) (by decide) ?_
  obtain ⟨r90, hr, h⟩ := x_bind h
  refine E_call rfl (e_X6_canSet X _ _ _ r90 hr) (by decide) ?_
  refine E_sts 3 (11, [(0, .ref 52), (1, .int (t0 + t1)), (2, .int r90)], [], SH0, [(5300, m_s_)], lg) rfl ?_
  exact h11 (t0 + t1) r90 m_s_ r h
set_option maxHeartbeats 4000000 in
set_option maxRecDepth 20000 in
theorem e_X6_lot_L28 (X : xX) (σ : xM) (lg : Int64) (k11 : Int32 → Int32 → (Nat → Int32) → Option (Int32 × (Nat → Int32))) (h11 : ∀ (v1 : Int32) (v2 : Int32) (m_s_ : (Nat → Int32)) (r : Int32 × (Nat → Int32)), k11 v1 v2 m_s_ = some r → E XP X 4 xm_186 σ (11, [(0, .ref 52), (1, .int v1), (2, .int v2)], [], SH0, [(5300, m_s_)], lg) (some (.int r.1), SH0, [(5300, r.2)], lg)) : ∀ (n : Nat), ∀ (v1 : Int32) (v2 : Int32) (v3 : Int32) (v4 : Int32) (m_s_ : (Nat → Int32)) (r : Int32 × (Nat → Int32)), X6_lot_L28 k11 n v1 v2 v3 v4 m_s_ = some r → E XP X 4 xm_186 σ (28, [(0, .ref 52), (1, .int v1), (2, .int v2), (3, .int v3), (4, .int v4)], [], SH0, [(5300, m_s_)], lg) (some (.int r.1), SH0, [(5300, r.2)], lg) := by
  intro n
  induction n with
  | zero => intro v1 v2 v3 v4 m_s_ r h; rw [X6_lot_L28] at h; cases h
  | succ n ih =>
    intro v1 v2 v3 v4 m_s_ r h
    rw [X6_lot_L28] at h
    refine E_sts 2 (31, [(0, .ref 52), (1, .int v1), (2, .int v2), (3, .int v3), (4, .int v4)], [.int v4, .int v2], SH0, [(5300, m_s_)], lg) rfl ?_
    refine E_call rfl (e_X6_isIn X _ _ _ _ (X6_isIn v2 v4) rfl) (by decide) ?_
    refine E_sts 1 (if (xb (X6_isIn v2 v4)) = 0 then 100041 else 37, [(0, .ref 52), (1, .int v1), (2, .int v2), (3, .int v3), (4, .int v4)], [], SH0, [(5300, m_s_)], lg) rfl ?_
    rcases x_br h with ⟨hc, h⟩ | ⟨hc, h⟩
    · refine E_itt hc ?_
      refine E_sts 1 (41, [(0, .ref 52), (1, .int v1), (2, .int v2), (3, .int v3), (4, .int v4)], [], SH0, [(5300, m_s_)], lg) rfl ?_
      exact e_X6_lot_L41 X σ lg _ _ (fun v10 v20 m_s_0 r h => h11 v10 v20 m_s_0 r h) (fun v10 v20 v30 v40 m_s_0 r h => ih v10 v20 v30 v40 m_s_0 r h) v1 v2 v3 v4 m_s_ r h
    · refine E_itf hc ?_
      refine E_sts 2 (if v3 ≤ 0 then 64 else 100041, [(0, .ref 52), (1, .int v1), (2, .int v2), (3, .int v3), (4, .int v4)], [], SH0, [(5300, m_s_)], lg) rfl ?_
      rcases x_br h with ⟨hc, h⟩ | ⟨hc, h⟩
      · refine E_itt hc ?_
        refine E_sts 2 (67, [(0, .ref 52), (1, .int v1), (2, .int v2), (3, .int v3), (4, .int v4)], [.int v4, .ref 52], SH0, [(5300, m_s_)], lg) rfl ?_
        obtain ⟨r67, hr, h⟩ := x_bind h
        refine E_call rfl (e_X6_comes X _ _ _ r67 hr) (by decide) ?_
        refine E_sts 4 (if 0 ≤ r67.1 then 82 else 78, [(0, .ref 52), (1, .int v1), (2, .int v2), (3, .int v3), (4, .int v4), (5, .int r67.1)], [.int v1], SH0, [(5300, r67.2)], lg) rfl ?_
        rcases x_br h with ⟨hc, h⟩ | ⟨hc, h⟩
        · refine E_itt hc ?_
          refine E_sts 2 (83, [(0, .ref 52)], [.int 1, .int v1], SH0, [(5300, r67.2)], lg) rfl ?_
          exact e_X6_lot_L83 X σ lg _ (fun v10 v20 m_s_0 r h => h11 v10 v20 m_s_0 r h) v1 1 r67.2 r h
        · refine E_itf hc ?_
          refine E_sts 3 (83, [(0, .ref 52)], [.int 0, .int v1], SH0, [(5300, r67.2)], lg) rfl ?_
          exact e_X6_lot_L83 X σ lg _ (fun v10 v20 m_s_0 r h => h11 v10 v20 m_s_0 r h) v1 0 r67.2 r h
      · refine E_itf hc ?_
        refine E_sts 1 (41, [(0, .ref 52), (1, .int v1), (2, .int v2), (3, .int v3), (4, .int v4)], [], SH0, [(5300, m_s_)], lg) rfl ?_
        exact e_X6_lot_L41 X σ lg _ _ (fun v10 v20 m_s_0 r h => h11 v10 v20 m_s_0 r h) (fun v10 v20 v30 v40 m_s_0 r h => ih v10 v20 v30 v40 m_s_0 r h) v1 v2 v3 v4 m_s_ r h
set_option maxHeartbeats 4000000 in
set_option maxRecDepth 20000 in
theorem e_X6_lot_L11 (X : xX) (σ : xM) (lg : Int64) : ∀ (n : Nat), ∀ (v1 : Int32) (v2 : Int32) (m_s_ : (Nat → Int32)) (r : Int32 × (Nat → Int32)), X6_lot_L11 n v1 v2 m_s_ = some r → E XP X 4 xm_186 σ (11, [(0, .ref 52), (1, .int v1), (2, .int v2)], [], SH0, [(5300, m_s_)], lg) (some (.int r.1), SH0, [(5300, r.2)], lg) := by
  intro n
  induction n with
  | zero => intro v1 v2 m_s_ r h; rw [X6_lot_L11] at h; cases h
  | succ n ih =>
    intro v1 v2 m_s_ r h
    rw [X6_lot_L11] at h
    refine E_sts 2 (if v2 = 0 then 97 else 15, [(0, .ref 52), (1, .int v1), (2, .int v2)], [], SH0, [(5300, m_s_)], lg) rfl ?_
    rcases x_br h with ⟨hc, h⟩ | ⟨hc, h⟩
    · refine E_itt hc ?_
      obtain rfl := Option.some.inj h
      refine E_sts 2 (98, [], [.int v1], SH0, [(5300, m_s_)], lg) rfl ?_
      exact E_ret rfl
    · refine E_itf hc ?_
      refine E_sts 1 (16, [(0, .ref 52), (1, .int v1), (2, .int v2)], [.ref 52], SH0, [(5300, m_s_)], lg) rfl ?_
      obtain ⟨r16, hr, h⟩ := x_bind h
      refine E_call rfl (e_X6_draw X _ _ r16 hr) (by decide) ?_
      refine E_sts 1 (20, [(0, .ref 52), (1, .int v1), (2, .int v2)], [.int v2, .int r16.1], SH0, [(5300, r16.2)], lg) rfl ?_
      obtain ⟨r20, hr, h⟩ := x_bind h
      refine E_call rfl (e_X6_bits X _ _ _ r20 hr) (by decide) ?_
      obtain ⟨hp, h⟩ := x_iteN h
      refine E_parn (p := r20 = 0) (24, [(0, .ref 52), (1, .int v1), (2, .int v2)], [.int (xirem r16.1 r20)], SH0, [(5300, r16.2)], lg) rfl hp ?_
      refine E_sts 4 (28, [(0, .ref 52), (1, .int v1), (2, .int v2), (3, .int (xirem r16.1 r20)), (4, .int 0)], [], SH0, [(5300, r16.2)], lg) rfl ?_
      exact e_X6_lot_L28 X σ lg _ (fun v10 v20 m_s_0 r h => ih v10 v20 m_s_0 r h) _ v1 v2 (xirem r16.1 r20) 0 r16.2 r h
set_option maxHeartbeats 4000000 in
set_option maxRecDepth 20000 in
theorem e_X6_lot (X : xX) (σ : xM) (lg : Int64) (r : Int32 × (Nat → Int32)) (h : X6_lot (σ 5300) = some r) : EM XP X 5 186 [.ref 52] SH0 lg σ (some (.int r.1), SH0, [(5300, r.2)], lg) := by
  refine EM_of (M := xm_186) rfl rfl ?_
  unfold X6_lot at h
  refine E_sts 4 (4, [(0, .ref 52), (1, .int 0)], [.ref 52, .ref 52], SH0, [], lg) rfl ?_
  obtain ⟨r4, hr, h⟩ := x_bind h
  refine E_call rfl (e_X6_stageSet X _ _ r4 hr) (by decide) ?_
  obtain ⟨r7, hr, h⟩ := x_bind h
  refine E_call rfl (e_X6_canSet X _ _ _ r7 hr) (by decide) ?_
  refine E_sts 2 (11, [(0, .ref 52), (1, .int 0), (2, .int r7)], [], SH0, [(5300, (σ 5300))], lg) rfl ?_
  exact e_X6_lot_L11 X σ lg _ 0 r7 (σ 5300) r h
set_option maxHeartbeats 4000000 in
set_option maxRecDepth 20000 in
theorem e_X5_seed (X : xX) (σ : xM) (lg : Int64) (v1 : Int32) (r : Int32 × Int32) (h : X5_seed (σ 214 0) v1 = some r) : EM XP X 1 98 [.ref 0, .int v1] SH0 lg σ (some (.int r.1), SH0, [(214, fun _ => r.2)], lg) := by
  refine EM_of (M := xm_98) rfl rfl ?_
  unfold X5_seed at h
  obtain rfl := Option.some.inj h
  refine E_sts 9 (17, [(0, .ref 0), (1, .int v1), (2, .int (σ 214 0))], [.int (σ 214 0)], SH0, [(214, fun _ => v1)], lg) rfl ?_
  exact E_ret rfl
set_option maxHeartbeats 4000000 in
set_option maxRecDepth 20000 in
theorem e_X6_seed (X : xX) (σ : xM) (lg : Int64) (v1 : Int32) (r : Int32 × (Nat → Int32)) (h : X6_seed (σ 5300) v1 = some r) : EM XP X 1 187 [.ref 52, .int v1] SH0 lg σ (some (.int r.1), SH0, [(5300, r.2)], lg) := by
  refine EM_of (M := xm_187) rfl rfl ?_
  unfold X6_seed at h
  refine E_sts 3 (5, [(0, .ref 52), (1, .int v1)], [.int 4, .ref 53], SH0, [], lg) rfl ?_
  refine E_par (p := inr 4 83) (6, [(0, .ref 52), (1, .int v1)], [.int ((σ 5300) 4)], SH0, [], lg) rfl (by decide) ?_
  refine E_sts 5 (13, [(0, .ref 52), (1, .int v1), (2, .int ((σ 5300) 4))], [.int v1, .int 4, .ref 53], SH0, [], lg) rfl ?_
  refine E_par (p := inr 4 83) (14, [(0, .ref 52), (1, .int v1), (2, .int ((σ 5300) 4))], [], SH0, [(5300, (upd (σ 5300) 4 v1))], lg) rfl (by decide) ?_
  obtain rfl := Option.some.inj h
  refine E_sts 1 (15, [(0, .ref 52), (1, .int v1), (2, .int ((σ 5300) 4))], [.int ((σ 5300) 4)], SH0, [(5300, (upd (σ 5300) 4 v1))], lg) rfl ?_
  exact E_ret rfl
set_option maxHeartbeats 4000000 in
set_option maxRecDepth 20000 in
theorem e_X4_hasRoom (X : xX) (σ : xM) (lg : Int64) (v1 : Int32) (r : Bool) (h : X4_hasRoom (σ 4202 0) v1 = r) : EM XP X 1 50 [.ref 42, .int v1] SH0 lg σ (some (.int (xb r)), SH0, [], lg) := by
  refine EM_of (M := xm_50) rfl rfl ?_
  unfold X4_hasRoom at h
  refine E_sts 6 (if 120 < ((σ 4202 0) + v1) then 15 else 11, [(0, .ref 42), (1, .int v1)], [], SH0, [], lg) rfl ?_
  rcases x_br h with ⟨hc, h⟩ | ⟨hc, h⟩
  · refine E_itt hc ?_
    subst h
    refine E_sts 1 (16, [(0, .ref 42), (1, .int v1)], [.int 0], SH0, [], lg) rfl ?_
    exact E_retp (p := (0 : Int32) = 0 ∨ (0 : Int32) = 1) rfl (by decide)
  · refine E_itf hc ?_
    subst h
    refine E_sts 2 (16, [(0, .ref 42), (1, .int v1)], [.int 1], SH0, [], lg) rfl ?_
    exact E_retp (p := (1 : Int32) = 0 ∨ (1 : Int32) = 1) rfl (by decide)
set_option maxHeartbeats 4000000 in
set_option maxRecDepth 20000 in
theorem e_X4_append_L4 (X : xX) (σ : xM) (lg : Int64) : ∀ (n : Nat), ∀ (v1 : Int32) (v3 : Int32) (tp_size_ : Int32) (tp_bytes_ : (Nat → Int32)) (r : Int32 × Int32 × (Nat → Int32)), X4_append_L4 n v1 v3 tp_size_ tp_bytes_ = some r → E XP X 0 xm_51 σ (4, [(0, .ref 42), (1, .int v1), (3, .int v3)], [], SH0, [(4202, fun _ => tp_size_), (4300, tp_bytes_)], lg) (some (.int r.1), SH0, [(4202, fun _ => r.2.1), (4300, r.2.2)], lg) := by
  intro n
  induction n with
  | zero => intro v1 v3 tp_size_ tp_bytes_ r h; rw [X4_append_L4] at h; cases h
  | succ n ih =>
    intro v1 v3 tp_size_ tp_bytes_ r h
    rw [X4_append_L4] at h
    refine E_sts 2 (if v3 < 0 then 43 else 8, [(0, .ref 42), (1, .int v1), (3, .int v3)], [], SH0, [(4202, fun _ => tp_size_), (4300, tp_bytes_)], lg) rfl ?_
    rcases x_br h with ⟨hc, h⟩ | ⟨hc, h⟩
    · refine E_itt hc ?_
      obtain rfl := Option.some.inj h
      refine E_sts 3 (47, [], [.int tp_size_], SH0, [(4202, fun _ => tp_size_), (4300, tp_bytes_)], lg) rfl ?_
      exact E_ret rfl
    · refine E_itf hc ?_
      refine E_sts 11 (26, [(0, .ref 42), (1, .int v1), (3, .int v3)], [.int ((xush v1 (8 * v3)) &&& 255), .int tp_size_, .ref 43], SH0, [(4202, fun _ => tp_size_), (4300, tp_bytes_)], lg) rfl ?_
      obtain ⟨hp, h⟩ := x_ite h
      refine E_par (p := inr tp_size_ 120) (27, [(0, .ref 42), (1, .int v1), (3, .int v3)], [], SH0, [(4202, fun _ => tp_size_), (4300, (upd tp_bytes_ tp_size_.toNatClampNeg ((xush v1 (8 * v3)) &&& 255)))], lg) rfl hp ?_
      refine E_sts 9 (4, [(0, .ref 42), (1, .int v1), (3, .int (v3 + (-1)))], [], SH0, [(4202, fun _ => (tp_size_ + 1)), (4300, (upd tp_bytes_ tp_size_.toNatClampNeg ((xush v1 (8 * v3)) &&& 255)))], lg) rfl ?_
      exact ih v1 (v3 + (-1)) (tp_size_ + 1) (upd tp_bytes_ tp_size_.toNatClampNeg ((xush v1 (8 * v3)) &&& 255)) r h
set_option maxHeartbeats 4000000 in
set_option maxRecDepth 20000 in
theorem e_X4_append (X : xX) (σ : xM) (lg : Int64) (v1 : Int32) (v2 : Int32) (r : Int32 × Int32 × (Nat → Int32)) (h : X4_append (σ 4202 0) (σ 4300) v1 v2 = some r) : EM XP X 1 51 [.ref 42, .int v1, .int v2] SH0 lg σ (some (.int r.1), SH0, [(4202, fun _ => r.2.1), (4300, r.2.2)], lg) := by
  refine EM_of (M := xm_51) rfl rfl ?_
  unfold X4_append at h
  refine E_sts 5 (4, [(0, .ref 42), (1, .int v1), (3, .int (v2 - 1))], [], SH0, [(4202, fun _ => (σ 4202 0)), (4300, (σ 4300))], lg) rfl ?_
  exact e_X4_append_L4 X σ lg _ v1 (v2 - 1) (σ 4202 0) (σ 4300) r h
set_option maxHeartbeats 4000000 in
set_option maxRecDepth 20000 in
theorem e_X5_feed (X : xX) (σ : xM) (lg : Int64) (v1 : Int32) (v2 : Int32) (r : Int32 × (Nat → Int32) × Int32 × (Nat → Int32)) (h : X5_feed (σ 100) (σ 4202 0) (σ 4300) v1 v2 = some r) : EM XP X 2 99 [.ref 0, .int v1, .int v2] SH0 lg σ (some (.int r.1), SH0, [(100, r.2.1), (4202, fun _ => r.2.2.1), (4300, r.2.2.2)], lg) := by
  refine EM_of (M := xm_99) rfl rfl ?_
  unfold X5_feed at h
  refine E_sts 3 (3, [(0, .ref 0), (1, .int v1), (2, .int v2)], [.int 4, .int 1, .int v2], SH0, [], lg) rfl ?_
  refine E_call rfl (e_X5_isIn X _ _ _ _ _ (X5_isIn v2 1 4) rfl) (by decide) ?_
  refine E_sts 1 (if (xb (X5_isIn v2 1 4)) = 0 then 9 else 15, [(0, .ref 0), (1, .int v1), (2, .int v2)], [], SH0, [], lg) rfl ?_
  rcases x_br h with ⟨hc, h⟩ | ⟨hc, h⟩
  · refine E_itt hc ?_
    refine E_sts 2 (11, [(0, .ref 0), (1, .int v1), (2, .int v2)], [.int 0, .ref 0], SH0, [], lg) rfl ?_
    obtain ⟨r11, hr, h⟩ := x_bind h
    refine E_call rfl (e_X5_finding X _ _ _ r11 hr) (by decide) ?_
    obtain rfl := Option.some.inj h
    refine E_sts 1 (14, [], [.int r11.1], SH0, [(100, r11.2), (4202, fun _ => (σ 4202 0)), (4300, (σ 4300))], lg) rfl ?_
    exact E_ret rfl
  · refine E_itf hc ?_
    refine E_sts 3 (20, [(0, .ref 0), (1, .int v1), (2, .int v2)], [.int v2, .ref 42], SH0, [], lg) rfl ?_
    refine E_call rfl (e_X4_hasRoom X _ _ _ (X4_hasRoom (σ 4202 0) v2) rfl) (by decide) ?_
    refine E_sts 1 (if (xb (X4_hasRoom (σ 4202 0) v2)) = 0 then 26 else 32, [(0, .ref 0), (1, .int v1), (2, .int v2)], [], SH0, [], lg) rfl ?_
    rcases x_br h with ⟨hc, h⟩ | ⟨hc, h⟩
    · refine E_itt hc ?_
      refine E_sts 2 (28, [(0, .ref 0), (1, .int v1), (2, .int v2)], [.int 1, .ref 0], SH0, [], lg) rfl ?_
      obtain ⟨r28, hr, h⟩ := x_bind h
      refine E_call rfl (e_X5_finding X _ _ _ r28 hr) (by decide) ?_
      obtain rfl := Option.some.inj h
      refine E_sts 1 (31, [], [.int r28.1], SH0, [(100, r28.2), (4202, fun _ => (σ 4202 0)), (4300, (σ 4300))], lg) rfl ?_
      exact E_ret rfl
    · refine E_itf hc ?_
      refine E_sts 4 (38, [(0, .ref 0), (1, .int v1), (2, .int v2)], [.int v2, .int v1, .ref 42], SH0, [], lg) rfl ?_
      obtain ⟨r38, hr, h⟩ := x_bind h
      refine E_call rfl (e_X4_append X _ _ _ _ r38 hr) (by decide) ?_
      obtain rfl := Option.some.inj h
      refine E_sts 1 (41, [], [.int r38.1], SH0, [(100, (σ 100)), (4202, fun _ => r38.2.1), (4300, r38.2.2)], lg) rfl ?_
      exact E_ret rfl
set_option maxHeartbeats 4000000 in
set_option maxRecDepth 20000 in
theorem e_X6_feed_L36 (X : xX) (σ : xM) (lg : Int64) : ∀ (n : Nat), ∀ (v1 : Int32) (v3 : Int32) (m_taped_ : Int32) (m_tape_ : (Nat → Int32)) (r : Int32 × Int32 × (Nat → Int32) × (Nat → Int32)), X6_feed_L36 (σ 5600) n v1 v3 m_taped_ m_tape_ = some r → E XP X 1 xm_190 σ (36, [(0, .ref 52), (1, .int v1), (3, .int v3)], [], SH0, [(5213, fun _ => m_taped_), (6100, m_tape_)], lg) (some (.int r.1), SH0, [(5213, fun _ => r.2.1), (5600, r.2.2.1), (6100, r.2.2.2)], lg) := by
  intro n
  induction n with
  | zero => intro v1 v3 m_taped_ m_tape_ r h; rw [X6_feed_L36] at h; cases h
  | succ n ih =>
    intro v1 v3 m_taped_ m_tape_ r h
    rw [X6_feed_L36] at h
    refine E_sts 2 (if v3 < 0 then 75 else 40, [(0, .ref 52), (1, .int v1), (3, .int v3)], [], SH0, [(5213, fun _ => m_taped_), (6100, m_tape_)], lg) rfl ?_
    rcases x_br h with ⟨hc, h⟩ | ⟨hc, h⟩
    · refine E_itt hc ?_
      obtain rfl := Option.some.inj h
      refine E_sts 3 (79, [], [.int m_taped_], SH0, [(5213, fun _ => m_taped_), (5600, (σ 5600)), (6100, m_tape_)], lg) rfl ?_
      exact E_ret rfl
    · refine E_itf hc ?_
      refine E_sts 11 (58, [(0, .ref 52), (1, .int v1), (3, .int v3)], [.int ((xshr v1 (8 * v3)) &&& 255), .int m_taped_, .ref 61], SH0, [(5213, fun _ => m_taped_), (6100, m_tape_)], lg) rfl ?_
      obtain ⟨hp, h⟩ := x_ite h
      refine E_par (p := inr m_taped_ 120) (59, [(0, .ref 52), (1, .int v1), (3, .int v3)], [], SH0, [(5213, fun _ => m_taped_), (6100, (upd m_tape_ m_taped_.toNatClampNeg ((xshr v1 (8 * v3)) &&& 255)))], lg) rfl hp ?_
      refine E_sts 9 (36, [(0, .ref 52), (1, .int v1), (3, .int (v3 + (-1)))], [], SH0, [(5213, fun _ => (m_taped_ + 1)), (6100, (upd m_tape_ m_taped_.toNatClampNeg ((xshr v1 (8 * v3)) &&& 255)))], lg) rfl ?_
      exact ih v1 (v3 + (-1)) (m_taped_ + 1) (upd m_tape_ m_taped_.toNatClampNeg ((xshr v1 (8 * v3)) &&& 255)) r h
set_option maxHeartbeats 4000000 in
set_option maxRecDepth 20000 in
theorem e_X6_feed (X : xX) (σ : xM) (lg : Int64) (v1 : Int32) (v2 : Int32) (r : Int32 × Int32 × (Nat → Int32) × (Nat → Int32)) (h : X6_feed (σ 5213 0) (σ 5600) (σ 6100) v1 v2 = some r) : EM XP X 2 190 [.ref 52, .int v1, .int v2] SH0 lg σ (some (.int r.1), SH0, [(5213, fun _ => r.2.1), (5600, r.2.2.1), (6100, r.2.2.2)], lg) := by
  refine EM_of (M := xm_190) rfl rfl ?_
  unfold X6_feed at h
  refine E_sts 3 (3, [(0, .ref 52), (1, .int v1), (2, .int v2)], [.int 4, .int 1, .int v2], SH0, [], lg) rfl ?_
  refine E_call rfl (e_X6_in1 X _ _ _ _ _ (X6_in1 v2 1 4) rfl) (by decide) ?_
  refine E_sts 1 (if (xb (X6_in1 v2 1 4)) = 0 then 9 else 15, [(0, .ref 52), (1, .int v1), (2, .int v2)], [], SH0, [], lg) rfl ?_
  rcases x_br h with ⟨hc, h⟩ | ⟨hc, h⟩
  · refine E_itt hc ?_
    refine E_sts 2 (11, [(0, .ref 52), (1, .int v1), (2, .int v2)], [.int 0, .ref 52], SH0, [], lg) rfl ?_
    obtain ⟨r11, hr, h⟩ := x_bind h
    refine E_call rfl (e_X6_no X _ _ _ r11 hr) (by decide) ?_
    obtain rfl := Option.some.inj h
    refine E_sts 1 (14, [], [.int r11.1], SH0, [(5213, fun _ => (σ 5213 0)), (5600, r11.2), (6100, (σ 6100))], lg) rfl ?_
    exact E_ret rfl
  · refine E_itf hc ?_
    refine E_sts 6 (if ((σ 5213 0) + v2) ≤ 120 then 32 else 26, [(0, .ref 52), (1, .int v1), (2, .int v2)], [], SH0, [], lg) rfl ?_
    rcases x_br h with ⟨hc, h⟩ | ⟨hc, h⟩
    · refine E_itt hc ?_
      refine E_sts 5 (36, [(0, .ref 52), (1, .int v1), (3, .int (v2 - 1))], [], SH0, [(5213, fun _ => (σ 5213 0)), (6100, (σ 6100))], lg) rfl ?_
      exact e_X6_feed_L36 X σ lg _ v1 (v2 - 1) (σ 5213 0) (σ 6100) r h
    · refine E_itf hc ?_
      refine E_sts 2 (28, [(0, .ref 52), (1, .int v1), (2, .int v2)], [.int 1, .ref 52], SH0, [], lg) rfl ?_
      obtain ⟨r28, hr, h⟩ := x_bind h
      refine E_call rfl (e_X6_no X _ _ _ r28 hr) (by decide) ?_
      obtain rfl := Option.some.inj h
      refine E_sts 1 (31, [], [.int r28.1], SH0, [(5213, fun _ => (σ 5213 0)), (5600, r28.2), (6100, (σ 6100))], lg) rfl ?_
      exact E_ret rfl
set_option maxHeartbeats 4000000 in
set_option maxRecDepth 20000 in
theorem e_X4_empty (X : xX) (σ : xM) (lg : Int64) (r : Int32 × Int32) (h : X4_empty (σ 4202 0) = some r) : EM XP X 1 52 [.ref 42] SH0 lg σ (some (.int r.1), SH0, [(4202, fun _ => r.2)], lg) := by
  refine EM_of (M := xm_52) rfl rfl ?_
  unfold X4_empty at h
  obtain rfl := Option.some.inj h
  refine E_sts 7 (11, [(0, .ref 42), (1, .int (σ 4202 0))], [.int (σ 4202 0)], SH0, [(4202, fun _ => 0)], lg) rfl ?_
  exact E_ret rfl
set_option maxHeartbeats 4000000 in
set_option maxRecDepth 20000 in
theorem e_X5_wipe (X : xX) (σ : xM) (lg : Int64) (r : Int32 × Int32) (h : X5_wipe (σ 4202 0) = some r) : EM XP X 2 100 [.ref 0] SH0 lg σ (some (.int r.1), SH0, [(4202, fun _ => r.2)], lg) := by
  refine EM_of (M := xm_100) rfl rfl ?_
  unfold X5_wipe at h
  refine E_sts 2 (4, [(0, .ref 0)], [.ref 42], SH0, [], lg) rfl ?_
  obtain ⟨r4, hr, h⟩ := x_bind h
  refine E_call rfl (e_X4_empty X _ _ r4 hr) (by decide) ?_
  obtain rfl := Option.some.inj h
  exact E_ret rfl
set_option maxHeartbeats 4000000 in
set_option maxRecDepth 20000 in
theorem e_X6_wipe (X : xX) (σ : xM) (lg : Int64) (r : Int32 × Int32) (h : X6_wipe (σ 5213 0) = some r) : EM XP X 1 191 [.ref 52] SH0 lg σ (some (.int r.1), SH0, [(5213, fun _ => r.2)], lg) := by
  refine EM_of (M := xm_191) rfl rfl ?_
  unfold X6_wipe at h
  obtain rfl := Option.some.inj h
  refine E_sts 7 (11, [(0, .ref 52), (1, .int (σ 5213 0))], [.int (σ 5213 0)], SH0, [(5213, fun _ => 0)], lg) rfl ?_
  exact E_ret rfl
set_option maxHeartbeats 4000000 in
set_option maxRecDepth 20000 in
theorem e_X2_become_dr_sc (X : xX) (σ : xM) (lg : Int64) (r : Int32 × Int32 × Int32 × Int32 × Int32 × Int32 × (Nat → Int32) × (Nat → Int32) × (Nat → Int32) × (Nat → Int32) × (Nat → Int32) × (Nat → Int32) × (Nat → Int32) × (Nat → Int32) × (Nat → Int32)) (h : X2_become_dr_sc (σ 201 0) (σ 207 0) (σ 208 0) (σ 209 0) (σ 210 0) (σ 214 0) (σ 300) (σ 400) (σ 500) (σ 600) (σ 700) (σ 800) (σ 900) (σ 1000) (σ 1100) (σ 2300) (σ 2400) (σ 2500) (σ 2600) (σ 2700) (σ 2800) (σ 2900) (σ 3000) (σ 3100) = some r) : EM XP X 1 24 [.ref 22, .ref 2] SH0 lg σ (none, SH0, [(2201, fun _ => r.1), (2207, fun _ => r.2.1), (2208, fun _ => r.2.2.1), (2209, fun _ => r.2.2.2.1), (2210, fun _ => r.2.2.2.2.1), (2214, fun _ => r.2.2.2.2.2.1), (2300, r.2.2.2.2.2.2.1), (2400, r.2.2.2.2.2.2.2.1), (2500, r.2.2.2.2.2.2.2.2.1), (2600, r.2.2.2.2.2.2.2.2.2.1), (2700, r.2.2.2.2.2.2.2.2.2.2.1), (2800, r.2.2.2.2.2.2.2.2.2.2.2.1), (2900, r.2.2.2.2.2.2.2.2.2.2.2.2.1), (3000, r.2.2.2.2.2.2.2.2.2.2.2.2.2.1), (3100, r.2.2.2.2.2.2.2.2.2.2.2.2.2.2)], lg) := by
  refine EM_of (M := xm_24) rfl rfl ?_
  unfold X2_become_dr_sc at h
  refine E_sts 31 (60, [(0, .ref 22), (1, .ref 2)], [.int 9, .int 0, .ref 23, .int 0, .ref 3], SH0, [(2201, fun _ => (σ 201 0)), (2207, fun _ => (σ 207 0)), (2208, fun _ => (σ 208 0)), (2209, fun _ => (σ 209 0)), (2210, fun _ => (σ 210 0)), (2214, fun _ => (σ 214 0))], lg) rfl ?_
  refine E_par (p := 0 ≤ Int32.toInt 0 ∧ 0 ≤ Int32.toInt 0 ∧ 0 ≤ Int32.toInt 9 ∧ Int32.toInt 0 + Int32.toInt 9 ≤ ((9 : Nat) : Int) ∧ Int32.toInt 0 + Int32.toInt 9 ≤ ((9 : Nat) : Int)) (63, [(0, .ref 22), (1, .ref 2)], [], SH0, [(2201, fun _ => (σ 201 0)), (2207, fun _ => (σ 207 0)), (2208, fun _ => (σ 208 0)), (2209, fun _ => (σ 209 0)), (2210, fun _ => (σ 210 0)), (2214, fun _ => (σ 214 0)), (2300, (va_cpy (σ 300) (σ 2300) (Int32.toNatClampNeg 0) (Int32.toNatClampNeg 0) (Int32.toNatClampNeg 9)))], lg) rfl (by decide) ?_
  refine E_sts 7 (75, [(0, .ref 22), (1, .ref 2)], [.int 9, .int 0, .ref 24, .int 0, .ref 4], SH0, [(2201, fun _ => (σ 201 0)), (2207, fun _ => (σ 207 0)), (2208, fun _ => (σ 208 0)), (2209, fun _ => (σ 209 0)), (2210, fun _ => (σ 210 0)), (2214, fun _ => (σ 214 0)), (2300, (va_cpy (σ 300) (σ 2300) (Int32.toNatClampNeg 0) (Int32.toNatClampNeg 0) (Int32.toNatClampNeg 9)))], lg) rfl ?_
  refine E_par (p := 0 ≤ Int32.toInt 0 ∧ 0 ≤ Int32.toInt 0 ∧ 0 ≤ Int32.toInt 9 ∧ Int32.toInt 0 + Int32.toInt 9 ≤ ((9 : Nat) : Int) ∧ Int32.toInt 0 + Int32.toInt 9 ≤ ((9 : Nat) : Int)) (78, [(0, .ref 22), (1, .ref 2)], [], SH0, [(2201, fun _ => (σ 201 0)), (2207, fun _ => (σ 207 0)), (2208, fun _ => (σ 208 0)), (2209, fun _ => (σ 209 0)), (2210, fun _ => (σ 210 0)), (2214, fun _ => (σ 214 0)), (2300, (va_cpy (σ 300) (σ 2300) (Int32.toNatClampNeg 0) (Int32.toNatClampNeg 0) (Int32.toNatClampNeg 9))), (2400, (va_cpy (σ 400) (σ 2400) (Int32.toNatClampNeg 0) (Int32.toNatClampNeg 0) (Int32.toNatClampNeg 9)))], lg) rfl (by decide) ?_
  refine E_sts 7 (90, [(0, .ref 22), (1, .ref 2)], [.int 9, .int 0, .ref 25, .int 0, .ref 5], SH0, [(2201, fun _ => (σ 201 0)), (2207, fun _ => (σ 207 0)), (2208, fun _ => (σ 208 0)), (2209, fun _ => (σ 209 0)), (2210, fun _ => (σ 210 0)), (2214, fun _ => (σ 214 0)), (2300, (va_cpy (σ 300) (σ 2300) (Int32.toNatClampNeg 0) (Int32.toNatClampNeg 0) (Int32.toNatClampNeg 9))), (2400, (va_cpy (σ 400) (σ 2400) (Int32.toNatClampNeg 0) (Int32.toNatClampNeg 0) (Int32.toNatClampNeg 9)))], lg) rfl ?_
  refine E_par (p := 0 ≤ Int32.toInt 0 ∧ 0 ≤ Int32.toInt 0 ∧ 0 ≤ Int32.toInt 9 ∧ Int32.toInt 0 + Int32.toInt 9 ≤ ((9 : Nat) : Int) ∧ Int32.toInt 0 + Int32.toInt 9 ≤ ((9 : Nat) : Int)) (93, [(0, .ref 22), (1, .ref 2)], [], SH0, [(2201, fun _ => (σ 201 0)), (2207, fun _ => (σ 207 0)), (2208, fun _ => (σ 208 0)), (2209, fun _ => (σ 209 0)), (2210, fun _ => (σ 210 0)), (2214, fun _ => (σ 214 0)), (2300, (va_cpy (σ 300) (σ 2300) (Int32.toNatClampNeg 0) (Int32.toNatClampNeg 0) (Int32.toNatClampNeg 9))), (2400, (va_cpy (σ 400) (σ 2400) (Int32.toNatClampNeg 0) (Int32.toNatClampNeg 0) (Int32.toNatClampNeg 9))), (2500, (va_cpy (σ 500) (σ 2500) (Int32.toNatClampNeg 0) (Int32.toNatClampNeg 0) (Int32.toNatClampNeg 9)))], lg) rfl (by decide) ?_
  refine E_sts 7 (105, [(0, .ref 22), (1, .ref 2)], [.int 9, .int 0, .ref 26, .int 0, .ref 6], SH0, [(2201, fun _ => (σ 201 0)), (2207, fun _ => (σ 207 0)), (2208, fun _ => (σ 208 0)), (2209, fun _ => (σ 209 0)), (2210, fun _ => (σ 210 0)), (2214, fun _ => (σ 214 0)), (2300, (va_cpy (σ 300) (σ 2300) (Int32.toNatClampNeg 0) (Int32.toNatClampNeg 0) (Int32.toNatClampNeg 9))), (2400, (va_cpy (σ 400) (σ 2400) (Int32.toNatClampNeg 0) (Int32.toNatClampNeg 0) (Int32.toNatClampNeg 9))), (2500, (va_cpy (σ 500) (σ 2500) (Int32.toNatClampNeg 0) (Int32.toNatClampNeg 0) (Int32.toNatClampNeg 9)))], lg) rfl ?_
  refine E_par (p := 0 ≤ Int32.toInt 0 ∧ 0 ≤ Int32.toInt 0 ∧ 0 ≤ Int32.toInt 9 ∧ Int32.toInt 0 + Int32.toInt 9 ≤ ((9 : Nat) : Int) ∧ Int32.toInt 0 + Int32.toInt 9 ≤ ((9 : Nat) : Int)) (108, [(0, .ref 22), (1, .ref 2)], [], SH0, [(2201, fun _ => (σ 201 0)), (2207, fun _ => (σ 207 0)), (2208, fun _ => (σ 208 0)), (2209, fun _ => (σ 209 0)), (2210, fun _ => (σ 210 0)), (2214, fun _ => (σ 214 0)), (2300, (va_cpy (σ 300) (σ 2300) (Int32.toNatClampNeg 0) (Int32.toNatClampNeg 0) (Int32.toNatClampNeg 9))), (2400, (va_cpy (σ 400) (σ 2400) (Int32.toNatClampNeg 0) (Int32.toNatClampNeg 0) (Int32.toNatClampNeg 9))), (2500, (va_cpy (σ 500) (σ 2500) (Int32.toNatClampNeg 0) (Int32.toNatClampNeg 0) (Int32.toNatClampNeg 9))), (2600, (va_cpy (σ 600) (σ 2600) (Int32.toNatClampNeg 0) (Int32.toNatClampNeg 0) (Int32.toNatClampNeg 9)))], lg) rfl (by decide) ?_
  refine E_sts 7 (119, [(0, .ref 22), (1, .ref 2)], [.int 5, .int 0, .ref 27, .int 0, .ref 7], SH0, [(2201, fun _ => (σ 201 0)), (2207, fun _ => (σ 207 0)), (2208, fun _ => (σ 208 0)), (2209, fun _ => (σ 209 0)), (2210, fun _ => (σ 210 0)), (2214, fun _ => (σ 214 0)), (2300, (va_cpy (σ 300) (σ 2300) (Int32.toNatClampNeg 0) (Int32.toNatClampNeg 0) (Int32.toNatClampNeg 9))), (2400, (va_cpy (σ 400) (σ 2400) (Int32.toNatClampNeg 0) (Int32.toNatClampNeg 0) (Int32.toNatClampNeg 9))), (2500, (va_cpy (σ 500) (σ 2500) (Int32.toNatClampNeg 0) (Int32.toNatClampNeg 0) (Int32.toNatClampNeg 9))), (2600, (va_cpy (σ 600) (σ 2600) (Int32.toNatClampNeg 0) (Int32.toNatClampNeg 0) (Int32.toNatClampNeg 9)))], lg) rfl ?_
  refine E_par (p := 0 ≤ Int32.toInt 0 ∧ 0 ≤ Int32.toInt 0 ∧ 0 ≤ Int32.toInt 5 ∧ Int32.toInt 0 + Int32.toInt 5 ≤ ((5 : Nat) : Int) ∧ Int32.toInt 0 + Int32.toInt 5 ≤ ((5 : Nat) : Int)) (122, [(0, .ref 22), (1, .ref 2)], [], SH0, [(2201, fun _ => (σ 201 0)), (2207, fun _ => (σ 207 0)), (2208, fun _ => (σ 208 0)), (2209, fun _ => (σ 209 0)), (2210, fun _ => (σ 210 0)), (2214, fun _ => (σ 214 0)), (2300, (va_cpy (σ 300) (σ 2300) (Int32.toNatClampNeg 0) (Int32.toNatClampNeg 0) (Int32.toNatClampNeg 9))), (2400, (va_cpy (σ 400) (σ 2400) (Int32.toNatClampNeg 0) (Int32.toNatClampNeg 0) (Int32.toNatClampNeg 9))), (2500, (va_cpy (σ 500) (σ 2500) (Int32.toNatClampNeg 0) (Int32.toNatClampNeg 0) (Int32.toNatClampNeg 9))), (2600, (va_cpy (σ 600) (σ 2600) (Int32.toNatClampNeg 0) (Int32.toNatClampNeg 0) (Int32.toNatClampNeg 9))), (2700, (va_cpy (σ 700) (σ 2700) (Int32.toNatClampNeg 0) (Int32.toNatClampNeg 0) (Int32.toNatClampNeg 5)))], lg) rfl (by decide) ?_
  refine E_sts 7 (134, [(0, .ref 22), (1, .ref 2)], [.int 9, .int 0, .ref 28, .int 0, .ref 8], SH0, [(2201, fun _ => (σ 201 0)), (2207, fun _ => (σ 207 0)), (2208, fun _ => (σ 208 0)), (2209, fun _ => (σ 209 0)), (2210, fun _ => (σ 210 0)), (2214, fun _ => (σ 214 0)), (2300, (va_cpy (σ 300) (σ 2300) (Int32.toNatClampNeg 0) (Int32.toNatClampNeg 0) (Int32.toNatClampNeg 9))), (2400, (va_cpy (σ 400) (σ 2400) (Int32.toNatClampNeg 0) (Int32.toNatClampNeg 0) (Int32.toNatClampNeg 9))), (2500, (va_cpy (σ 500) (σ 2500) (Int32.toNatClampNeg 0) (Int32.toNatClampNeg 0) (Int32.toNatClampNeg 9))), (2600, (va_cpy (σ 600) (σ 2600) (Int32.toNatClampNeg 0) (Int32.toNatClampNeg 0) (Int32.toNatClampNeg 9))), (2700, (va_cpy (σ 700) (σ 2700) (Int32.toNatClampNeg 0) (Int32.toNatClampNeg 0) (Int32.toNatClampNeg 5)))], lg) rfl ?_
  refine E_par (p := 0 ≤ Int32.toInt 0 ∧ 0 ≤ Int32.toInt 0 ∧ 0 ≤ Int32.toInt 9 ∧ Int32.toInt 0 + Int32.toInt 9 ≤ ((9 : Nat) : Int) ∧ Int32.toInt 0 + Int32.toInt 9 ≤ ((9 : Nat) : Int)) (137, [(0, .ref 22), (1, .ref 2)], [], SH0, [(2201, fun _ => (σ 201 0)), (2207, fun _ => (σ 207 0)), (2208, fun _ => (σ 208 0)), (2209, fun _ => (σ 209 0)), (2210, fun _ => (σ 210 0)), (2214, fun _ => (σ 214 0)), (2300, (va_cpy (σ 300) (σ 2300) (Int32.toNatClampNeg 0) (Int32.toNatClampNeg 0) (Int32.toNatClampNeg 9))), (2400, (va_cpy (σ 400) (σ 2400) (Int32.toNatClampNeg 0) (Int32.toNatClampNeg 0) (Int32.toNatClampNeg 9))), (2500, (va_cpy (σ 500) (σ 2500) (Int32.toNatClampNeg 0) (Int32.toNatClampNeg 0) (Int32.toNatClampNeg 9))), (2600, (va_cpy (σ 600) (σ 2600) (Int32.toNatClampNeg 0) (Int32.toNatClampNeg 0) (Int32.toNatClampNeg 9))), (2700, (va_cpy (σ 700) (σ 2700) (Int32.toNatClampNeg 0) (Int32.toNatClampNeg 0) (Int32.toNatClampNeg 5))), (2800, (va_cpy (σ 800) (σ 2800) (Int32.toNatClampNeg 0) (Int32.toNatClampNeg 0) (Int32.toNatClampNeg 9)))], lg) rfl (by decide) ?_
  refine E_sts 7 (149, [(0, .ref 22), (1, .ref 2)], [.int 9, .int 0, .ref 29, .int 0, .ref 9], SH0, [(2201, fun _ => (σ 201 0)), (2207, fun _ => (σ 207 0)), (2208, fun _ => (σ 208 0)), (2209, fun _ => (σ 209 0)), (2210, fun _ => (σ 210 0)), (2214, fun _ => (σ 214 0)), (2300, (va_cpy (σ 300) (σ 2300) (Int32.toNatClampNeg 0) (Int32.toNatClampNeg 0) (Int32.toNatClampNeg 9))), (2400, (va_cpy (σ 400) (σ 2400) (Int32.toNatClampNeg 0) (Int32.toNatClampNeg 0) (Int32.toNatClampNeg 9))), (2500, (va_cpy (σ 500) (σ 2500) (Int32.toNatClampNeg 0) (Int32.toNatClampNeg 0) (Int32.toNatClampNeg 9))), (2600, (va_cpy (σ 600) (σ 2600) (Int32.toNatClampNeg 0) (Int32.toNatClampNeg 0) (Int32.toNatClampNeg 9))), (2700, (va_cpy (σ 700) (σ 2700) (Int32.toNatClampNeg 0) (Int32.toNatClampNeg 0) (Int32.toNatClampNeg 5))), (2800, (va_cpy (σ 800) (σ 2800) (Int32.toNatClampNeg 0) (Int32.toNatClampNeg 0) (Int32.toNatClampNeg 9)))], lg) rfl ?_
  refine E_par (p := 0 ≤ Int32.toInt 0 ∧ 0 ≤ Int32.toInt 0 ∧ 0 ≤ Int32.toInt 9 ∧ Int32.toInt 0 + Int32.toInt 9 ≤ ((9 : Nat) : Int) ∧ Int32.toInt 0 + Int32.toInt 9 ≤ ((9 : Nat) : Int)) (152, [(0, .ref 22), (1, .ref 2)], [], SH0, [(2201, fun _ => (σ 201 0)), (2207, fun _ => (σ 207 0)), (2208, fun _ => (σ 208 0)), (2209, fun _ => (σ 209 0)), (2210, fun _ => (σ 210 0)), (2214, fun _ => (σ 214 0)), (2300, (va_cpy (σ 300) (σ 2300) (Int32.toNatClampNeg 0) (Int32.toNatClampNeg 0) (Int32.toNatClampNeg 9))), (2400, (va_cpy (σ 400) (σ 2400) (Int32.toNatClampNeg 0) (Int32.toNatClampNeg 0) (Int32.toNatClampNeg 9))), (2500, (va_cpy (σ 500) (σ 2500) (Int32.toNatClampNeg 0) (Int32.toNatClampNeg 0) (Int32.toNatClampNeg 9))), (2600, (va_cpy (σ 600) (σ 2600) (Int32.toNatClampNeg 0) (Int32.toNatClampNeg 0) (Int32.toNatClampNeg 9))), (2700, (va_cpy (σ 700) (σ 2700) (Int32.toNatClampNeg 0) (Int32.toNatClampNeg 0) (Int32.toNatClampNeg 5))), (2800, (va_cpy (σ 800) (σ 2800) (Int32.toNatClampNeg 0) (Int32.toNatClampNeg 0) (Int32.toNatClampNeg 9))), (2900, (va_cpy (σ 900) (σ 2900) (Int32.toNatClampNeg 0) (Int32.toNatClampNeg 0) (Int32.toNatClampNeg 9)))], lg) rfl (by decide) ?_
  refine E_sts 7 (164, [(0, .ref 22), (1, .ref 2)], [.int 9, .int 0, .ref 30, .int 0, .ref 10], SH0, [(2201, fun _ => (σ 201 0)), (2207, fun _ => (σ 207 0)), (2208, fun _ => (σ 208 0)), (2209, fun _ => (σ 209 0)), (2210, fun _ => (σ 210 0)), (2214, fun _ => (σ 214 0)), (2300, (va_cpy (σ 300) (σ 2300) (Int32.toNatClampNeg 0) (Int32.toNatClampNeg 0) (Int32.toNatClampNeg 9))), (2400, (va_cpy (σ 400) (σ 2400) (Int32.toNatClampNeg 0) (Int32.toNatClampNeg 0) (Int32.toNatClampNeg 9))), (2500, (va_cpy (σ 500) (σ 2500) (Int32.toNatClampNeg 0) (Int32.toNatClampNeg 0) (Int32.toNatClampNeg 9))), (2600, (va_cpy (σ 600) (σ 2600) (Int32.toNatClampNeg 0) (Int32.toNatClampNeg 0) (Int32.toNatClampNeg 9))), (2700, (va_cpy (σ 700) (σ 2700) (Int32.toNatClampNeg 0) (Int32.toNatClampNeg 0) (Int32.toNatClampNeg 5))), (2800, (va_cpy (σ 800) (σ 2800) (Int32.toNatClampNeg 0) (Int32.toNatClampNeg 0) (Int32.toNatClampNeg 9))), (2900, (va_cpy (σ 900) (σ 2900) (Int32.toNatClampNeg 0) (Int32.toNatClampNeg 0) (Int32.toNatClampNeg 9)))], lg) rfl ?_
  refine E_par (p := 0 ≤ Int32.toInt 0 ∧ 0 ≤ Int32.toInt 0 ∧ 0 ≤ Int32.toInt 9 ∧ Int32.toInt 0 + Int32.toInt 9 ≤ ((9 : Nat) : Int) ∧ Int32.toInt 0 + Int32.toInt 9 ≤ ((9 : Nat) : Int)) (167, [(0, .ref 22), (1, .ref 2)], [], SH0, [(2201, fun _ => (σ 201 0)), (2207, fun _ => (σ 207 0)), (2208, fun _ => (σ 208 0)), (2209, fun _ => (σ 209 0)), (2210, fun _ => (σ 210 0)), (2214, fun _ => (σ 214 0)), (2300, (va_cpy (σ 300) (σ 2300) (Int32.toNatClampNeg 0) (Int32.toNatClampNeg 0) (Int32.toNatClampNeg 9))), (2400, (va_cpy (σ 400) (σ 2400) (Int32.toNatClampNeg 0) (Int32.toNatClampNeg 0) (Int32.toNatClampNeg 9))), (2500, (va_cpy (σ 500) (σ 2500) (Int32.toNatClampNeg 0) (Int32.toNatClampNeg 0) (Int32.toNatClampNeg 9))), (2600, (va_cpy (σ 600) (σ 2600) (Int32.toNatClampNeg 0) (Int32.toNatClampNeg 0) (Int32.toNatClampNeg 9))), (2700, (va_cpy (σ 700) (σ 2700) (Int32.toNatClampNeg 0) (Int32.toNatClampNeg 0) (Int32.toNatClampNeg 5))), (2800, (va_cpy (σ 800) (σ 2800) (Int32.toNatClampNeg 0) (Int32.toNatClampNeg 0) (Int32.toNatClampNeg 9))), (2900, (va_cpy (σ 900) (σ 2900) (Int32.toNatClampNeg 0) (Int32.toNatClampNeg 0) (Int32.toNatClampNeg 9))), (3000, (va_cpy (σ 1000) (σ 3000) (Int32.toNatClampNeg 0) (Int32.toNatClampNeg 0) (Int32.toNatClampNeg 9)))], lg) rfl (by decide) ?_
  refine E_sts 7 (179, [(0, .ref 22), (1, .ref 2)], [.int 10, .int 0, .ref 31, .int 0, .ref 11], SH0, [(2201, fun _ => (σ 201 0)), (2207, fun _ => (σ 207 0)), (2208, fun _ => (σ 208 0)), (2209, fun _ => (σ 209 0)), (2210, fun _ => (σ 210 0)), (2214, fun _ => (σ 214 0)), (2300, (va_cpy (σ 300) (σ 2300) (Int32.toNatClampNeg 0) (Int32.toNatClampNeg 0) (Int32.toNatClampNeg 9))), (2400, (va_cpy (σ 400) (σ 2400) (Int32.toNatClampNeg 0) (Int32.toNatClampNeg 0) (Int32.toNatClampNeg 9))), (2500, (va_cpy (σ 500) (σ 2500) (Int32.toNatClampNeg 0) (Int32.toNatClampNeg 0) (Int32.toNatClampNeg 9))), (2600, (va_cpy (σ 600) (σ 2600) (Int32.toNatClampNeg 0) (Int32.toNatClampNeg 0) (Int32.toNatClampNeg 9))), (2700, (va_cpy (σ 700) (σ 2700) (Int32.toNatClampNeg 0) (Int32.toNatClampNeg 0) (Int32.toNatClampNeg 5))), (2800, (va_cpy (σ 800) (σ 2800) (Int32.toNatClampNeg 0) (Int32.toNatClampNeg 0) (Int32.toNatClampNeg 9))), (2900, (va_cpy (σ 900) (σ 2900) (Int32.toNatClampNeg 0) (Int32.toNatClampNeg 0) (Int32.toNatClampNeg 9))), (3000, (va_cpy (σ 1000) (σ 3000) (Int32.toNatClampNeg 0) (Int32.toNatClampNeg 0) (Int32.toNatClampNeg 9)))], lg) rfl ?_
  refine E_par (p := 0 ≤ Int32.toInt 0 ∧ 0 ≤ Int32.toInt 0 ∧ 0 ≤ Int32.toInt 10 ∧ Int32.toInt 0 + Int32.toInt 10 ≤ ((10 : Nat) : Int) ∧ Int32.toInt 0 + Int32.toInt 10 ≤ ((10 : Nat) : Int)) (182, [(0, .ref 22), (1, .ref 2)], [], SH0, [(2201, fun _ => (σ 201 0)), (2207, fun _ => (σ 207 0)), (2208, fun _ => (σ 208 0)), (2209, fun _ => (σ 209 0)), (2210, fun _ => (σ 210 0)), (2214, fun _ => (σ 214 0)), (2300, (va_cpy (σ 300) (σ 2300) (Int32.toNatClampNeg 0) (Int32.toNatClampNeg 0) (Int32.toNatClampNeg 9))), (2400, (va_cpy (σ 400) (σ 2400) (Int32.toNatClampNeg 0) (Int32.toNatClampNeg 0) (Int32.toNatClampNeg 9))), (2500, (va_cpy (σ 500) (σ 2500) (Int32.toNatClampNeg 0) (Int32.toNatClampNeg 0) (Int32.toNatClampNeg 9))), (2600, (va_cpy (σ 600) (σ 2600) (Int32.toNatClampNeg 0) (Int32.toNatClampNeg 0) (Int32.toNatClampNeg 9))), (2700, (va_cpy (σ 700) (σ 2700) (Int32.toNatClampNeg 0) (Int32.toNatClampNeg 0) (Int32.toNatClampNeg 5))), (2800, (va_cpy (σ 800) (σ 2800) (Int32.toNatClampNeg 0) (Int32.toNatClampNeg 0) (Int32.toNatClampNeg 9))), (2900, (va_cpy (σ 900) (σ 2900) (Int32.toNatClampNeg 0) (Int32.toNatClampNeg 0) (Int32.toNatClampNeg 9))), (3000, (va_cpy (σ 1000) (σ 3000) (Int32.toNatClampNeg 0) (Int32.toNatClampNeg 0) (Int32.toNatClampNeg 9))), (3100, (va_cpy (σ 1100) (σ 3100) (Int32.toNatClampNeg 0) (Int32.toNatClampNeg 0) (Int32.toNatClampNeg 10)))], lg) rfl (by decide) ?_
  obtain rfl := Option.some.inj h
  exact E_ret rfl
