/-! what the machine answers is what the functions say (by gen/emit.py) -/
set_option maxHeartbeats 4000000 in
set_option maxRecDepth 20000 in
theorem e_X1_haveWay_L17 (X : xX) (σ : xM) (lg : Int64) (k7 : Int32 → Int32 → Option (Bool)) (h7 : ∀ (v1 : Int32) (v2 : Int32) (r : Bool), k7 v1 v2 = some r → E XP X 1 xm_8 σ (7, [(0, .ref 32), (1, .int v1), (2, .int v2)], [], SH0, [], lg) (some (.int (xb r)), SH0, [], lg)) : ∀ (n : Nat), ∀ (v1 : Int32) (v2 : Int32) (v3 : Int32) (r : Bool), X1_haveWay_L17 k7 (σ 3211 0) (σ 3500) n v1 v2 v3 = some r → E XP X 1 xm_8 σ (17, [(0, .ref 32), (1, .int v1), (2, .int v2), (3, .int v3)], [], SH0, [], lg) (some (.int (xb r)), SH0, [], lg) := by
  intro n
  induction n with
  | zero => intro v1 v2 v3 r h; rw [X1_haveWay_L17] at h; cases h
  | succ n ih =>
    intro v1 v2 v3 r h
    rw [X1_haveWay_L17] at h
    refine E_sts 4 (if (σ 3211 0) ≤ v3 then 46 else 25, [(0, .ref 32), (1, .int v1), (2, .int v2), (3, .int v3)], [], SH0, [], lg) rfl ?_
    rcases x_br h with ⟨hc, h⟩ | ⟨hc, h⟩
    · refine E_itt hc ?_
      refine E_sts 3 (7, [(0, .ref 32), (1, .int v1), (2, .int (v2 + 1))], [], SH0, [], lg) rfl ?_
      exact h7 v1 (v2 + 1) r h
    · refine E_itf hc ?_
      refine E_sts 3 (28, [(0, .ref 32), (1, .int v1), (2, .int v2), (3, .int v3)], [.int v1, .int v3, .ref 32], SH0, [], lg) rfl ?_
      obtain ⟨r28, hr, h⟩ := x_bind h
      refine E_call rfl (e_X1_canFollow X _ _ _ _ r28 hr) (by decide) ?_
      refine E_sts 1 (if (xb r28) = 0 then 40 else 34, [(0, .ref 32), (1, .int v1), (2, .int v2), (3, .int v3)], [], SH0, [], lg) rfl ?_
      rcases x_br h with ⟨hc, h⟩ | ⟨hc, h⟩
      · refine E_itt hc ?_
        refine E_sts 3 (17, [(0, .ref 32), (1, .int v1), (2, .int v2), (3, .int (v3 + 1))], [], SH0, [], lg) rfl ?_
        exact ih v1 v2 (v3 + 1) r h
      · refine E_itf hc ?_
        refine E_sts 9 (17, [(0, .ref 32), (1, .int (v1 ||| (xshl 1 v3))), (2, .int v2), (3, .int (v3 + 1))], [], SH0, [], lg) rfl ?_
        exact ih (v1 ||| (xshl 1 v3)) v2 (v3 + 1) r h
set_option maxHeartbeats 4000000 in
set_option maxRecDepth 20000 in
theorem e_X1_haveWay_L7 (X : xX) (σ : xM) (lg : Int64) : ∀ (n : Nat), ∀ (v1 : Int32) (v2 : Int32) (r : Bool), X1_haveWay_L7 (σ 3211 0) (σ 3214 0) (σ 3500) n v1 v2 = some r → E XP X 1 xm_8 σ (7, [(0, .ref 32), (1, .int v1), (2, .int v2)], [], SH0, [], lg) (some (.int (xb r)), SH0, [], lg) := by
  intro n
  induction n with
  | zero => intro v1 v2 r h; rw [X1_haveWay_L7] at h; cases h
  | succ n ih =>
    intro v1 v2 r h
    rw [X1_haveWay_L7] at h
    refine E_sts 4 (if (σ 3211 0) ≤ v2 then 52 else 15, [(0, .ref 32), (1, .int v1), (2, .int v2)], [], SH0, [], lg) rfl ?_
    rcases x_br h with ⟨hc, h⟩ | ⟨hc, h⟩
    · refine E_itt hc ?_
      refine E_sts 4 (if v1 = (σ 3214 0) then 60 else 64, [(0, .ref 32), (1, .int v1), (2, .int v2)], [], SH0, [], lg) rfl ?_
      rcases x_br h with ⟨hc, h⟩ | ⟨hc, h⟩
      · refine E_itt hc ?_
        obtain rfl := Option.some.inj h
        refine E_sts 2 (65, [(0, .ref 32), (1, .int v1), (2, .int v2)], [.int 1], SH0, [], lg) rfl ?_
        exact E_retp (p := (1 : Int32) = 0 ∨ (1 : Int32) = 1) rfl (by decide)
      · refine E_itf hc ?_
        obtain rfl := Option.some.inj h
        refine E_sts 1 (65, [(0, .ref 32), (1, .int v1), (2, .int v2)], [.int 0], SH0, [], lg) rfl ?_
        exact E_retp (p := (0 : Int32) = 0 ∨ (0 : Int32) = 1) rfl (by decide)
    · refine E_itf hc ?_
      refine E_sts 3 (17, [(0, .ref 32), (1, .int v1), (2, .int v2), (3, .int 0)], [], SH0, [], lg) rfl ?_
      exact e_X1_haveWay_L17 X σ lg _ (fun v10 v20 r h => ih v10 v20 r h) _ v1 v2 0 r h
set_option maxHeartbeats 4000000 in
set_option maxRecDepth 20000 in
theorem e_X1_haveWay (X : xX) (σ : xM) (lg : Int64) (r : Bool) (h : X1_haveWay (σ 3211 0) (σ 3212 0) (σ 3214 0) (σ 3500) = some r) : EM XP X 2 8 [.ref 32] SH0 lg σ (some (.int (xb r)), SH0, [], lg) := by
  refine EM_of (M := xm_8) rfl rfl ?_
  unfold X1_haveWay at h
  refine E_sts 6 (7, [(0, .ref 32), (1, .int (σ 3212 0)), (2, .int 0)], [], SH0, [], lg) rfl ?_
  exact e_X1_haveWay_L7 X σ lg _ (σ 3212 0) 0 r h
set_option maxHeartbeats 4000000 in
set_option maxRecDepth 20000 in
theorem e_X1_score_L64 (X : xX) (σ : xM) (lg : Int64) (k2 : Int32 → Int32 → (Nat → Int32) → Option ((Nat → Int32))) (k39 : Int32 → Int32 → Int32 → Int32 → (Nat → Int32) → Option ((Nat → Int32))) (h2 : ∀ (v1 : Int32) (v2 : Int32) (od_scores_ : (Nat → Int32)) (r : (Nat → Int32)), k2 v1 v2 od_scores_ = some r → E XP X 2 xm_10 σ (2, [(0, .ref 32), (1, .int v1), (2, .int v2)], [], SH0, [(3600, od_scores_)], lg) (none, SH0, [(3600, r)], lg)) (h39 : ∀ (v1 : Int32) (v2 : Int32) (v3 : Int32) (v4 : Int32) (od_scores_ : (Nat → Int32)) (r : (Nat → Int32)), k39 v1 v2 v3 v4 od_scores_ = some r → E XP X 2 xm_10 σ (39, [(0, .ref 32), (1, .int v1), (2, .int v2), (3, .int v3), (4, .int v4)], [], SH0, [(3600, od_scores_)], lg) (none, SH0, [(3600, r)], lg)) : ∀ (v1 : Int32) (v2 : Int32) (v3 : Int32) (v4 : Int32) (t0 : Int32) (od_scores_ : (Nat → Int32)) (r : (Nat → Int32)), X1_score_L64 k2 k39 (σ 3300) (σ 3400) v1 v2 v3 v4 t0 od_scores_ = some r → E XP X 2 xm_10 σ (64, [(0, .ref 32), (1, .int v1), (2, .int v2), (3, .int v3), (4, .int v4)], [.int t0], SH0, [(3600, od_scores_)], lg) (none, SH0, [(3600, r)], lg) := by
  intro v1 v2 v3 v4 t0 od_scores_ r h
  unfold X1_score_L64 at h
  refine E_sts 11 (if v1 = 1 then 82 else 88, [(0, .ref 32), (1, .int v1), (2, .int v2), (3, .int v3), (4, .int v4), (5, .int t0)], [.int ((v2 * 9) + v4), .ref 36], SH0, [(3600, od_scores_)], lg) rfl ?_
  rcases x_br h with ⟨hc, h⟩ | ⟨hc, h⟩
  · refine E_itt hc ?_
    refine E_sts 3 (106, [(0, .ref 32), (1, .int v1), (2, .int v2), (3, .int v3), (4, .int v4), (5, .int t0)], [.int (-t0), .int ((v2 * 9) + v4), .ref 36], SH0, [(3600, od_scores_)], lg) rfl ?_
    obtain ⟨hp, h⟩ := x_ite h
    refine E_par (p := inr ((v2 * 9) + v4) 90) (107, [(0, .ref 32), (1, .int v1), (2, .int v2), (3, .int v3), (4, .int v4), (5, .int t0)], [], SH0, [(3600, (upd od_scores_ ((v2 * 9) + v4).toNatClampNeg (-t0)))], lg) rfl hp ?_
    refine E_sts 3 (39, [(0, .ref 32), (1, .int v1), (2, .int v2), (3, .int v3), (4, .int (v4 + 1))], [], SH0, [(3600, (upd od_scores_ ((v2 * 9) + v4).toNatClampNeg (-t0)))], lg) rfl ?_
    exact h39 v1 v2 v3 (v4 + 1) (upd od_scores_ ((v2 * 9) + v4).toNatClampNeg (-t0)) r h
  · refine E_itf hc ?_
    refine E_sts 3 (94, [(0, .ref 32), (1, .int v1), (2, .int v2), (3, .int v3), (4, .int v4), (5, .int t0)], [.int v4, .ref 33, .int ((v2 * 9) + v4), .ref 36], SH0, [(3600, od_scores_)], lg) rfl ?_
    obtain ⟨hp, h⟩ := x_ite h
    refine E_par (p := inr v4 9) (95, [(0, .ref 32), (1, .int v1), (2, .int v2), (3, .int v3), (4, .int v4), (5, .int t0)], [.int ((σ 3300) v4.toNatClampNeg), .int ((v2 * 9) + v4), .ref 36], SH0, [(3600, od_scores_)], lg) rfl hp ?_
    refine E_sts 3 (101, [(0, .ref 32), (1, .int v1), (2, .int v2), (3, .int v3), (4, .int v4), (5, .int t0)], [.int v4, .ref 34, .int ((σ 3300) v4.toNatClampNeg), .int ((v2 * 9) + v4), .ref 36], SH0, [(3600, od_scores_)], lg) rfl ?_
    obtain ⟨hp, h⟩ := x_ite h
    refine E_par (p := inr v4 9) (102, [(0, .ref 32), (1, .int v1), (2, .int v2), (3, .int v3), (4, .int v4), (5, .int t0)], [.int ((σ 3400) v4.toNatClampNeg), .int ((σ 3300) v4.toNatClampNeg), .int ((v2 * 9) + v4), .ref 36], SH0, [(3600, od_scores_)], lg) rfl hp ?_
    refine E_sts 1 (103, [(0, .ref 32), (1, .int v1), (2, .int v2), (3, .int v3), (4, .int v4), (5, .int t0)], [.int v3, .int ((σ 3400) v4.toNatClampNeg), .int ((σ 3300) v4.toNatClampNeg), .int ((v2 * 9) + v4), .ref 36], SH0, [(3600, od_scores_)], lg) rfl ?_
    refine E_call rfl (e_X0_noiseOf X _ _ _ _ _ (X0_noiseOf ((σ 3300) v4.toNatClampNeg) ((σ 3400) v4.toNatClampNeg) v3) rfl) (by decide) ?_
    obtain ⟨hp, h⟩ := x_ite h
    refine E_par (p := inr ((v2 * 9) + v4) 90) (107, [(0, .ref 32), (1, .int v1), (2, .int v2), (3, .int v3), (4, .int v4), (5, .int t0)], [], SH0, [(3600, (upd od_scores_ ((v2 * 9) + v4).toNatClampNeg (X0_noiseOf ((σ 3300) v4.toNatClampNeg) ((σ 3400) v4.toNatClampNeg) v3)))], lg) rfl hp ?_
    refine E_sts 3 (39, [(0, .ref 32), (1, .int v1), (2, .int v2), (3, .int v3), (4, .int (v4 + 1))], [], SH0, [(3600, (upd od_scores_ ((v2 * 9) + v4).toNatClampNeg (X0_noiseOf ((σ 3300) v4.toNatClampNeg) ((σ 3400) v4.toNatClampNeg) v3)))], lg) rfl ?_
    exact h39 v1 v2 v3 (v4 + 1) (upd od_scores_ ((v2 * 9) + v4).toNatClampNeg (X0_noiseOf ((σ 3300) v4.toNatClampNeg) ((σ 3400) v4.toNatClampNeg) v3)) r h
set_option maxHeartbeats 4000000 in
set_option maxRecDepth 20000 in
theorem e_X1_score_L39 (X : xX) (σ : xM) (lg : Int64) (k2 : Int32 → Int32 → (Nat → Int32) → Option ((Nat → Int32))) (h2 : ∀ (v1 : Int32) (v2 : Int32) (od_scores_ : (Nat → Int32)) (r : (Nat → Int32)), k2 v1 v2 od_scores_ = some r → E XP X 2 xm_10 σ (2, [(0, .ref 32), (1, .int v1), (2, .int v2)], [], SH0, [(3600, od_scores_)], lg) (none, SH0, [(3600, r)], lg)) : ∀ (n : Nat), ∀ (v1 : Int32) (v2 : Int32) (v3 : Int32) (v4 : Int32) (od_scores_ : (Nat → Int32)) (r : (Nat → Int32)), X1_score_L39 k2 (σ 3211 0) (σ 3300) (σ 3400) n v1 v2 v3 v4 od_scores_ = some r → E XP X 2 xm_10 σ (39, [(0, .ref 32), (1, .int v1), (2, .int v2), (3, .int v3), (4, .int v4)], [], SH0, [(3600, od_scores_)], lg) (none, SH0, [(3600, r)], lg) := by
  intro n
  induction n with
  | zero => intro v1 v2 v3 v4 od_scores_ r h; rw [X1_score_L39] at h; cases h
  | succ n ih =>
    intro v1 v2 v3 v4 od_scores_ r h
    rw [X1_score_L39] at h
    refine E_sts 4 (if (σ 3211 0) ≤ v4 then 113 else 48, [(0, .ref 32), (1, .int v1), (2, .int v2), (3, .int v3), (4, .int v4)], [], SH0, [(3600, od_scores_)], lg) rfl ?_
    rcases x_br h with ⟨hc, h⟩ | ⟨hc, h⟩
    · refine E_itt hc ?_
      refine E_sts 3 (2, [(0, .ref 32), (1, .int v1), (2, .int (v2 + 1))], [], SH0, [(3600, od_scores_)], lg) rfl ?_
      exact h2 v1 (v2 + 1) od_scores_ r h
    · refine E_itf hc ?_
      refine E_sts 4 (55, [(0, .ref 32), (1, .int v1), (2, .int v2), (3, .int v3), (4, .int v4)], [.int v4, .ref 34, .int v3], SH0, [(3600, od_scores_)], lg) rfl ?_
      obtain ⟨hp, h⟩ := x_ite h
      refine E_par (p := inr v4 9) (56, [(0, .ref 32), (1, .int v1), (2, .int v2), (3, .int v3), (4, .int v4)], [.int ((σ 3400) v4.toNatClampNeg), .int v3], SH0, [(3600, od_scores_)], lg) rfl hp ?_
      refine E_sts 1 (if v3 ≤ ((σ 3400) v4.toNatClampNeg) then 63 else 59, [(0, .ref 32), (1, .int v1), (2, .int v2), (3, .int v3), (4, .int v4)], [], SH0, [(3600, od_scores_)], lg) rfl ?_
      rcases x_br h with ⟨hc, h⟩ | ⟨hc, h⟩
      · refine E_itt hc ?_
        refine E_sts 2 (64, [(0, .ref 32), (1, .int v1), (2, .int v2), (3, .int v3), (4, .int v4)], [.int 0], SH0, [(3600, od_scores_)], lg) rfl ?_
        exact e_X1_score_L64 X σ lg _ _ (fun v10 v20 od_scores_0 r h => h2 v10 v20 od_scores_0 r h) (fun v10 v20 v30 v40 od_scores_0 r h => ih v10 v20 v30 v40 od_scores_0 r h) v1 v2 v3 v4 0 od_scores_ r h
      · refine E_itf hc ?_
        refine E_sts 3 (64, [(0, .ref 32), (1, .int v1), (2, .int v2), (3, .int v3), (4, .int v4)], [.int 1], SH0, [(3600, od_scores_)], lg) rfl ?_
        exact e_X1_score_L64 X σ lg _ _ (fun v10 v20 od_scores_0 r h => h2 v10 v20 od_scores_0 r h) (fun v10 v20 v30 v40 od_scores_0 r h => ih v10 v20 v30 v40 od_scores_0 r h) v1 v2 v3 v4 1 od_scores_ r h
set_option maxHeartbeats 4000000 in
set_option maxRecDepth 20000 in
theorem e_X1_score_L2 (X : xX) (σ : xM) (lg : Int64) : ∀ (n : Nat), ∀ (v1 : Int32) (v2 : Int32) (od_scores_ : (Nat → Int32)) (r : (Nat → Int32)), X1_score_L2 (σ 3211 0) (σ 3300) (σ 3400) n v1 v2 od_scores_ = some r → E XP X 2 xm_10 σ (2, [(0, .ref 32), (1, .int v1), (2, .int v2)], [], SH0, [(3600, od_scores_)], lg) (none, SH0, [(3600, r)], lg) := by
  intro n
  induction n with
  | zero => intro v1 v2 od_scores_ r h; rw [X1_score_L2] at h; cases h
  | succ n ih =>
    intro v1 v2 od_scores_ r h
    rw [X1_score_L2] at h
    refine E_sts 3 (if 9 < v2 then 100119 else 8, [(0, .ref 32), (1, .int v1), (2, .int v2)], [], SH0, [(3600, od_scores_)], lg) rfl ?_
    rcases x_br h with ⟨hc, h⟩ | ⟨hc, h⟩
    · refine E_itt hc ?_
      obtain rfl := Option.some.inj h
      refine E_sts 1 (119, [], [], SH0, [(3600, od_scores_)], lg) rfl ?_
      exact E_ret rfl
    · refine E_itf hc ?_
      refine E_sts 4 (if (σ 3211 0) ≤ v2 then 34 else 16, [(0, .ref 32), (1, .int v1), (2, .int v2)], [], SH0, [(3600, od_scores_)], lg) rfl ?_
      rcases x_br h with ⟨hc, h⟩ | ⟨hc, h⟩
      · refine E_itt hc ?_
        refine E_sts 5 (39, [(0, .ref 32), (1, .int v1), (2, .int v2), (3, .int 0), (4, .int 0)], [], SH0, [(3600, od_scores_)], lg) rfl ?_
        exact e_X1_score_L39 X σ lg _ (fun v10 v20 od_scores_0 r h => ih v10 v20 od_scores_0 r h) _ v1 v2 0 0 od_scores_ r h
      · refine E_itf hc ?_
        refine E_sts 3 (21, [(0, .ref 32), (1, .int v1), (2, .int v2)], [.int v2, .ref 33], SH0, [(3600, od_scores_)], lg) rfl ?_
        obtain ⟨hp, h⟩ := x_ite h
        refine E_par (p := inr v2 9) (22, [(0, .ref 32), (1, .int v1), (2, .int v2)], [.int ((σ 3300) v2.toNatClampNeg)], SH0, [(3600, od_scores_)], lg) rfl hp ?_
        refine E_sts 3 (27, [(0, .ref 32), (1, .int v1), (2, .int v2)], [.int v2, .ref 34, .int ((σ 3300) v2.toNatClampNeg)], SH0, [(3600, od_scores_)], lg) rfl ?_
        obtain ⟨hp, h⟩ := x_ite h
        refine E_par (p := inr v2 9) (28, [(0, .ref 32), (1, .int v1), (2, .int v2)], [.int ((σ 3400) v2.toNatClampNeg), .int ((σ 3300) v2.toNatClampNeg)], SH0, [(3600, od_scores_)], lg) rfl hp ?_
        refine E_call rfl (e_X0_leftBy X _ _ _ _ (X0_leftBy ((σ 3300) v2.toNatClampNeg) ((σ 3400) v2.toNatClampNeg)) rfl) (by decide) ?_
        refine E_sts 5 (39, [(0, .ref 32), (1, .int v1), (2, .int v2), (3, .int (X0_leftBy ((σ 3300) v2.toNatClampNeg) ((σ 3400) v2.toNatClampNeg))), (4, .int 0)], [], SH0, [(3600, od_scores_)], lg) rfl ?_
        exact e_X1_score_L39 X σ lg _ (fun v10 v20 od_scores_0 r h => ih v10 v20 od_scores_0 r h) _ v1 v2 (X0_leftBy ((σ 3300) v2.toNatClampNeg) ((σ 3400) v2.toNatClampNeg)) 0 od_scores_ r h
set_option maxHeartbeats 4000000 in
set_option maxRecDepth 20000 in
theorem e_X1_score (X : xX) (σ : xM) (lg : Int64) (v1 : Int32) (r : (Nat → Int32)) (h : X1_score (σ 3211 0) (σ 3300) (σ 3400) (σ 3600) v1 = some r) : EM XP X 3 10 [.ref 32, .int v1] SH0 lg σ (none, SH0, [(3600, r)], lg) := by
  refine EM_of (M := xm_10) rfl rfl ?_
  unfold X1_score at h
  refine E_sts 3 (2, [(0, .ref 32), (1, .int v1), (2, .int 0)], [], SH0, [(3600, (σ 3600))], lg) rfl ?_
  exact e_X1_score_L2 X σ lg _ v1 0 (σ 3600) r h
set_option maxHeartbeats 4000000 in
set_option maxRecDepth 20000 in
theorem e_X1_canStand_L45 (X : xX) (σ : xM) (lg : Int64) (k17 : Int32 → Int32 → Option (Bool)) (h17 : ∀ (v1 : Int32) (v2 : Int32) (r : Bool), k17 v1 v2 = some r → E XP X 0 xm_9 σ (17, [(0, .ref 32), (1, .int v1), (2, .int v2)], [], SH0, [], lg) (some (.int (xb r)), SH0, [], lg)) : ∀ (v1 : Int32) (v2 : Int32) (t0 : Int32) (r : Bool), X1_canStand_L45 k17 (σ 3500) v1 v2 t0 = some r → E XP X 0 xm_9 σ (45, [(0, .ref 32), (1, .int v1), (2, .int v2)], [.int t0], SH0, [], lg) (some (.int (xb r)), SH0, [], lg) := by
  intro v1 v2 t0 r h
  unfold X1_canStand_L45 at h
  refine E_sts 3 (if t0 = 0 then 65 else 50, [(0, .ref 32), (1, .int v1), (2, .int v2), (3, .int t0)], [], SH0, [], lg) rfl ?_
  rcases x_br h with ⟨hc, h⟩ | ⟨hc, h⟩
  · refine E_itt hc ?_
    refine E_sts 3 (17, [(0, .ref 32), (1, .int v1), (2, .int (v2 + 1))], [], SH0, [], lg) rfl ?_
    exact h17 v1 (v2 + 1) r h
  · refine E_itf hc ?_
    refine E_sts 3 (55, [(0, .ref 32), (1, .int v1), (2, .int v2), (3, .int t0)], [.int v2, .ref 35], SH0, [], lg) rfl ?_
    obtain ⟨hp, h⟩ := x_ite h
    refine E_par (p := inr v2 9) (56, [(0, .ref 32), (1, .int v1), (2, .int v2), (3, .int t0)], [.int ((σ 3500) v2.toNatClampNeg)], SH0, [], lg) rfl hp ?_
    refine E_sts 5 (if (((σ 3500) v2.toNatClampNeg) &&& (v1 ^^^ (-1))) = 0 then 65 else 63, [(0, .ref 32), (1, .int v1), (2, .int v2), (3, .int t0)], [], SH0, [], lg) rfl ?_
    rcases x_br h with ⟨hc, h⟩ | ⟨hc, h⟩
    · refine E_itt hc ?_
      refine E_sts 3 (17, [(0, .ref 32), (1, .int v1), (2, .int (v2 + 1))], [], SH0, [], lg) rfl ?_
      exact h17 v1 (v2 + 1) r h
    · refine E_itf hc ?_
      obtain rfl := Option.some.inj h
      refine E_sts 1 (64, [(0, .ref 32), (1, .int v1), (2, .int v2), (3, .int t0)], [.int 0], SH0, [], lg) rfl ?_
      exact E_retp (p := (0 : Int32) = 0 ∨ (0 : Int32) = 1) rfl (by decide)
set_option maxHeartbeats 4000000 in
set_option maxRecDepth 20000 in
theorem e_X1_canStand_L17 (X : xX) (σ : xM) (lg : Int64) : ∀ (n : Nat), ∀ (v1 : Int32) (v2 : Int32) (r : Bool), X1_canStand_L17 (σ 3211 0) (σ 3212 0) (σ 3500) n v1 v2 = some r → E XP X 0 xm_9 σ (17, [(0, .ref 32), (1, .int v1), (2, .int v2)], [], SH0, [], lg) (some (.int (xb r)), SH0, [], lg) := by
  intro n
  induction n with
  | zero => intro v1 v2 r h; rw [X1_canStand_L17] at h; cases h
  | succ n ih =>
    intro v1 v2 r h
    rw [X1_canStand_L17] at h
    refine E_sts 4 (if (σ 3211 0) ≤ v2 then 71 else 25, [(0, .ref 32), (1, .int v1), (2, .int v2)], [], SH0, [], lg) rfl ?_
    rcases x_br h with ⟨hc, h⟩ | ⟨hc, h⟩
    · refine E_itt hc ?_
      obtain rfl := Option.some.inj h
      refine E_sts 1 (72, [(0, .ref 32), (1, .int v1), (2, .int v2)], [.int 1], SH0, [], lg) rfl ?_
      exact E_retp (p := (1 : Int32) = 0 ∨ (1 : Int32) = 1) rfl (by decide)
    · refine E_itf hc ?_
      refine E_sts 11 (if ((v1 &&& ((σ 3212 0) ^^^ (-1))) &&& (xshl 1 v2)) = 0 then 44 else 40, [(0, .ref 32), (1, .int v1), (2, .int v2)], [], SH0, [], lg) rfl ?_
      rcases x_br h with ⟨hc, h⟩ | ⟨hc, h⟩
      · refine E_itt hc ?_
        refine E_sts 2 (45, [(0, .ref 32), (1, .int v1), (2, .int v2)], [.int 0], SH0, [], lg) rfl ?_
        exact e_X1_canStand_L45 X σ lg _ (fun v10 v20 r h => ih v10 v20 r h) v1 v2 0 r h
      · refine E_itf hc ?_
        refine E_sts 3 (45, [(0, .ref 32), (1, .int v1), (2, .int v2)], [.int 1], SH0, [], lg) rfl ?_
        exact e_X1_canStand_L45 X σ lg _ (fun v10 v20 r h => ih v10 v20 r h) v1 v2 1 r h
set_option maxHeartbeats 4000000 in
set_option maxRecDepth 20000 in
theorem e_X1_canStand (X : xX) (σ : xM) (lg : Int64) (v1 : Int32) (r : Bool) (h : X1_canStand (σ 3211 0) (σ 3212 0) (σ 3500) v1 = some r) : EM XP X 1 9 [.ref 32, .int v1] SH0 lg σ (some (.int (xb r)), SH0, [], lg) := by
  refine EM_of (M := xm_9) rfl rfl ?_
  unfold X1_canStand at h
  refine E_sts 7 (if (v1 &&& (σ 3212 0)) = (σ 3212 0) then 15 else 13, [(0, .ref 32), (1, .int v1)], [], SH0, [], lg) rfl ?_
  rcases x_br h with ⟨hc, h⟩ | ⟨hc, h⟩
  · refine E_itt hc ?_
    refine E_sts 3 (17, [(0, .ref 32), (1, .int v1), (2, .int 0)], [], SH0, [], lg) rfl ?_
    exact e_X1_canStand_L17 X σ lg _ v1 0 r h
  · refine E_itf hc ?_
    obtain rfl := Option.some.inj h
    refine E_sts 1 (14, [(0, .ref 32), (1, .int v1)], [.int 0], SH0, [], lg) rfl ?_
    exact E_retp (p := (0 : Int32) = 0 ∨ (0 : Int32) = 1) rfl (by decide)
set_option maxHeartbeats 4000000 in
set_option maxRecDepth 20000 in
theorem e_X1_findFollowers_L7 (X : xX) (σ : xM) (lg : Int64) : ∀ (n : Nat), ∀ (v1 : Int32) (v2 : Int32) (od_many_ : Int32) (od_followers_ : (Nat → Int32)) (od_mostThen_ : (Nat → Int32)) (r : Int32 × (Nat → Int32) × (Nat → Int32)), X1_findFollowers_L7 (σ 3211 0) (σ 3500) (σ 3700) n v1 v2 od_many_ od_followers_ od_mostThen_ = some r → E XP X 1 xm_12 σ (7, [(0, .ref 32), (1, .int v1), (2, .int v2)], [], SH0, [(3208, fun _ => od_many_), (3800, od_followers_), (3900, od_mostThen_)], lg) (none, SH0, [(3208, fun _ => r.1), (3800, r.2.1), (3900, r.2.2)], lg) := by
  intro n
  induction n with
  | zero => intro v1 v2 od_many_ od_followers_ od_mostThen_ r h; rw [X1_findFollowers_L7] at h; cases h
  | succ n ih =>
    intro v1 v2 od_many_ od_followers_ od_mostThen_ r h
    rw [X1_findFollowers_L7] at h
    refine E_sts 4 (if (σ 3211 0) ≤ v2 then 100074 else 15, [(0, .ref 32), (1, .int v1), (2, .int v2)], [], SH0, [(3208, fun _ => od_many_), (3800, od_followers_), (3900, od_mostThen_)], lg) rfl ?_
    rcases x_br h with ⟨hc, h⟩ | ⟨hc, h⟩
    · refine E_itt hc ?_
      obtain rfl := Option.some.inj h
      refine E_sts 1 (74, [], [], SH0, [(3208, fun _ => od_many_), (3800, od_followers_), (3900, od_mostThen_)], lg) rfl ?_
      exact E_ret rfl
    · refine E_itf hc ?_
      refine E_sts 3 (18, [(0, .ref 32), (1, .int v1), (2, .int v2)], [.int v1, .int v2, .ref 32], SH0, [(3208, fun _ => od_many_), (3800, od_followers_), (3900, od_mostThen_)], lg) rfl ?_
      obtain ⟨r18, hr, h⟩ := x_bind h
      refine E_call rfl (e_X1_canFollow X _ _ _ _ r18 hr) (by decide) ?_
      refine E_sts 1 (if (xb r18) = 0 then 68 else 24, [(0, .ref 32), (1, .int v1), (2, .int v2)], [], SH0, [(3208, fun _ => od_many_), (3800, od_followers_), (3900, od_mostThen_)], lg) rfl ?_
      rcases x_br h with ⟨hc, h⟩ | ⟨hc, h⟩
      · refine E_itt hc ?_
        refine E_sts 3 (7, [(0, .ref 32), (1, .int v1), (2, .int (v2 + 1))], [], SH0, [(3208, fun _ => od_many_), (3800, od_followers_), (3900, od_mostThen_)], lg) rfl ?_
        exact ih v1 (v2 + 1) od_many_ od_followers_ od_mostThen_ r h
      · refine E_itf hc ?_
        refine E_sts 5 (33, [(0, .ref 32), (1, .int v1), (2, .int v2)], [.int v2, .int od_many_, .ref 38], SH0, [(3208, fun _ => od_many_), (3800, od_followers_), (3900, od_mostThen_)], lg) rfl ?_
        obtain ⟨hp, h⟩ := x_ite h
        refine E_par (p := inr od_many_ 9) (34, [(0, .ref 32), (1, .int v1), (2, .int v2)], [], SH0, [(3208, fun _ => od_many_), (3800, (upd od_followers_ od_many_.toNatClampNeg v2)), (3900, od_mostThen_)], lg) rfl hp ?_
        refine E_sts 15 (56, [(0, .ref 32), (1, .int v1), (2, .int v2)], [.int (((v1 ||| (xshl 1 v2)) * 9) + v2), .ref 37, .int od_many_, .ref 39], SH0, [(3208, fun _ => od_many_), (3800, (upd od_followers_ od_many_.toNatClampNeg v2)), (3900, od_mostThen_)], lg) rfl ?_
        obtain ⟨hp, h⟩ := x_ite h
        refine E_par (p := inr (((v1 ||| (xshl 1 v2)) * 9) + v2) 4608) (57, [(0, .ref 32), (1, .int v1), (2, .int v2)], [.int ((σ 3700) (((v1 ||| (xshl 1 v2)) * 9) + v2).toNatClampNeg), .int od_many_, .ref 39], SH0, [(3208, fun _ => od_many_), (3800, (upd od_followers_ od_many_.toNatClampNeg v2)), (3900, od_mostThen_)], lg) rfl hp ?_
        obtain ⟨hp, h⟩ := x_ite h
        refine E_par (p := inr od_many_ 9) (58, [(0, .ref 32), (1, .int v1), (2, .int v2)], [], SH0, [(3208, fun _ => od_many_), (3800, (upd od_followers_ od_many_.toNatClampNeg v2)), (3900, (upd od_mostThen_ od_many_.toNatClampNeg ((σ 3700) (((v1 ||| (xshl 1 v2)) * 9) + v2).toNatClampNeg)))], lg) rfl hp ?_
        refine E_sts 9 (7, [(0, .ref 32), (1, .int v1), (2, .int (v2 + 1))], [], SH0, [(3208, fun _ => (od_many_ + 1)), (3800, (upd od_followers_ od_many_.toNatClampNeg v2)), (3900, (upd od_mostThen_ od_many_.toNatClampNeg ((σ 3700) (((v1 ||| (xshl 1 v2)) * 9) + v2).toNatClampNeg)))], lg) rfl ?_
        exact ih v1 (v2 + 1) (od_many_ + 1) (upd od_followers_ od_many_.toNatClampNeg v2) (upd od_mostThen_ od_many_.toNatClampNeg ((σ 3700) (((v1 ||| (xshl 1 v2)) * 9) + v2).toNatClampNeg)) r h
set_option maxHeartbeats 4000000 in
set_option maxRecDepth 20000 in
theorem e_X1_findFollowers (X : xX) (σ : xM) (lg : Int64) (v1 : Int32) (r : Int32 × (Nat → Int32) × (Nat → Int32)) (h : X1_findFollowers (σ 3211 0) (σ 3500) (σ 3700) (σ 3800) (σ 3900) v1 = some r) : EM XP X 2 12 [.ref 32, .int v1] SH0 lg σ (none, SH0, [(3208, fun _ => r.1), (3800, r.2.1), (3900, r.2.2)], lg) := by
  refine EM_of (M := xm_12) rfl rfl ?_
  unfold X1_findFollowers at h
  refine E_sts 6 (7, [(0, .ref 32), (1, .int v1), (2, .int 0)], [], SH0, [(3208, fun _ => 0), (3800, (σ 3800)), (3900, (σ 3900))], lg) rfl ?_
  exact e_X1_findFollowers_L7 X σ lg _ v1 0 0 (σ 3800) (σ 3900) r h
set_option maxHeartbeats 4000000 in
set_option maxRecDepth 20000 in
theorem e_X1_mostBehind_L5 (X : xX) (σ : xM) (lg : Int64) : ∀ (n : Nat), ∀ (v1 : Int32) (v2 : Int32) (v3 : Int32) (r : Int32), X1_mostBehind_L5 (σ 3208 0) (σ 3600) (σ 3800) (σ 3900) n v1 v2 v3 = some r → E XP X 0 xm_13 σ (5, [(0, .ref 32), (1, .int v1), (2, .int v2), (3, .int v3)], [], SH0, [], lg) (some (.int r), SH0, [], lg) := by
  intro n
  induction n with
  | zero => intro v1 v2 v3 r h; rw [X1_mostBehind_L5] at h; cases h
  | succ n ih =>
    intro v1 v2 v3 r h
    rw [X1_mostBehind_L5] at h
    refine E_sts 4 (if (σ 3208 0) ≤ v3 then 47 else 13, [(0, .ref 32), (1, .int v1), (2, .int v2), (3, .int v3)], [], SH0, [], lg) rfl ?_
    rcases x_br h with ⟨hc, h⟩ | ⟨hc, h⟩
    · refine E_itt hc ?_
      refine E_sts 3 (if (σ 3208 0) = 0 then 54 else 58, [(0, .ref 32), (1, .int v1), (2, .int v2), (3, .int v3)], [], SH0, [], lg) rfl ?_
      rcases x_br h with ⟨hc, h⟩ | ⟨hc, h⟩
      · refine E_itt hc ?_
        obtain rfl := Option.some.inj h
        refine E_sts 2 (59, [(0, .ref 32), (1, .int v1), (2, .int v2), (3, .int v3)], [.int 0], SH0, [], lg) rfl ?_
        exact E_ret rfl
      · refine E_itf hc ?_
        obtain rfl := Option.some.inj h
        refine E_sts 1 (59, [(0, .ref 32), (1, .int v1), (2, .int v2), (3, .int v3)], [.int v2], SH0, [], lg) rfl ?_
        exact E_ret rfl
    · refine E_itf hc ?_
      refine E_sts 9 (27, [(0, .ref 32), (1, .int v1), (2, .int v2), (3, .int v3)], [.int v3, .ref 38, .int (v1 * 9), .ref 36, .int v2], SH0, [], lg) rfl ?_
      obtain ⟨hp, h⟩ := x_ite h
      refine E_par (p := inr v3 9) (28, [(0, .ref 32), (1, .int v1), (2, .int v2), (3, .int v3)], [.int ((σ 3800) v3.toNatClampNeg), .int (v1 * 9), .ref 36, .int v2], SH0, [], lg) rfl hp ?_
      refine E_sts 1 (29, [(0, .ref 32), (1, .int v1), (2, .int v2), (3, .int v3)], [.int ((v1 * 9) + ((σ 3800) v3.toNatClampNeg)), .ref 36, .int v2], SH0, [], lg) rfl ?_
      obtain ⟨hp, h⟩ := x_ite h
      refine E_par (p := inr ((v1 * 9) + ((σ 3800) v3.toNatClampNeg)) 90) (30, [(0, .ref 32), (1, .int v1), (2, .int v2), (3, .int v3)], [.int ((σ 3600) ((v1 * 9) + ((σ 3800) v3.toNatClampNeg)).toNatClampNeg), .int v2], SH0, [], lg) rfl hp ?_
      refine E_sts 3 (35, [(0, .ref 32), (1, .int v1), (2, .int v2), (3, .int v3)], [.int v3, .ref 39, .int ((σ 3600) ((v1 * 9) + ((σ 3800) v3.toNatClampNeg)).toNatClampNeg), .int v2], SH0, [], lg) rfl ?_
      obtain ⟨hp, h⟩ := x_ite h
      refine E_par (p := inr v3 9) (36, [(0, .ref 32), (1, .int v1), (2, .int v2), (3, .int v3)], [.int ((σ 3900) v3.toNatClampNeg), .int ((σ 3600) ((v1 * 9) + ((σ 3800) v3.toNatClampNeg)).toNatClampNeg), .int v2], SH0, [], lg) rfl hp ?_
      refine E_sts 6 (5, [(0, .ref 32), (1, .int v1), (2, .int (xmax v2 (((σ 3600) ((v1 * 9) + ((σ 3800) v3.toNatClampNeg)).toNatClampNeg) + ((σ 3900) v3.toNatClampNeg)))), (3, .int (v3 + 1))], [], SH0, [], lg) rfl ?_
      exact ih v1 (xmax v2 (((σ 3600) ((v1 * 9) + ((σ 3800) v3.toNatClampNeg)).toNatClampNeg) + ((σ 3900) v3.toNatClampNeg))) (v3 + 1) r h
set_option maxHeartbeats 4000000 in
set_option maxRecDepth 20000 in
theorem e_X1_mostBehind (X : xX) (σ : xM) (lg : Int64) (v1 : Int32) (r : Int32) (h : X1_mostBehind (σ 3208 0) (σ 3600) (σ 3800) (σ 3900) v1 = some r) : EM XP X 1 13 [.ref 32, .int v1] SH0 lg σ (some (.int r), SH0, [], lg) := by
  refine EM_of (M := xm_13) rfl rfl ?_
  unfold X1_mostBehind at h
  refine E_sts 5 (5, [(0, .ref 32), (1, .int v1), (2, .int (-1000000)), (3, .int 0)], [], SH0, [], lg) rfl ?_
  exact e_X1_mostBehind_L5 X σ lg _ v1 (-1000000) 0 r h
set_option maxHeartbeats 4000000 in
set_option maxRecDepth 20000 in
theorem e_X1_weigh_L33 (X : xX) (σ : xM) (lg : Int64) (k10 : Int32 → Int32 → (Nat → Int32) → (Nat → Int32) → (Nat → Int32) → (Nat → Int32) → Option (Int32 × Int32 × (Nat → Int32) × (Nat → Int32) × (Nat → Int32) × (Nat → Int32))) (h10 : ∀ (v2 : Int32) (od_many_ : Int32) (od_scores_ : (Nat → Int32)) (od_most_ : (Nat → Int32)) (od_followers_ : (Nat → Int32)) (od_mostThen_ : (Nat → Int32)) (r : Int32 × Int32 × (Nat → Int32) × (Nat → Int32) × (Nat → Int32) × (Nat → Int32)), k10 v2 od_many_ od_scores_ od_most_ od_followers_ od_mostThen_ = some r → E XP X 3 xm_11 σ (10, [(0, .ref 32), (2, .int v2)], [], SH0, [(3208, fun _ => od_many_), (3600, od_scores_), (3700, od_most_), (3800, od_followers_), (3900, od_mostThen_)], lg) (some (.int r.1), SH0, [(3208, fun _ => r.2.1), (3600, r.2.2.1), (3700, r.2.2.2.1), (3800, r.2.2.2.2.1), (3900, r.2.2.2.2.2)], lg)) : ∀ (n : Nat), ∀ (v2 : Int32) (v3 : Int32) (od_many_ : Int32) (od_scores_ : (Nat → Int32)) (od_most_ : (Nat → Int32)) (od_followers_ : (Nat → Int32)) (od_mostThen_ : (Nat → Int32)) (r : Int32 × Int32 × (Nat → Int32) × (Nat → Int32) × (Nat → Int32) × (Nat → Int32)), X1_weigh_L33 k10 (σ 3211 0) (σ 3212 0) n v2 v3 od_many_ od_scores_ od_most_ od_followers_ od_mostThen_ = some r → E XP X 3 xm_11 σ (33, [(0, .ref 32), (2, .int v2), (3, .int v3)], [], SH0, [(3208, fun _ => od_many_), (3600, od_scores_), (3700, od_most_), (3800, od_followers_), (3900, od_mostThen_)], lg) (some (.int r.1), SH0, [(3208, fun _ => r.2.1), (3600, r.2.2.1), (3700, r.2.2.2.1), (3800, r.2.2.2.2.1), (3900, r.2.2.2.2.2)], lg) := by
  intro n
  induction n with
  | zero => intro v2 v3 od_many_ od_scores_ od_most_ od_followers_ od_mostThen_ r h; rw [X1_weigh_L33] at h; cases h
  | succ n ih =>
    intro v2 v3 od_many_ od_scores_ od_most_ od_followers_ od_mostThen_ r h
    rw [X1_weigh_L33] at h
    refine E_sts 4 (if (σ 3211 0) ≤ v3 then 78 else 41, [(0, .ref 32), (2, .int v2), (3, .int v3)], [], SH0, [(3208, fun _ => od_many_), (3600, od_scores_), (3700, od_most_), (3800, od_followers_), (3900, od_mostThen_)], lg) rfl ?_
    rcases x_br h with ⟨hc, h⟩ | ⟨hc, h⟩
    · refine E_itt hc ?_
      refine E_sts 3 (10, [(0, .ref 32), (2, .int (v2 + (-1)))], [], SH0, [(3208, fun _ => od_many_), (3600, od_scores_), (3700, od_most_), (3800, od_followers_), (3900, od_mostThen_)], lg) rfl ?_
      exact h10 (v2 + (-1)) od_many_ od_scores_ od_most_ od_followers_ od_mostThen_ r h
    · refine E_itf hc ?_
      refine E_sts 11 (if ((v2 &&& ((σ 3212 0) ^^^ (-1))) &&& (xshl 1 v3)) = 0 then 72 else 56, [(0, .ref 32), (2, .int v2), (3, .int v3)], [], SH0, [(3208, fun _ => od_many_), (3600, od_scores_), (3700, od_most_), (3800, od_followers_), (3900, od_mostThen_)], lg) rfl ?_
      rcases x_br h with ⟨hc, h⟩ | ⟨hc, h⟩
      · refine E_itt hc ?_
        refine E_sts 3 (33, [(0, .ref 32), (2, .int v2), (3, .int (v3 + 1))], [], SH0, [(3208, fun _ => od_many_), (3600, od_scores_), (3700, od_most_), (3800, od_followers_), (3900, od_mostThen_)], lg) rfl ?_
        exact ih v2 (v3 + 1) od_many_ od_scores_ od_most_ od_followers_ od_mostThen_ r h
      · refine E_itf hc ?_
        refine E_sts 9 (68, [(0, .ref 32), (2, .int v2), (3, .int v3)], [.int v3, .ref 32, .int ((v2 * 9) + v3), .ref 37], SH0, [(3208, fun _ => od_many_), (3600, od_scores_), (3700, od_most_), (3800, od_followers_), (3900, od_mostThen_)], lg) rfl ?_
        obtain ⟨r68, hr, h⟩ := x_bind h
        refine E_call rfl (e_X1_mostBehind X _ _ _ r68 hr) (by decide) ?_
        obtain ⟨hp, h⟩ := x_ite h
        refine E_par (p := inr ((v2 * 9) + v3) 4608) (72, [(0, .ref 32), (2, .int v2), (3, .int v3)], [], SH0, [(3208, fun _ => od_many_), (3600, od_scores_), (3700, (upd od_most_ ((v2 * 9) + v3).toNatClampNeg r68)), (3800, od_followers_), (3900, od_mostThen_)], lg) rfl hp ?_
        refine E_sts 3 (33, [(0, .ref 32), (2, .int v2), (3, .int (v3 + 1))], [], SH0, [(3208, fun _ => od_many_), (3600, od_scores_), (3700, (upd od_most_ ((v2 * 9) + v3).toNatClampNeg r68)), (3800, od_followers_), (3900, od_mostThen_)], lg) rfl ?_
        exact ih v2 (v3 + 1) od_many_ od_scores_ (upd od_most_ ((v2 * 9) + v3).toNatClampNeg r68) od_followers_ od_mostThen_ r h
set_option maxHeartbeats 4000000 in
set_option maxRecDepth 20000 in
theorem e_X1_weigh_L10 (X : xX) (σ : xM) (lg : Int64) : ∀ (n : Nat), ∀ (v2 : Int32) (od_many_ : Int32) (od_scores_ : (Nat → Int32)) (od_most_ : (Nat → Int32)) (od_followers_ : (Nat → Int32)) (od_mostThen_ : (Nat → Int32)) (r : Int32 × Int32 × (Nat → Int32) × (Nat → Int32) × (Nat → Int32) × (Nat → Int32)), X1_weigh_L10 (σ 3211 0) (σ 3212 0) (σ 3213 0) (σ 3500) n v2 od_many_ od_scores_ od_most_ od_followers_ od_mostThen_ = some r → E XP X 3 xm_11 σ (10, [(0, .ref 32), (2, .int v2)], [], SH0, [(3208, fun _ => od_many_), (3600, od_scores_), (3700, od_most_), (3800, od_followers_), (3900, od_mostThen_)], lg) (some (.int r.1), SH0, [(3208, fun _ => r.2.1), (3600, r.2.2.1), (3700, r.2.2.2.1), (3800, r.2.2.2.2.1), (3900, r.2.2.2.2.2)], lg) := by
  intro n
  induction n with
  | zero => intro v2 od_many_ od_scores_ od_most_ od_followers_ od_mostThen_ r h; rw [X1_weigh_L10] at h; cases h
  | succ n ih =>
    intro v2 od_many_ od_scores_ od_most_ od_followers_ od_mostThen_ r h
    rw [X1_weigh_L10] at h
    refine E_sts 4 (if v2 ≤ (σ 3212 0) then 84 else 18, [(0, .ref 32), (2, .int v2)], [], SH0, [(3208, fun _ => od_many_), (3600, od_scores_), (3700, od_most_), (3800, od_followers_), (3900, od_mostThen_)], lg) rfl ?_
    rcases x_br h with ⟨hc, h⟩ | ⟨hc, h⟩
    · refine E_itt hc ?_
      refine E_sts 3 (89, [(0, .ref 32), (2, .int v2)], [.int (σ 3212 0), .ref 32], SH0, [(3208, fun _ => od_many_), (3600, od_scores_), (3700, od_most_), (3800, od_followers_), (3900, od_mostThen_)], lg) rfl ?_
      obtain ⟨r89, hr, h⟩ := x_bind h
      refine E_call rfl (e_X1_findFollowers X _ _ _ r89 hr) (by decide) ?_
      refine E_sts 3 (97, [(0, .ref 32), (2, .int v2)], [.int (σ 3213 0), .ref 32], SH0, [(3208, fun _ => r89.1), (3600, od_scores_), (3700, od_most_), (3800, r89.2.1), (3900, r89.2.2)], lg) rfl ?_
      obtain ⟨r97, hr, h⟩ := x_bind h
      refine E_call rfl (e_X1_mostBehind X _ _ _ r97 hr) (by decide) ?_
      obtain rfl := Option.some.inj h
      refine E_sts 1 (100, [], [.int r97], SH0, [(3208, fun _ => r89.1), (3600, od_scores_), (3700, od_most_), (3800, r89.2.1), (3900, r89.2.2)], lg) rfl ?_
      exact E_ret rfl
    · refine E_itf hc ?_
      refine E_sts 2 (20, [(0, .ref 32), (2, .int v2)], [.int v2, .ref 32], SH0, [(3208, fun _ => od_many_), (3600, od_scores_), (3700, od_most_), (3800, od_followers_), (3900, od_mostThen_)], lg) rfl ?_
      obtain ⟨r20, hr, h⟩ := x_bind h
      refine E_call rfl (e_X1_canStand X _ _ _ r20 hr) (by decide) ?_
      refine E_sts 1 (if (xb r20) = 0 then 78 else 26, [(0, .ref 32), (2, .int v2)], [], SH0, [(3208, fun _ => od_many_), (3600, od_scores_), (3700, od_most_), (3800, od_followers_), (3900, od_mostThen_)], lg) rfl ?_
      rcases x_br h with ⟨hc, h⟩ | ⟨hc, h⟩
      · refine E_itt hc ?_
        refine E_sts 3 (10, [(0, .ref 32), (2, .int (v2 + (-1)))], [], SH0, [(3208, fun _ => od_many_), (3600, od_scores_), (3700, od_most_), (3800, od_followers_), (3900, od_mostThen_)], lg) rfl ?_
        exact ih (v2 + (-1)) od_many_ od_scores_ od_most_ od_followers_ od_mostThen_ r h
      · refine E_itf hc ?_
        refine E_sts 2 (28, [(0, .ref 32), (2, .int v2)], [.int v2, .ref 32], SH0, [(3208, fun _ => od_many_), (3600, od_scores_), (3700, od_most_), (3800, od_followers_), (3900, od_mostThen_)], lg) rfl ?_
        obtain ⟨r28, hr, h⟩ := x_bind h
        refine E_call rfl (e_X1_findFollowers X _ _ _ r28 hr) (by decide) ?_
        refine E_sts 3 (33, [(0, .ref 32), (2, .int v2), (3, .int 0)], [], SH0, [(3208, fun _ => r28.1), (3600, od_scores_), (3700, od_most_), (3800, r28.2.1), (3900, r28.2.2)], lg) rfl ?_
        exact e_X1_weigh_L33 X σ lg _ (fun v20 od_many_0 od_scores_0 od_most_0 od_followers_0 od_mostThen_0 r h => ih v20 od_many_0 od_scores_0 od_most_0 od_followers_0 od_mostThen_0 r h) _ v2 0 r28.1 od_scores_ od_most_ r28.2.1 r28.2.2 r h
set_option maxHeartbeats 4000000 in
set_option maxRecDepth 20000 in
theorem e_X1_weigh (X : xX) (σ : xM) (lg : Int64) (v1 : Int32) (r : Int32 × Int32 × (Nat → Int32) × (Nat → Int32) × (Nat → Int32) × (Nat → Int32)) (h : X1_weigh (σ 3208 0) (σ 3211 0) (σ 3212 0) (σ 3213 0) (σ 3214 0) (σ 3300) (σ 3400) (σ 3500) (σ 3600) (σ 3700) (σ 3800) (σ 3900) v1 = some r) : EM XP X 4 11 [.ref 32, .int v1] SH0 lg σ (some (.int r.1), SH0, [(3208, fun _ => r.2.1), (3600, r.2.2.1), (3700, r.2.2.2.1), (3800, r.2.2.2.2.1), (3900, r.2.2.2.2.2)], lg) := by
  refine EM_of (M := xm_11) rfl rfl ?_
  unfold X1_weigh at h
  refine E_sts 2 (2, [(0, .ref 32), (1, .int v1)], [.int v1, .ref 32], SH0, [], lg) rfl ?_
  obtain ⟨r2, hr, h⟩ := x_bind h
  refine E_call rfl (e_X1_score X _ _ _ r2 hr) (by decide) ?_
  refine E_sts 4 (10, [(0, .ref 32), (2, .int (σ 3214 0))], [], SH0, [(3208, fun _ => (σ 3208 0)), (3600, r2), (3700, (σ 3700)), (3800, (σ 3800)), (3900, (σ 3900))], lg) rfl ?_
  exact e_X1_weigh_L10 X σ lg _ (σ 3214 0) (σ 3208 0) r2 (σ 3700) (σ 3800) (σ 3900) r h
set_option maxHeartbeats 4000000 in
set_option maxRecDepth 20000 in
theorem e_X5_best (X : xX) (σ : xM) (lg : Int64) (v1 : Int32) (r : Int32 × (Nat → Int32) × Int32 × Int32 × Int32 × Int32 × Int32 × (Nat → Int32) × (Nat → Int32) × (Nat → Int32) × (Nat → Int32) × (Nat → Int32) × (Nat → Int32) × (Nat → Int32)) (h : X5_best (σ 100) (σ 201 0) (σ 207 0) (σ 208 0) (σ 300) (σ 400) (σ 600) (σ 800) (σ 3208 0) (σ 3211 0) (σ 3212 0) (σ 3213 0) (σ 3214 0) (σ 3300) (σ 3400) (σ 3500) (σ 3600) (σ 3700) (σ 3800) (σ 3900) v1 = some r) : EM XP X 5 79 [.ref 0, .int v1] SH0 lg σ (some (.int r.1), SH0, [(100, r.2.1), (3208, fun _ => r.2.2.1), (3211, fun _ => r.2.2.2.1), (3212, fun _ => r.2.2.2.2.1), (3213, fun _ => r.2.2.2.2.2.1), (3214, fun _ => r.2.2.2.2.2.2.1), (3300, r.2.2.2.2.2.2.2.1), (3400, r.2.2.2.2.2.2.2.2.1), (3500, r.2.2.2.2.2.2.2.2.2.1), (3600, r.2.2.2.2.2.2.2.2.2.2.1), (3700, r.2.2.2.2.2.2.2.2.2.2.2.1), (3800, r.2.2.2.2.2.2.2.2.2.2.2.2.1), (3900, r.2.2.2.2.2.2.2.2.2.2.2.2.2)], lg) := by
  refine EM_of (M := xm_79) rfl rfl ?_
  unfold X5_best at h
  refine E_sts 3 (3, [(0, .ref 0), (1, .int v1)], [.int 1, .int 0, .int v1], SH0, [], lg) rfl ?_
  refine E_call rfl (e_X5_isIn X _ _ _ _ _ (X5_isIn v1 0 1) rfl) (by decide) ?_
  refine E_sts 1 (if (xb (X5_isIn v1 0 1)) = 0 then 9 else 15, [(0, .ref 0), (1, .int v1)], [], SH0, [], lg) rfl ?_
  rcases x_br h with ⟨hc, h⟩ | ⟨hc, h⟩
  · refine E_itt hc ?_
    refine E_sts 2 (11, [(0, .ref 0), (1, .int v1)], [.int 0, .ref 0], SH0, [], lg) rfl ?_
    obtain ⟨r11, hr, h⟩ := x_bind h
    refine E_call rfl (e_X5_finding X _ _ _ r11 hr) (by decide) ?_
    obtain rfl := Option.some.inj h
    refine E_sts 1 (14, [], [.int r11.1], SH0, [(100, r11.2), (3208, fun _ => (σ 3208 0)), (3211, fun _ => (σ 3211 0)), (3212, fun _ => (σ 3212 0)), (3213, fun _ => (σ 3213 0)), (3214, fun _ => (σ 3214 0)), (3300, (σ 3300)), (3400, (σ 3400)), (3500, (σ 3500)), (3600, (σ 3600)), (3700, (σ 3700)), (3800, (σ 3800)), (3900, (σ 3900))], lg) rfl ?_
    exact E_ret rfl
  · refine E_itf hc ?_
    refine E_sts 4 (23, [(0, .ref 0), (1, .int v1)], [.ref 2, .ref 32], SH0, [], lg) rfl ?_
    obtain ⟨r23, hr, h⟩ := x_bind h
    refine E_call rfl (e_X1_startFrom X _ _ r23 hr) (by decide) ?_
    refine E_sts 2 (30, [(0, .ref 0), (1, .int v1)], [.ref 32], SH0, [(3211, fun _ => r23.1), (3212, fun _ => r23.2.1), (3213, fun _ => r23.2.2.1), (3214, fun _ => r23.2.2.2.1), (3300, r23.2.2.2.2.1), (3400, r23.2.2.2.2.2.1), (3500, r23.2.2.2.2.2.2)], lg) rfl ?_
    obtain ⟨r30, hr, h⟩ := x_bind h
    refine E_call rfl (e_X1_haveWay X _ _ r30 hr) (by decide) ?_
    refine E_sts 1 (if (xb r30) = 0 then 36 else 42, [(0, .ref 0), (1, .int v1)], [], SH0, [(3211, fun _ => r23.1), (3212, fun _ => r23.2.1), (3213, fun _ => r23.2.2.1), (3214, fun _ => r23.2.2.2.1), (3300, r23.2.2.2.2.1), (3400, r23.2.2.2.2.2.1), (3500, r23.2.2.2.2.2.2)], lg) rfl ?_
    rcases x_br h with ⟨hc, h⟩ | ⟨hc, h⟩
    · refine E_itt hc ?_
      refine E_sts 2 (38, [(0, .ref 0), (1, .int v1)], [.int 3, .ref 0], SH0, [(3211, fun _ => r23.1), (3212, fun _ => r23.2.1), (3213, fun _ => r23.2.2.1), (3214, fun _ => r23.2.2.2.1), (3300, r23.2.2.2.2.1), (3400, r23.2.2.2.2.2.1), (3500, r23.2.2.2.2.2.2)], lg) rfl ?_
      obtain ⟨r38, hr, h⟩ := x_bind h
      refine E_call rfl (e_X5_finding X _ _ _ r38 hr) (by decide) ?_
      obtain rfl := Option.some.inj h
      refine E_sts 1 (41, [], [.int r38.1], SH0, [(100, r38.2), (3208, fun _ => (σ 3208 0)), (3211, fun _ => r23.1), (3212, fun _ => r23.2.1), (3213, fun _ => r23.2.2.1), (3214, fun _ => r23.2.2.2.1), (3300, r23.2.2.2.2.1), (3400, r23.2.2.2.2.2.1), (3500, r23.2.2.2.2.2.2), (3600, (σ 3600)), (3700, (σ 3700)), (3800, (σ 3800)), (3900, (σ 3900))], lg) rfl ?_
      exact E_ret rfl
    · refine E_itf hc ?_
      refine E_sts 3 (47, [(0, .ref 0), (1, .int v1)], [.int v1, .ref 32], SH0, [(3211, fun _ => r23.1), (3212, fun _ => r23.2.1), (3213, fun _ => r23.2.2.1), (3214, fun _ => r23.2.2.2.1), (3300, r23.2.2.2.2.1), (3400, r23.2.2.2.2.2.1), (3500, r23.2.2.2.2.2.2)], lg) rfl ?_
      obtain ⟨r47, hr, h⟩ := x_bind h
      refine E_call rfl (e_X1_weigh X _ _ _ r47 hr) (by decide) ?_
      refine E_sts 4 (if v1 = 1 then 56 else 61, [(0, .ref 0), (1, .int v1), (2, .int r47.1)], [], SH0, [(3208, fun _ => r47.2.1), (3211, fun _ => r23.1), (3212, fun _ => r23.2.1), (3213, fun _ => r23.2.2.1), (3214, fun _ => r23.2.2.2.1), (3300, r23.2.2.2.2.1), (3400, r23.2.2.2.2.2.1), (3500, r23.2.2.2.2.2.2), (3600, r47.2.2.1), (3700, r47.2.2.2.1), (3800, r47.2.2.2.2.1), (3900, r47.2.2.2.2.2)], lg) rfl ?_
      rcases x_br h with ⟨hc, h⟩ | ⟨hc, h⟩
      · refine E_itt hc ?_
        obtain rfl := Option.some.inj h
        refine E_sts 4 (62, [], [.int (-r47.1)], SH0, [(100, (σ 100)), (3208, fun _ => r47.2.1), (3211, fun _ => r23.1), (3212, fun _ => r23.2.1), (3213, fun _ => r23.2.2.1), (3214, fun _ => r23.2.2.2.1), (3300, r23.2.2.2.2.1), (3400, r23.2.2.2.2.2.1), (3500, r23.2.2.2.2.2.2), (3600, r47.2.2.1), (3700, r47.2.2.2.1), (3800, r47.2.2.2.2.1), (3900, r47.2.2.2.2.2)], lg) rfl ?_
        exact E_ret rfl
      · refine E_itf hc ?_
        obtain rfl := Option.some.inj h
        refine E_sts 2 (62, [], [.int r47.1], SH0, [(100, (σ 100)), (3208, fun _ => r47.2.1), (3211, fun _ => r23.1), (3212, fun _ => r23.2.1), (3213, fun _ => r23.2.2.1), (3214, fun _ => r23.2.2.2.1), (3300, r23.2.2.2.2.1), (3400, r23.2.2.2.2.2.1), (3500, r23.2.2.2.2.2.2), (3600, r47.2.2.1), (3700, r47.2.2.2.1), (3800, r47.2.2.2.2.1), (3900, r47.2.2.2.2.2)], lg) rfl ?_
        exact E_ret rfl
set_option maxHeartbeats 4000000 in
set_option maxRecDepth 20000 in
theorem e_X6_brings (X : xX) (σ : xM) (lg : Int64) (v1 : Int32) (v2 : Int32) (v3 : Int32) (r : Int32) (h : X6_brings (σ 5300) v1 v2 v3 = some r) : EM XP X 4 157 [.ref 52, .int v1, .int v2, .int v3] SH0 lg σ (some (.int r), SH0, [], lg) := by
  refine EM_of (M := xm_157) rfl rfl ?_
  unfold X6_brings at h
  refine E_sts 2 (2, [(0, .ref 52), (1, .int v1), (2, .int v2), (3, .int v3)], [.int v3, .ref 52], SH0, [], lg) rfl ?_
  obtain ⟨r2, hr, h⟩ := x_bind h
  refine E_call rfl (e_X6_leftBy X _ _ _ r2 hr) (by decide) ?_
  refine E_sts 3 (if v1 = 0 then 11 else 21, [(0, .ref 52), (1, .int v1), (2, .int v2), (3, .int v3), (4, .int r2)], [], SH0, [], lg) rfl ?_
  rcases x_br h with ⟨hc, h⟩ | ⟨hc, h⟩
  · refine E_itt hc ?_
    refine E_sts 3 (15, [(0, .ref 52), (1, .int v1), (2, .int v2), (3, .int v3), (4, .int r2)], [.int r2, .int v2, .ref 52], SH0, [], lg) rfl ?_
    obtain ⟨r15, hr, h⟩ := x_bind h
    refine E_call rfl (e_X6_noiseBy X _ _ _ _ r15 hr) (by decide) ?_
    obtain rfl := Option.some.inj h
    refine E_sts 1 (37, [(0, .ref 52), (1, .int v1), (2, .int v2), (3, .int v3), (4, .int r2)], [.int r15], SH0, [], lg) rfl ?_
    exact E_ret rfl
  · refine E_itf hc ?_
    refine E_sts 4 (26, [(0, .ref 52), (1, .int v1), (2, .int v2), (3, .int v3), (4, .int r2)], [.int 1, .int v2, .ref 52, .int r2], SH0, [], lg) rfl ?_
    obtain ⟨r26, hr, h⟩ := x_bind h
    refine E_call rfl (e_X6_get X _ _ _ _ r26 hr) (by decide) ?_
    refine E_sts 1 (if r2 ≤ r26 then 36 else 32, [(0, .ref 52), (1, .int v1), (2, .int v2), (3, .int v3), (4, .int r2)], [], SH0, [], lg) rfl ?_
    rcases x_br h with ⟨hc, h⟩ | ⟨hc, h⟩
    · refine E_itt hc ?_
      obtain rfl := Option.some.inj h
      refine E_sts 1 (37, [(0, .ref 52), (1, .int v1), (2, .int v2), (3, .int v3), (4, .int r2)], [.int 0], SH0, [], lg) rfl ?_
      exact E_ret rfl
    · refine E_itf hc ?_
      obtain rfl := Option.some.inj h
      refine E_sts 2 (37, [(0, .ref 52), (1, .int v1), (2, .int v2), (3, .int v3), (4, .int r2)], [.int (-1)], SH0, [], lg) rfl ?_
      exact E_ret rfl
set_option maxHeartbeats 4000000 in
set_option maxRecDepth 20000 in
theorem e_X6_findsBest_L50 (X : xX) (σ : xM) (lg : Int64) (k13 : Int32 → Int32 → Int32 → Int32 → (Nat → Int32) → Option (Int32 × (Nat → Int32))) (k22 : Int32 → Int32 → Int32 → Int32 → Int32 → (Nat → Int32) → Option (Int32 × (Nat → Int32))) (h13 : ∀ (v1 : Int32) (v2 : Int32) (v3 : Int32) (v4 : Int32) (m_behind_ : (Nat → Int32)) (r : Int32 × (Nat → Int32)), k13 v1 v2 v3 v4 m_behind_ = some r → E XP X 4 xm_158 σ (13, [(0, .ref 52), (1, .int v1), (2, .int v2), (3, .int v3), (4, .int v4)], [], SH0, [(5700, m_behind_)], lg) (some (.int r.1), SH0, [(5700, r.2)], lg)) (h22 : ∀ (v1 : Int32) (v2 : Int32) (v3 : Int32) (v4 : Int32) (v5 : Int32) (m_behind_ : (Nat → Int32)) (r : Int32 × (Nat → Int32)), k22 v1 v2 v3 v4 v5 m_behind_ = some r → E XP X 4 xm_158 σ (22, [(0, .ref 52), (1, .int v1), (2, .int v2), (3, .int v3), (4, .int v4), (5, .int v5)], [], SH0, [(5700, m_behind_)], lg) (some (.int r.1), SH0, [(5700, r.2)], lg)) : ∀ (n : Nat), ∀ (v1 : Int32) (v2 : Int32) (v3 : Int32) (v4 : Int32) (v5 : Int32) (v6 : Int32) (v7 : Int32) (m_behind_ : (Nat → Int32)) (r : Int32 × (Nat → Int32)), X6_findsBest_L50 k13 k22 (σ 5300) n v1 v2 v3 v4 v5 v6 v7 m_behind_ = some r → E XP X 4 xm_158 σ (50, [(0, .ref 52), (1, .int v1), (2, .int v2), (3, .int v3), (4, .int v4), (5, .int v5), (6, .int v6), (7, .int v7)], [], SH0, [(5700, m_behind_)], lg) (some (.int r.1), SH0, [(5700, r.2)], lg) := by
  intro n
  induction n with
  | zero => intro v1 v2 v3 v4 v5 v6 v7 m_behind_ r h; rw [X6_findsBest_L50] at h; cases h
  | succ n ih =>
    intro v1 v2 v3 v4 v5 v6 v7 m_behind_ r h
    rw [X6_findsBest_L50] at h
    refine E_sts 4 (57, [(0, .ref 52), (1, .int v1), (2, .int v2), (3, .int v3), (4, .int v4), (5, .int v5), (6, .int v6), (7, .int v7)], [.int 3, .ref 53, .int v7], SH0, [(5700, m_behind_)], lg) rfl ?_
    refine E_par (p := inr 3 83) (58, [(0, .ref 52), (1, .int v1), (2, .int v2), (3, .int v3), (4, .int v4), (5, .int v5), (6, .int v6), (7, .int v7)], [.int ((σ 5300) 3), .int v7], SH0, [(5700, m_behind_)], lg) rfl (by decide) ?_
    refine E_sts 1 (if ((σ 5300) 3) ≤ v7 then 143 else 61, [(0, .ref 52), (1, .int v1), (2, .int v2), (3, .int v3), (4, .int v4), (5, .int v5), (6, .int v6), (7, .int v7)], [], SH0, [(5700, m_behind_)], lg) rfl ?_
    rcases x_br h with ⟨hc, h⟩ | ⟨hc, h⟩
    · refine E_itt hc ?_
      refine E_sts 10 (159, [(0, .ref 52), (1, .int v1), (2, .int v2), (3, .int v3), (4, .int v4), (5, .int v5), (6, .int v6), (7, .int v7)], [.int v6, .int (((10 * v4) + v5) + 1), .ref 57], SH0, [(5700, m_behind_)], lg) rfl ?_
      obtain ⟨hp, h⟩ := x_ite h
      refine E_par (p := inr (((10 * v4) + v5) + 1) 5120) (160, [(0, .ref 52), (1, .int v1), (2, .int v2), (3, .int v3), (4, .int v4), (5, .int v5), (6, .int v6), (7, .int v7)], [], SH0, [(5700, (upd m_behind_ (((10 * v4) + v5) + 1).toNatClampNeg v6))], lg) rfl hp ?_
      refine E_sts 3 (22, [(0, .ref 52), (1, .int v1), (2, .int v2), (3, .int v3), (4, .int v4), (5, .int (v5 + 1))], [], SH0, [(5700, (upd m_behind_ (((10 * v4) + v5) + 1).toNatClampNeg v6))], lg) rfl ?_
      exact h22 v1 v2 v3 v4 (v5 + 1) (upd m_behind_ (((10 * v4) + v5) + 1).toNatClampNeg v6) r h
    · refine E_itf hc ?_
      refine E_sts 5 (if (v4 &&& v2) = v2 then 69 else 143, [(0, .ref 52), (1, .int v1), (2, .int v2), (3, .int v3), (4, .int v4), (5, .int v5), (6, .int v6), (7, .int v7)], [], SH0, [(5700, m_behind_)], lg) rfl ?_
      rcases x_br h with ⟨hc, h⟩ | ⟨hc, h⟩
      · refine E_itt hc ?_
        refine E_sts 3 (74, [(0, .ref 52), (1, .int v1), (2, .int v2), (3, .int v3), (4, .int v4), (5, .int v5), (6, .int v6), (7, .int v7)], [.int v4, .int v7, .ref 52], SH0, [(5700, m_behind_)], lg) rfl ?_
        obtain ⟨r74, hr, h⟩ := x_bind h
        refine E_call rfl (e_X6_canBehind X _ _ _ _ r74 hr) (by decide) ?_
        refine E_sts 1 (if (xb r74) = 0 then 137 else 80, [(0, .ref 52), (1, .int v1), (2, .int v2), (3, .int v3), (4, .int v4), (5, .int v5), (6, .int v6), (7, .int v7)], [], SH0, [(5700, m_behind_)], lg) rfl ?_
        rcases x_br h with ⟨hc, h⟩ | ⟨hc, h⟩
        · refine E_itt hc ?_
          refine E_sts 3 (50, [(0, .ref 52), (1, .int v1), (2, .int v2), (3, .int v3), (4, .int v4), (5, .int v5), (6, .int v6), (7, .int (v7 + 1))], [], SH0, [(5700, m_behind_)], lg) rfl ?_
          exact ih v1 v2 v3 v4 v5 v6 (v7 + 1) m_behind_ r h
        · refine E_itf hc ?_
          refine E_sts 13 (99, [(0, .ref 52), (1, .int v1), (2, .int v2), (3, .int v3), (4, .int v4), (5, .int v5), (6, .int v6), (7, .int v7)], [.int (((10 * (v4 ||| (xshl 1 v7))) + v7) + 1), .ref 57], SH0, [(5700, m_behind_)], lg) rfl ?_
          obtain ⟨hp, h⟩ := x_ite h
          refine E_par (p := inr (((10 * (v4 ||| (xshl 1 v7))) + v7) + 1) 5120) (100, [(0, .ref 52), (1, .int v1), (2, .int v2), (3, .int v3), (4, .int v4), (5, .int v5), (6, .int v6), (7, .int v7)], [.int (m_behind_ (((10 * (v4 ||| (xshl 1 v7))) + v7) + 1).toNatClampNeg)], SH0, [(5700, m_behind_)], lg) rfl hp ?_
          refine E_sts 4 (if (m_behind_ (((10 * (v4 ||| (xshl 1 v7))) + v7) + 1).toNatClampNeg) = (-99999999) then 109 else 114, [(0, .ref 52), (1, .int v1), (2, .int v2), (3, .int v3), (4, .int v4), (5, .int v5), (6, .int v6), (7, .int v7), (8, .int (m_behind_ (((10 * (v4 ||| (xshl 1 v7))) + v7) + 1).toNatClampNeg))], [], SH0, [(5700, m_behind_)], lg) rfl ?_
          rcases x_br h with ⟨hc, h⟩ | ⟨hc, h⟩
          · refine E_itt hc ?_
            refine E_sts 5 (132, [(0, .ref 52), (1, .int v1), (2, .int v2), (3, .int v3), (4, .int v4), (5, .int v5), (6, .int v6), (7, .int v7), (8, .int (m_behind_ (((10 * (v4 ||| (xshl 1 v7))) + v7) + 1).toNatClampNeg)), (9, .int (-99999999))], [.int (-99999999), .int v6], SH0, [(5700, m_behind_)], lg) rfl ?_
            refine E_call rfl (e_X6_most X _ _ _ _ (X6_most v6 (-99999999)) rfl) (by decide) ?_
            refine E_sts 4 (50, [(0, .ref 52), (1, .int v1), (2, .int v2), (3, .int v3), (4, .int v4), (5, .int v5), (6, .int (X6_most v6 (-99999999))), (7, .int (v7 + 1))], [], SH0, [(5700, m_behind_)], lg) rfl ?_
            exact ih v1 v2 v3 v4 v5 (X6_most v6 (-99999999)) (v7 + 1) m_behind_ r h
          · refine E_itf hc ?_
            refine E_sts 5 (122, [(0, .ref 52), (1, .int v1), (2, .int v2), (3, .int v3), (4, .int v4), (5, .int v5), (6, .int v6), (7, .int v7), (8, .int (m_behind_ (((10 * (v4 ||| (xshl 1 v7))) + v7) + 1).toNatClampNeg))], [.int v5, .int v7, .int v1, .ref 52, .int (m_behind_ (((10 * (v4 ||| (xshl 1 v7))) + v7) + 1).toNatClampNeg)], SH0, [(5700, m_behind_)], lg) rfl ?_
            obtain ⟨r122, hr, h⟩ := x_bind h
            refine E_call rfl (e_X6_brings X _ _ _ _ _ r122 hr) (by decide) ?_
            refine E_sts 4 (132, [(0, .ref 52), (1, .int v1), (2, .int v2), (3, .int v3), (4, .int v4), (5, .int v5), (6, .int v6), (7, .int v7), (8, .int (m_behind_ (((10 * (v4 ||| (xshl 1 v7))) + v7) + 1).toNatClampNeg)), (9, .int ((m_behind_ (((10 * (v4 ||| (xshl 1 v7))) + v7) + 1).toNatClampNeg) + r122))], [.int ((m_behind_ (((10 * (v4 ||| (xshl 1 v7))) + v7) + 1).toNatClampNeg) + r122), .int v6], SH0, [(5700, m_behind_)], lg) rfl ?_
            refine E_call rfl (e_X6_most X _ _ _ _ (X6_most v6 ((m_behind_ (((10 * (v4 ||| (xshl 1 v7))) + v7) + 1).toNatClampNeg) + r122)) rfl) (by decide) ?_
            refine E_sts 4 (50, [(0, .ref 52), (1, .int v1), (2, .int v2), (3, .int v3), (4, .int v4), (5, .int v5), (6, .int (X6_most v6 ((m_behind_ (((10 * (v4 ||| (xshl 1 v7))) + v7) + 1).toNatClampNeg) + r122))), (7, .int (v7 + 1))], [], SH0, [(5700, m_behind_)], lg) rfl ?_
            exact ih v1 v2 v3 v4 v5 (X6_most v6 ((m_behind_ (((10 * (v4 ||| (xshl 1 v7))) + v7) + 1).toNatClampNeg) + r122)) (v7 + 1) m_behind_ r h
      · refine E_itf hc ?_
        refine E_sts 10 (159, [(0, .ref 52), (1, .int v1), (2, .int v2), (3, .int v3), (4, .int v4), (5, .int v5), (6, .int v6), (7, .int v7)], [.int v6, .int (((10 * v4) + v5) + 1), .ref 57], SH0, [(5700, m_behind_)], lg) rfl ?_
        obtain ⟨hp, h⟩ := x_ite h
        refine E_par (p := inr (((10 * v4) + v5) + 1) 5120) (160, [(0, .ref 52), (1, .int v1), (2, .int v2), (3, .int v3), (4, .int v4), (5, .int v5), (6, .int v6), (7, .int v7)], [], SH0, [(5700, (upd m_behind_ (((10 * v4) + v5) + 1).toNatClampNeg v6))], lg) rfl hp ?_
        refine E_sts 3 (22, [(0, .ref 52), (1, .int v1), (2, .int v2), (3, .int v3), (4, .int v4), (5, .int (v5 + 1))], [], SH0, [(5700, (upd m_behind_ (((10 * v4) + v5) + 1).toNatClampNeg v6))], lg) rfl ?_
        exact h22 v1 v2 v3 v4 (v5 + 1) (upd m_behind_ (((10 * v4) + v5) + 1).toNatClampNeg v6) r h
set_option maxHeartbeats 4000000 in
set_option maxRecDepth 20000 in
theorem e_X6_findsBest_L22 (X : xX) (σ : xM) (lg : Int64) (k13 : Int32 → Int32 → Int32 → Int32 → (Nat → Int32) → Option (Int32 × (Nat → Int32))) (h13 : ∀ (v1 : Int32) (v2 : Int32) (v3 : Int32) (v4 : Int32) (m_behind_ : (Nat → Int32)) (r : Int32 × (Nat → Int32)), k13 v1 v2 v3 v4 m_behind_ = some r → E XP X 4 xm_158 σ (13, [(0, .ref 52), (1, .int v1), (2, .int v2), (3, .int v3), (4, .int v4)], [], SH0, [(5700, m_behind_)], lg) (some (.int r.1), SH0, [(5700, r.2)], lg)) : ∀ (n : Nat), ∀ (v1 : Int32) (v2 : Int32) (v3 : Int32) (v4 : Int32) (v5 : Int32) (m_behind_ : (Nat → Int32)) (r : Int32 × (Nat → Int32)), X6_findsBest_L22 k13 (σ 5300) n v1 v2 v3 v4 v5 m_behind_ = some r → E XP X 4 xm_158 σ (22, [(0, .ref 52), (1, .int v1), (2, .int v2), (3, .int v3), (4, .int v4), (5, .int v5)], [], SH0, [(5700, m_behind_)], lg) (some (.int r.1), SH0, [(5700, r.2)], lg) := by
  intro n
  induction n with
  | zero => intro v1 v2 v3 v4 v5 m_behind_ r h; rw [X6_findsBest_L22] at h; cases h
  | succ n ih =>
    intro v1 v2 v3 v4 v5 m_behind_ r h
    rw [X6_findsBest_L22] at h
    refine E_sts 4 (29, [(0, .ref 52), (1, .int v1), (2, .int v2), (3, .int v3), (4, .int v4), (5, .int v5)], [.int 3, .ref 53, .int v5], SH0, [(5700, m_behind_)], lg) rfl ?_
    refine E_par (p := inr 3 83) (30, [(0, .ref 52), (1, .int v1), (2, .int v2), (3, .int v3), (4, .int v4), (5, .int v5)], [.int ((σ 5300) 3), .int v5], SH0, [(5700, m_behind_)], lg) rfl (by decide) ?_
    refine E_sts 1 (if ((σ 5300) 3) ≤ v5 then 166 else 33, [(0, .ref 52), (1, .int v1), (2, .int v2), (3, .int v3), (4, .int v4), (5, .int v5)], [], SH0, [(5700, m_behind_)], lg) rfl ?_
    rcases x_br h with ⟨hc, h⟩ | ⟨hc, h⟩
    · refine E_itt hc ?_
      refine E_sts 3 (13, [(0, .ref 52), (1, .int v1), (2, .int v2), (3, .int v3), (4, .int (v4 + (-1)))], [], SH0, [(5700, m_behind_)], lg) rfl ?_
      exact h13 v1 v2 v3 (v4 + (-1)) m_behind_ r h
    · refine E_itf hc ?_
      refine E_sts 3 (if v4 = v3 then 39 else 43, [(0, .ref 52), (1, .int v1), (2, .int v2), (3, .int v3), (4, .int v4), (5, .int v5)], [], SH0, [(5700, m_behind_)], lg) rfl ?_
      rcases x_br h with ⟨hc, h⟩ | ⟨hc, h⟩
      · refine E_itt hc ?_
        refine E_sts 6 (50, [(0, .ref 52), (1, .int v1), (2, .int v2), (3, .int v3), (4, .int v4), (5, .int v5), (6, .int 0), (7, .int 0)], [], SH0, [(5700, m_behind_)], lg) rfl ?_
        exact e_X6_findsBest_L50 X σ lg _ _ (fun v10 v20 v30 v40 m_behind_0 r h => h13 v10 v20 v30 v40 m_behind_0 r h) (fun v10 v20 v30 v40 v50 m_behind_0 r h => ih v10 v20 v30 v40 v50 m_behind_0 r h) _ v1 v2 v3 v4 v5 0 0 m_behind_ r h
      · refine E_itf hc ?_
        refine E_sts 5 (50, [(0, .ref 52), (1, .int v1), (2, .int v2), (3, .int v3), (4, .int v4), (5, .int v5), (6, .int (-99999999)), (7, .int 0)], [], SH0, [(5700, m_behind_)], lg) rfl ?_
        exact e_X6_findsBest_L50 X σ lg _ _ (fun v10 v20 v30 v40 m_behind_0 r h => h13 v10 v20 v30 v40 m_behind_0 r h) (fun v10 v20 v30 v40 v50 m_behind_0 r h => ih v10 v20 v30 v40 v50 m_behind_0 r h) _ v1 v2 v3 v4 v5 (-99999999) 0 m_behind_ r h
set_option maxHeartbeats 4000000 in
set_option maxRecDepth 20000 in
theorem e_X6_findsBest_L13 (X : xX) (σ : xM) (lg : Int64) : ∀ (n : Nat), ∀ (v1 : Int32) (v2 : Int32) (v3 : Int32) (v4 : Int32) (m_behind_ : (Nat → Int32)) (r : Int32 × (Nat → Int32)), X6_findsBest_L13 (σ 5300) n v1 v2 v3 v4 m_behind_ = some r → E XP X 4 xm_158 σ (13, [(0, .ref 52), (1, .int v1), (2, .int v2), (3, .int v3), (4, .int v4)], [], SH0, [(5700, m_behind_)], lg) (some (.int r.1), SH0, [(5700, r.2)], lg) := by
  intro n
  induction n with
  | zero => intro v1 v2 v3 v4 m_behind_ r h; rw [X6_findsBest_L13] at h; cases h
  | succ n ih =>
    intro v1 v2 v3 v4 m_behind_ r h
    rw [X6_findsBest_L13] at h
    refine E_sts 3 (if v4 < v2 then 172 else 19, [(0, .ref 52), (1, .int v1), (2, .int v2), (3, .int v3), (4, .int v4)], [], SH0, [(5700, m_behind_)], lg) rfl ?_
    rcases x_br h with ⟨hc, h⟩ | ⟨hc, h⟩
    · refine E_itt hc ?_
      refine E_sts 6 (181, [(0, .ref 52), (1, .int v1), (2, .int v2), (3, .int v3), (4, .int v4)], [.ref 52, .int (10 * v2), .ref 57], SH0, [(5700, m_behind_)], lg) rfl ?_
      obtain ⟨r181, hr, h⟩ := x_bind h
      refine E_call rfl (e_X6_latest X _ _ r181 hr) (by decide) ?_
      refine E_sts 3 (187, [(0, .ref 52), (1, .int v1), (2, .int v2), (3, .int v3), (4, .int v4)], [.int (((10 * v2) + r181) + 1), .ref 57], SH0, [(5700, m_behind_)], lg) rfl ?_
      obtain ⟨hp, h⟩ := x_ite h
      refine E_par (p := inr (((10 * v2) + r181) + 1) 5120) (100188, [(0, .ref 52), (1, .int v1), (2, .int v2), (3, .int v3), (4, .int v4)], [.int (m_behind_ (((10 * v2) + r181) + 1).toNatClampNeg)], SH0, [(5700, m_behind_)], lg) rfl hp ?_
      obtain rfl := Option.some.inj h
      refine E_sts 1 (188, [], [.int (m_behind_ (((10 * v2) + r181) + 1).toNatClampNeg)], SH0, [(5700, m_behind_)], lg) rfl ?_
      exact E_ret rfl
    · refine E_itf hc ?_
      refine E_sts 3 (22, [(0, .ref 52), (1, .int v1), (2, .int v2), (3, .int v3), (4, .int v4), (5, .int (-1))], [], SH0, [(5700, m_behind_)], lg) rfl ?_
      exact e_X6_findsBest_L22 X σ lg _ (fun v10 v20 v30 v40 m_behind_0 r h => ih v10 v20 v30 v40 m_behind_0 r h) _ v1 v2 v3 v4 (-1) m_behind_ r h
set_option maxHeartbeats 4000000 in
set_option maxRecDepth 20000 in
theorem e_X6_findsBest (X : xX) (σ : xM) (lg : Int64) (v1 : Int32) (r : Int32 × (Nat → Int32)) (h : X6_findsBest (σ 5300) (σ 5700) v1 = some r) : EM XP X 5 158 [.ref 52, .int v1] SH0 lg σ (some (.int r.1), SH0, [(5700, r.2)], lg) := by
  refine EM_of (M := xm_158) rfl rfl ?_
  unfold X6_findsBest at h
  refine E_sts 1 (1, [(0, .ref 52), (1, .int v1)], [.ref 52], SH0, [], lg) rfl ?_
  obtain ⟨r1, hr, h⟩ := x_bind h
  refine E_call rfl (e_X6_stageSet X _ _ r1 hr) (by decide) ?_
  refine E_sts 2 (6, [(0, .ref 52), (1, .int v1), (2, .int r1)], [.ref 52], SH0, [], lg) rfl ?_
  obtain ⟨r6, hr, h⟩ := x_bind h
  refine E_call rfl (e_X6_allBows X _ _ r6 hr) (by decide) ?_
  refine E_sts 4 (13, [(0, .ref 52), (1, .int v1), (2, .int r1), (3, .int r6), (4, .int r6)], [], SH0, [(5700, (σ 5700))], lg) rfl ?_
  exact e_X6_findsBest_L13 X σ lg _ v1 r1 r6 r6 (σ 5700) r h
set_option maxHeartbeats 4000000 in
set_option maxRecDepth 20000 in
theorem e_X6_best (X : xX) (σ : xM) (lg : Int64) (v1 : Int32) (r : Int32 × (Nat → Int32) × (Nat → Int32)) (h : X6_best (σ 5300) (σ 5600) (σ 5700) v1 = some r) : EM XP X 6 160 [.ref 52, .int v1] SH0 lg σ (some (.int r.1), SH0, [(5600, r.2.1), (5700, r.2.2)], lg) := by
  refine EM_of (M := xm_160) rfl rfl ?_
  unfold X6_best at h
  refine E_sts 3 (3, [(0, .ref 52), (1, .int v1)], [.int 1, .int 0, .int v1], SH0, [], lg) rfl ?_
  refine E_call rfl (e_X6_in1 X _ _ _ _ _ (X6_in1 v1 0 1) rfl) (by decide) ?_
  refine E_sts 1 (if (xb (X6_in1 v1 0 1)) = 0 then 9 else 15, [(0, .ref 52), (1, .int v1)], [], SH0, [], lg) rfl ?_
  rcases x_br h with ⟨hc, h⟩ | ⟨hc, h⟩
  · refine E_itt hc ?_
    refine E_sts 2 (11, [(0, .ref 52), (1, .int v1)], [.int 0, .ref 52], SH0, [], lg) rfl ?_
    obtain ⟨r11, hr, h⟩ := x_bind h
    refine E_call rfl (e_X6_no X _ _ _ r11 hr) (by decide) ?_
    obtain rfl := Option.some.inj h
    refine E_sts 1 (14, [], [.int r11.1], SH0, [(5600, r11.2), (5700, (σ 5700))], lg) rfl ?_
    exact E_ret rfl
  · refine E_itf hc ?_
    refine E_sts 2 (17, [(0, .ref 52), (1, .int v1)], [.int v1, .ref 52], SH0, [], lg) rfl ?_
    obtain ⟨r17, hr, h⟩ := x_bind h
    refine E_call rfl (e_X6_findsBest X _ _ _ r17 hr) (by decide) ?_
    refine E_sts 4 (if r17.1 = (-99999999) then 27 else 35, [(0, .ref 52), (1, .int v1), (2, .int r17.1)], [], SH0, [(5700, r17.2)], lg) rfl ?_
    rcases x_br h with ⟨hc, h⟩ | ⟨hc, h⟩
    · refine E_itt hc ?_
      refine E_sts 2 (29, [(0, .ref 52), (1, .int v1), (2, .int r17.1)], [.int 3, .ref 52], SH0, [(5700, r17.2)], lg) rfl ?_
      obtain ⟨r29, hr, h⟩ := x_bind h
      refine E_call rfl (e_X6_no X _ _ _ r29 hr) (by decide) ?_
      obtain rfl := Option.some.inj h
      refine E_sts 2 (45, [], [.int r29.1], SH0, [(5600, r29.2), (5700, r17.2)], lg) rfl ?_
      exact E_ret rfl
    · refine E_itf hc ?_
      refine E_sts 2 (if v1 = 0 then 39 else 43, [(0, .ref 52), (1, .int v1), (2, .int r17.1)], [], SH0, [(5700, r17.2)], lg) rfl ?_
      rcases x_br h with ⟨hc, h⟩ | ⟨hc, h⟩
      · refine E_itt hc ?_
        obtain rfl := Option.some.inj h
        refine E_sts 3 (45, [], [.int r17.1], SH0, [(5600, (σ 5600)), (5700, r17.2)], lg) rfl ?_
        exact E_ret rfl
      · refine E_itf hc ?_
        obtain rfl := Option.some.inj h
        refine E_sts 3 (45, [], [.int (-r17.1)], SH0, [(5600, (σ 5600)), (5700, r17.2)], lg) rfl ?_
        exact E_ret rfl
theorem e_J6_bitCount_0f7a4 (X : xX) (σ : xM) (lg : Int64) (v0 : Int32) (r : Int32) (h : J6_bitCount_0f7a4 v0 = r) : EM XP X 1 219 [.int v0] SH0 lg σ (some (.int r), SH0, [], lg) := by
  refine EM_of (M := xm_219) rfl rfl ?_
  unfold J6_bitCount_0f7a4 at h
  refine E_sts 8 (10, [(0, .int (bc1 v0))], [], SH0, [], lg) rfl ?_
  generalize bc1 v0 = x1 at h ⊢
  refine E_sts 10 (24, [(0, .int (bc2 x1))], [], SH0, [], lg) rfl ?_
  generalize bc2 x1 = x2 at h ⊢
  refine E_sts 8 (34, [(0, .int (bc3 x2))], [], SH0, [], lg) rfl ?_
  generalize bc3 x2 = x3 at h ⊢
  refine E_sts 6 (41, [(0, .int (bc4 x3))], [], SH0, [], lg) rfl ?_
  generalize bc4 x3 = x4 at h ⊢
  refine E_sts 6 (48, [(0, .int (bc5 x4))], [], SH0, [], lg) rfl ?_
  generalize bc5 x4 = x5 at h ⊢
  subst h
  refine E_sts 3 (52, [(0, .int x5)], [.int (x5 &&& 63)], SH0, [], lg) rfl ?_
  exact E_ret rfl
set_option maxHeartbeats 4000000 in
set_option maxRecDepth 20000 in
theorem e_X1_rest (X : xX) (σ : xM) (lg : Int64) (r : Int32) (h : X1_rest (σ 3212 0) (σ 3214 0) = r) : EM XP X 2 6 [.ref 32] SH0 lg σ (some (.int r), SH0, [], lg) := by
  refine EM_of (M := xm_6) rfl rfl ?_
  unfold X1_rest at h
  refine E_sts 7 (11, [(0, .ref 32)], [.int ((σ 3214 0) &&& ((σ 3212 0) ^^^ (-1)))], SH0, [], lg) rfl ?_
  refine E_call rfl (e_J6_bitCount_0f7a4 X _ _ _ (J6_bitCount_0f7a4 ((σ 3214 0) &&& ((σ 3212 0) ^^^ (-1)))) rfl) (by decide) ?_
  subst h
  exact E_ret rfl
set_option maxHeartbeats 4000000 in
set_option maxRecDepth 20000 in
theorem e_X1_firstBehind_L8 (X : xX) (σ : xM) (lg : Int64) : ∀ (n : Nat), ∀ (v1 : Int32) (v2 : Int32) (v3 : Int32) (r : Int32), X1_firstBehind_L8 (σ 3208 0) (σ 3600) (σ 3800) (σ 3900) n v1 v2 v3 = some r → E XP X 1 xm_15 σ (8, [(0, .ref 32), (1, .int v1), (2, .int v2), (3, .int v3)], [], SH0, [], lg) (some (.int r), SH0, [], lg) := by
  intro n
  induction n with
  | zero => intro v1 v2 v3 r h; rw [X1_firstBehind_L8] at h; cases h
  | succ n ih =>
    intro v1 v2 v3 r h
    rw [X1_firstBehind_L8] at h
    refine E_sts 4 (if (σ 3208 0) ≤ v3 then 56 else 16, [(0, .ref 32), (1, .int v1), (2, .int v2), (3, .int v3)], [], SH0, [], lg) rfl ?_
    rcases x_br h with ⟨hc, h⟩ | ⟨hc, h⟩
    · refine E_itt hc ?_
      obtain rfl := Option.some.inj h
      refine E_sts 1 (57, [(0, .ref 32), (1, .int v1), (2, .int v2), (3, .int v3)], [.int 0], SH0, [], lg) rfl ?_
      exact E_ret rfl
    · refine E_itf hc ?_
      refine E_sts 8 (29, [(0, .ref 32), (1, .int v1), (2, .int v2), (3, .int v3)], [.int v3, .ref 38, .int (v1 * 9), .ref 36], SH0, [], lg) rfl ?_
      obtain ⟨hp, h⟩ := x_ite h
      refine E_par (p := inr v3 9) (30, [(0, .ref 32), (1, .int v1), (2, .int v2), (3, .int v3)], [.int ((σ 3800) v3.toNatClampNeg), .int (v1 * 9), .ref 36], SH0, [], lg) rfl hp ?_
      refine E_sts 1 (31, [(0, .ref 32), (1, .int v1), (2, .int v2), (3, .int v3)], [.int ((v1 * 9) + ((σ 3800) v3.toNatClampNeg)), .ref 36], SH0, [], lg) rfl ?_
      obtain ⟨hp, h⟩ := x_ite h
      refine E_par (p := inr ((v1 * 9) + ((σ 3800) v3.toNatClampNeg)) 90) (32, [(0, .ref 32), (1, .int v1), (2, .int v2), (3, .int v3)], [.int ((σ 3600) ((v1 * 9) + ((σ 3800) v3.toNatClampNeg)).toNatClampNeg)], SH0, [], lg) rfl hp ?_
      refine E_sts 3 (37, [(0, .ref 32), (1, .int v1), (2, .int v2), (3, .int v3)], [.int v3, .ref 39, .int ((σ 3600) ((v1 * 9) + ((σ 3800) v3.toNatClampNeg)).toNatClampNeg)], SH0, [], lg) rfl ?_
      obtain ⟨hp, h⟩ := x_ite h
      refine E_par (p := inr v3 9) (38, [(0, .ref 32), (1, .int v1), (2, .int v2), (3, .int v3)], [.int ((σ 3900) v3.toNatClampNeg), .int ((σ 3600) ((v1 * 9) + ((σ 3800) v3.toNatClampNeg)).toNatClampNeg)], SH0, [], lg) rfl hp ?_
      refine E_sts 3 (if (((σ 3600) ((v1 * 9) + ((σ 3800) v3.toNatClampNeg)).toNatClampNeg) + ((σ 3900) v3.toNatClampNeg)) = v2 then 43 else 50, [(0, .ref 32), (1, .int v1), (2, .int v2), (3, .int v3)], [], SH0, [], lg) rfl ?_
      rcases x_br h with ⟨hc, h⟩ | ⟨hc, h⟩
      · refine E_itt hc ?_
        refine E_sts 3 (48, [(0, .ref 32), (1, .int v1), (2, .int v2), (3, .int v3)], [.int v3, .ref 38], SH0, [], lg) rfl ?_
        obtain ⟨hp, h⟩ := x_ite h
        refine E_par (p := inr v3 9) (49, [(0, .ref 32), (1, .int v1), (2, .int v2), (3, .int v3)], [.int ((σ 3800) v3.toNatClampNeg)], SH0, [], lg) rfl hp ?_
        obtain rfl := Option.some.inj h
        exact E_ret rfl
      · refine E_itf hc ?_
        refine E_sts 3 (8, [(0, .ref 32), (1, .int v1), (2, .int v2), (3, .int (v3 + 1))], [], SH0, [], lg) rfl ?_
        exact ih v1 v2 (v3 + 1) r h
set_option maxHeartbeats 4000000 in
set_option maxRecDepth 20000 in
theorem e_X1_firstBehind (X : xX) (σ : xM) (lg : Int64) (v1 : Int32) (r : Int32) (h : X1_firstBehind (σ 3208 0) (σ 3600) (σ 3800) (σ 3900) v1 = some r) : EM XP X 2 15 [.ref 32, .int v1] SH0 lg σ (some (.int r), SH0, [], lg) := by
  refine EM_of (M := xm_15) rfl rfl ?_
  unfold X1_firstBehind at h
  refine E_sts 2 (2, [(0, .ref 32), (1, .int v1)], [.int v1, .ref 32], SH0, [], lg) rfl ?_
  obtain ⟨r2, hr, h⟩ := x_bind h
  refine E_call rfl (e_X1_mostBehind X _ _ _ r2 hr) (by decide) ?_
  refine E_sts 4 (8, [(0, .ref 32), (1, .int v1), (2, .int r2), (3, .int 0)], [], SH0, [], lg) rfl ?_
  exact e_X1_firstBehind_L8 X σ lg _ v1 r2 0 r h
set_option maxHeartbeats 4000000 in
set_option maxRecDepth 20000 in
theorem e_X1_findFirst_L25 (X : xX) (σ : xM) (lg : Int64) : ∀ (n : Nat), ∀ (v2 : Int32) (v3 : Int32) (v4 : Int32) (v5 : Int32) (od_many_ : Int32) (od_scores_ : (Nat → Int32)) (od_most_ : (Nat → Int32)) (od_followers_ : (Nat → Int32)) (od_mostThen_ : (Nat → Int32)) (od_first_ : (Nat → Int32)) (r : Int32 × (Nat → Int32) × (Nat → Int32) × (Nat → Int32) × (Nat → Int32) × (Nat → Int32)), X1_findFirst_L25 (σ 3211 0) (σ 3500) n v2 v3 v4 v5 od_many_ od_scores_ od_most_ od_followers_ od_mostThen_ od_first_ = some r → E XP X 4 xm_14 σ (25, [(0, .ref 32), (2, .int v2), (3, .int v3), (4, .int v4), (5, .int v5)], [], SH0, [(3208, fun _ => od_many_), (3600, od_scores_), (3700, od_most_), (3800, od_followers_), (3900, od_mostThen_), (4100, od_first_)], lg) (none, SH0, [(3208, fun _ => r.1), (3600, r.2.1), (3700, r.2.2.1), (3800, r.2.2.2.1), (3900, r.2.2.2.2.1), (4100, r.2.2.2.2.2)], lg) := by
  intro n
  induction n with
  | zero => intro v2 v3 v4 v5 od_many_ od_scores_ od_most_ od_followers_ od_mostThen_ od_first_ r h; rw [X1_findFirst_L25] at h; cases h
  | succ n ih =>
    intro v2 v3 v4 v5 od_many_ od_scores_ od_most_ od_followers_ od_mostThen_ od_first_ r h
    rw [X1_findFirst_L25] at h
    refine E_sts 3 (if v4 ≤ v5 then 100069 else 32, [(0, .ref 32), (2, .int v2), (3, .int v3), (4, .int v4), (5, .int v5)], [], SH0, [(3208, fun _ => od_many_), (3600, od_scores_), (3700, od_most_), (3800, od_followers_), (3900, od_mostThen_), (4100, od_first_)], lg) rfl ?_
    rcases x_br h with ⟨hc, h⟩ | ⟨hc, h⟩
    · refine E_itt hc ?_
      obtain rfl := Option.some.inj h
      refine E_sts 1 (69, [], [], SH0, [(3208, fun _ => od_many_), (3600, od_scores_), (3700, od_most_), (3800, od_followers_), (3900, od_mostThen_), (4100, od_first_)], lg) rfl ?_
      exact E_ret rfl
    · refine E_itf hc ?_
      refine E_sts 2 (34, [(0, .ref 32), (2, .int v2), (3, .int v3), (4, .int v4), (5, .int v5)], [.int v2, .ref 32], SH0, [(3208, fun _ => od_many_), (3600, od_scores_), (3700, od_most_), (3800, od_followers_), (3900, od_mostThen_), (4100, od_first_)], lg) rfl ?_
      obtain ⟨r34, hr, h⟩ := x_bind h
      refine E_call rfl (e_X1_findFollowers X _ _ _ r34 hr) (by decide) ?_
      refine E_sts 5 (45, [(0, .ref 32), (2, .int v2), (3, .int v3), (4, .int v4), (5, .int v5)], [.int v3, .ref 32, .int v5, .ref 41], SH0, [(3208, fun _ => r34.1), (3600, od_scores_), (3700, od_most_), (3800, r34.2.1), (3900, r34.2.2), (4100, od_first_)], lg) rfl ?_
      obtain ⟨r45, hr, h⟩ := x_bind h
      refine E_call rfl (e_X1_firstBehind X _ _ _ r45 hr) (by decide) ?_
      obtain ⟨hp, h⟩ := x_ite h
      refine E_par (p := inr v5 9) (49, [(0, .ref 32), (2, .int v2), (3, .int v3), (4, .int v4), (5, .int v5)], [], SH0, [(3208, fun _ => r34.1), (3600, od_scores_), (3700, od_most_), (3800, r34.2.1), (3900, r34.2.2), (4100, (upd od_first_ v5.toNatClampNeg r45))], lg) rfl hp ?_
      refine E_sts 3 (55, [(0, .ref 32), (2, .int v2), (3, .int v3), (4, .int v4), (5, .int v5)], [.int v5, .ref 41], SH0, [(3208, fun _ => r34.1), (3600, od_scores_), (3700, od_most_), (3800, r34.2.1), (3900, r34.2.2), (4100, (upd od_first_ v5.toNatClampNeg r45))], lg) rfl ?_
      obtain ⟨hp, h⟩ := x_ite h
      refine E_par (p := inr v5 9) (56, [(0, .ref 32), (2, .int v2), (3, .int v3), (4, .int v4), (5, .int v5)], [.int ((upd od_first_ v5.toNatClampNeg r45) v5.toNatClampNeg)], SH0, [(3208, fun _ => r34.1), (3600, od_scores_), (3700, od_most_), (3800, r34.2.1), (3900, r34.2.2), (4100, (upd od_first_ v5.toNatClampNeg r45))], lg) rfl hp ?_
      refine E_sts 10 (25, [(0, .ref 32), (2, .int (v2 ||| (xshl 1 ((upd od_first_ v5.toNatClampNeg r45) v5.toNatClampNeg)))), (3, .int ((upd od_first_ v5.toNatClampNeg r45) v5.toNatClampNeg)), (4, .int v4), (5, .int (v5 + 1))], [], SH0, [(3208, fun _ => r34.1), (3600, od_scores_), (3700, od_most_), (3800, r34.2.1), (3900, r34.2.2), (4100, (upd od_first_ v5.toNatClampNeg r45))], lg) rfl ?_
      exact ih (v2 ||| (xshl 1 ((upd od_first_ v5.toNatClampNeg r45) v5.toNatClampNeg))) ((upd od_first_ v5.toNatClampNeg r45) v5.toNatClampNeg) v4 (v5 + 1) r34.1 od_scores_ od_most_ r34.2.1 r34.2.2 (upd od_first_ v5.toNatClampNeg r45) r h
set_option maxHeartbeats 4000000 in
set_option maxRecDepth 20000 in
theorem e_X1_findFirst (X : xX) (σ : xM) (lg : Int64) (v1 : Int32) (r : Int32 × (Nat → Int32) × (Nat → Int32) × (Nat → Int32) × (Nat → Int32) × (Nat → Int32)) (h : X1_findFirst (σ 3208 0) (σ 3211 0) (σ 3212 0) (σ 3213 0) (σ 3214 0) (σ 3300) (σ 3400) (σ 3500) (σ 3600) (σ 3700) (σ 3800) (σ 3900) (σ 4100) v1 = some r) : EM XP X 5 14 [.ref 32, .int v1] SH0 lg σ (none, SH0, [(3208, fun _ => r.1), (3600, r.2.1), (3700, r.2.2.1), (3800, r.2.2.2.1), (3900, r.2.2.2.2.1), (4100, r.2.2.2.2.2)], lg) := by
  refine EM_of (M := xm_14) rfl rfl ?_
  unfold X1_findFirst at h
  refine E_sts 2 (2, [(0, .ref 32), (1, .int v1)], [.int v1, .ref 32], SH0, [], lg) rfl ?_
  obtain ⟨r2, hr, h⟩ := x_bind h
  refine E_call rfl (e_X1_weigh X _ _ _ r2 hr) (by decide) ?_
  refine E_sts 8 (17, [(0, .ref 32), (1, .int v1), (2, .int (σ 3212 0)), (3, .int (σ 3213 0))], [.ref 32], SH0, [(3208, fun _ => r2.2.1), (3600, r2.2.2.1), (3700, r2.2.2.2.1), (3800, r2.2.2.2.2.1), (3900, r2.2.2.2.2.2)], lg) rfl ?_
  refine E_call rfl (e_X1_rest X _ _ (X1_rest (σ 3212 0) (σ 3214 0)) rfl) (by decide) ?_
  refine E_sts 4 (25, [(0, .ref 32), (2, .int (σ 3212 0)), (3, .int (σ 3213 0)), (4, .int (X1_rest (σ 3212 0) (σ 3214 0))), (5, .int 0)], [], SH0, [(3208, fun _ => r2.2.1), (3600, r2.2.2.1), (3700, r2.2.2.2.1), (3800, r2.2.2.2.2.1), (3900, r2.2.2.2.2.2), (4100, (σ 4100))], lg) rfl ?_
  exact e_X1_findFirst_L25 X σ lg _ (σ 3212 0) (σ 3213 0) (X1_rest (σ 3212 0) (σ 3214 0)) 0 r2.2.1 r2.2.2.1 r2.2.2.2.1 r2.2.2.2.2.1 r2.2.2.2.2.2 (σ 4100) r h
