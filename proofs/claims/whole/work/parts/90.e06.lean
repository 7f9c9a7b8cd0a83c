/-! what the machine answers is what the functions say (by gen/emit.py) -/
set_option maxHeartbeats 4000000 in
set_option maxRecDepth 20000 in
theorem e_X5_ith (X : xX) (σ : xM) (lg : Int64) (v1 : Int32) (v2 : Int32) (r : Int32 × (Nat → Int32) × Int32 × Int32 × Int32 × Int32 × Int32 × (Nat → Int32) × (Nat → Int32) × (Nat → Int32) × (Nat → Int32) × (Nat → Int32) × (Nat → Int32) × (Nat → Int32) × (Nat → Int32)) (h : X5_ith (σ 100) (σ 201 0) (σ 207 0) (σ 208 0) (σ 300) (σ 400) (σ 600) (σ 800) (σ 3208 0) (σ 3211 0) (σ 3212 0) (σ 3213 0) (σ 3214 0) (σ 3300) (σ 3400) (σ 3500) (σ 3600) (σ 3700) (σ 3800) (σ 3900) (σ 4100) v1 v2 = some r) : EM XP X 6 80 [.ref 0, .int v1, .int v2] SH0 lg σ (some (.int r.1), SH0, [(100, r.2.1), (3208, fun _ => r.2.2.1), (3211, fun _ => r.2.2.2.1), (3212, fun _ => r.2.2.2.2.1), (3213, fun _ => r.2.2.2.2.2.1), (3214, fun _ => r.2.2.2.2.2.2.1), (3300, r.2.2.2.2.2.2.2.1), (3400, r.2.2.2.2.2.2.2.2.1), (3500, r.2.2.2.2.2.2.2.2.2.1), (3600, r.2.2.2.2.2.2.2.2.2.2.1), (3700, r.2.2.2.2.2.2.2.2.2.2.2.1), (3800, r.2.2.2.2.2.2.2.2.2.2.2.2.1), (3900, r.2.2.2.2.2.2.2.2.2.2.2.2.2.1), (4100, r.2.2.2.2.2.2.2.2.2.2.2.2.2.2)], lg) := by
  refine EM_of (M := xm_80) rfl rfl ?_
  unfold X5_ith at h
  refine E_sts 3 (3, [(0, .ref 0), (1, .int v1), (2, .int v2)], [.int 1, .int 0, .int v1], SH0, [], lg) rfl ?_
  refine E_call rfl (e_X5_isIn X _ _ _ _ _ (X5_isIn v1 0 1) rfl) (by decide) ?_
  refine E_sts 1 (if (xb (X5_isIn v1 0 1)) = 0 then 13 else 9, [(0, .ref 0), (1, .int v1), (2, .int v2)], [], SH0, [], lg) rfl ?_
  rcases x_br h with ⟨hc, h⟩ | ⟨hc, h⟩
  · refine E_itt hc ?_
    refine E_sts 2 (15, [(0, .ref 0), (1, .int v1), (2, .int v2)], [.int 0, .ref 0], SH0, [], lg) rfl ?_
    obtain ⟨r15, hr, h⟩ := x_bind h
    refine E_call rfl (e_X5_finding X _ _ _ r15 hr) (by decide) ?_
    obtain rfl := Option.some.inj h
    refine E_sts 1 (18, [], [.int r15.1], SH0, [(100, r15.2), (3208, fun _ => (σ 3208 0)), (3211, fun _ => (σ 3211 0)), (3212, fun _ => (σ 3212 0)), (3213, fun _ => (σ 3213 0)), (3214, fun _ => (σ 3214 0)), (3300, (σ 3300)), (3400, (σ 3400)), (3500, (σ 3500)), (3600, (σ 3600)), (3700, (σ 3700)), (3800, (σ 3800)), (3900, (σ 3900)), (4100, (σ 4100))], lg) rfl ?_
    exact E_ret rfl
  · refine E_itf hc ?_
    refine E_sts 2 (if 0 ≤ v2 then 19 else 13, [(0, .ref 0), (1, .int v1), (2, .int v2)], [], SH0, [], lg) rfl ?_
    rcases x_br h with ⟨hc, h⟩ | ⟨hc, h⟩
    · refine E_itt hc ?_
      refine E_sts 4 (27, [(0, .ref 0), (1, .int v1), (2, .int v2)], [.ref 2, .ref 32], SH0, [], lg) rfl ?_
      obtain ⟨r27, hr, h⟩ := x_bind h
      refine E_call rfl (e_X1_startFrom X _ _ r27 hr) (by decide) ?_
      refine E_sts 3 (35, [(0, .ref 0), (1, .int v1), (2, .int v2)], [.ref 32, .int v2], SH0, [(3211, fun _ => r27.1), (3212, fun _ => r27.2.1), (3213, fun _ => r27.2.2.1), (3214, fun _ => r27.2.2.2.1), (3300, r27.2.2.2.2.1), (3400, r27.2.2.2.2.2.1), (3500, r27.2.2.2.2.2.2)], lg) rfl ?_
      refine E_call rfl (e_X1_rest X _ _ (X1_rest r27.2.1 r27.2.2.2.1) rfl) (by decide) ?_
      refine E_sts 1 (if (X1_rest r27.2.1 r27.2.2.2.1) ≤ v2 then 51 else 41, [(0, .ref 0), (1, .int v1), (2, .int v2)], [], SH0, [(3211, fun _ => r27.1), (3212, fun _ => r27.2.1), (3213, fun _ => r27.2.2.1), (3214, fun _ => r27.2.2.2.1), (3300, r27.2.2.2.2.1), (3400, r27.2.2.2.2.2.1), (3500, r27.2.2.2.2.2.2)], lg) rfl ?_
      rcases x_br h with ⟨hc, h⟩ | ⟨hc, h⟩
      · refine E_itt hc ?_
        refine E_sts 2 (53, [(0, .ref 0), (1, .int v1), (2, .int v2)], [.int 3, .ref 0], SH0, [(3211, fun _ => r27.1), (3212, fun _ => r27.2.1), (3213, fun _ => r27.2.2.1), (3214, fun _ => r27.2.2.2.1), (3300, r27.2.2.2.2.1), (3400, r27.2.2.2.2.2.1), (3500, r27.2.2.2.2.2.2)], lg) rfl ?_
        obtain ⟨r53, hr, h⟩ := x_bind h
        refine E_call rfl (e_X5_finding X _ _ _ r53 hr) (by decide) ?_
        obtain rfl := Option.some.inj h
        refine E_sts 1 (56, [], [.int r53.1], SH0, [(100, r53.2), (3208, fun _ => (σ 3208 0)), (3211, fun _ => r27.1), (3212, fun _ => r27.2.1), (3213, fun _ => r27.2.2.1), (3214, fun _ => r27.2.2.2.1), (3300, r27.2.2.2.2.1), (3400, r27.2.2.2.2.2.1), (3500, r27.2.2.2.2.2.2), (3600, (σ 3600)), (3700, (σ 3700)), (3800, (σ 3800)), (3900, (σ 3900)), (4100, (σ 4100))], lg) rfl ?_
        exact E_ret rfl
      · refine E_itf hc ?_
        refine E_sts 2 (45, [(0, .ref 0), (1, .int v1), (2, .int v2)], [.ref 32], SH0, [(3211, fun _ => r27.1), (3212, fun _ => r27.2.1), (3213, fun _ => r27.2.2.1), (3214, fun _ => r27.2.2.2.1), (3300, r27.2.2.2.2.1), (3400, r27.2.2.2.2.2.1), (3500, r27.2.2.2.2.2.2)], lg) rfl ?_
        obtain ⟨r45, hr, h⟩ := x_bind h
        refine E_call rfl (e_X1_haveWay X _ _ r45 hr) (by decide) ?_
        refine E_sts 1 (if (xb r45) = 0 then 51 else 57, [(0, .ref 0), (1, .int v1), (2, .int v2)], [], SH0, [(3211, fun _ => r27.1), (3212, fun _ => r27.2.1), (3213, fun _ => r27.2.2.1), (3214, fun _ => r27.2.2.2.1), (3300, r27.2.2.2.2.1), (3400, r27.2.2.2.2.2.1), (3500, r27.2.2.2.2.2.2)], lg) rfl ?_
        rcases x_br h with ⟨hc, h⟩ | ⟨hc, h⟩
        · refine E_itt hc ?_
          refine E_sts 2 (53, [(0, .ref 0), (1, .int v1), (2, .int v2)], [.int 3, .ref 0], SH0, [(3211, fun _ => r27.1), (3212, fun _ => r27.2.1), (3213, fun _ => r27.2.2.1), (3214, fun _ => r27.2.2.2.1), (3300, r27.2.2.2.2.1), (3400, r27.2.2.2.2.2.1), (3500, r27.2.2.2.2.2.2)], lg) rfl ?_
          obtain ⟨r53_1, hr, h⟩ := x_bind h
          refine E_call rfl (e_X5_finding X _ _ _ r53_1 hr) (by decide) ?_
          obtain rfl := Option.some.inj h
          refine E_sts 1 (56, [], [.int r53_1.1], SH0, [(100, r53_1.2), (3208, fun _ => (σ 3208 0)), (3211, fun _ => r27.1), (3212, fun _ => r27.2.1), (3213, fun _ => r27.2.2.1), (3214, fun _ => r27.2.2.2.1), (3300, r27.2.2.2.2.1), (3400, r27.2.2.2.2.2.1), (3500, r27.2.2.2.2.2.2), (3600, (σ 3600)), (3700, (σ 3700)), (3800, (σ 3800)), (3900, (σ 3900)), (4100, (σ 4100))], lg) rfl ?_
          exact E_ret rfl
        · refine E_itf hc ?_
          refine E_sts 3 (62, [(0, .ref 0), (1, .int v1), (2, .int v2)], [.int v1, .ref 32], SH0, [(3211, fun _ => r27.1), (3212, fun _ => r27.2.1), (3213, fun _ => r27.2.2.1), (3214, fun _ => r27.2.2.2.1), (3300, r27.2.2.2.2.1), (3400, r27.2.2.2.2.2.1), (3500, r27.2.2.2.2.2.2)], lg) rfl ?_
          obtain ⟨r62, hr, h⟩ := x_bind h
          refine E_call rfl (e_X1_findFirst X _ _ _ r62 hr) (by decide) ?_
          refine E_sts 4 (73, [(0, .ref 0), (1, .int v1), (2, .int v2)], [.int v2, .ref 41], SH0, [(3208, fun _ => r62.1), (3211, fun _ => r27.1), (3212, fun _ => r27.2.1), (3213, fun _ => r27.2.2.1), (3214, fun _ => r27.2.2.2.1), (3300, r27.2.2.2.2.1), (3400, r27.2.2.2.2.2.1), (3500, r27.2.2.2.2.2.2), (3600, r62.2.1), (3700, r62.2.2.1), (3800, r62.2.2.2.1), (3900, r62.2.2.2.2.1), (4100, r62.2.2.2.2.2)], lg) rfl ?_
          obtain ⟨hp, h⟩ := x_ite h
          refine E_par (p := inr v2 9) (100074, [(0, .ref 0), (1, .int v1), (2, .int v2)], [.int (r62.2.2.2.2.2 v2.toNatClampNeg)], SH0, [(3208, fun _ => r62.1), (3211, fun _ => r27.1), (3212, fun _ => r27.2.1), (3213, fun _ => r27.2.2.1), (3214, fun _ => r27.2.2.2.1), (3300, r27.2.2.2.2.1), (3400, r27.2.2.2.2.2.1), (3500, r27.2.2.2.2.2.2), (3600, r62.2.1), (3700, r62.2.2.1), (3800, r62.2.2.2.1), (3900, r62.2.2.2.2.1), (4100, r62.2.2.2.2.2)], lg) rfl hp ?_
          obtain rfl := Option.some.inj h
          refine E_sts 1 (74, [], [.int (r62.2.2.2.2.2 v2.toNatClampNeg)], SH0, [(100, (σ 100)), (3208, fun _ => r62.1), (3211, fun _ => r27.1), (3212, fun _ => r27.2.1), (3213, fun _ => r27.2.2.1), (3214, fun _ => r27.2.2.2.1), (3300, r27.2.2.2.2.1), (3400, r27.2.2.2.2.2.1), (3500, r27.2.2.2.2.2.2), (3600, r62.2.1), (3700, r62.2.2.1), (3800, r62.2.2.2.1), (3900, r62.2.2.2.2.1), (4100, r62.2.2.2.2.2)], lg) rfl ?_
          exact E_ret rfl
    · refine E_itf hc ?_
      refine E_sts 2 (15, [(0, .ref 0), (1, .int v1), (2, .int v2)], [.int 0, .ref 0], SH0, [], lg) rfl ?_
      obtain ⟨r15_1, hr, h⟩ := x_bind h
      refine E_call rfl (e_X5_finding X _ _ _ r15_1 hr) (by decide) ?_
      obtain rfl := Option.some.inj h
      refine E_sts 1 (18, [], [.int r15_1.1], SH0, [(100, r15_1.2), (3208, fun _ => (σ 3208 0)), (3211, fun _ => (σ 3211 0)), (3212, fun _ => (σ 3212 0)), (3213, fun _ => (σ 3213 0)), (3214, fun _ => (σ 3214 0)), (3300, (σ 3300)), (3400, (σ 3400)), (3500, (σ 3500)), (3600, (σ 3600)), (3700, (σ 3700)), (3800, (σ 3800)), (3900, (σ 3900)), (4100, (σ 4100))], lg) rfl ?_
      exact E_ret rfl
set_option maxHeartbeats 4000000 in
set_option maxRecDepth 20000 in
theorem e_X6_findsRow_L88 (X : xX) (σ : xM) (lg : Int64) (k22 : Int32 → Int32 → Int32 → Int32 → Int32 → (Nat → Int32) → (Nat → Int32) → Option (Bool × Int32 × (Nat → Int32) × (Nat → Int32))) (k49 : Int32 → Int32 → Int32 → Int32 → Int32 → Int32 → Int32 → (Nat → Int32) → (Nat → Int32) → Option (Bool × Int32 × (Nat → Int32) × (Nat → Int32))) (h22 : ∀ (v1 : Int32) (v2 : Int32) (v3 : Int32) (v4 : Int32) (m_rowMany_ : Int32) (m_behind_ : (Nat → Int32)) (m_row_ : (Nat → Int32)) (r : Bool × Int32 × (Nat → Int32) × (Nat → Int32)), k22 v1 v2 v3 v4 m_rowMany_ m_behind_ m_row_ = some r → E XP X 5 xm_159 σ (22, [(0, .ref 52), (1, .int v1), (2, .int v2), (3, .int v3), (4, .int v4)], [], SH0, [(5208, fun _ => m_rowMany_), (5700, m_behind_), (5800, m_row_)], lg) (some (.int (xb r.1)), SH0, [(5208, fun _ => r.2.1), (5700, r.2.2.1), (5800, r.2.2.2)], lg)) (h49 : ∀ (v1 : Int32) (v2 : Int32) (v3 : Int32) (v4 : Int32) (v5 : Int32) (v6 : Int32) (m_rowMany_ : Int32) (m_behind_ : (Nat → Int32)) (m_row_ : (Nat → Int32)) (r : Bool × Int32 × (Nat → Int32) × (Nat → Int32)), k49 v1 v2 v3 v4 v5 v6 m_rowMany_ m_behind_ m_row_ = some r → E XP X 5 xm_159 σ (49, [(0, .ref 52), (1, .int v1), (2, .int v2), (3, .int v3), (4, .int v4), (5, .int v5), (6, .int v6)], [], SH0, [(5208, fun _ => m_rowMany_), (5700, m_behind_), (5800, m_row_)], lg) (some (.int (xb r.1)), SH0, [(5208, fun _ => r.2.1), (5700, r.2.2.1), (5800, r.2.2.2)], lg)) : ∀ (v1 : Int32) (v2 : Int32) (v3 : Int32) (v4 : Int32) (v5 : Int32) (v6 : Int32) (t0 : Int32) (m_rowMany_ : Int32) (m_behind_ : (Nat → Int32)) (m_row_ : (Nat → Int32)) (r : Bool × Int32 × (Nat → Int32) × (Nat → Int32)), X6_findsRow_L88 k22 k49 (σ 5300) v1 v2 v3 v4 v5 v6 t0 m_rowMany_ m_behind_ m_row_ = some r → E XP X 5 xm_159 σ (88, [(0, .ref 52), (1, .int v1), (2, .int v2), (3, .int v3), (4, .int v4), (5, .int v5), (6, .int v6)], [.int t0], SH0, [(5208, fun _ => m_rowMany_), (5700, m_behind_), (5800, m_row_)], lg) (some (.int (xb r.1)), SH0, [(5208, fun _ => r.2.1), (5700, r.2.2.1), (5800, r.2.2.2)], lg) := by
  intro v1 v2 v3 v4 v5 v6 t0 m_rowMany_ m_behind_ m_row_ r h
  unfold X6_findsRow_L88 at h
  refine E_sts 4 (if t0 = (-99999999) then 118 else 97, [(0, .ref 52), (1, .int v1), (2, .int v2), (3, .int v3), (4, .int v4), (5, .int v5), (6, .int v6), (7, .int t0)], [], SH0, [(5208, fun _ => m_rowMany_), (5700, m_behind_), (5800, m_row_)], lg) rfl ?_
  rcases x_br h with ⟨hc, h⟩ | ⟨hc, h⟩
  · refine E_itt hc ?_
    refine E_sts 5 (49, [(0, .ref 52), (1, .int v1), (2, .int v2), (3, .int v3), (4, .int v4), (5, .int v5), (6, .int (v6 + (-1)))], [], SH0, [(5208, fun _ => m_rowMany_), (5700, m_behind_), (5800, m_row_)], lg) rfl ?_
    exact h49 v1 v2 v3 v4 v5 (v6 + (-1)) m_rowMany_ m_behind_ m_row_ r h
  · refine E_itf hc ?_
    refine E_sts 5 (105, [(0, .ref 52), (1, .int v1), (2, .int v2), (3, .int v3), (4, .int v4), (5, .int v5), (6, .int v6), (7, .int t0)], [.int v4, .int v6, .int v1, .ref 52, .int t0], SH0, [(5208, fun _ => m_rowMany_), (5700, m_behind_), (5800, m_row_)], lg) rfl ?_
    obtain ⟨r105, hr, h⟩ := x_bind h
    refine E_call rfl (e_X6_brings X _ _ _ _ _ r105 hr) (by decide) ?_
    refine E_sts 3 (if (t0 + r105) = v2 then 113 else 118, [(0, .ref 52), (1, .int v1), (2, .int v2), (3, .int v3), (4, .int v4), (5, .int v5), (6, .int v6), (7, .int t0)], [], SH0, [(5208, fun _ => m_rowMany_), (5700, m_behind_), (5800, m_row_)], lg) rfl ?_
    rcases x_br h with ⟨hc, h⟩ | ⟨hc, h⟩
    · refine E_itt hc ?_
      refine E_sts 6 (49, [(0, .ref 52), (1, .int v1), (2, .int v2), (3, .int v3), (4, .int v4), (5, .int v6), (6, .int (v6 + (-1)))], [], SH0, [(5208, fun _ => m_rowMany_), (5700, m_behind_), (5800, m_row_)], lg) rfl ?_
      exact h49 v1 v2 v3 v4 v6 (v6 + (-1)) m_rowMany_ m_behind_ m_row_ r h
    · refine E_itf hc ?_
      refine E_sts 5 (49, [(0, .ref 52), (1, .int v1), (2, .int v2), (3, .int v3), (4, .int v4), (5, .int v5), (6, .int (v6 + (-1)))], [], SH0, [(5208, fun _ => m_rowMany_), (5700, m_behind_), (5800, m_row_)], lg) rfl ?_
      exact h49 v1 v2 v3 v4 v5 (v6 + (-1)) m_rowMany_ m_behind_ m_row_ r h
set_option maxHeartbeats 4000000 in
set_option maxRecDepth 20000 in
theorem e_X6_findsRow_L49 (X : xX) (σ : xM) (lg : Int64) (k22 : Int32 → Int32 → Int32 → Int32 → Int32 → (Nat → Int32) → (Nat → Int32) → Option (Bool × Int32 × (Nat → Int32) × (Nat → Int32))) (h22 : ∀ (v1 : Int32) (v2 : Int32) (v3 : Int32) (v4 : Int32) (m_rowMany_ : Int32) (m_behind_ : (Nat → Int32)) (m_row_ : (Nat → Int32)) (r : Bool × Int32 × (Nat → Int32) × (Nat → Int32)), k22 v1 v2 v3 v4 m_rowMany_ m_behind_ m_row_ = some r → E XP X 5 xm_159 σ (22, [(0, .ref 52), (1, .int v1), (2, .int v2), (3, .int v3), (4, .int v4)], [], SH0, [(5208, fun _ => m_rowMany_), (5700, m_behind_), (5800, m_row_)], lg) (some (.int (xb r.1)), SH0, [(5208, fun _ => r.2.1), (5700, r.2.2.1), (5800, r.2.2.2)], lg)) : ∀ (n : Nat), ∀ (v1 : Int32) (v2 : Int32) (v3 : Int32) (v4 : Int32) (v5 : Int32) (v6 : Int32) (m_rowMany_ : Int32) (m_behind_ : (Nat → Int32)) (m_row_ : (Nat → Int32)) (r : Bool × Int32 × (Nat → Int32) × (Nat → Int32)), X6_findsRow_L49 k22 (σ 5300) n v1 v2 v3 v4 v5 v6 m_rowMany_ m_behind_ m_row_ = some r → E XP X 5 xm_159 σ (49, [(0, .ref 52), (1, .int v1), (2, .int v2), (3, .int v3), (4, .int v4), (5, .int v5), (6, .int v6)], [], SH0, [(5208, fun _ => m_rowMany_), (5700, m_behind_), (5800, m_row_)], lg) (some (.int (xb r.1)), SH0, [(5208, fun _ => r.2.1), (5700, r.2.2.1), (5800, r.2.2.2)], lg) := by
  intro n
  induction n with
  | zero => intro v1 v2 v3 v4 v5 v6 m_rowMany_ m_behind_ m_row_ r h; rw [X6_findsRow_L49] at h; cases h
  | succ n ih =>
    intro v1 v2 v3 v4 v5 v6 m_rowMany_ m_behind_ m_row_ r h
    rw [X6_findsRow_L49] at h
    refine E_sts 2 (if v6 < 0 then 128 else 54, [(0, .ref 52), (1, .int v1), (2, .int v2), (3, .int v3), (4, .int v4), (5, .int v5), (6, .int v6)], [], SH0, [(5208, fun _ => m_rowMany_), (5700, m_behind_), (5800, m_row_)], lg) rfl ?_
    rcases x_br h with ⟨hc, h⟩ | ⟨hc, h⟩
    · refine E_itt hc ?_
      refine E_sts 5 (138, [(0, .ref 52), (1, .int v1), (2, .int v2), (3, .int v3), (4, .int v4), (5, .int v5), (6, .int v6)], [.int v5, .int m_rowMany_, .ref 58], SH0, [(5208, fun _ => m_rowMany_), (5700, m_behind_), (5800, m_row_)], lg) rfl ?_
      obtain ⟨hp, h⟩ := x_ite h
      refine E_par (p := inr m_rowMany_ 9) (139, [(0, .ref 52), (1, .int v1), (2, .int v2), (3, .int v3), (4, .int v4), (5, .int v5), (6, .int v6)], [], SH0, [(5208, fun _ => m_rowMany_), (5700, m_behind_), (5800, (upd m_row_ m_rowMany_.toNatClampNeg v5))], lg) rfl hp ?_
      refine E_sts 23 (173, [(0, .ref 52), (1, .int v1), (2, .int v2), (3, .int (v3 ||| (xshl 1 v5))), (4, .int v5), (5, .int v5), (6, .int v6)], [.int (((10 * (v3 ||| (xshl 1 v5))) + v5) + 1), .ref 57], SH0, [(5208, fun _ => (m_rowMany_ + 1)), (5700, m_behind_), (5800, (upd m_row_ m_rowMany_.toNatClampNeg v5))], lg) rfl ?_
      obtain ⟨hp, h⟩ := x_ite h
      refine E_par (p := inr (((10 * (v3 ||| (xshl 1 v5))) + v5) + 1) 5120) (174, [(0, .ref 52), (1, .int v1), (2, .int v2), (3, .int (v3 ||| (xshl 1 v5))), (4, .int v5), (5, .int v5), (6, .int v6)], [.int (m_behind_ (((10 * (v3 ||| (xshl 1 v5))) + v5) + 1).toNatClampNeg)], SH0, [(5208, fun _ => (m_rowMany_ + 1)), (5700, m_behind_), (5800, (upd m_row_ m_rowMany_.toNatClampNeg v5))], lg) rfl hp ?_
      refine E_sts 3 (22, [(0, .ref 52), (1, .int v1), (2, .int (m_behind_ (((10 * (v3 ||| (xshl 1 v5))) + v5) + 1).toNatClampNeg)), (3, .int (v3 ||| (xshl 1 v5))), (4, .int v5)], [], SH0, [(5208, fun _ => (m_rowMany_ + 1)), (5700, m_behind_), (5800, (upd m_row_ m_rowMany_.toNatClampNeg v5))], lg) rfl ?_
      exact h22 v1 (m_behind_ (((10 * (v3 ||| (xshl 1 v5))) + v5) + 1).toNatClampNeg) (v3 ||| (xshl 1 v5)) v5 (m_rowMany_ + 1) m_behind_ (upd m_row_ m_rowMany_.toNatClampNeg v5) r h
    · refine E_itf hc ?_
      refine E_sts 3 (58, [(0, .ref 52), (1, .int v1), (2, .int v2), (3, .int v3), (4, .int v4), (5, .int v5), (6, .int v6)], [.int v3, .int v6, .ref 52], SH0, [(5208, fun _ => m_rowMany_), (5700, m_behind_), (5800, m_row_)], lg) rfl ?_
      obtain ⟨r58, hr, h⟩ := x_bind h
      refine E_call rfl (e_X6_canBehind X _ _ _ _ r58 hr) (by decide) ?_
      refine E_sts 1 (if (xb r58) = 0 then 86 else 64, [(0, .ref 52), (1, .int v1), (2, .int v2), (3, .int v3), (4, .int v4), (5, .int v5), (6, .int v6)], [], SH0, [(5208, fun _ => m_rowMany_), (5700, m_behind_), (5800, m_row_)], lg) rfl ?_
      rcases x_br h with ⟨hc, h⟩ | ⟨hc, h⟩
      · refine E_itt hc ?_
        refine E_sts 2 (88, [(0, .ref 52), (1, .int v1), (2, .int v2), (3, .int v3), (4, .int v4), (5, .int v5), (6, .int v6)], [.int (-99999999)], SH0, [(5208, fun _ => m_rowMany_), (5700, m_behind_), (5800, m_row_)], lg) rfl ?_
        exact e_X6_findsRow_L88 X σ lg _ _ (fun v10 v20 v30 v40 m_rowMany_0 m_behind_0 m_row_0 r h => h22 v10 v20 v30 v40 m_rowMany_0 m_behind_0 m_row_0 r h) (fun v10 v20 v30 v40 v50 v60 m_rowMany_0 m_behind_0 m_row_0 r h => ih v10 v20 v30 v40 v50 v60 m_rowMany_0 m_behind_0 m_row_0 r h) v1 v2 v3 v4 v5 v6 (-99999999) m_rowMany_ m_behind_ m_row_ r h
      · refine E_itf hc ?_
        refine E_sts 13 (82, [(0, .ref 52), (1, .int v1), (2, .int v2), (3, .int v3), (4, .int v4), (5, .int v5), (6, .int v6)], [.int (((10 * (v3 ||| (xshl 1 v6))) + v6) + 1), .ref 57], SH0, [(5208, fun _ => m_rowMany_), (5700, m_behind_), (5800, m_row_)], lg) rfl ?_
        obtain ⟨hp, h⟩ := x_ite h
        refine E_par (p := inr (((10 * (v3 ||| (xshl 1 v6))) + v6) + 1) 5120) (83, [(0, .ref 52), (1, .int v1), (2, .int v2), (3, .int v3), (4, .int v4), (5, .int v5), (6, .int v6)], [.int (m_behind_ (((10 * (v3 ||| (xshl 1 v6))) + v6) + 1).toNatClampNeg)], SH0, [(5208, fun _ => m_rowMany_), (5700, m_behind_), (5800, m_row_)], lg) rfl hp ?_
        refine E_sts 2 (88, [(0, .ref 52), (1, .int v1), (2, .int v2), (3, .int v3), (4, .int v4), (5, .int v5), (6, .int v6)], [.int (m_behind_ (((10 * (v3 ||| (xshl 1 v6))) + v6) + 1).toNatClampNeg)], SH0, [(5208, fun _ => m_rowMany_), (5700, m_behind_), (5800, m_row_)], lg) rfl ?_
        exact e_X6_findsRow_L88 X σ lg _ _ (fun v10 v20 v30 v40 m_rowMany_0 m_behind_0 m_row_0 r h => h22 v10 v20 v30 v40 m_rowMany_0 m_behind_0 m_row_0 r h) (fun v10 v20 v30 v40 v50 v60 m_rowMany_0 m_behind_0 m_row_0 r h => ih v10 v20 v30 v40 v50 v60 m_rowMany_0 m_behind_0 m_row_0 r h) v1 v2 v3 v4 v5 v6 (m_behind_ (((10 * (v3 ||| (xshl 1 v6))) + v6) + 1).toNatClampNeg) m_rowMany_ m_behind_ m_row_ r h
set_option maxHeartbeats 4000000 in
set_option maxRecDepth 20000 in
theorem e_X6_findsRow_L178 (X : xX) (σ : xM) (lg : Int64) : ∀ (v2 : Int32) (m_rowMany_ : Int32) (m_behind_ : (Nat → Int32)) (m_row_ : (Nat → Int32)) (r : Bool × Int32 × (Nat → Int32) × (Nat → Int32)), X6_findsRow_L178 v2 m_rowMany_ m_behind_ m_row_ = some r → E XP X 5 xm_159 σ (178, [(2, .int v2)], [], SH0, [(5208, fun _ => m_rowMany_), (5700, m_behind_), (5800, m_row_)], lg) (some (.int (xb r.1)), SH0, [(5208, fun _ => r.2.1), (5700, r.2.2.1), (5800, r.2.2.2)], lg) := by
  intro v2 m_rowMany_ m_behind_ m_row_ r h
  unfold X6_findsRow_L178 at h
  refine E_sts 3 (if v2 = (-99999999) then 188 else 184, [(2, .int v2)], [], SH0, [(5208, fun _ => m_rowMany_), (5700, m_behind_), (5800, m_row_)], lg) rfl ?_
  rcases x_br h with ⟨hc, h⟩ | ⟨hc, h⟩
  · refine E_itt hc ?_
    obtain rfl := Option.some.inj h
    refine E_sts 2 (189, [], [.int 0], SH0, [(5208, fun _ => m_rowMany_), (5700, m_behind_), (5800, m_row_)], lg) rfl ?_
    exact E_retp (p := (0 : Int32) = 0 ∨ (0 : Int32) = 1) rfl (by decide)
  · refine E_itf hc ?_
    obtain rfl := Option.some.inj h
    refine E_sts 3 (189, [], [.int 1], SH0, [(5208, fun _ => m_rowMany_), (5700, m_behind_), (5800, m_row_)], lg) rfl ?_
    exact E_retp (p := (1 : Int32) = 0 ∨ (1 : Int32) = 1) rfl (by decide)
set_option maxHeartbeats 4000000 in
set_option maxRecDepth 20000 in
theorem e_X6_findsRow_L22 (X : xX) (σ : xM) (lg : Int64) : ∀ (n : Nat), ∀ (v1 : Int32) (v2 : Int32) (v3 : Int32) (v4 : Int32) (m_rowMany_ : Int32) (m_behind_ : (Nat → Int32)) (m_row_ : (Nat → Int32)) (r : Bool × Int32 × (Nat → Int32) × (Nat → Int32)), X6_findsRow_L22 (σ 5300) n v1 v2 v3 v4 m_rowMany_ m_behind_ m_row_ = some r → E XP X 5 xm_159 σ (22, [(0, .ref 52), (1, .int v1), (2, .int v2), (3, .int v3), (4, .int v4)], [], SH0, [(5208, fun _ => m_rowMany_), (5700, m_behind_), (5800, m_row_)], lg) (some (.int (xb r.1)), SH0, [(5208, fun _ => r.2.1), (5700, r.2.2.1), (5800, r.2.2.2)], lg) := by
  intro n
  induction n with
  | zero => intro v1 v2 v3 v4 m_rowMany_ m_behind_ m_row_ r h; rw [X6_findsRow_L22] at h; cases h
  | succ n ih =>
    intro v1 v2 v3 v4 m_rowMany_ m_behind_ m_row_ r h
    rw [X6_findsRow_L22] at h
    refine E_sts 3 (if v2 = (-99999999) then 100178 else 28, [(0, .ref 52), (1, .int v1), (2, .int v2), (3, .int v3), (4, .int v4)], [], SH0, [(5208, fun _ => m_rowMany_), (5700, m_behind_), (5800, m_row_)], lg) rfl ?_
    rcases x_br h with ⟨hc, h⟩ | ⟨hc, h⟩
    · refine E_itt hc ?_
      refine E_sts 1 (178, [(2, .int v2)], [], SH0, [(5208, fun _ => m_rowMany_), (5700, m_behind_), (5800, m_row_)], lg) rfl ?_
      exact e_X6_findsRow_L178 X σ lg v2 m_rowMany_ m_behind_ m_row_ r h
    · refine E_itf hc ?_
      refine E_sts 2 (30, [(0, .ref 52), (1, .int v1), (2, .int v2), (3, .int v3), (4, .int v4)], [.ref 52, .int v3], SH0, [(5208, fun _ => m_rowMany_), (5700, m_behind_), (5800, m_row_)], lg) rfl ?_
      obtain ⟨r30, hr, h⟩ := x_bind h
      refine E_call rfl (e_X6_allBows X _ _ r30 hr) (by decide) ?_
      refine E_sts 1 (if v3 = r30 then 100178 else 36, [(0, .ref 52), (1, .int v1), (2, .int v2), (3, .int v3), (4, .int v4)], [], SH0, [(5208, fun _ => m_rowMany_), (5700, m_behind_), (5800, m_row_)], lg) rfl ?_
      rcases x_br h with ⟨hc, h⟩ | ⟨hc, h⟩
      · refine E_itt hc ?_
        refine E_sts 1 (178, [(2, .int v2)], [], SH0, [(5208, fun _ => m_rowMany_), (5700, m_behind_), (5800, m_row_)], lg) rfl ?_
        exact e_X6_findsRow_L178 X σ lg v2 m_rowMany_ m_behind_ m_row_ r h
      · refine E_itf hc ?_
        refine E_sts 5 (44, [(0, .ref 52), (1, .int v1), (2, .int v2), (3, .int v3), (4, .int v4), (5, .int (-1))], [.int 3, .ref 53], SH0, [(5208, fun _ => m_rowMany_), (5700, m_behind_), (5800, m_row_)], lg) rfl ?_
        refine E_par (p := inr 3 83) (45, [(0, .ref 52), (1, .int v1), (2, .int v2), (3, .int v3), (4, .int v4), (5, .int (-1))], [.int ((σ 5300) 3)], SH0, [(5208, fun _ => m_rowMany_), (5700, m_behind_), (5800, m_row_)], lg) rfl (by decide) ?_
        refine E_sts 4 (49, [(0, .ref 52), (1, .int v1), (2, .int v2), (3, .int v3), (4, .int v4), (5, .int (-1)), (6, .int (((σ 5300) 3) - 1))], [], SH0, [(5208, fun _ => m_rowMany_), (5700, m_behind_), (5800, m_row_)], lg) rfl ?_
        exact e_X6_findsRow_L49 X σ lg _ (fun v10 v20 v30 v40 m_rowMany_0 m_behind_0 m_row_0 r h => ih v10 v20 v30 v40 m_rowMany_0 m_behind_0 m_row_0 r h) _ v1 v2 v3 v4 (-1) (((σ 5300) 3) - 1) m_rowMany_ m_behind_ m_row_ r h
set_option maxHeartbeats 4000000 in
set_option maxRecDepth 20000 in
theorem e_X6_findsRow (X : xX) (σ : xM) (lg : Int64) (v1 : Int32) (r : Bool × Int32 × (Nat → Int32) × (Nat → Int32)) (h : X6_findsRow (σ 5300) (σ 5700) (σ 5800) v1 = some r) : EM XP X 6 159 [.ref 52, .int v1] SH0 lg σ (some (.int (xb r.1)), SH0, [(5208, fun _ => r.2.1), (5700, r.2.2.1), (5800, r.2.2.2)], lg) := by
  refine EM_of (M := xm_159) rfl rfl ?_
  unfold X6_findsRow at h
  refine E_sts 2 (2, [(0, .ref 52), (1, .int v1)], [.int v1, .ref 52], SH0, [], lg) rfl ?_
  obtain ⟨r2, hr, h⟩ := x_bind h
  refine E_call rfl (e_X6_findsBest X _ _ _ r2 hr) (by decide) ?_
  refine E_sts 2 (7, [(0, .ref 52), (1, .int v1), (2, .int r2.1)], [.ref 52], SH0, [(5700, r2.2)], lg) rfl ?_
  obtain ⟨r7, hr, h⟩ := x_bind h
  refine E_call rfl (e_X6_stageSet X _ _ r7 hr) (by decide) ?_
  refine E_sts 2 (12, [(0, .ref 52), (1, .int v1), (2, .int r2.1), (3, .int r7)], [.ref 52], SH0, [(5700, r2.2)], lg) rfl ?_
  obtain ⟨r12, hr, h⟩ := x_bind h
  refine E_call rfl (e_X6_latest X _ _ r12 hr) (by decide) ?_
  refine E_sts 5 (22, [(0, .ref 52), (1, .int v1), (2, .int r2.1), (3, .int r7), (4, .int r12)], [], SH0, [(5208, fun _ => 0), (5700, r2.2), (5800, (σ 5800))], lg) rfl ?_
  exact e_X6_findsRow_L22 X σ lg _ v1 r2.1 r7 r12 0 r2.2 (σ 5800) r h
set_option maxHeartbeats 4000000 in
set_option maxRecDepth 20000 in
theorem e_X6_ith (X : xX) (σ : xM) (lg : Int64) (v1 : Int32) (v2 : Int32) (r : Int32 × Int32 × (Nat → Int32) × (Nat → Int32) × (Nat → Int32)) (h : X6_ith (σ 5208 0) (σ 5300) (σ 5600) (σ 5700) (σ 5800) v1 v2 = some r) : EM XP X 7 161 [.ref 52, .int v1, .int v2] SH0 lg σ (some (.int r.1), SH0, [(5208, fun _ => r.2.1), (5600, r.2.2.1), (5700, r.2.2.2.1), (5800, r.2.2.2.2)], lg) := by
  refine EM_of (M := xm_161) rfl rfl ?_
  unfold X6_ith at h
  refine E_sts 3 (3, [(0, .ref 52), (1, .int v1), (2, .int v2)], [.int 1, .int 0, .int v1], SH0, [], lg) rfl ?_
  refine E_call rfl (e_X6_in1 X _ _ _ _ _ (X6_in1 v1 0 1) rfl) (by decide) ?_
  refine E_sts 1 (if (xb (X6_in1 v1 0 1)) = 0 then 13 else 9, [(0, .ref 52), (1, .int v1), (2, .int v2)], [], SH0, [], lg) rfl ?_
  rcases x_br h with ⟨hc, h⟩ | ⟨hc, h⟩
  · refine E_itt hc ?_
    refine E_sts 2 (15, [(0, .ref 52), (1, .int v1), (2, .int v2)], [.int 0, .ref 52], SH0, [], lg) rfl ?_
    obtain ⟨r15, hr, h⟩ := x_bind h
    refine E_call rfl (e_X6_no X _ _ _ r15 hr) (by decide) ?_
    obtain rfl := Option.some.inj h
    refine E_sts 1 (18, [], [.int r15.1], SH0, [(5208, fun _ => (σ 5208 0)), (5600, r15.2), (5700, (σ 5700)), (5800, (σ 5800))], lg) rfl ?_
    exact E_ret rfl
  · refine E_itf hc ?_
    refine E_sts 2 (if 0 ≤ v2 then 19 else 13, [(0, .ref 52), (1, .int v1), (2, .int v2)], [], SH0, [], lg) rfl ?_
    rcases x_br h with ⟨hc, h⟩ | ⟨hc, h⟩
    · refine E_itt hc ?_
      refine E_sts 2 (21, [(0, .ref 52), (1, .int v1), (2, .int v2)], [.int v1, .ref 52], SH0, [], lg) rfl ?_
      obtain ⟨r21, hr, h⟩ := x_bind h
      refine E_call rfl (e_X6_findsRow X _ _ _ r21 hr) (by decide) ?_
      refine E_sts 3 (if (xb r21.1) = 0 then 46 else 29, [(0, .ref 52), (1, .int v1), (2, .int v2), (3, .int (xb r21.1))], [], SH0, [(5208, fun _ => r21.2.1), (5700, r21.2.2.1), (5800, r21.2.2.2)], lg) rfl ?_
      rcases x_br h with ⟨hc, h⟩ | ⟨hc, h⟩
      · refine E_itt hc ?_
        refine E_sts 2 (48, [(0, .ref 52), (1, .int v1), (2, .int v2), (3, .int (xb r21.1))], [.int 3, .ref 52], SH0, [(5208, fun _ => r21.2.1), (5700, r21.2.2.1), (5800, r21.2.2.2)], lg) rfl ?_
        obtain ⟨r48, hr, h⟩ := x_bind h
        refine E_call rfl (e_X6_no X _ _ _ r48 hr) (by decide) ?_
        obtain rfl := Option.some.inj h
        refine E_sts 1 (51, [], [.int r48.1], SH0, [(5208, fun _ => r21.2.1), (5600, r48.2), (5700, r21.2.2.1), (5800, r21.2.2.2)], lg) rfl ?_
        exact E_ret rfl
      · refine E_itf hc ?_
        refine E_sts 4 (if r21.2.1 ≤ v2 then 46 else 37, [(0, .ref 52), (1, .int v1), (2, .int v2), (3, .int (xb r21.1))], [], SH0, [(5208, fun _ => r21.2.1), (5700, r21.2.2.1), (5800, r21.2.2.2)], lg) rfl ?_
        rcases x_br h with ⟨hc, h⟩ | ⟨hc, h⟩
        · refine E_itt hc ?_
          refine E_sts 2 (48, [(0, .ref 52), (1, .int v1), (2, .int v2), (3, .int (xb r21.1))], [.int 3, .ref 52], SH0, [(5208, fun _ => r21.2.1), (5700, r21.2.2.1), (5800, r21.2.2.2)], lg) rfl ?_
          obtain ⟨r48_1, hr, h⟩ := x_bind h
          refine E_call rfl (e_X6_no X _ _ _ r48_1 hr) (by decide) ?_
          obtain rfl := Option.some.inj h
          refine E_sts 1 (51, [], [.int r48_1.1], SH0, [(5208, fun _ => r21.2.1), (5600, r48_1.2), (5700, r21.2.2.1), (5800, r21.2.2.2)], lg) rfl ?_
          exact E_ret rfl
        · refine E_itf hc ?_
          refine E_sts 3 (42, [(0, .ref 52), (1, .int v1), (2, .int v2), (3, .int (xb r21.1))], [.int v2, .ref 58], SH0, [(5208, fun _ => r21.2.1), (5700, r21.2.2.1), (5800, r21.2.2.2)], lg) rfl ?_
          obtain ⟨hp, h⟩ := x_ite h
          refine E_par (p := inr v2 9) (43, [(0, .ref 52), (1, .int v1), (2, .int v2), (3, .int (xb r21.1))], [.int (r21.2.2.2 v2.toNatClampNeg)], SH0, [(5208, fun _ => r21.2.1), (5700, r21.2.2.1), (5800, r21.2.2.2)], lg) rfl hp ?_
          obtain rfl := Option.some.inj h
          refine E_sts 2 (51, [], [.int (r21.2.2.2 v2.toNatClampNeg)], SH0, [(5208, fun _ => r21.2.1), (5600, (σ 5600)), (5700, r21.2.2.1), (5800, r21.2.2.2)], lg) rfl ?_
          exact E_ret rfl
    · refine E_itf hc ?_
      refine E_sts 2 (15, [(0, .ref 52), (1, .int v1), (2, .int v2)], [.int 0, .ref 52], SH0, [], lg) rfl ?_
      obtain ⟨r15_1, hr, h⟩ := x_bind h
      refine E_call rfl (e_X6_no X _ _ _ r15_1 hr) (by decide) ?_
      obtain rfl := Option.some.inj h
      refine E_sts 1 (18, [], [.int r15_1.1], SH0, [(5208, fun _ => (σ 5208 0)), (5600, r15_1.2), (5700, (σ 5700)), (5800, (σ 5800))], lg) rfl ?_
      exact E_ret rfl
set_option maxHeartbeats 4000000 in
set_option maxRecDepth 20000 in
theorem e_X1_countWays_L29 (X : xX) (σ : xM) (lg : Int64) (k5 : Int32 → (Nat → Int32) → Option (Int32 × (Nat → Int32))) (h5 : ∀ (v1 : Int32) (od_bySet_ : (Nat → Int32)) (r : Int32 × (Nat → Int32)), k5 v1 od_bySet_ = some r → E XP X 1 xm_16 σ (5, [(0, .ref 32), (1, .int v1)], [], SH0, [(4000, od_bySet_)], lg) (some (.int r.1), SH0, [(4000, r.2)], lg)) : ∀ (n : Nat), ∀ (v1 : Int32) (v2 : Int32) (v3 : Int32) (od_bySet_ : (Nat → Int32)) (r : Int32 × (Nat → Int32)), X1_countWays_L29 k5 (σ 3211 0) (σ 3500) n v1 v2 v3 od_bySet_ = some r → E XP X 1 xm_16 σ (29, [(0, .ref 32), (1, .int v1), (2, .int v2), (3, .int v3)], [], SH0, [(4000, od_bySet_)], lg) (some (.int r.1), SH0, [(4000, r.2)], lg) := by
  intro n
  induction n with
  | zero => intro v1 v2 v3 od_bySet_ r h; rw [X1_countWays_L29] at h; cases h
  | succ n ih =>
    intro v1 v2 v3 od_bySet_ r h
    rw [X1_countWays_L29] at h
    refine E_sts 4 (if (σ 3211 0) ≤ v3 then 65 else 37, [(0, .ref 32), (1, .int v1), (2, .int v2), (3, .int v3)], [], SH0, [(4000, od_bySet_)], lg) rfl ?_
    rcases x_br h with ⟨hc, h⟩ | ⟨hc, h⟩
    · refine E_itt hc ?_
      refine E_sts 4 (71, [(0, .ref 32), (1, .int v1), (2, .int v2), (3, .int v3)], [.int v2, .int v1, .ref 40], SH0, [(4000, od_bySet_)], lg) rfl ?_
      obtain ⟨hp, h⟩ := x_ite h
      refine E_par (p := inr v1 512) (72, [(0, .ref 32), (1, .int v1), (2, .int v2), (3, .int v3)], [], SH0, [(4000, (upd od_bySet_ v1.toNatClampNeg v2))], lg) rfl hp ?_
      refine E_sts 3 (5, [(0, .ref 32), (1, .int (v1 + (-1)))], [], SH0, [(4000, (upd od_bySet_ v1.toNatClampNeg v2))], lg) rfl ?_
      exact h5 (v1 + (-1)) (upd od_bySet_ v1.toNatClampNeg v2) r h
    · refine E_itf hc ?_
      refine E_sts 3 (40, [(0, .ref 32), (1, .int v1), (2, .int v2), (3, .int v3)], [.int v1, .int v3, .ref 32], SH0, [(4000, od_bySet_)], lg) rfl ?_
      obtain ⟨r40, hr, h⟩ := x_bind h
      refine E_call rfl (e_X1_canFollow X _ _ _ _ r40 hr) (by decide) ?_
      refine E_sts 1 (if (xb r40) = 0 then 59 else 46, [(0, .ref 32), (1, .int v1), (2, .int v2), (3, .int v3)], [], SH0, [(4000, od_bySet_)], lg) rfl ?_
      rcases x_br h with ⟨hc, h⟩ | ⟨hc, h⟩
      · refine E_itt hc ?_
        refine E_sts 3 (29, [(0, .ref 32), (1, .int v1), (2, .int v2), (3, .int (v3 + 1))], [], SH0, [(4000, od_bySet_)], lg) rfl ?_
        exact ih v1 v2 (v3 + 1) od_bySet_ r h
      · refine E_itf hc ?_
        refine E_sts 8 (56, [(0, .ref 32), (1, .int v1), (2, .int v2), (3, .int v3)], [.int (v1 ||| (xshl 1 v3)), .ref 40, .int v2], SH0, [(4000, od_bySet_)], lg) rfl ?_
        obtain ⟨hp, h⟩ := x_ite h
        refine E_par (p := inr (v1 ||| (xshl 1 v3)) 512) (57, [(0, .ref 32), (1, .int v1), (2, .int v2), (3, .int v3)], [.int (od_bySet_ (v1 ||| (xshl 1 v3)).toNatClampNeg), .int v2], SH0, [(4000, od_bySet_)], lg) rfl hp ?_
        refine E_sts 5 (29, [(0, .ref 32), (1, .int v1), (2, .int (v2 + (od_bySet_ (v1 ||| (xshl 1 v3)).toNatClampNeg))), (3, .int (v3 + 1))], [], SH0, [(4000, od_bySet_)], lg) rfl ?_
        exact ih v1 (v2 + (od_bySet_ (v1 ||| (xshl 1 v3)).toNatClampNeg)) (v3 + 1) od_bySet_ r h
set_option maxHeartbeats 4000000 in
set_option maxRecDepth 20000 in
theorem e_X1_countWays_L5 (X : xX) (σ : xM) (lg : Int64) : ∀ (n : Nat), ∀ (v1 : Int32) (od_bySet_ : (Nat → Int32)) (r : Int32 × (Nat → Int32)), X1_countWays_L5 (σ 3211 0) (σ 3212 0) (σ 3214 0) (σ 3500) n v1 od_bySet_ = some r → E XP X 1 xm_16 σ (5, [(0, .ref 32), (1, .int v1)], [], SH0, [(4000, od_bySet_)], lg) (some (.int r.1), SH0, [(4000, r.2)], lg) := by
  intro n
  induction n with
  | zero => intro v1 od_bySet_ r h; rw [X1_countWays_L5] at h; cases h
  | succ n ih =>
    intro v1 od_bySet_ r h
    rw [X1_countWays_L5] at h
    refine E_sts 4 (if v1 < (σ 3212 0) then 78 else 13, [(0, .ref 32), (1, .int v1)], [], SH0, [(4000, od_bySet_)], lg) rfl ?_
    rcases x_br h with ⟨hc, h⟩ | ⟨hc, h⟩
    · refine E_itt hc ?_
      refine E_sts 4 (86, [(0, .ref 32), (1, .int v1)], [.int (σ 3212 0), .ref 40], SH0, [(4000, od_bySet_)], lg) rfl ?_
      obtain ⟨hp, h⟩ := x_ite h
      refine E_par (p := inr (σ 3212 0) 512) (100087, [(0, .ref 32), (1, .int v1)], [.int (od_bySet_ (σ 3212 0).toNatClampNeg)], SH0, [(4000, od_bySet_)], lg) rfl hp ?_
      obtain rfl := Option.some.inj h
      refine E_sts 1 (87, [], [.int (od_bySet_ (σ 3212 0).toNatClampNeg)], SH0, [(4000, od_bySet_)], lg) rfl ?_
      exact E_ret rfl
    · refine E_itf hc ?_
      refine E_sts 4 (if v1 = (σ 3214 0) then 21 else 25, [(0, .ref 32), (1, .int v1)], [], SH0, [(4000, od_bySet_)], lg) rfl ?_
      rcases x_br h with ⟨hc, h⟩ | ⟨hc, h⟩
      · refine E_itt hc ?_
        refine E_sts 6 (29, [(0, .ref 32), (1, .int v1), (2, .int 1), (3, .int 0)], [], SH0, [(4000, od_bySet_)], lg) rfl ?_
        exact e_X1_countWays_L29 X σ lg _ (fun v10 od_bySet_0 r h => ih v10 od_bySet_0 r h) _ v1 1 0 od_bySet_ r h
      · refine E_itf hc ?_
        refine E_sts 5 (29, [(0, .ref 32), (1, .int v1), (2, .int 0), (3, .int 0)], [], SH0, [(4000, od_bySet_)], lg) rfl ?_
        exact e_X1_countWays_L29 X σ lg _ (fun v10 od_bySet_0 r h => ih v10 od_bySet_0 r h) _ v1 0 0 od_bySet_ r h
set_option maxHeartbeats 4000000 in
set_option maxRecDepth 20000 in
theorem e_X1_countWays (X : xX) (σ : xM) (lg : Int64) (r : Int32 × (Nat → Int32)) (h : X1_countWays (σ 3211 0) (σ 3212 0) (σ 3214 0) (σ 3500) (σ 4000) = some r) : EM XP X 2 16 [.ref 32] SH0 lg σ (some (.int r.1), SH0, [(4000, r.2)], lg) := by
  refine EM_of (M := xm_16) rfl rfl ?_
  unfold X1_countWays at h
  refine E_sts 4 (5, [(0, .ref 32), (1, .int (σ 3214 0))], [], SH0, [(4000, (σ 4000))], lg) rfl ?_
  exact e_X1_countWays_L5 X σ lg _ (σ 3214 0) (σ 4000) r h
set_option maxHeartbeats 4000000 in
set_option maxRecDepth 20000 in
theorem e_X5_ways (X : xX) (σ : xM) (lg : Int64) (r : Int32 × Int32 × Int32 × Int32 × Int32 × (Nat → Int32) × (Nat → Int32) × (Nat → Int32) × (Nat → Int32)) (h : X5_ways (σ 201 0) (σ 207 0) (σ 208 0) (σ 300) (σ 400) (σ 600) (σ 800) (σ 3300) (σ 3400) (σ 3500) (σ 4000) = some r) : EM XP X 3 81 [.ref 0] SH0 lg σ (some (.int r.1), SH0, [(3211, fun _ => r.2.1), (3212, fun _ => r.2.2.1), (3213, fun _ => r.2.2.2.1), (3214, fun _ => r.2.2.2.2.1), (3300, r.2.2.2.2.2.1), (3400, r.2.2.2.2.2.2.1), (3500, r.2.2.2.2.2.2.2.1), (4000, r.2.2.2.2.2.2.2.2)], lg) := by
  refine EM_of (M := xm_81) rfl rfl ?_
  unfold X5_ways at h
  refine E_sts 4 (8, [(0, .ref 0)], [.ref 2, .ref 32], SH0, [], lg) rfl ?_
  obtain ⟨r8, hr, h⟩ := x_bind h
  refine E_call rfl (e_X1_startFrom X _ _ r8 hr) (by decide) ?_
  refine E_sts 2 (15, [(0, .ref 0)], [.ref 32], SH0, [(3211, fun _ => r8.1), (3212, fun _ => r8.2.1), (3213, fun _ => r8.2.2.1), (3214, fun _ => r8.2.2.2.1), (3300, r8.2.2.2.2.1), (3400, r8.2.2.2.2.2.1), (3500, r8.2.2.2.2.2.2)], lg) rfl ?_
  obtain ⟨r15, hr, h⟩ := x_bind h
  refine E_call rfl (e_X1_countWays X _ _ r15 hr) (by decide) ?_
  obtain rfl := Option.some.inj h
  exact E_ret rfl
set_option maxHeartbeats 4000000 in
set_option maxRecDepth 20000 in
theorem e_X6_countsWays_L34 (X : xX) (σ : xM) (lg : Int64) (k12 : Int32 → Int32 → Int32 → (Nat → Int32) → (Nat → Int32) → Option (Int32 × (Nat → Int32) × (Nat → Int32))) (h12 : ∀ (v1 : Int32) (v2 : Int32) (v3 : Int32) (m_comesTo_ : (Nat → Int32)) (m_goesOn_ : (Nat → Int32)) (r : Int32 × (Nat → Int32) × (Nat → Int32)), k12 v1 v2 v3 m_comesTo_ m_goesOn_ = some r → E XP X 2 xm_162 σ (12, [(0, .ref 52), (1, .int v1), (2, .int v2), (3, .int v3)], [], SH0, [(5900, m_comesTo_), (6000, m_goesOn_)], lg) (some (.int r.1), SH0, [(5900, r.2.1), (6000, r.2.2)], lg)) : ∀ (v1 : Int32) (v2 : Int32) (v3 : Int32) (t1 : Int32) (t2 : Int32) (m_comesTo_ : (Nat → Int32)) (m_goesOn_ : (Nat → Int32)) (r : Int32 × (Nat → Int32) × (Nat → Int32)), X6_countsWays_L34 k12 v1 v2 v3 t1 t2 m_comesTo_ m_goesOn_ = some r → E XP X 2 xm_162 σ (34, [(0, .ref 52), (1, .int v1), (2, .int v2), (3, .int v3)], [.int t2, .int t1, .ref 59], SH0, [(5900, m_comesTo_), (6000, m_goesOn_)], lg) (some (.int r.1), SH0, [(5900, r.2.1), (6000, r.2.2)], lg) := by
  intro v1 v2 v3 t1 t2 m_comesTo_ m_goesOn_ r h
  unfold X6_countsWays_L34 at h
  obtain ⟨hp, h⟩ := x_ite h
  refine E_par (p := inr t1 512) (35, [(0, .ref 52), (1, .int v1), (2, .int v2), (3, .int v3)], [], SH0, [(5900, (upd m_comesTo_ t1.toNatClampNeg t2)), (6000, m_goesOn_)], lg) rfl hp ?_
  refine E_sts 6 (if v3 = v2 then 45 else 49, [(0, .ref 52), (1, .int v1), (2, .int v2), (3, .int v3)], [.int v3, .ref 60], SH0, [(5900, (upd m_comesTo_ t1.toNatClampNeg t2)), (6000, m_goesOn_)], lg) rfl ?_
  rcases x_br h with ⟨hc, h⟩ | ⟨hc, h⟩
  · refine E_itt hc ?_
    refine E_sts 2 (50, [(0, .ref 52), (1, .int v1), (2, .int v2), (3, .int v3)], [.int 1, .int v3, .ref 60], SH0, [(5900, (upd m_comesTo_ t1.toNatClampNeg t2)), (6000, m_goesOn_)], lg) rfl ?_
    obtain ⟨hp, h⟩ := x_ite h
    refine E_par (p := inr v3 512) (51, [(0, .ref 52), (1, .int v1), (2, .int v2), (3, .int v3)], [], SH0, [(5900, (upd m_comesTo_ t1.toNatClampNeg t2)), (6000, (upd m_goesOn_ v3.toNatClampNeg 1))], lg) rfl hp ?_
    refine E_sts 3 (12, [(0, .ref 52), (1, .int v1), (2, .int v2), (3, .int (v3 + 1))], [], SH0, [(5900, (upd m_comesTo_ t1.toNatClampNeg t2)), (6000, (upd m_goesOn_ v3.toNatClampNeg 1))], lg) rfl ?_
    exact h12 v1 v2 (v3 + 1) (upd m_comesTo_ t1.toNatClampNeg t2) (upd m_goesOn_ v3.toNatClampNeg 1) r h
  · refine E_itf hc ?_
    refine E_sts 1 (50, [(0, .ref 52), (1, .int v1), (2, .int v2), (3, .int v3)], [.int 0, .int v3, .ref 60], SH0, [(5900, (upd m_comesTo_ t1.toNatClampNeg t2)), (6000, m_goesOn_)], lg) rfl ?_
    obtain ⟨hp, h⟩ := x_ite h
    refine E_par (p := inr v3 512) (51, [(0, .ref 52), (1, .int v1), (2, .int v2), (3, .int v3)], [], SH0, [(5900, (upd m_comesTo_ t1.toNatClampNeg t2)), (6000, (upd m_goesOn_ v3.toNatClampNeg 0))], lg) rfl hp ?_
    refine E_sts 3 (12, [(0, .ref 52), (1, .int v1), (2, .int v2), (3, .int (v3 + 1))], [], SH0, [(5900, (upd m_comesTo_ t1.toNatClampNeg t2)), (6000, (upd m_goesOn_ v3.toNatClampNeg 0))], lg) rfl ?_
    exact h12 v1 v2 (v3 + 1) (upd m_comesTo_ t1.toNatClampNeg t2) (upd m_goesOn_ v3.toNatClampNeg 0) r h
set_option maxHeartbeats 4000000 in
set_option maxRecDepth 20000 in
theorem e_X6_countsWays_L67 (X : xX) (σ : xM) (lg : Int64) (k59 : Int32 → Int32 → Int32 → (Nat → Int32) → (Nat → Int32) → Option (Int32 × (Nat → Int32) × (Nat → Int32))) (h59 : ∀ (v1 : Int32) (v2 : Int32) (v3 : Int32) (m_comesTo_ : (Nat → Int32)) (m_goesOn_ : (Nat → Int32)) (r : Int32 × (Nat → Int32) × (Nat → Int32)), k59 v1 v2 v3 m_comesTo_ m_goesOn_ = some r → E XP X 2 xm_162 σ (59, [(0, .ref 52), (1, .int v1), (2, .int v2), (3, .int v3)], [], SH0, [(5900, m_comesTo_), (6000, m_goesOn_)], lg) (some (.int r.1), SH0, [(5900, r.2.1), (6000, r.2.2)], lg)) : ∀ (n : Nat), ∀ (v1 : Int32) (v2 : Int32) (v3 : Int32) (v4 : Int32) (m_comesTo_ : (Nat → Int32)) (m_goesOn_ : (Nat → Int32)) (r : Int32 × (Nat → Int32) × (Nat → Int32)), X6_countsWays_L67 k59 (σ 5300) n v1 v2 v3 v4 m_comesTo_ m_goesOn_ = some r → E XP X 2 xm_162 σ (67, [(0, .ref 52), (1, .int v1), (2, .int v2), (3, .int v3), (4, .int v4)], [], SH0, [(5900, m_comesTo_), (6000, m_goesOn_)], lg) (some (.int r.1), SH0, [(5900, r.2.1), (6000, r.2.2)], lg) := by
  intro n
  induction n with
  | zero => intro v1 v2 v3 v4 m_comesTo_ m_goesOn_ r h; rw [X6_countsWays_L67] at h; cases h
  | succ n ih =>
    intro v1 v2 v3 v4 m_comesTo_ m_goesOn_ r h
    rw [X6_countsWays_L67] at h
    refine E_sts 4 (74, [(0, .ref 52), (1, .int v1), (2, .int v2), (3, .int v3), (4, .int v4)], [.int 3, .ref 53, .int v4], SH0, [(5900, m_comesTo_), (6000, m_goesOn_)], lg) rfl ?_
    refine E_par (p := inr 3 83) (75, [(0, .ref 52), (1, .int v1), (2, .int v2), (3, .int v3), (4, .int v4)], [.int ((σ 5300) 3), .int v4], SH0, [(5900, m_comesTo_), (6000, m_goesOn_)], lg) rfl (by decide) ?_
    refine E_sts 1 (if ((σ 5300) 3) ≤ v4 then 127 else 78, [(0, .ref 52), (1, .int v1), (2, .int v2), (3, .int v3), (4, .int v4)], [], SH0, [(5900, m_comesTo_), (6000, m_goesOn_)], lg) rfl ?_
    rcases x_br h with ⟨hc, h⟩ | ⟨hc, h⟩
    · refine E_itt hc ?_
      refine E_sts 3 (59, [(0, .ref 52), (1, .int v1), (2, .int v2), (3, .int (v3 + 1))], [], SH0, [(5900, m_comesTo_), (6000, m_goesOn_)], lg) rfl ?_
      exact h59 v1 v2 (v3 + 1) m_comesTo_ m_goesOn_ r h
    · refine E_itf hc ?_
      refine E_sts 8 (89, [(0, .ref 52), (1, .int v1), (2, .int v2), (3, .int v3), (4, .int v4)], [.int (v3 ||| (xshl 1 v4)), .ref 59, .int (v3 ||| (xshl 1 v4)), .ref 59], SH0, [(5900, m_comesTo_), (6000, m_goesOn_)], lg) rfl ?_
      obtain ⟨hp, h⟩ := x_ite h
      refine E_par (p := inr (v3 ||| (xshl 1 v4)) 512) (90, [(0, .ref 52), (1, .int v1), (2, .int v2), (3, .int v3), (4, .int v4)], [.int (m_comesTo_ (v3 ||| (xshl 1 v4)).toNatClampNeg), .int (v3 ||| (xshl 1 v4)), .ref 59], SH0, [(5900, m_comesTo_), (6000, m_goesOn_)], lg) rfl hp ?_
      refine E_sts 3 (95, [(0, .ref 52), (1, .int v1), (2, .int v2), (3, .int v3), (4, .int v4)], [.int v3, .ref 59, .int (m_comesTo_ (v3 ||| (xshl 1 v4)).toNatClampNeg), .int (v3 ||| (xshl 1 v4)), .ref 59], SH0, [(5900, m_comesTo_), (6000, m_goesOn_)], lg) rfl ?_
      obtain ⟨hp, h⟩ := x_ite h
      refine E_par (p := inr v3 512) (96, [(0, .ref 52), (1, .int v1), (2, .int v2), (3, .int v3), (4, .int v4)], [.int (m_comesTo_ v3.toNatClampNeg), .int (m_comesTo_ (v3 ||| (xshl 1 v4)).toNatClampNeg), .int (v3 ||| (xshl 1 v4)), .ref 59], SH0, [(5900, m_comesTo_), (6000, m_goesOn_)], lg) rfl hp ?_
      refine E_sts 1 (if (m_comesTo_ v3.toNatClampNeg) ≤ 0 then 118 else 99, [(0, .ref 52), (1, .int v1), (2, .int v2), (3, .int v3), (4, .int v4)], [.int (m_comesTo_ (v3 ||| (xshl 1 v4)).toNatClampNeg), .int (v3 ||| (xshl 1 v4)), .ref 59], SH0, [(5900, m_comesTo_), (6000, m_goesOn_)], lg) rfl ?_
      rcases x_br h with ⟨hc, h⟩ | ⟨hc, h⟩
      · refine E_itt hc ?_
        refine E_sts 2 (120, [(0, .ref 52), (1, .int v1), (2, .int v2), (3, .int v3), (4, .int v4)], [.int ((m_comesTo_ (v3 ||| (xshl 1 v4)).toNatClampNeg) + 0), .int (v3 ||| (xshl 1 v4)), .ref 59], SH0, [(5900, m_comesTo_), (6000, m_goesOn_)], lg) rfl ?_
        obtain ⟨hp, h⟩ := x_ite h
        refine E_par (p := inr (v3 ||| (xshl 1 v4)) 512) (121, [(0, .ref 52), (1, .int v1), (2, .int v2), (3, .int v3), (4, .int v4)], [], SH0, [(5900, (upd m_comesTo_ (v3 ||| (xshl 1 v4)).toNatClampNeg ((m_comesTo_ (v3 ||| (xshl 1 v4)).toNatClampNeg) + 0))), (6000, m_goesOn_)], lg) rfl hp ?_
        refine E_sts 3 (67, [(0, .ref 52), (1, .int v1), (2, .int v2), (3, .int v3), (4, .int (v4 + 1))], [], SH0, [(5900, (upd m_comesTo_ (v3 ||| (xshl 1 v4)).toNatClampNeg ((m_comesTo_ (v3 ||| (xshl 1 v4)).toNatClampNeg) + 0))), (6000, m_goesOn_)], lg) rfl ?_
        exact ih v1 v2 v3 (v4 + 1) (upd m_comesTo_ (v3 ||| (xshl 1 v4)).toNatClampNeg ((m_comesTo_ (v3 ||| (xshl 1 v4)).toNatClampNeg) + 0)) m_goesOn_ r h
      · refine E_itf hc ?_
        refine E_sts 3 (103, [(0, .ref 52), (1, .int v1), (2, .int v2), (3, .int v3), (4, .int v4)], [.int v3, .int v4, .ref 52, .int (m_comesTo_ (v3 ||| (xshl 1 v4)).toNatClampNeg), .int (v3 ||| (xshl 1 v4)), .ref 59], SH0, [(5900, m_comesTo_), (6000, m_goesOn_)], lg) rfl ?_
        obtain ⟨r103, hr, h⟩ := x_bind h
        refine E_call rfl (e_X6_canBehind X _ _ _ _ r103 hr) (by decide) ?_
        refine E_sts 1 (if (xb r103) = 0 then 118 else 109, [(0, .ref 52), (1, .int v1), (2, .int v2), (3, .int v3), (4, .int v4)], [.int (m_comesTo_ (v3 ||| (xshl 1 v4)).toNatClampNeg), .int (v3 ||| (xshl 1 v4)), .ref 59], SH0, [(5900, m_comesTo_), (6000, m_goesOn_)], lg) rfl ?_
        rcases x_br h with ⟨hc, h⟩ | ⟨hc, h⟩
        · refine E_itt hc ?_
          refine E_sts 2 (120, [(0, .ref 52), (1, .int v1), (2, .int v2), (3, .int v3), (4, .int v4)], [.int ((m_comesTo_ (v3 ||| (xshl 1 v4)).toNatClampNeg) + 0), .int (v3 ||| (xshl 1 v4)), .ref 59], SH0, [(5900, m_comesTo_), (6000, m_goesOn_)], lg) rfl ?_
          obtain ⟨hp, h⟩ := x_ite h
          refine E_par (p := inr (v3 ||| (xshl 1 v4)) 512) (121, [(0, .ref 52), (1, .int v1), (2, .int v2), (3, .int v3), (4, .int v4)], [], SH0, [(5900, (upd m_comesTo_ (v3 ||| (xshl 1 v4)).toNatClampNeg ((m_comesTo_ (v3 ||| (xshl 1 v4)).toNatClampNeg) + 0))), (6000, m_goesOn_)], lg) rfl hp ?_
          refine E_sts 3 (67, [(0, .ref 52), (1, .int v1), (2, .int v2), (3, .int v3), (4, .int (v4 + 1))], [], SH0, [(5900, (upd m_comesTo_ (v3 ||| (xshl 1 v4)).toNatClampNeg ((m_comesTo_ (v3 ||| (xshl 1 v4)).toNatClampNeg) + 0))), (6000, m_goesOn_)], lg) rfl ?_
          exact ih v1 v2 v3 (v4 + 1) (upd m_comesTo_ (v3 ||| (xshl 1 v4)).toNatClampNeg ((m_comesTo_ (v3 ||| (xshl 1 v4)).toNatClampNeg) + 0)) m_goesOn_ r h
        · refine E_itf hc ?_
          refine E_sts 3 (114, [(0, .ref 52), (1, .int v1), (2, .int v2), (3, .int v3), (4, .int v4)], [.int v3, .ref 59, .int (m_comesTo_ (v3 ||| (xshl 1 v4)).toNatClampNeg), .int (v3 ||| (xshl 1 v4)), .ref 59], SH0, [(5900, m_comesTo_), (6000, m_goesOn_)], lg) rfl ?_
          obtain ⟨hp, h⟩ := x_ite h
          refine E_par (p := inr v3 512) (115, [(0, .ref 52), (1, .int v1), (2, .int v2), (3, .int v3), (4, .int v4)], [.int (m_comesTo_ v3.toNatClampNeg), .int (m_comesTo_ (v3 ||| (xshl 1 v4)).toNatClampNeg), .int (v3 ||| (xshl 1 v4)), .ref 59], SH0, [(5900, m_comesTo_), (6000, m_goesOn_)], lg) rfl hp ?_
          refine E_sts 2 (120, [(0, .ref 52), (1, .int v1), (2, .int v2), (3, .int v3), (4, .int v4)], [.int ((m_comesTo_ (v3 ||| (xshl 1 v4)).toNatClampNeg) + (m_comesTo_ v3.toNatClampNeg)), .int (v3 ||| (xshl 1 v4)), .ref 59], SH0, [(5900, m_comesTo_), (6000, m_goesOn_)], lg) rfl ?_
          obtain ⟨hp, h⟩ := x_ite h
          refine E_par (p := inr (v3 ||| (xshl 1 v4)) 512) (121, [(0, .ref 52), (1, .int v1), (2, .int v2), (3, .int v3), (4, .int v4)], [], SH0, [(5900, (upd m_comesTo_ (v3 ||| (xshl 1 v4)).toNatClampNeg ((m_comesTo_ (v3 ||| (xshl 1 v4)).toNatClampNeg) + (m_comesTo_ v3.toNatClampNeg)))), (6000, m_goesOn_)], lg) rfl hp ?_
          refine E_sts 3 (67, [(0, .ref 52), (1, .int v1), (2, .int v2), (3, .int v3), (4, .int (v4 + 1))], [], SH0, [(5900, (upd m_comesTo_ (v3 ||| (xshl 1 v4)).toNatClampNeg ((m_comesTo_ (v3 ||| (xshl 1 v4)).toNatClampNeg) + (m_comesTo_ v3.toNatClampNeg)))), (6000, m_goesOn_)], lg) rfl ?_
          exact ih v1 v2 v3 (v4 + 1) (upd m_comesTo_ (v3 ||| (xshl 1 v4)).toNatClampNeg ((m_comesTo_ (v3 ||| (xshl 1 v4)).toNatClampNeg) + (m_comesTo_ v3.toNatClampNeg))) m_goesOn_ r h
set_option maxHeartbeats 4000000 in
set_option maxRecDepth 20000 in
theorem e_X6_countsWays_L144 (X : xX) (σ : xM) (lg : Int64) (k137 : Int32 → Int32 → (Nat → Int32) → (Nat → Int32) → Option (Int32 × (Nat → Int32) × (Nat → Int32))) (h137 : ∀ (v1 : Int32) (v3 : Int32) (m_comesTo_ : (Nat → Int32)) (m_goesOn_ : (Nat → Int32)) (r : Int32 × (Nat → Int32) × (Nat → Int32)), k137 v1 v3 m_comesTo_ m_goesOn_ = some r → E XP X 2 xm_162 σ (137, [(0, .ref 52), (1, .int v1), (3, .int v3)], [], SH0, [(5900, m_comesTo_), (6000, m_goesOn_)], lg) (some (.int r.1), SH0, [(5900, r.2.1), (6000, r.2.2)], lg)) : ∀ (n : Nat), ∀ (v1 : Int32) (v3 : Int32) (v4 : Int32) (m_comesTo_ : (Nat → Int32)) (m_goesOn_ : (Nat → Int32)) (r : Int32 × (Nat → Int32) × (Nat → Int32)), X6_countsWays_L144 k137 (σ 5300) n v1 v3 v4 m_comesTo_ m_goesOn_ = some r → E XP X 2 xm_162 σ (144, [(0, .ref 52), (1, .int v1), (3, .int v3), (4, .int v4)], [], SH0, [(5900, m_comesTo_), (6000, m_goesOn_)], lg) (some (.int r.1), SH0, [(5900, r.2.1), (6000, r.2.2)], lg) := by
  intro n
  induction n with
  | zero => intro v1 v3 v4 m_comesTo_ m_goesOn_ r h; rw [X6_countsWays_L144] at h; cases h
  | succ n ih =>
    intro v1 v3 v4 m_comesTo_ m_goesOn_ r h
    rw [X6_countsWays_L144] at h
    refine E_sts 4 (151, [(0, .ref 52), (1, .int v1), (3, .int v3), (4, .int v4)], [.int 3, .ref 53, .int v4], SH0, [(5900, m_comesTo_), (6000, m_goesOn_)], lg) rfl ?_
    refine E_par (p := inr 3 83) (152, [(0, .ref 52), (1, .int v1), (3, .int v3), (4, .int v4)], [.int ((σ 5300) 3), .int v4], SH0, [(5900, m_comesTo_), (6000, m_goesOn_)], lg) rfl (by decide) ?_
    refine E_sts 1 (if ((σ 5300) 3) ≤ v4 then 195 else 155, [(0, .ref 52), (1, .int v1), (3, .int v3), (4, .int v4)], [], SH0, [(5900, m_comesTo_), (6000, m_goesOn_)], lg) rfl ?_
    rcases x_br h with ⟨hc, h⟩ | ⟨hc, h⟩
    · refine E_itt hc ?_
      refine E_sts 3 (137, [(0, .ref 52), (1, .int v1), (3, .int (v3 + (-1)))], [], SH0, [(5900, m_comesTo_), (6000, m_goesOn_)], lg) rfl ?_
      exact h137 v1 (v3 + (-1)) m_comesTo_ m_goesOn_ r h
    · refine E_itf hc ?_
      refine E_sts 4 (161, [(0, .ref 52), (1, .int v1), (3, .int v3), (4, .int v4)], [.int v3, .ref 60, .int v3, .ref 60], SH0, [(5900, m_comesTo_), (6000, m_goesOn_)], lg) rfl ?_
      obtain ⟨hp, h⟩ := x_ite h
      refine E_par (p := inr v3 512) (162, [(0, .ref 52), (1, .int v1), (3, .int v3), (4, .int v4)], [.int (m_goesOn_ v3.toNatClampNeg), .int v3, .ref 60], SH0, [(5900, m_comesTo_), (6000, m_goesOn_)], lg) rfl hp ?_
      refine E_sts 3 (166, [(0, .ref 52), (1, .int v1), (3, .int v3), (4, .int v4)], [.int v3, .int v4, .ref 52, .int (m_goesOn_ v3.toNatClampNeg), .int v3, .ref 60], SH0, [(5900, m_comesTo_), (6000, m_goesOn_)], lg) rfl ?_
      obtain ⟨r166, hr, h⟩ := x_bind h
      refine E_call rfl (e_X6_canBehind X _ _ _ _ r166 hr) (by decide) ?_
      refine E_sts 1 (if (xb r166) = 0 then 186 else 172, [(0, .ref 52), (1, .int v1), (3, .int v3), (4, .int v4)], [.int (m_goesOn_ v3.toNatClampNeg), .int v3, .ref 60], SH0, [(5900, m_comesTo_), (6000, m_goesOn_)], lg) rfl ?_
      rcases x_br h with ⟨hc, h⟩ | ⟨hc, h⟩
      · refine E_itt hc ?_
        refine E_sts 2 (188, [(0, .ref 52), (1, .int v1), (3, .int v3), (4, .int v4)], [.int ((m_goesOn_ v3.toNatClampNeg) + 0), .int v3, .ref 60], SH0, [(5900, m_comesTo_), (6000, m_goesOn_)], lg) rfl ?_
        obtain ⟨hp, h⟩ := x_ite h
        refine E_par (p := inr v3 512) (189, [(0, .ref 52), (1, .int v1), (3, .int v3), (4, .int v4)], [], SH0, [(5900, m_comesTo_), (6000, (upd m_goesOn_ v3.toNatClampNeg ((m_goesOn_ v3.toNatClampNeg) + 0)))], lg) rfl hp ?_
        refine E_sts 3 (144, [(0, .ref 52), (1, .int v1), (3, .int v3), (4, .int (v4 + 1))], [], SH0, [(5900, m_comesTo_), (6000, (upd m_goesOn_ v3.toNatClampNeg ((m_goesOn_ v3.toNatClampNeg) + 0)))], lg) rfl ?_
        exact ih v1 v3 (v4 + 1) m_comesTo_ (upd m_goesOn_ v3.toNatClampNeg ((m_goesOn_ v3.toNatClampNeg) + 0)) r h
      · refine E_itf hc ?_
        refine E_sts 7 (182, [(0, .ref 52), (1, .int v1), (3, .int v3), (4, .int v4)], [.int (v3 ||| (xshl 1 v4)), .ref 60, .int (m_goesOn_ v3.toNatClampNeg), .int v3, .ref 60], SH0, [(5900, m_comesTo_), (6000, m_goesOn_)], lg) rfl ?_
        obtain ⟨hp, h⟩ := x_ite h
        refine E_par (p := inr (v3 ||| (xshl 1 v4)) 512) (183, [(0, .ref 52), (1, .int v1), (3, .int v3), (4, .int v4)], [.int (m_goesOn_ (v3 ||| (xshl 1 v4)).toNatClampNeg), .int (m_goesOn_ v3.toNatClampNeg), .int v3, .ref 60], SH0, [(5900, m_comesTo_), (6000, m_goesOn_)], lg) rfl hp ?_
        refine E_sts 2 (188, [(0, .ref 52), (1, .int v1), (3, .int v3), (4, .int v4)], [.int ((m_goesOn_ v3.toNatClampNeg) + (m_goesOn_ (v3 ||| (xshl 1 v4)).toNatClampNeg)), .int v3, .ref 60], SH0, [(5900, m_comesTo_), (6000, m_goesOn_)], lg) rfl ?_
        obtain ⟨hp, h⟩ := x_ite h
        refine E_par (p := inr v3 512) (189, [(0, .ref 52), (1, .int v1), (3, .int v3), (4, .int v4)], [], SH0, [(5900, m_comesTo_), (6000, (upd m_goesOn_ v3.toNatClampNeg ((m_goesOn_ v3.toNatClampNeg) + (m_goesOn_ (v3 ||| (xshl 1 v4)).toNatClampNeg))))], lg) rfl hp ?_
        refine E_sts 3 (144, [(0, .ref 52), (1, .int v1), (3, .int v3), (4, .int (v4 + 1))], [], SH0, [(5900, m_comesTo_), (6000, (upd m_goesOn_ v3.toNatClampNeg ((m_goesOn_ v3.toNatClampNeg) + (m_goesOn_ (v3 ||| (xshl 1 v4)).toNatClampNeg))))], lg) rfl ?_
        exact ih v1 v3 (v4 + 1) m_comesTo_ (upd m_goesOn_ v3.toNatClampNeg ((m_goesOn_ v3.toNatClampNeg) + (m_goesOn_ (v3 ||| (xshl 1 v4)).toNatClampNeg))) r h
set_option maxHeartbeats 4000000 in
set_option maxRecDepth 20000 in
theorem e_X6_countsWays_L137 (X : xX) (σ : xM) (lg : Int64) : ∀ (n : Nat), ∀ (v1 : Int32) (v3 : Int32) (m_comesTo_ : (Nat → Int32)) (m_goesOn_ : (Nat → Int32)) (r : Int32 × (Nat → Int32) × (Nat → Int32)), X6_countsWays_L137 (σ 5300) n v1 v3 m_comesTo_ m_goesOn_ = some r → E XP X 2 xm_162 σ (137, [(0, .ref 52), (1, .int v1), (3, .int v3)], [], SH0, [(5900, m_comesTo_), (6000, m_goesOn_)], lg) (some (.int r.1), SH0, [(5900, r.2.1), (6000, r.2.2)], lg) := by
  intro n
  induction n with
  | zero => intro v1 v3 m_comesTo_ m_goesOn_ r h; rw [X6_countsWays_L137] at h; cases h
  | succ n ih =>
    intro v1 v3 m_comesTo_ m_goesOn_ r h
    rw [X6_countsWays_L137] at h
    refine E_sts 2 (if v3 < 0 then 201 else 141, [(0, .ref 52), (1, .int v1), (3, .int v3)], [], SH0, [(5900, m_comesTo_), (6000, m_goesOn_)], lg) rfl ?_
    rcases x_br h with ⟨hc, h⟩ | ⟨hc, h⟩
    · refine E_itt hc ?_
      refine E_sts 3 (206, [(0, .ref 52), (1, .int v1), (3, .int v3)], [.int v1, .ref 60], SH0, [(5900, m_comesTo_), (6000, m_goesOn_)], lg) rfl ?_
      obtain ⟨hp, h⟩ := x_ite h
      refine E_par (p := inr v1 512) (100207, [(0, .ref 52), (1, .int v1), (3, .int v3)], [.int (m_goesOn_ v1.toNatClampNeg)], SH0, [(5900, m_comesTo_), (6000, m_goesOn_)], lg) rfl hp ?_
      obtain rfl := Option.some.inj h
      refine E_sts 1 (207, [], [.int (m_goesOn_ v1.toNatClampNeg)], SH0, [(5900, m_comesTo_), (6000, m_goesOn_)], lg) rfl ?_
      exact E_ret rfl
    · refine E_itf hc ?_
      refine E_sts 3 (144, [(0, .ref 52), (1, .int v1), (3, .int v3), (4, .int 0)], [], SH0, [(5900, m_comesTo_), (6000, m_goesOn_)], lg) rfl ?_
      exact e_X6_countsWays_L144 X σ lg _ (fun v10 v30 m_comesTo_0 m_goesOn_0 r h => ih v10 v30 m_comesTo_0 m_goesOn_0 r h) _ v1 v3 0 m_comesTo_ m_goesOn_ r h
set_option maxHeartbeats 4000000 in
set_option maxRecDepth 20000 in
theorem e_X6_countsWays_L59 (X : xX) (σ : xM) (lg : Int64) : ∀ (n : Nat), ∀ (v1 : Int32) (v2 : Int32) (v3 : Int32) (m_comesTo_ : (Nat → Int32)) (m_goesOn_ : (Nat → Int32)) (r : Int32 × (Nat → Int32) × (Nat → Int32)), X6_countsWays_L59 (σ 5300) n v1 v2 v3 m_comesTo_ m_goesOn_ = some r → E XP X 2 xm_162 σ (59, [(0, .ref 52), (1, .int v1), (2, .int v2), (3, .int v3)], [], SH0, [(5900, m_comesTo_), (6000, m_goesOn_)], lg) (some (.int r.1), SH0, [(5900, r.2.1), (6000, r.2.2)], lg) := by
  intro n
  induction n with
  | zero => intro v1 v2 v3 m_comesTo_ m_goesOn_ r h; rw [X6_countsWays_L59] at h; cases h
  | succ n ih =>
    intro v1 v2 v3 m_comesTo_ m_goesOn_ r h
    rw [X6_countsWays_L59] at h
    refine E_sts 3 (if v2 < v3 then 133 else 64, [(0, .ref 52), (1, .int v1), (2, .int v2), (3, .int v3)], [], SH0, [(5900, m_comesTo_), (6000, m_goesOn_)], lg) rfl ?_
    rcases x_br h with ⟨hc, h⟩ | ⟨hc, h⟩
    · refine E_itt hc ?_
      refine E_sts 5 (137, [(0, .ref 52), (1, .int v1), (3, .int (v2 - 1))], [], SH0, [(5900, m_comesTo_), (6000, m_goesOn_)], lg) rfl ?_
      exact e_X6_countsWays_L137 X σ lg _ v1 (v2 - 1) m_comesTo_ m_goesOn_ r h
    · refine E_itf hc ?_
      refine E_sts 3 (67, [(0, .ref 52), (1, .int v1), (2, .int v2), (3, .int v3), (4, .int 0)], [], SH0, [(5900, m_comesTo_), (6000, m_goesOn_)], lg) rfl ?_
      exact e_X6_countsWays_L67 X σ lg _ (fun v10 v20 v30 m_comesTo_0 m_goesOn_0 r h => ih v10 v20 v30 m_comesTo_0 m_goesOn_0 r h) _ v1 v2 v3 0 m_comesTo_ m_goesOn_ r h
set_option maxHeartbeats 4000000 in
set_option maxRecDepth 20000 in
theorem e_X6_countsWays_L12 (X : xX) (σ : xM) (lg : Int64) : ∀ (n : Nat), ∀ (v1 : Int32) (v2 : Int32) (v3 : Int32) (m_comesTo_ : (Nat → Int32)) (m_goesOn_ : (Nat → Int32)) (r : Int32 × (Nat → Int32) × (Nat → Int32)), X6_countsWays_L12 (σ 5300) n v1 v2 v3 m_comesTo_ m_goesOn_ = some r → E XP X 2 xm_162 σ (12, [(0, .ref 52), (1, .int v1), (2, .int v2), (3, .int v3)], [], SH0, [(5900, m_comesTo_), (6000, m_goesOn_)], lg) (some (.int r.1), SH0, [(5900, r.2.1), (6000, r.2.2)], lg) := by
  intro n
  induction n with
  | zero => intro v1 v2 v3 m_comesTo_ m_goesOn_ r h; rw [X6_countsWays_L12] at h; cases h
  | succ n ih =>
    intro v1 v2 v3 m_comesTo_ m_goesOn_ r h
    rw [X6_countsWays_L12] at h
    refine E_sts 3 (if 512 ≤ v3 then 57 else 19, [(0, .ref 52), (1, .int v1), (2, .int v2), (3, .int v3)], [], SH0, [(5900, m_comesTo_), (6000, m_goesOn_)], lg) rfl ?_
    rcases x_br h with ⟨hc, h⟩ | ⟨hc, h⟩
    · refine E_itt hc ?_
      refine E_sts 3 (59, [(0, .ref 52), (1, .int v1), (2, .int v2), (3, .int v1)], [], SH0, [(5900, m_comesTo_), (6000, m_goesOn_)], lg) rfl ?_
      exact e_X6_countsWays_L59 X σ lg _ v1 v2 v1 m_comesTo_ m_goesOn_ r h
    · refine E_itf hc ?_
      refine E_sts 6 (if v3 = v1 then 29 else 33, [(0, .ref 52), (1, .int v1), (2, .int v2), (3, .int v3)], [.int v3, .ref 59], SH0, [(5900, m_comesTo_), (6000, m_goesOn_)], lg) rfl ?_
      rcases x_br h with ⟨hc, h⟩ | ⟨hc, h⟩
      · refine E_itt hc ?_
        refine E_sts 3 (34, [(0, .ref 52), (1, .int v1), (2, .int v2), (3, .int v3)], [.int 1, .int v3, .ref 59], SH0, [(5900, m_comesTo_), (6000, m_goesOn_)], lg) rfl ?_
        exact e_X6_countsWays_L34 X σ lg _ (fun v10 v20 v30 m_comesTo_0 m_goesOn_0 r h => ih v10 v20 v30 m_comesTo_0 m_goesOn_0 r h) v1 v2 v3 v3 1 m_comesTo_ m_goesOn_ r h
      · refine E_itf hc ?_
        refine E_sts 2 (34, [(0, .ref 52), (1, .int v1), (2, .int v2), (3, .int v3)], [.int 0, .int v3, .ref 59], SH0, [(5900, m_comesTo_), (6000, m_goesOn_)], lg) rfl ?_
        exact e_X6_countsWays_L34 X σ lg _ (fun v10 v20 v30 m_comesTo_0 m_goesOn_0 r h => ih v10 v20 v30 m_comesTo_0 m_goesOn_0 r h) v1 v2 v3 v3 0 m_comesTo_ m_goesOn_ r h
set_option maxHeartbeats 4000000 in
set_option maxRecDepth 20000 in
theorem e_X6_countsWays (X : xX) (σ : xM) (lg : Int64) (r : Int32 × (Nat → Int32) × (Nat → Int32)) (h : X6_countsWays (σ 5300) (σ 5900) (σ 6000) = some r) : EM XP X 3 162 [.ref 52] SH0 lg σ (some (.int r.1), SH0, [(5900, r.2.1), (6000, r.2.2)], lg) := by
  refine EM_of (M := xm_162) rfl rfl ?_
  unfold X6_countsWays at h
  refine E_sts 1 (1, [(0, .ref 52)], [.ref 52], SH0, [], lg) rfl ?_
  obtain ⟨r1, hr, h⟩ := x_bind h
  refine E_call rfl (e_X6_stageSet X _ _ r1 hr) (by decide) ?_
  refine E_sts 2 (6, [(0, .ref 52), (1, .int r1)], [.ref 52], SH0, [], lg) rfl ?_
  obtain ⟨r6, hr, h⟩ := x_bind h
  refine E_call rfl (e_X6_allBows X _ _ r6 hr) (by decide) ?_
  refine E_sts 4 (12, [(0, .ref 52), (1, .int r1), (2, .int r6), (3, .int 0)], [], SH0, [(5900, (σ 5900)), (6000, (σ 6000))], lg) rfl ?_
  exact e_X6_countsWays_L12 X σ lg _ r1 r6 0 (σ 5900) (σ 6000) r h
set_option maxHeartbeats 4000000 in
set_option maxRecDepth 20000 in
theorem e_X6_ways (X : xX) (σ : xM) (lg : Int64) (r : Int32 × (Nat → Int32) × (Nat → Int32)) (h : X6_ways (σ 5300) (σ 5900) (σ 6000) = some r) : EM XP X 4 163 [.ref 52] SH0 lg σ (some (.int r.1), SH0, [(5900, r.2.1), (6000, r.2.2)], lg) := by
  refine EM_of (M := xm_163) rfl rfl ?_
  unfold X6_ways at h
  refine E_sts 1 (1, [(0, .ref 52)], [.ref 52], SH0, [], lg) rfl ?_
  obtain ⟨r1, hr, h⟩ := x_bind h
  refine E_call rfl (e_X6_countsWays X _ _ r1 hr) (by decide) ?_
  obtain rfl := Option.some.inj h
  exact E_ret rfl
set_option maxHeartbeats 4000000 in
set_option maxRecDepth 20000 in
theorem e_X1_lastOnes_L4 (X : xX) (σ : xM) (lg : Int64) : ∀ (n : Nat), ∀ (v1 : Int32) (v2 : Int32) (r : Int32), X1_lastOnes_L4 (σ 3211 0) (σ 3212 0) (σ 3214 0) (σ 3500) n v1 v2 = some r → E XP X 0 xm_17 σ (4, [(0, .ref 32), (1, .int v1), (2, .int v2)], [], SH0, [], lg) (some (.int r), SH0, [], lg) := by
  intro n
  induction n with
  | zero => intro v1 v2 r h; rw [X1_lastOnes_L4] at h; cases h
  | succ n ih =>
    intro v1 v2 r h
    rw [X1_lastOnes_L4] at h
    refine E_sts 4 (if (σ 3211 0) ≤ v2 then 38 else 12, [(0, .ref 32), (1, .int v1), (2, .int v2)], [], SH0, [], lg) rfl ?_
    rcases x_br h with ⟨hc, h⟩ | ⟨hc, h⟩
    · refine E_itt hc ?_
      obtain rfl := Option.some.inj h
      refine E_sts 11 (53, [(0, .ref 32), (1, .int v1), (2, .int v2)], [.int (((σ 3214 0) &&& ((σ 3212 0) ^^^ (-1))) &&& (v1 ^^^ (-1)))], SH0, [], lg) rfl ?_
      exact E_ret rfl
    · refine E_itf hc ?_
      refine E_sts 7 (if ((σ 3212 0) &&& (xshl 1 v2)) = 0 then 23 else 32, [(0, .ref 32), (1, .int v1), (2, .int v2)], [], SH0, [], lg) rfl ?_
      rcases x_br h with ⟨hc, h⟩ | ⟨hc, h⟩
      · refine E_itt hc ?_
        refine E_sts 4 (29, [(0, .ref 32), (1, .int v1), (2, .int v2)], [.int v2, .ref 35, .int v1], SH0, [], lg) rfl ?_
        obtain ⟨hp, h⟩ := x_ite h
        refine E_par (p := inr v2 9) (30, [(0, .ref 32), (1, .int v1), (2, .int v2)], [.int ((σ 3500) v2.toNatClampNeg), .int v1], SH0, [], lg) rfl hp ?_
        refine E_sts 5 (4, [(0, .ref 32), (1, .int (v1 ||| ((σ 3500) v2.toNatClampNeg))), (2, .int (v2 + 1))], [], SH0, [], lg) rfl ?_
        exact ih (v1 ||| ((σ 3500) v2.toNatClampNeg)) (v2 + 1) r h
      · refine E_itf hc ?_
        refine E_sts 3 (4, [(0, .ref 32), (1, .int v1), (2, .int (v2 + 1))], [], SH0, [], lg) rfl ?_
        exact ih v1 (v2 + 1) r h
set_option maxHeartbeats 4000000 in
set_option maxRecDepth 20000 in
theorem e_X1_lastOnes (X : xX) (σ : xM) (lg : Int64) (r : Int32) (h : X1_lastOnes (σ 3211 0) (σ 3212 0) (σ 3214 0) (σ 3500) = some r) : EM XP X 1 17 [.ref 32] SH0 lg σ (some (.int r), SH0, [], lg) := by
  refine EM_of (M := xm_17) rfl rfl ?_
  unfold X1_lastOnes at h
  refine E_sts 5 (4, [(0, .ref 32), (1, .int 0), (2, .int 0)], [], SH0, [], lg) rfl ?_
  exact e_X1_lastOnes_L4 X σ lg _ 0 0 r h
set_option maxHeartbeats 4000000 in
set_option maxRecDepth 20000 in
theorem e_X5_lasts (X : xX) (σ : xM) (lg : Int64) (r : Int32 × Int32 × Int32 × Int32 × Int32 × (Nat → Int32) × (Nat → Int32) × (Nat → Int32)) (h : X5_lasts (σ 201 0) (σ 207 0) (σ 208 0) (σ 300) (σ 400) (σ 600) (σ 800) (σ 3300) (σ 3400) (σ 3500) = some r) : EM XP X 3 82 [.ref 0] SH0 lg σ (some (.int r.1), SH0, [(3211, fun _ => r.2.1), (3212, fun _ => r.2.2.1), (3213, fun _ => r.2.2.2.1), (3214, fun _ => r.2.2.2.2.1), (3300, r.2.2.2.2.2.1), (3400, r.2.2.2.2.2.2.1), (3500, r.2.2.2.2.2.2.2)], lg) := by
  refine EM_of (M := xm_82) rfl rfl ?_
  unfold X5_lasts at h
  refine E_sts 4 (8, [(0, .ref 0)], [.ref 2, .ref 32], SH0, [], lg) rfl ?_
  obtain ⟨r8, hr, h⟩ := x_bind h
  refine E_call rfl (e_X1_startFrom X _ _ r8 hr) (by decide) ?_
  refine E_sts 2 (15, [(0, .ref 0)], [.ref 32], SH0, [(3211, fun _ => r8.1), (3212, fun _ => r8.2.1), (3213, fun _ => r8.2.2.1), (3214, fun _ => r8.2.2.2.1), (3300, r8.2.2.2.2.1), (3400, r8.2.2.2.2.2.1), (3500, r8.2.2.2.2.2.2)], lg) rfl ?_
  obtain ⟨r15, hr, h⟩ := x_bind h
  refine E_call rfl (e_X1_haveWay X _ _ r15 hr) (by decide) ?_
  refine E_sts 1 (if (xb r15) = 0 then 31 else 21, [(0, .ref 0)], [], SH0, [(3211, fun _ => r8.1), (3212, fun _ => r8.2.1), (3213, fun _ => r8.2.2.1), (3214, fun _ => r8.2.2.2.1), (3300, r8.2.2.2.2.1), (3400, r8.2.2.2.2.2.1), (3500, r8.2.2.2.2.2.2)], lg) rfl ?_
  rcases x_br h with ⟨hc, h⟩ | ⟨hc, h⟩
  · refine E_itt hc ?_
    obtain rfl := Option.some.inj h
    refine E_sts 1 (32, [(0, .ref 0)], [.int 0], SH0, [(3211, fun _ => r8.1), (3212, fun _ => r8.2.1), (3213, fun _ => r8.2.2.1), (3214, fun _ => r8.2.2.2.1), (3300, r8.2.2.2.2.1), (3400, r8.2.2.2.2.2.1), (3500, r8.2.2.2.2.2.2)], lg) rfl ?_
    exact E_ret rfl
  · refine E_itf hc ?_
    refine E_sts 2 (25, [(0, .ref 0)], [.ref 32], SH0, [(3211, fun _ => r8.1), (3212, fun _ => r8.2.1), (3213, fun _ => r8.2.2.1), (3214, fun _ => r8.2.2.2.1), (3300, r8.2.2.2.2.1), (3400, r8.2.2.2.2.2.1), (3500, r8.2.2.2.2.2.2)], lg) rfl ?_
    obtain ⟨r25, hr, h⟩ := x_bind h
    refine E_call rfl (e_X1_lastOnes X _ _ r25 hr) (by decide) ?_
    obtain rfl := Option.some.inj h
    refine E_sts 1 (32, [(0, .ref 0)], [.int r25], SH0, [(3211, fun _ => r8.1), (3212, fun _ => r8.2.1), (3213, fun _ => r8.2.2.1), (3214, fun _ => r8.2.2.2.1), (3300, r8.2.2.2.2.1), (3400, r8.2.2.2.2.2.1), (3500, r8.2.2.2.2.2.2)], lg) rfl ?_
    exact E_ret rfl
set_option maxHeartbeats 4000000 in
set_option maxRecDepth 20000 in
theorem e_X6_lasts_L9 (X : xX) (σ : xM) (lg : Int64) : ∀ (n : Nat), ∀ (v1 : Int32) (v2 : Int32) (v3 : Int32) (m_comesTo_ : (Nat → Int32)) (m_goesOn_ : (Nat → Int32)) (r : Int32 × (Nat → Int32) × (Nat → Int32)), X6_lasts_L9 (σ 5300) n v1 v2 v3 m_comesTo_ m_goesOn_ = some r → E XP X 3 xm_164 σ (9, [(0, .ref 52), (1, .int v1), (2, .int v2), (3, .int v3)], [], SH0, [(5900, m_comesTo_), (6000, m_goesOn_)], lg) (some (.int r.1), SH0, [(5900, r.2.1), (6000, r.2.2)], lg) := by
  intro n
  induction n with
  | zero => intro v1 v2 v3 m_comesTo_ m_goesOn_ r h; rw [X6_lasts_L9] at h; cases h
  | succ n ih =>
    intro v1 v2 v3 m_comesTo_ m_goesOn_ r h
    rw [X6_lasts_L9] at h
    refine E_sts 4 (15, [(0, .ref 52), (1, .int v1), (2, .int v2), (3, .int v3)], [.int 3, .ref 53, .int v3], SH0, [(5900, m_comesTo_), (6000, m_goesOn_)], lg) rfl ?_
    refine E_par (p := inr 3 83) (16, [(0, .ref 52), (1, .int v1), (2, .int v2), (3, .int v3)], [.int ((σ 5300) 3), .int v3], SH0, [(5900, m_comesTo_), (6000, m_goesOn_)], lg) rfl (by decide) ?_
    refine E_sts 1 (if ((σ 5300) 3) ≤ v3 then 71 else 19, [(0, .ref 52), (1, .int v1), (2, .int v2), (3, .int v3)], [], SH0, [(5900, m_comesTo_), (6000, m_goesOn_)], lg) rfl ?_
    rcases x_br h with ⟨hc, h⟩ | ⟨hc, h⟩
    · refine E_itt hc ?_
      obtain rfl := Option.some.inj h
      refine E_sts 1 (72, [(0, .ref 52), (1, .int v1), (2, .int v2), (3, .int v3)], [.int v2], SH0, [(5900, m_comesTo_), (6000, m_goesOn_)], lg) rfl ?_
      exact E_ret rfl
    · refine E_itf hc ?_
      refine E_sts 2 (if v1 ≤ 0 then 71 else 23, [(0, .ref 52), (1, .int v1), (2, .int v2), (3, .int v3)], [], SH0, [(5900, m_comesTo_), (6000, m_goesOn_)], lg) rfl ?_
      rcases x_br h with ⟨hc, h⟩ | ⟨hc, h⟩
      · refine E_itt hc ?_
        obtain rfl := Option.some.inj h
        refine E_sts 1 (72, [(0, .ref 52), (1, .int v1), (2, .int v2), (3, .int v3)], [.int v2], SH0, [(5900, m_comesTo_), (6000, m_goesOn_)], lg) rfl ?_
        exact E_ret rfl
      · refine E_itf hc ?_
        refine E_sts 1 (24, [(0, .ref 52), (1, .int v1), (2, .int v2), (3, .int v3)], [.ref 52], SH0, [(5900, m_comesTo_), (6000, m_goesOn_)], lg) rfl ?_
        obtain ⟨r24, hr, h⟩ := x_bind h
        refine E_call rfl (e_X6_allBows X _ _ r24 hr) (by decide) ?_
        refine E_sts 11 (42, [(0, .ref 52), (1, .int v1), (2, .int v2), (3, .int v3), (4, .int (r24 &&& ((xshl 1 v3) ^^^ (-1))))], [.int (r24 &&& ((xshl 1 v3) ^^^ (-1))), .ref 59, .int v2], SH0, [(5900, m_comesTo_), (6000, m_goesOn_)], lg) rfl ?_
        obtain ⟨hp, h⟩ := x_ite h
        refine E_par (p := inr (r24 &&& ((xshl 1 v3) ^^^ (-1))) 512) (43, [(0, .ref 52), (1, .int v1), (2, .int v2), (3, .int v3), (4, .int (r24 &&& ((xshl 1 v3) ^^^ (-1))))], [.int (m_comesTo_ (r24 &&& ((xshl 1 v3) ^^^ (-1))).toNatClampNeg), .int v2], SH0, [(5900, m_comesTo_), (6000, m_goesOn_)], lg) rfl hp ?_
        refine E_sts 1 (if (m_comesTo_ (r24 &&& ((xshl 1 v3) ^^^ (-1))).toNatClampNeg) ≤ 0 then 62 else 46, [(0, .ref 52), (1, .int v1), (2, .int v2), (3, .int v3), (4, .int (r24 &&& ((xshl 1 v3) ^^^ (-1))))], [.int v2], SH0, [(5900, m_comesTo_), (6000, m_goesOn_)], lg) rfl ?_
        rcases x_br h with ⟨hc, h⟩ | ⟨hc, h⟩
        · refine E_itt hc ?_
          refine E_sts 6 (9, [(0, .ref 52), (1, .int v1), (2, .int (v2 ||| 0)), (3, .int (v3 + 1))], [], SH0, [(5900, m_comesTo_), (6000, m_goesOn_)], lg) rfl ?_
          exact ih v1 (v2 ||| 0) (v3 + 1) m_comesTo_ m_goesOn_ r h
        · refine E_itf hc ?_
          refine E_sts 3 (50, [(0, .ref 52), (1, .int v1), (2, .int v2), (3, .int v3), (4, .int (r24 &&& ((xshl 1 v3) ^^^ (-1))))], [.int (r24 &&& ((xshl 1 v3) ^^^ (-1))), .int v3, .ref 52, .int v2], SH0, [(5900, m_comesTo_), (6000, m_goesOn_)], lg) rfl ?_
          obtain ⟨r50, hr, h⟩ := x_bind h
          refine E_call rfl (e_X6_canBehind X _ _ _ _ r50 hr) (by decide) ?_
          refine E_sts 1 (if (xb r50) = 0 then 62 else 56, [(0, .ref 52), (1, .int v1), (2, .int v2), (3, .int v3), (4, .int (r24 &&& ((xshl 1 v3) ^^^ (-1))))], [.int v2], SH0, [(5900, m_comesTo_), (6000, m_goesOn_)], lg) rfl ?_
          rcases x_br h with ⟨hc, h⟩ | ⟨hc, h⟩
          · refine E_itt hc ?_
            refine E_sts 6 (9, [(0, .ref 52), (1, .int v1), (2, .int (v2 ||| 0)), (3, .int (v3 + 1))], [], SH0, [(5900, m_comesTo_), (6000, m_goesOn_)], lg) rfl ?_
            exact ih v1 (v2 ||| 0) (v3 + 1) m_comesTo_ m_goesOn_ r h
          · refine E_itf hc ?_
            refine E_sts 9 (9, [(0, .ref 52), (1, .int v1), (2, .int (v2 ||| (xshl 1 v3))), (3, .int (v3 + 1))], [], SH0, [(5900, m_comesTo_), (6000, m_goesOn_)], lg) rfl ?_
            exact ih v1 (v2 ||| (xshl 1 v3)) (v3 + 1) m_comesTo_ m_goesOn_ r h
set_option maxHeartbeats 4000000 in
set_option maxRecDepth 20000 in
theorem e_X6_lasts (X : xX) (σ : xM) (lg : Int64) (r : Int32 × (Nat → Int32) × (Nat → Int32)) (h : X6_lasts (σ 5300) (σ 5900) (σ 6000) = some r) : EM XP X 4 164 [.ref 52] SH0 lg σ (some (.int r.1), SH0, [(5900, r.2.1), (6000, r.2.2)], lg) := by
  refine EM_of (M := xm_164) rfl rfl ?_
  unfold X6_lasts at h
  refine E_sts 1 (1, [(0, .ref 52)], [.ref 52], SH0, [], lg) rfl ?_
  obtain ⟨r1, hr, h⟩ := x_bind h
  refine E_call rfl (e_X6_countsWays X _ _ r1 hr) (by decide) ?_
  refine E_sts 6 (9, [(0, .ref 52), (1, .int r1.1), (2, .int 0), (3, .int 0)], [], SH0, [(5900, r1.2.1), (6000, r1.2.2)], lg) rfl ?_
  exact e_X6_lasts_L9 X σ lg _ r1.1 0 0 r1.2.1 r1.2.2 r h
set_option maxHeartbeats 4000000 in
set_option maxRecDepth 20000 in
theorem e_X2_hasCome (X : xX) (σ : xM) (lg : Int64) (v1 : Int32) (r : Bool) (h : X2_hasCome (σ 208 0) v1 = r) : EM XP X 1 32 [.ref 2, .int v1] SH0 lg σ (some (.int (xb r)), SH0, [], lg) := by
  refine EM_of (M := xm_32) rfl rfl ?_
  unfold X2_hasCome at h
  refine E_sts 7 (if ((σ 208 0) &&& (xshl 1 v1)) = 0 then 15 else 11, [(0, .ref 2), (1, .int v1)], [], SH0, [], lg) rfl ?_
  rcases x_br h with ⟨hc, h⟩ | ⟨hc, h⟩
  · refine E_itt hc ?_
    subst h
    refine E_sts 1 (16, [(0, .ref 2), (1, .int v1)], [.int 0], SH0, [], lg) rfl ?_
    exact E_retp (p := (0 : Int32) = 0 ∨ (0 : Int32) = 1) rfl (by decide)
  · refine E_itf hc ?_
    subst h
    refine E_sts 2 (16, [(0, .ref 2), (1, .int v1)], [.int 1], SH0, [], lg) rfl ?_
    exact E_retp (p := (1 : Int32) = 0 ∨ (1 : Int32) = 1) rfl (by decide)
set_option maxHeartbeats 4000000 in
set_option maxRecDepth 20000 in
theorem e_X1_allAhead_L24 (X : xX) (σ : xM) (lg : Int64) (k12 : Int32 → Int32 → Int32 → Option (Int32)) (h12 : ∀ (v2 : Int32) (v3 : Int32) (v4 : Int32) (r : Int32), k12 v2 v3 v4 = some r → E XP X 0 xm_18 σ (12, [(0, .ref 32), (2, .int v2), (3, .int v3), (4, .int v4)], [], SH0, [], lg) (some (.int r), SH0, [], lg)) : ∀ (n : Nat), ∀ (v2 : Int32) (v3 : Int32) (v4 : Int32) (v5 : Int32) (r : Int32), X1_allAhead_L24 k12 (σ 3211 0) (σ 3500) n v2 v3 v4 v5 = some r → E XP X 0 xm_18 σ (24, [(0, .ref 32), (2, .int v2), (3, .int v3), (4, .int v4), (5, .int v5)], [], SH0, [], lg) (some (.int r), SH0, [], lg) := by
  intro n
  induction n with
  | zero => intro v2 v3 v4 v5 r h; rw [X1_allAhead_L24] at h; cases h
  | succ n ih =>
    intro v2 v3 v4 v5 r h
    rw [X1_allAhead_L24] at h
    refine E_sts 4 (if (σ 3211 0) ≤ v5 then 60 else 33, [(0, .ref 32), (2, .int v2), (3, .int v3), (4, .int v4), (5, .int v5)], [], SH0, [], lg) rfl ?_
    rcases x_br h with ⟨hc, h⟩ | ⟨hc, h⟩
    · refine E_itt hc ?_
      refine E_sts 3 (12, [(0, .ref 32), (2, .int v2), (3, .int v3), (4, .int (v4 + 1))], [], SH0, [], lg) rfl ?_
      exact h12 v2 v3 (v4 + 1) r h
    · refine E_itf hc ?_
      refine E_sts 6 (if (v3 &&& (xshl 1 v5)) = 0 then 54 else 42, [(0, .ref 32), (2, .int v2), (3, .int v3), (4, .int v4), (5, .int v5)], [], SH0, [], lg) rfl ?_
      rcases x_br h with ⟨hc, h⟩ | ⟨hc, h⟩
      · refine E_itt hc ?_
        refine E_sts 3 (24, [(0, .ref 32), (2, .int v2), (3, .int v3), (4, .int v4), (5, .int (v5 + 1))], [], SH0, [], lg) rfl ?_
        exact ih v2 v3 v4 (v5 + 1) r h
      · refine E_itf hc ?_
        refine E_sts 4 (49, [(0, .ref 32), (2, .int v2), (3, .int v3), (4, .int v4), (5, .int v5)], [.int v5, .ref 35, .int v3], SH0, [], lg) rfl ?_
        obtain ⟨hp, h⟩ := x_ite h
        refine E_par (p := inr v5 9) (50, [(0, .ref 32), (2, .int v2), (3, .int v3), (4, .int v4), (5, .int v5)], [.int ((σ 3500) v5.toNatClampNeg), .int v3], SH0, [], lg) rfl hp ?_
        refine E_sts 7 (24, [(0, .ref 32), (2, .int v2), (3, .int (v3 ||| (((σ 3500) v5.toNatClampNeg) &&& v2))), (4, .int v4), (5, .int (v5 + 1))], [], SH0, [], lg) rfl ?_
        exact ih v2 (v3 ||| (((σ 3500) v5.toNatClampNeg) &&& v2)) v4 (v5 + 1) r h
set_option maxHeartbeats 4000000 in
set_option maxRecDepth 20000 in
theorem e_X1_allAhead_L12 (X : xX) (σ : xM) (lg : Int64) : ∀ (n : Nat), ∀ (v2 : Int32) (v3 : Int32) (v4 : Int32) (r : Int32), X1_allAhead_L12 (σ 3211 0) (σ 3500) n v2 v3 v4 = some r → E XP X 0 xm_18 σ (12, [(0, .ref 32), (2, .int v2), (3, .int v3), (4, .int v4)], [], SH0, [], lg) (some (.int r), SH0, [], lg) := by
  intro n
  induction n with
  | zero => intro v2 v3 v4 r h; rw [X1_allAhead_L12] at h; cases h
  | succ n ih =>
    intro v2 v3 v4 r h
    rw [X1_allAhead_L12] at h
    refine E_sts 4 (if (σ 3211 0) ≤ v4 then 66 else 21, [(0, .ref 32), (2, .int v2), (3, .int v3), (4, .int v4)], [], SH0, [], lg) rfl ?_
    rcases x_br h with ⟨hc, h⟩ | ⟨hc, h⟩
    · refine E_itt hc ?_
      obtain rfl := Option.some.inj h
      refine E_sts 1 (67, [(0, .ref 32), (2, .int v2), (3, .int v3), (4, .int v4)], [.int v3], SH0, [], lg) rfl ?_
      exact E_ret rfl
    · refine E_itf hc ?_
      refine E_sts 3 (24, [(0, .ref 32), (2, .int v2), (3, .int v3), (4, .int v4), (5, .int 0)], [], SH0, [], lg) rfl ?_
      exact e_X1_allAhead_L24 X σ lg _ (fun v20 v30 v40 r h => ih v20 v30 v40 r h) _ v2 v3 v4 0 r h
set_option maxHeartbeats 4000000 in
set_option maxRecDepth 20000 in
theorem e_X1_allAhead (X : xX) (σ : xM) (lg : Int64) (v1 : Int32) (v2 : Int32) (r : Int32) (h : X1_allAhead (σ 3211 0) (σ 3500) v1 v2 = some r) : EM XP X 1 18 [.ref 32, .int v1, .int v2] SH0 lg σ (some (.int r), SH0, [], lg) := by
  refine EM_of (M := xm_18) rfl rfl ?_
  unfold X1_allAhead at h
  refine E_sts 3 (5, [(0, .ref 32), (1, .int v1), (2, .int v2)], [.int v1, .ref 35], SH0, [], lg) rfl ?_
  obtain ⟨hp, h⟩ := x_ite h
  refine E_par (p := inr v1 9) (6, [(0, .ref 32), (1, .int v1), (2, .int v2)], [.int ((σ 3500) v1.toNatClampNeg)], SH0, [], lg) rfl hp ?_
  refine E_sts 6 (12, [(0, .ref 32), (2, .int v2), (3, .int (((σ 3500) v1.toNatClampNeg) &&& v2)), (4, .int 0)], [], SH0, [], lg) rfl ?_
  exact e_X1_allAhead_L12 X σ lg _ v2 (((σ 3500) v1.toNatClampNeg) &&& v2) 0 r h
set_option maxHeartbeats 4000000 in
set_option maxRecDepth 20000 in
theorem e_X1_earliest (X : xX) (σ : xM) (lg : Int64) (v1 : Int32) (r : Int32) (h : X1_earliest (σ 3211 0) (σ 3212 0) (σ 3214 0) (σ 3500) v1 = some r) : EM XP X 2 19 [.ref 32, .int v1] SH0 lg σ (some (.int r), SH0, [], lg) := by
  refine EM_of (M := xm_19) rfl rfl ?_
  unfold X1_earliest at h
  refine E_sts 9 (13, [(0, .ref 32), (1, .int v1)], [.int ((σ 3214 0) &&& ((σ 3212 0) ^^^ (-1))), .int v1, .ref 32], SH0, [], lg) rfl ?_
  obtain ⟨r13, hr, h⟩ := x_bind h
  refine E_call rfl (e_X1_allAhead X _ _ _ _ r13 hr) (by decide) ?_
  refine E_call rfl (e_J6_bitCount_0f7a4 X _ _ _ (J6_bitCount_0f7a4 r13) rfl) (by decide) ?_
  obtain rfl := Option.some.inj h
  exact E_ret rfl
set_option maxHeartbeats 4000000 in
set_option maxRecDepth 20000 in
theorem e_X1_latest_L28 (X : xX) (σ : xM) (lg : Int64) (k4 : Int32 → Int32 → Int32 → Option (Int32)) (h4 : ∀ (v1 : Int32) (v2 : Int32) (v3 : Int32) (r : Int32), k4 v1 v2 v3 = some r → E XP X 2 xm_20 σ (4, [(0, .ref 32), (1, .int v1), (2, .int v2), (3, .int v3)], [], SH0, [], lg) (some (.int r), SH0, [], lg)) : ∀ (v1 : Int32) (v2 : Int32) (v3 : Int32) (t0 : Int32) (r : Int32), X1_latest_L28 k4 (σ 3211 0) (σ 3212 0) (σ 3214 0) (σ 3500) v1 v2 v3 t0 = some r → E XP X 2 xm_20 σ (28, [(0, .ref 32), (1, .int v1), (2, .int v2), (3, .int v3)], [.int t0], SH0, [], lg) (some (.int r), SH0, [], lg) := by
  intro v1 v2 v3 t0 r h
  unfold X1_latest_L28 at h
  refine E_sts 3 (if t0 = 0 then 61 else 35, [(0, .ref 32), (1, .int v1), (2, .int v2), (3, .int v3), (4, .int t0)], [], SH0, [], lg) rfl ?_
  rcases x_br h with ⟨hc, h⟩ | ⟨hc, h⟩
  · refine E_itt hc ?_
    refine E_sts 3 (4, [(0, .ref 32), (1, .int v1), (2, .int v2), (3, .int (v3 + 1))], [], SH0, [], lg) rfl ?_
    exact h4 v1 v2 (v3 + 1) r h
  · refine E_itf hc ?_
    refine E_sts 9 (48, [(0, .ref 32), (1, .int v1), (2, .int v2), (3, .int v3), (4, .int t0)], [.int ((σ 3214 0) &&& ((σ 3212 0) ^^^ (-1))), .int v3, .ref 32], SH0, [], lg) rfl ?_
    obtain ⟨r48, hr, h⟩ := x_bind h
    refine E_call rfl (e_X1_allAhead X _ _ _ _ r48 hr) (by decide) ?_
    refine E_sts 5 (if (r48 &&& (xshl 1 v1)) = 0 then 61 else 58, [(0, .ref 32), (1, .int v1), (2, .int v2), (3, .int v3), (4, .int t0)], [], SH0, [], lg) rfl ?_
    rcases x_br h with ⟨hc, h⟩ | ⟨hc, h⟩
    · refine E_itt hc ?_
      refine E_sts 3 (4, [(0, .ref 32), (1, .int v1), (2, .int v2), (3, .int (v3 + 1))], [], SH0, [], lg) rfl ?_
      exact h4 v1 v2 (v3 + 1) r h
    · refine E_itf hc ?_
      refine E_sts 4 (4, [(0, .ref 32), (1, .int v1), (2, .int (v2 + 1)), (3, .int (v3 + 1))], [], SH0, [], lg) rfl ?_
      exact h4 v1 (v2 + 1) (v3 + 1) r h
set_option maxHeartbeats 4000000 in
set_option maxRecDepth 20000 in
theorem e_X1_latest_L4 (X : xX) (σ : xM) (lg : Int64) : ∀ (n : Nat), ∀ (v1 : Int32) (v2 : Int32) (v3 : Int32) (r : Int32), X1_latest_L4 (σ 3211 0) (σ 3212 0) (σ 3214 0) (σ 3500) n v1 v2 v3 = some r → E XP X 2 xm_20 σ (4, [(0, .ref 32), (1, .int v1), (2, .int v2), (3, .int v3)], [], SH0, [], lg) (some (.int r), SH0, [], lg) := by
  intro n
  induction n with
  | zero => intro v1 v2 v3 r h; rw [X1_latest_L4] at h; cases h
  | succ n ih =>
    intro v1 v2 v3 r h
    rw [X1_latest_L4] at h
    refine E_sts 4 (if (σ 3211 0) ≤ v3 then 67 else 12, [(0, .ref 32), (1, .int v1), (2, .int v2), (3, .int v3)], [], SH0, [], lg) rfl ?_
    rcases x_br h with ⟨hc, h⟩ | ⟨hc, h⟩
    · refine E_itt hc ?_
      refine E_sts 1 (68, [(0, .ref 32), (1, .int v1), (2, .int v2), (3, .int v3)], [.ref 32], SH0, [], lg) rfl ?_
      refine E_call rfl (e_X1_rest X _ _ (X1_rest (σ 3212 0) (σ 3214 0)) rfl) (by decide) ?_
      obtain rfl := Option.some.inj h
      refine E_sts 4 (75, [(0, .ref 32), (1, .int v1), (2, .int v2), (3, .int v3)], [.int (((X1_rest (σ 3212 0) (σ 3214 0)) - 1) - v2)], SH0, [], lg) rfl ?_
      exact E_ret rfl
    · refine E_itf hc ?_
      refine E_sts 7 (if ((σ 3212 0) &&& (xshl 1 v3)) = 0 then 23 else 27, [(0, .ref 32), (1, .int v1), (2, .int v2), (3, .int v3)], [], SH0, [], lg) rfl ?_
      rcases x_br h with ⟨hc, h⟩ | ⟨hc, h⟩
      · refine E_itt hc ?_
        refine E_sts 3 (28, [(0, .ref 32), (1, .int v1), (2, .int v2), (3, .int v3)], [.int 1], SH0, [], lg) rfl ?_
        exact e_X1_latest_L28 X σ lg _ (fun v10 v20 v30 r h => ih v10 v20 v30 r h) v1 v2 v3 1 r h
      · refine E_itf hc ?_
        refine E_sts 2 (28, [(0, .ref 32), (1, .int v1), (2, .int v2), (3, .int v3)], [.int 0], SH0, [], lg) rfl ?_
        exact e_X1_latest_L28 X σ lg _ (fun v10 v20 v30 r h => ih v10 v20 v30 r h) v1 v2 v3 0 r h
set_option maxHeartbeats 4000000 in
set_option maxRecDepth 20000 in
theorem e_X1_latest (X : xX) (σ : xM) (lg : Int64) (v1 : Int32) (r : Int32) (h : X1_latest (σ 3211 0) (σ 3212 0) (σ 3214 0) (σ 3500) v1 = some r) : EM XP X 3 20 [.ref 32, .int v1] SH0 lg σ (some (.int r), SH0, [], lg) := by
  refine EM_of (M := xm_20) rfl rfl ?_
  unfold X1_latest at h
  refine E_sts 5 (4, [(0, .ref 32), (1, .int v1), (2, .int 0), (3, .int 0)], [], SH0, [], lg) rfl ?_
  exact e_X1_latest_L4 X σ lg _ v1 0 0 r h
