/-! what the machine answers is what the functions say (by gen/emit.py) -/
set_option maxHeartbeats 4000000 in
set_option maxRecDepth 20000 in
theorem e_X6_write_L31 (X : xX) (σ : xM) (lg : Int64) : ∀ (v1 : Int32) (v2 : Int32) (v3 : Int32) (v4 : Int32) (r : Int32 × (Nat → Int32) × (Nat → Int32)), X6_write_L31 (σ 5600) (σ 6500) (σ 6700) v1 v2 v3 v4 = some r → E XP X 3 xm_208 σ (31, [(0, .ref 52), (1, .int v1), (2, .int v2), (3, .int v3), (4, .int v4)], [], SH0, [], lg) (some (.int r.1), SH0, [(5600, r.2.1), (6700, r.2.2)], lg) := by
  intro v1 v2 v3 v4 r h
  unfold X6_write_L31 at h
  refine E_sts 2 (if v4 < 0 then 43 else 36, [(0, .ref 52), (1, .int v1), (2, .int v2), (3, .int v3), (4, .int v4)], [], SH0, [], lg) rfl ?_
  rcases x_br h with ⟨hc, h⟩ | ⟨hc, h⟩
  · refine E_itt hc ?_
    refine E_sts 10 (58, [(0, .ref 52), (1, .int v1), (2, .int v2), (3, .int v3), (4, .int v4)], [.int v1, .ref 65, .int ((40 * v1) + v2), .ref 67], SH0, [], lg) rfl ?_
    obtain ⟨hp, h⟩ := x_ite h
    refine E_par (p := inr v1 4) (59, [(0, .ref 52), (1, .int v1), (2, .int v2), (3, .int v3), (4, .int v4)], [.int ((σ 6500) v1.toNatClampNeg), .int ((40 * v1) + v2), .ref 67], SH0, [], lg) rfl hp ?_
    refine E_sts 2 (if ((σ 6500) v1.toNatClampNeg) = 8 then 64 else 69, [(0, .ref 52), (1, .int v1), (2, .int v2), (3, .int v3), (4, .int v4)], [.int ((40 * v1) + v2), .ref 67], SH0, [], lg) rfl ?_
    rcases x_br h with ⟨hc, h⟩ | ⟨hc, h⟩
    · refine E_itt hc ?_
      refine E_sts 3 (86, [(0, .ref 52), (1, .int v1), (2, .int v2), (3, .int v3), (4, .int v4)], [.int (xi2b v3), .int ((40 * v1) + v2), .ref 67], SH0, [], lg) rfl ?_
      obtain ⟨hp, h⟩ := x_ite h
      refine E_par (p := inr ((40 * v1) + v2) 160) (87, [(0, .ref 52), (1, .int v1), (2, .int v2), (3, .int v3), (4, .int v4)], [], SH0, [(6700, (upd (σ 6700) ((40 * v1) + v2).toNatClampNeg (xi2b v3)))], lg) rfl hp ?_
      obtain rfl := Option.some.inj h
      refine E_sts 2 (88, [], [.int 1], SH0, [(5600, (σ 5600)), (6700, (upd (σ 6700) ((40 * v1) + v2).toNatClampNeg (xi2b v3)))], lg) rfl ?_
      exact E_ret rfl
    · refine E_itf hc ?_
      refine E_sts 3 (74, [(0, .ref 52), (1, .int v1), (2, .int v2), (3, .int v3), (4, .int v4)], [.int v1, .ref 65, .int ((40 * v1) + v2), .ref 67], SH0, [], lg) rfl ?_
      obtain ⟨hp, h⟩ := x_ite h
      refine E_par (p := inr v1 4) (75, [(0, .ref 52), (1, .int v1), (2, .int v2), (3, .int v3), (4, .int v4)], [.int ((σ 6500) v1.toNatClampNeg), .int ((40 * v1) + v2), .ref 67], SH0, [], lg) rfl hp ?_
      refine E_sts 2 (if ((σ 6500) v1.toNatClampNeg) = 16 then 80 else 85, [(0, .ref 52), (1, .int v1), (2, .int v2), (3, .int v3), (4, .int v4)], [.int ((40 * v1) + v2), .ref 67], SH0, [], lg) rfl ?_
      rcases x_br h with ⟨hc, h⟩ | ⟨hc, h⟩
      · refine E_itt hc ?_
        refine E_sts 3 (86, [(0, .ref 52), (1, .int v1), (2, .int v2), (3, .int v3), (4, .int v4)], [.int (xi2s v3), .int ((40 * v1) + v2), .ref 67], SH0, [], lg) rfl ?_
        obtain ⟨hp, h⟩ := x_ite h
        refine E_par (p := inr ((40 * v1) + v2) 160) (87, [(0, .ref 52), (1, .int v1), (2, .int v2), (3, .int v3), (4, .int v4)], [], SH0, [(6700, (upd (σ 6700) ((40 * v1) + v2).toNatClampNeg (xi2s v3)))], lg) rfl hp ?_
        obtain rfl := Option.some.inj h
        refine E_sts 2 (88, [], [.int 1], SH0, [(5600, (σ 5600)), (6700, (upd (σ 6700) ((40 * v1) + v2).toNatClampNeg (xi2s v3)))], lg) rfl ?_
        exact E_ret rfl
      · refine E_itf hc ?_
        refine E_sts 1 (86, [(0, .ref 52), (1, .int v1), (2, .int v2), (3, .int v3), (4, .int v4)], [.int v3, .int ((40 * v1) + v2), .ref 67], SH0, [], lg) rfl ?_
        obtain ⟨hp, h⟩ := x_ite h
        refine E_par (p := inr ((40 * v1) + v2) 160) (87, [(0, .ref 52), (1, .int v1), (2, .int v2), (3, .int v3), (4, .int v4)], [], SH0, [(6700, (upd (σ 6700) ((40 * v1) + v2).toNatClampNeg v3))], lg) rfl hp ?_
        obtain rfl := Option.some.inj h
        refine E_sts 2 (88, [], [.int 1], SH0, [(5600, (σ 5600)), (6700, (upd (σ 6700) ((40 * v1) + v2).toNatClampNeg v3))], lg) rfl ?_
        exact E_ret rfl
  · refine E_itf hc ?_
    refine E_sts 2 (39, [(0, .ref 52), (1, .int v1), (2, .int v2), (3, .int v3), (4, .int v4)], [.int v4, .ref 52], SH0, [], lg) rfl ?_
    obtain ⟨r39, hr, h⟩ := x_bind h
    refine E_call rfl (e_X6_no X _ _ _ r39 hr) (by decide) ?_
    obtain rfl := Option.some.inj h
    refine E_sts 1 (42, [], [.int r39.1], SH0, [(5600, r39.2), (6700, (σ 6700))], lg) rfl ?_
    exact E_ret rfl
set_option maxHeartbeats 4000000 in
set_option maxRecDepth 20000 in
theorem e_X6_write (X : xX) (σ : xM) (lg : Int64) (v1 : Int32) (v2 : Int32) (v3 : Int32) (r : Int32 × (Nat → Int32) × (Nat → Int32)) (h : X6_write (σ 5600) (σ 6500) (σ 6600) (σ 6700) v1 v2 v3 = some r) : EM XP X 4 208 [.ref 52, .int v1, .int v2, .int v3] SH0 lg σ (some (.int r.1), SH0, [(5600, r.2.1), (6700, r.2.2)], lg) := by
  refine EM_of (M := xm_208) rfl rfl ?_
  unfold X6_write at h
  refine E_sts 2 (2, [(0, .ref 52), (1, .int v1), (2, .int v2), (3, .int v3)], [.int v1, .ref 52], SH0, [], lg) rfl ?_
  obtain ⟨r2, hr, h⟩ := x_bind h
  refine E_call rfl (e_X6_wrongSheet X _ _ _ r2 hr) (by decide) ?_
  refine E_sts 3 (if 0 ≤ r2 then 100031 else 12, [(0, .ref 52), (1, .int v1), (2, .int v2), (3, .int v3), (4, .int r2)], [], SH0, [], lg) rfl ?_
  rcases x_br h with ⟨hc, h⟩ | ⟨hc, h⟩
  · refine E_itt hc ?_
    refine E_sts 1 (31, [(0, .ref 52), (1, .int v1), (2, .int v2), (3, .int v3), (4, .int r2)], [], SH0, [], lg) rfl ?_
    exact e_X6_write_L31 X σ lg v1 v2 v3 r2 r h
  · refine E_itf hc ?_
    refine E_sts 5 (19, [(0, .ref 52), (1, .int v1), (2, .int v2), (3, .int v3), (4, .int r2)], [.int v1, .ref 66, .int 0, .int v2], SH0, [], lg) rfl ?_
    obtain ⟨hp, h⟩ := x_ite h
    refine E_par (p := inr v1 4) (20, [(0, .ref 52), (1, .int v1), (2, .int v2), (3, .int v3), (4, .int r2)], [.int ((σ 6600) v1.toNatClampNeg), .int 0, .int v2], SH0, [], lg) rfl hp ?_
    refine E_sts 2 (22, [(0, .ref 52), (1, .int v1), (2, .int v2), (3, .int v3), (4, .int r2)], [.int (((σ 6600) v1.toNatClampNeg) - 1), .int 0, .int v2], SH0, [], lg) rfl ?_
    refine E_call rfl (e_X6_in1 X _ _ _ _ _ (X6_in1 v2 0 (((σ 6600) v1.toNatClampNeg) - 1)) rfl) (by decide) ?_
    refine E_sts 1 (if (xb (X6_in1 v2 0 (((σ 6600) v1.toNatClampNeg) - 1))) = 0 then 28 else 100031, [(0, .ref 52), (1, .int v1), (2, .int v2), (3, .int v3), (4, .int r2)], [], SH0, [], lg) rfl ?_
    rcases x_br h with ⟨hc, h⟩ | ⟨hc, h⟩
    · refine E_itt hc ?_
      refine E_sts 3 (31, [(0, .ref 52), (1, .int v1), (2, .int v2), (3, .int v3), (4, .int 0)], [], SH0, [], lg) rfl ?_
      exact e_X6_write_L31 X σ lg v1 v2 v3 0 r h
    · refine E_itf hc ?_
      refine E_sts 1 (31, [(0, .ref 52), (1, .int v1), (2, .int v2), (3, .int v3), (4, .int r2)], [], SH0, [], lg) rfl ?_
      exact e_X6_write_L31 X σ lg v1 v2 v3 r2 r h
set_option maxHeartbeats 4000000 in
set_option maxRecDepth 20000 in
theorem e_X3_hasPart (X : xX) (σ : xM) (lg : Int64) (v1 : Int32) (v2 : Int32) (v3 : Int32) (r : Bool) (h : X3_hasPart (σ 5000) v1 v2 v3 = some r) : EM XP X 2 48 [.ref 48, .int v1, .int v2, .int v3] SH0 lg σ (some (.int (xb r)), SH0, [], lg) := by
  refine EM_of (M := xm_48) rfl rfl ?_
  unfold X3_hasPart at h
  refine E_sts 2 (if v3 < 0 then 34 else 4, [(0, .ref 48), (1, .int v1), (2, .int v2), (3, .int v3)], [], SH0, [], lg) rfl ?_
  rcases x_br h with ⟨hc, h⟩ | ⟨hc, h⟩
  · refine E_itt hc ?_
    obtain rfl := Option.some.inj h
    refine E_sts 1 (35, [(0, .ref 48), (1, .int v1), (2, .int v2), (3, .int v3)], [.int 0], SH0, [], lg) rfl ?_
    exact E_retp (p := (0 : Int32) = 0 ∨ (0 : Int32) = 1) rfl (by decide)
  · refine E_itf hc ?_
    refine E_sts 5 (11, [(0, .ref 48), (1, .int v1), (2, .int v2), (3, .int v3)], [.int v1, .ref 50, .int 0, .int v2], SH0, [], lg) rfl ?_
    obtain ⟨hp, h⟩ := x_ite h
    refine E_par (p := inr v1 4) (12, [(0, .ref 48), (1, .int v1), (2, .int v2), (3, .int v3)], [.int ((σ 5000) v1.toNatClampNeg), .int 0, .int v2], SH0, [], lg) rfl hp ?_
    refine E_call rfl (e_X5_isIn X _ _ _ _ _ (X5_isIn v2 0 ((σ 5000) v1.toNatClampNeg)) rfl) (by decide) ?_
    refine E_sts 1 (if (xb (X5_isIn v2 0 ((σ 5000) v1.toNatClampNeg))) = 0 then 34 else 18, [(0, .ref 48), (1, .int v1), (2, .int v2), (3, .int v3)], [], SH0, [], lg) rfl ?_
    rcases x_br h with ⟨hc, h⟩ | ⟨hc, h⟩
    · refine E_itt hc ?_
      obtain rfl := Option.some.inj h
      refine E_sts 1 (35, [(0, .ref 48), (1, .int v1), (2, .int v2), (3, .int v3)], [.int 0], SH0, [], lg) rfl ?_
      exact E_retp (p := (0 : Int32) = 0 ∨ (0 : Int32) = 1) rfl (by decide)
    · refine E_itf hc ?_
      refine E_sts 4 (24, [(0, .ref 48), (1, .int v1), (2, .int v2), (3, .int v3)], [.int v1, .ref 50, .int v3], SH0, [], lg) rfl ?_
      obtain ⟨hp, h⟩ := x_ite h
      refine E_par (p := inr v1 4) (25, [(0, .ref 48), (1, .int v1), (2, .int v2), (3, .int v3)], [.int ((σ 5000) v1.toNatClampNeg), .int v3], SH0, [], lg) rfl hp ?_
      refine E_sts 3 (if (((σ 5000) v1.toNatClampNeg) - v2) < v3 then 34 else 30, [(0, .ref 48), (1, .int v1), (2, .int v2), (3, .int v3)], [], SH0, [], lg) rfl ?_
      rcases x_br h with ⟨hc, h⟩ | ⟨hc, h⟩
      · refine E_itt hc ?_
        obtain rfl := Option.some.inj h
        refine E_sts 1 (35, [(0, .ref 48), (1, .int v1), (2, .int v2), (3, .int v3)], [.int 0], SH0, [], lg) rfl ?_
        exact E_retp (p := (0 : Int32) = 0 ∨ (0 : Int32) = 1) rfl (by decide)
      · refine E_itf hc ?_
        obtain rfl := Option.some.inj h
        refine E_sts 2 (35, [(0, .ref 48), (1, .int v1), (2, .int v2), (3, .int v3)], [.int 1], SH0, [], lg) rfl ?_
        exact E_retp (p := (1 : Int32) = 0 ∨ (1 : Int32) = 1) rfl (by decide)
set_option maxHeartbeats 4000000 in
set_option maxRecDepth 20000 in
theorem e_X3_move (X : xX) (σ : xM) (lg : Int64) (v1 : Int32) (v2 : Int32) (v3 : Int32) (v4 : Int32) (v5 : Int32) (r : Int32 × (Nat → Int32)) (h : X3_move (σ 5100) v1 v2 v3 v4 v5 = some r) : EM XP X 1 49 [.ref 48, .int v1, .int v2, .int v3, .int v4, .int v5] SH0 lg σ (some (.int r.1), SH0, [(5100, r.2)], lg) := by
  refine EM_of (M := xm_49) rfl rfl ?_
  unfold X3_move at h
  refine E_sts 15 (23, [(0, .ref 48), (1, .int v1), (2, .int v2), (3, .int v3), (4, .int v4), (5, .int v5)], [.int v5, .int ((v3 * 40) + v4), .ref 51, .int ((v1 * 40) + v2), .ref 51], SH0, [], lg) rfl ?_
  obtain ⟨hp, h⟩ := x_ite h
  refine E_par (p := 0 ≤ Int32.toInt ((v1 * 40) + v2) ∧ 0 ≤ Int32.toInt ((v3 * 40) + v4) ∧ 0 ≤ Int32.toInt v5 ∧ Int32.toInt ((v1 * 40) + v2) + Int32.toInt v5 ≤ ((160 : Nat) : Int) ∧ Int32.toInt ((v3 * 40) + v4) + Int32.toInt v5 ≤ ((160 : Nat) : Int)) (26, [(0, .ref 48), (1, .int v1), (2, .int v2), (3, .int v3), (4, .int v4), (5, .int v5)], [], SH0, [(5100, (va_cpy (σ 5100) (σ 5100) (Int32.toNatClampNeg ((v1 * 40) + v2)) (Int32.toNatClampNeg ((v3 * 40) + v4)) (Int32.toNatClampNeg v5)))], lg) rfl hp ?_
  obtain rfl := Option.some.inj h
  refine E_sts 1 (28, [(0, .ref 48), (1, .int v1), (2, .int v2), (3, .int v3), (4, .int v4), (5, .int v5)], [.int v5], SH0, [(5100, (va_cpy (σ 5100) (σ 5100) (Int32.toNatClampNeg ((v1 * 40) + v2)) (Int32.toNatClampNeg ((v3 * 40) + v4)) (Int32.toNatClampNeg v5)))], lg) rfl ?_
  exact E_ret rfl
set_option maxHeartbeats 4000000 in
set_option maxRecDepth 20000 in
theorem e_X5_copy (X : xX) (σ : xM) (lg : Int64) (v1 : Int32) (v2 : Int32) (v3 : Int32) (v4 : Int32) (v5 : Int32) (r : Int32 × (Nat → Int32) × (Nat → Int32)) (h : X5_copy (σ 100) (σ 4900) (σ 5000) (σ 5100) v1 v2 v3 v4 v5 = some r) : EM XP X 4 106 [.ref 0, .int v1, .int v2, .int v3, .int v4, .int v5] SH0 lg σ (some (.int r.1), SH0, [(100, r.2.1), (5100, r.2.2)], lg) := by
  refine EM_of (M := xm_106) rfl rfl ?_
  unfold X5_copy at h
  refine E_sts 3 (5, [(0, .ref 0), (1, .int v1), (2, .int v2), (3, .int v3), (4, .int v4), (5, .int v5)], [.int v1, .ref 48], SH0, [], lg) rfl ?_
  refine E_call rfl (e_X3_isSheet X _ _ _ (X3_isSheet v1) rfl) (by decide) ?_
  refine E_sts 1 (if (xb (X3_isSheet v1)) = 0 then 22 else 11, [(0, .ref 0), (1, .int v1), (2, .int v2), (3, .int v3), (4, .int v4), (5, .int v5)], [], SH0, [], lg) rfl ?_
  rcases x_br h with ⟨hc, h⟩ | ⟨hc, h⟩
  · refine E_itt hc ?_
    refine E_sts 2 (24, [(0, .ref 0), (1, .int v1), (2, .int v2), (3, .int v3), (4, .int v4), (5, .int v5)], [.int 0, .ref 0], SH0, [], lg) rfl ?_
    obtain ⟨r24, hr, h⟩ := x_bind h
    refine E_call rfl (e_X5_finding X _ _ _ r24 hr) (by decide) ?_
    obtain rfl := Option.some.inj h
    refine E_sts 1 (27, [], [.int r24.1], SH0, [(100, r24.2), (5100, (σ 5100))], lg) rfl ?_
    exact E_ret rfl
  · refine E_itf hc ?_
    refine E_sts 3 (16, [(0, .ref 0), (1, .int v1), (2, .int v2), (3, .int v3), (4, .int v4), (5, .int v5)], [.int v3, .ref 48], SH0, [], lg) rfl ?_
    refine E_call rfl (e_X3_isSheet X _ _ _ (X3_isSheet v3) rfl) (by decide) ?_
    refine E_sts 1 (if (xb (X3_isSheet v3)) = 0 then 22 else 28, [(0, .ref 0), (1, .int v1), (2, .int v2), (3, .int v3), (4, .int v4), (5, .int v5)], [], SH0, [], lg) rfl ?_
    rcases x_br h with ⟨hc, h⟩ | ⟨hc, h⟩
    · refine E_itt hc ?_
      refine E_sts 2 (24, [(0, .ref 0), (1, .int v1), (2, .int v2), (3, .int v3), (4, .int v4), (5, .int v5)], [.int 0, .ref 0], SH0, [], lg) rfl ?_
      obtain ⟨r24_1, hr, h⟩ := x_bind h
      refine E_call rfl (e_X5_finding X _ _ _ r24_1 hr) (by decide) ?_
      obtain rfl := Option.some.inj h
      refine E_sts 1 (27, [], [.int r24_1.1], SH0, [(100, r24_1.2), (5100, (σ 5100))], lg) rfl ?_
      exact E_ret rfl
    · refine E_itf hc ?_
      refine E_sts 3 (33, [(0, .ref 0), (1, .int v1), (2, .int v2), (3, .int v3), (4, .int v4), (5, .int v5)], [.int v1, .ref 48], SH0, [], lg) rfl ?_
      obtain ⟨r33, hr, h⟩ := x_bind h
      refine E_call rfl (e_X3_wrongWith X _ _ _ r33 hr) (by decide) ?_
      refine E_sts 2 (if r33 = (-1) then 40 else 52, [(0, .ref 0), (1, .int v1), (2, .int v2), (3, .int v3), (4, .int v4), (5, .int v5)], [], SH0, [], lg) rfl ?_
      rcases x_br h with ⟨hc, h⟩ | ⟨hc, h⟩
      · refine E_itt hc ?_
        refine E_sts 3 (45, [(0, .ref 0), (1, .int v1), (2, .int v2), (3, .int v3), (4, .int v4), (5, .int v5)], [.int v3, .ref 48], SH0, [], lg) rfl ?_
        obtain ⟨r45, hr, h⟩ := x_bind h
        refine E_call rfl (e_X3_wrongWith X _ _ _ r45 hr) (by decide) ?_
        refine E_sts 2 (if r45 = (-1) then 58 else 52, [(0, .ref 0), (1, .int v1), (2, .int v2), (3, .int v3), (4, .int v4), (5, .int v5)], [], SH0, [], lg) rfl ?_
        rcases x_br h with ⟨hc, h⟩ | ⟨hc, h⟩
        · refine E_itt hc ?_
          refine E_sts 4 (66, [(0, .ref 0), (1, .int v1), (2, .int v2), (3, .int v3), (4, .int v4), (5, .int v5)], [.int v1, .ref 49], SH0, [], lg) rfl ?_
          obtain ⟨hp, h⟩ := x_ite h
          refine E_par (p := inr v1 4) (67, [(0, .ref 0), (1, .int v1), (2, .int v2), (3, .int v3), (4, .int v4), (5, .int v5)], [.int ((σ 4900) v1.toNatClampNeg)], SH0, [], lg) rfl hp ?_
          refine E_sts 4 (75, [(0, .ref 0), (1, .int v1), (2, .int v2), (3, .int v3), (4, .int v4), (5, .int v5)], [.int v3, .ref 49, .int ((σ 4900) v1.toNatClampNeg)], SH0, [], lg) rfl ?_
          obtain ⟨hp, h⟩ := x_ite h
          refine E_par (p := inr v3 4) (76, [(0, .ref 0), (1, .int v1), (2, .int v2), (3, .int v3), (4, .int v4), (5, .int v5)], [.int ((σ 4900) v3.toNatClampNeg), .int ((σ 4900) v1.toNatClampNeg)], SH0, [], lg) rfl hp ?_
          refine E_sts 1 (if ((σ 4900) v1.toNatClampNeg) = ((σ 4900) v3.toNatClampNeg) then 85 else 79, [(0, .ref 0), (1, .int v1), (2, .int v2), (3, .int v3), (4, .int v4), (5, .int v5)], [], SH0, [], lg) rfl ?_
          rcases x_br h with ⟨hc, h⟩ | ⟨hc, h⟩
          · refine E_itt hc ?_
            refine E_sts 5 (93, [(0, .ref 0), (1, .int v1), (2, .int v2), (3, .int v3), (4, .int v4), (5, .int v5)], [.int v5, .int v2, .int v1, .ref 48], SH0, [], lg) rfl ?_
            obtain ⟨r93, hr, h⟩ := x_bind h
            refine E_call rfl (e_X3_hasPart X _ _ _ _ _ r93 hr) (by decide) ?_
            refine E_sts 1 (if (xb r93) = 0 then 114 else 99, [(0, .ref 0), (1, .int v1), (2, .int v2), (3, .int v3), (4, .int v4), (5, .int v5)], [], SH0, [], lg) rfl ?_
            rcases x_br h with ⟨hc, h⟩ | ⟨hc, h⟩
            · refine E_itt hc ?_
              refine E_sts 2 (116, [(0, .ref 0), (1, .int v1), (2, .int v2), (3, .int v3), (4, .int v4), (5, .int v5)], [.int 0, .ref 0], SH0, [], lg) rfl ?_
              obtain ⟨r116, hr, h⟩ := x_bind h
              refine E_call rfl (e_X5_finding X _ _ _ r116 hr) (by decide) ?_
              obtain rfl := Option.some.inj h
              refine E_sts 1 (119, [], [.int r116.1], SH0, [(100, r116.2), (5100, (σ 5100))], lg) rfl ?_
              exact E_ret rfl
            · refine E_itf hc ?_
              refine E_sts 5 (108, [(0, .ref 0), (1, .int v1), (2, .int v2), (3, .int v3), (4, .int v4), (5, .int v5)], [.int v5, .int v4, .int v3, .ref 48], SH0, [], lg) rfl ?_
              obtain ⟨r108, hr, h⟩ := x_bind h
              refine E_call rfl (e_X3_hasPart X _ _ _ _ _ r108 hr) (by decide) ?_
              refine E_sts 1 (if (xb r108) = 0 then 114 else 120, [(0, .ref 0), (1, .int v1), (2, .int v2), (3, .int v3), (4, .int v4), (5, .int v5)], [], SH0, [], lg) rfl ?_
              rcases x_br h with ⟨hc, h⟩ | ⟨hc, h⟩
              · refine E_itt hc ?_
                refine E_sts 2 (116, [(0, .ref 0), (1, .int v1), (2, .int v2), (3, .int v3), (4, .int v4), (5, .int v5)], [.int 0, .ref 0], SH0, [], lg) rfl ?_
                obtain ⟨r116_1, hr, h⟩ := x_bind h
                refine E_call rfl (e_X5_finding X _ _ _ r116_1 hr) (by decide) ?_
                obtain rfl := Option.some.inj h
                refine E_sts 1 (119, [], [.int r116_1.1], SH0, [(100, r116_1.2), (5100, (σ 5100))], lg) rfl ?_
                exact E_ret rfl
              · refine E_itf hc ?_
                refine E_sts 7 (131, [(0, .ref 0), (1, .int v1), (2, .int v2), (3, .int v3), (4, .int v4), (5, .int v5)], [.int v5, .int v4, .int v3, .int v2, .int v1, .ref 48], SH0, [], lg) rfl ?_
                obtain ⟨r131, hr, h⟩ := x_bind h
                refine E_call rfl (e_X3_move X _ _ _ _ _ _ _ r131 hr) (by decide) ?_
                obtain rfl := Option.some.inj h
                refine E_sts 1 (134, [], [.int r131.1], SH0, [(100, (σ 100)), (5100, r131.2)], lg) rfl ?_
                exact E_ret rfl
          · refine E_itf hc ?_
            refine E_sts 2 (81, [(0, .ref 0), (1, .int v1), (2, .int v2), (3, .int v3), (4, .int v4), (5, .int v5)], [.int 2, .ref 0], SH0, [], lg) rfl ?_
            obtain ⟨r81, hr, h⟩ := x_bind h
            refine E_call rfl (e_X5_finding X _ _ _ r81 hr) (by decide) ?_
            obtain rfl := Option.some.inj h
            refine E_sts 1 (84, [], [.int r81.1], SH0, [(100, r81.2), (5100, (σ 5100))], lg) rfl ?_
            exact E_ret rfl
        · refine E_itf hc ?_
          refine E_sts 2 (54, [(0, .ref 0), (1, .int v1), (2, .int v2), (3, .int v3), (4, .int v4), (5, .int v5)], [.int 5, .ref 0], SH0, [], lg) rfl ?_
          obtain ⟨r54, hr, h⟩ := x_bind h
          refine E_call rfl (e_X5_finding X _ _ _ r54 hr) (by decide) ?_
          obtain rfl := Option.some.inj h
          refine E_sts 1 (57, [], [.int r54.1], SH0, [(100, r54.2), (5100, (σ 5100))], lg) rfl ?_
          exact E_ret rfl
      · refine E_itf hc ?_
        refine E_sts 2 (54, [(0, .ref 0), (1, .int v1), (2, .int v2), (3, .int v3), (4, .int v4), (5, .int v5)], [.int 5, .ref 0], SH0, [], lg) rfl ?_
        obtain ⟨r54_1, hr, h⟩ := x_bind h
        refine E_call rfl (e_X5_finding X _ _ _ r54_1 hr) (by decide) ?_
        obtain rfl := Option.some.inj h
        refine E_sts 1 (57, [], [.int r54_1.1], SH0, [(100, r54_1.2), (5100, (σ 5100))], lg) rfl ?_
        exact E_ret rfl
set_option maxHeartbeats 4000000 in
set_option maxRecDepth 20000 in
theorem e_X6_copy_L152 (X : xX) (σ : xM) (lg : Int64) : ∀ (n : Nat), ∀ (v3 : Int32) (v4 : Int32) (v5 : Int32) (v6 : Int32) (m_cells_ : (Nat → Int32)) (m_carried_ : (Nat → Int32)) (r : Int32 × (Nat → Int32) × (Nat → Int32) × (Nat → Int32)), X6_copy_L152 (σ 5600) n v3 v4 v5 v6 m_cells_ m_carried_ = some r → E XP X 2 xm_209 σ (152, [(0, .ref 52), (3, .int v3), (4, .int v4), (5, .int v5), (6, .int v6)], [], SH0, [(6700, m_cells_), (6800, m_carried_)], lg) (some (.int r.1), SH0, [(5600, r.2.1), (6700, r.2.2.1), (6800, r.2.2.2)], lg) := by
  intro n
  induction n with
  | zero => intro v3 v4 v5 v6 m_cells_ m_carried_ r h; rw [X6_copy_L152] at h; cases h
  | succ n ih =>
    intro v3 v4 v5 v6 m_cells_ m_carried_ r h
    rw [X6_copy_L152] at h
    refine E_sts 3 (if v5 ≤ v6 then 187 else 159, [(0, .ref 52), (3, .int v3), (4, .int v4), (5, .int v5), (6, .int v6)], [], SH0, [(6700, m_cells_), (6800, m_carried_)], lg) rfl ?_
    rcases x_br h with ⟨hc, h⟩ | ⟨hc, h⟩
    · refine E_itt hc ?_
      obtain rfl := Option.some.inj h
      refine E_sts 2 (189, [], [.int v5], SH0, [(5600, (σ 5600)), (6700, m_cells_), (6800, m_carried_)], lg) rfl ?_
      exact E_ret rfl
    · refine E_itf hc ?_
      refine E_sts 12 (179, [(0, .ref 52), (3, .int v3), (4, .int v4), (5, .int v5), (6, .int v6)], [.int v6, .ref 68, .int (((40 * v3) + v4) + v6), .ref 67], SH0, [(6700, m_cells_), (6800, m_carried_)], lg) rfl ?_
      obtain ⟨hp, h⟩ := x_ite h
      refine E_par (p := inr v6 40) (180, [(0, .ref 52), (3, .int v3), (4, .int v4), (5, .int v5), (6, .int v6)], [.int (m_carried_ v6.toNatClampNeg), .int (((40 * v3) + v4) + v6), .ref 67], SH0, [(6700, m_cells_), (6800, m_carried_)], lg) rfl hp ?_
      obtain ⟨hp, h⟩ := x_ite h
      refine E_par (p := inr (((40 * v3) + v4) + v6) 160) (181, [(0, .ref 52), (3, .int v3), (4, .int v4), (5, .int v5), (6, .int v6)], [], SH0, [(6700, (upd m_cells_ (((40 * v3) + v4) + v6).toNatClampNeg (m_carried_ v6.toNatClampNeg))), (6800, m_carried_)], lg) rfl hp ?_
      refine E_sts 3 (152, [(0, .ref 52), (3, .int v3), (4, .int v4), (5, .int v5), (6, .int (v6 + 1))], [], SH0, [(6700, (upd m_cells_ (((40 * v3) + v4) + v6).toNatClampNeg (m_carried_ v6.toNatClampNeg))), (6800, m_carried_)], lg) rfl ?_
      exact ih v3 v4 v5 (v6 + 1) (upd m_cells_ (((40 * v3) + v4) + v6).toNatClampNeg (m_carried_ v6.toNatClampNeg)) m_carried_ r h
set_option maxHeartbeats 4000000 in
set_option maxRecDepth 20000 in
theorem e_X6_copy_L115 (X : xX) (σ : xM) (lg : Int64) : ∀ (n : Nat), ∀ (v1 : Int32) (v2 : Int32) (v3 : Int32) (v4 : Int32) (v5 : Int32) (v6 : Int32) (m_carried_ : (Nat → Int32)) (r : Int32 × (Nat → Int32) × (Nat → Int32) × (Nat → Int32)), X6_copy_L115 (σ 5600) (σ 6700) n v1 v2 v3 v4 v5 v6 m_carried_ = some r → E XP X 2 xm_209 σ (115, [(0, .ref 52), (1, .int v1), (2, .int v2), (3, .int v3), (4, .int v4), (5, .int v5), (6, .int v6)], [], SH0, [(6800, m_carried_)], lg) (some (.int r.1), SH0, [(5600, r.2.1), (6700, r.2.2.1), (6800, r.2.2.2)], lg) := by
  intro n
  induction n with
  | zero => intro v1 v2 v3 v4 v5 v6 m_carried_ r h; rw [X6_copy_L115] at h; cases h
  | succ n ih =>
    intro v1 v2 v3 v4 v5 v6 m_carried_ r h
    rw [X6_copy_L115] at h
    refine E_sts 3 (if v5 ≤ v6 then 149 else 122, [(0, .ref 52), (1, .int v1), (2, .int v2), (3, .int v3), (4, .int v4), (5, .int v5), (6, .int v6)], [], SH0, [(6800, m_carried_)], lg) rfl ?_
    rcases x_br h with ⟨hc, h⟩ | ⟨hc, h⟩
    · refine E_itt hc ?_
      refine E_sts 3 (152, [(0, .ref 52), (3, .int v3), (4, .int v4), (5, .int v5), (6, .int 0)], [], SH0, [(6700, (σ 6700)), (6800, m_carried_)], lg) rfl ?_
      exact e_X6_copy_L152 X σ lg _ v3 v4 v5 0 (σ 6700) m_carried_ r h
    · refine E_itf hc ?_
      refine E_sts 12 (141, [(0, .ref 52), (1, .int v1), (2, .int v2), (3, .int v3), (4, .int v4), (5, .int v5), (6, .int v6)], [.int (((40 * v1) + v2) + v6), .ref 67, .int v6, .ref 68], SH0, [(6800, m_carried_)], lg) rfl ?_
      obtain ⟨hp, h⟩ := x_ite h
      refine E_par (p := inr (((40 * v1) + v2) + v6) 160) (142, [(0, .ref 52), (1, .int v1), (2, .int v2), (3, .int v3), (4, .int v4), (5, .int v5), (6, .int v6)], [.int ((σ 6700) (((40 * v1) + v2) + v6).toNatClampNeg), .int v6, .ref 68], SH0, [(6800, m_carried_)], lg) rfl hp ?_
      obtain ⟨hp, h⟩ := x_ite h
      refine E_par (p := inr v6 40) (143, [(0, .ref 52), (1, .int v1), (2, .int v2), (3, .int v3), (4, .int v4), (5, .int v5), (6, .int v6)], [], SH0, [(6800, (upd m_carried_ v6.toNatClampNeg ((σ 6700) (((40 * v1) + v2) + v6).toNatClampNeg)))], lg) rfl hp ?_
      refine E_sts 3 (115, [(0, .ref 52), (1, .int v1), (2, .int v2), (3, .int v3), (4, .int v4), (5, .int v5), (6, .int (v6 + 1))], [], SH0, [(6800, (upd m_carried_ v6.toNatClampNeg ((σ 6700) (((40 * v1) + v2) + v6).toNatClampNeg)))], lg) rfl ?_
      exact ih v1 v2 v3 v4 v5 (v6 + 1) (upd m_carried_ v6.toNatClampNeg ((σ 6700) (((40 * v1) + v2) + v6).toNatClampNeg)) r h
set_option maxHeartbeats 4000000 in
set_option maxRecDepth 20000 in
theorem e_X6_copy (X : xX) (σ : xM) (lg : Int64) (v1 : Int32) (v2 : Int32) (v3 : Int32) (v4 : Int32) (v5 : Int32) (r : Int32 × (Nat → Int32) × (Nat → Int32) × (Nat → Int32)) (h : X6_copy (σ 5600) (σ 6500) (σ 6600) (σ 6700) (σ 6800) v1 v2 v3 v4 v5 = some r) : EM XP X 3 209 [.ref 52, .int v1, .int v2, .int v3, .int v4, .int v5] SH0 lg σ (some (.int r.1), SH0, [(5600, r.2.1), (6700, r.2.2.1), (6800, r.2.2.2)], lg) := by
  refine EM_of (M := xm_209) rfl rfl ?_
  unfold X6_copy at h
  refine E_sts 1 (1, [(0, .ref 52), (1, .int v1), (2, .int v2), (3, .int v3), (4, .int v4), (5, .int v5)], [.int v1], SH0, [], lg) rfl ?_
  refine E_call rfl (e_X6_isSheet X _ _ _ (X6_isSheet v1) rfl) (by decide) ?_
  refine E_sts 1 (if (xb (X6_isSheet v1)) = 0 then 14 else 7, [(0, .ref 52), (1, .int v1), (2, .int v2), (3, .int v3), (4, .int v4), (5, .int v5)], [], SH0, [], lg) rfl ?_
  rcases x_br h with ⟨hc, h⟩ | ⟨hc, h⟩
  · refine E_itt hc ?_
    refine E_sts 2 (16, [(0, .ref 52), (1, .int v1), (2, .int v2), (3, .int v3), (4, .int v4), (5, .int v5)], [.int 0, .ref 52], SH0, [], lg) rfl ?_
    obtain ⟨r16, hr, h⟩ := x_bind h
    refine E_call rfl (e_X6_no X _ _ _ r16 hr) (by decide) ?_
    obtain rfl := Option.some.inj h
    refine E_sts 1 (19, [], [.int r16.1], SH0, [(5600, r16.2), (6700, (σ 6700)), (6800, (σ 6800))], lg) rfl ?_
    exact E_ret rfl
  · refine E_itf hc ?_
    refine E_sts 1 (8, [(0, .ref 52), (1, .int v1), (2, .int v2), (3, .int v3), (4, .int v4), (5, .int v5)], [.int v3], SH0, [], lg) rfl ?_
    refine E_call rfl (e_X6_isSheet X _ _ _ (X6_isSheet v3) rfl) (by decide) ?_
    refine E_sts 1 (if (xb (X6_isSheet v3)) = 0 then 14 else 20, [(0, .ref 52), (1, .int v1), (2, .int v2), (3, .int v3), (4, .int v4), (5, .int v5)], [], SH0, [], lg) rfl ?_
    rcases x_br h with ⟨hc, h⟩ | ⟨hc, h⟩
    · refine E_itt hc ?_
      refine E_sts 2 (16, [(0, .ref 52), (1, .int v1), (2, .int v2), (3, .int v3), (4, .int v4), (5, .int v5)], [.int 0, .ref 52], SH0, [], lg) rfl ?_
      obtain ⟨r16_1, hr, h⟩ := x_bind h
      refine E_call rfl (e_X6_no X _ _ _ r16_1 hr) (by decide) ?_
      obtain rfl := Option.some.inj h
      refine E_sts 1 (19, [], [.int r16_1.1], SH0, [(5600, r16_1.2), (6700, (σ 6700)), (6800, (σ 6800))], lg) rfl ?_
      exact E_ret rfl
    · refine E_itf hc ?_
      refine E_sts 3 (25, [(0, .ref 52), (1, .int v1), (2, .int v2), (3, .int v3), (4, .int v4), (5, .int v5)], [.int v1, .ref 65], SH0, [], lg) rfl ?_
      obtain ⟨hp, h⟩ := x_ite h
      refine E_par (p := inr v1 4) (26, [(0, .ref 52), (1, .int v1), (2, .int v2), (3, .int v3), (4, .int v4), (5, .int v5)], [.int ((σ 6500) v1.toNatClampNeg)], SH0, [], lg) rfl hp ?_
      refine E_sts 1 (if ((σ 6500) v1.toNatClampNeg) = 0 then 38 else 29, [(0, .ref 52), (1, .int v1), (2, .int v2), (3, .int v3), (4, .int v4), (5, .int v5)], [], SH0, [], lg) rfl ?_
      rcases x_br h with ⟨hc, h⟩ | ⟨hc, h⟩
      · refine E_itt hc ?_
        refine E_sts 2 (40, [(0, .ref 52), (1, .int v1), (2, .int v2), (3, .int v3), (4, .int v4), (5, .int v5)], [.int 5, .ref 52], SH0, [], lg) rfl ?_
        obtain ⟨r40, hr, h⟩ := x_bind h
        refine E_call rfl (e_X6_no X _ _ _ r40 hr) (by decide) ?_
        obtain rfl := Option.some.inj h
        refine E_sts 1 (43, [], [.int r40.1], SH0, [(5600, r40.2), (6700, (σ 6700)), (6800, (σ 6800))], lg) rfl ?_
        exact E_ret rfl
      · refine E_itf hc ?_
        refine E_sts 3 (34, [(0, .ref 52), (1, .int v1), (2, .int v2), (3, .int v3), (4, .int v4), (5, .int v5)], [.int v3, .ref 65], SH0, [], lg) rfl ?_
        obtain ⟨hp, h⟩ := x_ite h
        refine E_par (p := inr v3 4) (35, [(0, .ref 52), (1, .int v1), (2, .int v2), (3, .int v3), (4, .int v4), (5, .int v5)], [.int ((σ 6500) v3.toNatClampNeg)], SH0, [], lg) rfl hp ?_
        refine E_sts 1 (if ((σ 6500) v3.toNatClampNeg) = 0 then 38 else 44, [(0, .ref 52), (1, .int v1), (2, .int v2), (3, .int v3), (4, .int v4), (5, .int v5)], [], SH0, [], lg) rfl ?_
        rcases x_br h with ⟨hc, h⟩ | ⟨hc, h⟩
        · refine E_itt hc ?_
          refine E_sts 2 (40, [(0, .ref 52), (1, .int v1), (2, .int v2), (3, .int v3), (4, .int v4), (5, .int v5)], [.int 5, .ref 52], SH0, [], lg) rfl ?_
          obtain ⟨r40_1, hr, h⟩ := x_bind h
          refine E_call rfl (e_X6_no X _ _ _ r40_1 hr) (by decide) ?_
          obtain rfl := Option.some.inj h
          refine E_sts 1 (43, [], [.int r40_1.1], SH0, [(5600, r40_1.2), (6700, (σ 6700)), (6800, (σ 6800))], lg) rfl ?_
          exact E_ret rfl
        · refine E_itf hc ?_
          refine E_sts 3 (49, [(0, .ref 52), (1, .int v1), (2, .int v2), (3, .int v3), (4, .int v4), (5, .int v5)], [.int v1, .ref 65], SH0, [], lg) rfl ?_
          obtain ⟨hp, h⟩ := x_ite h
          refine E_par (p := inr v1 4) (50, [(0, .ref 52), (1, .int v1), (2, .int v2), (3, .int v3), (4, .int v4), (5, .int v5)], [.int ((σ 6500) v1.toNatClampNeg)], SH0, [], lg) rfl hp ?_
          refine E_sts 3 (55, [(0, .ref 52), (1, .int v1), (2, .int v2), (3, .int v3), (4, .int v4), (5, .int v5)], [.int v3, .ref 65, .int ((σ 6500) v1.toNatClampNeg)], SH0, [], lg) rfl ?_
          obtain ⟨hp, h⟩ := x_ite h
          refine E_par (p := inr v3 4) (56, [(0, .ref 52), (1, .int v1), (2, .int v2), (3, .int v3), (4, .int v4), (5, .int v5)], [.int ((σ 6500) v3.toNatClampNeg), .int ((σ 6500) v1.toNatClampNeg)], SH0, [], lg) rfl hp ?_
          refine E_sts 1 (if ((σ 6500) v1.toNatClampNeg) = ((σ 6500) v3.toNatClampNeg) then 65 else 59, [(0, .ref 52), (1, .int v1), (2, .int v2), (3, .int v3), (4, .int v4), (5, .int v5)], [], SH0, [], lg) rfl ?_
          rcases x_br h with ⟨hc, h⟩ | ⟨hc, h⟩
          · refine E_itt hc ?_
            refine E_sts 2 (if v5 < 0 then 106 else 70, [(0, .ref 52), (1, .int v1), (2, .int v2), (3, .int v3), (4, .int v4), (5, .int v5)], [], SH0, [], lg) rfl ?_
            rcases x_br h with ⟨hc, h⟩ | ⟨hc, h⟩
            · refine E_itt hc ?_
              refine E_sts 2 (108, [(0, .ref 52), (1, .int v1), (2, .int v2), (3, .int v3), (4, .int v4), (5, .int v5)], [.int 0, .ref 52], SH0, [], lg) rfl ?_
              obtain ⟨r108, hr, h⟩ := x_bind h
              refine E_call rfl (e_X6_no X _ _ _ r108 hr) (by decide) ?_
              obtain rfl := Option.some.inj h
              refine E_sts 1 (111, [], [.int r108.1], SH0, [(5600, r108.2), (6700, (σ 6700)), (6800, (σ 6800))], lg) rfl ?_
              exact E_ret rfl
            · refine E_itf hc ?_
              refine E_sts 2 (if v2 < 0 then 106 else 74, [(0, .ref 52), (1, .int v1), (2, .int v2), (3, .int v3), (4, .int v4), (5, .int v5)], [], SH0, [], lg) rfl ?_
              rcases x_br h with ⟨hc, h⟩ | ⟨hc, h⟩
              · refine E_itt hc ?_
                refine E_sts 2 (108, [(0, .ref 52), (1, .int v1), (2, .int v2), (3, .int v3), (4, .int v4), (5, .int v5)], [.int 0, .ref 52], SH0, [], lg) rfl ?_
                obtain ⟨r108_1, hr, h⟩ := x_bind h
                refine E_call rfl (e_X6_no X _ _ _ r108_1 hr) (by decide) ?_
                obtain rfl := Option.some.inj h
                refine E_sts 1 (111, [], [.int r108_1.1], SH0, [(5600, r108_1.2), (6700, (σ 6700)), (6800, (σ 6800))], lg) rfl ?_
                exact E_ret rfl
              · refine E_itf hc ?_
                refine E_sts 2 (if v4 < 0 then 106 else 79, [(0, .ref 52), (1, .int v1), (2, .int v2), (3, .int v3), (4, .int v4), (5, .int v5)], [], SH0, [], lg) rfl ?_
                rcases x_br h with ⟨hc, h⟩ | ⟨hc, h⟩
                · refine E_itt hc ?_
                  refine E_sts 2 (108, [(0, .ref 52), (1, .int v1), (2, .int v2), (3, .int v3), (4, .int v4), (5, .int v5)], [.int 0, .ref 52], SH0, [], lg) rfl ?_
                  obtain ⟨r108_2, hr, h⟩ := x_bind h
                  refine E_call rfl (e_X6_no X _ _ _ r108_2 hr) (by decide) ?_
                  obtain rfl := Option.some.inj h
                  refine E_sts 1 (111, [], [.int r108_2.1], SH0, [(5600, r108_2.2), (6700, (σ 6700)), (6800, (σ 6800))], lg) rfl ?_
                  exact E_ret rfl
                · refine E_itf hc ?_
                  refine E_sts 4 (85, [(0, .ref 52), (1, .int v1), (2, .int v2), (3, .int v3), (4, .int v4), (5, .int v5)], [.int v1, .ref 66, .int v2], SH0, [], lg) rfl ?_
                  obtain ⟨hp, h⟩ := x_ite h
                  refine E_par (p := inr v1 4) (86, [(0, .ref 52), (1, .int v1), (2, .int v2), (3, .int v3), (4, .int v4), (5, .int v5)], [.int ((σ 6600) v1.toNatClampNeg), .int v2], SH0, [], lg) rfl hp ?_
                  refine E_sts 3 (if (((σ 6600) v1.toNatClampNeg) - v5) < v2 then 106 else 92, [(0, .ref 52), (1, .int v1), (2, .int v2), (3, .int v3), (4, .int v4), (5, .int v5)], [], SH0, [], lg) rfl ?_
                  rcases x_br h with ⟨hc, h⟩ | ⟨hc, h⟩
                  · refine E_itt hc ?_
                    refine E_sts 2 (108, [(0, .ref 52), (1, .int v1), (2, .int v2), (3, .int v3), (4, .int v4), (5, .int v5)], [.int 0, .ref 52], SH0, [], lg) rfl ?_
                    obtain ⟨r108_3, hr, h⟩ := x_bind h
                    refine E_call rfl (e_X6_no X _ _ _ r108_3 hr) (by decide) ?_
                    obtain rfl := Option.some.inj h
                    refine E_sts 1 (111, [], [.int r108_3.1], SH0, [(5600, r108_3.2), (6700, (σ 6700)), (6800, (σ 6800))], lg) rfl ?_
                    exact E_ret rfl
                  · refine E_itf hc ?_
                    refine E_sts 4 (99, [(0, .ref 52), (1, .int v1), (2, .int v2), (3, .int v3), (4, .int v4), (5, .int v5)], [.int v3, .ref 66, .int v4], SH0, [], lg) rfl ?_
                    obtain ⟨hp, h⟩ := x_ite h
                    refine E_par (p := inr v3 4) (100, [(0, .ref 52), (1, .int v1), (2, .int v2), (3, .int v3), (4, .int v4), (5, .int v5)], [.int ((σ 6600) v3.toNatClampNeg), .int v4], SH0, [], lg) rfl hp ?_
                    refine E_sts 3 (if v4 ≤ (((σ 6600) v3.toNatClampNeg) - v5) then 112 else 106, [(0, .ref 52), (1, .int v1), (2, .int v2), (3, .int v3), (4, .int v4), (5, .int v5)], [], SH0, [], lg) rfl ?_
                    rcases x_br h with ⟨hc, h⟩ | ⟨hc, h⟩
                    · refine E_itt hc ?_
                      refine E_sts 3 (115, [(0, .ref 52), (1, .int v1), (2, .int v2), (3, .int v3), (4, .int v4), (5, .int v5), (6, .int 0)], [], SH0, [(6800, (σ 6800))], lg) rfl ?_
                      exact e_X6_copy_L115 X σ lg _ v1 v2 v3 v4 v5 0 (σ 6800) r h
                    · refine E_itf hc ?_
                      refine E_sts 2 (108, [(0, .ref 52), (1, .int v1), (2, .int v2), (3, .int v3), (4, .int v4), (5, .int v5)], [.int 0, .ref 52], SH0, [], lg) rfl ?_
                      obtain ⟨r108_4, hr, h⟩ := x_bind h
                      refine E_call rfl (e_X6_no X _ _ _ r108_4 hr) (by decide) ?_
                      obtain rfl := Option.some.inj h
                      refine E_sts 1 (111, [], [.int r108_4.1], SH0, [(5600, r108_4.2), (6700, (σ 6700)), (6800, (σ 6800))], lg) rfl ?_
                      exact E_ret rfl
          · refine E_itf hc ?_
            refine E_sts 2 (61, [(0, .ref 52), (1, .int v1), (2, .int v2), (3, .int v3), (4, .int v4), (5, .int v5)], [.int 2, .ref 52], SH0, [], lg) rfl ?_
            obtain ⟨r61, hr, h⟩ := x_bind h
            refine E_call rfl (e_X6_no X _ _ _ r61 hr) (by decide) ?_
            obtain rfl := Option.some.inj h
            refine E_sts 1 (64, [], [.int r61.1], SH0, [(5600, r61.2), (6700, (σ 6700)), (6800, (σ 6800))], lg) rfl ?_
            exact E_ret rfl
set_option maxHeartbeats 4000000 in
set_option maxRecDepth 20000 in
theorem e_X3_numberAt (X : xX) (σ : xM) (lg : Int64) (v1 : Int32) (v2 : Int32) (r : Int32) (h : X3_numberAt (σ 5100) v1 v2 = some r) : EM XP X 1 46 [.ref 48, .int v1, .int v2] SH0 lg σ (some (.int r), SH0, [], lg) := by
  refine EM_of (M := xm_46) rfl rfl ?_
  unfold X3_numberAt at h
  refine E_sts 7 (10, [(0, .ref 48), (1, .int v1), (2, .int v2)], [.int ((v1 * 40) + v2), .ref 51], SH0, [], lg) rfl ?_
  obtain ⟨hp, h⟩ := x_ite h
  refine E_par (p := inr ((v1 * 40) + v2) 160) (11, [(0, .ref 48), (1, .int v1), (2, .int v2)], [.int ((σ 5100) ((v1 * 40) + v2).toNatClampNeg)], SH0, [], lg) rfl hp ?_
  obtain rfl := Option.some.inj h
  exact E_ret rfl
set_option maxHeartbeats 4000000 in
set_option maxRecDepth 20000 in
theorem e_X5_load_L43 (X : xX) (σ : xM) (lg : Int64) : ∀ (n : Nat), ∀ (v1 : Int32) (v3 : Int32) (v4 : Int32) (sc_loves_ : (Nat → Int32)) (r : Int32 × (Nat → Int32) × (Nat → Int32)), X5_load_L43 (σ 100) (σ 5100) n v1 v3 v4 sc_loves_ = some r → E XP X 3 xm_107 σ (43, [(0, .ref 0), (1, .int v1), (3, .int v3), (4, .int v4)], [], SH0, [(400, sc_loves_)], lg) (some (.int r.1), SH0, [(100, r.2.1), (400, r.2.2)], lg) := by
  intro n
  induction n with
  | zero => intro v1 v3 v4 sc_loves_ r h; rw [X5_load_L43] at h; cases h
  | succ n ih =>
    intro v1 v3 v4 sc_loves_ r h
    rw [X5_load_L43] at h
    refine E_sts 3 (if v4 ≤ v3 then 91 else 49, [(0, .ref 0), (1, .int v1), (3, .int v3), (4, .int v4)], [], SH0, [(400, sc_loves_)], lg) rfl ?_
    rcases x_br h with ⟨hc, h⟩ | ⟨hc, h⟩
    · refine E_itt hc ?_
      obtain rfl := Option.some.inj h
      refine E_sts 2 (92, [], [.int v3], SH0, [(100, (σ 100)), (400, sc_loves_)], lg) rfl ?_
      exact E_ret rfl
    · refine E_itf hc ?_
      refine E_sts 4 (55, [(0, .ref 0), (1, .int v1), (3, .int v3), (4, .int v4)], [.int v3, .int v1, .ref 48], SH0, [(400, sc_loves_)], lg) rfl ?_
      obtain ⟨r55, hr, h⟩ := x_bind h
      refine E_call rfl (e_X3_numberAt X _ _ _ _ r55 hr) (by decide) ?_
      refine E_sts 2 (61, [(0, .ref 0), (1, .int v1), (3, .int v3), (4, .int v4)], [.int 99, .int 0, .int r55], SH0, [(400, sc_loves_)], lg) rfl ?_
      refine E_call rfl (e_X5_isIn X _ _ _ _ _ (X5_isIn r55 0 99) rfl) (by decide) ?_
      refine E_sts 1 (if (xb (X5_isIn r55 0 99)) = 0 then 91 else 67, [(0, .ref 0), (1, .int v1), (3, .int v3), (4, .int v4)], [], SH0, [(400, sc_loves_)], lg) rfl ?_
      rcases x_br h with ⟨hc, h⟩ | ⟨hc, h⟩
      · refine E_itt hc ?_
        obtain rfl := Option.some.inj h
        refine E_sts 2 (92, [], [.int v3], SH0, [(100, (σ 100)), (400, sc_loves_)], lg) rfl ?_
        exact E_ret rfl
      · refine E_itf hc ?_
        refine E_sts 8 (81, [(0, .ref 0), (1, .int v1), (3, .int v3), (4, .int v4)], [.int v3, .int v1, .ref 48, .int v3, .ref 4], SH0, [(400, sc_loves_)], lg) rfl ?_
        obtain ⟨r81, hr, h⟩ := x_bind h
        refine E_call rfl (e_X3_numberAt X _ _ _ _ r81 hr) (by decide) ?_
        obtain ⟨hp, h⟩ := x_ite h
        refine E_par (p := inr v3 9) (85, [(0, .ref 0), (1, .int v1), (3, .int v3), (4, .int v4)], [], SH0, [(400, (upd sc_loves_ v3.toNatClampNeg r81))], lg) rfl hp ?_
        refine E_sts 3 (43, [(0, .ref 0), (1, .int v1), (3, .int (v3 + 1)), (4, .int v4)], [], SH0, [(400, (upd sc_loves_ v3.toNatClampNeg r81))], lg) rfl ?_
        exact ih v1 (v3 + 1) v4 (upd sc_loves_ v3.toNatClampNeg r81) r h
set_option maxHeartbeats 4000000 in
set_option maxRecDepth 20000 in
theorem e_X5_load (X : xX) (σ : xM) (lg : Int64) (v1 : Int32) (r : Int32 × (Nat → Int32) × (Nat → Int32)) (h : X5_load (σ 100) (σ 201 0) (σ 400) (σ 4900) (σ 5000) (σ 5100) v1 = some r) : EM XP X 4 107 [.ref 0, .int v1] SH0 lg σ (some (.int r.1), SH0, [(100, r.2.1), (400, r.2.2)], lg) := by
  refine EM_of (M := xm_107) rfl rfl ?_
  unfold X5_load at h
  refine E_sts 3 (5, [(0, .ref 0), (1, .int v1)], [.int v1, .ref 48], SH0, [], lg) rfl ?_
  obtain ⟨r5, hr, h⟩ := x_bind h
  refine E_call rfl (e_X3_wrongWith X _ _ _ r5 hr) (by decide) ?_
  refine E_sts 4 (if r5 = (-1) then 20 else 14, [(0, .ref 0), (1, .int v1), (2, .int r5)], [], SH0, [], lg) rfl ?_
  rcases x_br h with ⟨hc, h⟩ | ⟨hc, h⟩
  · refine E_itt hc ?_
    refine E_sts 6 (30, [(0, .ref 0), (1, .int v1), (2, .int r5), (3, .int 0)], [.int v1, .ref 50], SH0, [], lg) rfl ?_
    obtain ⟨hp, h⟩ := x_ite h
    refine E_par (p := inr v1 4) (31, [(0, .ref 0), (1, .int v1), (2, .int r5), (3, .int 0)], [.int ((σ 5000) v1.toNatClampNeg)], SH0, [], lg) rfl hp ?_
    refine E_sts 6 (43, [(0, .ref 0), (1, .int v1), (3, .int 0), (4, .int (xmin ((σ 5000) v1.toNatClampNeg) (σ 201 0)))], [], SH0, [(400, (σ 400))], lg) rfl ?_
    exact e_X5_load_L43 X σ lg _ v1 0 (xmin ((σ 5000) v1.toNatClampNeg) (σ 201 0)) (σ 400) r h
  · refine E_itf hc ?_
    refine E_sts 2 (16, [(0, .ref 0), (1, .int v1), (2, .int r5)], [.int r5, .ref 0], SH0, [], lg) rfl ?_
    obtain ⟨r16, hr, h⟩ := x_bind h
    refine E_call rfl (e_X5_finding X _ _ _ r16 hr) (by decide) ?_
    obtain rfl := Option.some.inj h
    refine E_sts 1 (19, [], [.int r16.1], SH0, [(100, r16.2), (400, (σ 400))], lg) rfl ?_
    exact E_ret rfl
set_option maxHeartbeats 4000000 in
set_option maxRecDepth 20000 in
theorem e_X6_load_L18 (X : xX) (σ : xM) (lg : Int64) : ∀ (n : Nat), ∀ (v1 : Int32) (v3 : Int32) (m_s_ : (Nat → Int32)) (r : Int32 × (Nat → Int32) × (Nat → Int32)), X6_load_L18 (σ 5600) (σ 6600) (σ 6700) n v1 v3 m_s_ = some r → E XP X 3 xm_210 σ (18, [(0, .ref 52), (1, .int v1), (3, .int v3)], [], SH0, [(5300, m_s_)], lg) (some (.int r.1), SH0, [(5300, r.2.1), (5600, r.2.2)], lg) := by
  intro n
  induction n with
  | zero => intro v1 v3 m_s_ r h; rw [X6_load_L18] at h; cases h
  | succ n ih =>
    intro v1 v3 m_s_ r h
    rw [X6_load_L18] at h
    refine E_sts 4 (24, [(0, .ref 52), (1, .int v1), (3, .int v3)], [.int v1, .ref 66, .int v3], SH0, [(5300, m_s_)], lg) rfl ?_
    obtain ⟨hp, h⟩ := x_ite h
    refine E_par (p := inr v1 4) (25, [(0, .ref 52), (1, .int v1), (3, .int v3)], [.int ((σ 6600) v1.toNatClampNeg), .int v3], SH0, [(5300, m_s_)], lg) rfl hp ?_
    refine E_sts 1 (if ((σ 6600) v1.toNatClampNeg) ≤ v3 then 79 else 28, [(0, .ref 52), (1, .int v1), (3, .int v3)], [], SH0, [(5300, m_s_)], lg) rfl ?_
    rcases x_br h with ⟨hc, h⟩ | ⟨hc, h⟩
    · refine E_itt hc ?_
      obtain rfl := Option.some.inj h
      refine E_sts 2 (80, [], [.int v3], SH0, [(5300, m_s_), (5600, (σ 5600))], lg) rfl ?_
      exact E_ret rfl
    · refine E_itf hc ?_
      refine E_sts 2 (30, [(0, .ref 52), (1, .int v1), (3, .int v3)], [.int v3, .ref 52], SH0, [(5300, m_s_)], lg) rfl ?_
      obtain ⟨r30, hr, h⟩ := x_bind h
      refine E_call rfl (e_X6_isBow X _ _ _ r30 hr) (by decide) ?_
      refine E_sts 1 (if (xb r30) = 0 then 79 else 36, [(0, .ref 52), (1, .int v1), (3, .int v3)], [], SH0, [(5300, m_s_)], lg) rfl ?_
      rcases x_br h with ⟨hc, h⟩ | ⟨hc, h⟩
      · refine E_itt hc ?_
        obtain rfl := Option.some.inj h
        refine E_sts 2 (80, [], [.int v3], SH0, [(5300, m_s_), (5600, (σ 5600))], lg) rfl ?_
        exact E_ret rfl
      · refine E_itf hc ?_
        refine E_sts 7 (46, [(0, .ref 52), (1, .int v1), (3, .int v3)], [.int ((40 * v1) + v3), .ref 67], SH0, [(5300, m_s_)], lg) rfl ?_
        obtain ⟨hp, h⟩ := x_ite h
        refine E_par (p := inr ((40 * v1) + v3) 160) (47, [(0, .ref 52), (1, .int v1), (3, .int v3)], [.int ((σ 6700) ((40 * v1) + v3).toNatClampNeg)], SH0, [(5300, m_s_)], lg) rfl hp ?_
        refine E_sts 2 (50, [(0, .ref 52), (1, .int v1), (3, .int v3)], [.int 99, .int 0, .int ((σ 6700) ((40 * v1) + v3).toNatClampNeg)], SH0, [(5300, m_s_)], lg) rfl ?_
        refine E_call rfl (e_X6_in1 X _ _ _ _ _ (X6_in1 ((σ 6700) ((40 * v1) + v3).toNatClampNeg) 0 99) rfl) (by decide) ?_
        refine E_sts 1 (if (xb (X6_in1 ((σ 6700) ((40 * v1) + v3).toNatClampNeg) 0 99)) = 0 then 79 else 56, [(0, .ref 52), (1, .int v1), (3, .int v3)], [], SH0, [(5300, m_s_)], lg) rfl ?_
        rcases x_br h with ⟨hc, h⟩ | ⟨hc, h⟩
        · refine E_itt hc ?_
          obtain rfl := Option.some.inj h
          refine E_sts 2 (80, [], [.int v3], SH0, [(5300, m_s_), (5600, (σ 5600))], lg) rfl ?_
          exact E_ret rfl
        · refine E_itf hc ?_
          refine E_sts 10 (69, [(0, .ref 52), (1, .int v1), (3, .int v3)], [.int ((40 * v1) + v3), .ref 67, .int 1, .int v3, .ref 52], SH0, [(5300, m_s_)], lg) rfl ?_
          obtain ⟨hp, h⟩ := x_ite h
          refine E_par (p := inr ((40 * v1) + v3) 160) (70, [(0, .ref 52), (1, .int v1), (3, .int v3)], [.int ((σ 6700) ((40 * v1) + v3).toNatClampNeg), .int 1, .int v3, .ref 52], SH0, [(5300, m_s_)], lg) rfl hp ?_
          obtain ⟨r70, hr, h⟩ := x_bind h
          refine E_call rfl (e_X6_puts X _ _ _ _ _ r70 hr) (by decide) ?_
          refine E_sts 3 (18, [(0, .ref 52), (1, .int v1), (3, .int (v3 + 1))], [], SH0, [(5300, r70)], lg) rfl ?_
          exact ih v1 (v3 + 1) r70 r h
set_option maxHeartbeats 4000000 in
set_option maxRecDepth 20000 in
theorem e_X6_load (X : xX) (σ : xM) (lg : Int64) (v1 : Int32) (r : Int32 × (Nat → Int32) × (Nat → Int32)) (h : X6_load (σ 5300) (σ 5600) (σ 6500) (σ 6600) (σ 6700) v1 = some r) : EM XP X 4 210 [.ref 52, .int v1] SH0 lg σ (some (.int r.1), SH0, [(5300, r.2.1), (5600, r.2.2)], lg) := by
  refine EM_of (M := xm_210) rfl rfl ?_
  unfold X6_load at h
  refine E_sts 2 (2, [(0, .ref 52), (1, .int v1)], [.int v1, .ref 52], SH0, [], lg) rfl ?_
  obtain ⟨r2, hr, h⟩ := x_bind h
  refine E_call rfl (e_X6_wrongSheet X _ _ _ r2 hr) (by decide) ?_
  refine E_sts 3 (if r2 < 0 then 16 else 10, [(0, .ref 52), (1, .int v1), (2, .int r2)], [], SH0, [], lg) rfl ?_
  rcases x_br h with ⟨hc, h⟩ | ⟨hc, h⟩
  · refine E_itt hc ?_
    refine E_sts 3 (18, [(0, .ref 52), (1, .int v1), (3, .int 0)], [], SH0, [(5300, (σ 5300))], lg) rfl ?_
    exact e_X6_load_L18 X σ lg _ v1 0 (σ 5300) r h
  · refine E_itf hc ?_
    refine E_sts 2 (12, [(0, .ref 52), (1, .int v1), (2, .int r2)], [.int r2, .ref 52], SH0, [], lg) rfl ?_
    obtain ⟨r12, hr, h⟩ := x_bind h
    refine E_call rfl (e_X6_no X _ _ _ r12 hr) (by decide) ?_
    obtain rfl := Option.some.inj h
    refine E_sts 1 (15, [], [.int r12.1], SH0, [(5300, (σ 5300)), (5600, r12.2)], lg) rfl ?_
    exact E_ret rfl
set_option maxHeartbeats 4000000 in
set_option maxRecDepth 20000 in
theorem e_X5_firstThatCannot_L10 (X : xX) (σ : xM) (lg : Int64) : ∀ (n : Nat), ∀ (v1 : Int32) (v2 : Int32) (v3 : Int32) (r : Int32), X5_firstThatCannot_L10 (σ 201 0) (σ 600) (σ 5000) (σ 5100) n v1 v2 v3 = some r → E XP X 1 xm_122 σ (10, [(0, .ref 0), (1, .int v1), (2, .int v2), (3, .int v3)], [], SH0, [], lg) (some (.int r), SH0, [], lg) := by
  intro n
  induction n with
  | zero => intro v1 v2 v3 r h; rw [X5_firstThatCannot_L10] at h; cases h
  | succ n ih =>
    intro v1 v2 v3 r h
    rw [X5_firstThatCannot_L10] at h
    refine E_sts 5 (19, [(0, .ref 0), (1, .int v1), (2, .int v2), (3, .int v3)], [.int v1, .ref 50, .int v3], SH0, [], lg) rfl ?_
    obtain ⟨hp, h⟩ := x_ite h
    refine E_par (p := inr v1 4) (20, [(0, .ref 0), (1, .int v1), (2, .int v2), (3, .int v3)], [.int ((σ 5000) v1.toNatClampNeg), .int v3], SH0, [], lg) rfl hp ?_
    refine E_sts 1 (if ((σ 5000) v1.toNatClampNeg) ≤ v3 then 76 else 23, [(0, .ref 0), (1, .int v1), (2, .int v2), (3, .int v3)], [], SH0, [], lg) rfl ?_
    rcases x_br h with ⟨hc, h⟩ | ⟨hc, h⟩
    · refine E_itt hc ?_
      obtain rfl := Option.some.inj h
      refine E_sts 1 (77, [(0, .ref 0), (1, .int v1), (2, .int v2), (3, .int v3)], [.int 0], SH0, [], lg) rfl ?_
      exact E_ret rfl
    · refine E_itf hc ?_
      refine E_sts 4 (29, [(0, .ref 0), (1, .int v1), (2, .int v2), (3, .int v3)], [.int v3, .int v1, .ref 48], SH0, [], lg) rfl ?_
      obtain ⟨r29, hr, h⟩ := x_bind h
      refine E_call rfl (e_X3_numberAt X _ _ _ _ r29 hr) (by decide) ?_
      refine E_sts 4 (40, [(0, .ref 0), (1, .int v1), (2, .int v2), (3, .int v3), (4, .int r29)], [.int r29, .ref 2], SH0, [], lg) rfl ?_
      refine E_call rfl (e_X2_isBow X _ _ _ (X2_isBow (σ 201 0) r29) rfl) (by decide) ?_
      refine E_sts 1 (if (xb (X2_isBow (σ 201 0) r29)) = 0 then 59 else 46, [(0, .ref 0), (1, .int v1), (2, .int v2), (3, .int v3), (4, .int r29)], [], SH0, [], lg) rfl ?_
      rcases x_br h with ⟨hc, h⟩ | ⟨hc, h⟩
      · refine E_itt hc ?_
        obtain rfl := Option.some.inj h
        refine E_sts 3 (62, [(0, .ref 0), (1, .int v1), (2, .int v2), (3, .int v3), (4, .int r29)], [.int (1 + v3)], SH0, [], lg) rfl ?_
        exact E_ret rfl
      · refine E_itf hc ?_
        refine E_sts 4 (53, [(0, .ref 0), (1, .int v1), (2, .int v2), (3, .int v3), (4, .int r29)], [.int v2, .int r29, .ref 2], SH0, [], lg) rfl ?_
        obtain ⟨r53, hr, h⟩ := x_bind h
        refine E_call rfl (e_X2_couldCome X _ _ _ _ r53 hr) (by decide) ?_
        refine E_sts 1 (if (xb r53) = 0 then 59 else 63, [(0, .ref 0), (1, .int v1), (2, .int v2), (3, .int v3), (4, .int r29)], [], SH0, [], lg) rfl ?_
        rcases x_br h with ⟨hc, h⟩ | ⟨hc, h⟩
        · refine E_itt hc ?_
          obtain rfl := Option.some.inj h
          refine E_sts 3 (62, [(0, .ref 0), (1, .int v1), (2, .int v2), (3, .int v3), (4, .int r29)], [.int (1 + v3)], SH0, [], lg) rfl ?_
          exact E_ret rfl
        · refine E_itf hc ?_
          refine E_sts 9 (10, [(0, .ref 0), (1, .int v1), (2, .int (v2 ||| (xshl 1 r29))), (3, .int (v3 + 1))], [], SH0, [], lg) rfl ?_
          exact ih v1 (v2 ||| (xshl 1 r29)) (v3 + 1) r h
set_option maxHeartbeats 4000000 in
set_option maxRecDepth 20000 in
theorem e_X5_firstThatCannot (X : xX) (σ : xM) (lg : Int64) (v1 : Int32) (r : Int32) (h : X5_firstThatCannot (σ 201 0) (σ 208 0) (σ 600) (σ 5000) (σ 5100) v1 = some r) : EM XP X 2 122 [.ref 0, .int v1] SH0 lg σ (some (.int r), SH0, [], lg) := by
  refine EM_of (M := xm_122) rfl rfl ?_
  unfold X5_firstThatCannot at h
  refine E_sts 7 (10, [(0, .ref 0), (1, .int v1), (2, .int (σ 208 0)), (3, .int 0)], [], SH0, [], lg) rfl ?_
  exact e_X5_firstThatCannot_L10 X σ lg _ v1 (σ 208 0) 0 r h
set_option maxHeartbeats 4000000 in
set_option maxRecDepth 20000 in
theorem e_X5_judge (X : xX) (σ : xM) (lg : Int64) (v1 : Int32) (r : Int32 × (Nat → Int32)) (h : X5_judge (σ 100) (σ 201 0) (σ 208 0) (σ 600) (σ 4900) (σ 5000) (σ 5100) v1 = some r) : EM XP X 4 108 [.ref 0, .int v1] SH0 lg σ (some (.int r.1), SH0, [(100, r.2)], lg) := by
  refine EM_of (M := xm_108) rfl rfl ?_
  unfold X5_judge at h
  refine E_sts 3 (5, [(0, .ref 0), (1, .int v1)], [.int v1, .ref 48], SH0, [], lg) rfl ?_
  obtain ⟨r5, hr, h⟩ := x_bind h
  refine E_call rfl (e_X3_wrongWith X _ _ _ r5 hr) (by decide) ?_
  refine E_sts 4 (if r5 = (-1) then 20 else 14, [(0, .ref 0), (1, .int v1), (2, .int r5)], [], SH0, [], lg) rfl ?_
  rcases x_br h with ⟨hc, h⟩ | ⟨hc, h⟩
  · refine E_itt hc ?_
    refine E_sts 2 (22, [(0, .ref 0), (1, .int v1), (2, .int r5)], [.int v1, .ref 0], SH0, [], lg) rfl ?_
    obtain ⟨r22, hr, h⟩ := x_bind h
    refine E_call rfl (e_X5_firstThatCannot X _ _ _ r22 hr) (by decide) ?_
    obtain rfl := Option.some.inj h
    refine E_sts 1 (25, [], [.int r22], SH0, [(100, (σ 100))], lg) rfl ?_
    exact E_ret rfl
  · refine E_itf hc ?_
    refine E_sts 2 (16, [(0, .ref 0), (1, .int v1), (2, .int r5)], [.int r5, .ref 0], SH0, [], lg) rfl ?_
    obtain ⟨r16, hr, h⟩ := x_bind h
    refine E_call rfl (e_X5_finding X _ _ _ r16 hr) (by decide) ?_
    obtain rfl := Option.some.inj h
    exact E_ret rfl
set_option maxHeartbeats 4000000 in
set_option maxRecDepth 20000 in
theorem e_X6_comeOf_L18 (X : xX) (σ : xM) (lg : Int64) : ∀ (n : Nat), ∀ (v1 : Int32) (v2 : Int32) (v3 : Int32) (v4 : Int32) (m_loudBy_ : Int32) (r : Int32 × Int32), X6_comeOf_L18 (σ 5300) (σ 6600) (σ 6700) n v1 v2 v3 v4 m_loudBy_ = some r → E XP X 3 xm_211 σ (18, [(0, .ref 52), (1, .int v1), (2, .int v2), (3, .int v3), (4, .int v4)], [], SH0, [(5225, fun _ => m_loudBy_)], lg) (some (.int r.1), SH0, [(5225, fun _ => r.2)], lg) := by
  intro n
  induction n with
  | zero => intro v1 v2 v3 v4 m_loudBy_ r h; rw [X6_comeOf_L18] at h; cases h
  | succ n ih =>
    intro v1 v2 v3 v4 m_loudBy_ r h
    rw [X6_comeOf_L18] at h
    refine E_sts 4 (25, [(0, .ref 52), (1, .int v1), (2, .int v2), (3, .int v3), (4, .int v4)], [.int v1, .ref 66, .int v4], SH0, [(5225, fun _ => m_loudBy_)], lg) rfl ?_
    obtain ⟨hp, h⟩ := x_ite h
    refine E_par (p := inr v1 4) (26, [(0, .ref 52), (1, .int v1), (2, .int v2), (3, .int v3), (4, .int v4)], [.int ((σ 6600) v1.toNatClampNeg), .int v4], SH0, [(5225, fun _ => m_loudBy_)], lg) rfl hp ?_
    refine E_sts 1 (if ((σ 6600) v1.toNatClampNeg) ≤ v4 then 118 else 29, [(0, .ref 52), (1, .int v1), (2, .int v2), (3, .int v3), (4, .int v4)], [], SH0, [(5225, fun _ => m_loudBy_)], lg) rfl ?_
    rcases x_br h with ⟨hc, h⟩ | ⟨hc, h⟩
    · refine E_itt hc ?_
      obtain rfl := Option.some.inj h
      refine E_sts 1 (120, [(0, .ref 52), (1, .int v1), (2, .int v2), (3, .int v3), (4, .int v4)], [.int v4], SH0, [(5225, fun _ => m_loudBy_)], lg) rfl ?_
      exact E_ret rfl
    · refine E_itf hc ?_
      refine E_sts 8 (41, [(0, .ref 52), (1, .int v1), (2, .int v2), (3, .int v3), (4, .int v4)], [.int ((40 * v1) + v4), .ref 67, .ref 52], SH0, [(5225, fun _ => m_loudBy_)], lg) rfl ?_
      obtain ⟨hp, h⟩ := x_ite h
      refine E_par (p := inr ((40 * v1) + v4) 160) (42, [(0, .ref 52), (1, .int v1), (2, .int v2), (3, .int v3), (4, .int v4)], [.int ((σ 6700) ((40 * v1) + v4).toNatClampNeg), .ref 52], SH0, [(5225, fun _ => m_loudBy_)], lg) rfl hp ?_
      obtain ⟨r42, hr, h⟩ := x_bind h
      refine E_call rfl (e_X6_isBow X _ _ _ r42 hr) (by decide) ?_
      refine E_sts 1 (if (xb r42) = 0 then 118 else 48, [(0, .ref 52), (1, .int v1), (2, .int v2), (3, .int v3), (4, .int v4)], [], SH0, [(5225, fun _ => m_loudBy_)], lg) rfl ?_
      rcases x_br h with ⟨hc, h⟩ | ⟨hc, h⟩
      · refine E_itt hc ?_
        obtain rfl := Option.some.inj h
        refine E_sts 1 (120, [(0, .ref 52), (1, .int v1), (2, .int v2), (3, .int v3), (4, .int v4)], [.int v4], SH0, [(5225, fun _ => m_loudBy_)], lg) rfl ?_
        exact E_ret rfl
      · refine E_itf hc ?_
        refine E_sts 8 (60, [(0, .ref 52), (1, .int v1), (2, .int v2), (3, .int v3), (4, .int v4)], [.int ((40 * v1) + v4), .ref 67, .ref 52], SH0, [(5225, fun _ => m_loudBy_)], lg) rfl ?_
        obtain ⟨hp, h⟩ := x_ite h
        refine E_par (p := inr ((40 * v1) + v4) 160) (61, [(0, .ref 52), (1, .int v1), (2, .int v2), (3, .int v3), (4, .int v4)], [.int ((σ 6700) ((40 * v1) + v4).toNatClampNeg), .ref 52], SH0, [(5225, fun _ => m_loudBy_)], lg) rfl hp ?_
        refine E_sts 1 (62, [(0, .ref 52), (1, .int v1), (2, .int v2), (3, .int v3), (4, .int v4)], [.int v2, .int ((σ 6700) ((40 * v1) + v4).toNatClampNeg), .ref 52], SH0, [(5225, fun _ => m_loudBy_)], lg) rfl ?_
        obtain ⟨r62, hr, h⟩ := x_bind h
        refine E_call rfl (e_X6_canBehind X _ _ _ _ r62 hr) (by decide) ?_
        refine E_sts 1 (if (xb r62) = 0 then 118 else 68, [(0, .ref 52), (1, .int v1), (2, .int v2), (3, .int v3), (4, .int v4)], [], SH0, [(5225, fun _ => m_loudBy_)], lg) rfl ?_
        rcases x_br h with ⟨hc, h⟩ | ⟨hc, h⟩
        · refine E_itt hc ?_
          obtain rfl := Option.some.inj h
          refine E_sts 1 (120, [(0, .ref 52), (1, .int v1), (2, .int v2), (3, .int v3), (4, .int v4)], [.int v4], SH0, [(5225, fun _ => m_loudBy_)], lg) rfl ?_
          exact E_ret rfl
        · refine E_itf hc ?_
          refine E_sts 7 (79, [(0, .ref 52), (1, .int v1), (2, .int v2), (3, .int v3), (4, .int v4)], [.int ((40 * v1) + v4), .ref 67], SH0, [(5225, fun _ => m_loudBy_)], lg) rfl ?_
          obtain ⟨hp, h⟩ := x_ite h
          refine E_par (p := inr ((40 * v1) + v4) 160) (80, [(0, .ref 52), (1, .int v1), (2, .int v2), (3, .int v3), (4, .int v4)], [.int ((σ 6700) ((40 * v1) + v4).toNatClampNeg)], SH0, [(5225, fun _ => m_loudBy_)], lg) rfl hp ?_
          refine E_sts 8 (92, [(0, .ref 52), (1, .int v1), (2, .int v2), (3, .int v3), (4, .int v4), (5, .int ((σ 6700) ((40 * v1) + v4).toNatClampNeg))], [.int v3, .ref 52, .int ((σ 6700) ((40 * v1) + v4).toNatClampNeg), .ref 52, .int m_loudBy_, .ref 52], SH0, [(5225, fun _ => m_loudBy_)], lg) rfl ?_
          obtain ⟨r92, hr, h⟩ := x_bind h
          refine E_call rfl (e_X6_leftBy X _ _ _ r92 hr) (by decide) ?_
          obtain ⟨r95, hr, h⟩ := x_bind h
          refine E_call rfl (e_X6_noiseBy X _ _ _ _ r95 hr) (by decide) ?_
          refine E_sts 13 (18, [(0, .ref 52), (1, .int v1), (2, .int (v2 ||| (xshl 1 ((σ 6700) ((40 * v1) + v4).toNatClampNeg)))), (3, .int ((σ 6700) ((40 * v1) + v4).toNatClampNeg)), (4, .int (v4 + 1))], [], SH0, [(5225, fun _ => (m_loudBy_ + r95))], lg) rfl ?_
          exact ih v1 (v2 ||| (xshl 1 ((σ 6700) ((40 * v1) + v4).toNatClampNeg))) ((σ 6700) ((40 * v1) + v4).toNatClampNeg) (v4 + 1) (m_loudBy_ + r95) r h
set_option maxHeartbeats 4000000 in
set_option maxRecDepth 20000 in
theorem e_X6_comeOf (X : xX) (σ : xM) (lg : Int64) (v1 : Int32) (r : Int32 × Int32) (h : X6_comeOf (σ 5300) (σ 6600) (σ 6700) v1 = some r) : EM XP X 4 211 [.ref 52, .int v1] SH0 lg σ (some (.int r.1), SH0, [(5225, fun _ => r.2)], lg) := by
  refine EM_of (M := xm_211) rfl rfl ?_
  unfold X6_comeOf at h
  refine E_sts 1 (1, [(0, .ref 52), (1, .int v1)], [.ref 52], SH0, [], lg) rfl ?_
  obtain ⟨r1, hr, h⟩ := x_bind h
  refine E_call rfl (e_X6_stageSet X _ _ r1 hr) (by decide) ?_
  refine E_sts 2 (6, [(0, .ref 52), (1, .int v1), (2, .int r1)], [.ref 52], SH0, [], lg) rfl ?_
  obtain ⟨r6, hr, h⟩ := x_bind h
  refine E_call rfl (e_X6_latest X _ _ r6 hr) (by decide) ?_
  refine E_sts 7 (18, [(0, .ref 52), (1, .int v1), (2, .int r1), (3, .int r6), (4, .int 0)], [], SH0, [(5225, fun _ => 0)], lg) rfl ?_
  exact e_X6_comeOf_L18 X σ lg _ v1 r1 r6 0 0 r h
set_option maxHeartbeats 4000000 in
set_option maxRecDepth 20000 in
theorem e_X6_judge (X : xX) (σ : xM) (lg : Int64) (v1 : Int32) (r : Int32 × Int32 × (Nat → Int32)) (h : X6_judge (σ 5225 0) (σ 5300) (σ 5600) (σ 6500) (σ 6600) (σ 6700) v1 = some r) : EM XP X 5 212 [.ref 52, .int v1] SH0 lg σ (some (.int r.1), SH0, [(5225, fun _ => r.2.1), (5600, r.2.2)], lg) := by
  refine EM_of (M := xm_212) rfl rfl ?_
  unfold X6_judge at h
  refine E_sts 2 (2, [(0, .ref 52), (1, .int v1)], [.int v1, .ref 52], SH0, [], lg) rfl ?_
  obtain ⟨r2, hr, h⟩ := x_bind h
  refine E_call rfl (e_X6_wrongSheet X _ _ _ r2 hr) (by decide) ?_
  refine E_sts 3 (if r2 < 0 then 16 else 10, [(0, .ref 52), (1, .int v1), (2, .int r2)], [], SH0, [], lg) rfl ?_
  rcases x_br h with ⟨hc, h⟩ | ⟨hc, h⟩
  · refine E_itt hc ?_
    refine E_sts 2 (18, [(0, .ref 52), (1, .int v1), (2, .int r2)], [.int v1, .ref 52], SH0, [], lg) rfl ?_
    obtain ⟨r18, hr, h⟩ := x_bind h
    refine E_call rfl (e_X6_comeOf X _ _ _ r18 hr) (by decide) ?_
    refine E_sts 5 (28, [(0, .ref 52), (1, .int v1), (2, .int r2), (3, .int r18.1)], [.int v1, .ref 66, .int r18.1], SH0, [(5225, fun _ => r18.2)], lg) rfl ?_
    obtain ⟨hp, h⟩ := x_ite h
    refine E_par (p := inr v1 4) (29, [(0, .ref 52), (1, .int v1), (2, .int r2), (3, .int r18.1)], [.int ((σ 6600) v1.toNatClampNeg), .int r18.1], SH0, [(5225, fun _ => r18.2)], lg) rfl hp ?_
    refine E_sts 1 (if r18.1 = ((σ 6600) v1.toNatClampNeg) then 32 else 36, [(0, .ref 52), (1, .int v1), (2, .int r2), (3, .int r18.1)], [], SH0, [(5225, fun _ => r18.2)], lg) rfl ?_
    rcases x_br h with ⟨hc, h⟩ | ⟨hc, h⟩
    · refine E_itt hc ?_
      obtain rfl := Option.some.inj h
      refine E_sts 3 (39, [], [.int 0], SH0, [(5225, fun _ => r18.2), (5600, (σ 5600))], lg) rfl ?_
      exact E_ret rfl
    · refine E_itf hc ?_
      obtain rfl := Option.some.inj h
      refine E_sts 4 (39, [], [.int (1 + r18.1)], SH0, [(5225, fun _ => r18.2), (5600, (σ 5600))], lg) rfl ?_
      exact E_ret rfl
  · refine E_itf hc ?_
    refine E_sts 2 (12, [(0, .ref 52), (1, .int v1), (2, .int r2)], [.int r2, .ref 52], SH0, [], lg) rfl ?_
    obtain ⟨r12, hr, h⟩ := x_bind h
    refine E_call rfl (e_X6_no X _ _ _ r12 hr) (by decide) ?_
    obtain rfl := Option.some.inj h
    refine E_sts 1 (15, [], [.int r12.1], SH0, [(5225, fun _ => (σ 5225 0)), (5600, r12.2)], lg) rfl ?_
    exact E_ret rfl
set_option maxHeartbeats 4000000 in
set_option maxRecDepth 20000 in
theorem e_X5_loud_L54 (X : xX) (σ : xM) (lg : Int64) : ∀ (n : Nat), ∀ (v1 : Int32) (v3 : Int32) (v4 : Int32) (v5 : Int32) (r : Int32 × (Nat → Int32)), X5_loud_L54 (σ 100) (σ 300) (σ 400) (σ 5000) (σ 5100) n v1 v3 v4 v5 = some r → E XP X 3 xm_109 σ (54, [(0, .ref 0), (1, .int v1), (3, .int v3), (4, .int v4), (5, .int v5)], [], SH0, [], lg) (some (.int r.1), SH0, [(100, r.2)], lg) := by
  intro n
  induction n with
  | zero => intro v1 v3 v4 v5 r h; rw [X5_loud_L54] at h; cases h
  | succ n ih =>
    intro v1 v3 v4 v5 r h
    rw [X5_loud_L54] at h
    refine E_sts 5 (64, [(0, .ref 0), (1, .int v1), (3, .int v3), (4, .int v4), (5, .int v5)], [.int v1, .ref 50, .int v5], SH0, [], lg) rfl ?_
    obtain ⟨hp, h⟩ := x_ite h
    refine E_par (p := inr v1 4) (65, [(0, .ref 0), (1, .int v1), (3, .int v3), (4, .int v4), (5, .int v5)], [.int ((σ 5000) v1.toNatClampNeg), .int v5], SH0, [], lg) rfl hp ?_
    refine E_sts 1 (if ((σ 5000) v1.toNatClampNeg) ≤ v5 then 111 else 68, [(0, .ref 0), (1, .int v1), (3, .int v3), (4, .int v4), (5, .int v5)], [], SH0, [], lg) rfl ?_
    rcases x_br h with ⟨hc, h⟩ | ⟨hc, h⟩
    · refine E_itt hc ?_
      obtain rfl := Option.some.inj h
      refine E_sts 2 (112, [], [.int v3], SH0, [(100, (σ 100))], lg) rfl ?_
      exact E_ret rfl
    · refine E_itf hc ?_
      refine E_sts 4 (75, [(0, .ref 0), (1, .int v1), (3, .int v3), (4, .int v4), (5, .int v5)], [.int v5, .int v1, .ref 48], SH0, [], lg) rfl ?_
      obtain ⟨r75, hr, h⟩ := x_bind h
      refine E_call rfl (e_X3_numberAt X _ _ _ _ r75 hr) (by decide) ?_
      refine E_sts 6 (89, [(0, .ref 0), (1, .int v1), (3, .int v3), (4, .int v4), (5, .int v5), (6, .int r75)], [.int v4, .int r75, .ref 2, .int v3], SH0, [], lg) rfl ?_
      obtain ⟨r89, hr, h⟩ := x_bind h
      refine E_call rfl (e_X2_noiseBy X _ _ _ _ r89 hr) (by decide) ?_
      refine E_sts 5 (100, [(0, .ref 0), (1, .int v1), (3, .int (v3 + r89)), (4, .int v4), (5, .int v5), (6, .int r75)], [.int r75, .ref 2], SH0, [], lg) rfl ?_
      obtain ⟨r100, hr, h⟩ := x_bind h
      refine E_call rfl (e_X2_leftBy X _ _ _ r100 hr) (by decide) ?_
      refine E_sts 4 (54, [(0, .ref 0), (1, .int v1), (3, .int (v3 + r89)), (4, .int r100), (5, .int (v5 + 1))], [], SH0, [], lg) rfl ?_
      exact ih v1 (v3 + r89) r100 (v5 + 1) r h
set_option maxHeartbeats 4000000 in
set_option maxRecDepth 20000 in
theorem e_X5_loud (X : xX) (σ : xM) (lg : Int64) (v1 : Int32) (r : Int32 × (Nat → Int32)) (h : X5_loud (σ 100) (σ 201 0) (σ 207 0) (σ 208 0) (σ 209 0) (σ 300) (σ 400) (σ 600) (σ 800) (σ 4900) (σ 5000) (σ 5100) v1 = some r) : EM XP X 4 109 [.ref 0, .int v1] SH0 lg σ (some (.int r.1), SH0, [(100, r.2)], lg) := by
  refine EM_of (M := xm_109) rfl rfl ?_
  unfold X5_loud at h
  refine E_sts 3 (5, [(0, .ref 0), (1, .int v1)], [.int v1, .ref 48], SH0, [], lg) rfl ?_
  obtain ⟨r5, hr, h⟩ := x_bind h
  refine E_call rfl (e_X3_wrongWith X _ _ _ r5 hr) (by decide) ?_
  refine E_sts 4 (if r5 = (-1) then 20 else 14, [(0, .ref 0), (1, .int v1), (2, .int r5)], [], SH0, [], lg) rfl ?_
  rcases x_br h with ⟨hc, h⟩ | ⟨hc, h⟩
  · refine E_itt hc ?_
    refine E_sts 2 (22, [(0, .ref 0), (1, .int v1), (2, .int r5)], [.int v1, .ref 0], SH0, [], lg) rfl ?_
    obtain ⟨r22, hr, h⟩ := x_bind h
    refine E_call rfl (e_X5_firstThatCannot X _ _ _ r22 hr) (by decide) ?_
    refine E_sts 1 (if r22 = 0 then 34 else 28, [(0, .ref 0), (1, .int v1), (2, .int r5)], [], SH0, [], lg) rfl ?_
    rcases x_br h with ⟨hc, h⟩ | ⟨hc, h⟩
    · refine E_itt hc ?_
      refine E_sts 6 (46, [(0, .ref 0), (1, .int v1), (2, .int r5), (3, .int (σ 209 0))], [.ref 2], SH0, [], lg) rfl ?_
      obtain ⟨r46, hr, h⟩ := x_bind h
      refine E_call rfl (e_X2_leftByLatest X _ _ r46 hr) (by decide) ?_
      refine E_sts 4 (54, [(0, .ref 0), (1, .int v1), (3, .int (σ 209 0)), (4, .int r46), (5, .int 0)], [], SH0, [], lg) rfl ?_
      exact e_X5_loud_L54 X σ lg _ v1 (σ 209 0) r46 0 r h
    · refine E_itf hc ?_
      refine E_sts 2 (30, [(0, .ref 0), (1, .int v1), (2, .int r5)], [.int 4, .ref 0], SH0, [], lg) rfl ?_
      obtain ⟨r30, hr, h⟩ := x_bind h
      refine E_call rfl (e_X5_finding X _ _ _ r30 hr) (by decide) ?_
      obtain rfl := Option.some.inj h
      exact E_ret rfl
  · refine E_itf hc ?_
    refine E_sts 2 (16, [(0, .ref 0), (1, .int v1), (2, .int r5)], [.int r5, .ref 0], SH0, [], lg) rfl ?_
    obtain ⟨r16, hr, h⟩ := x_bind h
    refine E_call rfl (e_X5_finding X _ _ _ r16 hr) (by decide) ?_
    obtain rfl := Option.some.inj h
    exact E_ret rfl
set_option maxHeartbeats 4000000 in
set_option maxRecDepth 20000 in
theorem e_X6_loud (X : xX) (σ : xM) (lg : Int64) (v1 : Int32) (r : Int32 × Int32 × (Nat → Int32)) (h : X6_loud (σ 5225 0) (σ 5300) (σ 5600) (σ 6500) (σ 6600) (σ 6700) v1 = some r) : EM XP X 5 213 [.ref 52, .int v1] SH0 lg σ (some (.int r.1), SH0, [(5225, fun _ => r.2.1), (5600, r.2.2)], lg) := by
  refine EM_of (M := xm_213) rfl rfl ?_
  unfold X6_loud at h
  refine E_sts 2 (2, [(0, .ref 52), (1, .int v1)], [.int v1, .ref 52], SH0, [], lg) rfl ?_
  obtain ⟨r2, hr, h⟩ := x_bind h
  refine E_call rfl (e_X6_wrongSheet X _ _ _ r2 hr) (by decide) ?_
  refine E_sts 3 (if r2 < 0 then 16 else 10, [(0, .ref 52), (1, .int v1), (2, .int r2)], [], SH0, [], lg) rfl ?_
  rcases x_br h with ⟨hc, h⟩ | ⟨hc, h⟩
  · refine E_itt hc ?_
    refine E_sts 2 (18, [(0, .ref 52), (1, .int v1), (2, .int r2)], [.int v1, .ref 52], SH0, [], lg) rfl ?_
    obtain ⟨r18, hr, h⟩ := x_bind h
    refine E_call rfl (e_X6_comeOf X _ _ _ r18 hr) (by decide) ?_
    refine E_sts 5 (28, [(0, .ref 52), (1, .int v1), (2, .int r2), (3, .int r18.1)], [.int v1, .ref 66, .int r18.1], SH0, [(5225, fun _ => r18.2)], lg) rfl ?_
    obtain ⟨hp, h⟩ := x_ite h
    refine E_par (p := inr v1 4) (29, [(0, .ref 52), (1, .int v1), (2, .int r2), (3, .int r18.1)], [.int ((σ 6600) v1.toNatClampNeg), .int r18.1], SH0, [(5225, fun _ => r18.2)], lg) rfl hp ?_
    refine E_sts 1 (if r18.1 = ((σ 6600) v1.toNatClampNeg) then 32 else 46, [(0, .ref 52), (1, .int v1), (2, .int r2), (3, .int r18.1)], [], SH0, [(5225, fun _ => r18.2)], lg) rfl ?_
    rcases x_br h with ⟨hc, h⟩ | ⟨hc, h⟩
    · refine E_itt hc ?_
      refine E_sts 3 (37, [(0, .ref 52), (1, .int v1), (2, .int r2), (3, .int r18.1)], [.int 0, .ref 53], SH0, [(5225, fun _ => r18.2)], lg) rfl ?_
      refine E_par (p := inr 0 83) (38, [(0, .ref 52), (1, .int v1), (2, .int r2), (3, .int r18.1)], [.int ((σ 5300) 0)], SH0, [(5225, fun _ => r18.2)], lg) rfl (by decide) ?_
      obtain rfl := Option.some.inj h
      refine E_sts 5 (51, [], [.int (((σ 5300) 0) + r18.2)], SH0, [(5225, fun _ => r18.2), (5600, (σ 5600))], lg) rfl ?_
      exact E_ret rfl
    · refine E_itf hc ?_
      refine E_sts 2 (48, [(0, .ref 52), (1, .int v1), (2, .int r2), (3, .int r18.1)], [.int 4, .ref 52], SH0, [(5225, fun _ => r18.2)], lg) rfl ?_
      obtain ⟨r48, hr, h⟩ := x_bind h
      refine E_call rfl (e_X6_no X _ _ _ r48 hr) (by decide) ?_
      obtain rfl := Option.some.inj h
      refine E_sts 1 (51, [], [.int r48.1], SH0, [(5225, fun _ => r18.2), (5600, r48.2)], lg) rfl ?_
      exact E_ret rfl
  · refine E_itf hc ?_
    refine E_sts 2 (12, [(0, .ref 52), (1, .int v1), (2, .int r2)], [.int r2, .ref 52], SH0, [], lg) rfl ?_
    obtain ⟨r12, hr, h⟩ := x_bind h
    refine E_call rfl (e_X6_no X _ _ _ r12 hr) (by decide) ?_
    obtain rfl := Option.some.inj h
    refine E_sts 1 (15, [], [.int r12.1], SH0, [(5225, fun _ => (σ 5225 0)), (5600, r12.2)], lg) rfl ?_
    exact E_ret rfl
