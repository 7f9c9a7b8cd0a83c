/-! what the machine answers is what the functions say (by gen/emit.py) -/
set_option maxHeartbeats 4000000 in
set_option maxRecDepth 20000 in
theorem e_X4_take (X : xX) (σ : xM) (lg : Int64) (v1 : Int32) (r : Int32 × Int32 × Int32) (h : X4_take (σ 4207 0) (σ 4400) (σ 4700) v1 = some r) : EM XP X 1 63 [.ref 42, .int v1] SH0 lg σ (none, SH0, [(4208, fun _ => r.1), (4209, fun _ => r.2.1), (4210, fun _ => r.2.2)], lg) := by
  refine EM_of (M := xm_63) rfl rfl ?_
  unfold X4_take at h
  refine E_sts 11 (21, [(0, .ref 42), (1, .int v1)], [.int (xmin v1 (σ 4207 0)), .ref 44, .ref 42], SH0, [(4208, fun _ => (xmin v1 (σ 4207 0)))], lg) rfl ?_
  obtain ⟨hp, h⟩ := x_ite h
  refine E_par (p := inr (xmin v1 (σ 4207 0)) 121) (22, [(0, .ref 42), (1, .int v1)], [.int ((σ 4400) (xmin v1 (σ 4207 0)).toNatClampNeg), .ref 42], SH0, [(4208, fun _ => (xmin v1 (σ 4207 0)))], lg) rfl hp ?_
  refine E_sts 6 (34, [(0, .ref 42), (1, .int v1)], [.int (xmin v1 (σ 4207 0)), .ref 47, .ref 42], SH0, [(4208, fun _ => (xmin v1 (σ 4207 0))), (4209, fun _ => ((σ 4400) (xmin v1 (σ 4207 0)).toNatClampNeg))], lg) rfl ?_
  obtain ⟨hp, h⟩ := x_ite h
  refine E_par (p := inr (xmin v1 (σ 4207 0)) 121) (35, [(0, .ref 42), (1, .int v1)], [.int ((σ 4700) (xmin v1 (σ 4207 0)).toNatClampNeg), .ref 42], SH0, [(4208, fun _ => (xmin v1 (σ 4207 0))), (4209, fun _ => ((σ 4400) (xmin v1 (σ 4207 0)).toNatClampNeg))], lg) rfl hp ?_
  obtain rfl := Option.some.inj h
  refine E_sts 1 (38, [(0, .ref 42), (1, .int v1)], [], SH0, [(4208, fun _ => (xmin v1 (σ 4207 0))), (4209, fun _ => ((σ 4400) (xmin v1 (σ 4207 0)).toNatClampNeg)), (4210, fun _ => ((σ 4700) (xmin v1 (σ 4207 0)).toNatClampNeg))], lg) rfl ?_
  exact E_ret rfl
set_option maxHeartbeats 4000000 in
set_option maxRecDepth 20000 in
theorem e_X2_addBow_dr (X : xX) (σ : xM) (lg : Int64) (v1 : Int32) (r : Int32 × Int32 × (Nat → Int32) × (Nat → Int32) × (Nat → Int32) × (Nat → Int32)) (h : X2_addBow_dr (σ 2201 0) (σ 2300) (σ 2400) (σ 2500) (σ 2600) v1 = some r) : EM XP X 1 27 [.ref 22, .int v1] SH0 lg σ (some (.int r.1), SH0, [(2201, fun _ => r.2.1), (2300, r.2.2.1), (2400, r.2.2.2.1), (2500, r.2.2.2.2.1), (2600, r.2.2.2.2.2)], lg) := by
  refine EM_of (M := xm_27) rfl rfl ?_
  unfold X2_addBow_dr at h
  refine E_sts 7 (11, [(0, .ref 22), (1, .int v1), (2, .int (σ 2201 0))], [.int v1, .int (σ 2201 0), .ref 23], SH0, [], lg) rfl ?_
  obtain ⟨hp, h⟩ := x_ite h
  refine E_par (p := inr (σ 2201 0) 9) (12, [(0, .ref 22), (1, .int v1), (2, .int (σ 2201 0))], [], SH0, [(2300, (upd (σ 2300) (σ 2201 0).toNatClampNeg v1))], lg) rfl hp ?_
  refine E_sts 4 (19, [(0, .ref 22), (1, .int v1), (2, .int (σ 2201 0))], [.int 10, .int (σ 2201 0), .ref 24], SH0, [(2300, (upd (σ 2300) (σ 2201 0).toNatClampNeg v1))], lg) rfl ?_
  obtain ⟨hp, h⟩ := x_ite h
  refine E_par (p := inr (σ 2201 0) 9) (20, [(0, .ref 22), (1, .int v1), (2, .int (σ 2201 0))], [], SH0, [(2300, (upd (σ 2300) (σ 2201 0).toNatClampNeg v1)), (2400, (upd (σ 2400) (σ 2201 0).toNatClampNeg 10))], lg) rfl hp ?_
  refine E_sts 4 (26, [(0, .ref 22), (1, .int v1), (2, .int (σ 2201 0))], [.int 5, .int (σ 2201 0), .ref 25], SH0, [(2300, (upd (σ 2300) (σ 2201 0).toNatClampNeg v1)), (2400, (upd (σ 2400) (σ 2201 0).toNatClampNeg 10))], lg) rfl ?_
  obtain ⟨hp, h⟩ := x_ite h
  refine E_par (p := inr (σ 2201 0) 9) (27, [(0, .ref 22), (1, .int v1), (2, .int (σ 2201 0))], [], SH0, [(2300, (upd (σ 2300) (σ 2201 0).toNatClampNeg v1)), (2400, (upd (σ 2400) (σ 2201 0).toNatClampNeg 10)), (2500, (upd (σ 2500) (σ 2201 0).toNatClampNeg 5))], lg) rfl hp ?_
  refine E_sts 4 (33, [(0, .ref 22), (1, .int v1), (2, .int (σ 2201 0))], [.int 0, .int (σ 2201 0), .ref 26], SH0, [(2300, (upd (σ 2300) (σ 2201 0).toNatClampNeg v1)), (2400, (upd (σ 2400) (σ 2201 0).toNatClampNeg 10)), (2500, (upd (σ 2500) (σ 2201 0).toNatClampNeg 5))], lg) rfl ?_
  obtain ⟨hp, h⟩ := x_ite h
  refine E_par (p := inr (σ 2201 0) 9) (34, [(0, .ref 22), (1, .int v1), (2, .int (σ 2201 0))], [], SH0, [(2300, (upd (σ 2300) (σ 2201 0).toNatClampNeg v1)), (2400, (upd (σ 2400) (σ 2201 0).toNatClampNeg 10)), (2500, (upd (σ 2500) (σ 2201 0).toNatClampNeg 5)), (2600, (upd (σ 2600) (σ 2201 0).toNatClampNeg 0))], lg) rfl hp ?_
  obtain rfl := Option.some.inj h
  refine E_sts 7 (45, [(0, .ref 22), (1, .int v1), (2, .int (σ 2201 0))], [.int (σ 2201 0)], SH0, [(2201, fun _ => ((σ 2201 0) + 1)), (2300, (upd (σ 2300) (σ 2201 0).toNatClampNeg v1)), (2400, (upd (σ 2400) (σ 2201 0).toNatClampNeg 10)), (2500, (upd (σ 2500) (σ 2201 0).toNatClampNeg 5)), (2600, (upd (σ 2600) (σ 2201 0).toNatClampNeg 0))], lg) rfl ?_
  exact E_ret rfl
set_option maxHeartbeats 4000000 in
set_option maxRecDepth 20000 in
theorem e_X4_isNumber (X : xX) (σ : xM) (lg : Int64) (v1 : Int32) (v2 : Int32) (r : Bool) (h : X4_isNumber (σ 4209 0) (σ 4210 0) v1 v2 = r) : EM XP X 2 59 [.ref 42, .int v1, .int v2] SH0 lg σ (some (.int (xb r)), SH0, [], lg) := by
  refine EM_of (M := xm_59) rfl rfl ?_
  unfold X4_isNumber at h
  refine E_sts 4 (if (σ 4209 0) = 2 then 8 else 24, [(0, .ref 42), (1, .int v1), (2, .int v2)], [], SH0, [], lg) rfl ?_
  rcases x_br h with ⟨hc, h⟩ | ⟨hc, h⟩
  · refine E_itt hc ?_
    refine E_sts 4 (14, [(0, .ref 42), (1, .int v1), (2, .int v2)], [.int v2, .int v1, .int (σ 4210 0)], SH0, [], lg) rfl ?_
    refine E_call rfl (e_X5_isIn X _ _ _ _ _ (X5_isIn (σ 4210 0) v1 v2) rfl) (by decide) ?_
    refine E_sts 1 (if (xb (X5_isIn (σ 4210 0) v1 v2)) = 0 then 24 else 20, [(0, .ref 42), (1, .int v1), (2, .int v2)], [], SH0, [], lg) rfl ?_
    rcases x_br h with ⟨hc, h⟩ | ⟨hc, h⟩
    · refine E_itt hc ?_
      subst h
      refine E_sts 1 (25, [(0, .ref 42), (1, .int v1), (2, .int v2)], [.int 0], SH0, [], lg) rfl ?_
      exact E_retp (p := (0 : Int32) = 0 ∨ (0 : Int32) = 1) rfl (by decide)
    · refine E_itf hc ?_
      subst h
      refine E_sts 2 (25, [(0, .ref 42), (1, .int v1), (2, .int v2)], [.int 1], SH0, [], lg) rfl ?_
      exact E_retp (p := (1 : Int32) = 0 ∨ (1 : Int32) = 1) rfl (by decide)
  · refine E_itf hc ?_
    subst h
    refine E_sts 1 (25, [(0, .ref 42), (1, .int v1), (2, .int v2)], [.int 0], SH0, [], lg) rfl ?_
    exact E_retp (p := (0 : Int32) = 0 ∨ (0 : Int32) = 1) rfl (by decide)
set_option maxHeartbeats 4000000 in
set_option maxRecDepth 20000 in
theorem e_X4_readPart_tp_dr_loves (X : xX) (σ : xM) (lg : Int64) (v1 : Int32) (v2 : Int32) (v3 : Int32) (v5 : Int32) (r : Bool × (Nat → Int32) × Int32 × Int32 × Int32) (h : X4_readPart_tp_dr_loves (σ 2400) (σ 4207 0) (σ 4208 0) (σ 4209 0) (σ 4210 0) (σ 4400) (σ 4700) v1 v2 v3 v5 = some r) : EM XP X 3 56 [.ref 42, .int v1, .int v2, .int v3, .ref 24, .int v5] SH0 lg σ (some (.int (xb r.1)), SH0, [(2400, r.2.1), (4208, fun _ => r.2.2.1), (4209, fun _ => r.2.2.2.1), (4210, fun _ => r.2.2.2.2)], lg) := by
  refine EM_of (M := xm_56) rfl rfl ?_
  unfold X4_readPart_tp_dr_loves at h
  refine E_sts 4 (if (σ 4209 0) = 1 then 8 else 16, [(0, .ref 42), (1, .int v1), (2, .int v2), (3, .int v3), (4, .ref 24), (5, .int v5)], [], SH0, [], lg) rfl ?_
  rcases x_br h with ⟨hc, h⟩ | ⟨hc, h⟩
  · refine E_itt hc ?_
    refine E_sts 4 (if (σ 4210 0) = v1 then 18 else 16, [(0, .ref 42), (1, .int v1), (2, .int v2), (3, .int v3), (4, .ref 24), (5, .int v5)], [], SH0, [], lg) rfl ?_
    rcases x_br h with ⟨hc, h⟩ | ⟨hc, h⟩
    · refine E_itt hc ?_
      refine E_sts 5 (25, [(0, .ref 42), (1, .int v1), (2, .int v2), (3, .int v3), (4, .ref 24), (5, .int v5)], [.int ((σ 4208 0) + 1), .ref 42], SH0, [], lg) rfl ?_
      obtain ⟨r25, hr, h⟩ := x_bind h
      refine E_call rfl (e_X4_take X _ _ _ r25 hr) (by decide) ?_
      refine E_sts 3 (31, [(0, .ref 42), (1, .int v1), (2, .int v2), (3, .int v3), (4, .ref 24), (5, .int v5)], [.int v3, .int v2, .ref 42], SH0, [(4208, fun _ => r25.1), (4209, fun _ => r25.2.1), (4210, fun _ => r25.2.2)], lg) rfl ?_
      refine E_call rfl (e_X4_isNumber X _ _ _ _ (X4_isNumber r25.2.1 r25.2.2 v2 v3) rfl) (by decide) ?_
      refine E_sts 1 (if (xb (X4_isNumber r25.2.1 r25.2.2 v2 v3)) = 0 then 37 else 39, [(0, .ref 42), (1, .int v1), (2, .int v2), (3, .int v3), (4, .ref 24), (5, .int v5)], [], SH0, [(4208, fun _ => r25.1), (4209, fun _ => r25.2.1), (4210, fun _ => r25.2.2)], lg) rfl ?_
      rcases x_br h with ⟨hc, h⟩ | ⟨hc, h⟩
      · refine E_itt hc ?_
        obtain rfl := Option.some.inj h
        refine E_sts 2 (38, [], [.int 0], SH0, [(2400, (σ 2400)), (4208, fun _ => r25.1), (4209, fun _ => r25.2.1), (4210, fun _ => r25.2.2)], lg) rfl ?_
        exact E_retp (p := (0 : Int32) = 0 ∨ (0 : Int32) = 1) rfl (by decide)
      · refine E_itf hc ?_
        refine E_sts 4 (47, [(0, .ref 42), (1, .int v1), (2, .int v2), (3, .int v3), (4, .ref 24), (5, .int v5)], [.int r25.2.2, .int v5, .ref 24], SH0, [(4208, fun _ => r25.1), (4209, fun _ => r25.2.1), (4210, fun _ => r25.2.2)], lg) rfl ?_
        obtain ⟨hp, h⟩ := x_ite h
        refine E_par (p := inr v5 9) (48, [(0, .ref 42), (1, .int v1), (2, .int v2), (3, .int v3), (4, .ref 24), (5, .int v5)], [], SH0, [(2400, (upd (σ 2400) v5.toNatClampNeg r25.2.2)), (4208, fun _ => r25.1), (4209, fun _ => r25.2.1), (4210, fun _ => r25.2.2)], lg) rfl hp ?_
        refine E_sts 5 (55, [(0, .ref 42), (1, .int v1), (2, .int v2), (3, .int v3), (4, .ref 24), (5, .int v5)], [.int (r25.1 + 1), .ref 42], SH0, [(2400, (upd (σ 2400) v5.toNatClampNeg r25.2.2)), (4208, fun _ => r25.1), (4209, fun _ => r25.2.1), (4210, fun _ => r25.2.2)], lg) rfl ?_
        obtain ⟨r55, hr, h⟩ := x_bind h
        refine E_call rfl (e_X4_take X _ _ _ r55 hr) (by decide) ?_
        obtain rfl := Option.some.inj h
        refine E_sts 1 (59, [(0, .ref 42), (1, .int v1), (2, .int v2), (3, .int v3), (4, .ref 24), (5, .int v5)], [.int 1], SH0, [(2400, (upd (σ 2400) v5.toNatClampNeg r25.2.2)), (4208, fun _ => r55.1), (4209, fun _ => r55.2.1), (4210, fun _ => r55.2.2)], lg) rfl ?_
        exact E_retp (p := (1 : Int32) = 0 ∨ (1 : Int32) = 1) rfl (by decide)
    · refine E_itf hc ?_
      obtain rfl := Option.some.inj h
      refine E_sts 2 (17, [], [.int 1], SH0, [(2400, (σ 2400)), (4208, fun _ => (σ 4208 0)), (4209, fun _ => (σ 4209 0)), (4210, fun _ => (σ 4210 0))], lg) rfl ?_
      exact E_retp (p := (1 : Int32) = 0 ∨ (1 : Int32) = 1) rfl (by decide)
  · refine E_itf hc ?_
    obtain rfl := Option.some.inj h
    refine E_sts 2 (17, [], [.int 1], SH0, [(2400, (σ 2400)), (4208, fun _ => (σ 4208 0)), (4209, fun _ => (σ 4209 0)), (4210, fun _ => (σ 4210 0))], lg) rfl ?_
    exact E_retp (p := (1 : Int32) = 0 ∨ (1 : Int32) = 1) rfl (by decide)
set_option maxHeartbeats 4000000 in
set_option maxRecDepth 20000 in
theorem e_X4_readPart_tp_dr_seconds (X : xX) (σ : xM) (lg : Int64) (v1 : Int32) (v2 : Int32) (v3 : Int32) (v5 : Int32) (r : Bool × (Nat → Int32) × Int32 × Int32 × Int32) (h : X4_readPart_tp_dr_seconds (σ 2500) (σ 4207 0) (σ 4208 0) (σ 4209 0) (σ 4210 0) (σ 4400) (σ 4700) v1 v2 v3 v5 = some r) : EM XP X 3 56 [.ref 42, .int v1, .int v2, .int v3, .ref 25, .int v5] SH0 lg σ (some (.int (xb r.1)), SH0, [(2500, r.2.1), (4208, fun _ => r.2.2.1), (4209, fun _ => r.2.2.2.1), (4210, fun _ => r.2.2.2.2)], lg) := by
  refine EM_of (M := xm_56) rfl rfl ?_
  unfold X4_readPart_tp_dr_seconds at h
  refine E_sts 4 (if (σ 4209 0) = 1 then 8 else 16, [(0, .ref 42), (1, .int v1), (2, .int v2), (3, .int v3), (4, .ref 25), (5, .int v5)], [], SH0, [], lg) rfl ?_
  rcases x_br h with ⟨hc, h⟩ | ⟨hc, h⟩
  · refine E_itt hc ?_
    refine E_sts 4 (if (σ 4210 0) = v1 then 18 else 16, [(0, .ref 42), (1, .int v1), (2, .int v2), (3, .int v3), (4, .ref 25), (5, .int v5)], [], SH0, [], lg) rfl ?_
    rcases x_br h with ⟨hc, h⟩ | ⟨hc, h⟩
    · refine E_itt hc ?_
      refine E_sts 5 (25, [(0, .ref 42), (1, .int v1), (2, .int v2), (3, .int v3), (4, .ref 25), (5, .int v5)], [.int ((σ 4208 0) + 1), .ref 42], SH0, [], lg) rfl ?_
      obtain ⟨r25, hr, h⟩ := x_bind h
      refine E_call rfl (e_X4_take X _ _ _ r25 hr) (by decide) ?_
      refine E_sts 3 (31, [(0, .ref 42), (1, .int v1), (2, .int v2), (3, .int v3), (4, .ref 25), (5, .int v5)], [.int v3, .int v2, .ref 42], SH0, [(4208, fun _ => r25.1), (4209, fun _ => r25.2.1), (4210, fun _ => r25.2.2)], lg) rfl ?_
      refine E_call rfl (e_X4_isNumber X _ _ _ _ (X4_isNumber r25.2.1 r25.2.2 v2 v3) rfl) (by decide) ?_
      refine E_sts 1 (if (xb (X4_isNumber r25.2.1 r25.2.2 v2 v3)) = 0 then 37 else 39, [(0, .ref 42), (1, .int v1), (2, .int v2), (3, .int v3), (4, .ref 25), (5, .int v5)], [], SH0, [(4208, fun _ => r25.1), (4209, fun _ => r25.2.1), (4210, fun _ => r25.2.2)], lg) rfl ?_
      rcases x_br h with ⟨hc, h⟩ | ⟨hc, h⟩
      · refine E_itt hc ?_
        obtain rfl := Option.some.inj h
        refine E_sts 2 (38, [], [.int 0], SH0, [(2500, (σ 2500)), (4208, fun _ => r25.1), (4209, fun _ => r25.2.1), (4210, fun _ => r25.2.2)], lg) rfl ?_
        exact E_retp (p := (0 : Int32) = 0 ∨ (0 : Int32) = 1) rfl (by decide)
      · refine E_itf hc ?_
        refine E_sts 4 (47, [(0, .ref 42), (1, .int v1), (2, .int v2), (3, .int v3), (4, .ref 25), (5, .int v5)], [.int r25.2.2, .int v5, .ref 25], SH0, [(4208, fun _ => r25.1), (4209, fun _ => r25.2.1), (4210, fun _ => r25.2.2)], lg) rfl ?_
        obtain ⟨hp, h⟩ := x_ite h
        refine E_par (p := inr v5 9) (48, [(0, .ref 42), (1, .int v1), (2, .int v2), (3, .int v3), (4, .ref 25), (5, .int v5)], [], SH0, [(2500, (upd (σ 2500) v5.toNatClampNeg r25.2.2)), (4208, fun _ => r25.1), (4209, fun _ => r25.2.1), (4210, fun _ => r25.2.2)], lg) rfl hp ?_
        refine E_sts 5 (55, [(0, .ref 42), (1, .int v1), (2, .int v2), (3, .int v3), (4, .ref 25), (5, .int v5)], [.int (r25.1 + 1), .ref 42], SH0, [(2500, (upd (σ 2500) v5.toNatClampNeg r25.2.2)), (4208, fun _ => r25.1), (4209, fun _ => r25.2.1), (4210, fun _ => r25.2.2)], lg) rfl ?_
        obtain ⟨r55, hr, h⟩ := x_bind h
        refine E_call rfl (e_X4_take X _ _ _ r55 hr) (by decide) ?_
        obtain rfl := Option.some.inj h
        refine E_sts 1 (59, [(0, .ref 42), (1, .int v1), (2, .int v2), (3, .int v3), (4, .ref 25), (5, .int v5)], [.int 1], SH0, [(2500, (upd (σ 2500) v5.toNatClampNeg r25.2.2)), (4208, fun _ => r55.1), (4209, fun _ => r55.2.1), (4210, fun _ => r55.2.2)], lg) rfl ?_
        exact E_retp (p := (1 : Int32) = 0 ∨ (1 : Int32) = 1) rfl (by decide)
    · refine E_itf hc ?_
      obtain rfl := Option.some.inj h
      refine E_sts 2 (17, [], [.int 1], SH0, [(2500, (σ 2500)), (4208, fun _ => (σ 4208 0)), (4209, fun _ => (σ 4209 0)), (4210, fun _ => (σ 4210 0))], lg) rfl ?_
      exact E_retp (p := (1 : Int32) = 0 ∨ (1 : Int32) = 1) rfl (by decide)
  · refine E_itf hc ?_
    obtain rfl := Option.some.inj h
    refine E_sts 2 (17, [], [.int 1], SH0, [(2500, (σ 2500)), (4208, fun _ => (σ 4208 0)), (4209, fun _ => (σ 4209 0)), (4210, fun _ => (σ 4210 0))], lg) rfl ?_
    exact E_retp (p := (1 : Int32) = 0 ∨ (1 : Int32) = 1) rfl (by decide)
set_option maxHeartbeats 4000000 in
set_option maxRecDepth 20000 in
theorem e_X4_readPart_tp_dr_aheads (X : xX) (σ : xM) (lg : Int64) (v1 : Int32) (v2 : Int32) (v3 : Int32) (v5 : Int32) (r : Bool × (Nat → Int32) × Int32 × Int32 × Int32) (h : X4_readPart_tp_dr_aheads (σ 2600) (σ 4207 0) (σ 4208 0) (σ 4209 0) (σ 4210 0) (σ 4400) (σ 4700) v1 v2 v3 v5 = some r) : EM XP X 3 56 [.ref 42, .int v1, .int v2, .int v3, .ref 26, .int v5] SH0 lg σ (some (.int (xb r.1)), SH0, [(2600, r.2.1), (4208, fun _ => r.2.2.1), (4209, fun _ => r.2.2.2.1), (4210, fun _ => r.2.2.2.2)], lg) := by
  refine EM_of (M := xm_56) rfl rfl ?_
  unfold X4_readPart_tp_dr_aheads at h
  refine E_sts 4 (if (σ 4209 0) = 1 then 8 else 16, [(0, .ref 42), (1, .int v1), (2, .int v2), (3, .int v3), (4, .ref 26), (5, .int v5)], [], SH0, [], lg) rfl ?_
  rcases x_br h with ⟨hc, h⟩ | ⟨hc, h⟩
  · refine E_itt hc ?_
    refine E_sts 4 (if (σ 4210 0) = v1 then 18 else 16, [(0, .ref 42), (1, .int v1), (2, .int v2), (3, .int v3), (4, .ref 26), (5, .int v5)], [], SH0, [], lg) rfl ?_
    rcases x_br h with ⟨hc, h⟩ | ⟨hc, h⟩
    · refine E_itt hc ?_
      refine E_sts 5 (25, [(0, .ref 42), (1, .int v1), (2, .int v2), (3, .int v3), (4, .ref 26), (5, .int v5)], [.int ((σ 4208 0) + 1), .ref 42], SH0, [], lg) rfl ?_
      obtain ⟨r25, hr, h⟩ := x_bind h
      refine E_call rfl (e_X4_take X _ _ _ r25 hr) (by decide) ?_
      refine E_sts 3 (31, [(0, .ref 42), (1, .int v1), (2, .int v2), (3, .int v3), (4, .ref 26), (5, .int v5)], [.int v3, .int v2, .ref 42], SH0, [(4208, fun _ => r25.1), (4209, fun _ => r25.2.1), (4210, fun _ => r25.2.2)], lg) rfl ?_
      refine E_call rfl (e_X4_isNumber X _ _ _ _ (X4_isNumber r25.2.1 r25.2.2 v2 v3) rfl) (by decide) ?_
      refine E_sts 1 (if (xb (X4_isNumber r25.2.1 r25.2.2 v2 v3)) = 0 then 37 else 39, [(0, .ref 42), (1, .int v1), (2, .int v2), (3, .int v3), (4, .ref 26), (5, .int v5)], [], SH0, [(4208, fun _ => r25.1), (4209, fun _ => r25.2.1), (4210, fun _ => r25.2.2)], lg) rfl ?_
      rcases x_br h with ⟨hc, h⟩ | ⟨hc, h⟩
      · refine E_itt hc ?_
        obtain rfl := Option.some.inj h
        refine E_sts 2 (38, [], [.int 0], SH0, [(2600, (σ 2600)), (4208, fun _ => r25.1), (4209, fun _ => r25.2.1), (4210, fun _ => r25.2.2)], lg) rfl ?_
        exact E_retp (p := (0 : Int32) = 0 ∨ (0 : Int32) = 1) rfl (by decide)
      · refine E_itf hc ?_
        refine E_sts 4 (47, [(0, .ref 42), (1, .int v1), (2, .int v2), (3, .int v3), (4, .ref 26), (5, .int v5)], [.int r25.2.2, .int v5, .ref 26], SH0, [(4208, fun _ => r25.1), (4209, fun _ => r25.2.1), (4210, fun _ => r25.2.2)], lg) rfl ?_
        obtain ⟨hp, h⟩ := x_ite h
        refine E_par (p := inr v5 9) (48, [(0, .ref 42), (1, .int v1), (2, .int v2), (3, .int v3), (4, .ref 26), (5, .int v5)], [], SH0, [(2600, (upd (σ 2600) v5.toNatClampNeg r25.2.2)), (4208, fun _ => r25.1), (4209, fun _ => r25.2.1), (4210, fun _ => r25.2.2)], lg) rfl hp ?_
        refine E_sts 5 (55, [(0, .ref 42), (1, .int v1), (2, .int v2), (3, .int v3), (4, .ref 26), (5, .int v5)], [.int (r25.1 + 1), .ref 42], SH0, [(2600, (upd (σ 2600) v5.toNatClampNeg r25.2.2)), (4208, fun _ => r25.1), (4209, fun _ => r25.2.1), (4210, fun _ => r25.2.2)], lg) rfl ?_
        obtain ⟨r55, hr, h⟩ := x_bind h
        refine E_call rfl (e_X4_take X _ _ _ r55 hr) (by decide) ?_
        obtain rfl := Option.some.inj h
        refine E_sts 1 (59, [(0, .ref 42), (1, .int v1), (2, .int v2), (3, .int v3), (4, .ref 26), (5, .int v5)], [.int 1], SH0, [(2600, (upd (σ 2600) v5.toNatClampNeg r25.2.2)), (4208, fun _ => r55.1), (4209, fun _ => r55.2.1), (4210, fun _ => r55.2.2)], lg) rfl ?_
        exact E_retp (p := (1 : Int32) = 0 ∨ (1 : Int32) = 1) rfl (by decide)
    · refine E_itf hc ?_
      obtain rfl := Option.some.inj h
      refine E_sts 2 (17, [], [.int 1], SH0, [(2600, (σ 2600)), (4208, fun _ => (σ 4208 0)), (4209, fun _ => (σ 4209 0)), (4210, fun _ => (σ 4210 0))], lg) rfl ?_
      exact E_retp (p := (1 : Int32) = 0 ∨ (1 : Int32) = 1) rfl (by decide)
  · refine E_itf hc ?_
    obtain rfl := Option.some.inj h
    refine E_sts 2 (17, [], [.int 1], SH0, [(2600, (σ 2600)), (4208, fun _ => (σ 4208 0)), (4209, fun _ => (σ 4209 0)), (4210, fun _ => (σ 4210 0))], lg) rfl ?_
    exact E_retp (p := (1 : Int32) = 0 ∨ (1 : Int32) = 1) rfl (by decide)
set_option maxHeartbeats 4000000 in
set_option maxRecDepth 20000 in
theorem e_X4_readBow (X : xX) (σ : xM) (lg : Int64) (r : Bool × Int32 × (Nat → Int32) × (Nat → Int32) × (Nat → Int32) × (Nat → Int32) × Int32 × Int32 × Int32) (h : X4_readBow (σ 2201 0) (σ 2300) (σ 2400) (σ 2500) (σ 2600) (σ 4207 0) (σ 4208 0) (σ 4209 0) (σ 4210 0) (σ 4400) (σ 4700) = some r) : EM XP X 4 55 [.ref 42, .ref 22] SH0 lg σ (some (.int (xb r.1)), SH0, [(2201, fun _ => r.2.1), (2300, r.2.2.1), (2400, r.2.2.2.1), (2500, r.2.2.2.2.1), (2600, r.2.2.2.2.2.1), (4208, fun _ => r.2.2.2.2.2.2.1), (4209, fun _ => r.2.2.2.2.2.2.2.1), (4210, fun _ => r.2.2.2.2.2.2.2.2)], lg) := by
  refine EM_of (M := xm_55) rfl rfl ?_
  unfold X4_readBow at h
  refine E_sts 4 (if (σ 2201 0) < 9 then 11 else 9, [(0, .ref 42), (1, .ref 22)], [], SH0, [], lg) rfl ?_
  rcases x_br h with ⟨hc, h⟩ | ⟨hc, h⟩
  · refine E_itt hc ?_
    refine E_sts 3 (16, [(0, .ref 42), (1, .ref 22)], [.int (σ 4210 0), .ref 22], SH0, [], lg) rfl ?_
    obtain ⟨r16, hr, h⟩ := x_bind h
    refine E_call rfl (e_X2_addBow_dr X _ _ _ r16 hr) (by decide) ?_
    refine E_sts 6 (27, [(0, .ref 42), (1, .ref 22), (2, .int r16.1)], [.int ((σ 4208 0) + 1), .ref 42], SH0, [(2201, fun _ => r16.2.1), (2300, r16.2.2.1), (2400, r16.2.2.2.1), (2500, r16.2.2.2.2.1), (2600, r16.2.2.2.2.2)], lg) rfl ?_
    obtain ⟨r27, hr, h⟩ := x_bind h
    refine E_call rfl (e_X4_take X _ _ _ r27 hr) (by decide) ?_
    refine E_sts 7 (41, [(0, .ref 42), (1, .ref 22), (2, .int r16.1)], [.int r16.1, .ref 24, .int 99, .int 0, .int 13, .ref 42], SH0, [(2201, fun _ => r16.2.1), (2300, r16.2.2.1), (2400, r16.2.2.2.1), (2500, r16.2.2.2.2.1), (2600, r16.2.2.2.2.2), (4208, fun _ => r27.1), (4209, fun _ => r27.2.1), (4210, fun _ => r27.2.2)], lg) rfl ?_
    obtain ⟨r41, hr, h⟩ := x_bind h
    refine E_call rfl (e_X4_readPart_tp_dr_loves X _ _ _ _ _ _ r41 hr) (by decide) ?_
    refine E_sts 1 (if (xb r41.1) = 0 then 88 else 47, [(0, .ref 42), (1, .ref 22), (2, .int r16.1)], [], SH0, [(2201, fun _ => r16.2.1), (2300, r16.2.2.1), (2400, r41.2.1), (2500, r16.2.2.2.2.1), (2600, r16.2.2.2.2.2), (4208, fun _ => r41.2.2.1), (4209, fun _ => r41.2.2.2.1), (4210, fun _ => r41.2.2.2.2)], lg) rfl ?_
    rcases x_br h with ⟨hc, h⟩ | ⟨hc, h⟩
    · refine E_itt hc ?_
      obtain rfl := Option.some.inj h
      refine E_sts 1 (89, [(0, .ref 42), (1, .ref 22), (2, .int r16.1)], [.int 0], SH0, [(2201, fun _ => r16.2.1), (2300, r16.2.2.1), (2400, r41.2.1), (2500, r16.2.2.2.2.1), (2600, r16.2.2.2.2.2), (4208, fun _ => r41.2.2.1), (4209, fun _ => r41.2.2.2.1), (4210, fun _ => r41.2.2.2.2)], lg) rfl ?_
      exact E_retp (p := (0 : Int32) = 0 ∨ (0 : Int32) = 1) rfl (by decide)
    · refine E_itf hc ?_
      refine E_sts 7 (58, [(0, .ref 42), (1, .ref 22), (2, .int r16.1)], [.int r16.1, .ref 25, .int 60, .int 1, .int 14, .ref 42], SH0, [(2201, fun _ => r16.2.1), (2300, r16.2.2.1), (2400, r41.2.1), (2500, r16.2.2.2.2.1), (2600, r16.2.2.2.2.2), (4208, fun _ => r41.2.2.1), (4209, fun _ => r41.2.2.2.1), (4210, fun _ => r41.2.2.2.2)], lg) rfl ?_
      obtain ⟨r58, hr, h⟩ := x_bind h
      refine E_call rfl (e_X4_readPart_tp_dr_seconds X _ _ _ _ _ _ r58 hr) (by decide) ?_
      refine E_sts 1 (if (xb r58.1) = 0 then 88 else 64, [(0, .ref 42), (1, .ref 22), (2, .int r16.1)], [], SH0, [(2201, fun _ => r16.2.1), (2300, r16.2.2.1), (2400, r41.2.1), (2500, r58.2.1), (2600, r16.2.2.2.2.2), (4208, fun _ => r58.2.2.1), (4209, fun _ => r58.2.2.2.1), (4210, fun _ => r58.2.2.2.2)], lg) rfl ?_
      rcases x_br h with ⟨hc, h⟩ | ⟨hc, h⟩
      · refine E_itt hc ?_
        obtain rfl := Option.some.inj h
        refine E_sts 1 (89, [(0, .ref 42), (1, .ref 22), (2, .int r16.1)], [.int 0], SH0, [(2201, fun _ => r16.2.1), (2300, r16.2.2.1), (2400, r41.2.1), (2500, r58.2.1), (2600, r16.2.2.2.2.2), (4208, fun _ => r58.2.2.1), (4209, fun _ => r58.2.2.2.1), (4210, fun _ => r58.2.2.2.2)], lg) rfl ?_
        exact E_retp (p := (0 : Int32) = 0 ∨ (0 : Int32) = 1) rfl (by decide)
      · refine E_itf hc ?_
        refine E_sts 11 (78, [(0, .ref 42), (1, .ref 22), (2, .int r16.1)], [.int r16.1, .ref 26, .int ((xshl 1 r16.1) - 1), .int 0, .int 15, .ref 42], SH0, [(2201, fun _ => r16.2.1), (2300, r16.2.2.1), (2400, r41.2.1), (2500, r58.2.1), (2600, r16.2.2.2.2.2), (4208, fun _ => r58.2.2.1), (4209, fun _ => r58.2.2.2.1), (4210, fun _ => r58.2.2.2.2)], lg) rfl ?_
        obtain ⟨r78, hr, h⟩ := x_bind h
        refine E_call rfl (e_X4_readPart_tp_dr_aheads X _ _ _ _ _ _ r78 hr) (by decide) ?_
        refine E_sts 1 (if (xb r78.1) = 0 then 88 else 84, [(0, .ref 42), (1, .ref 22), (2, .int r16.1)], [], SH0, [(2201, fun _ => r16.2.1), (2300, r16.2.2.1), (2400, r41.2.1), (2500, r58.2.1), (2600, r78.2.1), (4208, fun _ => r78.2.2.1), (4209, fun _ => r78.2.2.2.1), (4210, fun _ => r78.2.2.2.2)], lg) rfl ?_
        rcases x_br h with ⟨hc, h⟩ | ⟨hc, h⟩
        · refine E_itt hc ?_
          obtain rfl := Option.some.inj h
          refine E_sts 1 (89, [(0, .ref 42), (1, .ref 22), (2, .int r16.1)], [.int 0], SH0, [(2201, fun _ => r16.2.1), (2300, r16.2.2.1), (2400, r41.2.1), (2500, r58.2.1), (2600, r78.2.1), (4208, fun _ => r78.2.2.1), (4209, fun _ => r78.2.2.2.1), (4210, fun _ => r78.2.2.2.2)], lg) rfl ?_
          exact E_retp (p := (0 : Int32) = 0 ∨ (0 : Int32) = 1) rfl (by decide)
        · refine E_itf hc ?_
          obtain rfl := Option.some.inj h
          refine E_sts 2 (89, [(0, .ref 42), (1, .ref 22), (2, .int r16.1)], [.int 1], SH0, [(2201, fun _ => r16.2.1), (2300, r16.2.2.1), (2400, r41.2.1), (2500, r58.2.1), (2600, r78.2.1), (4208, fun _ => r78.2.2.1), (4209, fun _ => r78.2.2.2.1), (4210, fun _ => r78.2.2.2.2)], lg) rfl ?_
          exact E_retp (p := (1 : Int32) = 0 ∨ (1 : Int32) = 1) rfl (by decide)
  · refine E_itf hc ?_
    obtain rfl := Option.some.inj h
    refine E_sts 2 (10, [], [.int 0], SH0, [(2201, fun _ => (σ 2201 0)), (2300, (σ 2300)), (2400, (σ 2400)), (2500, (σ 2500)), (2600, (σ 2600)), (4208, fun _ => (σ 4208 0)), (4209, fun _ => (σ 4209 0)), (4210, fun _ => (σ 4210 0))], lg) rfl ?_
    exact E_retp (p := (0 : Int32) = 0 ∨ (0 : Int32) = 1) rfl (by decide)
set_option maxHeartbeats 4000000 in
set_option maxRecDepth 20000 in
theorem e_X4_readRule (X : xX) (σ : xM) (lg : Int64) (r : Bool × (Nat → Int32) × Int32 × Int32 × Int32) (h : X4_readRule (σ 2700) (σ 4207 0) (σ 4208 0) (σ 4210 0) (σ 4400) (σ 4700) = some r) : EM XP X 3 57 [.ref 42, .ref 22] SH0 lg σ (some (.int (xb r.1)), SH0, [(2700, r.2.1), (4208, fun _ => r.2.2.1), (4209, fun _ => r.2.2.2.1), (4210, fun _ => r.2.2.2.2)], lg) := by
  refine EM_of (M := xm_57) rfl rfl ?_
  unfold X4_readRule at h
  refine E_sts 10 (15, [(0, .ref 42), (1, .ref 22), (2, .int ((σ 4210 0) - 7))], [.int ((σ 4208 0) + 1), .ref 42], SH0, [], lg) rfl ?_
  obtain ⟨r15, hr, h⟩ := x_bind h
  refine E_call rfl (e_X4_take X _ _ _ r15 hr) (by decide) ?_
  refine E_sts 4 (24, [(0, .ref 42), (1, .ref 22), (2, .int ((σ 4210 0) - 7))], [.int ((σ 4210 0) - 7), .ref 1000, .int 0, .ref 42], SH0, [(4208, fun _ => r15.1), (4209, fun _ => r15.2.1), (4210, fun _ => r15.2.2)], lg) rfl ?_
  obtain ⟨hp, h⟩ := x_ite h
  refine E_par (p := inr ((σ 4210 0) - 7) 5) (25, [(0, .ref 42), (1, .ref 22), (2, .int ((σ 4210 0) - 7))], [.int (xstat 0 ((σ 4210 0) - 7).toNatClampNeg), .int 0, .ref 42], SH0, [(4208, fun _ => r15.1), (4209, fun _ => r15.2.1), (4210, fun _ => r15.2.2)], lg) rfl hp ?_
  refine E_call rfl (e_X4_isNumber X _ _ _ _ (X4_isNumber r15.2.1 r15.2.2 0 (xstat 0 ((σ 4210 0) - 7).toNatClampNeg)) rfl) (by decide) ?_
  refine E_sts 1 (if (xb (X4_isNumber r15.2.1 r15.2.2 0 (xstat 0 ((σ 4210 0) - 7).toNatClampNeg))) = 0 then 31 else 33, [(0, .ref 42), (1, .ref 22), (2, .int ((σ 4210 0) - 7))], [], SH0, [(4208, fun _ => r15.1), (4209, fun _ => r15.2.1), (4210, fun _ => r15.2.2)], lg) rfl ?_
  rcases x_br h with ⟨hc, h⟩ | ⟨hc, h⟩
  · refine E_itt hc ?_
    obtain rfl := Option.some.inj h
    refine E_sts 2 (32, [], [.int 0], SH0, [(2700, (σ 2700)), (4208, fun _ => r15.1), (4209, fun _ => r15.2.1), (4210, fun _ => r15.2.2)], lg) rfl ?_
    exact E_retp (p := (0 : Int32) = 0 ∨ (0 : Int32) = 1) rfl (by decide)
  · refine E_itf hc ?_
    refine E_sts 5 (42, [(0, .ref 42), (1, .ref 22), (2, .int ((σ 4210 0) - 7))], [.int r15.2.2, .int ((σ 4210 0) - 7), .ref 27], SH0, [(4208, fun _ => r15.1), (4209, fun _ => r15.2.1), (4210, fun _ => r15.2.2)], lg) rfl ?_
    obtain ⟨hp, h⟩ := x_ite h
    refine E_par (p := inr ((σ 4210 0) - 7) 5) (43, [(0, .ref 42), (1, .ref 22), (2, .int ((σ 4210 0) - 7))], [], SH0, [(2700, (upd (σ 2700) ((σ 4210 0) - 7).toNatClampNeg r15.2.2)), (4208, fun _ => r15.1), (4209, fun _ => r15.2.1), (4210, fun _ => r15.2.2)], lg) rfl hp ?_
    refine E_sts 5 (50, [(0, .ref 42), (1, .ref 22), (2, .int ((σ 4210 0) - 7))], [.int (r15.1 + 1), .ref 42], SH0, [(2700, (upd (σ 2700) ((σ 4210 0) - 7).toNatClampNeg r15.2.2)), (4208, fun _ => r15.1), (4209, fun _ => r15.2.1), (4210, fun _ => r15.2.2)], lg) rfl ?_
    obtain ⟨r50, hr, h⟩ := x_bind h
    refine E_call rfl (e_X4_take X _ _ _ r50 hr) (by decide) ?_
    obtain rfl := Option.some.inj h
    refine E_sts 1 (54, [(0, .ref 42), (1, .ref 22), (2, .int ((σ 4210 0) - 7))], [.int 1], SH0, [(2700, (upd (σ 2700) ((σ 4210 0) - 7).toNatClampNeg r15.2.2)), (4208, fun _ => r50.1), (4209, fun _ => r50.2.1), (4210, fun _ => r50.2.2)], lg) rfl ?_
    exact E_retp (p := (1 : Int32) = 0 ∨ (1 : Int32) = 1) rfl (by decide)
set_option maxHeartbeats 4000000 in
set_option maxRecDepth 20000 in
theorem e_X4_readContract (X : xX) (σ : xM) (lg : Int64) (r : Bool × (Nat → Int32) × Int32 × Int32 × Int32) (h : X4_readContract (σ 2201 0) (σ 2600) (σ 4207 0) (σ 4208 0) (σ 4400) (σ 4700) = some r) : EM XP X 3 58 [.ref 42, .ref 22] SH0 lg σ (some (.int (xb r.1)), SH0, [(2600, r.2.1), (4208, fun _ => r.2.2.1), (4209, fun _ => r.2.2.2.1), (4210, fun _ => r.2.2.2.2)], lg) := by
  refine EM_of (M := xm_58) rfl rfl ?_
  unfold X4_readContract at h
  refine E_sts 5 (7, [(0, .ref 42), (1, .ref 22)], [.int ((σ 4208 0) + 1), .ref 42], SH0, [], lg) rfl ?_
  obtain ⟨r7, hr, h⟩ := x_bind h
  refine E_call rfl (e_X4_take X _ _ _ r7 hr) (by decide) ?_
  refine E_sts 6 (18, [(0, .ref 42), (1, .ref 22)], [.int ((σ 2201 0) - 1), .int 0, .ref 42], SH0, [(4208, fun _ => r7.1), (4209, fun _ => r7.2.1), (4210, fun _ => r7.2.2)], lg) rfl ?_
  refine E_call rfl (e_X4_isNumber X _ _ _ _ (X4_isNumber r7.2.1 r7.2.2 0 ((σ 2201 0) - 1)) rfl) (by decide) ?_
  refine E_sts 1 (if (xb (X4_isNumber r7.2.1 r7.2.2 0 ((σ 2201 0) - 1))) = 0 then 24 else 26, [(0, .ref 42), (1, .ref 22)], [], SH0, [(4208, fun _ => r7.1), (4209, fun _ => r7.2.1), (4210, fun _ => r7.2.2)], lg) rfl ?_
  rcases x_br h with ⟨hc, h⟩ | ⟨hc, h⟩
  · refine E_itt hc ?_
    obtain rfl := Option.some.inj h
    refine E_sts 2 (25, [], [.int 0], SH0, [(2600, (σ 2600)), (4208, fun _ => r7.1), (4209, fun _ => r7.2.1), (4210, fun _ => r7.2.2)], lg) rfl ?_
    exact E_retp (p := (0 : Int32) = 0 ∨ (0 : Int32) = 1) rfl (by decide)
  · refine E_itf hc ?_
    refine E_sts 8 (38, [(0, .ref 42), (1, .ref 22), (2, .int r7.2.2)], [.int (r7.1 + 1), .ref 42], SH0, [(4208, fun _ => r7.1), (4209, fun _ => r7.2.1), (4210, fun _ => r7.2.2)], lg) rfl ?_
    obtain ⟨r38, hr, h⟩ := x_bind h
    refine E_call rfl (e_X4_take X _ _ _ r38 hr) (by decide) ?_
    refine E_sts 6 (49, [(0, .ref 42), (1, .ref 22), (2, .int r7.2.2)], [.int ((σ 2201 0) - 1), .int 0, .ref 42], SH0, [(4208, fun _ => r38.1), (4209, fun _ => r38.2.1), (4210, fun _ => r38.2.2)], lg) rfl ?_
    refine E_call rfl (e_X4_isNumber X _ _ _ _ (X4_isNumber r38.2.1 r38.2.2 0 ((σ 2201 0) - 1)) rfl) (by decide) ?_
    refine E_sts 1 (if (xb (X4_isNumber r38.2.1 r38.2.2 0 ((σ 2201 0) - 1))) = 0 then 63 else 55, [(0, .ref 42), (1, .ref 22), (2, .int r7.2.2)], [], SH0, [(4208, fun _ => r38.1), (4209, fun _ => r38.2.1), (4210, fun _ => r38.2.2)], lg) rfl ?_
    rcases x_br h with ⟨hc, h⟩ | ⟨hc, h⟩
    · refine E_itt hc ?_
      obtain rfl := Option.some.inj h
      refine E_sts 2 (64, [], [.int 0], SH0, [(2600, (σ 2600)), (4208, fun _ => r38.1), (4209, fun _ => r38.2.1), (4210, fun _ => r38.2.2)], lg) rfl ?_
      exact E_retp (p := (0 : Int32) = 0 ∨ (0 : Int32) = 1) rfl (by decide)
    · refine E_itf hc ?_
      refine E_sts 4 (if r38.2.2 = r7.2.2 then 63 else 65, [(0, .ref 42), (1, .ref 22), (2, .int r7.2.2)], [], SH0, [(4208, fun _ => r38.1), (4209, fun _ => r38.2.1), (4210, fun _ => r38.2.2)], lg) rfl ?_
      rcases x_br h with ⟨hc, h⟩ | ⟨hc, h⟩
      · refine E_itt hc ?_
        obtain rfl := Option.some.inj h
        refine E_sts 2 (64, [], [.int 0], SH0, [(2600, (σ 2600)), (4208, fun _ => r38.1), (4209, fun _ => r38.2.1), (4210, fun _ => r38.2.2)], lg) rfl ?_
        exact E_retp (p := (0 : Int32) = 0 ∨ (0 : Int32) = 1) rfl (by decide)
      · refine E_itf hc ?_
        refine E_sts 5 (74, [(0, .ref 42), (1, .ref 22), (2, .int r7.2.2)], [.int r38.2.2, .ref 26, .int r38.2.2, .ref 26], SH0, [(4208, fun _ => r38.1), (4209, fun _ => r38.2.1), (4210, fun _ => r38.2.2)], lg) rfl ?_
        obtain ⟨hp, h⟩ := x_ite h
        refine E_par (p := inr r38.2.2 9) (75, [(0, .ref 42), (1, .ref 22), (2, .int r7.2.2)], [.int ((σ 2600) r38.2.2.toNatClampNeg), .int r38.2.2, .ref 26], SH0, [(4208, fun _ => r38.1), (4209, fun _ => r38.2.1), (4210, fun _ => r38.2.2)], lg) rfl hp ?_
        refine E_sts 4 (79, [(0, .ref 42), (1, .ref 22), (2, .int r7.2.2)], [.int (((σ 2600) r38.2.2.toNatClampNeg) ||| (xshl 1 r7.2.2)), .int r38.2.2, .ref 26], SH0, [(4208, fun _ => r38.1), (4209, fun _ => r38.2.1), (4210, fun _ => r38.2.2)], lg) rfl ?_
        obtain ⟨hp, h⟩ := x_ite h
        refine E_par (p := inr r38.2.2 9) (80, [(0, .ref 42), (1, .ref 22), (2, .int r7.2.2)], [], SH0, [(2600, (upd (σ 2600) r38.2.2.toNatClampNeg (((σ 2600) r38.2.2.toNatClampNeg) ||| (xshl 1 r7.2.2)))), (4208, fun _ => r38.1), (4209, fun _ => r38.2.1), (4210, fun _ => r38.2.2)], lg) rfl hp ?_
        refine E_sts 5 (87, [(0, .ref 42), (1, .ref 22), (2, .int r7.2.2)], [.int (r38.1 + 1), .ref 42], SH0, [(2600, (upd (σ 2600) r38.2.2.toNatClampNeg (((σ 2600) r38.2.2.toNatClampNeg) ||| (xshl 1 r7.2.2)))), (4208, fun _ => r38.1), (4209, fun _ => r38.2.1), (4210, fun _ => r38.2.2)], lg) rfl ?_
        obtain ⟨r87, hr, h⟩ := x_bind h
        refine E_call rfl (e_X4_take X _ _ _ r87 hr) (by decide) ?_
        obtain rfl := Option.some.inj h
        refine E_sts 1 (91, [(0, .ref 42), (1, .ref 22), (2, .int r7.2.2)], [.int 1], SH0, [(2600, (upd (σ 2600) r38.2.2.toNatClampNeg (((σ 2600) r38.2.2.toNatClampNeg) ||| (xshl 1 r7.2.2)))), (4208, fun _ => r87.1), (4209, fun _ => r87.2.1), (4210, fun _ => r87.2.2)], lg) rfl ?_
        exact E_retp (p := (1 : Int32) = 0 ∨ (1 : Int32) = 1) rfl (by decide)
set_option maxHeartbeats 4000000 in
set_option maxRecDepth 20000 in
theorem e_X4_readItem (X : xX) (σ : xM) (lg : Int64) (r : Bool × Int32 × (Nat → Int32) × (Nat → Int32) × (Nat → Int32) × (Nat → Int32) × (Nat → Int32) × Int32 × Int32 × Int32) (h : X4_readItem (σ 2201 0) (σ 2300) (σ 2400) (σ 2500) (σ 2600) (σ 2700) (σ 4207 0) (σ 4208 0) (σ 4209 0) (σ 4210 0) (σ 4400) (σ 4700) = some r) : EM XP X 5 54 [.ref 42, .ref 22] SH0 lg σ (some (.int (xb r.1)), SH0, [(2201, fun _ => r.2.1), (2300, r.2.2.1), (2400, r.2.2.2.1), (2500, r.2.2.2.2.1), (2600, r.2.2.2.2.2.1), (2700, r.2.2.2.2.2.2.1), (4208, fun _ => r.2.2.2.2.2.2.2.1), (4209, fun _ => r.2.2.2.2.2.2.2.2.1), (4210, fun _ => r.2.2.2.2.2.2.2.2.2)], lg) := by
  refine EM_of (M := xm_54) rfl rfl ?_
  unfold X4_readItem at h
  refine E_sts 4 (if (σ 4209 0) = 1 then 10 else 8, [(0, .ref 42), (1, .ref 22)], [], SH0, [], lg) rfl ?_
  rcases x_br h with ⟨hc, h⟩ | ⟨hc, h⟩
  · refine E_itt hc ?_
    refine E_sts 4 (17, [(0, .ref 42), (1, .ref 22)], [.int 6, .int 0, .int (σ 4210 0)], SH0, [], lg) rfl ?_
    refine E_call rfl (e_X5_isIn X _ _ _ _ _ (X5_isIn (σ 4210 0) 0 6) rfl) (by decide) ?_
    refine E_sts 1 (if (xb (X5_isIn (σ 4210 0) 0 6)) = 0 then 29 else 23, [(0, .ref 42), (1, .ref 22)], [], SH0, [], lg) rfl ?_
    rcases x_br h with ⟨hc, h⟩ | ⟨hc, h⟩
    · refine E_itt hc ?_
      refine E_sts 4 (37, [(0, .ref 42), (1, .ref 22)], [.int 11, .int 7, .int (σ 4210 0)], SH0, [], lg) rfl ?_
      refine E_call rfl (e_X5_isIn X _ _ _ _ _ (X5_isIn (σ 4210 0) 7 11) rfl) (by decide) ?_
      refine E_sts 1 (if (xb (X5_isIn (σ 4210 0) 7 11)) = 0 then 49 else 43, [(0, .ref 42), (1, .ref 22)], [], SH0, [], lg) rfl ?_
      rcases x_br h with ⟨hc, h⟩ | ⟨hc, h⟩
      · refine E_itt hc ?_
        refine E_sts 4 (if (σ 4210 0) = 12 then 58 else 70, [(0, .ref 42), (1, .ref 22)], [], SH0, [], lg) rfl ?_
        rcases x_br h with ⟨hc, h⟩ | ⟨hc, h⟩
        · refine E_itt hc ?_
          refine E_sts 2 (60, [(0, .ref 42), (1, .ref 22)], [.ref 22, .ref 42], SH0, [], lg) rfl ?_
          obtain ⟨r60, hr, h⟩ := x_bind h
          refine E_call rfl (e_X4_readContract X _ _ r60 hr) (by decide) ?_
          refine E_sts 1 (if (xb r60.1) = 0 then 70 else 66, [(0, .ref 42), (1, .ref 22)], [], SH0, [(2600, r60.2.1), (4208, fun _ => r60.2.2.1), (4209, fun _ => r60.2.2.2.1), (4210, fun _ => r60.2.2.2.2)], lg) rfl ?_
          rcases x_br h with ⟨hc, h⟩ | ⟨hc, h⟩
          · refine E_itt hc ?_
            obtain rfl := Option.some.inj h
            refine E_sts 2 (71, [], [.int 0], SH0, [(2201, fun _ => (σ 2201 0)), (2300, (σ 2300)), (2400, (σ 2400)), (2500, (σ 2500)), (2600, r60.2.1), (2700, (σ 2700)), (4208, fun _ => r60.2.2.1), (4209, fun _ => r60.2.2.2.1), (4210, fun _ => r60.2.2.2.2)], lg) rfl ?_
            exact E_retp (p := (0 : Int32) = 0 ∨ (0 : Int32) = 1) rfl (by decide)
          · refine E_itf hc ?_
            obtain rfl := Option.some.inj h
            refine E_sts 3 (71, [], [.int 1], SH0, [(2201, fun _ => (σ 2201 0)), (2300, (σ 2300)), (2400, (σ 2400)), (2500, (σ 2500)), (2600, r60.2.1), (2700, (σ 2700)), (4208, fun _ => r60.2.2.1), (4209, fun _ => r60.2.2.2.1), (4210, fun _ => r60.2.2.2.2)], lg) rfl ?_
            exact E_retp (p := (1 : Int32) = 0 ∨ (1 : Int32) = 1) rfl (by decide)
        · refine E_itf hc ?_
          obtain rfl := Option.some.inj h
          refine E_sts 2 (71, [], [.int 0], SH0, [(2201, fun _ => (σ 2201 0)), (2300, (σ 2300)), (2400, (σ 2400)), (2500, (σ 2500)), (2600, (σ 2600)), (2700, (σ 2700)), (4208, fun _ => (σ 4208 0)), (4209, fun _ => (σ 4209 0)), (4210, fun _ => (σ 4210 0))], lg) rfl ?_
          exact E_retp (p := (0 : Int32) = 0 ∨ (0 : Int32) = 1) rfl (by decide)
      · refine E_itf hc ?_
        refine E_sts 2 (45, [(0, .ref 42), (1, .ref 22)], [.ref 22, .ref 42], SH0, [], lg) rfl ?_
        obtain ⟨r45, hr, h⟩ := x_bind h
        refine E_call rfl (e_X4_readRule X _ _ r45 hr) (by decide) ?_
        obtain rfl := Option.some.inj h
        refine E_sts 1 (48, [], [.int (xb r45.1)], SH0, [(2201, fun _ => (σ 2201 0)), (2300, (σ 2300)), (2400, (σ 2400)), (2500, (σ 2500)), (2600, (σ 2600)), (2700, r45.2.1), (4208, fun _ => r45.2.2.1), (4209, fun _ => r45.2.2.2.1), (4210, fun _ => r45.2.2.2.2)], lg) rfl ?_
        exact E_retp (p := (xb r45.1) = 0 ∨ (xb r45.1) = 1) rfl (xb01 _)
    · refine E_itf hc ?_
      refine E_sts 2 (25, [(0, .ref 42), (1, .ref 22)], [.ref 22, .ref 42], SH0, [], lg) rfl ?_
      obtain ⟨r25, hr, h⟩ := x_bind h
      refine E_call rfl (e_X4_readBow X _ _ r25 hr) (by decide) ?_
      obtain rfl := Option.some.inj h
      refine E_sts 1 (28, [], [.int (xb r25.1)], SH0, [(2201, fun _ => r25.2.1), (2300, r25.2.2.1), (2400, r25.2.2.2.1), (2500, r25.2.2.2.2.1), (2600, r25.2.2.2.2.2.1), (2700, (σ 2700)), (4208, fun _ => r25.2.2.2.2.2.2.1), (4209, fun _ => r25.2.2.2.2.2.2.2.1), (4210, fun _ => r25.2.2.2.2.2.2.2.2)], lg) rfl ?_
      exact E_retp (p := (xb r25.1) = 0 ∨ (xb r25.1) = 1) rfl (xb01 _)
  · refine E_itf hc ?_
    obtain rfl := Option.some.inj h
    refine E_sts 2 (9, [], [.int 0], SH0, [(2201, fun _ => (σ 2201 0)), (2300, (σ 2300)), (2400, (σ 2400)), (2500, (σ 2500)), (2600, (σ 2600)), (2700, (σ 2700)), (4208, fun _ => (σ 4208 0)), (4209, fun _ => (σ 4209 0)), (4210, fun _ => (σ 4210 0))], lg) rfl ?_
    exact E_retp (p := (0 : Int32) = 0 ∨ (0 : Int32) = 1) rfl (by decide)
set_option maxHeartbeats 4000000 in
set_option maxRecDepth 20000 in
theorem e_X4_readOnto_L11 (X : xX) (σ : xM) (lg : Int64) : ∀ (n : Nat), ∀ (v2 : Int32) (dr_bows_ : Int32) (dr_kinds_ : (Nat → Int32)) (dr_loves_ : (Nat → Int32)) (dr_seconds_ : (Nat → Int32)) (dr_aheads_ : (Nat → Int32)) (dr_rules_ : (Nat → Int32)) (tp_tokens_ : Int32) (tp_at_ : Int32) (tp_sort_ : Int32) (tp_value_ : Int32) (tp_sorts_ : (Nat → Int32)) (tp_starts_ : (Nat → Int32)) (tp_lengths_ : (Nat → Int32)) (tp_values_ : (Nat → Int32)) (r : Int32 × Int32 × (Nat → Int32) × (Nat → Int32) × (Nat → Int32) × (Nat → Int32) × (Nat → Int32) × Int32 × Int32 × Int32 × Int32 × (Nat → Int32) × (Nat → Int32) × (Nat → Int32) × (Nat → Int32)), X4_readOnto_L11 n v2 dr_bows_ dr_kinds_ dr_loves_ dr_seconds_ dr_aheads_ dr_rules_ tp_tokens_ tp_at_ tp_sort_ tp_value_ tp_sorts_ tp_starts_ tp_lengths_ tp_values_ = some r → E XP X 8 xm_53 σ (11, [(0, .ref 42), (1, .ref 22), (2, .int v2)], [], SH0, [(2201, fun _ => dr_bows_), (2300, dr_kinds_), (2400, dr_loves_), (2500, dr_seconds_), (2600, dr_aheads_), (2700, dr_rules_), (4207, fun _ => tp_tokens_), (4208, fun _ => tp_at_), (4209, fun _ => tp_sort_), (4210, fun _ => tp_value_), (4400, tp_sorts_), (4500, tp_starts_), (4600, tp_lengths_), (4700, tp_values_)], lg) (some (.int r.1), SH0, [(2201, fun _ => r.2.1), (2300, r.2.2.1), (2400, r.2.2.2.1), (2500, r.2.2.2.2.1), (2600, r.2.2.2.2.2.1), (2700, r.2.2.2.2.2.2.1), (4207, fun _ => r.2.2.2.2.2.2.2.1), (4208, fun _ => r.2.2.2.2.2.2.2.2.1), (4209, fun _ => r.2.2.2.2.2.2.2.2.2.1), (4210, fun _ => r.2.2.2.2.2.2.2.2.2.2.1), (4400, r.2.2.2.2.2.2.2.2.2.2.2.1), (4500, r.2.2.2.2.2.2.2.2.2.2.2.2.1), (4600, r.2.2.2.2.2.2.2.2.2.2.2.2.2.1), (4700, r.2.2.2.2.2.2.2.2.2.2.2.2.2.2)], lg) := by
  intro n
  induction n with
  | zero => intro v2 dr_bows_ dr_kinds_ dr_loves_ dr_seconds_ dr_aheads_ dr_rules_ tp_tokens_ tp_at_ tp_sort_ tp_value_ tp_sorts_ tp_starts_ tp_lengths_ tp_values_ r h; rw [X4_readOnto_L11] at h; cases h
  | succ n ih =>
    intro v2 dr_bows_ dr_kinds_ dr_loves_ dr_seconds_ dr_aheads_ dr_rules_ tp_tokens_ tp_at_ tp_sort_ tp_value_ tp_sorts_ tp_starts_ tp_lengths_ tp_values_ r h
    rw [X4_readOnto_L11] at h
    refine E_sts 3 (if 120 < v2 then 82 else 17, [(0, .ref 42), (1, .ref 22), (2, .int v2)], [], SH0, [(2201, fun _ => dr_bows_), (2300, dr_kinds_), (2400, dr_loves_), (2500, dr_seconds_), (2600, dr_aheads_), (2700, dr_rules_), (4207, fun _ => tp_tokens_), (4208, fun _ => tp_at_), (4209, fun _ => tp_sort_), (4210, fun _ => tp_value_), (4400, tp_sorts_), (4500, tp_starts_), (4600, tp_lengths_), (4700, tp_values_)], lg) rfl ?_
    rcases x_br h with ⟨hc, h⟩ | ⟨hc, h⟩
    · refine E_itt hc ?_
      refine E_sts 5 (91, [(0, .ref 42), (1, .ref 22), (2, .int v2)], [.int tp_at_, .ref 45, .int (-1)], SH0, [(2201, fun _ => dr_bows_), (2300, dr_kinds_), (2400, dr_loves_), (2500, dr_seconds_), (2600, dr_aheads_), (2700, dr_rules_), (4207, fun _ => tp_tokens_), (4208, fun _ => tp_at_), (4209, fun _ => tp_sort_), (4210, fun _ => tp_value_), (4400, tp_sorts_), (4500, tp_starts_), (4600, tp_lengths_), (4700, tp_values_)], lg) rfl ?_
      obtain ⟨hp, h⟩ := x_ite h
      refine E_par (p := inr tp_at_ 121) (92, [(0, .ref 42), (1, .ref 22), (2, .int v2)], [.int (tp_starts_ tp_at_.toNatClampNeg), .int (-1)], SH0, [(2201, fun _ => dr_bows_), (2300, dr_kinds_), (2400, dr_loves_), (2500, dr_seconds_), (2600, dr_aheads_), (2700, dr_rules_), (4207, fun _ => tp_tokens_), (4208, fun _ => tp_at_), (4209, fun _ => tp_sort_), (4210, fun _ => tp_value_), (4400, tp_sorts_), (4500, tp_starts_), (4600, tp_lengths_), (4700, tp_values_)], lg) rfl hp ?_
      obtain rfl := Option.some.inj h
      refine E_sts 2 (93, [], [.int ((-1) - (tp_starts_ tp_at_.toNatClampNeg))], SH0, [(2201, fun _ => dr_bows_), (2300, dr_kinds_), (2400, dr_loves_), (2500, dr_seconds_), (2600, dr_aheads_), (2700, dr_rules_), (4207, fun _ => tp_tokens_), (4208, fun _ => tp_at_), (4209, fun _ => tp_sort_), (4210, fun _ => tp_value_), (4400, tp_sorts_), (4500, tp_starts_), (4600, tp_lengths_), (4700, tp_values_)], lg) rfl ?_
      exact E_ret rfl
    · refine E_itf hc ?_
      refine E_sts 2 (19, [(0, .ref 42), (1, .ref 22), (2, .int v2)], [.ref 22, .ref 42], SH0, [(2201, fun _ => dr_bows_), (2300, dr_kinds_), (2400, dr_loves_), (2500, dr_seconds_), (2600, dr_aheads_), (2700, dr_rules_), (4207, fun _ => tp_tokens_), (4208, fun _ => tp_at_), (4209, fun _ => tp_sort_), (4210, fun _ => tp_value_), (4400, tp_sorts_), (4500, tp_starts_), (4600, tp_lengths_), (4700, tp_values_)], lg) rfl ?_
      obtain ⟨r19, hr, h⟩ := x_bind h
      refine E_call rfl (e_X4_readItem X _ _ r19 hr) (by decide) ?_
      refine E_sts 1 (if (xb r19.1) = 0 then 25 else 37, [(0, .ref 42), (1, .ref 22), (2, .int v2)], [], SH0, [(2201, fun _ => r19.2.1), (2300, r19.2.2.1), (2400, r19.2.2.2.1), (2500, r19.2.2.2.2.1), (2600, r19.2.2.2.2.2.1), (2700, r19.2.2.2.2.2.2.1), (4207, fun _ => tp_tokens_), (4208, fun _ => r19.2.2.2.2.2.2.2.1), (4209, fun _ => r19.2.2.2.2.2.2.2.2.1), (4210, fun _ => r19.2.2.2.2.2.2.2.2.2), (4400, tp_sorts_), (4500, tp_starts_), (4600, tp_lengths_), (4700, tp_values_)], lg) rfl ?_
      rcases x_br h with ⟨hc, h⟩ | ⟨hc, h⟩
      · refine E_itt hc ?_
        refine E_sts 5 (34, [(0, .ref 42), (1, .ref 22), (2, .int v2)], [.int r19.2.2.2.2.2.2.2.1, .ref 45, .int (-1)], SH0, [(2201, fun _ => r19.2.1), (2300, r19.2.2.1), (2400, r19.2.2.2.1), (2500, r19.2.2.2.2.1), (2600, r19.2.2.2.2.2.1), (2700, r19.2.2.2.2.2.2.1), (4207, fun _ => tp_tokens_), (4208, fun _ => r19.2.2.2.2.2.2.2.1), (4209, fun _ => r19.2.2.2.2.2.2.2.2.1), (4210, fun _ => r19.2.2.2.2.2.2.2.2.2), (4400, tp_sorts_), (4500, tp_starts_), (4600, tp_lengths_), (4700, tp_values_)], lg) rfl ?_
        obtain ⟨hp, h⟩ := x_ite h
        refine E_par (p := inr r19.2.2.2.2.2.2.2.1 121) (35, [(0, .ref 42), (1, .ref 22), (2, .int v2)], [.int (tp_starts_ r19.2.2.2.2.2.2.2.1.toNatClampNeg), .int (-1)], SH0, [(2201, fun _ => r19.2.1), (2300, r19.2.2.1), (2400, r19.2.2.2.1), (2500, r19.2.2.2.2.1), (2600, r19.2.2.2.2.2.1), (2700, r19.2.2.2.2.2.2.1), (4207, fun _ => tp_tokens_), (4208, fun _ => r19.2.2.2.2.2.2.2.1), (4209, fun _ => r19.2.2.2.2.2.2.2.2.1), (4210, fun _ => r19.2.2.2.2.2.2.2.2.2), (4400, tp_sorts_), (4500, tp_starts_), (4600, tp_lengths_), (4700, tp_values_)], lg) rfl hp ?_
        obtain rfl := Option.some.inj h
        refine E_sts 1 (36, [(0, .ref 42), (1, .ref 22), (2, .int v2)], [.int ((-1) - (tp_starts_ r19.2.2.2.2.2.2.2.1.toNatClampNeg))], SH0, [(2201, fun _ => r19.2.1), (2300, r19.2.2.1), (2400, r19.2.2.2.1), (2500, r19.2.2.2.2.1), (2600, r19.2.2.2.2.2.1), (2700, r19.2.2.2.2.2.2.1), (4207, fun _ => tp_tokens_), (4208, fun _ => r19.2.2.2.2.2.2.2.1), (4209, fun _ => r19.2.2.2.2.2.2.2.2.1), (4210, fun _ => r19.2.2.2.2.2.2.2.2.2), (4400, tp_sorts_), (4500, tp_starts_), (4600, tp_lengths_), (4700, tp_values_)], lg) rfl ?_
        exact E_ret rfl
      · refine E_itf hc ?_
        refine E_sts 3 (if r19.2.2.2.2.2.2.2.2.1 = 0 then 44 else 46, [(0, .ref 42), (1, .ref 22), (2, .int v2)], [], SH0, [(2201, fun _ => r19.2.1), (2300, r19.2.2.1), (2400, r19.2.2.2.1), (2500, r19.2.2.2.2.1), (2600, r19.2.2.2.2.2.1), (2700, r19.2.2.2.2.2.2.1), (4207, fun _ => tp_tokens_), (4208, fun _ => r19.2.2.2.2.2.2.2.1), (4209, fun _ => r19.2.2.2.2.2.2.2.2.1), (4210, fun _ => r19.2.2.2.2.2.2.2.2.2), (4400, tp_sorts_), (4500, tp_starts_), (4600, tp_lengths_), (4700, tp_values_)], lg) rfl ?_
        rcases x_br h with ⟨hc, h⟩ | ⟨hc, h⟩
        · refine E_itt hc ?_
          obtain rfl := Option.some.inj h
          refine E_sts 1 (45, [(0, .ref 42), (1, .ref 22), (2, .int v2)], [.int v2], SH0, [(2201, fun _ => r19.2.1), (2300, r19.2.2.1), (2400, r19.2.2.2.1), (2500, r19.2.2.2.2.1), (2600, r19.2.2.2.2.2.1), (2700, r19.2.2.2.2.2.2.1), (4207, fun _ => tp_tokens_), (4208, fun _ => r19.2.2.2.2.2.2.2.1), (4209, fun _ => r19.2.2.2.2.2.2.2.2.1), (4210, fun _ => r19.2.2.2.2.2.2.2.2.2), (4400, tp_sorts_), (4500, tp_starts_), (4600, tp_lengths_), (4700, tp_values_)], lg) rfl ?_
          exact E_ret rfl
        · refine E_itf hc ?_
          refine E_sts 4 (if r19.2.2.2.2.2.2.2.2.1 = 3 then 66 else 54, [(0, .ref 42), (1, .ref 22), (2, .int v2)], [], SH0, [(2201, fun _ => r19.2.1), (2300, r19.2.2.1), (2400, r19.2.2.2.1), (2500, r19.2.2.2.2.1), (2600, r19.2.2.2.2.2.1), (2700, r19.2.2.2.2.2.2.1), (4207, fun _ => tp_tokens_), (4208, fun _ => r19.2.2.2.2.2.2.2.1), (4209, fun _ => r19.2.2.2.2.2.2.2.2.1), (4210, fun _ => r19.2.2.2.2.2.2.2.2.2), (4400, tp_sorts_), (4500, tp_starts_), (4600, tp_lengths_), (4700, tp_values_)], lg) rfl ?_
          rcases x_br h with ⟨hc, h⟩ | ⟨hc, h⟩
          · refine E_itt hc ?_
            refine E_sts 5 (73, [(0, .ref 42), (1, .ref 22), (2, .int v2)], [.int (r19.2.2.2.2.2.2.2.1 + 1), .ref 42], SH0, [(2201, fun _ => r19.2.1), (2300, r19.2.2.1), (2400, r19.2.2.2.1), (2500, r19.2.2.2.2.1), (2600, r19.2.2.2.2.2.1), (2700, r19.2.2.2.2.2.2.1), (4207, fun _ => tp_tokens_), (4208, fun _ => r19.2.2.2.2.2.2.2.1), (4209, fun _ => r19.2.2.2.2.2.2.2.2.1), (4210, fun _ => r19.2.2.2.2.2.2.2.2.2), (4400, tp_sorts_), (4500, tp_starts_), (4600, tp_lengths_), (4700, tp_values_)], lg) rfl ?_
            obtain ⟨r73, hr, h⟩ := x_bind h
            refine E_call rfl (e_X4_take X _ _ _ r73 hr) (by decide) ?_
            refine E_sts 3 (11, [(0, .ref 42), (1, .ref 22), (2, .int (v2 + 1))], [], SH0, [(2201, fun _ => r19.2.1), (2300, r19.2.2.1), (2400, r19.2.2.2.1), (2500, r19.2.2.2.2.1), (2600, r19.2.2.2.2.2.1), (2700, r19.2.2.2.2.2.2.1), (4207, fun _ => tp_tokens_), (4208, fun _ => r73.1), (4209, fun _ => r73.2.1), (4210, fun _ => r73.2.2), (4400, tp_sorts_), (4500, tp_starts_), (4600, tp_lengths_), (4700, tp_values_)], lg) rfl ?_
            exact ih (v2 + 1) r19.2.1 r19.2.2.1 r19.2.2.2.1 r19.2.2.2.2.1 r19.2.2.2.2.2.1 r19.2.2.2.2.2.2.1 tp_tokens_ r73.1 r73.2.1 r73.2.2 tp_sorts_ tp_starts_ tp_lengths_ tp_values_ r h
          · refine E_itf hc ?_
            refine E_sts 5 (63, [(0, .ref 42), (1, .ref 22), (2, .int v2)], [.int r19.2.2.2.2.2.2.2.1, .ref 45, .int (-1)], SH0, [(2201, fun _ => r19.2.1), (2300, r19.2.2.1), (2400, r19.2.2.2.1), (2500, r19.2.2.2.2.1), (2600, r19.2.2.2.2.2.1), (2700, r19.2.2.2.2.2.2.1), (4207, fun _ => tp_tokens_), (4208, fun _ => r19.2.2.2.2.2.2.2.1), (4209, fun _ => r19.2.2.2.2.2.2.2.2.1), (4210, fun _ => r19.2.2.2.2.2.2.2.2.2), (4400, tp_sorts_), (4500, tp_starts_), (4600, tp_lengths_), (4700, tp_values_)], lg) rfl ?_
            obtain ⟨hp, h⟩ := x_ite h
            refine E_par (p := inr r19.2.2.2.2.2.2.2.1 121) (64, [(0, .ref 42), (1, .ref 22), (2, .int v2)], [.int (tp_starts_ r19.2.2.2.2.2.2.2.1.toNatClampNeg), .int (-1)], SH0, [(2201, fun _ => r19.2.1), (2300, r19.2.2.1), (2400, r19.2.2.2.1), (2500, r19.2.2.2.2.1), (2600, r19.2.2.2.2.2.1), (2700, r19.2.2.2.2.2.2.1), (4207, fun _ => tp_tokens_), (4208, fun _ => r19.2.2.2.2.2.2.2.1), (4209, fun _ => r19.2.2.2.2.2.2.2.2.1), (4210, fun _ => r19.2.2.2.2.2.2.2.2.2), (4400, tp_sorts_), (4500, tp_starts_), (4600, tp_lengths_), (4700, tp_values_)], lg) rfl hp ?_
            obtain rfl := Option.some.inj h
            refine E_sts 1 (65, [(0, .ref 42), (1, .ref 22), (2, .int v2)], [.int ((-1) - (tp_starts_ r19.2.2.2.2.2.2.2.1.toNatClampNeg))], SH0, [(2201, fun _ => r19.2.1), (2300, r19.2.2.1), (2400, r19.2.2.2.1), (2500, r19.2.2.2.2.1), (2600, r19.2.2.2.2.2.1), (2700, r19.2.2.2.2.2.2.1), (4207, fun _ => tp_tokens_), (4208, fun _ => r19.2.2.2.2.2.2.2.1), (4209, fun _ => r19.2.2.2.2.2.2.2.2.1), (4210, fun _ => r19.2.2.2.2.2.2.2.2.2), (4400, tp_sorts_), (4500, tp_starts_), (4600, tp_lengths_), (4700, tp_values_)], lg) rfl ?_
            exact E_ret rfl
set_option maxHeartbeats 4000000 in
set_option maxRecDepth 20000 in
theorem e_X4_readOnto (X : xX) (σ : xM) (lg : Int64) (r : Int32 × Int32 × (Nat → Int32) × (Nat → Int32) × (Nat → Int32) × (Nat → Int32) × (Nat → Int32) × Int32 × Int32 × Int32 × Int32 × (Nat → Int32) × (Nat → Int32) × (Nat → Int32) × (Nat → Int32)) (h : X4_readOnto (σ 2201 0) (σ 2300) (σ 2400) (σ 2500) (σ 2600) (σ 2700) (σ 4202 0) (σ 4300) (σ 4400) (σ 4500) (σ 4600) (σ 4700) = some r) : EM XP X 9 53 [.ref 42, .ref 22] SH0 lg σ (some (.int r.1), SH0, [(2201, fun _ => r.2.1), (2300, r.2.2.1), (2400, r.2.2.2.1), (2500, r.2.2.2.2.1), (2600, r.2.2.2.2.2.1), (2700, r.2.2.2.2.2.2.1), (4207, fun _ => r.2.2.2.2.2.2.2.1), (4208, fun _ => r.2.2.2.2.2.2.2.2.1), (4209, fun _ => r.2.2.2.2.2.2.2.2.2.1), (4210, fun _ => r.2.2.2.2.2.2.2.2.2.2.1), (4400, r.2.2.2.2.2.2.2.2.2.2.2.1), (4500, r.2.2.2.2.2.2.2.2.2.2.2.2.1), (4600, r.2.2.2.2.2.2.2.2.2.2.2.2.2.1), (4700, r.2.2.2.2.2.2.2.2.2.2.2.2.2.2)], lg) := by
  refine EM_of (M := xm_53) rfl rfl ?_
  unfold X4_readOnto at h
  refine E_sts 1 (1, [(0, .ref 42), (1, .ref 22)], [.ref 42], SH0, [], lg) rfl ?_
  obtain ⟨r1, hr, h⟩ := x_bind h
  refine E_call rfl (e_X4_cut X _ _ r1 hr) (by decide) ?_
  refine E_sts 2 (6, [(0, .ref 42), (1, .ref 22)], [.int 0, .ref 42], SH0, [(4207, fun _ => r1.1), (4400, r1.2.1), (4500, r1.2.2.1), (4600, r1.2.2.2.1), (4700, r1.2.2.2.2)], lg) rfl ?_
  obtain ⟨r6, hr, h⟩ := x_bind h
  refine E_call rfl (e_X4_take X _ _ _ r6 hr) (by decide) ?_
  refine E_sts 3 (11, [(0, .ref 42), (1, .ref 22), (2, .int 1)], [], SH0, [(2201, fun _ => (σ 2201 0)), (2300, (σ 2300)), (2400, (σ 2400)), (2500, (σ 2500)), (2600, (σ 2600)), (2700, (σ 2700)), (4207, fun _ => r1.1), (4208, fun _ => r6.1), (4209, fun _ => r6.2.1), (4210, fun _ => r6.2.2), (4400, r1.2.1), (4500, r1.2.2.1), (4600, r1.2.2.2.1), (4700, r1.2.2.2.2)], lg) rfl ?_
  exact e_X4_readOnto_L11 X σ lg _ 1 (σ 2201 0) (σ 2300) (σ 2400) (σ 2500) (σ 2600) (σ 2700) r1.1 r6.1 r6.2.1 r6.2.2 r1.2.1 r1.2.2.1 r1.2.2.2.1 r1.2.2.2.2 r h
set_option maxHeartbeats 4000000 in
set_option maxRecDepth 20000 in
theorem e_X2_become_sc_dr (X : xX) (σ : xM) (lg : Int64) (r : Int32 × Int32 × Int32 × Int32 × Int32 × Int32 × (Nat → Int32) × (Nat → Int32) × (Nat → Int32) × (Nat → Int32) × (Nat → Int32) × (Nat → Int32) × (Nat → Int32) × (Nat → Int32) × (Nat → Int32)) (h : X2_become_sc_dr (σ 300) (σ 400) (σ 500) (σ 600) (σ 700) (σ 800) (σ 900) (σ 1000) (σ 1100) (σ 2201 0) (σ 2207 0) (σ 2208 0) (σ 2209 0) (σ 2210 0) (σ 2214 0) (σ 2300) (σ 2400) (σ 2500) (σ 2600) (σ 2700) (σ 2800) (σ 2900) (σ 3000) (σ 3100) = some r) : EM XP X 1 24 [.ref 2, .ref 22] SH0 lg σ (none, SH0, [(201, fun _ => r.1), (207, fun _ => r.2.1), (208, fun _ => r.2.2.1), (209, fun _ => r.2.2.2.1), (210, fun _ => r.2.2.2.2.1), (214, fun _ => r.2.2.2.2.2.1), (300, r.2.2.2.2.2.2.1), (400, r.2.2.2.2.2.2.2.1), (500, r.2.2.2.2.2.2.2.2.1), (600, r.2.2.2.2.2.2.2.2.2.1), (700, r.2.2.2.2.2.2.2.2.2.2.1), (800, r.2.2.2.2.2.2.2.2.2.2.2.1), (900, r.2.2.2.2.2.2.2.2.2.2.2.2.1), (1000, r.2.2.2.2.2.2.2.2.2.2.2.2.2.1), (1100, r.2.2.2.2.2.2.2.2.2.2.2.2.2.2)], lg) := by
  refine EM_of (M := xm_24) rfl rfl ?_
  unfold X2_become_sc_dr at h
  refine E_sts 31 (60, [(0, .ref 2), (1, .ref 22)], [.int 9, .int 0, .ref 3, .int 0, .ref 23], SH0, [(201, fun _ => (σ 2201 0)), (207, fun _ => (σ 2207 0)), (208, fun _ => (σ 2208 0)), (209, fun _ => (σ 2209 0)), (210, fun _ => (σ 2210 0)), (214, fun _ => (σ 2214 0))], lg) rfl ?_
  refine E_par (p := 0 ≤ Int32.toInt 0 ∧ 0 ≤ Int32.toInt 0 ∧ 0 ≤ Int32.toInt 9 ∧ Int32.toInt 0 + Int32.toInt 9 ≤ ((9 : Nat) : Int) ∧ Int32.toInt 0 + Int32.toInt 9 ≤ ((9 : Nat) : Int)) (63, [(0, .ref 2), (1, .ref 22)], [], SH0, [(201, fun _ => (σ 2201 0)), (207, fun _ => (σ 2207 0)), (208, fun _ => (σ 2208 0)), (209, fun _ => (σ 2209 0)), (210, fun _ => (σ 2210 0)), (214, fun _ => (σ 2214 0)), (300, (va_cpy (σ 2300) (σ 300) (Int32.toNatClampNeg 0) (Int32.toNatClampNeg 0) (Int32.toNatClampNeg 9)))], lg) rfl (by decide) ?_
  refine E_sts 7 (75, [(0, .ref 2), (1, .ref 22)], [.int 9, .int 0, .ref 4, .int 0, .ref 24], SH0, [(201, fun _ => (σ 2201 0)), (207, fun _ => (σ 2207 0)), (208, fun _ => (σ 2208 0)), (209, fun _ => (σ 2209 0)), (210, fun _ => (σ 2210 0)), (214, fun _ => (σ 2214 0)), (300, (va_cpy (σ 2300) (σ 300) (Int32.toNatClampNeg 0) (Int32.toNatClampNeg 0) (Int32.toNatClampNeg 9)))], lg) rfl ?_
  refine E_par (p := 0 ≤ Int32.toInt 0 ∧ 0 ≤ Int32.toInt 0 ∧ 0 ≤ Int32.toInt 9 ∧ Int32.toInt 0 + Int32.toInt 9 ≤ ((9 : Nat) : Int) ∧ Int32.toInt 0 + Int32.toInt 9 ≤ ((9 : Nat) : Int)) (78, [(0, .ref 2), (1, .ref 22)], [], SH0, [(201, fun _ => (σ 2201 0)), (207, fun _ => (σ 2207 0)), (208, fun _ => (σ 2208 0)), (209, fun _ => (σ 2209 0)), (210, fun _ => (σ 2210 0)), (214, fun _ => (σ 2214 0)), (300, (va_cpy (σ 2300) (σ 300) (Int32.toNatClampNeg 0) (Int32.toNatClampNeg 0) (Int32.toNatClampNeg 9))), (400, (va_cpy (σ 2400) (σ 400) (Int32.toNatClampNeg 0) (Int32.toNatClampNeg 0) (Int32.toNatClampNeg 9)))], lg) rfl (by decide) ?_
  refine E_sts 7 (90, [(0, .ref 2), (1, .ref 22)], [.int 9, .int 0, .ref 5, .int 0, .ref 25], SH0, [(201, fun _ => (σ 2201 0)), (207, fun _ => (σ 2207 0)), (208, fun _ => (σ 2208 0)), (209, fun _ => (σ 2209 0)), (210, fun _ => (σ 2210 0)), (214, fun _ => (σ 2214 0)), (300, (va_cpy (σ 2300) (σ 300) (Int32.toNatClampNeg 0) (Int32.toNatClampNeg 0) (Int32.toNatClampNeg 9))), (400, (va_cpy (σ 2400) (σ 400) (Int32.toNatClampNeg 0) (Int32.toNatClampNeg 0) (Int32.toNatClampNeg 9)))], lg) rfl ?_
  refine E_par (p := 0 ≤ Int32.toInt 0 ∧ 0 ≤ Int32.toInt 0 ∧ 0 ≤ Int32.toInt 9 ∧ Int32.toInt 0 + Int32.toInt 9 ≤ ((9 : Nat) : Int) ∧ Int32.toInt 0 + Int32.toInt 9 ≤ ((9 : Nat) : Int)) (93, [(0, .ref 2), (1, .ref 22)], [], SH0, [(201, fun _ => (σ 2201 0)), (207, fun _ => (σ 2207 0)), (208, fun _ => (σ 2208 0)), (209, fun _ => (σ 2209 0)), (210, fun _ => (σ 2210 0)), (214, fun _ => (σ 2214 0)), (300, (va_cpy (σ 2300) (σ 300) (Int32.toNatClampNeg 0) (Int32.toNatClampNeg 0) (Int32.toNatClampNeg 9))), (400, (va_cpy (σ 2400) (σ 400) (Int32.toNatClampNeg 0) (Int32.toNatClampNeg 0) (Int32.toNatClampNeg 9))), (500, (va_cpy (σ 2500) (σ 500) (Int32.toNatClampNeg 0) (Int32.toNatClampNeg 0) (Int32.toNatClampNeg 9)))], lg) rfl (by decide) ?_
  refine E_sts 7 (105, [(0, .ref 2), (1, .ref 22)], [.int 9, .int 0, .ref 6, .int 0, .ref 26], SH0, [(201, fun _ => (σ 2201 0)), (207, fun _ => (σ 2207 0)), (208, fun _ => (σ 2208 0)), (209, fun _ => (σ 2209 0)), (210, fun _ => (σ 2210 0)), (214, fun _ => (σ 2214 0)), (300, (va_cpy (σ 2300) (σ 300) (Int32.toNatClampNeg 0) (Int32.toNatClampNeg 0) (Int32.toNatClampNeg 9))), (400, (va_cpy (σ 2400) (σ 400) (Int32.toNatClampNeg 0) (Int32.toNatClampNeg 0) (Int32.toNatClampNeg 9))), (500, (va_cpy (σ 2500) (σ 500) (Int32.toNatClampNeg 0) (Int32.toNatClampNeg 0) (Int32.toNatClampNeg 9)))], lg) rfl ?_
  refine E_par (p := 0 ≤ Int32.toInt 0 ∧ 0 ≤ Int32.toInt 0 ∧ 0 ≤ Int32.toInt 9 ∧ Int32.toInt 0 + Int32.toInt 9 ≤ ((9 : Nat) : Int) ∧ Int32.toInt 0 + Int32.toInt 9 ≤ ((9 : Nat) : Int)) (108, [(0, .ref 2), (1, .ref 22)], [], SH0, [(201, fun _ => (σ 2201 0)), (207, fun _ => (σ 2207 0)), (208, fun _ => (σ 2208 0)), (209, fun _ => (σ 2209 0)), (210, fun _ => (σ 2210 0)), (214, fun _ => (σ 2214 0)), (300, (va_cpy (σ 2300) (σ 300) (Int32.toNatClampNeg 0) (Int32.toNatClampNeg 0) (Int32.toNatClampNeg 9))), (400, (va_cpy (σ 2400) (σ 400) (Int32.toNatClampNeg 0) (Int32.toNatClampNeg 0) (Int32.toNatClampNeg 9))), (500, (va_cpy (σ 2500) (σ 500) (Int32.toNatClampNeg 0) (Int32.toNatClampNeg 0) (Int32.toNatClampNeg 9))), (600, (va_cpy (σ 2600) (σ 600) (Int32.toNatClampNeg 0) (Int32.toNatClampNeg 0) (Int32.toNatClampNeg 9)))], lg) rfl (by decide) ?_
  refine E_sts 7 (119, [(0, .ref 2), (1, .ref 22)], [.int 5, .int 0, .ref 7, .int 0, .ref 27], SH0, [(201, fun _ => (σ 2201 0)), (207, fun _ => (σ 2207 0)), (208, fun _ => (σ 2208 0)), (209, fun _ => (σ 2209 0)), (210, fun _ => (σ 2210 0)), (214, fun _ => (σ 2214 0)), (300, (va_cpy (σ 2300) (σ 300) (Int32.toNatClampNeg 0) (Int32.toNatClampNeg 0) (Int32.toNatClampNeg 9))), (400, (va_cpy (σ 2400) (σ 400) (Int32.toNatClampNeg 0) (Int32.toNatClampNeg 0) (Int32.toNatClampNeg 9))), (500, (va_cpy (σ 2500) (σ 500) (Int32.toNatClampNeg 0) (Int32.toNatClampNeg 0) (Int32.toNatClampNeg 9))), (600, (va_cpy (σ 2600) (σ 600) (Int32.toNatClampNeg 0) (Int32.toNatClampNeg 0) (Int32.toNatClampNeg 9)))], lg) rfl ?_
  refine E_par (p := 0 ≤ Int32.toInt 0 ∧ 0 ≤ Int32.toInt 0 ∧ 0 ≤ Int32.toInt 5 ∧ Int32.toInt 0 + Int32.toInt 5 ≤ ((5 : Nat) : Int) ∧ Int32.toInt 0 + Int32.toInt 5 ≤ ((5 : Nat) : Int)) (122, [(0, .ref 2), (1, .ref 22)], [], SH0, [(201, fun _ => (σ 2201 0)), (207, fun _ => (σ 2207 0)), (208, fun _ => (σ 2208 0)), (209, fun _ => (σ 2209 0)), (210, fun _ => (σ 2210 0)), (214, fun _ => (σ 2214 0)), (300, (va_cpy (σ 2300) (σ 300) (Int32.toNatClampNeg 0) (Int32.toNatClampNeg 0) (Int32.toNatClampNeg 9))), (400, (va_cpy (σ 2400) (σ 400) (Int32.toNatClampNeg 0) (Int32.toNatClampNeg 0) (Int32.toNatClampNeg 9))), (500, (va_cpy (σ 2500) (σ 500) (Int32.toNatClampNeg 0) (Int32.toNatClampNeg 0) (Int32.toNatClampNeg 9))), (600, (va_cpy (σ 2600) (σ 600) (Int32.toNatClampNeg 0) (Int32.toNatClampNeg 0) (Int32.toNatClampNeg 9))), (700, (va_cpy (σ 2700) (σ 700) (Int32.toNatClampNeg 0) (Int32.toNatClampNeg 0) (Int32.toNatClampNeg 5)))], lg) rfl (by decide) ?_
  refine E_sts 7 (134, [(0, .ref 2), (1, .ref 22)], [.int 9, .int 0, .ref 8, .int 0, .ref 28], SH0, [(201, fun _ => (σ 2201 0)), (207, fun _ => (σ 2207 0)), (208, fun _ => (σ 2208 0)), (209, fun _ => (σ 2209 0)), (210, fun _ => (σ 2210 0)), (214, fun _ => (σ 2214 0)), (300, (va_cpy (σ 2300) (σ 300) (Int32.toNatClampNeg 0) (Int32.toNatClampNeg 0) (Int32.toNatClampNeg 9))), (400, (va_cpy (σ 2400) (σ 400) (Int32.toNatClampNeg 0) (Int32.toNatClampNeg 0) (Int32.toNatClampNeg 9))), (500, (va_cpy (σ 2500) (σ 500) (Int32.toNatClampNeg 0) (Int32.toNatClampNeg 0) (Int32.toNatClampNeg 9))), (600, (va_cpy (σ 2600) (σ 600) (Int32.toNatClampNeg 0) (Int32.toNatClampNeg 0) (Int32.toNatClampNeg 9))), (700, (va_cpy (σ 2700) (σ 700) (Int32.toNatClampNeg 0) (Int32.toNatClampNeg 0) (Int32.toNatClampNeg 5)))], lg) rfl ?_
  refine E_par (p := 0 ≤ Int32.toInt 0 ∧ 0 ≤ Int32.toInt 0 ∧ 0 ≤ Int32.toInt 9 ∧ Int32.toInt 0 + Int32.toInt 9 ≤ ((9 : Nat) : Int) ∧ Int32.toInt 0 + Int32.toInt 9 ≤ ((9 : Nat) : Int)) (137, [(0, .ref 2), (1, .ref 22)], [], SH0, [(201, fun _ => (σ 2201 0)), (207, fun _ => (σ 2207 0)), (208, fun _ => (σ 2208 0)), (209, fun _ => (σ 2209 0)), (210, fun _ => (σ 2210 0)), (214, fun _ => (σ 2214 0)), (300, (va_cpy (σ 2300) (σ 300) (Int32.toNatClampNeg 0) (Int32.toNatClampNeg 0) (Int32.toNatClampNeg 9))), (400, (va_cpy (σ 2400) (σ 400) (Int32.toNatClampNeg 0) (Int32.toNatClampNeg 0) (Int32.toNatClampNeg 9))), (500, (va_cpy (σ 2500) (σ 500) (Int32.toNatClampNeg 0) (Int32.toNatClampNeg 0) (Int32.toNatClampNeg 9))), (600, (va_cpy (σ 2600) (σ 600) (Int32.toNatClampNeg 0) (Int32.toNatClampNeg 0) (Int32.toNatClampNeg 9))), (700, (va_cpy (σ 2700) (σ 700) (Int32.toNatClampNeg 0) (Int32.toNatClampNeg 0) (Int32.toNatClampNeg 5))), (800, (va_cpy (σ 2800) (σ 800) (Int32.toNatClampNeg 0) (Int32.toNatClampNeg 0) (Int32.toNatClampNeg 9)))], lg) rfl (by decide) ?_
  refine E_sts 7 (149, [(0, .ref 2), (1, .ref 22)], [.int 9, .int 0, .ref 9, .int 0, .ref 29], SH0, [(201, fun _ => (σ 2201 0)), (207, fun _ => (σ 2207 0)), (208, fun _ => (σ 2208 0)), (209, fun _ => (σ 2209 0)), (210, fun _ => (σ 2210 0)), (214, fun _ => (σ 2214 0)), (300, (va_cpy (σ 2300) (σ 300) (Int32.toNatClampNeg 0) (Int32.toNatClampNeg 0) (Int32.toNatClampNeg 9))), (400, (va_cpy (σ 2400) (σ 400) (Int32.toNatClampNeg 0) (Int32.toNatClampNeg 0) (Int32.toNatClampNeg 9))), (500, (va_cpy (σ 2500) (σ 500) (Int32.toNatClampNeg 0) (Int32.toNatClampNeg 0) (Int32.toNatClampNeg 9))), (600, (va_cpy (σ 2600) (σ 600) (Int32.toNatClampNeg 0) (Int32.toNatClampNeg 0) (Int32.toNatClampNeg 9))), (700, (va_cpy (σ 2700) (σ 700) (Int32.toNatClampNeg 0) (Int32.toNatClampNeg 0) (Int32.toNatClampNeg 5))), (800, (va_cpy (σ 2800) (σ 800) (Int32.toNatClampNeg 0) (Int32.toNatClampNeg 0) (Int32.toNatClampNeg 9)))], lg) rfl ?_
  refine E_par (p := 0 ≤ Int32.toInt 0 ∧ 0 ≤ Int32.toInt 0 ∧ 0 ≤ Int32.toInt 9 ∧ Int32.toInt 0 + Int32.toInt 9 ≤ ((9 : Nat) : Int) ∧ Int32.toInt 0 + Int32.toInt 9 ≤ ((9 : Nat) : Int)) (152, [(0, .ref 2), (1, .ref 22)], [], SH0, [(201, fun _ => (σ 2201 0)), (207, fun _ => (σ 2207 0)), (208, fun _ => (σ 2208 0)), (209, fun _ => (σ 2209 0)), (210, fun _ => (σ 2210 0)), (214, fun _ => (σ 2214 0)), (300, (va_cpy (σ 2300) (σ 300) (Int32.toNatClampNeg 0) (Int32.toNatClampNeg 0) (Int32.toNatClampNeg 9))), (400, (va_cpy (σ 2400) (σ 400) (Int32.toNatClampNeg 0) (Int32.toNatClampNeg 0) (Int32.toNatClampNeg 9))), (500, (va_cpy (σ 2500) (σ 500) (Int32.toNatClampNeg 0) (Int32.toNatClampNeg 0) (Int32.toNatClampNeg 9))), (600, (va_cpy (σ 2600) (σ 600) (Int32.toNatClampNeg 0) (Int32.toNatClampNeg 0) (Int32.toNatClampNeg 9))), (700, (va_cpy (σ 2700) (σ 700) (Int32.toNatClampNeg 0) (Int32.toNatClampNeg 0) (Int32.toNatClampNeg 5))), (800, (va_cpy (σ 2800) (σ 800) (Int32.toNatClampNeg 0) (Int32.toNatClampNeg 0) (Int32.toNatClampNeg 9))), (900, (va_cpy (σ 2900) (σ 900) (Int32.toNatClampNeg 0) (Int32.toNatClampNeg 0) (Int32.toNatClampNeg 9)))], lg) rfl (by decide) ?_
  refine E_sts 7 (164, [(0, .ref 2), (1, .ref 22)], [.int 9, .int 0, .ref 10, .int 0, .ref 30], SH0, [(201, fun _ => (σ 2201 0)), (207, fun _ => (σ 2207 0)), (208, fun _ => (σ 2208 0)), (209, fun _ => (σ 2209 0)), (210, fun _ => (σ 2210 0)), (214, fun _ => (σ 2214 0)), (300, (va_cpy (σ 2300) (σ 300) (Int32.toNatClampNeg 0) (Int32.toNatClampNeg 0) (Int32.toNatClampNeg 9))), (400, (va_cpy (σ 2400) (σ 400) (Int32.toNatClampNeg 0) (Int32.toNatClampNeg 0) (Int32.toNatClampNeg 9))), (500, (va_cpy (σ 2500) (σ 500) (Int32.toNatClampNeg 0) (Int32.toNatClampNeg 0) (Int32.toNatClampNeg 9))), (600, (va_cpy (σ 2600) (σ 600) (Int32.toNatClampNeg 0) (Int32.toNatClampNeg 0) (Int32.toNatClampNeg 9))), (700, (va_cpy (σ 2700) (σ 700) (Int32.toNatClampNeg 0) (Int32.toNatClampNeg 0) (Int32.toNatClampNeg 5))), (800, (va_cpy (σ 2800) (σ 800) (Int32.toNatClampNeg 0) (Int32.toNatClampNeg 0) (Int32.toNatClampNeg 9))), (900, (va_cpy (σ 2900) (σ 900) (Int32.toNatClampNeg 0) (Int32.toNatClampNeg 0) (Int32.toNatClampNeg 9)))], lg) rfl ?_
  refine E_par (p := 0 ≤ Int32.toInt 0 ∧ 0 ≤ Int32.toInt 0 ∧ 0 ≤ Int32.toInt 9 ∧ Int32.toInt 0 + Int32.toInt 9 ≤ ((9 : Nat) : Int) ∧ Int32.toInt 0 + Int32.toInt 9 ≤ ((9 : Nat) : Int)) (167, [(0, .ref 2), (1, .ref 22)], [], SH0, [(201, fun _ => (σ 2201 0)), (207, fun _ => (σ 2207 0)), (208, fun _ => (σ 2208 0)), (209, fun _ => (σ 2209 0)), (210, fun _ => (σ 2210 0)), (214, fun _ => (σ 2214 0)), (300, (va_cpy (σ 2300) (σ 300) (Int32.toNatClampNeg 0) (Int32.toNatClampNeg 0) (Int32.toNatClampNeg 9))), (400, (va_cpy (σ 2400) (σ 400) (Int32.toNatClampNeg 0) (Int32.toNatClampNeg 0) (Int32.toNatClampNeg 9))), (500, (va_cpy (σ 2500) (σ 500) (Int32.toNatClampNeg 0) (Int32.toNatClampNeg 0) (Int32.toNatClampNeg 9))), (600, (va_cpy (σ 2600) (σ 600) (Int32.toNatClampNeg 0) (Int32.toNatClampNeg 0) (Int32.toNatClampNeg 9))), (700, (va_cpy (σ 2700) (σ 700) (Int32.toNatClampNeg 0) (Int32.toNatClampNeg 0) (Int32.toNatClampNeg 5))), (800, (va_cpy (σ 2800) (σ 800) (Int32.toNatClampNeg 0) (Int32.toNatClampNeg 0) (Int32.toNatClampNeg 9))), (900, (va_cpy (σ 2900) (σ 900) (Int32.toNatClampNeg 0) (Int32.toNatClampNeg 0) (Int32.toNatClampNeg 9))), (1000, (va_cpy (σ 3000) (σ 1000) (Int32.toNatClampNeg 0) (Int32.toNatClampNeg 0) (Int32.toNatClampNeg 9)))], lg) rfl (by decide) ?_
  refine E_sts 7 (179, [(0, .ref 2), (1, .ref 22)], [.int 10, .int 0, .ref 11, .int 0, .ref 31], SH0, [(201, fun _ => (σ 2201 0)), (207, fun _ => (σ 2207 0)), (208, fun _ => (σ 2208 0)), (209, fun _ => (σ 2209 0)), (210, fun _ => (σ 2210 0)), (214, fun _ => (σ 2214 0)), (300, (va_cpy (σ 2300) (σ 300) (Int32.toNatClampNeg 0) (Int32.toNatClampNeg 0) (Int32.toNatClampNeg 9))), (400, (va_cpy (σ 2400) (σ 400) (Int32.toNatClampNeg 0) (Int32.toNatClampNeg 0) (Int32.toNatClampNeg 9))), (500, (va_cpy (σ 2500) (σ 500) (Int32.toNatClampNeg 0) (Int32.toNatClampNeg 0) (Int32.toNatClampNeg 9))), (600, (va_cpy (σ 2600) (σ 600) (Int32.toNatClampNeg 0) (Int32.toNatClampNeg 0) (Int32.toNatClampNeg 9))), (700, (va_cpy (σ 2700) (σ 700) (Int32.toNatClampNeg 0) (Int32.toNatClampNeg 0) (Int32.toNatClampNeg 5))), (800, (va_cpy (σ 2800) (σ 800) (Int32.toNatClampNeg 0) (Int32.toNatClampNeg 0) (Int32.toNatClampNeg 9))), (900, (va_cpy (σ 2900) (σ 900) (Int32.toNatClampNeg 0) (Int32.toNatClampNeg 0) (Int32.toNatClampNeg 9))), (1000, (va_cpy (σ 3000) (σ 1000) (Int32.toNatClampNeg 0) (Int32.toNatClampNeg 0) (Int32.toNatClampNeg 9)))], lg) rfl ?_
  refine E_par (p := 0 ≤ Int32.toInt 0 ∧ 0 ≤ Int32.toInt 0 ∧ 0 ≤ Int32.toInt 10 ∧ Int32.toInt 0 + Int32.toInt 10 ≤ ((10 : Nat) : Int) ∧ Int32.toInt 0 + Int32.toInt 10 ≤ ((10 : Nat) : Int)) (182, [(0, .ref 2), (1, .ref 22)], [], SH0, [(201, fun _ => (σ 2201 0)), (207, fun _ => (σ 2207 0)), (208, fun _ => (σ 2208 0)), (209, fun _ => (σ 2209 0)), (210, fun _ => (σ 2210 0)), (214, fun _ => (σ 2214 0)), (300, (va_cpy (σ 2300) (σ 300) (Int32.toNatClampNeg 0) (Int32.toNatClampNeg 0) (Int32.toNatClampNeg 9))), (400, (va_cpy (σ 2400) (σ 400) (Int32.toNatClampNeg 0) (Int32.toNatClampNeg 0) (Int32.toNatClampNeg 9))), (500, (va_cpy (σ 2500) (σ 500) (Int32.toNatClampNeg 0) (Int32.toNatClampNeg 0) (Int32.toNatClampNeg 9))), (600, (va_cpy (σ 2600) (σ 600) (Int32.toNatClampNeg 0) (Int32.toNatClampNeg 0) (Int32.toNatClampNeg 9))), (700, (va_cpy (σ 2700) (σ 700) (Int32.toNatClampNeg 0) (Int32.toNatClampNeg 0) (Int32.toNatClampNeg 5))), (800, (va_cpy (σ 2800) (σ 800) (Int32.toNatClampNeg 0) (Int32.toNatClampNeg 0) (Int32.toNatClampNeg 9))), (900, (va_cpy (σ 2900) (σ 900) (Int32.toNatClampNeg 0) (Int32.toNatClampNeg 0) (Int32.toNatClampNeg 9))), (1000, (va_cpy (σ 3000) (σ 1000) (Int32.toNatClampNeg 0) (Int32.toNatClampNeg 0) (Int32.toNatClampNeg 9))), (1100, (va_cpy (σ 3100) (σ 1100) (Int32.toNatClampNeg 0) (Int32.toNatClampNeg 0) (Int32.toNatClampNeg 10)))], lg) rfl (by decide) ?_
  obtain rfl := Option.some.inj h
  exact E_ret rfl
set_option maxHeartbeats 4000000 in
set_option maxRecDepth 20000 in
theorem e_X5_text (X : xX) (σ : xM) (lg : Int64) (r : Int32 × Int32 × Int32 × Int32 × Int32 × Int32 × Int32 × (Nat → Int32) × (Nat → Int32) × (Nat → Int32) × (Nat → Int32) × (Nat → Int32) × (Nat → Int32) × (Nat → Int32) × (Nat → Int32) × (Nat → Int32) × Int32 × Int32 × Int32 × Int32 × Int32 × Int32 × (Nat → Int32) × (Nat → Int32) × (Nat → Int32) × (Nat → Int32) × (Nat → Int32) × (Nat → Int32) × (Nat → Int32) × (Nat → Int32) × (Nat → Int32) × Int32 × Int32 × Int32 × Int32 × Int32 × (Nat → Int32) × (Nat → Int32) × (Nat → Int32) × (Nat → Int32)) (h : X5_text (σ 201 0) (σ 207 0) (σ 208 0) (σ 209 0) (σ 210 0) (σ 214 0) (σ 300) (σ 400) (σ 500) (σ 600) (σ 700) (σ 800) (σ 900) (σ 1000) (σ 1100) (σ 2300) (σ 2400) (σ 2500) (σ 2600) (σ 2700) (σ 2800) (σ 2900) (σ 3000) (σ 3100) (σ 4202 0) (σ 4300) (σ 4400) (σ 4500) (σ 4600) (σ 4700) = some r) : EM XP X 10 101 [.ref 0] SH0 lg σ (some (.int r.1), SH0, [(201, fun _ => r.2.1), (207, fun _ => r.2.2.1), (208, fun _ => r.2.2.2.1), (209, fun _ => r.2.2.2.2.1), (210, fun _ => r.2.2.2.2.2.1), (214, fun _ => r.2.2.2.2.2.2.1), (300, r.2.2.2.2.2.2.2.1), (400, r.2.2.2.2.2.2.2.2.1), (500, r.2.2.2.2.2.2.2.2.2.1), (600, r.2.2.2.2.2.2.2.2.2.2.1), (700, r.2.2.2.2.2.2.2.2.2.2.2.1), (800, r.2.2.2.2.2.2.2.2.2.2.2.2.1), (900, r.2.2.2.2.2.2.2.2.2.2.2.2.2.1), (1000, r.2.2.2.2.2.2.2.2.2.2.2.2.2.2.1), (1100, r.2.2.2.2.2.2.2.2.2.2.2.2.2.2.2.1), (2201, fun _ => r.2.2.2.2.2.2.2.2.2.2.2.2.2.2.2.2.1), (2207, fun _ => r.2.2.2.2.2.2.2.2.2.2.2.2.2.2.2.2.2.1), (2208, fun _ => r.2.2.2.2.2.2.2.2.2.2.2.2.2.2.2.2.2.2.1), (2209, fun _ => r.2.2.2.2.2.2.2.2.2.2.2.2.2.2.2.2.2.2.2.1), (2210, fun _ => r.2.2.2.2.2.2.2.2.2.2.2.2.2.2.2.2.2.2.2.2.1), (2214, fun _ => r.2.2.2.2.2.2.2.2.2.2.2.2.2.2.2.2.2.2.2.2.2.1), (2300, r.2.2.2.2.2.2.2.2.2.2.2.2.2.2.2.2.2.2.2.2.2.2.1), (2400, r.2.2.2.2.2.2.2.2.2.2.2.2.2.2.2.2.2.2.2.2.2.2.2.1), (2500, r.2.2.2.2.2.2.2.2.2.2.2.2.2.2.2.2.2.2.2.2.2.2.2.2.1), (2600, r.2.2.2.2.2.2.2.2.2.2.2.2.2.2.2.2.2.2.2.2.2.2.2.2.2.1), (2700, r.2.2.2.2.2.2.2.2.2.2.2.2.2.2.2.2.2.2.2.2.2.2.2.2.2.2.1), (2800, r.2.2.2.2.2.2.2.2.2.2.2.2.2.2.2.2.2.2.2.2.2.2.2.2.2.2.2.1), (2900, r.2.2.2.2.2.2.2.2.2.2.2.2.2.2.2.2.2.2.2.2.2.2.2.2.2.2.2.2.1), (3000, r.2.2.2.2.2.2.2.2.2.2.2.2.2.2.2.2.2.2.2.2.2.2.2.2.2.2.2.2.2.1), (3100, r.2.2.2.2.2.2.2.2.2.2.2.2.2.2.2.2.2.2.2.2.2.2.2.2.2.2.2.2.2.2.1), (4202, fun _ => r.2.2.2.2.2.2.2.2.2.2.2.2.2.2.2.2.2.2.2.2.2.2.2.2.2.2.2.2.2.2.2.1), (4207, fun _ => r.2.2.2.2.2.2.2.2.2.2.2.2.2.2.2.2.2.2.2.2.2.2.2.2.2.2.2.2.2.2.2.2.1), (4208, fun _ => r.2.2.2.2.2.2.2.2.2.2.2.2.2.2.2.2.2.2.2.2.2.2.2.2.2.2.2.2.2.2.2.2.2.1), (4209, fun _ => r.2.2.2.2.2.2.2.2.2.2.2.2.2.2.2.2.2.2.2.2.2.2.2.2.2.2.2.2.2.2.2.2.2.2.1), (4210, fun _ => r.2.2.2.2.2.2.2.2.2.2.2.2.2.2.2.2.2.2.2.2.2.2.2.2.2.2.2.2.2.2.2.2.2.2.2.1), (4400, r.2.2.2.2.2.2.2.2.2.2.2.2.2.2.2.2.2.2.2.2.2.2.2.2.2.2.2.2.2.2.2.2.2.2.2.2.1), (4500, r.2.2.2.2.2.2.2.2.2.2.2.2.2.2.2.2.2.2.2.2.2.2.2.2.2.2.2.2.2.2.2.2.2.2.2.2.2.1), (4600, r.2.2.2.2.2.2.2.2.2.2.2.2.2.2.2.2.2.2.2.2.2.2.2.2.2.2.2.2.2.2.2.2.2.2.2.2.2.2.1), (4700, r.2.2.2.2.2.2.2.2.2.2.2.2.2.2.2.2.2.2.2.2.2.2.2.2.2.2.2.2.2.2.2.2.2.2.2.2.2.2.2)], lg) := by
  refine EM_of (M := xm_101) rfl rfl ?_
  unfold X5_text at h
  refine E_sts 4 (8, [(0, .ref 0)], [.ref 2, .ref 22], SH0, [], lg) rfl ?_
  obtain ⟨r8, hr, h⟩ := x_bind h
  refine E_call rfl (e_X2_become_dr_sc X _ _ r8 hr) (by decide) ?_
  refine E_sts 4 (19, [(0, .ref 0)], [.ref 22, .ref 42], SH0, [(2201, fun _ => r8.1), (2207, fun _ => r8.2.1), (2208, fun _ => r8.2.2.1), (2209, fun _ => r8.2.2.2.1), (2210, fun _ => r8.2.2.2.2.1), (2214, fun _ => r8.2.2.2.2.2.1), (2300, r8.2.2.2.2.2.2.1), (2400, r8.2.2.2.2.2.2.2.1), (2500, r8.2.2.2.2.2.2.2.2.1), (2600, r8.2.2.2.2.2.2.2.2.2.1), (2700, r8.2.2.2.2.2.2.2.2.2.2.1), (2800, r8.2.2.2.2.2.2.2.2.2.2.2.1), (2900, r8.2.2.2.2.2.2.2.2.2.2.2.2.1), (3000, r8.2.2.2.2.2.2.2.2.2.2.2.2.2.1), (3100, r8.2.2.2.2.2.2.2.2.2.2.2.2.2.2)], lg) rfl ?_
  obtain ⟨r19, hr, h⟩ := x_bind h
  refine E_call rfl (e_X4_readOnto X _ _ r19 hr) (by decide) ?_
  refine E_sts 3 (if r19.1 < 0 then 38 else 27, [(0, .ref 0), (1, .int r19.1)], [], SH0, [(2201, fun _ => r19.2.1), (2207, fun _ => r8.2.1), (2208, fun _ => r8.2.2.1), (2209, fun _ => r8.2.2.2.1), (2210, fun _ => r8.2.2.2.2.1), (2214, fun _ => r8.2.2.2.2.2.1), (2300, r19.2.2.1), (2400, r19.2.2.2.1), (2500, r19.2.2.2.2.1), (2600, r19.2.2.2.2.2.1), (2700, r19.2.2.2.2.2.2.1), (2800, r8.2.2.2.2.2.2.2.2.2.2.2.1), (2900, r8.2.2.2.2.2.2.2.2.2.2.2.2.1), (3000, r8.2.2.2.2.2.2.2.2.2.2.2.2.2.1), (3100, r8.2.2.2.2.2.2.2.2.2.2.2.2.2.2), (4207, fun _ => r19.2.2.2.2.2.2.2.1), (4208, fun _ => r19.2.2.2.2.2.2.2.2.1), (4209, fun _ => r19.2.2.2.2.2.2.2.2.2.1), (4210, fun _ => r19.2.2.2.2.2.2.2.2.2.2.1), (4400, r19.2.2.2.2.2.2.2.2.2.2.2.1), (4500, r19.2.2.2.2.2.2.2.2.2.2.2.2.1), (4600, r19.2.2.2.2.2.2.2.2.2.2.2.2.2.1), (4700, r19.2.2.2.2.2.2.2.2.2.2.2.2.2.2)], lg) rfl ?_
  rcases x_br h with ⟨hc, h⟩ | ⟨hc, h⟩
  · refine E_itt hc ?_
    refine E_sts 2 (42, [(0, .ref 0), (1, .int r19.1)], [.ref 42], SH0, [(2201, fun _ => r19.2.1), (2207, fun _ => r8.2.1), (2208, fun _ => r8.2.2.1), (2209, fun _ => r8.2.2.2.1), (2210, fun _ => r8.2.2.2.2.1), (2214, fun _ => r8.2.2.2.2.2.1), (2300, r19.2.2.1), (2400, r19.2.2.2.1), (2500, r19.2.2.2.2.1), (2600, r19.2.2.2.2.2.1), (2700, r19.2.2.2.2.2.2.1), (2800, r8.2.2.2.2.2.2.2.2.2.2.2.1), (2900, r8.2.2.2.2.2.2.2.2.2.2.2.2.1), (3000, r8.2.2.2.2.2.2.2.2.2.2.2.2.2.1), (3100, r8.2.2.2.2.2.2.2.2.2.2.2.2.2.2), (4207, fun _ => r19.2.2.2.2.2.2.2.1), (4208, fun _ => r19.2.2.2.2.2.2.2.2.1), (4209, fun _ => r19.2.2.2.2.2.2.2.2.2.1), (4210, fun _ => r19.2.2.2.2.2.2.2.2.2.2.1), (4400, r19.2.2.2.2.2.2.2.2.2.2.2.1), (4500, r19.2.2.2.2.2.2.2.2.2.2.2.2.1), (4600, r19.2.2.2.2.2.2.2.2.2.2.2.2.2.1), (4700, r19.2.2.2.2.2.2.2.2.2.2.2.2.2.2)], lg) rfl ?_
    obtain ⟨r42, hr, h⟩ := x_bind h
    refine E_call rfl (e_X4_empty X _ _ r42 hr) (by decide) ?_
    obtain rfl := Option.some.inj h
    refine E_sts 3 (47, [], [.int r19.1], SH0, [(201, fun _ => (σ 201 0)), (207, fun _ => (σ 207 0)), (208, fun _ => (σ 208 0)), (209, fun _ => (σ 209 0)), (210, fun _ => (σ 210 0)), (214, fun _ => (σ 214 0)), (300, (σ 300)), (400, (σ 400)), (500, (σ 500)), (600, (σ 600)), (700, (σ 700)), (800, (σ 800)), (900, (σ 900)), (1000, (σ 1000)), (1100, (σ 1100)), (2201, fun _ => r19.2.1), (2207, fun _ => r8.2.1), (2208, fun _ => r8.2.2.1), (2209, fun _ => r8.2.2.2.1), (2210, fun _ => r8.2.2.2.2.1), (2214, fun _ => r8.2.2.2.2.2.1), (2300, r19.2.2.1), (2400, r19.2.2.2.1), (2500, r19.2.2.2.2.1), (2600, r19.2.2.2.2.2.1), (2700, r19.2.2.2.2.2.2.1), (2800, r8.2.2.2.2.2.2.2.2.2.2.2.1), (2900, r8.2.2.2.2.2.2.2.2.2.2.2.2.1), (3000, r8.2.2.2.2.2.2.2.2.2.2.2.2.2.1), (3100, r8.2.2.2.2.2.2.2.2.2.2.2.2.2.2), (4202, fun _ => r42.2), (4207, fun _ => r19.2.2.2.2.2.2.2.1), (4208, fun _ => r19.2.2.2.2.2.2.2.2.1), (4209, fun _ => r19.2.2.2.2.2.2.2.2.2.1), (4210, fun _ => r19.2.2.2.2.2.2.2.2.2.2.1), (4400, r19.2.2.2.2.2.2.2.2.2.2.2.1), (4500, r19.2.2.2.2.2.2.2.2.2.2.2.2.1), (4600, r19.2.2.2.2.2.2.2.2.2.2.2.2.2.1), (4700, r19.2.2.2.2.2.2.2.2.2.2.2.2.2.2)], lg) rfl ?_
    exact E_ret rfl
  · refine E_itf hc ?_
    refine E_sts 4 (35, [(0, .ref 0), (1, .int r19.1)], [.ref 22, .ref 2], SH0, [(2201, fun _ => r19.2.1), (2207, fun _ => r8.2.1), (2208, fun _ => r8.2.2.1), (2209, fun _ => r8.2.2.2.1), (2210, fun _ => r8.2.2.2.2.1), (2214, fun _ => r8.2.2.2.2.2.1), (2300, r19.2.2.1), (2400, r19.2.2.2.1), (2500, r19.2.2.2.2.1), (2600, r19.2.2.2.2.2.1), (2700, r19.2.2.2.2.2.2.1), (2800, r8.2.2.2.2.2.2.2.2.2.2.2.1), (2900, r8.2.2.2.2.2.2.2.2.2.2.2.2.1), (3000, r8.2.2.2.2.2.2.2.2.2.2.2.2.2.1), (3100, r8.2.2.2.2.2.2.2.2.2.2.2.2.2.2), (4207, fun _ => r19.2.2.2.2.2.2.2.1), (4208, fun _ => r19.2.2.2.2.2.2.2.2.1), (4209, fun _ => r19.2.2.2.2.2.2.2.2.2.1), (4210, fun _ => r19.2.2.2.2.2.2.2.2.2.2.1), (4400, r19.2.2.2.2.2.2.2.2.2.2.2.1), (4500, r19.2.2.2.2.2.2.2.2.2.2.2.2.1), (4600, r19.2.2.2.2.2.2.2.2.2.2.2.2.2.1), (4700, r19.2.2.2.2.2.2.2.2.2.2.2.2.2.2)], lg) rfl ?_
    obtain ⟨r35, hr, h⟩ := x_bind h
    refine E_call rfl (e_X2_become_sc_dr X _ _ r35 hr) (by decide) ?_
    refine E_sts 2 (42, [(0, .ref 0), (1, .int r19.1)], [.ref 42], SH0, [(201, fun _ => r35.1), (207, fun _ => r35.2.1), (208, fun _ => r35.2.2.1), (209, fun _ => r35.2.2.2.1), (210, fun _ => r35.2.2.2.2.1), (214, fun _ => r35.2.2.2.2.2.1), (300, r35.2.2.2.2.2.2.1), (400, r35.2.2.2.2.2.2.2.1), (500, r35.2.2.2.2.2.2.2.2.1), (600, r35.2.2.2.2.2.2.2.2.2.1), (700, r35.2.2.2.2.2.2.2.2.2.2.1), (800, r35.2.2.2.2.2.2.2.2.2.2.2.1), (900, r35.2.2.2.2.2.2.2.2.2.2.2.2.1), (1000, r35.2.2.2.2.2.2.2.2.2.2.2.2.2.1), (1100, r35.2.2.2.2.2.2.2.2.2.2.2.2.2.2), (2201, fun _ => r19.2.1), (2207, fun _ => r8.2.1), (2208, fun _ => r8.2.2.1), (2209, fun _ => r8.2.2.2.1), (2210, fun _ => r8.2.2.2.2.1), (2214, fun _ => r8.2.2.2.2.2.1), (2300, r19.2.2.1), (2400, r19.2.2.2.1), (2500, r19.2.2.2.2.1), (2600, r19.2.2.2.2.2.1), (2700, r19.2.2.2.2.2.2.1), (2800, r8.2.2.2.2.2.2.2.2.2.2.2.1), (2900, r8.2.2.2.2.2.2.2.2.2.2.2.2.1), (3000, r8.2.2.2.2.2.2.2.2.2.2.2.2.2.1), (3100, r8.2.2.2.2.2.2.2.2.2.2.2.2.2.2), (4207, fun _ => r19.2.2.2.2.2.2.2.1), (4208, fun _ => r19.2.2.2.2.2.2.2.2.1), (4209, fun _ => r19.2.2.2.2.2.2.2.2.2.1), (4210, fun _ => r19.2.2.2.2.2.2.2.2.2.2.1), (4400, r19.2.2.2.2.2.2.2.2.2.2.2.1), (4500, r19.2.2.2.2.2.2.2.2.2.2.2.2.1), (4600, r19.2.2.2.2.2.2.2.2.2.2.2.2.2.1), (4700, r19.2.2.2.2.2.2.2.2.2.2.2.2.2.2)], lg) rfl ?_
    obtain ⟨r42_1, hr, h⟩ := x_bind h
    refine E_call rfl (e_X4_empty X _ _ r42_1 hr) (by decide) ?_
    obtain rfl := Option.some.inj h
    refine E_sts 3 (47, [], [.int r19.1], SH0, [(201, fun _ => r35.1), (207, fun _ => r35.2.1), (208, fun _ => r35.2.2.1), (209, fun _ => r35.2.2.2.1), (210, fun _ => r35.2.2.2.2.1), (214, fun _ => r35.2.2.2.2.2.1), (300, r35.2.2.2.2.2.2.1), (400, r35.2.2.2.2.2.2.2.1), (500, r35.2.2.2.2.2.2.2.2.1), (600, r35.2.2.2.2.2.2.2.2.2.1), (700, r35.2.2.2.2.2.2.2.2.2.2.1), (800, r35.2.2.2.2.2.2.2.2.2.2.2.1), (900, r35.2.2.2.2.2.2.2.2.2.2.2.2.1), (1000, r35.2.2.2.2.2.2.2.2.2.2.2.2.2.1), (1100, r35.2.2.2.2.2.2.2.2.2.2.2.2.2.2), (2201, fun _ => r19.2.1), (2207, fun _ => r8.2.1), (2208, fun _ => r8.2.2.1), (2209, fun _ => r8.2.2.2.1), (2210, fun _ => r8.2.2.2.2.1), (2214, fun _ => r8.2.2.2.2.2.1), (2300, r19.2.2.1), (2400, r19.2.2.2.1), (2500, r19.2.2.2.2.1), (2600, r19.2.2.2.2.2.1), (2700, r19.2.2.2.2.2.2.1), (2800, r8.2.2.2.2.2.2.2.2.2.2.2.1), (2900, r8.2.2.2.2.2.2.2.2.2.2.2.2.1), (3000, r8.2.2.2.2.2.2.2.2.2.2.2.2.2.1), (3100, r8.2.2.2.2.2.2.2.2.2.2.2.2.2.2), (4202, fun _ => r42_1.2), (4207, fun _ => r19.2.2.2.2.2.2.2.1), (4208, fun _ => r19.2.2.2.2.2.2.2.2.1), (4209, fun _ => r19.2.2.2.2.2.2.2.2.2.1), (4210, fun _ => r19.2.2.2.2.2.2.2.2.2.2.1), (4400, r19.2.2.2.2.2.2.2.2.2.2.2.1), (4500, r19.2.2.2.2.2.2.2.2.2.2.2.2.1), (4600, r19.2.2.2.2.2.2.2.2.2.2.2.2.2.1), (4700, r19.2.2.2.2.2.2.2.2.2.2.2.2.2.2)], lg) rfl ?_
    exact E_ret rfl
set_option maxHeartbeats 4000000 in
set_option maxRecDepth 20000 in
theorem e_X6_setsAside_L2 (X : xX) (σ : xM) (lg : Int64) : ∀ (n : Nat), ∀ (v1 : Int32) (m_aside_ : (Nat → Int32)) (r : (Nat → Int32)), X6_setsAside_L2 (σ 5300) n v1 m_aside_ = some r → E XP X 0 xm_188 σ (2, [(0, .ref 52), (1, .int v1)], [], SH0, [(5500, m_aside_)], lg) (none, SH0, [(5500, r)], lg) := by
  intro n
  induction n with
  | zero => intro v1 m_aside_ r h; rw [X6_setsAside_L2] at h; cases h
  | succ n ih =>
    intro v1 m_aside_ r h
    rw [X6_setsAside_L2] at h
    refine E_sts 3 (if 83 ≤ v1 then 100026 else 8, [(0, .ref 52), (1, .int v1)], [], SH0, [(5500, m_aside_)], lg) rfl ?_
    rcases x_br h with ⟨hc, h⟩ | ⟨hc, h⟩
    · refine E_itt hc ?_
      obtain rfl := Option.some.inj h
      refine E_sts 1 (26, [], [], SH0, [(5500, m_aside_)], lg) rfl ?_
      exact E_ret rfl
    · refine E_itf hc ?_
      refine E_sts 6 (18, [(0, .ref 52), (1, .int v1)], [.int v1, .ref 53, .int v1, .ref 55], SH0, [(5500, m_aside_)], lg) rfl ?_
      obtain ⟨hp, h⟩ := x_ite h
      refine E_par (p := inr v1 83) (19, [(0, .ref 52), (1, .int v1)], [.int ((σ 5300) v1.toNatClampNeg), .int v1, .ref 55], SH0, [(5500, m_aside_)], lg) rfl hp ?_
      obtain ⟨hp, h⟩ := x_ite h
      refine E_par (p := inr v1 83) (20, [(0, .ref 52), (1, .int v1)], [], SH0, [(5500, (upd m_aside_ v1.toNatClampNeg ((σ 5300) v1.toNatClampNeg)))], lg) rfl hp ?_
      refine E_sts 3 (2, [(0, .ref 52), (1, .int (v1 + 1))], [], SH0, [(5500, (upd m_aside_ v1.toNatClampNeg ((σ 5300) v1.toNatClampNeg)))], lg) rfl ?_
      exact ih (v1 + 1) (upd m_aside_ v1.toNatClampNeg ((σ 5300) v1.toNatClampNeg)) r h
set_option maxHeartbeats 4000000 in
set_option maxRecDepth 20000 in
theorem e_X6_setsAside (X : xX) (σ : xM) (lg : Int64) (r : (Nat → Int32)) (h : X6_setsAside (σ 5300) (σ 5500) = some r) : EM XP X 1 188 [.ref 52] SH0 lg σ (none, SH0, [(5500, r)], lg) := by
  refine EM_of (M := xm_188) rfl rfl ?_
  unfold X6_setsAside at h
  refine E_sts 3 (2, [(0, .ref 52), (1, .int 0)], [], SH0, [(5500, (σ 5500))], lg) rfl ?_
  exact e_X6_setsAside_L2 X σ lg _ 0 (σ 5500) r h
