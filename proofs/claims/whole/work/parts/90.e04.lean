/-! what the machine answers is what the functions say (by gen/emit.py) -/
set_option maxHeartbeats 4000000 in
set_option maxRecDepth 20000 in
theorem e_X6_back (X : xX) (σ : xM) (lg : Int64) (r : Int32 × (Nat → Int32) × (Nat → Int32)) (h : X6_back (σ 5300) (σ 5600) = some r) : EM XP X 2 152 [.ref 52] SH0 lg σ (some (.int r.1), SH0, [(5300, r.2.1), (5600, r.2.2)], lg) := by
  refine EM_of (M := xm_152) rfl rfl ?_
  unfold X6_back at h
  refine E_sts 3 (5, [(0, .ref 52)], [.int 2, .ref 53], SH0, [], lg) rfl ?_
  refine E_par (p := inr 2 83) (6, [(0, .ref 52)], [.int ((σ 5300) 2)], SH0, [], lg) rfl (by decide) ?_
  refine E_sts 1 (if ((σ 5300) 2) = 0 then 9 else 15, [(0, .ref 52)], [], SH0, [], lg) rfl ?_
  rcases x_br h with ⟨hc, h⟩ | ⟨hc, h⟩
  · refine E_itt hc ?_
    refine E_sts 2 (11, [(0, .ref 52)], [.int 3, .ref 52], SH0, [], lg) rfl ?_
    obtain ⟨r11, hr, h⟩ := x_bind h
    refine E_call rfl (e_X6_no X _ _ _ r11 hr) (by decide) ?_
    obtain rfl := Option.some.inj h
    refine E_sts 1 (14, [], [.int r11.1], SH0, [(5300, (σ 5300)), (5600, r11.2)], lg) rfl ?_
    exact E_ret rfl
  · refine E_itf hc ?_
    refine E_sts 4 (21, [(0, .ref 52)], [.int 2, .ref 53, .int 2, .ref 53], SH0, [], lg) rfl ?_
    refine E_par (p := inr 2 83) (22, [(0, .ref 52)], [.int ((σ 5300) 2), .int 2, .ref 53], SH0, [], lg) rfl (by decide) ?_
    refine E_sts 2 (24, [(0, .ref 52)], [.int (((σ 5300) 2) - 1), .int 2, .ref 53], SH0, [], lg) rfl ?_
    refine E_par (p := inr 2 83) (25, [(0, .ref 52)], [], SH0, [(5300, (upd (σ 5300) 2 (((σ 5300) 2) - 1)))], lg) rfl (by decide) ?_
    refine E_sts 5 (33, [(0, .ref 52)], [.int 2, .ref 53, .int 3, .int 46], SH0, [(5300, (upd (σ 5300) 2 (((σ 5300) 2) - 1)))], lg) rfl ?_
    refine E_par (p := inr 2 83) (34, [(0, .ref 52)], [.int ((upd (σ 5300) 2 (((σ 5300) 2) - 1)) 2), .int 3, .int 46], SH0, [(5300, (upd (σ 5300) 2 (((σ 5300) 2) - 1)))], lg) rfl (by decide) ?_
    refine E_sts 7 (43, [(0, .ref 52), (1, .int (46 + (3 * ((upd (σ 5300) 2 (((σ 5300) 2) - 1)) 2))))], [.int 0, .ref 53, .int 0, .ref 53], SH0, [(5300, (upd (σ 5300) 2 (((σ 5300) 2) - 1)))], lg) rfl ?_
    refine E_par (p := inr 0 83) (44, [(0, .ref 52), (1, .int (46 + (3 * ((upd (σ 5300) 2 (((σ 5300) 2) - 1)) 2))))], [.int ((upd (σ 5300) 2 (((σ 5300) 2) - 1)) 0), .int 0, .ref 53], SH0, [(5300, (upd (σ 5300) 2 (((σ 5300) 2) - 1)))], lg) rfl (by decide) ?_
    refine E_sts 5 (51, [(0, .ref 52), (1, .int (46 + (3 * ((upd (σ 5300) 2 (((σ 5300) 2) - 1)) 2))))], [.int ((46 + (3 * ((upd (σ 5300) 2 (((σ 5300) 2) - 1)) 2))) + 1), .ref 53, .int ((upd (σ 5300) 2 (((σ 5300) 2) - 1)) 0), .int 0, .ref 53], SH0, [(5300, (upd (σ 5300) 2 (((σ 5300) 2) - 1)))], lg) rfl ?_
    obtain ⟨hp, h⟩ := x_ite h
    refine E_par (p := inr ((46 + (3 * ((upd (σ 5300) 2 (((σ 5300) 2) - 1)) 2))) + 1) 83) (52, [(0, .ref 52), (1, .int (46 + (3 * ((upd (σ 5300) 2 (((σ 5300) 2) - 1)) 2))))], [.int ((upd (σ 5300) 2 (((σ 5300) 2) - 1)) ((46 + (3 * ((upd (σ 5300) 2 (((σ 5300) 2) - 1)) 2))) + 1).toNatClampNeg), .int ((upd (σ 5300) 2 (((σ 5300) 2) - 1)) 0), .int 0, .ref 53], SH0, [(5300, (upd (σ 5300) 2 (((σ 5300) 2) - 1)))], lg) rfl hp ?_
    refine E_sts 1 (53, [(0, .ref 52), (1, .int (46 + (3 * ((upd (σ 5300) 2 (((σ 5300) 2) - 1)) 2))))], [.int (((upd (σ 5300) 2 (((σ 5300) 2) - 1)) 0) - ((upd (σ 5300) 2 (((σ 5300) 2) - 1)) ((46 + (3 * ((upd (σ 5300) 2 (((σ 5300) 2) - 1)) 2))) + 1).toNatClampNeg)), .int 0, .ref 53], SH0, [(5300, (upd (σ 5300) 2 (((σ 5300) 2) - 1)))], lg) rfl ?_
    refine E_par (p := inr 0 83) (54, [(0, .ref 52), (1, .int (46 + (3 * ((upd (σ 5300) 2 (((σ 5300) 2) - 1)) 2))))], [], SH0, [(5300, (upd (upd (σ 5300) 2 (((σ 5300) 2) - 1)) 0 (((upd (σ 5300) 2 (((σ 5300) 2) - 1)) 0) - ((upd (σ 5300) 2 (((σ 5300) 2) - 1)) ((46 + (3 * ((upd (σ 5300) 2 (((σ 5300) 2) - 1)) 2))) + 1).toNatClampNeg))))], lg) rfl (by decide) ?_
    refine E_sts 4 (60, [(0, .ref 52), (1, .int (46 + (3 * ((upd (σ 5300) 2 (((σ 5300) 2) - 1)) 2))))], [.int 1, .ref 53, .int 1, .ref 53], SH0, [(5300, (upd (upd (σ 5300) 2 (((σ 5300) 2) - 1)) 0 (((upd (σ 5300) 2 (((σ 5300) 2) - 1)) 0) - ((upd (σ 5300) 2 (((σ 5300) 2) - 1)) ((46 + (3 * ((upd (σ 5300) 2 (((σ 5300) 2) - 1)) 2))) + 1).toNatClampNeg))))], lg) rfl ?_
    refine E_par (p := inr 1 83) (61, [(0, .ref 52), (1, .int (46 + (3 * ((upd (σ 5300) 2 (((σ 5300) 2) - 1)) 2))))], [.int ((upd (upd (σ 5300) 2 (((σ 5300) 2) - 1)) 0 (((upd (σ 5300) 2 (((σ 5300) 2) - 1)) 0) - ((upd (σ 5300) 2 (((σ 5300) 2) - 1)) ((46 + (3 * ((upd (σ 5300) 2 (((σ 5300) 2) - 1)) 2))) + 1).toNatClampNeg))) 1), .int 1, .ref 53], SH0, [(5300, (upd (upd (σ 5300) 2 (((σ 5300) 2) - 1)) 0 (((upd (σ 5300) 2 (((σ 5300) 2) - 1)) 0) - ((upd (σ 5300) 2 (((σ 5300) 2) - 1)) ((46 + (3 * ((upd (σ 5300) 2 (((σ 5300) 2) - 1)) 2))) + 1).toNatClampNeg))))], lg) rfl (by decide) ?_
    refine E_sts 5 (68, [(0, .ref 52), (1, .int (46 + (3 * ((upd (σ 5300) 2 (((σ 5300) 2) - 1)) 2))))], [.int ((46 + (3 * ((upd (σ 5300) 2 (((σ 5300) 2) - 1)) 2))) + 2), .ref 53, .int ((upd (upd (σ 5300) 2 (((σ 5300) 2) - 1)) 0 (((upd (σ 5300) 2 (((σ 5300) 2) - 1)) 0) - ((upd (σ 5300) 2 (((σ 5300) 2) - 1)) ((46 + (3 * ((upd (σ 5300) 2 (((σ 5300) 2) - 1)) 2))) + 1).toNatClampNeg))) 1), .int 1, .ref 53], SH0, [(5300, (upd (upd (σ 5300) 2 (((σ 5300) 2) - 1)) 0 (((upd (σ 5300) 2 (((σ 5300) 2) - 1)) 0) - ((upd (σ 5300) 2 (((σ 5300) 2) - 1)) ((46 + (3 * ((upd (σ 5300) 2 (((σ 5300) 2) - 1)) 2))) + 1).toNatClampNeg))))], lg) rfl ?_
    obtain ⟨hp, h⟩ := x_ite h
    refine E_par (p := inr ((46 + (3 * ((upd (σ 5300) 2 (((σ 5300) 2) - 1)) 2))) + 2) 83) (69, [(0, .ref 52), (1, .int (46 + (3 * ((upd (σ 5300) 2 (((σ 5300) 2) - 1)) 2))))], [.int ((upd (upd (σ 5300) 2 (((σ 5300) 2) - 1)) 0 (((upd (σ 5300) 2 (((σ 5300) 2) - 1)) 0) - ((upd (σ 5300) 2 (((σ 5300) 2) - 1)) ((46 + (3 * ((upd (σ 5300) 2 (((σ 5300) 2) - 1)) 2))) + 1).toNatClampNeg))) ((46 + (3 * ((upd (σ 5300) 2 (((σ 5300) 2) - 1)) 2))) + 2).toNatClampNeg), .int ((upd (upd (σ 5300) 2 (((σ 5300) 2) - 1)) 0 (((upd (σ 5300) 2 (((σ 5300) 2) - 1)) 0) - ((upd (σ 5300) 2 (((σ 5300) 2) - 1)) ((46 + (3 * ((upd (σ 5300) 2 (((σ 5300) 2) - 1)) 2))) + 1).toNatClampNeg))) 1), .int 1, .ref 53], SH0, [(5300, (upd (upd (σ 5300) 2 (((σ 5300) 2) - 1)) 0 (((upd (σ 5300) 2 (((σ 5300) 2) - 1)) 0) - ((upd (σ 5300) 2 (((σ 5300) 2) - 1)) ((46 + (3 * ((upd (σ 5300) 2 (((σ 5300) 2) - 1)) 2))) + 1).toNatClampNeg))))], lg) rfl hp ?_
    refine E_sts 1 (70, [(0, .ref 52), (1, .int (46 + (3 * ((upd (σ 5300) 2 (((σ 5300) 2) - 1)) 2))))], [.int (((upd (upd (σ 5300) 2 (((σ 5300) 2) - 1)) 0 (((upd (σ 5300) 2 (((σ 5300) 2) - 1)) 0) - ((upd (σ 5300) 2 (((σ 5300) 2) - 1)) ((46 + (3 * ((upd (σ 5300) 2 (((σ 5300) 2) - 1)) 2))) + 1).toNatClampNeg))) 1) - ((upd (upd (σ 5300) 2 (((σ 5300) 2) - 1)) 0 (((upd (σ 5300) 2 (((σ 5300) 2) - 1)) 0) - ((upd (σ 5300) 2 (((σ 5300) 2) - 1)) ((46 + (3 * ((upd (σ 5300) 2 (((σ 5300) 2) - 1)) 2))) + 1).toNatClampNeg))) ((46 + (3 * ((upd (σ 5300) 2 (((σ 5300) 2) - 1)) 2))) + 2).toNatClampNeg)), .int 1, .ref 53], SH0, [(5300, (upd (upd (σ 5300) 2 (((σ 5300) 2) - 1)) 0 (((upd (σ 5300) 2 (((σ 5300) 2) - 1)) 0) - ((upd (σ 5300) 2 (((σ 5300) 2) - 1)) ((46 + (3 * ((upd (σ 5300) 2 (((σ 5300) 2) - 1)) 2))) + 1).toNatClampNeg))))], lg) rfl ?_
    refine E_par (p := inr 1 83) (71, [(0, .ref 52), (1, .int (46 + (3 * ((upd (σ 5300) 2 (((σ 5300) 2) - 1)) 2))))], [], SH0, [(5300, (upd (upd (upd (σ 5300) 2 (((σ 5300) 2) - 1)) 0 (((upd (σ 5300) 2 (((σ 5300) 2) - 1)) 0) - ((upd (σ 5300) 2 (((σ 5300) 2) - 1)) ((46 + (3 * ((upd (σ 5300) 2 (((σ 5300) 2) - 1)) 2))) + 1).toNatClampNeg))) 1 (((upd (upd (σ 5300) 2 (((σ 5300) 2) - 1)) 0 (((upd (σ 5300) 2 (((σ 5300) 2) - 1)) 0) - ((upd (σ 5300) 2 (((σ 5300) 2) - 1)) ((46 + (3 * ((upd (σ 5300) 2 (((σ 5300) 2) - 1)) 2))) + 1).toNatClampNeg))) 1) - ((upd (upd (σ 5300) 2 (((σ 5300) 2) - 1)) 0 (((upd (σ 5300) 2 (((σ 5300) 2) - 1)) 0) - ((upd (σ 5300) 2 (((σ 5300) 2) - 1)) ((46 + (3 * ((upd (σ 5300) 2 (((σ 5300) 2) - 1)) 2))) + 1).toNatClampNeg))) ((46 + (3 * ((upd (σ 5300) 2 (((σ 5300) 2) - 1)) 2))) + 2).toNatClampNeg))))], lg) rfl (by decide) ?_
    refine E_sts 3 (76, [(0, .ref 52), (1, .int (46 + (3 * ((upd (σ 5300) 2 (((σ 5300) 2) - 1)) 2))))], [.int (46 + (3 * ((upd (σ 5300) 2 (((σ 5300) 2) - 1)) 2))), .ref 53], SH0, [(5300, (upd (upd (upd (σ 5300) 2 (((σ 5300) 2) - 1)) 0 (((upd (σ 5300) 2 (((σ 5300) 2) - 1)) 0) - ((upd (σ 5300) 2 (((σ 5300) 2) - 1)) ((46 + (3 * ((upd (σ 5300) 2 (((σ 5300) 2) - 1)) 2))) + 1).toNatClampNeg))) 1 (((upd (upd (σ 5300) 2 (((σ 5300) 2) - 1)) 0 (((upd (σ 5300) 2 (((σ 5300) 2) - 1)) 0) - ((upd (σ 5300) 2 (((σ 5300) 2) - 1)) ((46 + (3 * ((upd (σ 5300) 2 (((σ 5300) 2) - 1)) 2))) + 1).toNatClampNeg))) 1) - ((upd (upd (σ 5300) 2 (((σ 5300) 2) - 1)) 0 (((upd (σ 5300) 2 (((σ 5300) 2) - 1)) 0) - ((upd (σ 5300) 2 (((σ 5300) 2) - 1)) ((46 + (3 * ((upd (σ 5300) 2 (((σ 5300) 2) - 1)) 2))) + 1).toNatClampNeg))) ((46 + (3 * ((upd (σ 5300) 2 (((σ 5300) 2) - 1)) 2))) + 2).toNatClampNeg))))], lg) rfl ?_
    obtain ⟨hp, h⟩ := x_ite h
    refine E_par (p := inr (46 + (3 * ((upd (σ 5300) 2 (((σ 5300) 2) - 1)) 2))) 83) (100077, [(0, .ref 52), (1, .int (46 + (3 * ((upd (σ 5300) 2 (((σ 5300) 2) - 1)) 2))))], [.int ((upd (upd (upd (σ 5300) 2 (((σ 5300) 2) - 1)) 0 (((upd (σ 5300) 2 (((σ 5300) 2) - 1)) 0) - ((upd (σ 5300) 2 (((σ 5300) 2) - 1)) ((46 + (3 * ((upd (σ 5300) 2 (((σ 5300) 2) - 1)) 2))) + 1).toNatClampNeg))) 1 (((upd (upd (σ 5300) 2 (((σ 5300) 2) - 1)) 0 (((upd (σ 5300) 2 (((σ 5300) 2) - 1)) 0) - ((upd (σ 5300) 2 (((σ 5300) 2) - 1)) ((46 + (3 * ((upd (σ 5300) 2 (((σ 5300) 2) - 1)) 2))) + 1).toNatClampNeg))) 1) - ((upd (upd (σ 5300) 2 (((σ 5300) 2) - 1)) 0 (((upd (σ 5300) 2 (((σ 5300) 2) - 1)) 0) - ((upd (σ 5300) 2 (((σ 5300) 2) - 1)) ((46 + (3 * ((upd (σ 5300) 2 (((σ 5300) 2) - 1)) 2))) + 1).toNatClampNeg))) ((46 + (3 * ((upd (σ 5300) 2 (((σ 5300) 2) - 1)) 2))) + 2).toNatClampNeg))) (46 + (3 * ((upd (σ 5300) 2 (((σ 5300) 2) - 1)) 2))).toNatClampNeg)], SH0, [(5300, (upd (upd (upd (σ 5300) 2 (((σ 5300) 2) - 1)) 0 (((upd (σ 5300) 2 (((σ 5300) 2) - 1)) 0) - ((upd (σ 5300) 2 (((σ 5300) 2) - 1)) ((46 + (3 * ((upd (σ 5300) 2 (((σ 5300) 2) - 1)) 2))) + 1).toNatClampNeg))) 1 (((upd (upd (σ 5300) 2 (((σ 5300) 2) - 1)) 0 (((upd (σ 5300) 2 (((σ 5300) 2) - 1)) 0) - ((upd (σ 5300) 2 (((σ 5300) 2) - 1)) ((46 + (3 * ((upd (σ 5300) 2 (((σ 5300) 2) - 1)) 2))) + 1).toNatClampNeg))) 1) - ((upd (upd (σ 5300) 2 (((σ 5300) 2) - 1)) 0 (((upd (σ 5300) 2 (((σ 5300) 2) - 1)) 0) - ((upd (σ 5300) 2 (((σ 5300) 2) - 1)) ((46 + (3 * ((upd (σ 5300) 2 (((σ 5300) 2) - 1)) 2))) + 1).toNatClampNeg))) ((46 + (3 * ((upd (σ 5300) 2 (((σ 5300) 2) - 1)) 2))) + 2).toNatClampNeg))))], lg) rfl hp ?_
    obtain rfl := Option.some.inj h
    refine E_sts 1 (77, [], [.int ((upd (upd (upd (σ 5300) 2 (((σ 5300) 2) - 1)) 0 (((upd (σ 5300) 2 (((σ 5300) 2) - 1)) 0) - ((upd (σ 5300) 2 (((σ 5300) 2) - 1)) ((46 + (3 * ((upd (σ 5300) 2 (((σ 5300) 2) - 1)) 2))) + 1).toNatClampNeg))) 1 (((upd (upd (σ 5300) 2 (((σ 5300) 2) - 1)) 0 (((upd (σ 5300) 2 (((σ 5300) 2) - 1)) 0) - ((upd (σ 5300) 2 (((σ 5300) 2) - 1)) ((46 + (3 * ((upd (σ 5300) 2 (((σ 5300) 2) - 1)) 2))) + 1).toNatClampNeg))) 1) - ((upd (upd (σ 5300) 2 (((σ 5300) 2) - 1)) 0 (((upd (σ 5300) 2 (((σ 5300) 2) - 1)) 0) - ((upd (σ 5300) 2 (((σ 5300) 2) - 1)) ((46 + (3 * ((upd (σ 5300) 2 (((σ 5300) 2) - 1)) 2))) + 1).toNatClampNeg))) ((46 + (3 * ((upd (σ 5300) 2 (((σ 5300) 2) - 1)) 2))) + 2).toNatClampNeg))) (46 + (3 * ((upd (σ 5300) 2 (((σ 5300) 2) - 1)) 2))).toNatClampNeg)], SH0, [(5300, (upd (upd (upd (σ 5300) 2 (((σ 5300) 2) - 1)) 0 (((upd (σ 5300) 2 (((σ 5300) 2) - 1)) 0) - ((upd (σ 5300) 2 (((σ 5300) 2) - 1)) ((46 + (3 * ((upd (σ 5300) 2 (((σ 5300) 2) - 1)) 2))) + 1).toNatClampNeg))) 1 (((upd (upd (σ 5300) 2 (((σ 5300) 2) - 1)) 0 (((upd (σ 5300) 2 (((σ 5300) 2) - 1)) 0) - ((upd (σ 5300) 2 (((σ 5300) 2) - 1)) ((46 + (3 * ((upd (σ 5300) 2 (((σ 5300) 2) - 1)) 2))) + 1).toNatClampNeg))) 1) - ((upd (upd (σ 5300) 2 (((σ 5300) 2) - 1)) 0 (((upd (σ 5300) 2 (((σ 5300) 2) - 1)) 0) - ((upd (σ 5300) 2 (((σ 5300) 2) - 1)) ((46 + (3 * ((upd (σ 5300) 2 (((σ 5300) 2) - 1)) 2))) + 1).toNatClampNeg))) ((46 + (3 * ((upd (σ 5300) 2 (((σ 5300) 2) - 1)) 2))) + 2).toNatClampNeg)))), (5600, (σ 5600))], lg) rfl ?_
    exact E_ret rfl
set_option maxHeartbeats 4000000 in
set_option maxRecDepth 20000 in
theorem e_X2_empty (X : xX) (σ : xM) (lg : Int64) (r : Int32 × Int32 × Int32 × Int32) (h : X2_empty = some r) : EM XP X 1 37 [.ref 2] SH0 lg σ (none, SH0, [(207, fun _ => r.1), (208, fun _ => r.2.1), (209, fun _ => r.2.2.1), (210, fun _ => r.2.2.2)], lg) := by
  refine EM_of (M := xm_37) rfl rfl ?_
  unfold X2_empty at h
  obtain rfl := Option.some.inj h
  refine E_sts 12 (20, [(0, .ref 2)], [], SH0, [(207, fun _ => 0), (208, fun _ => 0), (209, fun _ => 0), (210, fun _ => 0)], lg) rfl ?_
  exact E_ret rfl
set_option maxHeartbeats 4000000 in
set_option maxRecDepth 20000 in
theorem e_X5_clear (X : xX) (σ : xM) (lg : Int64) (r : Int32 × Int32 × Int32 × Int32 × Int32) (h : X5_clear (σ 207 0) = some r) : EM XP X 2 76 [.ref 0] SH0 lg σ (some (.int r.1), SH0, [(207, fun _ => r.2.1), (208, fun _ => r.2.2.1), (209, fun _ => r.2.2.2.1), (210, fun _ => r.2.2.2.2)], lg) := by
  refine EM_of (M := xm_76) rfl rfl ?_
  unfold X5_clear at h
  refine E_sts 6 (12, [(0, .ref 0), (1, .int (σ 207 0))], [.ref 2], SH0, [], lg) rfl ?_
  obtain ⟨r12, hr, h⟩ := x_bind h
  refine E_call rfl (e_X2_empty X _ _ r12 hr) (by decide) ?_
  obtain rfl := Option.some.inj h
  refine E_sts 1 (16, [(0, .ref 0), (1, .int (σ 207 0))], [.int (σ 207 0)], SH0, [(207, fun _ => r12.1), (208, fun _ => r12.2.1), (209, fun _ => r12.2.2.1), (210, fun _ => r12.2.2.2)], lg) rfl ?_
  exact E_ret rfl
set_option maxHeartbeats 4000000 in
set_option maxRecDepth 20000 in
theorem e_X6_clear (X : xX) (σ : xM) (lg : Int64) (r : Int32 × (Nat → Int32)) (h : X6_clear (σ 5300) = some r) : EM XP X 1 153 [.ref 52] SH0 lg σ (some (.int r.1), SH0, [(5300, r.2)], lg) := by
  refine EM_of (M := xm_153) rfl rfl ?_
  unfold X6_clear at h
  refine E_sts 3 (5, [(0, .ref 52)], [.int 2, .ref 53], SH0, [], lg) rfl ?_
  refine E_par (p := inr 2 83) (6, [(0, .ref 52)], [.int ((σ 5300) 2)], SH0, [], lg) rfl (by decide) ?_
  refine E_sts 5 (13, [(0, .ref 52), (1, .int ((σ 5300) 2))], [.int 0, .int 2, .ref 53], SH0, [], lg) rfl ?_
  refine E_par (p := inr 2 83) (14, [(0, .ref 52), (1, .int ((σ 5300) 2))], [], SH0, [(5300, (upd (σ 5300) 2 0))], lg) rfl (by decide) ?_
  refine E_sts 4 (20, [(0, .ref 52), (1, .int ((σ 5300) 2))], [.int 0, .int 0, .ref 53], SH0, [(5300, (upd (σ 5300) 2 0))], lg) rfl ?_
  refine E_par (p := inr 0 83) (21, [(0, .ref 52), (1, .int ((σ 5300) 2))], [], SH0, [(5300, (upd (upd (σ 5300) 2 0) 0 0))], lg) rfl (by decide) ?_
  refine E_sts 4 (27, [(0, .ref 52), (1, .int ((σ 5300) 2))], [.int 0, .int 1, .ref 53], SH0, [(5300, (upd (upd (σ 5300) 2 0) 0 0))], lg) rfl ?_
  refine E_par (p := inr 1 83) (28, [(0, .ref 52), (1, .int ((σ 5300) 2))], [], SH0, [(5300, (upd (upd (upd (σ 5300) 2 0) 0 0) 1 0))], lg) rfl (by decide) ?_
  obtain rfl := Option.some.inj h
  refine E_sts 1 (29, [(0, .ref 52), (1, .int ((σ 5300) 2))], [.int ((σ 5300) 2)], SH0, [(5300, (upd (upd (upd (σ 5300) 2 0) 0 0) 1 0))], lg) rfl ?_
  exact E_ret rfl
set_option maxHeartbeats 4000000 in
set_option maxRecDepth 20000 in
theorem e_X5_stood (X : xX) (σ : xM) (lg : Int64) (v1 : Int32) (r : Int32 × (Nat → Int32)) (h : X5_stood (σ 100) (σ 207 0) (σ 800) v1 = some r) : EM XP X 2 77 [.ref 0, .int v1] SH0 lg σ (some (.int r.1), SH0, [(100, r.2)], lg) := by
  refine EM_of (M := xm_77) rfl rfl ?_
  unfold X5_stood at h
  refine E_sts 2 (if 0 ≤ v1 then 10 else 4, [(0, .ref 0), (1, .int v1)], [], SH0, [], lg) rfl ?_
  rcases x_br h with ⟨hc, h⟩ | ⟨hc, h⟩
  · refine E_itt hc ?_
    refine E_sts 5 (if v1 < (σ 207 0) then 27 else 21, [(0, .ref 0), (1, .int v1)], [], SH0, [], lg) rfl ?_
    rcases x_br h with ⟨hc, h⟩ | ⟨hc, h⟩
    · refine E_itt hc ?_
      refine E_sts 4 (35, [(0, .ref 0), (1, .int v1)], [.int v1, .ref 8], SH0, [], lg) rfl ?_
      obtain ⟨hp, h⟩ := x_ite h
      refine E_par (p := inr v1 9) (100036, [(0, .ref 0), (1, .int v1)], [.int ((σ 800) v1.toNatClampNeg)], SH0, [], lg) rfl hp ?_
      obtain rfl := Option.some.inj h
      refine E_sts 1 (36, [], [.int ((σ 800) v1.toNatClampNeg)], SH0, [(100, (σ 100))], lg) rfl ?_
      exact E_ret rfl
    · refine E_itf hc ?_
      refine E_sts 2 (23, [(0, .ref 0), (1, .int v1)], [.int 3, .ref 0], SH0, [], lg) rfl ?_
      obtain ⟨r23, hr, h⟩ := x_bind h
      refine E_call rfl (e_X5_finding X _ _ _ r23 hr) (by decide) ?_
      obtain rfl := Option.some.inj h
      exact E_ret rfl
  · refine E_itf hc ?_
    refine E_sts 2 (6, [(0, .ref 0), (1, .int v1)], [.int 0, .ref 0], SH0, [], lg) rfl ?_
    obtain ⟨r6, hr, h⟩ := x_bind h
    refine E_call rfl (e_X5_finding X _ _ _ r6 hr) (by decide) ?_
    obtain rfl := Option.some.inj h
    exact E_ret rfl
set_option maxHeartbeats 4000000 in
set_option maxRecDepth 20000 in
theorem e_X6_stood (X : xX) (σ : xM) (lg : Int64) (v1 : Int32) (r : Int32 × (Nat → Int32)) (h : X6_stood (σ 5300) (σ 5600) v1 = some r) : EM XP X 2 154 [.ref 52, .int v1] SH0 lg σ (some (.int r.1), SH0, [(5600, r.2)], lg) := by
  refine EM_of (M := xm_154) rfl rfl ?_
  unfold X6_stood at h
  refine E_sts 2 (if 0 ≤ v1 then 10 else 4, [(0, .ref 52), (1, .int v1)], [], SH0, [], lg) rfl ?_
  rcases x_br h with ⟨hc, h⟩ | ⟨hc, h⟩
  · refine E_itt hc ?_
    refine E_sts 4 (16, [(0, .ref 52), (1, .int v1)], [.int 2, .ref 53, .int v1], SH0, [], lg) rfl ?_
    refine E_par (p := inr 2 83) (17, [(0, .ref 52), (1, .int v1)], [.int ((σ 5300) 2), .int v1], SH0, [], lg) rfl (by decide) ?_
    refine E_sts 1 (if ((σ 5300) 2) ≤ v1 then 28 else 20, [(0, .ref 52), (1, .int v1)], [], SH0, [], lg) rfl ?_
    rcases x_br h with ⟨hc, h⟩ | ⟨hc, h⟩
    · refine E_itt hc ?_
      refine E_sts 2 (30, [(0, .ref 52), (1, .int v1)], [.int 3, .ref 52], SH0, [], lg) rfl ?_
      obtain ⟨r30, hr, h⟩ := x_bind h
      refine E_call rfl (e_X6_no X _ _ _ r30 hr) (by decide) ?_
      obtain rfl := Option.some.inj h
      refine E_sts 1 (33, [], [.int r30.1], SH0, [(5600, r30.2)], lg) rfl ?_
      exact E_ret rfl
    · refine E_itf hc ?_
      refine E_sts 2 (22, [(0, .ref 52), (1, .int v1)], [.int v1, .ref 52], SH0, [], lg) rfl ?_
      obtain ⟨r22, hr, h⟩ := x_bind h
      refine E_call rfl (e_X6_whoAt X _ _ _ r22 hr) (by decide) ?_
      obtain rfl := Option.some.inj h
      refine E_sts 2 (33, [], [.int r22], SH0, [(5600, (σ 5600))], lg) rfl ?_
      exact E_ret rfl
  · refine E_itf hc ?_
    refine E_sts 2 (6, [(0, .ref 52), (1, .int v1)], [.int 0, .ref 52], SH0, [], lg) rfl ?_
    obtain ⟨r6, hr, h⟩ := x_bind h
    refine E_call rfl (e_X6_no X _ _ _ r6 hr) (by decide) ?_
    obtain rfl := Option.some.inj h
    exact E_ret rfl
set_option maxHeartbeats 4000000 in
set_option maxRecDepth 20000 in
theorem e_X2_falls_L6 (X : xX) (σ : xM) (lg : Int64) : ∀ (n : Nat), ∀ (v1 : Int32) (v2 : Int32) (v3 : Int32) (r : Int32), X2_falls_L6 (σ 207 0) (σ 300) (σ 400) (σ 800) n v1 v2 v3 = some r → E XP X 2 xm_38 σ (6, [(0, .ref 2), (1, .int v1), (2, .int v2), (3, .int v3)], [], SH0, [], lg) (some (.int r), SH0, [], lg) := by
  intro n
  induction n with
  | zero => intro v1 v2 v3 r h; rw [X2_falls_L6] at h; cases h
  | succ n ih =>
    intro v1 v2 v3 r h
    rw [X2_falls_L6] at h
    refine E_sts 4 (if (σ 207 0) ≤ v3 then 49 else 14, [(0, .ref 2), (1, .int v1), (2, .int v2), (3, .int v3)], [], SH0, [], lg) rfl ?_
    rcases x_br h with ⟨hc, h⟩ | ⟨hc, h⟩
    · refine E_itt hc ?_
      obtain rfl := Option.some.inj h
      refine E_sts 1 (50, [(0, .ref 2), (1, .int v1), (2, .int v2), (3, .int v3)], [.int v1], SH0, [], lg) rfl ?_
      exact E_ret rfl
    · refine E_itf hc ?_
      refine E_sts 6 (24, [(0, .ref 2), (1, .int v1), (2, .int v2), (3, .int v3)], [.int v3, .ref 8, .ref 4, .int v2], SH0, [], lg) rfl ?_
      obtain ⟨hp, h⟩ := x_ite h
      refine E_par (p := inr v3 9) (25, [(0, .ref 2), (1, .int v1), (2, .int v2), (3, .int v3)], [.int ((σ 800) v3.toNatClampNeg), .ref 4, .int v2], SH0, [], lg) rfl hp ?_
      obtain ⟨hp, h⟩ := x_ite h
      refine E_par (p := inr ((σ 800) v3.toNatClampNeg) 9) (26, [(0, .ref 2), (1, .int v1), (2, .int v2), (3, .int v3)], [.int ((σ 400) ((σ 800) v3.toNatClampNeg).toNatClampNeg), .int v2], SH0, [], lg) rfl hp ?_
      refine E_sts 1 (if v2 ≤ ((σ 400) ((σ 800) v3.toNatClampNeg).toNatClampNeg) then 32 else 29, [(0, .ref 2), (1, .int v1), (2, .int v2), (3, .int v3)], [], SH0, [], lg) rfl ?_
      rcases x_br h with ⟨hc, h⟩ | ⟨hc, h⟩
      · refine E_itt hc ?_
        refine E_sts 4 (38, [(0, .ref 2), (1, .int v1), (2, .int v2), (3, .int v3)], [.int v3, .ref 8, .ref 2], SH0, [], lg) rfl ?_
        obtain ⟨hp, h⟩ := x_ite h
        refine E_par (p := inr v3 9) (39, [(0, .ref 2), (1, .int v1), (2, .int v2), (3, .int v3)], [.int ((σ 800) v3.toNatClampNeg), .ref 2], SH0, [], lg) rfl hp ?_
        obtain ⟨r39, hr, h⟩ := x_bind h
        refine E_call rfl (e_X2_leftBy X _ _ _ r39 hr) (by decide) ?_
        refine E_sts 4 (6, [(0, .ref 2), (1, .int v1), (2, .int r39), (3, .int (v3 + 1))], [], SH0, [], lg) rfl ?_
        exact ih v1 r39 (v3 + 1) r h
      · refine E_itf hc ?_
        refine E_sts 5 (38, [(0, .ref 2), (1, .int (v1 + 1)), (2, .int v2), (3, .int v3)], [.int v3, .ref 8, .ref 2], SH0, [], lg) rfl ?_
        obtain ⟨hp, h⟩ := x_ite h
        refine E_par (p := inr v3 9) (39, [(0, .ref 2), (1, .int (v1 + 1)), (2, .int v2), (3, .int v3)], [.int ((σ 800) v3.toNatClampNeg), .ref 2], SH0, [], lg) rfl hp ?_
        obtain ⟨r39_1, hr, h⟩ := x_bind h
        refine E_call rfl (e_X2_leftBy X _ _ _ r39_1 hr) (by decide) ?_
        refine E_sts 4 (6, [(0, .ref 2), (1, .int (v1 + 1)), (2, .int r39_1), (3, .int (v3 + 1))], [], SH0, [], lg) rfl ?_
        exact ih (v1 + 1) r39_1 (v3 + 1) r h
set_option maxHeartbeats 4000000 in
set_option maxRecDepth 20000 in
theorem e_X2_falls (X : xX) (σ : xM) (lg : Int64) (r : Int32) (h : X2_falls (σ 207 0) (σ 300) (σ 400) (σ 800) = some r) : EM XP X 3 38 [.ref 2] SH0 lg σ (some (.int r), SH0, [], lg) := by
  refine EM_of (M := xm_38) rfl rfl ?_
  unfold X2_falls at h
  refine E_sts 7 (6, [(0, .ref 2), (1, .int 0), (2, .int 0), (3, .int 0)], [], SH0, [], lg) rfl ?_
  exact e_X2_falls_L6 X σ lg _ 0 0 0 r h
set_option maxHeartbeats 4000000 in
set_option maxRecDepth 20000 in
theorem e_X2_comers_L4 (X : xX) (σ : xM) (lg : Int64) : ∀ (n : Nat), ∀ (v1 : Int32) (v2 : Int32) (r : Int32), X2_comers_L4 (σ 201 0) (σ 208 0) (σ 600) n v1 v2 = some r → E XP X 1 xm_34 σ (4, [(0, .ref 2), (1, .int v1), (2, .int v2)], [], SH0, [], lg) (some (.int r), SH0, [], lg) := by
  intro n
  induction n with
  | zero => intro v1 v2 r h; rw [X2_comers_L4] at h; cases h
  | succ n ih =>
    intro v1 v2 r h
    rw [X2_comers_L4] at h
    refine E_sts 4 (if (σ 201 0) ≤ v2 then 36 else 12, [(0, .ref 2), (1, .int v1), (2, .int v2)], [], SH0, [], lg) rfl ?_
    rcases x_br h with ⟨hc, h⟩ | ⟨hc, h⟩
    · refine E_itt hc ?_
      obtain rfl := Option.some.inj h
      refine E_sts 1 (37, [(0, .ref 2), (1, .int v1), (2, .int v2)], [.int v1], SH0, [], lg) rfl ?_
      exact E_ret rfl
    · refine E_itf hc ?_
      refine E_sts 4 (18, [(0, .ref 2), (1, .int v1), (2, .int v2)], [.int (σ 208 0), .int v2, .ref 2], SH0, [], lg) rfl ?_
      obtain ⟨r18, hr, h⟩ := x_bind h
      refine E_call rfl (e_X2_couldCome X _ _ _ _ r18 hr) (by decide) ?_
      refine E_sts 1 (if (xb r18) = 0 then 30 else 24, [(0, .ref 2), (1, .int v1), (2, .int v2)], [], SH0, [], lg) rfl ?_
      rcases x_br h with ⟨hc, h⟩ | ⟨hc, h⟩
      · refine E_itt hc ?_
        refine E_sts 3 (4, [(0, .ref 2), (1, .int v1), (2, .int (v2 + 1))], [], SH0, [], lg) rfl ?_
        exact ih v1 (v2 + 1) r h
      · refine E_itf hc ?_
        refine E_sts 9 (4, [(0, .ref 2), (1, .int (v1 ||| (xshl 1 v2))), (2, .int (v2 + 1))], [], SH0, [], lg) rfl ?_
        exact ih (v1 ||| (xshl 1 v2)) (v2 + 1) r h
set_option maxHeartbeats 4000000 in
set_option maxRecDepth 20000 in
theorem e_X2_comers (X : xX) (σ : xM) (lg : Int64) (r : Int32) (h : X2_comers (σ 201 0) (σ 208 0) (σ 600) = some r) : EM XP X 2 34 [.ref 2] SH0 lg σ (some (.int r), SH0, [], lg) := by
  refine EM_of (M := xm_34) rfl rfl ?_
  unfold X2_comers at h
  refine E_sts 5 (4, [(0, .ref 2), (1, .int 0), (2, .int 0)], [], SH0, [], lg) rfl ?_
  exact e_X2_comers_L4 X σ lg _ 0 0 r h
set_option maxHeartbeats 4000000 in
set_option maxRecDepth 20000 in
theorem e_X5_now (X : xX) (σ : xM) (lg : Int64) (v1 : Int32) (r : Int32 × (Nat → Int32)) (h : X5_now (σ 100) (σ 201 0) (σ 207 0) (σ 208 0) (σ 209 0) (σ 210 0) (σ 300) (σ 400) (σ 600) (σ 800) v1 = some r) : EM XP X 4 78 [.ref 0, .int v1] SH0 lg σ (some (.int r.1), SH0, [(100, r.2)], lg) := by
  refine EM_of (M := xm_78) rfl rfl ?_
  unfold X5_now at h
  refine E_sts 2 (if v1 = 0 then 40 else if v1 = 1 then 48 else if v1 = 2 then 56 else if v1 = 3 then 64 else if v1 = 4 then 72 else if v1 = 5 then 80 else 88, [(0, .ref 0), (1, .int v1)], [], SH0, [], lg) rfl ?_
  rcases x_br h with ⟨hc, h⟩ | ⟨hc, h⟩
  · refine E_itt hc ?_
    obtain rfl := Option.some.inj h
    refine E_sts 4 (47, [], [.int (σ 207 0)], SH0, [(100, (σ 100))], lg) rfl ?_
    exact E_ret rfl
  refine E_itf hc ?_
  rcases x_br h with ⟨hc, h⟩ | ⟨hc, h⟩
  · refine E_itt hc ?_
    obtain rfl := Option.some.inj h
    refine E_sts 4 (55, [], [.int (σ 209 0)], SH0, [(100, (σ 100))], lg) rfl ?_
    exact E_ret rfl
  refine E_itf hc ?_
  rcases x_br h with ⟨hc, h⟩ | ⟨hc, h⟩
  · refine E_itt hc ?_
    obtain rfl := Option.some.inj h
    refine E_sts 4 (63, [], [.int (σ 210 0)], SH0, [(100, (σ 100))], lg) rfl ?_
    exact E_ret rfl
  refine E_itf hc ?_
  rcases x_br h with ⟨hc, h⟩ | ⟨hc, h⟩
  · refine E_itt hc ?_
    obtain rfl := Option.some.inj h
    refine E_sts 4 (71, [], [.int (σ 208 0)], SH0, [(100, (σ 100))], lg) rfl ?_
    exact E_ret rfl
  refine E_itf hc ?_
  rcases x_br h with ⟨hc, h⟩ | ⟨hc, h⟩
  · refine E_itt hc ?_
    refine E_sts 2 (76, [(0, .ref 0), (1, .int v1)], [.ref 2], SH0, [], lg) rfl ?_
    obtain ⟨r76, hr, h⟩ := x_bind h
    refine E_call rfl (e_X2_comers X _ _ r76 hr) (by decide) ?_
    obtain rfl := Option.some.inj h
    refine E_sts 1 (79, [], [.int r76], SH0, [(100, (σ 100))], lg) rfl ?_
    exact E_ret rfl
  refine E_itf hc ?_
  rcases x_br h with ⟨hc, h⟩ | ⟨hc, h⟩
  · refine E_itt hc ?_
    refine E_sts 2 (84, [(0, .ref 0), (1, .int v1)], [.ref 2], SH0, [], lg) rfl ?_
    obtain ⟨r84, hr, h⟩ := x_bind h
    refine E_call rfl (e_X2_falls X _ _ r84 hr) (by decide) ?_
    obtain rfl := Option.some.inj h
    refine E_sts 1 (87, [], [.int r84], SH0, [(100, (σ 100))], lg) rfl ?_
    exact E_ret rfl
  refine E_itf hc ?_
  refine E_sts 2 (90, [(0, .ref 0), (1, .int v1)], [.int 0, .ref 0], SH0, [], lg) rfl ?_
  obtain ⟨r90, hr, h⟩ := x_bind h
  refine E_call rfl (e_X5_finding X _ _ _ r90 hr) (by decide) ?_
  obtain rfl := Option.some.inj h
  exact E_ret rfl
set_option maxHeartbeats 4000000 in
set_option maxRecDepth 20000 in
theorem e_X6_fallsOfStage_L34 (X : xX) (σ : xM) (lg : Int64) (k4 : Int32 → Int32 → Option (Int32)) (h4 : ∀ (v1 : Int32) (v2 : Int32) (r : Int32), k4 v1 v2 = some r → E XP X 2 xm_155 σ (4, [(0, .ref 52), (1, .int v1), (2, .int v2)], [], SH0, [], lg) (some (.int r), SH0, [], lg)) : ∀ (v2 : Int32) (t0 : Int32) (t1 : Int32) (r : Int32), X6_fallsOfStage_L34 k4 (σ 5300) v2 t0 t1 = some r → E XP X 2 xm_155 σ (34, [(0, .ref 52), (2, .int v2)], [.int t1, .int t0], SH0, [], lg) (some (.int r), SH0, [], lg) := by
  intro v2 t0 t1 r h
  unfold X6_fallsOfStage_L34 at h
  refine E_sts 3 (37, [(0, .ref 52), (2, .int v2)], [.int v2, .ref 52, .ref 52, .int t1, .int t0], SH0, [], lg) rfl ?_
  obtain ⟨r37, hr, h⟩ := x_bind h
  refine E_call rfl (e_X6_whoAt X _ _ _ r37 hr) (by decide) ?_
  refine E_sts 1 (41, [(0, .ref 52), (2, .int v2)], [.int 1, .int r37, .ref 52, .int t1, .int t0], SH0, [], lg) rfl ?_
  obtain ⟨r41, hr, h⟩ := x_bind h
  refine E_call rfl (e_X6_get X _ _ _ _ r41 hr) (by decide) ?_
  refine E_sts 1 (if t1 ≤ r41 then 51 else 47, [(0, .ref 52), (2, .int v2)], [.int t0], SH0, [], lg) rfl ?_
  rcases x_br h with ⟨hc, h⟩ | ⟨hc, h⟩
  · refine E_itt hc ?_
    refine E_sts 6 (4, [(0, .ref 52), (1, .int (t0 + 0)), (2, .int (v2 + 1))], [], SH0, [], lg) rfl ?_
    exact h4 (t0 + 0) (v2 + 1) r h
  · refine E_itf hc ?_
    refine E_sts 7 (4, [(0, .ref 52), (1, .int (t0 + 1)), (2, .int (v2 + 1))], [], SH0, [], lg) rfl ?_
    exact h4 (t0 + 1) (v2 + 1) r h
set_option maxHeartbeats 4000000 in
set_option maxRecDepth 20000 in
theorem e_X6_fallsOfStage_L4 (X : xX) (σ : xM) (lg : Int64) : ∀ (n : Nat), ∀ (v1 : Int32) (v2 : Int32) (r : Int32), X6_fallsOfStage_L4 (σ 5300) n v1 v2 = some r → E XP X 2 xm_155 σ (4, [(0, .ref 52), (1, .int v1), (2, .int v2)], [], SH0, [], lg) (some (.int r), SH0, [], lg) := by
  intro n
  induction n with
  | zero => intro v1 v2 r h; rw [X6_fallsOfStage_L4] at h; cases h
  | succ n ih =>
    intro v1 v2 r h
    rw [X6_fallsOfStage_L4] at h
    refine E_sts 4 (10, [(0, .ref 52), (1, .int v1), (2, .int v2)], [.int 2, .ref 53, .int v2], SH0, [], lg) rfl ?_
    refine E_par (p := inr 2 83) (11, [(0, .ref 52), (1, .int v1), (2, .int v2)], [.int ((σ 5300) 2), .int v2], SH0, [], lg) rfl (by decide) ?_
    refine E_sts 1 (if ((σ 5300) 2) ≤ v2 then 60 else 14, [(0, .ref 52), (1, .int v1), (2, .int v2)], [], SH0, [], lg) rfl ?_
    rcases x_br h with ⟨hc, h⟩ | ⟨hc, h⟩
    · refine E_itt hc ?_
      obtain rfl := Option.some.inj h
      refine E_sts 1 (61, [(0, .ref 52), (1, .int v1), (2, .int v2)], [.int v1], SH0, [], lg) rfl ?_
      exact E_ret rfl
    · refine E_itf hc ?_
      refine E_sts 3 (if v2 = 0 then 19 else 23, [(0, .ref 52), (1, .int v1), (2, .int v2)], [.int v1], SH0, [], lg) rfl ?_
      rcases x_br h with ⟨hc, h⟩ | ⟨hc, h⟩
      · refine E_itt hc ?_
        refine E_sts 3 (34, [(0, .ref 52), (2, .int v2)], [.int 0, .int v1], SH0, [], lg) rfl ?_
        exact e_X6_fallsOfStage_L34 X σ lg _ (fun v10 v20 r h => ih v10 v20 r h) v2 v1 0 r h
      · refine E_itf hc ?_
        refine E_sts 5 (28, [(0, .ref 52), (1, .int v1), (2, .int v2)], [.int (v2 - 1), .ref 52, .ref 52, .int v1], SH0, [], lg) rfl ?_
        obtain ⟨r28, hr, h⟩ := x_bind h
        refine E_call rfl (e_X6_whoAt X _ _ _ r28 hr) (by decide) ?_
        obtain ⟨r31, hr, h⟩ := x_bind h
        refine E_call rfl (e_X6_leaves X _ _ _ r31 hr) (by decide) ?_
        refine E_sts 1 (34, [(0, .ref 52), (2, .int v2)], [.int r31, .int v1], SH0, [], lg) rfl ?_
        exact e_X6_fallsOfStage_L34 X σ lg _ (fun v10 v20 r h => ih v10 v20 r h) v2 v1 r31 r h
set_option maxHeartbeats 4000000 in
set_option maxRecDepth 20000 in
theorem e_X6_fallsOfStage (X : xX) (σ : xM) (lg : Int64) (r : Int32) (h : X6_fallsOfStage (σ 5300) = some r) : EM XP X 3 155 [.ref 52] SH0 lg σ (some (.int r), SH0, [], lg) := by
  refine EM_of (M := xm_155) rfl rfl ?_
  unfold X6_fallsOfStage at h
  refine E_sts 5 (4, [(0, .ref 52), (1, .int 0), (2, .int 0)], [], SH0, [], lg) rfl ?_
  exact e_X6_fallsOfStage_L4 X σ lg _ 0 0 r h
set_option maxHeartbeats 4000000 in
set_option maxRecDepth 20000 in
theorem e_X6_canSet_L4 (X : xX) (σ : xM) (lg : Int64) : ∀ (n : Nat), ∀ (v1 : Int32) (v2 : Int32) (v3 : Int32) (r : Int32), X6_canSet_L4 (σ 5300) n v1 v2 v3 = some r → E XP X 2 xm_141 σ (4, [(0, .ref 52), (1, .int v1), (2, .int v2), (3, .int v3)], [], SH0, [], lg) (some (.int r), SH0, [], lg) := by
  intro n
  induction n with
  | zero => intro v1 v2 v3 r h; rw [X6_canSet_L4] at h; cases h
  | succ n ih =>
    intro v1 v2 v3 r h
    rw [X6_canSet_L4] at h
    refine E_sts 4 (10, [(0, .ref 52), (1, .int v1), (2, .int v2), (3, .int v3)], [.int 3, .ref 53, .int v3], SH0, [], lg) rfl ?_
    refine E_par (p := inr 3 83) (11, [(0, .ref 52), (1, .int v1), (2, .int v2), (3, .int v3)], [.int ((σ 5300) 3), .int v3], SH0, [], lg) rfl (by decide) ?_
    refine E_sts 1 (if ((σ 5300) 3) ≤ v3 then 39 else 14, [(0, .ref 52), (1, .int v1), (2, .int v2), (3, .int v3)], [], SH0, [], lg) rfl ?_
    rcases x_br h with ⟨hc, h⟩ | ⟨hc, h⟩
    · refine E_itt hc ?_
      obtain rfl := Option.some.inj h
      refine E_sts 1 (40, [(0, .ref 52), (1, .int v1), (2, .int v2), (3, .int v3)], [.int v2], SH0, [], lg) rfl ?_
      exact E_ret rfl
    · refine E_itf hc ?_
      refine E_sts 4 (18, [(0, .ref 52), (1, .int v1), (2, .int v2), (3, .int v3)], [.int v1, .int v3, .ref 52, .int v2], SH0, [], lg) rfl ?_
      obtain ⟨r18, hr, h⟩ := x_bind h
      refine E_call rfl (e_X6_canBehind X _ _ _ _ r18 hr) (by decide) ?_
      refine E_sts 1 (if (xb r18) = 0 then 30 else 24, [(0, .ref 52), (1, .int v1), (2, .int v2), (3, .int v3)], [.int v2], SH0, [], lg) rfl ?_
      rcases x_br h with ⟨hc, h⟩ | ⟨hc, h⟩
      · refine E_itt hc ?_
        refine E_sts 6 (4, [(0, .ref 52), (1, .int v1), (2, .int (v2 ||| 0)), (3, .int (v3 + 1))], [], SH0, [], lg) rfl ?_
        exact ih v1 (v2 ||| 0) (v3 + 1) r h
      · refine E_itf hc ?_
        refine E_sts 9 (4, [(0, .ref 52), (1, .int v1), (2, .int (v2 ||| (xshl 1 v3))), (3, .int (v3 + 1))], [], SH0, [], lg) rfl ?_
        exact ih v1 (v2 ||| (xshl 1 v3)) (v3 + 1) r h
set_option maxHeartbeats 4000000 in
set_option maxRecDepth 20000 in
theorem e_X6_canSet (X : xX) (σ : xM) (lg : Int64) (v1 : Int32) (r : Int32) (h : X6_canSet (σ 5300) v1 = some r) : EM XP X 3 141 [.ref 52, .int v1] SH0 lg σ (some (.int r), SH0, [], lg) := by
  refine EM_of (M := xm_141) rfl rfl ?_
  unfold X6_canSet at h
  refine E_sts 5 (4, [(0, .ref 52), (1, .int v1), (2, .int 0), (3, .int 0)], [], SH0, [], lg) rfl ?_
  exact e_X6_canSet_L4 X σ lg _ v1 0 0 r h
set_option maxHeartbeats 4000000 in
set_option maxRecDepth 20000 in
theorem e_X6_now (X : xX) (σ : xM) (lg : Int64) (v1 : Int32) (r : Int32 × (Nat → Int32)) (h : X6_now (σ 5300) (σ 5600) v1 = some r) : EM XP X 4 156 [.ref 52, .int v1] SH0 lg σ (some (.int r.1), SH0, [(5600, r.2)], lg) := by
  refine EM_of (M := xm_156) rfl rfl ?_
  unfold X6_now at h
  refine E_sts 2 (if v1 = 0 then 40 else if v1 = 1 then 47 else if v1 = 2 then 54 else if v1 = 3 then 61 else if v1 = 4 then 66 else if v1 = 5 then 75 else 80, [(0, .ref 52), (1, .int v1)], [], SH0, [], lg) rfl ?_
  rcases x_br h with ⟨hc, h⟩ | ⟨hc, h⟩
  · refine E_itt hc ?_
    refine E_sts 3 (45, [(0, .ref 52), (1, .int v1)], [.int 2, .ref 53], SH0, [], lg) rfl ?_
    refine E_par (p := inr 2 83) (100046, [(0, .ref 52), (1, .int v1)], [.int ((σ 5300) 2)], SH0, [], lg) rfl (by decide) ?_
    obtain rfl := Option.some.inj h
    refine E_sts 1 (46, [], [.int ((σ 5300) 2)], SH0, [(5600, (σ 5600))], lg) rfl ?_
    exact E_ret rfl
  refine E_itf hc ?_
  rcases x_br h with ⟨hc, h⟩ | ⟨hc, h⟩
  · refine E_itt hc ?_
    refine E_sts 3 (52, [(0, .ref 52), (1, .int v1)], [.int 0, .ref 53], SH0, [], lg) rfl ?_
    refine E_par (p := inr 0 83) (100053, [(0, .ref 52), (1, .int v1)], [.int ((σ 5300) 0)], SH0, [], lg) rfl (by decide) ?_
    obtain rfl := Option.some.inj h
    refine E_sts 1 (53, [], [.int ((σ 5300) 0)], SH0, [(5600, (σ 5600))], lg) rfl ?_
    exact E_ret rfl
  refine E_itf hc ?_
  rcases x_br h with ⟨hc, h⟩ | ⟨hc, h⟩
  · refine E_itt hc ?_
    refine E_sts 3 (59, [(0, .ref 52), (1, .int v1)], [.int 1, .ref 53], SH0, [], lg) rfl ?_
    refine E_par (p := inr 1 83) (100060, [(0, .ref 52), (1, .int v1)], [.int ((σ 5300) 1)], SH0, [], lg) rfl (by decide) ?_
    obtain rfl := Option.some.inj h
    refine E_sts 1 (60, [], [.int ((σ 5300) 1)], SH0, [(5600, (σ 5600))], lg) rfl ?_
    exact E_ret rfl
  refine E_itf hc ?_
  rcases x_br h with ⟨hc, h⟩ | ⟨hc, h⟩
  · refine E_itt hc ?_
    refine E_sts 1 (62, [(0, .ref 52), (1, .int v1)], [.ref 52], SH0, [], lg) rfl ?_
    obtain ⟨r62, hr, h⟩ := x_bind h
    refine E_call rfl (e_X6_stageSet X _ _ r62 hr) (by decide) ?_
    obtain rfl := Option.some.inj h
    refine E_sts 1 (65, [], [.int r62], SH0, [(5600, (σ 5600))], lg) rfl ?_
    exact E_ret rfl
  refine E_itf hc ?_
  rcases x_br h with ⟨hc, h⟩ | ⟨hc, h⟩
  · refine E_itt hc ?_
    refine E_sts 2 (68, [(0, .ref 52), (1, .int v1)], [.ref 52, .ref 52], SH0, [], lg) rfl ?_
    obtain ⟨r68, hr, h⟩ := x_bind h
    refine E_call rfl (e_X6_stageSet X _ _ r68 hr) (by decide) ?_
    obtain ⟨r71, hr, h⟩ := x_bind h
    refine E_call rfl (e_X6_canSet X _ _ _ r71 hr) (by decide) ?_
    obtain rfl := Option.some.inj h
    refine E_sts 1 (74, [], [.int r71], SH0, [(5600, (σ 5600))], lg) rfl ?_
    exact E_ret rfl
  refine E_itf hc ?_
  rcases x_br h with ⟨hc, h⟩ | ⟨hc, h⟩
  · refine E_itt hc ?_
    refine E_sts 1 (76, [(0, .ref 52), (1, .int v1)], [.ref 52], SH0, [], lg) rfl ?_
    obtain ⟨r76, hr, h⟩ := x_bind h
    refine E_call rfl (e_X6_fallsOfStage X _ _ r76 hr) (by decide) ?_
    obtain rfl := Option.some.inj h
    refine E_sts 1 (79, [], [.int r76], SH0, [(5600, (σ 5600))], lg) rfl ?_
    exact E_ret rfl
  refine E_itf hc ?_
  refine E_sts 2 (82, [(0, .ref 52), (1, .int v1)], [.int 0, .ref 52], SH0, [], lg) rfl ?_
  obtain ⟨r82, hr, h⟩ := x_bind h
  refine E_call rfl (e_X6_no X _ _ _ r82 hr) (by decide) ?_
  obtain rfl := Option.some.inj h
  exact E_ret rfl
set_option maxHeartbeats 4000000 in
set_option maxRecDepth 20000 in
theorem e_X1_startFrom_L40 (X : xX) (σ : xM) (lg : Int64) : ∀ (t1 : Int32) (od_bows_ : Int32) (od_came_ : Int32) (r : Int32 × Int32 × Int32 × Int32 × (Nat → Int32) × (Nat → Int32) × (Nat → Int32)), X1_startFrom_L40 (σ 300) (σ 400) (σ 600) (σ 3300) (σ 3400) (σ 3500) t1 od_bows_ od_came_ = some r → E XP X 0 xm_5 σ (40, [(0, .ref 32), (1, .ref 2)], [.int t1, .ref 32], SH0, [(3211, fun _ => od_bows_), (3212, fun _ => od_came_)], lg) (none, SH0, [(3211, fun _ => r.1), (3212, fun _ => r.2.1), (3213, fun _ => r.2.2.1), (3214, fun _ => r.2.2.2.1), (3300, r.2.2.2.2.1), (3400, r.2.2.2.2.2.1), (3500, r.2.2.2.2.2.2)], lg) := by
  intro t1 od_bows_ od_came_ r h
  unfold X1_startFrom_L40 at h
  refine E_sts 16 (67, [(0, .ref 32), (1, .ref 2)], [.int 9, .int 0, .ref 33, .int 0, .ref 3], SH0, [(3211, fun _ => od_bows_), (3212, fun _ => od_came_), (3213, fun _ => t1), (3214, fun _ => ((xshl 1 od_bows_) - 1))], lg) rfl ?_
  refine E_par (p := 0 ≤ Int32.toInt 0 ∧ 0 ≤ Int32.toInt 0 ∧ 0 ≤ Int32.toInt 9 ∧ Int32.toInt 0 + Int32.toInt 9 ≤ ((9 : Nat) : Int) ∧ Int32.toInt 0 + Int32.toInt 9 ≤ ((9 : Nat) : Int)) (70, [(0, .ref 32), (1, .ref 2)], [], SH0, [(3211, fun _ => od_bows_), (3212, fun _ => od_came_), (3213, fun _ => t1), (3214, fun _ => ((xshl 1 od_bows_) - 1)), (3300, (va_cpy (σ 300) (σ 3300) (Int32.toNatClampNeg 0) (Int32.toNatClampNeg 0) (Int32.toNatClampNeg 9)))], lg) rfl (by decide) ?_
  refine E_sts 7 (82, [(0, .ref 32), (1, .ref 2)], [.int 9, .int 0, .ref 34, .int 0, .ref 4], SH0, [(3211, fun _ => od_bows_), (3212, fun _ => od_came_), (3213, fun _ => t1), (3214, fun _ => ((xshl 1 od_bows_) - 1)), (3300, (va_cpy (σ 300) (σ 3300) (Int32.toNatClampNeg 0) (Int32.toNatClampNeg 0) (Int32.toNatClampNeg 9)))], lg) rfl ?_
  refine E_par (p := 0 ≤ Int32.toInt 0 ∧ 0 ≤ Int32.toInt 0 ∧ 0 ≤ Int32.toInt 9 ∧ Int32.toInt 0 + Int32.toInt 9 ≤ ((9 : Nat) : Int) ∧ Int32.toInt 0 + Int32.toInt 9 ≤ ((9 : Nat) : Int)) (85, [(0, .ref 32), (1, .ref 2)], [], SH0, [(3211, fun _ => od_bows_), (3212, fun _ => od_came_), (3213, fun _ => t1), (3214, fun _ => ((xshl 1 od_bows_) - 1)), (3300, (va_cpy (σ 300) (σ 3300) (Int32.toNatClampNeg 0) (Int32.toNatClampNeg 0) (Int32.toNatClampNeg 9))), (3400, (va_cpy (σ 400) (σ 3400) (Int32.toNatClampNeg 0) (Int32.toNatClampNeg 0) (Int32.toNatClampNeg 9)))], lg) rfl (by decide) ?_
  refine E_sts 7 (97, [(0, .ref 32), (1, .ref 2)], [.int 9, .int 0, .ref 35, .int 0, .ref 6], SH0, [(3211, fun _ => od_bows_), (3212, fun _ => od_came_), (3213, fun _ => t1), (3214, fun _ => ((xshl 1 od_bows_) - 1)), (3300, (va_cpy (σ 300) (σ 3300) (Int32.toNatClampNeg 0) (Int32.toNatClampNeg 0) (Int32.toNatClampNeg 9))), (3400, (va_cpy (σ 400) (σ 3400) (Int32.toNatClampNeg 0) (Int32.toNatClampNeg 0) (Int32.toNatClampNeg 9)))], lg) rfl ?_
  refine E_par (p := 0 ≤ Int32.toInt 0 ∧ 0 ≤ Int32.toInt 0 ∧ 0 ≤ Int32.toInt 9 ∧ Int32.toInt 0 + Int32.toInt 9 ≤ ((9 : Nat) : Int) ∧ Int32.toInt 0 + Int32.toInt 9 ≤ ((9 : Nat) : Int)) (100, [(0, .ref 32), (1, .ref 2)], [], SH0, [(3211, fun _ => od_bows_), (3212, fun _ => od_came_), (3213, fun _ => t1), (3214, fun _ => ((xshl 1 od_bows_) - 1)), (3300, (va_cpy (σ 300) (σ 3300) (Int32.toNatClampNeg 0) (Int32.toNatClampNeg 0) (Int32.toNatClampNeg 9))), (3400, (va_cpy (σ 400) (σ 3400) (Int32.toNatClampNeg 0) (Int32.toNatClampNeg 0) (Int32.toNatClampNeg 9))), (3500, (va_cpy (σ 600) (σ 3500) (Int32.toNatClampNeg 0) (Int32.toNatClampNeg 0) (Int32.toNatClampNeg 9)))], lg) rfl (by decide) ?_
  obtain rfl := Option.some.inj h
  exact E_ret rfl
set_option maxHeartbeats 4000000 in
set_option maxRecDepth 20000 in
theorem e_X1_startFrom (X : xX) (σ : xM) (lg : Int64) (r : Int32 × Int32 × Int32 × Int32 × (Nat → Int32) × (Nat → Int32) × (Nat → Int32)) (h : X1_startFrom (σ 201 0) (σ 207 0) (σ 208 0) (σ 300) (σ 400) (σ 600) (σ 800) (σ 3300) (σ 3400) (σ 3500) = some r) : EM XP X 1 5 [.ref 32, .ref 2] SH0 lg σ (none, SH0, [(3211, fun _ => r.1), (3212, fun _ => r.2.1), (3213, fun _ => r.2.2.1), (3214, fun _ => r.2.2.2.1), (3300, r.2.2.2.2.1), (3400, r.2.2.2.2.2.1), (3500, r.2.2.2.2.2.2)], lg) := by
  refine EM_of (M := xm_5) rfl rfl ?_
  unfold X1_startFrom at h
  refine E_sts 12 (if (σ 207 0) = 0 then 24 else 29, [(0, .ref 32), (1, .ref 2)], [.ref 32], SH0, [(3211, fun _ => (σ 201 0)), (3212, fun _ => (σ 208 0))], lg) rfl ?_
  rcases x_br h with ⟨hc, h⟩ | ⟨hc, h⟩
  · refine E_itt hc ?_
    refine E_sts 3 (40, [(0, .ref 32), (1, .ref 2)], [.int 9, .ref 32], SH0, [(3211, fun _ => (σ 201 0)), (3212, fun _ => (σ 208 0))], lg) rfl ?_
    exact e_X1_startFrom_L40 X σ lg 9 (σ 201 0) (σ 208 0) r h
  · refine E_itf hc ?_
    refine E_sts 6 (39, [(0, .ref 32), (1, .ref 2)], [.int ((σ 207 0) - 1), .ref 8, .ref 32], SH0, [(3211, fun _ => (σ 201 0)), (3212, fun _ => (σ 208 0))], lg) rfl ?_
    obtain ⟨hp, h⟩ := x_ite h
    refine E_par (p := inr ((σ 207 0) - 1) 9) (100040, [(0, .ref 32), (1, .ref 2)], [.int ((σ 800) ((σ 207 0) - 1).toNatClampNeg), .ref 32], SH0, [(3211, fun _ => (σ 201 0)), (3212, fun _ => (σ 208 0))], lg) rfl hp ?_
    refine E_sts 1 (40, [(0, .ref 32), (1, .ref 2)], [.int ((σ 800) ((σ 207 0) - 1).toNatClampNeg), .ref 32], SH0, [(3211, fun _ => (σ 201 0)), (3212, fun _ => (σ 208 0))], lg) rfl ?_
    exact e_X1_startFrom_L40 X σ lg ((σ 800) ((σ 207 0) - 1).toNatClampNeg) (σ 201 0) (σ 208 0) r h
set_option maxHeartbeats 4000000 in
set_option maxRecDepth 20000 in
theorem e_X1_canFollow (X : xX) (σ : xM) (lg : Int64) (v1 : Int32) (v2 : Int32) (r : Bool) (h : X1_canFollow (σ 3500) v1 v2 = some r) : EM XP X 1 7 [.ref 32, .int v1, .int v2] SH0 lg σ (some (.int (xb r)), SH0, [], lg) := by
  refine EM_of (M := xm_7) rfl rfl ?_
  unfold X1_canFollow at h
  refine E_sts 6 (if (v2 &&& (xshl 1 v1)) = 0 then 8 else 25, [(0, .ref 32), (1, .int v1), (2, .int v2)], [], SH0, [], lg) rfl ?_
  rcases x_br h with ⟨hc, h⟩ | ⟨hc, h⟩
  · refine E_itt hc ?_
    refine E_sts 3 (13, [(0, .ref 32), (1, .int v1), (2, .int v2)], [.int v1, .ref 35], SH0, [], lg) rfl ?_
    obtain ⟨hp, h⟩ := x_ite h
    refine E_par (p := inr v1 9) (14, [(0, .ref 32), (1, .int v1), (2, .int v2)], [.int ((σ 3500) v1.toNatClampNeg)], SH0, [], lg) rfl hp ?_
    refine E_sts 5 (if (((σ 3500) v1.toNatClampNeg) &&& (v2 ^^^ (-1))) = 0 then 21 else 25, [(0, .ref 32), (1, .int v1), (2, .int v2)], [], SH0, [], lg) rfl ?_
    rcases x_br h with ⟨hc, h⟩ | ⟨hc, h⟩
    · refine E_itt hc ?_
      obtain rfl := Option.some.inj h
      refine E_sts 2 (26, [(0, .ref 32), (1, .int v1), (2, .int v2)], [.int 1], SH0, [], lg) rfl ?_
      exact E_retp (p := (1 : Int32) = 0 ∨ (1 : Int32) = 1) rfl (by decide)
    · refine E_itf hc ?_
      obtain rfl := Option.some.inj h
      refine E_sts 1 (26, [(0, .ref 32), (1, .int v1), (2, .int v2)], [.int 0], SH0, [], lg) rfl ?_
      exact E_retp (p := (0 : Int32) = 0 ∨ (0 : Int32) = 1) rfl (by decide)
  · refine E_itf hc ?_
    obtain rfl := Option.some.inj h
    refine E_sts 1 (26, [(0, .ref 32), (1, .int v1), (2, .int v2)], [.int 0], SH0, [], lg) rfl ?_
    exact E_retp (p := (0 : Int32) = 0 ∨ (0 : Int32) = 1) rfl (by decide)
