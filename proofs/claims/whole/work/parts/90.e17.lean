/-! what the machine answers is what the functions say (by gen/emit.py) -/
set_option maxHeartbeats 4000000 in
set_option maxRecDepth 20000 in
theorem e_X6_status_L20 (X : xX) (σ : xM) (lg : Int64) : ∀ (n : Nat), ∀ (v1 : Int32) (v2 : Int32) (v3 : Int32) (r : Int32 × (Nat → Int32)), X6_status_L20 (σ 5600) n v1 v2 v3 = some r → E XP X 1 xm_218 σ (20, [(0, .ref 52), (1, .int v1), (2, .int v2), (3, .int v3)], [], SH0, [], lg) (some (.int r.1), SH0, [(5600, r.2)], lg) := by
  intro n
  induction n with
  | zero => intro v1 v2 v3 r h; rw [X6_status_L20] at h; cases h
  | succ n ih =>
    intro v1 v2 v3 r h
    rw [X6_status_L20] at h
    refine E_sts 3 (if 7 ≤ v3 then 55 else 26, [(0, .ref 52), (1, .int v1), (2, .int v2), (3, .int v3)], [], SH0, [], lg) rfl ?_
    rcases x_br h with ⟨hc, h⟩ | ⟨hc, h⟩
    · refine E_itt hc ?_
      obtain rfl := Option.some.inj h
      refine E_sts 2 (56, [], [.int v2], SH0, [(5600, (σ 5600))], lg) rfl ?_
      exact E_ret rfl
    · refine E_itf hc ?_
      refine E_sts 4 (if v1 = (-1) then 37 else 32, [(0, .ref 52), (1, .int v1), (2, .int v2), (3, .int v3)], [.int v2], SH0, [], lg) rfl ?_
      rcases x_br h with ⟨hc, h⟩ | ⟨hc, h⟩
      · refine E_itt hc ?_
        refine E_sts 3 (42, [(0, .ref 52), (1, .int v1), (2, .int v2), (3, .int v3)], [.int v3, .ref 56, .int v2], SH0, [], lg) rfl ?_
        obtain ⟨hp, h⟩ := x_ite h
        refine E_par (p := inr v3 7) (43, [(0, .ref 52), (1, .int v1), (2, .int v2), (3, .int v3)], [.int ((σ 5600) v3.toNatClampNeg), .int v2], SH0, [], lg) rfl hp ?_
        refine E_sts 6 (20, [(0, .ref 52), (1, .int v1), (2, .int (v2 + ((σ 5600) v3.toNatClampNeg))), (3, .int (v3 + 1))], [], SH0, [], lg) rfl ?_
        exact ih v1 (v2 + ((σ 5600) v3.toNatClampNeg)) (v3 + 1) r h
      · refine E_itf hc ?_
        refine E_sts 3 (if v1 = v3 then 37 else 46, [(0, .ref 52), (1, .int v1), (2, .int v2), (3, .int v3)], [.int v2], SH0, [], lg) rfl ?_
        rcases x_br h with ⟨hc, h⟩ | ⟨hc, h⟩
        · refine E_itt hc ?_
          refine E_sts 3 (42, [(0, .ref 52), (1, .int v1), (2, .int v2), (3, .int v3)], [.int v3, .ref 56, .int v2], SH0, [], lg) rfl ?_
          obtain ⟨hp, h⟩ := x_ite h
          refine E_par (p := inr v3 7) (43, [(0, .ref 52), (1, .int v1), (2, .int v2), (3, .int v3)], [.int ((σ 5600) v3.toNatClampNeg), .int v2], SH0, [], lg) rfl hp ?_
          refine E_sts 6 (20, [(0, .ref 52), (1, .int v1), (2, .int (v2 + ((σ 5600) v3.toNatClampNeg))), (3, .int (v3 + 1))], [], SH0, [], lg) rfl ?_
          exact ih v1 (v2 + ((σ 5600) v3.toNatClampNeg)) (v3 + 1) r h
        · refine E_itf hc ?_
          refine E_sts 6 (20, [(0, .ref 52), (1, .int v1), (2, .int (v2 + 0)), (3, .int (v3 + 1))], [], SH0, [], lg) rfl ?_
          exact ih v1 (v2 + 0) (v3 + 1) r h
set_option maxHeartbeats 4000000 in
set_option maxRecDepth 20000 in
theorem e_X6_status (X : xX) (σ : xM) (lg : Int64) (v1 : Int32) (r : Int32 × (Nat → Int32)) (h : X6_status (σ 5600) v1 = some r) : EM XP X 2 218 [.ref 52, .int v1] SH0 lg σ (some (.int r.1), SH0, [(5600, r.2)], lg) := by
  refine EM_of (M := xm_218) rfl rfl ?_
  unfold X6_status at h
  refine E_sts 3 (4, [(0, .ref 52), (1, .int v1)], [.int 6, .int (-1), .int v1], SH0, [], lg) rfl ?_
  refine E_call rfl (e_X6_in1 X _ _ _ _ _ (X6_in1 v1 (-1) 6) rfl) (by decide) ?_
  refine E_sts 1 (if (xb (X6_in1 v1 (-1) 6)) = 0 then 10 else 16, [(0, .ref 52), (1, .int v1)], [], SH0, [], lg) rfl ?_
  rcases x_br h with ⟨hc, h⟩ | ⟨hc, h⟩
  · refine E_itt hc ?_
    refine E_sts 2 (12, [(0, .ref 52), (1, .int v1)], [.int 0, .ref 52], SH0, [], lg) rfl ?_
    obtain ⟨r12, hr, h⟩ := x_bind h
    refine E_call rfl (e_X6_no X _ _ _ r12 hr) (by decide) ?_
    obtain rfl := Option.some.inj h
    exact E_ret rfl
  · refine E_itf hc ?_
    refine E_sts 5 (20, [(0, .ref 52), (1, .int v1), (2, .int 0), (3, .int 0)], [], SH0, [], lg) rfl ?_
    exact e_X6_status_L20 X σ lg _ v1 0 0 r h
