/-! what the machine answers is what the functions say (by gen/emit.py) -/
set_option maxHeartbeats 4000000 in
set_option maxRecDepth 20000 in
theorem e_X4_sortOf_L28 (X : xX) (σ : xM) (lg : Int64) : ∀ (v0 : Int32) (r : Int32), X4_sortOf_L28 v0 = r → E XP X 0 xm_62 σ (28, [(0, .int v0)], [], SH0, [], lg) (some (.int r), SH0, [], lg) := by
  intro v0 r h
  unfold X4_sortOf_L28 at h
  refine E_sts 3 (if v0 = 59 then 34 else 36, [(0, .int v0)], [], SH0, [], lg) rfl ?_
  rcases x_br h with ⟨hc, h⟩ | ⟨hc, h⟩
  · refine E_itt hc ?_
    subst h
    refine E_sts 1 (35, [(0, .int v0)], [.int 3], SH0, [], lg) rfl ?_
    exact E_ret rfl
  · refine E_itf hc ?_
    refine E_sts 3 (if v0 = 32 then 42 else 46, [(0, .int v0)], [], SH0, [], lg) rfl ?_
    rcases x_br h with ⟨hc, h⟩ | ⟨hc, h⟩
    · refine E_itt hc ?_
      subst h
      refine E_sts 2 (47, [(0, .int v0)], [.int 4], SH0, [], lg) rfl ?_
      exact E_ret rfl
    · refine E_itf hc ?_
      subst h
      refine E_sts 1 (47, [(0, .int v0)], [.int 5], SH0, [], lg) rfl ?_
      exact E_ret rfl
set_option maxHeartbeats 4000000 in
set_option maxRecDepth 20000 in
theorem e_X4_sortOf_L14 (X : xX) (σ : xM) (lg : Int64) : ∀ (v0 : Int32) (r : Int32), X4_sortOf_L14 v0 = r → E XP X 0 xm_62 σ (14, [(0, .int v0)], [], SH0, [], lg) (some (.int r), SH0, [], lg) := by
  intro v0 r h
  unfold X4_sortOf_L14 at h
  refine E_sts 3 (if v0 < 48 then 100028 else 20, [(0, .int v0)], [], SH0, [], lg) rfl ?_
  rcases x_br h with ⟨hc, h⟩ | ⟨hc, h⟩
  · refine E_itt hc ?_
    refine E_sts 1 (28, [(0, .int v0)], [], SH0, [], lg) rfl ?_
    exact e_X4_sortOf_L28 X σ lg v0 r h
  · refine E_itf hc ?_
    refine E_sts 3 (if 57 < v0 then 100028 else 26, [(0, .int v0)], [], SH0, [], lg) rfl ?_
    rcases x_br h with ⟨hc, h⟩ | ⟨hc, h⟩
    · refine E_itt hc ?_
      refine E_sts 1 (28, [(0, .int v0)], [], SH0, [], lg) rfl ?_
      exact e_X4_sortOf_L28 X σ lg v0 r h
    · refine E_itf hc ?_
      subst h
      refine E_sts 1 (27, [(0, .int v0)], [.int 2], SH0, [], lg) rfl ?_
      exact E_ret rfl
set_option maxHeartbeats 4000000 in
set_option maxRecDepth 20000 in
theorem e_X4_sortOf (X : xX) (σ : xM) (lg : Int64) (v0 : Int32) (r : Int32) (h : X4_sortOf v0 = r) : EM XP X 1 62 [.int v0] SH0 lg σ (some (.int r), SH0, [], lg) := by
  refine EM_of (M := xm_62) rfl rfl ?_
  unfold X4_sortOf at h
  refine E_sts 3 (if v0 < 97 then 100014 else 6, [(0, .int v0)], [], SH0, [], lg) rfl ?_
  rcases x_br h with ⟨hc, h⟩ | ⟨hc, h⟩
  · refine E_itt hc ?_
    refine E_sts 1 (14, [(0, .int v0)], [], SH0, [], lg) rfl ?_
    exact e_X4_sortOf_L14 X σ lg v0 r h
  · refine E_itf hc ?_
    refine E_sts 3 (if 122 < v0 then 100014 else 12, [(0, .int v0)], [], SH0, [], lg) rfl ?_
    rcases x_br h with ⟨hc, h⟩ | ⟨hc, h⟩
    · refine E_itt hc ?_
      refine E_sts 1 (14, [(0, .int v0)], [], SH0, [], lg) rfl ?_
      exact e_X4_sortOf_L14 X σ lg v0 r h
    · refine E_itf hc ?_
      subst h
      refine E_sts 1 (13, [(0, .int v0)], [.int 1], SH0, [], lg) rfl ?_
      exact E_ret rfl
set_option maxHeartbeats 4000000 in
set_option maxRecDepth 20000 in
theorem e_X4_spelled (X : xX) (σ : xM) (lg : Int64) (v0 : Int32) (r : Nat) (h : X4_spelled v0 = r) : EM XP X 1 67 [.int v0] SH0 lg σ (some (.retAddr r), SH0, [], lg) := by
  refine EM_of (M := xm_67) rfl rfl ?_
  unfold X4_spelled at h
  refine E_sts 2 (if v0 = 0 then 76 else if v0 = 1 then 79 else if v0 = 2 then 82 else if v0 = 3 then 85 else if v0 = 4 then 88 else if v0 = 5 then 91 else if v0 = 6 then 94 else if v0 = 7 then 97 else if v0 = 8 then 100 else if v0 = 9 then 103 else if v0 = 10 then 106 else if v0 = 11 then 109 else if v0 = 12 then 112 else if v0 = 13 then 115 else if v0 = 14 then 118 else 121, [(0, .int v0)], [], SH0, [], lg) rfl ?_
  rcases x_br h with ⟨hc, h⟩ | ⟨hc, h⟩
  · refine E_itt hc ?_
    subst h
    refine E_sts 1 (78, [(0, .int v0)], [.retAddr 0], SH0, [], lg) rfl ?_
    exact E_ret rfl
  refine E_itf hc ?_
  rcases x_br h with ⟨hc, h⟩ | ⟨hc, h⟩
  · refine E_itt hc ?_
    subst h
    refine E_sts 1 (81, [(0, .int v0)], [.retAddr 1], SH0, [], lg) rfl ?_
    exact E_ret rfl
  refine E_itf hc ?_
  rcases x_br h with ⟨hc, h⟩ | ⟨hc, h⟩
  · refine E_itt hc ?_
    subst h
    refine E_sts 1 (84, [(0, .int v0)], [.retAddr 2], SH0, [], lg) rfl ?_
    exact E_ret rfl
  refine E_itf hc ?_
  rcases x_br h with ⟨hc, h⟩ | ⟨hc, h⟩
  · refine E_itt hc ?_
    subst h
    refine E_sts 1 (87, [(0, .int v0)], [.retAddr 3], SH0, [], lg) rfl ?_
    exact E_ret rfl
  refine E_itf hc ?_
  rcases x_br h with ⟨hc, h⟩ | ⟨hc, h⟩
  · refine E_itt hc ?_
    subst h
    refine E_sts 1 (90, [(0, .int v0)], [.retAddr 4], SH0, [], lg) rfl ?_
    exact E_ret rfl
  refine E_itf hc ?_
  rcases x_br h with ⟨hc, h⟩ | ⟨hc, h⟩
  · refine E_itt hc ?_
    subst h
    refine E_sts 1 (93, [(0, .int v0)], [.retAddr 5], SH0, [], lg) rfl ?_
    exact E_ret rfl
  refine E_itf hc ?_
  rcases x_br h with ⟨hc, h⟩ | ⟨hc, h⟩
  · refine E_itt hc ?_
    subst h
    refine E_sts 1 (96, [(0, .int v0)], [.retAddr 6], SH0, [], lg) rfl ?_
    exact E_ret rfl
  refine E_itf hc ?_
  rcases x_br h with ⟨hc, h⟩ | ⟨hc, h⟩
  · refine E_itt hc ?_
    subst h
    refine E_sts 1 (99, [(0, .int v0)], [.retAddr 7], SH0, [], lg) rfl ?_
    exact E_ret rfl
  refine E_itf hc ?_
  rcases x_br h with ⟨hc, h⟩ | ⟨hc, h⟩
  · refine E_itt hc ?_
    subst h
    refine E_sts 1 (102, [(0, .int v0)], [.retAddr 8], SH0, [], lg) rfl ?_
    exact E_ret rfl
  refine E_itf hc ?_
  rcases x_br h with ⟨hc, h⟩ | ⟨hc, h⟩
  · refine E_itt hc ?_
    subst h
    refine E_sts 1 (105, [(0, .int v0)], [.retAddr 9], SH0, [], lg) rfl ?_
    exact E_ret rfl
  refine E_itf hc ?_
  rcases x_br h with ⟨hc, h⟩ | ⟨hc, h⟩
  · refine E_itt hc ?_
    subst h
    refine E_sts 1 (108, [(0, .int v0)], [.retAddr 10], SH0, [], lg) rfl ?_
    exact E_ret rfl
  refine E_itf hc ?_
  rcases x_br h with ⟨hc, h⟩ | ⟨hc, h⟩
  · refine E_itt hc ?_
    subst h
    refine E_sts 1 (111, [(0, .int v0)], [.retAddr 11], SH0, [], lg) rfl ?_
    exact E_ret rfl
  refine E_itf hc ?_
  rcases x_br h with ⟨hc, h⟩ | ⟨hc, h⟩
  · refine E_itt hc ?_
    subst h
    refine E_sts 1 (114, [(0, .int v0)], [.retAddr 12], SH0, [], lg) rfl ?_
    exact E_ret rfl
  refine E_itf hc ?_
  rcases x_br h with ⟨hc, h⟩ | ⟨hc, h⟩
  · refine E_itt hc ?_
    subst h
    refine E_sts 1 (117, [(0, .int v0)], [.retAddr 13], SH0, [], lg) rfl ?_
    exact E_ret rfl
  refine E_itf hc ?_
  rcases x_br h with ⟨hc, h⟩ | ⟨hc, h⟩
  · refine E_itt hc ?_
    subst h
    refine E_sts 1 (120, [(0, .int v0)], [.retAddr 14], SH0, [], lg) rfl ?_
    exact E_ret rfl
  refine E_itf hc ?_
  subst h
  refine E_sts 1 (123, [(0, .int v0)], [.retAddr 15], SH0, [], lg) rfl ?_
  exact E_ret rfl
set_option maxHeartbeats 4000000 in
set_option maxRecDepth 20000 in
theorem e_J0_coder_7d493 (X : xX) (σ : xM) (lg : Int64) (v0 : Nat) (r : Int32) (h : J0_coder_7d493 v0 = r) : EM XP X 1 222 [.retAddr v0] SH0 lg σ (some (.int r), SH0, [], lg) := by
  refine EM_of (M := xm_222) rfl rfl ?_
  unfold J0_coder_7d493 at h
  refine E_sts 2 (if 1 = 0 then 13 else 6, [(0, .retAddr v0)], [], SH0, [], lg) rfl ?_
  refine E_itf (by decide) ?_
  subst h
  refine E_sts 3 (14, [(0, .retAddr v0)], [.int 0], SH0, [], lg) rfl ?_
  exact E_retp (p := vp_nar .byte 0 = 0) rfl (by decide)
set_option maxHeartbeats 4000000 in
set_option maxRecDepth 20000 in
theorem e_J0_length_8abf5 (X : xX) (σ : xM) (lg : Int64) (v0 : Nat) (r : Int32) (h : J0_length_8abf5 v0 = r) : EM XP X 2 220 [.retAddr v0] SH0 lg σ (some (.int r), SH0, [], lg) := by
  refine EM_of (M := xm_220) rfl rfl ?_
  unfold J0_length_8abf5 at h
  refine E_sts 4 (6, [(0, .retAddr v0)], [.retAddr v0, .int (nI (xbl (UInt32.ofNat (v0 % 4096))))], SH0, [], lg) rfl ?_
  refine E_call rfl (e_J0_coder_7d493 X _ _ _ 0 rfl) (by decide) ?_
  subst h
  refine E_sts 1 (10, [(0, .retAddr v0)], [.int (xshr (nI (xbl (UInt32.ofNat (v0 % 4096)))) 0)], SH0, [], lg) rfl ?_
  exact E_ret rfl
set_option maxHeartbeats 4000000 in
set_option maxRecDepth 20000 in
theorem e_J0_isLatin1_aae02 (X : xX) (σ : xM) (lg : Int64) (v0 : Nat) (r : Bool) (h : J0_isLatin1_aae02 v0 = r) : EM XP X 1 223 [.retAddr v0] SH0 lg σ (some (.int (xb r)), SH0, [], lg) := by
  refine EM_of (M := xm_223) rfl rfl ?_
  unfold J0_isLatin1_aae02 at h
  refine E_sts 2 (if 1 = 0 then 17 else 6, [(0, .retAddr v0)], [], SH0, [], lg) rfl ?_
  refine E_itf (by decide) ?_
  refine E_sts 3 (if 0 = 0 then 13 else 17, [(0, .retAddr v0)], [], SH0, [], lg) rfl ?_
  refine E_itt (by decide) ?_
  subst h
  refine E_sts 2 (18, [(0, .retAddr v0)], [.int 1], SH0, [], lg) rfl ?_
  exact E_retp (p := (1 : Int32) = 0 ∨ (1 : Int32) = 1) rfl (by decide)
set_option maxHeartbeats 4000000 in
set_option maxRecDepth 20000 in
theorem e_J3_checkIndex_8e157 (X : xX) (σ : xM) (lg : Int64) (v0 : Int32) (v1 : Int32) (r : Int32) (h : J3_checkIndex_8e157 v0 v1 = some r) : EM XP X 1 226 [.int v0, .int v1, .null] SH0 lg σ (some (.int r), SH0, [], lg) := by
  refine EM_of (M := xm_226) rfl rfl ?_
  unfold J3_checkIndex_8e157 at h
  refine E_sts 2 (if v0 < 0 then 9 else 4, [(0, .int v0), (1, .int v1), (2, .null)], [], SH0, [], lg) rfl ?_
  rcases x_br h with ⟨hc, h⟩ | ⟨hc, h⟩
  · refine E_itt hc ?_
    cases h
  · refine E_itf hc ?_
    refine E_sts 3 (if v0 < v1 then 16 else 9, [(0, .int v0), (1, .int v1), (2, .null)], [], SH0, [], lg) rfl ?_
    rcases x_br h with ⟨hc, h⟩ | ⟨hc, h⟩
    · refine E_itt hc ?_
      obtain rfl := Option.some.inj h
      refine E_sts 1 (17, [(0, .int v0), (1, .int v1), (2, .null)], [.int v0], SH0, [], lg) rfl ?_
      exact E_ret rfl
    · refine E_itf hc ?_
      cases h
set_option maxHeartbeats 4000000 in
set_option maxRecDepth 20000 in
theorem e_J0_checkIndex_df160 (X : xX) (σ : xM) (lg : Int64) (v0 : Int32) (v1 : Int32) (r : Unit) (h : J0_checkIndex_df160 v0 v1 = some r) : EM XP X 2 224 [.int v0, .int v1] SH0 lg σ (none, SH0, [], lg) := by
  refine EM_of (M := xm_224) rfl rfl ?_
  unfold J0_checkIndex_df160 at h
  refine E_sts 3 (5, [(0, .int v0), (1, .int v1)], [.null, .int v1, .int v0], SH0, [], lg) rfl ?_
  obtain ⟨r5, hr, h⟩ := x_bind h
  refine E_call rfl (e_J3_checkIndex_8e157 X _ _ _ _ r5 hr) (by decide) ?_
  obtain rfl := Option.some.inj h
  refine E_sts 1 (9, [(0, .int v0), (1, .int v1)], [], SH0, [], lg) rfl ?_
  exact E_ret rfl
set_option maxHeartbeats 4000000 in
set_option maxRecDepth 20000 in
theorem e_J1_charAt_3b067 (X : xX) (σ : xM) (lg : Int64) (v0 : UInt32) (v1 : Int32) (r : Int32) (h : J1_charAt_3b067 v0 v1 = some r) : EM XP X 3 225 [.float v0, .int v1] SH0 lg σ (some (.int r), SH0, [], lg) := by
  refine EM_of (M := xm_225) rfl rfl ?_
  unfold J1_charAt_3b067 at h
  refine E_sts 3 (3, [(0, .float v0), (1, .int v1)], [.int (nI (xbl v0)), .int v1], SH0, [], lg) rfl ?_
  obtain ⟨r3, hr, h⟩ := x_bind h
  refine E_call rfl (e_J0_checkIndex_df160 X _ _ _ _ r3 hr) (by decide) ?_
  refine E_sts 2 (8, [(0, .float v0), (1, .int v1)], [.int v1, .float v0], SH0, [], lg) rfl ?_
  obtain ⟨hp, h⟩ := x_ite h
  refine E_par (p := inr v1 (xbl v0)) (9, [(0, .float v0), (1, .int v1)], [.int (xbc v0 v1.toNatClampNeg)], SH0, [], lg) rfl hp ?_
  obtain ⟨hp, h⟩ := x_ite h
  obtain rfl := Option.some.inj h
  refine E_sts 3 (14, [(0, .float v0), (1, .int v1)], [.int (xi2c ((xbc v0 v1.toNatClampNeg) &&& 255))], SH0, [], lg) rfl ?_
  exact E_retp (p := vp_nar .char (xi2c ((xbc v0 v1.toNatClampNeg) &&& 255)) = (xi2c ((xbc v0 v1.toNatClampNeg) &&& 255))) rfl hp
set_option maxHeartbeats 4000000 in
set_option maxRecDepth 20000 in
theorem e_J0_charAt_5068e (X : xX) (σ : xM) (lg : Int64) (v0 : Nat) (v1 : Int32) (r : Int32) (h : J0_charAt_5068e v0 v1 = some r) : EM XP X 4 221 [.retAddr v0, .int v1] SH0 lg σ (some (.int r), SH0, [], lg) := by
  refine EM_of (M := xm_221) rfl rfl ?_
  unfold J0_charAt_5068e at h
  refine E_sts 1 (1, [(0, .retAddr v0), (1, .int v1)], [.retAddr v0], SH0, [], lg) rfl ?_
  refine E_call rfl (e_J0_isLatin1_aae02 X _ _ _ true rfl) (by decide) ?_
  refine E_sts 1 (if (xb true) = 0 then 16 else 7, [(0, .retAddr v0), (1, .int v1)], [], SH0, [], lg) rfl ?_
  refine E_itf (by decide) ?_
  refine E_sts 3 (12, [(0, .retAddr v0), (1, .int v1)], [.int v1, .float (UInt32.ofNat (v0 % 4096))], SH0, [], lg) rfl ?_
  obtain ⟨r12, hr, h⟩ := x_bind h
  refine E_call rfl (e_J1_charAt_3b067 X _ _ _ _ r12 hr) (by decide) ?_
  obtain ⟨hp, h⟩ := x_ite h
  obtain rfl := Option.some.inj h
  exact E_retp (p := vp_nar .char r12 = r12) rfl hp
set_option maxHeartbeats 4000000 in
set_option maxRecDepth 20000 in
theorem e_X4_isWord_L13 (X : xX) (σ : xM) (lg : Int64) : ∀ (n : Nat), ∀ (v1 : Nat) (v2 : Int32) (v3 : Int32) (v4 : Int32) (r : Bool), X4_isWord_L13 (σ 4300) n v1 v2 v3 v4 = some r → E XP X 4 xm_65 σ (13, [(0, .ref 42), (1, .retAddr v1), (2, .int v2), (3, .int v3), (4, .int v4)], [], SH0, [], lg) (some (.int (xb r)), SH0, [], lg) := by
  intro n
  induction n with
  | zero => intro v1 v2 v3 v4 r h; rw [X4_isWord_L13] at h; cases h
  | succ n ih =>
    intro v1 v2 v3 v4 r h
    rw [X4_isWord_L13] at h
    refine E_sts 3 (if v3 ≤ v4 then 45 else 19, [(0, .ref 42), (1, .retAddr v1), (2, .int v2), (3, .int v3), (4, .int v4)], [], SH0, [], lg) rfl ?_
    rcases x_br h with ⟨hc, h⟩ | ⟨hc, h⟩
    · refine E_itt hc ?_
      obtain rfl := Option.some.inj h
      refine E_sts 1 (46, [(0, .ref 42), (1, .retAddr v1), (2, .int v2), (3, .int v3), (4, .int v4)], [.int 1], SH0, [], lg) rfl ?_
      exact E_retp (p := (1 : Int32) = 0 ∨ (1 : Int32) = 1) rfl (by decide)
    · refine E_itf hc ?_
      refine E_sts 2 (22, [(0, .ref 42), (1, .retAddr v1), (2, .int v2), (3, .int v3), (4, .int v4)], [.int v4, .retAddr v1], SH0, [], lg) rfl ?_
      obtain ⟨r22, hr, h⟩ := x_bind h
      refine E_call rfl (e_J0_charAt_5068e X _ _ _ _ r22 hr) (by decide) ?_
      refine E_sts 5 (33, [(0, .ref 42), (1, .retAddr v1), (2, .int v2), (3, .int v3), (4, .int v4)], [.int (v2 + v4), .ref 43, .int r22], SH0, [], lg) rfl ?_
      obtain ⟨hp, h⟩ := x_ite h
      refine E_par (p := inr (v2 + v4) 120) (34, [(0, .ref 42), (1, .retAddr v1), (2, .int v2), (3, .int v3), (4, .int v4)], [.int ((σ 4300) (v2 + v4).toNatClampNeg), .int r22], SH0, [], lg) rfl hp ?_
      refine E_sts 1 (if r22 = ((σ 4300) (v2 + v4).toNatClampNeg) then 39 else 37, [(0, .ref 42), (1, .retAddr v1), (2, .int v2), (3, .int v3), (4, .int v4)], [], SH0, [], lg) rfl ?_
      rcases x_br h with ⟨hc, h⟩ | ⟨hc, h⟩
      · refine E_itt hc ?_
        refine E_sts 3 (13, [(0, .ref 42), (1, .retAddr v1), (2, .int v2), (3, .int v3), (4, .int (v4 + 1))], [], SH0, [], lg) rfl ?_
        exact ih v1 v2 v3 (v4 + 1) r h
      · refine E_itf hc ?_
        obtain rfl := Option.some.inj h
        refine E_sts 1 (38, [(0, .ref 42), (1, .retAddr v1), (2, .int v2), (3, .int v3), (4, .int v4)], [.int 0], SH0, [], lg) rfl ?_
        exact E_retp (p := (0 : Int32) = 0 ∨ (0 : Int32) = 1) rfl (by decide)
set_option maxHeartbeats 4000000 in
set_option maxRecDepth 20000 in
theorem e_X4_isWord (X : xX) (σ : xM) (lg : Int64) (v1 : Nat) (v2 : Int32) (v3 : Int32) (r : Bool) (h : X4_isWord (σ 4300) v1 v2 v3 = some r) : EM XP X 5 65 [.ref 42, .retAddr v1, .int v2, .int v3] SH0 lg σ (some (.int (xb r)), SH0, [], lg) := by
  refine EM_of (M := xm_65) rfl rfl ?_
  unfold X4_isWord at h
  refine E_sts 1 (1, [(0, .ref 42), (1, .retAddr v1), (2, .int v2), (3, .int v3)], [.retAddr v1], SH0, [], lg) rfl ?_
  refine E_call rfl (e_J0_length_8abf5 X _ _ _ (J0_length_8abf5 v1) rfl) (by decide) ?_
  refine E_sts 2 (if (J0_length_8abf5 v1) = v3 then 10 else 8, [(0, .ref 42), (1, .retAddr v1), (2, .int v2), (3, .int v3)], [], SH0, [], lg) rfl ?_
  rcases x_br h with ⟨hc, h⟩ | ⟨hc, h⟩
  · refine E_itt hc ?_
    refine E_sts 3 (13, [(0, .ref 42), (1, .retAddr v1), (2, .int v2), (3, .int v3), (4, .int 0)], [], SH0, [], lg) rfl ?_
    exact e_X4_isWord_L13 X σ lg _ v1 v2 v3 0 r h
  · refine E_itf hc ?_
    obtain rfl := Option.some.inj h
    refine E_sts 1 (9, [(0, .ref 42), (1, .retAddr v1), (2, .int v2), (3, .int v3)], [.int 0], SH0, [], lg) rfl ?_
    exact E_retp (p := (0 : Int32) = 0 ∨ (0 : Int32) = 1) rfl (by decide)
set_option maxHeartbeats 4000000 in
set_option maxRecDepth 20000 in
theorem e_X4_wordAt_L2 (X : xX) (σ : xM) (lg : Int64) : ∀ (n : Nat), ∀ (v1 : Int32) (v2 : Int32) (v3 : Int32) (r : Int32), X4_wordAt_L2 (σ 4300) n v1 v2 v3 = some r → E XP X 5 xm_64 σ (2, [(0, .ref 42), (1, .int v1), (2, .int v2), (3, .int v3)], [], SH0, [], lg) (some (.int r), SH0, [], lg) := by
  intro n
  induction n with
  | zero => intro v1 v2 v3 r h; rw [X4_wordAt_L2] at h; cases h
  | succ n ih =>
    intro v1 v2 v3 r h
    rw [X4_wordAt_L2] at h
    refine E_sts 3 (if 16 ≤ v3 then 29 else 8, [(0, .ref 42), (1, .int v1), (2, .int v2), (3, .int v3)], [], SH0, [], lg) rfl ?_
    rcases x_br h with ⟨hc, h⟩ | ⟨hc, h⟩
    · refine E_itt hc ?_
      obtain rfl := Option.some.inj h
      refine E_sts 1 (30, [(0, .ref 42), (1, .int v1), (2, .int v2), (3, .int v3)], [.int (-1)], SH0, [], lg) rfl ?_
      exact E_ret rfl
    · refine E_itf hc ?_
      refine E_sts 2 (10, [(0, .ref 42), (1, .int v1), (2, .int v2), (3, .int v3)], [.int v3, .ref 42], SH0, [], lg) rfl ?_
      refine E_call rfl (e_X4_spelled X _ _ _ (X4_spelled v3) rfl) (by decide) ?_
      refine E_sts 2 (15, [(0, .ref 42), (1, .int v1), (2, .int v2), (3, .int v3)], [.int v2, .int v1, .retAddr (X4_spelled v3), .ref 42], SH0, [], lg) rfl ?_
      obtain ⟨r15, hr, h⟩ := x_bind h
      refine E_call rfl (e_X4_isWord X _ _ _ _ _ r15 hr) (by decide) ?_
      refine E_sts 1 (if (xb r15) = 0 then 23 else 21, [(0, .ref 42), (1, .int v1), (2, .int v2), (3, .int v3)], [], SH0, [], lg) rfl ?_
      rcases x_br h with ⟨hc, h⟩ | ⟨hc, h⟩
      · refine E_itt hc ?_
        refine E_sts 3 (2, [(0, .ref 42), (1, .int v1), (2, .int v2), (3, .int (v3 + 1))], [], SH0, [], lg) rfl ?_
        exact ih v1 v2 (v3 + 1) r h
      · refine E_itf hc ?_
        obtain rfl := Option.some.inj h
        refine E_sts 1 (22, [(0, .ref 42), (1, .int v1), (2, .int v2), (3, .int v3)], [.int v3], SH0, [], lg) rfl ?_
        exact E_ret rfl
set_option maxHeartbeats 4000000 in
set_option maxRecDepth 20000 in
theorem e_X4_wordAt (X : xX) (σ : xM) (lg : Int64) (v1 : Int32) (v2 : Int32) (r : Int32) (h : X4_wordAt (σ 4300) v1 v2 = some r) : EM XP X 6 64 [.ref 42, .int v1, .int v2] SH0 lg σ (some (.int r), SH0, [], lg) := by
  refine EM_of (M := xm_64) rfl rfl ?_
  unfold X4_wordAt at h
  refine E_sts 3 (2, [(0, .ref 42), (1, .int v1), (2, .int v2), (3, .int 0)], [], SH0, [], lg) rfl ?_
  exact e_X4_wordAt_L2 X σ lg _ v1 v2 0 r h
set_option maxHeartbeats 4000000 in
set_option maxRecDepth 20000 in
theorem e_X4_numberAt_L5 (X : xX) (σ : xM) (lg : Int64) : ∀ (n : Nat), ∀ (v1 : Int32) (v2 : Int32) (v3 : Int32) (v4 : Int32) (r : Int32), X4_numberAt_L5 (σ 4300) n v1 v2 v3 v4 = some r → E XP X 0 xm_66 σ (5, [(0, .ref 42), (1, .int v1), (2, .int v2), (3, .int v3), (4, .int v4)], [], SH0, [], lg) (some (.int r), SH0, [], lg) := by
  intro n
  induction n with
  | zero => intro v1 v2 v3 v4 r h; rw [X4_numberAt_L5] at h; cases h
  | succ n ih =>
    intro v1 v2 v3 v4 r h
    rw [X4_numberAt_L5] at h
    refine E_sts 5 (if (v1 + v2) ≤ v4 then 41 else 13, [(0, .ref 42), (1, .int v1), (2, .int v2), (3, .int v3), (4, .int v4)], [], SH0, [], lg) rfl ?_
    rcases x_br h with ⟨hc, h⟩ | ⟨hc, h⟩
    · refine E_itt hc ?_
      obtain rfl := Option.some.inj h
      refine E_sts 1 (42, [(0, .ref 42), (1, .int v1), (2, .int v2), (3, .int v3), (4, .int v4)], [.int v3], SH0, [], lg) rfl ?_
      exact E_ret rfl
    · refine E_itf hc ?_
      refine E_sts 6 (23, [(0, .ref 42), (1, .int v1), (2, .int v2), (3, .int v3), (4, .int v4)], [.int v4, .ref 43, .int (v3 * 10)], SH0, [], lg) rfl ?_
      obtain ⟨hp, h⟩ := x_ite h
      refine E_par (p := inr v4 120) (24, [(0, .ref 42), (1, .int v1), (2, .int v2), (3, .int v3), (4, .int v4)], [.int ((σ 4300) v4.toNatClampNeg), .int (v3 * 10)], SH0, [], lg) rfl hp ?_
      refine E_sts 9 (5, [(0, .ref 42), (1, .int v1), (2, .int v2), (3, .int (xmin (((v3 * 10) + ((σ 4300) v4.toNatClampNeg)) - 48) 1000)), (4, .int (v4 + 1))], [], SH0, [], lg) rfl ?_
      exact ih v1 v2 (xmin (((v3 * 10) + ((σ 4300) v4.toNatClampNeg)) - 48) 1000) (v4 + 1) r h
set_option maxHeartbeats 4000000 in
set_option maxRecDepth 20000 in
theorem e_X4_numberAt (X : xX) (σ : xM) (lg : Int64) (v1 : Int32) (v2 : Int32) (r : Int32) (h : X4_numberAt (σ 4300) v1 v2 = some r) : EM XP X 1 66 [.ref 42, .int v1, .int v2] SH0 lg σ (some (.int r), SH0, [], lg) := by
  refine EM_of (M := xm_66) rfl rfl ?_
  unfold X4_numberAt at h
  refine E_sts 5 (5, [(0, .ref 42), (1, .int v1), (2, .int v2), (3, .int 0), (4, .int v1)], [], SH0, [], lg) rfl ?_
  exact e_X4_numberAt_L5 X σ lg _ v1 v2 0 v1 r h
set_option maxHeartbeats 4000000 in
set_option maxRecDepth 20000 in
theorem e_X4_valueOf (X : xX) (σ : xM) (lg : Int64) (v1 : Int32) (r : Int32) (h : X4_valueOf (σ 4300) (σ 4400) (σ 4500) (σ 4600) v1 = some r) : EM XP X 7 61 [.ref 42, .int v1] SH0 lg σ (some (.int r), SH0, [], lg) := by
  refine EM_of (M := xm_61) rfl rfl ?_
  unfold X4_valueOf at h
  refine E_sts 3 (5, [(0, .ref 42), (1, .int v1)], [.int v1, .ref 44], SH0, [], lg) rfl ?_
  obtain ⟨hp, h⟩ := x_ite h
  refine E_par (p := inr v1 121) (6, [(0, .ref 42), (1, .int v1)], [.int ((σ 4400) v1.toNatClampNeg)], SH0, [], lg) rfl hp ?_
  refine E_sts 2 (if ((σ 4400) v1.toNatClampNeg) = 1 then 10 else 27, [(0, .ref 42), (1, .int v1)], [], SH0, [], lg) rfl ?_
  rcases x_br h with ⟨hc, h⟩ | ⟨hc, h⟩
  · refine E_itt hc ?_
    refine E_sts 4 (16, [(0, .ref 42), (1, .int v1)], [.int v1, .ref 45, .ref 42], SH0, [], lg) rfl ?_
    obtain ⟨hp, h⟩ := x_ite h
    refine E_par (p := inr v1 121) (17, [(0, .ref 42), (1, .int v1)], [.int ((σ 4500) v1.toNatClampNeg), .ref 42], SH0, [], lg) rfl hp ?_
    refine E_sts 3 (22, [(0, .ref 42), (1, .int v1)], [.int v1, .ref 46, .int ((σ 4500) v1.toNatClampNeg), .ref 42], SH0, [], lg) rfl ?_
    obtain ⟨hp, h⟩ := x_ite h
    refine E_par (p := inr v1 121) (23, [(0, .ref 42), (1, .int v1)], [.int ((σ 4600) v1.toNatClampNeg), .int ((σ 4500) v1.toNatClampNeg), .ref 42], SH0, [], lg) rfl hp ?_
    obtain ⟨r23, hr, h⟩ := x_bind h
    refine E_call rfl (e_X4_wordAt X _ _ _ _ r23 hr) (by decide) ?_
    obtain rfl := Option.some.inj h
    exact E_ret rfl
  · refine E_itf hc ?_
    refine E_sts 3 (32, [(0, .ref 42), (1, .int v1)], [.int v1, .ref 44], SH0, [], lg) rfl ?_
    obtain ⟨hp, h⟩ := x_ite h
    refine E_par (p := inr v1 121) (33, [(0, .ref 42), (1, .int v1)], [.int ((σ 4400) v1.toNatClampNeg)], SH0, [], lg) rfl hp ?_
    refine E_sts 2 (if ((σ 4400) v1.toNatClampNeg) = 2 then 37 else 56, [(0, .ref 42), (1, .int v1)], [], SH0, [], lg) rfl ?_
    rcases x_br h with ⟨hc, h⟩ | ⟨hc, h⟩
    · refine E_itt hc ?_
      refine E_sts 4 (43, [(0, .ref 42), (1, .int v1)], [.int v1, .ref 45, .ref 42], SH0, [], lg) rfl ?_
      obtain ⟨hp, h⟩ := x_ite h
      refine E_par (p := inr v1 121) (44, [(0, .ref 42), (1, .int v1)], [.int ((σ 4500) v1.toNatClampNeg), .ref 42], SH0, [], lg) rfl hp ?_
      refine E_sts 3 (49, [(0, .ref 42), (1, .int v1)], [.int v1, .ref 46, .int ((σ 4500) v1.toNatClampNeg), .ref 42], SH0, [], lg) rfl ?_
      obtain ⟨hp, h⟩ := x_ite h
      refine E_par (p := inr v1 121) (50, [(0, .ref 42), (1, .int v1)], [.int ((σ 4600) v1.toNatClampNeg), .int ((σ 4500) v1.toNatClampNeg), .ref 42], SH0, [], lg) rfl hp ?_
      obtain ⟨r50, hr, h⟩ := x_bind h
      refine E_call rfl (e_X4_numberAt X _ _ _ _ r50 hr) (by decide) ?_
      obtain rfl := Option.some.inj h
      refine E_sts 1 (57, [(0, .ref 42), (1, .int v1)], [.int r50], SH0, [], lg) rfl ?_
      exact E_ret rfl
    · refine E_itf hc ?_
      obtain rfl := Option.some.inj h
      refine E_sts 1 (57, [(0, .ref 42), (1, .int v1)], [.int 0], SH0, [], lg) rfl ?_
      exact E_ret rfl
set_option maxHeartbeats 4000000 in
set_option maxRecDepth 20000 in
theorem e_X4_cut_L79 (X : xX) (σ : xM) (lg : Int64) (k9 : Int32 → Int32 → Int32 → (Nat → Int32) → (Nat → Int32) → (Nat → Int32) → Option (Int32 × (Nat → Int32) × (Nat → Int32) × (Nat → Int32) × (Nat → Int32))) (h9 : ∀ (v1 : Int32) (v2 : Int32) (tp_tokens_ : Int32) (tp_sorts_ : (Nat → Int32)) (tp_starts_ : (Nat → Int32)) (tp_lengths_ : (Nat → Int32)) (r : Int32 × (Nat → Int32) × (Nat → Int32) × (Nat → Int32) × (Nat → Int32)), k9 v1 v2 tp_tokens_ tp_sorts_ tp_starts_ tp_lengths_ = some r → E XP X 7 xm_60 σ (9, [(0, .ref 42), (1, .int v1), (2, .int v2)], [], SH0, [(4207, fun _ => tp_tokens_), (4400, tp_sorts_), (4500, tp_starts_), (4600, tp_lengths_)], lg) (none, SH0, [(4207, fun _ => r.1), (4400, r.2.1), (4500, r.2.2.1), (4600, r.2.2.2.1), (4700, r.2.2.2.2)], lg)) : ∀ (v2 : Int32) (v3 : Int32) (tp_tokens_ : Int32) (tp_sorts_ : (Nat → Int32)) (tp_starts_ : (Nat → Int32)) (tp_lengths_ : (Nat → Int32)) (r : Int32 × (Nat → Int32) × (Nat → Int32) × (Nat → Int32) × (Nat → Int32)), X4_cut_L79 k9 v2 v3 tp_tokens_ tp_sorts_ tp_starts_ tp_lengths_ = some r → E XP X 7 xm_60 σ (79, [(0, .ref 42), (2, .int v2), (3, .int v3)], [], SH0, [(4207, fun _ => tp_tokens_), (4400, tp_sorts_), (4500, tp_starts_), (4600, tp_lengths_)], lg) (none, SH0, [(4207, fun _ => r.1), (4400, r.2.1), (4500, r.2.2.1), (4600, r.2.2.2.1), (4700, r.2.2.2.2)], lg) := by
  intro v2 v3 tp_tokens_ tp_sorts_ tp_starts_ tp_lengths_ r h
  unfold X4_cut_L79 at h
  refine E_sts 3 (if v3 = 4 then 124 else 84, [(0, .ref 42), (2, .int v2), (3, .int v3)], [], SH0, [(4207, fun _ => tp_tokens_), (4400, tp_sorts_), (4500, tp_starts_), (4600, tp_lengths_)], lg) rfl ?_
  rcases x_br h with ⟨hc, h⟩ | ⟨hc, h⟩
  · refine E_itt hc ?_
    refine E_sts 5 (9, [(0, .ref 42), (1, .int v3), (2, .int (v2 + 1))], [], SH0, [(4207, fun _ => tp_tokens_), (4400, tp_sorts_), (4500, tp_starts_), (4600, tp_lengths_)], lg) rfl ?_
    exact h9 v3 (v2 + 1) tp_tokens_ tp_sorts_ tp_starts_ tp_lengths_ r h
  · refine E_itf hc ?_
    refine E_sts 5 (93, [(0, .ref 42), (2, .int v2), (3, .int v3)], [.int v3, .int tp_tokens_, .ref 44], SH0, [(4207, fun _ => tp_tokens_), (4400, tp_sorts_), (4500, tp_starts_), (4600, tp_lengths_)], lg) rfl ?_
    obtain ⟨hp, h⟩ := x_ite h
    refine E_par (p := inr tp_tokens_ 121) (94, [(0, .ref 42), (2, .int v2), (3, .int v3)], [], SH0, [(4207, fun _ => tp_tokens_), (4400, (upd tp_sorts_ tp_tokens_.toNatClampNeg v3)), (4500, tp_starts_), (4600, tp_lengths_)], lg) rfl hp ?_
    refine E_sts 5 (103, [(0, .ref 42), (2, .int v2), (3, .int v3)], [.int v2, .int tp_tokens_, .ref 45], SH0, [(4207, fun _ => tp_tokens_), (4400, (upd tp_sorts_ tp_tokens_.toNatClampNeg v3)), (4500, tp_starts_), (4600, tp_lengths_)], lg) rfl ?_
    obtain ⟨hp, h⟩ := x_ite h
    refine E_par (p := inr tp_tokens_ 121) (104, [(0, .ref 42), (2, .int v2), (3, .int v3)], [], SH0, [(4207, fun _ => tp_tokens_), (4400, (upd tp_sorts_ tp_tokens_.toNatClampNeg v3)), (4500, (upd tp_starts_ tp_tokens_.toNatClampNeg v2)), (4600, tp_lengths_)], lg) rfl hp ?_
    refine E_sts 5 (113, [(0, .ref 42), (2, .int v2), (3, .int v3)], [.int 1, .int tp_tokens_, .ref 46], SH0, [(4207, fun _ => tp_tokens_), (4400, (upd tp_sorts_ tp_tokens_.toNatClampNeg v3)), (4500, (upd tp_starts_ tp_tokens_.toNatClampNeg v2)), (4600, tp_lengths_)], lg) rfl ?_
    obtain ⟨hp, h⟩ := x_ite h
    refine E_par (p := inr tp_tokens_ 121) (114, [(0, .ref 42), (2, .int v2), (3, .int v3)], [], SH0, [(4207, fun _ => tp_tokens_), (4400, (upd tp_sorts_ tp_tokens_.toNatClampNeg v3)), (4500, (upd tp_starts_ tp_tokens_.toNatClampNeg v2)), (4600, (upd tp_lengths_ tp_tokens_.toNatClampNeg 1))], lg) rfl hp ?_
    refine E_sts 11 (9, [(0, .ref 42), (1, .int v3), (2, .int (v2 + 1))], [], SH0, [(4207, fun _ => (tp_tokens_ + 1)), (4400, (upd tp_sorts_ tp_tokens_.toNatClampNeg v3)), (4500, (upd tp_starts_ tp_tokens_.toNatClampNeg v2)), (4600, (upd tp_lengths_ tp_tokens_.toNatClampNeg 1))], lg) rfl ?_
    exact h9 v3 (v2 + 1) (tp_tokens_ + 1) (upd tp_sorts_ tp_tokens_.toNatClampNeg v3) (upd tp_starts_ tp_tokens_.toNatClampNeg v2) (upd tp_lengths_ tp_tokens_.toNatClampNeg 1) r h
set_option maxHeartbeats 4000000 in
set_option maxRecDepth 20000 in
theorem e_X4_cut_L47 (X : xX) (σ : xM) (lg : Int64) (k9 : Int32 → Int32 → Int32 → (Nat → Int32) → (Nat → Int32) → (Nat → Int32) → Option (Int32 × (Nat → Int32) × (Nat → Int32) × (Nat → Int32) × (Nat → Int32))) (h9 : ∀ (v1 : Int32) (v2 : Int32) (tp_tokens_ : Int32) (tp_sorts_ : (Nat → Int32)) (tp_starts_ : (Nat → Int32)) (tp_lengths_ : (Nat → Int32)) (r : Int32 × (Nat → Int32) × (Nat → Int32) × (Nat → Int32) × (Nat → Int32)), k9 v1 v2 tp_tokens_ tp_sorts_ tp_starts_ tp_lengths_ = some r → E XP X 7 xm_60 σ (9, [(0, .ref 42), (1, .int v1), (2, .int v2)], [], SH0, [(4207, fun _ => tp_tokens_), (4400, tp_sorts_), (4500, tp_starts_), (4600, tp_lengths_)], lg) (none, SH0, [(4207, fun _ => r.1), (4400, r.2.1), (4500, r.2.2.1), (4600, r.2.2.2.1), (4700, r.2.2.2.2)], lg)) : ∀ (v2 : Int32) (v3 : Int32) (t0 : Int32) (tp_tokens_ : Int32) (tp_sorts_ : (Nat → Int32)) (tp_starts_ : (Nat → Int32)) (tp_lengths_ : (Nat → Int32)) (r : Int32 × (Nat → Int32) × (Nat → Int32) × (Nat → Int32) × (Nat → Int32)), X4_cut_L47 k9 v2 v3 t0 tp_tokens_ tp_sorts_ tp_starts_ tp_lengths_ = some r → E XP X 7 xm_60 σ (47, [(0, .ref 42), (2, .int v2), (3, .int v3)], [.int t0], SH0, [(4207, fun _ => tp_tokens_), (4400, tp_sorts_), (4500, tp_starts_), (4600, tp_lengths_)], lg) (none, SH0, [(4207, fun _ => r.1), (4400, r.2.1), (4500, r.2.2.1), (4600, r.2.2.2.1), (4700, r.2.2.2.2)], lg) := by
  intro v2 v3 t0 tp_tokens_ tp_sorts_ tp_starts_ tp_lengths_ r h
  unfold X4_cut_L47 at h
  refine E_sts 3 (if t0 = 0 then 100079 else 54, [(0, .ref 42), (2, .int v2), (3, .int v3), (4, .int t0)], [], SH0, [(4207, fun _ => tp_tokens_), (4400, tp_sorts_), (4500, tp_starts_), (4600, tp_lengths_)], lg) rfl ?_
  rcases x_br h with ⟨hc, h⟩ | ⟨hc, h⟩
  · refine E_itt hc ?_
    refine E_sts 1 (79, [(0, .ref 42), (2, .int v2), (3, .int v3)], [], SH0, [(4207, fun _ => tp_tokens_), (4400, tp_sorts_), (4500, tp_starts_), (4600, tp_lengths_)], lg) rfl ?_
    exact e_X4_cut_L79 X σ lg _ (fun v10 v20 tp_tokens_0 tp_sorts_0 tp_starts_0 tp_lengths_0 r h => h9 v10 v20 tp_tokens_0 tp_sorts_0 tp_starts_0 tp_lengths_0 r h) v2 v3 tp_tokens_ tp_sorts_ tp_starts_ tp_lengths_ r h
  · refine E_itf hc ?_
    refine E_sts 3 (if tp_tokens_ ≤ 0 then 100079 else 61, [(0, .ref 42), (2, .int v2), (3, .int v3), (4, .int t0)], [], SH0, [(4207, fun _ => tp_tokens_), (4400, tp_sorts_), (4500, tp_starts_), (4600, tp_lengths_)], lg) rfl ?_
    rcases x_br h with ⟨hc, h⟩ | ⟨hc, h⟩
    · refine E_itt hc ?_
      refine E_sts 1 (79, [(0, .ref 42), (2, .int v2), (3, .int v3)], [], SH0, [(4207, fun _ => tp_tokens_), (4400, tp_sorts_), (4500, tp_starts_), (4600, tp_lengths_)], lg) rfl ?_
      exact e_X4_cut_L79 X σ lg _ (fun v10 v20 tp_tokens_0 tp_sorts_0 tp_starts_0 tp_lengths_0 r h => h9 v10 v20 tp_tokens_0 tp_sorts_0 tp_starts_0 tp_lengths_0 r h) v2 v3 tp_tokens_ tp_sorts_ tp_starts_ tp_lengths_ r h
    · refine E_itf hc ?_
      refine E_sts 7 (72, [(0, .ref 42), (2, .int v2), (3, .int v3), (4, .int t0)], [.int (tp_tokens_ - 1), .ref 46, .int (tp_tokens_ - 1), .ref 46], SH0, [(4207, fun _ => tp_tokens_), (4400, tp_sorts_), (4500, tp_starts_), (4600, tp_lengths_)], lg) rfl ?_
      obtain ⟨hp, h⟩ := x_ite h
      refine E_par (p := inr (tp_tokens_ - 1) 121) (73, [(0, .ref 42), (2, .int v2), (3, .int v3), (4, .int t0)], [.int (tp_lengths_ (tp_tokens_ - 1).toNatClampNeg), .int (tp_tokens_ - 1), .ref 46], SH0, [(4207, fun _ => tp_tokens_), (4400, tp_sorts_), (4500, tp_starts_), (4600, tp_lengths_)], lg) rfl hp ?_
      refine E_sts 2 (75, [(0, .ref 42), (2, .int v2), (3, .int v3), (4, .int t0)], [.int ((tp_lengths_ (tp_tokens_ - 1).toNatClampNeg) + 1), .int (tp_tokens_ - 1), .ref 46], SH0, [(4207, fun _ => tp_tokens_), (4400, tp_sorts_), (4500, tp_starts_), (4600, tp_lengths_)], lg) rfl ?_
      obtain ⟨hp, h⟩ := x_ite h
      refine E_par (p := inr (tp_tokens_ - 1) 121) (76, [(0, .ref 42), (2, .int v2), (3, .int v3), (4, .int t0)], [], SH0, [(4207, fun _ => tp_tokens_), (4400, tp_sorts_), (4500, tp_starts_), (4600, (upd tp_lengths_ (tp_tokens_ - 1).toNatClampNeg ((tp_lengths_ (tp_tokens_ - 1).toNatClampNeg) + 1)))], lg) rfl hp ?_
      refine E_sts 6 (9, [(0, .ref 42), (1, .int v3), (2, .int (v2 + 1))], [], SH0, [(4207, fun _ => tp_tokens_), (4400, tp_sorts_), (4500, tp_starts_), (4600, (upd tp_lengths_ (tp_tokens_ - 1).toNatClampNeg ((tp_lengths_ (tp_tokens_ - 1).toNatClampNeg) + 1)))], lg) rfl ?_
      exact h9 v3 (v2 + 1) tp_tokens_ tp_sorts_ tp_starts_ (upd tp_lengths_ (tp_tokens_ - 1).toNatClampNeg ((tp_lengths_ (tp_tokens_ - 1).toNatClampNeg) + 1)) r h
set_option maxHeartbeats 4000000 in
set_option maxRecDepth 20000 in
theorem e_X4_cut_L157 (X : xX) (σ : xM) (lg : Int64) : ∀ (n : Nat), ∀ (v2 : Int32) (tp_tokens_ : Int32) (tp_sorts_ : (Nat → Int32)) (tp_starts_ : (Nat → Int32)) (tp_lengths_ : (Nat → Int32)) (tp_values_ : (Nat → Int32)) (r : Int32 × (Nat → Int32) × (Nat → Int32) × (Nat → Int32) × (Nat → Int32)), X4_cut_L157 (σ 4300) n v2 tp_tokens_ tp_sorts_ tp_starts_ tp_lengths_ tp_values_ = some r → E XP X 7 xm_60 σ (157, [(0, .ref 42), (2, .int v2)], [], SH0, [(4207, fun _ => tp_tokens_), (4400, tp_sorts_), (4500, tp_starts_), (4600, tp_lengths_), (4700, tp_values_)], lg) (none, SH0, [(4207, fun _ => r.1), (4400, r.2.1), (4500, r.2.2.1), (4600, r.2.2.2.1), (4700, r.2.2.2.2)], lg) := by
  intro n
  induction n with
  | zero => intro v2 tp_tokens_ tp_sorts_ tp_starts_ tp_lengths_ tp_values_ r h; rw [X4_cut_L157] at h; cases h
  | succ n ih =>
    intro v2 tp_tokens_ tp_sorts_ tp_starts_ tp_lengths_ tp_values_ r h
    rw [X4_cut_L157] at h
    refine E_sts 4 (if tp_tokens_ < v2 then 100182 else 165, [(0, .ref 42), (2, .int v2)], [], SH0, [(4207, fun _ => tp_tokens_), (4400, tp_sorts_), (4500, tp_starts_), (4600, tp_lengths_), (4700, tp_values_)], lg) rfl ?_
    rcases x_br h with ⟨hc, h⟩ | ⟨hc, h⟩
    · refine E_itt hc ?_
      obtain rfl := Option.some.inj h
      refine E_sts 1 (182, [], [], SH0, [(4207, fun _ => tp_tokens_), (4400, tp_sorts_), (4500, tp_starts_), (4600, tp_lengths_), (4700, tp_values_)], lg) rfl ?_
      exact E_ret rfl
    · refine E_itf hc ?_
      refine E_sts 5 (172, [(0, .ref 42), (2, .int v2)], [.int v2, .ref 42, .int v2, .ref 47], SH0, [(4207, fun _ => tp_tokens_), (4400, tp_sorts_), (4500, tp_starts_), (4600, tp_lengths_), (4700, tp_values_)], lg) rfl ?_
      obtain ⟨r172, hr, h⟩ := x_bind h
      refine E_call rfl (e_X4_valueOf X _ _ _ r172 hr) (by decide) ?_
      obtain ⟨hp, h⟩ := x_ite h
      refine E_par (p := inr v2 121) (176, [(0, .ref 42), (2, .int v2)], [], SH0, [(4207, fun _ => tp_tokens_), (4400, tp_sorts_), (4500, tp_starts_), (4600, tp_lengths_), (4700, (upd tp_values_ v2.toNatClampNeg r172))], lg) rfl hp ?_
      refine E_sts 3 (157, [(0, .ref 42), (2, .int (v2 + 1))], [], SH0, [(4207, fun _ => tp_tokens_), (4400, tp_sorts_), (4500, tp_starts_), (4600, tp_lengths_), (4700, (upd tp_values_ v2.toNatClampNeg r172))], lg) rfl ?_
      exact ih (v2 + 1) tp_tokens_ tp_sorts_ tp_starts_ tp_lengths_ (upd tp_values_ v2.toNatClampNeg r172) r h
set_option maxHeartbeats 4000000 in
set_option maxRecDepth 20000 in
theorem e_X4_cut_L9 (X : xX) (σ : xM) (lg : Int64) : ∀ (n : Nat), ∀ (v1 : Int32) (v2 : Int32) (tp_tokens_ : Int32) (tp_sorts_ : (Nat → Int32)) (tp_starts_ : (Nat → Int32)) (tp_lengths_ : (Nat → Int32)) (r : Int32 × (Nat → Int32) × (Nat → Int32) × (Nat → Int32) × (Nat → Int32)), X4_cut_L9 (σ 4202 0) (σ 4300) (σ 4700) n v1 v2 tp_tokens_ tp_sorts_ tp_starts_ tp_lengths_ = some r → E XP X 7 xm_60 σ (9, [(0, .ref 42), (1, .int v1), (2, .int v2)], [], SH0, [(4207, fun _ => tp_tokens_), (4400, tp_sorts_), (4500, tp_starts_), (4600, tp_lengths_)], lg) (none, SH0, [(4207, fun _ => r.1), (4400, r.2.1), (4500, r.2.2.1), (4600, r.2.2.2.1), (4700, r.2.2.2.2)], lg) := by
  intro n
  induction n with
  | zero => intro v1 v2 tp_tokens_ tp_sorts_ tp_starts_ tp_lengths_ r h; rw [X4_cut_L9] at h; cases h
  | succ n ih =>
    intro v1 v2 tp_tokens_ tp_sorts_ tp_starts_ tp_lengths_ r h
    rw [X4_cut_L9] at h
    refine E_sts 4 (if (σ 4202 0) ≤ v2 then 132 else 17, [(0, .ref 42), (1, .int v1), (2, .int v2)], [], SH0, [(4207, fun _ => tp_tokens_), (4400, tp_sorts_), (4500, tp_starts_), (4600, tp_lengths_)], lg) rfl ?_
    rcases x_br h with ⟨hc, h⟩ | ⟨hc, h⟩
    · refine E_itt hc ?_
      refine E_sts 5 (141, [(0, .ref 42), (1, .int v1), (2, .int v2)], [.int 0, .int tp_tokens_, .ref 44], SH0, [(4207, fun _ => tp_tokens_), (4400, tp_sorts_), (4500, tp_starts_), (4600, tp_lengths_)], lg) rfl ?_
      obtain ⟨hp, h⟩ := x_ite h
      refine E_par (p := inr tp_tokens_ 121) (142, [(0, .ref 42), (1, .int v1), (2, .int v2)], [], SH0, [(4207, fun _ => tp_tokens_), (4400, (upd tp_sorts_ tp_tokens_.toNatClampNeg 0)), (4500, tp_starts_), (4600, tp_lengths_)], lg) rfl hp ?_
      refine E_sts 6 (154, [(0, .ref 42), (1, .int v1), (2, .int v2)], [.int (σ 4202 0), .int tp_tokens_, .ref 45], SH0, [(4207, fun _ => tp_tokens_), (4400, (upd tp_sorts_ tp_tokens_.toNatClampNeg 0)), (4500, tp_starts_), (4600, tp_lengths_)], lg) rfl ?_
      obtain ⟨hp, h⟩ := x_ite h
      refine E_par (p := inr tp_tokens_ 121) (155, [(0, .ref 42), (1, .int v1), (2, .int v2)], [], SH0, [(4207, fun _ => tp_tokens_), (4400, (upd tp_sorts_ tp_tokens_.toNatClampNeg 0)), (4500, (upd tp_starts_ tp_tokens_.toNatClampNeg (σ 4202 0))), (4600, tp_lengths_)], lg) rfl hp ?_
      refine E_sts 3 (157, [(0, .ref 42), (2, .int 0)], [], SH0, [(4207, fun _ => tp_tokens_), (4400, (upd tp_sorts_ tp_tokens_.toNatClampNeg 0)), (4500, (upd tp_starts_ tp_tokens_.toNatClampNeg (σ 4202 0))), (4600, tp_lengths_), (4700, (σ 4700))], lg) rfl ?_
      exact e_X4_cut_L157 X σ lg _ 0 tp_tokens_ (upd tp_sorts_ tp_tokens_.toNatClampNeg 0) (upd tp_starts_ tp_tokens_.toNatClampNeg (σ 4202 0)) tp_lengths_ (σ 4700) r h
    · refine E_itf hc ?_
      refine E_sts 3 (22, [(0, .ref 42), (1, .int v1), (2, .int v2)], [.int v2, .ref 43], SH0, [(4207, fun _ => tp_tokens_), (4400, tp_sorts_), (4500, tp_starts_), (4600, tp_lengths_)], lg) rfl ?_
      obtain ⟨hp, h⟩ := x_ite h
      refine E_par (p := inr v2 120) (23, [(0, .ref 42), (1, .int v1), (2, .int v2)], [.int ((σ 4300) v2.toNatClampNeg)], SH0, [(4207, fun _ => tp_tokens_), (4400, tp_sorts_), (4500, tp_starts_), (4600, tp_lengths_)], lg) rfl hp ?_
      refine E_call rfl (e_X4_sortOf X _ _ _ (X4_sortOf ((σ 4300) v2.toNatClampNeg)) rfl) (by decide) ?_
      refine E_sts 4 (if (X4_sortOf ((σ 4300) v2.toNatClampNeg)) = v1 then 32 else 46, [(0, .ref 42), (1, .int v1), (2, .int v2), (3, .int (X4_sortOf ((σ 4300) v2.toNatClampNeg)))], [], SH0, [(4207, fun _ => tp_tokens_), (4400, tp_sorts_), (4500, tp_starts_), (4600, tp_lengths_)], lg) rfl ?_
      rcases x_br h with ⟨hc, h⟩ | ⟨hc, h⟩
      · refine E_itt hc ?_
        refine E_sts 3 (if (X4_sortOf ((σ 4300) v2.toNatClampNeg)) = 1 then 42 else 37, [(0, .ref 42), (1, .int v1), (2, .int v2), (3, .int (X4_sortOf ((σ 4300) v2.toNatClampNeg)))], [], SH0, [(4207, fun _ => tp_tokens_), (4400, tp_sorts_), (4500, tp_starts_), (4600, tp_lengths_)], lg) rfl ?_
        rcases x_br h with ⟨hc, h⟩ | ⟨hc, h⟩
        · refine E_itt hc ?_
          refine E_sts 3 (47, [(0, .ref 42), (2, .int v2), (3, .int (X4_sortOf ((σ 4300) v2.toNatClampNeg)))], [.int 1], SH0, [(4207, fun _ => tp_tokens_), (4400, tp_sorts_), (4500, tp_starts_), (4600, tp_lengths_)], lg) rfl ?_
          exact e_X4_cut_L47 X σ lg _ (fun v10 v20 tp_tokens_0 tp_sorts_0 tp_starts_0 tp_lengths_0 r h => ih v10 v20 tp_tokens_0 tp_sorts_0 tp_starts_0 tp_lengths_0 r h) v2 (X4_sortOf ((σ 4300) v2.toNatClampNeg)) 1 tp_tokens_ tp_sorts_ tp_starts_ tp_lengths_ r h
        · refine E_itf hc ?_
          refine E_sts 3 (if (X4_sortOf ((σ 4300) v2.toNatClampNeg)) = 2 then 42 else 46, [(0, .ref 42), (1, .int v1), (2, .int v2), (3, .int (X4_sortOf ((σ 4300) v2.toNatClampNeg)))], [], SH0, [(4207, fun _ => tp_tokens_), (4400, tp_sorts_), (4500, tp_starts_), (4600, tp_lengths_)], lg) rfl ?_
          rcases x_br h with ⟨hc, h⟩ | ⟨hc, h⟩
          · refine E_itt hc ?_
            refine E_sts 3 (47, [(0, .ref 42), (2, .int v2), (3, .int (X4_sortOf ((σ 4300) v2.toNatClampNeg)))], [.int 1], SH0, [(4207, fun _ => tp_tokens_), (4400, tp_sorts_), (4500, tp_starts_), (4600, tp_lengths_)], lg) rfl ?_
            exact e_X4_cut_L47 X σ lg _ (fun v10 v20 tp_tokens_0 tp_sorts_0 tp_starts_0 tp_lengths_0 r h => ih v10 v20 tp_tokens_0 tp_sorts_0 tp_starts_0 tp_lengths_0 r h) v2 (X4_sortOf ((σ 4300) v2.toNatClampNeg)) 1 tp_tokens_ tp_sorts_ tp_starts_ tp_lengths_ r h
          · refine E_itf hc ?_
            refine E_sts 2 (47, [(0, .ref 42), (2, .int v2), (3, .int (X4_sortOf ((σ 4300) v2.toNatClampNeg)))], [.int 0], SH0, [(4207, fun _ => tp_tokens_), (4400, tp_sorts_), (4500, tp_starts_), (4600, tp_lengths_)], lg) rfl ?_
            exact e_X4_cut_L47 X σ lg _ (fun v10 v20 tp_tokens_0 tp_sorts_0 tp_starts_0 tp_lengths_0 r h => ih v10 v20 tp_tokens_0 tp_sorts_0 tp_starts_0 tp_lengths_0 r h) v2 (X4_sortOf ((σ 4300) v2.toNatClampNeg)) 0 tp_tokens_ tp_sorts_ tp_starts_ tp_lengths_ r h
      · refine E_itf hc ?_
        refine E_sts 2 (47, [(0, .ref 42), (2, .int v2), (3, .int (X4_sortOf ((σ 4300) v2.toNatClampNeg)))], [.int 0], SH0, [(4207, fun _ => tp_tokens_), (4400, tp_sorts_), (4500, tp_starts_), (4600, tp_lengths_)], lg) rfl ?_
        exact e_X4_cut_L47 X σ lg _ (fun v10 v20 tp_tokens_0 tp_sorts_0 tp_starts_0 tp_lengths_0 r h => ih v10 v20 tp_tokens_0 tp_sorts_0 tp_starts_0 tp_lengths_0 r h) v2 (X4_sortOf ((σ 4300) v2.toNatClampNeg)) 0 tp_tokens_ tp_sorts_ tp_starts_ tp_lengths_ r h
set_option maxHeartbeats 4000000 in
set_option maxRecDepth 20000 in
theorem e_X4_cut (X : xX) (σ : xM) (lg : Int64) (r : Int32 × (Nat → Int32) × (Nat → Int32) × (Nat → Int32) × (Nat → Int32)) (h : X4_cut (σ 4202 0) (σ 4300) (σ 4400) (σ 4500) (σ 4600) (σ 4700) = some r) : EM XP X 8 60 [.ref 42] SH0 lg σ (none, SH0, [(4207, fun _ => r.1), (4400, r.2.1), (4500, r.2.2.1), (4600, r.2.2.2.1), (4700, r.2.2.2.2)], lg) := by
  refine EM_of (M := xm_60) rfl rfl ?_
  unfold X4_cut at h
  refine E_sts 8 (9, [(0, .ref 42), (1, .int 0), (2, .int 0)], [], SH0, [(4207, fun _ => 0), (4400, (σ 4400)), (4500, (σ 4500)), (4600, (σ 4600))], lg) rfl ?_
  exact e_X4_cut_L9 X σ lg _ 0 0 0 (σ 4400) (σ 4500) (σ 4600) r h
