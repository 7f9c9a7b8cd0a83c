/-! what the machine answers is what the functions say (by gen/emit.py) -/
set_option maxHeartbeats 4000000 in
set_option maxRecDepth 20000 in
theorem e_X6_love_L22 (X : xX) (σ : xM) (lg : Int64) : ∀ (n : Nat), ∀ (v1 : Int32) (v2 : Int32) (v3 : Int32) (v4 : Int32) (v5 : Int32) (r : Int32 × (Nat → Int32)), X6_love_L22 (σ 5300) (σ 5600) n v1 v2 v3 v4 v5 = some r → E XP X 3 xm_178 σ (22, [(0, .ref 52), (1, .int v1), (2, .int v2), (3, .int v3), (4, .int v4), (5, .int v5)], [], SH0, [], lg) (some (.int r.1), SH0, [(5600, r.2)], lg) := by
  intro n
  induction n with
  | zero => intro v1 v2 v3 v4 v5 r h; rw [X6_love_L22] at h; cases h
  | succ n ih =>
    intro v1 v2 v3 v4 v5 r h
    rw [X6_love_L22] at h
    refine E_sts 2 (if v5 < 0 then 58 else 27, [(0, .ref 52), (1, .int v1), (2, .int v2), (3, .int v3), (4, .int v4), (5, .int v5)], [], SH0, [], lg) rfl ?_
    rcases x_br h with ⟨hc, h⟩ | ⟨hc, h⟩
    · refine E_itt hc ?_
      refine E_sts 2 (if 0 ≤ v4 then 71 else 63, [(0, .ref 52), (1, .int v1), (2, .int v2), (3, .int v3), (4, .int v4), (5, .int v5)], [], SH0, [], lg) rfl ?_
      rcases x_br h with ⟨hc, h⟩ | ⟨hc, h⟩
      · refine E_itt hc ?_
        obtain rfl := Option.some.inj h
        refine E_sts 2 (73, [], [.int v4], SH0, [(5600, (σ 5600))], lg) rfl ?_
        exact E_ret rfl
      · refine E_itf hc ?_
        refine E_sts 2 (65, [(0, .ref 52), (1, .int v1), (2, .int v2), (3, .int v3), (4, .int v4), (5, .int v5)], [.int 3, .ref 52], SH0, [], lg) rfl ?_
        obtain ⟨r65, hr, h⟩ := x_bind h
        refine E_call rfl (e_X6_no X _ _ _ r65 hr) (by decide) ?_
        obtain rfl := Option.some.inj h
        refine E_sts 2 (73, [], [.int r65.1], SH0, [(5600, r65.2)], lg) rfl ?_
        exact E_ret rfl
    · refine E_itf hc ?_
      refine E_sts 3 (30, [(0, .ref 52), (1, .int v1), (2, .int v2), (3, .int v3), (4, .int v4), (5, .int v5)], [.int 0, .int v1, .ref 52], SH0, [], lg) rfl ?_
      obtain ⟨r30, hr, h⟩ := x_bind h
      refine E_call rfl (e_X6_get X _ _ _ _ r30 hr) (by decide) ?_
      refine E_sts 2 (36, [(0, .ref 52), (1, .int v1), (2, .int v2), (3, .int v3), (4, .int v4), (5, .int v5)], [.int v2, .int v5, .int r30], SH0, [], lg) rfl ?_
      refine E_call rfl (e_X6_noiseOf X _ _ _ _ _ (X6_noiseOf r30 v5 v2) rfl) (by decide) ?_
      refine E_sts 2 (if (X6_noiseOf r30 v5 v2) = v3 then 43 else 48, [(0, .ref 52), (1, .int v1), (2, .int v2), (3, .int v3), (4, .int v4), (5, .int v5)], [], SH0, [], lg) rfl ?_
      rcases x_br h with ⟨hc, h⟩ | ⟨hc, h⟩
      · refine E_itt hc ?_
        refine E_sts 6 (22, [(0, .ref 52), (1, .int v1), (2, .int v2), (3, .int v3), (4, .int v5), (5, .int (v5 + (-1)))], [], SH0, [], lg) rfl ?_
        exact ih v1 v2 v3 v5 (v5 + (-1)) r h
      · refine E_itf hc ?_
        refine E_sts 5 (22, [(0, .ref 52), (1, .int v1), (2, .int v2), (3, .int v3), (4, .int v4), (5, .int (v5 + (-1)))], [], SH0, [], lg) rfl ?_
        exact ih v1 v2 v3 v4 (v5 + (-1)) r h
set_option maxHeartbeats 4000000 in
set_option maxRecDepth 20000 in
theorem e_X6_love (X : xX) (σ : xM) (lg : Int64) (v1 : Int32) (v2 : Int32) (v3 : Int32) (r : Int32 × (Nat → Int32)) (h : X6_love (σ 5300) (σ 5600) v1 v2 v3 = some r) : EM XP X 4 178 [.ref 52, .int v1, .int v2, .int v3] SH0 lg σ (some (.int r.1), SH0, [(5600, r.2)], lg) := by
  refine EM_of (M := xm_178) rfl rfl ?_
  unfold X6_love at h
  refine E_sts 3 (3, [(0, .ref 52), (1, .int v1), (2, .int v2), (3, .int v3)], [.int v2, .int v1, .ref 52], SH0, [], lg) rfl ?_
  obtain ⟨r3, hr, h⟩ := x_bind h
  refine E_call rfl (e_X6_isAsked X _ _ _ _ r3 hr) (by decide) ?_
  refine E_sts 1 (if (xb r3) = 0 then 9 else 15, [(0, .ref 52), (1, .int v1), (2, .int v2), (3, .int v3)], [], SH0, [], lg) rfl ?_
  rcases x_br h with ⟨hc, h⟩ | ⟨hc, h⟩
  · refine E_itt hc ?_
    refine E_sts 2 (11, [(0, .ref 52), (1, .int v1), (2, .int v2), (3, .int v3)], [.int 0, .ref 52], SH0, [], lg) rfl ?_
    obtain ⟨r11, hr, h⟩ := x_bind h
    refine E_call rfl (e_X6_no X _ _ _ r11 hr) (by decide) ?_
    obtain rfl := Option.some.inj h
    exact E_ret rfl
  · refine E_itf hc ?_
    refine E_sts 5 (22, [(0, .ref 52), (1, .int v1), (2, .int v2), (3, .int v3), (4, .int (-1)), (5, .int 99)], [], SH0, [], lg) rfl ?_
    exact e_X6_love_L22 X σ lg _ v1 v2 v3 (-1) 99 r h
set_option maxHeartbeats 4000000 in
set_option maxRecDepth 20000 in
theorem e_X5_gainAt (X : xX) (σ : xM) (lg : Int64) (v1 : Int32) (r : Int32) (h : X5_gainAt (σ 700) v1 = some r) : EM XP X 1 119 [.ref 0, .int v1] SH0 lg σ (some (.int r), SH0, [], lg) := by
  refine EM_of (M := xm_119) rfl rfl ?_
  unfold X5_gainAt at h
  refine E_sts 4 (8, [(0, .ref 0), (1, .int v1)], [.int 2, .ref 7], SH0, [], lg) rfl ?_
  refine E_par (p := inr 2 5) (9, [(0, .ref 0), (1, .int v1)], [.int ((σ 700) 2)], SH0, [], lg) rfl (by decide) ?_
  refine E_sts 5 (18, [(0, .ref 0), (1, .int v1)], [.int 0, .ref 7, .int v1, .int ((σ 700) 2)], SH0, [], lg) rfl ?_
  refine E_par (p := inr 0 5) (19, [(0, .ref 0), (1, .int v1)], [.int ((σ 700) 0), .int v1, .int ((σ 700) 2)], SH0, [], lg) rfl (by decide) ?_
  obtain rfl := Option.some.inj h
  refine E_sts 2 (21, [(0, .ref 0), (1, .int v1)], [.int (((σ 700) 2) - (v1 * ((σ 700) 0)))], SH0, [], lg) rfl ?_
  exact E_ret rfl
set_option maxHeartbeats 4000000 in
set_option maxRecDepth 20000 in
theorem e_X5_worth_L9 (X : xX) (σ : xM) (lg : Int64) : ∀ (n : Nat), ∀ (v1 : Int32) (v2 : Int64) (v4 : Int64) (v6 : Int32) (r : Int64), X5_worth_L9 (σ 700) n v1 v2 v4 v6 = some r → E XP X 1 xm_121 σ (9, [(0, .ref 0), (1, .int v1), (2, .long v2), (4, .long v4), (6, .int v6)], [], SH0, [], lg) (some (.long r), SH0, [], lg) := by
  intro n
  induction n with
  | zero => intro v1 v2 v4 v6 r h; rw [X5_worth_L9] at h; cases h
  | succ n ih =>
    intro v1 v2 v4 v6 r h
    rw [X5_worth_L9] at h
    refine E_sts 3 (if v6 < v1 then 98 else 15, [(0, .ref 0), (1, .int v1), (2, .long v2), (4, .long v4), (6, .int v6)], [], SH0, [], lg) rfl ?_
    rcases x_br h with ⟨hc, h⟩ | ⟨hc, h⟩
    · refine E_itt hc ?_
      obtain rfl := Option.some.inj h
      refine E_sts 1 (99, [(0, .ref 0), (1, .int v1), (2, .long v2), (4, .long v4), (6, .int v6)], [.long v2], SH0, [], lg) rfl ?_
      exact E_ret rfl
    · refine E_itf hc ?_
      refine E_sts 4 (23, [(0, .ref 0), (1, .int v1), (2, .long v2), (4, .long v4), (6, .int v6)], [.int 1, .ref 7], SH0, [], lg) rfl ?_
      refine E_par (p := inr 1 5) (24, [(0, .ref 0), (1, .int v1), (2, .long v2), (4, .long v4), (6, .int v6)], [.int ((σ 700) 1)], SH0, [], lg) rfl (by decide) ?_
      refine E_sts 7 (37, [(0, .ref 0), (1, .int v1), (2, .long v2), (4, .long v4), (6, .int v6), (7, .int (xmin (((σ 700) 1) * v6) 10))], [.int v6, .ref 0], SH0, [], lg) rfl ?_
      obtain ⟨r37, hr, h⟩ := x_bind h
      refine E_call rfl (e_X5_gainAt X _ _ _ r37 hr) (by decide) ?_
      refine E_sts 10 (56, [(0, .ref 0), (1, .int v1), (2, .long v2), (4, .long v4), (6, .int v6), (7, .int (xmin (((σ 700) 1) * v6) 10)), (8, .long (((Int32.toInt64 r37) * v4) + v2))], [.int 3, .ref 7], SH0, [], lg) rfl ?_
      refine E_par (p := inr 3 5) (57, [(0, .ref 0), (1, .int v1), (2, .long v2), (4, .long v4), (6, .int v6), (7, .int (xmin (((σ 700) 1) * v6) 10)), (8, .long (((Int32.toInt64 r37) * v4) + v2))], [.int ((σ 700) 3)], SH0, [], lg) rfl (by decide) ?_
      refine E_sts 25 (9, [(0, .ref 0), (1, .int v1), (2, .long (xmaxl 0 (((Int32.toInt64 (10 - (xmin (((σ 700) 1) * v6) 10))) * (((Int32.toInt64 r37) * v4) + v2)) - ((Int32.toInt64 (xmin (((σ 700) 1) * v6) 10)) * ((Int32.toInt64 ((σ 700) 3)) * v4))))), (4, .long (v4 * 10)), (6, .int (v6 + (-1)))], [], SH0, [], lg) rfl ?_
      exact ih v1 (xmaxl 0 (((Int32.toInt64 (10 - (xmin (((σ 700) 1) * v6) 10))) * (((Int32.toInt64 r37) * v4) + v2)) - ((Int32.toInt64 (xmin (((σ 700) 1) * v6) 10)) * ((Int32.toInt64 ((σ 700) 3)) * v4)))) (v4 * 10) (v6 + (-1)) r h
set_option maxHeartbeats 4000000 in
set_option maxRecDepth 20000 in
theorem e_X5_worth (X : xX) (σ : xM) (lg : Int64) (v1 : Int32) (r : Int64) (h : X5_worth (σ 700) v1 = some r) : EM XP X 2 121 [.ref 0, .int v1] SH0 lg σ (some (.long r), SH0, [], lg) := by
  refine EM_of (M := xm_121) rfl rfl ?_
  unfold X5_worth at h
  refine E_sts 7 (9, [(0, .ref 0), (1, .int v1), (2, .long 0), (4, .long 1), (6, .int 7)], [], SH0, [], lg) rfl ?_
  exact e_X5_worth_L9 X σ lg _ v1 0 1 7 r h
set_option maxHeartbeats 4000000 in
set_option maxRecDepth 20000 in
theorem e_X5_partsFrom_L4 (X : xX) (σ : xM) (lg : Int64) : ∀ (n : Nat), ∀ (v1 : Int64) (v3 : Int32) (r : Int64), X5_partsFrom_L4 n v1 v3 = some r → E XP X 0 xm_120 σ (4, [(1, .long v1), (3, .int v3)], [], SH0, [], lg) (some (.long r), SH0, [], lg) := by
  intro n
  induction n with
  | zero => intro v1 v3 r h; rw [X5_partsFrom_L4] at h; cases h
  | succ n ih =>
    intro v1 v3 r h
    rw [X5_partsFrom_L4] at h
    refine E_sts 3 (if 8 ≤ v3 then 22 else 10, [(1, .long v1), (3, .int v3)], [], SH0, [], lg) rfl ?_
    rcases x_br h with ⟨hc, h⟩ | ⟨hc, h⟩
    · refine E_itt hc ?_
      obtain rfl := Option.some.inj h
      refine E_sts 1 (23, [(1, .long v1), (3, .int v3)], [.long v1], SH0, [], lg) rfl ?_
      exact E_ret rfl
    · refine E_itf hc ?_
      refine E_sts 7 (4, [(1, .long (v1 * 10)), (3, .int (v3 + 1))], [], SH0, [], lg) rfl ?_
      exact ih (v1 * 10) (v3 + 1) r h
set_option maxHeartbeats 4000000 in
set_option maxRecDepth 20000 in
theorem e_X5_partsFrom (X : xX) (σ : xM) (lg : Int64) (v0 : Int32) (r : Int64) (h : X5_partsFrom v0 = some r) : EM XP X 1 120 [.int v0] SH0 lg σ (some (.long r), SH0, [], lg) := by
  refine EM_of (M := xm_120) rfl rfl ?_
  unfold X5_partsFrom at h
  refine E_sts 5 (4, [(1, .long 1), (3, .int v0)], [], SH0, [], lg) rfl ?_
  exact e_X5_partsFrom_L4 X σ lg _ 1 v0 r h
set_option maxHeartbeats 4000000 in
set_option maxRecDepth 20000 in
theorem e_X5_curtain_L83 (X : xX) (σ : xM) (lg : Int64) (k41 : Int32 → Int64 → Int64 → Int32 → Option (Int64 × (Nat → Int32))) (h41 : ∀ (v2 : Int32) (v3 : Int64) (v5 : Int64) (v7 : Int32) (r : Int64 × (Nat → Int32)), k41 v2 v3 v5 v7 = some r → E XP X 2 xm_94 σ (41, [(2, .int v2), (3, .long v3), (5, .long v5), (7, .int v7)], [], SH0, [], lg) (some (.long r.1), SH0, [(100, r.2)], lg)) : ∀ (v2 : Int32) (v3 : Int64) (v5 : Int64) (v7 : Int32) (r : Int64 × (Nat → Int32)), X5_curtain_L83 k41 v2 v3 v5 v7 = some r → E XP X 2 xm_94 σ (83, [(2, .int v2), (3, .long v3), (5, .long v5), (7, .int v7)], [], SH0, [], lg) (some (.long r.1), SH0, [(100, r.2)], lg) := by
  intro v2 v3 v5 v7 r h
  unfold X5_curtain_L83 at h
  refine E_sts 2 (87, [(2, .int v2), (3, .long v3), (5, .long v5), (7, .int v7)], [.long 5, .long v3], SH0, [], lg) rfl ?_
  refine E_parn (p := 5 = 0) (88, [(2, .int v2), (3, .long v3), (5, .long v5), (7, .int v7)], [.long (xlrem v3 5)], SH0, [], lg) rfl (by decide) ?_
  refine E_sts 3 (if (lg_cmp (xlrem v3 5) 0) = 0 then 93 else 118, [(2, .int v2), (3, .long v3), (5, .long v5), (7, .int v7)], [], SH0, [], lg) rfl ?_
  rcases x_br h with ⟨hc, h⟩ | ⟨hc, h⟩
  · refine E_itt hc ?_
    refine E_sts 2 (98, [(2, .int v2), (3, .long v3), (5, .long v5), (7, .int v7)], [.long 5, .long v5], SH0, [], lg) rfl ?_
    refine E_parn (p := 5 = 0) (99, [(2, .int v2), (3, .long v3), (5, .long v5), (7, .int v7)], [.long (xlrem v5 5)], SH0, [], lg) rfl (by decide) ?_
    refine E_sts 3 (if (lg_cmp (xlrem v5 5) 0) = 0 then 104 else 118, [(2, .int v2), (3, .long v3), (5, .long v5), (7, .int v7)], [], SH0, [], lg) rfl ?_
    rcases x_br h with ⟨hc, h⟩ | ⟨hc, h⟩
    · refine E_itt hc ?_
      refine E_sts 2 (108, [(2, .int v2), (3, .long v3), (5, .long v5), (7, .int v7)], [.long 5, .long v3], SH0, [], lg) rfl ?_
      refine E_parn (p := 5 = 0) (109, [(2, .int v2), (3, .long v3), (5, .long v5), (7, .int v7)], [.long (v3 / 5)], SH0, [], lg) rfl (by decide) ?_
      refine E_sts 3 (115, [(2, .int v2), (3, .long (v3 / 5)), (5, .long v5), (7, .int v7)], [.long 5, .long v5], SH0, [], lg) rfl ?_
      refine E_parn (p := 5 = 0) (116, [(2, .int v2), (3, .long (v3 / 5)), (5, .long v5), (7, .int v7)], [.long (v5 / 5)], SH0, [], lg) rfl (by decide) ?_
      refine E_sts 4 (41, [(2, .int v2), (3, .long (v3 / 5)), (5, .long (v5 / 5)), (7, .int (v7 + 1))], [], SH0, [], lg) rfl ?_
      exact h41 v2 (v3 / 5) (v5 / 5) (v7 + 1) r h
    · refine E_itf hc ?_
      refine E_sts 3 (41, [(2, .int v2), (3, .long v3), (5, .long v5), (7, .int (v7 + 1))], [], SH0, [], lg) rfl ?_
      exact h41 v2 v3 v5 (v7 + 1) r h
  · refine E_itf hc ?_
    refine E_sts 3 (41, [(2, .int v2), (3, .long v3), (5, .long v5), (7, .int (v7 + 1))], [], SH0, [], lg) rfl ?_
    exact h41 v2 v3 v5 (v7 + 1) r h
set_option maxHeartbeats 4000000 in
set_option maxRecDepth 20000 in
theorem e_X5_curtain_L41 (X : xX) (σ : xM) (lg : Int64) : ∀ (n : Nat), ∀ (v2 : Int32) (v3 : Int64) (v5 : Int64) (v7 : Int32) (r : Int64 × (Nat → Int32)), X5_curtain_L41 (σ 100) n v2 v3 v5 v7 = some r → E XP X 2 xm_94 σ (41, [(2, .int v2), (3, .long v3), (5, .long v5), (7, .int v7)], [], SH0, [], lg) (some (.long r.1), SH0, [(100, r.2)], lg) := by
  intro n
  induction n with
  | zero => intro v2 v3 v5 v7 r h; rw [X5_curtain_L41] at h; cases h
  | succ n ih =>
    intro v2 v3 v5 v7 r h
    rw [X5_curtain_L41] at h
    refine E_sts 3 (if 8 ≤ v7 then 124 else 48, [(2, .int v2), (3, .long v3), (5, .long v5), (7, .int v7)], [], SH0, [], lg) rfl ?_
    rcases x_br h with ⟨hc, h⟩ | ⟨hc, h⟩
    · refine E_itt hc ?_
      refine E_sts 2 (if v2 = 0 then 128 else 132, [(2, .int v2), (3, .long v3), (5, .long v5), (7, .int v7)], [], SH0, [], lg) rfl ?_
      rcases x_br h with ⟨hc, h⟩ | ⟨hc, h⟩
      · refine E_itt hc ?_
        obtain rfl := Option.some.inj h
        refine E_sts 3 (134, [], [.long v3], SH0, [(100, (σ 100))], lg) rfl ?_
        exact E_ret rfl
      · refine E_itf hc ?_
        obtain rfl := Option.some.inj h
        refine E_sts 2 (134, [], [.long v5], SH0, [(100, (σ 100))], lg) rfl ?_
        exact E_ret rfl
    · refine E_itf hc ?_
      refine E_sts 2 (52, [(2, .int v2), (3, .long v3), (5, .long v5), (7, .int v7)], [.long 2, .long v3], SH0, [], lg) rfl ?_
      refine E_parn (p := 2 = 0) (53, [(2, .int v2), (3, .long v3), (5, .long v5), (7, .int v7)], [.long (xlrem v3 2)], SH0, [], lg) rfl (by decide) ?_
      refine E_sts 3 (if (lg_cmp (xlrem v3 2) 0) = 0 then 58 else 100083, [(2, .int v2), (3, .long v3), (5, .long v5), (7, .int v7)], [], SH0, [], lg) rfl ?_
      rcases x_br h with ⟨hc, h⟩ | ⟨hc, h⟩
      · refine E_itt hc ?_
        refine E_sts 2 (63, [(2, .int v2), (3, .long v3), (5, .long v5), (7, .int v7)], [.long 2, .long v5], SH0, [], lg) rfl ?_
        refine E_parn (p := 2 = 0) (64, [(2, .int v2), (3, .long v3), (5, .long v5), (7, .int v7)], [.long (xlrem v5 2)], SH0, [], lg) rfl (by decide) ?_
        refine E_sts 3 (if (lg_cmp (xlrem v5 2) 0) = 0 then 69 else 100083, [(2, .int v2), (3, .long v3), (5, .long v5), (7, .int v7)], [], SH0, [], lg) rfl ?_
        rcases x_br h with ⟨hc, h⟩ | ⟨hc, h⟩
        · refine E_itt hc ?_
          refine E_sts 2 (73, [(2, .int v2), (3, .long v3), (5, .long v5), (7, .int v7)], [.long 2, .long v3], SH0, [], lg) rfl ?_
          refine E_parn (p := 2 = 0) (74, [(2, .int v2), (3, .long v3), (5, .long v5), (7, .int v7)], [.long (v3 / 2)], SH0, [], lg) rfl (by decide) ?_
          refine E_sts 3 (80, [(2, .int v2), (3, .long (v3 / 2)), (5, .long v5), (7, .int v7)], [.long 2, .long v5], SH0, [], lg) rfl ?_
          refine E_parn (p := 2 = 0) (81, [(2, .int v2), (3, .long (v3 / 2)), (5, .long v5), (7, .int v7)], [.long (v5 / 2)], SH0, [], lg) rfl (by decide) ?_
          refine E_sts 2 (83, [(2, .int v2), (3, .long (v3 / 2)), (5, .long (v5 / 2)), (7, .int v7)], [], SH0, [], lg) rfl ?_
          exact e_X5_curtain_L83 X σ lg _ (fun v20 v30 v50 v70 r h => ih v20 v30 v50 v70 r h) v2 (v3 / 2) (v5 / 2) v7 r h
        · refine E_itf hc ?_
          refine E_sts 1 (83, [(2, .int v2), (3, .long v3), (5, .long v5), (7, .int v7)], [], SH0, [], lg) rfl ?_
          exact e_X5_curtain_L83 X σ lg _ (fun v20 v30 v50 v70 r h => ih v20 v30 v50 v70 r h) v2 v3 v5 v7 r h
      · refine E_itf hc ?_
        refine E_sts 1 (83, [(2, .int v2), (3, .long v3), (5, .long v5), (7, .int v7)], [], SH0, [], lg) rfl ?_
        exact e_X5_curtain_L83 X σ lg _ (fun v20 v30 v50 v70 r h => ih v20 v30 v50 v70 r h) v2 v3 v5 v7 r h
set_option maxHeartbeats 4000000 in
set_option maxRecDepth 20000 in
theorem e_X5_curtain (X : xX) (σ : xM) (lg : Int64) (v1 : Int32) (v2 : Int32) (r : Int64 × (Nat → Int32)) (h : X5_curtain (σ 100) (σ 700) v1 v2 = some r) : EM XP X 3 94 [.ref 0, .int v1, .int v2] SH0 lg σ (some (.long r.1), SH0, [(100, r.2)], lg) := by
  refine EM_of (M := xm_94) rfl rfl ?_
  unfold X5_curtain at h
  refine E_sts 3 (4, [(0, .ref 0), (1, .int v1), (2, .int v2)], [.int 8, .int 0, .int v1], SH0, [], lg) rfl ?_
  refine E_call rfl (e_X5_isIn X _ _ _ _ _ (X5_isIn v1 0 8) rfl) (by decide) ?_
  refine E_sts 1 (if (xb (X5_isIn v1 0 8)) = 0 then 19 else 10, [(0, .ref 0), (1, .int v1), (2, .int v2)], [], SH0, [], lg) rfl ?_
  rcases x_br h with ⟨hc, h⟩ | ⟨hc, h⟩
  · refine E_itt hc ?_
    refine E_sts 2 (21, [(0, .ref 0), (1, .int v1), (2, .int v2)], [.int 0, .ref 0], SH0, [], lg) rfl ?_
    obtain ⟨r21, hr, h⟩ := x_bind h
    refine E_call rfl (e_X5_finding X _ _ _ r21 hr) (by decide) ?_
    obtain rfl := Option.some.inj h
    refine E_sts 1 (25, [(0, .ref 0), (1, .int v1), (2, .int v2)], [.long (Int32.toInt64 r21.1)], SH0, [(100, r21.2)], lg) rfl ?_
    exact E_ret rfl
  · refine E_itf hc ?_
    refine E_sts 3 (13, [(0, .ref 0), (1, .int v1), (2, .int v2)], [.int 1, .int 0, .int v2], SH0, [], lg) rfl ?_
    refine E_call rfl (e_X5_isIn X _ _ _ _ _ (X5_isIn v2 0 1) rfl) (by decide) ?_
    refine E_sts 1 (if (xb (X5_isIn v2 0 1)) = 0 then 19 else 26, [(0, .ref 0), (1, .int v1), (2, .int v2)], [], SH0, [], lg) rfl ?_
    rcases x_br h with ⟨hc, h⟩ | ⟨hc, h⟩
    · refine E_itt hc ?_
      refine E_sts 2 (21, [(0, .ref 0), (1, .int v1), (2, .int v2)], [.int 0, .ref 0], SH0, [], lg) rfl ?_
      obtain ⟨r21_1, hr, h⟩ := x_bind h
      refine E_call rfl (e_X5_finding X _ _ _ r21_1 hr) (by decide) ?_
      obtain rfl := Option.some.inj h
      refine E_sts 1 (25, [(0, .ref 0), (1, .int v1), (2, .int v2)], [.long (Int32.toInt64 r21_1.1)], SH0, [(100, r21_1.2)], lg) rfl ?_
      exact E_ret rfl
    · refine E_itf hc ?_
      refine E_sts 2 (28, [(0, .ref 0), (1, .int v1), (2, .int v2)], [.int v1, .ref 0], SH0, [], lg) rfl ?_
      obtain ⟨r28, hr, h⟩ := x_bind h
      refine E_call rfl (e_X5_worth X _ _ _ r28 hr) (by decide) ?_
      refine E_sts 2 (33, [(0, .ref 0), (1, .int v1), (2, .int v2), (3, .long r28)], [.int v1], SH0, [], lg) rfl ?_
      obtain ⟨r33, hr, h⟩ := x_bind h
      refine E_call rfl (e_X5_partsFrom X _ _ _ r33 hr) (by decide) ?_
      refine E_sts 4 (41, [(2, .int v2), (3, .long r28), (5, .long r33), (7, .int 0)], [], SH0, [], lg) rfl ?_
      exact e_X5_curtain_L41 X σ lg _ v2 r28 r33 0 r h
set_option maxHeartbeats 4000000 in
set_option maxRecDepth 20000 in
theorem e_X6_silentAt (X : xX) (σ : xM) (lg : Int64) (v1 : Int32) (r : Int32) (h : X6_silentAt (σ 5300) v1 = some r) : EM XP X 1 179 [.ref 52, .int v1] SH0 lg σ (some (.int r), SH0, [], lg) := by
  refine EM_of (M := xm_179) rfl rfl ?_
  unfold X6_silentAt at h
  refine E_sts 3 (6, [(0, .ref 52), (1, .int v1)], [.int 6, .ref 53], SH0, [], lg) rfl ?_
  refine E_par (p := inr 6 83) (7, [(0, .ref 52), (1, .int v1)], [.int ((σ 5300) 6)], SH0, [], lg) rfl (by decide) ?_
  refine E_sts 6 (if (((σ 5300) 6) * v1) ≤ 10 then 21 else 16, [(0, .ref 52), (1, .int v1), (2, .int (((σ 5300) 6) * v1))], [], SH0, [], lg) rfl ?_
  rcases x_br h with ⟨hc, h⟩ | ⟨hc, h⟩
  · refine E_itt hc ?_
    obtain rfl := Option.some.inj h
    refine E_sts 1 (22, [(0, .ref 52), (1, .int v1), (2, .int (((σ 5300) 6) * v1))], [.int (((σ 5300) 6) * v1)], SH0, [], lg) rfl ?_
    exact E_ret rfl
  · refine E_itf hc ?_
    obtain rfl := Option.some.inj h
    refine E_sts 2 (22, [(0, .ref 52), (1, .int v1), (2, .int (((σ 5300) 6) * v1))], [.int 10], SH0, [], lg) rfl ?_
    exact E_ret rfl
set_option maxHeartbeats 4000000 in
set_option maxRecDepth 20000 in
theorem e_X6_tens_L4 (X : xX) (σ : xM) (lg : Int64) : ∀ (n : Nat), ∀ (v0 : Int32) (v1 : Int64) (v3 : Int32) (r : Int64), X6_tens_L4 n v0 v1 v3 = some r → E XP X 0 xm_180 σ (4, [(0, .int v0), (1, .long v1), (3, .int v3)], [], SH0, [], lg) (some (.long r), SH0, [], lg) := by
  intro n
  induction n with
  | zero => intro v0 v1 v3 r h; rw [X6_tens_L4] at h; cases h
  | succ n ih =>
    intro v0 v1 v3 r h
    rw [X6_tens_L4] at h
    refine E_sts 3 (if v0 ≤ v3 then 21 else 9, [(0, .int v0), (1, .long v1), (3, .int v3)], [], SH0, [], lg) rfl ?_
    rcases x_br h with ⟨hc, h⟩ | ⟨hc, h⟩
    · refine E_itt hc ?_
      obtain rfl := Option.some.inj h
      refine E_sts 1 (22, [(0, .int v0), (1, .long v1), (3, .int v3)], [.long v1], SH0, [], lg) rfl ?_
      exact E_ret rfl
    · refine E_itf hc ?_
      refine E_sts 7 (4, [(0, .int v0), (1, .long (v1 * 10)), (3, .int (v3 + 1))], [], SH0, [], lg) rfl ?_
      exact ih v0 (v1 * 10) (v3 + 1) r h
set_option maxHeartbeats 4000000 in
set_option maxRecDepth 20000 in
theorem e_X6_tens (X : xX) (σ : xM) (lg : Int64) (v0 : Int32) (r : Int64) (h : X6_tens v0 = some r) : EM XP X 1 180 [.int v0] SH0 lg σ (some (.long r), SH0, [], lg) := by
  refine EM_of (M := xm_180) rfl rfl ?_
  unfold X6_tens at h
  refine E_sts 5 (4, [(0, .int v0), (1, .long 1), (3, .int 0)], [], SH0, [], lg) rfl ?_
  exact e_X6_tens_L4 X σ lg _ v0 1 0 r h
set_option maxHeartbeats 4000000 in
set_option maxRecDepth 20000 in
theorem e_X6_worthFrom_L6 (X : xX) (σ : xM) (lg : Int64) : ∀ (n : Nat), ∀ (v1 : Int32) (v2 : Int64) (v4 : Int32) (r : Int64), X6_worthFrom_L6 (σ 5300) n v1 v2 v4 = some r → E XP X 1 xm_181 σ (6, [(0, .ref 52), (1, .int v1), (2, .long v2), (4, .int v4)], [], SH0, [], lg) (some (.long r), SH0, [], lg) := by
  intro n
  induction n with
  | zero => intro v1 v2 v4 r h; rw [X6_worthFrom_L6] at h; cases h
  | succ n ih =>
    intro v1 v2 v4 r h
    rw [X6_worthFrom_L6] at h
    refine E_sts 3 (if v4 < v1 then 105 else 12, [(0, .ref 52), (1, .int v1), (2, .long v2), (4, .int v4)], [], SH0, [], lg) rfl ?_
    rcases x_br h with ⟨hc, h⟩ | ⟨hc, h⟩
    · refine E_itt hc ?_
      obtain rfl := Option.some.inj h
      refine E_sts 1 (106, [(0, .ref 52), (1, .int v1), (2, .long v2), (4, .int v4)], [.long v2], SH0, [], lg) rfl ?_
      exact E_ret rfl
    · refine E_itf hc ?_
      refine E_sts 3 (18, [(0, .ref 52), (1, .int v1), (2, .long v2), (4, .int v4)], [.int v4, .ref 52, .long 10], SH0, [], lg) rfl ?_
      obtain ⟨r18, hr, h⟩ := x_bind h
      refine E_call rfl (e_X6_silentAt X _ _ _ r18 hr) (by decide) ?_
      refine E_sts 5 (29, [(0, .ref 52), (1, .int v1), (2, .long v2), (4, .int v4)], [.int 7, .ref 53, .long (10 - (Int32.toInt64 r18))], SH0, [], lg) rfl ?_
      refine E_par (p := inr 7 83) (30, [(0, .ref 52), (1, .int v1), (2, .long v2), (4, .int v4)], [.int ((σ 5300) 7), .long (10 - (Int32.toInt64 r18))], SH0, [], lg) rfl (by decide) ?_
      refine E_sts 4 (37, [(0, .ref 52), (1, .int v1), (2, .long v2), (4, .int v4)], [.int 5, .ref 53, .int v4, .int ((σ 5300) 7), .long (10 - (Int32.toInt64 r18))], SH0, [], lg) rfl ?_
      refine E_par (p := inr 5 83) (38, [(0, .ref 52), (1, .int v1), (2, .long v2), (4, .int v4)], [.int ((σ 5300) 5), .int v4, .int ((σ 5300) 7), .long (10 - (Int32.toInt64 r18))], SH0, [], lg) rfl (by decide) ?_
      refine E_sts 6 (45, [(0, .ref 52), (1, .int v1), (2, .long v2), (4, .int v4)], [.int v4, .ref 52, .long ((10 - (Int32.toInt64 r18)) * (Int32.toInt64 (((σ 5300) 7) - (v4 * ((σ 5300) 5)))))], SH0, [], lg) rfl ?_
      obtain ⟨r45, hr, h⟩ := x_bind h
      refine E_call rfl (e_X6_silentAt X _ _ _ r45 hr) (by decide) ?_
      refine E_sts 4 (55, [(0, .ref 52), (1, .int v1), (2, .long v2), (4, .int v4)], [.int 8, .ref 53, .long (Int32.toInt64 r45), .long ((10 - (Int32.toInt64 r18)) * (Int32.toInt64 (((σ 5300) 7) - (v4 * ((σ 5300) 5)))))], SH0, [], lg) rfl ?_
      refine E_par (p := inr 8 83) (56, [(0, .ref 52), (1, .int v1), (2, .long v2), (4, .int v4)], [.int ((σ 5300) 8), .long (Int32.toInt64 r45), .long ((10 - (Int32.toInt64 r18)) * (Int32.toInt64 (((σ 5300) 7) - (v4 * ((σ 5300) 5)))))], SH0, [], lg) rfl (by decide) ?_
      refine E_sts 8 (68, [(0, .ref 52), (1, .int v1), (2, .long v2), (4, .int v4), (5, .long (((10 - (Int32.toInt64 r18)) * (Int32.toInt64 (((σ 5300) 7) - (v4 * ((σ 5300) 5))))) - ((Int32.toInt64 r45) * (Int32.toInt64 ((σ 5300) 8)))))], [.int (7 - v4), .long (((10 - (Int32.toInt64 r18)) * (Int32.toInt64 (((σ 5300) 7) - (v4 * ((σ 5300) 5))))) - ((Int32.toInt64 r45) * (Int32.toInt64 ((σ 5300) 8))))], SH0, [], lg) rfl ?_
      obtain ⟨r68, hr, h⟩ := x_bind h
      refine E_call rfl (e_X6_tens X _ _ _ r68 hr) (by decide) ?_
      refine E_sts 4 (78, [(0, .ref 52), (1, .int v1), (2, .long v2), (4, .int v4), (5, .long (((10 - (Int32.toInt64 r18)) * (Int32.toInt64 (((σ 5300) 7) - (v4 * ((σ 5300) 5))))) - ((Int32.toInt64 r45) * (Int32.toInt64 ((σ 5300) 8)))))], [.int v4, .ref 52, .long 10, .long ((((10 - (Int32.toInt64 r18)) * (Int32.toInt64 (((σ 5300) 7) - (v4 * ((σ 5300) 5))))) - ((Int32.toInt64 r45) * (Int32.toInt64 ((σ 5300) 8)))) * r68)], SH0, [], lg) rfl ?_
      obtain ⟨r78, hr, h⟩ := x_bind h
      refine E_call rfl (e_X6_silentAt X _ _ _ r78 hr) (by decide) ?_
      refine E_sts 10 (if 0 ≤ (lg_cmp (((((10 - (Int32.toInt64 r18)) * (Int32.toInt64 (((σ 5300) 7) - (v4 * ((σ 5300) 5))))) - ((Int32.toInt64 r45) * (Int32.toInt64 ((σ 5300) 8)))) * r68) + ((10 - (Int32.toInt64 r78)) * v2)) 0) then 97 else 93, [(0, .ref 52), (1, .int v1), (2, .long (((((10 - (Int32.toInt64 r18)) * (Int32.toInt64 (((σ 5300) 7) - (v4 * ((σ 5300) 5))))) - ((Int32.toInt64 r45) * (Int32.toInt64 ((σ 5300) 8)))) * r68) + ((10 - (Int32.toInt64 r78)) * v2))), (4, .int v4), (5, .long (((10 - (Int32.toInt64 r18)) * (Int32.toInt64 (((σ 5300) 7) - (v4 * ((σ 5300) 5))))) - ((Int32.toInt64 r45) * (Int32.toInt64 ((σ 5300) 8)))))], [], SH0, [], lg) rfl ?_
      rcases x_br h with ⟨hc, h⟩ | ⟨hc, h⟩
      · refine E_itt hc ?_
        refine E_sts 5 (6, [(0, .ref 52), (1, .int v1), (2, .long (((((10 - (Int32.toInt64 r18)) * (Int32.toInt64 (((σ 5300) 7) - (v4 * ((σ 5300) 5))))) - ((Int32.toInt64 r45) * (Int32.toInt64 ((σ 5300) 8)))) * r68) + ((10 - (Int32.toInt64 r78)) * v2))), (4, .int (v4 + (-1)))], [], SH0, [], lg) rfl ?_
        exact ih v1 (((((10 - (Int32.toInt64 r18)) * (Int32.toInt64 (((σ 5300) 7) - (v4 * ((σ 5300) 5))))) - ((Int32.toInt64 r45) * (Int32.toInt64 ((σ 5300) 8)))) * r68) + ((10 - (Int32.toInt64 r78)) * v2)) (v4 + (-1)) r h
      · refine E_itf hc ?_
        refine E_sts 6 (6, [(0, .ref 52), (1, .int v1), (2, .long 0), (4, .int (v4 + (-1)))], [], SH0, [], lg) rfl ?_
        exact ih v1 0 (v4 + (-1)) r h
set_option maxHeartbeats 4000000 in
set_option maxRecDepth 20000 in
theorem e_X6_worthFrom (X : xX) (σ : xM) (lg : Int64) (v1 : Int32) (r : Int64) (h : X6_worthFrom (σ 5300) v1 = some r) : EM XP X 2 181 [.ref 52, .int v1] SH0 lg σ (some (.long r), SH0, [], lg) := by
  refine EM_of (M := xm_181) rfl rfl ?_
  unfold X6_worthFrom at h
  refine E_sts 5 (6, [(0, .ref 52), (1, .int v1), (2, .long 0), (4, .int 7)], [], SH0, [], lg) rfl ?_
  exact e_X6_worthFrom_L6 X σ lg _ v1 0 7 r h
set_option maxHeartbeats 4000000 in
set_option maxRecDepth 20000 in
theorem e_X6_curtain_L48 (X : xX) (σ : xM) (lg : Int64) : ∀ (n : Nat), ∀ (v2 : Int32) (v3 : Int64) (v5 : Int64) (v7 : Int64) (v9 : Int64) (r : Int64 × (Nat → Int32)), X6_curtain_L48 (σ 5600) n v2 v3 v5 v7 v9 = some r → E XP X 2 xm_182 σ (48, [(2, .int v2), (3, .long v3), (5, .long v5), (7, .long v7), (9, .long v9)], [], SH0, [], lg) (some (.long r.1), SH0, [(5600, r.2)], lg) := by
  intro n
  induction n with
  | zero => intro v2 v3 v5 v7 v9 r h; rw [X6_curtain_L48] at h; cases h
  | succ n ih =>
    intro v2 v3 v5 v7 v9 r h
    rw [X6_curtain_L48] at h
    refine E_sts 4 (if (lg_cmp v9 0) = 0 then 73 else 55, [(2, .int v2), (3, .long v3), (5, .long v5), (7, .long v7), (9, .long v9)], [], SH0, [], lg) rfl ?_
    rcases x_br h with ⟨hc, h⟩ | ⟨hc, h⟩
    · refine E_itt hc ?_
      refine E_sts 2 (if v2 = 0 then 77 else 84, [(2, .int v2), (3, .long v3), (5, .long v5), (7, .long v7), (9, .long v9)], [], SH0, [], lg) rfl ?_
      rcases x_br h with ⟨hc, h⟩ | ⟨hc, h⟩
      · refine E_itt hc ?_
        refine E_sts 2 (80, [(2, .int v2), (3, .long v3), (5, .long v5), (7, .long v7), (9, .long v9)], [.long v7, .long v3], SH0, [], lg) rfl ?_
        obtain ⟨hp, h⟩ := x_iteN h
        refine E_parn (p := v7 = 0) (81, [(2, .int v2), (3, .long v3), (5, .long v5), (7, .long v7), (9, .long v9)], [.long (v3 / v7)], SH0, [], lg) rfl hp ?_
        obtain rfl := Option.some.inj h
        refine E_sts 2 (89, [], [.long (v3 / v7)], SH0, [(5600, (σ 5600))], lg) rfl ?_
        exact E_ret rfl
      · refine E_itf hc ?_
        refine E_sts 2 (88, [(2, .int v2), (3, .long v3), (5, .long v5), (7, .long v7), (9, .long v9)], [.long v7, .long v5], SH0, [], lg) rfl ?_
        obtain ⟨hp, h⟩ := x_iteN h
        refine E_parn (p := v7 = 0) (100089, [(2, .int v2), (3, .long v3), (5, .long v5), (7, .long v7), (9, .long v9)], [.long (v5 / v7)], SH0, [], lg) rfl hp ?_
        obtain rfl := Option.some.inj h
        refine E_sts 1 (89, [], [.long (v5 / v7)], SH0, [(5600, (σ 5600))], lg) rfl ?_
        exact E_ret rfl
    · refine E_itf hc ?_
      refine E_sts 2 (59, [(2, .int v2), (3, .long v3), (5, .long v5), (7, .long v7), (9, .long v9)], [.long v9, .long v7], SH0, [], lg) rfl ?_
      obtain ⟨hp, h⟩ := x_iteN h
      refine E_parn (p := v9 = 0) (60, [(2, .int v2), (3, .long v3), (5, .long v5), (7, .long v7), (9, .long v9)], [.long (xlrem v7 v9)], SH0, [], lg) rfl hp ?_
      refine E_sts 7 (48, [(2, .int v2), (3, .long v3), (5, .long v5), (7, .long v9), (9, .long (xlrem v7 v9))], [], SH0, [], lg) rfl ?_
      exact ih v2 v3 v5 v9 (xlrem v7 v9) r h
set_option maxHeartbeats 4000000 in
set_option maxRecDepth 20000 in
theorem e_X6_curtain (X : xX) (σ : xM) (lg : Int64) (v1 : Int32) (v2 : Int32) (r : Int64 × (Nat → Int32)) (h : X6_curtain (σ 5300) (σ 5600) v1 v2 = some r) : EM XP X 3 182 [.ref 52, .int v1, .int v2] SH0 lg σ (some (.long r.1), SH0, [(5600, r.2)], lg) := by
  refine EM_of (M := xm_182) rfl rfl ?_
  unfold X6_curtain at h
  refine E_sts 3 (4, [(0, .ref 52), (1, .int v1), (2, .int v2)], [.int 8, .int 0, .int v1], SH0, [], lg) rfl ?_
  refine E_call rfl (e_X6_in1 X _ _ _ _ _ (X6_in1 v1 0 8) rfl) (by decide) ?_
  refine E_sts 1 (if (xb (X6_in1 v1 0 8)) = 0 then 19 else 10, [(0, .ref 52), (1, .int v1), (2, .int v2)], [], SH0, [], lg) rfl ?_
  rcases x_br h with ⟨hc, h⟩ | ⟨hc, h⟩
  · refine E_itt hc ?_
    refine E_sts 2 (21, [(0, .ref 52), (1, .int v1), (2, .int v2)], [.int 0, .ref 52], SH0, [], lg) rfl ?_
    obtain ⟨r21, hr, h⟩ := x_bind h
    refine E_call rfl (e_X6_no X _ _ _ r21 hr) (by decide) ?_
    obtain rfl := Option.some.inj h
    refine E_sts 1 (25, [(0, .ref 52), (1, .int v1), (2, .int v2)], [.long (Int32.toInt64 r21.1)], SH0, [(5600, r21.2)], lg) rfl ?_
    exact E_ret rfl
  · refine E_itf hc ?_
    refine E_sts 3 (13, [(0, .ref 52), (1, .int v1), (2, .int v2)], [.int 1, .int 0, .int v2], SH0, [], lg) rfl ?_
    refine E_call rfl (e_X6_in1 X _ _ _ _ _ (X6_in1 v2 0 1) rfl) (by decide) ?_
    refine E_sts 1 (if (xb (X6_in1 v2 0 1)) = 0 then 19 else 26, [(0, .ref 52), (1, .int v1), (2, .int v2)], [], SH0, [], lg) rfl ?_
    rcases x_br h with ⟨hc, h⟩ | ⟨hc, h⟩
    · refine E_itt hc ?_
      refine E_sts 2 (21, [(0, .ref 52), (1, .int v1), (2, .int v2)], [.int 0, .ref 52], SH0, [], lg) rfl ?_
      obtain ⟨r21_1, hr, h⟩ := x_bind h
      refine E_call rfl (e_X6_no X _ _ _ r21_1 hr) (by decide) ?_
      obtain rfl := Option.some.inj h
      refine E_sts 1 (25, [(0, .ref 52), (1, .int v1), (2, .int v2)], [.long (Int32.toInt64 r21_1.1)], SH0, [(5600, r21_1.2)], lg) rfl ?_
      exact E_ret rfl
    · refine E_itf hc ?_
      refine E_sts 2 (28, [(0, .ref 52), (1, .int v1), (2, .int v2)], [.int v1, .ref 52], SH0, [], lg) rfl ?_
      obtain ⟨r28, hr, h⟩ := x_bind h
      refine E_call rfl (e_X6_worthFrom X _ _ _ r28 hr) (by decide) ?_
      refine E_sts 4 (36, [(0, .ref 52), (1, .int v1), (2, .int v2), (3, .long r28)], [.int (8 - v1)], SH0, [], lg) rfl ?_
      obtain ⟨r36, hr, h⟩ := x_bind h
      refine E_call rfl (e_X6_tens X _ _ _ r36 hr) (by decide) ?_
      refine E_sts 6 (48, [(2, .int v2), (3, .long r28), (5, .long r36), (7, .long r28), (9, .long r36)], [], SH0, [], lg) rfl ?_
      exact e_X6_curtain_L48 X σ lg _ v2 r28 r36 r28 r36 r h
set_option maxHeartbeats 4000000 in
set_option maxRecDepth 20000 in
theorem e_X5_stop_L2 (X : xX) (σ : xM) (lg : Int64) : ∀ (n : Nat), ∀ (v1 : Int32) (r : Int32), X5_stop_L2 (σ 700) n v1 = some r → E XP X 2 xm_95 σ (2, [(0, .ref 0), (1, .int v1)], [], SH0, [], lg) (some (.int r), SH0, [], lg) := by
  intro n
  induction n with
  | zero => intro v1 r h; rw [X5_stop_L2] at h; cases h
  | succ n ih =>
    intro v1 r h
    rw [X5_stop_L2] at h
    refine E_sts 3 (if 8 ≤ v1 then 26 else 8, [(0, .ref 0), (1, .int v1)], [], SH0, [], lg) rfl ?_
    rcases x_br h with ⟨hc, h⟩ | ⟨hc, h⟩
    · refine E_itt hc ?_
      obtain rfl := Option.some.inj h
      refine E_sts 1 (28, [(0, .ref 0), (1, .int v1)], [.int 8], SH0, [], lg) rfl ?_
      exact E_ret rfl
    · refine E_itf hc ?_
      refine E_sts 2 (10, [(0, .ref 0), (1, .int v1)], [.int v1, .ref 0], SH0, [], lg) rfl ?_
      obtain ⟨r10, hr, h⟩ := x_bind h
      refine E_call rfl (e_X5_worth X _ _ _ r10 hr) (by decide) ?_
      refine E_sts 3 (if (lg_cmp r10 0) = 0 then 18 else 20, [(0, .ref 0), (1, .int v1)], [], SH0, [], lg) rfl ?_
      rcases x_br h with ⟨hc, h⟩ | ⟨hc, h⟩
      · refine E_itt hc ?_
        obtain rfl := Option.some.inj h
        refine E_sts 1 (19, [(0, .ref 0), (1, .int v1)], [.int v1], SH0, [], lg) rfl ?_
        exact E_ret rfl
      · refine E_itf hc ?_
        refine E_sts 3 (2, [(0, .ref 0), (1, .int (v1 + 1))], [], SH0, [], lg) rfl ?_
        exact ih (v1 + 1) r h
set_option maxHeartbeats 4000000 in
set_option maxRecDepth 20000 in
theorem e_X5_stop (X : xX) (σ : xM) (lg : Int64) (r : Int32) (h : X5_stop (σ 700) = some r) : EM XP X 3 95 [.ref 0] SH0 lg σ (some (.int r), SH0, [], lg) := by
  refine EM_of (M := xm_95) rfl rfl ?_
  unfold X5_stop at h
  refine E_sts 3 (2, [(0, .ref 0), (1, .int 0)], [], SH0, [], lg) rfl ?_
  exact e_X5_stop_L2 X σ lg _ 0 r h
set_option maxHeartbeats 4000000 in
set_option maxRecDepth 20000 in
theorem e_X6_stop_L3 (X : xX) (σ : xM) (lg : Int64) : ∀ (n : Nat), ∀ (v1 : Int32) (r : Int32), X6_stop_L3 (σ 5300) n v1 = some r → E XP X 2 xm_183 σ (3, [(0, .ref 52), (1, .int v1)], [], SH0, [], lg) (some (.int r), SH0, [], lg) := by
  intro n
  induction n with
  | zero => intro v1 r h; rw [X6_stop_L3] at h; cases h
  | succ n ih =>
    intro v1 r h
    rw [X6_stop_L3] at h
    refine E_sts 2 (if v1 ≤ 0 then 25 else 7, [(0, .ref 52), (1, .int v1)], [], SH0, [], lg) rfl ?_
    rcases x_br h with ⟨hc, h⟩ | ⟨hc, h⟩
    · refine E_itt hc ?_
      obtain rfl := Option.some.inj h
      refine E_sts 1 (26, [(0, .ref 52), (1, .int v1)], [.int v1], SH0, [], lg) rfl ?_
      exact E_ret rfl
    · refine E_itf hc ?_
      refine E_sts 4 (11, [(0, .ref 52), (1, .int v1)], [.int (v1 - 1), .ref 52], SH0, [], lg) rfl ?_
      obtain ⟨r11, hr, h⟩ := x_bind h
      refine E_call rfl (e_X6_worthFrom X _ _ _ r11 hr) (by decide) ?_
      refine E_sts 3 (if (lg_cmp r11 0) = 0 then 19 else 25, [(0, .ref 52), (1, .int v1)], [], SH0, [], lg) rfl ?_
      rcases x_br h with ⟨hc, h⟩ | ⟨hc, h⟩
      · refine E_itt hc ?_
        refine E_sts 3 (3, [(0, .ref 52), (1, .int (v1 + (-1)))], [], SH0, [], lg) rfl ?_
        exact ih (v1 + (-1)) r h
      · refine E_itf hc ?_
        obtain rfl := Option.some.inj h
        refine E_sts 1 (26, [(0, .ref 52), (1, .int v1)], [.int v1], SH0, [], lg) rfl ?_
        exact E_ret rfl
set_option maxHeartbeats 4000000 in
set_option maxRecDepth 20000 in
theorem e_X6_stop (X : xX) (σ : xM) (lg : Int64) (r : Int32) (h : X6_stop (σ 5300) = some r) : EM XP X 3 183 [.ref 52] SH0 lg σ (some (.int r), SH0, [], lg) := by
  refine EM_of (M := xm_183) rfl rfl ?_
  unfold X6_stop at h
  refine E_sts 3 (3, [(0, .ref 52), (1, .int 8)], [], SH0, [], lg) rfl ?_
  exact e_X6_stop_L3 X σ lg _ 8 r h
set_option maxHeartbeats 4000000 in
set_option maxRecDepth 20000 in
theorem e_X2_draw (X : xX) (σ : xM) (lg : Int64) (r : Int32 × Int32) (h : X2_draw (σ 214 0) = some r) : EM XP X 1 39 [.ref 2] SH0 lg σ (some (.int r.1), SH0, [(214, fun _ => r.2)], lg) := by
  refine EM_of (M := xm_39) rfl rfl ?_
  unfold X2_draw at h
  obtain rfl := Option.some.inj h
  refine E_sts 12 (22, [(0, .ref 2)], [.int (xush (((σ 214 0) * 1103515245) + 12345) 8)], SH0, [(214, fun _ => (((σ 214 0) * 1103515245) + 12345))], lg) rfl ?_
  exact E_ret rfl
set_option maxHeartbeats 4000000 in
set_option maxRecDepth 20000 in
theorem e_X5_evening_L20 (X : xX) (σ : xM) (lg : Int64) : ∀ (n : Nat), ∀ (v1 : Int32) (v2 : Int32) (v3 : Int32) (sc_z_ : Int32) (r : Int32 × (Nat → Int32) × Int32), X5_evening_L20 (σ 100) (σ 700) n v1 v2 v3 sc_z_ = some r → E XP X 1 xm_96 σ (20, [(0, .ref 0), (1, .int v1), (2, .int v2), (3, .int v3)], [], SH0, [(214, fun _ => sc_z_)], lg) (some (.int r.1), SH0, [(100, r.2.1), (214, fun _ => r.2.2)], lg) := by
  intro n
  induction n with
  | zero => intro v1 v2 v3 sc_z_ r h; rw [X5_evening_L20] at h; cases h
  | succ n ih =>
    intro v1 v2 v3 sc_z_ r h
    rw [X5_evening_L20] at h
    refine E_sts 3 (if v1 ≤ v3 then 75 else 25, [(0, .ref 0), (1, .int v1), (2, .int v2), (3, .int v3)], [], SH0, [(214, fun _ => sc_z_)], lg) rfl ?_
    rcases x_br h with ⟨hc, h⟩ | ⟨hc, h⟩
    · refine E_itt hc ?_
      obtain rfl := Option.some.inj h
      refine E_sts 2 (76, [], [.int v2], SH0, [(100, (σ 100)), (214, fun _ => sc_z_)], lg) rfl ?_
      exact E_ret rfl
    · refine E_itf hc ?_
      refine E_sts 2 (29, [(0, .ref 0), (1, .int v1), (2, .int v2), (3, .int v3)], [.ref 2], SH0, [(214, fun _ => sc_z_)], lg) rfl ?_
      obtain ⟨r29, hr, h⟩ := x_bind h
      refine E_call rfl (e_X2_draw X _ _ r29 hr) (by decide) ?_
      refine E_sts 1 (34, [(0, .ref 0), (1, .int v1), (2, .int v2), (3, .int v3)], [.int 10, .int r29.1], SH0, [(214, fun _ => r29.2)], lg) rfl ?_
      refine E_parn (p := 10 = 0) (35, [(0, .ref 0), (1, .int v1), (2, .int v2), (3, .int v3)], [.int (xirem r29.1 10)], SH0, [(214, fun _ => r29.2)], lg) rfl (by decide) ?_
      refine E_sts 4 (43, [(0, .ref 0), (1, .int v1), (2, .int v2), (3, .int v3)], [.int 1, .ref 7, .int (xirem r29.1 10)], SH0, [(214, fun _ => r29.2)], lg) rfl ?_
      refine E_par (p := inr 1 5) (44, [(0, .ref 0), (1, .int v1), (2, .int v2), (3, .int v3)], [.int ((σ 700) 1), .int (xirem r29.1 10)], SH0, [(214, fun _ => r29.2)], lg) rfl (by decide) ?_
      refine E_sts 3 (if (((σ 700) 1) * v3) ≤ (xirem r29.1 10) then 61 else 49, [(0, .ref 0), (1, .int v1), (2, .int v2), (3, .int v3)], [], SH0, [(214, fun _ => r29.2)], lg) rfl ?_
      rcases x_br h with ⟨hc, h⟩ | ⟨hc, h⟩
      · refine E_itt hc ?_
        refine E_sts 3 (64, [(0, .ref 0), (1, .int v1), (2, .int v2), (3, .int v3)], [.int v3, .ref 0, .int v2], SH0, [(214, fun _ => r29.2)], lg) rfl ?_
        obtain ⟨r64, hr, h⟩ := x_bind h
        refine E_call rfl (e_X5_gainAt X _ _ _ r64 hr) (by decide) ?_
        refine E_sts 5 (20, [(0, .ref 0), (1, .int v1), (2, .int (v2 + r64)), (3, .int (v3 + 1))], [], SH0, [(214, fun _ => r29.2)], lg) rfl ?_
        exact ih v1 (v2 + r64) (v3 + 1) r29.2 r h
      · refine E_itf hc ?_
        refine E_sts 5 (58, [(0, .ref 0), (1, .int v1), (2, .int v2), (3, .int v3)], [.int 3, .ref 7, .int v2], SH0, [(214, fun _ => r29.2)], lg) rfl ?_
        refine E_par (p := inr 3 5) (59, [(0, .ref 0), (1, .int v1), (2, .int v2), (3, .int v3)], [.int ((σ 700) 3), .int v2], SH0, [(214, fun _ => r29.2)], lg) rfl (by decide) ?_
        obtain rfl := Option.some.inj h
        refine E_sts 2 (60, [], [.int (v2 - ((σ 700) 3))], SH0, [(100, (σ 100)), (214, fun _ => r29.2)], lg) rfl ?_
        exact E_ret rfl
set_option maxHeartbeats 4000000 in
set_option maxRecDepth 20000 in
theorem e_X5_evening (X : xX) (σ : xM) (lg : Int64) (v1 : Int32) (r : Int32 × (Nat → Int32) × Int32) (h : X5_evening (σ 100) (σ 214 0) (σ 700) v1 = some r) : EM XP X 2 96 [.ref 0, .int v1] SH0 lg σ (some (.int r.1), SH0, [(100, r.2.1), (214, fun _ => r.2.2)], lg) := by
  refine EM_of (M := xm_96) rfl rfl ?_
  unfold X5_evening at h
  refine E_sts 3 (4, [(0, .ref 0), (1, .int v1)], [.int 8, .int 1, .int v1], SH0, [], lg) rfl ?_
  refine E_call rfl (e_X5_isIn X _ _ _ _ _ (X5_isIn v1 1 8) rfl) (by decide) ?_
  refine E_sts 1 (if (xb (X5_isIn v1 1 8)) = 0 then 10 else 16, [(0, .ref 0), (1, .int v1)], [], SH0, [], lg) rfl ?_
  rcases x_br h with ⟨hc, h⟩ | ⟨hc, h⟩
  · refine E_itt hc ?_
    refine E_sts 2 (12, [(0, .ref 0), (1, .int v1)], [.int 0, .ref 0], SH0, [], lg) rfl ?_
    obtain ⟨r12, hr, h⟩ := x_bind h
    refine E_call rfl (e_X5_finding X _ _ _ r12 hr) (by decide) ?_
    obtain rfl := Option.some.inj h
    refine E_sts 1 (15, [], [.int r12.1], SH0, [(100, r12.2), (214, fun _ => (σ 214 0))], lg) rfl ?_
    exact E_ret rfl
  · refine E_itf hc ?_
    refine E_sts 5 (20, [(0, .ref 0), (1, .int v1), (2, .int 0), (3, .int 0)], [], SH0, [(214, fun _ => (σ 214 0))], lg) rfl ?_
    exact e_X5_evening_L20 X σ lg _ v1 0 0 (σ 214 0) r h
set_option maxHeartbeats 4000000 in
set_option maxRecDepth 20000 in
theorem e_X6_draw (X : xX) (σ : xM) (lg : Int64) (r : Int32 × (Nat → Int32)) (h : X6_draw (σ 5300) = some r) : EM XP X 1 184 [.ref 52] SH0 lg σ (some (.int r.1), SH0, [(5300, r.2)], lg) := by
  refine EM_of (M := xm_184) rfl rfl ?_
  unfold X6_draw at h
  refine E_sts 6 (10, [(0, .ref 52)], [.int 4, .ref 53, .int 4, .ref 53], SH0, [], lg) rfl ?_
  refine E_par (p := inr 4 83) (11, [(0, .ref 52)], [.int ((σ 5300) 4), .int 4, .ref 53], SH0, [], lg) rfl (by decide) ?_
  refine E_sts 4 (18, [(0, .ref 52)], [.int ((((σ 5300) 4) * 1103515245) + 12345), .int 4, .ref 53], SH0, [], lg) rfl ?_
  refine E_par (p := inr 4 83) (19, [(0, .ref 52)], [], SH0, [(5300, (upd (σ 5300) 4 ((((σ 5300) 4) * 1103515245) + 12345)))], lg) rfl (by decide) ?_
  refine E_sts 3 (24, [(0, .ref 52)], [.int 4, .ref 53], SH0, [(5300, (upd (σ 5300) 4 ((((σ 5300) 4) * 1103515245) + 12345)))], lg) rfl ?_
  refine E_par (p := inr 4 83) (25, [(0, .ref 52)], [.int ((upd (σ 5300) 4 ((((σ 5300) 4) * 1103515245) + 12345)) 4)], SH0, [(5300, (upd (σ 5300) 4 ((((σ 5300) 4) * 1103515245) + 12345)))], lg) rfl (by decide) ?_
  obtain rfl := Option.some.inj h
  refine E_sts 2 (28, [(0, .ref 52)], [.int (xush ((upd (σ 5300) 4 ((((σ 5300) 4) * 1103515245) + 12345)) 4) 8)], SH0, [(5300, (upd (σ 5300) 4 ((((σ 5300) 4) * 1103515245) + 12345)))], lg) rfl ?_
  exact E_ret rfl
