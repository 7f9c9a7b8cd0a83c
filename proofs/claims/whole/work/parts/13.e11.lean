/-! what the machine answers is what the functions say (by gen/emit.py) -/
set_option maxHeartbeats 4000000 in
set_option maxRecDepth 20000 in
theorem e_X5_wipe (X : xX) (σ : xM) (lg : Int64) (r : Int32 × Int32) (h : X5_wipe (σ 4202 0) = some r) : EM XP X 2 100 [.ref 0] SH0 lg σ (some (.int r.1), SH0, [(4202, fun _ => r.2)], lg) := by
  refine EM_of (M := xm_100) rfl ?_
  unfold X5_wipe at h
  refine E_sts 2 (4, [(0, .ref 0)], [.ref 42], SH0, [], lg) rfl ?_
  obtain ⟨r4, hr, h⟩ := x_bind h
  refine E_call rfl (e_X4_empty X _ _ r4 hr) (by decide) ?_
  obtain rfl := Option.some.inj h
  exact E_ret rfl
set_option maxHeartbeats 4000000 in
set_option maxRecDepth 20000 in
theorem e_X6_wipe (X : xX) (σ : xM) (lg : Int64) (r : Int32 × Int32) (h : X6_wipe (σ 5213 0) = some r) : EM XP X 1 191 [.ref 52] SH0 lg σ (some (.int r.1), SH0, [(5213, fun _ => r.2)], lg) := by
  refine EM_of (M := xm_191) rfl ?_
  unfold X6_wipe at h
  obtain rfl := Option.some.inj h
  refine E_sts 7 (11, [(0, .ref 52), (1, .int (σ 5213 0))], [.int (σ 5213 0)], SH0, [(5213, fun _ => 0)], lg) rfl ?_
  exact E_ret rfl
set_option maxHeartbeats 4000000 in
set_option maxRecDepth 20000 in
theorem e_X2_become_dr_sc (X : xX) (σ : xM) (lg : Int64) (r : Int32 × Int32 × Int32 × Int32 × Int32 × Int32 × (Nat → Int32) × (Nat → Int32) × (Nat → Int32) × (Nat → Int32) × (Nat → Int32) × (Nat → Int32) × (Nat → Int32) × (Nat → Int32) × (Nat → Int32)) (h : X2_become_dr_sc (σ 201 0) (σ 207 0) (σ 208 0) (σ 209 0) (σ 210 0) (σ 214 0) (σ 300) (σ 400) (σ 500) (σ 600) (σ 700) (σ 800) (σ 900) (σ 1000) (σ 1100) (σ 2300) (σ 2400) (σ 2500) (σ 2600) (σ 2700) (σ 2800) (σ 2900) (σ 3000) (σ 3100) = some r) : EM XP X 1 24 [.ref 22, .ref 2] SH0 lg σ (none, SH0, [(2201, fun _ => r.1), (2207, fun _ => r.2.1), (2208, fun _ => r.2.2.1), (2209, fun _ => r.2.2.2.1), (2210, fun _ => r.2.2.2.2.1), (2214, fun _ => r.2.2.2.2.2.1), (2300, r.2.2.2.2.2.2.1), (2400, r.2.2.2.2.2.2.2.1), (2500, r.2.2.2.2.2.2.2.2.1), (2600, r.2.2.2.2.2.2.2.2.2.1), (2700, r.2.2.2.2.2.2.2.2.2.2.1), (2800, r.2.2.2.2.2.2.2.2.2.2.2.1), (2900, r.2.2.2.2.2.2.2.2.2.2.2.2.1), (3000, r.2.2.2.2.2.2.2.2.2.2.2.2.2.1), (3100, r.2.2.2.2.2.2.2.2.2.2.2.2.2.2)], lg) := by
  refine EM_of (M := xm_24) rfl ?_
  unfold X2_become_dr_sc at h
  refine E_sts 31 (60, [(0, .ref 22), (1, .ref 2)], [.int 9, .int 0, .ref 23, .int 0, .ref 3], SH0, [(2201, fun _ => (σ 201 0)), (2207, fun _ => (σ 207 0)), (2208, fun _ => (σ 208 0)), (2209, fun _ => (σ 209 0)), (2210, fun _ => (σ 210 0)), (2214, fun _ => (σ 214 0))], lg) rfl ?_
  refine E_par (p := 0 ≤ Int32.toInt 0 ∧ 0 ≤ Int32.toInt 0 ∧ 0 ≤ Int32.toInt 9 ∧ Int32.toInt 0 + Int32.toInt 9 ≤ ((9 : Nat) : Int) ∧ Int32.toInt 0 + Int32.toInt 9 ≤ ((9 : Nat) : Int)) (63, [(0, .ref 22), (1, .ref 2)], [], SH0, [(2201, fun _ => (σ 201 0)), (2207, fun _ => (σ 207 0)), (2208, fun _ => (σ 208 0)), (2209, fun _ => (σ 209 0)), (2210, fun _ => (σ 210 0)), (2214, fun _ => (σ 214 0)), (2300, (va_cpy (σ 300) (σ 2300) (Int32.toNatClampNeg 0) (Int32.toNatClampNeg 0) (Int32.toNatClampNeg 9)))], lg) rfl (by decide) ?_
  refine E_sts 7 (75, [(0, .ref 22), (1, .ref 2)], [.int 9, .int 0, .ref 24, .int 0, .ref 4], SH0, [(2201, fun _ => (σ 201 0)), (2207, fun _ => (σ 207 0)), (2208, fun _ => (σ 208 0)), (2209, fun _ => (σ 209 0)), (2210, fun _ => (σ 210 0)), (2214, fun _ => (σ 214 0)), (2300, (va_cpy (σ 300) (σ 2300) (Int32.toNatClampNeg 0) (Int32.toNatClampNeg 0) (Int32.toNatClampNeg 9)))], lg) rfl ?_
  refine E_par (p := 0 ≤ Int32.toInt 0 ∧ 0 ≤ Int32.toInt 0 ∧ 0 ≤ Int32.toInt 9 ∧ Int32.toInt 0 + Int32.toInt 9 ≤ ((9 : Nat) : Int) ∧ Int32.toInt 0 + Int32.toInt 9 ≤ ((9 : Nat) : Int)) (78, [(0, .ref 22), (1, .ref 2)], [], SH0, [(2201, fun _ => (σ 201 0)), (2207, fun _ => (σ 207 0)), (2208, fun _ => (σ 208 0)), (2209, fun _ => (σ 209 0)), (2210, fun _ => (σ 210 0)), (2214, fun _ => (σ 214 0)), (2300, (va_cpy (σ 300) (σ 2300) (Int32.toNatClampNeg 0) (Int32.toNatClampNeg 0) (Int32.toNatClampNeg 9))), (2400, (va_cpy (σ 400) (σ 2400) (Int32.toNatClampNeg 0) (Int32.toNatClampNeg 0) (Int32.toNatClampNeg 9)))], lg) rfl (by decide) ?_
  refine E_sts 7 (90, [(0, .ref 22), (1, .ref 2)], [.int 9, .int 0, .ref 25, .int 0, .ref 5], SH0, [(2201, fun _ => (σ 201 0)), (2207, fun _ => (σ 207 0)), (2208, fun _ => (σ 208 0)), (2209, fun _ => (σ 209 0)), (2210, fun _ => (σ 210 0)), (2214, fun _ => (σ 214 0)), (2300, (va_cpy (σ 300) (σ 2300) (Int32.toNatClampNeg 0) (Int32.toNatClampNeg 0) (Int32.toNatClampNeg 9))), (2400, (va_cpy (σ 400) (σ 2400) (Int32.toNatClampNeg 0) (Int32.toNatClampNeg 0) (Int32.toNatClampNeg 9)))], lg) rfl ?_
  refine E_par (p := 0 ≤ Int32.toInt 0 ∧ 0 ≤ Int32.toInt 0 ∧ 0 ≤ Int32.toInt 9 ∧ Int32.toInt 0 + Int32.toInt 9 ≤ ((9 : Nat) : Int) ∧ Int32.toInt 0 + Int32.toInt 9 ≤ ((9 : Nat) : Int)) (93, [(0, .ref 22), (1, .ref 2)], [], SH0, [(2201, fun _ => (σ 201 0)), (2207, fun _ => (σ 207 0)), (2208, fun _ => (σ 208 0)), (2209, fun _ => (σ 209 0)), (2210, fun _ => (σ 210 0)), (2214, fun _ => (σ 214 0)), (2300, (va_cpy (σ 300) (σ 2300) (Int32.toNatClampNeg 0) (Int32.toNatClampNeg 0) (Int32.toNatClampNeg 9))), (2400, (va_cpy (σ 400) (σ 2400) (Int32.toNatClampNeg 0) (Int32.toNatClampNeg 0) (Int32.toNatClampNeg 9))), (2500, (va_cpy (σ 500) (σ 2500) (Int32.toNatClampNeg 0) (Int32.toNatClampNeg 0) (Int32.toNatClampNeg 9)))], lg) rfl (by decide) ?_
  refine E_sts 7 (105, [(0, .ref 22), (1, .ref 2)], [.int 9, .int 0, .ref 26, .int 0, .ref 6], SH0, [(2201, fun _ => (σ 201 0)), (2207, fun _ => (σ 207 0)), (2208, fun _ => (σ 208 0)), (2209, fun _ => (σ 209 0)), (2210, fun _ => (σ 210 0)), (2214, fun _ => (σ 214 0)), (2300, (va_cpy (σ 300) (σ 2300) (Int32.toNatClampNeg 0) (Int32.toNatClampNeg 0) (Int32.toNatClampNeg 9))), (2400, (va_cpy (σ 400) (σ 2400) (Int32.toNatClampNeg 0) (Int32.toNatClampNeg 0) (Int32.toNatClampNeg 9))), (2500, (va_cpy (σ 500) (σ 2500) (Int32.toNatClampNeg 0) (Int32.toNatClampNeg 0) (Int32.toNatClampNeg 9)))], lg) rfl ?_
  refine E_par (p := 0 ≤ Int32.toInt 0 ∧ 0 ≤ Int32.toInt 0 ∧ 0 ≤ Int32.toInt 9 ∧ Int32.toInt 0 + Int32.toInt 9 ≤ ((9 : Nat) : Int) ∧ Int32.toInt 0 + Int32.toInt 9 ≤ ((9 : Nat) : Int)) (108, [(0, .ref 22), (1, .ref 2)], [], SH0, [(2201, fun _ => (σ 201 0)), (2207, fun _ => (σ 207 0)), (2208, fun _ => (σ 208 0)), (2209, fun _ => (σ 209 0)), (2210, fun _ => (σ 210 0)), (2214, fun _ => (σ 214 0)), (2300, (va_cpy (σ 300) (σ 2300) (Int32.toNatClampNeg 0) (Int32.toNatClampNeg 0) (Int32.toNatClampNeg 9))), (2400, (va_cpy (σ 400) (σ 2400) (Int32.toNatClampNeg 0) (Int32.toNatClampNeg 0) (Int32.toNatClampNeg 9))), (2500, (va_cpy (σ 500) (σ 2500) (Int32.toNatClampNeg 0) (Int32.toNatClampNeg 0) (Int32.toNatClampNeg 9))), (2600, (va_cpy (σ 600) (σ 2600) (Int32.toNatClampNeg 0) (Int32.toNatClampNeg 0) (Int32.toNatClampNeg 9)))], lg) rfl (by decide) ?_
  refine E_sts 7 (119, [(0, .ref 22), (1, .ref 2)], [.int 5, .int 0, .ref 27, .int 0, .ref 7], SH0, [(2201, fun _ => (σ 201 0)), (2207, fun _ => (σ 207 0)), (2208, fun _ => (σ 208 0)), (2209, fun _ => (σ 209 0)), (2210, fun _ => (σ 210 0)), (2214, fun _ => (σ 214 0)), (2300, (va_cpy (σ 300) (σ 2300) (Int32.toNatClampNeg 0) (Int32.toNatClampNeg 0) (Int32.toNatClampNeg 9))), (2400, (va_cpy (σ 400) (σ 2400) (Int32.toNatClampNeg 0) (Int32.toNatClampNeg 0) (Int32.toNatClampNeg 9))), (2500, (va_cpy (σ 500) (σ 2500) (Int32.toNatClampNeg 0) (Int32.toNatClampNeg 0) (Int32.toNatClampNeg 9))), (2600, (va_cpy (σ 600) (σ 2600) (Int32.toNatClampNeg 0) (Int32.toNatClampNeg 0) (Int32.toNatClampNeg 9)))], lg) rfl ?_
  refine E_par (p := 0 ≤ Int32.toInt 0 ∧ 0 ≤ Int32.toInt 0 ∧ 0 ≤ Int32.toInt 5 ∧ Int32.toInt 0 + Int32.toInt 5 ≤ ((5 : Nat) : Int) ∧ Int32.toInt 0 + Int32.toInt 5 ≤ ((5 : Nat) : Int)) (122, [(0, .ref 22), (1, .ref 2)], [], SH0, [(2201, fun _ => (σ 201 0)), (2207, fun _ => (σ 207 0)), (2208, fun _ => (σ 208 0)), (2209, fun _ => (σ 209 0)), (2210, fun _ => (σ 210 0)), (2214, fun _ => (σ 214 0)), (2300, (va_cpy (σ 300) (σ 2300) (Int32.toNatClampNeg 0) (Int32.toNatClampNeg 0) (Int32.toNatClampNeg 9))), (2400, (va_cpy (σ 400) (σ 2400) (Int32.toNatClampNeg 0) (Int32.toNatClampNeg 0) (Int32.toNatClampNeg 9))), (2500, (va_cpy (σ 500) (σ 2500) (Int32.toNatClampNeg 0) (Int32.toNatClampNeg 0) (Int32.toNatClampNeg 9))), (2600, (va_cpy (σ 600) (σ 2600) (Int32.toNatClampNeg 0) (Int32.toNatClampNeg 0) (Int32.toNatClampNeg 9))), (2700, (va_cpy (σ 700) (σ 2700) (Int32.toNatClampNeg 0) (Int32.toNatClampNeg 0) (Int32.toNatClampNeg 5)))], lg) rfl (by decide) ?_
  refine E_sts 7 (134, [(0, .ref 22), (1, .ref 2)], [.int 9, .int 0, .ref 28, .int 0, .ref 8], SH0, [(2201, fun _ => (σ 201 0)), (2207, fun _ => (σ 207 0)), (2208, fun _ => (σ 208 0)), (2209, fun _ => (σ 209 0)), (2210, fun _ => (σ 210 0)), (2214, fun _ => (σ 214 0)), (2300, (va_cpy (σ 300) (σ 2300) (Int32.toNatClampNeg 0) (Int32.toNatClampNeg 0) (Int32.toNatClampNeg 9))), (2400, (va_cpy (σ 400) (σ 2400) (Int32.toNatClampNeg 0) (Int32.toNatClampNeg 0) (Int32.toNatClampNeg 9))), (2500, (va_cpy (σ 500) (σ 2500) (Int32.toNatClampNeg 0) (Int32.toNatClampNeg 0) (Int32.toNatClampNeg 9))), (2600, (va_cpy (σ 600) (σ 2600) (Int32.toNatClampNeg 0) (Int32.toNatClampNeg 0) (Int32.toNatClampNeg 9))), (2700, (va_cpy (σ 700) (σ 2700) (Int32.toNatClampNeg 0) (Int32.toNatClampNeg 0) (Int32.toNatClampNeg 5)))], lg) rfl ?_
  refine E_par (p := 0 ≤ Int32.toInt 0 ∧ 0 ≤ Int32.toInt 0 ∧ 0 ≤ Int32.toInt 9 ∧ Int32.toInt 0 + Int32.toInt 9 ≤ ((9 : Nat) : Int) ∧ Int32.toInt 0 + Int32.toInt 9 ≤ ((9 : Nat) : Int)) (137, [(0, .ref 22), (1, .ref 2)], [], SH0, [(2201, fun _ => (σ 201 0)), (2207, fun _ => (σ 207 0)), (2208, fun _ => (σ 208 0)), (2209, fun _ => (σ 209 0)), (2210, fun _ => (σ 210 0)), (2214, fun _ => (σ 214 0)), (2300, (va_cpy (σ 300) (σ 2300) (Int32.toNatClampNeg 0) (Int32.toNatClampNeg 0) (Int32.toNatClampNeg 9))), (2400, (va_cpy (σ 400) (σ 2400) (Int32.toNatClampNeg 0) (Int32.toNatClampNeg 0) (Int32.toNatClampNeg 9))), (2500, (va_cpy (σ 500) (σ 2500) (Int32.toNatClampNeg 0) (Int32.toNatClampNeg 0) (Int32.toNatClampNeg 9))), (2600, (va_cpy (σ 600) (σ 2600) (Int32.toNatClampNeg 0) (Int32.toNatClampNeg 0) (Int32.toNatClampNeg 9))), (2700, (va_cpy (σ 700) (σ 2700) (Int32.toNatClampNeg 0) (Int32.toNatClampNeg 0) (Int32.toNatClampNeg 5))), (2800, (va_cpy (σ 800) (σ 2800) (Int32.toNatClampNeg 0) (Int32.toNatClampNeg 0) (Int32.toNatClampNeg 9)))], lg) rfl (by decide) ?_
  refine E_sts 7 (149, [(0, .ref 22), (1, .ref 2)], [.int 9, .int 0, .ref 29, .int 0, .ref 9], SH0, [(2201, fun _ => (σ 201 0)), (2207, fun _ => (σ 207 0)), (2208, fun _ => (σ 208 0)), (2209, fun _ => (σ 209 0)), (2210, fun _ => (σ 210 0)), (2214, fun _ => (σ 214 0)), (2300, (va_cpy (σ 300) (σ 2300) (Int32.toNatClampNeg 0) (Int32.toNatClampNeg 0) (Int32.toNatClampNeg 9))), (2400, (va_cpy (σ 400) (σ 2400) (Int32.toNatClampNeg 0) (Int32.toNatClampNeg 0) (Int32.toNatClampNeg 9))), (2500, (va_cpy (σ 500) (σ 2500) (Int32.toNatClampNeg 0) (Int32.toNatClampNeg 0) (Int32.toNatClampNeg 9))), (2600, (va_cpy (σ 600) (σ 2600) (Int32.toNatClampNeg 0) (Int32.toNatClampNeg 0) (Int32.toNatClampNeg 9))), (2700, (va_cpy (σ 700) (σ 2700) (Int32.toNatClampNeg 0) (Int32.toNatClampNeg 0) (Int32.toNatClampNeg 5))), (2800, (va_cpy (σ 800) (σ 2800) (Int32.toNatClampNeg 0) (Int32.toNatClampNeg 0) (Int32.toNatClampNeg 9)))], lg) rfl ?_
  refine E_par (p := 0 ≤ Int32.toInt 0 ∧ 0 ≤ Int32.toInt 0 ∧ 0 ≤ Int32.toInt 9 ∧ Int32.toInt 0 + Int32.toInt 9 ≤ ((9 : Nat) : Int) ∧ Int32.toInt 0 + Int32.toInt 9 ≤ ((9 : Nat) : Int)) (152, [(0, .ref 22), (1, .ref 2)], [], SH0, [(2201, fun _ => (σ 201 0)), (2207, fun _ => (σ 207 0)), (2208, fun _ => (σ 208 0)), (2209, fun _ => (σ 209 0)), (2210, fun _ => (σ 210 0)), (2214, fun _ => (σ 214 0)), (2300, (va_cpy (σ 300) (σ 2300) (Int32.toNatClampNeg 0) (Int32.toNatClampNeg 0) (Int32.toNatClampNeg 9))), (2400, (va_cpy (σ 400) (σ 2400) (Int32.toNatClampNeg 0) (Int32.toNatClampNeg 0) (Int32.toNatClampNeg 9))), (2500, (va_cpy (σ 500) (σ 2500) (Int32.toNatClampNeg 0) (Int32.toNatClampNeg 0) (Int32.toNatClampNeg 9))), (2600, (va_cpy (σ 600) (σ 2600) (Int32.toNatClampNeg 0) (Int32.toNatClampNeg 0) (Int32.toNatClampNeg 9))), (2700, (va_cpy (σ 700) (σ 2700) (Int32.toNatClampNeg 0) (Int32.toNatClampNeg 0) (Int32.toNatClampNeg 5))), (2800, (va_cpy (σ 800) (σ 2800) (Int32.toNatClampNeg 0) (Int32.toNatClampNeg 0) (Int32.toNatClampNeg 9))), (2900, (va_cpy (σ 900) (σ 2900) (Int32.toNatClampNeg 0) (Int32.toNatClampNeg 0) (Int32.toNatClampNeg 9)))], lg) rfl (by decide) ?_
  refine E_sts 7 (164, [(0, .ref 22), (1, .ref 2)], [.int 9, .int 0, .ref 30, .int 0, .ref 10], SH0, [(2201, fun _ => (σ 201 0)), (2207, fun _ => (σ 207 0)), (2208, fun _ => (σ 208 0)), (2209, fun _ => (σ 209 0)), (2210, fun _ => (σ 210 0)), (2214, fun _ => (σ 214 0)), (2300, (va_cpy (σ 300) (σ 2300) (Int32.toNatClampNeg 0) (Int32.toNatClampNeg 0) (Int32.toNatClampNeg 9))), (2400, (va_cpy (σ 400) (σ 2400) (Int32.toNatClampNeg 0) (Int32.toNatClampNeg 0) (Int32.toNatClampNeg 9))), (2500, (va_cpy (σ 500) (σ 2500) (Int32.toNatClampNeg 0) (Int32.toNatClampNeg 0) (Int32.toNatClampNeg 9))), (2600, (va_cpy (σ 600) (σ 2600) (Int32.toNatClampNeg 0) (Int32.toNatClampNeg 0) (Int32.toNatClampNeg 9))), (2700, (va_cpy (σ 700) (σ 2700) (Int32.toNatClampNeg 0) (Int32.toNatClampNeg 0) (Int32.toNatClampNeg 5))), (2800, (va_cpy (σ 800) (σ 2800) (Int32.toNatClampNeg 0) (Int32.toNatClampNeg 0) (Int32.toNatClampNeg 9))), (2900, (va_cpy (σ 900) (σ 2900) (Int32.toNatClampNeg 0) (Int32.toNatClampNeg 0) (Int32.toNatClampNeg 9)))], lg) rfl ?_
  refine E_par (p := 0 ≤ Int32.toInt 0 ∧ 0 ≤ Int32.toInt 0 ∧ 0 ≤ Int32.toInt 9 ∧ Int32.toInt 0 + Int32.toInt 9 ≤ ((9 : Nat) : Int) ∧ Int32.toInt 0 + Int32.toInt 9 ≤ ((9 : Nat) : Int)) (167, [(0, .ref 22), (1, .ref 2)], [], SH0, [(2201, fun _ => (σ 201 0)), (2207, fun _ => (σ 207 0)), (2208, fun _ => (σ 208 0)), (2209, fun _ => (σ 209 0)), (2210, fun _ => (σ 210 0)), (2214, fun _ => (σ 214 0)), (2300, (va_cpy (σ 300) (σ 2300) (Int32.toNatClampNeg 0) (Int32.toNatClampNeg 0) (Int32.toNatClampNeg 9))), (2400, (va_cpy (σ 400) (σ 2400) (Int32.toNatClampNeg 0) (Int32.toNatClampNeg 0) (Int32.toNatClampNeg 9))), (2500, (va_cpy (σ 500) (σ 2500) (Int32.toNatClampNeg 0) (Int32.toNatClampNeg 0) (Int32.toNatClampNeg 9))), (2600, (va_cpy (σ 600) (σ 2600) (Int32.toNatClampNeg 0) (Int32.toNatClampNeg 0) (Int32.toNatClampNeg 9))), (2700, (va_cpy (σ 700) (σ 2700) (Int32.toNatClampNeg 0) (Int32.toNatClampNeg 0) (Int32.toNatClampNeg 5))), (2800, (va_cpy (σ 800) (σ 2800) (Int32.toNatClampNeg 0) (Int32.toNatClampNeg 0) (Int32.toNatClampNeg 9))), (2900, (va_cpy (σ 900) (σ 2900) (Int32.toNatClampNeg 0) (Int32.toNatClampNeg 0) (Int32.toNatClampNeg 9))), (3000, (va_cpy (σ 1000) (σ 3000) (Int32.toNatClampNeg 0) (Int32.toNatClampNeg 0) (Int32.toNatClampNeg 9)))], lg) rfl (by decide) ?_
  refine E_sts 7 (179, [(0, .ref 22), (1, .ref 2)], [.int 10, .int 0, .ref 31, .int 0, .ref 11], SH0, [(2201, fun _ => (σ 201 0)), (2207, fun _ => (σ 207 0)), (2208, fun _ => (σ 208 0)), (2209, fun _ => (σ 209 0)), (2210, fun _ => (σ 210 0)), (2214, fun _ => (σ 214 0)), (2300, (va_cpy (σ 300) (σ 2300) (Int32.toNatClampNeg 0) (Int32.toNatClampNeg 0) (Int32.toNatClampNeg 9))), (2400, (va_cpy (σ 400) (σ 2400) (Int32.toNatClampNeg 0) (Int32.toNatClampNeg 0) (Int32.toNatClampNeg 9))), (2500, (va_cpy (σ 500) (σ 2500) (Int32.toNatClampNeg 0) (Int32.toNatClampNeg 0) (Int32.toNatClampNeg 9))), (2600, (va_cpy (σ 600) (σ 2600) (Int32.toNatClampNeg 0) (Int32.toNatClampNeg 0) (Int32.toNatClampNeg 9))), (2700, (va_cpy (σ 700) (σ 2700) (Int32.toNatClampNeg 0) (Int32.toNatClampNeg 0) (Int32.toNatClampNeg 5))), (2800, (va_cpy (σ 800) (σ 2800) (Int32.toNatClampNeg 0) (Int32.toNatClampNeg 0) (Int32.toNatClampNeg 9))), (2900, (va_cpy (σ 900) (σ 2900) (Int32.toNatClampNeg 0) (Int32.toNatClampNeg 0) (Int32.toNatClampNeg 9))), (3000, (va_cpy (σ 1000) (σ 3000) (Int32.toNatClampNeg 0) (Int32.toNatClampNeg 0) (Int32.toNatClampNeg 9)))], lg) rfl ?_
  refine E_par (p := 0 ≤ Int32.toInt 0 ∧ 0 ≤ Int32.toInt 0 ∧ 0 ≤ Int32.toInt 10 ∧ Int32.toInt 0 + Int32.toInt 10 ≤ ((10 : Nat) : Int) ∧ Int32.toInt 0 + Int32.toInt 10 ≤ ((10 : Nat) : Int)) (182, [(0, .ref 22), (1, .ref 2)], [], SH0, [(2201, fun _ => (σ 201 0)), (2207, fun _ => (σ 207 0)), (2208, fun _ => (σ 208 0)), (2209, fun _ => (σ 209 0)), (2210, fun _ => (σ 210 0)), (2214, fun _ => (σ 214 0)), (2300, (va_cpy (σ 300) (σ 2300) (Int32.toNatClampNeg 0) (Int32.toNatClampNeg 0) (Int32.toNatClampNeg 9))), (2400, (va_cpy (σ 400) (σ 2400) (Int32.toNatClampNeg 0) (Int32.toNatClampNeg 0) (Int32.toNatClampNeg 9))), (2500, (va_cpy (σ 500) (σ 2500) (Int32.toNatClampNeg 0) (Int32.toNatClampNeg 0) (Int32.toNatClampNeg 9))), (2600, (va_cpy (σ 600) (σ 2600) (Int32.toNatClampNeg 0) (Int32.toNatClampNeg 0) (Int32.toNatClampNeg 9))), (2700, (va_cpy (σ 700) (σ 2700) (Int32.toNatClampNeg 0) (Int32.toNatClampNeg 0) (Int32.toNatClampNeg 5))), (2800, (va_cpy (σ 800) (σ 2800) (Int32.toNatClampNeg 0) (Int32.toNatClampNeg 0) (Int32.toNatClampNeg 9))), (2900, (va_cpy (σ 900) (σ 2900) (Int32.toNatClampNeg 0) (Int32.toNatClampNeg 0) (Int32.toNatClampNeg 9))), (3000, (va_cpy (σ 1000) (σ 3000) (Int32.toNatClampNeg 0) (Int32.toNatClampNeg 0) (Int32.toNatClampNeg 9))), (3100, (va_cpy (σ 1100) (σ 3100) (Int32.toNatClampNeg 0) (Int32.toNatClampNeg 0) (Int32.toNatClampNeg 10)))], lg) rfl (by decide) ?_
  obtain rfl := Option.some.inj h
  exact E_ret rfl
set_option maxHeartbeats 4000000 in
set_option maxRecDepth 20000 in
theorem e_X4_sortOf_L28 (X : xX) (σ : xM) (lg : Int64) : ∀ (v0 : Int32) (r : Int32), X4_sortOf_L28 v0 = r → E XP X 0 xm_62 σ (28, [(0, .int v0)], [], SH0, [], lg) (some (.int r), SH0, [], lg) := by
  intro v0 r h
  unfold X4_sortOf_L28 at h
  refine E_sts 3 (if v0 = 59 then 34 else 36, [(0, .int v0)], [], SH0, [], lg) rfl ?_
  rcases x_br h with ⟨hc, h⟩ | ⟨hc, h⟩
  · refine E_itt hc ?_
    subst h
    refine E_sts 1 (35, [(0, .int v0)], [.int 3], SH0, [], lg) rfl ?_
    exact E_ret rfl
  · refine E_itf hc ?_
    refine E_sts 3 (if v0 = 32 then 42 else 46, [(0, .int v0)], [], SH0, [], lg) rfl ?_
    rcases x_br h with ⟨hc, h⟩ | ⟨hc, h⟩
    · refine E_itt hc ?_
      subst h
      refine E_sts 2 (47, [(0, .int v0)], [.int 4], SH0, [], lg) rfl ?_
      exact E_ret rfl
    · refine E_itf hc ?_
      subst h
      refine E_sts 1 (47, [(0, .int v0)], [.int 5], SH0, [], lg) rfl ?_
      exact E_ret rfl
set_option maxHeartbeats 4000000 in
set_option maxRecDepth 20000 in
theorem e_X4_sortOf_L14 (X : xX) (σ : xM) (lg : Int64) : ∀ (v0 : Int32) (r : Int32), X4_sortOf_L14 v0 = r → E XP X 0 xm_62 σ (14, [(0, .int v0)], [], SH0, [], lg) (some (.int r), SH0, [], lg) := by
  intro v0 r h
  unfold X4_sortOf_L14 at h
  refine E_sts 3 (if v0 < 48 then 100028 else 20, [(0, .int v0)], [], SH0, [], lg) rfl ?_
  rcases x_br h with ⟨hc, h⟩ | ⟨hc, h⟩
  · refine E_itt hc ?_
    refine E_sts 1 (28, [(0, .int v0)], [], SH0, [], lg) rfl ?_
    exact e_X4_sortOf_L28 X σ lg v0 r h
  · refine E_itf hc ?_
    refine E_sts 3 (if 57 < v0 then 100028 else 26, [(0, .int v0)], [], SH0, [], lg) rfl ?_
    rcases x_br h with ⟨hc, h⟩ | ⟨hc, h⟩
    · refine E_itt hc ?_
      refine E_sts 1 (28, [(0, .int v0)], [], SH0, [], lg) rfl ?_
      exact e_X4_sortOf_L28 X σ lg v0 r h
    · refine E_itf hc ?_
      subst h
      refine E_sts 1 (27, [(0, .int v0)], [.int 2], SH0, [], lg) rfl ?_
      exact E_ret rfl
set_option maxHeartbeats 4000000 in
set_option maxRecDepth 20000 in
theorem e_X4_sortOf (X : xX) (σ : xM) (lg : Int64) (v0 : Int32) (r : Int32) (h : X4_sortOf v0 = r) : EM XP X 1 62 [.int v0] SH0 lg σ (some (.int r), SH0, [], lg) := by
  refine EM_of (M := xm_62) rfl ?_
  unfold X4_sortOf at h
  refine E_sts 3 (if v0 < 97 then 100014 else 6, [(0, .int v0)], [], SH0, [], lg) rfl ?_
  rcases x_br h with ⟨hc, h⟩ | ⟨hc, h⟩
  · refine E_itt hc ?_
    refine E_sts 1 (14, [(0, .int v0)], [], SH0, [], lg) rfl ?_
    exact e_X4_sortOf_L14 X σ lg v0 r h
  · refine E_itf hc ?_
    refine E_sts 3 (if 122 < v0 then 100014 else 12, [(0, .int v0)], [], SH0, [], lg) rfl ?_
    rcases x_br h with ⟨hc, h⟩ | ⟨hc, h⟩
    · refine E_itt hc ?_
      refine E_sts 1 (14, [(0, .int v0)], [], SH0, [], lg) rfl ?_
      exact e_X4_sortOf_L14 X σ lg v0 r h
    · refine E_itf hc ?_
      subst h
      refine E_sts 1 (13, [(0, .int v0)], [.int 1], SH0, [], lg) rfl ?_
      exact E_ret rfl
set_option maxHeartbeats 4000000 in
set_option maxRecDepth 20000 in
theorem e_X4_spelled (X : xX) (σ : xM) (lg : Int64) (v0 : Int32) (r : Nat) (h : X4_spelled v0 = r) : EM XP X 1 67 [.int v0] SH0 lg σ (some (.retAddr r), SH0, [], lg) := by
  refine EM_of (M := xm_67) rfl ?_
  unfold X4_spelled at h
  refine E_sts 2 (if v0 = 0 then 76 else if v0 = 1 then 79 else if v0 = 2 then 82 else if v0 = 3 then 85 else if v0 = 4 then 88 else if v0 = 5 then 91 else if v0 = 6 then 94 else if v0 = 7 then 97 else if v0 = 8 then 100 else if v0 = 9 then 103 else if v0 = 10 then 106 else if v0 = 11 then 109 else if v0 = 12 then 112 else if v0 = 13 then 115 else if v0 = 14 then 118 else 121, [(0, .int v0)], [], SH0, [], lg) rfl ?_
  rcases x_br h with ⟨hc, h⟩ | ⟨hc, h⟩
  · refine E_itt hc ?_
    subst h
    refine E_sts 1 (78, [(0, .int v0)], [.retAddr 0], SH0, [], lg) rfl ?_
    exact E_ret rfl
  refine E_itf hc ?_
  rcases x_br h with ⟨hc, h⟩ | ⟨hc, h⟩
  · refine E_itt hc ?_
    subst h
    refine E_sts 1 (81, [(0, .int v0)], [.retAddr 1], SH0, [], lg) rfl ?_
    exact E_ret rfl
  refine E_itf hc ?_
  rcases x_br h with ⟨hc, h⟩ | ⟨hc, h⟩
  · refine E_itt hc ?_
    subst h
    refine E_sts 1 (84, [(0, .int v0)], [.retAddr 2], SH0, [], lg) rfl ?_
    exact E_ret rfl
  refine E_itf hc ?_
  rcases x_br h with ⟨hc, h⟩ | ⟨hc, h⟩
  · refine E_itt hc ?_
    subst h
    refine E_sts 1 (87, [(0, .int v0)], [.retAddr 3], SH0, [], lg) rfl ?_
    exact E_ret rfl
  refine E_itf hc ?_
  rcases x_br h with ⟨hc, h⟩ | ⟨hc, h⟩
  · refine E_itt hc ?_
    subst h
    refine E_sts 1 (90, [(0, .int v0)], [.retAddr 4], SH0, [], lg) rfl ?_
    exact E_ret rfl
  refine E_itf hc ?_
  rcases x_br h with ⟨hc, h⟩ | ⟨hc, h⟩
  · refine E_itt hc ?_
    subst h
    refine E_sts 1 (93, [(0, .int v0)], [.retAddr 5], SH0, [], lg) rfl ?_
    exact E_ret rfl
  refine E_itf hc ?_
  rcases x_br h with ⟨hc, h⟩ | ⟨hc, h⟩
  · refine E_itt hc ?_
    subst h
    refine E_sts 1 (96, [(0, .int v0)], [.retAddr 6], SH0, [], lg) rfl ?_
    exact E_ret rfl
  refine E_itf hc ?_
  rcases x_br h with ⟨hc, h⟩ | ⟨hc, h⟩
  · refine E_itt hc ?_
    subst h
    refine E_sts 1 (99, [(0, .int v0)], [.retAddr 7], SH0, [], lg) rfl ?_
    exact E_ret rfl
  refine E_itf hc ?_
  rcases x_br h with ⟨hc, h⟩ | ⟨hc, h⟩
  · refine E_itt hc ?_
    subst h
    refine E_sts 1 (102, [(0, .int v0)], [.retAddr 8], SH0, [], lg) rfl ?_
    exact E_ret rfl
  refine E_itf hc ?_
  rcases x_br h with ⟨hc, h⟩ | ⟨hc, h⟩
  · refine E_itt hc ?_
    subst h
    refine E_sts 1 (105, [(0, .int v0)], [.retAddr 9], SH0, [], lg) rfl ?_
    exact E_ret rfl
  refine E_itf hc ?_
  rcases x_br h with ⟨hc, h⟩ | ⟨hc, h⟩
  · refine E_itt hc ?_
    subst h
    refine E_sts 1 (108, [(0, .int v0)], [.retAddr 10], SH0, [], lg) rfl ?_
    exact E_ret rfl
  refine E_itf hc ?_
  rcases x_br h with ⟨hc, h⟩ | ⟨hc, h⟩
  · refine E_itt hc ?_
    subst h
    refine E_sts 1 (111, [(0, .int v0)], [.retAddr 11], SH0, [], lg) rfl ?_
    exact E_ret rfl
  refine E_itf hc ?_
  rcases x_br h with ⟨hc, h⟩ | ⟨hc, h⟩
  · refine E_itt hc ?_
    subst h
    refine E_sts 1 (114, [(0, .int v0)], [.retAddr 12], SH0, [], lg) rfl ?_
    exact E_ret rfl
  refine E_itf hc ?_
  rcases x_br h with ⟨hc, h⟩ | ⟨hc, h⟩
  · refine E_itt hc ?_
    subst h
    refine E_sts 1 (117, [(0, .int v0)], [.retAddr 13], SH0, [], lg) rfl ?_
    exact E_ret rfl
  refine E_itf hc ?_
  rcases x_br h with ⟨hc, h⟩ | ⟨hc, h⟩
  · refine E_itt hc ?_
    subst h
    refine E_sts 1 (120, [(0, .int v0)], [.retAddr 14], SH0, [], lg) rfl ?_
    exact E_ret rfl
  refine E_itf hc ?_
  subst h
  refine E_sts 1 (123, [(0, .int v0)], [.retAddr 15], SH0, [], lg) rfl ?_
  exact E_ret rfl
set_option maxHeartbeats 4000000 in
set_option maxRecDepth 20000 in
theorem e_J0_coder_7d493 (X : xX) (σ : xM) (lg : Int64) (v0 : Nat) (r : Int32) (h : J0_coder_7d493 v0 = r) : EM XP X 1 225 [.retAddr v0] SH0 lg σ (some (.int r), SH0, [], lg) := by
  refine EM_of (M := xm_225) rfl ?_
  unfold J0_coder_7d493 at h
  refine E_sts 2 (if 1 = 0 then 13 else 6, [(0, .retAddr v0)], [], SH0, [], lg) rfl ?_
  refine E_itf (by decide) ?_
  subst h
  refine E_sts 3 (14, [(0, .retAddr v0)], [.int 0], SH0, [], lg) rfl ?_
  exact E_retp (p := vp_nar .byte 0 = 0) rfl (by decide)
set_option maxHeartbeats 4000000 in
set_option maxRecDepth 20000 in
theorem e_J0_length_8abf5 (X : xX) (σ : xM) (lg : Int64) (v0 : Nat) (r : Int32) (h : J0_length_8abf5 v0 = r) : EM XP X 2 223 [.retAddr v0] SH0 lg σ (some (.int r), SH0, [], lg) := by
  refine EM_of (M := xm_223) rfl ?_
  unfold J0_length_8abf5 at h
  refine E_sts 4 (6, [(0, .retAddr v0)], [.retAddr v0, .int (nI (xbl (UInt32.ofNat (v0 % 4096))))], SH0, [], lg) rfl ?_
  refine E_call rfl (e_J0_coder_7d493 X _ _ _ 0 rfl) (by decide) ?_
  subst h
  refine E_sts 1 (10, [(0, .retAddr v0)], [.int (xshr (nI (xbl (UInt32.ofNat (v0 % 4096)))) 0)], SH0, [], lg) rfl ?_
  exact E_ret rfl
set_option maxHeartbeats 4000000 in
set_option maxRecDepth 20000 in
theorem e_J0_isLatin1_aae02 (X : xX) (σ : xM) (lg : Int64) (v0 : Nat) (r : Bool) (h : J0_isLatin1_aae02 v0 = r) : EM XP X 1 226 [.retAddr v0] SH0 lg σ (some (.int (xb r)), SH0, [], lg) := by
  refine EM_of (M := xm_226) rfl ?_
  unfold J0_isLatin1_aae02 at h
  refine E_sts 2 (if 1 = 0 then 17 else 6, [(0, .retAddr v0)], [], SH0, [], lg) rfl ?_
  refine E_itf (by decide) ?_
  refine E_sts 3 (if 0 = 0 then 13 else 17, [(0, .retAddr v0)], [], SH0, [], lg) rfl ?_
  refine E_itt (by decide) ?_
  subst h
  refine E_sts 2 (18, [(0, .retAddr v0)], [.int 1], SH0, [], lg) rfl ?_
  exact E_retp (p := (1 : Int32) = 0 ∨ (1 : Int32) = 1) rfl (by decide)
set_option maxHeartbeats 4000000 in
set_option maxRecDepth 20000 in
theorem e_J3_checkIndex_8e157 (X : xX) (σ : xM) (lg : Int64) (v0 : Int32) (v1 : Int32) (r : Int32) (h : J3_checkIndex_8e157 v0 v1 = some r) : EM XP X 1 229 [.int v0, .int v1, .double 0] SH0 lg σ (some (.int r), SH0, [], lg) := by
  refine EM_of (M := xm_229) rfl ?_
  unfold J3_checkIndex_8e157 at h
  refine E_sts 2 (if v0 < 0 then 9 else 4, [(0, .int v0), (1, .int v1), (2, .double 0)], [], SH0, [], lg) rfl ?_
  rcases x_br h with ⟨hc, h⟩ | ⟨hc, h⟩
  · refine E_itt hc ?_
    cases h
  · refine E_itf hc ?_
    refine E_sts 3 (if v0 < v1 then 16 else 9, [(0, .int v0), (1, .int v1), (2, .double 0)], [], SH0, [], lg) rfl ?_
    rcases x_br h with ⟨hc, h⟩ | ⟨hc, h⟩
    · refine E_itt hc ?_
      obtain rfl := Option.some.inj h
      refine E_sts 1 (17, [(0, .int v0), (1, .int v1), (2, .double 0)], [.int v0], SH0, [], lg) rfl ?_
      exact E_ret rfl
    · refine E_itf hc ?_
      cases h
set_option maxHeartbeats 4000000 in
set_option maxRecDepth 20000 in
theorem e_J0_checkIndex_df160 (X : xX) (σ : xM) (lg : Int64) (v0 : Int32) (v1 : Int32) (r : Unit) (h : J0_checkIndex_df160 v0 v1 = some r) : EM XP X 2 227 [.int v0, .int v1] SH0 lg σ (none, SH0, [], lg) := by
  refine EM_of (M := xm_227) rfl ?_
  unfold J0_checkIndex_df160 at h
  refine E_sts 3 (5, [(0, .int v0), (1, .int v1)], [.double 0, .int v1, .int v0], SH0, [], lg) rfl ?_
  obtain ⟨r5, hr, h⟩ := x_bind h
  refine E_call rfl (e_J3_checkIndex_8e157 X _ _ _ _ r5 hr) (by decide) ?_
  obtain rfl := Option.some.inj h
  refine E_sts 1 (9, [(0, .int v0), (1, .int v1)], [], SH0, [], lg) rfl ?_
  exact E_ret rfl
set_option maxHeartbeats 4000000 in
set_option maxRecDepth 20000 in
theorem e_J1_charAt_3b067 (X : xX) (σ : xM) (lg : Int64) (v0 : UInt32) (v1 : Int32) (r : Int32) (h : J1_charAt_3b067 v0 v1 = some r) : EM XP X 3 228 [.float v0, .int v1] SH0 lg σ (some (.int r), SH0, [], lg) := by
  refine EM_of (M := xm_228) rfl ?_
  unfold J1_charAt_3b067 at h
  refine E_sts 3 (3, [(0, .float v0), (1, .int v1)], [.int (nI (xbl v0)), .int v1], SH0, [], lg) rfl ?_
  obtain ⟨r3, hr, h⟩ := x_bind h
  refine E_call rfl (e_J0_checkIndex_df160 X _ _ _ _ r3 hr) (by decide) ?_
  refine E_sts 2 (8, [(0, .float v0), (1, .int v1)], [.int v1, .float v0], SH0, [], lg) rfl ?_
  obtain ⟨hp, h⟩ := x_ite h
  refine E_par (p := inr v1 (xbl v0)) (9, [(0, .float v0), (1, .int v1)], [.int (xbc v0 v1.toNatClampNeg)], SH0, [], lg) rfl hp ?_
  obtain ⟨hp, h⟩ := x_ite h
  obtain rfl := Option.some.inj h
  refine E_sts 3 (14, [(0, .float v0), (1, .int v1)], [.int (xi2c ((xbc v0 v1.toNatClampNeg) &&& 255))], SH0, [], lg) rfl ?_
  exact E_retp (p := vp_nar .char (xi2c ((xbc v0 v1.toNatClampNeg) &&& 255)) = (xi2c ((xbc v0 v1.toNatClampNeg) &&& 255))) rfl hp
set_option maxHeartbeats 4000000 in
set_option maxRecDepth 20000 in
theorem e_J0_charAt_5068e (X : xX) (σ : xM) (lg : Int64) (v0 : Nat) (v1 : Int32) (r : Int32) (h : J0_charAt_5068e v0 v1 = some r) : EM XP X 4 224 [.retAddr v0, .int v1] SH0 lg σ (some (.int r), SH0, [], lg) := by
  refine EM_of (M := xm_224) rfl ?_
  unfold J0_charAt_5068e at h
  refine E_sts 1 (1, [(0, .retAddr v0), (1, .int v1)], [.retAddr v0], SH0, [], lg) rfl ?_
  refine E_call rfl (e_J0_isLatin1_aae02 X _ _ _ true rfl) (by decide) ?_
  refine E_sts 1 (if (xb true) = 0 then 16 else 7, [(0, .retAddr v0), (1, .int v1)], [], SH0, [], lg) rfl ?_
  refine E_itf (by decide) ?_
  refine E_sts 3 (12, [(0, .retAddr v0), (1, .int v1)], [.int v1, .float (UInt32.ofNat (v0 % 4096))], SH0, [], lg) rfl ?_
  obtain ⟨r12, hr, h⟩ := x_bind h
  refine E_call rfl (e_J1_charAt_3b067 X _ _ _ _ r12 hr) (by decide) ?_
  obtain ⟨hp, h⟩ := x_ite h
  obtain rfl := Option.some.inj h
  exact E_retp (p := vp_nar .char r12 = r12) rfl hp
set_option maxHeartbeats 4000000 in
set_option maxRecDepth 20000 in
theorem e_X4_isWord_L13 (X : xX) (σ : xM) (lg : Int64) : ∀ (n : Nat), ∀ (v1 : Nat) (v2 : Int32) (v3 : Int32) (v4 : Int32) (r : Bool), X4_isWord_L13 (σ 4300) n v1 v2 v3 v4 = some r → E XP X 4 xm_65 σ (13, [(0, .ref 42), (1, .retAddr v1), (2, .int v2), (3, .int v3), (4, .int v4)], [], SH0, [], lg) (some (.int (xb r)), SH0, [], lg) := by
  intro n
  induction n with
  | zero => intro v1 v2 v3 v4 r h; rw [X4_isWord_L13] at h; cases h
  | succ n ih =>
    intro v1 v2 v3 v4 r h
    rw [X4_isWord_L13] at h
    refine E_sts 3 (if v3 ≤ v4 then 45 else 19, [(0, .ref 42), (1, .retAddr v1), (2, .int v2), (3, .int v3), (4, .int v4)], [], SH0, [], lg) rfl ?_
    rcases x_br h with ⟨hc, h⟩ | ⟨hc, h⟩
    · refine E_itt hc ?_
      obtain rfl := Option.some.inj h
      refine E_sts 1 (46, [(0, .ref 42), (1, .retAddr v1), (2, .int v2), (3, .int v3), (4, .int v4)], [.int 1], SH0, [], lg) rfl ?_
      exact E_retp (p := (1 : Int32) = 0 ∨ (1 : Int32) = 1) rfl (by decide)
    · refine E_itf hc ?_
      refine E_sts 2 (22, [(0, .ref 42), (1, .retAddr v1), (2, .int v2), (3, .int v3), (4, .int v4)], [.int v4, .retAddr v1], SH0, [], lg) rfl ?_
      obtain ⟨r22, hr, h⟩ := x_bind h
      refine E_call rfl (e_J0_charAt_5068e X _ _ _ _ r22 hr) (by decide) ?_
      refine E_sts 5 (33, [(0, .ref 42), (1, .retAddr v1), (2, .int v2), (3, .int v3), (4, .int v4)], [.int (v2 + v4), .ref 43, .int r22], SH0, [], lg) rfl ?_
      obtain ⟨hp, h⟩ := x_ite h
      refine E_par (p := inr (v2 + v4) 120) (34, [(0, .ref 42), (1, .retAddr v1), (2, .int v2), (3, .int v3), (4, .int v4)], [.int ((σ 4300) (v2 + v4).toNatClampNeg), .int r22], SH0, [], lg) rfl hp ?_
      refine E_sts 1 (if r22 = ((σ 4300) (v2 + v4).toNatClampNeg) then 39 else 37, [(0, .ref 42), (1, .retAddr v1), (2, .int v2), (3, .int v3), (4, .int v4)], [], SH0, [], lg) rfl ?_
      rcases x_br h with ⟨hc, h⟩ | ⟨hc, h⟩
      · refine E_itt hc ?_
        refine E_sts 3 (13, [(0, .ref 42), (1, .retAddr v1), (2, .int v2), (3, .int v3), (4, .int (v4 + 1))], [], SH0, [], lg) rfl ?_
        exact ih v1 v2 v3 (v4 + 1) r h
      · refine E_itf hc ?_
        obtain rfl := Option.some.inj h
        refine E_sts 1 (38, [(0, .ref 42), (1, .retAddr v1), (2, .int v2), (3, .int v3), (4, .int v4)], [.int 0], SH0, [], lg) rfl ?_
        exact E_retp (p := (0 : Int32) = 0 ∨ (0 : Int32) = 1) rfl (by decide)
set_option maxHeartbeats 4000000 in
set_option maxRecDepth 20000 in
theorem e_X4_isWord (X : xX) (σ : xM) (lg : Int64) (v1 : Nat) (v2 : Int32) (v3 : Int32) (r : Bool) (h : X4_isWord (σ 4300) v1 v2 v3 = some r) : EM XP X 5 65 [.ref 42, .retAddr v1, .int v2, .int v3] SH0 lg σ (some (.int (xb r)), SH0, [], lg) := by
  refine EM_of (M := xm_65) rfl ?_
  unfold X4_isWord at h
  refine E_sts 1 (1, [(0, .ref 42), (1, .retAddr v1), (2, .int v2), (3, .int v3)], [.retAddr v1], SH0, [], lg) rfl ?_
  refine E_call rfl (e_J0_length_8abf5 X _ _ _ (J0_length_8abf5 v1) rfl) (by decide) ?_
  refine E_sts 2 (if (J0_length_8abf5 v1) = v3 then 10 else 8, [(0, .ref 42), (1, .retAddr v1), (2, .int v2), (3, .int v3)], [], SH0, [], lg) rfl ?_
  rcases x_br h with ⟨hc, h⟩ | ⟨hc, h⟩
  · refine E_itt hc ?_
    refine E_sts 3 (13, [(0, .ref 42), (1, .retAddr v1), (2, .int v2), (3, .int v3), (4, .int 0)], [], SH0, [], lg) rfl ?_
    exact e_X4_isWord_L13 X σ lg _ v1 v2 v3 0 r h
  · refine E_itf hc ?_
    obtain rfl := Option.some.inj h
    refine E_sts 1 (9, [(0, .ref 42), (1, .retAddr v1), (2, .int v2), (3, .int v3)], [.int 0], SH0, [], lg) rfl ?_
    exact E_retp (p := (0 : Int32) = 0 ∨ (0 : Int32) = 1) rfl (by decide)
set_option maxHeartbeats 4000000 in
set_option maxRecDepth 20000 in
theorem e_X4_wordAt_L2 (X : xX) (σ : xM) (lg : Int64) : ∀ (n : Nat), ∀ (v1 : Int32) (v2 : Int32) (v3 : Int32) (r : Int32), X4_wordAt_L2 (σ 4300) n v1 v2 v3 = some r → E XP X 5 xm_64 σ (2, [(0, .ref 42), (1, .int v1), (2, .int v2), (3, .int v3)], [], SH0, [], lg) (some (.int r), SH0, [], lg) := by
  intro n
  induction n with
  | zero => intro v1 v2 v3 r h; rw [X4_wordAt_L2] at h; cases h
  | succ n ih =>
    intro v1 v2 v3 r h
    rw [X4_wordAt_L2] at h
    refine E_sts 3 (if 16 ≤ v3 then 29 else 8, [(0, .ref 42), (1, .int v1), (2, .int v2), (3, .int v3)], [], SH0, [], lg) rfl ?_
    rcases x_br h with ⟨hc, h⟩ | ⟨hc, h⟩
    · refine E_itt hc ?_
      obtain rfl := Option.some.inj h
      refine E_sts 1 (30, [(0, .ref 42), (1, .int v1), (2, .int v2), (3, .int v3)], [.int (-1)], SH0, [], lg) rfl ?_
      exact E_ret rfl
    · refine E_itf hc ?_
      refine E_sts 2 (10, [(0, .ref 42), (1, .int v1), (2, .int v2), (3, .int v3)], [.int v3, .ref 42], SH0, [], lg) rfl ?_
      refine E_call rfl (e_X4_spelled X _ _ _ (X4_spelled v3) rfl) (by decide) ?_
      refine E_sts 2 (15, [(0, .ref 42), (1, .int v1), (2, .int v2), (3, .int v3)], [.int v2, .int v1, .retAddr (X4_spelled v3), .ref 42], SH0, [], lg) rfl ?_
      obtain ⟨r15, hr, h⟩ := x_bind h
      refine E_call rfl (e_X4_isWord X _ _ _ _ _ r15 hr) (by decide) ?_
      refine E_sts 1 (if (xb r15) = 0 then 23 else 21, [(0, .ref 42), (1, .int v1), (2, .int v2), (3, .int v3)], [], SH0, [], lg) rfl ?_
      rcases x_br h with ⟨hc, h⟩ | ⟨hc, h⟩
      · refine E_itt hc ?_
        refine E_sts 3 (2, [(0, .ref 42), (1, .int v1), (2, .int v2), (3, .int (v3 + 1))], [], SH0, [], lg) rfl ?_
        exact ih v1 v2 (v3 + 1) r h
      · refine E_itf hc ?_
        obtain rfl := Option.some.inj h
        refine E_sts 1 (22, [(0, .ref 42), (1, .int v1), (2, .int v2), (3, .int v3)], [.int v3], SH0, [], lg) rfl ?_
        exact E_ret rfl
set_option maxHeartbeats 4000000 in
set_option maxRecDepth 20000 in
theorem e_X4_wordAt (X : xX) (σ : xM) (lg : Int64) (v1 : Int32) (v2 : Int32) (r : Int32) (h : X4_wordAt (σ 4300) v1 v2 = some r) : EM XP X 6 64 [.ref 42, .int v1, .int v2] SH0 lg σ (some (.int r), SH0, [], lg) := by
  refine EM_of (M := xm_64) rfl ?_
  unfold X4_wordAt at h
  refine E_sts 3 (2, [(0, .ref 42), (1, .int v1), (2, .int v2), (3, .int 0)], [], SH0, [], lg) rfl ?_
  exact e_X4_wordAt_L2 X σ lg _ v1 v2 0 r h
