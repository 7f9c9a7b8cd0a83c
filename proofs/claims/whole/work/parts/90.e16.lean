/-! what the machine answers is what the functions say (by gen/emit.py) -/
set_option maxHeartbeats 4000000 in
set_option maxRecDepth 20000 in
theorem e_X2_become_kp_sc (X : xX) (σ : xM) (lg : Int64) (r : Int32 × Int32 × Int32 × Int32 × Int32 × Int32 × (Nat → Int32) × (Nat → Int32) × (Nat → Int32) × (Nat → Int32) × (Nat → Int32) × (Nat → Int32) × (Nat → Int32) × (Nat → Int32) × (Nat → Int32)) (h : X2_become_kp_sc (σ 201 0) (σ 207 0) (σ 208 0) (σ 209 0) (σ 210 0) (σ 214 0) (σ 300) (σ 400) (σ 500) (σ 600) (σ 700) (σ 800) (σ 900) (σ 1000) (σ 1100) (σ 1300) (σ 1400) (σ 1500) (σ 1600) (σ 1700) (σ 1800) (σ 1900) (σ 2000) (σ 2100) = some r) : EM XP X 1 24 [.ref 12, .ref 2] SH0 lg σ (none, SH0, [(1201, fun _ => r.1), (1207, fun _ => r.2.1), (1208, fun _ => r.2.2.1), (1209, fun _ => r.2.2.2.1), (1210, fun _ => r.2.2.2.2.1), (1214, fun _ => r.2.2.2.2.2.1), (1300, r.2.2.2.2.2.2.1), (1400, r.2.2.2.2.2.2.2.1), (1500, r.2.2.2.2.2.2.2.2.1), (1600, r.2.2.2.2.2.2.2.2.2.1), (1700, r.2.2.2.2.2.2.2.2.2.2.1), (1800, r.2.2.2.2.2.2.2.2.2.2.2.1), (1900, r.2.2.2.2.2.2.2.2.2.2.2.2.1), (2000, r.2.2.2.2.2.2.2.2.2.2.2.2.2.1), (2100, r.2.2.2.2.2.2.2.2.2.2.2.2.2.2)], lg) := by
  refine EM_of (M := xm_24) rfl rfl ?_
  unfold X2_become_kp_sc at h
  refine E_sts 31 (60, [(0, .ref 12), (1, .ref 2)], [.int 9, .int 0, .ref 13, .int 0, .ref 3], SH0, [(1201, fun _ => (σ 201 0)), (1207, fun _ => (σ 207 0)), (1208, fun _ => (σ 208 0)), (1209, fun _ => (σ 209 0)), (1210, fun _ => (σ 210 0)), (1214, fun _ => (σ 214 0))], lg) rfl ?_
  refine E_par (p := 0 ≤ Int32.toInt 0 ∧ 0 ≤ Int32.toInt 0 ∧ 0 ≤ Int32.toInt 9 ∧ Int32.toInt 0 + Int32.toInt 9 ≤ ((9 : Nat) : Int) ∧ Int32.toInt 0 + Int32.toInt 9 ≤ ((9 : Nat) : Int)) (63, [(0, .ref 12), (1, .ref 2)], [], SH0, [(1201, fun _ => (σ 201 0)), (1207, fun _ => (σ 207 0)), (1208, fun _ => (σ 208 0)), (1209, fun _ => (σ 209 0)), (1210, fun _ => (σ 210 0)), (1214, fun _ => (σ 214 0)), (1300, (va_cpy (σ 300) (σ 1300) (Int32.toNatClampNeg 0) (Int32.toNatClampNeg 0) (Int32.toNatClampNeg 9)))], lg) rfl (by decide) ?_
  refine E_sts 7 (75, [(0, .ref 12), (1, .ref 2)], [.int 9, .int 0, .ref 14, .int 0, .ref 4], SH0, [(1201, fun _ => (σ 201 0)), (1207, fun _ => (σ 207 0)), (1208, fun _ => (σ 208 0)), (1209, fun _ => (σ 209 0)), (1210, fun _ => (σ 210 0)), (1214, fun _ => (σ 214 0)), (1300, (va_cpy (σ 300) (σ 1300) (Int32.toNatClampNeg 0) (Int32.toNatClampNeg 0) (Int32.toNatClampNeg 9)))], lg) rfl ?_
  refine E_par (p := 0 ≤ Int32.toInt 0 ∧ 0 ≤ Int32.toInt 0 ∧ 0 ≤ Int32.toInt 9 ∧ Int32.toInt 0 + Int32.toInt 9 ≤ ((9 : Nat) : Int) ∧ Int32.toInt 0 + Int32.toInt 9 ≤ ((9 : Nat) : Int)) (78, [(0, .ref 12), (1, .ref 2)], [], SH0, [(1201, fun _ => (σ 201 0)), (1207, fun _ => (σ 207 0)), (1208, fun _ => (σ 208 0)), (1209, fun _ => (σ 209 0)), (1210, fun _ => (σ 210 0)), (1214, fun _ => (σ 214 0)), (1300, (va_cpy (σ 300) (σ 1300) (Int32.toNatClampNeg 0) (Int32.toNatClampNeg 0) (Int32.toNatClampNeg 9))), (1400, (va_cpy (σ 400) (σ 1400) (Int32.toNatClampNeg 0) (Int32.toNatClampNeg 0) (Int32.toNatClampNeg 9)))], lg) rfl (by decide) ?_
  refine E_sts 7 (90, [(0, .ref 12), (1, .ref 2)], [.int 9, .int 0, .ref 15, .int 0, .ref 5], SH0, [(1201, fun _ => (σ 201 0)), (1207, fun _ => (σ 207 0)), (1208, fun _ => (σ 208 0)), (1209, fun _ => (σ 209 0)), (1210, fun _ => (σ 210 0)), (1214, fun _ => (σ 214 0)), (1300, (va_cpy (σ 300) (σ 1300) (Int32.toNatClampNeg 0) (Int32.toNatClampNeg 0) (Int32.toNatClampNeg 9))), (1400, (va_cpy (σ 400) (σ 1400) (Int32.toNatClampNeg 0) (Int32.toNatClampNeg 0) (Int32.toNatClampNeg 9)))], lg) rfl ?_
  refine E_par (p := 0 ≤ Int32.toInt 0 ∧ 0 ≤ Int32.toInt 0 ∧ 0 ≤ Int32.toInt 9 ∧ Int32.toInt 0 + Int32.toInt 9 ≤ ((9 : Nat) : Int) ∧ Int32.toInt 0 + Int32.toInt 9 ≤ ((9 : Nat) : Int)) (93, [(0, .ref 12), (1, .ref 2)], [], SH0, [(1201, fun _ => (σ 201 0)), (1207, fun _ => (σ 207 0)), (1208, fun _ => (σ 208 0)), (1209, fun _ => (σ 209 0)), (1210, fun _ => (σ 210 0)), (1214, fun _ => (σ 214 0)), (1300, (va_cpy (σ 300) (σ 1300) (Int32.toNatClampNeg 0) (Int32.toNatClampNeg 0) (Int32.toNatClampNeg 9))), (1400, (va_cpy (σ 400) (σ 1400) (Int32.toNatClampNeg 0) (Int32.toNatClampNeg 0) (Int32.toNatClampNeg 9))), (1500, (va_cpy (σ 500) (σ 1500) (Int32.toNatClampNeg 0) (Int32.toNatClampNeg 0) (Int32.toNatClampNeg 9)))], lg) rfl (by decide) ?_
  refine E_sts 7 (105, [(0, .ref 12), (1, .ref 2)], [.int 9, .int 0, .ref 16, .int 0, .ref 6], SH0, [(1201, fun _ => (σ 201 0)), (1207, fun _ => (σ 207 0)), (1208, fun _ => (σ 208 0)), (1209, fun _ => (σ 209 0)), (1210, fun _ => (σ 210 0)), (1214, fun _ => (σ 214 0)), (1300, (va_cpy (σ 300) (σ 1300) (Int32.toNatClampNeg 0) (Int32.toNatClampNeg 0) (Int32.toNatClampNeg 9))), (1400, (va_cpy (σ 400) (σ 1400) (Int32.toNatClampNeg 0) (Int32.toNatClampNeg 0) (Int32.toNatClampNeg 9))), (1500, (va_cpy (σ 500) (σ 1500) (Int32.toNatClampNeg 0) (Int32.toNatClampNeg 0) (Int32.toNatClampNeg 9)))], lg) rfl ?_
  refine E_par (p := 0 ≤ Int32.toInt 0 ∧ 0 ≤ Int32.toInt 0 ∧ 0 ≤ Int32.toInt 9 ∧ Int32.toInt 0 + Int32.toInt 9 ≤ ((9 : Nat) : Int) ∧ Int32.toInt 0 + Int32.toInt 9 ≤ ((9 : Nat) : Int)) (108, [(0, .ref 12), (1, .ref 2)], [], SH0, [(1201, fun _ => (σ 201 0)), (1207, fun _ => (σ 207 0)), (1208, fun _ => (σ 208 0)), (1209, fun _ => (σ 209 0)), (1210, fun _ => (σ 210 0)), (1214, fun _ => (σ 214 0)), (1300, (va_cpy (σ 300) (σ 1300) (Int32.toNatClampNeg 0) (Int32.toNatClampNeg 0) (Int32.toNatClampNeg 9))), (1400, (va_cpy (σ 400) (σ 1400) (Int32.toNatClampNeg 0) (Int32.toNatClampNeg 0) (Int32.toNatClampNeg 9))), (1500, (va_cpy (σ 500) (σ 1500) (Int32.toNatClampNeg 0) (Int32.toNatClampNeg 0) (Int32.toNatClampNeg 9))), (1600, (va_cpy (σ 600) (σ 1600) (Int32.toNatClampNeg 0) (Int32.toNatClampNeg 0) (Int32.toNatClampNeg 9)))], lg) rfl (by decide) ?_
  refine E_sts 7 (119, [(0, .ref 12), (1, .ref 2)], [.int 5, .int 0, .ref 17, .int 0, .ref 7], SH0, [(1201, fun _ => (σ 201 0)), (1207, fun _ => (σ 207 0)), (1208, fun _ => (σ 208 0)), (1209, fun _ => (σ 209 0)), (1210, fun _ => (σ 210 0)), (1214, fun _ => (σ 214 0)), (1300, (va_cpy (σ 300) (σ 1300) (Int32.toNatClampNeg 0) (Int32.toNatClampNeg 0) (Int32.toNatClampNeg 9))), (1400, (va_cpy (σ 400) (σ 1400) (Int32.toNatClampNeg 0) (Int32.toNatClampNeg 0) (Int32.toNatClampNeg 9))), (1500, (va_cpy (σ 500) (σ 1500) (Int32.toNatClampNeg 0) (Int32.toNatClampNeg 0) (Int32.toNatClampNeg 9))), (1600, (va_cpy (σ 600) (σ 1600) (Int32.toNatClampNeg 0) (Int32.toNatClampNeg 0) (Int32.toNatClampNeg 9)))], lg) rfl ?_
  refine E_par (p := 0 ≤ Int32.toInt 0 ∧ 0 ≤ Int32.toInt 0 ∧ 0 ≤ Int32.toInt 5 ∧ Int32.toInt 0 + Int32.toInt 5 ≤ ((5 : Nat) : Int) ∧ Int32.toInt 0 + Int32.toInt 5 ≤ ((5 : Nat) : Int)) (122, [(0, .ref 12), (1, .ref 2)], [], SH0, [(1201, fun _ => (σ 201 0)), (1207, fun _ => (σ 207 0)), (1208, fun _ => (σ 208 0)), (1209, fun _ => (σ 209 0)), (1210, fun _ => (σ 210 0)), (1214, fun _ => (σ 214 0)), (1300, (va_cpy (σ 300) (σ 1300) (Int32.toNatClampNeg 0) (Int32.toNatClampNeg 0) (Int32.toNatClampNeg 9))), (1400, (va_cpy (σ 400) (σ 1400) (Int32.toNatClampNeg 0) (Int32.toNatClampNeg 0) (Int32.toNatClampNeg 9))), (1500, (va_cpy (σ 500) (σ 1500) (Int32.toNatClampNeg 0) (Int32.toNatClampNeg 0) (Int32.toNatClampNeg 9))), (1600, (va_cpy (σ 600) (σ 1600) (Int32.toNatClampNeg 0) (Int32.toNatClampNeg 0) (Int32.toNatClampNeg 9))), (1700, (va_cpy (σ 700) (σ 1700) (Int32.toNatClampNeg 0) (Int32.toNatClampNeg 0) (Int32.toNatClampNeg 5)))], lg) rfl (by decide) ?_
  refine E_sts 7 (134, [(0, .ref 12), (1, .ref 2)], [.int 9, .int 0, .ref 18, .int 0, .ref 8], SH0, [(1201, fun _ => (σ 201 0)), (1207, fun _ => (σ 207 0)), (1208, fun _ => (σ 208 0)), (1209, fun _ => (σ 209 0)), (1210, fun _ => (σ 210 0)), (1214, fun _ => (σ 214 0)), (1300, (va_cpy (σ 300) (σ 1300) (Int32.toNatClampNeg 0) (Int32.toNatClampNeg 0) (Int32.toNatClampNeg 9))), (1400, (va_cpy (σ 400) (σ 1400) (Int32.toNatClampNeg 0) (Int32.toNatClampNeg 0) (Int32.toNatClampNeg 9))), (1500, (va_cpy (σ 500) (σ 1500) (Int32.toNatClampNeg 0) (Int32.toNatClampNeg 0) (Int32.toNatClampNeg 9))), (1600, (va_cpy (σ 600) (σ 1600) (Int32.toNatClampNeg 0) (Int32.toNatClampNeg 0) (Int32.toNatClampNeg 9))), (1700, (va_cpy (σ 700) (σ 1700) (Int32.toNatClampNeg 0) (Int32.toNatClampNeg 0) (Int32.toNatClampNeg 5)))], lg) rfl ?_
  refine E_par (p := 0 ≤ Int32.toInt 0 ∧ 0 ≤ Int32.toInt 0 ∧ 0 ≤ Int32.toInt 9 ∧ Int32.toInt 0 + Int32.toInt 9 ≤ ((9 : Nat) : Int) ∧ Int32.toInt 0 + Int32.toInt 9 ≤ ((9 : Nat) : Int)) (137, [(0, .ref 12), (1, .ref 2)], [], SH0, [(1201, fun _ => (σ 201 0)), (1207, fun _ => (σ 207 0)), (1208, fun _ => (σ 208 0)), (1209, fun _ => (σ 209 0)), (1210, fun _ => (σ 210 0)), (1214, fun _ => (σ 214 0)), (1300, (va_cpy (σ 300) (σ 1300) (Int32.toNatClampNeg 0) (Int32.toNatClampNeg 0) (Int32.toNatClampNeg 9))), (1400, (va_cpy (σ 400) (σ 1400) (Int32.toNatClampNeg 0) (Int32.toNatClampNeg 0) (Int32.toNatClampNeg 9))), (1500, (va_cpy (σ 500) (σ 1500) (Int32.toNatClampNeg 0) (Int32.toNatClampNeg 0) (Int32.toNatClampNeg 9))), (1600, (va_cpy (σ 600) (σ 1600) (Int32.toNatClampNeg 0) (Int32.toNatClampNeg 0) (Int32.toNatClampNeg 9))), (1700, (va_cpy (σ 700) (σ 1700) (Int32.toNatClampNeg 0) (Int32.toNatClampNeg 0) (Int32.toNatClampNeg 5))), (1800, (va_cpy (σ 800) (σ 1800) (Int32.toNatClampNeg 0) (Int32.toNatClampNeg 0) (Int32.toNatClampNeg 9)))], lg) rfl (by decide) ?_
  refine E_sts 7 (149, [(0, .ref 12), (1, .ref 2)], [.int 9, .int 0, .ref 19, .int 0, .ref 9], SH0, [(1201, fun _ => (σ 201 0)), (1207, fun _ => (σ 207 0)), (1208, fun _ => (σ 208 0)), (1209, fun _ => (σ 209 0)), (1210, fun _ => (σ 210 0)), (1214, fun _ => (σ 214 0)), (1300, (va_cpy (σ 300) (σ 1300) (Int32.toNatClampNeg 0) (Int32.toNatClampNeg 0) (Int32.toNatClampNeg 9))), (1400, (va_cpy (σ 400) (σ 1400) (Int32.toNatClampNeg 0) (Int32.toNatClampNeg 0) (Int32.toNatClampNeg 9))), (1500, (va_cpy (σ 500) (σ 1500) (Int32.toNatClampNeg 0) (Int32.toNatClampNeg 0) (Int32.toNatClampNeg 9))), (1600, (va_cpy (σ 600) (σ 1600) (Int32.toNatClampNeg 0) (Int32.toNatClampNeg 0) (Int32.toNatClampNeg 9))), (1700, (va_cpy (σ 700) (σ 1700) (Int32.toNatClampNeg 0) (Int32.toNatClampNeg 0) (Int32.toNatClampNeg 5))), (1800, (va_cpy (σ 800) (σ 1800) (Int32.toNatClampNeg 0) (Int32.toNatClampNeg 0) (Int32.toNatClampNeg 9)))], lg) rfl ?_
  refine E_par (p := 0 ≤ Int32.toInt 0 ∧ 0 ≤ Int32.toInt 0 ∧ 0 ≤ Int32.toInt 9 ∧ Int32.toInt 0 + Int32.toInt 9 ≤ ((9 : Nat) : Int) ∧ Int32.toInt 0 + Int32.toInt 9 ≤ ((9 : Nat) : Int)) (152, [(0, .ref 12), (1, .ref 2)], [], SH0, [(1201, fun _ => (σ 201 0)), (1207, fun _ => (σ 207 0)), (1208, fun _ => (σ 208 0)), (1209, fun _ => (σ 209 0)), (1210, fun _ => (σ 210 0)), (1214, fun _ => (σ 214 0)), (1300, (va_cpy (σ 300) (σ 1300) (Int32.toNatClampNeg 0) (Int32.toNatClampNeg 0) (Int32.toNatClampNeg 9))), (1400, (va_cpy (σ 400) (σ 1400) (Int32.toNatClampNeg 0) (Int32.toNatClampNeg 0) (Int32.toNatClampNeg 9))), (1500, (va_cpy (σ 500) (σ 1500) (Int32.toNatClampNeg 0) (Int32.toNatClampNeg 0) (Int32.toNatClampNeg 9))), (1600, (va_cpy (σ 600) (σ 1600) (Int32.toNatClampNeg 0) (Int32.toNatClampNeg 0) (Int32.toNatClampNeg 9))), (1700, (va_cpy (σ 700) (σ 1700) (Int32.toNatClampNeg 0) (Int32.toNatClampNeg 0) (Int32.toNatClampNeg 5))), (1800, (va_cpy (σ 800) (σ 1800) (Int32.toNatClampNeg 0) (Int32.toNatClampNeg 0) (Int32.toNatClampNeg 9))), (1900, (va_cpy (σ 900) (σ 1900) (Int32.toNatClampNeg 0) (Int32.toNatClampNeg 0) (Int32.toNatClampNeg 9)))], lg) rfl (by decide) ?_
  refine E_sts 7 (164, [(0, .ref 12), (1, .ref 2)], [.int 9, .int 0, .ref 20, .int 0, .ref 10], SH0, [(1201, fun _ => (σ 201 0)), (1207, fun _ => (σ 207 0)), (1208, fun _ => (σ 208 0)), (1209, fun _ => (σ 209 0)), (1210, fun _ => (σ 210 0)), (1214, fun _ => (σ 214 0)), (1300, (va_cpy (σ 300) (σ 1300) (Int32.toNatClampNeg 0) (Int32.toNatClampNeg 0) (Int32.toNatClampNeg 9))), (1400, (va_cpy (σ 400) (σ 1400) (Int32.toNatClampNeg 0) (Int32.toNatClampNeg 0) (Int32.toNatClampNeg 9))), (1500, (va_cpy (σ 500) (σ 1500) (Int32.toNatClampNeg 0) (Int32.toNatClampNeg 0) (Int32.toNatClampNeg 9))), (1600, (va_cpy (σ 600) (σ 1600) (Int32.toNatClampNeg 0) (Int32.toNatClampNeg 0) (Int32.toNatClampNeg 9))), (1700, (va_cpy (σ 700) (σ 1700) (Int32.toNatClampNeg 0) (Int32.toNatClampNeg 0) (Int32.toNatClampNeg 5))), (1800, (va_cpy (σ 800) (σ 1800) (Int32.toNatClampNeg 0) (Int32.toNatClampNeg 0) (Int32.toNatClampNeg 9))), (1900, (va_cpy (σ 900) (σ 1900) (Int32.toNatClampNeg 0) (Int32.toNatClampNeg 0) (Int32.toNatClampNeg 9)))], lg) rfl ?_
  refine E_par (p := 0 ≤ Int32.toInt 0 ∧ 0 ≤ Int32.toInt 0 ∧ 0 ≤ Int32.toInt 9 ∧ Int32.toInt 0 + Int32.toInt 9 ≤ ((9 : Nat) : Int) ∧ Int32.toInt 0 + Int32.toInt 9 ≤ ((9 : Nat) : Int)) (167, [(0, .ref 12), (1, .ref 2)], [], SH0, [(1201, fun _ => (σ 201 0)), (1207, fun _ => (σ 207 0)), (1208, fun _ => (σ 208 0)), (1209, fun _ => (σ 209 0)), (1210, fun _ => (σ 210 0)), (1214, fun _ => (σ 214 0)), (1300, (va_cpy (σ 300) (σ 1300) (Int32.toNatClampNeg 0) (Int32.toNatClampNeg 0) (Int32.toNatClampNeg 9))), (1400, (va_cpy (σ 400) (σ 1400) (Int32.toNatClampNeg 0) (Int32.toNatClampNeg 0) (Int32.toNatClampNeg 9))), (1500, (va_cpy (σ 500) (σ 1500) (Int32.toNatClampNeg 0) (Int32.toNatClampNeg 0) (Int32.toNatClampNeg 9))), (1600, (va_cpy (σ 600) (σ 1600) (Int32.toNatClampNeg 0) (Int32.toNatClampNeg 0) (Int32.toNatClampNeg 9))), (1700, (va_cpy (σ 700) (σ 1700) (Int32.toNatClampNeg 0) (Int32.toNatClampNeg 0) (Int32.toNatClampNeg 5))), (1800, (va_cpy (σ 800) (σ 1800) (Int32.toNatClampNeg 0) (Int32.toNatClampNeg 0) (Int32.toNatClampNeg 9))), (1900, (va_cpy (σ 900) (σ 1900) (Int32.toNatClampNeg 0) (Int32.toNatClampNeg 0) (Int32.toNatClampNeg 9))), (2000, (va_cpy (σ 1000) (σ 2000) (Int32.toNatClampNeg 0) (Int32.toNatClampNeg 0) (Int32.toNatClampNeg 9)))], lg) rfl (by decide) ?_
  refine E_sts 7 (179, [(0, .ref 12), (1, .ref 2)], [.int 10, .int 0, .ref 21, .int 0, .ref 11], SH0, [(1201, fun _ => (σ 201 0)), (1207, fun _ => (σ 207 0)), (1208, fun _ => (σ 208 0)), (1209, fun _ => (σ 209 0)), (1210, fun _ => (σ 210 0)), (1214, fun _ => (σ 214 0)), (1300, (va_cpy (σ 300) (σ 1300) (Int32.toNatClampNeg 0) (Int32.toNatClampNeg 0) (Int32.toNatClampNeg 9))), (1400, (va_cpy (σ 400) (σ 1400) (Int32.toNatClampNeg 0) (Int32.toNatClampNeg 0) (Int32.toNatClampNeg 9))), (1500, (va_cpy (σ 500) (σ 1500) (Int32.toNatClampNeg 0) (Int32.toNatClampNeg 0) (Int32.toNatClampNeg 9))), (1600, (va_cpy (σ 600) (σ 1600) (Int32.toNatClampNeg 0) (Int32.toNatClampNeg 0) (Int32.toNatClampNeg 9))), (1700, (va_cpy (σ 700) (σ 1700) (Int32.toNatClampNeg 0) (Int32.toNatClampNeg 0) (Int32.toNatClampNeg 5))), (1800, (va_cpy (σ 800) (σ 1800) (Int32.toNatClampNeg 0) (Int32.toNatClampNeg 0) (Int32.toNatClampNeg 9))), (1900, (va_cpy (σ 900) (σ 1900) (Int32.toNatClampNeg 0) (Int32.toNatClampNeg 0) (Int32.toNatClampNeg 9))), (2000, (va_cpy (σ 1000) (σ 2000) (Int32.toNatClampNeg 0) (Int32.toNatClampNeg 0) (Int32.toNatClampNeg 9)))], lg) rfl ?_
  refine E_par (p := 0 ≤ Int32.toInt 0 ∧ 0 ≤ Int32.toInt 0 ∧ 0 ≤ Int32.toInt 10 ∧ Int32.toInt 0 + Int32.toInt 10 ≤ ((10 : Nat) : Int) ∧ Int32.toInt 0 + Int32.toInt 10 ≤ ((10 : Nat) : Int)) (182, [(0, .ref 12), (1, .ref 2)], [], SH0, [(1201, fun _ => (σ 201 0)), (1207, fun _ => (σ 207 0)), (1208, fun _ => (σ 208 0)), (1209, fun _ => (σ 209 0)), (1210, fun _ => (σ 210 0)), (1214, fun _ => (σ 214 0)), (1300, (va_cpy (σ 300) (σ 1300) (Int32.toNatClampNeg 0) (Int32.toNatClampNeg 0) (Int32.toNatClampNeg 9))), (1400, (va_cpy (σ 400) (σ 1400) (Int32.toNatClampNeg 0) (Int32.toNatClampNeg 0) (Int32.toNatClampNeg 9))), (1500, (va_cpy (σ 500) (σ 1500) (Int32.toNatClampNeg 0) (Int32.toNatClampNeg 0) (Int32.toNatClampNeg 9))), (1600, (va_cpy (σ 600) (σ 1600) (Int32.toNatClampNeg 0) (Int32.toNatClampNeg 0) (Int32.toNatClampNeg 9))), (1700, (va_cpy (σ 700) (σ 1700) (Int32.toNatClampNeg 0) (Int32.toNatClampNeg 0) (Int32.toNatClampNeg 5))), (1800, (va_cpy (σ 800) (σ 1800) (Int32.toNatClampNeg 0) (Int32.toNatClampNeg 0) (Int32.toNatClampNeg 9))), (1900, (va_cpy (σ 900) (σ 1900) (Int32.toNatClampNeg 0) (Int32.toNatClampNeg 0) (Int32.toNatClampNeg 9))), (2000, (va_cpy (σ 1000) (σ 2000) (Int32.toNatClampNeg 0) (Int32.toNatClampNeg 0) (Int32.toNatClampNeg 9))), (2100, (va_cpy (σ 1100) (σ 2100) (Int32.toNatClampNeg 0) (Int32.toNatClampNeg 0) (Int32.toNatClampNeg 10)))], lg) rfl (by decide) ?_
  obtain rfl := Option.some.inj h
  exact E_ret rfl
set_option maxHeartbeats 4000000 in
set_option maxRecDepth 20000 in
theorem e_X5_image (X : xX) (σ : xM) (lg : Int64) (r : Int32 × Int32 × Int32 × Int32 × Int32 × Int32 × Int32 × Int32 × (Nat → Int32) × (Nat → Int32) × (Nat → Int32) × (Nat → Int32) × (Nat → Int32) × (Nat → Int32) × (Nat → Int32) × (Nat → Int32) × (Nat → Int32)) (h : X5_image (σ 201 0) (σ 207 0) (σ 208 0) (σ 209 0) (σ 210 0) (σ 214 0) (σ 300) (σ 400) (σ 500) (σ 600) (σ 700) (σ 800) (σ 900) (σ 1000) (σ 1100) (σ 1300) (σ 1400) (σ 1500) (σ 1600) (σ 1700) (σ 1800) (σ 1900) (σ 2000) (σ 2100) = some r) : EM XP X 2 110 [.ref 0] SH0 lg σ (some (.int r.1), SH0, [(8, fun _ => r.2.1), (1201, fun _ => r.2.2.1), (1207, fun _ => r.2.2.2.1), (1208, fun _ => r.2.2.2.2.1), (1209, fun _ => r.2.2.2.2.2.1), (1210, fun _ => r.2.2.2.2.2.2.1), (1214, fun _ => r.2.2.2.2.2.2.2.1), (1300, r.2.2.2.2.2.2.2.2.1), (1400, r.2.2.2.2.2.2.2.2.2.1), (1500, r.2.2.2.2.2.2.2.2.2.2.1), (1600, r.2.2.2.2.2.2.2.2.2.2.2.1), (1700, r.2.2.2.2.2.2.2.2.2.2.2.2.1), (1800, r.2.2.2.2.2.2.2.2.2.2.2.2.2.1), (1900, r.2.2.2.2.2.2.2.2.2.2.2.2.2.2.1), (2000, r.2.2.2.2.2.2.2.2.2.2.2.2.2.2.2.1), (2100, r.2.2.2.2.2.2.2.2.2.2.2.2.2.2.2.2)], lg) := by
  refine EM_of (M := xm_110) rfl rfl ?_
  unfold X5_image at h
  refine E_sts 4 (8, [(0, .ref 0)], [.ref 2, .ref 12], SH0, [], lg) rfl ?_
  obtain ⟨r8, hr, h⟩ := x_bind h
  refine E_call rfl (e_X2_become_kp_sc X _ _ r8 hr) (by decide) ?_
  obtain rfl := Option.some.inj h
  refine E_sts 4 (17, [(0, .ref 0)], [.int 1], SH0, [(8, fun _ => 1), (1201, fun _ => r8.1), (1207, fun _ => r8.2.1), (1208, fun _ => r8.2.2.1), (1209, fun _ => r8.2.2.2.1), (1210, fun _ => r8.2.2.2.2.1), (1214, fun _ => r8.2.2.2.2.2.1), (1300, r8.2.2.2.2.2.2.1), (1400, r8.2.2.2.2.2.2.2.1), (1500, r8.2.2.2.2.2.2.2.2.1), (1600, r8.2.2.2.2.2.2.2.2.2.1), (1700, r8.2.2.2.2.2.2.2.2.2.2.1), (1800, r8.2.2.2.2.2.2.2.2.2.2.2.1), (1900, r8.2.2.2.2.2.2.2.2.2.2.2.2.1), (2000, r8.2.2.2.2.2.2.2.2.2.2.2.2.2.1), (2100, r8.2.2.2.2.2.2.2.2.2.2.2.2.2.2)], lg) rfl ?_
  exact E_ret rfl
set_option maxHeartbeats 4000000 in
set_option maxRecDepth 20000 in
theorem e_X6_image_L2 (X : xX) (σ : xM) (lg : Int64) : ∀ (n : Nat), ∀ (v1 : Int32) (m_kept_ : (Nat → Int32)) (r : Int32 × Int32 × (Nat → Int32)), X6_image_L2 (σ 5300) n v1 m_kept_ = some r → E XP X 0 xm_214 σ (2, [(0, .ref 52), (1, .int v1)], [], SH0, [(5400, m_kept_)], lg) (some (.int r.1), SH0, [(5204, fun _ => r.2.1), (5400, r.2.2)], lg) := by
  intro n
  induction n with
  | zero => intro v1 m_kept_ r h; rw [X6_image_L2] at h; cases h
  | succ n ih =>
    intro v1 m_kept_ r h
    rw [X6_image_L2] at h
    refine E_sts 3 (if 83 ≤ v1 then 26 else 8, [(0, .ref 52), (1, .int v1)], [], SH0, [(5400, m_kept_)], lg) rfl ?_
    rcases x_br h with ⟨hc, h⟩ | ⟨hc, h⟩
    · refine E_itt hc ?_
      obtain rfl := Option.some.inj h
      refine E_sts 5 (32, [], [.int 1], SH0, [(5204, fun _ => 1), (5400, m_kept_)], lg) rfl ?_
      exact E_ret rfl
    · refine E_itf hc ?_
      refine E_sts 6 (18, [(0, .ref 52), (1, .int v1)], [.int v1, .ref 53, .int v1, .ref 54], SH0, [(5400, m_kept_)], lg) rfl ?_
      obtain ⟨hp, h⟩ := x_ite h
      refine E_par (p := inr v1 83) (19, [(0, .ref 52), (1, .int v1)], [.int ((σ 5300) v1.toNatClampNeg), .int v1, .ref 54], SH0, [(5400, m_kept_)], lg) rfl hp ?_
      obtain ⟨hp, h⟩ := x_ite h
      refine E_par (p := inr v1 83) (20, [(0, .ref 52), (1, .int v1)], [], SH0, [(5400, (upd m_kept_ v1.toNatClampNeg ((σ 5300) v1.toNatClampNeg)))], lg) rfl hp ?_
      refine E_sts 3 (2, [(0, .ref 52), (1, .int (v1 + 1))], [], SH0, [(5400, (upd m_kept_ v1.toNatClampNeg ((σ 5300) v1.toNatClampNeg)))], lg) rfl ?_
      exact ih (v1 + 1) (upd m_kept_ v1.toNatClampNeg ((σ 5300) v1.toNatClampNeg)) r h
set_option maxHeartbeats 4000000 in
set_option maxRecDepth 20000 in
theorem e_X6_image (X : xX) (σ : xM) (lg : Int64) (r : Int32 × Int32 × (Nat → Int32)) (h : X6_image (σ 5300) (σ 5400) = some r) : EM XP X 1 214 [.ref 52] SH0 lg σ (some (.int r.1), SH0, [(5204, fun _ => r.2.1), (5400, r.2.2)], lg) := by
  refine EM_of (M := xm_214) rfl rfl ?_
  unfold X6_image at h
  refine E_sts 3 (2, [(0, .ref 52), (1, .int 0)], [], SH0, [(5400, (σ 5400))], lg) rfl ?_
  exact e_X6_image_L2 X σ lg _ 0 (σ 5400) r h
set_option maxHeartbeats 4000000 in
set_option maxRecDepth 20000 in
theorem e_X2_become_sc_kp (X : xX) (σ : xM) (lg : Int64) (r : Int32 × Int32 × Int32 × Int32 × Int32 × Int32 × (Nat → Int32) × (Nat → Int32) × (Nat → Int32) × (Nat → Int32) × (Nat → Int32) × (Nat → Int32) × (Nat → Int32) × (Nat → Int32) × (Nat → Int32)) (h : X2_become_sc_kp (σ 300) (σ 400) (σ 500) (σ 600) (σ 700) (σ 800) (σ 900) (σ 1000) (σ 1100) (σ 1201 0) (σ 1207 0) (σ 1208 0) (σ 1209 0) (σ 1210 0) (σ 1214 0) (σ 1300) (σ 1400) (σ 1500) (σ 1600) (σ 1700) (σ 1800) (σ 1900) (σ 2000) (σ 2100) = some r) : EM XP X 1 24 [.ref 2, .ref 12] SH0 lg σ (none, SH0, [(201, fun _ => r.1), (207, fun _ => r.2.1), (208, fun _ => r.2.2.1), (209, fun _ => r.2.2.2.1), (210, fun _ => r.2.2.2.2.1), (214, fun _ => r.2.2.2.2.2.1), (300, r.2.2.2.2.2.2.1), (400, r.2.2.2.2.2.2.2.1), (500, r.2.2.2.2.2.2.2.2.1), (600, r.2.2.2.2.2.2.2.2.2.1), (700, r.2.2.2.2.2.2.2.2.2.2.1), (800, r.2.2.2.2.2.2.2.2.2.2.2.1), (900, r.2.2.2.2.2.2.2.2.2.2.2.2.1), (1000, r.2.2.2.2.2.2.2.2.2.2.2.2.2.1), (1100, r.2.2.2.2.2.2.2.2.2.2.2.2.2.2)], lg) := by
  refine EM_of (M := xm_24) rfl rfl ?_
  unfold X2_become_sc_kp at h
  refine E_sts 31 (60, [(0, .ref 2), (1, .ref 12)], [.int 9, .int 0, .ref 3, .int 0, .ref 13], SH0, [(201, fun _ => (σ 1201 0)), (207, fun _ => (σ 1207 0)), (208, fun _ => (σ 1208 0)), (209, fun _ => (σ 1209 0)), (210, fun _ => (σ 1210 0)), (214, fun _ => (σ 1214 0))], lg) rfl ?_
  refine E_par (p := 0 ≤ Int32.toInt 0 ∧ 0 ≤ Int32.toInt 0 ∧ 0 ≤ Int32.toInt 9 ∧ Int32.toInt 0 + Int32.toInt 9 ≤ ((9 : Nat) : Int) ∧ Int32.toInt 0 + Int32.toInt 9 ≤ ((9 : Nat) : Int)) (63, [(0, .ref 2), (1, .ref 12)], [], SH0, [(201, fun _ => (σ 1201 0)), (207, fun _ => (σ 1207 0)), (208, fun _ => (σ 1208 0)), (209, fun _ => (σ 1209 0)), (210, fun _ => (σ 1210 0)), (214, fun _ => (σ 1214 0)), (300, (va_cpy (σ 1300) (σ 300) (Int32.toNatClampNeg 0) (Int32.toNatClampNeg 0) (Int32.toNatClampNeg 9)))], lg) rfl (by decide) ?_
  refine E_sts 7 (75, [(0, .ref 2), (1, .ref 12)], [.int 9, .int 0, .ref 4, .int 0, .ref 14], SH0, [(201, fun _ => (σ 1201 0)), (207, fun _ => (σ 1207 0)), (208, fun _ => (σ 1208 0)), (209, fun _ => (σ 1209 0)), (210, fun _ => (σ 1210 0)), (214, fun _ => (σ 1214 0)), (300, (va_cpy (σ 1300) (σ 300) (Int32.toNatClampNeg 0) (Int32.toNatClampNeg 0) (Int32.toNatClampNeg 9)))], lg) rfl ?_
  refine E_par (p := 0 ≤ Int32.toInt 0 ∧ 0 ≤ Int32.toInt 0 ∧ 0 ≤ Int32.toInt 9 ∧ Int32.toInt 0 + Int32.toInt 9 ≤ ((9 : Nat) : Int) ∧ Int32.toInt 0 + Int32.toInt 9 ≤ ((9 : Nat) : Int)) (78, [(0, .ref 2), (1, .ref 12)], [], SH0, [(201, fun _ => (σ 1201 0)), (207, fun _ => (σ 1207 0)), (208, fun _ => (σ 1208 0)), (209, fun _ => (σ 1209 0)), (210, fun _ => (σ 1210 0)), (214, fun _ => (σ 1214 0)), (300, (va_cpy (σ 1300) (σ 300) (Int32.toNatClampNeg 0) (Int32.toNatClampNeg 0) (Int32.toNatClampNeg 9))), (400, (va_cpy (σ 1400) (σ 400) (Int32.toNatClampNeg 0) (Int32.toNatClampNeg 0) (Int32.toNatClampNeg 9)))], lg) rfl (by decide) ?_
  refine E_sts 7 (90, [(0, .ref 2), (1, .ref 12)], [.int 9, .int 0, .ref 5, .int 0, .ref 15], SH0, [(201, fun _ => (σ 1201 0)), (207, fun _ => (σ 1207 0)), (208, fun _ => (σ 1208 0)), (209, fun _ => (σ 1209 0)), (210, fun _ => (σ 1210 0)), (214, fun _ => (σ 1214 0)), (300, (va_cpy (σ 1300) (σ 300) (Int32.toNatClampNeg 0) (Int32.toNatClampNeg 0) (Int32.toNatClampNeg 9))), (400, (va_cpy (σ 1400) (σ 400) (Int32.toNatClampNeg 0) (Int32.toNatClampNeg 0) (Int32.toNatClampNeg 9)))], lg) rfl ?_
  refine E_par (p := 0 ≤ Int32.toInt 0 ∧ 0 ≤ Int32.toInt 0 ∧ 0 ≤ Int32.toInt 9 ∧ Int32.toInt 0 + Int32.toInt 9 ≤ ((9 : Nat) : Int) ∧ Int32.toInt 0 + Int32.toInt 9 ≤ ((9 : Nat) : Int)) (93, [(0, .ref 2), (1, .ref 12)], [], SH0, [(201, fun _ => (σ 1201 0)), (207, fun _ => (σ 1207 0)), (208, fun _ => (σ 1208 0)), (209, fun _ => (σ 1209 0)), (210, fun _ => (σ 1210 0)), (214, fun _ => (σ 1214 0)), (300, (va_cpy (σ 1300) (σ 300) (Int32.toNatClampNeg 0) (Int32.toNatClampNeg 0) (Int32.toNatClampNeg 9))), (400, (va_cpy (σ 1400) (σ 400) (Int32.toNatClampNeg 0) (Int32.toNatClampNeg 0) (Int32.toNatClampNeg 9))), (500, (va_cpy (σ 1500) (σ 500) (Int32.toNatClampNeg 0) (Int32.toNatClampNeg 0) (Int32.toNatClampNeg 9)))], lg) rfl (by decide) ?_
  refine E_sts 7 (105, [(0, .ref 2), (1, .ref 12)], [.int 9, .int 0, .ref 6, .int 0, .ref 16], SH0, [(201, fun _ => (σ 1201 0)), (207, fun _ => (σ 1207 0)), (208, fun _ => (σ 1208 0)), (209, fun _ => (σ 1209 0)), (210, fun _ => (σ 1210 0)), (214, fun _ => (σ 1214 0)), (300, (va_cpy (σ 1300) (σ 300) (Int32.toNatClampNeg 0) (Int32.toNatClampNeg 0) (Int32.toNatClampNeg 9))), (400, (va_cpy (σ 1400) (σ 400) (Int32.toNatClampNeg 0) (Int32.toNatClampNeg 0) (Int32.toNatClampNeg 9))), (500, (va_cpy (σ 1500) (σ 500) (Int32.toNatClampNeg 0) (Int32.toNatClampNeg 0) (Int32.toNatClampNeg 9)))], lg) rfl ?_
  refine E_par (p := 0 ≤ Int32.toInt 0 ∧ 0 ≤ Int32.toInt 0 ∧ 0 ≤ Int32.toInt 9 ∧ Int32.toInt 0 + Int32.toInt 9 ≤ ((9 : Nat) : Int) ∧ Int32.toInt 0 + Int32.toInt 9 ≤ ((9 : Nat) : Int)) (108, [(0, .ref 2), (1, .ref 12)], [], SH0, [(201, fun _ => (σ 1201 0)), (207, fun _ => (σ 1207 0)), (208, fun _ => (σ 1208 0)), (209, fun _ => (σ 1209 0)), (210, fun _ => (σ 1210 0)), (214, fun _ => (σ 1214 0)), (300, (va_cpy (σ 1300) (σ 300) (Int32.toNatClampNeg 0) (Int32.toNatClampNeg 0) (Int32.toNatClampNeg 9))), (400, (va_cpy (σ 1400) (σ 400) (Int32.toNatClampNeg 0) (Int32.toNatClampNeg 0) (Int32.toNatClampNeg 9))), (500, (va_cpy (σ 1500) (σ 500) (Int32.toNatClampNeg 0) (Int32.toNatClampNeg 0) (Int32.toNatClampNeg 9))), (600, (va_cpy (σ 1600) (σ 600) (Int32.toNatClampNeg 0) (Int32.toNatClampNeg 0) (Int32.toNatClampNeg 9)))], lg) rfl (by decide) ?_
  refine E_sts 7 (119, [(0, .ref 2), (1, .ref 12)], [.int 5, .int 0, .ref 7, .int 0, .ref 17], SH0, [(201, fun _ => (σ 1201 0)), (207, fun _ => (σ 1207 0)), (208, fun _ => (σ 1208 0)), (209, fun _ => (σ 1209 0)), (210, fun _ => (σ 1210 0)), (214, fun _ => (σ 1214 0)), (300, (va_cpy (σ 1300) (σ 300) (Int32.toNatClampNeg 0) (Int32.toNatClampNeg 0) (Int32.toNatClampNeg 9))), (400, (va_cpy (σ 1400) (σ 400) (Int32.toNatClampNeg 0) (Int32.toNatClampNeg 0) (Int32.toNatClampNeg 9))), (500, (va_cpy (σ 1500) (σ 500) (Int32.toNatClampNeg 0) (Int32.toNatClampNeg 0) (Int32.toNatClampNeg 9))), (600, (va_cpy (σ 1600) (σ 600) (Int32.toNatClampNeg 0) (Int32.toNatClampNeg 0) (Int32.toNatClampNeg 9)))], lg) rfl ?_
  refine E_par (p := 0 ≤ Int32.toInt 0 ∧ 0 ≤ Int32.toInt 0 ∧ 0 ≤ Int32.toInt 5 ∧ Int32.toInt 0 + Int32.toInt 5 ≤ ((5 : Nat) : Int) ∧ Int32.toInt 0 + Int32.toInt 5 ≤ ((5 : Nat) : Int)) (122, [(0, .ref 2), (1, .ref 12)], [], SH0, [(201, fun _ => (σ 1201 0)), (207, fun _ => (σ 1207 0)), (208, fun _ => (σ 1208 0)), (209, fun _ => (σ 1209 0)), (210, fun _ => (σ 1210 0)), (214, fun _ => (σ 1214 0)), (300, (va_cpy (σ 1300) (σ 300) (Int32.toNatClampNeg 0) (Int32.toNatClampNeg 0) (Int32.toNatClampNeg 9))), (400, (va_cpy (σ 1400) (σ 400) (Int32.toNatClampNeg 0) (Int32.toNatClampNeg 0) (Int32.toNatClampNeg 9))), (500, (va_cpy (σ 1500) (σ 500) (Int32.toNatClampNeg 0) (Int32.toNatClampNeg 0) (Int32.toNatClampNeg 9))), (600, (va_cpy (σ 1600) (σ 600) (Int32.toNatClampNeg 0) (Int32.toNatClampNeg 0) (Int32.toNatClampNeg 9))), (700, (va_cpy (σ 1700) (σ 700) (Int32.toNatClampNeg 0) (Int32.toNatClampNeg 0) (Int32.toNatClampNeg 5)))], lg) rfl (by decide) ?_
  refine E_sts 7 (134, [(0, .ref 2), (1, .ref 12)], [.int 9, .int 0, .ref 8, .int 0, .ref 18], SH0, [(201, fun _ => (σ 1201 0)), (207, fun _ => (σ 1207 0)), (208, fun _ => (σ 1208 0)), (209, fun _ => (σ 1209 0)), (210, fun _ => (σ 1210 0)), (214, fun _ => (σ 1214 0)), (300, (va_cpy (σ 1300) (σ 300) (Int32.toNatClampNeg 0) (Int32.toNatClampNeg 0) (Int32.toNatClampNeg 9))), (400, (va_cpy (σ 1400) (σ 400) (Int32.toNatClampNeg 0) (Int32.toNatClampNeg 0) (Int32.toNatClampNeg 9))), (500, (va_cpy (σ 1500) (σ 500) (Int32.toNatClampNeg 0) (Int32.toNatClampNeg 0) (Int32.toNatClampNeg 9))), (600, (va_cpy (σ 1600) (σ 600) (Int32.toNatClampNeg 0) (Int32.toNatClampNeg 0) (Int32.toNatClampNeg 9))), (700, (va_cpy (σ 1700) (σ 700) (Int32.toNatClampNeg 0) (Int32.toNatClampNeg 0) (Int32.toNatClampNeg 5)))], lg) rfl ?_
  refine E_par (p := 0 ≤ Int32.toInt 0 ∧ 0 ≤ Int32.toInt 0 ∧ 0 ≤ Int32.toInt 9 ∧ Int32.toInt 0 + Int32.toInt 9 ≤ ((9 : Nat) : Int) ∧ Int32.toInt 0 + Int32.toInt 9 ≤ ((9 : Nat) : Int)) (137, [(0, .ref 2), (1, .ref 12)], [], SH0, [(201, fun _ => (σ 1201 0)), (207, fun _ => (σ 1207 0)), (208, fun _ => (σ 1208 0)), (209, fun _ => (σ 1209 0)), (210, fun _ => (σ 1210 0)), (214, fun _ => (σ 1214 0)), (300, (va_cpy (σ 1300) (σ 300) (Int32.toNatClampNeg 0) (Int32.toNatClampNeg 0) (Int32.toNatClampNeg 9))), (400, (va_cpy (σ 1400) (σ 400) (Int32.toNatClampNeg 0) (Int32.toNatClampNeg 0) (Int32.toNatClampNeg 9))), (500, (va_cpy (σ 1500) (σ 500) (Int32.toNatClampNeg 0) (Int32.toNatClampNeg 0) (Int32.toNatClampNeg 9))), (600, (va_cpy (σ 1600) (σ 600) (Int32.toNatClampNeg 0) (Int32.toNatClampNeg 0) (Int32.toNatClampNeg 9))), (700, (va_cpy (σ 1700) (σ 700) (Int32.toNatClampNeg 0) (Int32.toNatClampNeg 0) (Int32.toNatClampNeg 5))), (800, (va_cpy (σ 1800) (σ 800) (Int32.toNatClampNeg 0) (Int32.toNatClampNeg 0) (Int32.toNatClampNeg 9)))], lg) rfl (by decide) ?_
  refine E_sts 7 (149, [(0, .ref 2), (1, .ref 12)], [.int 9, .int 0, .ref 9, .int 0, .ref 19], SH0, [(201, fun _ => (σ 1201 0)), (207, fun _ => (σ 1207 0)), (208, fun _ => (σ 1208 0)), (209, fun _ => (σ 1209 0)), (210, fun _ => (σ 1210 0)), (214, fun _ => (σ 1214 0)), (300, (va_cpy (σ 1300) (σ 300) (Int32.toNatClampNeg 0) (Int32.toNatClampNeg 0) (Int32.toNatClampNeg 9))), (400, (va_cpy (σ 1400) (σ 400) (Int32.toNatClampNeg 0) (Int32.toNatClampNeg 0) (Int32.toNatClampNeg 9))), (500, (va_cpy (σ 1500) (σ 500) (Int32.toNatClampNeg 0) (Int32.toNatClampNeg 0) (Int32.toNatClampNeg 9))), (600, (va_cpy (σ 1600) (σ 600) (Int32.toNatClampNeg 0) (Int32.toNatClampNeg 0) (Int32.toNatClampNeg 9))), (700, (va_cpy (σ 1700) (σ 700) (Int32.toNatClampNeg 0) (Int32.toNatClampNeg 0) (Int32.toNatClampNeg 5))), (800, (va_cpy (σ 1800) (σ 800) (Int32.toNatClampNeg 0) (Int32.toNatClampNeg 0) (Int32.toNatClampNeg 9)))], lg) rfl ?_
  refine E_par (p := 0 ≤ Int32.toInt 0 ∧ 0 ≤ Int32.toInt 0 ∧ 0 ≤ Int32.toInt 9 ∧ Int32.toInt 0 + Int32.toInt 9 ≤ ((9 : Nat) : Int) ∧ Int32.toInt 0 + Int32.toInt 9 ≤ ((9 : Nat) : Int)) (152, [(0, .ref 2), (1, .ref 12)], [], SH0, [(201, fun _ => (σ 1201 0)), (207, fun _ => (σ 1207 0)), (208, fun _ => (σ 1208 0)), (209, fun _ => (σ 1209 0)), (210, fun _ => (σ 1210 0)), (214, fun _ => (σ 1214 0)), (300, (va_cpy (σ 1300) (σ 300) (Int32.toNatClampNeg 0) (Int32.toNatClampNeg 0) (Int32.toNatClampNeg 9))), (400, (va_cpy (σ 1400) (σ 400) (Int32.toNatClampNeg 0) (Int32.toNatClampNeg 0) (Int32.toNatClampNeg 9))), (500, (va_cpy (σ 1500) (σ 500) (Int32.toNatClampNeg 0) (Int32.toNatClampNeg 0) (Int32.toNatClampNeg 9))), (600, (va_cpy (σ 1600) (σ 600) (Int32.toNatClampNeg 0) (Int32.toNatClampNeg 0) (Int32.toNatClampNeg 9))), (700, (va_cpy (σ 1700) (σ 700) (Int32.toNatClampNeg 0) (Int32.toNatClampNeg 0) (Int32.toNatClampNeg 5))), (800, (va_cpy (σ 1800) (σ 800) (Int32.toNatClampNeg 0) (Int32.toNatClampNeg 0) (Int32.toNatClampNeg 9))), (900, (va_cpy (σ 1900) (σ 900) (Int32.toNatClampNeg 0) (Int32.toNatClampNeg 0) (Int32.toNatClampNeg 9)))], lg) rfl (by decide) ?_
  refine E_sts 7 (164, [(0, .ref 2), (1, .ref 12)], [.int 9, .int 0, .ref 10, .int 0, .ref 20], SH0, [(201, fun _ => (σ 1201 0)), (207, fun _ => (σ 1207 0)), (208, fun _ => (σ 1208 0)), (209, fun _ => (σ 1209 0)), (210, fun _ => (σ 1210 0)), (214, fun _ => (σ 1214 0)), (300, (va_cpy (σ 1300) (σ 300) (Int32.toNatClampNeg 0) (Int32.toNatClampNeg 0) (Int32.toNatClampNeg 9))), (400, (va_cpy (σ 1400) (σ 400) (Int32.toNatClampNeg 0) (Int32.toNatClampNeg 0) (Int32.toNatClampNeg 9))), (500, (va_cpy (σ 1500) (σ 500) (Int32.toNatClampNeg 0) (Int32.toNatClampNeg 0) (Int32.toNatClampNeg 9))), (600, (va_cpy (σ 1600) (σ 600) (Int32.toNatClampNeg 0) (Int32.toNatClampNeg 0) (Int32.toNatClampNeg 9))), (700, (va_cpy (σ 1700) (σ 700) (Int32.toNatClampNeg 0) (Int32.toNatClampNeg 0) (Int32.toNatClampNeg 5))), (800, (va_cpy (σ 1800) (σ 800) (Int32.toNatClampNeg 0) (Int32.toNatClampNeg 0) (Int32.toNatClampNeg 9))), (900, (va_cpy (σ 1900) (σ 900) (Int32.toNatClampNeg 0) (Int32.toNatClampNeg 0) (Int32.toNatClampNeg 9)))], lg) rfl ?_
  refine E_par (p := 0 ≤ Int32.toInt 0 ∧ 0 ≤ Int32.toInt 0 ∧ 0 ≤ Int32.toInt 9 ∧ Int32.toInt 0 + Int32.toInt 9 ≤ ((9 : Nat) : Int) ∧ Int32.toInt 0 + Int32.toInt 9 ≤ ((9 : Nat) : Int)) (167, [(0, .ref 2), (1, .ref 12)], [], SH0, [(201, fun _ => (σ 1201 0)), (207, fun _ => (σ 1207 0)), (208, fun _ => (σ 1208 0)), (209, fun _ => (σ 1209 0)), (210, fun _ => (σ 1210 0)), (214, fun _ => (σ 1214 0)), (300, (va_cpy (σ 1300) (σ 300) (Int32.toNatClampNeg 0) (Int32.toNatClampNeg 0) (Int32.toNatClampNeg 9))), (400, (va_cpy (σ 1400) (σ 400) (Int32.toNatClampNeg 0) (Int32.toNatClampNeg 0) (Int32.toNatClampNeg 9))), (500, (va_cpy (σ 1500) (σ 500) (Int32.toNatClampNeg 0) (Int32.toNatClampNeg 0) (Int32.toNatClampNeg 9))), (600, (va_cpy (σ 1600) (σ 600) (Int32.toNatClampNeg 0) (Int32.toNatClampNeg 0) (Int32.toNatClampNeg 9))), (700, (va_cpy (σ 1700) (σ 700) (Int32.toNatClampNeg 0) (Int32.toNatClampNeg 0) (Int32.toNatClampNeg 5))), (800, (va_cpy (σ 1800) (σ 800) (Int32.toNatClampNeg 0) (Int32.toNatClampNeg 0) (Int32.toNatClampNeg 9))), (900, (va_cpy (σ 1900) (σ 900) (Int32.toNatClampNeg 0) (Int32.toNatClampNeg 0) (Int32.toNatClampNeg 9))), (1000, (va_cpy (σ 2000) (σ 1000) (Int32.toNatClampNeg 0) (Int32.toNatClampNeg 0) (Int32.toNatClampNeg 9)))], lg) rfl (by decide) ?_
  refine E_sts 7 (179, [(0, .ref 2), (1, .ref 12)], [.int 10, .int 0, .ref 11, .int 0, .ref 21], SH0, [(201, fun _ => (σ 1201 0)), (207, fun _ => (σ 1207 0)), (208, fun _ => (σ 1208 0)), (209, fun _ => (σ 1209 0)), (210, fun _ => (σ 1210 0)), (214, fun _ => (σ 1214 0)), (300, (va_cpy (σ 1300) (σ 300) (Int32.toNatClampNeg 0) (Int32.toNatClampNeg 0) (Int32.toNatClampNeg 9))), (400, (va_cpy (σ 1400) (σ 400) (Int32.toNatClampNeg 0) (Int32.toNatClampNeg 0) (Int32.toNatClampNeg 9))), (500, (va_cpy (σ 1500) (σ 500) (Int32.toNatClampNeg 0) (Int32.toNatClampNeg 0) (Int32.toNatClampNeg 9))), (600, (va_cpy (σ 1600) (σ 600) (Int32.toNatClampNeg 0) (Int32.toNatClampNeg 0) (Int32.toNatClampNeg 9))), (700, (va_cpy (σ 1700) (σ 700) (Int32.toNatClampNeg 0) (Int32.toNatClampNeg 0) (Int32.toNatClampNeg 5))), (800, (va_cpy (σ 1800) (σ 800) (Int32.toNatClampNeg 0) (Int32.toNatClampNeg 0) (Int32.toNatClampNeg 9))), (900, (va_cpy (σ 1900) (σ 900) (Int32.toNatClampNeg 0) (Int32.toNatClampNeg 0) (Int32.toNatClampNeg 9))), (1000, (va_cpy (σ 2000) (σ 1000) (Int32.toNatClampNeg 0) (Int32.toNatClampNeg 0) (Int32.toNatClampNeg 9)))], lg) rfl ?_
  refine E_par (p := 0 ≤ Int32.toInt 0 ∧ 0 ≤ Int32.toInt 0 ∧ 0 ≤ Int32.toInt 10 ∧ Int32.toInt 0 + Int32.toInt 10 ≤ ((10 : Nat) : Int) ∧ Int32.toInt 0 + Int32.toInt 10 ≤ ((10 : Nat) : Int)) (182, [(0, .ref 2), (1, .ref 12)], [], SH0, [(201, fun _ => (σ 1201 0)), (207, fun _ => (σ 1207 0)), (208, fun _ => (σ 1208 0)), (209, fun _ => (σ 1209 0)), (210, fun _ => (σ 1210 0)), (214, fun _ => (σ 1214 0)), (300, (va_cpy (σ 1300) (σ 300) (Int32.toNatClampNeg 0) (Int32.toNatClampNeg 0) (Int32.toNatClampNeg 9))), (400, (va_cpy (σ 1400) (σ 400) (Int32.toNatClampNeg 0) (Int32.toNatClampNeg 0) (Int32.toNatClampNeg 9))), (500, (va_cpy (σ 1500) (σ 500) (Int32.toNatClampNeg 0) (Int32.toNatClampNeg 0) (Int32.toNatClampNeg 9))), (600, (va_cpy (σ 1600) (σ 600) (Int32.toNatClampNeg 0) (Int32.toNatClampNeg 0) (Int32.toNatClampNeg 9))), (700, (va_cpy (σ 1700) (σ 700) (Int32.toNatClampNeg 0) (Int32.toNatClampNeg 0) (Int32.toNatClampNeg 5))), (800, (va_cpy (σ 1800) (σ 800) (Int32.toNatClampNeg 0) (Int32.toNatClampNeg 0) (Int32.toNatClampNeg 9))), (900, (va_cpy (σ 1900) (σ 900) (Int32.toNatClampNeg 0) (Int32.toNatClampNeg 0) (Int32.toNatClampNeg 9))), (1000, (va_cpy (σ 2000) (σ 1000) (Int32.toNatClampNeg 0) (Int32.toNatClampNeg 0) (Int32.toNatClampNeg 9))), (1100, (va_cpy (σ 2100) (σ 1100) (Int32.toNatClampNeg 0) (Int32.toNatClampNeg 0) (Int32.toNatClampNeg 10)))], lg) rfl (by decide) ?_
  obtain rfl := Option.some.inj h
  exact E_ret rfl
set_option maxHeartbeats 4000000 in
set_option maxRecDepth 20000 in
theorem e_X5_undo (X : xX) (σ : xM) (lg : Int64) (r : Int32 × (Nat → Int32) × Int32 × Int32 × Int32 × Int32 × Int32 × Int32 × (Nat → Int32) × (Nat → Int32) × (Nat → Int32) × (Nat → Int32) × (Nat → Int32) × (Nat → Int32) × (Nat → Int32) × (Nat → Int32) × (Nat → Int32)) (h : X5_undo (σ 8 0) (σ 100) (σ 201 0) (σ 207 0) (σ 208 0) (σ 209 0) (σ 210 0) (σ 214 0) (σ 300) (σ 400) (σ 500) (σ 600) (σ 700) (σ 800) (σ 900) (σ 1000) (σ 1100) (σ 1201 0) (σ 1207 0) (σ 1208 0) (σ 1209 0) (σ 1210 0) (σ 1214 0) (σ 1300) (σ 1400) (σ 1500) (σ 1600) (σ 1700) (σ 1800) (σ 1900) (σ 2000) (σ 2100) = some r) : EM XP X 2 111 [.ref 0] SH0 lg σ (some (.int r.1), SH0, [(100, r.2.1), (201, fun _ => r.2.2.1), (207, fun _ => r.2.2.2.1), (208, fun _ => r.2.2.2.2.1), (209, fun _ => r.2.2.2.2.2.1), (210, fun _ => r.2.2.2.2.2.2.1), (214, fun _ => r.2.2.2.2.2.2.2.1), (300, r.2.2.2.2.2.2.2.2.1), (400, r.2.2.2.2.2.2.2.2.2.1), (500, r.2.2.2.2.2.2.2.2.2.2.1), (600, r.2.2.2.2.2.2.2.2.2.2.2.1), (700, r.2.2.2.2.2.2.2.2.2.2.2.2.1), (800, r.2.2.2.2.2.2.2.2.2.2.2.2.2.1), (900, r.2.2.2.2.2.2.2.2.2.2.2.2.2.2.1), (1000, r.2.2.2.2.2.2.2.2.2.2.2.2.2.2.2.1), (1100, r.2.2.2.2.2.2.2.2.2.2.2.2.2.2.2.2)], lg) := by
  refine EM_of (M := xm_111) rfl rfl ?_
  unfold X5_undo at h
  refine E_sts 3 (if (σ 8 0) = 0 then 7 else 13, [(0, .ref 0)], [], SH0, [], lg) rfl ?_
  rcases x_br h with ⟨hc, h⟩ | ⟨hc, h⟩
  · refine E_itt hc ?_
    refine E_sts 2 (9, [(0, .ref 0)], [.int 3, .ref 0], SH0, [], lg) rfl ?_
    obtain ⟨r9, hr, h⟩ := x_bind h
    refine E_call rfl (e_X5_finding X _ _ _ r9 hr) (by decide) ?_
    obtain rfl := Option.some.inj h
    refine E_sts 1 (12, [], [.int r9.1], SH0, [(100, r9.2), (201, fun _ => (σ 201 0)), (207, fun _ => (σ 207 0)), (208, fun _ => (σ 208 0)), (209, fun _ => (σ 209 0)), (210, fun _ => (σ 210 0)), (214, fun _ => (σ 214 0)), (300, (σ 300)), (400, (σ 400)), (500, (σ 500)), (600, (σ 600)), (700, (σ 700)), (800, (σ 800)), (900, (σ 900)), (1000, (σ 1000)), (1100, (σ 1100))], lg) rfl ?_
    exact E_ret rfl
  · refine E_itf hc ?_
    refine E_sts 4 (21, [(0, .ref 0)], [.ref 12, .ref 2], SH0, [], lg) rfl ?_
    obtain ⟨r21, hr, h⟩ := x_bind h
    refine E_call rfl (e_X2_become_sc_kp X _ _ r21 hr) (by decide) ?_
    obtain rfl := Option.some.inj h
    refine E_sts 4 (31, [], [.int r21.2.1], SH0, [(100, (σ 100)), (201, fun _ => r21.1), (207, fun _ => r21.2.1), (208, fun _ => r21.2.2.1), (209, fun _ => r21.2.2.2.1), (210, fun _ => r21.2.2.2.2.1), (214, fun _ => r21.2.2.2.2.2.1), (300, r21.2.2.2.2.2.2.1), (400, r21.2.2.2.2.2.2.2.1), (500, r21.2.2.2.2.2.2.2.2.1), (600, r21.2.2.2.2.2.2.2.2.2.1), (700, r21.2.2.2.2.2.2.2.2.2.2.1), (800, r21.2.2.2.2.2.2.2.2.2.2.2.1), (900, r21.2.2.2.2.2.2.2.2.2.2.2.2.1), (1000, r21.2.2.2.2.2.2.2.2.2.2.2.2.2.1), (1100, r21.2.2.2.2.2.2.2.2.2.2.2.2.2.2)], lg) rfl ?_
    exact E_ret rfl
set_option maxHeartbeats 4000000 in
set_option maxRecDepth 20000 in
theorem e_X6_undo_L15 (X : xX) (σ : xM) (lg : Int64) : ∀ (n : Nat), ∀ (v1 : Int32) (m_s_ : (Nat → Int32)) (r : Int32 × (Nat → Int32) × (Nat → Int32)), X6_undo_L15 (σ 5400) (σ 5600) n v1 m_s_ = some r → E XP X 1 xm_215 σ (15, [(0, .ref 52), (1, .int v1)], [], SH0, [(5300, m_s_)], lg) (some (.int r.1), SH0, [(5300, r.2.1), (5600, r.2.2)], lg) := by
  intro n
  induction n with
  | zero => intro v1 m_s_ r h; rw [X6_undo_L15] at h; cases h
  | succ n ih =>
    intro v1 m_s_ r h
    rw [X6_undo_L15] at h
    refine E_sts 3 (if 83 ≤ v1 then 39 else 21, [(0, .ref 52), (1, .int v1)], [], SH0, [(5300, m_s_)], lg) rfl ?_
    rcases x_br h with ⟨hc, h⟩ | ⟨hc, h⟩
    · refine E_itt hc ?_
      refine E_sts 3 (44, [(0, .ref 52), (1, .int v1)], [.int 2, .ref 53], SH0, [(5300, m_s_)], lg) rfl ?_
      refine E_par (p := inr 2 83) (100045, [(0, .ref 52), (1, .int v1)], [.int (m_s_ 2)], SH0, [(5300, m_s_)], lg) rfl (by decide) ?_
      obtain rfl := Option.some.inj h
      refine E_sts 1 (45, [], [.int (m_s_ 2)], SH0, [(5300, m_s_), (5600, (σ 5600))], lg) rfl ?_
      exact E_ret rfl
    · refine E_itf hc ?_
      refine E_sts 6 (31, [(0, .ref 52), (1, .int v1)], [.int v1, .ref 54, .int v1, .ref 53], SH0, [(5300, m_s_)], lg) rfl ?_
      obtain ⟨hp, h⟩ := x_ite h
      refine E_par (p := inr v1 83) (32, [(0, .ref 52), (1, .int v1)], [.int ((σ 5400) v1.toNatClampNeg), .int v1, .ref 53], SH0, [(5300, m_s_)], lg) rfl hp ?_
      obtain ⟨hp, h⟩ := x_ite h
      refine E_par (p := inr v1 83) (33, [(0, .ref 52), (1, .int v1)], [], SH0, [(5300, (upd m_s_ v1.toNatClampNeg ((σ 5400) v1.toNatClampNeg)))], lg) rfl hp ?_
      refine E_sts 3 (15, [(0, .ref 52), (1, .int (v1 + 1))], [], SH0, [(5300, (upd m_s_ v1.toNatClampNeg ((σ 5400) v1.toNatClampNeg)))], lg) rfl ?_
      exact ih (v1 + 1) (upd m_s_ v1.toNatClampNeg ((σ 5400) v1.toNatClampNeg)) r h
set_option maxHeartbeats 4000000 in
set_option maxRecDepth 20000 in
theorem e_X6_undo (X : xX) (σ : xM) (lg : Int64) (r : Int32 × (Nat → Int32) × (Nat → Int32)) (h : X6_undo (σ 5204 0) (σ 5300) (σ 5400) (σ 5600) = some r) : EM XP X 2 215 [.ref 52] SH0 lg σ (some (.int r.1), SH0, [(5300, r.2.1), (5600, r.2.2)], lg) := by
  refine EM_of (M := xm_215) rfl rfl ?_
  unfold X6_undo at h
  refine E_sts 3 (if (σ 5204 0) = 0 then 7 else 13, [(0, .ref 52)], [], SH0, [], lg) rfl ?_
  rcases x_br h with ⟨hc, h⟩ | ⟨hc, h⟩
  · refine E_itt hc ?_
    refine E_sts 2 (9, [(0, .ref 52)], [.int 3, .ref 52], SH0, [], lg) rfl ?_
    obtain ⟨r9, hr, h⟩ := x_bind h
    refine E_call rfl (e_X6_no X _ _ _ r9 hr) (by decide) ?_
    obtain rfl := Option.some.inj h
    refine E_sts 1 (12, [], [.int r9.1], SH0, [(5300, (σ 5300)), (5600, r9.2)], lg) rfl ?_
    exact E_ret rfl
  · refine E_itf hc ?_
    refine E_sts 3 (15, [(0, .ref 52), (1, .int 0)], [], SH0, [(5300, (σ 5300))], lg) rfl ?_
    exact e_X6_undo_L15 X σ lg _ 0 (σ 5300) r h
set_option maxHeartbeats 4000000 in
set_option maxRecDepth 20000 in
theorem e_X5_tear (X : xX) (σ : xM) (lg : Int64) (r : Int32 × Int32) (h : X5_tear (σ 8 0) = some r) : EM XP X 1 112 [.ref 0] SH0 lg σ (some (.int r.1), SH0, [(8, fun _ => r.2)], lg) := by
  refine EM_of (M := xm_112) rfl rfl ?_
  unfold X5_tear at h
  refine E_sts 3 (if (σ 8 0) = 0 then 11 else 7, [(0, .ref 0)], [], SH0, [], lg) rfl ?_
  rcases x_br h with ⟨hc, h⟩ | ⟨hc, h⟩
  · refine E_itt hc ?_
    obtain rfl := Option.some.inj h
    refine E_sts 6 (19, [(0, .ref 0), (1, .int 0)], [.int 0], SH0, [(8, fun _ => 0)], lg) rfl ?_
    exact E_ret rfl
  · refine E_itf hc ?_
    obtain rfl := Option.some.inj h
    refine E_sts 7 (19, [(0, .ref 0), (1, .int 1)], [.int 1], SH0, [(8, fun _ => 0)], lg) rfl ?_
    exact E_ret rfl
set_option maxHeartbeats 4000000 in
set_option maxRecDepth 20000 in
theorem e_X6_tear (X : xX) (σ : xM) (lg : Int64) (r : Int32 × Int32) (h : X6_tear (σ 5204 0) = some r) : EM XP X 1 216 [.ref 52] SH0 lg σ (some (.int r.1), SH0, [(5204, fun _ => r.2)], lg) := by
  refine EM_of (M := xm_216) rfl rfl ?_
  unfold X6_tear at h
  refine E_sts 3 (if (σ 5204 0) = 0 then 11 else 7, [(0, .ref 52)], [], SH0, [], lg) rfl ?_
  rcases x_br h with ⟨hc, h⟩ | ⟨hc, h⟩
  · refine E_itt hc ?_
    obtain rfl := Option.some.inj h
    refine E_sts 6 (19, [(0, .ref 52), (1, .int 0)], [.int 0], SH0, [(5204, fun _ => 0)], lg) rfl ?_
    exact E_ret rfl
  · refine E_itf hc ?_
    obtain rfl := Option.some.inj h
    refine E_sts 7 (19, [(0, .ref 52), (1, .int 1)], [.int 1], SH0, [(5204, fun _ => 0)], lg) rfl ?_
    exact E_ret rfl
set_option maxHeartbeats 4000000 in
set_option maxRecDepth 20000 in
theorem e_X2_heldSpots_L4 (X : xX) (σ : xM) (lg : Int64) : ∀ (n : Nat), ∀ (v1 : Int32) (v2 : Int32) (r : Int32), X2_heldSpots_L4 (σ 1100) n v1 v2 = some r → E XP X 0 xm_42 σ (4, [(0, .ref 2), (1, .int v1), (2, .int v2)], [], SH0, [], lg) (some (.int r), SH0, [], lg) := by
  intro n
  induction n with
  | zero => intro v1 v2 r h; rw [X2_heldSpots_L4] at h; cases h
  | succ n ih =>
    intro v1 v2 r h
    rw [X2_heldSpots_L4] at h
    refine E_sts 3 (if 10 ≤ v2 then 29 else 10, [(0, .ref 2), (1, .int v1), (2, .int v2)], [], SH0, [], lg) rfl ?_
    rcases x_br h with ⟨hc, h⟩ | ⟨hc, h⟩
    · refine E_itt hc ?_
      obtain rfl := Option.some.inj h
      refine E_sts 1 (30, [(0, .ref 2), (1, .int v1), (2, .int v2)], [.int v1], SH0, [], lg) rfl ?_
      exact E_ret rfl
    · refine E_itf hc ?_
      refine E_sts 3 (15, [(0, .ref 2), (1, .int v1), (2, .int v2)], [.int v2, .ref 11], SH0, [], lg) rfl ?_
      obtain ⟨hp, h⟩ := x_ite h
      refine E_par (p := inr v2 10) (16, [(0, .ref 2), (1, .int v1), (2, .int v2)], [.int ((σ 1100) v2.toNatClampNeg)], SH0, [], lg) rfl hp ?_
      refine E_sts 2 (if ((σ 1100) v2.toNatClampNeg) = (-1) then 23 else 20, [(0, .ref 2), (1, .int v1), (2, .int v2)], [], SH0, [], lg) rfl ?_
      rcases x_br h with ⟨hc, h⟩ | ⟨hc, h⟩
      · refine E_itt hc ?_
        refine E_sts 3 (4, [(0, .ref 2), (1, .int v1), (2, .int (v2 + 1))], [], SH0, [], lg) rfl ?_
        exact ih v1 (v2 + 1) r h
      · refine E_itf hc ?_
        refine E_sts 4 (4, [(0, .ref 2), (1, .int (v1 + 1)), (2, .int (v2 + 1))], [], SH0, [], lg) rfl ?_
        exact ih (v1 + 1) (v2 + 1) r h
set_option maxHeartbeats 4000000 in
set_option maxRecDepth 20000 in
theorem e_X2_heldSpots (X : xX) (σ : xM) (lg : Int64) (r : Int32) (h : X2_heldSpots (σ 1100) = some r) : EM XP X 1 42 [.ref 2] SH0 lg σ (some (.int r), SH0, [], lg) := by
  refine EM_of (M := xm_42) rfl rfl ?_
  unfold X2_heldSpots at h
  refine E_sts 5 (4, [(0, .ref 2), (1, .int 0), (2, .int 0)], [], SH0, [], lg) rfl ?_
  exact e_X2_heldSpots_L4 X σ lg _ 0 0 r h
set_option maxHeartbeats 4000000 in
set_option maxRecDepth 20000 in
theorem e_X2_lovesTogether_L4 (X : xX) (σ : xM) (lg : Int64) : ∀ (n : Nat), ∀ (v1 : Int32) (v2 : Int32) (r : Int32), X2_lovesTogether_L4 (σ 201 0) (σ 400) n v1 v2 = some r → E XP X 0 xm_41 σ (4, [(0, .ref 2), (1, .int v1), (2, .int v2)], [], SH0, [], lg) (some (.int r), SH0, [], lg) := by
  intro n
  induction n with
  | zero => intro v1 v2 r h; rw [X2_lovesTogether_L4] at h; cases h
  | succ n ih =>
    intro v1 v2 r h
    rw [X2_lovesTogether_L4] at h
    refine E_sts 4 (if (σ 201 0) ≤ v2 then 27 else 12, [(0, .ref 2), (1, .int v1), (2, .int v2)], [], SH0, [], lg) rfl ?_
    rcases x_br h with ⟨hc, h⟩ | ⟨hc, h⟩
    · refine E_itt hc ?_
      obtain rfl := Option.some.inj h
      refine E_sts 1 (28, [(0, .ref 2), (1, .int v1), (2, .int v2)], [.int v1], SH0, [], lg) rfl ?_
      exact E_ret rfl
    · refine E_itf hc ?_
      refine E_sts 4 (18, [(0, .ref 2), (1, .int v1), (2, .int v2)], [.int v2, .ref 4, .int v1], SH0, [], lg) rfl ?_
      obtain ⟨hp, h⟩ := x_ite h
      refine E_par (p := inr v2 9) (19, [(0, .ref 2), (1, .int v1), (2, .int v2)], [.int ((σ 400) v2.toNatClampNeg), .int v1], SH0, [], lg) rfl hp ?_
      refine E_sts 5 (4, [(0, .ref 2), (1, .int (v1 + ((σ 400) v2.toNatClampNeg))), (2, .int (v2 + 1))], [], SH0, [], lg) rfl ?_
      exact ih (v1 + ((σ 400) v2.toNatClampNeg)) (v2 + 1) r h
set_option maxHeartbeats 4000000 in
set_option maxRecDepth 20000 in
theorem e_X2_lovesTogether (X : xX) (σ : xM) (lg : Int64) (r : Int32) (h : X2_lovesTogether (σ 201 0) (σ 400) = some r) : EM XP X 1 41 [.ref 2] SH0 lg σ (some (.int r), SH0, [], lg) := by
  refine EM_of (M := xm_41) rfl rfl ?_
  unfold X2_lovesTogether at h
  refine E_sts 5 (4, [(0, .ref 2), (1, .int 0), (2, .int 0)], [], SH0, [], lg) rfl ?_
  exact e_X2_lovesTogether_L4 X σ lg _ 0 0 r h
set_option maxHeartbeats 4000000 in
set_option maxRecDepth 20000 in
theorem e_X2_contracts_L4 (X : xX) (σ : xM) (lg : Int64) : ∀ (n : Nat), ∀ (v1 : Int32) (v2 : Int32) (r : Int32), X2_contracts_L4 (σ 201 0) (σ 600) n v1 v2 = some r → E XP X 1 xm_40 σ (4, [(0, .ref 2), (1, .int v1), (2, .int v2)], [], SH0, [], lg) (some (.int r), SH0, [], lg) := by
  intro n
  induction n with
  | zero => intro v1 v2 r h; rw [X2_contracts_L4] at h; cases h
  | succ n ih =>
    intro v1 v2 r h
    rw [X2_contracts_L4] at h
    refine E_sts 4 (if (σ 201 0) ≤ v2 then 30 else 12, [(0, .ref 2), (1, .int v1), (2, .int v2)], [], SH0, [], lg) rfl ?_
    rcases x_br h with ⟨hc, h⟩ | ⟨hc, h⟩
    · refine E_itt hc ?_
      obtain rfl := Option.some.inj h
      refine E_sts 1 (31, [(0, .ref 2), (1, .int v1), (2, .int v2)], [.int v1], SH0, [], lg) rfl ?_
      exact E_ret rfl
    · refine E_itf hc ?_
      refine E_sts 4 (18, [(0, .ref 2), (1, .int v1), (2, .int v2)], [.int v2, .ref 6, .int v1], SH0, [], lg) rfl ?_
      obtain ⟨hp, h⟩ := x_ite h
      refine E_par (p := inr v2 9) (19, [(0, .ref 2), (1, .int v1), (2, .int v2)], [.int ((σ 600) v2.toNatClampNeg), .int v1], SH0, [], lg) rfl hp ?_
      refine E_call rfl (e_J6_bitCount_0f7a4 X _ _ _ (J6_bitCount_0f7a4 ((σ 600) v2.toNatClampNeg)) rfl) (by decide) ?_
      refine E_sts 5 (4, [(0, .ref 2), (1, .int (v1 + (J6_bitCount_0f7a4 ((σ 600) v2.toNatClampNeg)))), (2, .int (v2 + 1))], [], SH0, [], lg) rfl ?_
      exact ih (v1 + (J6_bitCount_0f7a4 ((σ 600) v2.toNatClampNeg))) (v2 + 1) r h
set_option maxHeartbeats 4000000 in
set_option maxRecDepth 20000 in
theorem e_X2_contracts (X : xX) (σ : xM) (lg : Int64) (r : Int32) (h : X2_contracts (σ 201 0) (σ 600) = some r) : EM XP X 2 40 [.ref 2] SH0 lg σ (some (.int r), SH0, [], lg) := by
  refine EM_of (M := xm_40) rfl rfl ?_
  unfold X2_contracts at h
  refine E_sts 5 (4, [(0, .ref 2), (1, .int 0), (2, .int 0)], [], SH0, [], lg) rfl ?_
  exact e_X2_contracts_L4 X σ lg _ 0 0 r h
set_option maxHeartbeats 4000000 in
set_option maxRecDepth 20000 in
theorem e_X5_count (X : xX) (σ : xM) (lg : Int64) (v1 : Int32) (r : Int32 × (Nat → Int32)) (h : X5_count (σ 100) (σ 201 0) (σ 207 0) (σ 209 0) (σ 214 0) (σ 400) (σ 600) (σ 1100) (σ 4202 0) v1 = some r) : EM XP X 3 113 [.ref 0, .int v1] SH0 lg σ (some (.int r.1), SH0, [(100, r.2)], lg) := by
  refine EM_of (M := xm_113) rfl rfl ?_
  unfold X5_count at h
  refine E_sts 2 (if v1 = 0 then 48 else if v1 = 1 then 56 else if v1 = 2 then 64 else if v1 = 3 then 72 else if v1 = 4 then 80 else if v1 = 5 then 88 else if v1 = 6 then 96 else if v1 = 7 then 104 else 112, [(0, .ref 0), (1, .int v1)], [], SH0, [], lg) rfl ?_
  rcases x_br h with ⟨hc, h⟩ | ⟨hc, h⟩
  · refine E_itt hc ?_
    obtain rfl := Option.some.inj h
    refine E_sts 4 (55, [], [.int (σ 207 0)], SH0, [(100, (σ 100))], lg) rfl ?_
    exact E_ret rfl
  refine E_itf hc ?_
  rcases x_br h with ⟨hc, h⟩ | ⟨hc, h⟩
  · refine E_itt hc ?_
    obtain rfl := Option.some.inj h
    refine E_sts 4 (63, [], [.int (σ 201 0)], SH0, [(100, (σ 100))], lg) rfl ?_
    exact E_ret rfl
  refine E_itf hc ?_
  rcases x_br h with ⟨hc, h⟩ | ⟨hc, h⟩
  · refine E_itt hc ?_
    refine E_sts 2 (68, [(0, .ref 0), (1, .int v1)], [.ref 2], SH0, [], lg) rfl ?_
    obtain ⟨r68, hr, h⟩ := x_bind h
    refine E_call rfl (e_X2_contracts X _ _ r68 hr) (by decide) ?_
    obtain rfl := Option.some.inj h
    refine E_sts 1 (71, [], [.int r68], SH0, [(100, (σ 100))], lg) rfl ?_
    exact E_ret rfl
  refine E_itf hc ?_
  rcases x_br h with ⟨hc, h⟩ | ⟨hc, h⟩
  · refine E_itt hc ?_
    obtain rfl := Option.some.inj h
    refine E_sts 4 (79, [], [.int (σ 209 0)], SH0, [(100, (σ 100))], lg) rfl ?_
    exact E_ret rfl
  refine E_itf hc ?_
  rcases x_br h with ⟨hc, h⟩ | ⟨hc, h⟩
  · refine E_itt hc ?_
    refine E_sts 2 (84, [(0, .ref 0), (1, .int v1)], [.ref 2], SH0, [], lg) rfl ?_
    obtain ⟨r84, hr, h⟩ := x_bind h
    refine E_call rfl (e_X2_lovesTogether X _ _ r84 hr) (by decide) ?_
    obtain rfl := Option.some.inj h
    refine E_sts 1 (87, [], [.int r84], SH0, [(100, (σ 100))], lg) rfl ?_
    exact E_ret rfl
  refine E_itf hc ?_
  rcases x_br h with ⟨hc, h⟩ | ⟨hc, h⟩
  · refine E_itt hc ?_
    obtain rfl := Option.some.inj h
    refine E_sts 4 (95, [], [.int (σ 4202 0)], SH0, [(100, (σ 100))], lg) rfl ?_
    exact E_ret rfl
  refine E_itf hc ?_
  rcases x_br h with ⟨hc, h⟩ | ⟨hc, h⟩
  · refine E_itt hc ?_
    obtain rfl := Option.some.inj h
    refine E_sts 4 (103, [], [.int (σ 214 0)], SH0, [(100, (σ 100))], lg) rfl ?_
    exact E_ret rfl
  refine E_itf hc ?_
  rcases x_br h with ⟨hc, h⟩ | ⟨hc, h⟩
  · refine E_itt hc ?_
    refine E_sts 2 (108, [(0, .ref 0), (1, .int v1)], [.ref 2], SH0, [], lg) rfl ?_
    obtain ⟨r108, hr, h⟩ := x_bind h
    refine E_call rfl (e_X2_heldSpots X _ _ r108 hr) (by decide) ?_
    obtain rfl := Option.some.inj h
    refine E_sts 1 (111, [], [.int r108], SH0, [(100, (σ 100))], lg) rfl ?_
    exact E_ret rfl
  refine E_itf hc ?_
  refine E_sts 2 (114, [(0, .ref 0), (1, .int v1)], [.int 0, .ref 0], SH0, [], lg) rfl ?_
  obtain ⟨r114, hr, h⟩ := x_bind h
  refine E_call rfl (e_X5_finding X _ _ _ r114 hr) (by decide) ?_
  obtain rfl := Option.some.inj h
  exact E_ret rfl
set_option maxHeartbeats 4000000 in
set_option maxRecDepth 20000 in
theorem e_X6_count_L64 (X : xX) (σ : xM) (lg : Int64) : ∀ (n : Nat), ∀ (v2 : Int32) (v3 : Int32) (r : Int32 × (Nat → Int32)), X6_count_L64 (σ 5300) (σ 5600) n v2 v3 = some r → E XP X 1 xm_217 σ (64, [(0, .ref 52), (2, .int v2), (3, .int v3)], [], SH0, [], lg) (some (.int r.1), SH0, [(5600, r.2)], lg) := by
  intro n
  induction n with
  | zero => intro v2 v3 r h; rw [X6_count_L64] at h; cases h
  | succ n ih =>
    intro v2 v3 r h
    rw [X6_count_L64] at h
    refine E_sts 4 (70, [(0, .ref 52), (2, .int v2), (3, .int v3)], [.int 3, .ref 53, .int v3], SH0, [], lg) rfl ?_
    refine E_par (p := inr 3 83) (71, [(0, .ref 52), (2, .int v2), (3, .int v3)], [.int ((σ 5300) 3), .int v3], SH0, [], lg) rfl (by decide) ?_
    refine E_sts 1 (if ((σ 5300) 3) ≤ v3 then 92 else 74, [(0, .ref 52), (2, .int v2), (3, .int v3)], [], SH0, [], lg) rfl ?_
    rcases x_br h with ⟨hc, h⟩ | ⟨hc, h⟩
    · refine E_itt hc ?_
      obtain rfl := Option.some.inj h
      refine E_sts 2 (93, [], [.int v2], SH0, [(5600, (σ 5600))], lg) rfl ?_
      exact E_ret rfl
    · refine E_itf hc ?_
      refine E_sts 4 (78, [(0, .ref 52), (2, .int v2), (3, .int v3)], [.int 3, .int v3, .ref 52, .int v2], SH0, [], lg) rfl ?_
      obtain ⟨r78, hr, h⟩ := x_bind h
      refine E_call rfl (e_X6_get X _ _ _ _ r78 hr) (by decide) ?_
      obtain ⟨r81, hr, h⟩ := x_bind h
      refine E_call rfl (e_X6_bits X _ _ _ r81 hr) (by decide) ?_
      refine E_sts 5 (64, [(0, .ref 52), (2, .int (v2 + r81)), (3, .int (v3 + 1))], [], SH0, [], lg) rfl ?_
      exact ih (v2 + r81) (v3 + 1) r h
set_option maxHeartbeats 4000000 in
set_option maxRecDepth 20000 in
theorem e_X6_count_L103 (X : xX) (σ : xM) (lg : Int64) : ∀ (n : Nat), ∀ (v2 : Int32) (v3 : Int32) (r : Int32 × (Nat → Int32)), X6_count_L103 (σ 5300) (σ 5600) n v2 v3 = some r → E XP X 1 xm_217 σ (103, [(0, .ref 52), (2, .int v2), (3, .int v3)], [], SH0, [], lg) (some (.int r.1), SH0, [(5600, r.2)], lg) := by
  intro n
  induction n with
  | zero => intro v2 v3 r h; rw [X6_count_L103] at h; cases h
  | succ n ih =>
    intro v2 v3 r h
    rw [X6_count_L103] at h
    refine E_sts 4 (109, [(0, .ref 52), (2, .int v2), (3, .int v3)], [.int 3, .ref 53, .int v3], SH0, [], lg) rfl ?_
    refine E_par (p := inr 3 83) (110, [(0, .ref 52), (2, .int v2), (3, .int v3)], [.int ((σ 5300) 3), .int v3], SH0, [], lg) rfl (by decide) ?_
    refine E_sts 1 (if ((σ 5300) 3) ≤ v3 then 128 else 113, [(0, .ref 52), (2, .int v2), (3, .int v3)], [], SH0, [], lg) rfl ?_
    rcases x_br h with ⟨hc, h⟩ | ⟨hc, h⟩
    · refine E_itt hc ?_
      obtain rfl := Option.some.inj h
      refine E_sts 2 (129, [], [.int v2], SH0, [(5600, (σ 5600))], lg) rfl ?_
      exact E_ret rfl
    · refine E_itf hc ?_
      refine E_sts 4 (117, [(0, .ref 52), (2, .int v2), (3, .int v3)], [.int 1, .int v3, .ref 52, .int v2], SH0, [], lg) rfl ?_
      obtain ⟨r117, hr, h⟩ := x_bind h
      refine E_call rfl (e_X6_get X _ _ _ _ r117 hr) (by decide) ?_
      refine E_sts 5 (103, [(0, .ref 52), (2, .int (v2 + r117)), (3, .int (v3 + 1))], [], SH0, [], lg) rfl ?_
      exact ih (v2 + r117) (v3 + 1) r h
set_option maxHeartbeats 4000000 in
set_option maxRecDepth 20000 in
theorem e_X6_count_L144 (X : xX) (σ : xM) (lg : Int64) : ∀ (n : Nat), ∀ (v2 : Int32) (v3 : Int32) (r : Int32 × (Nat → Int32)), X6_count_L144 (σ 5300) (σ 5600) n v2 v3 = some r → E XP X 1 xm_217 σ (144, [(0, .ref 52), (2, .int v2), (3, .int v3)], [], SH0, [], lg) (some (.int r.1), SH0, [(5600, r.2)], lg) := by
  intro n
  induction n with
  | zero => intro v2 v3 r h; rw [X6_count_L144] at h; cases h
  | succ n ih =>
    intro v2 v3 r h
    rw [X6_count_L144] at h
    refine E_sts 3 (if 10 ≤ v3 then 176 else 150, [(0, .ref 52), (2, .int v2), (3, .int v3)], [], SH0, [], lg) rfl ?_
    rcases x_br h with ⟨hc, h⟩ | ⟨hc, h⟩
    · refine E_itt hc ?_
      obtain rfl := Option.some.inj h
      refine E_sts 2 (177, [], [.int v2], SH0, [(5600, (σ 5600))], lg) rfl ?_
      exact E_ret rfl
    · refine E_itf hc ?_
      refine E_sts 6 (159, [(0, .ref 52), (2, .int v2), (3, .int v3)], [.int (73 + v3), .ref 53, .int v2], SH0, [], lg) rfl ?_
      obtain ⟨hp, h⟩ := x_ite h
      refine E_par (p := inr (73 + v3) 83) (160, [(0, .ref 52), (2, .int v2), (3, .int v3)], [.int ((σ 5300) (73 + v3).toNatClampNeg), .int v2], SH0, [], lg) rfl hp ?_
      refine E_sts 1 (if ((σ 5300) (73 + v3).toNatClampNeg) < 0 then 167 else 163, [(0, .ref 52), (2, .int v2), (3, .int v3)], [.int v2], SH0, [], lg) rfl ?_
      rcases x_br h with ⟨hc, h⟩ | ⟨hc, h⟩
      · refine E_itt hc ?_
        refine E_sts 6 (144, [(0, .ref 52), (2, .int (v2 + 0)), (3, .int (v3 + 1))], [], SH0, [], lg) rfl ?_
        exact ih (v2 + 0) (v3 + 1) r h
      · refine E_itf hc ?_
        refine E_sts 7 (144, [(0, .ref 52), (2, .int (v2 + 1)), (3, .int (v3 + 1))], [], SH0, [], lg) rfl ?_
        exact ih (v2 + 1) (v3 + 1) r h
set_option maxHeartbeats 4000000 in
set_option maxRecDepth 20000 in
theorem e_X6_count (X : xX) (σ : xM) (lg : Int64) (v1 : Int32) (r : Int32 × (Nat → Int32)) (h : X6_count (σ 5213 0) (σ 5300) (σ 5600) v1 = some r) : EM XP X 2 217 [.ref 52, .int v1] SH0 lg σ (some (.int r.1), SH0, [(5600, r.2)], lg) := by
  refine EM_of (M := xm_217) rfl rfl ?_
  unfold X6_count at h
  refine E_sts 4 (if v1 = 0 then 48 else if v1 = 1 then 55 else if v1 = 2 then 62 else if v1 = 3 then 94 else if v1 = 4 then 101 else if v1 = 5 then 130 else if v1 = 6 then 135 else if v1 = 7 then 142 else 178, [(0, .ref 52), (1, .int v1), (2, .int 0)], [], SH0, [], lg) rfl ?_
  rcases x_br h with ⟨hc, h⟩ | ⟨hc, h⟩
  · refine E_itt hc ?_
    refine E_sts 3 (53, [(0, .ref 52), (1, .int v1), (2, .int 0)], [.int 2, .ref 53], SH0, [], lg) rfl ?_
    refine E_par (p := inr 2 83) (100054, [(0, .ref 52), (1, .int v1), (2, .int 0)], [.int ((σ 5300) 2)], SH0, [], lg) rfl (by decide) ?_
    obtain rfl := Option.some.inj h
    refine E_sts 1 (54, [], [.int ((σ 5300) 2)], SH0, [(5600, (σ 5600))], lg) rfl ?_
    exact E_ret rfl
  refine E_itf hc ?_
  rcases x_br h with ⟨hc, h⟩ | ⟨hc, h⟩
  · refine E_itt hc ?_
    refine E_sts 3 (60, [(0, .ref 52), (1, .int v1), (2, .int 0)], [.int 3, .ref 53], SH0, [], lg) rfl ?_
    refine E_par (p := inr 3 83) (100061, [(0, .ref 52), (1, .int v1), (2, .int 0)], [.int ((σ 5300) 3)], SH0, [], lg) rfl (by decide) ?_
    obtain rfl := Option.some.inj h
    refine E_sts 1 (61, [], [.int ((σ 5300) 3)], SH0, [(5600, (σ 5600))], lg) rfl ?_
    exact E_ret rfl
  refine E_itf hc ?_
  rcases x_br h with ⟨hc, h⟩ | ⟨hc, h⟩
  · refine E_itt hc ?_
    refine E_sts 3 (64, [(0, .ref 52), (2, .int 0), (3, .int 0)], [], SH0, [], lg) rfl ?_
    exact e_X6_count_L64 X σ lg _ 0 0 r h
  refine E_itf hc ?_
  rcases x_br h with ⟨hc, h⟩ | ⟨hc, h⟩
  · refine E_itt hc ?_
    refine E_sts 3 (99, [(0, .ref 52), (1, .int v1), (2, .int 0)], [.int 0, .ref 53], SH0, [], lg) rfl ?_
    refine E_par (p := inr 0 83) (100100, [(0, .ref 52), (1, .int v1), (2, .int 0)], [.int ((σ 5300) 0)], SH0, [], lg) rfl (by decide) ?_
    obtain rfl := Option.some.inj h
    refine E_sts 1 (100, [], [.int ((σ 5300) 0)], SH0, [(5600, (σ 5600))], lg) rfl ?_
    exact E_ret rfl
  refine E_itf hc ?_
  rcases x_br h with ⟨hc, h⟩ | ⟨hc, h⟩
  · refine E_itt hc ?_
    refine E_sts 3 (103, [(0, .ref 52), (2, .int 0), (3, .int 0)], [], SH0, [], lg) rfl ?_
    exact e_X6_count_L103 X σ lg _ 0 0 r h
  refine E_itf hc ?_
  rcases x_br h with ⟨hc, h⟩ | ⟨hc, h⟩
  · refine E_itt hc ?_
    obtain rfl := Option.some.inj h
    refine E_sts 3 (134, [], [.int (σ 5213 0)], SH0, [(5600, (σ 5600))], lg) rfl ?_
    exact E_ret rfl
  refine E_itf hc ?_
  rcases x_br h with ⟨hc, h⟩ | ⟨hc, h⟩
  · refine E_itt hc ?_
    refine E_sts 3 (140, [(0, .ref 52), (1, .int v1), (2, .int 0)], [.int 4, .ref 53], SH0, [], lg) rfl ?_
    refine E_par (p := inr 4 83) (100141, [(0, .ref 52), (1, .int v1), (2, .int 0)], [.int ((σ 5300) 4)], SH0, [], lg) rfl (by decide) ?_
    obtain rfl := Option.some.inj h
    refine E_sts 1 (141, [], [.int ((σ 5300) 4)], SH0, [(5600, (σ 5600))], lg) rfl ?_
    exact E_ret rfl
  refine E_itf hc ?_
  rcases x_br h with ⟨hc, h⟩ | ⟨hc, h⟩
  · refine E_itt hc ?_
    refine E_sts 3 (144, [(0, .ref 52), (2, .int 0), (3, .int 0)], [], SH0, [], lg) rfl ?_
    exact e_X6_count_L144 X σ lg _ 0 0 r h
  refine E_itf hc ?_
  refine E_sts 2 (180, [(0, .ref 52), (1, .int v1), (2, .int 0)], [.int 0, .ref 52], SH0, [], lg) rfl ?_
  obtain ⟨r180, hr, h⟩ := x_bind h
  refine E_call rfl (e_X6_no X _ _ _ r180 hr) (by decide) ?_
  obtain rfl := Option.some.inj h
  exact E_ret rfl
set_option maxHeartbeats 4000000 in
set_option maxRecDepth 20000 in
theorem e_X5_status_L31 (X : xX) (σ : xM) (lg : Int64) : ∀ (n : Nat), ∀ (v2 : Int32) (v3 : Int32) (r : Int32 × (Nat → Int32)), X5_status_L31 (σ 100) n v2 v3 = some r → E XP X 1 xm_114 σ (31, [(0, .ref 0), (2, .int v2), (3, .int v3)], [], SH0, [], lg) (some (.int r.1), SH0, [(100, r.2)], lg) := by
  intro n
  induction n with
  | zero => intro v2 v3 r h; rw [X5_status_L31] at h; cases h
  | succ n ih =>
    intro v2 v3 r h
    rw [X5_status_L31] at h
    refine E_sts 3 (if 7 ≤ v3 then 52 else 37, [(0, .ref 0), (2, .int v2), (3, .int v3)], [], SH0, [], lg) rfl ?_
    rcases x_br h with ⟨hc, h⟩ | ⟨hc, h⟩
    · refine E_itt hc ?_
      obtain rfl := Option.some.inj h
      refine E_sts 2 (53, [], [.int v2], SH0, [(100, (σ 100))], lg) rfl ?_
      exact E_ret rfl
    · refine E_itf hc ?_
      refine E_sts 4 (43, [(0, .ref 0), (2, .int v2), (3, .int v3)], [.int v3, .ref 1, .int v2], SH0, [], lg) rfl ?_
      obtain ⟨hp, h⟩ := x_ite h
      refine E_par (p := inr v3 7) (44, [(0, .ref 0), (2, .int v2), (3, .int v3)], [.int ((σ 100) v3.toNatClampNeg), .int v2], SH0, [], lg) rfl hp ?_
      refine E_sts 5 (31, [(0, .ref 0), (2, .int (v2 + ((σ 100) v3.toNatClampNeg))), (3, .int (v3 + 1))], [], SH0, [], lg) rfl ?_
      exact ih (v2 + ((σ 100) v3.toNatClampNeg)) (v3 + 1) r h
set_option maxHeartbeats 4000000 in
set_option maxRecDepth 20000 in
theorem e_X5_status (X : xX) (σ : xM) (lg : Int64) (v1 : Int32) (r : Int32 × (Nat → Int32)) (h : X5_status (σ 100) v1 = some r) : EM XP X 2 114 [.ref 0, .int v1] SH0 lg σ (some (.int r.1), SH0, [(100, r.2)], lg) := by
  refine EM_of (M := xm_114) rfl rfl ?_
  unfold X5_status at h
  refine E_sts 3 (4, [(0, .ref 0), (1, .int v1)], [.int 6, .int (-1), .int v1], SH0, [], lg) rfl ?_
  refine E_call rfl (e_X5_isIn X _ _ _ _ _ (X5_isIn v1 (-1) 6) rfl) (by decide) ?_
  refine E_sts 1 (if (xb (X5_isIn v1 (-1) 6)) = 0 then 10 else 16, [(0, .ref 0), (1, .int v1)], [], SH0, [], lg) rfl ?_
  rcases x_br h with ⟨hc, h⟩ | ⟨hc, h⟩
  · refine E_itt hc ?_
    refine E_sts 2 (12, [(0, .ref 0), (1, .int v1)], [.int 0, .ref 0], SH0, [], lg) rfl ?_
    obtain ⟨r12, hr, h⟩ := x_bind h
    refine E_call rfl (e_X5_finding X _ _ _ r12 hr) (by decide) ?_
    obtain rfl := Option.some.inj h
    exact E_ret rfl
  · refine E_itf hc ?_
    refine E_sts 2 (if v1 < 0 then 27 else 20, [(0, .ref 0), (1, .int v1)], [], SH0, [], lg) rfl ?_
    rcases x_br h with ⟨hc, h⟩ | ⟨hc, h⟩
    · refine E_itt hc ?_
      refine E_sts 5 (31, [(0, .ref 0), (2, .int 0), (3, .int 0)], [], SH0, [], lg) rfl ?_
      exact e_X5_status_L31 X σ lg _ 0 0 r h
    · refine E_itf hc ?_
      refine E_sts 3 (25, [(0, .ref 0), (1, .int v1)], [.int v1, .ref 1], SH0, [], lg) rfl ?_
      obtain ⟨hp, h⟩ := x_ite h
      refine E_par (p := inr v1 7) (100026, [(0, .ref 0), (1, .int v1)], [.int ((σ 100) v1.toNatClampNeg)], SH0, [], lg) rfl hp ?_
      obtain rfl := Option.some.inj h
      refine E_sts 1 (26, [], [.int ((σ 100) v1.toNatClampNeg)], SH0, [(100, (σ 100))], lg) rfl ?_
      exact E_ret rfl
