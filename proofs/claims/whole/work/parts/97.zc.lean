/-! SETS OF BOWS AS NUMBERS -/
def nd (x y : Nat) : Nat := x ^^^ (x &&& y)
theorem nd_tb (x y i : Nat) : (nd x y).testBit i = (x.testBit i && !y.testBit i) := by
  unfold nd
  rw [Nat.testBit_xor, Nat.testBit_and]
  cases x.testBit i <;> cases y.testBit i <;> rfl
theorem nd_lt {x y n : Nat} (h : x < 2 ^ n) : nd x y < 2 ^ n := Nat.xor_lt_two_pow h (Nat.lt_of_le_of_lt Nat.and_le_left h)
theorem ny_and (a b : Nat) : nI a &&& nI b = nI (a &&& b) := by
  apply Int32.toBitVec_inj.1
  show BitVec.ofNat 32 a &&& BitVec.ofNat 32 b = BitVec.ofNat 32 (a &&& b)
  apply BitVec.eq_of_getLsbD_eq
  intro i hi
  simp [hi]
theorem ny_or (a b : Nat) : nI a ||| nI b = nI (a ||| b) := by
  apply Int32.toBitVec_inj.1
  show BitVec.ofNat 32 a ||| BitVec.ofNat 32 b = BitVec.ofNat 32 (a ||| b)
  apply BitVec.eq_of_getLsbD_eq
  intro i hi
  simp [hi]
theorem ny_nd (a b : Nat) : nI a &&& (nI b ^^^ (-1)) = nI (nd a b) := by
  apply Int32.toBitVec_inj.1
  show BitVec.ofNat 32 a &&& (BitVec.ofNat 32 b ^^^ (-1 : Int32).toBitVec) = BitVec.ofNat 32 (nd a b)
  rw [show (-1 : Int32).toBitVec = BitVec.allOnes 32 by decide]
  apply BitVec.eq_of_getLsbD_eq
  intro i hi
  rw [BitVec.getLsbD_and, BitVec.getLsbD_xor, BitVec.getLsbD_allOnes, BitVec.getLsbD_ofNat, BitVec.getLsbD_ofNat, BitVec.getLsbD_ofNat, nd_tb, decide_eq_true hi]
  cases a.testBit i <;> cases b.testBit i <;> rfl
theorem ny_or0 (a : Nat) : nI a ||| 0 = nI a := by
  rw [show (0 : Int32) = nI 0 from rfl, ny_or, Nat.or_zero]
theorem nI_z {x : Nat} (h : x < 2 ^ 31) : nI x = 0 ↔ x = 0 := nI_eq (b := 0) h (by decide)
theorem shl_eq {b : Nat} (h : b < 31) : xshl 1 (nI b) = nI (2 ^ b) := (by decide +kernel : ∀ b, b < 31 → xshl 1 (nI b) = nI (2 ^ b)) b h
theorem full_eq {n : Nat} (h : n ≤ 9) : xshl 1 (nI n) - 1 = nI (2 ^ n - 1) := (by decide +kernel : ∀ n, n < 10 → xshl 1 (nI n) - 1 = nI (2 ^ n - 1)) n (by omega)
theorem and_bit (s b : Nat) : s &&& 2 ^ b = 0 ↔ s.testBit b = false := by
  constructor
  · intro h
    have h1 : (s &&& 2 ^ b).testBit b = false := by rw [h, Nat.zero_testBit]
    rw [Nat.testBit_and, Nat.testBit_two_pow_self, Bool.and_true] at h1
    exact h1
  · intro h
    apply Nat.eq_of_testBit_eq
    intro i
    rw [Nat.testBit_and, Nat.testBit_two_pow, Nat.zero_testBit]
    by_cases e : b = i
    · subst e; rw [h]; rfl
    · rw [decide_eq_false e, Bool.and_false]
theorem bit_eq {s b : Nat} (hs : s < 2 ^ 31) (hb : b < 31) : nI s &&& xshl 1 (nI b) = 0 ↔ s.testBit b = false := by
  rw [shl_eq hb, ny_and, nI_z (Nat.lt_of_le_of_lt Nat.and_le_left hs), and_bit]
theorem smod31 : ∀ n, n < 32 → ((nI n &&& 31).toBitVec.smod 32).toNat = n := by decide +kernel
theorem isIn_tb {s b : Nat} (hs : s < 2 ^ 31) (hb : b < 31) : X6_isIn (nI s) (nI b) = s.testBit b := by
  unfold X6_isIn xshr
  rw [pk_shrN hs (nI b &&& 31) b (smod31 b (by omega)), show (1 : Int32) = nI 1 from rfl, ny_and, Nat.and_one_is_mod, Nat.testBit_eq_decide_div_mod_eq]
  have h1 : s / 2 ^ b % 2 < 2 := Nat.mod_lt _ (by decide)
  by_cases h : s / 2 ^ b % 2 = 1
  · rw [if_pos (by rw [h]), decide_eq_true h]
  · rw [if_neg (fun z => h ((nI_eq (by omega) (by decide)).mp z)), decide_eq_false h]
theorem nd_z (x y : Nat) : nd x y = 0 ↔ ∀ i, x.testBit i = true → y.testBit i = true := by
  constructor
  · intro h i hi
    have h1 : (nd x y).testBit i = false := by rw [h, Nat.zero_testBit]
    rw [nd_tb, hi] at h1
    cases hy : y.testBit i with
    | true => rfl
    | false => rw [hy] at h1; cases h1
  · intro h
    apply Nat.eq_of_testBit_eq
    intro i
    rw [nd_tb, Nat.zero_testBit]
    cases hx : x.testBit i with
    | false => rfl
    | true => rw [h i hx]; rfl
theorem set_ext {x y n : Nat} (hx : x < 2 ^ n) (hy : y < 2 ^ n) (h : ∀ i, i < n → x.testBit i = y.testBit i) : x = y := by
  apply Nat.eq_of_testBit_eq
  intro i
  rcases Nat.lt_or_ge i n with hi | hi
  · exact h i hi
  · rw [testBit_lt hx hi, testBit_lt hy hi]
theorem tb_full {n i : Nat} : (2 ^ n - 1).testBit i = decide (i < n) := Nat.testBit_two_pow_sub_one n i
theorem two_lt {n : Nat} (h : n ≤ 9) : 2 ^ n ≤ 512 := Nat.pow_le_pow_right (n := 2) (by decide) h
/-- can one come behind a set -/
def canF (A : Nat → Nat) (b s : Nat) : Bool := !s.testBit b && decide (nd (A b) s = 0)
theorem canF_iff {A : Nat → Nat} {b s : Nat} : canF A b s = true ↔ s.testBit b = false ∧ nd (A b) s = 0 := by
  unfold canF
  rw [Bool.and_eq_true, decide_eq_true_iff, Bool.not_eq_true']
theorem xb_t {b : Bool} (h : b = true) : ¬ xb b = 0 := by rw [h]; decide
theorem xb_f {b : Bool} (h : b = false) : xb b = 0 := by rw [h]; rfl
theorem inr_lt {j n : Nat} (h : j < n) (hn : n ≤ 2 ^ 31) : inr (nI j) n := by
  have h1 : (nI j).toInt = j := nI_toInt (by omega)
  constructor <;> omega
theorem could_eq {ah : Nat → Int32} {A : Nat → Nat} {b s : Nat} (hb : b < 9) (ha : ah b = nI (A b)) (hA : A b < 512) (hs : s < 512) : X2_couldCome ah (nI b) (nI s) = some (canF A b s) := by
  unfold X2_couldCome canF
  have hnd : nd (A b) s < 512 := nd_lt (n := 9) hA
  cases h : s.testBit b with
  | true => rw [if_neg (fun z => by rw [bit_eq (by omega) (by omega), h] at z; cases z)]; rfl
  | false =>
    rw [if_pos ((bit_eq (by omega) (by omega)).mpr h), if_pos (inr_lt hb (by decide)), nI_clamp (by omega), ha, ny_nd]
    by_cases hz : nd (A b) s = 0
    · rw [if_pos (by rw [hz]; rfl), decide_eq_true hz]; rfl
    · rw [if_neg (fun z => hz ((nI_z (by omega)).mp z)), decide_eq_false hz]; rfl
theorem follow_eq {ah : Nat → Int32} {A : Nat → Nat} {b s : Nat} (hb : b < 9) (ha : ah b = nI (A b)) (hA : A b < 512) (hs : s < 512) : X1_canFollow ah (nI b) (nI s) = some (canF A b s) := could_eq hb ha hA hs
theorem behind_eq {s : Nat → Int32} {A : Nat → Nat} {b c : Nat} (hb : b < 9) (ha : s (13 + 4 * b) = nI (A b)) (hA : A b < 512) (hs : c < 512) : X6_canBehind s (nI b) (nI c) = some (canF A b c) := by
  unfold X6_canBehind canF
  have hnd : nd (A b) c < 512 := nd_lt (n := 9) hA
  have g : X6_get s (nI b) 3 = some (nI (A b)) := by
    rw [show (3 : Int32) = nI 3 from rfl, m_get s b 3 hb (by decide), show 10 + 4 * b + 3 = 13 + 4 * b by omega, ha]
  rw [isIn_tb (by omega) (by omega)]
  cases h : c.testBit b with
  | true => rw [if_neg (xb_t rfl)]; rfl
  | false =>
    rw [if_pos (xb_f rfl), g, Option.bind_some, ny_nd]
    by_cases hz : nd (A b) c = 0
    · rw [if_pos (by rw [hz]; rfl), decide_eq_true hz]; rfl
    · rw [if_neg (fun z => hz ((nI_z (by omega)).mp z)), decide_eq_false hz]; rfl
/-- how many there are of the first n -/
def pcn : Nat → Nat → Nat
  | 0, _ => 0
  | n + 1, x => pcn n x + (if x.testBit n = true then 1 else 0)
theorem bc_eq {x : Nat} (h : x < 512) : J6_bitCount_0f7a4 (nI x) = nI (pcn 9 x) := (by decide +kernel : ∀ x, x < 512 → J6_bitCount_0f7a4 (nI x) = nI (pcn 9 x)) x h
theorem bits_eq {x : Nat} (h : x < 512) : X6_bits (nI x) = some (nI (pcn 9 x)) := (by decide +kernel : ∀ x, x < 512 → X6_bits (nI x) = some (nI (pcn 9 x))) x h
theorem pcn_le (n x : Nat) : pcn n x ≤ n := by
  induction n with
  | zero => exact Nat.le_refl _
  | succ n ih => unfold pcn; split <;> omega
theorem pcn_mono {n x y : Nat} (h : ∀ i, i < n → x.testBit i = true → y.testBit i = true) : pcn n x ≤ pcn n y := by
  induction n with
  | zero => exact Nat.le_refl _
  | succ n ih =>
    have := ih (fun i hi => h i (by omega))
    unfold pcn
    have := h n (by omega)
    by_cases hx : x.testBit n = true
    · rw [if_pos hx, if_pos (this hx)]; omega
    · rw [if_neg hx]; omega
theorem pcn_lt {n x y j : Nat} (hj : j < n) (h : ∀ i, i < n → x.testBit i = true → y.testBit i = true) (h1 : x.testBit j = false) (h2 : y.testBit j = true) : pcn n x < pcn n y := by
  induction n with
  | zero => omega
  | succ n ih =>
    unfold pcn
    by_cases e : j = n
    · subst e
      have := pcn_mono (n := j) (fun i hi => h i (by omega))
      rw [if_pos h2, if_neg (by rw [h1]; decide)]; omega
    · have := ih (by omega) (fun i hi => h i (by omega))
      have := h n (by omega)
      by_cases hx : x.testBit n = true
      · rw [if_pos hx, if_pos (this hx)]; omega
      · rw [if_neg hx]; omega
theorem pcn_full {n x : Nat} (h : n ≤ pcn n x) : ∀ i, i < n → x.testBit i = true := by
  intro i hi
  cases e : x.testBit i with
  | true => rfl
  | false =>
    exfalso
    have h1 : pcn n x < pcn n (2 ^ n - 1) := pcn_lt hi (fun i hi _ => by rw [tb_full, decide_eq_true hi]) e (by rw [tb_full, decide_eq_true hi])
    have := pcn_le n (2 ^ n - 1)
    omega
