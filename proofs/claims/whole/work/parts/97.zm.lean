/-! curtain, stop -/
theorem rem_z {x p : Nat} (hx : x < 2 ^ 63) (hp : p < 2 ^ 63) (h0 : 0 < p) : lg_cmp (xlrem (lN x) (lN p)) 0 = 0 ↔ x % p = 0 := by
  have h1 : x % p < p := Nat.mod_lt x h0
  rw [lg_cmp_eq]
  unfold xlrem
  rw [pk_lRem hx h0 hp, show (0 : Int64) = lN 0 from rfl, pk_lEQ (by omega) (by omega)]
theorem five_odd (q : Nat) : 5 ^ q % 2 = 1 := by
  induction q with
  | zero => rfl
  | succ q ih => rw [Nat.pow_succ]; omega
theorem two_five (p : Nat) : ¬ 2 ^ p % 5 = 0 := by
  induction p with
  | zero => decide
  | succ p ih => rw [Nat.pow_succ]; omega
theorem cop2 {x : Nat} (h : ¬ x % 2 = 0) : Nat.Coprime x 2 := by
  apply Nat.Coprime.symm
  show Nat.gcd 2 x = 1
  rw [Nat.gcd_rec, show x % 2 = 1 by omega]
  rfl
theorem cop5 {x : Nat} (h : ¬ x % 5 = 0) : Nat.Coprime x 5 := by
  apply Nat.Coprime.symm
  show Nat.gcd 5 x = 1
  rw [Nat.gcd_rec]
  have : x % 5 = 1 ∨ x % 5 = 2 ∨ x % 5 = 3 ∨ x % 5 = 4 := by omega
  rcases this with e | e | e | e <;> rw [e] <;> decide
theorem cur_loop (f5 : Nat → Int32) (v2 : Int32) : ∀ e i n x y, i + e = 8 → e < n → x < 2 ^ 63 → y < 2 ^ 63 → ∃ x' y' d, 0 < d ∧ x = x' * d ∧ y = y' * d ∧ X5_curtain_L41 f5 n v2 (lN x) (lN y) (nI i) = some (if v2 = 0 then lN x' else lN y', f5) ∧ ∀ p q, y = 2 ^ p * 5 ^ q → (p ≤ e ∨ ¬ x % 2 = 0) → (q ≤ e ∨ ¬ x % 5 = 0) → Nat.gcd x' y' = 1 := by
  intro e
  induction e with
  | zero =>
    intro i n x y hi hn hx hy
    obtain ⟨n, rfl⟩ : ∃ m, n = m + 1 := ⟨n - 1, by omega⟩
    refine ⟨x, y, 1, by decide, by omega, by omega, ?_, ?_⟩
    · rw [X5_curtain_L41, if_pos (show (8 : Int32) ≤ nI i from nI_le (a := 8) (by omega) (by omega))]
      by_cases h : v2 = 0
      · rw [if_pos h, if_pos h]
      · rw [if_neg h, if_neg h]
    · intro p q hy hp hq
      have c2 : Nat.Coprime x (2 ^ p) := by
        rcases hp with hp | hp
        · rw [show p = 0 by omega]; exact Nat.coprime_one_right x
        · exact Nat.Coprime.pow_right p (cop2 hp)
      have c5 : Nat.Coprime x (5 ^ q) := by
        rcases hq with hq | hq
        · rw [show q = 0 by omega]; exact Nat.coprime_one_right x
        · exact Nat.Coprime.pow_right q (cop5 hq)
      rw [hy]
      exact Nat.Coprime.mul_right c2 c5
  | succ e ih =>
    intro i n x y hi hn hx hy
    obtain ⟨n, rfl⟩ : ∃ m, n = m + 1 := ⟨n - 1, by omega⟩
    have five : ∀ x1 y1, x1 < 2 ^ 63 → y1 < 2 ^ 63 → ∃ x' y' d, 0 < d ∧ x1 = x' * d ∧ y1 = y' * d ∧ X5_curtain_L83 (fun v20 v30 v50 v70 => X5_curtain_L41 f5 n v20 v30 v50 v70) v2 (lN x1) (lN y1) (nI i) = some (if v2 = 0 then lN x' else lN y', f5) ∧ ∀ p q, y1 = 2 ^ p * 5 ^ q → (p ≤ e ∨ ¬ x1 % 2 = 0) → (q ≤ e + 1 ∨ ¬ x1 % 5 = 0) → Nat.gcd x' y' = 1 := by
      intro x1 y1 hx1 hy1
      unfold X5_curtain_L83
      rw [show (5 : Int64) = lN 5 by decide]
      by_cases h1 : x1 % 5 = 0
      · by_cases h2 : y1 % 5 = 0
        · rw [if_pos ((rem_z hx1 (by decide) (by decide)).mpr h1), if_pos ((rem_z hy1 (by decide) (by decide)).mpr h2), pk_lDiv hx1 (by decide) (by decide), pk_lDiv hy1 (by decide) (by decide), nI_1]
          obtain ⟨x', y', d, g1, g2, g3, g4, g5⟩ := ih (i + 1) n (x1 / 5) (y1 / 5) (by omega) (by omega) (by omega) (by omega)
          refine ⟨x', y', d * 5, by omega, ?_, ?_, g4, ?_⟩
          · rw [← Nat.mul_assoc, ← g2]; omega
          · rw [← Nat.mul_assoc, ← g3]; omega
          · intro p q hy hp hq
            rcases q with _ | q
            · exfalso
              rw [Nat.pow_zero, Nat.mul_one] at hy
              rw [hy] at h2
              exact two_five p h2
            · refine g5 p q ?_ ?_ ?_
              · rw [hy, Nat.pow_succ, ← Nat.mul_assoc, Nat.mul_div_cancel _ (by decide)]
              · rcases hp with hp | hp
                · exact Or.inl hp
                · exact Or.inr (by omega)
              · rcases hq with hq | hq
                · exact Or.inl (by omega)
                · exact absurd h1 hq
        · rw [if_pos ((rem_z hx1 (by decide) (by decide)).mpr h1), if_neg (fun w => h2 ((rem_z hy1 (by decide) (by decide)).mp w)), nI_1]
          obtain ⟨x', y', d, g1, g2, g3, g4, g5⟩ := ih (i + 1) n x1 y1 (by omega) (by omega) hx1 hy1
          refine ⟨x', y', d, g1, g2, g3, g4, ?_⟩
          intro p q hy hp hq
          rcases q with _ | q
          · exact g5 p 0 hy hp (Or.inl (Nat.zero_le _))
          · exfalso
            apply h2
            rw [hy, Nat.pow_succ, ← Nat.mul_assoc, Nat.mul_mod_left]
      · rw [if_neg (fun w => h1 ((rem_z hx1 (by decide) (by decide)).mp w)), nI_1]
        obtain ⟨x', y', d, g1, g2, g3, g4, g5⟩ := ih (i + 1) n x1 y1 (by omega) (by omega) hx1 hy1
        exact ⟨x', y', d, g1, g2, g3, g4, fun p q hy hp _ => g5 p q hy hp (Or.inr h1)⟩
    rw [X5_curtain_L41, if_neg (show ¬ (8 : Int32) ≤ nI i from nI_ge (b := 8) (by omega) (by omega)), show (2 : Int64) = lN 2 by decide]
    by_cases h1 : x % 2 = 0
    · by_cases h2 : y % 2 = 0
      · rw [if_pos ((rem_z hx (by decide) (by decide)).mpr h1), if_pos ((rem_z hy (by decide) (by decide)).mpr h2), pk_lDiv hx (by decide) (by decide), pk_lDiv hy (by decide) (by decide)]
        obtain ⟨x', y', d, g1, g2, g3, g4, g5⟩ := five (x / 2) (y / 2) (by omega) (by omega)
        refine ⟨x', y', d * 2, by omega, ?_, ?_, g4, ?_⟩
        · rw [← Nat.mul_assoc, ← g2]; omega
        · rw [← Nat.mul_assoc, ← g3]; omega
        · intro p q hy hp hq
          rcases p with _ | p
          · exfalso
            rw [Nat.pow_zero, Nat.one_mul] at hy
            have := five_odd q
            rw [hy] at h2
            omega
          · refine g5 p q ?_ ?_ ?_
            · rw [hy, Nat.pow_succ, Nat.mul_assoc, Nat.mul_comm 2, ← Nat.mul_assoc, Nat.mul_div_cancel _ (by decide)]
            · rcases hp with hp | hp
              · exact Or.inl (by omega)
              · exact absurd h1 hp
            · rcases hq with hq | hq
              · exact Or.inl hq
              · exact Or.inr (by omega)
      · rw [if_pos ((rem_z hx (by decide) (by decide)).mpr h1), if_neg (fun w => h2 ((rem_z hy (by decide) (by decide)).mp w))]
        obtain ⟨x', y', d, g1, g2, g3, g4, g5⟩ := five x y hx hy
        refine ⟨x', y', d, g1, g2, g3, g4, ?_⟩
        intro p q hy hp hq
        rcases p with _ | p
        · exact g5 0 q hy (Or.inl (Nat.zero_le _)) hq
        · exfalso
          apply h2
          rw [hy, Nat.pow_succ, Nat.mul_assoc, Nat.mul_comm 2, ← Nat.mul_assoc, Nat.mul_mod_left]
    · rw [if_neg (fun w => h1 ((rem_z hx (by decide) (by decide)).mp w))]
      obtain ⟨x', y', d, g1, g2, g3, g4, g5⟩ := five x y hx hy
      exact ⟨x', y', d, g1, g2, g3, g4, fun p q hy _ hq => g5 p q hy (Or.inr h1) hq⟩
theorem euc_end (f6 : Nat → Int32) (v2 : Int32) (U V : Int64) (n a : Nat) (h : 0 < a) (ha : a < 2 ^ 63) : X6_curtain_L48 f6 (n + 1) v2 U V (lN a) (lN 0) = some (if v2 = 0 then U / lN a else V / lN a, f6) := by
  have e : ¬ lN a = 0 := fun w => by
    have := (pk_lEQ ha (show 0 < 2 ^ 63 by decide)).mp w
    omega
  rw [X6_curtain_L48, if_pos ((lg_cmp_eq (lN 0) 0).mpr rfl), if_neg e, if_neg e]
  by_cases h : v2 = 0
  · rw [if_pos h, if_pos h]
  · rw [if_neg h, if_neg h]
theorem euc_step (f6 : Nat → Int32) (v2 : Int32) (U V : Int64) (n a b : Nat) (h : 0 < b) (ha : a < 2 ^ 63) (hb : b < 2 ^ 63) : X6_curtain_L48 f6 (n + 1) v2 U V (lN a) (lN b) = X6_curtain_L48 f6 n v2 U V (lN b) (lN (a % b)) := by
  have e : ¬ lN b = 0 := fun w => by
    have := (pk_lEQ hb (show 0 < 2 ^ 63 by decide)).mp w
    omega
  rw [X6_curtain_L48, if_neg (fun w => e ((lg_cmp_eq _ _).mp w)), if_neg e]
  unfold xlrem
  rw [pk_lRem ha h hb]
theorem euc (f6 : Nat → Int32) (v2 : Int32) (U V : Int64) : ∀ m n a b, b < 2 ^ m → 2 * m + 1 ≤ n → a < 2 ^ 63 → b < 2 ^ 63 → 0 < Nat.gcd a b → X6_curtain_L48 f6 n v2 U V (lN a) (lN b) = some (if v2 = 0 then U / lN (Nat.gcd a b) else V / lN (Nat.gcd a b), f6) := by
  intro m
  induction m with
  | zero =>
    intro n a b hb hn ha _ hg
    obtain ⟨n, rfl⟩ : ∃ m, n = m + 1 := ⟨n - 1, by omega⟩
    have : b = 0 := by omega
    subst this
    rw [Nat.gcd_zero_right] at hg ⊢
    exact euc_end f6 v2 U V n a hg ha
  | succ m ih =>
    intro n a b hb hn ha hb2 hg
    obtain ⟨n, rfl⟩ : ∃ m, n = m + 1 + 1 := ⟨n - 2, by omega⟩
    rcases Nat.eq_zero_or_pos b with e | e
    · subst e
      rw [Nat.gcd_zero_right] at hg ⊢
      exact euc_end f6 v2 U V (n + 1) a hg ha
    · have hr := Nat.mod_lt a e
      have hgc : Nat.gcd a b = Nat.gcd b (a % b) := by rw [Nat.gcd_comm a b, Nat.gcd_rec, Nat.gcd_comm]
      rw [euc_step f6 v2 U V (n + 1) a b e ha hb2, hgc]
      rw [hgc] at hg
      rcases Nat.eq_zero_or_pos (a % b) with e2 | e2
      · rw [e2, Nat.gcd_zero_right]
        exact euc_end f6 v2 U V n b e hb2
      · have hr2 := Nat.mod_lt b e2
        have hgc2 : Nat.gcd b (a % b) = Nat.gcd (a % b) (b % (a % b)) := by rw [Nat.gcd_comm b, Nat.gcd_rec, Nat.gcd_comm]
        rw [euc_step f6 v2 U V n b (a % b) e2 hb2 (by omega), hgc2]
        rw [hgc2] at hg
        have hdm := Nat.div_add_mod b (a % b)
        have hdv : 1 ≤ b / (a % b) := (Nat.one_le_div_iff e2).mpr (Nat.le_of_lt hr)
        have hml : a % b * 1 ≤ a % b * (b / (a % b)) := Nat.mul_le_mul_left _ hdv
        rw [Nat.pow_succ] at hb
        exact ih n (a % b) (b % (a % b)) (by omega) (by omega) (by omega) (by omega) hg
theorem Wd_mono {t q g l : Nat} : ∀ d, d + 1 ≤ 8 → 10 * Wd t q g l d ≤ Wd t q g l (d + 1) := by
  intro d
  induction d with
  | zero => intro _; exact Wd_nn t q g l 1
  | succ d ih =>
    intro hd
    have h0 := ih (by omega)
    by_cases hw : win t q g l d (Wd t q g l d) ≤ 0
    · have : Wd t q g l (d + 1) = 0 := by rw [Wd]; omega
      rw [this]
      exact Wd_nn t q g l (d + 1 + 1)
    · have e1 : Wd t q g l (d + 1) = win t q g l d (Wd t q g l d) := by rw [Wd]; omega
      have key : 10 * win t q g l d (Wd t q g l d) ≤ win t q g l (d + 1) (Wd t q g l (d + 1)) := by
        have hs := sl_le q (7 - d)
        have hs' : sl q (7 - (d + 1)) ≤ sl q (7 - d) := by
          have := Nat.mul_le_mul_left q (show 7 - (d + 1) ≤ 7 - d by omega)
          unfold sl
          omega
        have hP : (0 : Int) < ((10 ^ d : Nat) : Int) := Int.natCast_pos.mpr (Nat.pow_pos (by decide))
        have hP' : ((10 ^ (d + 1) : Nat) : Int) = 10 * ((10 ^ d : Nat) : Int) := by rw [Nat.pow_succ]; omega
        have hG : (g : Int) - (7 - d : Nat) * (t : Int) ≤ (g : Int) - (7 - (d + 1) : Nat) * (t : Int) := by
          have : ((7 - (d + 1) : Nat) : Int) * (t : Int) ≤ ((7 - d : Nat) : Int) * (t : Int) := Int.mul_le_mul_of_nonneg_right (by omega) (by omega)
          omega
        unfold win at hw ⊢
        rw [hP']
        generalize Wd t q g l (d + 1) = W' at *
        generalize Wd t q g l d = W at *
        generalize ((g : Int) - (7 - d : Nat) * (t : Int)) = G at *
        generalize ((g : Int) - (7 - (d + 1) : Nat) * (t : Int)) = G' at *
        generalize ((10 ^ d : Nat) : Int) = P at *
        have hlP : 0 ≤ (l : Int) * P := Int.mul_nonneg (by omega) (by omega)
        have hs0 : (0 : Int) ≤ 10 - (sl q (7 - d) : Int) := by omega
        have hss : (0 : Int) ≤ (sl q (7 - d) : Int) * ((l : Int) * P) := Int.mul_nonneg (by omega) hlP
        have hX : 0 ≤ G * P + W := by
          rcases Int.le_total 0 (G * P + W) with h | h
          · exact h
          · exfalso
            have := Int.mul_le_mul_of_nonneg_left h hs0
            rw [Int.mul_zero] at this
            omega
        have hGP : G * P ≤ G' * P := Int.mul_le_mul_of_nonneg_right hG (by omega)
        have hY : 10 * (G * P + W) ≤ G' * (10 * P) + W' := by
          have : G' * (10 * P) = 10 * (G' * P) := by rw [← Int.mul_assoc, Int.mul_comm G' 10, Int.mul_assoc]
          omega
        have hY1 : (10 - (sl q (7 - d) : Int)) * (10 * (G * P + W)) ≤ (10 - (sl q (7 - d) : Int)) * (G' * (10 * P) + W') := Int.mul_le_mul_of_nonneg_left hY hs0
        have hY2 : (10 - (sl q (7 - d) : Int)) * (G' * (10 * P) + W') ≤ (10 - (sl q (7 - (d + 1)) : Int)) * (G' * (10 * P) + W') := Int.mul_le_mul_of_nonneg_right (by omega) (by omega)
        have hl2 : (l : Int) * (10 * P) = 10 * ((l : Int) * P) := by rw [← Int.mul_assoc, Int.mul_comm (l : Int) 10, Int.mul_assoc]
        have hZ : (sl q (7 - (d + 1)) : Int) * ((l : Int) * (10 * P)) ≤ (sl q (7 - d) : Int) * ((l : Int) * (10 * P)) := Int.mul_le_mul_of_nonneg_right (by omega) (by omega)
        have hZ2 : (sl q (7 - d) : Int) * ((l : Int) * (10 * P)) = 10 * ((sl q (7 - d) : Int) * ((l : Int) * P)) := by
          rw [hl2, ← Int.mul_assoc, Int.mul_comm _ 10, Int.mul_assoc]
        have hY3 : (10 - (sl q (7 - d) : Int)) * (10 * (G * P + W)) = 10 * ((10 - (sl q (7 - d) : Int)) * (G * P + W)) := by
          rw [← Int.mul_assoc, Int.mul_comm _ 10, Int.mul_assoc]
        omega
      rw [e1] at key ⊢
      rw [Wd, e1]
      omega
section
variable {s s' kd lo se ah ru sg no ti sp f5 f6 : Nat → Int32} {bw th cm hd ck zz : Int32} {nb nt : Nat} {K L E A R F : Nat → Nat}
theorem p_curtain (h : SP s bw th cm hd ck zz kd lo se ah ru sg no ti sp nb nt K L E A R F) (hf : FR f5 f6) (v1 v2 : Int32) :
    ∃ r5 r6, X5_curtain f5 ru v1 v2 = some r5 ∧ X6_curtain s f6 v1 v2 = some r6 ∧ r5.1 = r6.1 ∧ FR r5.2 r6.2 := by
  unfold X5_curtain X6_curtain
  simp only [f5_0, f6_0, Option.bind_some, isIn_eq]
  cases hi : X5_isIn v1 0 8 with
  | false =>
    simp only [if_pos xbf]
    exact ⟨_, _, rfl, rfl, rfl, hf.up 0 (by decide)⟩
  | true =>
    obtain ⟨c, hc, rfl⟩ := isIn_t (n := 8) (by decide) hi
    cases hi2 : X5_isIn v2 0 1 with
    | false =>
      simp only [if_neg xbt, if_pos xbf]
      exact ⟨_, _, rfl, rfl, rfl, hf.up 0 (by decide)⟩
    | true =>
      obtain ⟨b0, b1, b2, b3⟩ := h.R_le
      obtain ⟨w1, w2⟩ := h.worth hc
      have hlt := Wd_lt (q := R 1) b0 b2 b3 (show 8 - c ≤ 8 by omega)
      have hnn := Wd_nn (R 0) (R 1) (R 2) (R 3) (8 - c)
      have hN : Int64.ofInt (Wd (R 0) (R 1) (R 2) (R 3) (8 - c)) = lN (Wd (R 0) (R 1) (R 2) (R 3) (8 - c)).natAbs := by
        have e : Wd (R 0) (R 1) (R 2) (R 3) (8 - c) = ((Wd (R 0) (R 1) (R 2) (R 3) (8 - c)).natAbs : Int) := by omega
        rw [e]
        exact Int64.ofInt_eq_ofNat
      rw [hN] at w1 w2
      generalize (Wd (R 0) (R 1) (R 2) (R 3) (8 - c)).natAbs = a at *
      have h10 : 10 ^ (8 - c) ≤ 100000000 := Nat.pow_le_pow_right (n := 10) (by decide) (show 8 - c ≤ 8 by omega)
      have h10p : 0 < 10 ^ (8 - c) := Nat.pow_pos (by decide)
      simp only [if_neg xbt]
      rw [w1, w2, parts_eq hc, show (8 : Int32) - nI c = nI (8 - c) from nI_sub (a := 8) hc, tens_eq (by omega), Option.bind_some, Option.bind_some, Option.bind_some, Option.bind_some]
      obtain ⟨x', y', d, g1, g2, g3, g4, g5⟩ := cur_loop f5 v2 8 0 FU a (10 ^ (8 - c)) (by omega) (by unfold FU; omega) (by omega) (by omega)
      have hco := g5 (8 - c) (8 - c) (by rw [← Nat.mul_pow]) (Or.inl (by omega)) (Or.inl (by omega))
      have hgcd : Nat.gcd a (10 ^ (8 - c)) = d := by
        rw [g2, g3, Nat.gcd_mul_right, hco, Nat.one_mul]
      have hd1 : d ≤ 10 ^ (8 - c) := by
        rw [← hgcd]
        exact Nat.gcd_le_right a h10p
      have ge := euc f6 v2 (lN a) (lN (10 ^ (8 - c))) 40 FU a (10 ^ (8 - c)) (by omega) (by unfold FU; omega) (by omega) (by omega) (by rw [hgcd]; exact g1)
      rw [hgcd, pk_lDiv (by omega) g1 (by omega), pk_lDiv (by omega) g1 (by omega)] at ge
      have q1 : a / d = x' := by rw [g2, Nat.mul_div_cancel _ g1]
      have q2 : 10 ^ (8 - c) / d = y' := by rw [g3, Nat.mul_div_cancel _ g1]
      rw [q1, q2] at ge
      rw [show nI 0 = (0 : Int32) from rfl] at g4
      rw [g4, ge]
      exact ⟨_, _, rfl, rfl, rfl, hf⟩
theorem least_ex (Z : Nat → Prop) : ∀ n, Z n → ∃ c, c ≤ n ∧ Z c ∧ ∀ k, k < c → ¬ Z k := by
  intro n
  induction n using Nat.strongRecOn with
  | _ n ih =>
    intro hz
    by_cases h : ∃ k, k < n ∧ Z k
    · obtain ⟨k, h1, h2⟩ := h
      obtain ⟨c, g1, g2, g3⟩ := ih k h1 h2
      exact ⟨c, by omega, g2, g3⟩
    · exact ⟨n, Nat.le_refl _, hz, fun k hk hz2 => h ⟨k, hk, hz2⟩⟩
theorem p_stop (h : SP s bw th cm hd ck zz kd lo se ah ru sg no ti sp nb nt K L E A R F) :
    ∃ r5 r6, X5_stop ru = some r5 ∧ X6_stop s = some r6 ∧ r5 = r6 := by
  obtain ⟨b0, b1, b2, b3⟩ := h.R_le
  let Z : Nat → Prop := fun c => Wd (R 0) (R 1) (R 2) (R 3) (8 - c) = 0
  have hz : ∀ c, c ≤ 8 → ∃ w, X5_worth ru (nI c) = some w ∧ X6_worthFrom s (nI c) = some w ∧ (lg_cmp w 0 = 0 ↔ Z c) := by
    intro c hc
    obtain ⟨w1, w2⟩ := h.worth hc
    have hlt := Wd_lt (q := R 1) b0 b2 b3 (show 8 - c ≤ 8 by omega)
    refine ⟨_, w1, w2, ?_⟩
    rw [lg_cmp_eq]
    have e1 : (Int64.ofInt (Wd (R 0) (R 1) (R 2) (R 3) (8 - c))).toInt = Wd (R 0) (R 1) (R 2) (R 3) (8 - c) := Int64.toInt_ofInt_of_le (by omega) (by omega)
    have z : (0 : Int64).toInt = 0 := by decide
    rw [← Int64.toInt_inj, e1, z]
  have hm : ∀ c, c < 8 → Z c → Z (c + 1) := by
    intro c hc hZ
    have h1 := Wd_mono (t := R 0) (q := R 1) (g := R 2) (l := R 3) (8 - (c + 1)) (by omega)
    have h2 := Wd_nn (R 0) (R 1) (R 2) (R 3) (8 - (c + 1))
    rw [show 8 - (c + 1) + 1 = 8 - c by omega] at h1
    have h3 : Wd (R 0) (R 1) (R 2) (R 3) (8 - c) = 0 := hZ
    show Wd (R 0) (R 1) (R 2) (R 3) (8 - (c + 1)) = 0
    omega
  obtain ⟨c0, g1, g2, g3⟩ := least_ex Z 8 rfl
  have up : ∀ e, c0 + e ≤ 8 → Z (c0 + e) := by
    intro e
    induction e with
    | zero => intro _; exact g2
    | succ e ih => intro he; exact hm (c0 + e) (by omega) (ih (by omega))
  have l5 : ∀ e c n, c + e = c0 → e < n → X5_stop_L2 ru n (nI c) = some (nI c0) := by
    intro e
    induction e with
    | zero =>
      intro c n hc hn
      obtain ⟨n, rfl⟩ : ∃ m, n = m + 1 := ⟨n - 1, by omega⟩
      have e : c = c0 := by omega
      subst e
      rw [X5_stop_L2]
      by_cases h8 : c = 8
      · subst h8; rw [if_pos (by decide)]; rfl
      · obtain ⟨w, w1, -, w3⟩ := hz c g1
        rw [if_neg (show ¬ (8 : Int32) ≤ nI c from nI_ge (b := 8) (by omega) (by omega)), w1, Option.bind_some, if_pos (w3.mpr g2)]
    | succ e ih =>
      intro c n hc hn
      obtain ⟨n, rfl⟩ : ∃ m, n = m + 1 := ⟨n - 1, by omega⟩
      obtain ⟨w, w1, -, w3⟩ := hz c (by omega)
      rw [X5_stop_L2, if_neg (show ¬ (8 : Int32) ≤ nI c from nI_ge (b := 8) (by omega) (by omega)), w1, Option.bind_some, if_neg (fun q => g3 c (by omega) (w3.mp q)), nI_1]
      exact ih (c + 1) n (by omega) (by omega)
  have l6 : ∀ e n, c0 + e ≤ 8 → e < n → X6_stop_L3 s n (nI (c0 + e)) = some (nI c0) := by
    intro e
    induction e with
    | zero =>
      intro n hc hn
      obtain ⟨n, rfl⟩ : ∃ m, n = m + 1 := ⟨n - 1, by omega⟩
      rw [X6_stop_L3, Nat.add_zero]
      rcases c0 with _ | k
      · rw [if_pos (by decide)]
      · obtain ⟨w, -, w2, w3⟩ := hz k (by omega)
        rw [if_neg (nI_nle (by omega) (by omega)), nI_pred, w2, Option.bind_some, if_neg (fun q => g3 k (by omega) (w3.mp q))]
    | succ e ih =>
      intro n hc hn
      obtain ⟨n, rfl⟩ : ∃ m, n = m + 1 := ⟨n - 1, by omega⟩
      obtain ⟨w, -, w2, w3⟩ := hz (c0 + e) (by omega)
      rw [X6_stop_L3, if_neg (nI_nle (by omega) (by omega)), show c0 + (e + 1) = c0 + e + 1 by omega, nI_pred, w2, Option.bind_some, if_pos (w3.mpr (up e (by omega))), ← Int32.sub_eq_add_neg, nI_pred]
      exact ih n (by omega) (by omega)
  have r6 := l6 (8 - c0) FU (by omega) (by unfold FU; omega)
  rw [show c0 + (8 - c0) = 8 by omega] at r6
  exact ⟨_, _, l5 c0 0 FU (by omega) (by unfold FU; omega), r6, rfl⟩
end
