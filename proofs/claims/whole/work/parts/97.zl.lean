/-! curtains -/
def sl (q i : Nat) : Nat := min (q * i) 10
/-- what is inside of worth, one curtain further ahead -/
def win (t q g l d : Nat) (W : Int) : Int := (10 - (sl q (7 - d) : Int)) * (((g : Int) - (7 - d : Nat) * (t : Int)) * (10 ^ d : Nat) + W) - (sl q (7 - d) : Int) * ((l : Int) * (10 ^ d : Nat))
def Wd (t q g l : Nat) : Nat → Int
  | 0 => 0
  | d + 1 => max 0 (win t q g l d (Wd t q g l d))
theorem sl_le (q i : Nat) : sl q i ≤ 10 := Nat.min_le_right _ _
theorem i64 (x : Int32) : x.toInt64 = Int64.ofInt x.toInt := by
  apply Int64.toInt_inj.mp
  have h1 := Int32.toInt_lt x
  have h2 := Int32.le_toInt x
  rw [Int32.toInt_toInt64, Int64.toInt_ofInt_of_le (by omega) (by omega)]
theorem nab {x y : Int} {A B : Nat} (hx : x.natAbs ≤ A) (hy : y.natAbs ≤ B) : (x * y).natAbs ≤ A * B := by
  rw [Int.natAbs_mul]
  exact Nat.mul_le_mul hx hy
theorem ten_le {d : Nat} (h : d ≤ 7) : 10 ^ d ≤ 10000000 := Nat.pow_le_pow_right (n := 10) (by decide) h
theorem win_bd {t q g l d : Nat} (ht : t ≤ 9) (hg : g ≤ 99) (hl : l ≤ 99) (hd : d ≤ 7) {W : Int} {M : Nat} (hW : W.natAbs ≤ M) : (win t q g l d W).natAbs ≤ 10 * (M + 200 * 10 ^ d) := by
  have hs := sl_le q (7 - d)
  have h1 : ((g : Int) - (7 - d : Nat) * (t : Int)).natAbs ≤ 99 := by
    have : (((7 - d : Nat) : Int) * (t : Int)).natAbs ≤ 7 * 9 := nab (by omega) (by omega)
    have h0 : 0 ≤ ((7 - d : Nat) : Int) * (t : Int) := Int.mul_nonneg (by omega) (by omega)
    omega
  have h2 := nab h1 (show ((10 ^ d : Nat) : Int).natAbs ≤ 10 ^ d from Nat.le_of_eq (Int.natAbs_natCast _))
  have h3 : (10 - (sl q (7 - d) : Int)).natAbs ≤ 10 := by omega
  have h4 := nab h3 (show (((g : Int) - (7 - d : Nat) * (t : Int)) * (10 ^ d : Nat) + W).natAbs ≤ 99 * 10 ^ d + M by omega)
  have h5 := nab (show ((l : Int)).natAbs ≤ 99 by omega) (show ((10 ^ d : Nat) : Int).natAbs ≤ 10 ^ d from Nat.le_of_eq (Int.natAbs_natCast _))
  have h6 := nab (show ((sl q (7 - d) : Nat) : Int).natAbs ≤ 10 by omega) h5
  unfold win
  omega
theorem Wd_nn (t q g l : Nat) : ∀ d, 0 ≤ Wd t q g l d
  | 0 => Int.le_refl _
  | d + 1 => by rw [Wd]; omega
theorem Wd_bd {t q g l : Nat} (ht : t ≤ 9) (hg : g ≤ 99) (hl : l ≤ 99) : ∀ d, d ≤ 8 → (Wd t q g l d).natAbs + 3000000000 ≤ 3000000000 * 10 ^ d := by
  intro d
  induction d with
  | zero => intro _; exact Nat.le_refl _
  | succ d ih =>
    intro hd
    have h1 := ih (by omega)
    have h2 := win_bd (q := q) ht hg hl (show d ≤ 7 by omega) (Nat.le_refl (Wd t q g l d).natAbs)
    have h3 := ten_le (show d ≤ 7 by omega)
    have h4 : 0 < 10 ^ d := Nat.pow_pos (by decide)
    rw [Wd, Nat.pow_succ]
    omega
theorem Wd_lt {t q g l : Nat} (ht : t ≤ 9) (hg : g ≤ 99) (hl : l ≤ 99) {d : Nat} (hd : d ≤ 8) : (Wd t q g l d).natAbs < 2 ^ 60 := by
  have h1 := Wd_bd (q := q) ht hg hl d hd
  have h2 : 10 ^ d ≤ 100000000 := Nat.pow_le_pow_right (n := 10) (by decide) hd
  omega
theorem win_lt {t q g l : Nat} (ht : t ≤ 9) (hg : g ≤ 99) (hl : l ≤ 99) {d : Nat} (hd : d ≤ 7) : (win t q g l d (Wd t q g l d)).natAbs < 2 ^ 62 := by
  have h1 := Wd_bd (q := q) ht hg hl d (by omega)
  have h2 := win_bd (q := q) ht hg hl hd (Nat.le_refl (Wd t q g l d).natAbs)
  have h3 := ten_le hd
  omega
theorem tens_eq {k : Nat} (h : k ≤ 8) : X6_tens (nI k) = some (lN (10 ^ k)) := (by decide +kernel : ∀ k, k < 9 → X6_tens (nI k) = some (lN (10 ^ k))) k (by omega)
theorem parts_eq {k : Nat} (h : k ≤ 8) : X5_partsFrom (nI k) = some (lN (10 ^ (8 - k))) := (by decide +kernel : ∀ k, k < 9 → X5_partsFrom (nI k) = some (lN (10 ^ (8 - k)))) k (by omega)
theorem xmin10 (q i : Nat) (h : q * i < 2 ^ 31) : xmin (nI q * nI i) 10 = nI (sl q i) := by
  unfold xmin sl
  rw [nI_mul]
  by_cases e : 10 < q * i
  · rw [if_pos (show (10 : Int32) < nI (q * i) from nI_lt (a := 10) e h), Nat.min_eq_right (by omega)]; rfl
  · rw [if_neg (show ¬ (10 : Int32) < nI (q * i) from nI_nlt (a := 10) (by omega) (by omega)), Nat.min_eq_left (by omega)]
theorem gain_i {g i t : Nat} (hg : g ≤ 99) (hi : i ≤ 7) (ht : t ≤ 9) : (nI g - nI i * nI t).toInt = (g : Int) - (i : Int) * (t : Int) := by
  have : i * t ≤ 7 * 9 := Nat.mul_le_mul hi ht
  rw [nI_mul, sub_toInt (by omega) (by omega), Int.natCast_mul]
theorem X_eq {t q g l i d : Nat} (hq : q ≤ 10) (hg : g ≤ 99) (ht : t ≤ 9) (hl : l ≤ 99) (hi : i = 7 - d) (hi7 : i ≤ 7) (W : Int) :
    ((10 - nI (sl q i)).toInt64 * (((nI g - nI i * nI t).toInt64 * lN (10 ^ d)) + Int64.ofInt W)) - ((nI (sl q i)).toInt64 * ((nI l).toInt64 * lN (10 ^ d))) = Int64.ofInt (win t q g l d W) := by
  have hs := sl_le q i
  have e1 : (10 - nI (sl q i)).toInt = 10 - (sl q i : Int) := by
    rw [show (10 : Int32) = nI 10 from rfl, sub_toInt (by omega) (by omega)]; rfl
  have e2 : lN (10 ^ d) = Int64.ofInt ((10 ^ d : Nat) : Int) := Int64.ofInt_eq_ofNat.symm
  rw [i64, i64, i64, i64, e1, gain_i hg hi7 ht, nI_toInt (show sl q i < 2 ^ 31 by omega), nI_toInt (show l < 2 ^ 31 by omega), e2, ← Int64.ofInt_mul, ← Int64.ofInt_add, ← Int64.ofInt_mul, ← Int64.ofInt_mul, ← Int64.ofInt_mul, ← Int64.ofInt_sub]
  unfold win
  rw [← hi]
theorem Y_eq {t q g l i d : Nat} (hq : q ≤ 10) (hg : g ≤ 99) (ht : t ≤ 9) (hl : l ≤ 99) (hi : i = 7 - d) (hi7 : i ≤ 7) (W : Int) :
    (((((10 : Int64) - (nI (sl q i)).toInt64) * (nI g - nI i * nI t).toInt64) - ((nI (sl q i)).toInt64 * (nI l).toInt64)) * lN (10 ^ d)) + ((10 - (nI (sl q i)).toInt64) * Int64.ofInt W) = Int64.ofInt (win t q g l d W) := by
  have hs := sl_le q i
  have e2 : lN (10 ^ d) = Int64.ofInt ((10 ^ d : Nat) : Int) := Int64.ofInt_eq_ofNat.symm
  have e3 : (10 : Int64) = Int64.ofInt 10 := by decide
  rw [i64, i64, i64, gain_i hg hi7 ht, nI_toInt (show sl q i < 2 ^ 31 by omega), nI_toInt (show l < 2 ^ 31 by omega), e2, e3, ← Int64.ofInt_sub, ← Int64.ofInt_mul, ← Int64.ofInt_mul, ← Int64.ofInt_sub, ← Int64.ofInt_mul, ← Int64.ofInt_mul, ← Int64.ofInt_add]
  unfold win
  rw [← hi]
  congr 1
  generalize ((10 : Int) - (sl q i : Int)) = a
  generalize ((g : Int) - (i : Int) * (t : Int)) = G
  generalize ((10 ^ d : Nat) : Int) = P
  rw [Int.sub_mul, Int.mul_add, Int.mul_assoc, Int.mul_assoc]
  omega
theorem max0_eq {x : Int} (h : x.natAbs < 2 ^ 62) : xmaxl 0 (Int64.ofInt x) = Int64.ofInt (max 0 x) := by
  have e : (Int64.ofInt x).toInt = x := Int64.toInt_ofInt_of_le (by omega) (by omega)
  have z : (0 : Int64).toInt = 0 := by decide
  unfold xmaxl
  by_cases hx : x < 0
  · rw [if_pos (by rw [Int64.lt_iff_toInt_lt, e, z]; exact hx), show max 0 x = 0 by omega]; rfl
  · rw [if_neg (by rw [Int64.lt_iff_toInt_lt, e, z]; exact hx), show max 0 x = x by omega]
section
variable {s s' kd lo se ah ru sg no ti sp f5 f6 : Nat → Int32} {bw th cm hd ck zz : Int32} {nb nt : Nat} {K L E A R F : Nat → Nat}
theorem SP.R_le (h : SP s bw th cm hd ck zz kd lo se ah ru sg no ti sp nb nt K L E A R F) : R 0 ≤ 9 ∧ R 1 ≤ 10 ∧ R 2 ≤ 99 ∧ R 3 ≤ 99 := ⟨(h.2.2.1 0 (by decide)).2.2, (h.2.2.1 1 (by decide)).2.2, (h.2.2.1 2 (by decide)).2.2, (h.2.2.1 3 (by decide)).2.2⟩
theorem SP.worth (h : SP s bw th cm hd ck zz kd lo se ah ru sg no ti sp nb nt K L E A R F) {c : Nat} (hc : c ≤ 8) : X5_worth ru (nI c) = some (Int64.ofInt (Wd (R 0) (R 1) (R 2) (R 3) (8 - c))) ∧ X6_worthFrom s (nI c) = some (Int64.ofInt (Wd (R 0) (R 1) (R 2) (R 3) (8 - c))) := by
  obtain ⟨b0, b1, b2, b3⟩ := h.R_le
  obtain ⟨u0, v0, -⟩ := h.2.2.1 0 (by decide)
  obtain ⟨u1, v1, -⟩ := h.2.2.1 1 (by decide)
  obtain ⟨u2, v2, -⟩ := h.2.2.1 2 (by decide)
  obtain ⟨u3, v3, -⟩ := h.2.2.1 3 (by decide)
  have v0 : s 5 = nI (R 0) := v0
  have v1 : s 6 = nI (R 1) := v1
  have v2 : s 7 = nI (R 2) := v2
  have v3 : s 8 = nI (R 3) := v3
  have lt1 : ∀ k, k ≤ 8 → nI k - 1 < nI k := fun k hk => by
    rw [ltI, show (1 : Int32) = nI 1 from rfl, sub_toInt (by omega) (by omega), nI_toInt (by omega)]; omega
  have l5 : ∀ e d n, d + e = 8 - c → e < n → X5_worth_L9 ru n (nI c) (Int64.ofInt (Wd (R 0) (R 1) (R 2) (R 3) d)) (lN (10 ^ d)) (nI (8 - d) - 1) = some (Int64.ofInt (Wd (R 0) (R 1) (R 2) (R 3) (8 - c))) := by
    intro e
    induction e with
    | zero =>
      intro d n hd hn
      obtain ⟨n, rfl⟩ : ∃ m, n = m + 1 := ⟨n - 1, by omega⟩
      rw [X5_worth_L9, show 8 - d = c by omega, if_pos (lt1 c hc), show d = 8 - c by omega]
    | succ e ih =>
      intro d n hd hn
      obtain ⟨n, rfl⟩ : ∃ m, n = m + 1 := ⟨n - 1, by omega⟩
      have hi : 8 - d = (7 - d) + 1 := by omega
      have hq : R 1 * (7 - d) ≤ 10 * 7 := Nat.mul_le_mul b1 (by omega)
      rw [X5_worth_L9, hi, nI_pred, if_neg (nI_nlt (by omega) (by omega))]
      unfold X5_gainAt
      rw [Option.bind_some, u0, u1, u2, u3, xmin10 _ _ (by omega), X_eq b1 b2 b0 b3 rfl (by omega), max0_eq (win_lt b0 b2 b3 (by omega)), ← Int32.sub_eq_add_neg, show (10 : Int64) = lN 10 by decide, lN_mul, ← Nat.pow_succ, show max 0 (win (R 0) (R 1) (R 2) (R 3) d (Wd (R 0) (R 1) (R 2) (R 3) d)) = Wd (R 0) (R 1) (R 2) (R 3) (d + 1) from rfl, show 7 - d = 8 - (d + 1) by omega]
      exact ih (d + 1) n (by omega) (by omega)
  have l6 : ∀ e d n, d + e = 8 - c → e < n → X6_worthFrom_L6 s n (nI c) (Int64.ofInt (Wd (R 0) (R 1) (R 2) (R 3) d)) (nI (8 - d) - 1) = some (Int64.ofInt (Wd (R 0) (R 1) (R 2) (R 3) (8 - c))) := by
    intro e
    induction e with
    | zero =>
      intro d n hd hn
      obtain ⟨n, rfl⟩ : ∃ m, n = m + 1 := ⟨n - 1, by omega⟩
      rw [X6_worthFrom_L6, show 8 - d = c by omega, if_pos (lt1 c hc), show d = 8 - c by omega]
    | succ e ih =>
      intro d n hd hn
      obtain ⟨n, rfl⟩ : ∃ m, n = m + 1 := ⟨n - 1, by omega⟩
      have hi : 8 - d = (7 - d) + 1 := by omega
      have hq : R 1 * (7 - d) ≤ 10 * 7 := Nat.mul_le_mul b1 (by omega)
      have hs : X6_silentAt s (nI (7 - d)) = some (nI (sl (R 1) (7 - d))) := by
        unfold X6_silentAt sl
        rw [v1, nI_mul]
        by_cases e : R 1 * (7 - d) ≤ 10
        · rw [if_pos (show nI (R 1 * (7 - d)) ≤ (10 : Int32) from nI_le (b := 10) e (by omega)), Nat.min_eq_left e]
        · rw [if_neg (show ¬ nI (R 1 * (7 - d)) ≤ (10 : Int32) from nI_ge (a := 10) (by omega) (by omega)), Nat.min_eq_right (by omega)]; rfl
      have ht : X6_tens (7 - nI (7 - d)) = some (lN (10 ^ d)) := by
        rw [show (7 : Int32) = nI 7 from rfl, nI_sub (by omega), show 7 - (7 - d) = d by omega, tens_eq (by omega)]
      rw [X6_worthFrom_L6, hi, nI_pred, if_neg (nI_nlt (by omega) (by omega)), hs, Option.bind_some, Option.bind_some, ht, Option.bind_some, Option.bind_some, v0, v2, v3, Y_eq b1 b2 b0 b3 rfl (by omega), ← Int32.sub_eq_add_neg]
      have hw := win_lt (q := R 1) b0 b2 b3 (show d ≤ 7 by omega)
      have e1 : (Int64.ofInt (win (R 0) (R 1) (R 2) (R 3) d (Wd (R 0) (R 1) (R 2) (R 3) d))).toInt = win (R 0) (R 1) (R 2) (R 3) d (Wd (R 0) (R 1) (R 2) (R 3) d) := Int64.toInt_ofInt_of_le (by omega) (by omega)
      have z : (0 : Int64).toInt = 0 := by decide
      have hh := ih (d + 1) n (by omega) (by omega)
      rw [show 8 - (d + 1) = 7 - d by omega, Wd] at hh
      by_cases hx : 0 ≤ win (R 0) (R 1) (R 2) (R 3) d (Wd (R 0) (R 1) (R 2) (R 3) d)
      · rw [if_pos ((lg_cmp_ge _ _).mpr (by rw [Int64.le_iff_toInt_le, e1, z]; exact hx))]
        rw [show max 0 (win (R 0) (R 1) (R 2) (R 3) d (Wd (R 0) (R 1) (R 2) (R 3) d)) = win (R 0) (R 1) (R 2) (R 3) d (Wd (R 0) (R 1) (R 2) (R 3) d) by omega] at hh
        exact hh
      · rw [if_neg (fun w => hx (by have := (lg_cmp_ge _ _).mp w; rw [Int64.le_iff_toInt_le, e1, z] at this; exact this))]
        rw [show max 0 (win (R 0) (R 1) (R 2) (R 3) d (Wd (R 0) (R 1) (R 2) (R 3) d)) = 0 by omega] at hh
        exact hh
  exact ⟨l5 (8 - c) 0 FU (by omega) (by unfold FU; omega), l6 (8 - c) 0 FU (by omega) (by unfold FU; omega)⟩
end
