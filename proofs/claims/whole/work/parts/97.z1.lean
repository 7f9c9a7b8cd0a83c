/-! THE RELATION of class and reference, and first commands -/
theorem upd_eq {f : Nat → Int32} {i : Nat} {v : Int32} : upd f i v i = v := by simp [upd]
theorem upd_ne {f : Nat → Int32} {i j : Nat} {v : Int32} (h : j ≠ i) : upd f i v j = f j := by simp [upd, h]
/-- a scene's cells in the reference's row s and in the class's own rows -/
def SR (s : Nat → Int32) (bw th cm hd ck zz : Int32) (kd lo se ah ru sg no ti sp : Nat → Int32) : Prop :=
  ∃ nb nt : Nat, (nb ≤ 9 ∧ nt ≤ nb ∧ s 3 = nI nb ∧ bw = nI nb ∧ s 2 = nI nt ∧ th = nI nt) ∧
  (∀ b, b < nb → (∃ k, k ≤ 6 ∧ s (10 + 4 * b) = nI k) ∧ (∃ k, k ≤ 99 ∧ s (11 + 4 * b) = nI k) ∧ (∃ k, 1 ≤ k ∧ k ≤ 60 ∧ s (12 + 4 * b) = nI k) ∧ (∃ k, k < 2 ^ nb ∧ k.testBit b = false ∧ s (13 + 4 * b) = nI k) ∧ kd b = s (10 + 4 * b) ∧ lo b = s (11 + 4 * b) ∧ se b = s (12 + 4 * b) ∧ ah b = s (13 + 4 * b)) ∧
  (∃ f : Nat → Nat, (∀ i, i < nt → f i < nb ∧ s (46 + 3 * i) = nI (f i) ∧ sg i = nI (f i) ∧ no i = s (47 + 3 * i) ∧ ti i = s (48 + 3 * i)) ∧ (∀ i j, i < nt → j < nt → f i = f j → i = j) ∧ ∃ c : Nat, c < 2 ^ nb ∧ cm = nI c ∧ ∀ b, b < nb → (c.testBit b = true ↔ ∃ i, i < nt ∧ f i = b)) ∧
  (hd = s 0 ∧ ck = s 1 ∧ zz = s 4) ∧ (∀ k, k < 5 → ru k = s (5 + k)) ∧ (∀ k, k < 10 → sp k = s (73 + k) ∧ (s (73 + k) = -1 ∨ ∃ b, b < nb ∧ s (73 + k) = nI b))
def FR (f g : Nat → Int32) : Prop := ∀ j, j < 7 → f j = g j
theorem FR.up {f g : Nat → Int32} (h : FR f g) (j : Nat) (hj : j < 7) : FR (upd f j (f j + 1)) (upd g j (g j + 1)) := by
  intro i hi
  by_cases e : i = j
  · subst e; rw [upd_eq, upd_eq, h i hi]
  · rw [upd_ne e, upd_ne e, h i hi]
theorem fnd5 (f : Nat → Int32) : ∀ j, j < 7 → X5_finding f (nI j) = some (-1000001 - nI j, upd f j (f j + 1)) := by
  intro j hj
  have h1 : (nI j).toInt = j := nI_toInt (by omega)
  have h2 : (nI j).toNatClampNeg = j := nI_clamp (by omega)
  have h3 : inr (nI j) 7 := by constructor <;> omega
  simp only [X5_finding, h2, if_pos h3]
theorem fnd6 (f : Nat → Int32) : ∀ j, j < 7 → X6_no f (nI j) = some (-1000001 - nI j, upd f j (f j + 1)) := by
  intro j hj
  have h1 : (nI j).toInt = j := nI_toInt (by omega)
  have h2 : (nI j).toNatClampNeg = j := nI_clamp (by omega)
  have h3 : inr (nI j) 7 := by constructor <;> omega
  simp only [X6_no, h2, if_pos h3]
theorem ix (j k : Nat) (hj : j < 9) (hk : k < 4) : inr ((10 + (4 * nI j)) + nI k) 83 ∧ ((10 + (4 * nI j)) + nI k).toNatClampNeg = 10 + 4 * j + k := by
  have e : (10 + (4 * nI j)) + nI k = nI (10 + 4 * j + k) := by
    rw [← nI_add, ← nI_add]
    congr 2
    exact (Int32.ofNat_mul 4 j).symm
  rw [e]
  have h1 : (nI (10 + 4 * j + k)).toInt = ((10 + 4 * j + k : Nat) : Int) := nI_toInt (by omega)
  exact ⟨⟨by omega, by omega⟩, nI_clamp (by omega)⟩
theorem m_get (s : Nat → Int32) (j k : Nat) (hj : j < 9) (hk : k < 4) : X6_get s (nI j) (nI k) = some (s (10 + 4 * j + k)) := by
  obtain ⟨h1, h2⟩ := ix j k hj hk
  simp only [X6_get, if_pos h1, h2]
theorem m_puts (s : Nat → Int32) (j k : Nat) (v : Int32) (hj : j < 9) (hk : k < 4) : X6_puts s (nI j) (nI k) v = some (upd s (10 + 4 * j + k) v) := by
  obtain ⟨h1, h2⟩ := ix j k hj hk
  simp only [X6_puts, if_pos h1, h2]
theorem isIn_eq (a b c : Int32) : X6_in1 a b c = X5_isIn a b c := rfl
theorem isIn_t {n : Nat} (h : n < 2 ^ 31) {a : Int32} (ha : X5_isIn a 0 (nI n) = true) : ∃ j, j ≤ n ∧ a = nI j := by
  unfold X5_isIn at ha
  by_cases h1 : a < 0
  · rw [if_pos h1] at ha; cases ha
  · rw [if_neg h1] at ha
    by_cases h2 : nI n < a
    · rw [if_pos h2] at ha; cases ha
    · exact nI_of2 (nI_toInt h) h1 (Int32.not_lt.mp h2)
