/-! THE SCENE'S RELATION with its numbers named, and how it bears each change -/
def mr : Nat → Nat
  | 0 => 9
  | 1 => 10
  | 2 => 99
  | 3 => 99
  | _ => 999
/-- who stands on the stage, as a set -/
def stg (F : Nat → Nat) : Nat → Nat
  | 0 => 0
  | n + 1 => stg F n ||| 2 ^ F n
def fup (f : Nat → Nat) (k x : Nat) : Nat → Nat := fun j => if j = k then x else f j
theorem fup_eq {f : Nat → Nat} {k x : Nat} : fup f k x k = x := by simp [fup]
theorem fup_ne {f : Nat → Nat} {k x j : Nat} (h : j ≠ k) : fup f k x j = f j := by simp [fup, h]
def scH (s : Nat → Int32) (bw th cm hd ck zz : Int32) (nb nt : Nat) (F : Nat → Nat) : Prop :=
  nb ≤ 9 ∧ nt ≤ nb ∧ s 3 = nI nb ∧ bw = nI nb ∧ s 2 = nI nt ∧ th = nI nt ∧ cm = nI (stg F nt) ∧ hd = s 0 ∧ ck = s 1 ∧ zz = s 4
def scB (s kd lo se ah : Nat → Int32) (nb : Nat) (K L E A : Nat → Nat) : Prop :=
  ∀ b, b < nb → (K b ≤ 6 ∧ L b ≤ 99 ∧ 1 ≤ E b ∧ E b ≤ 60 ∧ A b < 2 ^ nb ∧ (A b).testBit b = false) ∧ (s (10 + 4 * b) = nI (K b) ∧ s (11 + 4 * b) = nI (L b) ∧ s (12 + 4 * b) = nI (E b) ∧ s (13 + 4 * b) = nI (A b)) ∧ kd b = nI (K b) ∧ lo b = nI (L b) ∧ se b = nI (E b) ∧ ah b = nI (A b)
def scU (s ru : Nat → Int32) (R : Nat → Nat) : Prop := ∀ k, k < 5 → ru k = nI (R k) ∧ s (5 + k) = nI (R k) ∧ R k ≤ mr k
def scT (s sg no ti : Nat → Int32) (nb nt : Nat) (F : Nat → Nat) : Prop :=
  (∀ i, i < nt → F i < nb ∧ s (46 + 3 * i) = nI (F i) ∧ sg i = nI (F i) ∧ no i = s (47 + 3 * i) ∧ ti i = s (48 + 3 * i)) ∧ ∀ i j, i < nt → j < nt → F i = F j → i = j
def scS (s sp : Nat → Int32) (nb : Nat) : Prop := ∀ k, k < 10 → sp k = s (73 + k) ∧ (s (73 + k) = -1 ∨ ∃ b, b < nb ∧ s (73 + k) = nI b)
def SP (s : Nat → Int32) (bw th cm hd ck zz : Int32) (kd lo se ah ru sg no ti sp : Nat → Int32) (nb nt : Nat) (K L E A R F : Nat → Nat) : Prop :=
  scH s bw th cm hd ck zz nb nt F ∧ scB s kd lo se ah nb K L E A ∧ scU s ru R ∧ scT s sg no ti nb nt F ∧ scS s sp nb
def SQ (s : Nat → Int32) (bw th cm hd ck zz : Int32) (kd lo se ah ru sg no ti sp : Nat → Int32) : Prop :=
  ∃ (nb nt : Nat) (K L E A R F : Nat → Nat), SP s bw th cm hd ck zz kd lo se ah ru sg no ti sp nb nt K L E A R F
section
variable {s s' kd lo se ah ru sg no ti sp : Nat → Int32} {bw th cm hd ck zz : Int32} {nb nt : Nat} {K L E A R F : Nat → Nat}
theorem stg_tb (F : Nat → Nat) (n b : Nat) : (stg F n).testBit b = true ↔ ∃ i, i < n ∧ F i = b := by
  induction n with
  | zero =>
    unfold stg
    rw [Nat.zero_testBit]
    exact ⟨fun h => (by cases h), fun ⟨i, h, _⟩ => (by omega)⟩
  | succ n ih =>
    unfold stg
    rw [Nat.testBit_or, Bool.or_eq_true, ih, Nat.testBit_two_pow, decide_eq_true_iff]
    constructor
    · rintro (⟨i, h1, h2⟩ | h)
      · exact ⟨i, by omega, h2⟩
      · exact ⟨n, by omega, h⟩
    · rintro ⟨i, h1, h2⟩
      by_cases e : i = n
      · exact Or.inr (by rw [← e]; exact h2)
      · exact Or.inl ⟨i, by omega, h2⟩
theorem stg_lt {F : Nat → Nat} {n m : Nat} (h : ∀ i, i < n → F i < m) : stg F n < 2 ^ m := by
  induction n with
  | zero => exact Nat.two_pow_pos _
  | succ n ih => exact Nat.or_lt_two_pow (ih (fun i hi => h i (by omega))) (Nat.pow_lt_pow_right (by decide) (h n (by omega)))
theorem stg_cg {F G : Nat → Nat} {n : Nat} (h : ∀ i, i < n → F i = G i) : stg F n = stg G n := by
  induction n with
  | zero => rfl
  | succ n ih => unfold stg; rw [ih (fun i hi => h i (by omega)), h n (by omega)]
theorem scH_cg (h : scH s bw th cm hd ck zz nb nt F) (g : ∀ j, j < 5 → s' j = s j) : scH s' bw th cm hd ck zz nb nt F := by
  obtain ⟨a1, a2, a3, a4, a5, a6, a7, a8, a9, a10⟩ := h
  exact ⟨a1, a2, by rw [g 3 (by decide), a3], a4, by rw [g 2 (by decide), a5], a6, a7, by rw [g 0 (by decide), a8], by rw [g 1 (by decide), a9], by rw [g 4 (by decide), a10]⟩
theorem scB_cg (hn : nb ≤ 9) (h : scB s kd lo se ah nb K L E A) (g : ∀ j, 10 ≤ j → j < 46 → s' j = s j) : scB s' kd lo se ah nb K L E A := by
  intro b hb
  obtain ⟨h1, h2, h3⟩ := h b hb
  rw [g (10 + 4 * b) (by omega) (by omega), g (11 + 4 * b) (by omega) (by omega), g (12 + 4 * b) (by omega) (by omega), g (13 + 4 * b) (by omega) (by omega)]
  exact ⟨h1, h2, h3⟩
theorem scU_cg (h : scU s ru R) (g : ∀ j, 5 ≤ j → j < 10 → s' j = s j) : scU s' ru R := by
  intro k hk
  rw [g (5 + k) (by omega) (by omega)]
  exact h k hk
theorem scT_cg (hn : nt ≤ 9) (h : scT s sg no ti nb nt F) (g : ∀ j, 46 ≤ j → j < 73 → s' j = s j) : scT s' sg no ti nb nt F := by
  refine ⟨fun i hi => ?_, h.2⟩
  rw [g (46 + 3 * i) (by omega) (by omega), g (47 + 3 * i) (by omega) (by omega), g (48 + 3 * i) (by omega) (by omega)]
  exact h.1 i hi
theorem scS_cg (h : scS s sp nb) (g : ∀ j, 73 ≤ j → j < 83 → s' j = s j) : scS s' sp nb := by
  intro k hk
  rw [g (73 + k) (by omega) (by omega)]
  exact h k hk
theorem SP.h9 (h : SP s bw th cm hd ck zz kd lo se ah ru sg no ti sp nb nt K L E A R F) : nb ≤ 9 := h.1.1
theorem SP.ht (h : SP s bw th cm hd ck zz kd lo se ah ru sg no ti sp nb nt K L E A R F) : nt ≤ nb := h.1.2.1
theorem SP.b3 (h : SP s bw th cm hd ck zz kd lo se ah ru sg no ti sp nb nt K L E A R F) : s 3 = nI nb := h.1.2.2.1
theorem SP.bw_ (h : SP s bw th cm hd ck zz kd lo se ah ru sg no ti sp nb nt K L E A R F) : bw = nI nb := h.1.2.2.2.1
theorem SP.b2 (h : SP s bw th cm hd ck zz kd lo se ah ru sg no ti sp nb nt K L E A R F) : s 2 = nI nt := h.1.2.2.2.2.1
theorem SP.th_ (h : SP s bw th cm hd ck zz kd lo se ah ru sg no ti sp nb nt K L E A R F) : th = nI nt := h.1.2.2.2.2.2.1
theorem SP.cm_ (h : SP s bw th cm hd ck zz kd lo se ah ru sg no ti sp nb nt K L E A R F) : cm = nI (stg F nt) := h.1.2.2.2.2.2.2.1
theorem SP.c_lt (h : SP s bw th cm hd ck zz kd lo se ah ru sg no ti sp nb nt K L E A R F) : stg F nt < 2 ^ nb := stg_lt (fun i hi => (h.2.2.2.1.1 i hi).1)
theorem SP.A_lt (h : SP s bw th cm hd ck zz kd lo se ah ru sg no ti sp nb nt K L E A R F) {b : Nat} (hb : b < nb) : A b < 512 := Nat.lt_of_lt_of_le (h.2.1 b hb).1.2.2.2.2.1 (two_lt h.h9)
theorem SP.SR (h : SP s bw th cm hd ck zz kd lo se ah ru sg no ti sp nb nt K L E A R F) : SR s bw th cm hd ck zz kd lo se ah ru sg no ti sp := by
  have hc := h.c_lt
  obtain ⟨⟨a1, a2, a3, a4, a5, a6, a7, a8, a9, a10⟩, hB, hU, hT, hS⟩ := h
  refine ⟨nb, nt, ⟨a1, a2, a3, a4, a5, a6⟩, fun b hb => ?_, ⟨F, hT.1, hT.2, stg F nt, hc, a7, fun b hb => stg_tb F nt b⟩, ⟨a8, a9, a10⟩, fun k hk => ?_, hS⟩
  · obtain ⟨⟨h1, h2, h3, h4, h5, h6⟩, ⟨g1, g2, g3, g4⟩, e1, e2, e3, e4⟩ := hB b hb
    exact ⟨⟨_, h1, g1⟩, ⟨_, h2, g2⟩, ⟨_, h3, h4, g3⟩, ⟨_, h5, h6, g4⟩, e1.trans g1.symm, e2.trans g2.symm, e3.trans g3.symm, e4.trans g4.symm⟩
  · obtain ⟨h1, h2, -⟩ := hU k hk
    rw [h1, h2]
/-- one cell of a bow is set -/
theorem SP.setK (h : SP s bw th cm hd ck zz kd lo se ah ru sg no ti sp nb nt K L E A R F) {b x : Nat} (hb : b < nb) (hx : x ≤ 6) : SP (upd s (10 + 4 * b) (nI x)) bw th cm hd ck zz (upd kd b (nI x)) lo se ah ru sg no ti sp nb nt (fup K b x) L E A R F := by
  have h9 := h.h9
  obtain ⟨hH, hB, hU, hT, hS⟩ := h
  have h10 := hH.2.1
  refine ⟨scH_cg hH (fun j hj => upd_ne (by omega)), fun c hc => ?_, scU_cg hU (fun j h1 h2 => upd_ne (by omega)), scT_cg (by omega) hT (fun j h1 h2 => upd_ne (by omega)), scS_cg hS (fun j h1 h2 => upd_ne (by omega))⟩
  obtain ⟨⟨h1, h2, h3, h4, h5, h6⟩, ⟨g1, g2, g3, g4⟩, e1, e2, e3, e4⟩ := hB c hc
  by_cases e : c = b
  · subst e
    rw [upd_eq, upd_eq, fup_eq, upd_ne (by omega), upd_ne (by omega), upd_ne (by omega)]
    exact ⟨⟨hx, h2, h3, h4, h5, h6⟩, ⟨rfl, g2, g3, g4⟩, rfl, e2, e3, e4⟩
  · rw [upd_ne (by omega), upd_ne (by omega), upd_ne (by omega), upd_ne (by omega), upd_ne e, fup_ne e]
    exact ⟨⟨h1, h2, h3, h4, h5, h6⟩, ⟨g1, g2, g3, g4⟩, e1, e2, e3, e4⟩
theorem SP.setL (h : SP s bw th cm hd ck zz kd lo se ah ru sg no ti sp nb nt K L E A R F) {b x : Nat} (hb : b < nb) (hx : x ≤ 99) : SP (upd s (11 + 4 * b) (nI x)) bw th cm hd ck zz kd (upd lo b (nI x)) se ah ru sg no ti sp nb nt K (fup L b x) E A R F := by
  have h9 := h.h9
  obtain ⟨hH, hB, hU, hT, hS⟩ := h
  have h10 := hH.2.1
  refine ⟨scH_cg hH (fun j hj => upd_ne (by omega)), fun c hc => ?_, scU_cg hU (fun j h1 h2 => upd_ne (by omega)), scT_cg (by omega) hT (fun j h1 h2 => upd_ne (by omega)), scS_cg hS (fun j h1 h2 => upd_ne (by omega))⟩
  obtain ⟨⟨h1, h2, h3, h4, h5, h6⟩, ⟨g1, g2, g3, g4⟩, e1, e2, e3, e4⟩ := hB c hc
  by_cases e : c = b
  · subst e
    rw [upd_eq, upd_eq, fup_eq, upd_ne (by omega), upd_ne (by omega), upd_ne (by omega)]
    exact ⟨⟨h1, hx, h3, h4, h5, h6⟩, ⟨g1, rfl, g3, g4⟩, e1, rfl, e3, e4⟩
  · rw [upd_ne (by omega), upd_ne (by omega), upd_ne (by omega), upd_ne (by omega), upd_ne e, fup_ne e]
    exact ⟨⟨h1, h2, h3, h4, h5, h6⟩, ⟨g1, g2, g3, g4⟩, e1, e2, e3, e4⟩
theorem SP.setE (h : SP s bw th cm hd ck zz kd lo se ah ru sg no ti sp nb nt K L E A R F) {b x : Nat} (hb : b < nb) (hx1 : 1 ≤ x) (hx : x ≤ 60) : SP (upd s (12 + 4 * b) (nI x)) bw th cm hd ck zz kd lo (upd se b (nI x)) ah ru sg no ti sp nb nt K L (fup E b x) A R F := by
  have h9 := h.h9
  obtain ⟨hH, hB, hU, hT, hS⟩ := h
  have h10 := hH.2.1
  refine ⟨scH_cg hH (fun j hj => upd_ne (by omega)), fun c hc => ?_, scU_cg hU (fun j h1 h2 => upd_ne (by omega)), scT_cg (by omega) hT (fun j h1 h2 => upd_ne (by omega)), scS_cg hS (fun j h1 h2 => upd_ne (by omega))⟩
  obtain ⟨⟨h1, h2, h3, h4, h5, h6⟩, ⟨g1, g2, g3, g4⟩, e1, e2, e3, e4⟩ := hB c hc
  by_cases e : c = b
  · subst e
    rw [upd_eq, upd_eq, fup_eq, upd_ne (by omega), upd_ne (by omega), upd_ne (by omega)]
    exact ⟨⟨h1, h2, hx1, hx, h5, h6⟩, ⟨g1, g2, rfl, g4⟩, e1, e2, rfl, e4⟩
  · rw [upd_ne (by omega), upd_ne (by omega), upd_ne (by omega), upd_ne (by omega), upd_ne e, fup_ne e]
    exact ⟨⟨h1, h2, h3, h4, h5, h6⟩, ⟨g1, g2, g3, g4⟩, e1, e2, e3, e4⟩
theorem SP.setA (h : SP s bw th cm hd ck zz kd lo se ah ru sg no ti sp nb nt K L E A R F) {b x : Nat} (hb : b < nb) (hx : x < 2 ^ nb) (hx1 : x.testBit b = false) : SP (upd s (13 + 4 * b) (nI x)) bw th cm hd ck zz kd lo se (upd ah b (nI x)) ru sg no ti sp nb nt K L E (fup A b x) R F := by
  have h9 := h.h9
  obtain ⟨hH, hB, hU, hT, hS⟩ := h
  have h10 := hH.2.1
  refine ⟨scH_cg hH (fun j hj => upd_ne (by omega)), fun c hc => ?_, scU_cg hU (fun j h1 h2 => upd_ne (by omega)), scT_cg (by omega) hT (fun j h1 h2 => upd_ne (by omega)), scS_cg hS (fun j h1 h2 => upd_ne (by omega))⟩
  obtain ⟨⟨h1, h2, h3, h4, h5, h6⟩, ⟨g1, g2, g3, g4⟩, e1, e2, e3, e4⟩ := hB c hc
  by_cases e : c = b
  · subst e
    rw [upd_eq, upd_eq, fup_eq, upd_ne (by omega), upd_ne (by omega), upd_ne (by omega)]
    exact ⟨⟨h1, h2, h3, h4, hx, hx1⟩, ⟨g1, g2, g3, rfl⟩, e1, e2, e3, rfl⟩
  · rw [upd_ne (by omega), upd_ne (by omega), upd_ne (by omega), upd_ne (by omega), upd_ne e, fup_ne e]
    exact ⟨⟨h1, h2, h3, h4, h5, h6⟩, ⟨g1, g2, g3, g4⟩, e1, e2, e3, e4⟩
theorem SP.setR (h : SP s bw th cm hd ck zz kd lo se ah ru sg no ti sp nb nt K L E A R F) {k x : Nat} (hk : k < 5) (hx : x ≤ mr k) : SP (upd s (5 + k) (nI x)) bw th cm hd ck zz kd lo se ah (upd ru k (nI x)) sg no ti sp nb nt K L E A (fup R k x) F := by
  have h9 := h.h9
  obtain ⟨hH, hB, hU, hT, hS⟩ := h
  have h10 := hH.2.1
  refine ⟨scH_cg hH (fun j hj => upd_ne (by omega)), scB_cg h9 hB (fun j h1 h2 => upd_ne (by omega)), fun c hc => ?_, scT_cg (by omega) hT (fun j h1 h2 => upd_ne (by omega)), scS_cg hS (fun j h1 h2 => upd_ne (by omega))⟩
  by_cases e : c = k
  · subst e
    rw [upd_eq, upd_eq, fup_eq]
    exact ⟨rfl, rfl, hx⟩
  · rw [upd_ne e, upd_ne (by omega), fup_ne e]
    exact hU c hc
theorem SP.setZ (h : SP s bw th cm hd ck zz kd lo se ah ru sg no ti sp nb nt K L E A R F) (v : Int32) : SP (upd s 4 v) bw th cm hd ck v kd lo se ah ru sg no ti sp nb nt K L E A R F := by
  have h9 := h.h9
  obtain ⟨⟨a1, a2, a3, a4, a5, a6, a7, a8, a9, a10⟩, hB, hU, hT, hS⟩ := h
  refine ⟨⟨a1, a2, by rw [upd_ne (by decide), a3], a4, by rw [upd_ne (by decide), a5], a6, a7, by rw [upd_ne (by decide), a8], by rw [upd_ne (by decide), a9], by rw [upd_eq]⟩, scB_cg h9 hB (fun j h1 h2 => upd_ne (by omega)), scU_cg hU (fun j h1 h2 => upd_ne (by omega)), scT_cg (by omega) hT (fun j h1 h2 => upd_ne (by omega)), scS_cg hS (fun j h1 h2 => upd_ne (by omega))⟩
theorem SP.setS (h : SP s bw th cm hd ck zz kd lo se ah ru sg no ti sp nb nt K L E A R F) {k : Nat} {v : Int32} (hk : k < 10) (hv : v = -1 ∨ ∃ b, b < nb ∧ v = nI b) : SP (upd s (73 + k) v) bw th cm hd ck zz kd lo se ah ru sg no ti (upd sp k v) nb nt K L E A R F := by
  have h9 := h.h9
  obtain ⟨hH, hB, hU, hT, hS⟩ := h
  have h10 := hH.2.1
  refine ⟨scH_cg hH (fun j hj => upd_ne (by omega)), scB_cg h9 hB (fun j h1 h2 => upd_ne (by omega)), scU_cg hU (fun j h1 h2 => upd_ne (by omega)), scT_cg (by omega) hT (fun j h1 h2 => upd_ne (by omega)), fun c hc => ?_⟩
  by_cases e : c = k
  · subst e
    rw [upd_eq, upd_eq]
    exact ⟨rfl, hv⟩
  · rw [upd_ne e, upd_ne (by omega)]
    exact hS c hc
/-- a new bow -/
theorem SP.add (h : SP s bw th cm hd ck zz kd lo se ah ru sg no ti sp nb nt K L E A R F) {x : Nat} (hn : nb < 9) (hx : x ≤ 6) : SP (upd (upd (upd (upd (upd s (10 + 4 * nb) (nI x)) (11 + 4 * nb) 10) (12 + 4 * nb) 5) (13 + 4 * nb) 0) 3 (nI nb + 1)) (nI nb + 1) th cm hd ck zz (upd kd nb (nI x)) (upd lo nb 10) (upd se nb 5) (upd ah nb 0) ru sg no ti sp (nb + 1) nt (fup K nb x) (fup L nb 10) (fup E nb 5) (fup A nb 0) R F := by
  have h9 := h.h9
  have hlow : ∀ i, i < 10 → i ≠ 3 → upd (upd (upd (upd (upd s (10 + 4 * nb) (nI x)) (11 + 4 * nb) 10) (12 + 4 * nb) 5) (13 + 4 * nb) 0) 3 (nI nb + 1) i = s i := by
    intro i h1 h2
    rw [upd_ne h2, upd_ne (by omega), upd_ne (by omega), upd_ne (by omega), upd_ne (by omega)]
  have hhigh : ∀ i, 46 ≤ i → upd (upd (upd (upd (upd s (10 + 4 * nb) (nI x)) (11 + 4 * nb) 10) (12 + 4 * nb) 5) (13 + 4 * nb) 0) 3 (nI nb + 1) i = s i := by
    intro i h1
    rw [upd_ne (by omega), upd_ne (by omega), upd_ne (by omega), upd_ne (by omega), upd_ne (by omega)]
  obtain ⟨⟨a1, a2, a3, a4, a5, a6, a7, a8, a9, a10⟩, hB, hU, hT, hS⟩ := h
  refine ⟨⟨by omega, by omega, by rw [upd_eq, nI_1], nI_1 _, by rw [hlow 2 (by omega) (by omega), a5], a6, a7, by rw [hlow 0 (by omega) (by omega), a8], by rw [hlow 1 (by omega) (by omega), a9], by rw [hlow 4 (by omega) (by omega), a10]⟩, fun b hb => ?_, scU_cg hU (fun j h1 h2 => hlow j (by omega) (by omega)), ⟨fun i hi => ?_, hT.2⟩, fun k hk => ?_⟩
  · by_cases e : b = nb
    · subst e
      have v0 : upd (upd (upd (upd (upd s (10 + 4 * b) (nI x)) (11 + 4 * b) 10) (12 + 4 * b) 5) (13 + 4 * b) 0) 3 (nI b + 1) (10 + 4 * b) = nI x := by
        rw [upd_ne (by omega), upd_ne (by omega), upd_ne (by omega), upd_ne (by omega), upd_eq]
      have v1 : upd (upd (upd (upd (upd s (10 + 4 * b) (nI x)) (11 + 4 * b) 10) (12 + 4 * b) 5) (13 + 4 * b) 0) 3 (nI b + 1) (11 + 4 * b) = 10 := by
        rw [upd_ne (by omega), upd_ne (by omega), upd_ne (by omega), upd_eq]
      have v2 : upd (upd (upd (upd (upd s (10 + 4 * b) (nI x)) (11 + 4 * b) 10) (12 + 4 * b) 5) (13 + 4 * b) 0) 3 (nI b + 1) (12 + 4 * b) = 5 := by
        rw [upd_ne (by omega), upd_ne (by omega), upd_eq]
      have v3 : upd (upd (upd (upd (upd s (10 + 4 * b) (nI x)) (11 + 4 * b) 10) (12 + 4 * b) 5) (13 + 4 * b) 0) 3 (nI b + 1) (13 + 4 * b) = 0 := by
        rw [upd_ne (by omega), upd_eq]
      rw [v0, v1, v2, v3, fup_eq, fup_eq, fup_eq, fup_eq, upd_eq, upd_eq, upd_eq, upd_eq]
      exact ⟨⟨hx, by decide, by decide, by decide, Nat.two_pow_pos _, Nat.zero_testBit _⟩, ⟨rfl, rfl, rfl, rfl⟩, rfl, rfl, rfl, rfl⟩
    · have v : ∀ k, k < 4 → upd (upd (upd (upd (upd s (10 + 4 * nb) (nI x)) (11 + 4 * nb) 10) (12 + 4 * nb) 5) (13 + 4 * nb) 0) 3 (nI nb + 1) (10 + k + 4 * b) = s (10 + k + 4 * b) := by
        intro k hk
        rw [upd_ne (by omega), upd_ne (by omega), upd_ne (by omega), upd_ne (by omega), upd_ne (by omega)]
      obtain ⟨⟨h1, h2, h3, h4, h5, h6⟩, ⟨g1, g2, g3, g4⟩, e1, e2, e3, e4⟩ := hB b (by omega)
      rw [v 0 (by omega), v 1 (by omega), v 2 (by omega), v 3 (by omega), upd_ne e, upd_ne e, upd_ne e, upd_ne e, fup_ne e, fup_ne e, fup_ne e, fup_ne e]
      exact ⟨⟨h1, h2, h3, h4, Nat.lt_of_lt_of_le h5 (Nat.pow_le_pow_right (by decide) (by omega)), h6⟩, ⟨g1, g2, g3, g4⟩, e1, e2, e3, e4⟩
  · obtain ⟨q1, q2, q3, q4, q5⟩ := hT.1 i hi
    rw [hhigh _ (by omega), hhigh _ (by omega), hhigh _ (by omega)]
    exact ⟨by omega, q2, q3, q4, q5⟩
  · rw [hhigh _ (by omega)]
    obtain ⟨q1, q2⟩ := hS k hk
    exact ⟨q1, q2.imp_right (fun ⟨b, h1, h2⟩ => ⟨b, by omega, h2⟩)⟩
end
