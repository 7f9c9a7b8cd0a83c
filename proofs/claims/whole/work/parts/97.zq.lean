/-! the best from the stage on: the class weighs, and finds the same -/
def good (A : Nat → Nat) (c t : Nat) : Prop := (∀ i, c.testBit i = true → t.testBit i = true) ∧ ∀ b, t.testBit b = true → c.testBit b = false → nd (A b) t = 0
def CK (kd lo : Nat → Int32) (nb : Nat) (K L : Nat → Nat) : Prop := ∀ b, b < nb → kd b = nI (K b) ∧ lo b = nI (L b) ∧ K b ≤ 6 ∧ L b ≤ 99
theorem and_sub {t c : Nat} : t &&& c = c ↔ ∀ i, c.testBit i = true → t.testBit i = true := by
  constructor
  · intro h i hi
    rw [← h, Nat.testBit_and, Bool.and_eq_true] at hi
    exact hi.1
  · intro h
    apply Nat.eq_of_testBit_eq
    intro i
    rw [Nat.testBit_and]
    cases e : c.testBit i with
    | false => rw [Bool.and_false]
    | true => rw [h i e]; rfl
theorem good_c (A : Nat → Nat) (c : Nat) : good A c c := ⟨fun _ h => h, fun b h1 h2 => by rw [h1] at h2; cases h2⟩
theorem good_step {A : Nat → Nat} {c t b : Nat} (h : good A c t) (hb : canF A b t = true) : good A c (t ||| 2 ^ b) := by
  refine ⟨fun i hi => by rw [Nat.testBit_or, h.1 i hi]; rfl, fun x hx hc => ?_⟩
  have sub : ∀ y, nd y t = 0 → nd y (t ||| 2 ^ b) = 0 := fun y hy => by
    rw [nd_z] at hy ⊢
    intro i hi
    rw [Nat.testBit_or, hy i hi]; rfl
  rw [Nat.testBit_or, Bool.or_eq_true] at hx
  rcases hx with hx | hx
  · exact sub _ (h.2 x hx hc)
  · rw [Nat.testBit_two_pow, decide_eq_true_iff] at hx
    subst hx
    exact sub _ (canF_iff.mp hb).2
theorem way_step {A : Nat → Nat} {nb c t : Nat} (hw : way A nb c = true) (hct : ∀ i, c.testBit i = true → t.testBit i = true) (ht : t < 2 ^ nb) (hne : ¬ t = 2 ^ nb - 1) : ∃ b, b < nb ∧ canF A b t = true := by
  by_cases e : ∃ b, b < nb ∧ canF A b t = true
  · exact e
  · exfalso
    apply hne
    have hcl := wcl_min (A := A) (n := nb) (c := c) (S := t) hct (fun j hj hnd => by
      cases e2 : t.testBit j with
      | true => rfl
      | false => exact absurd ⟨j, hj, canF_iff.mpr ⟨e2, hnd⟩⟩ e)
    rw [of_decide_eq_true hw] at hcl
    apply set_ext ht (by have := Nat.two_pow_pos nb; omega)
    intro i hi
    rw [tb_full, decide_eq_true hi]
    exact hcl i (by rw [tb_full, decide_eq_true hi])
def okv (v : Int32) (m : Nat) : Prop := v.toInt.natAbs ≤ 1000 * m
theorem not_toInt : NOTV.toInt = -99999999 := by decide
theorem ok_not {v : Int32} {m : Nat} (h : okv v m) (hm : m ≤ 600) : ¬ v = NOTV := by
  intro e
  unfold okv at h
  rw [e, not_toInt] at h
  omega
theorem ok_gt {v : Int32} {m : Nat} (h : okv v m) (hm : m ≤ 600) : NOTV < v ∧ (-1000000 : Int32) < v := by
  unfold okv at h
  constructor
  · rw [ltI, not_toInt]; omega
  · rw [ltI, show (-1000000 : Int32).toInt = -1000000 by decide]; omega
theorem ok_add {v x : Int32} {m : Nat} (h : okv v m) (hx : x.toInt.natAbs ≤ 400) (hm : m ≤ 600) : okv (v + x) (m + 1) := by
  unfold okv at *
  rw [Int32.toInt_add, Int.bmod_eq_of_le (by omega) (by omega)]
  omega
theorem ok_le {v : Int32} {m m' : Nat} (h : okv v m) (hm : m ≤ m') : okv v m' := by unfold okv at *; omega
theorem fold_P {f : Nat → Int32} {P : Int32 → Prop} : ∀ (l : List Nat) (a : Int32), P a → (∀ x, x ∈ l → P (f x)) → P (l.foldl (fun a x => xmax a (f x)) a) := by
  intro l
  induction l with
  | nil => intro a h _; exact h
  | cons x l ih =>
    intro a h hl
    rw [List.foldl_cons]
    apply ih
    · unfold xmax
      split
      · exact hl x List.mem_cons_self
      · exact h
    · exact fun y hy => hl y (List.mem_cons_of_mem _ hy)
theorem fold_start {f : Nat → Int32} {x : Nat} {l : List Nat} {a : Int32} (h : a < f x) : (x :: l).foldl (fun a x => xmax a (f x)) a = l.foldl (fun a x => xmax a (f x)) (f x) := by
  rw [List.foldl_cons]
  unfold xmax
  rw [if_pos h]
theorem fold_mem {f : Nat → Int32} : ∀ (l : List Nat) (a : Int32), (l.foldl (fun a x => xmax a (f x)) a = a) ∨ ∃ x, x ∈ l ∧ l.foldl (fun a x => xmax a (f x)) a = f x := by
  intro l
  induction l with
  | nil => intro a; exact Or.inl rfl
  | cons x l ih =>
    intro a
    rw [List.foldl_cons]
    rcases ih (xmax a (f x)) with h | ⟨y, h1, h2⟩
    · by_cases e : a < f x
      · right
        refine ⟨x, List.mem_cons_self, ?_⟩
        rw [h]
        unfold xmax
        rw [if_pos e]
      · left
        rw [h]
        unfold xmax
        rw [if_neg e]
    · exact Or.inr ⟨y, List.mem_cons_of_mem _ h1, h2⟩
/-- what one brings, and all behind it -/
def gv (B : Nat → Int32) (w : Nat) (K L : Nat → Nat) (t l b : Nat) : Int32 := B (10 * (t ||| 2 ^ b) + b + 1) + br w K L b l
theorem br_bd {w : Nat} {K L : Nat → Nat} {b l : Nat} (hL : L b ≤ 99) (hp : pl K L l ≤ 198) : (br w K L b l).toInt.natAbs ≤ 400 := by
  unfold br
  split
  · have := nz_le (k := K b) (p := pl K L l) hL (by omega)
    rw [nI_toInt (by omega)]; omega
  · split
    · decide
    · decide
/-- there is a way: the values behind all parts of one are numbers -/
theorem val_ok {B : Nat → Int32} {w nb c : Nat} {K L A : Nat → Nat} (h9 : nb ≤ 9) (hL : ∀ b, b < nb → L b ≤ 99) (hw : way A nb c = true) (hB : ∀ t, t < 2 ^ nb → t &&& c = c → blk B w K L A nb t) :
    ∀ m t, 512 - t ≤ m → t < 2 ^ nb → good A c t → ∀ l, l ≤ nb → okv (B (10 * t + l)) (512 - t) ∧ (¬ t = 2 ^ nb - 1 → (∀ x, x ∈ fll A t 0 nb → okv (gv B w K L t l x) (512 - t)) ∧ B (10 * t + l) = (fll A t 0 nb).foldl (fun a x => xmax a (gv B w K L t l x)) NOTV) := by
  have h2 := two_lt h9
  intro m
  induction m with
  | zero => intro t h1 h3; omega
  | succ m ih =>
    intro t hm ht hg l hl
    have hpl : ∀ l, l ≤ nb → pl K L l ≤ 198 := fun l hl => by
      rcases l with _ | j
      · exact Nat.zero_le _
      · exact lv_le (hL j (by omega))
    have hx : ∀ x, x ∈ fll A t 0 nb → okv (gv B w K L t l x) (512 - t) ∧ ¬ B (10 * (t ||| 2 ^ x) + x + 1) = NOTV := by
      intro x hx
      obtain ⟨-, h3, h4⟩ := (fll_mem nb 0).mp hx
      have hxn : x < nb := by omega
      have hlt := or_two_lt (canF_iff.mp h4).1
      have hb2 : t ||| 2 ^ x < 2 ^ nb := Nat.or_lt_two_pow ht (Nat.pow_lt_pow_right (by decide) hxn)
      obtain ⟨o1, -⟩ := ih (t ||| 2 ^ x) (by omega) hb2 (good_step hg h4) (x + 1) (by omega)
      rw [← Nat.add_assoc] at o1
      exact ⟨ok_le (ok_add o1 (br_bd (hL x hxn) (hpl l hl)) (by omega)) (by omega), ok_not o1 (by omega)⟩
    have hv := hB t ht (and_sub.mpr hg.1) l hl
    by_cases e : t = 2 ^ nb - 1
    · refine ⟨?_, fun hne => absurd e hne⟩
      have hnil : fll A t 0 nb = [] := by
        cases hf : fll A t 0 nb with
        | nil => rfl
        | cons x l' =>
          exfalso
          have hxm : x ∈ fll A t 0 nb := by rw [hf]; exact List.mem_cons_self
          obtain ⟨-, h3, h4⟩ := (fll_mem nb 0).mp hxm
          have := (canF_iff.mp h4).1
          rw [e, tb_full, decide_eq_true (by omega)] at this
          cases this
      rw [hv]
      unfold vl
      rw [hnil, if_pos e]
      unfold okv
      rw [List.foldl_nil, show (0 : Int32).toInt = 0 by decide]
      omega
    · have hfold : B (10 * t + l) = (fll A t 0 nb).foldl (fun a x => xmax a (gv B w K L t l x)) NOTV := by
        rw [hv]
        unfold vl
        rw [if_neg e]
        apply foldl_cg
        intro x hxm a
        unfold rs gv
        rw [if_neg (hx x hxm).2, most_eq]
      refine ⟨?_, fun _ => ⟨fun x hxm => (hx x hxm).1, hfold⟩⟩
      obtain ⟨b, hb1, hb2⟩ := way_step hw hg.1 ht e
      rw [hfold]
      cases hf : fll A t 0 nb with
      | nil =>
        exfalso
        have : b ∈ fll A t 0 nb := (fll_mem nb 0).mpr ⟨Nat.zero_le _, by omega, hb2⟩
        rw [hf] at this
        cases this
      | cons x l' =>
        have hxm : ∀ y, y ∈ x :: l' → okv (gv B w K L t l y) (512 - t) := fun y hy => (hx y (by rw [hf]; exact hy)).1
        rw [fold_start (ok_gt (hxm x List.mem_cons_self) (by omega)).1]
        exact fold_P (P := fun v => okv v (512 - t)) l' _ (hxm x List.mem_cons_self) (fun y hy => hxm y (List.mem_cons_of_mem _ hy))
/-- .. and without a way none is -/
theorem val_no {B : Nat → Int32} {w nb c : Nat} {K L A : Nat → Nat} (h9 : nb ≤ 9) (hcl : c < 2 ^ nb) (hw : way A nb c = false) (hB : ∀ t, t < 2 ^ nb → t &&& c = c → blk B w K L A nb t) :
    ∀ m t, 512 - t ≤ m → (∀ i, c.testBit i = true → t.testBit i = true) → (∀ i, t.testBit i = true → (wcl A nb c).testBit i = true) → t < 2 ^ nb → ∀ l, l ≤ nb → B (10 * t + l) = NOTV := by
  have h2 := two_lt h9
  have hwl := wcl_lt A hcl
  intro m
  induction m with
  | zero => intro t h1 _ _ h3; omega
  | succ m ih =>
    intro t hm hct htc ht l hl
    have hne : ¬ t = 2 ^ nb - 1 := by
      intro e
      apply of_decide_eq_false hw
      apply set_ext hwl (by have := Nat.two_pow_pos nb; omega)
      intro i hi
      rw [tb_full, decide_eq_true hi]
      exact htc i (by rw [e, tb_full, decide_eq_true hi])
    rw [hB t ht (and_sub.mpr hct) l hl]
    unfold vl
    rw [if_neg hne]
    have hx : ∀ x, x ∈ fll A t 0 nb → B (10 * (t ||| 2 ^ x) + x + 1) = NOTV := by
      intro x hx
      obtain ⟨-, h3, h4⟩ := (fll_mem nb 0).mp hx
      have hxn : x < nb := by omega
      have hlt := or_two_lt (canF_iff.mp h4).1
      have hxc : (wcl A nb c).testBit x = true := by
        apply wcl_closed hcl hxn
        have := (canF_iff.mp h4).2
        rw [nd_z] at this ⊢
        intro i hi
        exact htc i (this i hi)
      refine ih (t ||| 2 ^ x) (by omega) (fun i hi => by rw [Nat.testBit_or, hct i hi]; rfl) (fun i hi => ?_) (Nat.or_lt_two_pow ht (Nat.pow_lt_pow_right (by decide) hxn)) (x + 1) (by omega)
      rw [Nat.testBit_or, Bool.or_eq_true] at hi
      rcases hi with hi | hi
      · exact htc i hi
      · rw [Nat.testBit_two_pow, decide_eq_true_iff] at hi
        rw [← hi]; exact hxc
    have : ∀ (l' : List Nat), (∀ x, x ∈ l' → B (10 * (t ||| 2 ^ x) + x + 1) = NOTV) → l'.foldl (rs B w K L t l) NOTV = NOTV := by
      intro l'
      induction l' with
      | nil => intro _; rfl
      | cons x l' ih =>
        intro hl'
        rw [List.foldl_cons]
        have : rs B w K L t l NOTV x = NOTV := by
          unfold rs
          rw [if_pos (hl' x List.mem_cons_self)]
          exact most_l (Int32.le_refl _)
        rw [this]
        exact ih (fun y hy => hl' y (List.mem_cons_of_mem _ hy))
    exact this _ hx
section
variable {kd lo ah : Nat → Int32} {nb : Nat} {K L A : Nat → Nat}
theorem at9 (a b : Nat) : nI a * 9 + nI b = nI (9 * a + b) := by
  rw [show nI a * (9 : Int32) = nI (a * 9) from nI_mul a 9, nI_add, Nat.mul_comm]
def al (nb a : Nat) : Nat := if a < nb then a + 1 else 0
theorem score_in (h9 : nb ≤ 9) (hk : CK kd lo nb K L) (k2 : Int32 → Int32 → (Nat → Int32) → Option (Nat → Int32)) {w a : Nat} (hw : w ≤ 1) (ha : a ≤ 9) (hp : pl K L (al nb a) ≤ 198) :
    ∀ d k n sco, k + d = nb → d < n → ∃ sco', X1_score_L39 k2 (nI nb) kd lo n (nI w) (nI a) (nI (pl K L (al nb a))) (nI k) sco = k2 (nI w) (nI (a + 1)) sco' ∧ (∀ b, k ≤ b → b < nb → sco' (9 * a + b) = br w K L b (al nb a)) ∧ ∀ i, i < 9 * a + k → sco' i = sco i := by
  intro d
  induction d with
  | zero =>
    intro k n sco hkd hn
    obtain ⟨n, rfl⟩ : ∃ m, n = m + 1 := ⟨n - 1, by omega⟩
    refine ⟨sco, ?_, fun b h1 h2 => by omega, fun i _ => rfl⟩
    rw [X1_score_L39, if_pos (nI_le (by omega) (by omega)), nI_1]
  | succ d ih =>
    intro k n sco hkd hn
    obtain ⟨n, rfl⟩ : ∃ m, n = m + 1 := ⟨n - 1, by omega⟩
    obtain ⟨e1, e2, e3, e4⟩ := hk k (by omega)
    have key : X1_score_L39 k2 (nI nb) kd lo (n + 1) (nI w) (nI a) (nI (pl K L (al nb a))) (nI k) sco = X1_score_L39 k2 (nI nb) kd lo n (nI w) (nI a) (nI (pl K L (al nb a))) (nI (k + 1)) (upd sco (9 * a + k) (br w K L k (al nb a))) := by
      rw [X1_score_L39, if_neg (nI_ge (by omega) (by omega))]
      unfold X1_score_L64
      simp only [at9, if_pos (inr_lt (show k < 9 by omega) (show 9 ≤ 2 ^ 31 by decide)), nI_clamp (show k < 2 ^ 31 by omega), if_pos (inr_lt (show 9 * a + k < 90 by omega) (show 90 ≤ 2 ^ 31 by decide)), nI_clamp (show 9 * a + k < 2 ^ 31 by omega), e1, e2, nI_1, nz_eq e3 (show L k < 2 ^ 20 by omega) (show pl K L (al nb a) < 2 ^ 20 by omega)]
      unfold br
      rcases Nat.eq_zero_or_pos w with e | e
      · subst e
        simp only [if_neg (show ¬ nI 0 = (1 : Int32) by decide), if_true, ite_self]
      · have ew : w = 1 := by omega
        subst ew
        simp only [if_pos (show nI 1 = (1 : Int32) from rfl), if_neg (show ¬ (1 : Nat) = 0 by decide)]
        by_cases h2 : pl K L (al nb a) ≤ L k
        · rw [if_pos (nI_le h2 (by omega)), if_pos h2]; rfl
        · rw [if_neg (nI_ge (by omega) (by omega)), if_neg h2]
    obtain ⟨sco', g1, g2, g3⟩ := ih (k + 1) n (upd sco (9 * a + k) (br w K L k (al nb a))) (by omega) (by omega)
    refine ⟨sco', by rw [key, g1], fun b h1 h2 => ?_, fun i hi => ?_⟩
    · by_cases e : b = k
      · rw [e, g3 _ (by omega), upd_eq]
      · exact g2 b (by omega) h2
    · rw [g3 i (by omega), upd_ne (by omega)]
theorem CK.pl (hk : CK kd lo nb K L) {l : Nat} (hl : l ≤ nb) : pl K L l ≤ 198 := by
  rcases l with _ | j
  · exact Nat.zero_le _
  · exact lv_le (hk j (by omega)).2.2.2
theorem al_le (nb a : Nat) : al nb a ≤ nb := by unfold al; split <;> omega
theorem score_eq (h9 : nb ≤ 9) (hk : CK kd lo nb K L) {w : Nat} (hw : w ≤ 1) (sco : Nat → Int32) : ∃ sco', X1_score (nI nb) kd lo sco (nI w) = some sco' ∧ ∀ a b, a ≤ 9 → b < nb → sco' (9 * a + b) = br w K L b (al nb a) := by
  have loop : ∀ e a n sco, a + e = 10 → e < n → ∃ sco', X1_score_L2 (nI nb) kd lo n (nI w) (nI a) sco = some sco' ∧ (∀ a' b, a ≤ a' → a' ≤ 9 → b < nb → sco' (9 * a' + b) = br w K L b (al nb a')) ∧ ∀ i, i < 9 * a → sco' i = sco i := by
    intro e
    induction e with
    | zero =>
      intro a n sco ha hn
      obtain ⟨n, rfl⟩ : ∃ m, n = m + 1 := ⟨n - 1, by omega⟩
      refine ⟨sco, ?_, fun a' b h1 h2 => by omega, fun i _ => rfl⟩
      rw [X1_score_L2, if_pos (show (9 : Int32) < nI a from nI_lt (a := 9) (by omega) (by omega))]
    | succ e ih =>
      intro a n sco ha hn
      obtain ⟨n, rfl⟩ : ∃ m, n = m + 1 := ⟨n - 1, by omega⟩
      obtain ⟨s1, g1, g2, g3⟩ := score_in h9 hk (fun v10 v20 od_scores_0 => X1_score_L2 (nI nb) kd lo n v10 v20 od_scores_0) hw (show a ≤ 9 by omega) (hk.pl (al_le nb a)) nb 0 FU sco (by omega) (by unfold FU; omega)
      obtain ⟨s2, q1, q2, q3⟩ := ih (a + 1) n s1 (by omega) (by omega)
      have key : X1_score_L2 (nI nb) kd lo (n + 1) (nI w) (nI a) sco = X1_score_L39 (fun v10 v20 od_scores_0 => X1_score_L2 (nI nb) kd lo n v10 v20 od_scores_0) (nI nb) kd lo FU (nI w) (nI a) (nI (pl K L (al nb a))) (nI 0) sco := by
        rw [X1_score_L2, if_neg (show ¬ (9 : Int32) < nI a from nI_nlt (a := 9) (by omega) (by omega))]
        unfold al
        by_cases e2 : a < nb
        · obtain ⟨e3, e4, e5, -⟩ := hk a e2
          rw [if_neg (nI_ge e2 (by omega)), if_pos e2, if_pos (inr_lt (by omega) (by decide)), if_pos (inr_lt (by omega) (by decide)), nI_clamp (by omega), e3, e4, lv_eq e5]
          rfl
        · rw [if_pos (nI_le (by omega) (by omega)), if_neg e2]
          rfl
      refine ⟨s2, by rw [key, g1, q1], fun a' b h1 h2 h3 => ?_, fun i hi => ?_⟩
      · by_cases e3 : a' = a
        · subst e3
          rw [q3 _ (by omega), g2 b (Nat.zero_le _) h3]
        · exact q2 a' b (by omega) h2 h3
      · rw [q3 i (by omega), g3 i (by omega)]
  obtain ⟨s', g1, g2, -⟩ := loop 10 0 FU sco (by omega) (by unfold FU; omega)
  exact ⟨s', g1, fun a b h1 h2 => g2 a b (Nat.zero_le _) h1 h2⟩
theorem stand_eq (h9 : nb ≤ 9) (hco : CO ah nb A) {c t : Nat} (hc : c < 2 ^ nb) (ht : t < 2 ^ nb) : ∃ r, X1_canStand (nI nb) (nI c) ah (nI t) = some r ∧ (r = true ↔ good A c t) := by
  have h2 := two_lt h9
  have loop : ∀ d k n, k + d = nb → d < n → ∃ r, X1_canStand_L17 (nI nb) (nI c) ah n (nI t) (nI k) = some r ∧ (r = true ↔ ∀ b, k ≤ b → b < nb → t.testBit b = true → c.testBit b = false → nd (A b) t = 0) := by
    intro d
    induction d with
    | zero =>
      intro k n hk hn
      obtain ⟨n, rfl⟩ : ∃ m, n = m + 1 := ⟨n - 1, by omega⟩
      refine ⟨true, ?_, ⟨fun _ b h1 h2 => by omega, fun _ => rfl⟩⟩
      rw [X1_canStand_L17, if_pos (nI_le (by omega) (by omega))]
    | succ d ih =>
      intro k n hk hn
      obtain ⟨n, rfl⟩ : ∃ m, n = m + 1 := ⟨n - 1, by omega⟩
      obtain ⟨e1, e2⟩ := hco k (by omega)
      obtain ⟨r, g1, g2⟩ := ih (k + 1) n (by omega) (by omega)
      have hnd : nd t c < 512 := Nat.lt_of_lt_of_le (nd_lt (y := c) ht) h2
      have hnA : nd (A k) t < 512 := Nat.lt_of_lt_of_le (nd_lt (y := t) e2) h2
      rw [X1_canStand_L17, if_neg (nI_ge (by omega) (by omega)), ny_nd]
      unfold X1_canStand_L45
      simp only [nI_1, g1, if_pos (inr_lt (show k < 9 by omega) (show 9 ≤ 2 ^ 31 by decide)), nI_clamp (show k < 2 ^ 31 by omega), e1, ny_nd, if_true, if_neg (show ¬ (1 : Int32) = 0 by decide)]
      cases eb : (nd t c).testBit k with
      | false =>
        rw [if_pos ((bit_eq (by omega) (by omega)).mpr eb)]
        refine ⟨r, rfl, g2.trans ⟨fun hh b h1 h3 h4 h5 => ?_, fun hh b h1 h3 => hh b (by omega) h3⟩⟩
        by_cases e3 : b = k
        · subst e3
          rw [nd_tb, h4, h5] at eb
          cases eb
        · exact hh b (by omega) h3 h4 h5
      | true =>
        rw [nd_tb, Bool.and_eq_true, Bool.not_eq_true'] at eb
        rw [if_neg (fun z => by rw [bit_eq (by omega) (by omega), nd_tb, eb.1, eb.2] at z; cases z)]
        by_cases e4 : nd (A k) t = 0
        · rw [if_pos (by rw [e4]; rfl)]
          refine ⟨r, rfl, g2.trans ⟨fun hh b h1 h3 h4 h5 => ?_, fun hh b h1 h3 => hh b (by omega) h3⟩⟩
          by_cases e3 : b = k
          · rw [e3]; exact e4
          · exact hh b (by omega) h3 h4 h5
        · rw [if_neg (fun z => e4 ((nI_z (by omega)).mp z))]
          exact ⟨false, rfl, ⟨fun hh => (by cases hh), fun hh => absurd (hh k (Nat.le_refl _) (by omega) eb.1 eb.2) e4⟩⟩
  unfold X1_canStand
  rw [ny_and]
  have hle : t &&& c ≤ t := Nat.and_le_left
  by_cases e : t &&& c = c
  · rw [if_pos (by rw [e])]
    obtain ⟨r, g1, g2⟩ := loop nb 0 FU (by omega) (by unfold FU; omega)
    refine ⟨r, g1, g2.trans ⟨fun hh => ⟨and_sub.mp e, fun b h1 h3 => hh b (Nat.zero_le _) (bit_lt ht h1) h1 h3⟩, fun hh b _ _ h1 h3 => hh.2 b h1 h3⟩⟩
  · rw [if_neg (fun z => e ((nI_eq (by omega) (by omega)).mp z))]
    exact ⟨false, rfl, ⟨fun hh => (by cases hh), fun hh => absurd (and_sub.mpr hh.1) e⟩⟩
theorem foll_loop (h9 : nb ≤ 9) (hco : CO ah nb A) (M : Nat → Int32) {t : Nat} (ht : t < 2 ^ nb) :
    ∀ d k n m fo mt, k + d = nb → d < n → m ≤ k → ∃ fo' mt', X1_findFollowers_L7 (nI nb) ah M n (nI t) (nI k) (nI m) fo mt = some (nI (m + (fll A t k d).length), fo', mt') ∧ (∀ i, i < m → fo' i = fo i ∧ mt' i = mt i) ∧ ∀ i, i < (fll A t k d).length → fo' (m + i) = nI ((fll A t k d).getD i 0) ∧ mt' (m + i) = M (9 * (t ||| 2 ^ ((fll A t k d).getD i 0)) + (fll A t k d).getD i 0) := by
  have h2 := two_lt h9
  intro d
  induction d with
  | zero =>
    intro k n m fo mt hk hn hm
    obtain ⟨n, rfl⟩ : ∃ m, n = m + 1 := ⟨n - 1, by omega⟩
    refine ⟨fo, mt, ?_, fun i _ => ⟨rfl, rfl⟩, fun i hi => by rw [fll, List.length_nil] at hi; omega⟩
    rw [X1_findFollowers_L7, if_pos (nI_le (by omega) (by omega)), fll, List.length_nil, Nat.add_zero]
  | succ d ih =>
    intro k n m fo mt hk hn hm
    obtain ⟨n, rfl⟩ : ∃ m, n = m + 1 := ⟨n - 1, by omega⟩
    obtain ⟨e1, e2⟩ := hco k (by omega)
    rw [X1_findFollowers_L7, if_neg (nI_ge (by omega) (by omega)), follow_eq (by omega) e1 (by omega) (by omega), Option.bind_some, nI_1, fll]
    cases e : canF A k t with
    | false =>
      rw [if_pos xbf, if_neg (by decide)]
      exact ih (k + 1) n m fo mt (by omega) (by omega) (by omega)
    | true =>
      have hlt : t ||| 2 ^ k < 2 ^ nb := Nat.or_lt_two_pow ht (Nat.pow_lt_pow_right (by decide) (by omega))
      rw [if_neg xbt, if_pos rfl, shl_eq (by omega), ny_or, at9, if_pos (inr_lt (by omega) (by decide)), if_pos (inr_lt (by omega) (by decide)), if_pos (inr_lt (by omega) (by decide)), nI_clamp (by omega), nI_clamp (by omega), nI_1]
      obtain ⟨fo', mt', g1, g2, g3⟩ := ih (k + 1) n (m + 1) (upd fo m (nI k)) (upd mt m (M (9 * (t ||| 2 ^ k) + k))) (by omega) (by omega) (by omega)
      refine ⟨fo', mt', ?_, fun i hi => ?_, fun i hi => ?_⟩
      · rw [g1, List.length_cons, show m + 1 + (fll A t (k + 1) d).length = m + ((fll A t (k + 1) d).length + 1) by omega]
      · obtain ⟨q1, q2⟩ := g2 i (by omega)
        rw [q1, q2, upd_ne (by omega), upd_ne (by omega)]
        exact ⟨rfl, rfl⟩
      · rw [List.length_cons] at hi
        rcases i with _ | i
        · obtain ⟨q1, q2⟩ := g2 m (by omega)
          rw [Nat.add_zero, q1, q2, upd_eq, upd_eq]
          exact ⟨rfl, rfl⟩
        · obtain ⟨q1, q2⟩ := g3 i (by omega)
          rw [show m + (i + 1) = m + 1 + i by omega, q1, q2]
          exact ⟨rfl, rfl⟩
/-- arrays that hold the followers of a set -/
def FO (fo mt M : Nat → Int32) (A : Nat → Nat) (nb t : Nat) : Prop := ∀ i, i < (fll A t 0 nb).length → fo i = nI ((fll A t 0 nb).getD i 0) ∧ mt i = M (9 * (t ||| 2 ^ ((fll A t 0 nb).getD i 0)) + (fll A t 0 nb).getD i 0)
theorem foll_eq (h9 : nb ≤ 9) (hco : CO ah nb A) (M fo mt : Nat → Int32) {t : Nat} (ht : t < 2 ^ nb) : ∃ fo' mt', X1_findFollowers (nI nb) ah M fo mt (nI t) = some (nI (fll A t 0 nb).length, fo', mt') ∧ FO fo' mt' M A nb t := by
  obtain ⟨fo', mt', g1, -, g3⟩ := foll_loop h9 hco M ht nb 0 FU 0 fo mt (by omega) (by unfold FU; omega) (Nat.le_refl _)
  rw [Nat.zero_add] at g1
  refine ⟨fo', mt', g1, fun i hi => ?_⟩
  have := g3 i hi
  rw [Nat.zero_add] at this
  exact this
theorem mb_loop {sco fo mt : Nat → Int32} {f : Nat → Int32} {a : Nat} (ha : a ≤ 9) (mv : Nat → Int32) (hf : ∀ x, x < 9 → f x = sco (9 * a + x) + mv x) :
    ∀ (l : List Nat) i n acc, (∀ x, x ∈ l → x < 9) → (∀ j, j < l.length → fo (i + j) = nI (l.getD j 0) ∧ mt (i + j) = mv (l.getD j 0)) → i + l.length ≤ 9 → l.length < n → X1_mostBehind_L5 (nI (i + l.length)) sco fo mt n (nI a) acc (nI i) = some (if i + l.length = 0 then 0 else l.foldl (fun a x => xmax a (f x)) acc) := by
  intro l
  induction l with
  | nil =>
    intro i n acc _ _ h9 hn
    rw [List.length_nil] at h9 hn
    obtain ⟨n, rfl⟩ : ∃ m, n = m + 1 := ⟨n - 1, by omega⟩
    rw [X1_mostBehind_L5, List.length_nil, Nat.add_zero, if_pos (Int32.le_refl _)]
    by_cases e : i = 0
    · rw [if_pos e, if_pos (by rw [e]; rfl)]
    · rw [if_neg e, if_neg (nI_ne0 (by omega) (by omega))]; rfl
  | cons x l ih =>
    intro i n acc hx hj h9 hn
    rw [List.length_cons] at h9 hn
    obtain ⟨n, rfl⟩ : ∃ m, n = m + 1 := ⟨n - 1, by omega⟩
    obtain ⟨q1, q2⟩ := hj 0 (by rw [List.length_cons]; omega)
    rw [Nat.add_zero] at q1 q2
    have q1 : fo i = nI x := q1
    have q2 : mt i = mv x := q2
    have hx9 := hx x List.mem_cons_self
    have h1 := ih (i + 1) n (xmax acc (f x)) (fun y hy => hx y (List.mem_cons_of_mem _ hy)) (fun j hjl => by
      obtain ⟨p1, p2⟩ := hj (j + 1) (by rw [List.length_cons]; omega)
      rw [show i + (j + 1) = i + 1 + j by omega] at p1 p2
      exact ⟨p1, p2⟩) (by omega) (by omega)
    rw [X1_mostBehind_L5, List.length_cons, if_neg (nI_ge (by omega) (by omega)), if_pos (inr_lt (by omega) (by decide)), nI_clamp (by omega), q1, at9, if_pos (inr_lt (by omega) (by decide)), nI_clamp (by omega), q2, ← hf x hx9, if_pos (inr_lt (by omega) (by decide)), nI_1, List.foldl_cons, show i + (l.length + 1) = i + 1 + l.length by omega, h1, if_neg (by omega)]
theorem fb_loop {sco fo mt : Nat → Int32} {f : Nat → Int32} {a : Nat} (ha : a ≤ 9) (mv : Nat → Int32) (hf : ∀ x, x < 9 → f x = sco (9 * a + x) + mv x) (g : Int32) :
    ∀ (l : List Nat) i n, (∀ x, x ∈ l → x < 9) → (∀ j, j < l.length → fo (i + j) = nI (l.getD j 0) ∧ mt (i + j) = mv (l.getD j 0)) → i + l.length ≤ 9 → l.length < n → X1_firstBehind_L8 (nI (i + l.length)) sco fo mt n (nI a) g (nI i) = some (nI ((l.find? (fun x => decide (f x = g))).getD 0)) := by
  intro l
  induction l with
  | nil =>
    intro i n _ _ h9 hn
    rw [List.length_nil] at h9 hn
    obtain ⟨n, rfl⟩ : ∃ m, n = m + 1 := ⟨n - 1, by omega⟩
    rw [X1_firstBehind_L8, List.length_nil, Nat.add_zero, if_pos (Int32.le_refl _)]
    rfl
  | cons x l ih =>
    intro i n hx hj h9 hn
    rw [List.length_cons] at h9 hn
    obtain ⟨n, rfl⟩ : ∃ m, n = m + 1 := ⟨n - 1, by omega⟩
    obtain ⟨q1, q2⟩ := hj 0 (by rw [List.length_cons]; omega)
    rw [Nat.add_zero] at q1 q2
    have q1 : fo i = nI x := q1
    have q2 : mt i = mv x := q2
    have hx9 := hx x List.mem_cons_self
    have h1 := ih (i + 1) n (fun y hy => hx y (List.mem_cons_of_mem _ hy)) (fun j hjl => by
      obtain ⟨p1, p2⟩ := hj (j + 1) (by rw [List.length_cons]; omega)
      rw [show i + (j + 1) = i + 1 + j by omega] at p1 p2
      exact ⟨p1, p2⟩) (by omega) (by omega)
    rw [X1_firstBehind_L8, List.length_cons, if_neg (nI_ge (by omega) (by omega))]
    simp only [if_pos (inr_lt (show i < 9 by omega) (show 9 ≤ 2 ^ 31 by decide)), nI_clamp (show i < 2 ^ 31 by omega), q1, at9, if_pos (inr_lt (show 9 * a + x < 90 by omega) (show 90 ≤ 2 ^ 31 by decide)), nI_clamp (show 9 * a + x < 2 ^ 31 by omega), q2, ← hf x hx9, nI_1]
    by_cases e : f x = g
    · rw [if_pos e, List.find?_cons_of_pos (by rw [decide_eq_true e])]
      rfl
    · rw [if_neg e, List.find?_cons_of_neg (by rw [decide_eq_false e]; decide), show i + (l.length + 1) = i + 1 + l.length by omega, h1]
end
