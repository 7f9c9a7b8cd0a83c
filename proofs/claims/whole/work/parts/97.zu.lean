/-! how many ways, who may be last, at which place -/
def sm (f : Nat → Nat) : Nat → Nat
  | 0 => 0
  | n + 1 => sm f n + f n
theorem sm_cg {f g : Nat → Nat} : ∀ n, (∀ i, i < n → f i = g i) → sm f n = sm g n := by
  intro n
  induction n with
  | zero => intro _; rfl
  | succ n ih => intro h; rw [sm, sm, ih (fun i hi => h i (by omega)), h n (by omega)]
theorem sm_z {f : Nat → Nat} : ∀ n, (∀ i, i < n → f i = 0) → sm f n = 0 := by
  intro n
  induction n with
  | zero => intro _; rfl
  | succ n ih => intro h; rw [sm, ih (fun i hi => h i (by omega)), h n (by omega)]
theorem sm_le {f : Nat → Nat} {M : Nat} : ∀ n, (∀ i, i < n → f i ≤ M) → sm f n ≤ n * M := by
  intro n
  induction n with
  | zero => intro _; exact Nat.zero_le _
  | succ n ih =>
    intro h
    have h1 := ih (fun i hi => h i (by omega))
    have h2 := h n (by omega)
    rw [sm, Nat.succ_mul]
    omega
theorem sm_pos {f : Nat → Nat} : ∀ n, 0 < sm f n → ∃ i, i < n ∧ 0 < f i := by
  intro n
  induction n with
  | zero => intro h; rw [sm] at h; omega
  | succ n ih =>
    intro h
    rw [sm] at h
    by_cases e : 0 < f n
    · exact ⟨n, by omega, e⟩
    · obtain ⟨i, h1, h2⟩ := ih (by omega)
      exact ⟨i, by omega, h2⟩
theorem sm_ge {f : Nat → Nat} : ∀ n i, i < n → f i ≤ sm f n := by
  intro n
  induction n with
  | zero => intro i h; omega
  | succ n ih =>
    intro i h
    rw [sm]
    by_cases e : i = n
    · subst e; omega
    · have := ih i (by omega); omega
theorem sm_one {f g : Nat → Nat} {b x : Nat} : ∀ n, b < n → (∀ i, i < n → i ≠ b → f i = g i) → g b = f b + x → sm g n = sm f n + x := by
  intro n
  induction n with
  | zero => intro h; omega
  | succ n ih =>
    intro hb h1 h2
    rw [sm, sm]
    by_cases e : b = n
    · subst e
      rw [sm_cg (f := g) (g := f) b (fun i hi => (h1 i (by omega) (by omega)).symm), h2]
      omega
    · rw [ih (by omega) (fun i hi hne => h1 i (by omega) hne) h2, h1 n (by omega) (by omega)]
      omega
/-- how many ways go on from a set -/
def Gf (A : Nat → Nat) (nb : Nat) : Nat → Nat → Nat
  | 0, t => if t = 2 ^ nb - 1 then 1 else 0
  | r + 1, t => (if t = 2 ^ nb - 1 then 1 else 0) + sm (fun b => if canF A b t = true then Gf A nb r (t ||| 2 ^ b) else 0) nb
/-- how many come to a set -/
def Cf (A : Nat → Nat) (nb c : Nat) : Nat → Nat → Nat
  | 0, t => if t = c then 1 else 0
  | r + 1, t => (if t = c then 1 else 0) + sm (fun b => if t.testBit b = true ∧ canF A b (nd t (2 ^ b)) = true then Cf A nb c r (nd t (2 ^ b)) else 0) nb
theorem nd_or {t b : Nat} (h : t.testBit b = false) : nd (t ||| 2 ^ b) (2 ^ b) = t := by
  apply Nat.eq_of_testBit_eq
  intro i
  rw [nd_tb, Nat.testBit_or, Nat.testBit_two_pow]
  by_cases e : b = i
  · subst e; rw [h]; simp
  · rw [decide_eq_false e, Bool.or_false, Bool.not_false, Bool.and_true]
theorem or_nd {t b : Nat} (h : t.testBit b = true) : nd t (2 ^ b) ||| 2 ^ b = t := by
  apply Nat.eq_of_testBit_eq
  intro i
  rw [Nat.testBit_or, nd_tb, Nat.testBit_two_pow]
  by_cases e : b = i
  · subst e; rw [h]; simp
  · rw [decide_eq_false e, Bool.or_false, Bool.not_false, Bool.and_true]
theorem nd_bit (t b : Nat) : (nd t (2 ^ b)).testBit b = false := by
  rw [nd_tb, Nat.testBit_two_pow_self, Bool.not_true, Bool.and_false]
theorem Gf_st {A : Nat → Nat} {nb : Nat} : ∀ r t, t < 2 ^ nb → nb - pcn nb t ≤ r → Gf A nb (r + 1) t = Gf A nb r t := by
  intro r
  induction r with
  | zero =>
    intro t ht h
    have hz : ∀ b, b < nb → (if canF A b t = true then Gf A nb 0 (t ||| 2 ^ b) else 0) = 0 := by
      intro b hb
      rw [if_neg]
      intro hc
      have h1 := pcn_full (n := nb) (x := t) (by omega) b hb
      rw [(canF_iff.mp hc).1] at h1
      cases h1
    rw [Gf, Gf, sm_z nb hz, Nat.add_zero]
  | succ r ih =>
    intro t ht h
    rw [Gf, Gf]
    congr 1
    apply sm_cg
    intro b hb
    by_cases e : canF A b t = true
    · rw [if_pos e, if_pos e]
      apply ih _ (Nat.or_lt_two_pow ht (Nat.pow_lt_pow_right (by decide) hb))
      rw [pcn_set hb (canF_iff.mp e).1]
      omega
    · rw [if_neg e, if_neg e]
theorem Cf_st {A : Nat → Nat} {nb c : Nat} : ∀ r t, t < 2 ^ nb → pcn nb t ≤ r → Cf A nb c (r + 1) t = Cf A nb c r t := by
  intro r
  induction r with
  | zero =>
    intro t ht h
    have hz : ∀ b, b < nb → (if t.testBit b = true ∧ canF A b (nd t (2 ^ b)) = true then Cf A nb c 0 (nd t (2 ^ b)) else 0) = 0 := by
      intro b hb
      rw [if_neg]
      rintro ⟨hb2, -⟩
      have h1 := pcn_up (c := t) (show b + 1 ≤ nb by omega)
      rw [pcn_t hb2] at h1
      omega
    rw [Cf, Cf, sm_z nb hz, Nat.add_zero]
  | succ r ih =>
    intro t ht h
    rw [Cf, Cf]
    congr 1
    apply sm_cg
    intro b hb
    by_cases e : t.testBit b = true ∧ canF A b (nd t (2 ^ b)) = true
    · rw [if_pos e, if_pos e]
      apply ih _ (nd_lt ht)
      have h1 := pcn_set (x := nd t (2 ^ b)) hb (nd_bit t b)
      rw [or_nd e.1] at h1
      omega
    · rw [if_neg e, if_neg e]
theorem Gf_bd {A : Nat → Nat} {nb : Nat} (h9 : nb ≤ 9) : ∀ r t, Gf A nb r t ≤ 10 ^ r := by
  intro r
  induction r with
  | zero => intro t; rw [Gf]; split <;> omega
  | succ r ih =>
    intro t
    rw [Gf, Nat.pow_succ]
    have h1 := sm_le (f := fun b => if canF A b t = true then Gf A nb r (t ||| 2 ^ b) else 0) (M := 10 ^ r) nb (fun b hb => by
      by_cases e : canF A b t = true
      · rw [if_pos e]; exact ih _
      · rw [if_neg e]; exact Nat.zero_le _)
    have h2 : nb * 10 ^ r ≤ 9 * 10 ^ r := Nat.mul_le_mul_right _ h9
    have h3 : 0 < 10 ^ r := Nat.pow_pos (by decide)
    split <;> omega
theorem Cf_bd {A : Nat → Nat} {nb c : Nat} (h9 : nb ≤ 9) : ∀ r t, Cf A nb c r t ≤ 10 ^ r := by
  intro r
  induction r with
  | zero => intro t; rw [Cf]; split <;> omega
  | succ r ih =>
    intro t
    rw [Cf, Nat.pow_succ]
    have h1 := sm_le (f := fun b => if t.testBit b = true ∧ canF A b (nd t (2 ^ b)) = true then Cf A nb c r (nd t (2 ^ b)) else 0) (M := 10 ^ r) nb (fun b hb => by
      by_cases e : t.testBit b = true ∧ canF A b (nd t (2 ^ b)) = true
      · rw [if_pos e]; exact ih _
      · rw [if_neg e]; exact Nat.zero_le _)
    have h2 : nb * 10 ^ r ≤ 9 * 10 ^ r := Nat.mul_le_mul_right _ h9
    have h3 : 0 < 10 ^ r := Nat.pow_pos (by decide)
    split <;> omega
def Gn (A : Nat → Nat) (nb t : Nat) : Nat := Gf A nb 9 t
def Cn (A : Nat → Nat) (nb c t : Nat) : Nat := Cf A nb c 9 t
theorem Gn_eq {A : Nat → Nat} {nb t : Nat} (h9 : nb ≤ 9) (ht : t < 2 ^ nb) : Gn A nb t = (if t = 2 ^ nb - 1 then 1 else 0) + sm (fun b => if canF A b t = true then Gn A nb (t ||| 2 ^ b) else 0) nb := by
  unfold Gn
  rw [← Gf_st 9 t ht (by omega), Gf]
theorem Cn_eq {A : Nat → Nat} {nb c t : Nat} (h9 : nb ≤ 9) (ht : t < 2 ^ nb) : Cn A nb c t = (if t = c then 1 else 0) + sm (fun b => if t.testBit b = true ∧ canF A b (nd t (2 ^ b)) = true then Cn A nb c (nd t (2 ^ b)) else 0) nb := by
  unfold Cn
  have := pcn_le nb t
  rw [← Cf_st 9 t ht (by omega), Cf]
theorem Gn_lt {A : Nat → Nat} {nb : Nat} (h9 : nb ≤ 9) (t : Nat) : Gn A nb t < 2 ^ 31 := by
  have := Gf_bd (A := A) h9 9 t
  unfold Gn
  omega
theorem Cn_lt {A : Nat → Nat} {nb c : Nat} (h9 : nb ≤ 9) (t : Nat) : Cn A nb c t < 2 ^ 31 := by
  have := Cf_bd (A := A) (c := c) h9 9 t
  unfold Cn
  omega
theorem Cf_good {A : Nat → Nat} {nb c : Nat} : ∀ r t, 0 < Cf A nb c r t → good A c t := by
  intro r
  induction r with
  | zero =>
    intro t h
    rw [Cf] at h
    by_cases e : t = c
    · rw [e]; exact good_c A c
    · rw [if_neg e] at h; omega
  | succ r ih =>
    intro t h
    rw [Cf] at h
    by_cases e : t = c
    · rw [e]; exact good_c A c
    · rw [if_neg e, Nat.zero_add] at h
      obtain ⟨b, hb, h2⟩ := sm_pos nb h
      by_cases e2 : t.testBit b = true ∧ canF A b (nd t (2 ^ b)) = true
      · rw [if_pos e2] at h2
        have := good_step (ih _ h2) e2.2
        rw [or_nd e2.1] at this
        exact this
      · rw [if_neg e2] at h2; omega
theorem Cn_good {A : Nat → Nat} {nb c t : Nat} (h : 0 < Cn A nb c t) : good A c t := Cf_good 9 t h
theorem Cn_step {A : Nat → Nat} {nb c t b : Nat} (h9 : nb ≤ 9) (ht : t < 2 ^ nb) (hb : b < nb) (hc : canF A b t = true) (h : 0 < Cn A nb c t) : 0 < Cn A nb c (t ||| 2 ^ b) := by
  rw [Cn_eq h9 (Nat.or_lt_two_pow ht (Nat.pow_lt_pow_right (by decide) hb))]
  have h1 := sm_ge (f := fun b' => if (t ||| 2 ^ b).testBit b' = true ∧ canF A b' (nd (t ||| 2 ^ b) (2 ^ b')) = true then Cn A nb c (nd (t ||| 2 ^ b) (2 ^ b')) else 0) nb b hb
  have hn := nd_or (canF_iff.mp hc).1
  have h2 : (if (t ||| 2 ^ b).testBit b = true ∧ canF A b (nd (t ||| 2 ^ b) (2 ^ b)) = true then Cn A nb c (nd (t ||| 2 ^ b) (2 ^ b)) else 0) = Cn A nb c t := by
    rw [hn, if_pos ⟨by rw [Nat.testBit_or, Nat.testBit_two_pow_self, Bool.or_true], hc⟩]
  have h1 : (if (t ||| 2 ^ b).testBit b = true ∧ canF A b (nd (t ||| 2 ^ b) (2 ^ b)) = true then Cn A nb c (nd (t ||| 2 ^ b) (2 ^ b)) else 0) ≤ _ := h1
  rw [h2] at h1
  omega
theorem Cn_c {A : Nat → Nat} {nb c : Nat} (h9 : nb ≤ 9) (hc : c < 2 ^ nb) : 0 < Cn A nb c c := by
  rw [Cn_eq h9 hc, if_pos rfl]
  omega
theorem way_in {A : Nat → Nat} {nb c t s : Nat} (hw : way A nb c = true) (ht : t < 2 ^ nb) (hg : good A c t) (hcs : ∀ i, c.testBit i = true → s.testBit i = true) (hst : ∀ i, s.testBit i = true → t.testBit i = true) (hne : ¬ s = t) : ∃ b, b < nb ∧ t.testBit b = true ∧ canF A b s = true := by
  by_cases e : ∃ b, b < nb ∧ t.testBit b = true ∧ canF A b s = true
  · exact e
  · exfalso
    apply hne
    have hcl := wcl_min (A := A) (n := nb) (c := c) (S := s ||| nd (2 ^ nb - 1) t) (fun i hi => by rw [Nat.testBit_or, hcs i hi]; rfl) (fun j hj hnd => by
      cases e2 : (s ||| nd (2 ^ nb - 1) t).testBit j with
      | true => rfl
      | false =>
        exfalso
        rw [Nat.testBit_or, nd_tb, tb_full, decide_eq_true hj, Bool.true_and, Bool.or_eq_false_iff] at e2
        obtain ⟨e3, e4⟩ := e2
        have htj : t.testBit j = true := by cases e5 : t.testBit j with | true => rfl | false => rw [e5] at e4; cases e4
        have hcj : c.testBit j = false := by cases e5 : c.testBit j with | false => rfl | true => rw [hcs j e5] at e3; cases e3
        have h1 := hg.2 j htj hcj
        rw [nd_z] at hnd h1
        apply e
        refine ⟨j, hj, htj, canF_iff.mpr ⟨e3, ?_⟩⟩
        rw [nd_z]
        intro i hi
        have h2 := hnd i hi
        rw [Nat.testBit_or, nd_tb, h1 i hi, Bool.not_true, Bool.and_false, Bool.or_false] at h2
        exact h2)
    rw [of_decide_eq_true hw] at hcl
    apply Nat.eq_of_testBit_eq
    intro i
    cases e2 : s.testBit i with
    | true => rw [hst i e2]
    | false =>
      cases e3 : t.testBit i with
      | false => rfl
      | true =>
        have hin := bit_lt ht e3
        have := hcl i (by rw [tb_full, decide_eq_true hin])
        rw [Nat.testBit_or, nd_tb, e3, e2, Bool.not_true, Bool.and_false] at this
        cases this
theorem good_Cn {A : Nat → Nat} {nb c t : Nat} (h9 : nb ≤ 9) (hw : way A nb c = true) (ht : t < 2 ^ nb) (hg : good A c t) : ∀ k s, pcn nb t = pcn nb s + k → s < 2 ^ nb → (∀ i, c.testBit i = true → s.testBit i = true) → (∀ i, s.testBit i = true → t.testBit i = true) → 0 < Cn A nb c s → 0 < Cn A nb c t := by
  intro k
  induction k with
  | zero =>
    intro s hp hs hcs hst h
    by_cases e : t = s
    · rw [e]; exact h
    · have := pcn_ne hs ht hst e
      omega
  | succ k ih =>
    intro s hp hs hcs hst h
    have hne : ¬ s = t := fun e => by rw [e] at hp; omega
    obtain ⟨b, hb1, hb2, hb3⟩ := way_in hw ht hg hcs hst hne
    refine ih (s ||| 2 ^ b) ?_ (Nat.or_lt_two_pow hs (Nat.pow_lt_pow_right (by decide) hb1)) (fun i hi => by rw [Nat.testBit_or, hcs i hi]; rfl) (fun i hi => ?_) (Cn_step h9 hs hb1 hb3 h)
    · rw [pcn_set hb1 (canF_iff.mp hb3).1]; omega
    · rw [Nat.testBit_or, Bool.or_eq_true] at hi
      rcases hi with hi | hi
      · exact hst i hi
      · rw [Nat.testBit_two_pow, decide_eq_true_iff] at hi
        rw [← hi]; exact hb2
theorem good_C {A : Nat → Nat} {nb c t : Nat} (h9 : nb ≤ 9) (hw : way A nb c = true) (hc : c < 2 ^ nb) (ht : t < 2 ^ nb) (hg : good A c t) : 0 < Cn A nb c t := by
  have h1 : pcn nb c ≤ pcn nb t := pcn_mono (fun i _ hi => hg.1 i hi)
  exact good_Cn h9 hw ht hg (pcn nb t - pcn nb c) c (by omega) hc (fun _ hi => hi) hg.1 (Cn_c h9 hc)
theorem good_G {A : Nat → Nat} {nb c : Nat} (h9 : nb ≤ 9) (hw : way A nb c = true) : ∀ k t, nb - pcn nb t ≤ k → t < 2 ^ nb → good A c t → 0 < Gn A nb t := by
  intro k
  induction k with
  | zero =>
    intro t hk ht hg
    have hf : t = 2 ^ nb - 1 := by
      have hh := pcn_full (n := nb) (x := t) (by omega)
      apply set_ext ht (by have := Nat.two_pow_pos nb; omega)
      intro j hj
      rw [tb_full, hh j hj, decide_eq_true hj]
    rw [Gn_eq h9 ht, if_pos hf]
    omega
  | succ k ih =>
    intro t hk ht hg
    rw [Gn_eq h9 ht]
    by_cases e : t = 2 ^ nb - 1
    · rw [if_pos e]; omega
    · obtain ⟨b, hb1, hb2⟩ := way_step hw hg.1 ht e
      have h1 := ih (t ||| 2 ^ b) (by rw [pcn_set hb1 (canF_iff.mp hb2).1]; omega) (Nat.or_lt_two_pow ht (Nat.pow_lt_pow_right (by decide) hb1)) (good_step hg hb2)
      have h2 := sm_ge (f := fun b => if canF A b t = true then Gn A nb (t ||| 2 ^ b) else 0) nb b hb1
      have h2 : (if canF A b t = true then Gn A nb (t ||| 2 ^ b) else 0) ≤ _ := h2
      rw [if_pos hb2] at h2
      omega
theorem G_way {A : Nat → Nat} {nb c : Nat} (hc : c < 2 ^ nb) : ∀ r t, 0 < Gf A nb r t → t < 2 ^ nb → (∀ i, t.testBit i = true → (wcl A nb c).testBit i = true) → way A nb c = true := by
  have hfin : ∀ t, t = 2 ^ nb - 1 → (∀ i, t.testBit i = true → (wcl A nb c).testBit i = true) → way A nb c = true := by
    intro t e h
    apply decide_eq_true
    apply set_ext (wcl_lt A hc) (by have := Nat.two_pow_pos nb; omega)
    intro i hi
    rw [tb_full, decide_eq_true hi]
    exact h i (by rw [e, tb_full, decide_eq_true hi])
  intro r
  induction r with
  | zero =>
    intro t h ht htc
    rw [Gf] at h
    by_cases e : t = 2 ^ nb - 1
    · exact hfin t e htc
    · rw [if_neg e] at h; omega
  | succ r ih =>
    intro t h ht htc
    rw [Gf] at h
    by_cases e : t = 2 ^ nb - 1
    · exact hfin t e htc
    · rw [if_neg e, Nat.zero_add] at h
      obtain ⟨b, hb, h2⟩ := sm_pos nb h
      by_cases e2 : canF A b t = true
      · rw [if_pos e2] at h2
        refine ih (t ||| 2 ^ b) h2 (Nat.or_lt_two_pow ht (Nat.pow_lt_pow_right (by decide) hb)) (fun i hi => ?_)
        rw [Nat.testBit_or, Bool.or_eq_true] at hi
        rcases hi with hi | hi
        · exact htc i hi
        · rw [Nat.testBit_two_pow, decide_eq_true_iff] at hi
          subst hi
          apply wcl_closed hc hb
          have := (canF_iff.mp e2).2
          rw [nd_z] at this ⊢
          intro i hi
          exact htc i (this i hi)
      · rw [if_neg e2] at h2; omega
theorem G_iff {A : Nat → Nat} {nb c : Nat} (h9 : nb ≤ 9) (hc : c < 2 ^ nb) : 0 < Gn A nb c ↔ way A nb c = true :=
  ⟨fun h => G_way hc 9 c h hc (fun i hi => wcl_sub hi), fun h => good_G h9 h nb c (by omega) hc (good_c A c)⟩
section
variable {s s' kd lo se ah ru sg no ti sp f5 f6 : Nat → Int32} {bw th cm hd ck zz : Int32} {nb nt : Nat} {K L E A R F : Nat → Nat}
theorem cw5_in (h9 : nb ≤ 9) (hco : CO ah nb A) (k5 : Int32 → (Nat → Int32) → Option (Int32 × (Nat → Int32))) (S : Nat → Int32) {t i0 : Nat} (ht : t < 2 ^ nb) (hS : ∀ u, t < u → u < 2 ^ nb → S u = nI (Gn A nb u)) :
    ∀ d b n, b + d = nb → d < n → X1_countWays_L29 k5 (nI nb) ah n (nI t) (nI (i0 + sm (fun b => if canF A b t = true then Gn A nb (t ||| 2 ^ b) else 0) b)) (nI b) S = k5 (nI t + (-1)) (upd S t (nI (i0 + sm (fun b => if canF A b t = true then Gn A nb (t ||| 2 ^ b) else 0) nb))) := by
  have h2 := two_lt h9
  intro d
  induction d with
  | zero =>
    intro b n hb hn
    obtain ⟨n, rfl⟩ : ∃ m, n = m + 1 := ⟨n - 1, by omega⟩
    rw [X1_countWays_L29, if_pos (nI_le (by omega) (by omega)), if_pos (inr_lt (by omega) (by decide)), nI_clamp (by omega), show b = nb by omega]
  | succ d ih =>
    intro b n hb hn
    obtain ⟨n, rfl⟩ : ∃ m, n = m + 1 := ⟨n - 1, by omega⟩
    obtain ⟨e1, e2⟩ := hco b (by omega)
    have h1 := ih (b + 1) n (by omega) (by omega)
    rw [sm] at h1
    rw [X1_countWays_L29, if_neg (nI_ge (by omega) (by omega)), follow_eq (by omega) e1 (by omega) (by omega), Option.bind_some, nI_1]
    cases e : canF A b t with
    | false =>
      rw [e, if_neg (by decide), Nat.add_zero] at h1
      rw [if_pos xbf]
      exact h1
    | true =>
      have hlt : t ||| 2 ^ b < 2 ^ nb := Nat.or_lt_two_pow ht (Nat.pow_lt_pow_right (by decide) (by omega))
      rw [e, if_pos rfl] at h1
      rw [if_neg xbt, shl_eq (by omega), ny_or, if_pos (inr_lt (by omega) (by decide)), nI_clamp (by omega), hS _ (or_two_lt (canF_iff.mp e).1) hlt, nI_add, Nat.add_assoc]
      exact h1
theorem cw5 (h9 : nb ≤ 9) (hco : CO ah nb A) {c : Nat} (hc : c < 2 ^ nb) (S : Nat → Int32) : ∃ S', X1_countWays (nI nb) (nI c) (nI (2 ^ nb - 1)) ah S = some (nI (Gn A nb c), S') := by
  have h2 := two_lt h9
  have hpos := Nat.two_pow_pos nb
  have loop : ∀ e m n S, m = c + e → m ≤ 2 ^ nb → e < n → (∀ u, m ≤ u → u < 2 ^ nb → S u = nI (Gn A nb u)) → (e = 0 → True) → ∃ S', X1_countWays_L5 (nI nb) (nI c) (nI (2 ^ nb - 1)) ah n (nI m - 1) S = some (S' c, S') ∧ ∀ u, c ≤ u → u < 2 ^ nb → S' u = nI (Gn A nb u) := by
    intro e
    induction e with
    | zero =>
      intro m n S hm hm2 hn hS _
      obtain ⟨n, rfl⟩ : ∃ q, n = q + 1 := ⟨n - 1, by omega⟩
      refine ⟨S, ?_, fun u h1 h3 => hS u (by omega) h3⟩
      have e1 : nI m - 1 < nI c := by
        rw [ltI, show (1 : Int32) = nI 1 from rfl, sub_toInt (by omega) (by omega), nI_toInt (by omega)]
        omega
      rw [X1_countWays_L5, if_pos e1, if_pos (inr_lt (by omega) (by decide)), nI_clamp (by omega)]
    | succ e ih =>
      intro m n S hm hm2 hn hS _
      obtain ⟨n, rfl⟩ : ∃ q, n = q + 1 := ⟨n - 1, by omega⟩
      obtain ⟨t, rfl⟩ : ∃ t, m = t + 1 := ⟨m - 1, by omega⟩
      have fin : ∀ S1, (∀ u, t < u → u < 2 ^ nb → S1 u = S u) → S1 t = nI (Gn A nb t) → ∃ S', X1_countWays_L5 (nI nb) (nI c) (nI (2 ^ nb - 1)) ah n (nI t + (-1)) S1 = some (S' c, S') ∧ ∀ u, c ≤ u → u < 2 ^ nb → S' u = nI (Gn A nb u) := by
        intro S1 h3 h4
        rw [← Int32.sub_eq_add_neg]
        refine ih t n S1 (by omega) (by omega) (by omega) (fun u hu hu2 => ?_) (fun _ => trivial)
        by_cases e : u = t
        · rw [e]; exact h4
        · rw [h3 u (by omega) hu2]; exact hS u (by omega) hu2
      have hin : ∀ i0, X1_countWays_L29 (fun v10 od_bySet_0 => X1_countWays_L5 (nI nb) (nI c) (nI (2 ^ nb - 1)) ah n v10 od_bySet_0) (nI nb) ah FU (nI t) (nI i0) 0 S = X1_countWays_L5 (nI nb) (nI c) (nI (2 ^ nb - 1)) ah n (nI t + (-1)) (upd S t (nI (i0 + sm (fun b => if canF A b t = true then Gn A nb (t ||| 2 ^ b) else 0) nb))) := by
        intro i0
        have hh := cw5_in (i0 := i0) h9 hco (fun v10 od_bySet_0 => X1_countWays_L5 (nI nb) (nI c) (nI (2 ^ nb - 1)) ah n v10 od_bySet_0) S (show t < 2 ^ nb by omega) (fun u h1 h3 => hS u (by omega) h3) nb 0 FU (by omega) (by unfold FU; omega)
        rw [sm, Nat.add_zero, show nI 0 = (0 : Int32) from rfl] at hh
        exact hh
      have hG := Gn_eq (A := A) h9 (show t < 2 ^ nb by omega)
      rw [X1_countWays_L5, nI_pred, if_neg (nI_nlt (by omega) (by omega))]
      by_cases ef : t = 2 ^ nb - 1
      · rw [if_pos ef] at hG
        rw [if_pos (by rw [ef]), show (1 : Int32) = nI 1 from rfl, hin 1]
        exact fin _ (fun u h1 _ => upd_ne (by omega)) (by rw [upd_eq, hG])
      · rw [if_neg ef] at hG
        rw [if_neg (fun z => ef ((nI_eq (by omega) (by omega)).mp z)), show X1_countWays_L29 (fun v10 od_bySet_0 => X1_countWays_L5 (nI nb) (nI c) (nI (2 ^ nb - 1)) ah n v10 od_bySet_0) (nI nb) ah FU (nI t) 0 0 S = _ from hin 0]
        exact fin _ (fun u h1 _ => upd_ne (by omega)) (by rw [upd_eq, hG])
  obtain ⟨S', g1, g2⟩ := loop (2 ^ nb - c) (2 ^ nb) FU S (by omega) (Nat.le_refl _) (by unfold FU; omega) (fun u h1 h3 => by omega) (fun _ => trivial)
  rw [show nI (2 ^ nb) - 1 = nI (2 ^ nb - 1) from nI_sub (b := 1) (by omega)] at g1
  refine ⟨S', ?_⟩
  unfold X1_countWays
  rw [g1, g2 c (Nat.le_refl _) hc]
/-- the reference's goesOn -/
theorem go_in (h : SP s bw th cm hd ck zz kd lo se ah ru sg no ti sp nb nt K L E A R F) (k137 : Int32 → Int32 → (Nat → Int32) → (Nat → Int32) → Option (Int32 × (Nat → Int32) × (Nat → Int32))) (C : Nat → Int32) {v : Int32} {t : Nat} (ht : t < 2 ^ nb) :
    ∀ d b n G, b + d = nb → d < n → (∀ u, t < u → u < 2 ^ nb → G u = nI (Gn A nb u)) → G t = nI (sm (fun b => if canF A b t = true then Gn A nb (t ||| 2 ^ b) else 0) b) → ∃ G', X6_countsWays_L144 k137 s n v (nI t) (nI b) C G = k137 v (nI t + (-1)) C G' ∧ G' t = nI (sm (fun b => if canF A b t = true then Gn A nb (t ||| 2 ^ b) else 0) nb) ∧ ∀ u, u ≠ t → G' u = G u := by
  have h9 := h.h9
  have h2 := two_lt h9
  intro d
  induction d with
  | zero =>
    intro b n G hb hn hG hGt
    obtain ⟨n, rfl⟩ : ∃ m, n = m + 1 := ⟨n - 1, by omega⟩
    refine ⟨G, ?_, by rw [hGt, show b = nb by omega], fun u _ => rfl⟩
    rw [X6_countsWays_L144, h.b3, if_pos (nI_le (by omega) (by omega))]
  | succ d ih =>
    intro b n G hb hn hG hGt
    obtain ⟨n, rfl⟩ : ∃ m, n = m + 1 := ⟨n - 1, by omega⟩
    rw [X6_countsWays_L144, h.b3, if_neg (nI_ge (by omega) (by omega)), if_pos (inr_lt (by omega) (by decide)), (h.can5 (show b < nb by omega) (show t < 512 by omega)).2.1, Option.bind_some, nI_1]
    have step : ∀ x, x = sm (fun b => if canF A b t = true then Gn A nb (t ||| 2 ^ b) else 0) (b + 1) → ∃ G', X6_countsWays_L144 k137 s n v (nI t) (nI (b + 1)) C (upd G t (nI x)) = k137 v (nI t + (-1)) C G' ∧ G' t = nI (sm (fun b => if canF A b t = true then Gn A nb (t ||| 2 ^ b) else 0) nb) ∧ ∀ u, u ≠ t → G' u = G u := by
      intro x hx
      obtain ⟨G', g1, g2, g3⟩ := ih (b + 1) n (upd G t (nI x)) (by omega) (by omega) (fun u h1 h3 => by rw [upd_ne (by omega)]; exact hG u h1 h3) (by rw [upd_eq, hx])
      exact ⟨G', g1, g2, fun u hu => by rw [g3 u hu, upd_ne hu]⟩
    cases e : canF A b t with
    | false =>
      rw [if_pos xbf, if_pos (inr_lt (by omega) (by decide)), nI_clamp (by omega), Int32.add_zero, hGt]
      refine step _ ?_
      rw [sm, e, if_neg (by decide), Nat.add_zero]
    | true =>
      have hlt : t ||| 2 ^ b < 2 ^ nb := Nat.or_lt_two_pow ht (Nat.pow_lt_pow_right (by decide) (by omega))
      rw [if_neg xbt, shl_eq (by omega), ny_or, if_pos (inr_lt (by omega) (by decide)), if_pos (inr_lt (by omega) (by decide)), nI_clamp (by omega), nI_clamp (by omega), hGt, hG _ (or_two_lt (canF_iff.mp e).1) hlt, nI_add]
      refine step _ ?_
      rw [sm, e, if_pos rfl]
theorem go_out (h : SP s bw th cm hd ck zz kd lo se ah ru sg no ti sp nb nt K L E A R F) (C : Nat → Int32) :
    ∀ m n G, m ≤ 2 ^ nb - 1 → m < n → (∀ u, m ≤ u → u < 2 ^ nb → G u = nI (Gn A nb u)) → (∀ u, u < m → G u = 0) → ∃ G', X6_countsWays_L137 s n (nI (stg F nt)) (nI m - 1) C G = some (nI (Gn A nb (stg F nt)), C, G') ∧ ∀ u, u < 2 ^ nb → G' u = nI (Gn A nb u) := by
  have h9 := h.h9
  have h2 := two_lt h9
  have hc := h.c_lt
  intro m
  induction m with
  | zero =>
    intro n G hm hn hG hz
    obtain ⟨n, rfl⟩ : ∃ q, n = q + 1 := ⟨n - 1, by omega⟩
    refine ⟨G, ?_, fun u hu => hG u (Nat.zero_le _) hu⟩
    rw [X6_countsWays_L137, if_pos (show nI 0 - 1 < (0 : Int32) by decide), if_pos (inr_lt (by omega) (by decide)), nI_clamp (by omega), hG _ (Nat.zero_le _) hc]
  | succ t ih =>
    intro n G hm hn hG hz
    obtain ⟨n, rfl⟩ : ∃ q, n = q + 1 := ⟨n - 1, by omega⟩
    obtain ⟨G', g1, g2, g3⟩ := go_in h (fun v10 v30 m_comesTo_0 m_goesOn_0 => X6_countsWays_L137 s n v10 v30 m_comesTo_0 m_goesOn_0) C (v := nI (stg F nt)) (t := t) (by omega) nb 0 FU G (by omega) (by unfold FU; omega) (fun u h1 h3 => hG u (by omega) h3) (by rw [hz t (by omega)]; rfl)
    have g1 : X6_countsWays_L144 (fun v10 v30 m_comesTo_0 m_goesOn_0 => X6_countsWays_L137 s n v10 v30 m_comesTo_0 m_goesOn_0) s FU (nI (stg F nt)) (nI t) 0 C G = _ := g1
    rw [X6_countsWays_L137, nI_pred, if_neg (nI_pos (by omega)), g1, ← Int32.sub_eq_add_neg]
    refine ih n G' (by omega) (by omega) (fun u hu hu2 => ?_) (fun u hu => by rw [g3 u (by omega)]; exact hz u (by omega))
    by_cases e : u = t
    · rw [e, g2, Gn_eq h9 (show t < 2 ^ nb by omega), if_neg (by omega), Nat.zero_add]
    · rw [g3 u e]; exact hG u (by omega) hu2
/-- the reference's comesTo, as far as it is filled -/
def prt (A : Nat → Nat) (nb c t b u : Nat) : Nat := (if u = c then 1 else 0) + sm (fun b' => if u.testBit b' = true ∧ canF A b' (nd u (2 ^ b')) = true ∧ (nd u (2 ^ b') < t ∨ nd u (2 ^ b') = t ∧ b' < b) then Cn A nb c (nd u (2 ^ b')) else 0) nb
theorem prt_self {A : Nat → Nat} {nb c t b : Nat} (h9 : nb ≤ 9) (ht : t < 2 ^ nb) : prt A nb c t b t = Cn A nb c t := by
  rw [Cn_eq h9 ht]
  unfold prt
  congr 1
  apply sm_cg
  intro b' hb'
  by_cases e : t.testBit b' = true ∧ canF A b' (nd t (2 ^ b')) = true
  · rw [if_pos e, if_pos ⟨e.1, e.2, Or.inl (nd_two_lt e.1)⟩]
  · rw [if_neg e, if_neg (fun z => e ⟨z.1, z.2.1⟩)]
theorem prt_next {A : Nat → Nat} {nb c t u : Nat} : prt A nb c t nb u = prt A nb c (t + 1) 0 u := by
  unfold prt
  congr 1
  apply sm_cg
  intro b' hb'
  have : (nd u (2 ^ b') < t ∨ nd u (2 ^ b') = t ∧ b' < nb) ↔ (nd u (2 ^ b') < t + 1 ∨ nd u (2 ^ b') = t + 1 ∧ b' < 0) := by
    constructor
    · rintro (h | ⟨h, -⟩)
      · exact Or.inl (by omega)
      · exact Or.inl (by omega)
    · rintro (h | ⟨-, h⟩)
      · by_cases e : nd u (2 ^ b') = t
        · exact Or.inr ⟨e, hb'⟩
        · exact Or.inl (by omega)
      · omega
  simp only [this]
theorem prt_step {A : Nat → Nat} {nb c t b u : Nat} (hb : b < nb) : prt A nb c t (b + 1) u = prt A nb c t b u + (if u.testBit b = true ∧ nd u (2 ^ b) = t ∧ canF A b t = true then Cn A nb c t else 0) := by
  unfold prt
  rw [Nat.add_assoc]
  congr 1
  refine sm_one (b := b) nb hb (fun i hi hne => ?_) ?_
  · have : (nd u (2 ^ i) < t ∨ nd u (2 ^ i) = t ∧ i < b) ↔ (nd u (2 ^ i) < t ∨ nd u (2 ^ i) = t ∧ i < b + 1) := by
      constructor
      · rintro (h | ⟨h1, h2⟩)
        · exact Or.inl h
        · exact Or.inr ⟨h1, by omega⟩
      · rintro (h | ⟨h1, h2⟩)
        · exact Or.inl h
        · exact Or.inr ⟨h1, by omega⟩
    simp only [this]
  · by_cases e : nd u (2 ^ b) = t
    · rw [if_neg (show ¬ (u.testBit b = true ∧ canF A b (nd u (2 ^ b)) = true ∧ (nd u (2 ^ b) < t ∨ nd u (2 ^ b) = t ∧ b < b)) from fun z => by rcases z.2.2 with h | h <;> omega), Nat.zero_add]
      by_cases e2 : u.testBit b = true ∧ canF A b t = true
      · rw [if_pos ⟨e2.1, by rw [e]; exact e2.2, Or.inr ⟨e, by omega⟩⟩, if_pos ⟨e2.1, e, e2.2⟩, e]
      · rw [if_neg (fun z => e2 ⟨z.1, by rw [← e]; exact z.2.1⟩), if_neg (fun z => e2 ⟨z.1, z.2.2⟩)]
    · have : (nd u (2 ^ b) < t ∨ nd u (2 ^ b) = t ∧ b < b) ↔ (nd u (2 ^ b) < t ∨ nd u (2 ^ b) = t ∧ b < b + 1) := by
        constructor
        · rintro (h | ⟨h1, h2⟩)
          · exact Or.inl h
          · exact absurd h1 e
        · rintro (h | ⟨h1, h2⟩)
          · exact Or.inl h
          · exact absurd h1 e
      rw [if_neg (show ¬ (u.testBit b = true ∧ nd u (2 ^ b) = t ∧ canF A b t = true) from fun z => e z.2.1)]
      simp only [this, Nat.add_zero]
theorem ct_in (h : SP s bw th cm hd ck zz kd lo se ah ru sg no ti sp nb nt K L E A R F) (k59 : Int32 → Int32 → Int32 → (Nat → Int32) → (Nat → Int32) → Option (Int32 × (Nat → Int32) × (Nat → Int32))) (G : Nat → Int32) {v1 v2 : Int32} {c t : Nat} (ht : t < 2 ^ nb) :
    ∀ d b n C, b + d = nb → d < n → (∀ u, u < 2 ^ nb → C u = nI (prt A nb c t b u)) → ∃ C', X6_countsWays_L67 k59 s n v1 v2 (nI t) (nI b) C G = k59 v1 v2 (nI (t + 1)) C' G ∧ (∀ u, u < 2 ^ nb → C' u = nI (prt A nb c (t + 1) 0 u)) ∧ ∀ u, 2 ^ nb ≤ u → C' u = C u := by
  have h9 := h.h9
  have h2 := two_lt h9
  intro d
  induction d with
  | zero =>
    intro b n C hb hn hC
    obtain ⟨n, rfl⟩ : ∃ m, n = m + 1 := ⟨n - 1, by omega⟩
    refine ⟨C, ?_, fun u hu => by rw [hC u hu, show b = nb by omega, prt_next], fun u _ => rfl⟩
    rw [X6_countsWays_L67, h.b3, if_pos (nI_le (by omega) (by omega)), nI_1]
  | succ d ih =>
    intro b n C hb hn hC
    obtain ⟨n, rfl⟩ : ∃ m, n = m + 1 := ⟨n - 1, by omega⟩
    have hbn : b < nb := by omega
    have hlt : t ||| 2 ^ b < 2 ^ nb := Nat.or_lt_two_pow ht (Nat.pow_lt_pow_right (by decide) hbn)
    have hCt : C t = nI (Cn A nb c t) := by rw [hC t ht, prt_self h9 ht]
    have hCl := Cn_lt (A := A) (c := c) h9 t
    have fin : ∀ x, x = (if canF A b t = true then Cn A nb c t else 0) → ∃ C', X6_countsWays_L67 k59 s n v1 v2 (nI t) (nI (b + 1)) (upd C (t ||| 2 ^ b) (C (t ||| 2 ^ b) + nI x)) G = k59 v1 v2 (nI (t + 1)) C' G ∧ (∀ u, u < 2 ^ nb → C' u = nI (prt A nb c (t + 1) 0 u)) ∧ ∀ u, 2 ^ nb ≤ u → C' u = C u := by
      intro x hx
      obtain ⟨C', g1, g2, g3⟩ := ih (b + 1) n (upd C (t ||| 2 ^ b) (C (t ||| 2 ^ b) + nI x)) (by omega) (by omega) (fun u hu => by
        rw [prt_step hbn]
        by_cases e : u = t ||| 2 ^ b
        · rw [e, upd_eq, hC _ hlt, nI_add]
          congr 2
          cases eb : t.testBit b with
          | true =>
            have hcf : ¬ canF A b t = true := fun z => by rw [(canF_iff.mp z).1] at eb; cases eb
            rw [hx, if_neg hcf, if_neg (fun z => hcf z.2.2)]
          | false =>
            rw [hx, nd_or eb]
            by_cases ec : canF A b t = true
            · rw [if_pos ec, if_pos ⟨by rw [Nat.testBit_or, Nat.testBit_two_pow_self, Bool.or_true], rfl, ec⟩]
            · rw [if_neg ec, if_neg (fun z => ec z.2.2)]
        · rw [upd_ne e, hC u hu, if_neg (fun z => e (by rw [← z.2.1, or_nd z.1])), Nat.add_zero])
      exact ⟨C', g1, g2, fun u hu => by rw [g3 u hu, upd_ne (by omega)]⟩
    rw [X6_countsWays_L67, h.b3, if_neg (nI_ge (by omega) (by omega)), shl_eq (by omega), ny_or]
    simp only [if_pos (inr_lt (show t ||| 2 ^ b < 512 by omega) (by decide)), if_pos (inr_lt (show t < 512 by omega) (by decide)), nI_clamp (show t < 2 ^ 31 by omega), nI_clamp (show t ||| 2 ^ b < 2 ^ 31 by omega), (h.can5 hbn (show t < 512 by omega)).2.1, Option.bind_some, nI_1, hCt]
    by_cases e0 : Cn A nb c t = 0
    · rw [e0, if_pos (by decide)]
      exact fin 0 (by rw [e0, ite_self])
    · rw [if_neg (nI_nle (by omega) hCl)]
      cases e : canF A b t with
      | false =>
        rw [if_pos xbf]
        exact fin 0 (by rw [e, if_neg (by decide)])
      | true =>
        rw [if_neg xbt]
        exact fin _ (by rw [e, if_pos rfl])
theorem ct_out (h : SP s bw th cm hd ck zz kd lo se ah ru sg no ti sp nb nt K L E A R F) (G : Nat → Int32) {v1 : Int32} {c : Nat} :
    ∀ e t n C, t + e = 2 ^ nb → e < n → (∀ u, u < 2 ^ nb → C u = nI (prt A nb c t 0 u)) → ∃ C', X6_countsWays_L59 s n v1 (nI (2 ^ nb - 1)) (nI t) C G = X6_countsWays_L137 s FU v1 (nI (2 ^ nb - 1) - 1) C' G ∧ (∀ u, u < 2 ^ nb → C' u = nI (prt A nb c (2 ^ nb) 0 u)) ∧ ∀ u, 2 ^ nb ≤ u → C' u = C u := by
  have h9 := h.h9
  have h2 := two_lt h9
  intro e
  induction e with
  | zero =>
    intro t n C ht hn hC
    obtain ⟨n, rfl⟩ : ∃ m, n = m + 1 := ⟨n - 1, by omega⟩
    have hpos := Nat.two_pow_pos nb
    refine ⟨C, ?_, fun u hu => by have hu2 := hC u hu; rw [show t = 2 ^ nb by omega] at hu2; exact hu2, fun u _ => rfl⟩
    rw [X6_countsWays_L59, if_pos (nI_lt (by omega) (by omega))]
  | succ e ih =>
    intro t n C ht hn hC
    obtain ⟨n, rfl⟩ : ∃ m, n = m + 1 := ⟨n - 1, by omega⟩
    obtain ⟨C1, g1, g2, g3⟩ := ct_in h (fun v10 v20 v30 m_comesTo_0 m_goesOn_0 => X6_countsWays_L59 s n v10 v20 v30 m_comesTo_0 m_goesOn_0) G (v1 := v1) (v2 := nI (2 ^ nb - 1)) (c := c) (t := t) (by omega) nb 0 FU C (by omega) (by unfold FU; omega) hC
    have g1 : X6_countsWays_L67 (fun v10 v20 v30 m_comesTo_0 m_goesOn_0 => X6_countsWays_L59 s n v10 v20 v30 m_comesTo_0 m_goesOn_0) s FU v1 (nI (2 ^ nb - 1)) (nI t) 0 C G = _ := g1
    obtain ⟨C', q1, q2, q3⟩ := ih (t + 1) n C1 (by omega) (by omega) g2
    refine ⟨C', ?_, q2, fun u hu => by rw [q3 u hu, g3 u hu]⟩
    rw [X6_countsWays_L59, if_neg (nI_nlt (by omega) (by omega)), g1]
    exact q1
theorem cw_init (h9 : nb ≤ 9) {c : Nat} (hc : c < 2 ^ nb) :
    ∀ e t n C G, t + e = 512 → e < n → ∃ C' G', X6_countsWays_L12 s n (nI c) (nI (2 ^ nb - 1)) (nI t) C G = X6_countsWays_L59 s FU (nI c) (nI (2 ^ nb - 1)) (nI c) C' G' ∧ (∀ u, t ≤ u → u < 512 → C' u = (if u = c then 1 else 0) ∧ G' u = (if u = 2 ^ nb - 1 then 1 else 0)) ∧ ∀ u, u < t → C' u = C u ∧ G' u = G u := by
  have h2 := two_lt h9
  have hpos := Nat.two_pow_pos nb
  intro e
  induction e with
  | zero =>
    intro t n C G ht hn
    obtain ⟨n, rfl⟩ : ∃ m, n = m + 1 := ⟨n - 1, by omega⟩
    refine ⟨C, G, ?_, fun u h1 h3 => by omega, fun u _ => ⟨rfl, rfl⟩⟩
    rw [X6_countsWays_L12, if_pos (show (512 : Int32) ≤ nI t from nI_le (a := 512) (by omega) (by omega))]
  | succ e ih =>
    intro t n C G ht hn
    obtain ⟨n, rfl⟩ : ∃ m, n = m + 1 := ⟨n - 1, by omega⟩
    have key : X6_countsWays_L12 s (n + 1) (nI c) (nI (2 ^ nb - 1)) (nI t) C G = X6_countsWays_L12 s n (nI c) (nI (2 ^ nb - 1)) (nI (t + 1)) (upd C t (if t = c then 1 else 0)) (upd G t (if t = 2 ^ nb - 1 then 1 else 0)) := by
      rw [X6_countsWays_L12, if_neg (show ¬ (512 : Int32) ≤ nI t from nI_ge (b := 512) (by omega) (by omega))]
      unfold X6_countsWays_L34
      simp only [if_pos (inr_lt (show t < 512 by omega) (by decide)), nI_clamp (show t < 2 ^ 31 by omega), nI_1]
      by_cases e1 : t = c
      · rw [if_pos (by rw [e1]), if_pos e1]
        by_cases e2 : t = 2 ^ nb - 1
        · rw [if_pos (by rw [e2]), if_pos e2]
        · rw [if_neg (fun z => e2 ((nI_eq (by omega) (by omega)).mp z)), if_neg e2]
      · rw [if_neg (fun z => e1 ((nI_eq (by omega) (by omega)).mp z)), if_neg e1]
        by_cases e2 : t = 2 ^ nb - 1
        · rw [if_pos (by rw [e2]), if_pos e2]
        · rw [if_neg (fun z => e2 ((nI_eq (by omega) (by omega)).mp z)), if_neg e2]
    obtain ⟨C', G', g1, g2, g3⟩ := ih (t + 1) n (upd C t (if t = c then 1 else 0)) (upd G t (if t = 2 ^ nb - 1 then 1 else 0)) (by omega) (by omega)
    refine ⟨C', G', by rw [key, g1], fun u h1 h3 => ?_, fun u hu => ?_⟩
    · by_cases e : u = t
      · obtain ⟨q1, q2⟩ := g3 u (by omega)
        rw [q1, q2, e, upd_eq, upd_eq]
        exact ⟨rfl, rfl⟩
      · exact g2 u (by omega) h3
    · obtain ⟨q1, q2⟩ := g3 u (by omega)
      rw [q1, q2, upd_ne (by omega), upd_ne (by omega)]
      exact ⟨rfl, rfl⟩
/-- what the reference counts -/
theorem SP.counts (h : SP s bw th cm hd ck zz kd lo se ah ru sg no ti sp nb nt K L E A R F) (C0 G0 : Nat → Int32) : ∃ C G, X6_countsWays s C0 G0 = some (nI (Gn A nb (stg F nt)), C, G) ∧ (∀ u, u < 512 → C u = nI (if u < 2 ^ nb then Cn A nb (stg F nt) u else 0)) ∧ ∀ u, u < 2 ^ nb → G u = nI (Gn A nb u) := by
  have h9 := h.h9
  have h2 := two_lt h9
  have hpos := Nat.two_pow_pos nb
  have hc := h.c_lt
  obtain ⟨C1, G1, a1, a2, -⟩ := cw_init (s := s) h9 hc 512 0 FU C0 G0 (by omega) (by unfold FU; omega)
  obtain ⟨C2, b1, b2, b3⟩ := ct_out h G1 (v1 := nI (stg F nt)) (c := stg F nt) (2 ^ nb - stg F nt) (stg F nt) FU C1 (by omega) (by unfold FU; omega) (fun u hu => by
    rw [(a2 u (Nat.zero_le _) (by omega)).1]
    unfold prt
    rw [sm_z nb (fun b hb => ?_), Nat.add_zero]
    · by_cases e : u = stg F nt
      · rw [if_pos e, if_pos e]; rfl
      · rw [if_neg e, if_neg e]; rfl
    · by_cases e : u.testBit b = true ∧ canF A b (nd u (2 ^ b)) = true ∧ (nd u (2 ^ b) < stg F nt ∨ nd u (2 ^ b) = stg F nt ∧ b < 0)
      · rw [if_pos e]
        rcases Nat.eq_zero_or_pos (Cn A nb (stg F nt) (nd u (2 ^ b))) with e2 | e2
        · exact e2
        · exfalso
          have := sub_le (Cn_good e2).1
          rcases e.2.2 with h1 | h1 <;> omega
      · rw [if_neg e])
  obtain ⟨G3, d1, d2⟩ := go_out h C2 (2 ^ nb - 1) FU G1 (Nat.le_refl _) (by unfold FU; omega) (fun u h1 h3 => by
    have e : u = 2 ^ nb - 1 := by omega
    rw [(a2 u (Nat.zero_le _) (by omega)).2, if_pos e, Gn_eq h9 h3, if_pos e, sm_z nb (fun b hb => ?_)]
    · rfl
    · rw [if_neg]
      intro z
      have := (canF_iff.mp z).1
      rw [e, tb_full, decide_eq_true hb] at this
      cases this) (fun u hu => by rw [(a2 u (Nat.zero_le _) (by omega)).2, if_neg (by omega)])
  refine ⟨C2, G3, ?_, fun u hu => ?_, d2⟩
  · unfold X6_countsWays X6_allBows
    rw [h.stage, Option.bind_some, Option.bind_some, h.b3, full_eq h9, show (0 : Int32) = nI 0 from rfl, a1, b1]
    exact d1
  · by_cases e : u < 2 ^ nb
    · rw [if_pos e, b2 u e, Cn_eq h9 e]
      unfold prt
      congr 2
      apply sm_cg
      intro b hb
      by_cases e2 : u.testBit b = true ∧ canF A b (nd u (2 ^ b)) = true
      · rw [if_pos e2, if_pos ⟨e2.1, e2.2, Or.inl (nd_lt e)⟩]
      · rw [if_neg e2, if_neg (fun z => e2 ⟨z.1, z.2.1⟩)]
    · rw [if_neg e, b3 u (by omega), (a2 u (Nat.zero_le _) hu).1, if_neg (by omega)]
      rfl
theorem p_ways (h : SP s bw th cm hd ck zz kd lo se ah ru sg no ti sp nb nt K L E A R F) (c3300 c3400 c3500 c4000 c5900 c6000 : Nat → Int32) :
    ∃ r5 r6, X5_ways bw th cm kd lo ah sg c3300 c3400 c3500 c4000 = some r5 ∧ X6_ways s c5900 c6000 = some r6 ∧ r5.1 = r6.1 := by
  obtain ⟨kd', lo', ah', g1, g2, g3⟩ := h.start c3300 c3400 c3500
  obtain ⟨S', q⟩ := cw5 h.h9 g3 h.c_lt c4000
  obtain ⟨C, G, e1, -, -⟩ := h.counts c5900 c6000
  unfold X5_ways X6_ways
  simp only [g1, q, e1, Option.bind_some]
  exact ⟨_, _, rfl, rfl, rfl⟩
end
