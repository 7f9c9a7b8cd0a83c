/-! the best from the stage on: the reference's table -/
def pl (K L : Nat → Nat) : Nat → Nat
  | 0 => 0
  | j + 1 => lvN (K j) (L j)
def br (w : Nat) (K L : Nat → Nat) (b l : Nat) : Int32 := if w = 0 then nI (nzN (K b) (L b) (pl K L l)) else if pl K L l ≤ L b then 0 else -1
/-- those who can follow a set -/
def fll (A : Nat → Nat) (t : Nat) : Nat → Nat → List Nat
  | _, 0 => []
  | k, d + 1 => if canF A k t = true then k :: fll A t (k + 1) d else fll A t (k + 1) d
theorem fll_mem {A : Nat → Nat} {t x : Nat} : ∀ d k, x ∈ fll A t k d ↔ k ≤ x ∧ x < k + d ∧ canF A x t = true := by
  intro d
  induction d with
  | zero =>
    intro k
    rw [fll]
    exact ⟨fun h => (by cases h), fun ⟨h1, h2, _⟩ => by omega⟩
  | succ d ih =>
    intro k
    rw [fll]
    by_cases e : canF A k t = true
    · rw [if_pos e, List.mem_cons, ih]
      constructor
      · rintro (h | ⟨h1, h2, h3⟩)
        · subst h; exact ⟨by omega, by omega, e⟩
        · exact ⟨by omega, by omega, h3⟩
      · rintro ⟨h1, h2, h3⟩
        by_cases e2 : x = k
        · exact Or.inl e2
        · exact Or.inr ⟨by omega, by omega, h3⟩
    · rw [if_neg e, ih]
      constructor
      · rintro ⟨h1, h2, h3⟩
        exact ⟨by omega, by omega, h3⟩
      · rintro ⟨h1, h2, h3⟩
        by_cases e2 : x = k
        · subst e2; exact absurd h3 e
        · exact ⟨by omega, by omega, h3⟩
theorem fll_len {A : Nat → Nat} {t : Nat} : ∀ d k, (fll A t k d).length ≤ d := by
  intro d
  induction d with
  | zero => intro k; exact Nat.le_refl _
  | succ d ih =>
    intro k
    rw [fll]
    have := ih (k + 1)
    split
    · rw [List.length_cons]; omega
    · omega
theorem fll_app {A : Nat → Nat} {t : Nat} : ∀ d k, fll A t k (d + 1) = fll A t k d ++ (if canF A (k + d) t = true then [k + d] else []) := by
  intro d
  induction d with
  | zero =>
    intro k
    rw [fll, fll, fll, List.nil_append, Nat.add_zero]
  | succ d ih =>
    intro k
    rw [fll, ih (k + 1), fll, show k + 1 + d = k + (d + 1) by omega]
    by_cases e : canF A k t = true
    · rw [if_pos e, if_pos e, List.cons_append]
    · rw [if_neg e, if_neg e]
def NOTV : Int32 := -99999999
/-- one step of the fold -/
def rs (B : Nat → Int32) (w : Nat) (K L : Nat → Nat) (t l : Nat) (acc : Int32) (b : Nat) : Int32 := X6_most acc (if B (10 * (t ||| 2 ^ b) + b + 1) = NOTV then NOTV else B (10 * (t ||| 2 ^ b) + b + 1) + br w K L b l)
def vl (B : Nat → Int32) (w : Nat) (K L A : Nat → Nat) (nb t l : Nat) : Int32 := (fll A t 0 nb).foldl (rs B w K L t l) (if t = 2 ^ nb - 1 then 0 else NOTV)
def blk (B : Nat → Int32) (w : Nat) (K L A : Nat → Nat) (nb t : Nat) : Prop := ∀ l, l ≤ nb → B (10 * t + l) = vl B w K L A nb t l
theorem or_two_lt {t b : Nat} (h : t.testBit b = false) : t < t ||| 2 ^ b := by
  have h1 : t ≤ t ||| 2 ^ b := Nat.left_le_or
  have h2 : t ≠ t ||| 2 ^ b := fun e => by
    have h3 : t.testBit b = true := by rw [e, Nat.testBit_or, Nat.testBit_two_pow_self, Bool.or_true]
    rw [h] at h3; cases h3
  omega
theorem foldl_cg {α β : Type} {f g : α → β → α} : ∀ (l : List β) (a : α), (∀ x, x ∈ l → ∀ a, f a x = g a x) → l.foldl f a = l.foldl g a := by
  intro l
  induction l with
  | nil => intro a _; rfl
  | cons x l ih =>
    intro a h
    rw [List.foldl_cons, List.foldl_cons, h x List.mem_cons_self]
    exact ih _ (fun y hy => h y (List.mem_cons_of_mem _ hy))
theorem vl_cg {B C : Nat → Int32} {w : Nat} {K L A : Nat → Nat} {nb t l : Nat} (h : ∀ i, 10 * t + 10 ≤ i → B i = C i) : vl B w K L A nb t l = vl C w K L A nb t l := by
  unfold vl
  apply foldl_cg
  intro x hx a
  have hc := ((fll_mem nb 0).mp hx).2.2
  have := or_two_lt (canF_iff.mp hc).1
  unfold rs
  rw [h _ (by omega)]
theorem blk_cg {B C : Nat → Int32} {w : Nat} {K L A : Nat → Nat} {nb t : Nat} (h9 : nb ≤ 9) (h : ∀ i, 10 * t ≤ i → B i = C i) (hb : blk B w K L A nb t) : blk C w K L A nb t := by
  intro l hl
  rw [← h _ (by omega), hb l hl]
  exact vl_cg (fun i hi => h i (by omega))
section
variable {s s' kd lo se ah ru sg no ti sp f5 f6 : Nat → Int32} {bw th cm hd ck zz : Int32} {nb nt : Nat} {K L E A R F : Nat → Nat}
theorem pl_le (h : SP s bw th cm hd ck zz kd lo se ah ru sg no ti sp nb nt K L E A R F) {l : Nat} (hl : l ≤ nb) : pl K L l ≤ 198 := by
  rcases l with _ | j
  · exact Nat.zero_le _
  · exact lv_le (h.cc (show j < nb by omega)).2.1
theorem SP.brings (h : SP s bw th cm hd ck zz kd lo se ah ru sg no ti sp nb nt K L E A R F) {w b l : Nat} (hw : w ≤ 1) (hb : b < nb) (hl : l ≤ nb) : X6_brings s (nI w) (nI b) (nI l - 1) = some (br w K L b l) := by
  have h9 := h.h9
  have hp := pl_le h hl
  have h1 : X6_leftBy s (nI l - 1) = some (nI (pl K L l)) := by
    unfold X6_leftBy
    rcases l with _ | j
    · rw [if_neg (show ¬ (0 : Int32) ≤ nI 0 - 1 by decide)]; rfl
    · rw [nI_pred, if_pos (nI_pos' (by omega)), (h.lv (show j < nb by omega)).1]; rfl
  unfold X6_brings br
  rw [h1, Option.bind_some, (h.nz hb (show pl K L l < 2 ^ 20 by omega)).1, Option.bind_some, ge1 s (by omega), Option.bind_some, (h.ca hb).2.1]
  have hL := (h.cc hb).2.1
  rcases Nat.eq_zero_or_pos w with e | e
  · rw [if_pos (by rw [e]; rfl), if_pos e]
  · rw [if_neg (nI_ne0 e (by omega)), if_neg (show ¬ w = 0 by omega)]
    by_cases h2 : pl K L l ≤ L b
    · rw [if_pos (nI_le h2 (by omega)), if_pos h2]
    · rw [if_neg (nI_ge (by omega) (by omega)), if_neg h2]
theorem ix_bl (t l : Nat) : ((10 : Int32) * nI t) + (nI l - 1) + 1 = nI (10 * t + l) := by
  rw [show (10 : Int32) * nI t = nI (10 * t) from nI_mul 10 t, Int32.add_assoc, Int32.sub_add_cancel, nI_add]
theorem ix_b (t b : Nat) : ((10 : Int32) * nI t) + nI b + 1 = nI (10 * t + b + 1) := by
  rw [show (10 : Int32) * nI t = nI (10 * t) from nI_mul 10 t, nI_add, nI_1]
theorem fb_in (h : SP s bw th cm hd ck zz kd lo se ah ru sg no ti sp nb nt K L E A R F) (k13 : Int32 → Int32 → Int32 → Int32 → (Nat → Int32) → Option (Int32 × (Nat → Int32))) (k22 : Int32 → Int32 → Int32 → Int32 → Int32 → (Nat → Int32) → Option (Int32 × (Nat → Int32))) {w t l c : Nat} (v3 : Int32) (B : Nat → Int32) (hw : w ≤ 1) (ht : t < 2 ^ nb) (hl : l ≤ nb) (hc : t &&& c = c) :
    ∀ d k n acc, k + d = nb → d < n → X6_findsBest_L50 k13 k22 s n (nI w) (nI c) v3 (nI t) (nI l - 1) acc (nI k) B = k22 (nI w) (nI c) v3 (nI t) (nI l) (upd B (10 * t + l) ((fll A t k d).foldl (rs B w K L t l) acc)) := by
  have h9 := h.h9
  have h2 := two_lt h9
  intro d
  induction d with
  | zero =>
    intro k n acc hk hn
    obtain ⟨n, rfl⟩ : ∃ m, n = m + 1 := ⟨n - 1, by omega⟩
    rw [X6_findsBest_L50, h.b3, if_pos (nI_le (by omega) (by omega)), ix_bl, if_pos (inr_lt (by omega) (by decide)), nI_clamp (by omega), Int32.sub_add_cancel, fll]
    rfl
  | succ d ih =>
    intro k n acc hk hn
    obtain ⟨n, rfl⟩ : ∃ m, n = m + 1 := ⟨n - 1, by omega⟩
    rw [X6_findsBest_L50, h.b3, if_neg (nI_ge (by omega) (by omega)), ny_and, if_pos (by rw [hc]), (h.can5 (show k < nb by omega) (show t < 512 by omega)).2.1, Option.bind_some, nI_1, fll]
    cases e : canF A k t with
    | false => rw [if_pos xbf, if_neg (by decide)]; exact ih (k + 1) n acc (by omega) (by omega)
    | true =>
      have hlt : t ||| 2 ^ k < 2 ^ nb := Nat.or_lt_two_pow ht (Nat.pow_lt_pow_right (by decide) (by omega))
      rw [if_neg xbt, if_pos rfl, shl_eq (by omega), ny_or, ix_b, if_pos (inr_lt (by omega) (by decide)), nI_clamp (by omega), h.brings hw (show k < nb by omega) hl, Option.bind_some, List.foldl_cons]
      have hr : rs B w K L t l acc k = X6_most acc (if B (10 * (t ||| 2 ^ k) + k + 1) = NOTV then NOTV else B (10 * (t ||| 2 ^ k) + k + 1) + br w K L k l) := rfl
      by_cases e2 : B (10 * (t ||| 2 ^ k) + k + 1) = -99999999
      · rw [if_pos e2]
        rw [if_pos (show B (10 * (t ||| 2 ^ k) + k + 1) = NOTV from e2)] at hr
        rw [hr]
        exact ih (k + 1) n _ (by omega) (by omega)
      · rw [if_neg e2]
        rw [if_neg (show ¬ B (10 * (t ||| 2 ^ k) + k + 1) = NOTV from e2)] at hr
        rw [hr]
        exact ih (k + 1) n _ (by omega) (by omega)
theorem fb_out (h : SP s bw th cm hd ck zz kd lo se ah ru sg no ti sp nb nt K L E A R F) (k13 : Int32 → Int32 → Int32 → Int32 → (Nat → Int32) → Option (Int32 × (Nat → Int32))) (k22 : Int32 → Int32 → Int32 → Int32 → Int32 → (Nat → Int32) → Option (Int32 × (Nat → Int32))) {w t l c : Nat} (v3 : Int32) (B : Nat → Int32) (ht : t < 2 ^ nb) (hl : l ≤ nb) (hcl : c < 2 ^ nb) (hc : ¬ t &&& c = c) (n : Nat) (acc : Int32) :
    X6_findsBest_L50 k13 k22 s (n + 1) (nI w) (nI c) v3 (nI t) (nI l - 1) acc 0 B = k22 (nI w) (nI c) v3 (nI t) (nI l) (upd B (10 * t + l) acc) := by
  have h9 := h.h9
  have h2 := two_lt h9
  have : t &&& c ≤ t := Nat.and_le_left
  rw [X6_findsBest_L50, h.b3, ix_bl, if_pos (inr_lt (by omega) (by decide)), nI_clamp (by omega), Int32.sub_add_cancel, ny_and, if_neg (fun z => hc ((nI_eq (by omega) (by omega)).mp z))]
  split <;> rfl
theorem fb_22 (h : SP s bw th cm hd ck zz kd lo se ah ru sg no ti sp nb nt K L E A R F) (k13 : Int32 → Int32 → Int32 → Int32 → (Nat → Int32) → Option (Int32 × (Nat → Int32))) {w t c : Nat} (hw : w ≤ 1) (ht : t < 2 ^ nb) (hcl : c < 2 ^ nb) :
    ∀ e l n B, l + e = nb + 1 → e < n → ∃ B', X6_findsBest_L22 k13 s n (nI w) (nI c) (nI (2 ^ nb - 1)) (nI t) (nI l - 1) B = k13 (nI w) (nI c) (nI (2 ^ nb - 1)) (nI t + (-1)) B' ∧ (∀ i, (i < 10 * t + l ∨ 10 * t + nb < i) → B' i = B i) ∧ (t &&& c = c → ∀ j, l ≤ j → j ≤ nb → B' (10 * t + j) = vl B' w K L A nb t j) := by
  have h9 := h.h9
  have h2 := two_lt h9
  intro e
  induction e with
  | zero =>
    intro l n B hl hn
    obtain ⟨n, rfl⟩ : ∃ m, n = m + 1 := ⟨n - 1, by omega⟩
    refine ⟨B, ?_, fun i _ => rfl, fun _ j h1 h2 => by omega⟩
    rw [X6_findsBest_L22, h.b3, show l = nb + 1 by omega, nI_pred, if_pos (Int32.le_refl _)]
  | succ e ih =>
    intro l n B hl hn
    obtain ⟨n, rfl⟩ : ∃ m, n = m + 1 := ⟨n - 1, by omega⟩
    have hlt : ¬ nI nb ≤ nI l - 1 := by
      rw [Int32.le_iff_toInt_le, show (1 : Int32) = nI 1 from rfl, sub_toInt (by omega) (by omega), nI_toInt (by omega)]
      omega
    have hfu : FU = 4999 + 1 := rfl
    have key : ∃ x, X6_findsBest_L22 k13 s (n + 1) (nI w) (nI c) (nI (2 ^ nb - 1)) (nI t) (nI l - 1) B = X6_findsBest_L22 k13 s n (nI w) (nI c) (nI (2 ^ nb - 1)) (nI t) (nI (l + 1) - 1) (upd B (10 * t + l) x) ∧ (t &&& c = c → x = vl B w K L A nb t l) := by
      rw [X6_findsBest_L22, h.b3, if_neg hlt, nI_pred]
      by_cases hc : t &&& c = c
      · by_cases ef : t = 2 ^ nb - 1
        · rw [if_pos (by rw [ef])]
          refine ⟨_, fb_in h _ _ (nI (2 ^ nb - 1)) B hw ht (by omega) hc nb 0 FU 0 (by omega) (by unfold FU; omega), fun _ => ?_⟩
          unfold vl
          rw [if_pos ef]
        · rw [if_neg (fun z => ef ((nI_eq (by omega) (by omega)).mp z))]
          refine ⟨_, fb_in h _ _ (nI (2 ^ nb - 1)) B hw ht (by omega) hc nb 0 FU (-99999999) (by omega) (by unfold FU; omega), fun _ => ?_⟩
          unfold vl
          rw [if_neg ef]
          rfl
      · by_cases ef : t = 2 ^ nb - 1
        · rw [if_pos (by rw [ef]), hfu, fb_out h _ _ _ B ht (by omega) hcl hc]
          exact ⟨0, rfl, fun hh => absurd hh hc⟩
        · rw [if_neg (fun z => ef ((nI_eq (by omega) (by omega)).mp z)), hfu, fb_out h _ _ _ B ht (by omega) hcl hc]
          exact ⟨-99999999, rfl, fun hh => absurd hh hc⟩
    obtain ⟨x, k1, k2⟩ := key
    obtain ⟨B', g1, g2, g3⟩ := ih (l + 1) n (upd B (10 * t + l) x) (by omega) (by omega)
    refine ⟨B', by rw [k1, g1], fun i hi => ?_, fun hc j hj1 hj2 => ?_⟩
    · rw [g2 i (by omega), upd_ne (by omega)]
    · by_cases ej : j = l
      · subst ej
        rw [g2 _ (by omega), upd_eq, k2 hc]
        refine vl_cg (fun i hi => ?_)
        rw [g2 i (by omega), upd_ne (by omega)]
      · exact g3 hc j (by omega) hj2
def ltN (F : Nat → Nat) (nt : Nat) : Nat := if nt = 0 then 0 else F (nt - 1) + 1
theorem SP.lt_le (h : SP s bw th cm hd ck zz kd lo se ah ru sg no ti sp nb nt K L E A R F) : ltN F nt ≤ nb := by
  unfold ltN
  split
  · omega
  · have := h.hF (show nt - 1 < nt by omega)
    omega
theorem fb_13 (h : SP s bw th cm hd ck zz kd lo se ah ru sg no ti sp nb nt K L E A R F) {w : Nat} (hw : w ≤ 1) :
    ∀ e m n B, m = stg F nt + e → m ≤ 2 ^ nb → e < n → (∀ t, m ≤ t → t < 2 ^ nb → t &&& stg F nt = stg F nt → blk B w K L A nb t) → ∃ B', X6_findsBest_L13 s n (nI w) (nI (stg F nt)) (nI (2 ^ nb - 1)) (nI m - 1) B = some (B' (10 * stg F nt + ltN F nt), B') ∧ ∀ t, t < 2 ^ nb → t &&& stg F nt = stg F nt → blk B' w K L A nb t := by
  have h9 := h.h9
  have h2 := two_lt h9
  have hc := h.c_lt
  have hlt := h.lt_le
  obtain ⟨l1, -, -⟩ := h.latest
  intro e
  induction e with
  | zero =>
    intro m n B hm hm2 hn hb
    obtain ⟨n, rfl⟩ : ∃ m, n = m + 1 := ⟨n - 1, by omega⟩
    have e1 : nI m - 1 < nI (stg F nt) := by
      rw [ltI, show (1 : Int32) = nI 1 from rfl, sub_toInt (by omega) (by omega), nI_toInt (by omega)]
      omega
    have e2 : (if nt = 0 then -1 else nI (F (nt - 1))) = nI (ltN F nt) - 1 := by
      unfold ltN
      by_cases h0 : nt = 0
      · rw [if_pos h0, if_pos h0]; decide
      · rw [if_neg h0, if_neg h0, nI_pred]
    refine ⟨B, ?_, fun t ht htc => hb t ?_ ht htc⟩
    · rw [X6_findsBest_L13, if_pos e1, l1, Option.bind_some, e2, ix_bl, if_pos (inr_lt (by omega) (by decide)), nI_clamp (by omega)]
    · have : t &&& stg F nt ≤ t := Nat.and_le_left
      omega
  | succ e ih =>
    intro m n B hm hm2 hn hb
    obtain ⟨n, rfl⟩ : ∃ m, n = m + 1 := ⟨n - 1, by omega⟩
    obtain ⟨t, rfl⟩ : ∃ t, m = t + 1 := ⟨m - 1, by omega⟩
    obtain ⟨B1, g1, g2, g3⟩ := fb_22 h (fun v10 v20 v30 v40 m_behind_0 => X6_findsBest_L13 s n v10 v20 v30 v40 m_behind_0) hw (show t < 2 ^ nb by omega) hc (nb + 1) 0 FU B (by omega) (by unfold FU; omega)
    rw [X6_findsBest_L13, nI_pred, if_neg (nI_nlt (by omega) (by omega)), show (-1 : Int32) = nI 0 - 1 by decide, g1, ← Int32.sub_eq_add_neg]
    refine ih t n B1 (by omega) (by omega) (by omega) (fun u hu hu2 huc => ?_)
    by_cases eu : u = t
    · subst eu
      intro l hl
      exact g3 huc l (Nat.zero_le _) hl
    · exact blk_cg h9 (fun i hi => (g2 i (by omega)).symm) (hb u (by omega) hu2 huc)
/-- the reference's table -/
theorem SP.finds (h : SP s bw th cm hd ck zz kd lo se ah ru sg no ti sp nb nt K L E A R F) {w : Nat} (hw : w ≤ 1) (B : Nat → Int32) : ∃ B', X6_findsBest s B (nI w) = some (B' (10 * stg F nt + ltN F nt), B') ∧ ∀ t, t < 2 ^ nb → t &&& stg F nt = stg F nt → blk B' w K L A nb t := by
  have h9 := h.h9
  have h2 := two_lt h9
  have hc := h.c_lt
  have hpos := Nat.two_pow_pos nb
  obtain ⟨B', g1, g2⟩ := fb_13 h hw (2 ^ nb - stg F nt) (2 ^ nb) FU B (by omega) (Nat.le_refl _) (by unfold FU; omega) (fun t h1 h2 => by omega)
  rw [show nI (2 ^ nb) - 1 = nI (2 ^ nb - 1) from nI_sub (b := 1) (by omega)] at g1
  unfold X6_findsBest X6_allBows
  rw [h.stage, Option.bind_some, Option.bind_some, h.b3, full_eq h9]
  exact ⟨B', g1, g2⟩
end
