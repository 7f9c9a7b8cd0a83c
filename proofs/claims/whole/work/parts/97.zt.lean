/-! kindFor, freed, free -/
theorem upd_back {f : Nat → Int32} {i : Nat} {v : Int32} (h : f i = v) : upd f i v = f := by
  funext j
  by_cases e : j = i
  · rw [e, upd_eq, h]
  · rw [upd_ne e]
theorem upd_upd {f : Nat → Int32} {i : Nat} {v w : Int32} : upd (upd f i v) i w = upd f i w := by
  funext j
  by_cases e : j = i
  · rw [e, upd_eq, upd_eq]
  · rw [upd_ne e, upd_ne e, upd_ne e]
theorem fup_idem {f : Nat → Nat} {i v w : Nat} : fup (fup f i v) i w = fup f i w := by
  funext j
  by_cases e : j = i
  · rw [e, fup_eq, fup_eq]
  · rw [fup_ne e, fup_ne e, fup_ne e]
theorem nd_two_f {x b : Nat} (h : x.testBit b = false) : nd x (2 ^ b) = x := by
  apply Nat.eq_of_testBit_eq
  intro i
  rw [nd_tb, Nat.testBit_two_pow]
  by_cases e : b = i
  · subst e; rw [h]; rfl
  · rw [decide_eq_false e, Bool.not_false, Bool.and_true]
section
variable {s s' kd lo se ah ru sg no ti sp f5 f6 : Nat → Int32} {bw th cm hd ck zz : Int32} {nb nt : Nat} {K L E A R F : Nat → Nat}
theorem kf_yes (h : SP s bw th cm hd ck zz kd lo se ah ru sg no ti sp nb nt K L E A R F) {lo' ah' : Nat → Int32} (hlo : ∀ b, b < nb → lo' b = nI (L b)) (hco : CO ah' nb A) {b : Nat} (hb : b < nb) (hw : way A nb (stg F nt) = true) :
    ∀ d k n n' g5 w5 g6 w6 many kk sc M fo mt s_ B, k + d = 7 → d < n → d < n' → (∀ j, j < nb → j ≠ b → kk j = nI (K j)) → (∀ y, upd s_ (10 + 4 * b) y = upd s (10 + 4 * b) y) → ((k = 0 ∧ g5 = -1000000 ∧ w5 = 0 ∧ g6 = NOTV ∧ w6 = -1) ∨ (g5 = g6 ∧ w5 = w6 ∧ ∃ x, x ≤ 6 ∧ w5 = nI x)) →
      ∃ x q B', X1_bestKind_L8 (nI nb) (nI (stg F nt)) (nI (la9 F nt)) (nI (2 ^ nb - 1)) lo' ah' n (nI b) g5 w5 (nI k) many kk sc M fo mt = some (x, q) ∧ X6_kindFor_L30 f6 n' (nI b) (nI (K b)) w6 g6 (nI k) s_ B = some (x, s, f6, B') := by
  have h9 := h.h9
  have hc := h.c_lt
  intro d
  induction d with
  | zero =>
    intro k n n' g5 w5 g6 w6 many kk sc M fo mt s_ B hk hn hn' hkk hs hst
    obtain ⟨n, rfl⟩ : ∃ m, n = m + 1 := ⟨n - 1, by omega⟩
    obtain ⟨n', rfl⟩ : ∃ m, n' = m + 1 := ⟨n' - 1, by omega⟩
    rcases hst with ⟨h0, -⟩ | ⟨rfl, rfl, x, hx, rfl⟩
    · omega
    · rw [X1_bestKind_L8, if_pos (show (7 : Int32) ≤ nI k from nI_le (a := 7) (by omega) (by omega)), X6_kindFor_L30, if_pos (show (6 : Int32) < nI k from nI_lt (a := 6) (by omega) (by omega)), pu0 s_ (by omega), Option.bind_some, hs, upd_back (h.ca hb).1, if_pos (nI_pos' (by omega))]
      exact ⟨_, _, _, rfl, rfl⟩
  | succ d ih =>
    intro k n n' g5 w5 g6 w6 many kk sc M fo mt s_ B hk hn hn' hkk hs hst
    obtain ⟨n, rfl⟩ : ∃ m, n = m + 1 := ⟨n - 1, by omega⟩
    obtain ⟨n', rfl⟩ : ∃ m, n' = m + 1 := ⟨n' - 1, by omega⟩
    have h' := h.setK hb (show k ≤ 6 by omega)
    obtain ⟨B', b1, b2⟩ := h'.finds (show 0 ≤ 1 by omega) B
    have b1 : X6_findsBest (upd s (10 + 4 * b) (nI k)) B 0 = _ := b1
    obtain ⟨a1, a2, a3⟩ := h.ala
    obtain ⟨v1, -⟩ := h'.val b2
    have hck : CK (upd kk b (nI k)) lo' nb (fup K b k) L := by
      intro j hj
      refine ⟨?_, hlo j hj, ?_, (h.cc hj).2.1⟩
      · by_cases e : j = b
        · rw [e, upd_eq, fup_eq]
        · rw [upd_ne e, fup_ne e, hkk j hj e]
      · by_cases e : j = b
        · rw [e, fup_eq]; omega
        · rw [fup_ne e]; exact (h.cc hj).1
    obtain ⟨many', sco, M', fo', mt', w1, -, -⟩ := weigh_eq h9 hck hco (show 0 ≤ 1 by omega) hw b2 hc a2 many sc M fo mt
    have w1 : X1_weigh many (nI nb) (nI (stg F nt)) (nI (la9 F nt)) (nI (2 ^ nb - 1)) (upd kk b (nI k)) lo' ah' sc M fo mt 0 = _ := w1
    rw [a1] at w1
    have hv := v1 hw
    have hgt := ok_gt hv (by omega)
    have hkk' : ∀ j, j < nb → j ≠ b → upd kk b (nI k) j = nI (K j) := fun j hj hne => by rw [upd_ne hne, hkk j hj hne]
    have hs' : ∀ y, upd (upd s (10 + 4 * b) (nI k)) (10 + 4 * b) y = upd s (10 + 4 * b) y := fun y => upd_upd
    have c5 : X1_bestKind_L8 (nI nb) (nI (stg F nt)) (nI (la9 F nt)) (nI (2 ^ nb - 1)) lo' ah' (n + 1) (nI b) g5 w5 (nI k) many kk sc M fo mt = if B' (10 * stg F nt + ltN F nt) ≤ g5 then X1_bestKind_L8 (nI nb) (nI (stg F nt)) (nI (la9 F nt)) (nI (2 ^ nb - 1)) lo' ah' n (nI b) g5 w5 (nI (k + 1)) many' (upd kk b (nI k)) sco M' fo' mt' else X1_bestKind_L8 (nI nb) (nI (stg F nt)) (nI (la9 F nt)) (nI (2 ^ nb - 1)) lo' ah' n (nI b) (B' (10 * stg F nt + ltN F nt)) (nI k) (nI (k + 1)) many' (upd kk b (nI k)) sco M' fo' mt' := by
      rw [X1_bestKind_L8, if_neg (show ¬ (7 : Int32) ≤ nI k from nI_ge (b := 7) (by omega) (by omega)), if_pos (inr_lt (by omega) (by decide)), nI_clamp (by omega), w1, Option.bind_some, nI_1]
    have c6 : X6_kindFor_L30 f6 (n' + 1) (nI b) (nI (K b)) w6 g6 (nI k) s_ B = if B' (10 * stg F nt + ltN F nt) ≤ g6 then X6_kindFor_L30 f6 n' (nI b) (nI (K b)) w6 (X6_most g6 (B' (10 * stg F nt + ltN F nt))) (nI (k + 1)) (upd s (10 + 4 * b) (nI k)) B' else X6_kindFor_L30 f6 n' (nI b) (nI (K b)) (nI k) (X6_most g6 (B' (10 * stg F nt + ltN F nt))) (nI (k + 1)) (upd s (10 + 4 * b) (nI k)) B' := by
      rw [X6_kindFor_L30, if_neg (show ¬ (6 : Int32) < nI k from nI_nlt (a := 6) (by omega) (by omega)), pu0 s_ (by omega), Option.bind_some, hs, b1, Option.bind_some, nI_1]
    rw [c5, c6]
    rcases hst with ⟨h0, h1, h2, h3, h4⟩ | ⟨rfl, rfl, x, hx, rfl⟩
    · have n5 : ¬ B' (10 * stg F nt + ltN F nt) ≤ g5 := by rw [h1]; exact Int32.not_le.mpr hgt.2
      have n6 : ¬ B' (10 * stg F nt + ltN F nt) ≤ g6 := by rw [h3]; exact Int32.not_le.mpr hgt.1
      rw [if_neg n5, if_neg n6, most_r n6]
      exact ih (k + 1) n n' _ _ _ _ _ _ _ _ _ _ _ _ (by omega) (by omega) (by omega) hkk' hs' (Or.inr ⟨rfl, rfl, k, by omega, rfl⟩)
    · by_cases hle : B' (10 * stg F nt + ltN F nt) ≤ g5
      · rw [if_pos hle, if_pos hle, most_l hle]
        exact ih (k + 1) n n' _ _ _ _ _ _ _ _ _ _ _ _ (by omega) (by omega) (by omega) hkk' hs' (Or.inr ⟨rfl, rfl, x, hx, rfl⟩)
      · rw [if_neg hle, if_neg hle, most_r hle]
        exact ih (k + 1) n n' _ _ _ _ _ _ _ _ _ _ _ _ (by omega) (by omega) (by omega) hkk' hs' (Or.inr ⟨rfl, rfl, k, by omega, rfl⟩)
theorem kf_no (h : SP s bw th cm hd ck zz kd lo se ah ru sg no ti sp nb nt K L E A R F) {b : Nat} (hb : b < nb) (hw : way A nb (stg F nt) = false) :
    ∀ d k n' s_ B, k + d = 7 → d < n' → (∀ y, upd s_ (10 + 4 * b) y = upd s (10 + 4 * b) y) → ∃ B', X6_kindFor_L30 f6 n' (nI b) (nI (K b)) (-1) (-99999999) (nI k) s_ B = some (-1000001 - nI 3, s, upd f6 3 (f6 3 + 1), B') := by
  have h9 := h.h9
  intro d
  induction d with
  | zero =>
    intro k n' s_ B hk hn' hs
    obtain ⟨n', rfl⟩ : ∃ m, n' = m + 1 := ⟨n' - 1, by omega⟩
    refine ⟨B, ?_⟩
    rw [X6_kindFor_L30, if_pos (show (6 : Int32) < nI k from nI_lt (a := 6) (by omega) (by omega)), pu0 s_ (by omega), Option.bind_some, hs, upd_back (h.ca hb).1, if_neg (show ¬ (0 : Int32) ≤ -1 by decide), f6_3]
    rfl
  | succ d ih =>
    intro k n' s_ B hk hn' hs
    obtain ⟨n', rfl⟩ : ∃ m, n' = m + 1 := ⟨n' - 1, by omega⟩
    have h' := h.setK hb (show k ≤ 6 by omega)
    obtain ⟨B', b1, b2⟩ := h'.finds (show 0 ≤ 1 by omega) B
    have b1 : X6_findsBest (upd s (10 + 4 * b) (nI k)) B 0 = _ := b1
    obtain ⟨-, v2⟩ := h'.val b2
    have hv : B' (10 * stg F nt + ltN F nt) = -99999999 := v2 hw
    rw [X6_kindFor_L30, if_neg (show ¬ (6 : Int32) < nI k from nI_nlt (a := 6) (by omega) (by omega)), pu0 s_ (by omega), Option.bind_some, hs, b1, Option.bind_some, nI_1]
    simp only [hv, if_pos (Int32.le_refl (-99999999)), most_l (Int32.le_refl (-99999999))]
    exact ih (k + 1) n' _ B' (by omega) (by omega) (fun y => upd_upd)
theorem p_kindFor (h : SP s bw th cm hd ck zz kd lo se ah ru sg no ti sp nb nt K L E A R F) (hf : FR f5 f6) (c3208 c3211 c3212 c3213 c3214 : Int32) (c3300 c3400 c3500 c3600 c3700 c3800 c3900 c5700 : Nat → Int32) (v1 : Int32) :
    ∃ r5 r6, X5_kindFor f5 bw th cm kd lo ah sg c3208 c3211 c3212 c3213 c3214 c3300 c3400 c3500 c3600 c3700 c3800 c3900 v1 = some r5 ∧ X6_kindFor s f6 c5700 v1 = some r6 ∧ r5.1 = r6.1 ∧ SQ r6.2.1 bw th cm hd ck zz kd lo se ah ru sg no ti sp ∧ FR r5.2.1 r6.2.2.1 := by
  have h9 := h.h9
  have hc := h.c_lt
  obtain ⟨i1, i2⟩ := h.ib v1
  unfold X5_kindFor X6_kindFor
  simp only [f5_0, f6_0, f5_3, Option.bind_some, i1]
  cases hi : X2_isBow bw v1 with
  | false =>
    simp only [if_pos xbf]
    exact ⟨_, _, rfl, rfl, rfl, h.sq, hf.up 0 (by decide)⟩
  | true =>
    obtain ⟨b, hb, rfl⟩ := i2 hi
    obtain ⟨kd', lo', ah', g1, g2, g3⟩ := h.start c3300 c3400 c3500
    obtain ⟨a1, a2, a3⟩ := h.ala
    simp only [if_neg xbt, g1, Option.bind_some, have_eq h9 g3 hc, ge0 s (show b < 9 by omega), (h.ca hb).1]
    cases hw : way A nb (stg F nt) with
    | false =>
      obtain ⟨B', e⟩ := kf_no (f6 := f6) h hb hw 7 0 FU s c5700 (by omega) (by unfold FU; omega) (fun y => rfl)
      have e : X6_kindFor_L30 f6 FU (nI b) (nI (K b)) (-1) (-99999999) 0 s c5700 = _ := e
      simp only [if_pos xbf, e]
      exact ⟨_, _, rfl, rfl, rfl, h.sq, hf.up 3 (by decide)⟩
    | true =>
      obtain ⟨x, q, B', e1, e2⟩ := kf_yes (f6 := f6) h (fun j hj => (g2 j hj).2) g3 hb hw 7 0 FU FU (-1000000) 0 NOTV (-1) c3208 kd' c3600 c3700 c3800 c3900 s c5700 (by omega) (by unfold FU; omega) (by unfold FU; omega) (fun j hj _ => (g2 j hj).1) (fun y => rfl) (Or.inl ⟨rfl, rfl, rfl, rfl, rfl⟩)
      have e2 : X6_kindFor_L30 f6 FU (nI b) (nI (K b)) (-1) (-99999999) 0 s c5700 = _ := e2
      have e1 : X1_bestKind c3208 (nI nb) (nI (stg F nt)) (nI (la9 F nt)) (nI (2 ^ nb - 1)) kd' lo' ah' c3600 c3700 c3800 c3900 (nI b) = some (x, q) := e1
      simp only [if_neg xbt, a3, e1, e2, Option.bind_some]
      exact ⟨_, _, rfl, rfl, rfl, h.sq, hf⟩
/-- what is found so far: alike -/
def FS (v1 f1 fm best by_ : Int32) : Prop := (v1 = 0 ∧ best = -1 ∧ by_ = NOTV) ∨ (v1 = 1 ∧ best = f1 ∧ by_ = fm ∧ okv fm 512 ∧ ∃ x, x < 100 ∧ f1 = nI x)
theorem fr_skip (h : SP s bw th cm hd ck zz kd lo se ah ru sg no ti sp nb nt K L E A R F) {a : Nat} (ha : a < nb) (best by_ : Int32) (B : Nat → Int32) : ∀ d b n', b + d = 10 → nb ≤ b → X6_findsFreed_L10 (n' + d) best (nI (10 * a + b)) by_ s B = X6_findsFreed_L10 n' best (nI (10 * (a + 1))) by_ s B := by
  have h9 := h.h9
  intro d
  induction d with
  | zero =>
    intro b n' hb _
    rw [Nat.add_zero, show 10 * a + b = 10 * (a + 1) by omega]
  | succ d ih =>
    intro b n' hb hbn
    have e1 : (10 : Int32) * nI nb = nI (10 * nb) := nI_mul 10 nb
    have e2 : xirem (nI (10 * a + b)) 10 = nI b := by
      rw [show (10 : Int32) = nI 10 from rfl, xirem_eq (by omega) (by omega), show (10 * a + b) % 10 = b by omega]
    have e3 : X2_isBow bw (nI b) = false := by
      rw [h.bw_]
      unfold X2_isBow
      rw [if_neg (nI_pos (by omega)), if_pos (nI_le hbn (by omega))]
    rw [show n' + (d + 1) = (n' + d) + 1 by omega, X6_findsFreed_L10, h.b3, e1, if_neg (nI_ge (by omega) (by omega)), e2, (h.ib (nI b)).1, Option.bind_some, e3, if_pos xbf, nI_1, show 10 * a + b + 1 = 10 * a + (b + 1) by omega]
    exact ih (b + 1) n' (by omega) (by omega)
theorem fr_in (h : SP s bw th cm hd ck zz kd lo se ah ru sg no ti sp nb nt K L E A R F) {kd' lo' : Nat → Int32} (hk : ∀ b, b < nb → kd' b = nI (K b) ∧ lo' b = nI (L b)) {a : Nat} (ha : a < nb) (k4 : Int32 → Int32 → Int32 → Int32 → Int32 → (Nat → Int32) → (Nat → Int32) → (Nat → Int32) → (Nat → Int32) → (Nat → Int32) → Option (Bool × Int32 × Int32 × Int32 × (Nat → Int32) × (Nat → Int32) × (Nat → Int32) × (Nat → Int32) × (Nat → Int32))) :
    ∀ d b n n' v1 f1 fm best by_ many ah' sc M fo mt B, b + d = nb → d < n → CO ah' nb A → FS v1 f1 fm best by_ → ∃ v1' f1' fm' best' by_' many' ah'' sc' M' fo' mt' B', X1_freeOne_L14 k4 (nI nb) (nI (stg F nt)) (nI (la9 F nt)) (nI (2 ^ nb - 1)) kd' lo' n v1 (nI a) (nI b) many f1 fm ah' sc M fo mt = k4 v1' (nI (a + 1)) many' f1' fm' ah'' sc' M' fo' mt' ∧ X6_findsFreed_L10 (n' + d) best (nI (10 * a + b)) by_ s B = X6_findsFreed_L10 n' best' (nI (10 * a + nb)) by_' s B' ∧ CO ah'' nb A ∧ FS v1' f1' fm' best' by_' := by
  have h9 := h.h9
  have hc := h.c_lt
  intro d
  induction d with
  | zero =>
    intro b n n' v1 f1 fm best by_ many ah' sc M fo mt B hb hn hco hst
    obtain ⟨n, rfl⟩ : ∃ m, n = m + 1 := ⟨n - 1, by omega⟩
    refine ⟨v1, f1, fm, best, by_, many, ah', sc, M, fo, mt, B, ?_, ?_, hco, hst⟩
    · rw [X1_freeOne_L14, if_pos (nI_le (by omega) (by omega)), nI_1]
    · rw [Nat.add_zero, show b = nb by omega]
  | succ d ih =>
    intro b n n' v1 f1 fm best by_ many ah' sc M fo mt B hb hn hco hst
    obtain ⟨n, rfl⟩ : ∃ m, n = m + 1 := ⟨n - 1, by omega⟩
    have hbn : b < nb := by omega
    have e1 : (10 : Int32) * nI nb = nI (10 * nb) := nI_mul 10 nb
    have e2 : xirem (nI (10 * a + b)) 10 = nI b := by
      rw [show (10 : Int32) = nI 10 from rfl, xirem_eq (by omega) (by omega), show (10 * a + b) % 10 = b by omega]
    have e3 : X2_isBow bw (nI b) = true := by rw [h.bw_]; exact isBow_k h9 hbn
    have e4 : nI (10 * a + b) / 10 = nI a := by
      rw [show (10 : Int32) = nI 10 from rfl, nI_div (by omega) (by omega), show (10 * a + b) / 10 = a by omega]
    have e5 : ((10 : Int32) * nI a) + nI b = nI (10 * a + b) := by rw [show (10 : Int32) * nI a = nI (10 * a) from nI_mul 10 a, nI_add]
    obtain ⟨-, -, -, -, c4, c5⟩ := h.cc hbn
    have hA := h.A_lt hbn
    have s3 := (h.ca hbn).2.2.2
    have hah := (hco b hbn).1
    have hco' : CO (upd (upd ah' b (nI (nd (A b) (2 ^ a)))) b (nI (A b))) nb A := by
      intro j hj
      rw [upd_upd]
      by_cases ej : j = b
      · rw [ej, upd_eq]; exact ⟨rfl, c4⟩
      · rw [upd_ne ej]; exact hco j hj
    rw [X1_freeOne_L14, if_neg (nI_ge (by omega) (by omega)), show n' + (d + 1) = (n' + d) + 1 by omega, X6_findsFreed_L10, h.b3, e1, if_neg (nI_ge (by omega) (by omega)), e2, (h.ib (nI b)).1, Option.bind_some, e3, if_neg xbt, ge3 s (by omega), Option.bind_some, s3, e4, isIn_tb (by omega) (by omega)]
    unfold X1_freeOne_L82
    simp only [if_pos (inr_lt (show b < 9 by omega) (show 9 ≤ 2 ^ 31 by decide)), nI_clamp (show b < 2 ^ 31 by omega), hah, upd_eq, shl_eq (show a < 31 by omega), ny_nd, e5, nI_1, Option.bind_some]
    cases et : (A b).testBit a with
    | false =>
      rw [if_pos (by rw [nd_two_f et]), if_pos xbf]
      exact ih (b + 1) n n' v1 f1 fm best by_ many _ sc M fo mt B (by omega) (by omega) hco' hst
    | true =>
      have hlt := nd_two_lt et
      have hnd2 : nd (A b) (2 ^ a) < 2 ^ nb := nd_lt c4
      have htb : (nd (A b) (2 ^ a)).testBit b = false := by rw [nd_tb, c5]; rfl
      have h' := h.setA hbn hnd2 htb
      obtain ⟨B', b1, b2⟩ := h'.finds (show 0 ≤ 1 by omega) B
      have b1 : X6_findsBest (upd s (13 + 4 * b) (nI (nd (A b) (2 ^ a)))) B 0 = _ := b1
      obtain ⟨a1, a2, a3⟩ := h.ala
      obtain ⟨w1, w2⟩ := h'.val b2
      have hco1 : CO (upd ah' b (nI (nd (A b) (2 ^ a)))) nb (fup A b (nd (A b) (2 ^ a))) := by
        intro j hj
        by_cases ej : j = b
        · rw [ej, upd_eq, fup_eq]; exact ⟨rfl, hnd2⟩
        · rw [upd_ne ej, fup_ne ej]; exact hco j hj
      rw [if_neg (fun z => by have := (nI_eq (by omega) (by omega)).mp z; omega), if_neg xbt, pu3 s (by omega), Option.bind_some, b1, Option.bind_some, pu3 _ (by omega), Option.bind_some, upd_upd (f := s), upd_back s3, have_eq h9 hco1 hc, Option.bind_some]
      cases hw : way (fup A b (nd (A b) (2 ^ a))) nb (stg F nt) with
      | false =>
        have hv := w2 hw
        have hle : B' (10 * stg F nt + ltN F nt) ≤ by_ := by
          rw [hv]
          rcases hst with ⟨-, -, h3⟩ | ⟨-, -, h3, h4, -⟩
          · rw [h3]; exact Int32.le_refl _
          · rw [h3]; exact Int32.le_of_lt (ok_gt h4 (by omega)).1
        rw [if_pos xbf, if_pos hle, most_l hle]
        exact ih (b + 1) n n' v1 f1 fm best by_ many _ sc M fo mt B' (by omega) (by omega) hco' hst
      | true =>
        obtain ⟨many', sco, M', fo', mt', q1, -, -⟩ := weigh_eq h9 (h.ckk hk) hco1 (show 0 ≤ 1 by omega) hw b2 hc a2 many sc M fo mt
        have q1 : X1_weigh many (nI nb) (nI (stg F nt)) (nI (la9 F nt)) (nI (2 ^ nb - 1)) kd' lo' (upd ah' b (nI (nd (A b) (2 ^ a)))) sc M fo mt 0 = _ := q1
        rw [a1] at q1
        have hv := w1 hw
        rw [if_neg xbt, q1, Option.bind_some]
        rcases hst with ⟨h1, h2, h3⟩ | ⟨h1, h2, h3, h4, h5⟩
        · have hn6 : ¬ B' (10 * stg F nt + ltN F nt) ≤ by_ := by rw [h3]; exact Int32.not_le.mpr (ok_gt hv (by omega)).1
          rw [if_pos h1, if_neg hn6, most_r hn6]
          exact ih (b + 1) n n' _ _ _ _ _ _ _ _ _ _ _ _ (by omega) (by omega) hco' (Or.inr ⟨rfl, rfl, rfl, hv, 10 * a + b, by omega, rfl⟩)
        · rw [if_neg (by rw [h1]; decide)]
          by_cases hle : B' (10 * stg F nt + ltN F nt) ≤ fm
          · rw [if_pos hle, if_pos (by rw [h3]; exact hle), most_l (by rw [h3]; exact hle)]
            exact ih (b + 1) n n' _ _ _ _ _ _ _ _ _ _ _ _ (by omega) (by omega) hco' (Or.inr ⟨h1, h2, h3, h4, h5⟩)
          · rw [if_neg hle, if_neg (by rw [h3]; exact hle), most_r (by rw [h3]; exact hle)]
            exact ih (b + 1) n n' _ _ _ _ _ _ _ _ _ _ _ _ (by omega) (by omega) hco' (Or.inr ⟨rfl, rfl, rfl, hv, 10 * a + b, by omega, rfl⟩)
theorem SP.free (h : SP s bw th cm hd ck zz kd lo se ah ru sg no ti sp nb nt K L E A R F) {kd' lo' ah' : Nat → Int32} (hk : ∀ b, b < nb → kd' b = nI (K b) ∧ lo' b = nI (L b)) (hco : CO ah' nb A) (many f1 fm : Int32) (sc M fo mt B : Nat → Int32) :
    ∃ q best by_ B', X1_freeOne many (nI nb) (nI (stg F nt)) (nI (la9 F nt)) (nI (2 ^ nb - 1)) f1 fm kd' lo' ah' sc M fo mt = some q ∧ X6_findsFreed s B = some (best, by_, s, B') ∧ ((q.1 = false ∧ best = -1) ∨ (q.1 = true ∧ best = q.2.2.1 ∧ by_ = q.2.2.2.1 ∧ ∃ x, x < 100 ∧ best = nI x)) := by
  have h9 := h.h9
  have loop : ∀ e a n n' v1 f1 fm best by_ many ah' sc M fo mt B, a + e = nb → e < n → CO ah' nb A → FS v1 f1 fm best by_ → ∃ q best' by_' B', X1_freeOne_L4 (nI nb) (nI (stg F nt)) (nI (la9 F nt)) (nI (2 ^ nb - 1)) kd' lo' n v1 (nI a) many f1 fm ah' sc M fo mt = some q ∧ X6_findsFreed_L10 (n' + 1 + 10 * e) best (nI (10 * a)) by_ s B = some (best', by_', s, B') ∧ ((q.1 = false ∧ best' = -1) ∨ (q.1 = true ∧ best' = q.2.2.1 ∧ by_' = q.2.2.2.1 ∧ ∃ x, x < 100 ∧ best' = nI x)) := by
    intro e
    induction e with
    | zero =>
      intro a n n' v1 f1 fm best by_ many ah' sc M fo mt B ha hn hco hst
      obtain ⟨n, rfl⟩ : ∃ m, n = m + 1 := ⟨n - 1, by omega⟩
      have e1 : (10 : Int32) * nI nb = nI (10 * nb) := nI_mul 10 nb
      rw [X1_freeOne_L4, if_pos (nI_le (by omega) (by omega)), Nat.mul_zero, Nat.add_zero, X6_findsFreed_L10, h.b3, e1, if_pos (nI_le (by omega) (by omega))]
      rcases hst with ⟨h1, h2, h3⟩ | ⟨h1, h2, h3, h4, x, h5, h6⟩
      · rw [if_pos (Or.inl h1)]
        exact ⟨_, _, _, _, rfl, rfl, Or.inl ⟨by rw [h1]; rfl, h2⟩⟩
      · rw [if_pos (Or.inr h1)]
        exact ⟨_, _, _, _, rfl, rfl, Or.inr ⟨by rw [h1]; rfl, h2, h3, x, h5, h2.trans h6⟩⟩
    | succ e ih =>
      intro a n n' v1 f1 fm best by_ many ah' sc M fo mt B ha hn hco hst
      obtain ⟨n, rfl⟩ : ∃ m, n = m + 1 := ⟨n - 1, by omega⟩
      obtain ⟨v1', f1', fm', best', by_', many', ah'', sc', M', fo', mt', B', g1, g2, g3, g4⟩ := fr_in h hk (show a < nb by omega) (fun v10 v20 od_many_0 od_freedOne_0 od_freedMost_0 od_aheads_0 od_scores_0 od_most_0 od_followers_0 od_mostThen_0 => X1_freeOne_L4 (nI nb) (nI (stg F nt)) (nI (la9 F nt)) (nI (2 ^ nb - 1)) kd' lo' n v10 v20 od_many_0 od_freedOne_0 od_freedMost_0 od_aheads_0 od_scores_0 od_most_0 od_followers_0 od_mostThen_0) nb 0 FU (n' + 1 + 10 * e + (10 - nb)) v1 f1 fm best by_ many ah' sc M fo mt B (by omega) (by unfold FU; omega) hco hst
      have g5 := fr_skip h (show a < nb by omega) best' by_' B' (10 - nb) nb (n' + 1 + 10 * e) (by omega) (Nat.le_refl _)
      rw [show 10 * a + 0 = 10 * a from rfl, show n' + 1 + 10 * e + (10 - nb) + nb = n' + 1 + 10 * (e + 1) by omega] at g2
      rw [X1_freeOne_L4, if_neg (nI_ge (by omega) (by omega)), show (0 : Int32) = nI 0 from rfl, g1, g2, g5]
      exact ih (a + 1) n n' _ _ _ _ _ _ _ _ _ _ _ _ (by omega) (by omega) g3 g4
  obtain ⟨q, best, by_, B', e1, e2, e3⟩ := loop nb 0 FU (FU - 1 - 10 * nb) 0 f1 fm (-1) NOTV many ah' sc M fo mt B (by omega) (by unfold FU; omega) hco (Or.inl ⟨rfl, rfl, rfl⟩)
  rw [show FU - 1 - 10 * nb + 1 + 10 * nb = FU by unfold FU; omega] at e2
  exact ⟨q, best, by_, B', e1, e2, e3⟩
theorem p_freed (h : SP s bw th cm hd ck zz kd lo se ah ru sg no ti sp nb nt K L E A R F) (hf : FR f5 f6) (c3208 c3215 c3216 : Int32) (c3300 c3400 c3500 c3600 c3700 c3800 c3900 c5700 : Nat → Int32) :
    ∃ r5 r6, X5_freed f5 bw th cm kd lo ah sg c3208 c3215 c3216 c3300 c3400 c3500 c3600 c3700 c3800 c3900 = some r5 ∧ X6_freed s f6 c5700 = some r6 ∧ r5.1 = r6.1 ∧ SQ r6.2.2.1 bw th cm hd ck zz kd lo se ah ru sg no ti sp ∧ FR r5.2.1 r6.2.2.2.1 := by
  obtain ⟨kd', lo', ah', g1, g2, g3⟩ := h.start c3300 c3400 c3500
  obtain ⟨a1, a2, a3⟩ := h.ala
  obtain ⟨q, best, by_, B', e1, e2, e3⟩ := h.free g2 g3 c3208 c3215 c3216 c3600 c3700 c3800 c3900 c5700
  unfold X5_freed X6_freed
  simp only [f5_3, f6_3, Option.bind_some, g1, a3, e1, e2]
  rcases e3 with ⟨h1, h2⟩ | ⟨h1, h2, h3, x, hx, h4⟩
  · simp only [h1, if_pos xbf, h2, if_neg (show ¬ (0 : Int32) ≤ -1 by decide)]
    exact ⟨_, _, rfl, rfl, rfl, h.sq, hf.up 3 (by decide)⟩
  · have hp : (0 : Int32) ≤ best := by rw [h4]; exact nI_pos' (by omega)
    simp only [h1, if_neg xbt, if_pos hp]
    exact ⟨_, _, rfl, rfl, h2.symm, h.sq, hf⟩
theorem p_free (h : SP s bw th cm hd ck zz kd lo se ah ru sg no ti sp nb nt K L E A R F) (hf : FR f5 f6) (c3208 c3215 c3216 : Int32) (c3300 c3400 c3500 c3600 c3700 c3800 c3900 c5700 : Nat → Int32) :
    ∃ r5 r6, X5_free f5 bw th cm kd lo ah sg c3208 c3215 c3216 c3300 c3400 c3500 c3600 c3700 c3800 c3900 = some r5 ∧ X6_free s f6 c5700 = some r6 ∧ r5.1 = r6.1 ∧ SQ r6.2.2.1 bw th cm hd ck zz kd lo se ah ru sg no ti sp ∧ FR r5.2.1 r6.2.2.2.1 := by
  obtain ⟨kd', lo', ah', g1, g2, g3⟩ := h.start c3300 c3400 c3500
  obtain ⟨a1, a2, a3⟩ := h.ala
  obtain ⟨q, best, by_, B', e1, e2, e3⟩ := h.free g2 g3 c3208 c3215 c3216 c3600 c3700 c3800 c3900 c5700
  unfold X5_free X6_free
  simp only [f5_3, f6_3, Option.bind_some, g1, a3, e1, e2]
  rcases e3 with ⟨h1, h2⟩ | ⟨h1, h2, h3, x, hx, h4⟩
  · simp only [h1, if_pos xbf, h2, if_neg (show ¬ (0 : Int32) ≤ -1 by decide)]
    exact ⟨_, _, rfl, rfl, rfl, h.sq, hf.up 3 (by decide)⟩
  · have hp : (0 : Int32) ≤ best := by rw [h4]; exact nI_pos' (by omega)
    simp only [h1, if_neg xbt, if_pos hp]
    exact ⟨_, _, rfl, rfl, h3.symm, h.sq, hf⟩
end
