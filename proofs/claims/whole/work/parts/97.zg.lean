/-! loops over the bows: who can come, falls, between, counts -/
def cset (A : Nat → Nat) (c : Nat) : Nat → Nat
  | 0 => 0
  | n + 1 => cset A c n ||| (if canF A n c = true then 2 ^ n else 0)
theorem cset_t {A : Nat → Nat} {c n : Nat} (h : canF A n c = true) : cset A c (n + 1) = cset A c n ||| 2 ^ n := by rw [cset, if_pos h]
theorem cset_f {A : Nat → Nat} {c n : Nat} (h : canF A n c = false) : cset A c (n + 1) = cset A c n := by rw [cset, h, if_neg (by decide), Nat.or_zero]
theorem cset_tb (A : Nat → Nat) (c n b : Nat) : (cset A c n).testBit b = (decide (b < n) && canF A b c) := by
  induction n with
  | zero => rw [cset, Nat.zero_testBit, decide_eq_false (Nat.not_lt_zero b), Bool.false_and]
  | succ n ih =>
    cases h : canF A n c with
    | true =>
      rw [cset_t h, Nat.testBit_or, ih, Nat.testBit_two_pow]
      by_cases e : n = b
      · subst e; rw [decide_eq_true rfl, h, decide_eq_true (Nat.lt_succ_self n), Bool.or_true]; rfl
      · rw [decide_eq_false e, Bool.or_false]
        by_cases h1 : b < n
        · rw [decide_eq_true h1, decide_eq_true (by omega : b < n + 1)]
        · rw [decide_eq_false h1, decide_eq_false (by omega : ¬ b < n + 1)]
    | false =>
      rw [cset_f h, ih]
      by_cases e : n = b
      · subst e; rw [h, Bool.and_false, Bool.and_false]
      · by_cases h1 : b < n
        · rw [decide_eq_true h1, decide_eq_true (by omega : b < n + 1)]
        · rw [decide_eq_false h1, decide_eq_false (by omega : ¬ b < n + 1)]
theorem cset_lt (A : Nat → Nat) (c n : Nat) : cset A c n < 2 ^ n := Nat.lt_pow_two_of_testBit _ (fun i hi => by rw [cset_tb, decide_eq_false (by omega), Bool.false_and])
section
variable {s s' kd lo se ah ru sg no ti sp f5 f6 : Nat → Int32} {bw th cm hd ck zz : Int32} {nb nt : Nat} {K L E A R F : Nat → Nat}
theorem SP.comers (h : SP s bw th cm hd ck zz kd lo se ah ru sg no ti sp nb nt K L E A R F) {c : Nat} (hc : c < 512) : X2_comers bw (nI c) ah = some (nI (cset A c nb)) ∧ X6_canSet s (nI c) = some (nI (cset A c nb)) := by
  have h9 := h.h9
  have l5 : ∀ d b n, b + d = nb → d < n → X2_comers_L4 (nI nb) (nI c) ah n (nI (cset A c b)) (nI b) = some (nI (cset A c nb)) := by
    intro d
    induction d with
    | zero =>
      intro b n hb hn
      obtain ⟨n, rfl⟩ : ∃ m, n = m + 1 := ⟨n - 1, by omega⟩
      rw [X2_comers_L4, if_pos (nI_le (by omega) (by omega)), show b = nb by omega]
    | succ d ih =>
      intro b n hb hn
      obtain ⟨n, rfl⟩ : ∃ m, n = m + 1 := ⟨n - 1, by omega⟩
      have h1 := ih (b + 1) n (by omega) (by omega)
      rw [X2_comers_L4, if_neg (nI_ge (by omega) (by omega)), (h.can5 (show b < nb by omega) hc).1, Option.bind_some, nI_1]
      cases hcan : canF A b c with
      | false => rw [cset_f hcan] at h1; rw [if_pos xbf]; exact h1
      | true => rw [cset_t hcan] at h1; rw [if_neg xbt, shl_eq (by omega), ny_or]; exact h1
  have l6 : ∀ d b n, b + d = nb → d < n → X6_canSet_L4 s n (nI c) (nI (cset A c b)) (nI b) = some (nI (cset A c nb)) := by
    intro d
    induction d with
    | zero =>
      intro b n hb hn
      obtain ⟨n, rfl⟩ : ∃ m, n = m + 1 := ⟨n - 1, by omega⟩
      rw [X6_canSet_L4, h.b3, if_pos (nI_le (by omega) (by omega)), show b = nb by omega]
    | succ d ih =>
      intro b n hb hn
      obtain ⟨n, rfl⟩ : ∃ m, n = m + 1 := ⟨n - 1, by omega⟩
      have h1 := ih (b + 1) n (by omega) (by omega)
      rw [X6_canSet_L4, h.b3, if_neg (nI_ge (by omega) (by omega)), (h.can5 (show b < nb by omega) hc).2.1, Option.bind_some, nI_1]
      cases hcan : canF A b c with
      | false => rw [cset_f hcan] at h1; rw [if_pos xbf, ny_or0]; exact h1
      | true => rw [cset_t hcan] at h1; rw [if_neg xbt, shl_eq (by omega), ny_or]; exact h1
  constructor
  · unfold X2_comers
    rw [h.bw_]
    exact l5 nb 0 FU (by omega) (by unfold FU; omega)
  · exact l6 nb 0 FU (by omega) (by unfold FU; omega)
theorem SP.falls (h : SP s bw th cm hd ck zz kd lo se ah ru sg no ti sp nb nt K L E A R F) : ∃ r, X2_falls th kd lo sg = some r ∧ X6_fallsOfStage s = some r := by
  have h9 := h.h9
  have ht := h.ht
  have loop : ∀ d i n acc, i + d = nt → d < n → ∃ r, X2_falls_L6 (nI nt) kd lo sg n acc (nI (lat K L F i)) (nI i) = some r ∧ X6_fallsOfStage_L4 s n acc (nI i) = some r := by
    intro d
    induction d with
    | zero =>
      intro i n acc hi hn
      obtain ⟨n, rfl⟩ : ∃ m, n = m + 1 := ⟨n - 1, by omega⟩
      rw [X2_falls_L6, X6_fallsOfStage_L4, h.b2, if_pos (nI_le (by omega) (by omega)), if_pos (nI_le (by omega) (by omega))]
      exact ⟨_, rfl, rfl⟩
    | succ d ih =>
      intro i n acc hi hn
      obtain ⟨n, rfl⟩ : ∃ m, n = m + 1 := ⟨n - 1, by omega⟩
      have hF := h.hF (show i < nt by omega)
      obtain ⟨w1, w2⟩ := h.who (show i < nt by omega)
      obtain ⟨v1, v2⟩ := h.lv hF
      have hlo := (h.cb hF).2.1
      have hs1 := (h.ca hF).2.1
      have hr : X6_fallsOfStage_L4 s (n + 1) acc (nI i) = X6_fallsOfStage_L34 (fun v10 v20 => X6_fallsOfStage_L4 s n v10 v20) s (nI i) acc (nI (lat K L F i)) := by
        rw [X6_fallsOfStage_L4, h.b2, if_neg (nI_ge (by omega) (by omega))]
        rcases i with _ | i
        · rw [if_pos (show nI 0 = (0 : Int32) from rfl)]; rfl
        · rw [if_neg (nI_ne0 (by omega) (by omega)), nI_pred, (h.who (show i < nt by omega)).1, Option.bind_some, (h.lv (h.hF (show i < nt by omega))).1, Option.bind_some]
          rfl
      rw [hr]
      unfold X6_fallsOfStage_L34
      rw [X2_falls_L6, if_neg (nI_ge (by omega) (by omega))]
      simp only [if_pos (inr_lt (show i < 9 by omega) (by decide)), nI_clamp (show i < 2 ^ 31 by omega), w2, w1, if_pos (inr_lt (show F i < 9 by omega) (by decide)), nI_clamp (show F i < 2 ^ 31 by omega), hlo, v2, Option.bind_some, ge1 s (show F i < 9 by omega), hs1, nI_1]
      by_cases hle : nI (lat K L F i) ≤ nI (L (F i))
      · rw [if_pos hle, if_pos hle, Int32.add_zero]
        exact ih (i + 1) n acc (by omega) (by omega)
      · rw [if_neg hle, if_neg hle]
        exact ih (i + 1) n (acc + 1) (by omega) (by omega)
  unfold X2_falls X6_fallsOfStage
  rw [h.th_]
  exact loop nt 0 FU 0 (by omega) (by unfold FU; omega)
theorem p_now (h : SP s bw th cm hd ck zz kd lo se ah ru sg no ti sp nb nt K L E A R F) (hf : FR f5 f6) (v1 : Int32) :
    ∃ r5 r6, X5_now f5 bw th cm hd ck kd lo ah sg v1 = some r5 ∧ X6_now s f6 v1 = some r6 ∧ r5.1 = r6.1 ∧ FR r5.2 r6.2 := by
  obtain ⟨c1, c2⟩ := h.comers h.c512
  rw [← h.cm_] at c1
  obtain ⟨r, g1, g2⟩ := h.falls
  obtain ⟨⟨-, -, -, -, a5, a6, a7, a8, a9, -⟩, -⟩ := id h
  unfold X5_now X6_now
  simp only [f5_0, f6_0, Option.bind_some, h.stage, c1, c2, g1, g2]
  by_cases e0 : v1 = 0
  · rw [if_pos e0, if_pos e0]; exact ⟨_, _, rfl, rfl, a6.trans a5.symm, hf⟩
  rw [if_neg e0, if_neg e0]
  by_cases e1 : v1 = 1
  · rw [if_pos e1, if_pos e1]; exact ⟨_, _, rfl, rfl, a8, hf⟩
  rw [if_neg e1, if_neg e1]
  by_cases e2 : v1 = 2
  · rw [if_pos e2, if_pos e2]; exact ⟨_, _, rfl, rfl, a9, hf⟩
  rw [if_neg e2, if_neg e2]
  by_cases e3 : v1 = 3
  · rw [if_pos e3, if_pos e3]; exact ⟨_, _, rfl, rfl, a7, hf⟩
  rw [if_neg e3, if_neg e3]
  by_cases e4 : v1 = 4
  · rw [if_pos e4, if_pos e4]; exact ⟨_, _, rfl, rfl, rfl, hf⟩
  rw [if_neg e4, if_neg e4]
  by_cases e5 : v1 = 5
  · rw [if_pos e5, if_pos e5]; exact ⟨_, _, rfl, rfl, rfl, hf⟩
  rw [if_neg e5, if_neg e5]
  exact ⟨_, _, rfl, rfl, rfl, hf.up 0 (by decide)⟩
theorem most_l {g t : Int32} (h : t ≤ g) : X6_most g t = g := by
  unfold X6_most
  by_cases e : g ≤ t
  · rw [if_pos e]; exact Int32.le_antisymm h e
  · rw [if_neg e]
theorem most_r {g t : Int32} (h : ¬ t ≤ g) : X6_most g t = t := by
  unfold X6_most
  rw [if_pos (Int32.le_of_lt (Int32.not_le.mp h))]
theorem p_between (h : SP s bw th cm hd ck zz kd lo se ah ru sg no ti sp nb nt K L E A R F) (hf : FR f5 f6) (v1 v2 : Int32) :
    ∃ r5 r6, X5_between f5 bw kd lo v1 v2 = some r5 ∧ X6_between s f6 v1 v2 = some r6 ∧ r5.1 = r6.1 ∧ FR r5.2 r6.2 := by
  have h9 := h.h9
  obtain ⟨i1, i2⟩ := h.ib v1
  obtain ⟨j1, j2⟩ := h.ib v2
  have m1 : (-1 : Int32).toInt = -1 := by decide
  have z0 : (0 : Int32).toInt = 0 := by decide
  unfold X5_between X6_between
  simp only [f5_0, f6_0, f5_3, Option.bind_some, i1, j1]
  cases hi : X2_isBow bw v1 with
  | false =>
    simp only [if_pos xbf]
    exact ⟨_, _, rfl, rfl, rfl, hf.up 0 (by decide)⟩
  | true =>
    obtain ⟨a, ha, rfl⟩ := i2 hi
    cases hi2 : X2_isBow bw v2 with
    | false =>
      simp only [if_pos xbf, if_neg xbt]
      exact ⟨_, _, rfl, rfl, rfl, hf.up 0 (by decide)⟩
    | true =>
      obtain ⟨b, hb, rfl⟩ := j2 hi2
      by_cases e : a = b
      · subst e
        simp only [if_neg xbt, if_true]
        exact ⟨_, _, rfl, rfl, rfl, hf.up 0 (by decide)⟩
      · simp only [if_neg xbt, if_neg (show ¬ nI a = nI b from fun z => e ((nI_eq (by omega) (by omega)).mp z))]
        have loop : ∀ d c n g w, c + d = nb → d < n → (-1 : Int32) ≤ g → ((w = -1 ∧ g = -1 ∧ ∀ x, x < c → x = a ∨ x = b) ∨ 0 ≤ w) → ∃ w', X5_between_L58 f5 (nI nb) kd lo n (nI a) (nI b) g w (nI c) = some (w', f5) ∧ X6_between_L35 s f6 n (nI a) (nI b) w g (nI c) = (if 0 ≤ w' then some (w', f6) else some (-1000001 - nI 3, upd f6 3 (f6 3 + 1))) ∧ ((w' = -1 ∧ ∀ x, x < nb → x = a ∨ x = b) ∨ 0 ≤ w') := by
          intro d
          induction d with
          | zero =>
            intro c n g w hc hn hg hw
            obtain ⟨n, rfl⟩ : ∃ m, n = m + 1 := ⟨n - 1, by omega⟩
            refine ⟨w, ?_, ?_, ?_⟩
            · rw [X5_between_L58, if_pos (nI_le (by omega) (by omega))]
            · rw [X6_between_L35, h.b3, if_pos (nI_le (by omega) (by omega)), f6_3]; rfl
            · rcases hw with ⟨h1, -, h2⟩ | h1
              · exact Or.inl ⟨h1, fun x hx => h2 x (by omega)⟩
              · exact Or.inr h1
          | succ d ih =>
            intro c n g w hc hn hg hw
            obtain ⟨n, rfl⟩ : ∃ m, n = m + 1 := ⟨n - 1, by omega⟩
            rw [X5_between_L58, X6_between_L35, h.b3, if_neg (nI_ge (by omega) (by omega)), if_neg (nI_ge (by omega) (by omega))]
            unfold X6_between_L85
            simp only [nI_1]
            have hskip : (c = a ∨ c = b) → ∃ w', X5_between_L58 f5 (nI nb) kd lo n (nI a) (nI b) g w (nI (c + 1)) = some (w', f5) ∧ (if (-1 : Int32) ≤ g then X6_between_L35 s f6 n (nI a) (nI b) w (X6_most g (-1)) (nI (c + 1)) else X6_between_L35 s f6 n (nI a) (nI b) (nI c) (X6_most g (-1)) (nI (c + 1))) = (if 0 ≤ w' then some (w', f6) else some (-1000001 - nI 3, upd f6 3 (f6 3 + 1))) ∧ ((w' = -1 ∧ ∀ x, x < nb → x = a ∨ x = b) ∨ 0 ≤ w') := by
              intro hab
              rw [if_pos hg, most_l hg]
              refine ih (c + 1) n g w (by omega) (by omega) hg ?_
              rcases hw with ⟨h1, h2, h3⟩ | h1
              · refine Or.inl ⟨h1, h2, fun x hx => ?_⟩
                by_cases e : x = c
                · subst e; exact hab
                · exact h3 x (by omega)
              · exact Or.inr h1
            by_cases ea : c = a
            · rw [if_pos (by rw [ea]), if_pos (by rw [ea])]
              exact hskip (Or.inl ea)
            · by_cases eb : c = b
              · rw [if_neg (fun z => ea ((nI_eq (by omega) (by omega)).mp z)), if_pos (by rw [eb]), if_neg (fun z => ea ((nI_eq (by omega) (by omega)).mp z)), if_pos (by rw [eb])]
                exact hskip (Or.inr eb)
              · have hcb : c < nb := by omega
                have la := lv_le (k := K a) (h.cc ha).2.1
                have lc := lv_le (k := K c) (h.cc hcb).2.1
                obtain ⟨x1, x2⟩ := h.lv ha
                obtain ⟨y1, y2⟩ := h.nz hcb (p := lvN (K a) (L a)) (by omega)
                obtain ⟨z1, z2⟩ := h.lv hcb
                obtain ⟨u1, u2⟩ := h.nz hb (p := lvN (K c) (L c)) (by omega)
                have n1 := nz_le (k := K c) (p := lvN (K a) (L a)) (h.cc hcb).2.1 (by omega)
                have n2 := nz_le (k := K b) (p := lvN (K c) (L c)) (h.cc hb).2.1 (by omega)
                rw [if_neg (fun z => ea ((nI_eq (by omega) (by omega)).mp z)), if_neg (fun z => eb ((nI_eq (by omega) (by omega)).mp z)), if_neg (fun z => ea ((nI_eq (by omega) (by omega)).mp z)), if_neg (fun z => eb ((nI_eq (by omega) (by omega)).mp z)), x1, x2]
                simp only [Option.bind_some, y1, y2, z1, z2, u1, u2, nI_add]
                have ht : (nI (nzN (K c) (L c) (lvN (K a) (L a)) + nzN (K b) (L b) (lvN (K c) (L c)))).toInt = ((nzN (K c) (L c) (lvN (K a) (L a)) + nzN (K b) (L b) (lvN (K c) (L c)) : Nat) : Int) := nI_toInt (by omega)
                by_cases hle : nI (nzN (K c) (L c) (lvN (K a) (L a)) + nzN (K b) (L b) (lvN (K c) (L c))) ≤ g
                · rw [if_pos hle, if_pos hle, most_l hle]
                  refine ih (c + 1) n g w (by omega) (by omega) hg ?_
                  rcases hw with ⟨h1, h2, h3⟩ | h1
                  · exfalso
                    rw [h2, Int32.le_iff_toInt_le, ht, m1] at hle
                    omega
                  · exact Or.inr h1
                · rw [if_neg hle, if_neg hle, most_r hle]
                  refine ih (c + 1) n _ _ (by omega) (by omega) ?_ (Or.inr (nI_pos' (by omega)))
                  rw [Int32.le_iff_toInt_le, ht, m1]
                  omega
        obtain ⟨w', l1, l2, l3⟩ := loop nb 0 FU (-1) (-1) (by omega) (by unfold FU; omega) (Int32.le_refl _) (Or.inl ⟨rfl, rfl, fun x hx => absurd hx (Nat.not_lt_zero x)⟩)
        have r6 : X6_between_L35 s f6 FU (nI a) (nI b) (-1) (-1) 0 = (if 0 ≤ w' then some (w', f6) else some (-1000001 - nI 3, upd f6 3 (f6 3 + 1))) := l2
        have r5 : X5_between_L58 f5 (nI nb) kd lo FU (nI a) (nI b) (-1) (-1) 0 = some (w', f5) := l1
        rw [h.bw_]
        by_cases h2 : nb = 2
        · rw [if_pos (by rw [h2]; rfl), r6]
          have hw : w' = -1 := by
            rcases l3 with ⟨h1, -⟩ | h1
            · exact h1
            · exfalso
              have hall : ∀ x, x < nb → x = a ∨ x = b := fun x hx => by omega
              have lp2 : ∀ d c n, c + d = nb → d < n → X5_between_L58 f5 (nI nb) kd lo n (nI a) (nI b) (-1) (-1) (nI c) = some (-1, f5) := by
                intro d
                induction d with
                | zero =>
                  intro c n hc hn
                  obtain ⟨n, rfl⟩ : ∃ m, n = m + 1 := ⟨n - 1, by omega⟩
                  rw [X5_between_L58, if_pos (nI_le (by omega) (by omega))]
                | succ d ih =>
                  intro c n hc hn
                  obtain ⟨n, rfl⟩ : ∃ m, n = m + 1 := ⟨n - 1, by omega⟩
                  rw [X5_between_L58, if_neg (nI_ge (by omega) (by omega)), nI_1]
                  rcases hall c (by omega) with e1 | e1
                  · rw [if_pos (by rw [e1])]; exact ih (c + 1) n (by omega) (by omega)
                  · rw [if_neg (fun z => e (by rw [← (nI_eq (by omega) (by omega)).mp z, e1])), if_pos (by rw [e1])]; exact ih (c + 1) n (by omega) (by omega)
              have q := lp2 nb 0 FU (by omega) (by unfold FU; omega)
              rw [show nI 0 = (0 : Int32) from rfl, r5] at q
              have q2 : w' = -1 := (Prod.mk.inj (Option.some.inj q)).1
              rw [q2, Int32.le_iff_toInt_le, m1, z0] at h1
              omega
          rw [hw, if_neg (show ¬ (0 : Int32) ≤ -1 by decide)]
          exact ⟨_, _, rfl, rfl, rfl, hf.up 3 (by decide)⟩
        · rw [if_neg (show ¬ nI nb = 2 from fun z => h2 ((nI_eq (by omega) (by decide)).mp (show nI nb = nI 2 from z))), r5, r6]
          rcases l3 with ⟨-, hall⟩ | h1
          · exfalso
            have q0 := hall 0 (by omega)
            have q1 := hall 1 (by omega)
            have q2 := hall 2 (by omega)
            omega
          · rw [if_pos h1]
            exact ⟨_, _, rfl, rfl, rfl, hf⟩
theorem SP.asked (h : SP s bw th cm hd ck zz kd lo se ah ru sg no ti sp nb nt K L E A R F) (v1 v2 : Int32) : X6_isAsked s v1 v2 = some (X2_isBow bw v1 && X5_isIn v2 0 999) := by
  unfold X6_isAsked
  rw [(h.ib v1).1, Option.bind_some, isIn_eq]
  cases X2_isBow bw v1 with
  | false => rw [if_pos xbf]; rfl
  | true =>
    rw [if_neg xbt]
    cases X5_isIn v2 0 999 with
    | false => rw [if_pos xbf]; rfl
    | true => rw [if_neg xbt]; rfl
theorem p_fits (h : SP s bw th cm hd ck zz kd lo se ah ru sg no ti sp nb nt K L E A R F) (hf : FR f5 f6) (v1 v2 v3 : Int32) :
    ∃ r5 r6, X5_fits f5 bw kd v1 v2 v3 = some r5 ∧ X6_fits s f6 v1 v2 v3 = some r6 ∧ r5.1 = r6.1 ∧ FR r5.2 r6.2 := by
  have h9 := h.h9
  have ha := h.asked v1 v2
  obtain ⟨i1, i2⟩ := h.ib v1
  unfold X5_fits X6_fits
  simp only [f5_0, f6_0, Option.bind_some, ha]
  cases hi : X2_isBow bw v1 with
  | false =>
    simp only [if_pos xbf, Bool.false_and]
    exact ⟨_, _, rfl, rfl, rfl, hf.up 0 (by decide)⟩
  | true =>
    obtain ⟨j, hj, rfl⟩ := i2 hi
    simp only [if_neg xbt, Bool.true_and]
    cases hv : X5_isIn v2 0 999 with
    | false =>
      simp only [if_pos xbf]
      exact ⟨_, _, rfl, rfl, rfl, hf.up 0 (by decide)⟩
    | true =>
      simp only [if_neg xbt]
      have loop : ∀ d l n acc, l + d = 100 → d < n → ∃ r, X5_fits_L34 f5 kd n (nI j) v2 v3 acc (nI l) = some (r, f5) ∧ X6_fits_L21 s f6 n (nI j) v2 v3 acc (nI l) = some (r, f6) := by
        intro d
        induction d with
        | zero =>
          intro l n acc hl hn
          obtain ⟨n, rfl⟩ : ∃ m, n = m + 1 := ⟨n - 1, by omega⟩
          rw [X5_fits_L34, X6_fits_L21, if_pos (show (99 : Int32) < nI l from nI_lt (a := 99) (by omega) (by omega)), if_pos (show (100 : Int32) ≤ nI l from nI_le (a := 100) (by omega) (by omega))]
          exact ⟨_, rfl, rfl⟩
        | succ d ih =>
          intro l n acc hl hn
          obtain ⟨n, rfl⟩ : ∃ m, n = m + 1 := ⟨n - 1, by omega⟩
          rw [X5_fits_L34, X6_fits_L21, if_neg (show ¬ (99 : Int32) < nI l from nI_nlt (a := 99) (by omega) (by omega)), if_neg (show ¬ (100 : Int32) ≤ nI l from nI_ge (b := 100) (by omega) (by omega)), if_pos (inr_lt (by omega) (by decide)), nI_clamp (by omega), (h.cb hj).1, ge0 s (by omega), (h.ca hj).1, Option.bind_some, noise_eq, nI_1]
          by_cases e : X0_noiseOf (nI (K j)) (nI l) v2 = v3
          · rw [if_pos e, if_pos e]; exact ih (l + 1) n _ (by omega) (by omega)
          · rw [if_neg e, if_neg e, Int32.add_zero]; exact ih (l + 1) n _ (by omega) (by omega)
      obtain ⟨r, g1, g2⟩ := loop 100 0 FU 0 (by omega) (by unfold FU; omega)
      exact ⟨_, _, g1, g2, rfl, hf⟩
end
