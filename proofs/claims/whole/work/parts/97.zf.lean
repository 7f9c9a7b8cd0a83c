/-! numbers: quotients, noises -/
theorem nI_div {a b : Nat} (ha : a < 2 ^ 31) (hb : b < 2 ^ 31) : nI a / nI b = nI (a / b) := by
  have hne : nI b ≠ -1 := fun z => by
    have h1 := congrArg Int32.toInt z
    rw [nI_toInt hb] at h1
    have h2 : (-1 : Int32).toInt = -1 := by decide
    omega
  apply Int32.toInt_inj.mp
  rw [Int32.toInt_div_of_ne_right _ _ hne, nI_toInt ha, nI_toInt hb, nI_toInt (Nat.lt_of_le_of_lt (Nat.div_le_self a b) ha), ← Int.ofNat_tdiv]
theorem nI_mul (a b : Nat) : nI a * nI b = nI (a * b) := (Int32.ofNat_mul a b).symm
theorem nI_sub {a b : Nat} (h : b ≤ a) : nI a - nI b = nI (a - b) := by
  have : nI a = nI (a - b) + nI b := by rw [nI_add, Nat.sub_add_cancel h]
  rw [this, Int32.add_sub_cancel]
theorem sub_toInt {a b : Nat} (ha : a < 2 ^ 30) (hb : b < 2 ^ 30) : (nI a - nI b).toInt = (a : Int) - b := by
  rw [Int32.toInt_sub, nI_toInt (by omega), nI_toInt (by omega), Int.bmod_eq_of_le (by omega) (by omega)]
theorem xmax0_sub {a b : Nat} (ha : a < 2 ^ 30) (hb : b < 2 ^ 30) : xmax 0 (nI a - nI b) = nI (a - b) := by
  unfold xmax
  have h1 := sub_toInt ha hb
  have h0 : (0 : Int32).toInt = 0 := by decide
  by_cases h : b < a
  · rw [if_pos (by rw [ltI, h1, h0]; omega), nI_sub (by omega)]
  · rw [if_neg (by rw [ltI, h1, h0]; omega), show a - b = 0 by omega]; rfl
def nzN (k l p : Nat) : Nat :=
  if k = 1 then l / 4 else if k = 2 then l + p / 10 else if k = 3 then l + p / 10 - (p - l) else if k = 4 then 2 * (l + p / 10 - (p - l)) else if k = 5 then l + 5 else if k = 6 then l + 25 else l
def lvN (k l : Nat) : Nat := if k = 1 then 0 else if k = 5 then 0 else if k = 4 then 2 * l else if k = 6 then 50 else l
theorem fall_eq {l p : Nat} (hl : l < 2 ^ 20) (hp : p < 2 ^ 20) : X0_fallingNoise (nI l) (nI p) = nI (l + p / 10 - (p - l)) := by
  unfold X0_fallingNoise
  have h10 : p / 10 ≤ p := Nat.div_le_self p 10
  rw [xmax0_sub (by omega) (by omega), show (10 : Int32) = nI 10 from rfl, nI_div (by omega) (by omega), nI_add, xmax0_sub (by omega) (by omega)]
theorem nz_eq {k l p : Nat} (hk : k ≤ 6) (hl : l < 2 ^ 20) (hp : p < 2 ^ 20) : X0_noiseOf (nI k) (nI l) (nI p) = nI (nzN k l p) := by
  unfold X0_noiseOf
  rw [fall_eq hl hp, show (4 : Int32) = nI 4 from rfl, show (10 : Int32) = nI 10 from rfl, show (2 : Int32) = nI 2 from rfl, show (5 : Int32) = nI 5 from rfl, show (20 : Int32) = nI 20 from rfl, nI_div (by omega) (by omega), nI_div (by omega) (by omega), nI_add, nI_add, nI_add, nI_mul]
  have : k = 0 ∨ k = 1 ∨ k = 2 ∨ k = 3 ∨ k = 4 ∨ k = 5 ∨ k = 6 := by omega
  rcases this with rfl | rfl | rfl | rfl | rfl | rfl | rfl <;> rfl
theorem lv_eq {k l : Nat} (hk : k ≤ 6) : X0_leftBy (nI k) (nI l) = nI (lvN k l) := by
  unfold X0_leftBy
  rw [show (2 : Int32) * nI l = nI (2 * l) from nI_mul 2 l]
  have : k = 0 ∨ k = 1 ∨ k = 2 ∨ k = 3 ∨ k = 4 ∨ k = 5 ∨ k = 6 := by omega
  rcases this with rfl | rfl | rfl | rfl | rfl | rfl | rfl <;> rfl
theorem lv_le {k l : Nat} (hl : l ≤ 99) : lvN k l ≤ 198 := by
  unfold lvN
  split
  · omega
  · split
    · omega
    · split
      · omega
      · split <;> omega
theorem nz_le {k l p : Nat} (hl : l ≤ 99) (hp : p ≤ 999) : nzN k l p ≤ 400 := by
  unfold nzN
  split
  · omega
  · split
    · omega
    · split
      · omega
      · split
        · omega
        · split
          · omega
          · split <;> omega
section
variable {s s' kd lo se ah ru sg no ti sp f5 f6 : Nat → Int32} {bw th cm hd ck zz : Int32} {nb nt : Nat} {K L E A R F : Nat → Nat}
/-- what the latest leaves -/
def lat (K L F : Nat → Nat) : Nat → Nat
  | 0 => 0
  | n + 1 => lvN (K (F n)) (L (F n))
theorem SP.lv (h : SP s bw th cm hd ck zz kd lo se ah ru sg no ti sp nb nt K L E A R F) {j : Nat} (hj : j < nb) : X6_leaves s (nI j) = some (nI (lvN (K j) (L j))) ∧ X2_leftBy kd lo (nI j) = some (nI (lvN (K j) (L j))) := by
  have := h.lea hj
  rw [lv_eq (h.cc hj).1] at this
  exact this
theorem SP.nz (h : SP s bw th cm hd ck zz kd lo se ah ru sg no ti sp nb nt K L E A R F) {j : Nat} (hj : j < nb) {p : Nat} (hp : p < 2 ^ 20) : X6_noiseBy s (nI j) (nI p) = some (nI (nzN (K j) (L j) p)) ∧ X2_noiseBy kd lo (nI j) (nI p) = some (nI (nzN (K j) (L j) p)) := by
  have := h.noi hj (nI p)
  rw [nz_eq (h.cc hj).1 (by have := (h.cc hj).2.1; omega) hp] at this
  exact this
theorem SP.who (h : SP s bw th cm hd ck zz kd lo se ah ru sg no ti sp nb nt K L E A R F) {i : Nat} (hi : i < nt) : X6_whoAt s (nI i) = some (nI (F i)) ∧ sg i = nI (F i) := by
  have h9 := h.h9
  have ht := h.ht
  obtain ⟨-, q2, q3, -⟩ := h.2.2.2.1.1 i hi
  exact ⟨by rw [who_eq s (by omega), q2], q3⟩
theorem SP.lat_le (h : SP s bw th cm hd ck zz kd lo se ah ru sg no ti sp nb nt K L E A R F) : lat K L F nt ≤ 198 := by
  rcases nt with _ | n
  · exact Nat.zero_le _
  · exact lv_le (h.cc (h.hF (by omega))).2.1
/-- the latest: its number, what it leaves -/
theorem SP.latest (h : SP s bw th cm hd ck zz kd lo se ah ru sg no ti sp nb nt K L E A R F) : X6_latest s = some (if nt = 0 then -1 else nI (F (nt - 1))) ∧ X6_leftBy s (if nt = 0 then -1 else nI (F (nt - 1))) = some (nI (lat K L F nt)) ∧ X2_leftByLatest th kd lo sg = some (nI (lat K L F nt)) := by
  have h9 := h.h9
  have ht := h.ht
  unfold X6_latest X2_leftByLatest
  rw [h.b2, h.th_]
  rcases nt with _ | n
  · exact ⟨rfl, rfl, rfl⟩
  · have hz : ¬ nI (n + 1) = 0 := nI_ne0 (Nat.succ_pos n) (by omega)
    obtain ⟨w1, w2⟩ := h.who (show n < n + 1 by omega)
    have hF := h.hF (show n < n + 1 by omega)
    obtain ⟨l1, l2⟩ := h.lv hF
    rw [if_neg hz, if_neg hz, nI_pred, if_neg (Nat.succ_ne_zero n), Nat.add_sub_cancel, w1, if_pos (inr_lt (show n < 9 by omega) (by decide)), nI_clamp (by omega), w2]
    refine ⟨rfl, ?_, ?_⟩
    · unfold X6_leftBy
      rw [if_pos (nI_pos' (by omega)), l1]
      rfl
    · rw [l2]
      rfl
/-- one more on the stage -/
theorem SP.push (h : SP s bw th cm hd ck zz kd lo se ah ru sg no ti sp nb nt K L E A R F) {j : Nat} (hj : j < nb) (hc : (stg F nt).testBit j = false) (x y : Int32) :
    SP (upd (upd (upd (upd (upd (upd s (46 + 3 * nt) (nI j)) (47 + 3 * nt) x) (48 + 3 * nt) y) 2 (nI (nt + 1))) 0 (hd + x)) 1 (ck + y)) bw (nI (nt + 1)) (nI (stg F nt ||| 2 ^ j)) (hd + x) (ck + y) zz kd lo se ah ru (upd sg nt (nI j)) (upd no nt x) (upd ti nt y) sp nb (nt + 1) K L E A R (fup F nt j) := by
  have h9 := h.h9
  have hnt := h.nt_lt hj hc
  obtain ⟨⟨a1, a2, a3, a4, a5, a6, a7, a8, a9, a10⟩, hB, hU, ⟨hT1, hT2⟩, hS⟩ := h
  have hst : stg (fup F nt j) (nt + 1) = stg F nt ||| 2 ^ j := by
    show stg (fup F nt j) nt ||| 2 ^ (fup F nt j nt) = _
    rw [fup_eq, stg_cg (fun i hi => fup_ne (show i ≠ nt by omega))]
  refine ⟨⟨a1, by omega, ?_, a4, ?_, rfl, by rw [hst], ?_, ?_, ?_⟩, scB_cg a1 hB (fun j h1 h2 => ?_), scU_cg hU (fun j h1 h2 => ?_), ⟨fun i hi => ?_, fun i k hi hk he => ?_⟩, scS_cg hS (fun j h1 h2 => ?_)⟩
  · simp (disch := omega) only [upd_ne]; exact a3
  · simp (disch := omega) only [upd_ne, upd_eq]
  · simp (disch := omega) only [upd_ne, upd_eq]
  · simp (disch := omega) only [upd_eq]
  · simp (disch := omega) only [upd_ne]; exact a10
  · simp (disch := omega) only [upd_ne]
  · simp (disch := omega) only [upd_ne]
  · by_cases e : i = nt
    · subst e
      simp (disch := omega) only [upd_ne, upd_eq, fup_eq]
      exact ⟨hj, trivial, trivial, trivial, trivial⟩
    · obtain ⟨q1, q2, q3, q4, q5⟩ := hT1 i (by omega)
      simp (disch := omega) only [upd_ne, fup_ne]
      exact ⟨q1, q2, q3, q4, q5⟩
  · by_cases e1 : i = nt
    · by_cases e2 : k = nt
      · omega
      · exfalso
        rw [e1, fup_eq, fup_ne e2] at he
        have : (stg F nt).testBit j = true := (stg_tb F nt j).mpr ⟨k, by omega, he.symm⟩
        rw [hc] at this; cases this
    · by_cases e2 : k = nt
      · exfalso
        rw [e2, fup_eq, fup_ne e1] at he
        have : (stg F nt).testBit j = true := (stg_tb F nt j).mpr ⟨i, by omega, he⟩
        rw [hc] at this; cases this
      · rw [fup_ne e1, fup_ne e2] at he
        exact hT2 i k (by omega) (by omega) he
  · simp (disch := omega) only [upd_ne]
theorem SP.come (h : SP s bw th cm hd ck zz kd lo se ah ru sg no ti sp nb nt K L E A R F) {j : Nat} (hj : j < nb) (hc : (stg F nt).testBit j = false) :
    ∃ (x : Nat) (y : Int32) (s' : Nat → Int32), x < 2 ^ 20 ∧ X2_enter th cm hd ck kd lo se sg no ti (nI j) = some (nI x, nI (nt + 1), nI (stg F nt ||| 2 ^ j), hd + nI x, ck + y, upd sg nt (nI j), upd no nt (nI x), upd ti nt y) ∧ X6_comes s (nI j) = some (nI x, s') ∧ SP s' bw (nI (nt + 1)) (nI (stg F nt ||| 2 ^ j)) (hd + nI x) (ck + y) zz kd lo se ah ru (upd sg nt (nI j)) (upd no nt (nI x)) (upd ti nt y) sp nb (nt + 1) K L E A R (fup F nt j) := by
  have h9 := h.h9
  have hnt := h.nt_lt hj hc
  obtain ⟨l1, l2, l3⟩ := h.latest
  have hl := h.lat_le
  obtain ⟨n1, n2⟩ := h.nz hj (p := lat K L F nt) (by omega)
  obtain ⟨t1, t2⟩ := h.las hj
  have hx : nzN (K j) (L j) (lat K L F nt) < 2 ^ 20 := by
    have := nz_le (k := K j) (p := lat K L F nt) (h.cc hj).2.1 (by omega)
    omega
  refine ⟨nzN (K j) (L j) (lat K L F nt), X0_lastedBy (nI (K j)) (nI (E j)), _, hx, ?_, ?_, h.push hj hc _ _⟩
  · unfold X2_enter
    rw [l3, Option.bind_some, n2, Option.bind_some, t2, Option.bind_some, h.th_, h.cm_, if_pos (inr_lt (by omega) (by decide)), if_pos (inr_lt (by omega) (by decide)), if_pos (inr_lt (by omega) (by decide)), nI_clamp (by omega), nI_1, shl_eq (by omega), ny_or]
  · have e0 : (46 : Int32) + 3 * nI nt = nI (46 + 3 * nt) := by
      rw [show (3 : Int32) * nI nt = nI (3 * nt) from nI_mul 3 nt]; exact nI_add 46 (3 * nt)
    have e1 : nI (46 + 3 * nt) + 1 = nI (47 + 3 * nt) := by rw [nI_1, show 46 + 3 * nt + 1 = 47 + 3 * nt by omega]
    have e2 : nI (46 + 3 * nt) + 2 = nI (48 + 3 * nt) := by rw [show nI (46 + 3 * nt) + 2 = nI (46 + 3 * nt + 2) from nI_add _ 2, show 46 + 3 * nt + 2 = 48 + 3 * nt by omega]
    have ts : X6_secondsOf (upd (upd s (46 + 3 * nt) (nI j)) (47 + 3 * nt) (nI (nzN (K j) (L j) (lat K L F nt)))) (nI j) = X6_secondsOf s (nI j) := by
      unfold X6_secondsOf
      rw [ge2 _ (by omega), ge0 _ (by omega), ge2 _ (by omega), ge0 _ (by omega)]
      simp (disch := omega) only [upd_ne]
    unfold X6_comes
    rw [l1, Option.bind_some, l2, Option.bind_some, n1, Option.bind_some, h.b2, e0, e1, e2, nI_clamp (show 46 + 3 * nt < 2 ^ 31 by omega), nI_clamp (show 47 + 3 * nt < 2 ^ 31 by omega), nI_clamp (show 48 + 3 * nt < 2 ^ 31 by omega), ts, t1, Option.bind_some, if_pos (inr_lt (by omega) (by decide)), if_pos (inr_lt (by omega) (by decide)), if_pos (inr_lt (by omega) (by decide)), if_pos (inr_lt (by omega) (by decide))]
    simp (disch := omega) only [upd_ne, upd_eq, h.b2, nI_1, ← h.1.2.2.2.2.2.2.2.1, ← h.1.2.2.2.2.2.2.2.2.1]
theorem SP.can5 (h : SP s bw th cm hd ck zz kd lo se ah ru sg no ti sp nb nt K L E A R F) {j c : Nat} (hj : j < nb) (hc : c < 512) : X2_couldCome ah (nI j) (nI c) = some (canF A j c) ∧ X6_canBehind s (nI j) (nI c) = some (canF A j c) ∧ X1_canFollow ah (nI j) (nI c) = some (canF A j c) := by
  have h9 := h.h9
  exact ⟨could_eq (by omega) (h.cb hj).2.2.2 (h.A_lt hj) hc, behind_eq (by omega) (h.ca hj).2.2.2 (h.A_lt hj) hc, follow_eq (by omega) (h.cb hj).2.2.2 (h.A_lt hj) hc⟩
theorem SP.c512 (h : SP s bw th cm hd ck zz kd lo se ah ru sg no ti sp nb nt K L E A R F) : stg F nt < 512 := Nat.lt_of_lt_of_le h.c_lt (two_lt h.h9)
theorem SP.stage (h : SP s bw th cm hd ck zz kd lo se ah ru sg no ti sp nb nt K L E A R F) : X6_stageSet s = some (nI (stg F nt)) := by
  have h9 := h.h9
  have ht := h.ht
  have loop : ∀ d i n, i + d = nt → d < n → X6_stageSet_L4 s n (nI (stg F i)) (nI i) = some (nI (stg F nt)) := by
    intro d
    induction d with
    | zero =>
      intro i n hi hn
      obtain ⟨n, rfl⟩ : ∃ m, n = m + 1 := ⟨n - 1, by omega⟩
      rw [X6_stageSet_L4, h.b2, if_pos (nI_le (by omega) (by omega)), show i = nt by omega]
    | succ d ih =>
      intro i n hi hn
      obtain ⟨n, rfl⟩ : ∃ m, n = m + 1 := ⟨n - 1, by omega⟩
      have hF := h.hF (show i < nt by omega)
      rw [X6_stageSet_L4, h.b2, if_neg (nI_ge (by omega) (by omega)), (h.who (show i < nt by omega)).1, Option.bind_some, shl_eq (by omega), ny_or, nI_1]
      exact ih (i + 1) n (by omega) (by omega)
  exact loop nt 0 FU (by omega) (by unfold FU; omega)
theorem p_come (h : SP s bw th cm hd ck zz kd lo se ah ru sg no ti sp nb nt K L E A R F) (hf : FR f5 f6) (v1 : Int32) :
    ∃ r5 r6, X5_come f5 bw th cm hd ck kd lo se ah sg no ti v1 = some r5 ∧ X6_come s f6 v1 = some r6 ∧ r5.1 = r6.1 ∧ SQ r6.2.1 bw r5.2.2.1 r5.2.2.2.1 r5.2.2.2.2.1 r5.2.2.2.2.2.1 zz kd lo se ah ru r5.2.2.2.2.2.2.1 r5.2.2.2.2.2.2.2.1 r5.2.2.2.2.2.2.2.2 sp ∧ FR r5.2.1 r6.2.2 := by
  obtain ⟨i1, i2⟩ := h.ib v1
  unfold X5_come X6_come
  simp only [f5_0, f6_0, f5_4, f6_4, Option.bind_some, isIn_eq, i1]
  cases hi : X2_isBow bw v1 with
  | false =>
    simp only [if_pos xbf]
    exact ⟨_, _, rfl, rfl, rfl, h.sq, hf.up 0 (by decide)⟩
  | true =>
    obtain ⟨j, hj, rfl⟩ := i2 hi
    obtain ⟨c1, c2, -⟩ := h.can5 hj h.c512
    rw [← h.cm_] at c1
    simp only [if_neg xbt, c1, c2, h.stage, Option.bind_some]
    cases hc : canF A j (stg F nt) with
    | false =>
      simp only [if_pos xbf]
      exact ⟨_, _, rfl, rfl, rfl, h.sq, hf.up 4 (by decide)⟩
    | true =>
      obtain ⟨x, y, s', -, e1, e2, e3⟩ := h.come hj (canF_iff.mp hc).1
      simp only [if_neg xbt, e1, e2, Option.bind_some]
      exact ⟨_, _, rfl, rfl, rfl, e3.sq, hf⟩
theorem stg_le {F : Nat → Nat} {n m : Nat} (h : n ≤ m) : ∀ i, (stg F n).testBit i = true → (stg F m).testBit i = true := by
  intro i hi
  obtain ⟨k, h1, h2⟩ := (stg_tb F n i).mp hi
  exact (stg_tb F m i).mpr ⟨k, by omega, h2⟩
theorem SP.pop (h : SP s bw th cm hd ck zz kd lo se ah ru sg no ti sp nb (nt + 1) K L E A R F) :
    SP (upd (upd (upd s 2 (nI nt)) 0 (hd - s (47 + 3 * nt))) 1 (ck - s (48 + 3 * nt))) bw (nI nt) (nI (nd (stg F (nt + 1)) (2 ^ F nt))) (hd - s (47 + 3 * nt)) (ck - s (48 + 3 * nt)) zz kd lo se ah ru sg no ti sp nb nt K L E A R F := by
  have h9 := h.h9
  have ht := h.ht
  obtain ⟨⟨a1, a2, a3, a4, a5, a6, a7, a8, a9, a10⟩, hB, hU, ⟨hT1, hT2⟩, hS⟩ := h
  have hst : nd (stg F (nt + 1)) (2 ^ F nt) = stg F nt := by
    apply Nat.eq_of_testBit_eq
    intro i
    rw [nd_tb, stg, Nat.testBit_or, Nat.testBit_two_pow]
    by_cases e : F nt = i
    · rw [decide_eq_true e, Bool.or_true]
      cases hh : (stg F nt).testBit i with
      | false => rfl
      | true =>
        obtain ⟨k, h1, h2⟩ := (stg_tb F nt i).mp hh
        have := hT2 k nt (by omega) (by omega) (h2.trans e.symm)
        omega
    · rw [decide_eq_false e, Bool.or_false, Bool.not_false, Bool.and_true]
  refine ⟨⟨a1, by omega, ?_, a4, ?_, rfl, by rw [hst], ?_, ?_, ?_⟩, scB_cg a1 hB (fun j h1 h2 => ?_), scU_cg hU (fun j h1 h2 => ?_), scT_cg (by omega) ⟨fun i hi => hT1 i (by omega), fun i k hi hk he => hT2 i k (by omega) (by omega) he⟩ (fun j h1 h2 => ?_), scS_cg hS (fun j h1 h2 => ?_)⟩
  · simp (disch := omega) only [upd_ne]; exact a3
  · simp (disch := omega) only [upd_ne, upd_eq]
  · simp (disch := omega) only [upd_ne, upd_eq]
  · simp (disch := omega) only [upd_eq]
  · simp (disch := omega) only [upd_ne]; exact a10
  · simp (disch := omega) only [upd_ne]
  · simp (disch := omega) only [upd_ne]
  · simp (disch := omega) only [upd_ne]
  · simp (disch := omega) only [upd_ne]
theorem p_back (h : SP s bw th cm hd ck zz kd lo se ah ru sg no ti sp nb nt K L E A R F) (hf : FR f5 f6) :
    ∃ r5 r6, X5_back f5 th cm hd ck sg no ti = some r5 ∧ X6_back s f6 = some r6 ∧ r5.1 = r6.1 ∧ SQ r6.2.1 bw r5.2.2.1 r5.2.2.2.1 r5.2.2.2.2.1 r5.2.2.2.2.2 zz kd lo se ah ru sg no ti sp ∧ FR r5.2.1 r6.2.2 := by
  have h9 := h.h9
  have ht := h.ht
  unfold X5_back X6_back X2_leave
  simp only [f5_3, f6_3, Option.bind_some, h.b2, h.th_]
  rcases nt with _ | n
  · simp only [show nI 0 = (0 : Int32) from rfl, if_true]
    exact ⟨_, _, rfl, rfl, rfl, by rw [show (0 : Int32) = nI 0 from rfl, ← h.th_]; exact h.sq, hf.up 3 (by decide)⟩
  · have hz : ¬ nI (n + 1) = 0 := nI_ne0 (Nat.succ_pos n) (by omega)
    have e0 : (46 : Int32) + 3 * nI n = nI (46 + 3 * n) := by
      rw [show (3 : Int32) * nI n = nI (3 * n) from nI_mul 3 n]; exact nI_add 46 (3 * n)
    have e1 : nI (46 + 3 * n) + 1 = nI (47 + 3 * n) := by rw [nI_1, show 46 + 3 * n + 1 = 47 + 3 * n by omega]
    have e2 : nI (46 + 3 * n) + 2 = nI (48 + 3 * n) := by rw [show nI (46 + 3 * n) + 2 = nI (46 + 3 * n + 2) from nI_add _ 2, show 46 + 3 * n + 2 = 48 + 3 * n by omega]
    obtain ⟨q1, q2, q3, q4, q5⟩ := h.2.2.2.1.1 n (by omega)
    have hp := h.pop
    simp only [if_neg hz, nI_pred, upd_eq, e0, e1, e2, if_pos (inr_lt (show n < 9 by omega) (by decide)), nI_clamp (show n < 2 ^ 31 by omega), nI_clamp (show 46 + 3 * n < 2 ^ 31 by omega), nI_clamp (show 47 + 3 * n < 2 ^ 31 by omega), nI_clamp (show 48 + 3 * n < 2 ^ 31 by omega), if_pos (inr_lt (show 46 + 3 * n < 83 by omega) (by decide)), if_pos (inr_lt (show 47 + 3 * n < 83 by omega) (by decide)), if_pos (inr_lt (show 48 + 3 * n < 83 by omega) (by decide)), h.cm_, q3, q4, q5, shl_eq (show F n < 31 by omega), ny_nd, Option.bind_some]
    simp (disch := omega) only [upd_ne, q2, ← h.1.2.2.2.2.2.2.2.1, ← h.1.2.2.2.2.2.2.2.2.1]
    exact ⟨_, _, rfl, rfl, rfl, hp.sq, hf⟩
theorem p_clear (h : SP s bw th cm hd ck zz kd lo se ah ru sg no ti sp nb nt K L E A R F) :
    ∃ r5 r6, X5_clear th = some r5 ∧ X6_clear s = some r6 ∧ r5.1 = r6.1 ∧ SQ r6.2 bw r5.2.1 r5.2.2.1 r5.2.2.2.1 r5.2.2.2.2 zz kd lo se ah ru sg no ti sp := by
  refine ⟨_, _, rfl, rfl, h.th_.trans h.b2.symm, nb, 0, K, L, E, A, R, F, ?_⟩
  obtain ⟨⟨a1, a2, a3, a4, a5, a6, a7, a8, a9, a10⟩, hB, hU, ⟨hT1, hT2⟩, hS⟩ := h
  refine ⟨⟨a1, Nat.zero_le _, ?_, a4, ?_, rfl, rfl, ?_, ?_, ?_⟩, scB_cg a1 hB (fun j h1 h2 => ?_), scU_cg hU (fun j h1 h2 => ?_), ⟨fun i hi => absurd hi (Nat.not_lt_zero i), fun i k hi => absurd hi (Nat.not_lt_zero i)⟩, scS_cg hS (fun j h1 h2 => ?_)⟩
  · simp (disch := omega) only [upd_ne]; exact a3
  · simp (disch := omega) only [upd_ne, upd_eq]; rfl
  · simp (disch := omega) only [upd_ne, upd_eq]
  · simp (disch := omega) only [upd_eq]
  · simp (disch := omega) only [upd_ne]; exact a10
  · simp (disch := omega) only [upd_ne]
  · simp (disch := omega) only [upd_ne]
  · simp (disch := omega) only [upd_ne]
end
