/-! love, count, status, spots, images, evenings, draws -/
def KR (ik jk : Int32) (s2 : Nat → Int32) (kbw kth kcm khd kck kzz : Int32) (kkd klo kse kah kru ksg kno kti ksp : Nat → Int32) : Prop :=
  ik = jk ∧ (ik = 0 ∨ ik = 1 ∧ SQ s2 kbw kth kcm khd kck kzz kkd klo kse kah kru ksg kno kti ksp)
def TR (ts us : Int32) (tb ub : Nat → Int32) : Prop := ∃ n, n ≤ 120 ∧ ts = nI n ∧ us = nI n ∧ ∀ i, i < n → tb i = ub i ∧ ∃ k, k < 256 ∧ ub i = nI k
def WR (wb wz wn vb vz vn : Nat → Int32) : Prop := (∀ j, j < 4 → wb j = vb j ∧ (vb j = 0 ∨ vb j = 8 ∨ vb j = 16 ∨ vb j = 32) ∧ wz j = vz j ∧ ∃ n, n ≤ 40 ∧ vz j = nI n) ∧ ∀ i, i < 160 → wn i = vn i
def LR (la lb lc : Nat → Int32) : Prop := la = xm0 6200 ∧ lb = xm0 6300 ∧ lc = xm0 6400
def lst (P : Nat → Bool) : Nat → Option Nat
  | 0 => none
  | l + 1 => match lst P l with
    | some j => some j
    | none => if P l = true then some l else none
theorem lst_some {P : Nat → Bool} {l j : Nat} (h : lst P l = some j) : lst P (l + 1) = some j := by rw [lst, h]
theorem lst_up {P : Nat → Bool} {l j d : Nat} (h : lst P l = some j) : lst P (l + d) = some j := by
  induction d with
  | zero => exact h
  | succ d ih => exact lst_some ih
theorem lst_lt {P : Nat → Bool} {l j : Nat} (h : lst P l = some j) : j < l := by
  induction l with
  | zero => rw [lst] at h; cases h
  | succ l ih =>
    rw [lst] at h
    cases hl : lst P l with
    | some i =>
      rw [hl] at h
      have : i = j := Option.some.inj h
      have := ih (by rw [hl, this])
      omega
    | none =>
      rw [hl] at h
      by_cases hp : P l = true
      · have : (if P l = true then some l else none) = some j := h
        rw [if_pos hp] at this
        have := Option.some.inj this
        omega
      · have : (if P l = true then some l else none) = some j := h
        rw [if_neg hp] at this
        cases this
theorem lst_t {P : Nat → Bool} {l : Nat} (h : lst P l = none) (hp : P l = true) : lst P (l + 1) = some l := by
  rw [lst, h]
  show (if P l = true then some l else none) = some l
  rw [if_pos hp]
theorem lst_f {P : Nat → Bool} {l : Nat} (h : lst P l = none) (hp : P l = false) : lst P (l + 1) = none := by
  rw [lst, h]
  show (if P l = true then some l else none) = none
  rw [hp, if_neg (by decide)]
theorem lst_n {P : Nat → Bool} {l : Nat} (h : lst P (l + 1) = none) : lst P l = none := by
  cases e : lst P l with
  | none => rfl
  | some j => rw [lst_some e] at h; cases h
section
variable {s s' s2 kd lo se ah ru sg no ti sp f5 f6 kkd klo kse kah kru ksg kno kti ksp tb ub : Nat → Int32} {bw th cm hd ck zz ik jk kbw kth kcm khd kck kzz ts us : Int32} {nb nt : Nat} {K L E A R F : Nat → Nat}
theorem p_love (h : SP s bw th cm hd ck zz kd lo se ah ru sg no ti sp nb nt K L E A R F) (hf : FR f5 f6) (v1 v2 v3 : Int32) :
    ∃ r5 r6, X5_love f5 bw kd v1 v2 v3 = some r5 ∧ X6_love s f6 v1 v2 v3 = some r6 ∧ r5.1 = r6.1 ∧ FR r5.2 r6.2 := by
  have h9 := h.h9
  have ha := h.asked v1 v2
  obtain ⟨i1, i2⟩ := h.ib v1
  unfold X5_love X6_love
  simp only [f5_0, f6_0, Option.bind_some, ha]
  cases hi : X2_isBow bw v1 with
  | false =>
    simp only [if_pos xbf, Bool.false_and]
    exact ⟨_, _, rfl, rfl, rfl, hf.up 0 (by decide)⟩
  | true =>
    obtain ⟨j, hj, rfl⟩ := i2 hi
    simp only [if_neg xbt, Bool.true_and]
    cases hv : X5_isIn v2 0 999 with
    | false =>
      simp only [if_pos xbf]
      exact ⟨_, _, rfl, rfl, rfl, hf.up 0 (by decide)⟩
    | true =>
      simp only [if_neg xbt]
      let P : Nat → Bool := fun l => decide (X0_noiseOf (nI (K j)) (nI l) v2 = v3)
      have lr : ∀ l n acc, l < n → l ≤ 100 → X6_love_L22 s f6 n (nI j) v2 v3 acc (nI l - 1) = (if 0 ≤ ((lst P l).elim acc nI) then some ((lst P l).elim acc nI, f6) else some (-1000001 - nI 3, upd f6 3 (f6 3 + 1))) := by
        intro l
        induction l with
        | zero =>
          intro n acc hn hl
          obtain ⟨n, rfl⟩ : ∃ m, n = m + 1 := ⟨n - 1, by omega⟩
          rw [X6_love_L22, if_pos (show nI 0 - 1 < (0 : Int32) by decide), f6_3]
          rfl
        | succ l ih =>
          intro n acc hn hl
          obtain ⟨n, rfl⟩ : ∃ m, n = m + 1 := ⟨n - 1, by omega⟩
          rw [X6_love_L22, nI_pred, if_neg (nI_pos (by omega)), ge0 s (by omega), (h.ca hj).1, Option.bind_some, noise_eq, ← Int32.sub_eq_add_neg]
          cases hp : P l with
          | true =>
            rw [if_pos (of_decide_eq_true hp), ih n (nI l) (by omega) (by omega)]
            cases hl2 : lst P l with
            | none => rw [lst_t hl2 hp]; rfl
            | some i => rw [lst_some hl2]; rfl
          | false =>
            rw [if_neg (of_decide_eq_false hp), ih n acc (by omega) (by omega)]
            cases hl2 : lst P l with
            | none => rw [lst_f hl2 hp]
            | some i => rw [lst_some hl2]
      have lc : ∀ d l n, l + d = 100 → d < n → lst P l = none → X5_love_L31 f5 kd n (nI j) v2 v3 (nI l) = (lst P 100).elim (some (-1000001 - nI 3, upd f5 3 (f5 3 + 1))) (fun i => some (nI i, f5)) := by
        intro d
        induction d with
        | zero =>
          intro l n hl hn hz
          obtain ⟨n, rfl⟩ : ∃ m, n = m + 1 := ⟨n - 1, by omega⟩
          have e : l = 100 := by omega
          subst e
          rw [X5_love_L31, if_pos (show (99 : Int32) < nI 100 by decide), hz, f5_3]
          rfl
        | succ d ih =>
          intro l n hl hn hz
          obtain ⟨n, rfl⟩ : ∃ m, n = m + 1 := ⟨n - 1, by omega⟩
          rw [X5_love_L31, if_neg (show ¬ (99 : Int32) < nI l from nI_nlt (a := 99) (by omega) (by omega)), if_pos (inr_lt (by omega) (by decide)), nI_clamp (by omega), (h.cb hj).1, nI_1]
          cases hp : P l with
          | true =>
            rw [if_pos (of_decide_eq_true hp)]
            have := lst_up (d := d) (lst_t hz hp)
            rw [show l + 1 + d = 100 by omega] at this
            rw [this]
            rfl
          | false =>
            rw [if_neg (of_decide_eq_false hp)]
            exact ih (l + 1) n (by omega) (by omega) (lst_f hz hp)
      have g5 := lc 100 0 FU (by omega) (by unfold FU; omega) rfl
      have g6 := lr 100 FU (-1) (by unfold FU; omega) (by omega)
      rw [show nI 100 - 1 = (99 : Int32) by decide] at g6
      rw [show nI 0 = (0 : Int32) from rfl] at g5
      rw [g5, g6]
      cases hl : lst P 100 with
      | none =>
        show ∃ r5 r6, some (-1000001 - nI 3, upd f5 3 (f5 3 + 1)) = some r5 ∧ (if (0 : Int32) ≤ -1 then some (-1, f6) else some (-1000001 - nI 3, upd f6 3 (f6 3 + 1))) = some r6 ∧ r5.1 = r6.1 ∧ FR r5.2 r6.2
        rw [if_neg (by decide)]
        exact ⟨_, _, rfl, rfl, rfl, hf.up 3 (by decide)⟩
      | some i =>
        have hi := lst_lt hl
        show ∃ r5 r6, some (nI i, f5) = some r5 ∧ (if (0 : Int32) ≤ nI i then some (nI i, f6) else some (-1000001 - nI 3, upd f6 3 (f6 3 + 1))) = some r6 ∧ r5.1 = r6.1 ∧ FR r5.2 r6.2
        rw [if_pos (nI_pos' (by omega))]
        exact ⟨_, _, rfl, rfl, rfl, hf⟩
theorem p_count (h : SP s bw th cm hd ck zz kd lo se ah ru sg no ti sp nb nt K L E A R F) (hf : FR f5 f6) (ht : TR ts us tb ub) (v1 : Int32) :
    ∃ r5 r6, X5_count f5 bw th hd zz lo ah sp ts v1 = some r5 ∧ X6_count us s f6 v1 = some r6 ∧ r5.1 = r6.1 ∧ FR r5.2 r6.2 := by
  have h9 := h.h9
  obtain ⟨tn, -, t1, t2, -⟩ := ht
  have l2 : ∀ d b n acc, b + d = nb → d < n → ∃ r, X2_contracts_L4 (nI nb) ah n acc (nI b) = some r ∧ X6_count_L64 s f6 n acc (nI b) = some (r, f6) := by
    intro d
    induction d with
    | zero =>
      intro b n acc hb hn
      obtain ⟨n, rfl⟩ : ∃ m, n = m + 1 := ⟨n - 1, by omega⟩
      rw [X2_contracts_L4, X6_count_L64, h.b3, if_pos (nI_le (by omega) (by omega)), if_pos (nI_le (by omega) (by omega))]
      exact ⟨_, rfl, rfl⟩
    | succ d ih =>
      intro b n acc hb hn
      obtain ⟨n, rfl⟩ : ∃ m, n = m + 1 := ⟨n - 1, by omega⟩
      have hA := h.A_lt (show b < nb by omega)
      rw [X2_contracts_L4, X6_count_L64, h.b3, if_neg (nI_ge (by omega) (by omega)), if_neg (nI_ge (by omega) (by omega)), if_pos (inr_lt (by omega) (by decide)), nI_clamp (by omega), (h.cb (show b < nb by omega)).2.2.2, bc_eq hA, ge3 s (by omega), Option.bind_some, (h.ca (show b < nb by omega)).2.2.2, bits_eq hA, Option.bind_some, nI_1]
      exact ih (b + 1) n _ (by omega) (by omega)
  have l4 : ∀ d b n acc, b + d = nb → d < n → ∃ r, X2_lovesTogether_L4 (nI nb) lo n acc (nI b) = some r ∧ X6_count_L103 s f6 n acc (nI b) = some (r, f6) := by
    intro d
    induction d with
    | zero =>
      intro b n acc hb hn
      obtain ⟨n, rfl⟩ : ∃ m, n = m + 1 := ⟨n - 1, by omega⟩
      rw [X2_lovesTogether_L4, X6_count_L103, h.b3, if_pos (nI_le (by omega) (by omega)), if_pos (nI_le (by omega) (by omega))]
      exact ⟨_, rfl, rfl⟩
    | succ d ih =>
      intro b n acc hb hn
      obtain ⟨n, rfl⟩ : ∃ m, n = m + 1 := ⟨n - 1, by omega⟩
      rw [X2_lovesTogether_L4, X6_count_L103, h.b3, if_neg (nI_ge (by omega) (by omega)), if_neg (nI_ge (by omega) (by omega)), if_pos (inr_lt (by omega) (by decide)), nI_clamp (by omega), (h.cb (show b < nb by omega)).2.1, ge1 s (by omega), Option.bind_some, (h.ca (show b < nb by omega)).2.1, nI_1]
      exact ih (b + 1) n _ (by omega) (by omega)
  have l7 : ∀ d k n acc, k + d = 10 → d < n → ∃ r, X2_heldSpots_L4 sp n acc (nI k) = some r ∧ X6_count_L144 s f6 n acc (nI k) = some (r, f6) := by
    intro d
    induction d with
    | zero =>
      intro k n acc hk hn
      obtain ⟨n, rfl⟩ : ∃ m, n = m + 1 := ⟨n - 1, by omega⟩
      rw [X2_heldSpots_L4, X6_count_L144, if_pos (show (10 : Int32) ≤ nI k from nI_le (a := 10) (by omega) (by omega)), if_pos (show (10 : Int32) ≤ nI k from nI_le (a := 10) (by omega) (by omega))]
      exact ⟨_, rfl, rfl⟩
    | succ d ih =>
      intro k n acc hk hn
      obtain ⟨n, rfl⟩ : ∃ m, n = m + 1 := ⟨n - 1, by omega⟩
      obtain ⟨q1, q2⟩ := h.2.2.2.2 k (by omega)
      rw [X2_heldSpots_L4, X6_count_L144, if_neg (show ¬ (10 : Int32) ≤ nI k from nI_ge (b := 10) (by omega) (by omega)), if_neg (show ¬ (10 : Int32) ≤ nI k from nI_ge (b := 10) (by omega) (by omega)), if_pos (inr_lt (by omega) (by decide)), nI_clamp (by omega), show (73 : Int32) + nI k = nI (73 + k) from nI_add 73 k, if_pos (inr_lt (by omega) (by decide)), nI_clamp (by omega), nI_1, q1]
      rcases q2 with q2 | ⟨b, hb, q2⟩
      · rw [q2, if_pos rfl, if_pos (by decide), Int32.add_zero]
        exact ih (k + 1) n _ (by omega) (by omega)
      · rw [q2, if_neg (fun z => by
          have h1 := congrArg Int32.toInt z
          rw [nI_toInt (by omega), show (-1 : Int32).toInt = -1 by decide] at h1
          omega), if_neg (nI_pos (by omega))]
        exact ih (k + 1) n _ (by omega) (by omega)
  obtain ⟨c2, c2a, c2b⟩ := l2 nb 0 FU 0 (by omega) (by unfold FU; omega)
  obtain ⟨c4, c4a, c4b⟩ := l4 nb 0 FU 0 (by omega) (by unfold FU; omega)
  obtain ⟨c7, c7a, c7b⟩ := l7 10 0 FU 0 (by omega) (by unfold FU; omega)
  rw [← h.bw_, show nI 0 = (0 : Int32) from rfl] at c2a c4a
  rw [show nI 0 = (0 : Int32) from rfl] at c2b c4b c7a c7b
  obtain ⟨⟨-, -, a3, a4, a5, a6, a7, a8, a9, a10⟩, -⟩ := id h
  unfold X5_count X6_count X2_contracts X2_lovesTogether X2_heldSpots
  simp only [f5_0, f6_0, Option.bind_some, c2a, c2b, c4a, c4b, c7a, c7b]
  by_cases e0 : v1 = 0
  · rw [if_pos e0, if_pos e0]; exact ⟨_, _, rfl, rfl, a6.trans a5.symm, hf⟩
  rw [if_neg e0, if_neg e0]
  by_cases e1 : v1 = 1
  · rw [if_pos e1, if_pos e1]; exact ⟨_, _, rfl, rfl, a4.trans a3.symm, hf⟩
  rw [if_neg e1, if_neg e1]
  by_cases e2 : v1 = 2
  · rw [if_pos e2, if_pos e2]; exact ⟨_, _, rfl, rfl, rfl, hf⟩
  rw [if_neg e2, if_neg e2]
  by_cases e3 : v1 = 3
  · rw [if_pos e3, if_pos e3]; exact ⟨_, _, rfl, rfl, a8, hf⟩
  rw [if_neg e3, if_neg e3]
  by_cases e4 : v1 = 4
  · rw [if_pos e4, if_pos e4]; exact ⟨_, _, rfl, rfl, rfl, hf⟩
  rw [if_neg e4, if_neg e4]
  by_cases e5 : v1 = 5
  · rw [if_pos e5, if_pos e5]; exact ⟨_, _, rfl, rfl, t1.trans t2.symm, hf⟩
  rw [if_neg e5, if_neg e5]
  by_cases e6 : v1 = 6
  · rw [if_pos e6, if_pos e6]; exact ⟨_, _, rfl, rfl, a10, hf⟩
  rw [if_neg e6, if_neg e6]
  by_cases e7 : v1 = 7
  · rw [if_pos e7, if_pos e7]; exact ⟨_, _, rfl, rfl, rfl, hf⟩
  rw [if_neg e7, if_neg e7]
  exact ⟨_, _, rfl, rfl, rfl, hf.up 0 (by decide)⟩
theorem p_status (hf : FR f5 f6) (v1 : Int32) :
    ∃ r5 r6, X5_status f5 v1 = some r5 ∧ X6_status f6 v1 = some r6 ∧ r5.1 = r6.1 ∧ FR r5.2 r6.2 := by
  have m1 : (-1 : Int32).toInt = -1 := by decide
  have z0 : (0 : Int32).toInt = 0 := by decide
  have z6 : (6 : Int32).toInt = 6 := by decide
  have lm : ∀ d k n acc, k + d = 7 → d < n → ∃ r, X5_status_L31 f5 n acc (nI k) = some (r, f5) ∧ X6_status_L20 f6 n (-1) acc (nI k) = some (r, f6) := by
    intro d
    induction d with
    | zero =>
      intro k n acc hk hn
      obtain ⟨n, rfl⟩ : ∃ m, n = m + 1 := ⟨n - 1, by omega⟩
      rw [X5_status_L31, X6_status_L20, if_pos (show (7 : Int32) ≤ nI k from nI_le (a := 7) (by omega) (by omega)), if_pos (show (7 : Int32) ≤ nI k from nI_le (a := 7) (by omega) (by omega))]
      exact ⟨_, rfl, rfl⟩
    | succ d ih =>
      intro k n acc hk hn
      obtain ⟨n, rfl⟩ : ∃ m, n = m + 1 := ⟨n - 1, by omega⟩
      rw [X5_status_L31, X6_status_L20, if_neg (show ¬ (7 : Int32) ≤ nI k from nI_ge (b := 7) (by omega) (by omega)), if_neg (show ¬ (7 : Int32) ≤ nI k from nI_ge (b := 7) (by omega) (by omega)), if_pos (inr_lt (by omega) (by decide)), if_pos rfl, if_pos (inr_lt (by omega) (by decide)), nI_clamp (by omega), nI_1, hf k (by omega)]
      exact ih (k + 1) n _ (by omega) (by omega)
  have lk : ∀ j, j < 7 → ∀ d k n acc, k + d = 7 → d < n → X6_status_L20 f6 n (nI j) acc (nI k) = some ((if k ≤ j then acc + f6 j else acc), f6) := by
    intro j hj d
    induction d with
    | zero =>
      intro k n acc hk hn
      obtain ⟨n, rfl⟩ : ∃ m, n = m + 1 := ⟨n - 1, by omega⟩
      rw [X6_status_L20, if_pos (show (7 : Int32) ≤ nI k from nI_le (a := 7) (by omega) (by omega)), if_neg (by omega)]
    | succ d ih =>
      intro k n acc hk hn
      obtain ⟨n, rfl⟩ : ∃ m, n = m + 1 := ⟨n - 1, by omega⟩
      rw [X6_status_L20, if_neg (show ¬ (7 : Int32) ≤ nI k from nI_ge (b := 7) (by omega) (by omega)), if_neg (fun z => by
          have h1 := congrArg Int32.toInt z
          rw [nI_toInt (by omega), m1] at h1
          omega), nI_1]
      by_cases e : j = k
      · subst e
        rw [if_pos rfl, if_pos (inr_lt (by omega) (by decide)), nI_clamp (by omega), ih (j + 1) n _ (by omega) (by omega), if_neg (by omega), if_pos (Nat.le_refl j)]
      · rw [if_neg (fun z => e ((nI_eq (by omega) (by omega)).mp z)), Int32.add_zero, ih (k + 1) n _ (by omega) (by omega)]
        by_cases e2 : k ≤ j
        · rw [if_pos e2, if_pos (by omega)]
        · rw [if_neg e2, if_neg (by omega)]
  unfold X5_status X6_status
  simp only [f5_0, f6_0, Option.bind_some, isIn_eq]
  cases hi : X5_isIn v1 (-1) 6 with
  | false =>
    simp only [if_pos xbf]
    exact ⟨_, _, rfl, rfl, rfl, hf.up 0 (by decide)⟩
  | true =>
    simp only [if_neg xbt]
    unfold X5_isIn at hi
    by_cases h1 : v1 < -1
    · rw [if_pos h1] at hi; cases hi
    · rw [if_neg h1] at hi
      by_cases h2 : (6 : Int32) < v1
      · rw [if_pos h2] at hi; cases hi
      · rw [ltI] at h1 h2
        by_cases h0 : v1 < 0
        · have e : v1 = -1 := by
            rw [ltI] at h0
            exact Int32.toInt_inj.mp (by omega)
          subst e
          obtain ⟨r, g1, g2⟩ := lm 7 0 FU 0 (by omega) (by unfold FU; omega)
          rw [if_pos h0]
          exact ⟨_, _, g1, g2, rfl, hf⟩
        · obtain ⟨j, hj, rfl⟩ := nI_of h0
          rw [nI_toInt hj] at h2
          have g := lk j (by omega) 7 0 FU 0 (by omega) (by unfold FU; omega)
          rw [if_pos (Nat.zero_le j), Int32.zero_add] at g
          rw [if_neg h0, if_pos (inr_lt (by omega) (by decide)), nI_clamp hj]
          exact ⟨_, _, rfl, g, hf j (by omega), hf⟩
theorem p_hold (h : SP s bw th cm hd ck zz kd lo se ah ru sg no ti sp nb nt K L E A R F) (hf : FR f5 f6) (v1 v2 : Int32) :
    ∃ r5 r6, X5_hold f5 bw sp v1 v2 = some r5 ∧ X6_hold s f6 v1 v2 = some r6 ∧ r5.1 = r6.1 ∧ SQ r6.2.1 bw th cm hd ck zz kd lo se ah ru sg no ti r5.2.2 ∧ FR r5.2.1 r6.2.2 := by
  obtain ⟨i1, i2⟩ := h.ib v2
  unfold X5_hold X6_hold X6_isSpot
  simp only [f5_0, f6_0, Option.bind_some, isIn_eq, i1]
  cases hi : X5_isIn v1 0 9 with
  | false =>
    simp only [if_pos xbf]
    exact ⟨_, _, rfl, rfl, rfl, h.sq, hf.up 0 (by decide)⟩
  | true =>
    obtain ⟨k, hk, rfl⟩ := isIn_t (n := 9) (by decide) hi
    simp only [if_neg xbt, if_pos (inr_lt (show k < 10 by omega) (by decide)), nI_clamp (show k < 2 ^ 31 by omega), show (73 : Int32) + nI k = nI (73 + k) from nI_add 73 k, if_pos (inr_lt (show 73 + k < 83 by omega) (by decide)), nI_clamp (show 73 + k < 2 ^ 31 by omega)]
    by_cases e : v2 = -1
    · simp only [if_pos e]
      exact ⟨_, _, rfl, rfl, rfl, (h.setS (by omega) (Or.inl e)).sq, hf⟩
    · simp only [if_neg e]
      cases hb : X2_isBow bw v2 with
      | false =>
        simp only [if_pos xbf]
        exact ⟨_, _, rfl, rfl, rfl, h.sq, hf.up 0 (by decide)⟩
      | true =>
        simp only [if_neg xbt]
        exact ⟨_, _, rfl, rfl, rfl, (h.setS (by omega) (Or.inr (i2 hb))).sq, hf⟩
def undr (k j : Nat) : Bool := decide (k = j) || decide (j = 0) || (decide (k = 3) && decide (j = 2)) || (decide (k = 4) && (decide (j = 3) || decide (j = 2))) || (decide (k = 6) && decide (j = 5))
theorem under_eq {k j : Nat} (hk : k ≤ 6) (hj : j ≤ 6) : X0_isUnder (nI k) (nI j) = some (undr k j) := (by decide +kernel : ∀ k, k < 7 → ∀ j, j < 7 → X0_isUnder (nI k) (nI j) = some (undr k j)) k (by omega) j (by omega)
theorem as_st (f : Nat → Int32) (v : Int32) (j n k : Nat) : X6_as_L51 f (n + 1) (nI j) v (nI k) = if nI k = nI j then some (v, f) else if nI k = 0 then some (-1000001 - nI 2, upd f 2 (f 2 + 1)) else X6_as_L51 f n (nI j) v (X6_above (nI k)) := by
  rw [X6_as_L51]
  unfold X6_as_L72
  simp only [f6_2, Option.bind_some]
  by_cases e : nI k = nI j
  · rw [if_pos e, if_pos e, if_pos e]
  · rw [if_neg e, if_neg e, if_neg e]
theorem as_b0 (f : Nat → Int32) (v : Int32) {j : Nat} (hj : j ≤ 6) (n : Nat) : X6_as_L51 f (n + 1) (nI j) v (nI 0) = if j = 0 then some (v, f) else some (-1000001 - nI 2, upd f 2 (f 2 + 1)) := by
  rw [as_st]
  by_cases e : j = 0
  · rw [if_pos (by rw [e]), if_pos e]
  · rw [if_neg (fun z => e ((nI_eq (by omega) (by omega)).mp z).symm), if_pos (show nI 0 = (0 : Int32) from rfl), if_neg e]
theorem as_nx (f : Nat → Int32) (v : Int32) {j : Nat} (hj : j ≤ 6) (n k : Nat) (h0 : 0 < k) (h6 : k ≤ 6) : X6_as_L51 f (n + 1) (nI j) v (nI k) = if k = j then some (v, f) else X6_as_L51 f n (nI j) v (X6_above (nI k)) := by
  rw [as_st]
  by_cases e : k = j
  · rw [if_pos (by rw [e]), if_pos e]
  · rw [if_neg (fun z => e ((nI_eq (by omega) (by omega)).mp z)), if_neg (nI_ne0 h0 (by omega)), if_neg e]
theorem ab_1 : X6_above (nI 1) = nI 0 := by decide
theorem ab_2 : X6_above (nI 2) = nI 0 := by decide
theorem ab_3 : X6_above (nI 3) = nI 2 := by decide
theorem ab_4 : X6_above (nI 4) = nI 3 := by decide
theorem ab_5 : X6_above (nI 5) = nI 0 := by decide
theorem ab_6 : X6_above (nI 6) = nI 5 := by decide
theorem ud_0 {α : Type} (X Y : α) {j : Nat} (hj : j ≤ 6) : (if j = 0 then X else Y) = if undr 0 j = true then X else Y := by
  have hj7 : j = 0 ∨ j = 1 ∨ j = 2 ∨ j = 3 ∨ j = 4 ∨ j = 5 ∨ j = 6 := by omega
  rcases hj7 with rfl | rfl | rfl | rfl | rfl | rfl | rfl <;> rfl
theorem ud_1 {α : Type} (X Y : α) {j : Nat} (hj : j ≤ 6) : (if 1 = j then X else if j = 0 then X else Y) = if undr 1 j = true then X else Y := by
  have hj7 : j = 0 ∨ j = 1 ∨ j = 2 ∨ j = 3 ∨ j = 4 ∨ j = 5 ∨ j = 6 := by omega
  rcases hj7 with rfl | rfl | rfl | rfl | rfl | rfl | rfl <;> rfl
theorem ud_2 {α : Type} (X Y : α) {j : Nat} (hj : j ≤ 6) : (if 2 = j then X else if j = 0 then X else Y) = if undr 2 j = true then X else Y := by
  have hj7 : j = 0 ∨ j = 1 ∨ j = 2 ∨ j = 3 ∨ j = 4 ∨ j = 5 ∨ j = 6 := by omega
  rcases hj7 with rfl | rfl | rfl | rfl | rfl | rfl | rfl <;> rfl
theorem ud_3 {α : Type} (X Y : α) {j : Nat} (hj : j ≤ 6) : (if 3 = j then X else if 2 = j then X else if j = 0 then X else Y) = if undr 3 j = true then X else Y := by
  have hj7 : j = 0 ∨ j = 1 ∨ j = 2 ∨ j = 3 ∨ j = 4 ∨ j = 5 ∨ j = 6 := by omega
  rcases hj7 with rfl | rfl | rfl | rfl | rfl | rfl | rfl <;> rfl
theorem ud_4 {α : Type} (X Y : α) {j : Nat} (hj : j ≤ 6) : (if 4 = j then X else if 3 = j then X else if 2 = j then X else if j = 0 then X else Y) = if undr 4 j = true then X else Y := by
  have hj7 : j = 0 ∨ j = 1 ∨ j = 2 ∨ j = 3 ∨ j = 4 ∨ j = 5 ∨ j = 6 := by omega
  rcases hj7 with rfl | rfl | rfl | rfl | rfl | rfl | rfl <;> rfl
theorem ud_5 {α : Type} (X Y : α) {j : Nat} (hj : j ≤ 6) : (if 5 = j then X else if j = 0 then X else Y) = if undr 5 j = true then X else Y := by
  have hj7 : j = 0 ∨ j = 1 ∨ j = 2 ∨ j = 3 ∨ j = 4 ∨ j = 5 ∨ j = 6 := by omega
  rcases hj7 with rfl | rfl | rfl | rfl | rfl | rfl | rfl <;> rfl
theorem ud_6 {α : Type} (X Y : α) {j : Nat} (hj : j ≤ 6) : (if 6 = j then X else if 5 = j then X else if j = 0 then X else Y) = if undr 6 j = true then X else Y := by
  have hj7 : j = 0 ∨ j = 1 ∨ j = 2 ∨ j = 3 ∨ j = 4 ∨ j = 5 ∨ j = 6 := by omega
  rcases hj7 with rfl | rfl | rfl | rfl | rfl | rfl | rfl <;> rfl
theorem as_loop4 (f : Nat → Int32) (v : Int32) (m : Nat) {k j : Nat} (hk : k ≤ 6) (hj : j ≤ 6) : X6_as_L51 f (m + 1 + 1 + 1 + 1) (nI j) v (nI k) = if undr k j = true then some (v, f) else some (-1000001 - nI 2, upd f 2 (f 2 + 1)) := by
  have : k = 0 ∨ k = 1 ∨ k = 2 ∨ k = 3 ∨ k = 4 ∨ k = 5 ∨ k = 6 := by omega
  rcases this with rfl | rfl | rfl | rfl | rfl | rfl | rfl
  · rw [as_b0 f v hj]; exact ud_0 _ _ hj
  · rw [as_nx f v hj _ 1 (by decide) (by decide), ab_1, as_b0 f v hj]; exact ud_1 _ _ hj
  · rw [as_nx f v hj _ 2 (by decide) (by decide), ab_2, as_b0 f v hj]; exact ud_2 _ _ hj
  · rw [as_nx f v hj _ 3 (by decide) (by decide), ab_3, as_nx f v hj _ 2 (by decide) (by decide), ab_2, as_b0 f v hj]; exact ud_3 _ _ hj
  · rw [as_nx f v hj _ 4 (by decide) (by decide), ab_4, as_nx f v hj _ 3 (by decide) (by decide), ab_3, as_nx f v hj _ 2 (by decide) (by decide), ab_2, as_b0 f v hj]; exact ud_4 _ _ hj
  · rw [as_nx f v hj _ 5 (by decide) (by decide), ab_5, as_b0 f v hj]; exact ud_5 _ _ hj
  · rw [as_nx f v hj _ 6 (by decide) (by decide), ab_6, as_nx f v hj _ 5 (by decide) (by decide), ab_5, as_b0 f v hj]; exact ud_6 _ _ hj
theorem as_loop (f : Nat → Int32) (v : Int32) {k j : Nat} (hk : k ≤ 6) (hj : j ≤ 6) : X6_as_L51 f FU (nI j) v (nI k) = if undr k j = true then some (v, f) else some (-1000001 - nI 2, upd f 2 (f 2 + 1)) := by
  rw [show FU = 4996 + 1 + 1 + 1 + 1 from rfl]
  exact as_loop4 f v 4996 hk hj
theorem p_as (h : SP s bw th cm hd ck zz kd lo se ah ru sg no ti sp nb nt K L E A R F) (hf : FR f5 f6) (v1 v2 : Int32) :
    ∃ r5 r6, X5_as f5 bw kd sp v1 v2 = some r5 ∧ X6_as s f6 v1 v2 = some r6 ∧ r5.1 = r6.1 ∧ FR r5.2 r6.2 := by
  have h9 := h.h9
  unfold X5_as X6_as X6_isSpot
  simp only [f5_0, f6_0, f5_2, f5_5, f6_5, Option.bind_some, isIn_eq]
  cases hi : X5_isIn v1 0 9 with
  | false =>
    simp only [if_pos xbf]
    exact ⟨_, _, rfl, rfl, rfl, hf.up 0 (by decide)⟩
  | true =>
    obtain ⟨k, hk, rfl⟩ := isIn_t (n := 9) (by decide) hi
    simp only [if_neg xbt]
    cases hi2 : X5_isIn v2 0 6 with
    | false =>
      simp only [if_pos xbf]
      exact ⟨_, _, rfl, rfl, rfl, hf.up 0 (by decide)⟩
    | true =>
      obtain ⟨j, hj, rfl⟩ := isIn_t (n := 6) (by decide) hi2
      obtain ⟨q1, q2⟩ := h.2.2.2.2 k (by omega)
      simp only [if_neg xbt, if_pos (inr_lt (show k < 10 by omega) (by decide)), nI_clamp (show k < 2 ^ 31 by omega), show (73 : Int32) + nI k = nI (73 + k) from nI_add 73 k, if_pos (inr_lt (show 73 + k < 83 by omega) (by decide)), nI_clamp (show 73 + k < 2 ^ 31 by omega), q1]
      rcases q2 with q2 | ⟨b, hb, q2⟩
      · have e : X2_isBow bw (-1) = false := by unfold X2_isBow; rw [if_pos (by decide)]
        simp only [q2, e, if_pos xbf, if_neg (show ¬ (0 : Int32) ≤ -1 by decide)]
        exact ⟨_, _, rfl, rfl, rfl, hf.up 5 (by decide)⟩
      · have e : X2_isBow bw (nI b) = true := by rw [h.bw_]; exact isBow_k h9 hb
        simp only [q2, e, if_neg xbt, if_pos (nI_pos' (show b < 2 ^ 31 by omega)), if_pos (inr_lt (show b < 9 by omega) (by decide)), nI_clamp (show b < 2 ^ 31 by omega), (h.cb hb).1, under_eq (h.cc hb).1 hj, Option.bind_some, ge0 s (show b < 9 by omega), (h.ca hb).1, as_loop f6 (nI b) (h.cc hb).1 hj]
        cases hu : undr (K b) j with
        | false =>
          simp only [if_pos xbf]
          rw [if_neg (by decide)]
          exact ⟨_, _, rfl, rfl, rfl, hf.up 2 (by decide)⟩
        | true =>
          simp only [if_neg xbt]
          rw [if_pos trivial]
          exact ⟨_, _, rfl, rfl, rfl, hf⟩
end
