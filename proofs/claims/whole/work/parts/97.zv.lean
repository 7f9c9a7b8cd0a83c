/-! texts: tokens -/
def srt (x : Nat) : Nat := if 97 ≤ x ∧ x ≤ 122 then 1 else if 48 ≤ x ∧ x ≤ 57 then 2 else if x = 59 then 3 else if x = 32 then 4 else 5
theorem chr_eq {x : Nat} (h : x < 256) : X4_sortOf (nI x) = nI (srt x) ∧ X6_isLetter (nI x) = decide (srt x = 1) ∧ X6_isDigit (nI x) = decide (srt x = 2) ∧ decide (nI x = 32) = decide (srt x = 4) ∧ decide (nI x = 59) = decide (srt x = 3) := (by decide +kernel : ∀ x, x < 256 → X4_sortOf (nI x) = nI (srt x) ∧ X6_isLetter (nI x) = decide (srt x = 1) ∧ X6_isDigit (nI x) = decide (srt x = 2) ∧ decide (nI x = 32) = decide (srt x = 4) ∧ decide (nI x = 59) = decide (srt x = 3)) x h
theorem srt_1 {x : Nat} (h : srt x = 1) : 97 ≤ x ∧ x ≤ 122 := by
  unfold srt at h
  by_cases e : 97 ≤ x ∧ x ≤ 122
  · exact e
  · rw [if_neg e] at h
    split at h
    · cases h
    · split at h
      · cases h
      · split at h <;> cases h
theorem srt_2 {x : Nat} (h : srt x = 2) : 48 ≤ x ∧ x ≤ 57 := by
  unfold srt at h
  split at h
  · cases h
  · by_cases e : 48 ≤ x ∧ x ≤ 57
    · exact e
    · rw [if_neg e] at h
      split at h
      · cases h
      · split at h <;> cases h
theorem srt_r (x : Nat) : 1 ≤ srt x ∧ srt x ≤ 5 := by
  unfold srt
  split
  · omega
  · split
    · omega
    · split
      · omega
      · split <;> omega
def rn (T : Nat → Nat) (k : Nat) : Nat → Nat → Nat
  | 0, p => p
  | r + 1, p => if srt (T p) = k then rn T k r (p + 1) else p
/-- where a run of a sort ends -/
def rnn (T : Nat → Nat) (n k p : Nat) : Nat := rn T k (n - p) p
theorem rnn_t {T : Nat → Nat} {n k p : Nat} (hp : p < n) (h : srt (T p) = k) : rnn T n k p = rnn T n k (p + 1) := by
  unfold rnn
  rw [show n - p = (n - (p + 1)) + 1 by omega, rn, if_pos h]
theorem rnn_f {T : Nat → Nat} {n k p : Nat} (hp : p < n) (h : ¬ srt (T p) = k) : rnn T n k p = p := by
  unfold rnn
  rw [show n - p = (n - (p + 1)) + 1 by omega, rn, if_neg h]
theorem rnn_e {T : Nat → Nat} {n k p : Nat} (hp : n ≤ p) : rnn T n k p = p := by
  unfold rnn
  rw [show n - p = 0 by omega, rn]
theorem rnn_b {T : Nat → Nat} {n k : Nat} : ∀ d p, p + d = n → p ≤ rnn T n k p ∧ rnn T n k p ≤ n := by
  intro d
  induction d with
  | zero => intro p hp; rw [rnn_e (by omega)]; omega
  | succ d ih =>
    intro p hp
    by_cases e : srt (T p) = k
    · rw [rnn_t (by omega) e]
      have := ih (p + 1) (by omega)
      omega
    · rw [rnn_f (by omega) e]; omega
theorem rnn_le {T : Nat → Nat} {n k p : Nat} (hp : p ≤ n) : p ≤ rnn T n k p ∧ rnn T n k p ≤ n := rnn_b (n - p) p (by omega)
theorem rnn_eq {T : Nat → Nat} {n k e : Nat} (hn : e ≤ n) (hst : e = n ∨ ¬ srt (T e) = k) : ∀ d p, p + d = e → (∀ j, p ≤ j → j < e → srt (T j) = k) → rnn T n k p = e := by
  intro d
  induction d with
  | zero =>
    intro p hp _
    have : p = e := by omega
    subst this
    rcases hst with h | h
    · exact rnn_e (by omega)
    · by_cases e2 : p < n
      · exact rnn_f e2 h
      · exact rnn_e (by omega)
  | succ d ih =>
    intro p hp h
    rw [rnn_t (by omega) (h p (Nat.le_refl _) (by omega))]
    exact ih (p + 1) (by omega) (fun j h1 h2 => h j (by omega) h2)
def tend (T : Nat → Nat) (n b : Nat) : Nat := if b < n then (if srt (T b) = 1 then rnn T n 1 b else if srt (T b) = 2 then rnn T n 2 b else b + 1) else b
def ed (T : Nat → Nat) (n : Nat) : Nat → Nat
  | 0 => 0
  | i + 1 => tend T n (rnn T n 4 (ed T n i))
def bg (T : Nat → Nat) (n i : Nat) : Nat := rnn T n 4 (ed T n i)
theorem tend_b {T : Nat → Nat} {n b : Nat} (hb : b ≤ n) : b ≤ tend T n b ∧ tend T n b ≤ n ∧ (b < n → b < tend T n b) := by
  unfold tend
  by_cases h : b < n
  · rw [if_pos h]
    by_cases h1 : srt (T b) = 1
    · rw [if_pos h1, rnn_t h h1]
      have := rnn_le (T := T) (k := 1) (show b + 1 ≤ n by omega)
      omega
    · rw [if_neg h1]
      by_cases h2 : srt (T b) = 2
      · rw [if_pos h2, rnn_t h h2]
        have := rnn_le (T := T) (k := 2) (show b + 1 ≤ n by omega)
        omega
      · rw [if_neg h2]; omega
  · rw [if_neg h]; omega
theorem ed_le (T : Nat → Nat) (n : Nat) : ∀ i, ed T n i ≤ n
  | 0 => Nat.zero_le _
  | i + 1 => (tend_b (rnn_le (ed_le T n i)).2).2.1
theorem bg_le (T : Nat → Nat) (n i : Nat) : bg T n i ≤ n := (rnn_le (ed_le T n i)).2
theorem ed_bg (T : Nat → Nat) (n i : Nat) : ed T n i ≤ bg T n i := (rnn_le (ed_le T n i)).1
theorem bg_ed {T : Nat → Nat} {n i : Nat} (h : bg T n i < n) : bg T n i < ed T n (i + 1) := (tend_b (bg_le T n i)).2.2 h
theorem bg_end {T : Nat → Nat} {n i : Nat} (h : bg T n i = n) : bg T n (i + 1) = n := by
  have h1 := ed_bg T n (i + 1)
  have h2 := bg_le T n (i + 1)
  have h3 : bg T n i ≤ ed T n (i + 1) := (tend_b (bg_le T n i)).1
  omega
theorem bg_ge {T : Nat → Nat} {n : Nat} : ∀ i, bg T n i = n ∨ i ≤ bg T n i := by
  intro i
  induction i with
  | zero => exact Or.inr (Nat.zero_le _)
  | succ i ih =>
    by_cases h : bg T n i = n
    · exact Or.inl (bg_end h)
    · right
      have h0 := bg_le T n i
      have h1 := bg_ed (T := T) (n := n) (i := i) (by omega)
      have h2 := ed_bg T n (i + 1)
      rcases ih with h3 | h3
      · exact absurd h3 h
      · omega
def SATV : Nat := 9999999999999
/-- a word's number, a number's value, as the reference reckons them -/
def hw (T : Nat → Nat) : Nat → Nat → Nat → Nat
  | 0, _, v => v
  | r + 1, e, v => if srt (T e) = 1 then hw T r (e + 1) (if SATV < v then v else v * 27 + T e - 96) else v
def hn (T : Nat → Nat) : Nat → Nat → Nat → Nat
  | 0, _, v => v
  | r + 1, e, v => if srt (T e) = 2 then hn T r (e + 1) (if 999 < v then v else v * 10 + T e - 48) else v
def hwn (T : Nat → Nat) (n b : Nat) : Nat := hw T (n - b) b 0
def hnn (T : Nat → Nat) (n b : Nat) : Nat := hn T (n - b) b 0
def rk (T : Nat → Nat) (n b : Nat) : Nat := if b < n then (if srt (T b) = 1 then 1 else if srt (T b) = 2 then (if hnn T n b ≤ 999 then 2 else 4) else if srt (T b) = 3 then 3 else 4) else 0
def lgv (T : Nat → Nat) (n b : Nat) : Nat := if b < n then (if srt (T b) = 1 then hwn T n b else if srt (T b) = 2 then hnn T n b else 0) else 0
/-- a tape of bytes -/
def TP (us : Int32) (ub : Nat → Int32) (T : Nat → Nat) (n : Nat) : Prop := n ≤ 120 ∧ us = nI n ∧ ∀ i, i < n → ub i = nI (T i) ∧ T i < 256
section
variable {us : Int32} {ub : Nat → Int32} {T : Nat → Nat} {n : Nat}
theorem hw_lt (T : Nat → Nat) : ∀ r e v, v < 2 ^ 50 → hw T r e v < 2 ^ 50 := by
  intro r
  induction r with
  | zero => intro e v h; exact h
  | succ r ih =>
    intro e v h
    rw [hw]
    by_cases e1 : srt (T e) = 1
    · rw [if_pos e1]
      have := (srt_1 e1).2
      apply ih
      unfold SATV
      split <;> omega
    · rw [if_neg e1]; exact h
theorem hn_lt (T : Nat → Nat) : ∀ r e v, v < 2 ^ 14 → hn T r e v < 2 ^ 14 := by
  intro r
  induction r with
  | zero => intro e v h; exact h
  | succ r ih =>
    intro e v h
    rw [hn]
    by_cases e1 : srt (T e) = 2
    · rw [if_pos e1]
      have := (srt_2 e1).2
      apply ih
      split <;> omega
    · rw [if_neg e1]; exact h
theorem nt_98 (h : TP us ub T n) (tok beg : Int32) : ∀ d e m v, e + d = n → d < m → v < 2 ^ 50 → X6_nextToken_L98 us ub m tok beg (nI e) (lN v) = some (tok, beg, nI (rnn T n 1 e), lN (hw T (n - e) e v)) := by
  obtain ⟨h1, h2, h3⟩ := h
  intro d
  induction d with
  | zero =>
    intro e m v he hm hv
    obtain ⟨m, rfl⟩ : ∃ q, m = q + 1 := ⟨m - 1, by omega⟩
    rw [X6_nextToken_L98, h2, if_pos (nI_le (by omega) (by omega)), rnn_e (by omega), show n - e = 0 by omega, hw]
  | succ d ih =>
    intro e m v he hm hv
    obtain ⟨m, rfl⟩ : ∃ q, m = q + 1 := ⟨m - 1, by omega⟩
    obtain ⟨b1, b2⟩ := h3 e (by omega)
    rw [X6_nextToken_L98, h2, if_neg (nI_ge (by omega) (by omega)), if_pos (inr_lt (by omega) (by decide)), nI_clamp (by omega), b1, (chr_eq b2).2.1, show n - e = (n - (e + 1)) + 1 by omega, hw]
    by_cases e1 : srt (T e) = 1
    · obtain ⟨c1, c2⟩ := srt_1 e1
      rw [decide_eq_true e1, if_neg xbt, if_pos e1, rnn_t (by omega) e1, nI_1]
      by_cases e2 : SATV < v
      · have e2' : 9999999999999 < v := e2
        rw [if_pos e2, if_neg (fun z => by
          have := (lg_cmp_le _ _).mp z
          have := (pk_lLE (by omega) (show 9999999999999 < 2 ^ 63 by decide)).mp (show lN v ≤ lN 9999999999999 from this)
          omega), ← h2]
        exact ih (e + 1) m v (by omega) (by omega) hv
      · have e2' : ¬ 9999999999999 < v := e2
        rw [if_neg e2, if_pos (show lg_cmp (lN v) 9999999999999 ≤ 0 from (lg_cmp_le _ _).mpr (show lN v ≤ lN 9999999999999 from (pk_lLE (by omega) (by decide)).mpr (by omega))), if_pos (inr_lt (by omega) (by decide)), nI_l (by omega), show (27 : Int64) = lN 27 by decide, show (96 : Int64) = lN 96 by decide, lN_mul, lN_add, lN_sub (by omega), ← h2]
        exact ih (e + 1) m _ (by omega) (by omega) (by omega)
    · rw [decide_eq_false e1, if_pos xbf, if_neg e1, rnn_f (by omega) e1]
theorem nt_281 (beg : Int32) (e v : Nat) (hv : v < 2 ^ 14) : X6_nextToken_L281 beg (nI e) (lN v) = some (nI (if v ≤ 999 then 2 else 4), beg, nI e, lN v) := by
  unfold X6_nextToken_L281
  by_cases h : v ≤ 999
  · rw [if_pos h, if_pos (show lg_cmp (lN v) 999 ≤ 0 from (lg_cmp_le _ _).mpr (show lN v ≤ lN 999 from (pk_lLE (by omega) (by decide)).mpr h))]; rfl
  · rw [if_neg h, if_neg (fun z => by
      have := (lg_cmp_le _ _).mp z
      have := (pk_lLE (by omega) (show 999 < 2 ^ 63 by decide)).mp (show lN v ≤ lN 999 from this)
      omega)]; rfl
theorem nt_197 (h : TP us ub T n) (beg : Int32) : ∀ d e m v, e + d = n → d < m → v < 2 ^ 14 → X6_nextToken_L197 us ub m beg (nI e) (lN v) = some (nI (if hn T (n - e) e v ≤ 999 then 2 else 4), beg, nI (rnn T n 2 e), lN (hn T (n - e) e v)) := by
  have h0 := h
  obtain ⟨h1, h2, h3⟩ := h
  intro d
  induction d with
  | zero =>
    intro e m v he hm hv
    obtain ⟨m, rfl⟩ : ∃ q, m = q + 1 := ⟨m - 1, by omega⟩
    rw [X6_nextToken_L197, h2, if_pos (nI_le (by omega) (by omega)), rnn_e (by omega), show n - e = 0 by omega, hn]
    exact nt_281 beg e v hv
  | succ d ih =>
    intro e m v he hm hv
    obtain ⟨m, rfl⟩ : ∃ q, m = q + 1 := ⟨m - 1, by omega⟩
    obtain ⟨b1, b2⟩ := h3 e (by omega)
    rw [X6_nextToken_L197, h2, if_neg (nI_ge (by omega) (by omega)), if_pos (inr_lt (by omega) (by decide)), nI_clamp (by omega), b1, (chr_eq b2).2.2.1, show n - e = (n - (e + 1)) + 1 by omega, hn]
    by_cases e1 : srt (T e) = 2
    · obtain ⟨c1, c2⟩ := srt_2 e1
      rw [decide_eq_true e1, if_neg xbt, if_pos e1, rnn_t (by omega) e1, nI_1]
      by_cases e2 : 999 < v
      · rw [if_pos e2, if_neg (fun z => by
          have := (lg_cmp_le _ _).mp z
          have := (pk_lLE (by omega) (show 999 < 2 ^ 63 by decide)).mp (show lN v ≤ lN 999 from this)
          omega), ← h2]
        exact ih (e + 1) m v (by omega) (by omega) hv
      · rw [if_neg e2, if_pos (show lg_cmp (lN v) 999 ≤ 0 from (lg_cmp_le _ _).mpr (show lN v ≤ lN 999 from (pk_lLE (by omega) (by decide)).mpr (by omega))), if_pos (inr_lt (by omega) (by decide)), nI_l (by omega), show (10 : Int64) = lN 10 by decide, show (48 : Int64) = lN 48 by decide, lN_mul, lN_add, lN_sub (by omega), ← h2]
        exact ih (e + 1) m _ (by omega) (by omega) (by omega)
    · rw [decide_eq_false e1, if_pos xbf, if_neg e1, rnn_f (by omega) e1]
      exact nt_281 beg e v hv
theorem nt_46 (h : TP us ub T n) {b : Nat} (hb : b ≤ n) : X6_nextToken_L46 us ub (nI b) = some (nI (rk T n b), nI b, nI (tend T n b), lN (lgv T n b)) := by
  have h0 := h
  obtain ⟨h1, h2, h3⟩ := h
  unfold X6_nextToken_L46 rk tend lgv
  rw [h2]
  by_cases e : b < n
  · obtain ⟨b1, b2⟩ := h3 b e
    obtain ⟨-, c1, c2, c3, c4⟩ := chr_eq b2
    rw [if_neg (fun z => by have := (nI_eq (by omega) (by omega)).mp z; omega), if_pos e, if_pos e, if_pos e, if_pos (inr_lt (by omega) (by decide)), nI_clamp (by omega), b1, c1]
    by_cases e1 : srt (T b) = 1
    · have := nt_98 h0 1 (nI b) (n - b) b FU 0 (by omega) (by unfold FU; omega) (by decide)
      rw [h2] at this
      rw [decide_eq_true e1, if_neg xbt, if_pos e1, if_pos e1, if_pos e1]
      exact this
    · rw [decide_eq_false e1, if_pos xbf, if_neg e1, if_neg e1, if_neg e1, if_pos (inr_lt (by omega) (by decide)), c2]
      by_cases e2 : srt (T b) = 2
      · have := nt_197 h0 (nI b) (n - b) b FU 0 (by omega) (by unfold FU; omega) (by decide)
        rw [h2] at this
        rw [decide_eq_true e2, if_neg xbt, if_pos e2, if_pos e2, if_pos e2]
        exact this
      · rw [decide_eq_false e2, if_pos xbf, if_neg e2, if_neg e2, if_neg e2, if_pos (inr_lt (by omega) (by decide)), nI_1]
        by_cases e3 : srt (T b) = 3
        · rw [decide_eq_true e3] at c4
          rw [if_pos (of_decide_eq_true c4), if_pos e3]
          rfl
        · rw [decide_eq_false e3] at c4
          rw [if_neg (of_decide_eq_false c4), if_neg e3]
          rfl
  · have e2 : b = n := by omega
    rw [if_pos (by rw [e2]), if_neg e, if_neg e, if_neg e]
    rfl
theorem nt_8 (h : TP us ub T n) : ∀ d p m, p + d = n → d < m → X6_nextToken_L8 us ub m (nI p) = X6_nextToken_L46 us ub (nI (rnn T n 4 p)) := by
  obtain ⟨h1, h2, h3⟩ := h
  intro d
  induction d with
  | zero =>
    intro p m hp hm
    obtain ⟨m, rfl⟩ : ∃ q, m = q + 1 := ⟨m - 1, by omega⟩
    rw [X6_nextToken_L8, h2, if_pos (nI_le (by omega) (by omega)), rnn_e (by omega)]
  | succ d ih =>
    intro p m hp hm
    obtain ⟨m, rfl⟩ : ∃ q, m = q + 1 := ⟨m - 1, by omega⟩
    obtain ⟨b1, b2⟩ := h3 p (by omega)
    obtain ⟨-, -, -, c3, -⟩ := chr_eq b2
    rw [X6_nextToken_L8, h2, if_neg (nI_ge (by omega) (by omega)), if_pos (inr_lt (by omega) (by decide)), nI_clamp (by omega), b1, nI_1]
    by_cases e1 : srt (T p) = 4
    · rw [decide_eq_true e1] at c3
      rw [if_pos (of_decide_eq_true c3), rnn_t (by omega) e1, ← h2]
      exact ih (p + 1) m (by omega) (by omega)
    · rw [decide_eq_false e1] at c3
      rw [if_neg (of_decide_eq_false c3), rnn_f (by omega) e1]
/-- the reference's next token -/
theorem next_eq (h : TP us ub T n) (i : Nat) : X6_nextToken us (nI (ed T n i)) ub = some (nI (rk T n (bg T n i)), nI (bg T n i), nI (ed T n (i + 1)), lN (lgv T n (bg T n i))) := by
  have h1 := ed_le T n i
  unfold X6_nextToken
  rw [nt_8 h (n - ed T n i) (ed T n i) FU (by omega) (by have := h.1; unfold FU; omega)]
  exact nt_46 h (bg_le T n i)
end
