/-! texts: the words' numbers -/
def stp (v x : Nat) : Nat := if SATV < v then v else v * 27 + x - 96
def hz (T : Nat → Nat) (b : Nat) : Nat → Nat
  | 0 => 0
  | r + 1 => stp (hz T b r) (T (b + r))
theorem hz_lt {T : Nat → Nat} {b : Nat} : ∀ r, r ≤ 8 → (∀ i, i < r → 97 ≤ T (b + i) ∧ T (b + i) ≤ 122) → hz T b r < 27 ^ r ∧ 27 ^ r ≤ 282429536481 := by
  intro r
  induction r with
  | zero => intro _ _; exact ⟨show (0 : Nat) < 27 ^ 0 by decide, show 27 ^ 0 ≤ 282429536481 by decide⟩
  | succ r ih =>
    intro hr h
    obtain ⟨h1, -⟩ := ih (by omega) (fun i hi => h i (by omega))
    obtain ⟨h3, h4⟩ := h r (by omega)
    have h5 : 27 ^ r ≤ 10460353203 := Nat.le_trans (show 27 ^ r ≤ 27 ^ 7 from Nat.pow_le_pow_right (by decide) (by omega)) (show 27 ^ 7 ≤ 10460353203 by decide)
    rw [hz, Nat.pow_succ]
    unfold stp SATV
    generalize 27 ^ r = P at *
    rw [if_neg (by omega)]
    omega
theorem hz_pos {T : Nat → Nat} {b r : Nat} (h : 97 ≤ T (b + r)) : 0 < hz T b (r + 1) := by
  rw [hz]
  unfold stp SATV
  split <;> omega
theorem hz_inj {T D : Nat → Nat} {b : Nat} : ∀ k r, k ≤ 8 → (∀ i, i < r → 97 ≤ T (b + i) ∧ T (b + i) ≤ 122) → (∀ i, i < k → 97 ≤ D (0 + i) ∧ D (0 + i) ≤ 122) → (hz T b r = hz D 0 k ↔ r = k ∧ ∀ i, i < r → D i = T (b + i)) := by
  intro k
  induction k with
  | zero =>
    intro r _ h1 _
    cases r with
    | zero => exact ⟨fun _ => ⟨rfl, fun i hi => absurd hi (Nat.not_lt_zero i)⟩, fun _ => rfl⟩
    | succ r =>
      have := hz_pos (h1 r (by omega)).1
      refine ⟨fun h => ?_, fun h => absurd h.1 (by omega)⟩
      have h0 : hz D 0 0 = 0 := rfl
      omega
  | succ k ih =>
    intro r hk h1 h2
    have hp := hz_pos (h2 k (by omega)).1
    cases r with
    | zero =>
      refine ⟨fun h => ?_, fun h => absurd h.1 (by omega)⟩
      have h0 : hz T b 0 = 0 := rfl
      omega
    | succ r =>
      have ih := ih r (by omega) (fun i hi => h1 i (by omega)) (fun i hi => h2 i (by omega))
      obtain ⟨q1, q2⟩ := hz_lt (T := D) (b := 0) (k + 1) hk h2
      obtain ⟨p1, p2⟩ := hz_lt (T := D) (b := 0) k (by omega) (fun i hi => h2 i (by omega))
      obtain ⟨x1, x2⟩ := h1 r (by omega)
      obtain ⟨y1, y2⟩ := h2 k (by omega)
      have e1 : hz D 0 (k + 1) = hz D 0 k * 27 + D (0 + k) - 96 := by
        rw [hz]
        unfold stp SATV
        rw [if_neg (by omega)]
      have e2 : hz T b (r + 1) = if 9999999999999 < hz T b r then hz T b r else hz T b r * 27 + T (b + r) - 96 := rfl
      constructor
      · intro h
        have hv : ¬ 9999999999999 < hz T b r := fun z => by
          rw [if_pos z] at e2
          omega
        rw [if_neg hv] at e2
        obtain ⟨g1, g2⟩ := ih.mp (by omega)
        have g3 : T (b + r) = D (0 + k) := by omega
        refine ⟨by omega, fun i hi => ?_⟩
        by_cases e : i = r
        · rw [e, g3, Nat.zero_add, g1]
        · exact g2 i (by omega)
      · rintro ⟨g1, g2⟩
        have g0 : r = k := by omega
        have g3 := ih.mpr ⟨g0, fun i hi => g2 i (by omega)⟩
        have g4 := g2 r (by omega)
        rw [hz, hz, g3, Nat.zero_add, ← g0, g4]
def Dw (w i : Nat) : Nat := (wl w).getD i 0
def hx (w : Nat) : Nat := hz (Dw w) 0 (wl w).length
theorem hz_st {D : Nat → Nat} {i : Nat} (h : hz D 0 i < 282429536481) : hz D 0 (i + 1) = hz D 0 i * 27 + D i - 96 := by
  rw [hz, Nat.zero_add]
  unfold stp SATV
  rw [if_neg (by omega)]
theorem wl_l {w i : Nat} (h : w < 16) (hi : i < (wl w).length) : 97 ≤ Dw w i ∧ Dw w i ≤ 122 := by
  have h8 := (len_eq h).2
  exact (by decide +kernel : ∀ w, w < 16 → ∀ i, i < 8 → i < (wl w).length → 97 ≤ Dw w i ∧ Dw w i ≤ 122) w h i (by omega) hi
theorem wl_ltr {w i : Nat} (h : w < 16) (hi : i < (wl w).length) : 97 ≤ Dw w (0 + i) ∧ Dw w (0 + i) ≤ 122 := by
  have h8 := (len_eq h).2
  have := (by decide +kernel : ∀ w, w < 16 → ∀ i, i < 8 → i < (wl w).length → 97 ≤ Dw w i ∧ Dw w i ≤ 122) w h i (by omega) hi
  rw [Nat.zero_add]
  exact this
theorem wl_inj {v w : Nat} (hv : v < 16) (hw : w < 16) (h1 : (wl v).length = (wl w).length) (h2 : ∀ i, i < 8 → i < (wl v).length → Dw v i = Dw w i) : v = w := (by decide +kernel : ∀ v, v < 16 → ∀ w, w < 16 → (wl v).length = (wl w).length → (∀ i, i < 8 → i < (wl v).length → Dw v i = Dw w i) → v = w) v hv w hw h1 h2
theorem hx_lt {w : Nat} (h : w < 16) : hx w < 282429536481 := by
  obtain ⟨h1, h2⟩ := hz_lt (T := Dw w) (b := 0) (wl w).length (len_eq h).2 (fun i hi => wl_ltr h hi)
  exact Nat.lt_of_lt_of_le h1 h2
theorem wmB_iff {T : Nat → Nat} {n w b e : Nat} : wmB T n w b e = true ↔ e - b = (wl w).length ∧ ∀ i, i < e - b → Dw w i = T (b + i) := by
  unfold wmB
  rw [Bool.and_eq_true, decide_eq_true_iff, decide_eq_true_iff]
  exact ⟨fun h => ⟨h.1.symm, h.2⟩, fun h => ⟨h.1.symm, h.2⟩⟩
theorem wix_spec {T : Nat → Nat} {n b e : Nat} : ∀ d w, w + d = 16 → w ≤ wix T n b e d w ∧ wix T n b e d w ≤ 16 ∧ (wix T n b e d w < 16 → wmB T n (wix T n b e d w) b e = true) ∧ ∀ j, w ≤ j → j < wix T n b e d w → wmB T n j b e = false := by
  intro d
  induction d with
  | zero =>
    intro w hw
    rw [wix]
    exact ⟨by omega, by omega, fun h => by omega, fun j h1 h2 => by omega⟩
  | succ d ih =>
    intro w hw
    rw [wix]
    cases ew : wmB T n w b e with
    | true =>
      rw [if_pos rfl]
      exact ⟨by omega, by omega, fun _ => ew, fun j h1 h2 => by omega⟩
    | false =>
      rw [if_neg (by decide)]
      obtain ⟨g1, g2, g3, g4⟩ := ih (w + 1) (by omega)
      refine ⟨by omega, g2, g3, fun j h1 h2 => ?_⟩
      by_cases ej : j = w
      · rw [ej]; exact ew
      · exact g4 j (by omega) h2
theorem hw_hz {T : Nat → Nat} {n b : Nat} : ∀ d p, p + d = n → b ≤ p → hw T (n - p) p (hz T b (p - b)) = hz T b (rnn T n 1 p - b) := by
  intro d
  induction d with
  | zero =>
    intro p hp hb
    rw [rnn_e (by omega), show n - p = 0 by omega, hw]
  | succ d ih =>
    intro p hp hb
    rw [show n - p = (n - (p + 1)) + 1 by omega, hw]
    by_cases e : srt (T p) = 1
    · have := ih (p + 1) (by omega) (by omega)
      rw [show p + 1 - b = (p - b) + 1 by omega, hz, show b + (p - b) = p by omega] at this
      rw [if_pos e, rnn_t (by omega) e]
      exact this
    · rw [if_neg e, rnn_f (by omega) e]
/-- the word at the token i; 16: none -/
def wd (T : Nat → Nat) (n i : Nat) : Nat := if ck0 T n i = 1 then wix T n (bg T n i) (ed T n (i + 1)) 16 0 else 16
theorem ck_lt {T : Nat → Nat} {n i k : Nat} (hk : 0 < k) (h : ck0 T n i = k) : bg T n i < n ∧ srt (T (bg T n i)) = k := by
  unfold ck0 at h
  by_cases e : bg T n i < n
  · rw [if_pos e] at h; exact ⟨e, h⟩
  · rw [if_neg e] at h; omega
theorem wd_le (T : Nat → Nat) (n i : Nat) : wd T n i ≤ 16 := by
  unfold wd
  split
  · exact (wix_spec 16 0 (by omega)).2.1
  · omega
theorem wd_1 {T : Nat → Nat} {n i : Nat} (h : wd T n i < 16) : ck0 T n i = 1 := by
  unfold wd at h
  by_cases e : ck0 T n i = 1
  · exact e
  · rw [if_neg e] at h; omega
theorem wd_iff {T : Nat → Nat} {n i : Nat} (h : ck0 T n i = 1) {w : Nat} (hw : w < 16) : lgv T n (bg T n i) = hx w ↔ w = wd T n i := by
  obtain ⟨h1, h2⟩ := ck_lt (by decide) h
  have hed : ed T n (i + 1) = rnn T n 1 (bg T n i) := by
    show tend T n (bg T n i) = _
    unfold tend
    rw [if_pos h1, if_pos h2]
  have hbe := bg_ed h1
  obtain ⟨r1, r2⟩ := rnn_all (T := T) (n := n) (k := 1) (n - bg T n i) (bg T n i) (by omega)
  have hz1 := hw_hz (T := T) (n := n) (b := bg T n i) (n - bg T n i) (bg T n i) (by omega) (Nat.le_refl _)
  rw [Nat.sub_self, ← hed] at hz1
  have hz2 : lgv T n (bg T n i) = hz T (bg T n i) (ed T n (i + 1) - bg T n i) := by
    unfold lgv hwn
    rw [if_pos h1, if_pos h2]
    exact hz1
  have key : ∀ w, w < 16 → (lgv T n (bg T n i) = hx w ↔ wmB T n w (bg T n i) (ed T n (i + 1)) = true) := by
    intro w hw
    rw [hz2, wmB_iff]
    exact hz_inj (wl w).length _ (len_eq hw).2 (fun j hj => srt_1 (r1 _ (by omega) (by rw [← hed]; omega))) (fun j hj => wl_ltr hw hj)
  have hwd : wd T n i = wix T n (bg T n i) (ed T n (i + 1)) 16 0 := by unfold wd; rw [if_pos h]
  obtain ⟨-, g2, g3, g4⟩ := wix_spec (T := T) (n := n) (b := bg T n i) (e := ed T n (i + 1)) 16 0 (by omega)
  rw [key w hw, hwd]
  generalize wix T n (bg T n i) (ed T n (i + 1)) 16 0 = q at *
  constructor
  · intro hm
    rcases Nat.lt_or_ge w q with hq | hq
    · rw [g4 w (by omega) hq] at hm; cases hm
    · have g5 := g3 (by omega)
      obtain ⟨a1, a2⟩ := wmB_iff.mp hm
      obtain ⟨b1, b2⟩ := wmB_iff.mp g5
      exact wl_inj hw (by omega) (by omega) (fun j _ hj => by rw [a2 j (by omega), b2 j (by omega)])
  · intro e
    rw [e]
    exact g3 (by omega)
theorem cvl_w {T : Nat → Nat} {n i : Nat} (h : ck0 T n i = 1) : cvl T n i = if wd T n i = 16 then -1 else nI (wd T n i) := by
  obtain ⟨h1, h2⟩ := ck_lt (by decide) h
  unfold cvl wd wcd
  rw [if_pos h1, if_pos h2, if_pos h]
theorem cvl_k {T : Nat → Nat} {n i k : Nat} (h : ck0 T n i = 1) (hk : k < 16) : cvl T n i = nI k ↔ wd T n i = k := by
  rw [cvl_w h]
  have := wd_le T n i
  by_cases e : wd T n i = 16
  · rw [if_pos e]
    refine ⟨fun z => ?_, fun z => by omega⟩
    exact absurd z ((by decide +kernel : ∀ k, k < 16 → ¬ (-1 : Int32) = nI k) k hk)
  · rw [if_neg e]
    exact nI_eq (by omega) (by omega)
theorem tb_letters {w i : Nat} (hw : w < 7) (hi : i < 8) : xm0 6200 (8 * w + i) = if i < (wl (0 + w)).length then nI (Dw (0 + w) i) else 32 := (by decide +kernel : ∀ w, w < 7 → ∀ i, i < 8 → xm0 6200 (8 * w + i) = if i < (wl (0 + w)).length then nI (Dw (0 + w) i) else 32) w hw i hi
theorem l27_letters (k4 : Int32 → Int32 → Option Int32) {g : Nat} (hg : g < 2 ^ 50) {w : Nat} (hw : w < 7) (v2 : Int32) : ∀ d i m, i + d = 8 → d < m → X6_wordOf_m_m_letters_L27 k4 (xm0 6200) (lN g) m v2 (nI w) (lN (hz (Dw (0 + w)) 0 (min i (wl (0 + w)).length))) (nI i) = if g = hx (0 + w) then k4 (nI w) (nI (w + 1)) else k4 v2 (nI (w + 1)) := by
  have hl := (len_eq (show 0 + w < 16 by omega)).2
  have hb := hx_lt (show 0 + w < 16 by omega)
  intro d
  induction d with
  | zero =>
    intro i m hi hm
    obtain ⟨m, rfl⟩ : ∃ q, m = q + 1 := ⟨m - 1, by omega⟩
    have hmin : min i (wl (0 + w)).length = (wl (0 + w)).length := Nat.min_eq_right (by omega)
    rw [X6_wordOf_m_m_letters_L27, if_pos (show (8 : Int32) ≤ nI i from nI_le (a := 8) (by omega) (by omega)), nI_1, hmin]
    by_cases e : g = hx (0 + w)
    · rw [if_pos e, if_pos ((lg_cmp_eq _ _).mpr (by rw [e]; rfl))]
    · rw [if_neg e, if_neg (show ¬ lg_cmp (lN (hz (Dw (0 + w)) 0 (wl (0 + w)).length)) (lN g) = 0 from fun z => e ((pk_lEQ (show hx (0 + w) < 2 ^ 63 by omega) (by omega)).mp ((lg_cmp_eq _ _).mp z)).symm)]
  | succ d ih =>
    intro i m hi hm
    obtain ⟨m, rfl⟩ : ∃ q, m = q + 1 := ⟨m - 1, by omega⟩
    rw [X6_wordOf_m_m_letters_L27, if_neg (show ¬ (8 : Int32) ≤ nI i from nI_ge (b := 8) (by omega) (by omega)), show (8 : Int32) * nI w = nI (8 * w) from nI_mul 8 w, nI_add, if_pos (inr_lt (by omega) (by decide)), nI_clamp (by omega), tb_letters hw (by omega)]
    by_cases e : i < (wl (0 + w)).length
    · obtain ⟨c1, c2⟩ := wl_l (show 0 + w < 16 by omega) e
      obtain ⟨q1, q2⟩ := hz_lt (T := Dw (0 + w)) (b := 0) i (by omega) (fun j hj => wl_ltr (show 0 + w < 16 by omega) (by omega))
      have hmin : min i (wl (0 + w)).length = i := Nat.min_eq_left (by omega)
      have hmin1 : min (i + 1) (wl (0 + w)).length = i + 1 := Nat.min_eq_left (by omega)
      have := ih (i + 1) m (by omega) (by omega)
      rw [hmin1, hz_st (by omega)] at this
      rw [if_pos e, if_neg (show ¬ nI (Dw (0 + w) i) = 32 from fun z => by have := (nI_eq (b := 32) (by omega) (by decide)).mp z; omega), if_pos (inr_lt (by omega) (by decide)), hmin, nI_l (by omega), show (27 : Int64) = lN 27 by decide, show (96 : Int64) = lN 96 by decide, lN_mul, lN_add, lN_sub (by omega), nI_1]
      exact this
    · have hmin : min i (wl (0 + w)).length = (wl (0 + w)).length := Nat.min_eq_right (by omega)
      have hmin1 : min (i + 1) (wl (0 + w)).length = (wl (0 + w)).length := Nat.min_eq_right (by omega)
      have := ih (i + 1) m (by omega) (by omega)
      rw [hmin1] at this
      rw [if_neg e, if_pos rfl, hmin, nI_1]
      exact this
theorem l4_letters {g q : Nat} (hg : g < 2 ^ 50) (hq : ∀ w, w < 16 → (g = hx w ↔ w = q)) : ∀ d w m v2, w + d = 7 → d < m → X6_wordOf_m_m_letters_L4 1 (xm0 6200) (lN g) m v2 (nI w) = some (if 0 + w ≤ q ∧ q < 0 + 7 then nI (q - 0) else v2) := by
  intro d
  induction d with
  | zero =>
    intro w m v2 hw hm
    obtain ⟨m, rfl⟩ : ∃ q, m = q + 1 := ⟨m - 1, by omega⟩
    rw [X6_wordOf_m_m_letters_L4, show nI 56 / 8 = nI 7 by decide, if_pos (nI_le (by omega) (by omega)), if_neg (by omega)]
  | succ d ih =>
    intro w m v2 hw hm
    obtain ⟨m, rfl⟩ : ∃ q, m = q + 1 := ⟨m - 1, by omega⟩
    have hmin : min 0 (wl (0 + w)).length = 0 := Nat.min_eq_left (Nat.zero_le _)
    have := l27_letters (fun v20 v30 => X6_wordOf_m_m_letters_L4 1 (xm0 6200) (lN g) m v20 v30) hg (show w < 7 by omega) v2 8 0 FU (by omega) (by unfold FU; omega)
    rw [hmin] at this
    rw [X6_wordOf_m_m_letters_L4, show nI 56 / 8 = nI 7 by decide, if_neg (nI_ge (by omega) (by omega)), if_pos rfl]
    refine this.trans ?_
    have hh := hq (0 + w) (by omega)
    by_cases e : g = hx (0 + w)
    · have := hh.mp e
      rw [if_pos e]
      refine (ih (w + 1) m (nI w) (by omega) (by omega)).trans ?_
      rw [if_neg (by omega), if_pos (by omega), show q - 0 = w by omega]
    · have : ¬ 0 + w = q := fun z => e (hh.mpr z)
      rw [if_neg e]
      refine (ih (w + 1) m v2 (by omega) (by omega)).trans ?_
      by_cases e2 : 0 + w ≤ q ∧ q < 0 + 7
      · rw [if_pos e2, if_pos (by omega)]
      · rw [if_neg e2, if_neg (by omega)]
theorem wr_letters (T : Nat → Nat) (n i : Nat) : X6_wordOf_m_m_letters (nI (rk T n (bg T n i))) (xm0 6200) (lN (lgv T n (bg T n i))) = some (if 0 ≤ wd T n i ∧ wd T n i < 0 + 7 then nI (wd T n i - 0) else -1) := by
  unfold X6_wordOf_m_m_letters
  by_cases h : ck0 T n i = 1
  · obtain ⟨h1, h2⟩ := ck_lt (by decide) h
    have hr : rk T n (bg T n i) = 1 := by unfold rk; rw [if_pos h1, if_pos h2]
    have hg : lgv T n (bg T n i) < 2 ^ 50 := by
      unfold lgv
      rw [if_pos h1, if_pos h2]
      exact hw_lt T _ _ _ (by decide)
    have := l4_letters hg (fun w hw => wd_iff h hw) 7 0 FU (-1) (by omega) (by unfold FU; omega)
    rw [hr]
    exact this
  · have hr : ¬ nI (rk T n (bg T n i)) = 1 := by
      have hs := srt_r (T (bg T n i))
      unfold rk
      unfold ck0 at h
      by_cases h1 : bg T n i < n
      · rw [if_pos h1] at h
        rw [if_pos h1, if_neg h]
        split
        · split <;> decide
        · split <;> decide
      · rw [if_neg h1]; decide
    have h16 : wd T n i = 16 := by unfold wd; rw [if_neg h]
    obtain ⟨m, hm⟩ : ∃ m, FU = m + 1 := ⟨FU - 1, by unfold FU; omega⟩
    rw [hm, X6_wordOf_m_m_letters_L4, if_neg (show ¬ nI 56 / 8 ≤ (0 : Int32) by decide), if_neg hr, h16, if_neg (by omega)]
theorem tb_others {w i : Nat} (hw : w < 6) (hi : i < 8) : xm0 6400 (8 * w + i) = if i < (wl (7 + w)).length then nI (Dw (7 + w) i) else 32 := (by decide +kernel : ∀ w, w < 6 → ∀ i, i < 8 → xm0 6400 (8 * w + i) = if i < (wl (7 + w)).length then nI (Dw (7 + w) i) else 32) w hw i hi
theorem l27_others (k4 : Int32 → Int32 → Option Int32) {g : Nat} (hg : g < 2 ^ 50) {w : Nat} (hw : w < 6) (v2 : Int32) : ∀ d i m, i + d = 8 → d < m → X6_wordOf_m_m_others_L27 k4 (xm0 6400) (lN g) m v2 (nI w) (lN (hz (Dw (7 + w)) 0 (min i (wl (7 + w)).length))) (nI i) = if g = hx (7 + w) then k4 (nI w) (nI (w + 1)) else k4 v2 (nI (w + 1)) := by
  have hl := (len_eq (show 7 + w < 16 by omega)).2
  have hb := hx_lt (show 7 + w < 16 by omega)
  intro d
  induction d with
  | zero =>
    intro i m hi hm
    obtain ⟨m, rfl⟩ : ∃ q, m = q + 1 := ⟨m - 1, by omega⟩
    have hmin : min i (wl (7 + w)).length = (wl (7 + w)).length := Nat.min_eq_right (by omega)
    rw [X6_wordOf_m_m_others_L27, if_pos (show (8 : Int32) ≤ nI i from nI_le (a := 8) (by omega) (by omega)), nI_1, hmin]
    by_cases e : g = hx (7 + w)
    · rw [if_pos e, if_pos ((lg_cmp_eq _ _).mpr (by rw [e]; rfl))]
    · rw [if_neg e, if_neg (show ¬ lg_cmp (lN (hz (Dw (7 + w)) 0 (wl (7 + w)).length)) (lN g) = 0 from fun z => e ((pk_lEQ (show hx (7 + w) < 2 ^ 63 by omega) (by omega)).mp ((lg_cmp_eq _ _).mp z)).symm)]
  | succ d ih =>
    intro i m hi hm
    obtain ⟨m, rfl⟩ : ∃ q, m = q + 1 := ⟨m - 1, by omega⟩
    rw [X6_wordOf_m_m_others_L27, if_neg (show ¬ (8 : Int32) ≤ nI i from nI_ge (b := 8) (by omega) (by omega)), show (8 : Int32) * nI w = nI (8 * w) from nI_mul 8 w, nI_add, if_pos (inr_lt (by omega) (by decide)), nI_clamp (by omega), tb_others hw (by omega)]
    by_cases e : i < (wl (7 + w)).length
    · obtain ⟨c1, c2⟩ := wl_l (show 7 + w < 16 by omega) e
      obtain ⟨q1, q2⟩ := hz_lt (T := Dw (7 + w)) (b := 0) i (by omega) (fun j hj => wl_ltr (show 7 + w < 16 by omega) (by omega))
      have hmin : min i (wl (7 + w)).length = i := Nat.min_eq_left (by omega)
      have hmin1 : min (i + 1) (wl (7 + w)).length = i + 1 := Nat.min_eq_left (by omega)
      have := ih (i + 1) m (by omega) (by omega)
      rw [hmin1, hz_st (by omega)] at this
      rw [if_pos e, if_neg (show ¬ nI (Dw (7 + w) i) = 32 from fun z => by have := (nI_eq (b := 32) (by omega) (by decide)).mp z; omega), if_pos (inr_lt (by omega) (by decide)), hmin, nI_l (by omega), show (27 : Int64) = lN 27 by decide, show (96 : Int64) = lN 96 by decide, lN_mul, lN_add, lN_sub (by omega), nI_1]
      exact this
    · have hmin : min i (wl (7 + w)).length = (wl (7 + w)).length := Nat.min_eq_right (by omega)
      have hmin1 : min (i + 1) (wl (7 + w)).length = (wl (7 + w)).length := Nat.min_eq_right (by omega)
      have := ih (i + 1) m (by omega) (by omega)
      rw [hmin1] at this
      rw [if_neg e, if_pos rfl, hmin, nI_1]
      exact this
theorem l4_others {g q : Nat} (hg : g < 2 ^ 50) (hq : ∀ w, w < 16 → (g = hx w ↔ w = q)) : ∀ d w m v2, w + d = 6 → d < m → X6_wordOf_m_m_others_L4 1 (xm0 6400) (lN g) m v2 (nI w) = some (if 7 + w ≤ q ∧ q < 7 + 6 then nI (q - 7) else v2) := by
  intro d
  induction d with
  | zero =>
    intro w m v2 hw hm
    obtain ⟨m, rfl⟩ : ∃ q, m = q + 1 := ⟨m - 1, by omega⟩
    rw [X6_wordOf_m_m_others_L4, show nI 48 / 8 = nI 6 by decide, if_pos (nI_le (by omega) (by omega)), if_neg (by omega)]
  | succ d ih =>
    intro w m v2 hw hm
    obtain ⟨m, rfl⟩ : ∃ q, m = q + 1 := ⟨m - 1, by omega⟩
    have hmin : min 0 (wl (7 + w)).length = 0 := Nat.min_eq_left (Nat.zero_le _)
    have := l27_others (fun v20 v30 => X6_wordOf_m_m_others_L4 1 (xm0 6400) (lN g) m v20 v30) hg (show w < 6 by omega) v2 8 0 FU (by omega) (by unfold FU; omega)
    rw [hmin] at this
    rw [X6_wordOf_m_m_others_L4, show nI 48 / 8 = nI 6 by decide, if_neg (nI_ge (by omega) (by omega)), if_pos rfl]
    refine this.trans ?_
    have hh := hq (7 + w) (by omega)
    by_cases e : g = hx (7 + w)
    · have := hh.mp e
      rw [if_pos e]
      refine (ih (w + 1) m (nI w) (by omega) (by omega)).trans ?_
      rw [if_neg (by omega), if_pos (by omega), show q - 7 = w by omega]
    · have : ¬ 7 + w = q := fun z => e (hh.mpr z)
      rw [if_neg e]
      refine (ih (w + 1) m v2 (by omega) (by omega)).trans ?_
      by_cases e2 : 7 + w ≤ q ∧ q < 7 + 6
      · rw [if_pos e2, if_pos (by omega)]
      · rw [if_neg e2, if_neg (by omega)]
theorem wr_others (T : Nat → Nat) (n i : Nat) : X6_wordOf_m_m_others (nI (rk T n (bg T n i))) (xm0 6400) (lN (lgv T n (bg T n i))) = some (if 7 ≤ wd T n i ∧ wd T n i < 7 + 6 then nI (wd T n i - 7) else -1) := by
  unfold X6_wordOf_m_m_others
  by_cases h : ck0 T n i = 1
  · obtain ⟨h1, h2⟩ := ck_lt (by decide) h
    have hr : rk T n (bg T n i) = 1 := by unfold rk; rw [if_pos h1, if_pos h2]
    have hg : lgv T n (bg T n i) < 2 ^ 50 := by
      unfold lgv
      rw [if_pos h1, if_pos h2]
      exact hw_lt T _ _ _ (by decide)
    have := l4_others hg (fun w hw => wd_iff h hw) 6 0 FU (-1) (by omega) (by unfold FU; omega)
    rw [hr]
    exact this
  · have hr : ¬ nI (rk T n (bg T n i)) = 1 := by
      have hs := srt_r (T (bg T n i))
      unfold rk
      unfold ck0 at h
      by_cases h1 : bg T n i < n
      · rw [if_pos h1] at h
        rw [if_pos h1, if_neg h]
        split
        · split <;> decide
        · split <;> decide
      · rw [if_neg h1]; decide
    have h16 : wd T n i = 16 := by unfold wd; rw [if_neg h]
    obtain ⟨m, hm⟩ : ∃ m, FU = m + 1 := ⟨FU - 1, by unfold FU; omega⟩
    rw [hm, X6_wordOf_m_m_others_L4, if_neg (show ¬ nI 48 / 8 ≤ (0 : Int32) by decide), if_neg hr, h16, if_neg (by omega)]
theorem tb_more {w i : Nat} (hw : w < 3) (hi : i < 8) : xm0 6300 (8 * w + i) = if i < (wl (13 + w)).length then nI (Dw (13 + w) i) else 32 := (by decide +kernel : ∀ w, w < 3 → ∀ i, i < 8 → xm0 6300 (8 * w + i) = if i < (wl (13 + w)).length then nI (Dw (13 + w) i) else 32) w hw i hi
theorem l27_more (k4 : Int32 → Int32 → Option Int32) {g : Nat} (hg : g < 2 ^ 50) {w : Nat} (hw : w < 3) (v2 : Int32) : ∀ d i m, i + d = 8 → d < m → X6_wordOf_m_m_more_L27 k4 (xm0 6300) (lN g) m v2 (nI w) (lN (hz (Dw (13 + w)) 0 (min i (wl (13 + w)).length))) (nI i) = if g = hx (13 + w) then k4 (nI w) (nI (w + 1)) else k4 v2 (nI (w + 1)) := by
  have hl := (len_eq (show 13 + w < 16 by omega)).2
  have hb := hx_lt (show 13 + w < 16 by omega)
  intro d
  induction d with
  | zero =>
    intro i m hi hm
    obtain ⟨m, rfl⟩ : ∃ q, m = q + 1 := ⟨m - 1, by omega⟩
    have hmin : min i (wl (13 + w)).length = (wl (13 + w)).length := Nat.min_eq_right (by omega)
    rw [X6_wordOf_m_m_more_L27, if_pos (show (8 : Int32) ≤ nI i from nI_le (a := 8) (by omega) (by omega)), nI_1, hmin]
    by_cases e : g = hx (13 + w)
    · rw [if_pos e, if_pos ((lg_cmp_eq _ _).mpr (by rw [e]; rfl))]
    · rw [if_neg e, if_neg (show ¬ lg_cmp (lN (hz (Dw (13 + w)) 0 (wl (13 + w)).length)) (lN g) = 0 from fun z => e ((pk_lEQ (show hx (13 + w) < 2 ^ 63 by omega) (by omega)).mp ((lg_cmp_eq _ _).mp z)).symm)]
  | succ d ih =>
    intro i m hi hm
    obtain ⟨m, rfl⟩ : ∃ q, m = q + 1 := ⟨m - 1, by omega⟩
    rw [X6_wordOf_m_m_more_L27, if_neg (show ¬ (8 : Int32) ≤ nI i from nI_ge (b := 8) (by omega) (by omega)), show (8 : Int32) * nI w = nI (8 * w) from nI_mul 8 w, nI_add, if_pos (inr_lt (by omega) (by decide)), nI_clamp (by omega), tb_more hw (by omega)]
    by_cases e : i < (wl (13 + w)).length
    · obtain ⟨c1, c2⟩ := wl_l (show 13 + w < 16 by omega) e
      obtain ⟨q1, q2⟩ := hz_lt (T := Dw (13 + w)) (b := 0) i (by omega) (fun j hj => wl_ltr (show 13 + w < 16 by omega) (by omega))
      have hmin : min i (wl (13 + w)).length = i := Nat.min_eq_left (by omega)
      have hmin1 : min (i + 1) (wl (13 + w)).length = i + 1 := Nat.min_eq_left (by omega)
      have := ih (i + 1) m (by omega) (by omega)
      rw [hmin1, hz_st (by omega)] at this
      rw [if_pos e, if_neg (show ¬ nI (Dw (13 + w) i) = 32 from fun z => by have := (nI_eq (b := 32) (by omega) (by decide)).mp z; omega), if_pos (inr_lt (by omega) (by decide)), hmin, nI_l (by omega), show (27 : Int64) = lN 27 by decide, show (96 : Int64) = lN 96 by decide, lN_mul, lN_add, lN_sub (by omega), nI_1]
      exact this
    · have hmin : min i (wl (13 + w)).length = (wl (13 + w)).length := Nat.min_eq_right (by omega)
      have hmin1 : min (i + 1) (wl (13 + w)).length = (wl (13 + w)).length := Nat.min_eq_right (by omega)
      have := ih (i + 1) m (by omega) (by omega)
      rw [hmin1] at this
      rw [if_neg e, if_pos rfl, hmin, nI_1]
      exact this
theorem l4_more {g q : Nat} (hg : g < 2 ^ 50) (hq : ∀ w, w < 16 → (g = hx w ↔ w = q)) : ∀ d w m v2, w + d = 3 → d < m → X6_wordOf_m_m_more_L4 1 (xm0 6300) (lN g) m v2 (nI w) = some (if 13 + w ≤ q ∧ q < 13 + 3 then nI (q - 13) else v2) := by
  intro d
  induction d with
  | zero =>
    intro w m v2 hw hm
    obtain ⟨m, rfl⟩ : ∃ q, m = q + 1 := ⟨m - 1, by omega⟩
    rw [X6_wordOf_m_m_more_L4, show nI 24 / 8 = nI 3 by decide, if_pos (nI_le (by omega) (by omega)), if_neg (by omega)]
  | succ d ih =>
    intro w m v2 hw hm
    obtain ⟨m, rfl⟩ : ∃ q, m = q + 1 := ⟨m - 1, by omega⟩
    have hmin : min 0 (wl (13 + w)).length = 0 := Nat.min_eq_left (Nat.zero_le _)
    have := l27_more (fun v20 v30 => X6_wordOf_m_m_more_L4 1 (xm0 6300) (lN g) m v20 v30) hg (show w < 3 by omega) v2 8 0 FU (by omega) (by unfold FU; omega)
    rw [hmin] at this
    rw [X6_wordOf_m_m_more_L4, show nI 24 / 8 = nI 3 by decide, if_neg (nI_ge (by omega) (by omega)), if_pos rfl]
    refine this.trans ?_
    have hh := hq (13 + w) (by omega)
    by_cases e : g = hx (13 + w)
    · have := hh.mp e
      rw [if_pos e]
      refine (ih (w + 1) m (nI w) (by omega) (by omega)).trans ?_
      rw [if_neg (by omega), if_pos (by omega), show q - 13 = w by omega]
    · have : ¬ 13 + w = q := fun z => e (hh.mpr z)
      rw [if_neg e]
      refine (ih (w + 1) m v2 (by omega) (by omega)).trans ?_
      by_cases e2 : 13 + w ≤ q ∧ q < 13 + 3
      · rw [if_pos e2, if_pos (by omega)]
      · rw [if_neg e2, if_neg (by omega)]
theorem wr_more (T : Nat → Nat) (n i : Nat) : X6_wordOf_m_m_more (nI (rk T n (bg T n i))) (xm0 6300) (lN (lgv T n (bg T n i))) = some (if 13 ≤ wd T n i ∧ wd T n i < 13 + 3 then nI (wd T n i - 13) else -1) := by
  unfold X6_wordOf_m_m_more
  by_cases h : ck0 T n i = 1
  · obtain ⟨h1, h2⟩ := ck_lt (by decide) h
    have hr : rk T n (bg T n i) = 1 := by unfold rk; rw [if_pos h1, if_pos h2]
    have hg : lgv T n (bg T n i) < 2 ^ 50 := by
      unfold lgv
      rw [if_pos h1, if_pos h2]
      exact hw_lt T _ _ _ (by decide)
    have := l4_more hg (fun w hw => wd_iff h hw) 3 0 FU (-1) (by omega) (by unfold FU; omega)
    rw [hr]
    exact this
  · have hr : ¬ nI (rk T n (bg T n i)) = 1 := by
      have hs := srt_r (T (bg T n i))
      unfold rk
      unfold ck0 at h
      by_cases h1 : bg T n i < n
      · rw [if_pos h1] at h
        rw [if_pos h1, if_neg h]
        split
        · split <;> decide
        · split <;> decide
      · rw [if_neg h1]; decide
    have h16 : wd T n i = 16 := by unfold wd; rw [if_neg h]
    obtain ⟨m, hm⟩ : ∃ m, FU = m + 1 := ⟨FU - 1, by unfold FU; omega⟩
    rw [hm, X6_wordOf_m_m_more_L4, if_neg (show ¬ nI 24 / 8 ≤ (0 : Int32) by decide), if_neg hr, h16, if_neg (by omega)]
