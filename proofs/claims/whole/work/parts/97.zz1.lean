/-! texts: numbers and items -/
theorem bg_past {T : Nat → Nat} {n t : Nat} (h : bg T n t = n) : ∀ i, t ≤ i → bg T n i = n := by
  intro i hi
  obtain ⟨d, rfl⟩ : ∃ d, i = t + d := ⟨i - t, by omega⟩
  clear hi
  induction d with
  | zero => exact h
  | succ d ih => exact bg_end ih
theorem cut_at {so sa va : Nat → Int32} {T : Nat → Nat} {n t : Nat} (hc : CUT T n t so sa va) (i : Nat) : so (min i t) = nI (ck0 T n i) ∧ sa (min i t) = nI (bg T n i) ∧ va (min i t) = cvl T n i := by
  obtain ⟨h1, h2, h3, h4⟩ := hc
  rcases Nat.le_total i t with h | h
  · rw [Nat.min_eq_left h]; exact h4 i h
  · have hb := bg_past h2 i h
    obtain ⟨q1, q2, q3⟩ := h4 t (Nat.le_refl _)
    have c1 : ck0 T n i = ck0 T n t := by unfold ck0; rw [hb, h2]
    have c2 : cvl T n i = cvl T n t := by
      unfold cvl
      rw [if_neg (show ¬ bg T n i < n by omega), if_neg (show ¬ bg T n t < n by omega)]
    rw [Nat.min_eq_right h, q1, q2, q3, c1, c2, hb, h2]
    exact ⟨rfl, rfl, rfl⟩
theorem take_eq {so sa va : Nat → Int32} {T : Nat → Nat} {n t : Nat} (hn : n ≤ 120) (hc : CUT T n t so sa va) (i : Nat) : X4_take (nI t) so va ((nI (min i t)) + 1) = some ((nI (min (i + 1) t)), (nI (ck0 T n (i + 1))), (cvl T n (i + 1))) := by
  have ht := hc.1
  have hm : xmin ((nI (min i t)) + 1) (nI t) = (nI (min (i + 1) t)) := by
    unfold xmin
    rw [nI_1]
    rcases Nat.lt_or_ge i t with h | h
    · rw [Nat.min_eq_left (show i ≤ t by omega), Nat.min_eq_left (show i + 1 ≤ t by omega), if_neg (nI_nlt (by omega) (by omega))]
    · rw [Nat.min_eq_right (show t ≤ i by omega), Nat.min_eq_right (show t ≤ i + 1 by omega), if_pos (nI_lt (by omega) (by omega))]
  obtain ⟨q1, q2, q3⟩ := cut_at hc (i + 1)
  have hle := Nat.min_le_right (i + 1) t
  unfold X4_take
  rw [hm, if_pos (inr_lt (by omega) (by decide)), if_pos (inr_lt (by omega) (by decide)), nI_clamp (by omega), q1, q3]
theorem take_0 {so sa va : Nat → Int32} {T : Nat → Nat} {n t : Nat} (hn : n ≤ 120) (hc : CUT T n t so sa va) : X4_take (nI t) so va 0 = some ((nI (min (0) t)), (nI (ck0 T n (0))), (cvl T n (0))) := by
  have ht := hc.1
  have hm : xmin 0 (nI t) = (nI (min (0) t)) := by
    unfold xmin
    rw [Nat.min_eq_left (Nat.zero_le t), if_neg (nI_pos (by omega))]
    rfl
  obtain ⟨q1, q2, q3⟩ := cut_at hc 0
  have hle := Nat.min_le_right 0 t
  unfold X4_take
  rw [hm, if_pos (inr_lt (by omega) (by decide)), if_pos (inr_lt (by omega) (by decide)), nI_clamp (by omega), q1, q3]
theorem isN_eq (x a B : Int32) : X4_isNumber (nI 2) x a B = X5_isIn x a B := by
  unfold X4_isNumber
  rw [if_pos (show nI 2 = (2 : Int32) from rfl)]
  cases X5_isIn x a B with
  | false => rw [if_pos xbf]
  | true => rw [if_neg xbt]
theorem takes_eq {us : Int32} {ub : Nat → Int32} {T : Nat → Nat} {n : Nat} (h : TP us ub T n) (i : Nat) (a B : Int32) (hB : B < nI 1000) :
    (X4_isNumber (nI (ck0 T n i)) (cvl T n i) a B = true ∧ (cvl T n i) = nI (hnn T n (bg T n i)) ∧ (hnn T n (bg T n i)) ≤ 999 ∧ rk T n (bg T n i) = 2 ∧ lgv T n (bg T n i) = (hnn T n (bg T n i)) ∧ X5_isIn (nI (hnn T n (bg T n i))) a B = true ∧ X6_takesNumber us (nI (rk T n (bg T n i))) (nI (bg T n i)) (nI (ed T n (i + 1))) ub (lN (lgv T n (bg T n i))) a B = some (nI (hnn T n (bg T n i)), (nI (rk T n (bg T n (i + 1)))), (nI (bg T n (i + 1))), (nI (ed T n (i + 1 + 1))), (lN (lgv T n (bg T n (i + 1)))))) ∨
    (X4_isNumber (nI (ck0 T n i)) (cvl T n i) a B = false ∧ X6_takesNumber us (nI (rk T n (bg T n i))) (nI (bg T n i)) (nI (ed T n (i + 1))) ub (lN (lgv T n (bg T n i))) a B = some (-1, (nI (rk T n (bg T n i))), (nI (bg T n i)), (nI (ed T n (i + 1))), (lN (lgv T n (bg T n i))))) := by
  by_cases e : ck0 T n i = 2
  · obtain ⟨e1, e2⟩ := ck_lt (by decide) e
    have e0 : ¬ srt (T (bg T n i)) = 1 := by rw [e2]; decide
    have hl : lgv T n (bg T n i) = (hnn T n (bg T n i)) := by unfold lgv; rw [if_pos e1, if_neg e0, if_pos e2]
    have hv : (cvl T n i) = nI (min (hnn T n (bg T n i)) 1000) := by unfold cvl; rw [if_pos e1, if_neg e0, if_pos e2]
    have hlt : (hnn T n (bg T n i)) < 2 ^ 14 := hn_lt T _ _ _ (by decide)
    by_cases e3 : (hnn T n (bg T n i)) ≤ 999
    · have hr : rk T n (bg T n i) = 2 := by unfold rk; rw [if_pos e1, if_neg e0, if_pos e2, if_pos e3]
      rw [Nat.min_eq_left (show (hnn T n (bg T n i)) ≤ 1000 by omega)] at hv
      rw [e, hv, hl, hr, isN_eq]
      unfold X6_takesNumber X6_takesNumber_L30
      rw [lN_i, isIn_eq, if_pos (show nI 2 = (2 : Int32) from rfl)]
      cases ei : X5_isIn (nI (hnn T n (bg T n i))) a B with
      | false =>
        right
        rw [if_pos xbf, if_pos (show (-1 : Int32) < 0 by decide)]
        exact ⟨rfl, rfl⟩
      | true =>
        left
        rw [if_neg xbt, if_neg (nI_pos (by omega)), next_eq h (i + 1), Option.bind_some]
        exact ⟨rfl, rfl, e3, rfl, rfl, rfl, rfl⟩
    · have hr : rk T n (bg T n i) = 4 := by unfold rk; rw [if_pos e1, if_neg e0, if_pos e2, if_neg e3]
      rw [Nat.min_eq_right (show 1000 ≤ (hnn T n (bg T n i)) by omega)] at hv
      right
      rw [e, hv, hr, isN_eq]
      unfold X6_takesNumber X6_takesNumber_L30 X5_isIn
      rw [if_neg (show ¬ nI 4 = (2 : Int32) by decide), if_pos (show (-1 : Int32) < 0 by decide), if_pos hB, ite_self]
      exact ⟨rfl, rfl⟩
  · right
    have hs := srt_r (T (bg T n i))
    have hk5 : ck0 T n i ≤ 5 := by unfold ck0; split <;> omega
    have hr : ¬ nI (rk T n (bg T n i)) = 2 := by
      unfold ck0 at e
      unfold rk
      by_cases e1 : bg T n i < n
      · rw [if_pos e1] at e
        rw [if_pos e1, if_neg e]
        split
        · decide
        · split <;> decide
      · rw [if_neg e1]; decide
    unfold X6_takesNumber X6_takesNumber_L30 X4_isNumber
    rw [if_neg hr, if_neg (show ¬ nI (ck0 T n i) = 2 from fun z => e ((nI_eq (b := 2) (by omega) (by decide)).mp z)), if_pos (show (-1 : Int32) < 0 by decide)]
    exact ⟨rfl, rfl⟩
theorem isIn_n {x nb : Nat} (hx : x ≤ 999) (h : X5_isIn (nI x) 0 (nI nb - 1) = true) (hnb : nb ≤ 9) : x < nb := by
  rcases nb with _ | nb
  · exfalso
    unfold X5_isIn at h
    rw [if_neg (nI_pos (by omega)), if_pos (show nI 0 - 1 < nI x by
      rw [ltI, nI_toInt (show x < 2 ^ 31 by omega), show (nI 0 - 1).toInt = -1 by decide]
      omega)] at h
    cases h
  · rw [nI_pred] at h
    obtain ⟨j, h1, h2⟩ := isIn_t (n := nb) (by omega) h
    have := (nI_eq (by omega) (by omega)).mp h2
    omega
theorem end6 (us : Int32) (ub tbl : Nat → Int32) (m : Nat) (v2 v3 a b c : Int32) (l : Int64) (s : Nat → Int32) : X6_readsBow_L37 us ub tbl (m + 1) v2 v3 3 a b c l s = some (true, a, b, c, s, l) := by
  rw [X6_readsBow_L37, if_pos (show (3 : Int32) ≤ 3 by decide)]
section
variable {us : Int32} {ub so sa va : Nat → Int32} {T : Nat → Nat} {n t : Nat} {s kd lo se ah ru sg no ti sp : Nat → Int32} {bw th cm hd ck zz : Int32} {nb nt b : Nat} {K L E A R F : Nat → Nat}
theorem st_loves (h : TP us ub T n) (hc : CUT T n t so sa va) (hp : SP s bw th cm hd ck zz kd lo se ah ru sg no ti sp (b + 1) nt K L E A R F) (i m : Nat) :
    ∃ ok i' s' arr' X', X4_readPart_tp_dr_loves lo (nI t) (nI (min i t)) (nI (ck0 T n i)) (cvl T n i) so va 13 0 99 (nI b) = some (ok, arr', (nI (min i' t)), (nI (ck0 T n i')), (cvl T n i')) ∧
      X6_readsBow_L37 us ub (xm0 6300) (m + 1) (nI b) (nI (2 ^ b - 1)) 0 (nI (rk T n (bg T n i))) (nI (bg T n i)) (nI (ed T n (i + 1))) (lN (lgv T n (bg T n i))) s = (if ok = true then X6_readsBow_L37 us ub (xm0 6300) m (nI b) (nI (2 ^ b - 1)) 1 (nI (rk T n (bg T n i'))) (nI (bg T n i')) (nI (ed T n (i' + 1))) (lN (lgv T n (bg T n i'))) s' else some (false, (nI (rk T n (bg T n i'))), (nI (bg T n i')), (nI (ed T n (i' + 1))), s', (lN (lgv T n (bg T n i'))))) ∧ i ≤ i' ∧ SP s' bw th cm hd ck zz kd arr' se ah ru sg no ti sp (b + 1) nt K X' E A R F := by
  have h9 := hp.h9
  have hb2 : 2 ^ b ≤ 512 := two_lt (by omega)
  have hp2 := Nat.two_pow_pos b
  have hn := h.1
  have hlt : 2 ^ b < 2 ^ (b + 1) := Nat.pow_lt_pow_right (by decide) (by omega)
  have hB : 99 < nI 1000 := by decide
  unfold X4_readPart_tp_dr_loves
  rw [X6_readsBow_L37, if_neg (show ¬ (3 : Int32) ≤ 0 by decide), wr_more, Option.bind_some]
  by_cases e1 : ck0 T n i = 1
  · rw [if_pos (show nI (ck0 T n i) = 1 by rw [e1]; rfl)]
    by_cases e2 : wd T n i = 13
    · rw [if_pos (show cvl T n i = 13 from (cvl_k e1 (show 13 < 16 by decide)).mpr e2), e2, if_pos (show 13 ≤ 13 ∧ 13 < 13 + 3 by decide), if_pos (show nI (13 - 13) = 0 by decide), take_eq hn hc i, Option.bind_some, next_eq h (i + 1), Option.bind_some]
      rw [if_neg (show ¬ (0 : Int32) = 1 by decide)]
      unfold X6_readsBow_L72 X6_readsBow_L94
      rw [if_pos (show (0 : Int32) = 0 from rfl)]
      dsimp only
      rcases takes_eq h (i + 1) 0 99 hB with ⟨t1, t2, t3, t4, t5, t6, t7⟩ | ⟨t1, t2⟩
      · rw [t1, t7, Option.bind_some]
        dsimp only
        rw [if_neg xbt, if_pos (inr_lt (show b < 9 by omega) (by decide)), nI_clamp (by omega), take_eq hn hc (i + 1), Option.bind_some, if_pos (show (0 : Int32) ≤ nI (hnn T n (bg T n (i + 1))) from nI_pos' (by omega)), show (1 : Int32) + 0 = 1 by decide, pu1 s (show b < 9 by omega), Option.bind_some, t2]
        obtain ⟨x, x1, x2⟩ := isIn_t (n := 99) (by decide) t6
        have hx := (nI_eq (by omega) (by omega)).mp x2
        exact ⟨true, i + 1 + 1, _, _, _, rfl, rfl, by omega, hp.setL (show b < b + 1 by omega) (by omega)⟩
      · rw [t1, t2, Option.bind_some]
        dsimp only
        rw [if_pos xbf, if_neg (show ¬ (0 : Int32) ≤ -1 by decide)]
        exact ⟨false, i + 1, s, _, _, rfl, rfl, by omega, hp⟩
    · have e3 : ¬ (if 13 ≤ wd T n i ∧ wd T n i < 13 + 3 then nI (wd T n i - 13) else -1) = 0 := by
        have := wd_le T n i
        by_cases e4 : 13 ≤ wd T n i ∧ wd T n i < 13 + 3
        · rw [if_pos e4]
          exact fun z => e2 (by have := (nI_eq (b := 0) (by omega) (by decide)).mp z; omega)
        · rw [if_neg e4]; decide
      rw [if_neg (show ¬ cvl T n i = 13 from fun z => e2 ((cvl_k e1 (show 13 < 16 by decide)).mp z)), if_neg e3, show (0 : Int32) + 1 = 1 by decide]
      exact ⟨true, i, s, _, _, rfl, rfl, Nat.le_refl _, hp⟩
  · have e2 : wd T n i = 16 := by unfold wd; rw [if_neg e1]
    rw [if_neg (show ¬ nI (ck0 T n i) = 1 from fun z => e1 (by
      have hs := srt_r (T (bg T n i))
      have hk5 : ck0 T n i ≤ 5 := by unfold ck0; split <;> omega
      exact (nI_eq (b := 1) (by omega) (by decide)).mp z)), e2, if_neg (show ¬ (if 13 ≤ 16 ∧ 16 < 13 + 3 then nI (16 - 13) else -1) = (0 : Int32) by decide), show (0 : Int32) + 1 = 1 by decide]
    exact ⟨true, i, s, _, _, rfl, rfl, Nat.le_refl _, hp⟩
theorem st_seconds (h : TP us ub T n) (hc : CUT T n t so sa va) (hp : SP s bw th cm hd ck zz kd lo se ah ru sg no ti sp (b + 1) nt K L E A R F) (i m : Nat) :
    ∃ ok i' s' arr' X', X4_readPart_tp_dr_seconds se (nI t) (nI (min i t)) (nI (ck0 T n i)) (cvl T n i) so va 14 1 60 (nI b) = some (ok, arr', (nI (min i' t)), (nI (ck0 T n i')), (cvl T n i')) ∧
      X6_readsBow_L37 us ub (xm0 6300) (m + 1) (nI b) (nI (2 ^ b - 1)) 1 (nI (rk T n (bg T n i))) (nI (bg T n i)) (nI (ed T n (i + 1))) (lN (lgv T n (bg T n i))) s = (if ok = true then X6_readsBow_L37 us ub (xm0 6300) m (nI b) (nI (2 ^ b - 1)) 2 (nI (rk T n (bg T n i'))) (nI (bg T n i')) (nI (ed T n (i' + 1))) (lN (lgv T n (bg T n i'))) s' else some (false, (nI (rk T n (bg T n i'))), (nI (bg T n i')), (nI (ed T n (i' + 1))), s', (lN (lgv T n (bg T n i'))))) ∧ i ≤ i' ∧ SP s' bw th cm hd ck zz kd lo arr' ah ru sg no ti sp (b + 1) nt K L X' A R F := by
  have h9 := hp.h9
  have hb2 : 2 ^ b ≤ 512 := two_lt (by omega)
  have hp2 := Nat.two_pow_pos b
  have hn := h.1
  have hlt : 2 ^ b < 2 ^ (b + 1) := Nat.pow_lt_pow_right (by decide) (by omega)
  have hB : 60 < nI 1000 := by decide
  unfold X4_readPart_tp_dr_seconds
  rw [X6_readsBow_L37, if_neg (show ¬ (3 : Int32) ≤ 1 by decide), wr_more, Option.bind_some]
  by_cases e1 : ck0 T n i = 1
  · rw [if_pos (show nI (ck0 T n i) = 1 by rw [e1]; rfl)]
    by_cases e2 : wd T n i = 14
    · rw [if_pos (show cvl T n i = 14 from (cvl_k e1 (show 14 < 16 by decide)).mpr e2), e2, if_pos (show 13 ≤ 14 ∧ 14 < 13 + 3 by decide), if_pos (show nI (14 - 13) = 1 by decide), take_eq hn hc i, Option.bind_some, next_eq h (i + 1), Option.bind_some]
      rw [if_pos (show (1 : Int32) = 1 from rfl)]
      unfold X6_readsBow_L72 X6_readsBow_L94
      rw [if_neg (show ¬ (1 : Int32) = 0 by decide), if_pos (show (1 : Int32) = 1 from rfl)]
      dsimp only
      rcases takes_eq h (i + 1) 1 60 hB with ⟨t1, t2, t3, t4, t5, t6, t7⟩ | ⟨t1, t2⟩
      · rw [t1, t7, Option.bind_some]
        dsimp only
        rw [if_neg xbt, if_pos (inr_lt (show b < 9 by omega) (by decide)), nI_clamp (by omega), take_eq hn hc (i + 1), Option.bind_some, if_pos (show (0 : Int32) ≤ nI (hnn T n (bg T n (i + 1))) from nI_pos' (by omega)), show (1 : Int32) + 1 = 2 by decide, pu2 s (show b < 9 by omega), Option.bind_some, t2]
        obtain ⟨x, x0, x1, x2⟩ := isIn_1 (n := 60) (by decide) t6
        have hx := (nI_eq (by omega) (by omega)).mp x2
        exact ⟨true, i + 1 + 1, _, _, _, rfl, rfl, by omega, hp.setE (show b < b + 1 by omega) (by omega) (by omega)⟩
      · rw [t1, t2, Option.bind_some]
        dsimp only
        rw [if_pos xbf, if_neg (show ¬ (0 : Int32) ≤ -1 by decide)]
        exact ⟨false, i + 1, s, _, _, rfl, rfl, by omega, hp⟩
    · have e3 : ¬ (if 13 ≤ wd T n i ∧ wd T n i < 13 + 3 then nI (wd T n i - 13) else -1) = 1 := by
        have := wd_le T n i
        by_cases e4 : 13 ≤ wd T n i ∧ wd T n i < 13 + 3
        · rw [if_pos e4]
          exact fun z => e2 (by have := (nI_eq (b := 1) (by omega) (by decide)).mp z; omega)
        · rw [if_neg e4]; decide
      rw [if_neg (show ¬ cvl T n i = 14 from fun z => e2 ((cvl_k e1 (show 14 < 16 by decide)).mp z)), if_neg e3, show (1 : Int32) + 1 = 2 by decide]
      exact ⟨true, i, s, _, _, rfl, rfl, Nat.le_refl _, hp⟩
  · have e2 : wd T n i = 16 := by unfold wd; rw [if_neg e1]
    rw [if_neg (show ¬ nI (ck0 T n i) = 1 from fun z => e1 (by
      have hs := srt_r (T (bg T n i))
      have hk5 : ck0 T n i ≤ 5 := by unfold ck0; split <;> omega
      exact (nI_eq (b := 1) (by omega) (by decide)).mp z)), e2, if_neg (show ¬ (if 13 ≤ 16 ∧ 16 < 13 + 3 then nI (16 - 13) else -1) = (1 : Int32) by decide), show (1 : Int32) + 1 = 2 by decide]
    exact ⟨true, i, s, _, _, rfl, rfl, Nat.le_refl _, hp⟩
theorem st_aheads (h : TP us ub T n) (hc : CUT T n t so sa va) (hp : SP s bw th cm hd ck zz kd lo se ah ru sg no ti sp (b + 1) nt K L E A R F) (i m : Nat) :
    ∃ ok i' s' arr' X', X4_readPart_tp_dr_aheads ah (nI t) (nI (min i t)) (nI (ck0 T n i)) (cvl T n i) so va 15 0 (nI (2 ^ b - 1)) (nI b) = some (ok, arr', (nI (min i' t)), (nI (ck0 T n i')), (cvl T n i')) ∧
      X6_readsBow_L37 us ub (xm0 6300) (m + 1) (nI b) (nI (2 ^ b - 1)) 2 (nI (rk T n (bg T n i))) (nI (bg T n i)) (nI (ed T n (i + 1))) (lN (lgv T n (bg T n i))) s = (if ok = true then X6_readsBow_L37 us ub (xm0 6300) m (nI b) (nI (2 ^ b - 1)) 3 (nI (rk T n (bg T n i'))) (nI (bg T n i')) (nI (ed T n (i' + 1))) (lN (lgv T n (bg T n i'))) s' else some (false, (nI (rk T n (bg T n i'))), (nI (bg T n i')), (nI (ed T n (i' + 1))), s', (lN (lgv T n (bg T n i'))))) ∧ i ≤ i' ∧ SP s' bw th cm hd ck zz kd lo se arr' ru sg no ti sp (b + 1) nt K L E X' R F := by
  have h9 := hp.h9
  have hb2 : 2 ^ b ≤ 512 := two_lt (by omega)
  have hp2 := Nat.two_pow_pos b
  have hn := h.1
  have hlt : 2 ^ b < 2 ^ (b + 1) := Nat.pow_lt_pow_right (by decide) (by omega)
  have hB : (nI (2 ^ b - 1)) < nI 1000 := nI_lt (by omega) (by decide)
  unfold X4_readPart_tp_dr_aheads
  rw [X6_readsBow_L37, if_neg (show ¬ (3 : Int32) ≤ 2 by decide), wr_more, Option.bind_some]
  by_cases e1 : ck0 T n i = 1
  · rw [if_pos (show nI (ck0 T n i) = 1 by rw [e1]; rfl)]
    by_cases e2 : wd T n i = 15
    · rw [if_pos (show cvl T n i = 15 from (cvl_k e1 (show 15 < 16 by decide)).mpr e2), e2, if_pos (show 13 ≤ 15 ∧ 15 < 13 + 3 by decide), if_pos (show nI (15 - 13) = 2 by decide), take_eq hn hc i, Option.bind_some, next_eq h (i + 1), Option.bind_some]
      rw [if_neg (show ¬ (2 : Int32) = 1 by decide)]
      unfold X6_readsBow_L72 X6_readsBow_L94
      rw [if_neg (show ¬ (2 : Int32) = 0 by decide), if_neg (show ¬ (2 : Int32) = 1 by decide)]
      dsimp only
      rcases takes_eq h (i + 1) 0 (nI (2 ^ b - 1)) hB with ⟨t1, t2, t3, t4, t5, t6, t7⟩ | ⟨t1, t2⟩
      · rw [t1, t7, Option.bind_some]
        dsimp only
        rw [if_neg xbt, if_pos (inr_lt (show b < 9 by omega) (by decide)), nI_clamp (by omega), take_eq hn hc (i + 1), Option.bind_some, if_pos (show (0 : Int32) ≤ nI (hnn T n (bg T n (i + 1))) from nI_pos' (by omega)), show (1 : Int32) + 2 = 3 by decide, pu3 s (show b < 9 by omega), Option.bind_some, t2]
        obtain ⟨x, x1, x2⟩ := isIn_t (n := 2 ^ b - 1) (by omega) t6
        have hx := (nI_eq (by omega) (by omega)).mp x2
        exact ⟨true, i + 1 + 1, _, _, _, rfl, rfl, by omega, hp.setA (show b < b + 1 by omega) (by omega) (Nat.testBit_lt_two_pow (by omega))⟩
      · rw [t1, t2, Option.bind_some]
        dsimp only
        rw [if_pos xbf, if_neg (show ¬ (0 : Int32) ≤ -1 by decide)]
        exact ⟨false, i + 1, s, _, _, rfl, rfl, by omega, hp⟩
    · have e3 : ¬ (if 13 ≤ wd T n i ∧ wd T n i < 13 + 3 then nI (wd T n i - 13) else -1) = 2 := by
        have := wd_le T n i
        by_cases e4 : 13 ≤ wd T n i ∧ wd T n i < 13 + 3
        · rw [if_pos e4]
          exact fun z => e2 (by have := (nI_eq (b := 2) (by omega) (by decide)).mp z; omega)
        · rw [if_neg e4]; decide
      rw [if_neg (show ¬ cvl T n i = 15 from fun z => e2 ((cvl_k e1 (show 15 < 16 by decide)).mp z)), if_neg e3, show (2 : Int32) + 1 = 3 by decide]
      exact ⟨true, i, s, _, _, rfl, rfl, Nat.le_refl _, hp⟩
  · have e2 : wd T n i = 16 := by unfold wd; rw [if_neg e1]
    rw [if_neg (show ¬ nI (ck0 T n i) = 1 from fun z => e1 (by
      have hs := srt_r (T (bg T n i))
      have hk5 : ck0 T n i ≤ 5 := by unfold ck0; split <;> omega
      exact (nI_eq (b := 1) (by omega) (by decide)).mp z)), e2, if_neg (show ¬ (if 13 ≤ 16 ∧ 16 < 13 + 3 then nI (16 - 13) else -1) = (2 : Int32) by decide), show (2 : Int32) + 1 = 3 by decide]
    exact ⟨true, i, s, _, _, rfl, rfl, Nat.le_refl _, hp⟩
theorem rBow (h : TP us ub T n) (hc : CUT T n t so sa va) (hp : SP s bw th cm hd ck zz kd lo se ah ru sg no ti sp nb nt K L E A R F) (i : Nat) {k : Nat} (hk : k ≤ 6) (hv : (cvl T n i) = nI k) :
    ∃ ok i' s' bw' kd' lo' se' ah', X4_readBow bw kd lo se ah (nI t) (nI (min i t)) (nI (ck0 T n i)) (cvl T n i) so va = some (ok, bw', kd', lo', se', ah', (nI (min i' t)), (nI (ck0 T n i')), (cvl T n i')) ∧
      X6_readsBow us (nI (rk T n (bg T n i))) (nI (bg T n i)) (nI (ed T n (i + 1))) s ub (xm0 6300) (lN (lgv T n (bg T n i))) (nI k) = some (ok, (nI (rk T n (bg T n i'))), (nI (bg T n i')), (nI (ed T n (i' + 1))), s', (lN (lgv T n (bg T n i')))) ∧ (ok = true → i < i') ∧ SQ s' bw' th cm hd ck zz kd' lo' se' ah' ru sg no ti sp := by
  have h9 := hp.h9
  have hn := h.1
  unfold X4_readBow X6_readsBow
  rw [hp.bw_, hp.b3]
  by_cases e9 : nb = 9
  · subst e9
    rw [if_neg (show ¬ nI 9 < 9 by decide), if_pos (show nI 9 = 9 from rfl)]
    refine ⟨false, i, s, _, _, _, _, _, rfl, rfl, fun z => (by cases z), ?_⟩
    have := hp.sq
    rw [hp.bw_] at this
    exact this
  · have hlt : nb < 9 := by omega
    have ha : X2_addBow_dr (nI nb) kd lo se ah (cvl T n i) = some (nI nb, nI nb + 1, upd kd nb (nI k), upd lo nb 10, upd se nb 5, upd ah nb 0) := by
      unfold X2_addBow_dr
      rw [if_pos (inr_lt hlt (by decide)), if_pos (inr_lt hlt (by decide)), if_pos (inr_lt hlt (by decide)), if_pos (inr_lt hlt (by decide)), nI_clamp (by omega), hv]
    have hall : X6_allBows s = some (nI (2 ^ nb - 1)) := by unfold X6_allBows; rw [hp.b3, full_eq h9]
    obtain ⟨k0, i0, s0, a0, X0, p1, p2, p3, p4⟩ := st_loves h hc (hp.add hlt hk) (i + 1) (FU - 1)
    rw [show FU - 1 + 1 = FU by unfold FU; omega] at p2
    rw [if_pos (show nI nb < 9 from nI_lt hlt (by decide)), if_neg (show ¬ nI nb = 9 from fun z => e9 ((nI_eq (by omega) (by decide)).mp (show nI nb = nI 9 from z))), ha, Option.bind_some, hall, Option.bind_some, m_adds s nb hlt hp.b3, Option.bind_some, take_eq hn hc i, Option.bind_some, next_eq h (i + 1), Option.bind_some]
    dsimp only
    rw [p1, p2, Option.bind_some]
    dsimp only
    cases k0 with
    | false =>
      rw [if_pos xbf, if_neg (show ¬ (false = true) by decide)]
      exact ⟨false, i0, s0, _, _, _, _, _, rfl, rfl, fun z => (by cases z), p4.sq⟩
    | true =>
      obtain ⟨k1, i1, s1, a1, X1, q1, q2, q3, q4⟩ := st_seconds h hc p4 i0 (FU - 1 - 1)
      rw [show FU - 1 - 1 + 1 = FU - 1 by unfold FU; omega] at q2
      rw [if_neg xbt, if_pos rfl, q1, q2, Option.bind_some]
      dsimp only
      cases k1 with
      | false =>
        rw [if_pos xbf, if_neg (show ¬ (false = true) by decide)]
        exact ⟨false, i1, s1, _, _, _, _, _, rfl, rfl, fun z => (by cases z), q4.sq⟩
      | true =>
        obtain ⟨k2, i2, s2, a2, X2, r1, r2, r3, r4⟩ := st_aheads h hc q4 i1 (FU - 1 - 1 - 1)
        rw [show FU - 1 - 1 - 1 + 1 = FU - 1 - 1 by unfold FU; omega] at r2
        rw [if_neg xbt, if_pos rfl, full_eq h9, r1, r2, Option.bind_some]
        dsimp only
        cases k2 with
        | false =>
          rw [if_pos xbf, if_neg (show ¬ (false = true) by decide)]
          exact ⟨false, i2, s2, _, _, _, _, _, rfl, rfl, fun z => (by cases z), r4.sq⟩
        | true =>
          have e6 := end6 us ub (xm0 6300) (FU - 1 - 1 - 1 - 1) (nI nb) (nI (2 ^ nb - 1)) (nI (rk T n (bg T n i2))) (nI (bg T n i2)) (nI (ed T n (i2 + 1))) (lN (lgv T n (bg T n i2))) s2
          rw [show FU - 1 - 1 - 1 - 1 + 1 = FU - 1 - 1 - 1 by unfold FU; omega] at e6
          rw [if_neg xbt, if_pos rfl, e6]
          exact ⟨true, i2, s2, _, _, _, _, _, rfl, rfl, fun _ => by omega, r4.sq⟩
end
