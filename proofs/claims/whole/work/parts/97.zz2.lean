/-! texts: rules, contracts, items, the whole -/
section
variable {us : Int32} {ub so sa va : Nat → Int32} {T : Nat → Nat} {n t : Nat} {s kd lo se ah ru sg no ti sp : Nat → Int32} {bw th cm hd ck zz : Int32} {nb nt b : Nat} {K L E A R F : Nat → Nat}
theorem rRule (h : TP us ub T n) (hc : CUT T n t so sa va) (hp : SP s bw th cm hd ck zz kd lo se ah ru sg no ti sp nb nt K L E A R F) (i : Nat) {k : Nat} (hk : k < 5) (hv : (cvl T n i) = nI (7 + k)) :
    ∃ ok i' s' ru', X4_readRule ru (nI t) (nI (min i t)) (cvl T n i) so va = some (ok, ru', (nI (min i' t)), (nI (ck0 T n i')), (cvl T n i')) ∧
      (Option.bind (X6_takesNumber us (nI (rk T n (bg T n (i + 1)))) (nI (bg T n (i + 1))) (nI (ed T n (i + 1 + 1))) ub (lN (lgv T n (bg T n (i + 1)))) 0 (X6_greatestRule (nI k))) fun r54 => if 0 ≤ r54.1 then X6_readsItem_L81 s r54.1 (5 + nI k) r54.1 r54.2.1 r54.2.2.1 r54.2.2.2.1 r54.2.2.2.2 else if inr (5 + nI k) 83 then X6_readsItem_L81 s r54.1 (5 + nI k) (s (5 + nI k).toNatClampNeg) r54.2.1 r54.2.2.1 r54.2.2.2.1 r54.2.2.2.2 else none) = some (ok, (nI (rk T n (bg T n i'))), (nI (bg T n i')), (nI (ed T n (i' + 1))), s', (lN (lgv T n (bg T n i')))) ∧ (ok = true → i < i' ∧ SQ s' bw th cm hd ck zz kd lo se ah ru' sg no ti sp) := by
  have hn := h.1
  have e1 : (5 : Int32) + nI k = nI (5 + k) := nI_add 5 k
  have e2 : xstat 0 k = nI (mr k) ∧ X6_greatestRule (nI k) = nI (mr k) ∧ mr k < 1000 := (by decide +kernel : ∀ k, k < 5 → xstat 0 k = nI (mr k) ∧ X6_greatestRule (nI k) = nI (mr k) ∧ mr k < 1000) k hk
  obtain ⟨e2, e3, e4⟩ := e2
  have hm : (cvl T n i) - 7 = nI k := by rw [hv, show (7 : Int32) = nI 7 from rfl, nI_sub (by omega), show 7 + k - 7 = k by omega]
  unfold X4_readRule
  rw [take_eq hn hc i, Option.bind_some, hm, if_pos (inr_lt hk (by decide)), nI_clamp (by omega), e2, e3, e1]
  dsimp only
  rcases takes_eq h (i + 1) 0 (nI (mr k)) (nI_lt e4 (by decide)) with ⟨t1, t2, t3, t4, t5, t6, t7⟩ | ⟨t1, t2⟩
  · rw [t1, t7, Option.bind_some]
    dsimp only
    unfold X6_readsItem_L81
    rw [if_neg xbt, if_pos (inr_lt hk (by decide)), take_eq hn hc (i + 1), Option.bind_some, if_pos (show (0 : Int32) ≤ nI (hnn T n (bg T n (i + 1))) from nI_pos' (by omega)), if_pos (inr_lt (show 5 + k < 83 by omega) (by decide)), if_neg (nI_pos (by omega)), nI_clamp (by omega), t2]
    obtain ⟨x, x1, x2⟩ := isIn_t (n := mr k) (by omega) t6
    have hx := (nI_eq (by omega) (by omega)).mp x2
    exact ⟨true, i + 1 + 1, _, _, rfl, rfl, fun _ => ⟨by omega, (hp.setR hk (by omega)).sq⟩⟩
  · rw [t1, t2, Option.bind_some]
    dsimp only
    unfold X6_readsItem_L81
    rw [if_pos xbf, if_neg (show ¬ (0 : Int32) ≤ -1 by decide), if_pos (inr_lt (show 5 + k < 83 by omega) (by decide)), if_pos (inr_lt (show 5 + k < 83 by omega) (by decide)), if_pos (show (-1 : Int32) < 0 by decide)]
    exact ⟨false, i + 1, _, _, rfl, rfl, fun z => (by cases z)⟩
theorem rContract (h : TP us ub T n) (hc : CUT T n t so sa va) (hp : SP s bw th cm hd ck zz kd lo se ah ru sg no ti sp nb nt K L E A R F) (i : Nat) :
    ∃ ok i' s' ah', X4_readContract bw ah (nI t) (nI (min i t)) so va = some (ok, ah', (nI (min i' t)), (nI (ck0 T n i')), (cvl T n i')) ∧
      X6_readsContract us (nI (rk T n (bg T n (i + 1)))) (nI (bg T n (i + 1))) (nI (ed T n (i + 1 + 1))) s ub (lN (lgv T n (bg T n (i + 1)))) = some (ok, (nI (rk T n (bg T n i'))), (nI (bg T n i')), (nI (ed T n (i' + 1))), s', (lN (lgv T n (bg T n i')))) ∧ (ok = true → i < i' ∧ SQ s' bw th cm hd ck zz kd lo se ah' ru sg no ti sp) := by
  have hn := h.1
  have h9 := hp.h9
  have hB : nI nb - 1 < nI 1000 := (by decide +kernel : ∀ n, n < 10 → nI n - 1 < nI 1000) nb (by omega)
  obtain rfl : bw = nI nb := hp.bw_
  unfold X4_readContract X6_readsContract X6_readsContract_L38
  rw [hp.b3, take_eq hn hc i, Option.bind_some]
  dsimp only
  rcases takes_eq h (i + 1) 0 (nI nb - 1) hB with ⟨t1, t2, t3, t4, t5, t6, t7⟩ | ⟨t1, t2⟩
  · have x1 := isIn_n t3 t6 h9
    rw [t1, t7, Option.bind_some]
    dsimp only
    rw [if_neg xbt, if_neg (nI_pos (by omega)), take_eq hn hc (i + 1), Option.bind_some]
    dsimp only
    rcases takes_eq h (i + 1 + 1) 0 (nI nb - 1) hB with ⟨u1, u2, u3, u4, u5, u6, u7⟩ | ⟨u1, u2⟩
    · have x2 := isIn_n u3 u6 h9
      rw [u1, u7, Option.bind_some]
      dsimp only
      rw [if_neg xbt, if_pos (show (nI (rk T n (bg T n (i + 1 + 1)))) = 2 by rw [u4]; rfl)]
      by_cases e : (hnn T n (bg T n (i + 1 + 1))) = (hnn T n (bg T n (i + 1)))
      · rw [if_pos (show (cvl T n (i + 1 + 1)) = (cvl T n (i + 1)) by rw [u2, t2, e]), if_pos ((lg_cmp_eq _ _).mpr (show (lN (lgv T n (bg T n (i + 1 + 1)))) = Int32.toInt64 (nI (hnn T n (bg T n (i + 1)))) by rw [u5, nI_l (by omega), e]))]
        exact ⟨false, i + 1 + 1, s, _, rfl, rfl, fun z => (by cases z)⟩
      · have hb9 : (hnn T n (bg T n (i + 1 + 1))) < 9 := by omega
        obtain ⟨a0, a1, a2, a3⟩ := hp.ca x2
        obtain ⟨b0, b1, b2, b3⟩ := hp.cb x2
        obtain ⟨-, -, -, -, c4, c5⟩ := hp.cc x2
        rw [if_neg (show ¬ (cvl T n (i + 1 + 1)) = (cvl T n (i + 1)) from fun z => e (by
          rw [u2, t2] at z
          exact (nI_eq (by omega) (by omega)).mp z)), if_neg (show ¬ lg_cmp (lN (lgv T n (bg T n (i + 1 + 1)))) (Int32.toInt64 (nI (hnn T n (bg T n (i + 1))))) = 0 from fun z => e (by
          have z := (lg_cmp_eq _ _).mp z
          rw [u5, nI_l (by omega)] at z
          exact (pk_lEQ (by omega) (by omega)).mp z)), u2, t2, if_pos (inr_lt hb9 (by decide)), if_pos (inr_lt hb9 (by decide)), nI_clamp (by omega), take_eq hn hc (i + 1 + 1), Option.bind_some, if_pos (show (0 : Int32) ≤ nI (hnn T n (bg T n (i + 1 + 1))) from nI_pos' (by omega)), ge3 s hb9, Option.bind_some, pu3 s hb9, Option.bind_some, a3, b3, shl_eq (by omega), ny_or]
        refine ⟨true, i + 1 + 1 + 1, _, _, rfl, rfl, fun _ => ⟨by omega, (hp.setA x2 (Nat.or_lt_two_pow c4 (Nat.pow_lt_pow_right (by decide) x1)) ?_).sq⟩⟩
        rw [Nat.testBit_or, c5, Nat.testBit_two_pow, decide_eq_false (fun z => e z.symm)]; rfl
    · rw [u1, u2, Option.bind_some]
      dsimp only
      rw [if_pos xbf, if_neg (show ¬ (0 : Int32) ≤ -1 by decide), ite_self, ite_self]
      exact ⟨false, i + 1 + 1, s, _, rfl, rfl, fun z => (by cases z)⟩
  · rw [t1, t2, Option.bind_some]
    dsimp only
    rw [if_pos xbf, if_pos (show (-1 : Int32) < 0 by decide)]
    exact ⟨false, i + 1, s, _, rfl, rfl, fun z => (by cases z)⟩
theorem cvl_in {w : Nat} (h : w ≤ 16) : X5_isIn (if w = 16 then -1 else nI w) 0 6 = decide (w ≤ 6) ∧ X5_isIn (if w = 16 then -1 else nI w) 7 11 = decide (7 ≤ w ∧ w ≤ 11) ∧ ((if w = 16 then -1 else nI w) = (12 : Int32) ↔ w = 12) := (by decide +kernel : ∀ w, w < 17 → X5_isIn (if w = 16 then -1 else nI w) 0 6 = decide (w ≤ 6) ∧ X5_isIn (if w = 16 then -1 else nI w) 7 11 = decide (7 ≤ w ∧ w ≤ 11) ∧ ((if w = 16 then -1 else nI w) = (12 : Int32) ↔ w = 12)) w (by omega)
theorem rItem (h : TP us ub T n) (hc : CUT T n t so sa va) (hp : SP s bw th cm hd ck zz kd lo se ah ru sg no ti sp nb nt K L E A R F) (i : Nat) :
    ∃ ok i' s' bw' kd' lo' se' ah' ru', X4_readItem bw kd lo se ah ru (nI t) (nI (min i t)) (nI (ck0 T n i)) (cvl T n i) so va = some (ok, bw', kd', lo', se', ah', ru', (nI (min i' t)), (nI (ck0 T n i')), (cvl T n i')) ∧
      X6_readsItem us (nI (rk T n (bg T n i))) (nI (bg T n i)) (nI (ed T n (i + 1))) s ub (xm0 6200) (xm0 6300) (xm0 6400) (lN (lgv T n (bg T n i))) = some (ok, (nI (rk T n (bg T n i'))), (nI (bg T n i')), (nI (ed T n (i' + 1))), s', (lN (lgv T n (bg T n i')))) ∧ (ok = true → i < i' ∧ SQ s' bw' th cm hd ck zz kd' lo' se' ah' ru' sg no ti sp) := by
  have hle := wd_le T n i
  unfold X4_readItem X6_readsItem
  rw [wr_letters, Option.bind_some]
  by_cases e1 : ck0 T n i = 1
  · obtain ⟨v1, v2, v3⟩ := cvl_in hle
    rw [← cvl_w e1] at v1 v2 v3
    rw [if_pos (show nI (ck0 T n i) = 1 by rw [e1]; rfl), v1, v2]
    by_cases w6 : wd T n i ≤ 6
    · have hv : cvl T n i = nI (wd T n i) := (cvl_k e1 (by omega)).mpr rfl
      obtain ⟨ok, i', s', bw', kd', lo', se', ah', p1, p2, p3, p4⟩ := rBow h hc hp i w6 hv
      rw [decide_eq_true w6, if_neg xbt, if_pos (show 0 ≤ wd T n i ∧ wd T n i < 0 + 7 by omega), show wd T n i - 0 = wd T n i from rfl, if_neg (nI_pos (by omega)), p1, p2, Option.bind_some, Option.bind_some]
      exact ⟨ok, i', s', _, _, _, _, _, _, rfl, rfl, fun z => ⟨p3 z, p4⟩⟩
    · rw [decide_eq_false w6, if_pos xbf, if_neg (show ¬ (0 ≤ wd T n i ∧ wd T n i < 0 + 7) by omega), if_pos (show (-1 : Int32) < 0 by decide), wr_others, Option.bind_some]
      by_cases w11 : 7 ≤ wd T n i ∧ wd T n i ≤ 11
      · obtain ⟨k, hk⟩ : ∃ k, wd T n i = 7 + k := ⟨wd T n i - 7, by omega⟩
        have hv : cvl T n i = nI (7 + k) := (cvl_k e1 (by omega)).mpr hk
        obtain ⟨ok, i', s', ru', p1, p2, p3⟩ := rRule h hc hp i (show k < 5 by omega) hv
        rw [decide_eq_true w11, if_neg xbt, if_pos (show 7 ≤ wd T n i ∧ wd T n i < 7 + 6 by omega), show wd T n i - 7 = k by omega, if_pos (nI_pos' (show k < 2 ^ 31 by omega)), next_eq h (i + 1), Option.bind_some, if_neg (show ¬ nI k = 5 from fun z => by have := (nI_eq (b := 5) (by omega) (by decide)).mp z; omega), p1, Option.bind_some]
        refine ⟨ok, i', s', _, _, _, _, _, _, rfl, p2, p3⟩
      · rw [decide_eq_false w11, if_pos xbf]
        by_cases w12 : wd T n i = 12
        · obtain ⟨ok, i', s', ah', p1, p2, p3⟩ := rContract h hc hp i
          rw [if_pos (v3.mpr w12), if_pos (show 7 ≤ wd T n i ∧ wd T n i < 7 + 6 by omega), show wd T n i - 7 = 5 by omega, if_pos (nI_pos' (show 5 < 2 ^ 31 by decide)), next_eq h (i + 1), Option.bind_some, if_pos (show nI 5 = 5 from rfl), p1, p2, Option.bind_some, Option.bind_some]
          dsimp only
          cases ok with
          | false =>
            rw [if_pos xbf]
            exact ⟨false, i', s', _, _, _, _, _, _, rfl, rfl, fun z => (by cases z)⟩
          | true =>
            rw [if_neg xbt]
            exact ⟨true, i', s', _, _, _, _, _, _, rfl, rfl, p3⟩
        · rw [if_neg (fun z => w12 (v3.mp z)), if_neg (show ¬ (7 ≤ wd T n i ∧ wd T n i < 7 + 6) by omega), if_neg (show ¬ (0 : Int32) ≤ -1 by decide)]
          exact ⟨false, i, s, _, _, _, _, _, _, rfl, rfl, fun z => (by cases z)⟩
  · have e2 : wd T n i = 16 := by unfold wd; rw [if_neg e1]
    rw [if_neg (show ¬ nI (ck0 T n i) = 1 from fun z => e1 (by
      have hs := srt_r (T (bg T n i))
      have hk5 : ck0 T n i ≤ 5 := by unfold ck0; split <;> omega
      exact (nI_eq (b := 1) (by omega) (by decide)).mp z)), if_neg (show ¬ (0 ≤ wd T n i ∧ wd T n i < 0 + 7) by omega), if_pos (show (-1 : Int32) < 0 by decide), wr_others, Option.bind_some, if_neg (show ¬ (7 ≤ wd T n i ∧ wd T n i < 7 + 6) by omega), if_neg (show ¬ (0 : Int32) ≤ -1 by decide)]
    exact ⟨false, i, s, _, _, _, _, _, _, rfl, rfl, fun z => (by cases z)⟩
theorem lays_loop (a : Nat → Int32) : ∀ d i m s, i + d = 83 → d < m → (∀ j, j < i → s j = a j) → ∃ s', X6_laysBack_L2 a m (nI i) s = some s' ∧ ∀ j, j < 83 → s' j = a j := by
  intro d
  induction d with
  | zero =>
    intro i m s hi hm hk
    obtain ⟨m, rfl⟩ : ∃ q, m = q + 1 := ⟨m - 1, by omega⟩
    rw [X6_laysBack_L2, if_pos (show (83 : Int32) ≤ nI i from nI_le (a := 83) (by omega) (by omega))]
    exact ⟨_, rfl, fun j hj => hk j (by omega)⟩
  | succ d ih =>
    intro i m s hi hm hk
    obtain ⟨m, rfl⟩ : ∃ q, m = q + 1 := ⟨m - 1, by omega⟩
    rw [X6_laysBack_L2, if_neg (show ¬ (83 : Int32) ≤ nI i from nI_ge (b := 83) (by omega) (by omega)), if_pos (inr_lt (by omega) (by decide)), if_pos (inr_lt (by omega) (by decide)), nI_clamp (by omega), nI_1]
    refine ih (i + 1) m _ (by omega) (by omega) (fun j hj => ?_)
    by_cases e : j = i
    · rw [e, upd_eq]
    · rw [upd_ne e, hk j (by omega)]
theorem sets_loop (a : Nat → Int32) : ∀ d i m s, i + d = 83 → d < m → (∀ j, j < i → s j = a j) → ∃ s', X6_setsAside_L2 a m (nI i) s = some s' ∧ ∀ j, j < 83 → s' j = a j := by
  intro d
  induction d with
  | zero =>
    intro i m s hi hm hk
    obtain ⟨m, rfl⟩ : ∃ q, m = q + 1 := ⟨m - 1, by omega⟩
    rw [X6_setsAside_L2, if_pos (show (83 : Int32) ≤ nI i from nI_le (a := 83) (by omega) (by omega))]
    exact ⟨_, rfl, fun j hj => hk j (by omega)⟩
  | succ d ih =>
    intro i m s hi hm hk
    obtain ⟨m, rfl⟩ : ∃ q, m = q + 1 := ⟨m - 1, by omega⟩
    rw [X6_setsAside_L2, if_neg (show ¬ (83 : Int32) ≤ nI i from nI_ge (b := 83) (by omega) (by omega)), if_pos (inr_lt (by omega) (by decide)), if_pos (inr_lt (by omega) (by decide)), nI_clamp (by omega), nI_1]
    refine ih (i + 1) m _ (by omega) (by omega) (fun j hj => ?_)
    by_cases e : j = i
    · rw [e, upd_eq]
    · rw [upd_ne e, hk j (by omega)]
theorem lays_eq (a s : Nat → Int32) : ∃ s', X6_laysBack s a = some s' ∧ ∀ j, j < 83 → s' j = a j := lays_loop a 83 0 FU s (by omega) (by unfold FU; omega) (fun j hj => absurd hj (Nat.not_lt_zero j))
theorem sets_eq (a s : Nat → Int32) : ∃ s', X6_setsAside a s = some s' ∧ ∀ j, j < 83 → s' j = a j := sets_loop a 83 0 FU s (by omega) (by unfold FU; omega) (fun j hj => absurd hj (Nat.not_lt_zero j))
theorem rk_ck (T : Nat → Nat) (n i : Nat) : (nI (rk T n (bg T n i)) = 0 ↔ ck0 T n i = 0) ∧ (nI (rk T n (bg T n i)) = 3 ↔ ck0 T n i = 3) ∧ (nI (ck0 T n i) = 0 ↔ ck0 T n i = 0) ∧ (nI (ck0 T n i) = 3 ↔ ck0 T n i = 3) := by
  have hs := srt_r (T (bg T n i))
  have hk5 : ck0 T n i ≤ 5 := by unfold ck0; split <;> omega
  have h4 : rk T n (bg T n i) ≤ 4 ∧ (rk T n (bg T n i) = 0 ↔ ck0 T n i = 0) ∧ (rk T n (bg T n i) = 3 ↔ ck0 T n i = 3) := by
    unfold rk ck0
    by_cases e1 : bg T n i < n
    · rw [if_pos e1, if_pos e1]
      by_cases s1 : srt (T (bg T n i)) = 1
      · rw [if_pos s1]; omega
      · rw [if_neg s1]
        by_cases s2 : srt (T (bg T n i)) = 2
        · rw [if_pos s2]; split <;> omega
        · rw [if_neg s2]; split <;> omega
    · rw [if_neg e1, if_neg e1]; omega
  obtain ⟨g1, g2, g3⟩ := h4
  refine ⟨?_, ?_, ?_, ?_⟩
  · rw [← g2]; exact nI_eq (b := 0) (by omega) (by decide)
  · rw [← g3]; exact nI_eq (b := 3) (by omega) (by decide)
  · exact nI_eq (b := 0) (by omega) (by decide)
  · exact nI_eq (b := 3) (by omega) (by decide)
theorem bfr (a s : Nat → Int32) (v x b c : Int32) (l : Int64) : ∃ s', X6_text_L63 v 0 x b c l s a = some (-1 - b, 0, x, b, c, s', a, l) ∧ ∀ j, j < 83 → s' j = a j := by
  obtain ⟨s', g1, g2⟩ := lays_eq a s
  refine ⟨s', ?_, g2⟩
  unfold X6_text_L63
  rw [if_pos rfl, g1, Option.bind_some]
theorem rd_loop (h : TP us ub T n) (hc : CUT T n t so sa va) (a le : Nat → Int32) : ∀ d i v m m' bw kd lo se ah ru s, SQ s bw th cm hd ck zz kd lo se ah ru sg no ti sp → i ≤ 120 → 2 * v ≤ i + 2 → 121 ≤ i + d → d < m → d < m' →
    ∃ r bw' kd' lo' se' ah' ru' x1 x2 x3 s' y1 y2 y3 l, X4_readOnto_L11 m (nI v) bw kd lo se ah ru (nI t) (nI (min i t)) (nI (ck0 T n i)) (cvl T n i) so sa le va = some (r, bw', kd', lo', se', ah', ru', nI t, x1, x2, x3, so, sa, le, va) ∧
      (Option.bind (X6_readsItem us (nI (rk T n (bg T n i))) (nI (bg T n i)) (nI (ed T n (i + 1))) s ub (xm0 6200) (xm0 6300) (xm0 6400) (lN (lgv T n (bg T n i)))) fun r16 => X6_text_L20 us ub (xm0 6200) (xm0 6300) (xm0 6400) m' (nI v) (xb r16.1) r16.2.1 r16.2.2.1 r16.2.2.2.1 r16.2.2.2.2.2 r16.2.2.2.2.1 a) = some (r, 0, y1, y2, y3, s', a, l) ∧
      ((r < 0 ∧ ∀ j, j < 83 → s' j = a j) ∨ (¬ r < 0 ∧ SQ s' bw' th cm hd ck zz kd' lo' se' ah' ru' sg no ti sp)) := by
  have hn := h.1
  have ht := hc.1
  intro d
  induction d with
  | zero => intro i v m m' bw kd lo se ah ru s _ h1 _ h2; omega
  | succ d ih =>
    intro i v m m' bw kd lo se ah ru s hq h1 h2 h3 hm hm'
    obtain ⟨m, rfl⟩ : ∃ q, m = q + 1 := ⟨m - 1, by omega⟩
    obtain ⟨m', rfl⟩ : ∃ q, m' = q + 1 := ⟨m' - 1, by omega⟩
    obtain ⟨nb, nt, K, L, E, A, R, F, hp⟩ := hq
    obtain ⟨ok, i', s', bw', kd', lo', se', ah', ru', p1, p2, p3⟩ := rItem h hc hp i
    obtain ⟨k1, k2, k3, k4⟩ := rk_ck T n i'
    have hbl := bg_le T n i'
    have hneg : (-1 : Int32) - nI (bg T n i') < 0 := (by decide +kernel : ∀ x, x < 121 → (-1 : Int32) - nI x < 0) _ (by omega)
    obtain ⟨-, c2, -⟩ := cut_at hc i'
    have hmi := Nat.min_le_right i' t
    rw [X4_readOnto_L11, if_neg (show ¬ (120 : Int32) < nI v from nI_nlt (a := 120) (by omega) (by omega)), p1, p2, Option.bind_some, Option.bind_some]
    dsimp only
    rw [X6_text_L20]
    unfold X6_text_L47
    cases ok with
    | false =>
      obtain ⟨s2, g1, g2⟩ := bfr a s' (nI v) (nI (rk T n (bg T n i'))) (nI (bg T n i')) (nI (ed T n (i' + 1))) (lN (lgv T n (bg T n i')))
      rw [if_pos xbf, if_pos xbf, if_pos xbf, if_pos (inr_lt (by omega) (by decide)), nI_clamp (by omega), c2, g1]
      exact ⟨_, _, _, _, _, _, _, _, _, _, _, _, _, _, _, rfl, rfl, Or.inl ⟨hneg, g2⟩⟩
    | true =>
      obtain ⟨q1, q2⟩ := p3 rfl
      rw [if_neg xbt, if_neg xbt, if_neg xbt]
      by_cases z0 : ck0 T n i' = 0
      · rw [if_pos (k3.mpr z0), if_neg (fun z => by have := k2.mp z; omega), if_pos (k1.mpr z0)]
        unfold X6_text_L63
        rw [if_neg (by decide)]
        exact ⟨_, _, _, _, _, _, _, _, _, _, _, _, _, _, _, rfl, rfl, Or.inr ⟨nI_pos (by omega), q2⟩⟩
      · rw [if_neg (fun z => z0 (k3.mp z))]
        by_cases z3 : ck0 T n i' = 3
        · obtain ⟨b1, -⟩ := ck_lt (by decide) z3
          have b2 := bg_ge (T := T) (n := n) i'
          rw [if_pos (k4.mpr z3), if_pos (k2.mpr z3), take_eq hn hc i', Option.bind_some, next_eq h (i' + 1), Option.bind_some, nI_1]
          exact ih (i' + 1) (v + 1) m m' _ _ _ _ _ _ _ q2 (by omega) (by omega) (by omega) (by omega) (by omega)
        · obtain ⟨s2, g1, g2⟩ := bfr a s' (nI v) (nI (rk T n (bg T n i'))) (nI (bg T n i')) (nI (ed T n (i' + 1))) (lN (lgv T n (bg T n i')))
          rw [if_neg (fun z => z3 (k4.mp z)), if_neg (fun z => z3 (k2.mp z)), if_neg (fun z => z0 (k1.mp z)), if_pos (inr_lt (by omega) (by decide)), nI_clamp (by omega), c2, g1]
          exact ⟨_, _, _, _, _, _, _, _, _, _, _, _, _, _, _, rfl, rfl, Or.inl ⟨hneg, g2⟩⟩
end
section
variable {s kd lo se ah ru sg no ti sp tb ub la lb lc : Nat → Int32} {bw th cm hd ck zz ts us : Int32} {nb nt : Nat} {K L E A R F : Nat → Nat}
theorem p_text (h : SP s bw th cm hd ck zz kd lo se ah ru sg no ti sp nb nt K L E A R F) (ht : TR ts us tb ub) (hl : LR la lb lc) (c2300 c2400 c2500 c2600 c2700 c2800 c2900 c3000 c3100 c4400 c4500 c4600 c4700 c5500 : Nat → Int32) :
    ∃ r5 r6, X5_text bw th cm hd ck zz kd lo se ah ru sg no ti sp c2300 c2400 c2500 c2600 c2700 c2800 c2900 c3000 c3100 ts tb c4400 c4500 c4600 c4700 = some r5 ∧ X6_text us s c5500 ub la lb lc = some r6 ∧ r5.1 = r6.1 ∧ SQ r6.2.2.2.2.2.1 r5.2.1 r5.2.2.1 r5.2.2.2.1 r5.2.2.2.2.1 r5.2.2.2.2.2.1 r5.2.2.2.2.2.2.1 r5.2.2.2.2.2.2.2.1 r5.2.2.2.2.2.2.2.2.1 r5.2.2.2.2.2.2.2.2.2.1 r5.2.2.2.2.2.2.2.2.2.2.1 r5.2.2.2.2.2.2.2.2.2.2.2.1 r5.2.2.2.2.2.2.2.2.2.2.2.2.1 r5.2.2.2.2.2.2.2.2.2.2.2.2.2.1 r5.2.2.2.2.2.2.2.2.2.2.2.2.2.2.1 r5.2.2.2.2.2.2.2.2.2.2.2.2.2.2.2.1 ∧ TR r5.2.2.2.2.2.2.2.2.2.2.2.2.2.2.2.2.2.2.2.2.2.2.2.2.2.2.2.2.2.2.2.1 r6.2.1 tb ub := by
  obtain ⟨n, n1, n2, n3, n4⟩ := ht
  obtain ⟨rfl, rfl, rfl⟩ := hl
  obtain ⟨T, hT⟩ : ∃ T : Nat → Nat, ∀ i, i < n → ub i = nI (T i) ∧ T i < 256 := ⟨fun i => (ub i).toNatClampNeg, fun i hi => by
    obtain ⟨-, k, k1, k2⟩ := n4 i hi
    show ub i = nI (ub i).toNatClampNeg ∧ (ub i).toNatClampNeg < 256
    rw [k2, nI_clamp (by omega)]
    exact ⟨rfl, k1⟩⟩
  have hT6 : TP us ub T n := ⟨n1, n3, hT⟩
  have hT5 : TP ts tb T n := ⟨n1, n2, fun i hi => by rw [(n4 i hi).1]; exact hT i hi⟩
  obtain ⟨t, so, sa, le, va, g1, hc⟩ := cut_eq hT5 c4400 c4500 c4600 c4700
  have hd := h.cg (s' := s) (kd' := va_cpy kd c2300 (Int32.toNatClampNeg 0) (Int32.toNatClampNeg 0) (Int32.toNatClampNeg 9)) (lo' := va_cpy lo c2400 (Int32.toNatClampNeg 0) (Int32.toNatClampNeg 0) (Int32.toNatClampNeg 9)) (se' := va_cpy se c2500 (Int32.toNatClampNeg 0) (Int32.toNatClampNeg 0) (Int32.toNatClampNeg 9)) (ah' := va_cpy ah c2600 (Int32.toNatClampNeg 0) (Int32.toNatClampNeg 0) (Int32.toNatClampNeg 9)) (ru' := va_cpy ru c2700 (Int32.toNatClampNeg 0) (Int32.toNatClampNeg 0) (Int32.toNatClampNeg 5)) (sg' := va_cpy sg c2800 (Int32.toNatClampNeg 0) (Int32.toNatClampNeg 0) (Int32.toNatClampNeg 9)) (no' := va_cpy no c2900 (Int32.toNatClampNeg 0) (Int32.toNatClampNeg 0) (Int32.toNatClampNeg 9)) (ti' := va_cpy ti c3000 (Int32.toNatClampNeg 0) (Int32.toNatClampNeg 0) (Int32.toNatClampNeg 9)) (sp' := va_cpy sp c3100 (Int32.toNatClampNeg 0) (Int32.toNatClampNeg 0) (Int32.toNatClampNeg 10)) (fun _ _ => rfl) (fun j hj => cpy9 _ _ hj) (fun j hj => cpy9 _ _ hj) (fun j hj => cpy9 _ _ hj) (fun j hj => cpy9 _ _ hj) (fun j hj => cpy5 _ _ hj) (fun j hj => cpy9 _ _ hj) (fun j hj => cpy9 _ _ hj) (fun j hj => cpy9 _ _ hj) (fun j hj => cpy10 _ _ hj)
  obtain ⟨s0, a1, a2⟩ := sets_eq s c5500
  obtain ⟨r, bw', kd', lo', se', ah', ru', x1, x2, x3, s', y1, y2, y3, l, e5, e6, e7⟩ := rd_loop hT6 hc s0 le 121 0 1 FU FU _ _ _ _ _ _ _ hd.sq (by omega) (by omega) (by omega) (by unfold FU; omega) (by unfold FU; omega)
  have e0 : X6_nextToken us 0 ub = some ((nI (rk T n (bg T n (0)))), (nI (bg T n (0))), (nI (ed T n (0 + 1))), (lN (lgv T n (bg T n (0))))) := next_eq hT6 0
  have hro : X4_readOnto bw (va_cpy kd c2300 (Int32.toNatClampNeg 0) (Int32.toNatClampNeg 0) (Int32.toNatClampNeg 9)) (va_cpy lo c2400 (Int32.toNatClampNeg 0) (Int32.toNatClampNeg 0) (Int32.toNatClampNeg 9)) (va_cpy se c2500 (Int32.toNatClampNeg 0) (Int32.toNatClampNeg 0) (Int32.toNatClampNeg 9)) (va_cpy ah c2600 (Int32.toNatClampNeg 0) (Int32.toNatClampNeg 0) (Int32.toNatClampNeg 9)) (va_cpy ru c2700 (Int32.toNatClampNeg 0) (Int32.toNatClampNeg 0) (Int32.toNatClampNeg 5)) ts tb c4400 c4500 c4600 c4700 = some (r, bw', kd', lo', se', ah', ru', nI t, x1, x2, x3, so, sa, le, va) := by
    unfold X4_readOnto
    rw [g1, Option.bind_some, take_0 n1 hc, Option.bind_some]
    exact e5
  have h6 : X6_text us s c5500 ub (xm0 6200) (xm0 6300) (xm0 6400) = some (r, 0, y1, y2, y3, s', s0, l) := by
    unfold X6_text
    rw [a1, Option.bind_some, e0, Option.bind_some]
    exact e6
  have htr : TR 0 0 tb ub := ⟨0, by decide, rfl, rfl, fun i hi => absurd hi (Nat.not_lt_zero i)⟩
  rw [h6]
  unfold X5_text X2_become_dr_sc X2_become_sc_dr X4_empty
  rw [Option.bind_some]
  dsimp only
  rw [hro, Option.bind_some]
  dsimp only
  rcases e7 with ⟨hneg, e7⟩ | ⟨hneg, nb2, nt2, K2, L2, E2, A2, R2, F2, e7⟩
  · rw [if_pos hneg, Option.bind_some]
    exact ⟨_, _, rfl, rfl, rfl, (h.cg (fun j hj => (e7 j hj).trans (a2 j hj)) (fun _ _ => rfl) (fun _ _ => rfl) (fun _ _ => rfl) (fun _ _ => rfl) (fun _ _ => rfl) (fun _ _ => rfl) (fun _ _ => rfl) (fun _ _ => rfl) (fun _ _ => rfl)).sq, htr⟩
  · rw [if_neg hneg, Option.bind_some, Option.bind_some]
    exact ⟨_, _, rfl, rfl, rfl, (e7.cg (fun _ _ => rfl) (fun j hj => cpy9 _ _ hj) (fun j hj => cpy9 _ _ hj) (fun j hj => cpy9 _ _ hj) (fun j hj => cpy9 _ _ hj) (fun j hj => cpy5 _ _ hj) (fun j hj => cpy9 _ _ hj) (fun j hj => cpy9 _ _ hj) (fun j hj => cpy9 _ _ hj) (fun j hj => cpy10 _ _ hj)).sq, htr⟩
end
