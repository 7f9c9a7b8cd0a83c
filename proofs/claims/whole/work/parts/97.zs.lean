/-! the first of the best ways: ith, train -/
theorem pcn_top {z n m : Nat} (hz : z < 2 ^ n) (h : n ≤ m) : pcn m z = pcn n z := by
  induction m with
  | zero => rw [show n = 0 by omega]
  | succ m ih =>
    by_cases e : n = m + 1
    · rw [e]
    · rw [pcn_f (testBit_lt hz (show n ≤ m by omega)), ih (by omega)]
theorem pcn_nd {nb c : Nat} : ∀ k, k ≤ nb → pcn k (nd (2 ^ nb - 1) c) + pcn k c = k := by
  intro k
  induction k with
  | zero => intro _; rfl
  | succ k ih =>
    intro hk
    have h1 := ih (by omega)
    cases e : c.testBit k with
    | true => rw [pcn_f (by rw [nd_tb, e, Bool.not_true, Bool.and_false]), pcn_t e]; omega
    | false => rw [pcn_t (by rw [nd_tb, e, tb_full, decide_eq_true (by omega)]; rfl), pcn_f e]; omega
section
variable {s s' kd lo se ah ru sg no ti sp f5 f6 : Nat → Int32} {bw th cm hd ck zz : Int32} {nb nt : Nat} {K L E A R F : Nat → Nat}
theorem rest_eq {c : Nat} (h9 : nb ≤ 9) (hc : c < 2 ^ nb) : X1_rest (nI c) (nI (2 ^ nb - 1)) = nI (nb - pcn nb c) := by
  have h2 := two_lt h9
  have hpos := Nat.two_pow_pos nb
  have hnd : nd (2 ^ nb - 1) c < 2 ^ nb := nd_lt (by omega)
  unfold X1_rest
  rw [ny_nd, bc_eq (by omega), pcn_top hnd h9]
  have := pcn_nd (nb := nb) (c := c) nb (Nat.le_refl _)
  rw [show nb - pcn nb c = pcn nb (nd (2 ^ nb - 1) c) by omega]
theorem row_in (h : SP s bw th cm hd ck zz kd lo se ah ru sg no ti sp nb nt K L E A R F) (k22 : Int32 → Int32 → Int32 → Int32 → Int32 → (Nat → Int32) → (Nat → Int32) → Option (Bool × Int32 × (Nat → Int32) × (Nat → Int32))) {B : Nat → Int32} (row : Nat → Int32) {w t l m : Nat} (hw : w ≤ 1) (ht : t < 2 ^ nb) (hl : l ≤ nb) (hm : m < 9) (left : Int32) (hok : ∀ x, x ∈ fll A t 0 nb → ¬ B (10 * (t ||| 2 ^ x) + x + 1) = NOTV) :
    ∀ k n acc x, k < n → k ≤ nb → ((fll A t 0 k).find? (fun x => decide (gv B w K L t l x = left))).elim acc nI = nI x → x < nb → X6_findsRow_L49 k22 s n (nI w) left (nI t) (nI l - 1) acc (nI k - 1) (nI m) B row = k22 (nI w) (B (10 * (t ||| 2 ^ x) + x + 1)) (nI (t ||| 2 ^ x)) (nI x) (nI (m + 1)) B (upd row m (nI x)) := by
  have h9 := h.h9
  have h2 := two_lt h9
  intro k
  induction k with
  | zero =>
    intro n acc x hn hk hx hxn
    obtain ⟨n, rfl⟩ : ∃ m, n = m + 1 := ⟨n - 1, by omega⟩
    have hacc : acc = nI x := hx
    have hb2 : t ||| 2 ^ x < 2 ^ nb := Nat.or_lt_two_pow ht (Nat.pow_lt_pow_right (by decide) hxn)
    rw [X6_findsRow_L49, if_pos (show nI 0 - 1 < (0 : Int32) by decide), if_pos (inr_lt (by omega) (by decide)), hacc, shl_eq (by omega), ny_or, ix_b, if_pos (inr_lt (by omega) (by decide)), nI_clamp (by omega), nI_clamp (by omega), nI_1]
  | succ k ih =>
    intro n acc x hn hk hx hxn
    obtain ⟨n, rfl⟩ : ∃ m, n = m + 1 := ⟨n - 1, by omega⟩
    rw [fll_app, Nat.zero_add, List.find?_append] at hx
    rw [X6_findsRow_L49, nI_pred, if_neg (nI_pos (by omega)), (h.can5 (show k < nb by omega) (show t < 512 by omega)).2.1, Option.bind_some]
    unfold X6_findsRow_L88
    cases e : canF A k t with
    | false =>
      rw [e, if_neg (by decide)] at hx
      rw [if_pos xbf, if_pos rfl, ← Int32.sub_eq_add_neg]
      refine ih n acc x (by omega) (by omega) ?_ hxn
      rw [← hx]
      cases (fll A t 0 k).find? (fun x => decide (gv B w K L t l x = left)) <;> rfl
    | true =>
      have hb2 : t ||| 2 ^ k < 2 ^ nb := Nat.or_lt_two_pow ht (Nat.pow_lt_pow_right (by decide) (by omega))
      have hne : ¬ B (10 * (t ||| 2 ^ k) + k + 1) = -99999999 := hok k ((fll_mem nb 0).mpr ⟨Nat.zero_le _, by omega, e⟩)
      rw [e, if_pos rfl] at hx
      rw [if_neg xbt, shl_eq (by omega), ny_or, ix_b, if_pos (inr_lt (by omega) (by decide)), nI_clamp (by omega), if_neg hne, h.brings hw (show k < nb by omega) hl, Option.bind_some, ← Int32.sub_eq_add_neg]
      have hg : B (10 * (t ||| 2 ^ k) + k + 1) + br w K L k l = gv B w K L t l k := rfl
      by_cases e2 : gv B w K L t l k = left
      · rw [List.find?_cons_of_pos (by rw [decide_eq_true e2])] at hx
        rw [hg, if_pos e2]
        refine ih n (nI k) x (by omega) (by omega) ?_ hxn
        rw [← hx]
        cases (fll A t 0 k).find? (fun x => decide (gv B w K L t l x = left)) <;> rfl
      · rw [List.find?_cons_of_neg (by rw [decide_eq_false e2]; decide)] at hx
        rw [hg, if_neg e2]
        refine ih n acc x (by omega) (by omega) ?_ hxn
        rw [← hx]
        cases (fll A t 0 k).find? (fun x => decide (gv B w K L t l x = left)) <;> rfl
theorem row_loop (h : SP s bw th cm hd ck zz kd lo se ah ru sg no ti sp nb nt K L E A R F) {ah' B M sco : Nat → Int32} (hco : CO ah' nb A) {w : Nat} (hwl : w ≤ 1) (hw : way A nb (stg F nt) = true) (hB : ∀ t, t < 2 ^ nb → t &&& stg F nt = stg F nt → blk B w K L A nb t) (hsco : ∀ a b, a ≤ 9 → b < nb → sco (9 * a + b) = br w K L b (al nb a)) (hM : MI M B A nb (stg F nt) (stg F nt)) :
    ∀ e i n n' t a many fo mt first row, i + e = nb - nt → pcn nb t = nt + i → t < 2 ^ nb → good A (stg F nt) t → a ≤ 9 → e < n → e < n' → ∃ many' fo' mt' first' row', X1_findFirst_L25 (nI nb) ah' n (nI t) (nI a) (nI (nb - nt)) (nI i) many sco M fo mt first = some (many', sco, M, fo', mt', first') ∧ X6_findsRow_L22 s n' (nI w) (B (10 * t + al nb a)) (nI t) (nI (al nb a) - 1) (nI i) B row = some (true, nI (nb - nt), B, row') ∧ (∀ j, j < i → first' j = first j ∧ row' j = row j) ∧ ∀ j, i ≤ j → j < nb - nt → first' j = row' j ∧ ∃ x, x < nb ∧ row' j = nI x := by
  have h9 := h.h9
  have h2 := two_lt h9
  have ht9 := h.ht
  have hall : X6_allBows s = some (nI (2 ^ nb - 1)) := by unfold X6_allBows; rw [h.b3, full_eq h9]
  intro e
  induction e with
  | zero =>
    intro i n n' t a many fo mt first row hi hp ht hg ha hn hn'
    obtain ⟨n, rfl⟩ : ∃ m, n = m + 1 := ⟨n - 1, by omega⟩
    obtain ⟨n', rfl⟩ : ∃ m, n' = m + 1 := ⟨n' - 1, by omega⟩
    obtain ⟨ov, -⟩ := val_ok h9 h.LL hw hB 512 t (by omega) ht hg (al nb a) (al_le nb a)
    have hne : ¬ B (10 * t + al nb a) = -99999999 := ok_not ov (by omega)
    have hfull : t = 2 ^ nb - 1 := by
      have hh := pcn_full (n := nb) (x := t) (by omega)
      apply set_ext ht (by have := Nat.two_pow_pos nb; omega)
      intro j hj
      rw [tb_full, hh j hj, decide_eq_true hj]
    refine ⟨many, fo, mt, first, row, ?_, ?_, fun j _ => ⟨rfl, rfl⟩, fun j h1 h3 => by omega⟩
    · rw [X1_findFirst_L25, if_pos (nI_le (by omega) (by omega))]
    · rw [X6_findsRow_L22, if_neg hne, hall, Option.bind_some, if_pos (by rw [hfull])]
      unfold X6_findsRow_L178
      rw [if_neg hne, show i = nb - nt by omega]
  | succ e ih =>
    intro i n n' t a many fo mt first row hi hp ht hg ha hn hn'
    obtain ⟨n, rfl⟩ : ∃ m, n = m + 1 := ⟨n - 1, by omega⟩
    obtain ⟨n', rfl⟩ : ∃ m, n' = m + 1 := ⟨n' - 1, by omega⟩
    obtain ⟨ov, oe⟩ := val_ok h9 h.LL hw hB 512 t (by omega) ht hg (al nb a) (al_le nb a)
    have hne : ¬ B (10 * t + al nb a) = -99999999 := ok_not ov (by omega)
    have hnf : ¬ t = 2 ^ nb - 1 := by
      intro hf
      have h3 : pcn nb (nd (2 ^ nb - 1) t) + pcn nb t = nb := pcn_nd nb (Nat.le_refl _)
      have h4 : nd (2 ^ nb - 1) t = 0 := by rw [hf, nd_z]; exact fun _ hi => hi
      rw [h4, pcn_z] at h3
      omega
    obtain ⟨o1, o2⟩ := oe hnf
    have hcle : stg F nt ≤ t := sub_le hg.1
    have hMt : MI M B A nb (stg F nt) t := fun u h1 h3 h4 b h5 h6 => hM u (by omega) h3 h4 b h5 h6
    obtain ⟨fo', mt', f1, f2⟩ := foll_eq h9 hco M fo mt ht
    obtain ⟨-, m2, m3⟩ := mb_val h9 h.LL hw hB hsco hMt f2 ht hg ha
    have hex : ∃ x, (fll A t 0 nb).find? (fun x => decide (gv B w K L t (al nb a) x = B (10 * t + al nb a))) = some x := by
      rcases fold_mem (f := fun x => gv B w K L t (al nb a) x) (fll A t 0 nb) NOTV with h5 | ⟨y, h5, h6⟩
      · exfalso
        exact hne (o2.trans h5)
      · have h7 : ((fll A t 0 nb).find? (fun x => decide (gv B w K L t (al nb a) x = B (10 * t + al nb a)))).isSome = true := by
          rw [List.find?_isSome]
          exact ⟨y, h5, by rw [decide_eq_true_iff, o2, h6]⟩
        exact Option.isSome_iff_exists.mp h7
    obtain ⟨x, hx⟩ := hex
    have hxm := List.mem_of_find?_eq_some hx
    obtain ⟨-, hx1, hx2⟩ := (fll_mem nb 0).mp hxm
    have hxn : x < nb := by omega
    rw [hx] at m3
    have m3 : X1_firstBehind (nI (fll A t 0 nb).length) sco fo' mt' (nI a) = some (nI x) := m3
    have hok : ∀ y, y ∈ fll A t 0 nb → ¬ B (10 * (t ||| 2 ^ y) + y + 1) = NOTV := by
      intro y hy
      obtain ⟨-, hy1, hy2⟩ := (fll_mem nb 0).mp hy
      have hyl := or_two_lt (canF_iff.mp hy2).1
      obtain ⟨q, -⟩ := val_ok h9 h.LL hw hB 512 (t ||| 2 ^ y) (by omega) (Nat.or_lt_two_pow ht (Nat.pow_lt_pow_right (by decide) (by omega))) (good_step hg hy2) (y + 1) (by omega)
      rw [← Nat.add_assoc] at q
      exact ok_not q (by omega)
    have hal : al nb x = x + 1 := by unfold al; rw [if_pos hxn]
    have hb2 : t ||| 2 ^ x < 2 ^ nb := Nat.or_lt_two_pow ht (Nat.pow_lt_pow_right (by decide) hxn)
    obtain ⟨many', fo'', mt'', first', row', q1, q2, q3, q4⟩ := ih (i + 1) n n' (t ||| 2 ^ x) x (nI (fll A t 0 nb).length) fo' mt' (upd first i (nI x)) (upd row i (nI x)) (by omega) (by rw [pcn_set hxn (canF_iff.mp hx2).1]; omega) hb2 (good_step hg hx2) (by omega) (by omega) (by omega)
    refine ⟨many', fo'', mt'', first', row', ?_, ?_, fun j hj => ?_, fun j h1 h3 => ?_⟩
    · rw [X1_findFirst_L25, if_neg (nI_ge (by omega) (by omega)), f1, Option.bind_some]
      simp only [m3, Option.bind_some, if_pos (inr_lt (show i < 9 by omega) (show 9 ≤ 2 ^ 31 by decide)), nI_clamp (show i < 2 ^ 31 by omega), upd_eq, shl_eq (show x < 31 by omega), ny_or, nI_1]
      exact q1
    · have hri := row_in h (fun v10 v20 v30 v40 m_rowMany_0 m_behind_0 m_row_0 => X6_findsRow_L22 s n' v10 v20 v30 v40 m_rowMany_0 m_behind_0 m_row_0) (B := B) row hwl ht (al_le nb a) (show i < 9 by omega) (B (10 * t + al nb a)) hok nb FU (-1) x (by unfold FU; omega) (Nat.le_refl _) (by rw [hx]; rfl) hxn
      rw [X6_findsRow_L22, if_neg hne, hall, Option.bind_some, if_neg (fun z => hnf ((nI_eq (by omega) (by omega)).mp z)), h.b3, hri]
      rw [hal, nI_pred, ← Nat.add_assoc] at q2
      exact q2
    · obtain ⟨r1, r2⟩ := q3 j (by omega)
      rw [r1, r2, upd_ne (by omega), upd_ne (by omega)]
      exact ⟨rfl, rfl⟩
    · by_cases ej : j = i
      · subst ej
        obtain ⟨r1, r2⟩ := q3 j (by omega)
        rw [r1, r2, upd_eq, upd_eq]
        exact ⟨rfl, x, hxn, rfl⟩
      · exact q4 j (by omega) h3
/-- both rows: equal -/
theorem SP.rows (h : SP s bw th cm hd ck zz kd lo se ah ru sg no ti sp nb nt K L E A R F) {kd' lo' ah' : Nat → Int32} (hk : ∀ b, b < nb → kd' b = nI (K b) ∧ lo' b = nI (L b)) (hco : CO ah' nb A) {w : Nat} (hwl : w ≤ 1) (m0 : Int32) (sc0 M0 fo0 mt0 fi0 B0 row0 : Nat → Int32) :
    (way A nb (stg F nt) = true → ∃ q first' B row', X1_findFirst m0 (nI nb) (nI (stg F nt)) (nI (la9 F nt)) (nI (2 ^ nb - 1)) kd' lo' ah' sc0 M0 fo0 mt0 fi0 (nI w) = some q ∧ q.2.2.2.2.2 = first' ∧ X6_findsRow s B0 row0 (nI w) = some (true, nI (nb - nt), B, row') ∧ ∀ j, j < nb - nt → first' j = row' j ∧ ∃ x, x < nb ∧ row' j = nI x) ∧
    (way A nb (stg F nt) = false → ∃ B, X6_findsRow s B0 row0 (nI w) = some (false, 0, B, row0)) := by
  have h9 := h.h9
  have hc := h.c_lt
  obtain ⟨B, b1, b2⟩ := h.finds hwl B0
  obtain ⟨v1, v2⟩ := h.val b2
  obtain ⟨a1, a2, a3⟩ := h.ala
  obtain ⟨l1, -, -⟩ := h.latest
  have e2 : (if nt = 0 then -1 else nI (F (nt - 1))) = nI (ltN F nt) - 1 := by
    unfold ltN
    by_cases h0 : nt = 0
    · rw [if_pos h0, if_pos h0]; decide
    · rw [if_neg h0, if_neg h0, nI_pred]
  constructor
  · intro hw
    obtain ⟨many, sco, M, fo, mt, w1, w2, w3⟩ := weigh_eq h9 (h.ckk hk) hco hwl hw b2 hc a2 m0 sc0 M0 fo0 mt0
    obtain ⟨many', fo', mt', first', row', q1, q2, -, q4⟩ := row_loop h hco hwl hw b2 w2 w3 (nb - nt) 0 FU FU (stg F nt) (la9 F nt) many fo mt fi0 row0 (by omega) (by rw [h.pc]; omega) hc (good_c A _) a2 (by unfold FU; omega) (by unfold FU; omega)
    rw [a1] at q2
    refine ⟨(many', sco, M, fo', mt', first'), first', B, row', ?_, rfl, ?_, fun j hj => q4 j (Nat.zero_le _) hj⟩
    · unfold X1_findFirst
      rw [w1, Option.bind_some, rest_eq h9 hc, h.pc]
      exact q1
    · unfold X6_findsRow
      rw [b1, Option.bind_some, h.stage, Option.bind_some, l1, Option.bind_some, e2]
      exact q2
  · intro hw
    refine ⟨B, ?_⟩
    unfold X6_findsRow
    rw [b1, Option.bind_some, h.stage, Option.bind_some, l1, Option.bind_some, show FU = 4999 + 1 from rfl, X6_findsRow_L22]
    have hv : B (10 * stg F nt + ltN F nt) = -99999999 := v2 hw
    simp only [hv, if_true]
    unfold X6_findsRow_L178
    rw [if_pos rfl]
theorem p_ith (h : SP s bw th cm hd ck zz kd lo se ah ru sg no ti sp nb nt K L E A R F) (hf : FR f5 f6) (c3208 c3211 c3212 c3213 c3214 c5208 : Int32) (c3300 c3400 c3500 c3600 c3700 c3800 c3900 c4100 c5700 c5800 : Nat → Int32) (v1 v2 : Int32) :
    ∃ r5 r6, X5_ith f5 bw th cm kd lo ah sg c3208 c3211 c3212 c3213 c3214 c3300 c3400 c3500 c3600 c3700 c3800 c3900 c4100 v1 v2 = some r5 ∧ X6_ith c5208 s f6 c5700 c5800 v1 v2 = some r6 ∧ r5.1 = r6.1 ∧ FR r5.2.1 r6.2.2.1 := by
  have h9 := h.h9
  have hc := h.c_lt
  unfold X5_ith X6_ith
  simp only [f5_0, f6_0, f5_3, f6_3, Option.bind_some, isIn_eq]
  cases hi : X5_isIn v1 0 1 with
  | false =>
    simp only [if_pos xbf]
    exact ⟨_, _, rfl, rfl, rfl, hf.up 0 (by decide)⟩
  | true =>
    obtain ⟨w, hw1, rfl⟩ := isIn_t (n := 1) (by decide) hi
    by_cases h0 : (0 : Int32) ≤ v2
    · obtain ⟨i, hi2, rfl⟩ := nI_of (Int32.not_lt.mpr h0)
      obtain ⟨kd', lo', ah', g1, g2, g3⟩ := h.start c3300 c3400 c3500
      obtain ⟨a1, a2, a3⟩ := h.ala
      obtain ⟨r1, r2⟩ := h.rows g2 g3 hw1 c3208 c3600 c3700 c3800 c3900 c4100 c5700 c5800
      simp only [if_neg xbt, if_pos h0, g1, Option.bind_some, have_eq h9 g3 hc, rest_eq h9 hc, h.pc]
      cases hw : way A nb (stg F nt) with
      | false =>
        obtain ⟨B, b1⟩ := r2 hw
        simp only [b1, Option.bind_some, if_pos xbf, ite_self]
        exact ⟨_, _, rfl, rfl, rfl, hf.up 3 (by decide)⟩
      | true =>
        obtain ⟨q, first', B, row', q1, q2, q3, q4⟩ := r1 hw
        simp only [q3, Option.bind_some, if_neg xbt]
        by_cases hr : nb - nt ≤ i
        · simp only [if_pos (nI_le hr hi2)]
          exact ⟨_, _, rfl, rfl, rfl, hf.up 3 (by decide)⟩
        · simp only [if_neg (nI_ge (show i < nb - nt by omega) (show nb - nt < 2 ^ 31 by omega)), a3, q1, Option.bind_some, q2, if_pos (inr_lt (show i < 9 by omega) (show 9 ≤ 2 ^ 31 by decide)), nI_clamp hi2]
          exact ⟨_, _, rfl, rfl, (q4 i (by omega)).1, hf⟩
    · simp only [if_neg xbt, if_neg h0]
      exact ⟨_, _, rfl, rfl, rfl, hf.up 0 (by decide)⟩
theorem p_train (h : SP s bw th cm hd ck zz kd lo se ah ru sg no ti sp nb nt K L E A R F) (hf : FR f5 f6) (c3208 : Int32) (c3300 c3400 c3500 c3600 c3700 c3800 c3900 c4100 c5700 c5800 : Nat → Int32) :
    ∃ r5 r6, X5_train f5 bw th cm ck kd lo se ah ru sg c3208 c3300 c3400 c3500 c3600 c3700 c3800 c3900 c4100 = some r5 ∧ X6_train s f6 c5700 c5800 = some r6 ∧ r5.1 = r6.1 ∧ FR r5.2.1 r6.2.2.1 := by
  have h9 := h.h9
  have hc := h.c_lt
  obtain ⟨kd', lo', ah', g1, g2, g3⟩ := h.start c3300 c3400 c3500
  obtain ⟨a1, a2, a3⟩ := h.ala
  obtain ⟨r1, r2⟩ := h.rows g2 g3 (show 0 ≤ 1 by omega) c3208 c3600 c3700 c3800 c3900 c4100 c5700 c5800
  obtain ⟨u4, v4, -⟩ := h.2.2.1 4 (by decide)
  have v4 : s 9 = nI (R 4) := v4
  unfold X5_train X6_train
  simp only [f5_3, f6_3, Option.bind_some, g1, have_eq h9 g3 hc]
  cases hw : way A nb (stg F nt) with
  | false =>
    obtain ⟨B, b1⟩ := r2 hw
    have b1 : X6_findsRow s c5700 c5800 0 = _ := b1
    simp only [b1, Option.bind_some, if_pos xbf]
    exact ⟨_, _, rfl, rfl, rfl, hf.up 3 (by decide)⟩
  | true =>
    obtain ⟨q, first', B, row', q1, q2, q3, q4⟩ := r1 hw
    have q1 : X1_findFirst c3208 (nI nb) (nI (stg F nt)) (nI (la9 F nt)) (nI (2 ^ nb - 1)) kd' lo' ah' c3600 c3700 c3800 c3900 c4100 0 = some q := q1
    have q3 : X6_findsRow s c5700 c5800 0 = _ := q3
    simp only [if_neg xbt, a3, q1, q3, Option.bind_some]
    have loop : ∀ d i n n' clk cnt, i + d = nb - nt → d < n → d < n' → ∃ r q5 q6, X5_train_L47 f5 kd se ru n clk cnt (nI i) q.1 (nI nb) (nI (stg F nt)) (nI (la9 F nt)) (nI (2 ^ nb - 1)) kd' lo' ah' q.2.1 q.2.2.1 q.2.2.2.1 q.2.2.2.2.1 q.2.2.2.2.2 = some (r, f5, q5) ∧ X6_train_L25 s f6 n' clk cnt (nI i) (nI (nb - nt)) B row' = some (r, q6, f6, B, row') := by
      intro d
      induction d with
      | zero =>
        intro i n n' clk cnt hi hn hn'
        obtain ⟨n, rfl⟩ : ∃ m, n = m + 1 := ⟨n - 1, by omega⟩
        obtain ⟨n', rfl⟩ : ∃ m, n' = m + 1 := ⟨n' - 1, by omega⟩
        rw [X5_train_L47, X6_train_L25, rest_eq h9 hc, h.pc, if_pos (nI_le (by omega) (by omega)), if_pos (nI_le (by omega) (by omega))]
        exact ⟨_, _, _, rfl, rfl⟩
      | succ d ih =>
        intro i n n' clk cnt hi hn hn'
        obtain ⟨n, rfl⟩ : ∃ m, n = m + 1 := ⟨n - 1, by omega⟩
        obtain ⟨n', rfl⟩ : ∃ m, n' = m + 1 := ⟨n' - 1, by omega⟩
        obtain ⟨p1, x, p2, p3⟩ := q4 i (by omega)
        obtain ⟨t1, t2⟩ := h.las p2
        rw [X5_train_L47, X6_train_L25, rest_eq h9 hc, h.pc, if_neg (nI_ge (by omega) (by omega)), if_neg (nI_ge (by omega) (by omega)), if_pos (inr_lt (by omega) (by decide)), if_pos (inr_lt (by omega) (by decide)), nI_clamp (by omega), q2, p1, p3, t1, t2, Option.bind_some, Option.bind_some, u4, v4, nI_1, Int32.add_zero]
        by_cases hlt : nI (R 4) < clk + X0_lastedBy (nI (K x)) (nI (E x))
        · rw [if_pos hlt, if_pos hlt]
          have := ih (i + 1) n n' (clk + X0_lastedBy (nI (K x)) (nI (E x))) cnt (by omega) (by omega) (by omega)
          rw [q2] at this
          exact this
        · rw [if_neg hlt, if_neg hlt]
          have := ih (i + 1) n n' (clk + X0_lastedBy (nI (K x)) (nI (E x))) (cnt + 1) (by omega) (by omega) (by omega)
          rw [q2] at this
          exact this
    obtain ⟨r, q5, q6, e1, e2⟩ := loop (nb - nt) 0 FU FU ck 0 (by omega) (by unfold FU; omega) (by unfold FU; omega)
    have e1 : X5_train_L47 f5 kd se ru FU ck 0 0 q.1 (nI nb) (nI (stg F nt)) (nI (la9 F nt)) (nI (2 ^ nb - 1)) kd' lo' ah' q.2.1 q.2.2.1 q.2.2.2.1 q.2.2.2.2.1 q.2.2.2.2.2 = some (r, f5, q5) := e1
    have hck : s 1 = ck := h.1.2.2.2.2.2.2.2.2.1.symm
    have e2 : X6_train_L25 s f6 FU (s 1) 0 0 (nI (nb - nt)) B row' = some (r, q6, f6, B, row') := by rw [hck]; exact e2
    simp only [e1, e2]
    exact ⟨_, _, rfl, rfl, rfl, hf⟩
end
