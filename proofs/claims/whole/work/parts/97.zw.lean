/-! texts: the class cuts the tape into the same tokens -/
def ck0 (T : Nat → Nat) (n i : Nat) : Nat := if bg T n i < n then srt (T (bg T n i)) else 0
/-- the tokens below t are laid -/
def TD (T : Nat → Nat) (n t : Nat) (so sa le : Nat → Int32) : Prop := ∀ j, j < t → bg T n j < n ∧ so j = nI (ck0 T n j) ∧ sa j = nI (bg T n j) ∧ le j = nI (ed T n (j + 1) - bg T n j)
/-- where the cutter stands: in a run, or between tokens -/
def CI (T : Nat → Nat) (n i t : Nat) (bf : Int32) (so sa le : Nat → Int32) : Prop :=
  (∃ u k, t = u + 1 ∧ (k = 1 ∨ k = 2) ∧ bf = nI k ∧ TD T n u so sa le ∧ bg T n u < i ∧ (∀ j, bg T n u ≤ j → j < i → srt (T j) = k) ∧ so u = nI k ∧ sa u = nI (bg T n u) ∧ le u = nI (i - bg T n u)) ∨
  (bf ≠ 1 ∧ bf ≠ 2 ∧ TD T n t so sa le ∧ ed T n t ≤ i ∧ ∀ j, ed T n t ≤ j → j < i → srt (T j) = 4)
theorem TD_cg {T : Nat → Nat} {n t : Nat} {so sa le so' sa' le' : Nat → Int32} (h : TD T n t so sa le) (g : ∀ j, j < t → so' j = so j ∧ sa' j = sa j ∧ le' j = le j) : TD T n t so' sa' le' := by
  intro j hj
  obtain ⟨a, b, c, d⟩ := h j hj
  obtain ⟨e, f, k⟩ := g j hj
  exact ⟨a, e.trans b, f.trans c, k.trans d⟩
section
variable {us : Int32} {ub : Nat → Int32} {T : Nat → Nat} {n : Nat}
/-- a run has ended -/
theorem CI_done {i u k : Nat} {so sa le : Nat → Int32} (hi : i ≤ n) (hk : k = 1 ∨ k = 2) (hTD : TD T n u so sa le) (h1 : bg T n u < i) (h2 : ∀ j, bg T n u ≤ j → j < i → srt (T j) = k) (h3 : so u = nI k) (h4 : sa u = nI (bg T n u)) (h5 : le u = nI (i - bg T n u)) (hst : i = n ∨ ¬ srt (T i) = k) : TD T n (u + 1) so sa le ∧ ed T n (u + 1) = i := by
  have hb : bg T n u < n := by omega
  have hs := h2 (bg T n u) (Nat.le_refl _) h1
  have he : ed T n (u + 1) = i := by
    show tend T n (bg T n u) = i
    unfold tend
    rw [if_pos hb, hs]
    have hr := rnn_eq (T := T) hi hst (i - bg T n u) (bg T n u) (by omega) h2
    rcases hk with rfl | rfl
    · rw [if_pos rfl]; exact hr
    · rw [if_neg (by decide), if_pos rfl]; exact hr
  refine ⟨fun j hj => ?_, he⟩
  by_cases e : j = u
  · subst e
    refine ⟨hb, ?_, h4, by rw [he]; exact h5⟩
    unfold ck0
    rw [if_pos hb, hs]; exact h3
  · exact hTD j (by omega)
/-- a new token -/
theorem CI_new {i t : Nat} {so sa le : Nat → Int32} (hi : i < n) (hTD : TD T n t so sa le) (h1 : ed T n t ≤ i) (h2 : ∀ j, ed T n t ≤ j → j < i → srt (T j) = 4) (h4 : ¬ srt (T i) = 4) : CI T n (i + 1) (t + 1) (nI (srt (T i))) (upd so t (nI (srt (T i)))) (upd sa t (nI i)) (upd le t 1) := by
  have hb : bg T n t = i := rnn_eq (T := T) (by omega) (Or.inr h4) (i - ed T n t) (ed T n t) (by omega) h2
  have hTD' : TD T n t (upd so t (nI (srt (T i)))) (upd sa t (nI i)) (upd le t 1) := TD_cg hTD (fun j hj => ⟨upd_ne (by omega), upd_ne (by omega), upd_ne (by omega)⟩)
  have hr := srt_r (T i)
  by_cases e : srt (T i) = 1 ∨ srt (T i) = 2
  · left
    refine ⟨t, srt (T i), rfl, e, rfl, hTD', by omega, fun j hj1 hj2 => by rw [show j = i by omega], upd_eq, by rw [upd_eq, hb], ?_⟩
    rw [upd_eq, hb, show i + 1 - i = 1 by omega]; rfl
  · right
    have he : ed T n (t + 1) = i + 1 := by
      show tend T n (bg T n t) = i + 1
      rw [hb]
      unfold tend
      rw [if_pos hi, if_neg (fun z => e (Or.inl z)), if_neg (fun z => e (Or.inr z))]
    refine ⟨fun z => e (Or.inl ((nI_eq (by omega) (by decide)).mp (show nI (srt (T i)) = nI 1 from z))), fun z => e (Or.inr ((nI_eq (by omega) (by decide)).mp (show nI (srt (T i)) = nI 2 from z))), fun j hj => ?_, by omega, fun j hj1 hj2 => by omega⟩
    by_cases ej : j = t
    · subst ej
      refine ⟨by omega, ?_, by rw [upd_eq, hb], ?_⟩
      · unfold ck0
        rw [upd_eq, hb, if_pos hi]
      · rw [upd_eq, he, hb, show i + 1 - i = 1 by omega]; rfl
    · exact hTD' j (by omega)
theorem CI_t {i t : Nat} {bf : Int32} {so sa le : Nat → Int32} (hi : i ≤ n) (h : CI T n i t bf so sa le) : t ≤ i := by
  rcases h with ⟨u, k, rfl, -, -, -, h1, -⟩ | ⟨-, -, hTD, h1, -⟩
  · rcases bg_ge (T := T) (n := n) u with h2 | h2 <;> omega
  · rcases t with _ | t
    · exact Nat.zero_le _
    · obtain ⟨h2, -⟩ := hTD t (by omega)
      have h3 := bg_ed h2
      rcases bg_ge (T := T) (n := n) t with h4 | h4 <;> omega
theorem cut_loop (h : TP us ub T n) (va : Nat → Int32) : ∀ d i m t bf so sa le, i + d = n → d < m → CI T n i t bf so sa le → ∃ t' so' sa' le', X4_cut_L9 us ub va m bf (nI i) (nI t) so sa le = X4_cut_L157 ub FU 0 (nI t') (upd so' t' 0) (upd sa' t' (nI n)) le' va ∧ t' ≤ n ∧ TD T n t' so' sa' le' ∧ bg T n t' = n := by
  have h0 := h
  obtain ⟨h1, rfl, h3⟩ := h
  intro d
  induction d with
  | zero =>
    intro i m t bf so sa le hi hm hc
    obtain ⟨m, rfl⟩ : ∃ q, m = q + 1 := ⟨m - 1, by omega⟩
    have hin : i = n := by omega
    subst hin
    have ht := CI_t (Nat.le_refl _) hc
    refine ⟨t, so, sa, le, ?_, ht, ?_⟩
    · rw [X4_cut_L9, if_pos (nI_le (by omega) (by omega)), if_pos (inr_lt (by omega) (by decide)), if_pos (inr_lt (by omega) (by decide)), nI_clamp (by omega)]
    · rcases hc with ⟨u, k, rfl, hk, -, hTD, g1, g2, g3, g4, g5⟩ | ⟨-, -, hTD, g1, g2⟩
      · obtain ⟨q1, q2⟩ := CI_done (Nat.le_refl _) hk hTD g1 g2 g3 g4 g5 (Or.inl rfl)
        refine ⟨q1, ?_⟩
        show rnn T i 4 (ed T i (u + 1)) = i
        rw [q2, rnn_e (Nat.le_refl _)]
      · exact ⟨hTD, rnn_eq (Nat.le_refl _) (Or.inl rfl) (i - ed T i t) (ed T i t) (by omega) g2⟩
  | succ d ih =>
    intro i m t bf so sa le hi hm hc
    obtain ⟨m, rfl⟩ : ∃ q, m = q + 1 := ⟨m - 1, by omega⟩
    obtain ⟨b1, b2⟩ := h3 i (by omega)
    obtain ⟨c1, -⟩ := chr_eq b2
    have ht := CI_t (show i ≤ n by omega) hc
    have hr := srt_r (T i)
    -- what happens when no run goes on
    have brk : ∀ (so sa le : Nat → Int32), TD T n t so sa le → ed T n t ≤ i → (∀ j, ed T n t ≤ j → j < i → srt (T j) = 4) → ∃ t' so' sa' le', X4_cut_L79 (fun v10 v20 tp_tokens_0 tp_sorts_0 tp_starts_0 tp_lengths_0 => X4_cut_L9 (nI n) ub va m v10 v20 tp_tokens_0 tp_sorts_0 tp_starts_0 tp_lengths_0) (nI i) (nI (srt (T i))) (nI t) so sa le = X4_cut_L157 ub FU 0 (nI t') (upd so' t' 0) (upd sa' t' (nI n)) le' va ∧ t' ≤ n ∧ TD T n t' so' sa' le' ∧ bg T n t' = n := by
      intro so sa le hTD g1 g2
      unfold X4_cut_L79
      by_cases e4 : srt (T i) = 4
      · rw [if_pos (by rw [e4]; rfl), nI_1]
        refine ih (i + 1) m t _ so sa le (by omega) (by omega) (Or.inr ⟨by rw [e4]; decide, by rw [e4]; decide, hTD, by omega, fun j hj1 hj2 => ?_⟩)
        by_cases ej : j = i
        · rw [ej]; exact e4
        · exact g2 j hj1 (by omega)
      · rw [if_neg (show ¬ nI (srt (T i)) = 4 from fun z => e4 ((nI_eq (by omega) (by decide)).mp (show nI (srt (T i)) = nI 4 from z))), if_pos (inr_lt (by omega) (by decide)), if_pos (inr_lt (by omega) (by decide)), if_pos (inr_lt (by omega) (by decide)), nI_clamp (by omega), nI_1, nI_1]
        exact ih (i + 1) m (t + 1) _ _ _ _ (by omega) (by omega) (CI_new (by omega) hTD g1 g2 e4)
    rw [X4_cut_L9, if_neg (nI_ge (by omega) (by omega)), if_pos (inr_lt (by omega) (by decide)), nI_clamp (by omega), b1, c1]
    rcases hc with ⟨u, k, rfl, hk, rfl, hTD, g1, g2, g3, g4, g5⟩ | ⟨hb1, hb2, hTD, g1, g2⟩
    · by_cases es : srt (T i) = k
      · -- the run goes on
        have hgo : ∃ t' so' sa' le', X4_cut_L47 (fun v10 v20 tp_tokens_0 tp_sorts_0 tp_starts_0 tp_lengths_0 => X4_cut_L9 (nI n) ub va m v10 v20 tp_tokens_0 tp_sorts_0 tp_starts_0 tp_lengths_0) (nI i) (nI k) 1 (nI (u + 1)) so sa le = X4_cut_L157 ub FU 0 (nI t') (upd so' t' 0) (upd sa' t' (nI n)) le' va ∧ t' ≤ n ∧ TD T n t' so' sa' le' ∧ bg T n t' = n := by
          unfold X4_cut_L47
          rw [if_neg (show ¬ (1 : Int32) = 0 by decide), if_neg (nI_nle (by omega) (by omega)), nI_pred, if_pos (inr_lt (by omega) (by decide)), if_pos (inr_lt (by omega) (by decide)), nI_clamp (by omega), nI_1, g5, nI_1]
          refine ih (i + 1) m (u + 1) _ so sa _ (by omega) (by omega) (Or.inl ⟨u, k, rfl, hk, rfl, TD_cg hTD (fun j hj => ⟨rfl, rfl, upd_ne (by omega)⟩), by omega, fun j hj1 hj2 => ?_, g3, g4, by rw [upd_eq, show i + 1 - bg T n u = i - bg T n u + 1 by omega]⟩)
          by_cases ej : j = i
          · rw [ej]; exact es
          · exact g2 j hj1 (by omega)
        rw [es, if_pos rfl]
        rcases hk with rfl | rfl
        · rw [if_pos (show nI 1 = (1 : Int32) from rfl)]
          exact hgo
        · rw [if_neg (show ¬ nI 2 = (1 : Int32) by decide), if_pos (show nI 2 = (2 : Int32) from rfl)]
          exact hgo
      · obtain ⟨q1, q2⟩ := CI_done (show i ≤ n by omega) hk hTD g1 g2 g3 g4 g5 (Or.inr es)
        have hk2 : k ≤ 2 := by omega
        rw [if_neg (fun z => es ((nI_eq (by omega) (by omega)).mp z))]
        unfold X4_cut_L47
        rw [if_pos rfl]
        exact brk so sa le q1 (by omega) (fun j hj1 hj2 => by omega)
    · have hL : ∀ x : Int32, x = 0 → ∃ t' so' sa' le', X4_cut_L47 (fun v10 v20 tp_tokens_0 tp_sorts_0 tp_starts_0 tp_lengths_0 => X4_cut_L9 (nI n) ub va m v10 v20 tp_tokens_0 tp_sorts_0 tp_starts_0 tp_lengths_0) (nI i) (nI (srt (T i))) x (nI t) so sa le = X4_cut_L157 ub FU 0 (nI t') (upd so' t' 0) (upd sa' t' (nI n)) le' va ∧ t' ≤ n ∧ TD T n t' so' sa' le' ∧ bg T n t' = n := by
        intro x hx
        unfold X4_cut_L47
        rw [if_pos hx]
        exact brk so sa le hTD g1 g2
      by_cases eb : nI (srt (T i)) = bf
      · rw [if_pos eb, if_neg (show ¬ nI (srt (T i)) = 1 from fun z => hb1 (eb.symm.trans z)), if_neg (show ¬ nI (srt (T i)) = 2 from fun z => hb2 (eb.symm.trans z))]
        exact hL 0 rfl
      · rw [if_neg eb]
        exact hL 0 rfl
/-! the words -/
def wl (w : Nat) : List Nat := ((xstrs.getD w []).map (fun x => x.toNatClampNeg))
/-- the word w stands there -/
def wmB (T : Nat → Nat) (n w b e : Nat) : Bool := decide ((wl w).length = e - b) && decide (∀ i, i < e - b → (wl w).getD i 0 = T (b + i))
/-- which word stands there; 16: none -/
def wix (T : Nat → Nat) (n b e : Nat) : Nat → Nat → Nat
  | 0, w => w
  | r + 1, w => if wmB T n w b e = true then w else wix T n b e r (w + 1)
def wcd (T : Nat → Nat) (n b e : Nat) : Int32 := if wix T n b e 16 0 = 16 then -1 else nI (wix T n b e 16 0)
theorem len_eq {w : Nat} (h : w < 16) : J0_length_8abf5 w = nI (wl w).length ∧ (wl w).length ≤ 8 := (by decide +kernel : ∀ w, w < 16 → J0_length_8abf5 w = nI (wl w).length ∧ (wl w).length ≤ 8) w h
theorem chat_eq {w i : Nat} (h : w < 16) (hi : i < (wl w).length) : J0_charAt_5068e w (nI i) = some (nI ((wl w).getD i 0)) ∧ (wl w).getD i 0 < 256 := by
  have h8 := (len_eq h).2
  exact (by decide +kernel : ∀ w, w < 16 → ∀ i, i < 8 → i < (wl w).length → J0_charAt_5068e w (nI i) = some (nI ((wl w).getD i 0)) ∧ (wl w).getD i 0 < 256) w h i (by omega) hi
theorem spell_eq {w : Nat} (h : w < 16) : X4_spelled (nI w) = w := (by decide +kernel : ∀ w, w < 16 → X4_spelled (nI w) = w) w h
theorem isw_eq (h : TP us ub T n) {w b e : Nat} (hw : w < 16) (hbe : b ≤ e) (he : e ≤ n) : X4_isWord ub w (nI b) (nI (e - b)) = some (wmB T n w b e) := by
  obtain ⟨h1, h2, h3⟩ := h
  obtain ⟨l1, l2⟩ := len_eq hw
  unfold X4_isWord wmB
  rw [l1]
  by_cases el : (wl w).length = e - b
  · have loop : ∀ d i m, i + d = e - b → d < m → X4_isWord_L13 ub m w (nI b) (nI (e - b)) (nI i) = some (decide (∀ j, j < e - b → i ≤ j → (wl w).getD j 0 = T (b + j))) := by
      intro d
      induction d with
      | zero =>
        intro i m hi hm
        obtain ⟨m, rfl⟩ : ∃ q, m = q + 1 := ⟨m - 1, by omega⟩
        rw [X4_isWord_L13, if_pos (nI_le (by omega) (by omega)), decide_eq_true (fun j hj hij => by omega)]
      | succ d ih =>
        intro i m hi hm
        obtain ⟨m, rfl⟩ : ∃ q, m = q + 1 := ⟨m - 1, by omega⟩
        obtain ⟨k1, k2⟩ := chat_eq hw (show i < (wl w).length by omega)
        obtain ⟨b1, b2⟩ := h3 (b + i) (by omega)
        rw [X4_isWord_L13, if_neg (nI_ge (by omega) (by omega)), k1, Option.bind_some, nI_add, if_pos (inr_lt (by omega) (by decide)), nI_clamp (by omega), b1]
        by_cases ec : (wl w).getD i 0 = T (b + i)
        · rw [if_pos (by rw [ec]), nI_1, ih (i + 1) m (by omega) (by omega)]
          congr 1
          apply decide_eq_decide.mpr
          constructor
          · intro hh j hj hij
            by_cases ej : j = i
            · rw [ej]; exact ec
            · exact hh j hj (by omega)
          · exact fun hh j hj hij => hh j hj (by omega)
        · rw [if_neg (fun z => ec ((nI_eq (by omega) (by omega)).mp z)), decide_eq_false (fun hh => ec (hh i (by omega) (Nat.le_refl _)))]
    have := loop (e - b) 0 FU (by omega) (by unfold FU; omega)
    rw [if_pos (by rw [el]), show (0 : Int32) = nI 0 from rfl, this, decide_eq_true el, Bool.true_and]
    congr 1
    apply decide_eq_decide.mpr
    exact ⟨fun hh j hj => hh j hj (Nat.zero_le _), fun hh j hj _ => hh j hj⟩
  · rw [if_neg (fun z => el ((nI_eq (by omega) (by omega)).mp z)), decide_eq_false el, Bool.false_and]
theorem word_eq (h : TP us ub T n) {b e : Nat} (hbe : b ≤ e) (he : e ≤ n) : X4_wordAt ub (nI b) (nI (e - b)) = some (wcd T n b e) := by
  have loop : ∀ d w m, w + d = 16 → d < m → X4_wordAt_L2 ub m (nI b) (nI (e - b)) (nI w) = some (if wix T n b e d w = 16 then -1 else nI (wix T n b e d w)) := by
    intro d
    induction d with
    | zero =>
      intro w m hw hm
      obtain ⟨m, rfl⟩ : ∃ q, m = q + 1 := ⟨m - 1, by omega⟩
      rw [X4_wordAt_L2, if_pos (show (16 : Int32) ≤ nI w from nI_le (a := 16) (by omega) (by omega)), wix, if_pos (by omega)]
    | succ d ih =>
      intro w m hw hm
      obtain ⟨m, rfl⟩ : ∃ q, m = q + 1 := ⟨m - 1, by omega⟩
      rw [X4_wordAt_L2, if_neg (show ¬ (16 : Int32) ≤ nI w from nI_ge (b := 16) (by omega) (by omega)), spell_eq (by omega), isw_eq h (by omega) hbe he, Option.bind_some, nI_1, wix]
      cases ew : wmB T n w b e with
      | false => rw [if_pos xbf, if_neg (show ¬ (false = true) by decide)]; exact ih (w + 1) m (by omega) (by omega)
      | true => rw [if_neg xbt, if_pos rfl, if_neg (by omega)]
  exact loop 16 0 FU (by omega) (by unfold FU; omega)
theorem numb_eq (h : TP us ub T n) : ∀ d p m v e b, p + d = e → e ≤ n → d < m → v < 2 ^ 14 → (∀ j, p ≤ j → j < e → srt (T j) = 2) → (e = n ∨ ¬ srt (T e) = 2) → b ≤ e → X4_numberAt_L5 ub m (nI b) (nI (e - b)) (nI (min v 1000)) (nI p) = some (nI (min (hn T (n - p) p v) 1000)) := by
  have h0 := h
  obtain ⟨h1, h2, h3⟩ := h
  intro d
  induction d with
  | zero =>
    intro p m v e b hp he hm hv hj hst hb
    obtain ⟨m, rfl⟩ : ∃ q, m = q + 1 := ⟨m - 1, by omega⟩
    have : p = e := by omega
    subst this
    rw [X4_numberAt_L5, nI_add, if_pos (nI_le (by omega) (by omega))]
    rcases hst with hs | hs
    · rw [show n - p = 0 by omega, hn]
    · by_cases e2 : p < n
      · rw [show n - p = (n - (p + 1)) + 1 by omega, hn, if_neg hs]
      · rw [show n - p = 0 by omega, hn]
  | succ d ih =>
    intro p m v e b hp he hm hv hj hst hb
    obtain ⟨m, rfl⟩ : ∃ q, m = q + 1 := ⟨m - 1, by omega⟩
    obtain ⟨b1, b2⟩ := h3 p (by omega)
    have e1 := hj p (Nat.le_refl _) (by omega)
    obtain ⟨c1, c2⟩ := srt_2 e1
    have hx : xmin (nI (min v 1000) * 10 + nI (T p) - 48) 1000 = nI (min (if 999 < v then v else v * 10 + T p - 48) 1000) := by
      rw [show (10 : Int32) = nI 10 from rfl, show (48 : Int32) = nI 48 from rfl, nI_mul, nI_add, nI_sub (by omega)]
      unfold xmin
      by_cases e2 : 999 < v
      · rw [if_pos e2, Nat.min_eq_right (show 1000 ≤ v by omega), if_pos (show (1000 : Int32) < nI (1000 * 10 + T p - 48) from nI_lt (a := 1000) (by omega) (by omega))]
        rfl
      · rw [if_neg e2, Nat.min_eq_left (show v ≤ 1000 by omega)]
        by_cases e3 : 1000 < v * 10 + T p - 48
        · rw [if_pos (show (1000 : Int32) < nI (v * 10 + T p - 48) from nI_lt (a := 1000) e3 (by omega)), Nat.min_eq_right (by omega)]; rfl
        · rw [if_neg (show ¬ (1000 : Int32) < nI (v * 10 + T p - 48) from nI_nlt (a := 1000) (by omega) (by omega)), Nat.min_eq_left (by omega)]
    rw [X4_numberAt_L5, nI_add, if_neg (nI_ge (by omega) (by omega)), if_pos (inr_lt (by omega) (by decide)), nI_clamp (by omega), b1, hx, nI_1, show n - p = (n - (p + 1)) + 1 by omega, hn, if_pos e1]
    exact ih (p + 1) m _ e b (by omega) he (by omega) (by split <;> omega) (fun j hj1 hj2 => hj j (by omega) hj2) hst hb
/-- the class's value of a token -/
def cvl (T : Nat → Nat) (n i : Nat) : Int32 := if bg T n i < n then (if srt (T (bg T n i)) = 1 then wcd T n (bg T n i) (ed T n (i + 1)) else if srt (T (bg T n i)) = 2 then nI (min (hnn T n (bg T n i)) 1000) else 0) else 0
theorem rnn_all {k : Nat} : ∀ d p, p + d = n → (∀ j, p ≤ j → j < rnn T n k p → srt (T j) = k) ∧ (rnn T n k p = n ∨ ¬ srt (T (rnn T n k p)) = k) := by
  intro d
  induction d with
  | zero =>
    intro p hp
    rw [rnn_e (by omega)]
    exact ⟨fun j h1 h2 => by omega, Or.inl (by omega)⟩
  | succ d ih =>
    intro p hp
    by_cases e : srt (T p) = k
    · rw [rnn_t (by omega) e]
      obtain ⟨q1, q2⟩ := ih (p + 1) (by omega)
      refine ⟨fun j h1 h2 => ?_, q2⟩
      by_cases ej : j = p
      · rw [ej]; exact e
      · exact q1 j (by omega) h2
    · rw [rnn_f (by omega) e]
      exact ⟨fun j h1 h2 => by omega, Or.inr e⟩
theorem val_eq (h : TP us ub T n) {t i : Nat} {so sa le : Nat → Int32} (ht : t ≤ n) (hTD : TD T n t so sa le) (hend : bg T n t = n) (hi : i ≤ t) : X4_valueOf ub (upd so t 0) (upd sa t (nI n)) le (nI i) = some (cvl T n i) := by
  have h0 := h
  obtain ⟨h1, h2, h3⟩ := h
  unfold X4_valueOf cvl
  rw [if_pos (inr_lt (by omega) (by decide)), nI_clamp (by omega)]
  by_cases e : i = t
  · subst e
    rw [upd_eq, if_neg (show ¬ (0 : Int32) = 1 by decide), if_pos (inr_lt (by omega) (by decide)), if_neg (show ¬ (0 : Int32) = 2 by decide), if_neg (by omega)]
  · obtain ⟨q1, q2, q3, q4⟩ := hTD i (by omega)
    have hbe := bg_ed q1
    have hel := ed_le T n (i + 1)
    have hr := srt_r (T (bg T n i))
    have hck : ck0 T n i = srt (T (bg T n i)) := by unfold ck0; rw [if_pos q1]
    rw [upd_ne e, upd_ne e, q2, q3, q4, hck, if_pos q1]
    by_cases e1 : srt (T (bg T n i)) = 1
    · rw [if_pos (by rw [e1]; rfl), if_pos e1, if_pos (inr_lt (by omega) (by decide)), if_pos (inr_lt (by omega) (by decide)), word_eq h0 (by omega) hel]
      rfl
    · rw [if_neg (show ¬ nI (srt (T (bg T n i))) = 1 from fun z => e1 ((nI_eq (by omega) (by decide)).mp (show nI (srt (T (bg T n i))) = nI 1 from z))), if_neg e1, if_pos (inr_lt (by omega) (by decide))]
      by_cases e2 : srt (T (bg T n i)) = 2
      · have hed : ed T n (i + 1) = rnn T n 2 (bg T n i) := by
          show tend T n (bg T n i) = _
          unfold tend
          rw [if_pos q1, if_neg e1, if_pos e2]
        obtain ⟨r1, r2⟩ := rnn_all (T := T) (n := n) (k := 2) (n - bg T n i) (bg T n i) (by omega)
        have hnum := numb_eq h0 (ed T n (i + 1) - bg T n i) (bg T n i) FU 0 (ed T n (i + 1)) (bg T n i) (by omega) hel (by unfold FU; omega) (by decide) (by rw [hed]; exact r1) (by rw [hed]; exact r2) (by omega)
        have hnum : X4_numberAt ub (nI (bg T n i)) (nI (ed T n (i + 1) - bg T n i)) = some (nI (min (hnn T n (bg T n i)) 1000)) := hnum
        rw [if_pos (by rw [e2]; rfl), if_pos e2, if_pos (inr_lt (by omega) (by decide)), if_pos (inr_lt (by omega) (by decide)), hnum]
        rfl
      · rw [if_neg (show ¬ nI (srt (T (bg T n i))) = 2 from fun z => e2 ((nI_eq (by omega) (by decide)).mp (show nI (srt (T (bg T n i))) = nI 2 from z))), if_neg e2]
theorem vals_loop (h : TP us ub T n) {t : Nat} {so sa le : Nat → Int32} (ht : t ≤ n) (hTD : TD T n t so sa le) (hend : bg T n t = n) : ∀ d i m va, i + d = t + 1 → d < m → (∀ j, j < i → va j = cvl T n j) → ∃ va', X4_cut_L157 ub m (nI i) (nI t) (upd so t 0) (upd sa t (nI n)) le va = some (nI t, upd so t 0, upd sa t (nI n), le, va') ∧ ∀ j, j ≤ t → va' j = cvl T n j := by
  have h1 := h.1
  intro d
  induction d with
  | zero =>
    intro i m va hi hm hv
    obtain ⟨m, rfl⟩ : ∃ q, m = q + 1 := ⟨m - 1, by omega⟩
    refine ⟨va, ?_, fun j hj => hv j (by omega)⟩
    rw [X4_cut_L157, if_pos (nI_lt (by omega) (by omega))]
  | succ d ih =>
    intro i m va hi hm hv
    obtain ⟨m, rfl⟩ : ∃ q, m = q + 1 := ⟨m - 1, by omega⟩
    rw [X4_cut_L157, if_neg (nI_nlt (by omega) (by omega)), val_eq h ht hTD hend (by omega), Option.bind_some, if_pos (inr_lt (by omega) (by decide)), nI_clamp (by omega), nI_1]
    refine ih (i + 1) m _ (by omega) (by omega) (fun j hj => ?_)
    by_cases e : j = i
    · rw [e, upd_eq]
    · rw [upd_ne e]; exact hv j (by omega)
/-- the tape, cut -/
def CUT (T : Nat → Nat) (n t : Nat) (so sa va : Nat → Int32) : Prop := t ≤ n ∧ bg T n t = n ∧ (∀ j, j < t → bg T n j < n) ∧ ∀ j, j ≤ t → so j = nI (ck0 T n j) ∧ sa j = nI (bg T n j) ∧ va j = cvl T n j
theorem cut_eq (h : TP us ub T n) (so sa le va : Nat → Int32) : ∃ t so' sa' le' va', X4_cut us ub so sa le va = some (nI t, so', sa', le', va') ∧ CUT T n t so' sa' va' := by
  have h0 := h
  obtain ⟨h1, h2, h3⟩ := h
  obtain ⟨t, so', sa', le', g1, g2, g3, g4⟩ := cut_loop h0 va n 0 FU 0 0 so sa le (by omega) (by unfold FU; omega) (Or.inr ⟨by decide, by decide, fun j hj => absurd hj (Nat.not_lt_zero j), Nat.le_refl _, fun j h1 h2 => by omega⟩)
  obtain ⟨va', q1, q2⟩ := vals_loop h0 g2 g3 g4 (t + 1) 0 FU va (by omega) (by unfold FU; omega) (fun j hj => absurd hj (Nat.not_lt_zero j))
  refine ⟨t, upd so' t 0, upd sa' t (nI n), le', va', ?_, g2, g4, fun j hj => (g3 j hj).1, fun j hj => ⟨?_, ?_, q2 j hj⟩⟩
  · unfold X4_cut
    have g1 : X4_cut_L9 us ub va FU 0 0 0 so sa le = _ := g1
    rw [g1]
    exact q1
  · by_cases e : j = t
    · rw [e, upd_eq]
      unfold ck0
      rw [if_neg (by omega)]; rfl
    · rw [upd_ne e]; exact (g3 j (by omega)).2.1
  · by_cases e : j = t
    · rw [e, upd_eq, g4]
    · rw [upd_ne e]; exact (g3 j (by omega)).2.2.1
end
