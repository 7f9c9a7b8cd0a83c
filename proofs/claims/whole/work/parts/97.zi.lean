/-! images, the tape's bytes, evenings -/
theorem cpy9 (f g : Nat → Int32) {j : Nat} (h : j < 9) : va_cpy f g (Int32.toNatClampNeg 0) (Int32.toNatClampNeg 0) (Int32.toNatClampNeg 9) j = f j := by
  rw [show Int32.toNatClampNeg 0 = 0 from rfl, show Int32.toNatClampNeg 9 = 9 from rfl, sb_cpy0 h]
theorem cpy5 (f g : Nat → Int32) {j : Nat} (h : j < 5) : va_cpy f g (Int32.toNatClampNeg 0) (Int32.toNatClampNeg 0) (Int32.toNatClampNeg 5) j = f j := by
  rw [show Int32.toNatClampNeg 0 = 0 from rfl, show Int32.toNatClampNeg 5 = 5 from rfl, sb_cpy0 h]
theorem cpy10 (f g : Nat → Int32) {j : Nat} (h : j < 10) : va_cpy f g (Int32.toNatClampNeg 0) (Int32.toNatClampNeg 0) (Int32.toNatClampNeg 10) j = f j := by
  rw [show Int32.toNatClampNeg 0 = 0 from rfl, show Int32.toNatClampNeg 10 = 10 from rfl, sb_cpy0 h]
theorem SP.cg {s s' kd lo se ah ru sg no ti sp kd' lo' se' ah' ru' sg' no' ti' sp' : Nat → Int32} {bw th cm hd ck zz : Int32} {nb nt : Nat} {K L E A R F : Nat → Nat} (h : SP s bw th cm hd ck zz kd lo se ah ru sg no ti sp nb nt K L E A R F) (gs : ∀ j, j < 83 → s' j = s j) (gk : ∀ j, j < 9 → kd' j = kd j) (gl : ∀ j, j < 9 → lo' j = lo j) (ge : ∀ j, j < 9 → se' j = se j) (ga : ∀ j, j < 9 → ah' j = ah j) (gr : ∀ j, j < 5 → ru' j = ru j) (gg : ∀ j, j < 9 → sg' j = sg j) (gn : ∀ j, j < 9 → no' j = no j) (gt : ∀ j, j < 9 → ti' j = ti j) (gp : ∀ j, j < 10 → sp' j = sp j) :
    SP s' bw th cm hd ck zz kd' lo' se' ah' ru' sg' no' ti' sp' nb nt K L E A R F := by
  have h9 := h.h9
  have ht := h.ht
  obtain ⟨hH, hB, hU, hT, hS⟩ := h
  refine ⟨scH_cg hH (fun j hj => gs j (by omega)), fun b hb => ?_, fun k hk => ?_, ⟨fun i hi => ?_, hT.2⟩, fun k hk => ?_⟩
  · rw [gs _ (by omega), gs _ (by omega), gs _ (by omega), gs _ (by omega), gk b (by omega), gl b (by omega), ge b (by omega), ga b (by omega)]
    exact hB b hb
  · rw [gs _ (by omega), gr k hk]
    exact hU k hk
  · rw [gs _ (by omega), gs _ (by omega), gs _ (by omega), gg i (by omega), gn i (by omega), gt i (by omega)]
    exact hT.1 i hi
  · rw [gs _ (by omega), gp k hk]
    exact hS k hk
section
variable {s s' s2 kd lo se ah ru sg no ti sp f5 f6 kkd klo kse kah kru ksg kno kti ksp tb ub : Nat → Int32} {bw th cm hd ck zz ik jk kbw kth kcm khd kck kzz ts us : Int32} {nb nt : Nat} {K L E A R F : Nat → Nat}
theorem image_loop (s : Nat → Int32) : ∀ d i n kp, i + d = 83 → d < n → (∀ j, j < i → kp j = s j) → ∃ kp', X6_image_L2 s n (nI i) kp = some (1, 1, kp') ∧ ∀ j, j < 83 → kp' j = s j := by
  intro d
  induction d with
  | zero =>
    intro i n kp hi hn hk
    obtain ⟨n, rfl⟩ : ∃ m, n = m + 1 := ⟨n - 1, by omega⟩
    rw [X6_image_L2, if_pos (show (83 : Int32) ≤ nI i from nI_le (a := 83) (by omega) (by omega))]
    exact ⟨_, rfl, fun j hj => hk j (by omega)⟩
  | succ d ih =>
    intro i n kp hi hn hk
    obtain ⟨n, rfl⟩ : ∃ m, n = m + 1 := ⟨n - 1, by omega⟩
    rw [X6_image_L2, if_neg (show ¬ (83 : Int32) ≤ nI i from nI_ge (b := 83) (by omega) (by omega)), if_pos (inr_lt (by omega) (by decide)), if_pos (inr_lt (by omega) (by decide)), nI_clamp (by omega), nI_1]
    refine ih (i + 1) n _ (by omega) (by omega) (fun j hj => ?_)
    by_cases e : j = i
    · rw [e, upd_eq]
    · rw [upd_ne e, hk j (by omega)]
theorem undo_loop (s2 f6 : Nat → Int32) : ∀ d i n kp, i + d = 83 → d < n → (∀ j, j < i → kp j = s2 j) → ∃ kp', X6_undo_L15 s2 f6 n (nI i) kp = some (kp' 2, kp', f6) ∧ ∀ j, j < 83 → kp' j = s2 j := by
  intro d
  induction d with
  | zero =>
    intro i n kp hi hn hk
    obtain ⟨n, rfl⟩ : ∃ m, n = m + 1 := ⟨n - 1, by omega⟩
    rw [X6_undo_L15, if_pos (show (83 : Int32) ≤ nI i from nI_le (a := 83) (by omega) (by omega))]
    exact ⟨_, rfl, fun j hj => hk j (by omega)⟩
  | succ d ih =>
    intro i n kp hi hn hk
    obtain ⟨n, rfl⟩ : ∃ m, n = m + 1 := ⟨n - 1, by omega⟩
    rw [X6_undo_L15, if_neg (show ¬ (83 : Int32) ≤ nI i from nI_ge (b := 83) (by omega) (by omega)), if_pos (inr_lt (by omega) (by decide)), if_pos (inr_lt (by omega) (by decide)), nI_clamp (by omega), nI_1]
    refine ih (i + 1) n _ (by omega) (by omega) (fun j hj => ?_)
    by_cases e : j = i
    · rw [e, upd_eq]
    · rw [upd_ne e, hk j (by omega)]
theorem p_image (h : SP s bw th cm hd ck zz kd lo se ah ru sg no ti sp nb nt K L E A R F) (hk : KR ik jk s2 kbw kth kcm khd kck kzz kkd klo kse kah kru ksg kno kti ksp) :
    ∃ r5 r6, X5_image bw th cm hd ck zz kd lo se ah ru sg no ti sp kkd klo kse kah kru ksg kno kti ksp = some r5 ∧ X6_image s s2 = some r6 ∧ r5.1 = r6.1 ∧ KR r5.2.1 r6.2.1 r6.2.2 r5.2.2.1 r5.2.2.2.1 r5.2.2.2.2.1 r5.2.2.2.2.2.1 r5.2.2.2.2.2.2.1 r5.2.2.2.2.2.2.2.1 r5.2.2.2.2.2.2.2.2.1 r5.2.2.2.2.2.2.2.2.2.1 r5.2.2.2.2.2.2.2.2.2.2.1 r5.2.2.2.2.2.2.2.2.2.2.2.1 r5.2.2.2.2.2.2.2.2.2.2.2.2.1 r5.2.2.2.2.2.2.2.2.2.2.2.2.2.1 r5.2.2.2.2.2.2.2.2.2.2.2.2.2.2.1 r5.2.2.2.2.2.2.2.2.2.2.2.2.2.2.2.1 r5.2.2.2.2.2.2.2.2.2.2.2.2.2.2.2.2 := by
  obtain ⟨kp, g1, g2⟩ := image_loop s 83 0 FU s2 (by omega) (by unfold FU; omega) (fun j hj => absurd hj (Nat.not_lt_zero j))
  unfold X5_image X2_become_kp_sc
  rw [Option.bind_some]
  exact ⟨_, _, rfl, g1, rfl, rfl, Or.inr ⟨rfl, (h.cg g2 (fun j hj => cpy9 _ _ hj) (fun j hj => cpy9 _ _ hj) (fun j hj => cpy9 _ _ hj) (fun j hj => cpy9 _ _ hj) (fun j hj => cpy5 _ _ hj) (fun j hj => cpy9 _ _ hj) (fun j hj => cpy9 _ _ hj) (fun j hj => cpy9 _ _ hj) (fun j hj => cpy10 _ _ hj)).sq⟩⟩
theorem p_undo (h : SP s bw th cm hd ck zz kd lo se ah ru sg no ti sp nb nt K L E A R F) (hf : FR f5 f6) (hk : KR ik jk s2 kbw kth kcm khd kck kzz kkd klo kse kah kru ksg kno kti ksp) :
    ∃ r5 r6, X5_undo ik f5 bw th cm hd ck zz kd lo se ah ru sg no ti sp kbw kth kcm khd kck kzz kkd klo kse kah kru ksg kno kti ksp = some r5 ∧ X6_undo jk s s2 f6 = some r6 ∧ r5.1 = r6.1 ∧ SQ r6.2.1 r5.2.2.1 r5.2.2.2.1 r5.2.2.2.2.1 r5.2.2.2.2.2.1 r5.2.2.2.2.2.2.1 r5.2.2.2.2.2.2.2.1 r5.2.2.2.2.2.2.2.2.1 r5.2.2.2.2.2.2.2.2.2.1 r5.2.2.2.2.2.2.2.2.2.2.1 r5.2.2.2.2.2.2.2.2.2.2.2.1 r5.2.2.2.2.2.2.2.2.2.2.2.2.1 r5.2.2.2.2.2.2.2.2.2.2.2.2.2.1 r5.2.2.2.2.2.2.2.2.2.2.2.2.2.2.1 r5.2.2.2.2.2.2.2.2.2.2.2.2.2.2.2.1 r5.2.2.2.2.2.2.2.2.2.2.2.2.2.2.2.2 ∧ FR r5.2.1 r6.2.2 := by
  obtain ⟨rfl, hk2⟩ := hk
  unfold X5_undo X6_undo X2_become_sc_kp
  simp only [f5_3, f6_3, Option.bind_some]
  rcases hk2 with rfl | ⟨rfl, nb2, nt2, K2, L2, E2, A2, R2, F2, h2⟩
  · rw [if_pos rfl, if_pos rfl]
    exact ⟨_, _, rfl, rfl, rfl, h.sq, hf.up 3 (by decide)⟩
  · obtain ⟨kp, g1, g2⟩ := undo_loop s2 f6 83 0 FU s (by omega) (by unfold FU; omega) (fun j hj => absurd hj (Nat.not_lt_zero j))
    rw [show nI 0 = (0 : Int32) from rfl] at g1
    rw [if_neg (by decide), if_neg (by decide), g1]
    refine ⟨_, _, rfl, rfl, ?_, (h2.cg g2 (fun j hj => cpy9 _ _ hj) (fun j hj => cpy9 _ _ hj) (fun j hj => cpy9 _ _ hj) (fun j hj => cpy9 _ _ hj) (fun j hj => cpy5 _ _ hj) (fun j hj => cpy9 _ _ hj) (fun j hj => cpy9 _ _ hj) (fun j hj => cpy9 _ _ hj) (fun j hj => cpy10 _ _ hj)).sq, hf⟩
    show kth = kp 2
    rw [g2 2 (by decide), h2.th_, h2.b2]
theorem p_tear (hk : KR ik jk s2 kbw kth kcm khd kck kzz kkd klo kse kah kru ksg kno kti ksp) :
    ∃ r5 r6, X5_tear ik = some r5 ∧ X6_tear jk = some r6 ∧ r5.1 = r6.1 ∧ KR r5.2 r6.2 s2 kbw kth kcm khd kck kzz kkd klo kse kah kru ksg kno kti ksp := by
  obtain ⟨rfl, hk2⟩ := hk
  unfold X5_tear X6_tear
  by_cases e : ik = 0
  · simp only [if_pos e]
    exact ⟨_, _, rfl, rfl, rfl, rfl, Or.inl rfl⟩
  · simp only [if_neg e]
    exact ⟨_, _, rfl, rfl, rfl, rfl, Or.inl rfl⟩
theorem p_wipe (ht : TR ts us tb ub) :
    ∃ r5 r6, X5_wipe ts = some r5 ∧ X6_wipe us = some r6 ∧ r5.1 = r6.1 ∧ TR r5.2 r6.2 tb ub := by
  obtain ⟨n, h1, h2, h3, h4⟩ := ht
  exact ⟨_, _, rfl, rfl, h2.trans h3.symm, 0, by decide, rfl, rfl, fun i hi => absurd hi (Nat.not_lt_zero i)⟩
def bt (x : Int32) (i : Nat) : Bool := x.toBitVec.getLsbD i
theorem b_ext {x y : Int32} (h : ∀ i, i < 32 → bt x i = bt y i) : x = y := Int32.toBitVec_inj.mp (BitVec.eq_of_getLsbD_eq (fun i hi => h i hi))
theorem b_and (x y : Int32) (i : Nat) : bt (x &&& y) i = (bt x i && bt y i) := by unfold bt; rw [Int32.toBitVec_and, BitVec.getLsbD_and]
theorem b_255 : ∀ i, i < 32 → bt 255 i = decide (i < 8) := by decide +kernel
theorem s_u : ∀ n, n < 32 → (((nI n).toUInt32 &&& Int32.toUInt32 31).toBitVec % 32).toNat = n := by decide +kernel
theorem b_ushr (n : Nat) (hn : n < 32) (x : Int32) (i : Nat) : bt (xush x (nI n)) i = bt x (n + i) := by
  show (x.toUInt32 >>> ((nI n).toUInt32 &&& Int32.toUInt32 31)).toBitVec.getLsbD i = x.toUInt32.toBitVec.getLsbD (n + i)
  rw [UInt32.toBitVec_shiftRight]
  show (x.toUInt32.toBitVec >>> (((nI n).toUInt32 &&& Int32.toUInt32 31).toBitVec % 32).toNat).getLsbD i = _
  rw [s_u n hn, BitVec.getLsbD_ushiftRight]
theorem b_sshr (n : Nat) (hn : n < 32) (x : Int32) {i : Nat} (hi : i < 32) : bt (xshr x (nI n)) i = if n + i < 32 then bt x (n + i) else bt x 31 := by
  unfold bt xshr
  rw [Int32.toBitVec_shiftRight]
  show (x.toBitVec.sshiftRight ((nI n &&& 31).toBitVec.smod 32).toNat).getLsbD i = _
  rw [smod31 n hn, BitVec.getLsbD_sshiftRight, BitVec.msb_eq_getLsbD_last]
  simp [hi]
theorem shl_bt (n : Nat) (hn : n < 32) (x : Int32) {i : Nat} (hi : i < 32) : bt (xshl x (nI n)) i = (decide (n ≤ i) && bt x (i - n)) := by
  unfold bt xshl
  rw [Int32.toBitVec_shiftLeft]
  show (x.toBitVec <<< ((nI n &&& 31).toBitVec.smod 32).toNat).getLsbD i = _
  rw [smod31 n hn, BitVec.getLsbD_shiftLeft]
  rcases Nat.lt_or_ge i n with h | h
  · simp [h, Nat.not_le.mpr h]
  · simp [hi, h, Nat.not_lt.mpr h]
theorem byte_eq (x : Int32) (n : Nat) (hn : n ≤ 24) : xush x (nI n) &&& 255 = xshr x (nI n) &&& 255 := by
  apply b_ext
  intro i hi
  rw [b_and, b_and, b_255 i hi]
  by_cases h : i < 8
  · rw [b_ushr n (by omega), b_sshr n (by omega) x hi, if_pos (by omega)]
  · rw [decide_eq_false h, Bool.and_false, Bool.and_false]
theorem byte_is (x : Int32) : ∃ k, k < 256 ∧ x &&& 255 = nI k := by
  obtain ⟨j, hj, e⟩ := pk_andE x (m := 255) 8 (by decide)
  exact ⟨j, hj, e⟩
theorem feed_loop (v1 : Int32) (f6 : Nat → Int32) : ∀ k, k ≤ 4 → ∀ n t tb ub, k < n → t + k ≤ 120 → (∀ i, i < t → tb i = ub i ∧ ∃ q, q < 256 ∧ ub i = nI q) → ∃ tb' ub', X4_append_L4 n v1 (nI k - 1) (nI t) tb = some (nI (t + k), nI (t + k), tb') ∧ X6_feed_L36 f6 n v1 (nI k - 1) (nI t) ub = some (nI (t + k), nI (t + k), f6, ub') ∧ ∀ i, i < t + k → tb' i = ub' i ∧ ∃ q, q < 256 ∧ ub' i = nI q := by
  intro k
  induction k with
  | zero =>
    intro _ n t tb ub hn ht hb
    obtain ⟨n, rfl⟩ : ∃ m, n = m + 1 := ⟨n - 1, by omega⟩
    rw [X4_append_L4, X6_feed_L36, if_pos (show nI 0 - 1 < (0 : Int32) by decide), if_pos (show nI 0 - 1 < (0 : Int32) by decide)]
    exact ⟨_, _, rfl, rfl, hb⟩
  | succ k ih =>
    intro hk n t tb ub hn ht hb
    obtain ⟨n, rfl⟩ : ∃ m, n = m + 1 := ⟨n - 1, by omega⟩
    rw [X4_append_L4, X6_feed_L36, nI_pred, if_neg (nI_pos (by omega)), if_neg (nI_pos (by omega)), if_pos (inr_lt (by omega) (by decide)), if_pos (inr_lt (by omega) (by decide)), nI_clamp (by omega), nI_1, ← Int32.sub_eq_add_neg, show (8 : Int32) * nI k = nI (8 * k) from nI_mul 8 k, byte_eq v1 (8 * k) (by omega), show t + (k + 1) = t + 1 + k by omega]
    refine ih (by omega) n (t + 1) _ _ (by omega) (by omega) (fun i hi => ?_)
    by_cases e : i = t
    · rw [e, upd_eq, upd_eq]
      exact ⟨rfl, byte_is _⟩
    · rw [upd_ne e, upd_ne e]
      exact hb i (by omega)
theorem p_feed (hf : FR f5 f6) (ht : TR ts us tb ub) (v1 v2 : Int32) :
    ∃ r5 r6, X5_feed f5 ts tb v1 v2 = some r5 ∧ X6_feed us f6 ub v1 v2 = some r6 ∧ r5.1 = r6.1 ∧ FR r5.2.1 r6.2.2.1 ∧ TR r5.2.2.1 r6.2.1 r5.2.2.2 r6.2.2.2 := by
  have ht0 := ht
  obtain ⟨t, t1, t2, t3, t4⟩ := ht
  unfold X5_feed X6_feed X4_hasRoom X4_append
  simp only [f5_0, f6_0, f5_1, f6_1, Option.bind_some, isIn_eq]
  cases hi : X5_isIn v2 1 4 with
  | false =>
    simp only [if_pos xbf]
    exact ⟨_, _, rfl, rfl, rfl, hf.up 0 (by decide), ht0⟩
  | true =>
    obtain ⟨k, hk1, hk, rfl⟩ := isIn_1 (n := 4) (by decide) hi
    simp only [if_neg xbt, t2, t3, nI_add]
    by_cases hr : t + k ≤ 120
    · obtain ⟨tb', ub', g1, g2, g3⟩ := feed_loop v1 f6 k hk FU t tb ub (by unfold FU; omega) hr t4
      rw [if_neg (show ¬ (120 : Int32) < nI (t + k) from nI_nlt (a := 120) hr (by omega)), if_neg xbt, g1, Option.bind_some, if_pos (show nI (t + k) ≤ (120 : Int32) from nI_le (b := 120) hr (by omega)), g2]
      exact ⟨_, _, rfl, rfl, rfl, hf, t + k, hr, rfl, rfl, g3⟩
    · rw [if_pos (show (120 : Int32) < nI (t + k) from nI_lt (a := 120) (by omega) (by omega)), if_pos xbf, if_neg (show ¬ nI (t + k) ≤ (120 : Int32) from nI_ge (a := 120) (by omega) (by omega))]
      exact ⟨_, _, rfl, rfl, rfl, hf.up 1 (by decide), t, t1, rfl, rfl, t4⟩
theorem toBV (x : Int32) : x = nI x.toBitVec.toNat := by
  apply Int32.toBitVec_inj.mp
  show x.toBitVec = BitVec.ofNat 32 x.toBitVec.toNat
  rw [BitVec.ofNat_toNat, BitVec.setWidth_eq]
theorem ush8 (x : Int32) : ∃ q, q < 2 ^ 24 ∧ xush x 8 = nI q := by
  refine ⟨(xush x 8).toBitVec.toNat, ?_, toBV _⟩
  have := pk_ushr x 8 8 (by decide)
  have h1 : x.toBitVec.toNat < 2 ^ 32 := x.toBitVec.isLt
  unfold xush
  rw [this]
  omega
theorem draw_eq (hz : s 4 = zz) : ∃ zn q, q < 2 ^ 24 ∧ X2_draw zz = some (nI q, zn) ∧ X6_draw s = some (nI q, upd s 4 zn) := by
  unfold X2_draw X6_draw
  rw [hz, upd_eq]
  generalize zz * 1103515245 + 12345 = zn
  obtain ⟨q, h1, h2⟩ := ush8 zn
  exact ⟨zn, q, h1, by rw [h2], by rw [h2]⟩
theorem p_evening (h : SP s bw th cm hd ck zz kd lo se ah ru sg no ti sp nb nt K L E A R F) (hf : FR f5 f6) (v1 : Int32) :
    ∃ r5 r6, X5_evening f5 zz ru v1 = some r5 ∧ X6_evening s f6 v1 = some r6 ∧ r5.1 = r6.1 ∧ SQ r6.2.1 bw th cm hd ck r5.2.2 kd lo se ah ru sg no ti sp ∧ FR r5.2.1 r6.2.2 := by
  have loop : ∀ d m c n won zz s, c + d = m → d + 1 < n → m ≤ 8 → SP s bw th cm hd ck zz kd lo se ah ru sg no ti sp nb nt K L E A R F → ∃ w z' s', X5_evening_L20 f5 ru n (nI m) won (nI c) zz = some (w, f5, z') ∧ X6_evening_L23 f6 n (nI m) won 1 (nI c) s = some (w, s', f6) ∧ SP s' bw th cm hd ck z' kd lo se ah ru sg no ti sp nb nt K L E A R F := by
    intro d
    induction d with
    | zero =>
      intro m c n won zz s hc hn hm h
      obtain ⟨n, rfl⟩ : ∃ m, n = m + 1 := ⟨n - 1, by omega⟩
      rw [X5_evening_L20, X6_evening_L23, if_pos (nI_le (by omega) (by omega)), if_pos (nI_le (by omega) (by omega))]
      exact ⟨_, _, _, rfl, rfl, h⟩
    | succ d ih =>
      intro m c n won zz s hc hn hm h
      obtain ⟨n, rfl⟩ : ∃ m, n = m + 1 := ⟨n - 1, by omega⟩
      have hz : s 4 = zz := h.1.2.2.2.2.2.2.2.2.2.symm
      obtain ⟨zn, q, -, d1, d2⟩ := draw_eq hz
      have u : ∀ k, k < 5 → upd s 4 zn (5 + k) = ru k := fun k hk => by
        obtain ⟨u1, u2, -⟩ := h.2.2.1 k hk
        rw [upd_ne (by omega), u1, u2]
      have u0 : upd s 4 zn 5 = ru 0 := u 0 (by decide)
      have u1 : upd s 4 zn 6 = ru 1 := u 1 (by decide)
      have u2 : upd s 4 zn 7 = ru 2 := u 2 (by decide)
      have u3 : upd s 4 zn 8 = ru 3 := u 3 (by decide)
      have h' := h.setZ zn
      rw [X5_evening_L20, X6_evening_L23, if_neg (nI_ge (by omega) (by omega)), if_neg (nI_ge (by omega) (by omega)), if_neg (by decide)]
      unfold X6_evening_L58 X5_gainAt
      simp only [Option.bind_some, d1, d2, u0, u1, u2, u3, nI_1]
      by_cases hle : ru 1 * nI c ≤ xirem (nI q) 10
      · rw [if_pos hle, if_neg (Int32.not_lt.mpr hle), if_neg (show ¬ (1 : Int32) = 0 by decide)]
        exact ih m (c + 1) n _ _ _ (by omega) (by omega) hm h'
      · rw [if_neg hle, if_pos (Int32.not_le.mp hle), if_pos trivial, ← Int32.sub_eq_add_neg]
        obtain ⟨n, rfl⟩ : ∃ m, n = m + 1 := ⟨n - 1, by omega⟩
        rw [X6_evening_L23]
        by_cases hm2 : nI m ≤ nI (c + 1)
        · rw [if_pos hm2]
          exact ⟨_, _, _, rfl, rfl, h'⟩
        · rw [if_neg hm2, if_pos rfl]
          exact ⟨_, _, _, rfl, rfl, h'⟩
  unfold X5_evening X6_evening
  simp only [f5_0, f6_0, Option.bind_some, isIn_eq]
  cases hi : X5_isIn v1 1 8 with
  | false =>
    simp only [if_pos xbf]
    exact ⟨_, _, rfl, rfl, rfl, h.sq, hf.up 0 (by decide)⟩
  | true =>
    obtain ⟨m, hm1, hm, rfl⟩ := isIn_1 (n := 8) (by decide) hi
    simp only [if_neg xbt]
    obtain ⟨w, z', s', g1, g2, g3⟩ := loop m m 0 FU 0 zz s (by omega) (by unfold FU; omega) hm h
    exact ⟨_, _, g1, g2, rfl, g3.sq, hf⟩
end
