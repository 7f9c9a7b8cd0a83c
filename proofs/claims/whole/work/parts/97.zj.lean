/-! lot -/
theorem xirem_eq {a b : Nat} (ha : a < 2 ^ 31) (hb : b < 2 ^ 31) : xirem (nI a) (nI b) = nI (a % b) := by
  unfold xirem
  have h1 := Nat.div_add_mod a b
  rw [Nat.mul_comm] at h1
  rw [nI_div ha hb, nI_mul, nI_sub (by omega), show a - a / b * b = a % b by omega]
theorem pcn_up {n m c : Nat} (h : n ≤ m) : pcn n c ≤ pcn m c := by
  induction m with
  | zero => rw [show n = 0 by omega]; exact Nat.le_refl _
  | succ m ih =>
    by_cases e : n = m + 1
    · rw [e]; exact Nat.le_refl _
    · have := ih (by omega)
      rw [pcn]
      omega
theorem pcn_t {n c : Nat} (h : c.testBit n = true) : pcn (n + 1) c = pcn n c + 1 := by rw [pcn, if_pos h]
theorem pcn_f {n c : Nat} (h : c.testBit n = false) : pcn (n + 1) c = pcn n c := by rw [pcn, h, if_neg (by decide), Nat.add_zero]
theorem mem_ex {c k : Nat} : ∀ n, k < pcn n c → ∃ b, b < n ∧ c.testBit b = true ∧ pcn b c = k := by
  intro n
  induction n with
  | zero => intro h; rw [pcn] at h; omega
  | succ n ih =>
    intro h
    by_cases h1 : k < pcn n c
    · obtain ⟨b, h2, h3⟩ := ih h1
      exact ⟨b, by omega, h3⟩
    · cases e : c.testBit n with
      | true => rw [pcn_t e] at h; exact ⟨n, by omega, e, by omega⟩
      | false => rw [pcn_f e] at h; omega
theorem member_eq {c k b : Nat} (hc : c < 512) (hb : b < 9) (h1 : c.testBit b = true) (h2 : pcn b c = k) : X5_memberOf (nI c) (nI k) = some (nI b) := by
  have hk := pcn_le b c
  have tail : ∀ d j n, j + d = 9 → d < n → X5_memberOf_L7 n (nI c) (nI k) (nI b) (nI (k + 1)) (nI j) = some (nI b) := by
    intro d
    induction d with
    | zero =>
      intro j n hj hn
      obtain ⟨n, rfl⟩ : ∃ m, n = m + 1 := ⟨n - 1, by omega⟩
      rw [X5_memberOf_L7, if_pos (show (9 : Int32) ≤ nI j from nI_le (a := 9) (by omega) (by omega))]
    | succ d ih =>
      intro j n hj hn
      obtain ⟨n, rfl⟩ : ∃ m, n = m + 1 := ⟨n - 1, by omega⟩
      have hi := ih (j + 1) n (by omega) (by omega)
      rw [X5_memberOf_L7, if_neg (show ¬ (9 : Int32) ≤ nI j from nI_ge (b := 9) (by omega) (by omega)), if_pos (show nI k < nI (k + 1) from nI_lt (by omega) (by omega)), nI_1]
      split
      · exact hi
      · exact hi
  have loop : ∀ d j n x, j + d = b → 9 - j < n → X5_memberOf_L7 n (nI c) (nI k) x (nI (pcn j c)) (nI j) = some (nI b) := by
    intro d
    induction d with
    | zero =>
      intro j n x hj hn
      obtain ⟨n, rfl⟩ : ∃ m, n = m + 1 := ⟨n - 1, by omega⟩
      have e : j = b := by omega
      subst e
      rw [X5_memberOf_L7, h2, if_neg (show ¬ (9 : Int32) ≤ nI j from nI_ge (b := 9) (by omega) (by omega)), if_neg (fun z => by rw [bit_eq (by omega) (by omega), h1] at z; cases z), if_neg (nI_nlt (Nat.le_refl k) (by omega)), nI_1, nI_1]
      exact tail (9 - (j + 1)) (j + 1) n (by omega) (by omega)
    | succ d ih =>
      intro j n x hj hn
      obtain ⟨n, rfl⟩ : ∃ m, n = m + 1 := ⟨n - 1, by omega⟩
      have hi := fun x => ih (j + 1) n x (by omega) (by omega)
      have hp := pcn_le j c
      rw [X5_memberOf_L7, if_neg (show ¬ (9 : Int32) ≤ nI j from nI_ge (b := 9) (by omega) (by omega)), nI_1, nI_1]
      cases e : c.testBit j with
      | true =>
        have hu := pcn_up (c := c) (show j + 1 ≤ b by omega)
        have hi := hi (nI j)
        rw [pcn_t e] at hu hi
        rw [if_neg (fun z => by rw [bit_eq (by omega) (by omega), e] at z; cases z), if_neg (nI_nlt (by omega) (by omega))]
        exact hi
      | false =>
        have hi := hi x
        rw [pcn_f e] at hi
        rw [if_pos ((bit_eq (by omega) (by omega)).mpr e)]
        exact hi
  have := loop b 0 FU 0 (by omega) (by unfold FU; omega)
  exact this
theorem lot_find (k11 : Int32 → Int32 → (Nat → Int32) → Option (Int32 × (Nat → Int32))) (m : Int32) (s : Nat → Int32) {c k b : Nat} (hc : c < 512) (hb : b < 9) (h1 : c.testBit b = true) (h2 : pcn b c = k) : ∀ d j n, j + d = b → d < n → X6_lot_L28 k11 n m (nI c) (nI (k - pcn j c)) (nI j) s = (Option.bind (X6_comes s (nI b)) fun r67 => if 0 ≤ r67.1 then X6_lot_L83 (fun v10 v20 m_s_0 => k11 v10 v20 m_s_0) m 1 r67.2 else X6_lot_L83 (fun v10 v20 m_s_0 => k11 v10 v20 m_s_0) m 0 r67.2) := by
  intro d
  induction d with
  | zero =>
    intro j n hj hn
    obtain ⟨n, rfl⟩ : ∃ m, n = m + 1 := ⟨n - 1, by omega⟩
    have e : j = b := by omega
    subst e
    rw [X6_lot_L28, isIn_tb (by omega) (by omega), h1, if_neg xbt, show k - pcn j c = 0 by omega, if_pos (show nI 0 ≤ (0 : Int32) by decide)]
  | succ d ih =>
    intro j n hj hn
    obtain ⟨n, rfl⟩ : ∃ m, n = m + 1 := ⟨n - 1, by omega⟩
    have hi := ih (j + 1) n (by omega) (by omega)
    have hk := pcn_le b c
    rw [X6_lot_L28, isIn_tb (by omega) (by omega)]
    unfold X6_lot_L41
    rw [isIn_tb (by omega) (by omega)]
    cases e : c.testBit j with
    | true =>
      have := pcn_up (c := c) (show j + 1 ≤ b by omega)
      rw [pcn_t e] at this hi
      rw [if_neg xbt, if_neg (nI_nle (by omega) (by omega)), if_neg xbt, show (1 : Int32) = nI 1 from rfl, nI_sub (by omega), nI_add, show k - pcn j c - 1 = k - (pcn j c + 1) by omega]
      exact hi
    | false =>
      rw [pcn_f e] at hi
      rw [if_pos xbf, if_pos xbf, Int32.sub_zero, nI_1]
      exact hi
section
variable {s s' s2 kd lo se ah ru sg no ti sp f5 f6 wb wz wn vb vz vn : Nat → Int32} {bw th cm hd ck zz : Int32} {nb nt : Nat} {K L E A R F : Nat → Nat}
theorem SP.c9 (h : SP s bw th cm hd ck zz kd lo se ah ru sg no ti sp nb nt K L E A R F) (c : Nat) : cset A c nb < 512 := Nat.lt_of_lt_of_le (cset_lt A c nb) (two_lt h.h9)
theorem lot_idle {c : Nat} (hc5 : X2_comers bw cm ah = some (nI c)) (h0 : c = 0) (m : Int32) : ∀ d i n, i + d = 9 → d < n → X5_lot_L4 bw kd lo se ah n m (nI i) th cm hd ck zz sg no ti = some (m, th, cm, hd, ck, zz, sg, no, ti) := by
  intro d
  induction d with
  | zero =>
    intro i n hi hn
    obtain ⟨n, rfl⟩ : ∃ m, n = m + 1 := ⟨n - 1, by omega⟩
    rw [X5_lot_L4, if_pos (show (9 : Int32) ≤ nI i from nI_le (a := 9) (by omega) (by omega))]
  | succ d ih =>
    intro i n hi hn
    obtain ⟨n, rfl⟩ : ∃ m, n = m + 1 := ⟨n - 1, by omega⟩
    rw [X5_lot_L4, if_neg (show ¬ (9 : Int32) ≤ nI i from nI_ge (b := 9) (by omega) (by omega)), hc5, h0, Option.bind_some, if_pos (by decide), nI_1]
    exact ih (i + 1) n (by omega) (by omega)
theorem p_lot (h : SP s bw th cm hd ck zz kd lo se ah ru sg no ti sp nb nt K L E A R F) :
    ∃ r5 r6, X5_lot bw th cm hd ck zz kd lo se ah sg no ti = some r5 ∧ X6_lot s = some r6 ∧ r5.1 = r6.1 ∧ SQ r6.2 bw r5.2.1 r5.2.2.1 r5.2.2.2.1 r5.2.2.2.2.1 r5.2.2.2.2.2.1 kd lo se ah ru r5.2.2.2.2.2.2.1 r5.2.2.2.2.2.2.2.1 r5.2.2.2.2.2.2.2.2 sp := by
  have main : ∀ d i n5 n6 m nt F s th cm hd ck zz sg no ti, i + d = 9 → nb - nt ≤ d → d < n5 → d < n6 → SP s bw th cm hd ck zz kd lo se ah ru sg no ti sp nb nt K L E A R F → ∃ w th' cm' hd' ck' zz' sg' no' ti' s', X5_lot_L4 bw kd lo se ah n5 m (nI i) th cm hd ck zz sg no ti = some (w, th', cm', hd', ck', zz', sg', no', ti') ∧ X6_lot_L11 n6 m (nI (cset A (stg F nt) nb)) s = some (w, s') ∧ SQ s' bw th' cm' hd' ck' zz' kd lo se ah ru sg' no' ti' sp := by
    intro d
    induction d with
    | zero =>
      intro i n5 n6 m nt F s th cm hd ck zz sg no ti hi hd' h5 h6 h
      obtain ⟨c1, c2⟩ := h.comers h.c512
      rw [← h.cm_] at c1
      have ht := h.ht
      have z : cset A (stg F nt) nb = 0 := by
        apply Nat.eq_of_testBit_eq
        intro b
        rw [cset_tb, Nat.zero_testBit]
        by_cases hb : b < nb
        · have := pcn_full (n := nb) (x := stg F nt) (by rw [h.pc]; omega) b hb
          rw [decide_eq_true hb]
          unfold canF
          rw [this]
          rfl
        · rw [decide_eq_false hb]; rfl
      obtain ⟨n, rfl⟩ : ∃ m, n6 = m + 1 := ⟨n6 - 1, by omega⟩
      rw [lot_idle c1 z m 0 i n5 hi h5, X6_lot_L11, z, if_pos (show nI 0 = (0 : Int32) from rfl)]
      exact ⟨_, _, _, _, _, _, _, _, _, _, rfl, rfl, h.sq⟩
    | succ d ih =>
      intro i n5 n6 m nt F s th cm hd ck zz sg no ti hi hd' h5 h6 h
      obtain ⟨c1, c2⟩ := h.comers h.c512
      rw [← h.cm_] at c1
      have h9 := h.h9
      by_cases z : cset A (stg F nt) nb = 0
      · obtain ⟨n, rfl⟩ : ∃ m, n6 = m + 1 := ⟨n6 - 1, by omega⟩
        rw [lot_idle c1 z m (d + 1) i n5 hi h5, X6_lot_L11, z, if_pos (show nI 0 = (0 : Int32) from rfl)]
        exact ⟨_, _, _, _, _, _, _, _, _, _, rfl, rfl, h.sq⟩
      · have hc := h.c9 (stg F nt)
        have hpos : 0 < pcn 9 (cset A (stg F nt) nb) := by
          rcases Nat.eq_zero_or_pos (pcn 9 (cset A (stg F nt) nb)) with e | e
          · exfalso
            apply z
            apply Nat.eq_of_testBit_eq
            intro b
            rw [Nat.zero_testBit]
            cases hb : (cset A (stg F nt) nb).testBit b with
            | false => rfl
            | true =>
              have hb9 : b < 9 := by
                rcases Nat.lt_or_ge b 9 with h1 | h1
                · exact h1
                · rw [testBit_lt (nb := 9) (k := cset A (stg F nt) nb) hc h1] at hb
                  cases hb
              have := pcn_up (c := cset A (stg F nt) nb) (show b + 1 ≤ 9 by omega)
              rw [pcn_t hb] at this
              omega
          · exact e
        have hp9 := pcn_le 9 (cset A (stg F nt) nb)
        obtain ⟨zn, q, hq, d1, d2⟩ := draw_eq (s := s) (zz := zz) h.1.2.2.2.2.2.2.2.2.2.symm
        obtain ⟨b, hb9, hb1, hb2⟩ := mem_ex (c := cset A (stg F nt) nb) 9 (Nat.mod_lt q hpos)
        have hbn : b < nb ∧ canF A b (stg F nt) = true := by
          rw [cset_tb, Bool.and_eq_true] at hb1
          exact ⟨of_decide_eq_true hb1.1, hb1.2⟩
        have h' := h.setZ zn
        obtain ⟨x, y, s', hx, e1, e2, e3⟩ := h'.come hbn.1 (canF_iff.mp hbn.2).1
        obtain ⟨k1, k2⟩ := e3.comers e3.c512
        obtain ⟨n5, rfl⟩ : ∃ m, n5 = m + 1 := ⟨n5 - 1, by omega⟩
        obtain ⟨n6, rfl⟩ : ∃ m, n6 = m + 1 := ⟨n6 - 1, by omega⟩
        have lf := lot_find (fun v10 v20 m_s_0 => X6_lot_L11 n6 v10 v20 m_s_0) m (upd s 4 zn) hc hb9 hb1 hb2 b 0 FU (by omega) (by unfold FU; omega)
        rw [pcn, Nat.sub_zero, show nI 0 = (0 : Int32) from rfl, e2, Option.bind_some, if_pos (nI_pos' (by omega))] at lf
        unfold X6_lot_L83 at lf
        rw [e3.stage, Option.bind_some, k2, Option.bind_some] at lf
        rw [X5_lot_L4, if_neg (show ¬ (9 : Int32) ≤ nI i from nI_ge (b := 9) (by omega) (by omega)), c1, Option.bind_some, bc_eq hc, if_neg (nI_nle hpos (by omega)), d1, Option.bind_some, if_neg (nI_ne0 hpos (by omega)), xirem_eq (by omega) (by omega), member_eq hc hb9 hb1 hb2, Option.bind_some, e1, Option.bind_some]
        rw [X6_lot_L11, if_neg (fun w => z ((nI_z (by omega)).mp w)), d2, Option.bind_some, bits_eq hc, Option.bind_some, if_neg (nI_ne0 hpos (by omega)), xirem_eq (by omega) (by omega), lf, nI_1]
        exact ih (i + 1) n5 n6 (m + 1) (nt + 1) _ s' _ _ _ _ _ _ _ _ (by omega) (by omega) (by omega) (by omega) e3
  obtain ⟨c1, c2⟩ := h.comers h.c512
  have h9 := h.h9
  obtain ⟨w, th', cm', hd', ck', zz', sg', no', ti', s', g1, g2, g3⟩ := main 9 0 FU FU 0 nt F s th cm hd ck zz sg no ti (by omega) (by omega) (by unfold FU; omega) (by unfold FU; omega) h
  unfold X5_lot X6_lot
  rw [h.stage, Option.bind_some, c2, Option.bind_some]
  exact ⟨_, _, g1, g2, rfl, g3⟩
end
