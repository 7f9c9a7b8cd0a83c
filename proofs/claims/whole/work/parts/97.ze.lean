/-! helpers of the commands' theorems -/
theorem f5_0 (f : Nat → Int32) : X5_finding f 0 = some (-1000001 - nI 0, upd f 0 (f 0 + 1)) := fnd5 f 0 (by decide)
theorem f5_1 (f : Nat → Int32) : X5_finding f 1 = some (-1000001 - nI 1, upd f 1 (f 1 + 1)) := fnd5 f 1 (by decide)
theorem f5_2 (f : Nat → Int32) : X5_finding f 2 = some (-1000001 - nI 2, upd f 2 (f 2 + 1)) := fnd5 f 2 (by decide)
theorem f5_3 (f : Nat → Int32) : X5_finding f 3 = some (-1000001 - nI 3, upd f 3 (f 3 + 1)) := fnd5 f 3 (by decide)
theorem f5_4 (f : Nat → Int32) : X5_finding f 4 = some (-1000001 - nI 4, upd f 4 (f 4 + 1)) := fnd5 f 4 (by decide)
theorem f5_5 (f : Nat → Int32) : X5_finding f 5 = some (-1000001 - nI 5, upd f 5 (f 5 + 1)) := fnd5 f 5 (by decide)
theorem f5_6 (f : Nat → Int32) : X5_finding f 6 = some (-1000001 - nI 6, upd f 6 (f 6 + 1)) := fnd5 f 6 (by decide)
theorem f6_0 (f : Nat → Int32) : X6_no f 0 = some (-1000001 - nI 0, upd f 0 (f 0 + 1)) := fnd6 f 0 (by decide)
theorem f6_1 (f : Nat → Int32) : X6_no f 1 = some (-1000001 - nI 1, upd f 1 (f 1 + 1)) := fnd6 f 1 (by decide)
theorem f6_2 (f : Nat → Int32) : X6_no f 2 = some (-1000001 - nI 2, upd f 2 (f 2 + 1)) := fnd6 f 2 (by decide)
theorem f6_3 (f : Nat → Int32) : X6_no f 3 = some (-1000001 - nI 3, upd f 3 (f 3 + 1)) := fnd6 f 3 (by decide)
theorem f6_4 (f : Nat → Int32) : X6_no f 4 = some (-1000001 - nI 4, upd f 4 (f 4 + 1)) := fnd6 f 4 (by decide)
theorem f6_5 (f : Nat → Int32) : X6_no f 5 = some (-1000001 - nI 5, upd f 5 (f 5 + 1)) := fnd6 f 5 (by decide)
theorem f6_6 (f : Nat → Int32) : X6_no f 6 = some (-1000001 - nI 6, upd f 6 (f 6 + 1)) := fnd6 f 6 (by decide)
theorem xbf : xb false = 0 := rfl
theorem xbt : ¬ xb true = 0 := by decide
theorem isIn_f {n : Nat} (h : n < 2 ^ 31) {a : Int32} (ha : X5_isIn a 0 (nI n) = false) : ∀ k, k ≤ n → ¬ a = nI k := by
  rintro k hk rfl
  unfold X5_isIn at ha
  rw [if_neg (nI_pos (by omega)), if_neg (nI_nlt hk h)] at ha
  cases ha
theorem isIn_k {n k : Nat} (h : n < 2 ^ 31) (hk : k ≤ n) : X5_isIn (nI k) 0 (nI n) = true := by
  unfold X5_isIn
  rw [if_neg (nI_pos (by omega)), if_neg (nI_nlt hk h)]
theorem isIn_1 {n : Nat} (h : n < 2 ^ 31) {a : Int32} (ha : X5_isIn a 1 (nI n) = true) : ∃ j, 1 ≤ j ∧ j ≤ n ∧ a = nI j := by
  unfold X5_isIn at ha
  by_cases h1 : a < 1
  · rw [if_pos h1] at ha; cases ha
  · rw [if_neg h1] at ha
    by_cases h2 : nI n < a
    · rw [if_pos h2] at ha; cases ha
    · have z0 : (0 : Int32).toInt = 0 := by decide
      have z1 : (1 : Int32).toInt = 1 := by decide
      have h0 : ¬ a < 0 := fun z => h1 (by rw [ltI] at z ⊢; omega)
      obtain ⟨j, hj, rfl⟩ := nI_of2 (nI_toInt h) h0 (Int32.not_lt.mp h2)
      refine ⟨j, ?_, hj, rfl⟩
      rcases j with _ | j
      · exact absurd (show nI 0 < 1 by decide) h1
      · omega
theorem pu0 (s : Nat → Int32) {j : Nat} (hj : j < 9) (v : Int32) : X6_puts s (nI j) 0 v = some (upd s (10 + 4 * j) v) := m_puts s j 0 v hj (by decide)
theorem pu1 (s : Nat → Int32) {j : Nat} (hj : j < 9) (v : Int32) : X6_puts s (nI j) 1 v = some (upd s (11 + 4 * j) v) := by
  rw [show (1 : Int32) = nI 1 from rfl, m_puts s j 1 v hj (by decide), show 10 + 4 * j + 1 = 11 + 4 * j by omega]
theorem pu2 (s : Nat → Int32) {j : Nat} (hj : j < 9) (v : Int32) : X6_puts s (nI j) 2 v = some (upd s (12 + 4 * j) v) := by
  rw [show (2 : Int32) = nI 2 from rfl, m_puts s j 2 v hj (by decide), show 10 + 4 * j + 2 = 12 + 4 * j by omega]
theorem pu3 (s : Nat → Int32) {j : Nat} (hj : j < 9) (v : Int32) : X6_puts s (nI j) 3 v = some (upd s (13 + 4 * j) v) := by
  rw [show (3 : Int32) = nI 3 from rfl, m_puts s j 3 v hj (by decide), show 10 + 4 * j + 3 = 13 + 4 * j by omega]
theorem ge0 (s : Nat → Int32) {j : Nat} (hj : j < 9) : X6_get s (nI j) 0 = some (s (10 + 4 * j)) := m_get s j 0 hj (by decide)
theorem ge1 (s : Nat → Int32) {j : Nat} (hj : j < 9) : X6_get s (nI j) 1 = some (s (11 + 4 * j)) := by
  rw [show (1 : Int32) = nI 1 from rfl, m_get s j 1 hj (by decide), show 10 + 4 * j + 1 = 11 + 4 * j by omega]
theorem ge2 (s : Nat → Int32) {j : Nat} (hj : j < 9) : X6_get s (nI j) 2 = some (s (12 + 4 * j)) := by
  rw [show (2 : Int32) = nI 2 from rfl, m_get s j 2 hj (by decide), show 10 + 4 * j + 2 = 12 + 4 * j by omega]
theorem ge3 (s : Nat → Int32) {j : Nat} (hj : j < 9) : X6_get s (nI j) 3 = some (s (13 + 4 * j)) := by
  rw [show (3 : Int32) = nI 3 from rfl, m_get s j 3 hj (by decide), show 10 + 4 * j + 3 = 13 + 4 * j by omega]
theorem pcn_set {n x m : Nat} (hm : m < n) (h : x.testBit m = false) : pcn n (x ||| 2 ^ m) = pcn n x + 1 := by
  induction n with
  | zero => omega
  | succ n ih =>
    unfold pcn
    rw [Nat.testBit_or, Nat.testBit_two_pow]
    by_cases e : m = n
    · subst e
      have : pcn m (x ||| 2 ^ m) = pcn m x := Nat.le_antisymm (pcn_mono (fun i hi h1 => by
        rw [Nat.testBit_or, Nat.testBit_two_pow, decide_eq_false (by omega), Bool.or_false] at h1; exact h1)) (pcn_mono (fun i hi h1 => by rw [Nat.testBit_or, h1]; rfl))
      rw [this, h, decide_eq_true rfl]
      rfl
    · rw [ih (by omega), decide_eq_false e, Bool.or_false]
      omega
theorem pcn_z (n : Nat) : pcn n 0 = 0 := by
  induction n with
  | zero => rfl
  | succ n ih => unfold pcn; rw [ih, Nat.zero_testBit]; rfl
theorem pcn_stg {F : Nat → Nat} {n m : Nat} (h1 : ∀ i, i < n → F i < m) (h2 : ∀ i j, i < n → j < n → F i = F j → i = j) : pcn m (stg F n) = n := by
  induction n with
  | zero => exact pcn_z m
  | succ n ih =>
    unfold stg
    rw [pcn_set (h1 n (by omega)), ih (fun i hi => h1 i (by omega)) (fun i j hi hj => h2 i j (by omega) (by omega))]
    cases e : (stg F n).testBit (F n) with
    | false => rfl
    | true =>
      obtain ⟨i, hi, h3⟩ := (stg_tb F n (F n)).mp e
      have := h2 i n (by omega) (by omega) h3
      omega
section
variable {s s' kd lo se ah ru sg no ti sp f5 f6 : Nat → Int32} {bw th cm hd ck zz : Int32} {nb nt : Nat} {K L E A R F : Nat → Nat}
theorem SP.sq (h : SP s bw th cm hd ck zz kd lo se ah ru sg no ti sp nb nt K L E A R F) : SQ s bw th cm hd ck zz kd lo se ah ru sg no ti sp := ⟨nb, nt, K, L, E, A, R, F, h⟩
theorem SP.ib (h : SP s bw th cm hd ck zz kd lo se ah ru sg no ti sp nb nt K L E A R F) (v : Int32) : X6_isBow s v = some (X2_isBow bw v) ∧ (X2_isBow bw v = true → ∃ j, j < nb ∧ v = nI j) := by
  rw [h.bw_]
  exact isBow_eq h.b3 h.h9 v
theorem isBow_k {n j : Nat} (hn : n ≤ 9) (hj : j < n) : X2_isBow (nI n) (nI j) = true := by
  unfold X2_isBow
  rw [if_neg (nI_pos (by omega)), if_neg (nI_ge hj (by omega))]
theorem SP.ca (h : SP s bw th cm hd ck zz kd lo se ah ru sg no ti sp nb nt K L E A R F) {j : Nat} (hj : j < nb) : s (10 + 4 * j) = nI (K j) ∧ s (11 + 4 * j) = nI (L j) ∧ s (12 + 4 * j) = nI (E j) ∧ s (13 + 4 * j) = nI (A j) := (h.2.1 j hj).2.1
theorem SP.cb (h : SP s bw th cm hd ck zz kd lo se ah ru sg no ti sp nb nt K L E A R F) {j : Nat} (hj : j < nb) : kd j = nI (K j) ∧ lo j = nI (L j) ∧ se j = nI (E j) ∧ ah j = nI (A j) := (h.2.1 j hj).2.2
theorem SP.cc (h : SP s bw th cm hd ck zz kd lo se ah ru sg no ti sp nb nt K L E A R F) {j : Nat} (hj : j < nb) : K j ≤ 6 ∧ L j ≤ 99 ∧ 1 ≤ E j ∧ E j ≤ 60 ∧ A j < 2 ^ nb ∧ (A j).testBit j = false := (h.2.1 j hj).1
theorem SP.hF (h : SP s bw th cm hd ck zz kd lo se ah ru sg no ti sp nb nt K L E A R F) {i : Nat} (hi : i < nt) : F i < nb := (h.2.2.2.1.1 i hi).1
theorem SP.pc (h : SP s bw th cm hd ck zz kd lo se ah ru sg no ti sp nb nt K L E A R F) : pcn nb (stg F nt) = nt := pcn_stg (fun i hi => h.hF hi) h.2.2.2.1.2
theorem SP.nt_lt (h : SP s bw th cm hd ck zz kd lo se ah ru sg no ti sp nb nt K L E A R F) {j : Nat} (hj : j < nb) (hc : (stg F nt).testBit j = false) : nt < nb := by
  rcases Nat.lt_or_ge nt nb with h1 | h1
  · exact h1
  · have := pcn_full (n := nb) (x := stg F nt) (by rw [h.pc]; exact h1) j hj
    rw [hc] at this
    cases this
theorem p_of (h : SP s bw th cm hd ck zz kd lo se ah ru sg no ti sp nb nt K L E A R F) (hf : FR f5 f6) (v1 v2 : Int32) :
    ∃ r5 r6, X5_of f5 bw th kd lo se ah sg v1 v2 = some r5 ∧ X6_of s f6 v1 v2 = some r6 ∧ r5.1 = r6.1 ∧ FR r5.2 r6.2 := p_ofR h.SR hf v1 v2
theorem p_stood (h : SP s bw th cm hd ck zz kd lo se ah ru sg no ti sp nb nt K L E A R F) (hf : FR f5 f6) (v1 : Int32) :
    ∃ r5 r6, X5_stood f5 th sg v1 = some r5 ∧ X6_stood s f6 v1 = some r6 ∧ r5.1 = r6.1 ∧ FR r5.2 r6.2 := p_stoodR h.SR hf v1
theorem p_seed (h : SP s bw th cm hd ck zz kd lo se ah ru sg no ti sp nb nt K L E A R F) (v1 : Int32) :
    ∃ r5 r6, X5_seed zz v1 = some r5 ∧ X6_seed s v1 = some r6 ∧ r5.1 = r6.1 ∧ SQ r6.2 bw th cm hd ck r5.2 kd lo se ah ru sg no ti sp := ⟨_, _, rfl, rfl, h.1.2.2.2.2.2.2.2.2.2, (h.setZ v1).sq⟩
theorem p_bow (h : SP s bw th cm hd ck zz kd lo se ah ru sg no ti sp nb nt K L E A R F) (hf : FR f5 f6) (v1 : Int32) :
    ∃ r5 r6, X5_bow f5 bw kd lo se ah v1 = some r5 ∧ X6_bow s f6 v1 = some r6 ∧ r5.1 = r6.1 ∧ SQ r6.2.1 r5.2.2.1 th cm hd ck zz r5.2.2.2.1 r5.2.2.2.2.1 r5.2.2.2.2.2.1 r5.2.2.2.2.2.2 ru sg no ti sp ∧ FR r5.2.1 r6.2.2 := by
  have hA := h
  have h9 := h.h9
  unfold X5_bow X6_bow
  simp only [f5_0, f6_0, f5_1, f6_1, Option.bind_some, isIn_eq, h.b3, h.bw_]
  cases hi : X5_isIn v1 0 6 with
  | false =>
    simp only [if_pos xbf]
    exact ⟨_, _, rfl, rfl, rfl, by rw [← h.bw_]; exact h.sq, hf.up 0 (by decide)⟩
  | true =>
    obtain ⟨j, hj, rfl⟩ := isIn_t (n := 6) (by decide) hi
    simp only [if_neg xbt]
    by_cases h9 : nb = 9
    · subst h9
      simp only [if_neg (show ¬ nI 9 < 9 by decide), if_pos (show nI 9 = 9 from rfl)]
      refine ⟨_, _, rfl, rfl, rfl, ?_, hf.up 1 (by decide)⟩
      rw [← h.bw_]
      exact h.sq
    · have hlt : nb < 9 := by omega
      rw [if_pos (show nI nb < 9 from nI_lt hlt (by decide)), if_neg (show ¬ nI nb = 9 from fun z => h9 ((nI_eq (by omega) (by decide)).mp (show nI nb = nI 9 from z))), m_adds s nb hlt h.b3]
      simp only [X2_addBow_sc, if_pos (inr_lt hlt (by decide)), nI_clamp (show nb < 2 ^ 31 by omega), Option.bind_some]
      refine ⟨_, _, rfl, rfl, ?_, (h.add hlt hj).sq, hf⟩
      show nI nb = upd _ 3 (nI nb + 1) 3 - 1
      rw [upd_eq, nI_1, nI_pred]
theorem p_change (h : SP s bw th cm hd ck zz kd lo se ah ru sg no ti sp nb nt K L E A R F) (hf : FR f5 f6) (v1 v2 v3 : Int32) :
    ∃ r5 r6, X5_change f5 bw kd lo se ah v1 v2 v3 = some r5 ∧ X6_change s f6 v1 v2 v3 = some r6 ∧ r5.1 = r6.1 ∧ SQ r6.2.1 bw th cm hd ck zz r5.2.2.1 r5.2.2.2.1 r5.2.2.2.2.1 r5.2.2.2.2.2 ru sg no ti sp ∧ FR r5.2.1 r6.2.2 := by
  obtain ⟨i1, i2⟩ := h.ib v1
  have h9 := h.h9
  unfold X5_change X6_change X6_change_L56 X6_change_L69 X6_change_L96
  simp only [f5_0, f6_0, Option.bind_some, isIn_eq, i1]
  cases hi : X2_isBow bw v1 with
  | false =>
    simp only [if_pos xbf]
    exact ⟨_, _, rfl, rfl, rfl, h.sq, hf.up 0 (by decide)⟩
  | true =>
    obtain ⟨j, hj, rfl⟩ := i2 hi
    have hj9 : j < 9 := by omega
    obtain ⟨a0, a1, a2, a3⟩ := h.ca hj
    obtain ⟨b0, b1, b2, b3⟩ := h.cb hj
    simp only [if_neg xbt]
    cases hw : X5_isIn v2 0 3 with
    | false =>
      have hn := isIn_f (n := 3) (by decide) hw
      rw [if_neg (show ¬ v2 = 0 from hn 0 (by decide)), if_neg (show ¬ v2 = 1 from hn 1 (by decide)), if_neg (show ¬ v2 = 2 from hn 2 (by decide)), if_neg (show ¬ v2 = 3 from hn 3 (by decide))]
      simp only [if_pos xbf]
      exact ⟨_, _, rfl, rfl, rfl, h.sq, hf.up 0 (by decide)⟩
    | true =>
      obtain ⟨k, hk, rfl⟩ := isIn_t (n := 3) (by decide) hw
      simp only [if_neg xbt]
      have : k = 0 ∨ k = 1 ∨ k = 2 ∨ k = 3 := by omega
      rcases this with rfl | rfl | rfl | rfl
      · simp only [show nI 0 = (0 : Int32) from rfl, if_true, if_neg (show ¬ (0 : Int32) = 2 by decide), if_neg (show ¬ (0 : Int32) = 3 by decide)]
        cases hv : X5_isIn v3 0 6 with
        | false =>
          simp only [if_pos xbf]
          exact ⟨_, _, rfl, rfl, rfl, h.sq, hf.up 0 (by decide)⟩
        | true =>
          obtain ⟨x, hx, rfl⟩ := isIn_t (n := 6) (by decide) hv
          simp only [if_neg xbt, X5_put_sc_kinds, if_pos (inr_lt hj9 (by decide)), nI_clamp (show j < 2 ^ 31 by omega), ge0 s hj9, pu0 s hj9, Option.bind_some]
          exact ⟨_, _, rfl, rfl, b0.trans a0.symm, (h.setK hj hx).sq, hf⟩
      · simp only [show nI 1 = (1 : Int32) from rfl, if_true, if_neg (show ¬ (1 : Int32) = 0 by decide), if_neg (show ¬ (1 : Int32) = 2 by decide), if_neg (show ¬ (1 : Int32) = 3 by decide)]
        cases hv : X5_isIn v3 0 99 with
        | false =>
          simp only [if_pos xbf]
          exact ⟨_, _, rfl, rfl, rfl, h.sq, hf.up 0 (by decide)⟩
        | true =>
          obtain ⟨x, hx, rfl⟩ := isIn_t (n := 99) (by decide) hv
          simp only [if_neg xbt, X5_put_sc_loves, if_pos (inr_lt hj9 (by decide)), nI_clamp (show j < 2 ^ 31 by omega), ge1 s hj9, pu1 s hj9, Option.bind_some]
          exact ⟨_, _, rfl, rfl, b1.trans a1.symm, (h.setL hj hx).sq, hf⟩
      · simp only [show nI 2 = (2 : Int32) from rfl, if_true, if_neg (show ¬ (2 : Int32) = 0 by decide), if_neg (show ¬ (2 : Int32) = 1 by decide), if_neg (show ¬ (2 : Int32) = 3 by decide)]
        cases hv : X5_isIn v3 1 60 with
        | false =>
          simp only [if_pos xbf]
          exact ⟨_, _, rfl, rfl, rfl, h.sq, hf.up 0 (by decide)⟩
        | true =>
          obtain ⟨x, hx1, hx, rfl⟩ := isIn_1 (n := 60) (by decide) hv
          simp only [if_neg xbt, X5_put_sc_seconds, if_pos (inr_lt hj9 (by decide)), nI_clamp (show j < 2 ^ 31 by omega), ge2 s hj9, pu2 s hj9, Option.bind_some]
          exact ⟨_, _, rfl, rfl, b2.trans a2.symm, (h.setE hj hx1 hx).sq, hf⟩
      · have hfull : 2 ^ nb - 1 < 512 := by have := two_lt h9; omega
        simp only [show nI 3 = (3 : Int32) from rfl, if_true, if_neg (show ¬ (3 : Int32) = 0 by decide), if_neg (show ¬ (3 : Int32) = 1 by decide), if_neg (show ¬ (3 : Int32) = 2 by decide), X6_allBows, X2_isSetWithout, h.b3, h.bw_, full_eq h9, Option.bind_some]
        cases hv : X5_isIn v3 0 (nI (2 ^ nb - 1)) with
        | false =>
          simp only [if_pos xbf]
          exact ⟨_, _, rfl, rfl, rfl, by rw [← h.bw_]; exact h.sq, hf.up 0 (by decide)⟩
        | true =>
          obtain ⟨x, hx, rfl⟩ := isIn_t (by omega) hv
          have hx2 : x < 2 ^ nb := by have := Nat.two_pow_pos nb; omega
          rw [isIn_tb (by omega) (by omega)]
          cases ht : x.testBit j with
          | true =>
            simp only [if_neg xbt, if_neg (show ¬ nI x &&& xshl 1 (nI j) = 0 from fun z => by rw [bit_eq (by omega) (by omega), ht] at z; cases z), if_pos xbf]
            exact ⟨_, _, rfl, rfl, rfl, by rw [← h.bw_]; exact h.sq, hf.up 0 (by decide)⟩
          | false =>
            simp only [if_neg xbt, if_pos ((bit_eq (show x < 2 ^ 31 by omega) (show j < 31 by omega)).mpr ht), if_pos xbf, X5_put_sc_aheads, if_pos (inr_lt hj9 (by decide)), nI_clamp (show j < 2 ^ 31 by omega), ge3 s hj9, pu3 s hj9, Option.bind_some]
            exact ⟨_, _, rfl, rfl, b3.trans a3.symm, by rw [← h.bw_]; exact (h.setA hj hx2 ht).sq, hf⟩
theorem p_contract (h : SP s bw th cm hd ck zz kd lo se ah ru sg no ti sp nb nt K L E A R F) (hf : FR f5 f6) (v1 v2 v3 : Int32) :
    ∃ r5 r6, X5_contract f5 bw ah v1 v2 v3 = some r5 ∧ X6_contract s f6 v1 v2 v3 = some r6 ∧ r5.1 = r6.1 ∧ SQ r6.2.1 bw th cm hd ck zz kd lo se r5.2.2 ru sg no ti sp ∧ FR r5.2.1 r6.2.2 := by
  obtain ⟨i1, i2⟩ := h.ib v1
  obtain ⟨j1, j2⟩ := h.ib v2
  have h9 := h.h9
  unfold X5_contract X6_contract X5_contract_L75 X6_contract_L69
  simp only [f5_0, f6_0, Option.bind_some, isIn_eq, i1, j1]
  cases hi : X2_isBow bw v1 with
  | false =>
    simp only [if_pos xbf]
    exact ⟨_, _, rfl, rfl, rfl, h.sq, hf.up 0 (by decide)⟩
  | true =>
    obtain ⟨a, ha, rfl⟩ := i2 hi
    cases hi2 : X2_isBow bw v2 with
    | false =>
      simp only [if_pos xbf, if_neg xbt]
      exact ⟨_, _, rfl, rfl, rfl, h.sq, hf.up 0 (by decide)⟩
    | true =>
      obtain ⟨b, hb, rfl⟩ := j2 hi2
      by_cases e : a = b
      · subst e
        simp only [if_neg xbt, if_true]
        exact ⟨_, _, rfl, rfl, rfl, h.sq, hf.up 0 (by decide)⟩
      · have hb9 : b < 9 := by omega
        simp only [if_neg xbt, if_neg (show ¬ nI a = nI b from fun z => e ((nI_eq (by omega) (by omega)).mp z))]
        cases hv : X5_isIn v3 0 1 with
        | false =>
          simp only [if_pos xbf]
          exact ⟨_, _, rfl, rfl, rfl, h.sq, hf.up 0 (by decide)⟩
        | true =>
          obtain ⟨a0, a1, a2, a3⟩ := h.ca hb
          obtain ⟨b0, b1, b2, b3⟩ := h.cb hb
          obtain ⟨-, -, -, -, c4, c5⟩ := h.cc hb
          have hA := h.A_lt hb
          have key : ∀ x, x < 2 ^ nb → x.testBit b = false → ∃ r5 r6, (if nI x = nI (A b) then some ((0 : Int32), f5, upd ah b (nI x)) else some (1, f5, upd ah b (nI x))) = some r5 ∧ (if nI (A b) = nI x then some ((0 : Int32), upd s (13 + 4 * b) (nI x), f6) else some (1, upd s (13 + 4 * b) (nI x), f6)) = some r6 ∧ r5.1 = r6.1 ∧ SQ r6.2.1 bw th cm hd ck zz kd lo se r5.2.2 ru sg no ti sp ∧ FR r5.2.1 r6.2.2 := by
            intro x hx hx1
            by_cases e : nI x = nI (A b)
            · rw [if_pos e, if_pos e.symm]
              exact ⟨_, _, rfl, rfl, rfl, (h.setA hb hx hx1).sq, hf⟩
            · rw [if_neg e, if_neg (fun z => e z.symm)]
              exact ⟨_, _, rfl, rfl, rfl, (h.setA hb hx hx1).sq, hf⟩
          simp only [if_neg xbt, if_pos (inr_lt hb9 (by decide)), nI_clamp (show b < 2 ^ 31 by omega), ge3 _ hb9, pu3 _ hb9, Option.bind_some, a3, b3, upd_eq, shl_eq (show a < 31 by omega), ny_or, ny_nd]
          by_cases h1 : v3 = 1
          · simp only [if_pos h1]
            refine key _ (Nat.or_lt_two_pow c4 (Nat.pow_lt_pow_right (by decide) ha)) ?_
            rw [Nat.testBit_or, c5, Nat.testBit_two_pow, decide_eq_false e]; rfl
          · simp only [if_neg h1]
            refine key _ (nd_lt c4) ?_
            rw [nd_tb, c5]; rfl
theorem p_rule (h : SP s bw th cm hd ck zz kd lo se ah ru sg no ti sp nb nt K L E A R F) (hf : FR f5 f6) (v1 v2 : Int32) :
    ∃ r5 r6, X5_rule f5 ru v1 v2 = some r5 ∧ X6_rule s f6 v1 v2 = some r6 ∧ r5.1 = r6.1 ∧ SQ r6.2.1 bw th cm hd ck zz kd lo se ah r5.2.2 sg no ti sp ∧ FR r5.2.1 r6.2.2 := by
  unfold X5_rule X6_rule
  simp only [f5_0, f6_0, Option.bind_some, isIn_eq]
  cases hi : X5_isIn v1 0 4 with
  | false =>
    simp only [if_pos xbf]
    exact ⟨_, _, rfl, rfl, rfl, h.sq, hf.up 0 (by decide)⟩
  | true =>
    obtain ⟨k, hk, rfl⟩ := isIn_t (n := 4) (by decide) hi
    have hk5 : k < 5 := by omega
    have e1 : (5 : Int32) + nI k = nI (5 + k) := nI_add 5 k
    have e2 : xstat 0 k = nI (mr k) ∧ X6_greatestRule (nI k) = nI (mr k) ∧ mr k < 1000 := (by decide +kernel : ∀ k, k < 5 → xstat 0 k = nI (mr k) ∧ X6_greatestRule (nI k) = nI (mr k) ∧ mr k < 1000) k hk5
    obtain ⟨e2, e3, e4⟩ := e2
    obtain ⟨u1, u2, -⟩ := h.2.2.1 k hk5
    simp only [if_neg xbt, if_pos (inr_lt hk5 (by decide)), nI_clamp (show k < 2 ^ 31 by omega), e1, e2, e3, if_pos (inr_lt (show 5 + k < 83 by omega) (by decide)), nI_clamp (show 5 + k < 2 ^ 31 by omega), X5_put_sc_rules, Option.bind_some]
    cases hv : X5_isIn v2 0 (nI (mr k)) with
    | false =>
      simp only [if_pos xbf]
      exact ⟨_, _, rfl, rfl, rfl, h.sq, hf.up 0 (by decide)⟩
    | true =>
      obtain ⟨x, hx, rfl⟩ := isIn_t (by omega) hv
      simp only [if_neg xbt]
      exact ⟨_, _, rfl, rfl, u1.trans u2.symm, (h.setR hk5 hx).sq, hf⟩
theorem SP.noi (h : SP s bw th cm hd ck zz kd lo se ah ru sg no ti sp nb nt K L E A R F) {j : Nat} (hj : j < nb) (x : Int32) : X6_noiseBy s (nI j) x = some (X0_noiseOf (nI (K j)) (nI (L j)) x) ∧ X2_noiseBy kd lo (nI j) x = some (X0_noiseOf (nI (K j)) (nI (L j)) x) := by
  obtain ⟨a0, a1, -⟩ := h.ca hj
  obtain ⟨b0, b1, -⟩ := h.cb hj
  have h9 := h.h9
  have := noiseBy_eq s kd lo (show j < 9 by omega) (b0.trans a0.symm) (b1.trans a1.symm) x
  rw [b0, b1] at this
  exact this
theorem SP.lea (h : SP s bw th cm hd ck zz kd lo se ah ru sg no ti sp nb nt K L E A R F) {j : Nat} (hj : j < nb) : X6_leaves s (nI j) = some (X0_leftBy (nI (K j)) (nI (L j))) ∧ X2_leftBy kd lo (nI j) = some (X0_leftBy (nI (K j)) (nI (L j))) := by
  obtain ⟨a0, a1, -⟩ := h.ca hj
  obtain ⟨b0, b1, -⟩ := h.cb hj
  have h9 := h.h9
  have := left_eq s kd lo (show j < 9 by omega) (h.cc hj).1 a0 (b0.trans a0.symm) (b1.trans a1.symm)
  rw [b0, b1] at this
  exact this
theorem SP.las (h : SP s bw th cm hd ck zz kd lo se ah ru sg no ti sp nb nt K L E A R F) {j : Nat} (hj : j < nb) : X6_secondsOf s (nI j) = some (X0_lastedBy (nI (K j)) (nI (E j))) ∧ X2_lastedBy kd se (nI j) = some (X0_lastedBy (nI (K j)) (nI (E j))) := by
  obtain ⟨a0, a1, a2, a3⟩ := h.ca hj
  obtain ⟨b0, b1, b2, b3⟩ := h.cb hj
  have h9 := h.h9
  have := last_eq s kd se (show j < 9 by omega) (h.cc hj).1 a0 (b0.trans a0.symm) (b2.trans a2.symm)
  rw [b0, b2] at this
  exact this
theorem p_noise (h : SP s bw th cm hd ck zz kd lo se ah ru sg no ti sp nb nt K L E A R F) (hf : FR f5 f6) (v1 v2 : Int32) :
    ∃ r5 r6, X5_noise f5 bw kd lo v1 v2 = some r5 ∧ X6_noise s f6 v1 v2 = some r6 ∧ r5.1 = r6.1 ∧ FR r5.2 r6.2 := by
  obtain ⟨i1, i2⟩ := h.ib v1
  unfold X5_noise X6_noise
  simp only [f5_0, f6_0, Option.bind_some, isIn_eq, i1]
  cases hi : X2_isBow bw v1 with
  | false =>
    simp only [if_pos xbf]
    exact ⟨_, _, rfl, rfl, rfl, hf.up 0 (by decide)⟩
  | true =>
    obtain ⟨j, hj, rfl⟩ := i2 hi
    obtain ⟨n1, n2⟩ := h.noi hj v2
    simp only [if_neg xbt, n1, n2, Option.bind_some]
    cases hv : X5_isIn v2 0 999 with
    | false =>
      simp only [if_pos xbf]
      exact ⟨_, _, rfl, rfl, rfl, hf.up 0 (by decide)⟩
    | true =>
      simp only [if_neg xbt]
      exact ⟨_, _, rfl, rfl, rfl, hf⟩
end
