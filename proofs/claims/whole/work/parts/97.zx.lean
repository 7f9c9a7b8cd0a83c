/-! who may be last, at which place -/
def pset (P : Nat → Bool) : Nat → Nat
  | 0 => 0
  | n + 1 => pset P n ||| (if P n = true then 2 ^ n else 0)
theorem pset_t {P : Nat → Bool} {n : Nat} (h : P n = true) : pset P (n + 1) = pset P n ||| 2 ^ n := by rw [pset, if_pos h]
theorem pset_f {P : Nat → Bool} {n : Nat} (h : P n = false) : pset P (n + 1) = pset P n := by rw [pset, h, if_neg (by decide), Nat.or_zero]
theorem pset_tb (P : Nat → Bool) (n b : Nat) : (pset P n).testBit b = (decide (b < n) && P b) := by
  induction n with
  | zero => rw [pset, Nat.zero_testBit, decide_eq_false (Nat.not_lt_zero b), Bool.false_and]
  | succ n ih =>
    cases h : P n with
    | true =>
      rw [pset_t h, Nat.testBit_or, ih, Nat.testBit_two_pow]
      by_cases e : n = b
      · subst e; rw [decide_eq_true rfl, h, decide_eq_true (Nat.lt_succ_self n), Bool.or_true]; rfl
      · rw [decide_eq_false e, Bool.or_false]
        by_cases h1 : b < n
        · rw [decide_eq_true h1, decide_eq_true (by omega : b < n + 1)]
        · rw [decide_eq_false h1, decide_eq_false (by omega : ¬ b < n + 1)]
    | false =>
      rw [pset_f h, ih]
      by_cases e : n = b
      · subst e; rw [h, Bool.and_false, Bool.and_false]
      · by_cases h1 : b < n
        · rw [decide_eq_true h1, decide_eq_true (by omega : b < n + 1)]
        · rw [decide_eq_false h1, decide_eq_false (by omega : ¬ b < n + 1)]
theorem pset_lt (P : Nat → Bool) (n : Nat) : pset P n < 2 ^ n := Nat.lt_pow_two_of_testBit _ (fun i hi => by rw [pset_tb, decide_eq_false (by omega), Bool.false_and])
/-- all that those not in c need -/
def ndd (A : Nat → Nat) (c : Nat) : Nat → Nat
  | 0 => 0
  | n + 1 => if c.testBit n = true then ndd A c n else ndd A c n ||| A n
theorem ndd_tb (A : Nat → Nat) (c i : Nat) : ∀ n, (ndd A c n).testBit i = true ↔ ∃ b, b < n ∧ c.testBit b = false ∧ (A b).testBit i = true := by
  intro n
  induction n with
  | zero => rw [ndd, Nat.zero_testBit]; exact ⟨fun h => (by cases h), fun ⟨b, h, _⟩ => (by omega)⟩
  | succ n ih =>
    rw [ndd]
    by_cases e : c.testBit n = true
    · rw [if_pos e, ih]
      constructor
      · rintro ⟨b, h1, h2⟩
        exact ⟨b, by omega, h2⟩
      · rintro ⟨b, h1, h2, h3⟩
        have : b ≠ n := fun hh => by rw [hh, e] at h2; cases h2
        exact ⟨b, by omega, h2, h3⟩
    · have e2 : c.testBit n = false := by cases h : c.testBit n with | false => rfl | true => exact absurd h e
      rw [if_neg e, Nat.testBit_or, Bool.or_eq_true, ih]
      constructor
      · rintro (⟨b, h1, h2⟩ | h)
        · exact ⟨b, by omega, h2⟩
        · exact ⟨n, by omega, e2, h⟩
      · rintro ⟨b, h1, h2, h3⟩
        by_cases hb : b = n
        · right; rw [← hb]; exact h3
        · exact Or.inl ⟨b, by omega, h2, h3⟩
theorem ndd_lt {A : Nat → Nat} {c nb : Nat} (hA : ∀ b, b < nb → A b < 2 ^ nb) : ∀ n, n ≤ nb → ndd A c n < 2 ^ nb := by
  intro n
  induction n with
  | zero => intro _; exact Nat.two_pow_pos _
  | succ n ih =>
    intro hn
    rw [ndd]
    split
    · exact ih (by omega)
    · exact Nat.or_lt_two_pow (ih (by omega)) (hA n (by omega))
section
variable {s s' kd lo se ah ru sg no ti sp f5 f6 : Nat → Int32} {bw th cm hd ck zz : Int32} {nb nt : Nat} {K L E A R F : Nat → Nat}
theorem full_tb {nb i : Nat} (h : i < nb) : (2 ^ nb - 1).testBit i = true := by rw [tb_full, decide_eq_true h]
theorem last5 (h9 : nb ≤ 9) (hco : CO ah nb A) {c : Nat} (hc : c < 2 ^ nb) : X1_lastOnes (nI nb) (nI c) (nI (2 ^ nb - 1)) ah = some (nI (nd (nd (2 ^ nb - 1) c) (ndd A c nb))) := by
  have h2 := two_lt h9
  have loop : ∀ d b n, b + d = nb → d < n → X1_lastOnes_L4 (nI nb) (nI c) (nI (2 ^ nb - 1)) ah n (nI (ndd A c b)) (nI b) = some (nI (nd (nd (2 ^ nb - 1) c) (ndd A c nb))) := by
    intro d
    induction d with
    | zero =>
      intro b n hb hn
      obtain ⟨n, rfl⟩ : ∃ m, n = m + 1 := ⟨n - 1, by omega⟩
      rw [X1_lastOnes_L4, if_pos (nI_le (by omega) (by omega)), ny_nd, ny_nd, show b = nb by omega]
    | succ d ih =>
      intro b n hb hn
      obtain ⟨n, rfl⟩ : ∃ m, n = m + 1 := ⟨n - 1, by omega⟩
      have h1 := ih (b + 1) n (by omega) (by omega)
      rw [ndd] at h1
      rw [X1_lastOnes_L4, if_neg (nI_ge (by omega) (by omega)), nI_1]
      cases e : c.testBit b with
      | false =>
        rw [e, if_neg (by decide)] at h1
        rw [if_pos ((bit_eq (by omega) (by omega)).mpr e), if_pos (inr_lt (by omega) (by decide)), nI_clamp (by omega), (hco b (by omega)).1, ny_or]
        exact h1
      | true =>
        rw [e, if_pos rfl] at h1
        rw [if_neg (fun z => by rw [bit_eq (by omega) (by omega), e] at z; cases z)]
        exact h1
  exact loop nb 0 FU (by omega) (by unfold FU; omega)
theorem lasts0 (s C G : Nat → Int32) : ∀ m, 0 < m → X6_lasts_L9 s m (nI 0) 0 0 C G = some (0, C, G) := by
  intro m hm
  obtain ⟨m, rfl⟩ : ∃ q, m = q + 1 := ⟨m - 1, by omega⟩
  rw [X6_lasts_L9]
  by_cases e : s 3 ≤ 0
  · rw [if_pos e]
  · rw [if_neg e, if_pos (by decide)]
theorem p_lasts (h : SP s bw th cm hd ck zz kd lo se ah ru sg no ti sp nb nt K L E A R F) (c3300 c3400 c3500 c5900 c6000 : Nat → Int32) :
    ∃ r5 r6, X5_lasts bw th cm kd lo ah sg c3300 c3400 c3500 = some r5 ∧ X6_lasts s c5900 c6000 = some r6 ∧ r5.1 = r6.1 := by
  have h9 := h.h9
  have h2 := two_lt h9
  have hc := h.c_lt
  have hpos := Nat.two_pow_pos nb
  obtain ⟨kd', lo', ah', g1, g2, g3⟩ := h.start c3300 c3400 c3500
  obtain ⟨C, G, e1, e2, e3⟩ := h.counts c5900 c6000
  have hG := Gn_lt (A := A) h9 (stg F nt)
  have hall : X6_allBows s = some (nI (2 ^ nb - 1)) := by unfold X6_allBows; rw [h.b3, full_eq h9]
  have hA : ∀ b, b < nb → A b < 2 ^ nb := fun b hb => (h.cc hb).2.2.2.2.1
  have s6 : X6_lasts s c5900 c6000 = X6_lasts_L9 s FU (nI (Gn A nb (stg F nt))) 0 0 C G := by
    unfold X6_lasts
    rw [e1, Option.bind_some]
  rw [s6]
  unfold X5_lasts
  simp only [g1, Option.bind_some, have_eq h9 g3 hc, last5 h9 g3 hc]
  cases hw : way A nb (stg F nt) with
  | false =>
    have hg0 : Gn A nb (stg F nt) = 0 := by
      rcases Nat.eq_zero_or_pos (Gn A nb (stg F nt)) with hz | hz
      · exact hz
      · have := (G_iff h9 hc).mp hz
        rw [hw] at this; cases this
    have hl : X6_lasts_L9 s FU (nI (Gn A nb (stg F nt))) 0 0 C G = some (0, C, G) := by
      rw [hg0]
      exact lasts0 s C G FU (by unfold FU; omega)
    simp only [if_pos xbf, hl]
    exact ⟨_, _, rfl, rfl, rfl⟩
  | true =>
    have hgp : 0 < Gn A nb (stg F nt) := (G_iff h9 hc).mpr hw
    obtain ⟨P, hPd⟩ : ∃ P : Nat → Bool, ∀ b, P b = (decide (0 < Cn A nb (stg F nt) (nd (2 ^ nb - 1) (2 ^ b))) && canF A b (nd (2 ^ nb - 1) (2 ^ b))) := ⟨_, fun _ => rfl⟩
    have loop : ∀ d b n, b + d = nb → d < n → X6_lasts_L9 s n (nI (Gn A nb (stg F nt))) (nI (pset P b)) (nI b) C G = some (nI (pset P nb), C, G) := by
      intro d
      induction d with
      | zero =>
        intro b n hb hn
        obtain ⟨n, rfl⟩ : ∃ m, n = m + 1 := ⟨n - 1, by omega⟩
        rw [X6_lasts_L9, h.b3, if_pos (nI_le (by omega) (by omega)), show b = nb by omega]
      | succ d ih =>
        intro b n hb hn
        obtain ⟨n, rfl⟩ : ∃ m, n = m + 1 := ⟨n - 1, by omega⟩
        have h1 := ih (b + 1) n (by omega) (by omega)
        have hlt : nd (2 ^ nb - 1) (2 ^ b) < 2 ^ nb := nd_lt (by omega)
        have hCl := Cn_lt (A := A) (c := stg F nt) h9 (nd (2 ^ nb - 1) (2 ^ b))
        rw [X6_lasts_L9, h.b3, if_neg (nI_ge (by omega) (by omega)), if_neg (nI_nle hgp hG), hall, Option.bind_some, shl_eq (by omega), ny_nd, if_pos (inr_lt (by omega) (by decide)), nI_clamp (by omega), e2 _ (by omega), if_pos hlt, (h.can5 (show b < nb by omega) (show nd (2 ^ nb - 1) (2 ^ b) < 512 by omega)).2.1, Option.bind_some, nI_1, ny_or0, ny_or]
        by_cases e0 : Cn A nb (stg F nt) (nd (2 ^ nb - 1) (2 ^ b)) = 0
        · have hP : P b = false := by rw [hPd, decide_eq_false (by omega)]; rfl
          rw [pset_f hP] at h1
          rw [e0, if_pos (by decide)]
          exact h1
        · rw [if_neg (nI_nle (by omega) hCl)]
          cases ec : canF A b (nd (2 ^ nb - 1) (2 ^ b)) with
          | false =>
            have hP : P b = false := by rw [hPd, ec, Bool.and_false]
            rw [pset_f hP] at h1
            rw [if_pos xbf]
            exact h1
          | true =>
            have hP : P b = true := by rw [hPd, ec, decide_eq_true (by omega)]; rfl
            rw [pset_t hP] at h1
            rw [if_neg xbt]
            exact h1
    have hl : X6_lasts_L9 s FU (nI (Gn A nb (stg F nt))) 0 0 C G = some (nI (pset P nb), C, G) := by
      have t := loop nb 0 FU (by omega) (by unfold FU; omega)
      have p0 : pset P 0 = 0 := rfl
      rw [p0] at t
      exact t
    have heq : nd (nd (2 ^ nb - 1) (stg F nt)) (ndd A (stg F nt) nb) = pset P nb := by
      apply set_ext (n := nb) (nd_lt (nd_lt (by omega))) (pset_lt P nb)
      intro b hb
      rw [nd_tb, nd_tb, full_tb hb, pset_tb, decide_eq_true hb, Bool.true_and, Bool.true_and]
      have hAb := (h.cc hb).2.2.2.2.2
      have htb : ∀ i, (nd (2 ^ nb - 1) (2 ^ b)).testBit i = true ↔ i < nb ∧ i ≠ b := fun i => by
        rw [nd_tb, tb_full, Nat.testBit_two_pow, Bool.and_eq_true, decide_eq_true_iff, Bool.not_eq_true', decide_eq_false_iff_not]
        exact ⟨fun hh => ⟨hh.1, fun z => hh.2 z.symm⟩, fun hh => ⟨hh.1, fun z => hh.2 z.symm⟩⟩
      have hcanb : canF A b (nd (2 ^ nb - 1) (2 ^ b)) = true := by
        rw [canF_iff, nd_z]
        refine ⟨nd_bit _ b, fun i hi => (htb i).mpr ⟨bit_lt (hA b hb) hi, fun z => by rw [z, hAb] at hi; cases hi⟩⟩
      have hP : P b = decide (0 < Cn A nb (stg F nt) (nd (2 ^ nb - 1) (2 ^ b))) := by rw [hPd, hcanb, Bool.and_true]
      rw [hP]
      cases ecb : (stg F nt).testBit b with
      | true =>
        rw [decide_eq_false]
        · rfl
        · intro hz
          have := (Cn_good hz).1 b ecb
          rw [nd_bit] at this; cases this
      | false =>
        cases en : (ndd A (stg F nt) nb).testBit b with
        | true =>
          rw [decide_eq_false]
          · rfl
          · intro hz
            obtain ⟨b', q1, q2, q3⟩ := (ndd_tb A (stg F nt) b nb).mp en
            have hne : b' ≠ b := fun z => by rw [z, hAb] at q3; cases q3
            have hgd := (Cn_good hz).2 b' ((htb b').mpr ⟨q1, hne⟩) q2
            rw [nd_z] at hgd
            have := hgd b q3
            rw [nd_bit] at this; cases this
        | false =>
          rw [decide_eq_true]
          · rfl
          · refine good_C h9 hw hc (nd_lt (by omega)) ⟨fun i hi => (htb i).mpr ⟨bit_lt hc hi, fun z => by rw [z, ecb] at hi; cases hi⟩, fun b' q1 q2 => ?_⟩
            rw [nd_z]
            intro i hi
            have hb' := ((htb b').mp q1).1
            refine (htb i).mpr ⟨bit_lt (hA b' hb') hi, fun z => ?_⟩
            have : (ndd A (stg F nt) nb).testBit b = true := (ndd_tb A (stg F nt) b nb).mpr ⟨b', hb', q2, by rw [← z]; exact hi⟩
            rw [en] at this; cases this
    simp only [if_neg xbt, hl, heq]
    exact ⟨_, _, rfl, rfl, rfl⟩
/-! place -/
def left (nb c : Nat) : Nat := nd (2 ^ nb - 1) c
/-- all of the rest that must come ahead -/
def DD (A : Nat → Nat) (nb c b : Nat) : Nat := cls (fun k => A k &&& left nb c) nb (A b &&& left nb c)
theorem left_tb {nb c i : Nat} : (left nb c).testBit i = true ↔ i < nb ∧ c.testBit i = false := by
  unfold left
  rw [nd_tb, tb_full, Bool.and_eq_true, decide_eq_true_iff, Bool.not_eq_true']
theorem DD_sub {A : Nat → Nat} {nb c b : Nat} : ∀ i, (DD A nb c b).testBit i = true → (left nb c).testBit i = true :=
  cls_min (fun i hi => by rw [Nat.testBit_and, Bool.and_eq_true] at hi; exact hi.2) (fun j _ _ i hi => by rw [Nat.testBit_and, Bool.and_eq_true] at hi; exact hi.2)
theorem DD_lt {A : Nat → Nat} {nb c b : Nat} (hA : ∀ b, b < nb → A b < 2 ^ nb) (hb : b < nb) : DD A nb c b < 2 ^ nb :=
  cls_lt (fun k hk => Nat.lt_of_le_of_lt Nat.and_le_left (hA k hk)) (Nat.lt_of_le_of_lt Nat.and_le_left (hA b hb))
theorem DD_one {A : Nat → Nat} {nb c b i : Nat} (h : (A b).testBit i = true) (hl : (left nb c).testBit i = true) : (DD A nb c b).testBit i = true :=
  cls_sub (by rw [Nat.testBit_and, h, hl]; rfl)
theorem DD_closed {A : Nat → Nat} {nb c b j i : Nat} (hA : ∀ b, b < nb → A b < 2 ^ nb) (hb : b < nb) (hj : (DD A nb c b).testBit j = true) (h : (A j).testBit i = true) (hl : (left nb c).testBit i = true) : (DD A nb c b).testBit i = true :=
  cls_closed (B := fun k => A k &&& left nb c) (fun k hk => Nat.lt_of_le_of_lt Nat.and_le_left (hA k hk)) (Nat.lt_of_le_of_lt Nat.and_le_left (hA b hb)) hj (by rw [Nat.testBit_and, h, hl]; rfl)
theorem DD_min {A : Nat → Nat} {nb c b u : Nat} (hg : good A c u) (hb : nd (A b) u = 0) : ∀ i, (DD A nb c b).testBit i = true → u.testBit i = true := by
  have h1 := cls_min (B := fun k => A k &&& left nb c) (n := nb) (x := A b &&& left nb c) (S := u &&& left nb c) (fun i hi => by
    rw [Nat.testBit_and, Bool.and_eq_true] at hi ⊢
    rw [nd_z] at hb
    exact ⟨hb i hi.1, hi.2⟩) (fun j _ hj i hi => by
    rw [Nat.testBit_and, Bool.and_eq_true] at hj hi ⊢
    have h2 := hg.2 j hj.1 (left_tb.mp hj.2).2
    rw [nd_z] at h2
    exact ⟨h2 i hi.1, hi.2⟩)
  intro i hi
  have := h1 i hi
  rw [Nat.testBit_and, Bool.and_eq_true] at this
  exact this.1
theorem DD_trans {A : Nat → Nat} {nb c b j : Nat} (hA : ∀ b, b < nb → A b < 2 ^ nb) (hb : b < nb) (hj : (DD A nb c b).testBit j = true) : ∀ i, (DD A nb c j).testBit i = true → (DD A nb c b).testBit i = true :=
  cls_min (fun i hi => by
    rw [Nat.testBit_and, Bool.and_eq_true] at hi
    exact DD_closed hA hb hj hi.1 hi.2) (fun k _ hk i hi => by
    rw [Nat.testBit_and, Bool.and_eq_true] at hi
    exact DD_closed hA hb hk hi.1 hi.2)
/-- nobody must come ahead of himself, if there is a way -/
theorem DD_self {A : Nat → Nat} {nb c b : Nat} (hw : way A nb c = true) (hc : c < 2 ^ nb) (hb : b < nb) (hcb : c.testBit b = false) : (DD A nb c b).testBit b = false := by
  have hfull : ∀ x, nd (2 ^ nb - 1) x = 0 → x.testBit b = true := fun x hx => by
    rw [nd_z] at hx
    exact hx b (full_tb hb)
  have h1 : (wcl (fup A b (2 ^ nb - 1)) nb c).testBit b = false := by
    cases e : (wcl (fup A b (2 ^ nb - 1)) nb c).testBit b with
    | false => rfl
    | true =>
      have := wcl_min (A := fup A b (2 ^ nb - 1)) (n := nb) (c := c) (S := nd (2 ^ nb - 1) (2 ^ b)) (fun i hi => by
        rw [nd_tb, full_tb (bit_lt hc hi), Nat.testBit_two_pow, decide_eq_false (fun z => by rw [← z, hcb] at hi; cases hi)]; rfl) (fun j hj hnd => by
        by_cases ej : j = b
        · subst ej
          rw [fup_eq] at hnd
          exact hfull _ hnd
        · rw [nd_tb, full_tb hj, Nat.testBit_two_pow, decide_eq_false (fun z => ej z.symm)]; rfl) b e
      rw [nd_bit] at this
      cases this
  have h2 : good A c (wcl (fup A b (2 ^ nb - 1)) nb c) := wcl_P (P := fun x => good A c x) (fun k x hk hcan hg => by
    by_cases ek : k = b
    · subst ek
      obtain ⟨q1, q2⟩ := canF_iff.mp hcan
      rw [fup_eq] at q2
      have := hfull _ q2
      rw [q1] at this; cases this
    · obtain ⟨q1, q2⟩ := canF_iff.mp hcan
      rw [fup_ne ek] at q2
      exact good_step hg (canF_iff.mpr ⟨q1, q2⟩)) (good_c A c)
  have h3 : nd (A b) (wcl (fup A b (2 ^ nb - 1)) nb c) = 0 := by
    by_cases e : nd (A b) (wcl (fup A b (2 ^ nb - 1)) nb c) = 0
    · exact e
    · exfalso
      have := wcl_min (A := A) (n := nb) (c := c) (S := wcl (fup A b (2 ^ nb - 1)) nb c) (fun i hi => wcl_sub hi) (fun j hj hnd => by
        by_cases ej : j = b
        · subst ej; exact absurd hnd e
        · exact wcl_closed hc hj (by rw [fup_ne ej]; exact hnd)) b (by rw [of_decide_eq_true hw]; exact full_tb hb)
      rw [h1] at this; cases this
  cases e : (DD A nb c b).testBit b with
  | false => rfl
  | true =>
    have := DD_min (nb := nb) h2 h3 b e
    rw [h1] at this; cases this
theorem pcn_or {x y : Nat} : ∀ n, (∀ i, i < n → x.testBit i = true → y.testBit i = false) → pcn n (x ||| y) = pcn n x + pcn n y := by
  intro n
  induction n with
  | zero => intro _; rfl
  | succ n ih =>
    intro h
    have h1 := ih (fun i hi => h i (by omega))
    have h2 := h n (by omega)
    cases ex : x.testBit n with
    | true => rw [pcn_t (by rw [Nat.testBit_or, ex]; rfl), pcn_t ex, pcn_f (h2 ex), h1]; omega
    | false =>
      cases ey : y.testBit n with
      | true => rw [pcn_t (by rw [Nat.testBit_or, ey, Bool.or_true]), pcn_f ex, pcn_t ey, h1]; omega
      | false => rw [pcn_f (by rw [Nat.testBit_or, ex, ey]; rfl), pcn_f ex, pcn_f ey, h1]
/-- a set behind which b may come in a way -/
def QQ (A : Nat → Nat) (nb c b u : Nat) : Prop := u < 2 ^ nb ∧ 0 < Cn A nb c u ∧ canF A b u = true ∧ 0 < Gn A nb (u ||| 2 ^ b)
theorem QQ_of {A : Nat → Nat} {nb c b u : Nat} (h9 : nb ≤ 9) (hw : way A nb c = true) (hc : c < 2 ^ nb) (hb : b < nb) (hu : u < 2 ^ nb) (hg : good A c u) (hcan : canF A b u = true) : QQ A nb c b u :=
  ⟨hu, good_C h9 hw hc hu hg, hcan, good_G h9 hw nb _ (by omega) (Nat.or_lt_two_pow hu (Nat.pow_lt_pow_right (by decide) hb)) (good_step hg hcan)⟩
/-- the earliest -/
theorem early {A : Nat → Nat} {nb c b : Nat} (h9 : nb ≤ 9) (hA : ∀ b, b < nb → A b < 2 ^ nb) (hw : way A nb c = true) (hc : c < 2 ^ nb) (hb : b < nb) (hcb : c.testBit b = false) :
    QQ A nb c b (c ||| DD A nb c b) ∧ pcn nb (c ||| DD A nb c b) = pcn nb c + pcn nb (DD A nb c b) ∧ ∀ u, QQ A nb c b u → pcn nb c + pcn nb (DD A nb c b) ≤ pcn nb u := by
  have hself := DD_self hw hc hb hcb
  have hor := pcn_or (x := c) (y := DD A nb c b) nb (fun i _ hi => by
    cases e : (DD A nb c b).testBit i with
    | false => rfl
    | true =>
      have := (left_tb.mp (DD_sub i e)).2
      rw [hi] at this; cases this)
  have hin : ∀ j, (A j).testBit j = true → True := fun _ _ => trivial
  have hcov : ∀ k i, k < nb → (∀ i, (A k).testBit i = true → (left nb c).testBit i = true → (DD A nb c b).testBit i = true) → (A k).testBit i = true → (c ||| DD A nb c b).testBit i = true := by
    intro k i hk hcl hi
    rw [Nat.testBit_or]
    cases ec : c.testBit i with
    | true => rfl
    | false => rw [hcl i hi (left_tb.mpr ⟨bit_lt (hA k hk) hi, ec⟩)]; rfl
  refine ⟨QQ_of h9 hw hc hb (Nat.or_lt_two_pow hc (DD_lt hA hb)) ⟨fun i hi => by rw [Nat.testBit_or, hi]; rfl, fun j hj hcj => ?_⟩ (canF_iff.mpr ⟨by rw [Nat.testBit_or, hcb, hself]; rfl, ?_⟩), hor, fun u hu => ?_⟩
  · rw [Nat.testBit_or, hcj, Bool.false_or] at hj
    rw [nd_z]
    intro i hi
    exact hcov j i (left_tb.mp (DD_sub j hj)).1 (fun i h1 h2 => DD_closed hA hb hj h1 h2) hi
  · rw [nd_z]
    intro i hi
    exact hcov b i hb (fun i h1 h2 => DD_one h1 h2) hi
  · obtain ⟨q1, q2, q3, q4⟩ := hu
    have hg := Cn_good q2
    rw [← hor]
    apply pcn_mono
    intro i _ hi
    rw [Nat.testBit_or, Bool.or_eq_true] at hi
    rcases hi with hi | hi
    · exact hg.1 i hi
    · exact DD_min hg (canF_iff.mp q3).2 i hi
/-- those that can't come ahead of b -/
def UU (A : Nat → Nat) (nb c b : Nat) : Nat := pset (fun j => !c.testBit j && (DD A nb c j).testBit b) nb
theorem UU_tb {A : Nat → Nat} {nb c b j : Nat} : (UU A nb c b).testBit j = true ↔ j < nb ∧ c.testBit j = false ∧ (DD A nb c j).testBit b = true := by
  unfold UU
  rw [pset_tb, Bool.and_eq_true, Bool.and_eq_true, decide_eq_true_iff, Bool.not_eq_true']
theorem late {A : Nat → Nat} {nb c b : Nat} (h9 : nb ≤ 9) (hA : ∀ b, b < nb → A b < 2 ^ nb) (hAb : (A b).testBit b = false) (hw : way A nb c = true) (hc : c < 2 ^ nb) (hb : b < nb) (hcb : c.testBit b = false) :
    ∃ u, QQ A nb c b u ∧ pcn nb u + 1 + pcn nb (UU A nb c b) = nb ∧ ∀ v, QQ A nb c b v → pcn nb v ≤ pcn nb u := by
  have hself := DD_self hw hc hb hcb
  have hUb : (UU A nb c b).testBit b = false := by
    cases e : (UU A nb c b).testBit b with
    | false => rfl
    | true =>
      have := (UU_tb.mp e).2.2
      rw [hself] at this; cases this
  have hW : (UU A nb c b ||| 2 ^ b) < 2 ^ nb := Nat.or_lt_two_pow (pset_lt _ nb) (Nat.pow_lt_pow_right (by decide) hb)
  have htb : ∀ i, (nd (2 ^ nb - 1) (UU A nb c b ||| 2 ^ b)).testBit i = true ↔ i < nb ∧ i ≠ b ∧ (UU A nb c b).testBit i = false := fun i => by
    rw [nd_tb, tb_full, Bool.and_eq_true, decide_eq_true_iff, Bool.not_eq_true', Nat.testBit_or, Nat.testBit_two_pow, Bool.or_eq_false_iff, decide_eq_false_iff_not]
    exact ⟨fun hh => ⟨hh.1, fun z => hh.2.2 z.symm, hh.2.1⟩, fun hh => ⟨hh.1, hh.2.2, fun z => hh.2.1 z.symm⟩⟩
  have hcu : ∀ i, c.testBit i = true → (nd (2 ^ nb - 1) (UU A nb c b ||| 2 ^ b)).testBit i = true := fun i hi => by
    refine (htb i).mpr ⟨bit_lt hc hi, fun z => (by rw [z, hcb] at hi; cases hi), ?_⟩
    cases e : (UU A nb c b).testBit i with
    | false => rfl
    | true =>
      have := (UU_tb.mp e).2.1
      rw [hi] at this; cases this
  have hul : nd (2 ^ nb - 1) (UU A nb c b ||| 2 ^ b) < 2 ^ nb := nd_lt (by have := Nat.two_pow_pos nb; omega)
  refine ⟨nd (2 ^ nb - 1) (UU A nb c b ||| 2 ^ b), QQ_of h9 hw hc hb hul ⟨hcu, fun j hj hcj => ?_⟩ (canF_iff.mpr ⟨?_, ?_⟩), ?_, fun v hv => ?_⟩
  · obtain ⟨j1, j2, j3⟩ := (htb j).mp hj
    rw [nd_z]
    intro i hi
    have hin := bit_lt (hA j j1) hi
    cases ec : c.testBit i with
    | true => exact hcu i ec
    | false =>
      have hl : (left nb c).testBit i = true := left_tb.mpr ⟨hin, ec⟩
      have hD := DD_one (b := j) hi hl
      have hjn : ¬ (DD A nb c j).testBit b = true := fun z => by
        have := UU_tb.mpr ⟨j1, hcj, z⟩
        rw [j3] at this; cases this
      refine (htb i).mpr ⟨hin, fun z => hjn (by rw [← z]; exact hD), ?_⟩
      cases e : (UU A nb c b).testBit i with
      | false => rfl
      | true => exact absurd (DD_trans hA j1 hD b (UU_tb.mp e).2.2) hjn
  · cases e : (nd (2 ^ nb - 1) (UU A nb c b ||| 2 ^ b)).testBit b with
    | false => rfl
    | true => exact absurd rfl ((htb b).mp e).2.1
  · rw [nd_z]
    intro i hi
    have hin := bit_lt (hA b hb) hi
    cases ec : c.testBit i with
    | true => exact hcu i ec
    | false =>
      have hD := DD_one (b := b) hi (left_tb.mpr ⟨hin, ec⟩)
      refine (htb i).mpr ⟨hin, fun z => (by rw [z, hAb] at hi; cases hi), ?_⟩
      cases e : (UU A nb c b).testBit i with
      | false => rfl
      | true =>
        have := DD_trans hA hb hD b (UU_tb.mp e).2.2
        rw [hself] at this; cases this
  · have h1 := pcn_nd (nb := nb) (c := UU A nb c b ||| 2 ^ b) nb (Nat.le_refl _)
    rw [pcn_set hb hUb] at h1
    omega
  · obtain ⟨q1, q2, q3, q4⟩ := hv
    have hg := Cn_good q2
    apply pcn_mono
    intro i _ hi
    refine (htb i).mpr ⟨bit_lt q1 hi, fun z => ?_, ?_⟩
    · have := (canF_iff.mp q3).1
      rw [← z, hi] at this; cases this
    · cases e : (UU A nb c b).testBit i with
      | false => rfl
      | true =>
        obtain ⟨e1, e2, e3⟩ := UU_tb.mp e
        have := DD_min hg (hg.2 i hi e2) b e3
        rw [(canF_iff.mp q3).1] at this; cases this
theorem late5 (h9 : nb ≤ 9) (hco : CO ah nb A) {c b : Nat} (hc : c < 2 ^ nb) (hb : b < nb) : X1_latest (nI nb) (nI c) (nI (2 ^ nb - 1)) ah (nI b) = some (nI (nb - pcn nb c) - 1 - nI (pcn nb (UU A nb c b))) := by
  have h2 := two_lt h9
  have hA : ∀ b, b < nb → A b < 2 ^ nb := fun b hb => (hco b hb).2
  have hpos := Nat.two_pow_pos nb
  have hleft : left nb c < 2 ^ nb := nd_lt (by omega)
  have loop : ∀ d j n, j + d = nb → d < n → X1_latest_L4 (nI nb) (nI c) (nI (2 ^ nb - 1)) ah n (nI b) (nI (pcn j (UU A nb c b))) (nI j) = some (nI (nb - pcn nb c) - 1 - nI (pcn nb (UU A nb c b))) := by
    intro d
    induction d with
    | zero =>
      intro j n hj hn
      obtain ⟨n, rfl⟩ : ∃ m, n = m + 1 := ⟨n - 1, by omega⟩
      rw [X1_latest_L4, if_pos (nI_le (by omega) (by omega)), rest_eq h9 hc, show j = nb by omega]
    | succ d ih =>
      intro j n hj hn
      obtain ⟨n, rfl⟩ : ∃ m, n = m + 1 := ⟨n - 1, by omega⟩
      have hjn : j < nb := by omega
      have h1 := ih (j + 1) n (by omega) (by omega)
      have hD := DD_lt (c := c) hA hjn
      have hall := all_eq h9 hco hjn hleft
      have hall : X1_allAhead (nI nb) ah (nI j) (nI (left nb c)) = some (nI (DD A nb c j)) := hall
      rw [X1_latest_L4, if_neg (nI_ge (by omega) (by omega))]
      unfold X1_latest_L28
      rw [ny_nd, show nd (2 ^ nb - 1) c = left nb c from rfl]
      simp only [nI_1, if_true, if_neg (show ¬ (1 : Int32) = 0 by decide), hall, Option.bind_some]
      cases ec : c.testBit j with
      | true =>
        have hU : (UU A nb c b).testBit j = false := by
          cases e : (UU A nb c b).testBit j with
          | false => rfl
          | true =>
            have := (UU_tb.mp e).2.1
            rw [ec] at this; cases this
        rw [pcn_f hU] at h1
        rw [if_neg (fun z => by rw [bit_eq (by omega) (by omega), ec] at z; cases z)]
        exact h1
      | false =>
        rw [if_pos ((bit_eq (by omega) (by omega)).mpr ec)]
        cases ed : (DD A nb c j).testBit b with
        | false =>
          have hU : (UU A nb c b).testBit j = false := by
            cases e : (UU A nb c b).testBit j with
            | false => rfl
            | true =>
              have := (UU_tb.mp e).2.2
              rw [ed] at this; cases this
          rw [pcn_f hU] at h1
          rw [if_pos ((bit_eq (by omega) (by omega)).mpr ed)]
          exact h1
        | true =>
          rw [pcn_t (UU_tb.mpr ⟨hjn, ec, ed⟩)] at h1
          rw [if_neg (fun z => by rw [bit_eq (by omega) (by omega), ed] at z; cases z)]
          exact h1
  exact loop nb 0 FU (by omega) (by unfold FU; omega)
theorem place6 (h : SP s bw th cm hd ck zz kd lo se ah ru sg no ti sp nb nt K L E A R F) (f6 : Nat → Int32) {b w : Nat} (hb : b < nb) (hw1 : w ≤ 1) {C G : Nat → Int32} (hC : ∀ u, u < 512 → C u = nI (if u < 2 ^ nb then Cn A nb (stg F nt) u else 0)) (hG : ∀ u, u < 2 ^ nb → G u = nI (Gn A nb u)) :
    ∀ d t n l g, t + d = 512 → d < n → l ≤ 9 → g ≤ 9 → (l = 9 ∨ ∃ u, QQ A nb (stg F nt) b u ∧ l = pcn nb u - nt) → (g = 0 ∨ ∃ u, QQ A nb (stg F nt) b u ∧ g = pcn nb u - nt) → (∀ u, u < t → QQ A nb (stg F nt) b u → l ≤ pcn nb u - nt ∧ pcn nb u - nt ≤ g) →
      ∃ l' g', X6_place_L62 s f6 n (nI b) (nI w) (nI l) (nI g) (nI t) C G = some ((if w = 0 then nI l' else nI g'), f6, C, G) ∧ l' ≤ 9 ∧ g' ≤ 9 ∧ (l' = 9 ∨ ∃ u, QQ A nb (stg F nt) b u ∧ l' = pcn nb u - nt) ∧ (g' = 0 ∨ ∃ u, QQ A nb (stg F nt) b u ∧ g' = pcn nb u - nt) ∧ ∀ u, QQ A nb (stg F nt) b u → l' ≤ pcn nb u - nt ∧ pcn nb u - nt ≤ g' := by
  have h9 := h.h9
  have h2 := two_lt h9
  have hc := h.c_lt
  intro d
  induction d with
  | zero =>
    intro t n l g ht hn hl hg a1 a2 a3
    obtain ⟨n, rfl⟩ : ∃ m, n = m + 1 := ⟨n - 1, by omega⟩
    refine ⟨l, g, ?_, hl, hg, a1, a2, fun u hu => a3 u (by have := hu.1; omega) hu⟩
    rw [X6_place_L62, if_pos (show (512 : Int32) ≤ nI t from nI_le (a := 512) (by omega) (by omega))]
    rcases Nat.eq_zero_or_pos w with e | e
    · rw [if_pos (by rw [e]; rfl), if_pos e]
    · rw [if_neg (nI_ne0 e (by omega)), if_neg (show ¬ w = 0 by omega)]
  | succ d ih =>
    intro t n l g ht hn hl hg a1 a2 a3
    obtain ⟨n, rfl⟩ : ∃ m, n = m + 1 := ⟨n - 1, by omega⟩
    have hskip : ¬ QQ A nb (stg F nt) b t → ∃ l' g', X6_place_L109 (fun v10 v20 v30 v40 v50 m_comesTo_0 m_goesOn_0 => X6_place_L62 s f6 n v10 v20 v30 v40 v50 m_comesTo_0 m_goesOn_0) s (nI b) (nI w) (nI l) (nI g) (nI t) 0 C G = some ((if w = 0 then nI l' else nI g'), f6, C, G) ∧ l' ≤ 9 ∧ g' ≤ 9 ∧ (l' = 9 ∨ ∃ u, QQ A nb (stg F nt) b u ∧ l' = pcn nb u - nt) ∧ (g' = 0 ∨ ∃ u, QQ A nb (stg F nt) b u ∧ g' = pcn nb u - nt) ∧ ∀ u, QQ A nb (stg F nt) b u → l' ≤ pcn nb u - nt ∧ pcn nb u - nt ≤ g' := by
      intro hq
      unfold X6_place_L109 X6_place_L142
      simp only [bits_eq (show t < 512 by omega), Option.bind_some, if_true, nI_1]
      refine ih (t + 1) n l g (by omega) (by omega) hl hg a1 a2 (fun u hu hQ => ?_)
      by_cases e : u = t
      · subst e; exact absurd hQ hq
      · exact a3 u (by omega) hQ
    rw [X6_place_L62, if_neg (show ¬ (512 : Int32) ≤ nI t from nI_ge (b := 512) (by omega) (by omega)), if_pos (inr_lt (by omega) (by decide)), nI_clamp (by omega), hC t (by omega)]
    by_cases e1 : t < 2 ^ nb ∧ 0 < Cn A nb (stg F nt) t
    · obtain ⟨htl, hCp⟩ := e1
      have hCl := Cn_lt (A := A) (c := stg F nt) h9 t
      rw [if_pos htl, if_neg (nI_nle hCp hCl), (h.can5 hb (show t < 512 by omega)).2.1, Option.bind_some]
      cases ec : canF A b t with
      | false =>
        rw [if_pos xbf]
        exact hskip (fun z => by rw [z.2.2.1] at ec; cases ec)
      | true =>
        have hor : t ||| 2 ^ b < 2 ^ nb := Nat.or_lt_two_pow htl (Nat.pow_lt_pow_right (by decide) hb)
        have hGl := Gn_lt (A := A) h9 (t ||| 2 ^ b)
        rw [if_neg xbt, shl_eq (by omega), ny_or, if_pos (inr_lt (by omega) (by decide)), nI_clamp (by omega), hG _ hor]
        by_cases e2 : Gn A nb (t ||| 2 ^ b) = 0
        · rw [if_pos (by rw [e2]; decide)]
          exact hskip (fun z => by have := z.2.2.2; omega)
        · have hQ : QQ A nb (stg F nt) b t := ⟨htl, hCp, ec, by omega⟩
          have hpc : nt ≤ pcn nb t := by
            have := pcn_mono (n := nb) (fun i _ hi => (Cn_good hCp).1 i hi)
            rw [h.pc] at this
            exact this
          have hp9 := pcn_le nb t
          have hpt : pcn 9 t = pcn nb t := pcn_top htl h9
          rw [if_neg (nI_nle (by omega) hGl)]
          unfold X6_place_L109 X6_place_L142
          simp only [bits_eq (show t < 512 by omega), Option.bind_some, hpt, h.b2, nI_sub hpc, if_neg (show ¬ (1 : Int32) = 0 by decide), nI_1]
          have hmost : X6_most (nI g) (nI (pcn nb t - nt)) = nI (if g ≤ pcn nb t - nt then pcn nb t - nt else g) := by
            unfold X6_most
            by_cases e : g ≤ pcn nb t - nt
            · rw [if_pos (nI_le e (by omega)), if_pos e]
            · rw [if_neg (nI_ge (by omega) (by omega)), if_neg e]
          rw [hmost]
          have fin : ∀ l2, l2 ≤ 9 → l2 ≤ l → l2 ≤ pcn nb t - nt → (l2 = 9 ∨ ∃ u, QQ A nb (stg F nt) b u ∧ l2 = pcn nb u - nt) → ∃ l' g', X6_place_L62 s f6 n (nI b) (nI w) (nI l2) (nI (if g ≤ pcn nb t - nt then pcn nb t - nt else g)) (nI (t + 1)) C G = some ((if w = 0 then nI l' else nI g'), f6, C, G) ∧ l' ≤ 9 ∧ g' ≤ 9 ∧ (l' = 9 ∨ ∃ u, QQ A nb (stg F nt) b u ∧ l' = pcn nb u - nt) ∧ (g' = 0 ∨ ∃ u, QQ A nb (stg F nt) b u ∧ g' = pcn nb u - nt) ∧ ∀ u, QQ A nb (stg F nt) b u → l' ≤ pcn nb u - nt ∧ pcn nb u - nt ≤ g' := by
            intro l2 k1 k2 k3 k4
            refine ih (t + 1) n l2 _ (by omega) (by omega) k1 (by split <;> omega) k4 ?_ (fun u hu hQu => ?_)
            · by_cases e : g ≤ pcn nb t - nt
              · rw [if_pos e]; exact Or.inr ⟨t, hQ, rfl⟩
              · rw [if_neg e]; exact a2
            · by_cases eu : u = t
              · subst eu
                refine ⟨k3, ?_⟩
                split <;> omega
              · obtain ⟨m1, m2⟩ := a3 u (by omega) hQu
                refine ⟨by omega, ?_⟩
                split <;> omega
          by_cases e3 : l ≤ pcn nb t - nt
          · rw [if_pos (nI_le e3 (by omega))]
            exact fin l hl (Nat.le_refl _) e3 a1
          · rw [if_neg (nI_ge (by omega) (by omega))]
            exact fin _ (by omega) (by omega) (Nat.le_refl _) (Or.inr ⟨t, hQ, rfl⟩)
    · have hz : (if t < 2 ^ nb then Cn A nb (stg F nt) t else 0) = 0 := by
        by_cases e : t < 2 ^ nb
        · rw [if_pos e]
          rcases Nat.eq_zero_or_pos (Cn A nb (stg F nt) t) with z | z
          · exact z
          · exact absurd ⟨e, z⟩ e1
        · rw [if_neg e]
      rw [hz, if_pos (by decide)]
      exact hskip (fun z => e1 ⟨z.1, z.2.1⟩)
theorem p_place (h : SP s bw th cm hd ck zz kd lo se ah ru sg no ti sp nb nt K L E A R F) (hf : FR f5 f6) (c3211 c3212 c3213 c3214 : Int32) (c3300 c3400 c3500 c5900 c6000 : Nat → Int32) (v1 v2 : Int32) :
    ∃ r5 r6, X5_place f5 bw th cm kd lo ah sg c3211 c3212 c3213 c3214 c3300 c3400 c3500 v1 v2 = some r5 ∧ X6_place s f6 c5900 c6000 v1 v2 = some r6 ∧ r5.1 = r6.1 ∧ FR r5.2.1 r6.2.1 := by
  have h9 := h.h9
  have h2 := two_lt h9
  have hc := h.c_lt
  have hpos := Nat.two_pow_pos nb
  obtain ⟨i1, i2⟩ := h.ib v1
  unfold X5_place X6_place X2_hasCome
  simp only [f5_0, f6_0, f5_3, f6_3, f5_4, f6_4, Option.bind_some, isIn_eq, i1, h.stage]
  cases hi : X2_isBow bw v1 with
  | false =>
    simp only [if_pos xbf]
    exact ⟨_, _, rfl, rfl, rfl, hf.up 0 (by decide)⟩
  | true =>
    obtain ⟨b, hb, rfl⟩ := i2 hi
    cases hi2 : X5_isIn v2 0 1 with
    | false =>
      simp only [if_neg xbt, if_pos xbf]
      exact ⟨_, _, rfl, rfl, rfl, hf.up 0 (by decide)⟩
    | true =>
      obtain ⟨w, hw1, rfl⟩ := isIn_t (n := 1) (by decide) hi2
      rw [h.cm_, isIn_tb (by omega) (by omega)]
      cases hcb : (stg F nt).testBit b with
      | true =>
        rw [if_neg (show ¬ nI (stg F nt) &&& xshl 1 (nI b) = 0 from fun z => by rw [bit_eq (by omega) (by omega), hcb] at z; cases z)]
        simp only [if_neg xbt]
        exact ⟨_, _, rfl, rfl, rfl, hf.up 4 (by decide)⟩
      | false =>
        rw [if_pos ((bit_eq (show stg F nt < 2 ^ 31 by omega) (show b < 31 by omega)).mpr hcb), ← h.cm_]
        obtain ⟨kd', lo', ah', g1, g2, g3⟩ := h.start c3300 c3400 c3500
        obtain ⟨C, G, e1, e2, e3⟩ := h.counts c5900 c6000
        have hGl := Gn_lt (A := A) h9 (stg F nt)
        have hA : ∀ b, b < nb → A b < 2 ^ nb := fun b hb => (h.cc hb).2.2.2.2.1
        simp only [if_neg xbt, if_pos xbf, g1, Option.bind_some, have_eq h9 g3 hc, e1]
        cases hw : way A nb (stg F nt) with
        | false =>
          have hg0 : Gn A nb (stg F nt) = 0 := by
            rcases Nat.eq_zero_or_pos (Gn A nb (stg F nt)) with hz | hz
            · exact hz
            · have := (G_iff h9 hc).mp hz
              rw [hw] at this; cases this
          simp only [if_pos xbf, hg0, if_pos (show nI 0 = (0 : Int32) from rfl)]
          exact ⟨_, _, rfl, rfl, rfl, hf.up 3 (by decide)⟩
        | true =>
          have hgp : 0 < Gn A nb (stg F nt) := (G_iff h9 hc).mpr hw
          obtain ⟨l, g, q1, q2, q3, q4, q5, q6⟩ := place6 h f6 hb hw1 e2 e3 512 0 FU 9 0 (by omega) (by unfold FU; omega) (by omega) (by omega) (Or.inl rfl) (Or.inl rfl) (fun u hu => absurd hu (Nat.not_lt_zero u))
          have q1 : X6_place_L62 s f6 FU (nI b) (nI w) 9 0 0 C G = _ := q1
          obtain ⟨a1, a2, a3⟩ := early h9 hA hw hc hb hcb
          obtain ⟨u, b1, b2, b3⟩ := late h9 hA (h.cc hb).2.2.2.2.2 hw hc hb hcb
          have hpc := h.pc
          have hp1 := pcn_le nb (stg F nt ||| DD A nb (stg F nt) b)
          have hD9 : DD A nb (stg F nt) b < 2 ^ nb := DD_lt hA hb
          have hl : l = pcn nb (DD A nb (stg F nt) b) := by
            have m1 := (q6 _ a1).1
            rw [a2, hpc] at m1
            have m2 : pcn nb (DD A nb (stg F nt) b) < 9 := by
              have hself := DD_self hw hc hb hcb
              have m3 := pcn_lt (n := nb) (x := DD A nb (stg F nt) b) (y := 2 ^ nb - 1) hb (fun i hi _ => full_tb hi) hself (full_tb hb)
              have := pcn_le nb (2 ^ nb - 1)
              omega
            rcases q4 with m4 | ⟨v, m4, m5⟩
            · omega
            · have := a3 v m4
              rw [hpc] at this
              omega
          have hg : g = nb - nt - 1 - pcn nb (UU A nb (stg F nt) b) := by
            have m1 := (q6 _ b1).2
            have hcu : nt ≤ pcn nb u := by
              have := pcn_mono (n := nb) (fun i _ hi => (Cn_good b1.2.1).1 i hi)
              rw [hpc] at this
              exact this
            rcases q5 with m4 | ⟨v, m4, m5⟩
            · omega
            · have := b3 v m4
              omega
          have h5e : X1_earliest (nI nb) (nI (stg F nt)) (nI (2 ^ nb - 1)) ah' (nI b) = some (nI l) := by
            unfold X1_earliest
            rw [ny_nd, all_eq h9 g3 hb (nd_lt (by omega)), Option.bind_some]
            rw [show cls (fun k => A k &&& nd (2 ^ nb - 1) (stg F nt)) nb (A b &&& nd (2 ^ nb - 1) (stg F nt)) = DD A nb (stg F nt) b from rfl, bc_eq (by omega), pcn_top hD9 h9, hl]
          have h5l : X1_latest (nI nb) (nI (stg F nt)) (nI (2 ^ nb - 1)) ah' (nI b) = some (nI g) := by
            have hcu : nt ≤ pcn nb u := by
              have := pcn_mono (n := nb) (fun i _ hi => (Cn_good b1.2.1).1 i hi)
              rw [hpc] at this
              exact this
            rw [late5 h9 g3 hc hb, hpc, show (1 : Int32) = nI 1 from rfl, nI_sub (by omega), nI_sub (by omega), hg]
          simp only [if_neg xbt, if_neg (nI_ne0 hgp hGl), q1, h5e, h5l, Option.bind_some]
          rcases Nat.eq_zero_or_pos w with e | e
          · rw [if_pos (show nI w = 0 by rw [e]; rfl), if_pos e]
            exact ⟨_, _, rfl, rfl, rfl, hf⟩
          · rw [if_neg (show ¬ nI w = 0 from nI_ne0 e (by omega)), if_neg (show ¬ w = 0 by omega)]
            exact ⟨_, _, rfl, rfl, rfl, hf⟩
end
