/-! closures: all, clash, is there a way -/
def itf (f : Nat → Nat) : Nat → Nat → Nat
  | 0, x => x
  | r + 1, x => itf f r (f x)
theorem sub_le {x y : Nat} (h : ∀ i, x.testBit i = true → y.testBit i = true) : x ≤ y := by
  have : y &&& x = x := by
    apply Nat.eq_of_testBit_eq
    intro i
    rw [Nat.testBit_and]
    cases e : x.testBit i with
    | false => rw [Bool.and_false]
    | true => rw [h i e]; rfl
  rw [← this]
  exact Nat.and_le_left
theorem pcn_ne {n x y : Nat} (hx : x < 2 ^ n) (hy : y < 2 ^ n) (h : ∀ i, x.testBit i = true → y.testBit i = true) (hne : ¬ y = x) : pcn n x < pcn n y := by
  by_cases e : ∃ j, j < n ∧ x.testBit j = false ∧ y.testBit j = true
  · obtain ⟨j, h1, h2, h3⟩ := e
    exact pcn_lt h1 (fun i _ => h i) h2 h3
  · exfalso
    apply hne
    apply set_ext hy hx
    intro i hi
    cases e1 : x.testBit i with
    | true => exact h i e1
    | false =>
      cases e2 : y.testBit i with
      | false => rfl
      | true => exact absurd ⟨i, hi, e1, e2⟩ e
theorem itf_const {f : Nat → Nat} {x : Nat} (h : f x = x) : ∀ r, itf f r x = x := by
  intro r
  induction r with
  | zero => rfl
  | succ r ih => rw [itf, h, ih]
theorem itf_P {f : Nat → Nat} {P : Nat → Prop} (h : ∀ x, P x → P (f x)) : ∀ r x, P x → P (itf f r x) := by
  intro r
  induction r with
  | zero => intro x hx; exact hx
  | succ r ih => intro x hx; exact ih _ (h x hx)
theorem itf_grow {f : Nat → Nat} {n : Nat} (h1 : ∀ x, x < 2 ^ n → f x < 2 ^ n) (h2 : ∀ x, x < 2 ^ n → ∀ i, x.testBit i = true → (f x).testBit i = true) : ∀ r x, x < 2 ^ n → f (itf f r x) = itf f r x ∨ r + pcn n x ≤ pcn n (itf f r x) := by
  intro r
  induction r with
  | zero => intro x hx; right; rw [itf]; omega
  | succ r ih =>
    intro x hx
    rw [itf]
    by_cases e : f x = x
    · left
      rw [e, itf_const e, e]
    · rcases ih (f x) (h1 x hx) with h | h
      · exact Or.inl h
      · right
        have := pcn_ne hx (h1 x hx) (h2 x hx) e
        omega
theorem itf_fix {f : Nat → Nat} {n : Nat} (h1 : ∀ x, x < 2 ^ n → f x < 2 ^ n) (h2 : ∀ x, x < 2 ^ n → ∀ i, x.testBit i = true → (f x).testBit i = true) {x : Nat} (hx : x < 2 ^ n) : f (itf f n x) = itf f n x := by
  rcases itf_grow h1 h2 n x hx with h | h
  · exact h
  · have hlt : itf f n x < 2 ^ n := itf_P (P := fun x => x < 2 ^ n) h1 n x hx
    have hall := pcn_full (n := n) (x := itf f n x) (by omega)
    apply set_ext (h1 _ hlt) hlt
    intro i hi
    rw [hall i hi, h2 _ hlt i (hall i hi)]
theorem itf_more {f : Nat → Nat} {n m : Nat} (h1 : ∀ x, x < 2 ^ n → f x < 2 ^ n) (h2 : ∀ x, x < 2 ^ n → ∀ i, x.testBit i = true → (f x).testBit i = true) {x : Nat} (hx : x < 2 ^ n) (hm : n ≤ m) : itf f m x = itf f n x := by
  have add : ∀ a b x, itf f (a + b) x = itf f b (itf f a x) := by
    intro a
    induction a with
    | zero => intro b x; rw [Nat.zero_add]; rfl
    | succ a ih => intro b x; rw [show a + 1 + b = (a + b) + 1 by omega, itf, ih]; rfl
  rw [show m = n + (m - n) by omega, add, itf_const (itf_fix h1 h2 hx)]
/-- a pass: who is in the set brings B of it -/
def pas (B : Nat → Nat) : Nat → Nat → Nat → Nat
  | _, 0, s => s
  | k, d + 1, s => pas B (k + 1) d (if s.testBit k = true then s ||| B k else s)
theorem pas_P {B : Nat → Nat} {P : Nat → Prop} {m : Nat} (h : ∀ k x, k < m → x.testBit k = true → P x → P (x ||| B k)) : ∀ d k x, k + d ≤ m → P x → P (pas B k d x) := by
  intro d
  induction d with
  | zero => intro k x _ hx; exact hx
  | succ d ih =>
    intro k x hk hx
    rw [pas]
    apply ih _ _ (by omega)
    by_cases e : x.testBit k = true
    · rw [if_pos e]; exact h k x (by omega) e hx
    · rw [if_neg e]; exact hx
theorem pas_lt {B : Nat → Nat} {n : Nat} (hB : ∀ k, k < n → B k < 2 ^ n) {x : Nat} (hx : x < 2 ^ n) : pas B 0 n x < 2 ^ n :=
  pas_P (P := fun x => x < 2 ^ n) (m := n) (fun k x hk _ hx => Nat.or_lt_two_pow hx (hB k hk)) n 0 x (by omega) hx
theorem pas_sub (B : Nat → Nat) (n : Nat) (x i : Nat) (h : x.testBit i = true) : (pas B 0 n x).testBit i = true :=
  pas_P (P := fun y => y.testBit i = true) (m := n) (fun k y _ _ hy => by rw [Nat.testBit_or, hy]; rfl) n 0 x (by omega) h
theorem pas_mono {B : Nat → Nat} {i : Nat} : ∀ d k x, x.testBit i = true → (pas B k d x).testBit i = true := by
  intro d
  induction d with
  | zero => intro k x h; exact h
  | succ d ih =>
    intro k x h
    rw [pas]
    apply ih
    split
    · rw [Nat.testBit_or, h]; rfl
    · exact h
theorem pas_in {B : Nat → Nat} : ∀ d k x j, k ≤ j → j < k + d → x.testBit j = true → ∀ i, (B j).testBit i = true → (pas B k d x).testBit i = true := by
  intro d
  induction d with
  | zero => intro k x j h1 h2; omega
  | succ d ih =>
    intro k x j h1 h2 hj i hi
    rw [pas]
    by_cases e : j = k
    · subst e
      apply pas_mono
      rw [if_pos hj, Nat.testBit_or, hi, Bool.or_true]
    · apply ih (k + 1) _ j (by omega) (by omega) _ i hi
      split
      · rw [Nat.testBit_or, hj]; rfl
      · exact hj
/-- all that must come ahead, by B -/
def cls (B : Nat → Nat) (n x : Nat) : Nat := itf (pas B 0 n) n x
theorem cls_lt {B : Nat → Nat} {n x : Nat} (hB : ∀ k, k < n → B k < 2 ^ n) (hx : x < 2 ^ n) : cls B n x < 2 ^ n :=
  itf_P (P := fun x => x < 2 ^ n) (fun _ h => pas_lt hB h) n x hx
theorem cls_sub {B : Nat → Nat} {n x i : Nat} (h : x.testBit i = true) : (cls B n x).testBit i = true :=
  itf_P (P := fun x => x.testBit i = true) (fun y h => pas_sub B n y i h) n x h
theorem cls_closed {B : Nat → Nat} {n x : Nat} (hB : ∀ k, k < n → B k < 2 ^ n) (hx : x < 2 ^ n) {j : Nat} (hj : (cls B n x).testBit j = true) {i : Nat} (hi : (B j).testBit i = true) : (cls B n x).testBit i = true := by
  have h1 := itf_fix (f := pas B 0 n) (n := n) (fun x h => pas_lt hB h) (fun x _ i h => pas_sub B n x i h) hx
  have hjn : j < n := by
    rcases Nat.lt_or_ge j n with h | h
    · exact h
    · rw [testBit_lt (cls_lt hB hx) h] at hj; cases hj
  have h2 := pas_in (B := B) n 0 (cls B n x) j (by omega) (by omega) hj i hi
  have h3 : pas B 0 n (cls B n x) = cls B n x := h1
  rw [h3] at h2
  exact h2
theorem cls_min {B : Nat → Nat} {n x S : Nat} (hx : ∀ i, x.testBit i = true → S.testBit i = true) (hS : ∀ j, j < n → S.testBit j = true → ∀ i, (B j).testBit i = true → S.testBit i = true) : ∀ i, (cls B n x).testBit i = true → S.testBit i = true := by
  have := itf_P (f := pas B 0 n) (P := fun y => ∀ i, y.testBit i = true → S.testBit i = true) (fun y hy => pas_P (P := fun y => ∀ i, y.testBit i = true → S.testBit i = true) (m := n) (fun k z hk hz hP i hi => by
    rw [Nat.testBit_or, Bool.or_eq_true] at hi
    rcases hi with hi | hi
    · exact hP i hi
    · exact hS k hk (hP k hz) i hi) n 0 y (by omega) hy) n x hx
  exact this
theorem pas_cg {B C : Nat → Nat} : ∀ d k x, (∀ j, k ≤ j → j < k + d → B j = C j) → pas B k d x = pas C k d x := by
  intro d
  induction d with
  | zero => intro k x _; rfl
  | succ d ih =>
    intro k x h
    rw [pas, pas, h k (by omega) (by omega)]
    exact ih _ _ (fun j h1 h2 => h j (by omega) (by omega))
/-- a pass: who can come behind the set comes -/
def wps (A : Nat → Nat) : Nat → Nat → Nat → Nat
  | _, 0, s => s
  | k, d + 1, s => wps A (k + 1) d (if canF A k s = true then s ||| 2 ^ k else s)
theorem wps_P {A : Nat → Nat} {P : Nat → Prop} {m : Nat} (h : ∀ k x, k < m → canF A k x = true → P x → P (x ||| 2 ^ k)) : ∀ d k x, k + d ≤ m → P x → P (wps A k d x) := by
  intro d
  induction d with
  | zero => intro k x _ hx; exact hx
  | succ d ih =>
    intro k x hk hx
    rw [wps]
    apply ih _ _ (by omega)
    by_cases e : canF A k x = true
    · rw [if_pos e]; exact h k x (by omega) e hx
    · rw [if_neg e]; exact hx
theorem wps_lt (A : Nat → Nat) {n x : Nat} (hx : x < 2 ^ n) : wps A 0 n x < 2 ^ n :=
  wps_P (P := fun x => x < 2 ^ n) (m := n) (fun k x hk _ hx => Nat.or_lt_two_pow hx (Nat.pow_lt_pow_right (by decide) hk)) n 0 x (by omega) hx
theorem wps_sub (A : Nat → Nat) (n x i : Nat) (h : x.testBit i = true) : (wps A 0 n x).testBit i = true :=
  wps_P (P := fun y => y.testBit i = true) (m := n) (fun k y _ _ hy => by rw [Nat.testBit_or, hy]; rfl) n 0 x (by omega) h
theorem wps_mono {A : Nat → Nat} {i : Nat} : ∀ d k x, x.testBit i = true → (wps A k d x).testBit i = true := by
  intro d
  induction d with
  | zero => intro k x h; exact h
  | succ d ih =>
    intro k x h
    rw [wps]
    apply ih
    split
    · rw [Nat.testBit_or, h]; rfl
    · exact h
theorem wps_in {A : Nat → Nat} : ∀ d k x j, k ≤ j → j < k + d → nd (A j) x = 0 → (wps A k d x).testBit j = true := by
  intro d
  induction d with
  | zero => intro k x j h1 h2; omega
  | succ d ih =>
    intro k x j h1 h2 hj
    rw [wps]
    by_cases e : j = k
    · subst e
      apply wps_mono
      by_cases e2 : canF A j x = true
      · rw [if_pos e2, Nat.testBit_or, Nat.testBit_two_pow_self, Bool.or_true]
      · rw [if_neg e2]
        cases e3 : x.testBit j with
        | true => rfl
        | false => exact absurd (canF_iff.mpr ⟨e3, hj⟩) e2
    · apply ih (k + 1) _ j (by omega) (by omega)
      split
      · rw [nd_z] at hj ⊢
        intro i hi
        rw [Nat.testBit_or, hj i hi]; rfl
      · exact hj
def wcl (A : Nat → Nat) (n c : Nat) : Nat := itf (wps A 0 n) n c
theorem wcl_lt (A : Nat → Nat) {n c : Nat} (hc : c < 2 ^ n) : wcl A n c < 2 ^ n := itf_P (P := fun x => x < 2 ^ n) (fun _ h => wps_lt A h) n c hc
theorem wcl_sub {A : Nat → Nat} {n c i : Nat} (h : c.testBit i = true) : (wcl A n c).testBit i = true := itf_P (P := fun x => x.testBit i = true) (fun y h => wps_sub A n y i h) n c h
theorem wcl_closed {A : Nat → Nat} {n c : Nat} (hc : c < 2 ^ n) {j : Nat} (hj : j < n) (h : nd (A j) (wcl A n c) = 0) : (wcl A n c).testBit j = true := by
  have h1 : wps A 0 n (wcl A n c) = wcl A n c := itf_fix (f := wps A 0 n) (n := n) (fun x h => wps_lt A h) (fun x _ i h => wps_sub A n x i h) hc
  have h2 := wps_in (A := A) n 0 (wcl A n c) j (by omega) (by omega) h
  rw [h1] at h2
  exact h2
theorem wcl_P {A : Nat → Nat} {n c : Nat} {P : Nat → Prop} (h : ∀ k x, k < n → canF A k x = true → P x → P (x ||| 2 ^ k)) (hc : P c) : P (wcl A n c) :=
  itf_P (f := wps A 0 n) (P := P) (fun y hy => wps_P (P := P) (m := n) h n 0 y (by omega) hy) n c hc
theorem wcl_min {A : Nat → Nat} {n c S : Nat} (hc : ∀ i, c.testBit i = true → S.testBit i = true) (hS : ∀ j, j < n → nd (A j) S = 0 → S.testBit j = true) : ∀ i, (wcl A n c).testBit i = true → S.testBit i = true :=
  wcl_P (P := fun y => ∀ i, y.testBit i = true → S.testBit i = true) (fun k x hk hcan hP i hi => by
    rw [Nat.testBit_or, Nat.testBit_two_pow, Bool.or_eq_true, decide_eq_true_iff] at hi
    rcases hi with hi | hi
    · exact hP i hi
    · subst hi
      apply hS k hk
      have := (canF_iff.mp hcan).2
      rw [nd_z] at this ⊢
      intro i hi
      exact hP i (this i hi)) hc
/-- there is a way -/
def way (A : Nat → Nat) (n c : Nat) : Bool := decide (wcl A n c = 2 ^ n - 1)
/-- arrays that hold the bows -/
def CO (ah : Nat → Int32) (nb : Nat) (A : Nat → Nat) : Prop := ∀ b, b < nb → ah b = nI (A b) ∧ A b < 2 ^ nb
section
variable {s s' kd lo se ah ru sg no ti sp f5 f6 : Nat → Int32} {bw th cm hd ck zz : Int32} {nb nt : Nat} {K L E A R F : Nat → Nat}
theorem have_eq (h9 : nb ≤ 9) (hco : CO ah nb A) {c : Nat} (hc : c < 2 ^ nb) : X1_haveWay (nI nb) (nI c) (nI (2 ^ nb - 1)) ah = some (way A nb c) := by
  have h2 := two_lt h9
  have inner : ∀ (k7 : Int32 → Int32 → Option Bool) v d k n x, k + d = nb → d < n → x < 2 ^ nb → X1_haveWay_L17 k7 (nI nb) ah n (nI x) v (nI k) = k7 (nI (wps A k d x)) (v + 1) := by
    intro k7 v d
    induction d with
    | zero =>
      intro k n x hk hn hx
      obtain ⟨n, rfl⟩ : ∃ m, n = m + 1 := ⟨n - 1, by omega⟩
      rw [X1_haveWay_L17, if_pos (nI_le (by omega) (by omega)), wps]
    | succ d ih =>
      intro k n x hk hn hx
      obtain ⟨n, rfl⟩ : ∃ m, n = m + 1 := ⟨n - 1, by omega⟩
      obtain ⟨e1, e2⟩ := hco k (by omega)
      rw [X1_haveWay_L17, if_neg (nI_ge (by omega) (by omega)), follow_eq (by omega) e1 (by omega) (by omega), Option.bind_some, nI_1, wps]
      cases e : canF A k x with
      | false => rw [if_pos xbf, if_neg (by decide)]; exact ih (k + 1) n x (by omega) (by omega) hx
      | true => rw [if_neg xbt, if_pos rfl, shl_eq (by omega), ny_or]; exact ih (k + 1) n _ (by omega) (by omega) (Nat.or_lt_two_pow hx (Nat.pow_lt_pow_right (by decide) (by omega)))
  have outer : ∀ e r n x, r + e = nb → e < n → x < 2 ^ nb → X1_haveWay_L7 (nI nb) (nI (2 ^ nb - 1)) ah n (nI x) (nI r) = some (decide (itf (wps A 0 nb) e x = 2 ^ nb - 1)) := by
    intro e
    induction e with
    | zero =>
      intro r n x hr hn hx
      obtain ⟨n, rfl⟩ : ∃ m, n = m + 1 := ⟨n - 1, by omega⟩
      rw [X1_haveWay_L7, if_pos (nI_le (by omega) (by omega)), itf]
      by_cases e : x = 2 ^ nb - 1
      · rw [if_pos (by rw [e]), decide_eq_true e]
      · rw [if_neg (fun z => e ((nI_eq (by omega) (by omega)).mp z)), decide_eq_false e]
    | succ e ih =>
      intro r n x hr hn hx
      obtain ⟨n, rfl⟩ : ∃ m, n = m + 1 := ⟨n - 1, by omega⟩
      have h1 := inner (fun v10 v20 => X1_haveWay_L7 (nI nb) (nI (2 ^ nb - 1)) ah n v10 v20) (nI r) nb 0 FU x (by omega) (by unfold FU; omega) hx
      rw [X1_haveWay_L7, if_neg (nI_ge (by omega) (by omega)), show (0 : Int32) = nI 0 from rfl, h1, nI_1, itf]
      exact ih (r + 1) n _ (by omega) (by omega) (wps_lt A hx)
  exact outer nb 0 FU c (by omega) (by unfold FU; omega) hc
theorem all_eq (h9 : nb ≤ 9) (hco : CO ah nb A) {b w : Nat} (hb : b < nb) (hw : w < 2 ^ nb) : X1_allAhead (nI nb) ah (nI b) (nI w) = some (nI (cls (fun k => A k &&& w) nb (A b &&& w))) := by
  have h2 := two_lt h9
  have inner : ∀ (k12 : Int32 → Int32 → Int32 → Option Int32) v d k n x, k + d = nb → d < n → x < 2 ^ nb → X1_allAhead_L24 k12 (nI nb) ah n (nI w) (nI x) v (nI k) = k12 (nI w) (nI (pas (fun k => A k &&& w) k d x)) (v + 1) := by
    intro k12 v d
    induction d with
    | zero =>
      intro k n x hk hn hx
      obtain ⟨n, rfl⟩ : ∃ m, n = m + 1 := ⟨n - 1, by omega⟩
      rw [X1_allAhead_L24, if_pos (nI_le (by omega) (by omega)), pas]
    | succ d ih =>
      intro k n x hk hn hx
      obtain ⟨n, rfl⟩ : ∃ m, n = m + 1 := ⟨n - 1, by omega⟩
      obtain ⟨e1, e2⟩ := hco k (by omega)
      rw [X1_allAhead_L24, if_neg (nI_ge (by omega) (by omega)), nI_1, pas]
      cases e : x.testBit k with
      | false => rw [if_pos ((bit_eq (by omega) (by omega)).mpr e), if_neg (by decide)]; exact ih (k + 1) n x (by omega) (by omega) hx
      | true =>
        rw [if_neg (fun z => by rw [bit_eq (by omega) (by omega), e] at z; cases z), if_pos (inr_lt (by omega) (by decide)), if_pos rfl, nI_clamp (by omega), e1, ny_and, ny_or]
        exact ih (k + 1) n _ (by omega) (by omega) (Nat.or_lt_two_pow hx (Nat.lt_of_le_of_lt Nat.and_le_left e2))
  have outer : ∀ e r n x, r + e = nb → e < n → x < 2 ^ nb → X1_allAhead_L12 (nI nb) ah n (nI w) (nI x) (nI r) = some (nI (itf (pas (fun k => A k &&& w) 0 nb) e x)) := by
    intro e
    induction e with
    | zero =>
      intro r n x hr hn hx
      obtain ⟨n, rfl⟩ : ∃ m, n = m + 1 := ⟨n - 1, by omega⟩
      rw [X1_allAhead_L12, if_pos (nI_le (by omega) (by omega)), itf]
    | succ e ih =>
      intro r n x hr hn hx
      obtain ⟨n, rfl⟩ : ∃ m, n = m + 1 := ⟨n - 1, by omega⟩
      have h1 := inner (fun v20 v30 v40 => X1_allAhead_L12 (nI nb) ah n v20 v30 v40) (nI r) nb 0 FU x (by omega) (by unfold FU; omega) hx
      rw [X1_allAhead_L12, if_neg (nI_ge (by omega) (by omega)), show (0 : Int32) = nI 0 from rfl, h1, nI_1, itf]
      exact ih (r + 1) n _ (by omega) (by omega) (pas_lt (fun k hk => Nat.lt_of_le_of_lt Nat.and_le_left (hco k hk).2) hx)
  obtain ⟨e1, e2⟩ := hco b hb
  unfold X1_allAhead
  rw [if_pos (inr_lt (by omega) (by decide)), nI_clamp (by omega), e1, ny_and]
  exact outer nb 0 FU _ (by omega) (by unfold FU; omega) (Nat.lt_of_le_of_lt Nat.and_le_left e2)
theorem and_full {x n : Nat} (h : x < 2 ^ n) : x &&& (2 ^ n - 1) = x := Nat.and_two_pow_sub_one_of_lt_two_pow h
theorem SP.co (h : SP s bw th cm hd ck zz kd lo se ah ru sg no ti sp nb nt K L E A R F) : CO ah nb A := fun b hb => ⟨(h.cb hb).2.2.2, (h.cc hb).2.2.2.2.1⟩
theorem SP.all6 (h : SP s bw th cm hd ck zz kd lo se ah ru sg no ti sp nb nt K L E A R F) {b : Nat} (hb : b < nb) : X6_allAhead s (nI b) = some (nI (cls A nb (A b))) := by
  have h9 := h.h9
  have h2 := two_lt h9
  have hA : ∀ k, k < nb → A k < 2 ^ nb := fun k hk => (h.cc hk).2.2.2.2.1
  have inner : ∀ (k9 : Int32 → Int32 → Option Int32) v d k n x, k + d = nb → d < n → x < 2 ^ nb → X6_allAhead_L18 k9 s n (nI x) v (nI k) = k9 (nI (pas A k d x)) (v + 1) := by
    intro k9 v d
    induction d with
    | zero =>
      intro k n x hk hn hx
      obtain ⟨n, rfl⟩ : ∃ m, n = m + 1 := ⟨n - 1, by omega⟩
      rw [X6_allAhead_L18, h.b3, if_pos (nI_le (by omega) (by omega)), pas]
    | succ d ih =>
      intro k n x hk hn hx
      obtain ⟨n, rfl⟩ : ∃ m, n = m + 1 := ⟨n - 1, by omega⟩
      rw [X6_allAhead_L18, h.b3, if_neg (nI_ge (by omega) (by omega)), isIn_tb (by omega) (by omega), nI_1, pas]
      cases e : x.testBit k with
      | false => rw [if_pos xbf, if_neg (by decide), ny_or0]; exact ih (k + 1) n x (by omega) (by omega) hx
      | true =>
        rw [if_neg xbt, if_pos rfl, ge3 s (by omega), Option.bind_some, (h.ca (show k < nb by omega)).2.2.2, ny_or]
        exact ih (k + 1) n _ (by omega) (by omega) (Nat.or_lt_two_pow hx (hA k (by omega)))
  have outer : ∀ e r n x, r + e = 9 → e < n → x < 2 ^ nb → X6_allAhead_L9 s n (nI x) (nI r) = some (nI (itf (pas A 0 nb) e x)) := by
    intro e
    induction e with
    | zero =>
      intro r n x hr hn hx
      obtain ⟨n, rfl⟩ : ∃ m, n = m + 1 := ⟨n - 1, by omega⟩
      rw [X6_allAhead_L9, if_pos (show (9 : Int32) ≤ nI r from nI_le (a := 9) (by omega) (by omega)), itf]
    | succ e ih =>
      intro r n x hr hn hx
      obtain ⟨n, rfl⟩ : ∃ m, n = m + 1 := ⟨n - 1, by omega⟩
      have h1 := inner (fun v20 v30 => X6_allAhead_L9 s n v20 v30) (nI r) nb 0 FU x (by omega) (by unfold FU; omega) hx
      rw [X6_allAhead_L9, if_neg (show ¬ (9 : Int32) ≤ nI r from nI_ge (b := 9) (by omega) (by omega)), show (0 : Int32) = nI 0 from rfl, h1, nI_1, itf]
      exact ih (r + 1) n _ (by omega) (by omega) (pas_lt hA hx)
  unfold X6_allAhead
  rw [ge3 s (by omega), Option.bind_some, (h.ca hb).2.2.2]
  have := outer 9 0 FU (A b) (by omega) (by unfold FU; omega) (hA b hb)
  rw [itf_more (n := nb) (fun x hx => pas_lt hA hx) (fun x _ i hi => pas_sub A nb x i hi) (hA b hb) h9] at this
  exact this
/-- what the class starts from -/
theorem SP.start (h : SP s bw th cm hd ck zz kd lo se ah ru sg no ti sp nb nt K L E A R F) (c1 c2 c3 : Nat → Int32) : ∃ kd' lo' ah' : Nat → Int32, X1_startFrom bw th cm kd lo ah sg c1 c2 c3 = some (nI nb, nI (stg F nt), (if nt = 0 then 9 else nI (F (nt - 1))), nI (2 ^ nb - 1), kd', lo', ah') ∧ (∀ b, b < nb → kd' b = nI (K b) ∧ lo' b = nI (L b)) ∧ CO ah' nb A := by
  have h9 := h.h9
  have ht := h.ht
  have hk : ∀ b, b < nb → va_cpy kd c1 (Int32.toNatClampNeg 0) (Int32.toNatClampNeg 0) (Int32.toNatClampNeg 9) b = nI (K b) ∧ va_cpy lo c2 (Int32.toNatClampNeg 0) (Int32.toNatClampNeg 0) (Int32.toNatClampNeg 9) b = nI (L b) := fun b hb => ⟨by rw [cpy9 _ _ (by omega), (h.cb hb).1], by rw [cpy9 _ _ (by omega), (h.cb hb).2.1]⟩
  have ha : CO (va_cpy ah c3 (Int32.toNatClampNeg 0) (Int32.toNatClampNeg 0) (Int32.toNatClampNeg 9)) nb A := fun b hb => ⟨by rw [cpy9 _ _ (by omega), (h.cb hb).2.2.2], (h.cc hb).2.2.2.2.1⟩
  unfold X1_startFrom X1_startFrom_L40
  rw [h.bw_, h.th_, h.cm_, full_eq h9]
  rcases nt with _ | n
  · rw [if_pos (show nI 0 = (0 : Int32) from rfl), if_pos rfl]
    exact ⟨_, _, _, rfl, hk, ha⟩
  · rw [if_neg (nI_ne0 (Nat.succ_pos n) (by omega)), nI_pred, if_pos (inr_lt (by omega) (by decide)), nI_clamp (by omega), (h.who (show n < n + 1 by omega)).2, if_neg (Nat.succ_ne_zero n), Nat.add_sub_cancel]
    exact ⟨_, _, _, rfl, hk, ha⟩
theorem p_all (h : SP s bw th cm hd ck zz kd lo se ah ru sg no ti sp nb nt K L E A R F) (hf : FR f5 f6) (c3211 c3212 c3213 c3214 : Int32) (c3300 c3400 c3500 : Nat → Int32) (v1 : Int32) :
    ∃ r5 r6, X5_all f5 bw th cm kd lo ah sg c3211 c3212 c3213 c3214 c3300 c3400 c3500 v1 = some r5 ∧ X6_all s f6 v1 = some r6 ∧ r5.1 = r6.1 ∧ FR r5.2.1 r6.2 := by
  have h9 := h.h9
  obtain ⟨i1, i2⟩ := h.ib v1
  unfold X5_all X6_all
  simp only [f5_0, f6_0, Option.bind_some, i1]
  cases hi : X2_isBow bw v1 with
  | false =>
    simp only [if_pos xbf]
    exact ⟨_, _, rfl, rfl, rfl, hf.up 0 (by decide)⟩
  | true =>
    obtain ⟨b, hb, rfl⟩ := i2 hi
    obtain ⟨kd', lo', ah', g1, g2, g3⟩ := h.start c3300 c3400 c3500
    have hfull : 2 ^ nb - 1 < 2 ^ nb := by have := Nat.two_pow_pos nb; omega
    have e : cls (fun k => A k &&& (2 ^ nb - 1)) nb (A b &&& (2 ^ nb - 1)) = cls A nb (A b) := by
      rw [and_full (h.cc hb).2.2.2.2.1]
      unfold cls
      have : pas (fun k => A k &&& (2 ^ nb - 1)) 0 nb = pas A 0 nb := by
        funext x
        exact pas_cg nb 0 x (fun j _ hj => and_full (h.cc (show j < nb by omega)).2.2.2.2.1)
      rw [this]
    simp only [if_neg xbt, g1, Option.bind_some, all_eq h9 g3 hb hfull, h.all6 hb, e]
    exact ⟨_, _, rfl, rfl, rfl, hf⟩
theorem and_two (x b : Nat) : x &&& 2 ^ b = if x.testBit b = true then 2 ^ b else 0 := by
  cases e : x.testBit b with
  | false => rw [if_neg (by decide), (and_bit x b).mpr e]
  | true =>
    rw [if_pos rfl]
    apply Nat.eq_of_testBit_eq
    intro i
    rw [Nat.testBit_and, Nat.testBit_two_pow]
    by_cases e2 : b = i
    · subst e2; rw [e]; rfl
    · rw [decide_eq_false e2, Bool.and_false]
theorem p_clash (h : SP s bw th cm hd ck zz kd lo se ah ru sg no ti sp nb nt K L E A R F) (c3300 c3400 c3500 : Nat → Int32) :
    ∃ r5 r6, X5_clash bw th cm kd lo ah sg c3300 c3400 c3500 = some r5 ∧ X6_clash s = some r6 ∧ r5.1 = r6 := by
  have h9 := h.h9
  obtain ⟨kd', lo', ah', g1, g2, g3⟩ := h.start c3300 c3400 c3500
  have hfull : 2 ^ nb - 1 < 2 ^ nb := by have := Nat.two_pow_pos nb; omega
  have h2 := two_lt h9
  have hA : ∀ k, k < nb → A k < 2 ^ nb := fun k hk => (h.cc hk).2.2.2.2.1
  have loop : ∀ d b n m acc (la : Int32), b + d = nb → d < n → d < m → ∃ r, X5_clash_L15 (nI nb) n (nI acc) (nI b) (nI nb) (nI (stg F nt)) la (nI (2 ^ nb - 1)) kd' lo' ah' = some (r, nI nb, nI (stg F nt), la, nI (2 ^ nb - 1), kd', lo', ah') ∧ X6_clash_L4 s m (nI acc) (nI b) = some r := by
    intro d
    induction d with
    | zero =>
      intro b n m acc la hb hn hm
      obtain ⟨n, rfl⟩ : ∃ m, n = m + 1 := ⟨n - 1, by omega⟩
      obtain ⟨m, rfl⟩ : ∃ q, m = q + 1 := ⟨m - 1, by omega⟩
      rw [X5_clash_L15, X6_clash_L4, h.b3, if_pos (nI_le (by omega) (by omega)), if_pos (nI_le (by omega) (by omega))]
      exact ⟨_, rfl, rfl⟩
    | succ d ih =>
      intro b n m acc la hb hn hm
      obtain ⟨n, rfl⟩ : ∃ m, n = m + 1 := ⟨n - 1, by omega⟩
      obtain ⟨m, rfl⟩ : ∃ q, m = q + 1 := ⟨m - 1, by omega⟩
      have hbn : b < nb := by omega
      have e : cls (fun k => A k &&& (2 ^ nb - 1)) nb (A b &&& (2 ^ nb - 1)) = cls A nb (A b) := by
        rw [and_full (hA b hbn)]
        unfold cls
        have : pas (fun k => A k &&& (2 ^ nb - 1)) 0 nb = pas A 0 nb := by
          funext x
          exact pas_cg nb 0 x (fun j _ hj => and_full (hA j (by omega)))
        rw [this]
      have hcl := cls_lt hA (hA b hbn)
      rw [X5_clash_L15, X6_clash_L4, h.b3, if_neg (nI_ge (by omega) (by omega)), if_neg (nI_ge (by omega) (by omega)), all_eq h9 g3 hbn hfull, h.all6 hbn, e, Option.bind_some, Option.bind_some, isIn_tb (by omega) (by omega), shl_eq (by omega), ny_and, and_two, nI_1]
      cases et : (cls A nb (A b)).testBit b with
      | false =>
        rw [if_pos xbf, if_neg (by decide), show nI 0 = (0 : Int32) from rfl, ny_or0]
        exact ih (b + 1) n m acc la (by omega) (by omega) (by omega)
      | true =>
        rw [if_neg xbt, if_pos rfl, ny_or]
        exact ih (b + 1) n m _ la (by omega) (by omega) (by omega)
  obtain ⟨r, e1, e2⟩ := loop nb 0 FU FU 0 (if nt = 0 then 9 else nI (F (nt - 1))) (by omega) (by unfold FU; omega) (by unfold FU; omega)
  unfold X5_clash X6_clash
  rw [g1, Option.bind_some, h.bw_]
  exact ⟨_, _, e1, e2, rfl⟩
end
