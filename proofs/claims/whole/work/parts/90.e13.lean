/-! what the machine answers is what the functions say (by gen/emit.py) -/
set_option maxHeartbeats 4000000 in
set_option maxRecDepth 20000 in
theorem e_X6_isLetter (X : xX) (σ : xM) (lg : Int64) (v0 : Int32) (r : Bool) (h : X6_isLetter v0 = r) : EM XP X 2 192 [.int v0] SH0 lg σ (some (.int (xb r)), SH0, [], lg) := by
  refine EM_of (M := xm_192) rfl rfl ?_
  unfold X6_isLetter at h
  refine E_sts 3 (5, [(0, .int v0)], [.int 122, .int 97, .int v0], SH0, [], lg) rfl ?_
  refine E_call rfl (e_X6_in1 X _ _ _ _ _ (X6_in1 v0 97 122) rfl) (by decide) ?_
  subst h
  exact E_retp (p := (xb (X6_in1 v0 97 122)) = 0 ∨ (xb (X6_in1 v0 97 122)) = 1) rfl (xb01 _)
set_option maxHeartbeats 4000000 in
set_option maxRecDepth 20000 in
theorem e_X6_isDigit (X : xX) (σ : xM) (lg : Int64) (v0 : Int32) (r : Bool) (h : X6_isDigit v0 = r) : EM XP X 2 193 [.int v0] SH0 lg σ (some (.int (xb r)), SH0, [], lg) := by
  refine EM_of (M := xm_193) rfl rfl ?_
  unfold X6_isDigit at h
  refine E_sts 3 (5, [(0, .int v0)], [.int 57, .int 48, .int v0], SH0, [], lg) rfl ?_
  refine E_call rfl (e_X6_in1 X _ _ _ _ _ (X6_in1 v0 48 57) rfl) (by decide) ?_
  subst h
  exact E_retp (p := (xb (X6_in1 v0 48 57)) = 0 ∨ (xb (X6_in1 v0 48 57)) = 1) rfl (xb01 _)
set_option maxHeartbeats 4000000 in
set_option maxRecDepth 20000 in
theorem e_X6_nextToken_L98 (X : xX) (σ : xM) (lg : Int64) : ∀ (n : Nat), ∀ (m_token_ : Int32) (m_begun_ : Int32) (m_ended_ : Int32) (lg_ : Int64) (r : Int32 × Int32 × Int32 × Int64), X6_nextToken_L98 (σ 5213 0) (σ 6100) n m_token_ m_begun_ m_ended_ lg_ = some r → E XP X 2 xm_194 σ (98, [(0, .ref 52)], [], SH0, [(5214, fun _ => m_token_), (5215, fun _ => m_begun_), (5216, fun _ => m_ended_)], lg_) (none, SH0, [(5214, fun _ => r.1), (5215, fun _ => r.2.1), (5216, fun _ => r.2.2.1)], r.2.2.2) := by
  intro n
  induction n with
  | zero => intro m_token_ m_begun_ m_ended_ lg_ r h; rw [X6_nextToken_L98] at h; cases h
  | succ n ih =>
    intro m_token_ m_begun_ m_ended_ lg_ r h
    rw [X6_nextToken_L98] at h
    refine E_sts 5 (if (σ 5213 0) ≤ m_ended_ then 337 else 109, [(0, .ref 52)], [], SH0, [(5214, fun _ => m_token_), (5215, fun _ => m_begun_), (5216, fun _ => m_ended_)], lg_) rfl ?_
    rcases x_br h with ⟨hc, h⟩ | ⟨hc, h⟩
    · refine E_itt hc ?_
      obtain rfl := Option.some.inj h
      exact E_ret rfl
    · refine E_itf hc ?_
      refine E_sts 4 (117, [(0, .ref 52)], [.int m_ended_, .ref 61], SH0, [(5214, fun _ => m_token_), (5215, fun _ => m_begun_), (5216, fun _ => m_ended_)], lg_) rfl ?_
      obtain ⟨hp, h⟩ := x_ite h
      refine E_par (p := inr m_ended_ 120) (118, [(0, .ref 52)], [.int ((σ 6100) m_ended_.toNatClampNeg)], SH0, [(5214, fun _ => m_token_), (5215, fun _ => m_begun_), (5216, fun _ => m_ended_)], lg_) rfl hp ?_
      refine E_call rfl (e_X6_isLetter X _ _ _ (X6_isLetter ((σ 6100) m_ended_.toNatClampNeg)) rfl) (by decide) ?_
      refine E_sts 1 (if (xb (X6_isLetter ((σ 6100) m_ended_.toNatClampNeg))) = 0 then 337 else 124, [(0, .ref 52)], [], SH0, [(5214, fun _ => m_token_), (5215, fun _ => m_begun_), (5216, fun _ => m_ended_)], lg_) rfl ?_
      rcases x_br h with ⟨hc, h⟩ | ⟨hc, h⟩
      · refine E_itt hc ?_
        obtain rfl := Option.some.inj h
        exact E_ret rfl
      · refine E_itf hc ?_
        refine E_sts 6 (if (lg_cmp lg_ 9999999999999) ≤ 0 then 143 else 136, [(0, .ref 52)], [.ref 52], SH0, [(5214, fun _ => m_token_), (5215, fun _ => m_begun_), (5216, fun _ => m_ended_)], lg_) rfl ?_
        rcases x_br h with ⟨hc, h⟩ | ⟨hc, h⟩
        · refine E_itt hc ?_
          refine E_sts 8 (159, [(0, .ref 52)], [.int m_ended_, .ref 61, .long (lg_ * 27), .ref 52], SH0, [(5214, fun _ => m_token_), (5215, fun _ => m_begun_), (5216, fun _ => m_ended_)], lg_) rfl ?_
          obtain ⟨hp, h⟩ := x_ite h
          refine E_par (p := inr m_ended_ 120) (160, [(0, .ref 52)], [.int ((σ 6100) m_ended_.toNatClampNeg), .long (lg_ * 27), .ref 52], SH0, [(5214, fun _ => m_token_), (5215, fun _ => m_begun_), (5216, fun _ => m_ended_)], lg_) rfl hp ?_
          refine E_sts 13 (98, [(0, .ref 52)], [], SH0, [(5214, fun _ => m_token_), (5215, fun _ => m_begun_), (5216, fun _ => (m_ended_ + 1))], (((lg_ * 27) + (Int32.toInt64 ((σ 6100) m_ended_.toNatClampNeg))) - 96)) rfl ?_
          exact ih m_token_ m_begun_ (m_ended_ + 1) (((lg_ * 27) + (Int32.toInt64 ((σ 6100) m_ended_.toNatClampNeg))) - 96) r h
        · refine E_itf hc ?_
          refine E_sts 12 (98, [(0, .ref 52)], [], SH0, [(5214, fun _ => m_token_), (5215, fun _ => m_begun_), (5216, fun _ => (m_ended_ + 1))], lg_) rfl ?_
          exact ih m_token_ m_begun_ (m_ended_ + 1) lg_ r h
set_option maxHeartbeats 4000000 in
set_option maxRecDepth 20000 in
theorem e_X6_nextToken_L281 (X : xX) (σ : xM) (lg : Int64) : ∀ (m_begun_ : Int32) (m_ended_ : Int32) (lg_ : Int64) (r : Int32 × Int32 × Int32 × Int64), X6_nextToken_L281 m_begun_ m_ended_ lg_ = some r → E XP X 2 xm_194 σ (281, [(0, .ref 52)], [], SH0, [(5215, fun _ => m_begun_), (5216, fun _ => m_ended_)], lg_) (none, SH0, [(5214, fun _ => r.1), (5215, fun _ => r.2.1), (5216, fun _ => r.2.2.1)], r.2.2.2) := by
  intro m_begun_ m_ended_ lg_ r h
  unfold X6_nextToken_L281 at h
  refine E_sts 6 (if (lg_cmp lg_ 999) ≤ 0 then 297 else 293, [(0, .ref 52)], [.ref 52], SH0, [(5215, fun _ => m_begun_), (5216, fun _ => m_ended_)], lg_) rfl ?_
  rcases x_br h with ⟨hc, h⟩ | ⟨hc, h⟩
  · refine E_itt hc ?_
    obtain rfl := Option.some.inj h
    refine E_sts 3 (337, [(0, .ref 52)], [], SH0, [(5214, fun _ => 2), (5215, fun _ => m_begun_), (5216, fun _ => m_ended_)], lg_) rfl ?_
    exact E_ret rfl
  · refine E_itf hc ?_
    obtain rfl := Option.some.inj h
    refine E_sts 4 (337, [(0, .ref 52)], [], SH0, [(5214, fun _ => 4), (5215, fun _ => m_begun_), (5216, fun _ => m_ended_)], lg_) rfl ?_
    exact E_ret rfl
set_option maxHeartbeats 4000000 in
set_option maxRecDepth 20000 in
theorem e_X6_nextToken_L197 (X : xX) (σ : xM) (lg : Int64) : ∀ (n : Nat), ∀ (m_begun_ : Int32) (m_ended_ : Int32) (lg_ : Int64) (r : Int32 × Int32 × Int32 × Int64), X6_nextToken_L197 (σ 5213 0) (σ 6100) n m_begun_ m_ended_ lg_ = some r → E XP X 2 xm_194 σ (197, [(0, .ref 52)], [], SH0, [(5215, fun _ => m_begun_), (5216, fun _ => m_ended_)], lg_) (none, SH0, [(5214, fun _ => r.1), (5215, fun _ => r.2.1), (5216, fun _ => r.2.2.1)], r.2.2.2) := by
  intro n
  induction n with
  | zero => intro m_begun_ m_ended_ lg_ r h; rw [X6_nextToken_L197] at h; cases h
  | succ n ih =>
    intro m_begun_ m_ended_ lg_ r h
    rw [X6_nextToken_L197] at h
    refine E_sts 5 (if (σ 5213 0) ≤ m_ended_ then 100281 else 208, [(0, .ref 52)], [], SH0, [(5215, fun _ => m_begun_), (5216, fun _ => m_ended_)], lg_) rfl ?_
    rcases x_br h with ⟨hc, h⟩ | ⟨hc, h⟩
    · refine E_itt hc ?_
      refine E_sts 1 (281, [(0, .ref 52)], [], SH0, [(5215, fun _ => m_begun_), (5216, fun _ => m_ended_)], lg_) rfl ?_
      exact e_X6_nextToken_L281 X σ lg m_begun_ m_ended_ lg_ r h
    · refine E_itf hc ?_
      refine E_sts 4 (216, [(0, .ref 52)], [.int m_ended_, .ref 61], SH0, [(5215, fun _ => m_begun_), (5216, fun _ => m_ended_)], lg_) rfl ?_
      obtain ⟨hp, h⟩ := x_ite h
      refine E_par (p := inr m_ended_ 120) (217, [(0, .ref 52)], [.int ((σ 6100) m_ended_.toNatClampNeg)], SH0, [(5215, fun _ => m_begun_), (5216, fun _ => m_ended_)], lg_) rfl hp ?_
      refine E_call rfl (e_X6_isDigit X _ _ _ (X6_isDigit ((σ 6100) m_ended_.toNatClampNeg)) rfl) (by decide) ?_
      refine E_sts 1 (if (xb (X6_isDigit ((σ 6100) m_ended_.toNatClampNeg))) = 0 then 100281 else 223, [(0, .ref 52)], [], SH0, [(5215, fun _ => m_begun_), (5216, fun _ => m_ended_)], lg_) rfl ?_
      rcases x_br h with ⟨hc, h⟩ | ⟨hc, h⟩
      · refine E_itt hc ?_
        refine E_sts 1 (281, [(0, .ref 52)], [], SH0, [(5215, fun _ => m_begun_), (5216, fun _ => m_ended_)], lg_) rfl ?_
        exact e_X6_nextToken_L281 X σ lg m_begun_ m_ended_ lg_ r h
      · refine E_itf hc ?_
        refine E_sts 6 (if (lg_cmp lg_ 999) ≤ 0 then 242 else 235, [(0, .ref 52)], [.ref 52], SH0, [(5215, fun _ => m_begun_), (5216, fun _ => m_ended_)], lg_) rfl ?_
        rcases x_br h with ⟨hc, h⟩ | ⟨hc, h⟩
        · refine E_itt hc ?_
          refine E_sts 8 (258, [(0, .ref 52)], [.int m_ended_, .ref 61, .long (lg_ * 10), .ref 52], SH0, [(5215, fun _ => m_begun_), (5216, fun _ => m_ended_)], lg_) rfl ?_
          obtain ⟨hp, h⟩ := x_ite h
          refine E_par (p := inr m_ended_ 120) (259, [(0, .ref 52)], [.int ((σ 6100) m_ended_.toNatClampNeg), .long (lg_ * 10), .ref 52], SH0, [(5215, fun _ => m_begun_), (5216, fun _ => m_ended_)], lg_) rfl hp ?_
          refine E_sts 13 (197, [(0, .ref 52)], [], SH0, [(5215, fun _ => m_begun_), (5216, fun _ => (m_ended_ + 1))], (((lg_ * 10) + (Int32.toInt64 ((σ 6100) m_ended_.toNatClampNeg))) - 48)) rfl ?_
          exact ih m_begun_ (m_ended_ + 1) (((lg_ * 10) + (Int32.toInt64 ((σ 6100) m_ended_.toNatClampNeg))) - 48) r h
        · refine E_itf hc ?_
          refine E_sts 12 (197, [(0, .ref 52)], [], SH0, [(5215, fun _ => m_begun_), (5216, fun _ => (m_ended_ + 1))], lg_) rfl ?_
          exact ih m_begun_ (m_ended_ + 1) lg_ r h
set_option maxHeartbeats 4000000 in
set_option maxRecDepth 20000 in
theorem e_X6_nextToken_L46 (X : xX) (σ : xM) (lg : Int64) : ∀ (m_begun_ : Int32) (r : Int32 × Int32 × Int32 × Int64), X6_nextToken_L46 (σ 5213 0) (σ 6100) m_begun_ = some r → E XP X 2 xm_194 σ (46, [(0, .ref 52)], [], SH0, [(5215, fun _ => m_begun_)], lg) (none, SH0, [(5214, fun _ => r.1), (5215, fun _ => r.2.1), (5216, fun _ => r.2.2.1)], r.2.2.2) := by
  intro m_begun_ r h
  unfold X6_nextToken_L46 at h
  refine E_sts 12 (if m_begun_ = (σ 5213 0) then 70 else 78, [(0, .ref 52)], [], SH0, [(5215, fun _ => m_begun_), (5216, fun _ => m_begun_)], 0) rfl ?_
  rcases x_br h with ⟨hc, h⟩ | ⟨hc, h⟩
  · refine E_itt hc ?_
    obtain rfl := Option.some.inj h
    refine E_sts 4 (337, [(0, .ref 52)], [], SH0, [(5214, fun _ => 0), (5215, fun _ => m_begun_), (5216, fun _ => m_begun_)], 0) rfl ?_
    exact E_ret rfl
  · refine E_itf hc ?_
    refine E_sts 4 (86, [(0, .ref 52)], [.int m_begun_, .ref 61], SH0, [(5215, fun _ => m_begun_), (5216, fun _ => m_begun_)], 0) rfl ?_
    obtain ⟨hp, h⟩ := x_ite h
    refine E_par (p := inr m_begun_ 120) (87, [(0, .ref 52)], [.int ((σ 6100) m_begun_.toNatClampNeg)], SH0, [(5215, fun _ => m_begun_), (5216, fun _ => m_begun_)], 0) rfl hp ?_
    refine E_call rfl (e_X6_isLetter X _ _ _ (X6_isLetter ((σ 6100) m_begun_.toNatClampNeg)) rfl) (by decide) ?_
    refine E_sts 1 (if (xb (X6_isLetter ((σ 6100) m_begun_.toNatClampNeg))) = 0 then 182 else 93, [(0, .ref 52)], [], SH0, [(5215, fun _ => m_begun_), (5216, fun _ => m_begun_)], 0) rfl ?_
    rcases x_br h with ⟨hc, h⟩ | ⟨hc, h⟩
    · refine E_itt hc ?_
      refine E_sts 4 (190, [(0, .ref 52)], [.int m_begun_, .ref 61], SH0, [(5215, fun _ => m_begun_), (5216, fun _ => m_begun_)], 0) rfl ?_
      obtain ⟨hp, h⟩ := x_ite h
      refine E_par (p := inr m_begun_ 120) (191, [(0, .ref 52)], [.int ((σ 6100) m_begun_.toNatClampNeg)], SH0, [(5215, fun _ => m_begun_), (5216, fun _ => m_begun_)], 0) rfl hp ?_
      refine E_call rfl (e_X6_isDigit X _ _ _ (X6_isDigit ((σ 6100) m_begun_.toNatClampNeg)) rfl) (by decide) ?_
      refine E_sts 1 (if (xb (X6_isDigit ((σ 6100) m_begun_.toNatClampNeg))) = 0 then 304 else 100197, [(0, .ref 52)], [], SH0, [(5215, fun _ => m_begun_), (5216, fun _ => m_begun_)], 0) rfl ?_
      rcases x_br h with ⟨hc, h⟩ | ⟨hc, h⟩
      · refine E_itt hc ?_
        refine E_sts 5 (313, [(0, .ref 52)], [.int m_begun_, .ref 61, .ref 52], SH0, [(5215, fun _ => m_begun_), (5216, fun _ => m_begun_)], 0) rfl ?_
        obtain ⟨hp, h⟩ := x_ite h
        refine E_par (p := inr m_begun_ 120) (314, [(0, .ref 52)], [.int ((σ 6100) m_begun_.toNatClampNeg), .ref 52], SH0, [(5215, fun _ => m_begun_), (5216, fun _ => m_begun_)], 0) rfl hp ?_
        refine E_sts 2 (if ((σ 6100) m_begun_.toNatClampNeg) = 59 then 319 else 323, [(0, .ref 52)], [.ref 52], SH0, [(5215, fun _ => m_begun_), (5216, fun _ => m_begun_)], 0) rfl ?_
        rcases x_br h with ⟨hc, h⟩ | ⟨hc, h⟩
        · refine E_itt hc ?_
          obtain rfl := Option.some.inj h
          refine E_sts 9 (337, [(0, .ref 52)], [], SH0, [(5214, fun _ => 3), (5215, fun _ => m_begun_), (5216, fun _ => (m_begun_ + 1))], 0) rfl ?_
          exact E_ret rfl
        · refine E_itf hc ?_
          obtain rfl := Option.some.inj h
          refine E_sts 8 (337, [(0, .ref 52)], [], SH0, [(5214, fun _ => 4), (5215, fun _ => m_begun_), (5216, fun _ => (m_begun_ + 1))], 0) rfl ?_
          exact E_ret rfl
      · refine E_itf hc ?_
        refine E_sts 1 (197, [(0, .ref 52)], [], SH0, [(5215, fun _ => m_begun_), (5216, fun _ => m_begun_)], 0) rfl ?_
        exact e_X6_nextToken_L197 X σ lg _ m_begun_ m_begun_ 0 r h
    · refine E_itf hc ?_
      refine E_sts 4 (98, [(0, .ref 52)], [], SH0, [(5214, fun _ => 1), (5215, fun _ => m_begun_), (5216, fun _ => m_begun_)], 0) rfl ?_
      exact e_X6_nextToken_L98 X σ lg _ 1 m_begun_ m_begun_ 0 r h
set_option maxHeartbeats 4000000 in
set_option maxRecDepth 20000 in
theorem e_X6_nextToken_L8 (X : xX) (σ : xM) (lg : Int64) : ∀ (n : Nat), ∀ (m_begun_ : Int32) (r : Int32 × Int32 × Int32 × Int64), X6_nextToken_L8 (σ 5213 0) (σ 6100) n m_begun_ = some r → E XP X 2 xm_194 σ (8, [(0, .ref 52)], [], SH0, [(5215, fun _ => m_begun_)], lg) (none, SH0, [(5214, fun _ => r.1), (5215, fun _ => r.2.1), (5216, fun _ => r.2.2.1)], r.2.2.2) := by
  intro n
  induction n with
  | zero => intro m_begun_ r h; rw [X6_nextToken_L8] at h; cases h
  | succ n ih =>
    intro m_begun_ r h
    rw [X6_nextToken_L8] at h
    refine E_sts 5 (if (σ 5213 0) ≤ m_begun_ then 100046 else 19, [(0, .ref 52)], [], SH0, [(5215, fun _ => m_begun_)], lg) rfl ?_
    rcases x_br h with ⟨hc, h⟩ | ⟨hc, h⟩
    · refine E_itt hc ?_
      refine E_sts 1 (46, [(0, .ref 52)], [], SH0, [(5215, fun _ => m_begun_)], lg) rfl ?_
      exact e_X6_nextToken_L46 X σ lg m_begun_ r h
    · refine E_itf hc ?_
      refine E_sts 4 (27, [(0, .ref 52)], [.int m_begun_, .ref 61], SH0, [(5215, fun _ => m_begun_)], lg) rfl ?_
      obtain ⟨hp, h⟩ := x_ite h
      refine E_par (p := inr m_begun_ 120) (28, [(0, .ref 52)], [.int ((σ 6100) m_begun_.toNatClampNeg)], SH0, [(5215, fun _ => m_begun_)], lg) rfl hp ?_
      refine E_sts 2 (if ((σ 6100) m_begun_.toNatClampNeg) = 32 then 33 else 100046, [(0, .ref 52)], [], SH0, [(5215, fun _ => m_begun_)], lg) rfl ?_
      rcases x_br h with ⟨hc, h⟩ | ⟨hc, h⟩
      · refine E_itt hc ?_
        refine E_sts 8 (8, [(0, .ref 52)], [], SH0, [(5215, fun _ => (m_begun_ + 1))], lg) rfl ?_
        exact ih (m_begun_ + 1) r h
      · refine E_itf hc ?_
        refine E_sts 1 (46, [(0, .ref 52)], [], SH0, [(5215, fun _ => m_begun_)], lg) rfl ?_
        exact e_X6_nextToken_L46 X σ lg m_begun_ r h
set_option maxHeartbeats 4000000 in
set_option maxRecDepth 20000 in
theorem e_X6_nextToken (X : xX) (σ : xM) (lg : Int64) (r : Int32 × Int32 × Int32 × Int64) (h : X6_nextToken (σ 5213 0) (σ 5216 0) (σ 6100) = some r) : EM XP X 3 194 [.ref 52] SH0 lg σ (none, SH0, [(5214, fun _ => r.1), (5215, fun _ => r.2.1), (5216, fun _ => r.2.2.1)], r.2.2.2) := by
  refine EM_of (M := xm_194) rfl rfl ?_
  unfold X6_nextToken at h
  refine E_sts 5 (8, [(0, .ref 52)], [], SH0, [(5215, fun _ => (σ 5216 0))], lg) rfl ?_
  exact e_X6_nextToken_L8 X σ lg _ (σ 5216 0) r h
set_option maxHeartbeats 4000000 in
set_option maxRecDepth 20000 in
theorem e_X6_wordOf_m_m_letters_L27 (X : xX) (σ : xM) (lg : Int64) (k4 : Int32 → Int32 → Option (Int32)) (h4 : ∀ (v2 : Int32) (v3 : Int32) (r : Int32), k4 v2 v3 = some r → E XP X 0 xm_195 σ (4, [(0, .ref 52), (1, .ref 62), (2, .int v2), (3, .int v3)], [], SH0, [], lg) (some (.int r), SH0, [], lg)) : ∀ (n : Nat), ∀ (v2 : Int32) (v3 : Int32) (v4 : Int64) (v6 : Int32) (r : Int32), X6_wordOf_m_m_letters_L27 k4 (σ 6200) lg n v2 v3 v4 v6 = some r → E XP X 0 xm_195 σ (27, [(0, .ref 52), (1, .ref 62), (2, .int v2), (3, .int v3), (4, .long v4), (6, .int v6)], [], SH0, [], lg) (some (.int r), SH0, [], lg) := by
  intro n
  induction n with
  | zero => intro v2 v3 v4 v6 r h; rw [X6_wordOf_m_m_letters_L27] at h; cases h
  | succ n ih =>
    intro v2 v3 v4 v6 r h
    rw [X6_wordOf_m_m_letters_L27] at h
    refine E_sts 3 (if 8 ≤ v6 then 82 else 34, [(0, .ref 52), (1, .ref 62), (2, .int v2), (3, .int v3), (4, .long v4), (6, .int v6)], [], SH0, [], lg) rfl ?_
    rcases x_br h with ⟨hc, h⟩ | ⟨hc, h⟩
    · refine E_itt hc ?_
      refine E_sts 5 (if (lg_cmp v4 lg) = 0 then 92 else 96, [(0, .ref 52), (1, .ref 62), (2, .int v2), (3, .int v3), (4, .long v4), (6, .int v6)], [], SH0, [], lg) rfl ?_
      rcases x_br h with ⟨hc, h⟩ | ⟨hc, h⟩
      · refine E_itt hc ?_
        refine E_sts 6 (4, [(0, .ref 52), (1, .ref 62), (2, .int v3), (3, .int (v3 + 1))], [], SH0, [], lg) rfl ?_
        exact h4 v3 (v3 + 1) r h
      · refine E_itf hc ?_
        refine E_sts 5 (4, [(0, .ref 52), (1, .ref 62), (2, .int v2), (3, .int (v3 + 1))], [], SH0, [], lg) rfl ?_
        exact h4 v2 (v3 + 1) r h
    · refine E_itf hc ?_
      refine E_sts 6 (42, [(0, .ref 52), (1, .ref 62), (2, .int v2), (3, .int v3), (4, .long v4), (6, .int v6)], [.int ((8 * v3) + v6), .ref 62], SH0, [], lg) rfl ?_
      obtain ⟨hp, h⟩ := x_ite h
      refine E_par (p := inr ((8 * v3) + v6) 56) (43, [(0, .ref 52), (1, .ref 62), (2, .int v2), (3, .int v3), (4, .long v4), (6, .int v6)], [.int ((σ 6200) ((8 * v3) + v6).toNatClampNeg)], SH0, [], lg) rfl hp ?_
      refine E_sts 2 (if ((σ 6200) ((8 * v3) + v6).toNatClampNeg) = 32 then 48 else 53, [(0, .ref 52), (1, .ref 62), (2, .int v2), (3, .int v3), (4, .long v4), (6, .int v6)], [], SH0, [], lg) rfl ?_
      rcases x_br h with ⟨hc, h⟩ | ⟨hc, h⟩
      · refine E_itt hc ?_
        refine E_sts 6 (27, [(0, .ref 52), (1, .ref 62), (2, .int v2), (3, .int v3), (4, .long v4), (6, .int (v6 + 1))], [], SH0, [], lg) rfl ?_
        exact ih v2 v3 v4 (v6 + 1) r h
      · refine E_itf hc ?_
        refine E_sts 9 (67, [(0, .ref 52), (1, .ref 62), (2, .int v2), (3, .int v3), (4, .long v4), (6, .int v6)], [.int ((8 * v3) + v6), .ref 62, .long (v4 * 27)], SH0, [], lg) rfl ?_
        obtain ⟨hp, h⟩ := x_ite h
        refine E_par (p := inr ((8 * v3) + v6) 56) (68, [(0, .ref 52), (1, .ref 62), (2, .int v2), (3, .int v3), (4, .long v4), (6, .int v6)], [.int ((σ 6200) ((8 * v3) + v6).toNatClampNeg), .long (v4 * 27)], SH0, [], lg) rfl hp ?_
        refine E_sts 8 (27, [(0, .ref 52), (1, .ref 62), (2, .int v2), (3, .int v3), (4, .long (((v4 * 27) + (Int32.toInt64 ((σ 6200) ((8 * v3) + v6).toNatClampNeg))) - 96)), (6, .int (v6 + 1))], [], SH0, [], lg) rfl ?_
        exact ih v2 v3 (((v4 * 27) + (Int32.toInt64 ((σ 6200) ((8 * v3) + v6).toNatClampNeg))) - 96) (v6 + 1) r h
set_option maxHeartbeats 4000000 in
set_option maxRecDepth 20000 in
theorem e_X6_wordOf_m_m_letters_L4 (X : xX) (σ : xM) (lg : Int64) : ∀ (n : Nat), ∀ (v2 : Int32) (v3 : Int32) (r : Int32), X6_wordOf_m_m_letters_L4 (σ 5214 0) (σ 6200) lg n v2 v3 = some r → E XP X 0 xm_195 σ (4, [(0, .ref 52), (1, .ref 62), (2, .int v2), (3, .int v3)], [], SH0, [], lg) (some (.int r), SH0, [], lg) := by
  intro n
  induction n with
  | zero => intro v2 v3 r h; rw [X6_wordOf_m_m_letters_L4] at h; cases h
  | succ n ih =>
    intro v2 v3 r h
    rw [X6_wordOf_m_m_letters_L4] at h
    refine E_sts 4 (9, [(0, .ref 52), (1, .ref 62), (2, .int v2), (3, .int v3)], [.int 8, .int (nI 56), .int v3], SH0, [], lg) rfl ?_
    refine E_parn (p := 8 = 0) (10, [(0, .ref 52), (1, .ref 62), (2, .int v2), (3, .int v3)], [.int ((nI 56) / 8), .int v3], SH0, [], lg) rfl (by decide) ?_
    refine E_sts 1 (if ((nI 56) / 8) ≤ v3 then 104 else 13, [(0, .ref 52), (1, .ref 62), (2, .int v2), (3, .int v3)], [], SH0, [], lg) rfl ?_
    rcases x_br h with ⟨hc, h⟩ | ⟨hc, h⟩
    · refine E_itt hc ?_
      obtain rfl := Option.some.inj h
      refine E_sts 1 (105, [(0, .ref 52), (1, .ref 62), (2, .int v2), (3, .int v3)], [.int v2], SH0, [], lg) rfl ?_
      exact E_ret rfl
    · refine E_itf hc ?_
      refine E_sts 4 (if (σ 5214 0) = 1 then 21 else 104, [(0, .ref 52), (1, .ref 62), (2, .int v2), (3, .int v3)], [], SH0, [], lg) rfl ?_
      rcases x_br h with ⟨hc, h⟩ | ⟨hc, h⟩
      · refine E_itt hc ?_
        refine E_sts 5 (27, [(0, .ref 52), (1, .ref 62), (2, .int v2), (3, .int v3), (4, .long 0), (6, .int 0)], [], SH0, [], lg) rfl ?_
        exact e_X6_wordOf_m_m_letters_L27 X σ lg _ (fun v20 v30 r h => ih v20 v30 r h) _ v2 v3 0 0 r h
      · refine E_itf hc ?_
        obtain rfl := Option.some.inj h
        refine E_sts 1 (105, [(0, .ref 52), (1, .ref 62), (2, .int v2), (3, .int v3)], [.int v2], SH0, [], lg) rfl ?_
        exact E_ret rfl
set_option maxHeartbeats 4000000 in
set_option maxRecDepth 20000 in
theorem e_X6_wordOf_m_m_letters (X : xX) (σ : xM) (lg : Int64) (r : Int32) (h : X6_wordOf_m_m_letters (σ 5214 0) (σ 6200) lg = some r) : EM XP X 1 195 [.ref 52, .ref 62] SH0 lg σ (some (.int r), SH0, [], lg) := by
  refine EM_of (M := xm_195) rfl rfl ?_
  unfold X6_wordOf_m_m_letters at h
  refine E_sts 5 (4, [(0, .ref 52), (1, .ref 62), (2, .int (-1)), (3, .int 0)], [], SH0, [], lg) rfl ?_
  exact e_X6_wordOf_m_m_letters_L4 X σ lg _ (-1) 0 r h
set_option maxHeartbeats 4000000 in
set_option maxRecDepth 20000 in
theorem e_X6_wordOf_m_m_more_L27 (X : xX) (σ : xM) (lg : Int64) (k4 : Int32 → Int32 → Option (Int32)) (h4 : ∀ (v2 : Int32) (v3 : Int32) (r : Int32), k4 v2 v3 = some r → E XP X 0 xm_195 σ (4, [(0, .ref 52), (1, .ref 63), (2, .int v2), (3, .int v3)], [], SH0, [], lg) (some (.int r), SH0, [], lg)) : ∀ (n : Nat), ∀ (v2 : Int32) (v3 : Int32) (v4 : Int64) (v6 : Int32) (r : Int32), X6_wordOf_m_m_more_L27 k4 (σ 6300) lg n v2 v3 v4 v6 = some r → E XP X 0 xm_195 σ (27, [(0, .ref 52), (1, .ref 63), (2, .int v2), (3, .int v3), (4, .long v4), (6, .int v6)], [], SH0, [], lg) (some (.int r), SH0, [], lg) := by
  intro n
  induction n with
  | zero => intro v2 v3 v4 v6 r h; rw [X6_wordOf_m_m_more_L27] at h; cases h
  | succ n ih =>
    intro v2 v3 v4 v6 r h
    rw [X6_wordOf_m_m_more_L27] at h
    refine E_sts 3 (if 8 ≤ v6 then 82 else 34, [(0, .ref 52), (1, .ref 63), (2, .int v2), (3, .int v3), (4, .long v4), (6, .int v6)], [], SH0, [], lg) rfl ?_
    rcases x_br h with ⟨hc, h⟩ | ⟨hc, h⟩
    · refine E_itt hc ?_
      refine E_sts 5 (if (lg_cmp v4 lg) = 0 then 92 else 96, [(0, .ref 52), (1, .ref 63), (2, .int v2), (3, .int v3), (4, .long v4), (6, .int v6)], [], SH0, [], lg) rfl ?_
      rcases x_br h with ⟨hc, h⟩ | ⟨hc, h⟩
      · refine E_itt hc ?_
        refine E_sts 6 (4, [(0, .ref 52), (1, .ref 63), (2, .int v3), (3, .int (v3 + 1))], [], SH0, [], lg) rfl ?_
        exact h4 v3 (v3 + 1) r h
      · refine E_itf hc ?_
        refine E_sts 5 (4, [(0, .ref 52), (1, .ref 63), (2, .int v2), (3, .int (v3 + 1))], [], SH0, [], lg) rfl ?_
        exact h4 v2 (v3 + 1) r h
    · refine E_itf hc ?_
      refine E_sts 6 (42, [(0, .ref 52), (1, .ref 63), (2, .int v2), (3, .int v3), (4, .long v4), (6, .int v6)], [.int ((8 * v3) + v6), .ref 63], SH0, [], lg) rfl ?_
      obtain ⟨hp, h⟩ := x_ite h
      refine E_par (p := inr ((8 * v3) + v6) 24) (43, [(0, .ref 52), (1, .ref 63), (2, .int v2), (3, .int v3), (4, .long v4), (6, .int v6)], [.int ((σ 6300) ((8 * v3) + v6).toNatClampNeg)], SH0, [], lg) rfl hp ?_
      refine E_sts 2 (if ((σ 6300) ((8 * v3) + v6).toNatClampNeg) = 32 then 48 else 53, [(0, .ref 52), (1, .ref 63), (2, .int v2), (3, .int v3), (4, .long v4), (6, .int v6)], [], SH0, [], lg) rfl ?_
      rcases x_br h with ⟨hc, h⟩ | ⟨hc, h⟩
      · refine E_itt hc ?_
        refine E_sts 6 (27, [(0, .ref 52), (1, .ref 63), (2, .int v2), (3, .int v3), (4, .long v4), (6, .int (v6 + 1))], [], SH0, [], lg) rfl ?_
        exact ih v2 v3 v4 (v6 + 1) r h
      · refine E_itf hc ?_
        refine E_sts 9 (67, [(0, .ref 52), (1, .ref 63), (2, .int v2), (3, .int v3), (4, .long v4), (6, .int v6)], [.int ((8 * v3) + v6), .ref 63, .long (v4 * 27)], SH0, [], lg) rfl ?_
        obtain ⟨hp, h⟩ := x_ite h
        refine E_par (p := inr ((8 * v3) + v6) 24) (68, [(0, .ref 52), (1, .ref 63), (2, .int v2), (3, .int v3), (4, .long v4), (6, .int v6)], [.int ((σ 6300) ((8 * v3) + v6).toNatClampNeg), .long (v4 * 27)], SH0, [], lg) rfl hp ?_
        refine E_sts 8 (27, [(0, .ref 52), (1, .ref 63), (2, .int v2), (3, .int v3), (4, .long (((v4 * 27) + (Int32.toInt64 ((σ 6300) ((8 * v3) + v6).toNatClampNeg))) - 96)), (6, .int (v6 + 1))], [], SH0, [], lg) rfl ?_
        exact ih v2 v3 (((v4 * 27) + (Int32.toInt64 ((σ 6300) ((8 * v3) + v6).toNatClampNeg))) - 96) (v6 + 1) r h
set_option maxHeartbeats 4000000 in
set_option maxRecDepth 20000 in
theorem e_X6_wordOf_m_m_more_L4 (X : xX) (σ : xM) (lg : Int64) : ∀ (n : Nat), ∀ (v2 : Int32) (v3 : Int32) (r : Int32), X6_wordOf_m_m_more_L4 (σ 5214 0) (σ 6300) lg n v2 v3 = some r → E XP X 0 xm_195 σ (4, [(0, .ref 52), (1, .ref 63), (2, .int v2), (3, .int v3)], [], SH0, [], lg) (some (.int r), SH0, [], lg) := by
  intro n
  induction n with
  | zero => intro v2 v3 r h; rw [X6_wordOf_m_m_more_L4] at h; cases h
  | succ n ih =>
    intro v2 v3 r h
    rw [X6_wordOf_m_m_more_L4] at h
    refine E_sts 4 (9, [(0, .ref 52), (1, .ref 63), (2, .int v2), (3, .int v3)], [.int 8, .int (nI 24), .int v3], SH0, [], lg) rfl ?_
    refine E_parn (p := 8 = 0) (10, [(0, .ref 52), (1, .ref 63), (2, .int v2), (3, .int v3)], [.int ((nI 24) / 8), .int v3], SH0, [], lg) rfl (by decide) ?_
    refine E_sts 1 (if ((nI 24) / 8) ≤ v3 then 104 else 13, [(0, .ref 52), (1, .ref 63), (2, .int v2), (3, .int v3)], [], SH0, [], lg) rfl ?_
    rcases x_br h with ⟨hc, h⟩ | ⟨hc, h⟩
    · refine E_itt hc ?_
      obtain rfl := Option.some.inj h
      refine E_sts 1 (105, [(0, .ref 52), (1, .ref 63), (2, .int v2), (3, .int v3)], [.int v2], SH0, [], lg) rfl ?_
      exact E_ret rfl
    · refine E_itf hc ?_
      refine E_sts 4 (if (σ 5214 0) = 1 then 21 else 104, [(0, .ref 52), (1, .ref 63), (2, .int v2), (3, .int v3)], [], SH0, [], lg) rfl ?_
      rcases x_br h with ⟨hc, h⟩ | ⟨hc, h⟩
      · refine E_itt hc ?_
        refine E_sts 5 (27, [(0, .ref 52), (1, .ref 63), (2, .int v2), (3, .int v3), (4, .long 0), (6, .int 0)], [], SH0, [], lg) rfl ?_
        exact e_X6_wordOf_m_m_more_L27 X σ lg _ (fun v20 v30 r h => ih v20 v30 r h) _ v2 v3 0 0 r h
      · refine E_itf hc ?_
        obtain rfl := Option.some.inj h
        refine E_sts 1 (105, [(0, .ref 52), (1, .ref 63), (2, .int v2), (3, .int v3)], [.int v2], SH0, [], lg) rfl ?_
        exact E_ret rfl
set_option maxHeartbeats 4000000 in
set_option maxRecDepth 20000 in
theorem e_X6_wordOf_m_m_more (X : xX) (σ : xM) (lg : Int64) (r : Int32) (h : X6_wordOf_m_m_more (σ 5214 0) (σ 6300) lg = some r) : EM XP X 1 195 [.ref 52, .ref 63] SH0 lg σ (some (.int r), SH0, [], lg) := by
  refine EM_of (M := xm_195) rfl rfl ?_
  unfold X6_wordOf_m_m_more at h
  refine E_sts 5 (4, [(0, .ref 52), (1, .ref 63), (2, .int (-1)), (3, .int 0)], [], SH0, [], lg) rfl ?_
  exact e_X6_wordOf_m_m_more_L4 X σ lg _ (-1) 0 r h
set_option maxHeartbeats 4000000 in
set_option maxRecDepth 20000 in
theorem e_X6_takesNumber_L30 (X : xX) (σ : xM) (lg : Int64) : ∀ (t0 : Int32) (r : Int32 × Int32 × Int32 × Int32 × Int64), X6_takesNumber_L30 (σ 5213 0) (σ 5214 0) (σ 5215 0) (σ 5216 0) (σ 6100) lg t0 = some r → E XP X 3 xm_196 σ (30, [(0, .ref 52)], [.int t0], SH0, [], lg) (some (.int r.1), SH0, [(5214, fun _ => r.2.1), (5215, fun _ => r.2.2.1), (5216, fun _ => r.2.2.2.1)], r.2.2.2.2) := by
  intro t0 r h
  unfold X6_takesNumber_L30 at h
  refine E_sts 3 (if t0 < 0 then 39 else 35, [(0, .ref 52), (3, .int t0)], [], SH0, [], lg) rfl ?_
  rcases x_br h with ⟨hc, h⟩ | ⟨hc, h⟩
  · refine E_itt hc ?_
    obtain rfl := Option.some.inj h
    refine E_sts 2 (40, [], [.int t0], SH0, [(5214, fun _ => (σ 5214 0)), (5215, fun _ => (σ 5215 0)), (5216, fun _ => (σ 5216 0))], lg) rfl ?_
    exact E_ret rfl
  · refine E_itf hc ?_
    refine E_sts 1 (36, [(0, .ref 52), (3, .int t0)], [.ref 52], SH0, [], lg) rfl ?_
    obtain ⟨r36, hr, h⟩ := x_bind h
    refine E_call rfl (e_X6_nextToken X _ _ r36 hr) (by decide) ?_
    obtain rfl := Option.some.inj h
    refine E_sts 2 (40, [], [.int t0], SH0, [(5214, fun _ => r36.1), (5215, fun _ => r36.2.1), (5216, fun _ => r36.2.2.1)], r36.2.2.2) rfl ?_
    exact E_ret rfl
set_option maxHeartbeats 4000000 in
set_option maxRecDepth 20000 in
theorem e_X6_takesNumber (X : xX) (σ : xM) (lg : Int64) (v1 : Int32) (v2 : Int32) (r : Int32 × Int32 × Int32 × Int32 × Int64) (h : X6_takesNumber (σ 5213 0) (σ 5214 0) (σ 5215 0) (σ 5216 0) (σ 6100) lg v1 v2 = some r) : EM XP X 4 196 [.ref 52, .int v1, .int v2] SH0 lg σ (some (.int r.1), SH0, [(5214, fun _ => r.2.1), (5215, fun _ => r.2.2.1), (5216, fun _ => r.2.2.2.1)], r.2.2.2.2) := by
  refine EM_of (M := xm_196) rfl rfl ?_
  unfold X6_takesNumber at h
  refine E_sts 4 (if (σ 5214 0) = 2 then 8 else 29, [(0, .ref 52), (1, .int v1), (2, .int v2)], [], SH0, [], lg) rfl ?_
  rcases x_br h with ⟨hc, h⟩ | ⟨hc, h⟩
  · refine E_itt hc ?_
    refine E_sts 5 (15, [(0, .ref 52), (1, .int v1), (2, .int v2)], [.int v2, .int v1, .int (Int64.toInt32 lg)], SH0, [], lg) rfl ?_
    refine E_call rfl (e_X6_in1 X _ _ _ _ _ (X6_in1 (Int64.toInt32 lg) v1 v2) rfl) (by decide) ?_
    refine E_sts 1 (if (xb (X6_in1 (Int64.toInt32 lg) v1 v2)) = 0 then 29 else 21, [(0, .ref 52), (1, .int v1), (2, .int v2)], [], SH0, [], lg) rfl ?_
    rcases x_br h with ⟨hc, h⟩ | ⟨hc, h⟩
    · refine E_itt hc ?_
      refine E_sts 2 (30, [(0, .ref 52)], [.int (-1)], SH0, [], lg) rfl ?_
      exact e_X6_takesNumber_L30 X σ lg (-1) r h
    · refine E_itf hc ?_
      refine E_sts 5 (30, [(0, .ref 52)], [.int (Int64.toInt32 lg)], SH0, [], lg) rfl ?_
      exact e_X6_takesNumber_L30 X σ lg (Int64.toInt32 lg) r h
  · refine E_itf hc ?_
    refine E_sts 2 (30, [(0, .ref 52)], [.int (-1)], SH0, [], lg) rfl ?_
    exact e_X6_takesNumber_L30 X σ lg (-1) r h
set_option maxHeartbeats 4000000 in
set_option maxRecDepth 20000 in
theorem e_X6_readsBow_L94 (X : xX) (σ : xM) (lg : Int64) (k37 : Int32 → Int32 → Int32 → Int32 → Int32 → Int32 → Int64 → (Nat → Int32) → Option (Bool × Int32 × Int32 × Int32 × (Nat → Int32) × Int64)) (h37 : ∀ (v2 : Int32) (v3 : Int32) (v4 : Int32) (m_token_ : Int32) (m_begun_ : Int32) (m_ended_ : Int32) (lg_ : Int64) (m_s_ : (Nat → Int32)) (r : Bool × Int32 × Int32 × Int32 × (Nat → Int32) × Int64), k37 v2 v3 v4 m_token_ m_begun_ m_ended_ lg_ m_s_ = some r → E XP X 4 xm_197 σ (37, [(0, .ref 52), (2, .int v2), (3, .int v3), (4, .int v4)], [], SH0, [(5214, fun _ => m_token_), (5215, fun _ => m_begun_), (5216, fun _ => m_ended_), (5300, m_s_)], lg_) (some (.int (xb r.1)), SH0, [(5214, fun _ => r.2.1), (5215, fun _ => r.2.2.1), (5216, fun _ => r.2.2.2.1), (5300, r.2.2.2.2.1)], r.2.2.2.2.2)) : ∀ (v2 : Int32) (v3 : Int32) (v4 : Int32) (t1 : Int32) (t2 : Int32) (m_token_ : Int32) (m_begun_ : Int32) (m_ended_ : Int32) (lg_ : Int64) (m_s_ : (Nat → Int32)) (r : Bool × Int32 × Int32 × Int32 × (Nat → Int32) × Int64), X6_readsBow_L94 k37 (σ 5213 0) (σ 6100) v2 v3 v4 t1 t2 m_token_ m_begun_ m_ended_ lg_ m_s_ = some r → E XP X 4 xm_197 σ (94, [(0, .ref 52), (2, .int v2), (3, .int v3), (4, .int v4)], [.int t2, .int t1, .ref 52], SH0, [(5214, fun _ => m_token_), (5215, fun _ => m_begun_), (5216, fun _ => m_ended_), (5300, m_s_)], lg_) (some (.int (xb r.1)), SH0, [(5214, fun _ => r.2.1), (5215, fun _ => r.2.2.1), (5216, fun _ => r.2.2.2.1), (5300, r.2.2.2.2.1)], r.2.2.2.2.2) := by
  intro v2 v3 v4 t1 t2 m_token_ m_begun_ m_ended_ lg_ m_s_ r h
  unfold X6_readsBow_L94 at h
  obtain ⟨r94, hr, h⟩ := x_bind h
  refine E_call rfl (e_X6_takesNumber X _ _ _ _ r94 hr) (by decide) ?_
  refine E_sts 3 (if 0 ≤ r94.1 then 106 else 104, [(0, .ref 52), (2, .int v2), (3, .int v3), (4, .int v4), (5, .int r94.1)], [], SH0, [(5214, fun _ => r94.2.1), (5215, fun _ => r94.2.2.1), (5216, fun _ => r94.2.2.2.1), (5300, m_s_)], r94.2.2.2.2) rfl ?_
  rcases x_br h with ⟨hc, h⟩ | ⟨hc, h⟩
  · refine E_itt hc ?_
    refine E_sts 6 (114, [(0, .ref 52), (2, .int v2), (3, .int v3), (4, .int v4), (5, .int r94.1)], [.int r94.1, .int (1 + v4), .int v2, .ref 52], SH0, [(5214, fun _ => r94.2.1), (5215, fun _ => r94.2.2.1), (5216, fun _ => r94.2.2.2.1), (5300, m_s_)], r94.2.2.2.2) rfl ?_
    obtain ⟨r114, hr, h⟩ := x_bind h
    refine E_call rfl (e_X6_puts X _ _ _ _ _ r114 hr) (by decide) ?_
    refine E_sts 3 (37, [(0, .ref 52), (2, .int v2), (3, .int v3), (4, .int (v4 + 1))], [], SH0, [(5214, fun _ => r94.2.1), (5215, fun _ => r94.2.2.1), (5216, fun _ => r94.2.2.2.1), (5300, r114)], r94.2.2.2.2) rfl ?_
    exact h37 v2 v3 (v4 + 1) r94.2.1 r94.2.2.1 r94.2.2.2.1 r94.2.2.2.2 r114 r h
  · refine E_itf hc ?_
    obtain rfl := Option.some.inj h
    refine E_sts 1 (105, [(0, .ref 52), (2, .int v2), (3, .int v3), (4, .int v4), (5, .int r94.1)], [.int 0], SH0, [(5214, fun _ => r94.2.1), (5215, fun _ => r94.2.2.1), (5216, fun _ => r94.2.2.2.1), (5300, m_s_)], r94.2.2.2.2) rfl ?_
    exact E_retp (p := (0 : Int32) = 0 ∨ (0 : Int32) = 1) rfl (by decide)
set_option maxHeartbeats 4000000 in
set_option maxRecDepth 20000 in
theorem e_X6_readsBow_L72 (X : xX) (σ : xM) (lg : Int64) (k37 : Int32 → Int32 → Int32 → Int32 → Int32 → Int32 → Int64 → (Nat → Int32) → Option (Bool × Int32 × Int32 × Int32 × (Nat → Int32) × Int64)) (h37 : ∀ (v2 : Int32) (v3 : Int32) (v4 : Int32) (m_token_ : Int32) (m_begun_ : Int32) (m_ended_ : Int32) (lg_ : Int64) (m_s_ : (Nat → Int32)) (r : Bool × Int32 × Int32 × Int32 × (Nat → Int32) × Int64), k37 v2 v3 v4 m_token_ m_begun_ m_ended_ lg_ m_s_ = some r → E XP X 4 xm_197 σ (37, [(0, .ref 52), (2, .int v2), (3, .int v3), (4, .int v4)], [], SH0, [(5214, fun _ => m_token_), (5215, fun _ => m_begun_), (5216, fun _ => m_ended_), (5300, m_s_)], lg_) (some (.int (xb r.1)), SH0, [(5214, fun _ => r.2.1), (5215, fun _ => r.2.2.1), (5216, fun _ => r.2.2.2.1), (5300, r.2.2.2.2.1)], r.2.2.2.2.2)) : ∀ (v2 : Int32) (v3 : Int32) (v4 : Int32) (t1 : Int32) (m_token_ : Int32) (m_begun_ : Int32) (m_ended_ : Int32) (lg_ : Int64) (m_s_ : (Nat → Int32)) (r : Bool × Int32 × Int32 × Int32 × (Nat → Int32) × Int64), X6_readsBow_L72 k37 (σ 5213 0) (σ 6100) v2 v3 v4 t1 m_token_ m_begun_ m_ended_ lg_ m_s_ = some r → E XP X 4 xm_197 σ (72, [(0, .ref 52), (2, .int v2), (3, .int v3), (4, .int v4)], [.int t1, .ref 52], SH0, [(5214, fun _ => m_token_), (5215, fun _ => m_begun_), (5216, fun _ => m_ended_), (5300, m_s_)], lg_) (some (.int (xb r.1)), SH0, [(5214, fun _ => r.2.1), (5215, fun _ => r.2.2.1), (5216, fun _ => r.2.2.2.1), (5300, r.2.2.2.2.1)], r.2.2.2.2.2) := by
  intro v2 v3 v4 t1 m_token_ m_begun_ m_ended_ lg_ m_s_ r h
  unfold X6_readsBow_L72 at h
  refine E_sts 2 (if v4 = 0 then 77 else 82, [(0, .ref 52), (2, .int v2), (3, .int v3), (4, .int v4)], [.int t1, .ref 52], SH0, [(5214, fun _ => m_token_), (5215, fun _ => m_begun_), (5216, fun _ => m_ended_), (5300, m_s_)], lg_) rfl ?_
  rcases x_br h with ⟨hc, h⟩ | ⟨hc, h⟩
  · refine E_itt hc ?_
    refine E_sts 3 (94, [(0, .ref 52), (2, .int v2), (3, .int v3), (4, .int v4)], [.int 99, .int t1, .ref 52], SH0, [(5214, fun _ => m_token_), (5215, fun _ => m_begun_), (5216, fun _ => m_ended_), (5300, m_s_)], lg_) rfl ?_
    exact e_X6_readsBow_L94 X σ lg _ (fun v20 v30 v40 m_token_0 m_begun_0 m_ended_0 lg_0 m_s_0 r h => h37 v20 v30 v40 m_token_0 m_begun_0 m_ended_0 lg_0 m_s_0 r h) v2 v3 v4 t1 99 m_token_ m_begun_ m_ended_ lg_ m_s_ r h
  · refine E_itf hc ?_
    refine E_sts 3 (if v4 = 1 then 88 else 93, [(0, .ref 52), (2, .int v2), (3, .int v3), (4, .int v4)], [.int t1, .ref 52], SH0, [(5214, fun _ => m_token_), (5215, fun _ => m_begun_), (5216, fun _ => m_ended_), (5300, m_s_)], lg_) rfl ?_
    rcases x_br h with ⟨hc, h⟩ | ⟨hc, h⟩
    · refine E_itt hc ?_
      refine E_sts 3 (94, [(0, .ref 52), (2, .int v2), (3, .int v3), (4, .int v4)], [.int 60, .int t1, .ref 52], SH0, [(5214, fun _ => m_token_), (5215, fun _ => m_begun_), (5216, fun _ => m_ended_), (5300, m_s_)], lg_) rfl ?_
      exact e_X6_readsBow_L94 X σ lg _ (fun v20 v30 v40 m_token_0 m_begun_0 m_ended_0 lg_0 m_s_0 r h => h37 v20 v30 v40 m_token_0 m_begun_0 m_ended_0 lg_0 m_s_0 r h) v2 v3 v4 t1 60 m_token_ m_begun_ m_ended_ lg_ m_s_ r h
    · refine E_itf hc ?_
      refine E_sts 2 (94, [(0, .ref 52), (2, .int v2), (3, .int v3), (4, .int v4)], [.int v3, .int t1, .ref 52], SH0, [(5214, fun _ => m_token_), (5215, fun _ => m_begun_), (5216, fun _ => m_ended_), (5300, m_s_)], lg_) rfl ?_
      exact e_X6_readsBow_L94 X σ lg _ (fun v20 v30 v40 m_token_0 m_begun_0 m_ended_0 lg_0 m_s_0 r h => h37 v20 v30 v40 m_token_0 m_begun_0 m_ended_0 lg_0 m_s_0 r h) v2 v3 v4 t1 v3 m_token_ m_begun_ m_ended_ lg_ m_s_ r h
set_option maxHeartbeats 4000000 in
set_option maxRecDepth 20000 in
theorem e_X6_readsBow_L37 (X : xX) (σ : xM) (lg : Int64) : ∀ (n : Nat), ∀ (v2 : Int32) (v3 : Int32) (v4 : Int32) (m_token_ : Int32) (m_begun_ : Int32) (m_ended_ : Int32) (lg_ : Int64) (m_s_ : (Nat → Int32)) (r : Bool × Int32 × Int32 × Int32 × (Nat → Int32) × Int64), X6_readsBow_L37 (σ 5213 0) (σ 6100) (σ 6300) n v2 v3 v4 m_token_ m_begun_ m_ended_ lg_ m_s_ = some r → E XP X 4 xm_197 σ (37, [(0, .ref 52), (2, .int v2), (3, .int v3), (4, .int v4)], [], SH0, [(5214, fun _ => m_token_), (5215, fun _ => m_begun_), (5216, fun _ => m_ended_), (5300, m_s_)], lg_) (some (.int (xb r.1)), SH0, [(5214, fun _ => r.2.1), (5215, fun _ => r.2.2.1), (5216, fun _ => r.2.2.2.1), (5300, r.2.2.2.2.1)], r.2.2.2.2.2) := by
  intro n
  induction n with
  | zero => intro v2 v3 v4 m_token_ m_begun_ m_ended_ lg_ m_s_ r h; rw [X6_readsBow_L37] at h; cases h
  | succ n ih =>
    intro v2 v3 v4 m_token_ m_begun_ m_ended_ lg_ m_s_ r h
    rw [X6_readsBow_L37] at h
    refine E_sts 3 (if 3 ≤ v4 then 123 else 43, [(0, .ref 52), (2, .int v2), (3, .int v3), (4, .int v4)], [], SH0, [(5214, fun _ => m_token_), (5215, fun _ => m_begun_), (5216, fun _ => m_ended_), (5300, m_s_)], lg_) rfl ?_
    rcases x_br h with ⟨hc, h⟩ | ⟨hc, h⟩
    · refine E_itt hc ?_
      obtain rfl := Option.some.inj h
      refine E_sts 1 (124, [(0, .ref 52), (2, .int v2), (3, .int v3), (4, .int v4)], [.int 1], SH0, [(5214, fun _ => m_token_), (5215, fun _ => m_begun_), (5216, fun _ => m_ended_), (5300, m_s_)], lg_) rfl ?_
      exact E_retp (p := (1 : Int32) = 0 ∨ (1 : Int32) = 1) rfl (by decide)
    · refine E_itf hc ?_
      refine E_sts 3 (48, [(0, .ref 52), (2, .int v2), (3, .int v3), (4, .int v4)], [.ref 63, .ref 52], SH0, [(5214, fun _ => m_token_), (5215, fun _ => m_begun_), (5216, fun _ => m_ended_), (5300, m_s_)], lg_) rfl ?_
      obtain ⟨r48, hr, h⟩ := x_bind h
      refine E_call rfl (e_X6_wordOf_m_m_more X _ _ r48 hr) (by decide) ?_
      refine E_sts 2 (if r48 = v4 then 56 else 117, [(0, .ref 52), (2, .int v2), (3, .int v3), (4, .int v4)], [], SH0, [(5214, fun _ => m_token_), (5215, fun _ => m_begun_), (5216, fun _ => m_ended_), (5300, m_s_)], lg_) rfl ?_
      rcases x_br h with ⟨hc, h⟩ | ⟨hc, h⟩
      · refine E_itt hc ?_
        refine E_sts 1 (57, [(0, .ref 52), (2, .int v2), (3, .int v3), (4, .int v4)], [.ref 52], SH0, [(5214, fun _ => m_token_), (5215, fun _ => m_begun_), (5216, fun _ => m_ended_), (5300, m_s_)], lg_) rfl ?_
        obtain ⟨r57, hr, h⟩ := x_bind h
        refine E_call rfl (e_X6_nextToken X _ _ r57 hr) (by decide) ?_
        refine E_sts 4 (if v4 = 1 then 67 else 71, [(0, .ref 52), (2, .int v2), (3, .int v3), (4, .int v4)], [.ref 52], SH0, [(5214, fun _ => r57.1), (5215, fun _ => r57.2.1), (5216, fun _ => r57.2.2.1), (5300, m_s_)], r57.2.2.2) rfl ?_
        rcases x_br h with ⟨hc, h⟩ | ⟨hc, h⟩
        · refine E_itt hc ?_
          refine E_sts 3 (72, [(0, .ref 52), (2, .int v2), (3, .int v3), (4, .int v4)], [.int 1, .ref 52], SH0, [(5214, fun _ => r57.1), (5215, fun _ => r57.2.1), (5216, fun _ => r57.2.2.1), (5300, m_s_)], r57.2.2.2) rfl ?_
          exact e_X6_readsBow_L72 X σ lg _ (fun v20 v30 v40 m_token_0 m_begun_0 m_ended_0 lg_0 m_s_0 r h => ih v20 v30 v40 m_token_0 m_begun_0 m_ended_0 lg_0 m_s_0 r h) v2 v3 v4 1 r57.1 r57.2.1 r57.2.2.1 r57.2.2.2 m_s_ r h
        · refine E_itf hc ?_
          refine E_sts 2 (72, [(0, .ref 52), (2, .int v2), (3, .int v3), (4, .int v4)], [.int 0, .ref 52], SH0, [(5214, fun _ => r57.1), (5215, fun _ => r57.2.1), (5216, fun _ => r57.2.2.1), (5300, m_s_)], r57.2.2.2) rfl ?_
          exact e_X6_readsBow_L72 X σ lg _ (fun v20 v30 v40 m_token_0 m_begun_0 m_ended_0 lg_0 m_s_0 r h => ih v20 v30 v40 m_token_0 m_begun_0 m_ended_0 lg_0 m_s_0 r h) v2 v3 v4 0 r57.1 r57.2.1 r57.2.2.1 r57.2.2.2 m_s_ r h
      · refine E_itf hc ?_
        refine E_sts 3 (37, [(0, .ref 52), (2, .int v2), (3, .int v3), (4, .int (v4 + 1))], [], SH0, [(5214, fun _ => m_token_), (5215, fun _ => m_begun_), (5216, fun _ => m_ended_), (5300, m_s_)], lg_) rfl ?_
        exact ih v2 v3 (v4 + 1) m_token_ m_begun_ m_ended_ lg_ m_s_ r h
set_option maxHeartbeats 4000000 in
set_option maxRecDepth 20000 in
theorem e_X6_readsBow (X : xX) (σ : xM) (lg : Int64) (v1 : Int32) (r : Bool × Int32 × Int32 × Int32 × (Nat → Int32) × Int64) (h : X6_readsBow (σ 5213 0) (σ 5214 0) (σ 5215 0) (σ 5216 0) (σ 5300) (σ 6100) (σ 6300) lg v1 = some r) : EM XP X 5 197 [.ref 52, .int v1] SH0 lg σ (some (.int (xb r.1)), SH0, [(5214, fun _ => r.2.1), (5215, fun _ => r.2.2.1), (5216, fun _ => r.2.2.2.1), (5300, r.2.2.2.2.1)], r.2.2.2.2.2) := by
  refine EM_of (M := xm_197) rfl rfl ?_
  unfold X6_readsBow at h
  refine E_sts 3 (5, [(0, .ref 52), (1, .int v1)], [.int 3, .ref 53], SH0, [], lg) rfl ?_
  refine E_par (p := inr 3 83) (6, [(0, .ref 52), (1, .int v1)], [.int ((σ 5300) 3)], SH0, [], lg) rfl (by decide) ?_
  refine E_sts 2 (if ((σ 5300) 3) = 9 then 11 else 13, [(0, .ref 52), (1, .int v1)], [], SH0, [], lg) rfl ?_
  rcases x_br h with ⟨hc, h⟩ | ⟨hc, h⟩
  · refine E_itt hc ?_
    obtain rfl := Option.some.inj h
    refine E_sts 2 (12, [], [.int 0], SH0, [(5214, fun _ => (σ 5214 0)), (5215, fun _ => (σ 5215 0)), (5216, fun _ => (σ 5216 0)), (5300, (σ 5300))], lg) rfl ?_
    exact E_retp (p := (0 : Int32) = 0 ∨ (0 : Int32) = 1) rfl (by decide)
  · refine E_itf hc ?_
    refine E_sts 3 (18, [(0, .ref 52), (1, .int v1)], [.int 3, .ref 53], SH0, [], lg) rfl ?_
    refine E_par (p := inr 3 83) (19, [(0, .ref 52), (1, .int v1)], [.int ((σ 5300) 3)], SH0, [], lg) rfl (by decide) ?_
    refine E_sts 2 (21, [(0, .ref 52), (1, .int v1), (2, .int ((σ 5300) 3))], [.ref 52], SH0, [], lg) rfl ?_
    obtain ⟨r21, hr, h⟩ := x_bind h
    refine E_call rfl (e_X6_allBows X _ _ r21 hr) (by decide) ?_
    refine E_sts 3 (27, [(0, .ref 52), (1, .int v1), (2, .int ((σ 5300) 3)), (3, .int r21)], [.int v1, .ref 52], SH0, [], lg) rfl ?_
    obtain ⟨r27, hr, h⟩ := x_bind h
    refine E_call rfl (e_X6_addsBow X _ _ _ r27 hr) (by decide) ?_
    refine E_sts 1 (31, [(0, .ref 52), (1, .int v1), (2, .int ((σ 5300) 3)), (3, .int r21)], [.ref 52], SH0, [(5300, r27)], lg) rfl ?_
    obtain ⟨r31, hr, h⟩ := x_bind h
    refine E_call rfl (e_X6_nextToken X _ _ r31 hr) (by decide) ?_
    refine E_sts 3 (37, [(0, .ref 52), (2, .int ((σ 5300) 3)), (3, .int r21), (4, .int 0)], [], SH0, [(5214, fun _ => r31.1), (5215, fun _ => r31.2.1), (5216, fun _ => r31.2.2.1), (5300, r27)], r31.2.2.2) rfl ?_
    exact e_X6_readsBow_L37 X σ lg _ ((σ 5300) 3) r21 0 r31.1 r31.2.1 r31.2.2.1 r31.2.2.2 r27 r h
set_option maxHeartbeats 4000000 in
set_option maxRecDepth 20000 in
theorem e_X6_wordOf_m_m_others_L27 (X : xX) (σ : xM) (lg : Int64) (k4 : Int32 → Int32 → Option (Int32)) (h4 : ∀ (v2 : Int32) (v3 : Int32) (r : Int32), k4 v2 v3 = some r → E XP X 0 xm_195 σ (4, [(0, .ref 52), (1, .ref 64), (2, .int v2), (3, .int v3)], [], SH0, [], lg) (some (.int r), SH0, [], lg)) : ∀ (n : Nat), ∀ (v2 : Int32) (v3 : Int32) (v4 : Int64) (v6 : Int32) (r : Int32), X6_wordOf_m_m_others_L27 k4 (σ 6400) lg n v2 v3 v4 v6 = some r → E XP X 0 xm_195 σ (27, [(0, .ref 52), (1, .ref 64), (2, .int v2), (3, .int v3), (4, .long v4), (6, .int v6)], [], SH0, [], lg) (some (.int r), SH0, [], lg) := by
  intro n
  induction n with
  | zero => intro v2 v3 v4 v6 r h; rw [X6_wordOf_m_m_others_L27] at h; cases h
  | succ n ih =>
    intro v2 v3 v4 v6 r h
    rw [X6_wordOf_m_m_others_L27] at h
    refine E_sts 3 (if 8 ≤ v6 then 82 else 34, [(0, .ref 52), (1, .ref 64), (2, .int v2), (3, .int v3), (4, .long v4), (6, .int v6)], [], SH0, [], lg) rfl ?_
    rcases x_br h with ⟨hc, h⟩ | ⟨hc, h⟩
    · refine E_itt hc ?_
      refine E_sts 5 (if (lg_cmp v4 lg) = 0 then 92 else 96, [(0, .ref 52), (1, .ref 64), (2, .int v2), (3, .int v3), (4, .long v4), (6, .int v6)], [], SH0, [], lg) rfl ?_
      rcases x_br h with ⟨hc, h⟩ | ⟨hc, h⟩
      · refine E_itt hc ?_
        refine E_sts 6 (4, [(0, .ref 52), (1, .ref 64), (2, .int v3), (3, .int (v3 + 1))], [], SH0, [], lg) rfl ?_
        exact h4 v3 (v3 + 1) r h
      · refine E_itf hc ?_
        refine E_sts 5 (4, [(0, .ref 52), (1, .ref 64), (2, .int v2), (3, .int (v3 + 1))], [], SH0, [], lg) rfl ?_
        exact h4 v2 (v3 + 1) r h
    · refine E_itf hc ?_
      refine E_sts 6 (42, [(0, .ref 52), (1, .ref 64), (2, .int v2), (3, .int v3), (4, .long v4), (6, .int v6)], [.int ((8 * v3) + v6), .ref 64], SH0, [], lg) rfl ?_
      obtain ⟨hp, h⟩ := x_ite h
      refine E_par (p := inr ((8 * v3) + v6) 48) (43, [(0, .ref 52), (1, .ref 64), (2, .int v2), (3, .int v3), (4, .long v4), (6, .int v6)], [.int ((σ 6400) ((8 * v3) + v6).toNatClampNeg)], SH0, [], lg) rfl hp ?_
      refine E_sts 2 (if ((σ 6400) ((8 * v3) + v6).toNatClampNeg) = 32 then 48 else 53, [(0, .ref 52), (1, .ref 64), (2, .int v2), (3, .int v3), (4, .long v4), (6, .int v6)], [], SH0, [], lg) rfl ?_
      rcases x_br h with ⟨hc, h⟩ | ⟨hc, h⟩
      · refine E_itt hc ?_
        refine E_sts 6 (27, [(0, .ref 52), (1, .ref 64), (2, .int v2), (3, .int v3), (4, .long v4), (6, .int (v6 + 1))], [], SH0, [], lg) rfl ?_
        exact ih v2 v3 v4 (v6 + 1) r h
      · refine E_itf hc ?_
        refine E_sts 9 (67, [(0, .ref 52), (1, .ref 64), (2, .int v2), (3, .int v3), (4, .long v4), (6, .int v6)], [.int ((8 * v3) + v6), .ref 64, .long (v4 * 27)], SH0, [], lg) rfl ?_
        obtain ⟨hp, h⟩ := x_ite h
        refine E_par (p := inr ((8 * v3) + v6) 48) (68, [(0, .ref 52), (1, .ref 64), (2, .int v2), (3, .int v3), (4, .long v4), (6, .int v6)], [.int ((σ 6400) ((8 * v3) + v6).toNatClampNeg), .long (v4 * 27)], SH0, [], lg) rfl hp ?_
        refine E_sts 8 (27, [(0, .ref 52), (1, .ref 64), (2, .int v2), (3, .int v3), (4, .long (((v4 * 27) + (Int32.toInt64 ((σ 6400) ((8 * v3) + v6).toNatClampNeg))) - 96)), (6, .int (v6 + 1))], [], SH0, [], lg) rfl ?_
        exact ih v2 v3 (((v4 * 27) + (Int32.toInt64 ((σ 6400) ((8 * v3) + v6).toNatClampNeg))) - 96) (v6 + 1) r h
set_option maxHeartbeats 4000000 in
set_option maxRecDepth 20000 in
theorem e_X6_wordOf_m_m_others_L4 (X : xX) (σ : xM) (lg : Int64) : ∀ (n : Nat), ∀ (v2 : Int32) (v3 : Int32) (r : Int32), X6_wordOf_m_m_others_L4 (σ 5214 0) (σ 6400) lg n v2 v3 = some r → E XP X 0 xm_195 σ (4, [(0, .ref 52), (1, .ref 64), (2, .int v2), (3, .int v3)], [], SH0, [], lg) (some (.int r), SH0, [], lg) := by
  intro n
  induction n with
  | zero => intro v2 v3 r h; rw [X6_wordOf_m_m_others_L4] at h; cases h
  | succ n ih =>
    intro v2 v3 r h
    rw [X6_wordOf_m_m_others_L4] at h
    refine E_sts 4 (9, [(0, .ref 52), (1, .ref 64), (2, .int v2), (3, .int v3)], [.int 8, .int (nI 48), .int v3], SH0, [], lg) rfl ?_
    refine E_parn (p := 8 = 0) (10, [(0, .ref 52), (1, .ref 64), (2, .int v2), (3, .int v3)], [.int ((nI 48) / 8), .int v3], SH0, [], lg) rfl (by decide) ?_
    refine E_sts 1 (if ((nI 48) / 8) ≤ v3 then 104 else 13, [(0, .ref 52), (1, .ref 64), (2, .int v2), (3, .int v3)], [], SH0, [], lg) rfl ?_
    rcases x_br h with ⟨hc, h⟩ | ⟨hc, h⟩
    · refine E_itt hc ?_
      obtain rfl := Option.some.inj h
      refine E_sts 1 (105, [(0, .ref 52), (1, .ref 64), (2, .int v2), (3, .int v3)], [.int v2], SH0, [], lg) rfl ?_
      exact E_ret rfl
    · refine E_itf hc ?_
      refine E_sts 4 (if (σ 5214 0) = 1 then 21 else 104, [(0, .ref 52), (1, .ref 64), (2, .int v2), (3, .int v3)], [], SH0, [], lg) rfl ?_
      rcases x_br h with ⟨hc, h⟩ | ⟨hc, h⟩
      · refine E_itt hc ?_
        refine E_sts 5 (27, [(0, .ref 52), (1, .ref 64), (2, .int v2), (3, .int v3), (4, .long 0), (6, .int 0)], [], SH0, [], lg) rfl ?_
        exact e_X6_wordOf_m_m_others_L27 X σ lg _ (fun v20 v30 r h => ih v20 v30 r h) _ v2 v3 0 0 r h
      · refine E_itf hc ?_
        obtain rfl := Option.some.inj h
        refine E_sts 1 (105, [(0, .ref 52), (1, .ref 64), (2, .int v2), (3, .int v3)], [.int v2], SH0, [], lg) rfl ?_
        exact E_ret rfl
set_option maxHeartbeats 4000000 in
set_option maxRecDepth 20000 in
theorem e_X6_wordOf_m_m_others (X : xX) (σ : xM) (lg : Int64) (r : Int32) (h : X6_wordOf_m_m_others (σ 5214 0) (σ 6400) lg = some r) : EM XP X 1 195 [.ref 52, .ref 64] SH0 lg σ (some (.int r), SH0, [], lg) := by
  refine EM_of (M := xm_195) rfl rfl ?_
  unfold X6_wordOf_m_m_others at h
  refine E_sts 5 (4, [(0, .ref 52), (1, .ref 64), (2, .int (-1)), (3, .int 0)], [], SH0, [], lg) rfl ?_
  exact e_X6_wordOf_m_m_others_L4 X σ lg _ (-1) 0 r h
set_option maxHeartbeats 4000000 in
set_option maxRecDepth 20000 in
theorem e_X6_readsContract_L38 (X : xX) (σ : xM) (lg : Int64) : ∀ (v1 : Int32) (m_token_ : Int32) (m_begun_ : Int32) (m_ended_ : Int32) (lg_ : Int64) (r : Bool × Int32 × Int32 × Int32 × (Nat → Int32) × Int64), X6_readsContract_L38 (σ 5213 0) (σ 5300) (σ 6100) v1 m_token_ m_begun_ m_ended_ lg_ = some r → E XP X 4 xm_198 σ (38, [(0, .ref 52), (1, .int v1)], [], SH0, [(5214, fun _ => m_token_), (5215, fun _ => m_begun_), (5216, fun _ => m_ended_)], lg_) (some (.int (xb r.1)), SH0, [(5214, fun _ => r.2.1), (5215, fun _ => r.2.2.1), (5216, fun _ => r.2.2.2.1), (5300, r.2.2.2.2.1)], r.2.2.2.2.2) := by
  intro v1 m_token_ m_begun_ m_ended_ lg_ r h
  unfold X6_readsContract_L38 at h
  refine E_sts 5 (45, [(0, .ref 52), (1, .int v1)], [.int 3, .ref 53, .int 0, .ref 52], SH0, [(5214, fun _ => m_token_), (5215, fun _ => m_begun_), (5216, fun _ => m_ended_)], lg_) rfl ?_
  refine E_par (p := inr 3 83) (46, [(0, .ref 52), (1, .int v1)], [.int ((σ 5300) 3), .int 0, .ref 52], SH0, [(5214, fun _ => m_token_), (5215, fun _ => m_begun_), (5216, fun _ => m_ended_)], lg_) rfl (by decide) ?_
  refine E_sts 2 (48, [(0, .ref 52), (1, .int v1)], [.int (((σ 5300) 3) - 1), .int 0, .ref 52], SH0, [(5214, fun _ => m_token_), (5215, fun _ => m_begun_), (5216, fun _ => m_ended_)], lg_) rfl ?_
  obtain ⟨r48, hr, h⟩ := x_bind h
  refine E_call rfl (e_X6_takesNumber X _ _ _ _ r48 hr) (by decide) ?_
  refine E_sts 3 (if 0 ≤ r48.1 then 58 else 56, [(0, .ref 52), (1, .int v1), (2, .int r48.1)], [], SH0, [(5214, fun _ => r48.2.1), (5215, fun _ => r48.2.2.1), (5216, fun _ => r48.2.2.2.1)], r48.2.2.2.2) rfl ?_
  rcases x_br h with ⟨hc, h⟩ | ⟨hc, h⟩
  · refine E_itt hc ?_
    refine E_sts 6 (64, [(0, .ref 52), (1, .int v1), (2, .int r48.1)], [.int 3, .int r48.1, .ref 52, .int 3, .int r48.1, .ref 52], SH0, [(5214, fun _ => r48.2.1), (5215, fun _ => r48.2.2.1), (5216, fun _ => r48.2.2.2.1)], r48.2.2.2.2) rfl ?_
    obtain ⟨r64, hr, h⟩ := x_bind h
    refine E_call rfl (e_X6_get X _ _ _ _ r64 hr) (by decide) ?_
    refine E_sts 4 (71, [(0, .ref 52), (1, .int v1), (2, .int r48.1)], [.int (r64 ||| (xshl 1 v1)), .int 3, .int r48.1, .ref 52], SH0, [(5214, fun _ => r48.2.1), (5215, fun _ => r48.2.2.1), (5216, fun _ => r48.2.2.2.1)], r48.2.2.2.2) rfl ?_
    obtain ⟨r71, hr, h⟩ := x_bind h
    refine E_call rfl (e_X6_puts X _ _ _ _ _ r71 hr) (by decide) ?_
    obtain rfl := Option.some.inj h
    refine E_sts 1 (75, [(0, .ref 52), (1, .int v1), (2, .int r48.1)], [.int 1], SH0, [(5214, fun _ => r48.2.1), (5215, fun _ => r48.2.2.1), (5216, fun _ => r48.2.2.2.1), (5300, r71)], r48.2.2.2.2) rfl ?_
    exact E_retp (p := (1 : Int32) = 0 ∨ (1 : Int32) = 1) rfl (by decide)
  · refine E_itf hc ?_
    obtain rfl := Option.some.inj h
    refine E_sts 2 (57, [], [.int 0], SH0, [(5214, fun _ => r48.2.1), (5215, fun _ => r48.2.2.1), (5216, fun _ => r48.2.2.2.1), (5300, (σ 5300))], r48.2.2.2.2) rfl ?_
    exact E_retp (p := (0 : Int32) = 0 ∨ (0 : Int32) = 1) rfl (by decide)
set_option maxHeartbeats 4000000 in
set_option maxRecDepth 20000 in
theorem e_X6_readsContract (X : xX) (σ : xM) (lg : Int64) (r : Bool × Int32 × Int32 × Int32 × (Nat → Int32) × Int64) (h : X6_readsContract (σ 5213 0) (σ 5214 0) (σ 5215 0) (σ 5216 0) (σ 5300) (σ 6100) lg = some r) : EM XP X 5 198 [.ref 52] SH0 lg σ (some (.int (xb r.1)), SH0, [(5214, fun _ => r.2.1), (5215, fun _ => r.2.2.1), (5216, fun _ => r.2.2.2.1), (5300, r.2.2.2.2.1)], r.2.2.2.2.2) := by
  refine EM_of (M := xm_198) rfl rfl ?_
  unfold X6_readsContract at h
  refine E_sts 5 (7, [(0, .ref 52)], [.int 3, .ref 53, .int 0, .ref 52], SH0, [], lg) rfl ?_
  refine E_par (p := inr 3 83) (8, [(0, .ref 52)], [.int ((σ 5300) 3), .int 0, .ref 52], SH0, [], lg) rfl (by decide) ?_
  refine E_sts 2 (10, [(0, .ref 52)], [.int (((σ 5300) 3) - 1), .int 0, .ref 52], SH0, [], lg) rfl ?_
  obtain ⟨r10, hr, h⟩ := x_bind h
  refine E_call rfl (e_X6_takesNumber X _ _ _ _ r10 hr) (by decide) ?_
  refine E_sts 3 (if r10.1 < 0 then 36 else 18, [(0, .ref 52), (1, .int r10.1)], [], SH0, [(5214, fun _ => r10.2.1), (5215, fun _ => r10.2.2.1), (5216, fun _ => r10.2.2.2.1)], r10.2.2.2.2) rfl ?_
  rcases x_br h with ⟨hc, h⟩ | ⟨hc, h⟩
  · refine E_itt hc ?_
    obtain rfl := Option.some.inj h
    refine E_sts 2 (37, [], [.int 0], SH0, [(5214, fun _ => r10.2.1), (5215, fun _ => r10.2.2.1), (5216, fun _ => r10.2.2.2.1), (5300, (σ 5300))], r10.2.2.2.2) rfl ?_
    exact E_retp (p := (0 : Int32) = 0 ∨ (0 : Int32) = 1) rfl (by decide)
  · refine E_itf hc ?_
    refine E_sts 4 (if r10.2.1 = 2 then 26 else 100038, [(0, .ref 52), (1, .int r10.1)], [], SH0, [(5214, fun _ => r10.2.1), (5215, fun _ => r10.2.2.1), (5216, fun _ => r10.2.2.2.1)], r10.2.2.2.2) rfl ?_
    rcases x_br h with ⟨hc, h⟩ | ⟨hc, h⟩
    · refine E_itt hc ?_
      refine E_sts 6 (if (lg_cmp r10.2.2.2.2 (Int32.toInt64 r10.1)) = 0 then 36 else 100038, [(0, .ref 52), (1, .int r10.1)], [], SH0, [(5214, fun _ => r10.2.1), (5215, fun _ => r10.2.2.1), (5216, fun _ => r10.2.2.2.1)], r10.2.2.2.2) rfl ?_
      rcases x_br h with ⟨hc, h⟩ | ⟨hc, h⟩
      · refine E_itt hc ?_
        obtain rfl := Option.some.inj h
        refine E_sts 2 (37, [], [.int 0], SH0, [(5214, fun _ => r10.2.1), (5215, fun _ => r10.2.2.1), (5216, fun _ => r10.2.2.2.1), (5300, (σ 5300))], r10.2.2.2.2) rfl ?_
        exact E_retp (p := (0 : Int32) = 0 ∨ (0 : Int32) = 1) rfl (by decide)
      · refine E_itf hc ?_
        refine E_sts 1 (38, [(0, .ref 52), (1, .int r10.1)], [], SH0, [(5214, fun _ => r10.2.1), (5215, fun _ => r10.2.2.1), (5216, fun _ => r10.2.2.2.1)], r10.2.2.2.2) rfl ?_
        exact e_X6_readsContract_L38 X σ lg r10.1 r10.2.1 r10.2.2.1 r10.2.2.2.1 r10.2.2.2.2 r h
    · refine E_itf hc ?_
      refine E_sts 1 (38, [(0, .ref 52), (1, .int r10.1)], [], SH0, [(5214, fun _ => r10.2.1), (5215, fun _ => r10.2.2.1), (5216, fun _ => r10.2.2.2.1)], r10.2.2.2.2) rfl ?_
      exact e_X6_readsContract_L38 X σ lg r10.1 r10.2.1 r10.2.2.1 r10.2.2.2.1 r10.2.2.2.2 r h
set_option maxHeartbeats 4000000 in
set_option maxRecDepth 20000 in
theorem e_X6_readsItem_L81 (X : xX) (σ : xM) (lg : Int64) : ∀ (v3 : Int32) (t1 : Int32) (t2 : Int32) (m_token_ : Int32) (m_begun_ : Int32) (m_ended_ : Int32) (lg_ : Int64) (r : Bool × Int32 × Int32 × Int32 × (Nat → Int32) × Int64), X6_readsItem_L81 (σ 5300) v3 t1 t2 m_token_ m_begun_ m_ended_ lg_ = some r → E XP X 5 xm_199 σ (81, [(3, .int v3)], [.int t2, .int t1, .ref 53], SH0, [(5214, fun _ => m_token_), (5215, fun _ => m_begun_), (5216, fun _ => m_ended_)], lg_) (some (.int (xb r.1)), SH0, [(5214, fun _ => r.2.1), (5215, fun _ => r.2.2.1), (5216, fun _ => r.2.2.2.1), (5300, r.2.2.2.2.1)], r.2.2.2.2.2) := by
  intro v3 t1 t2 m_token_ m_begun_ m_ended_ lg_ r h
  unfold X6_readsItem_L81 at h
  obtain ⟨hp, h⟩ := x_ite h
  refine E_par (p := inr t1 83) (82, [(3, .int v3)], [], SH0, [(5214, fun _ => m_token_), (5215, fun _ => m_begun_), (5216, fun _ => m_ended_), (5300, (upd (σ 5300) t1.toNatClampNeg t2))], lg_) rfl hp ?_
  refine E_sts 2 (if v3 < 0 then 90 else 86, [(3, .int v3)], [], SH0, [(5214, fun _ => m_token_), (5215, fun _ => m_begun_), (5216, fun _ => m_ended_), (5300, (upd (σ 5300) t1.toNatClampNeg t2))], lg_) rfl ?_
  rcases x_br h with ⟨hc, h⟩ | ⟨hc, h⟩
  · refine E_itt hc ?_
    obtain rfl := Option.some.inj h
    refine E_sts 1 (91, [(3, .int v3)], [.int 0], SH0, [(5214, fun _ => m_token_), (5215, fun _ => m_begun_), (5216, fun _ => m_ended_), (5300, (upd (σ 5300) t1.toNatClampNeg t2))], lg_) rfl ?_
    exact E_retp (p := (0 : Int32) = 0 ∨ (0 : Int32) = 1) rfl (by decide)
  · refine E_itf hc ?_
    obtain rfl := Option.some.inj h
    refine E_sts 2 (91, [(3, .int v3)], [.int 1], SH0, [(5214, fun _ => m_token_), (5215, fun _ => m_begun_), (5216, fun _ => m_ended_), (5300, (upd (σ 5300) t1.toNatClampNeg t2))], lg_) rfl ?_
    exact E_retp (p := (1 : Int32) = 0 ∨ (1 : Int32) = 1) rfl (by decide)
set_option maxHeartbeats 4000000 in
set_option maxRecDepth 20000 in
theorem e_X6_readsItem (X : xX) (σ : xM) (lg : Int64) (r : Bool × Int32 × Int32 × Int32 × (Nat → Int32) × Int64) (h : X6_readsItem (σ 5213 0) (σ 5214 0) (σ 5215 0) (σ 5216 0) (σ 5300) (σ 6100) (σ 6200) (σ 6300) (σ 6400) lg = some r) : EM XP X 6 199 [.ref 52] SH0 lg σ (some (.int (xb r.1)), SH0, [(5214, fun _ => r.2.1), (5215, fun _ => r.2.2.1), (5216, fun _ => r.2.2.2.1), (5300, r.2.2.2.2.1)], r.2.2.2.2.2) := by
  refine EM_of (M := xm_199) rfl rfl ?_
  unfold X6_readsItem at h
  refine E_sts 3 (5, [(0, .ref 52)], [.ref 62, .ref 52], SH0, [], lg) rfl ?_
  obtain ⟨r5, hr, h⟩ := x_bind h
  refine E_call rfl (e_X6_wordOf_m_m_letters X _ _ r5 hr) (by decide) ?_
  refine E_sts 3 (if r5 < 0 then 19 else 13, [(0, .ref 52), (1, .int r5)], [], SH0, [], lg) rfl ?_
  rcases x_br h with ⟨hc, h⟩ | ⟨hc, h⟩
  · refine E_itt hc ?_
    refine E_sts 3 (24, [(0, .ref 52), (1, .int r5)], [.ref 64, .ref 52], SH0, [], lg) rfl ?_
    obtain ⟨r24, hr, h⟩ := x_bind h
    refine E_call rfl (e_X6_wordOf_m_m_others X _ _ r24 hr) (by decide) ?_
    refine E_sts 3 (if 0 ≤ r24 then 34 else 32, [(0, .ref 52), (1, .int r5), (2, .int r24)], [], SH0, [], lg) rfl ?_
    rcases x_br h with ⟨hc, h⟩ | ⟨hc, h⟩
    · refine E_itt hc ?_
      refine E_sts 1 (35, [(0, .ref 52), (1, .int r5), (2, .int r24)], [.ref 52], SH0, [], lg) rfl ?_
      obtain ⟨r35, hr, h⟩ := x_bind h
      refine E_call rfl (e_X6_nextToken X _ _ r35 hr) (by decide) ?_
      refine E_sts 3 (if r24 = 5 then 43 else 48, [(0, .ref 52), (1, .int r5), (2, .int r24)], [], SH0, [(5214, fun _ => r35.1), (5215, fun _ => r35.2.1), (5216, fun _ => r35.2.2.1)], r35.2.2.2) rfl ?_
      rcases x_br h with ⟨hc, h⟩ | ⟨hc, h⟩
      · refine E_itt hc ?_
        refine E_sts 1 (44, [(0, .ref 52), (1, .int r5), (2, .int r24)], [.ref 52], SH0, [(5214, fun _ => r35.1), (5215, fun _ => r35.2.1), (5216, fun _ => r35.2.2.1)], r35.2.2.2) rfl ?_
        obtain ⟨r44, hr, h⟩ := x_bind h
        refine E_call rfl (e_X6_readsContract X _ _ r44 hr) (by decide) ?_
        obtain rfl := Option.some.inj h
        exact E_retp (p := (xb r44.1) = 0 ∨ (xb r44.1) = 1) rfl (xb01 _)
      · refine E_itf hc ?_
        refine E_sts 3 (51, [(0, .ref 52), (1, .int r5), (2, .int r24)], [.int r24, .int 0, .ref 52], SH0, [(5214, fun _ => r35.1), (5215, fun _ => r35.2.1), (5216, fun _ => r35.2.2.1)], r35.2.2.2) rfl ?_
        refine E_call rfl (e_X6_greatestRule X _ _ _ (X6_greatestRule r24) rfl) (by decide) ?_
        obtain ⟨r54, hr, h⟩ := x_bind h
        refine E_call rfl (e_X6_takesNumber X _ _ _ _ r54 hr) (by decide) ?_
        refine E_sts 8 (if 0 ≤ r54.1 then 80 else 69, [(0, .ref 52), (1, .int r5), (2, .int r24), (3, .int r54.1)], [.int (5 + r24), .ref 53], SH0, [(5214, fun _ => r54.2.1), (5215, fun _ => r54.2.2.1), (5216, fun _ => r54.2.2.2.1)], r54.2.2.2.2) rfl ?_
        rcases x_br h with ⟨hc, h⟩ | ⟨hc, h⟩
        · refine E_itt hc ?_
          refine E_sts 2 (81, [(3, .int r54.1)], [.int r54.1, .int (5 + r24), .ref 53], SH0, [(5214, fun _ => r54.2.1), (5215, fun _ => r54.2.2.1), (5216, fun _ => r54.2.2.2.1)], r54.2.2.2.2) rfl ?_
          exact e_X6_readsItem_L81 X σ lg r54.1 (5 + r24) r54.1 r54.2.1 r54.2.2.1 r54.2.2.2.1 r54.2.2.2.2 r h
        · refine E_itf hc ?_
          refine E_sts 5 (76, [(0, .ref 52), (1, .int r5), (2, .int r24), (3, .int r54.1)], [.int (5 + r24), .ref 53, .int (5 + r24), .ref 53], SH0, [(5214, fun _ => r54.2.1), (5215, fun _ => r54.2.2.1), (5216, fun _ => r54.2.2.2.1)], r54.2.2.2.2) rfl ?_
          obtain ⟨hp, h⟩ := x_ite h
          refine E_par (p := inr (5 + r24) 83) (77, [(0, .ref 52), (1, .int r5), (2, .int r24), (3, .int r54.1)], [.int ((σ 5300) (5 + r24).toNatClampNeg), .int (5 + r24), .ref 53], SH0, [(5214, fun _ => r54.2.1), (5215, fun _ => r54.2.2.1), (5216, fun _ => r54.2.2.2.1)], r54.2.2.2.2) rfl hp ?_
          refine E_sts 2 (81, [(3, .int r54.1)], [.int ((σ 5300) (5 + r24).toNatClampNeg), .int (5 + r24), .ref 53], SH0, [(5214, fun _ => r54.2.1), (5215, fun _ => r54.2.2.1), (5216, fun _ => r54.2.2.2.1)], r54.2.2.2.2) rfl ?_
          exact e_X6_readsItem_L81 X σ lg r54.1 (5 + r24) ((σ 5300) (5 + r24).toNatClampNeg) r54.2.1 r54.2.2.1 r54.2.2.2.1 r54.2.2.2.2 r h
    · refine E_itf hc ?_
      obtain rfl := Option.some.inj h
      refine E_sts 2 (33, [], [.int 0], SH0, [(5214, fun _ => (σ 5214 0)), (5215, fun _ => (σ 5215 0)), (5216, fun _ => (σ 5216 0)), (5300, (σ 5300))], lg) rfl ?_
      exact E_retp (p := (0 : Int32) = 0 ∨ (0 : Int32) = 1) rfl (by decide)
  · refine E_itf hc ?_
    refine E_sts 2 (15, [(0, .ref 52), (1, .int r5)], [.int r5, .ref 52], SH0, [], lg) rfl ?_
    obtain ⟨r15, hr, h⟩ := x_bind h
    refine E_call rfl (e_X6_readsBow X _ _ _ r15 hr) (by decide) ?_
    obtain rfl := Option.some.inj h
    exact E_retp (p := (xb r15.1) = 0 ∨ (xb r15.1) = 1) rfl (xb01 _)
set_option maxHeartbeats 4000000 in
set_option maxRecDepth 20000 in
theorem e_X6_laysBack_L2 (X : xX) (σ : xM) (lg : Int64) : ∀ (n : Nat), ∀ (v1 : Int32) (m_s_ : (Nat → Int32)) (r : (Nat → Int32)), X6_laysBack_L2 (σ 5500) n v1 m_s_ = some r → E XP X 0 xm_189 σ (2, [(0, .ref 52), (1, .int v1)], [], SH0, [(5300, m_s_)], lg) (none, SH0, [(5300, r)], lg) := by
  intro n
  induction n with
  | zero => intro v1 m_s_ r h; rw [X6_laysBack_L2] at h; cases h
  | succ n ih =>
    intro v1 m_s_ r h
    rw [X6_laysBack_L2] at h
    refine E_sts 3 (if 83 ≤ v1 then 100026 else 8, [(0, .ref 52), (1, .int v1)], [], SH0, [(5300, m_s_)], lg) rfl ?_
    rcases x_br h with ⟨hc, h⟩ | ⟨hc, h⟩
    · refine E_itt hc ?_
      obtain rfl := Option.some.inj h
      refine E_sts 1 (26, [], [], SH0, [(5300, m_s_)], lg) rfl ?_
      exact E_ret rfl
    · refine E_itf hc ?_
      refine E_sts 6 (18, [(0, .ref 52), (1, .int v1)], [.int v1, .ref 55, .int v1, .ref 53], SH0, [(5300, m_s_)], lg) rfl ?_
      obtain ⟨hp, h⟩ := x_ite h
      refine E_par (p := inr v1 83) (19, [(0, .ref 52), (1, .int v1)], [.int ((σ 5500) v1.toNatClampNeg), .int v1, .ref 53], SH0, [(5300, m_s_)], lg) rfl hp ?_
      obtain ⟨hp, h⟩ := x_ite h
      refine E_par (p := inr v1 83) (20, [(0, .ref 52), (1, .int v1)], [], SH0, [(5300, (upd m_s_ v1.toNatClampNeg ((σ 5500) v1.toNatClampNeg)))], lg) rfl hp ?_
      refine E_sts 3 (2, [(0, .ref 52), (1, .int (v1 + 1))], [], SH0, [(5300, (upd m_s_ v1.toNatClampNeg ((σ 5500) v1.toNatClampNeg)))], lg) rfl ?_
      exact ih (v1 + 1) (upd m_s_ v1.toNatClampNeg ((σ 5500) v1.toNatClampNeg)) r h
set_option maxHeartbeats 4000000 in
set_option maxRecDepth 20000 in
theorem e_X6_laysBack (X : xX) (σ : xM) (lg : Int64) (r : (Nat → Int32)) (h : X6_laysBack (σ 5300) (σ 5500) = some r) : EM XP X 1 189 [.ref 52] SH0 lg σ (none, SH0, [(5300, r)], lg) := by
  refine EM_of (M := xm_189) rfl rfl ?_
  unfold X6_laysBack at h
  refine E_sts 3 (2, [(0, .ref 52), (1, .int 0)], [], SH0, [(5300, (σ 5300))], lg) rfl ?_
  exact e_X6_laysBack_L2 X σ lg _ 0 (σ 5300) r h
set_option maxHeartbeats 4000000 in
set_option maxRecDepth 20000 in
theorem e_X6_text_L63 (X : xX) (σ : xM) (lg : Int64) : ∀ (v1 : Int32) (t0 : Int32) (m_token_ : Int32) (m_begun_ : Int32) (m_ended_ : Int32) (lg_ : Int64) (m_s_ : (Nat → Int32)) (m_aside_ : (Nat → Int32)) (r : Int32 × Int32 × Int32 × Int32 × Int32 × (Nat → Int32) × (Nat → Int32) × Int64), X6_text_L63 v1 t0 m_token_ m_begun_ m_ended_ lg_ m_s_ m_aside_ = some r → E XP X 6 xm_200 σ (63, [(0, .ref 52), (1, .int v1)], [.int t0], SH0, [(5214, fun _ => m_token_), (5215, fun _ => m_begun_), (5216, fun _ => m_ended_), (5300, m_s_), (5500, m_aside_)], lg_) (some (.int r.1), SH0, [(5213, fun _ => r.2.1), (5214, fun _ => r.2.2.1), (5215, fun _ => r.2.2.2.1), (5216, fun _ => r.2.2.2.2.1), (5300, r.2.2.2.2.2.1), (5500, r.2.2.2.2.2.2.1)], r.2.2.2.2.2.2.2) := by
  intro v1 t0 m_token_ m_begun_ m_ended_ lg_ m_s_ m_aside_ r h
  unfold X6_text_L63 at h
  refine E_sts 6 (if t0 = 0 then 73 else 84, [(0, .ref 52), (1, .int v1), (2, .int t0)], [], SH0, [(5213, fun _ => 0), (5214, fun _ => m_token_), (5215, fun _ => m_begun_), (5216, fun _ => m_ended_), (5300, m_s_), (5500, m_aside_)], lg_) rfl ?_
  rcases x_br h with ⟨hc, h⟩ | ⟨hc, h⟩
  · refine E_itt hc ?_
    refine E_sts 1 (74, [(0, .ref 52), (1, .int v1), (2, .int t0)], [.ref 52], SH0, [(5213, fun _ => 0), (5214, fun _ => m_token_), (5215, fun _ => m_begun_), (5216, fun _ => m_ended_), (5300, m_s_), (5500, m_aside_)], lg_) rfl ?_
    obtain ⟨r74, hr, h⟩ := x_bind h
    refine E_call rfl (e_X6_laysBack X _ _ r74 hr) (by decide) ?_
    obtain rfl := Option.some.inj h
    refine E_sts 4 (83, [(0, .ref 52), (1, .int v1), (2, .int t0)], [.int ((-1) - m_begun_)], SH0, [(5213, fun _ => 0), (5214, fun _ => m_token_), (5215, fun _ => m_begun_), (5216, fun _ => m_ended_), (5300, r74), (5500, m_aside_)], lg_) rfl ?_
    exact E_ret rfl
  · refine E_itf hc ?_
    obtain rfl := Option.some.inj h
    refine E_sts 1 (85, [(0, .ref 52), (1, .int v1), (2, .int t0)], [.int v1], SH0, [(5213, fun _ => 0), (5214, fun _ => m_token_), (5215, fun _ => m_begun_), (5216, fun _ => m_ended_), (5300, m_s_), (5500, m_aside_)], lg_) rfl ?_
    exact E_ret rfl
set_option maxHeartbeats 4000000 in
set_option maxRecDepth 20000 in
theorem e_X6_text_L47 (X : xX) (σ : xM) (lg : Int64) : ∀ (v1 : Int32) (v2 : Int32) (m_token_ : Int32) (m_begun_ : Int32) (m_ended_ : Int32) (lg_ : Int64) (m_s_ : (Nat → Int32)) (m_aside_ : (Nat → Int32)) (r : Int32 × Int32 × Int32 × Int32 × Int32 × (Nat → Int32) × (Nat → Int32) × Int64), X6_text_L47 v1 v2 m_token_ m_begun_ m_ended_ lg_ m_s_ m_aside_ = some r → E XP X 6 xm_200 σ (47, [(0, .ref 52), (1, .int v1), (2, .int v2)], [], SH0, [(5214, fun _ => m_token_), (5215, fun _ => m_begun_), (5216, fun _ => m_ended_), (5300, m_s_), (5500, m_aside_)], lg_) (some (.int r.1), SH0, [(5213, fun _ => r.2.1), (5214, fun _ => r.2.2.1), (5215, fun _ => r.2.2.2.1), (5216, fun _ => r.2.2.2.2.1), (5300, r.2.2.2.2.2.1), (5500, r.2.2.2.2.2.2.1)], r.2.2.2.2.2.2.2) := by
  intro v1 v2 m_token_ m_begun_ m_ended_ lg_ m_s_ m_aside_ r h
  unfold X6_text_L47 at h
  refine E_sts 2 (if v2 = 0 then 62 else 51, [(0, .ref 52), (1, .int v1), (2, .int v2)], [], SH0, [(5214, fun _ => m_token_), (5215, fun _ => m_begun_), (5216, fun _ => m_ended_), (5300, m_s_), (5500, m_aside_)], lg_) rfl ?_
  rcases x_br h with ⟨hc, h⟩ | ⟨hc, h⟩
  · refine E_itt hc ?_
    refine E_sts 2 (63, [(0, .ref 52), (1, .int v1)], [.int 0], SH0, [(5214, fun _ => m_token_), (5215, fun _ => m_begun_), (5216, fun _ => m_ended_), (5300, m_s_), (5500, m_aside_)], lg_) rfl ?_
    exact e_X6_text_L63 X σ lg v1 0 m_token_ m_begun_ m_ended_ lg_ m_s_ m_aside_ r h
  · refine E_itf hc ?_
    refine E_sts 3 (if m_token_ = 0 then 58 else 62, [(0, .ref 52), (1, .int v1), (2, .int v2)], [], SH0, [(5214, fun _ => m_token_), (5215, fun _ => m_begun_), (5216, fun _ => m_ended_), (5300, m_s_), (5500, m_aside_)], lg_) rfl ?_
    rcases x_br h with ⟨hc, h⟩ | ⟨hc, h⟩
    · refine E_itt hc ?_
      refine E_sts 3 (63, [(0, .ref 52), (1, .int v1)], [.int 1], SH0, [(5214, fun _ => m_token_), (5215, fun _ => m_begun_), (5216, fun _ => m_ended_), (5300, m_s_), (5500, m_aside_)], lg_) rfl ?_
      exact e_X6_text_L63 X σ lg v1 1 m_token_ m_begun_ m_ended_ lg_ m_s_ m_aside_ r h
    · refine E_itf hc ?_
      refine E_sts 2 (63, [(0, .ref 52), (1, .int v1)], [.int 0], SH0, [(5214, fun _ => m_token_), (5215, fun _ => m_begun_), (5216, fun _ => m_ended_), (5300, m_s_), (5500, m_aside_)], lg_) rfl ?_
      exact e_X6_text_L63 X σ lg v1 0 m_token_ m_begun_ m_ended_ lg_ m_s_ m_aside_ r h
set_option maxHeartbeats 4000000 in
set_option maxRecDepth 20000 in
theorem e_X6_text_L20 (X : xX) (σ : xM) (lg : Int64) : ∀ (n : Nat), ∀ (v1 : Int32) (v2 : Int32) (m_token_ : Int32) (m_begun_ : Int32) (m_ended_ : Int32) (lg_ : Int64) (m_s_ : (Nat → Int32)) (m_aside_ : (Nat → Int32)) (r : Int32 × Int32 × Int32 × Int32 × Int32 × (Nat → Int32) × (Nat → Int32) × Int64), X6_text_L20 (σ 5213 0) (σ 6100) (σ 6200) (σ 6300) (σ 6400) n v1 v2 m_token_ m_begun_ m_ended_ lg_ m_s_ m_aside_ = some r → E XP X 6 xm_200 σ (20, [(0, .ref 52), (1, .int v1), (2, .int v2)], [], SH0, [(5214, fun _ => m_token_), (5215, fun _ => m_begun_), (5216, fun _ => m_ended_), (5300, m_s_), (5500, m_aside_)], lg_) (some (.int r.1), SH0, [(5213, fun _ => r.2.1), (5214, fun _ => r.2.2.1), (5215, fun _ => r.2.2.2.1), (5216, fun _ => r.2.2.2.2.1), (5300, r.2.2.2.2.2.1), (5500, r.2.2.2.2.2.2.1)], r.2.2.2.2.2.2.2) := by
  intro n
  induction n with
  | zero => intro v1 v2 m_token_ m_begun_ m_ended_ lg_ m_s_ m_aside_ r h; rw [X6_text_L20] at h; cases h
  | succ n ih =>
    intro v1 v2 m_token_ m_begun_ m_ended_ lg_ m_s_ m_aside_ r h
    rw [X6_text_L20] at h
    refine E_sts 2 (if v2 = 0 then 100047 else 24, [(0, .ref 52), (1, .int v1), (2, .int v2)], [], SH0, [(5214, fun _ => m_token_), (5215, fun _ => m_begun_), (5216, fun _ => m_ended_), (5300, m_s_), (5500, m_aside_)], lg_) rfl ?_
    rcases x_br h with ⟨hc, h⟩ | ⟨hc, h⟩
    · refine E_itt hc ?_
      refine E_sts 1 (47, [(0, .ref 52), (1, .int v1), (2, .int v2)], [], SH0, [(5214, fun _ => m_token_), (5215, fun _ => m_begun_), (5216, fun _ => m_ended_), (5300, m_s_), (5500, m_aside_)], lg_) rfl ?_
      exact e_X6_text_L47 X σ lg v1 v2 m_token_ m_begun_ m_ended_ lg_ m_s_ m_aside_ r h
    · refine E_itf hc ?_
      refine E_sts 4 (if m_token_ = 3 then 32 else 100047, [(0, .ref 52), (1, .int v1), (2, .int v2)], [], SH0, [(5214, fun _ => m_token_), (5215, fun _ => m_begun_), (5216, fun _ => m_ended_), (5300, m_s_), (5500, m_aside_)], lg_) rfl ?_
      rcases x_br h with ⟨hc, h⟩ | ⟨hc, h⟩
      · refine E_itt hc ?_
        refine E_sts 1 (33, [(0, .ref 52), (1, .int v1), (2, .int v2)], [.ref 52], SH0, [(5214, fun _ => m_token_), (5215, fun _ => m_begun_), (5216, fun _ => m_ended_), (5300, m_s_), (5500, m_aside_)], lg_) rfl ?_
        obtain ⟨r33, hr, h⟩ := x_bind h
        refine E_call rfl (e_X6_nextToken X _ _ r33 hr) (by decide) ?_
        refine E_sts 1 (37, [(0, .ref 52), (1, .int v1), (2, .int v2)], [.ref 52], SH0, [(5214, fun _ => r33.1), (5215, fun _ => r33.2.1), (5216, fun _ => r33.2.2.1), (5300, m_s_), (5500, m_aside_)], r33.2.2.2) rfl ?_
        obtain ⟨r37, hr, h⟩ := x_bind h
        refine E_call rfl (e_X6_readsItem X _ _ r37 hr) (by decide) ?_
        refine E_sts 4 (20, [(0, .ref 52), (1, .int (v1 + 1)), (2, .int (xb r37.1))], [], SH0, [(5214, fun _ => r37.2.1), (5215, fun _ => r37.2.2.1), (5216, fun _ => r37.2.2.2.1), (5300, r37.2.2.2.2.1), (5500, m_aside_)], r37.2.2.2.2.2) rfl ?_
        exact ih (v1 + 1) (xb r37.1) r37.2.1 r37.2.2.1 r37.2.2.2.1 r37.2.2.2.2.2 r37.2.2.2.2.1 m_aside_ r h
      · refine E_itf hc ?_
        refine E_sts 1 (47, [(0, .ref 52), (1, .int v1), (2, .int v2)], [], SH0, [(5214, fun _ => m_token_), (5215, fun _ => m_begun_), (5216, fun _ => m_ended_), (5300, m_s_), (5500, m_aside_)], lg_) rfl ?_
        exact e_X6_text_L47 X σ lg v1 v2 m_token_ m_begun_ m_ended_ lg_ m_s_ m_aside_ r h
set_option maxHeartbeats 4000000 in
set_option maxRecDepth 20000 in
theorem e_X6_text (X : xX) (σ : xM) (lg : Int64) (r : Int32 × Int32 × Int32 × Int32 × Int32 × (Nat → Int32) × (Nat → Int32) × Int64) (h : X6_text (σ 5213 0) (σ 5300) (σ 5500) (σ 6100) (σ 6200) (σ 6300) (σ 6400) = some r) : EM XP X 7 200 [.ref 52] SH0 lg σ (some (.int r.1), SH0, [(5213, fun _ => r.2.1), (5214, fun _ => r.2.2.1), (5215, fun _ => r.2.2.2.1), (5216, fun _ => r.2.2.2.2.1), (5300, r.2.2.2.2.2.1), (5500, r.2.2.2.2.2.2.1)], r.2.2.2.2.2.2.2) := by
  refine EM_of (M := xm_200) rfl rfl ?_
  unfold X6_text at h
  refine E_sts 1 (1, [(0, .ref 52)], [.ref 52], SH0, [], lg) rfl ?_
  obtain ⟨r1, hr, h⟩ := x_bind h
  refine E_call rfl (e_X6_setsAside X _ _ r1 hr) (by decide) ?_
  refine E_sts 4 (10, [(0, .ref 52)], [.ref 52], SH0, [(5216, fun _ => 0), (5500, r1)], lg) rfl ?_
  obtain ⟨r10, hr, h⟩ := x_bind h
  refine E_call rfl (e_X6_nextToken X _ _ r10 hr) (by decide) ?_
  refine E_sts 3 (16, [(0, .ref 52), (1, .int 1)], [.ref 52], SH0, [(5214, fun _ => r10.1), (5215, fun _ => r10.2.1), (5216, fun _ => r10.2.2.1), (5500, r1)], r10.2.2.2) rfl ?_
  obtain ⟨r16, hr, h⟩ := x_bind h
  refine E_call rfl (e_X6_readsItem X _ _ r16 hr) (by decide) ?_
  refine E_sts 2 (20, [(0, .ref 52), (1, .int 1), (2, .int (xb r16.1))], [], SH0, [(5214, fun _ => r16.2.1), (5215, fun _ => r16.2.2.1), (5216, fun _ => r16.2.2.2.1), (5300, r16.2.2.2.2.1), (5500, r1)], r16.2.2.2.2.2) rfl ?_
  exact e_X6_text_L20 X σ lg _ 1 (xb r16.1) r16.2.1 r16.2.2.1 r16.2.2.2.1 r16.2.2.2.2.2 r16.2.2.2.2.1 r1 r h
set_option maxHeartbeats 4000000 in
set_option maxRecDepth 20000 in
theorem e_X5_hold (X : xX) (σ : xM) (lg : Int64) (v1 : Int32) (v2 : Int32) (r : Int32 × (Nat → Int32) × (Nat → Int32)) (h : X5_hold (σ 100) (σ 201 0) (σ 1100) v1 v2 = some r) : EM XP X 2 102 [.ref 0, .int v1, .int v2] SH0 lg σ (some (.int r.1), SH0, [(100, r.2.1), (1100, r.2.2)], lg) := by
  refine EM_of (M := xm_102) rfl rfl ?_
  unfold X5_hold at h
  refine E_sts 3 (4, [(0, .ref 0), (1, .int v1), (2, .int v2)], [.int 9, .int 0, .int v1], SH0, [], lg) rfl ?_
  refine E_call rfl (e_X5_isIn X _ _ _ _ _ (X5_isIn v1 0 9) rfl) (by decide) ?_
  refine E_sts 1 (if (xb (X5_isIn v1 0 9)) = 0 then 26 else 10, [(0, .ref 0), (1, .int v1), (2, .int v2)], [], SH0, [], lg) rfl ?_
  rcases x_br h with ⟨hc, h⟩ | ⟨hc, h⟩
  · refine E_itt hc ?_
    refine E_sts 2 (28, [(0, .ref 0), (1, .int v1), (2, .int v2)], [.int 0, .ref 0], SH0, [], lg) rfl ?_
    obtain ⟨r28, hr, h⟩ := x_bind h
    refine E_call rfl (e_X5_finding X _ _ _ r28 hr) (by decide) ?_
    obtain rfl := Option.some.inj h
    refine E_sts 1 (31, [], [.int r28.1], SH0, [(100, r28.2), (1100, (σ 1100))], lg) rfl ?_
    exact E_ret rfl
  · refine E_itf hc ?_
    refine E_sts 3 (if v2 = (-1) then 32 else 15, [(0, .ref 0), (1, .int v1), (2, .int v2)], [], SH0, [], lg) rfl ?_
    rcases x_br h with ⟨hc, h⟩ | ⟨hc, h⟩
    · refine E_itt hc ?_
      refine E_sts 5 (41, [(0, .ref 0), (1, .int v1), (2, .int v2)], [.int v2, .int v1, .ref 11], SH0, [], lg) rfl ?_
      obtain ⟨hp, h⟩ := x_ite h
      refine E_par (p := inr v1 10) (42, [(0, .ref 0), (1, .int v1), (2, .int v2)], [], SH0, [(1100, (upd (σ 1100) v1.toNatClampNeg v2))], lg) rfl hp ?_
      obtain rfl := Option.some.inj h
      refine E_sts 2 (43, [], [.int 1], SH0, [(100, (σ 100)), (1100, (upd (σ 1100) v1.toNatClampNeg v2))], lg) rfl ?_
      exact E_ret rfl
    · refine E_itf hc ?_
      refine E_sts 3 (20, [(0, .ref 0), (1, .int v1), (2, .int v2)], [.int v2, .ref 2], SH0, [], lg) rfl ?_
      refine E_call rfl (e_X2_isBow X _ _ _ (X2_isBow (σ 201 0) v2) rfl) (by decide) ?_
      refine E_sts 1 (if (xb (X2_isBow (σ 201 0) v2)) = 0 then 26 else 32, [(0, .ref 0), (1, .int v1), (2, .int v2)], [], SH0, [], lg) rfl ?_
      rcases x_br h with ⟨hc, h⟩ | ⟨hc, h⟩
      · refine E_itt hc ?_
        refine E_sts 2 (28, [(0, .ref 0), (1, .int v1), (2, .int v2)], [.int 0, .ref 0], SH0, [], lg) rfl ?_
        obtain ⟨r28_1, hr, h⟩ := x_bind h
        refine E_call rfl (e_X5_finding X _ _ _ r28_1 hr) (by decide) ?_
        obtain rfl := Option.some.inj h
        refine E_sts 1 (31, [], [.int r28_1.1], SH0, [(100, r28_1.2), (1100, (σ 1100))], lg) rfl ?_
        exact E_ret rfl
      · refine E_itf hc ?_
        refine E_sts 5 (41, [(0, .ref 0), (1, .int v1), (2, .int v2)], [.int v2, .int v1, .ref 11], SH0, [], lg) rfl ?_
        obtain ⟨hp, h⟩ := x_ite h
        refine E_par (p := inr v1 10) (42, [(0, .ref 0), (1, .int v1), (2, .int v2)], [], SH0, [(1100, (upd (σ 1100) v1.toNatClampNeg v2))], lg) rfl hp ?_
        obtain rfl := Option.some.inj h
        refine E_sts 2 (43, [], [.int 1], SH0, [(100, (σ 100)), (1100, (upd (σ 1100) v1.toNatClampNeg v2))], lg) rfl ?_
        exact E_ret rfl
set_option maxHeartbeats 4000000 in
set_option maxRecDepth 20000 in
theorem e_X6_isSpot (X : xX) (σ : xM) (lg : Int64) (v0 : Int32) (r : Bool) (h : X6_isSpot v0 = r) : EM XP X 2 201 [.int v0] SH0 lg σ (some (.int (xb r)), SH0, [], lg) := by
  refine EM_of (M := xm_201) rfl rfl ?_
  unfold X6_isSpot at h
  refine E_sts 3 (4, [(0, .int v0)], [.int 9, .int 0, .int v0], SH0, [], lg) rfl ?_
  refine E_call rfl (e_X6_in1 X _ _ _ _ _ (X6_in1 v0 0 9) rfl) (by decide) ?_
  subst h
  exact E_retp (p := (xb (X6_in1 v0 0 9)) = 0 ∨ (xb (X6_in1 v0 0 9)) = 1) rfl (xb01 _)
