/-! THE LAW'S LOOP (by gen/law.py): over any judgement J that has the rules of the machine -/
def xCmdI (X : xX) (Inv : xM → Int64 → Prop) (kx km : Nat) (as : List Value) (σ : xM) (lg : Int64) : Prop := ∃ (v : Int32) (ox : xO) (lg1 : Int64) (om : xO) (lg2 : Int64), EM XP X 11 kx (.ref 0 :: as) SH0 lg σ (some (.int v), SH0, ox, lg1) ∧ EM XP X 11 km (.ref 52 :: as) SH0 lg1 (xget ox σ) (some (.int v), SH0, om, lg2) ∧ Inv (xget om (xget ox σ)) lg2
def xCmdL (X : xX) (Inv : xM → Int64 → Prop) (kx km : Nat) (as : List Value) (σ : xM) (lg : Int64) : Prop := ∃ (v : Int64) (ox : xO) (lg1 : Int64) (om : xO) (lg2 : Int64), EM XP X 11 kx (.ref 0 :: as) SH0 lg σ (some (.long v), SH0, ox, lg1) ∧ EM XP X 11 km (.ref 52 :: as) SH0 lg1 (xget ox σ) (some (.long v), SH0, om, lg2) ∧ Inv (xget om (xget ox σ)) lg2
def xRules (X : xX) (J : xM → xC → Prop) : Prop :=
  (∀ (σ : xM) (n : Nat) (c c' : xC), xsteps XP xm_233 X σ n c = some c' → c'.2.2.2.1 = SH0 → J σ c' → J σ c) ∧
  (∀ (σ : xM) (c : xC) (k : Nat) (as : List Value) (pc : Nat) (lv : xL) (st : List Value) (o : xO) (lg : Int64) (r : Option Value) (ol' : xO) (lg' : Int64), xact XP xm_233 X σ c = some (.inr (.inl (k, as, pc, lv, st, SH0, o, lg))) → EM XP X 11 k as SH0 lg (xget o σ) (r, SH0, ol', lg') → J σ (pc, lv, r.toList ++ st, SH0, xmrg o ol', lg') → J σ c) ∧
  (∀ (σ : xM) (pc : Nat) (lv : xL) (st : List Value) (o : xO) (lg : Int64), J (xget o σ) (pc, lv, st, SH0, [], lg) → J σ (pc, lv, st, SH0, o, lg)) ∧
  (∀ (σ : xM) (lv : xL) (o : xO) (lg : Int64), J σ (1425, lv, [.int 1], SH0, o, lg))
section LAW
variable {X : xX} {J : xM → xC → Prop}
theorem r_sts (R : xRules X J) {σ : xM} (n : Nat) {c : xC} (c' : xC) (h : xsteps XP xm_233 X σ n c = some c') (hs : c'.2.2.2.1 = SH0) (k : J σ c') : J σ c := R.1 σ n c c' h hs k
theorem r_par (R : xRules X J) {σ : xM} {c : xC} (c' : xC) {p : Prop} {ip : Decidable p} (h : xact XP xm_233 X σ c = if p then some (.inr (.inr c')) else none) (hp : p) (hs : c'.2.2.2.1 = SH0) (k : J σ c') : J σ c := R.1 σ 1 c c' (by rw [xsteps, h, if_pos hp]; rfl) hs k
theorem r_call (R : xRules X J) {σ : xM} {c : xC} {k : Nat} {as : List Value} {pc : Nat} {lv : xL} {st : List Value} {o : xO} {lg : Int64} {r : Option Value} {ol' : xO} {lg' : Int64} (h : xact XP xm_233 X σ c = some (.inr (.inl (k, as, pc, lv, st, SH0, o, lg)))) (hc : EM XP X 11 k as SH0 lg (xget o σ) (r, SH0, ol', lg')) (kk : J σ (pc, lv, r.toList ++ st, SH0, xmrg o ol', lg')) : J σ c := R.2.1 σ c k as pc lv st o lg r ol' lg' h hc kk
theorem r_itt {σ : xM} {p : Prop} {ip : Decidable p} (hp : p) {a b : Nat} {c : xL × List Value × xS × xO × Int64} (k : J σ (a, c)) : J σ ((if p then a else b), c) := by rw [if_pos hp]; exact k
theorem r_itf {σ : xM} {p : Prop} {ip : Decidable p} (hp : ¬ p) {a b : Nat} {c : xL × List Value × xS × xO × Int64} (k : J σ (b, c)) : J σ ((if p then a else b), c) := by rw [if_neg hp]; exact k
set_option maxRecDepth 20000 in
theorem law_0 (R : xRules X J) {Inv : xM → Int64 → Prop} {σ : xM} {lg : Int64} {i : Nat} (h1 : inr (nI i + 1) X.1) (hc : xCmdI X Inv 68 144 [.int (X.2 (nI i + 1).toNatClampNeg)] σ lg) (hnext : ∀ (o : xO) (lg' : Int64), Inv (xget o σ) lg' → J σ (1418, [(0, .ref 900), (1, .ref 0), (2, .ref 52), (3, .int (nI i))], [], SH0, o, lg')) : J σ (236, [(0, .ref 900), (1, .ref 0), (2, .ref 52), (3, .int (nI i))], [], SH0, [], lg) := by
  obtain ⟨v, ox, lg1, om, lg2, h_x, h_m, h_i⟩ := hc
  refine r_sts R 5 (241, [(0, .ref 900), (1, .ref 0), (2, .ref 52), (3, .int (nI i))], [.int (nI i + 1), .ref 900, .ref 0], SH0, [], lg) rfl rfl ?_
  refine r_par R (p := inr (nI i + 1) X.1) (242, [(0, .ref 900), (1, .ref 0), (2, .ref 52), (3, .int (nI i))], [.int (X.2 (nI i + 1).toNatClampNeg), .ref 0], SH0, [], lg) rfl h1 rfl ?_
  refine r_call R rfl h_x ?_
  refine r_sts R 5 (250, [(0, .ref 900), (1, .ref 0), (2, .ref 52), (3, .int (nI i))], [.int (nI i + 1), .ref 900, .ref 52, .int v], SH0, xmrg [] ox, lg1) rfl rfl ?_
  refine r_par R (p := inr (nI i + 1) X.1) (251, [(0, .ref 900), (1, .ref 0), (2, .ref 52), (3, .int (nI i))], [.int (X.2 (nI i + 1).toNatClampNeg), .ref 52, .int v], SH0, xmrg [] ox, lg1) rfl h1 rfl ?_
  refine r_call R rfl (by rw [xget_mrg]; exact h_m) ?_
  refine r_sts R 1 (if v = v then 1418 else 257, [(0, .ref 900), (1, .ref 0), (2, .ref 52), (3, .int (nI i))], [], SH0, xmrg (xmrg [] ox) om, lg2) rfl rfl ?_
  refine r_itt rfl ?_
  exact hnext _ _ (by rw [xget_mrg, xget_mrg]; exact h_i)
set_option maxRecDepth 20000 in
theorem law_1 (R : xRules X J) {Inv : xM → Int64 → Prop} {σ : xM} {lg : Int64} {i : Nat} (h1 : inr (nI i + 1) X.1) (h2 : inr (nI i + 2) X.1) (hc : xCmdI X Inv 69 145 [.int (X.2 (nI i + 1).toNatClampNeg), .int (X.2 (nI i + 2).toNatClampNeg)] σ lg) (hnext : ∀ (o : xO) (lg' : Int64), Inv (xget o σ) lg' → J σ (1418, [(0, .ref 900), (1, .ref 0), (2, .ref 52), (3, .int (nI i))], [], SH0, o, lg')) : J σ (259, [(0, .ref 900), (1, .ref 0), (2, .ref 52), (3, .int (nI i))], [], SH0, [], lg) := by
  obtain ⟨v, ox, lg1, om, lg2, h_x, h_m, h_i⟩ := hc
  refine r_sts R 5 (264, [(0, .ref 900), (1, .ref 0), (2, .ref 52), (3, .int (nI i))], [.int (nI i + 1), .ref 900, .ref 0], SH0, [], lg) rfl rfl ?_
  refine r_par R (p := inr (nI i + 1) X.1) (265, [(0, .ref 900), (1, .ref 0), (2, .ref 52), (3, .int (nI i))], [.int (X.2 (nI i + 1).toNatClampNeg), .ref 0], SH0, [], lg) rfl h1 rfl ?_
  refine r_sts R 4 (269, [(0, .ref 900), (1, .ref 0), (2, .ref 52), (3, .int (nI i))], [.int (nI i + 2), .ref 900, .int (X.2 (nI i + 1).toNatClampNeg), .ref 0], SH0, [], lg) rfl rfl ?_
  refine r_par R (p := inr (nI i + 2) X.1) (270, [(0, .ref 900), (1, .ref 0), (2, .ref 52), (3, .int (nI i))], [.int (X.2 (nI i + 2).toNatClampNeg), .int (X.2 (nI i + 1).toNatClampNeg), .ref 0], SH0, [], lg) rfl h2 rfl ?_
  refine r_call R rfl h_x ?_
  refine r_sts R 5 (278, [(0, .ref 900), (1, .ref 0), (2, .ref 52), (3, .int (nI i))], [.int (nI i + 1), .ref 900, .ref 52, .int v], SH0, xmrg [] ox, lg1) rfl rfl ?_
  refine r_par R (p := inr (nI i + 1) X.1) (279, [(0, .ref 900), (1, .ref 0), (2, .ref 52), (3, .int (nI i))], [.int (X.2 (nI i + 1).toNatClampNeg), .ref 52, .int v], SH0, xmrg [] ox, lg1) rfl h1 rfl ?_
  refine r_sts R 4 (283, [(0, .ref 900), (1, .ref 0), (2, .ref 52), (3, .int (nI i))], [.int (nI i + 2), .ref 900, .int (X.2 (nI i + 1).toNatClampNeg), .ref 52, .int v], SH0, xmrg [] ox, lg1) rfl rfl ?_
  refine r_par R (p := inr (nI i + 2) X.1) (284, [(0, .ref 900), (1, .ref 0), (2, .ref 52), (3, .int (nI i))], [.int (X.2 (nI i + 2).toNatClampNeg), .int (X.2 (nI i + 1).toNatClampNeg), .ref 52, .int v], SH0, xmrg [] ox, lg1) rfl h2 rfl ?_
  refine r_call R rfl (by rw [xget_mrg]; exact h_m) ?_
  refine r_sts R 1 (if v = v then 1418 else 290, [(0, .ref 900), (1, .ref 0), (2, .ref 52), (3, .int (nI i))], [], SH0, xmrg (xmrg [] ox) om, lg2) rfl rfl ?_
  refine r_itt rfl ?_
  exact hnext _ _ (by rw [xget_mrg, xget_mrg]; exact h_i)
set_option maxRecDepth 20000 in
theorem law_2 (R : xRules X J) {Inv : xM → Int64 → Prop} {σ : xM} {lg : Int64} {i : Nat} (h1 : inr (nI i + 1) X.1) (h2 : inr (nI i + 2) X.1) (h3 : inr (nI i + 3) X.1) (hc : xCmdI X Inv 70 146 [.int (X.2 (nI i + 1).toNatClampNeg), .int (X.2 (nI i + 2).toNatClampNeg), .int (X.2 (nI i + 3).toNatClampNeg)] σ lg) (hnext : ∀ (o : xO) (lg' : Int64), Inv (xget o σ) lg' → J σ (1418, [(0, .ref 900), (1, .ref 0), (2, .ref 52), (3, .int (nI i))], [], SH0, o, lg')) : J σ (292, [(0, .ref 900), (1, .ref 0), (2, .ref 52), (3, .int (nI i))], [], SH0, [], lg) := by
  obtain ⟨v, ox, lg1, om, lg2, h_x, h_m, h_i⟩ := hc
  refine r_sts R 5 (297, [(0, .ref 900), (1, .ref 0), (2, .ref 52), (3, .int (nI i))], [.int (nI i + 1), .ref 900, .ref 0], SH0, [], lg) rfl rfl ?_
  refine r_par R (p := inr (nI i + 1) X.1) (298, [(0, .ref 900), (1, .ref 0), (2, .ref 52), (3, .int (nI i))], [.int (X.2 (nI i + 1).toNatClampNeg), .ref 0], SH0, [], lg) rfl h1 rfl ?_
  refine r_sts R 4 (302, [(0, .ref 900), (1, .ref 0), (2, .ref 52), (3, .int (nI i))], [.int (nI i + 2), .ref 900, .int (X.2 (nI i + 1).toNatClampNeg), .ref 0], SH0, [], lg) rfl rfl ?_
  refine r_par R (p := inr (nI i + 2) X.1) (303, [(0, .ref 900), (1, .ref 0), (2, .ref 52), (3, .int (nI i))], [.int (X.2 (nI i + 2).toNatClampNeg), .int (X.2 (nI i + 1).toNatClampNeg), .ref 0], SH0, [], lg) rfl h2 rfl ?_
  refine r_sts R 4 (307, [(0, .ref 900), (1, .ref 0), (2, .ref 52), (3, .int (nI i))], [.int (nI i + 3), .ref 900, .int (X.2 (nI i + 2).toNatClampNeg), .int (X.2 (nI i + 1).toNatClampNeg), .ref 0], SH0, [], lg) rfl rfl ?_
  refine r_par R (p := inr (nI i + 3) X.1) (308, [(0, .ref 900), (1, .ref 0), (2, .ref 52), (3, .int (nI i))], [.int (X.2 (nI i + 3).toNatClampNeg), .int (X.2 (nI i + 2).toNatClampNeg), .int (X.2 (nI i + 1).toNatClampNeg), .ref 0], SH0, [], lg) rfl h3 rfl ?_
  refine r_call R rfl h_x ?_
  refine r_sts R 5 (316, [(0, .ref 900), (1, .ref 0), (2, .ref 52), (3, .int (nI i))], [.int (nI i + 1), .ref 900, .ref 52, .int v], SH0, xmrg [] ox, lg1) rfl rfl ?_
  refine r_par R (p := inr (nI i + 1) X.1) (317, [(0, .ref 900), (1, .ref 0), (2, .ref 52), (3, .int (nI i))], [.int (X.2 (nI i + 1).toNatClampNeg), .ref 52, .int v], SH0, xmrg [] ox, lg1) rfl h1 rfl ?_
  refine r_sts R 4 (321, [(0, .ref 900), (1, .ref 0), (2, .ref 52), (3, .int (nI i))], [.int (nI i + 2), .ref 900, .int (X.2 (nI i + 1).toNatClampNeg), .ref 52, .int v], SH0, xmrg [] ox, lg1) rfl rfl ?_
  refine r_par R (p := inr (nI i + 2) X.1) (322, [(0, .ref 900), (1, .ref 0), (2, .ref 52), (3, .int (nI i))], [.int (X.2 (nI i + 2).toNatClampNeg), .int (X.2 (nI i + 1).toNatClampNeg), .ref 52, .int v], SH0, xmrg [] ox, lg1) rfl h2 rfl ?_
  refine r_sts R 4 (326, [(0, .ref 900), (1, .ref 0), (2, .ref 52), (3, .int (nI i))], [.int (nI i + 3), .ref 900, .int (X.2 (nI i + 2).toNatClampNeg), .int (X.2 (nI i + 1).toNatClampNeg), .ref 52, .int v], SH0, xmrg [] ox, lg1) rfl rfl ?_
  refine r_par R (p := inr (nI i + 3) X.1) (327, [(0, .ref 900), (1, .ref 0), (2, .ref 52), (3, .int (nI i))], [.int (X.2 (nI i + 3).toNatClampNeg), .int (X.2 (nI i + 2).toNatClampNeg), .int (X.2 (nI i + 1).toNatClampNeg), .ref 52, .int v], SH0, xmrg [] ox, lg1) rfl h3 rfl ?_
  refine r_call R rfl (by rw [xget_mrg]; exact h_m) ?_
  refine r_sts R 1 (if v = v then 1418 else 333, [(0, .ref 900), (1, .ref 0), (2, .ref 52), (3, .int (nI i))], [], SH0, xmrg (xmrg [] ox) om, lg2) rfl rfl ?_
  refine r_itt rfl ?_
  exact hnext _ _ (by rw [xget_mrg, xget_mrg]; exact h_i)
set_option maxRecDepth 20000 in
theorem law_3 (R : xRules X J) {Inv : xM → Int64 → Prop} {σ : xM} {lg : Int64} {i : Nat} (h1 : inr (nI i + 1) X.1) (h2 : inr (nI i + 2) X.1) (h3 : inr (nI i + 3) X.1) (hc : xCmdI X Inv 71 147 [.int (X.2 (nI i + 1).toNatClampNeg), .int (X.2 (nI i + 2).toNatClampNeg), .int (X.2 (nI i + 3).toNatClampNeg)] σ lg) (hnext : ∀ (o : xO) (lg' : Int64), Inv (xget o σ) lg' → J σ (1418, [(0, .ref 900), (1, .ref 0), (2, .ref 52), (3, .int (nI i))], [], SH0, o, lg')) : J σ (335, [(0, .ref 900), (1, .ref 0), (2, .ref 52), (3, .int (nI i))], [], SH0, [], lg) := by
  obtain ⟨v, ox, lg1, om, lg2, h_x, h_m, h_i⟩ := hc
  refine r_sts R 5 (340, [(0, .ref 900), (1, .ref 0), (2, .ref 52), (3, .int (nI i))], [.int (nI i + 1), .ref 900, .ref 0], SH0, [], lg) rfl rfl ?_
  refine r_par R (p := inr (nI i + 1) X.1) (341, [(0, .ref 900), (1, .ref 0), (2, .ref 52), (3, .int (nI i))], [.int (X.2 (nI i + 1).toNatClampNeg), .ref 0], SH0, [], lg) rfl h1 rfl ?_
  refine r_sts R 4 (345, [(0, .ref 900), (1, .ref 0), (2, .ref 52), (3, .int (nI i))], [.int (nI i + 2), .ref 900, .int (X.2 (nI i + 1).toNatClampNeg), .ref 0], SH0, [], lg) rfl rfl ?_
  refine r_par R (p := inr (nI i + 2) X.1) (346, [(0, .ref 900), (1, .ref 0), (2, .ref 52), (3, .int (nI i))], [.int (X.2 (nI i + 2).toNatClampNeg), .int (X.2 (nI i + 1).toNatClampNeg), .ref 0], SH0, [], lg) rfl h2 rfl ?_
  refine r_sts R 4 (350, [(0, .ref 900), (1, .ref 0), (2, .ref 52), (3, .int (nI i))], [.int (nI i + 3), .ref 900, .int (X.2 (nI i + 2).toNatClampNeg), .int (X.2 (nI i + 1).toNatClampNeg), .ref 0], SH0, [], lg) rfl rfl ?_
  refine r_par R (p := inr (nI i + 3) X.1) (351, [(0, .ref 900), (1, .ref 0), (2, .ref 52), (3, .int (nI i))], [.int (X.2 (nI i + 3).toNatClampNeg), .int (X.2 (nI i + 2).toNatClampNeg), .int (X.2 (nI i + 1).toNatClampNeg), .ref 0], SH0, [], lg) rfl h3 rfl ?_
  refine r_call R rfl h_x ?_
  refine r_sts R 5 (359, [(0, .ref 900), (1, .ref 0), (2, .ref 52), (3, .int (nI i))], [.int (nI i + 1), .ref 900, .ref 52, .int v], SH0, xmrg [] ox, lg1) rfl rfl ?_
  refine r_par R (p := inr (nI i + 1) X.1) (360, [(0, .ref 900), (1, .ref 0), (2, .ref 52), (3, .int (nI i))], [.int (X.2 (nI i + 1).toNatClampNeg), .ref 52, .int v], SH0, xmrg [] ox, lg1) rfl h1 rfl ?_
  refine r_sts R 4 (364, [(0, .ref 900), (1, .ref 0), (2, .ref 52), (3, .int (nI i))], [.int (nI i + 2), .ref 900, .int (X.2 (nI i + 1).toNatClampNeg), .ref 52, .int v], SH0, xmrg [] ox, lg1) rfl rfl ?_
  refine r_par R (p := inr (nI i + 2) X.1) (365, [(0, .ref 900), (1, .ref 0), (2, .ref 52), (3, .int (nI i))], [.int (X.2 (nI i + 2).toNatClampNeg), .int (X.2 (nI i + 1).toNatClampNeg), .ref 52, .int v], SH0, xmrg [] ox, lg1) rfl h2 rfl ?_
  refine r_sts R 4 (369, [(0, .ref 900), (1, .ref 0), (2, .ref 52), (3, .int (nI i))], [.int (nI i + 3), .ref 900, .int (X.2 (nI i + 2).toNatClampNeg), .int (X.2 (nI i + 1).toNatClampNeg), .ref 52, .int v], SH0, xmrg [] ox, lg1) rfl rfl ?_
  refine r_par R (p := inr (nI i + 3) X.1) (370, [(0, .ref 900), (1, .ref 0), (2, .ref 52), (3, .int (nI i))], [.int (X.2 (nI i + 3).toNatClampNeg), .int (X.2 (nI i + 2).toNatClampNeg), .int (X.2 (nI i + 1).toNatClampNeg), .ref 52, .int v], SH0, xmrg [] ox, lg1) rfl h3 rfl ?_
  refine r_call R rfl (by rw [xget_mrg]; exact h_m) ?_
  refine r_sts R 1 (if v = v then 1418 else 376, [(0, .ref 900), (1, .ref 0), (2, .ref 52), (3, .int (nI i))], [], SH0, xmrg (xmrg [] ox) om, lg2) rfl rfl ?_
  refine r_itt rfl ?_
  exact hnext _ _ (by rw [xget_mrg, xget_mrg]; exact h_i)
set_option maxRecDepth 20000 in
theorem law_4 (R : xRules X J) {Inv : xM → Int64 → Prop} {σ : xM} {lg : Int64} {i : Nat} (h1 : inr (nI i + 1) X.1) (h2 : inr (nI i + 2) X.1) (hc : xCmdI X Inv 72 149 [.int (X.2 (nI i + 1).toNatClampNeg), .int (X.2 (nI i + 2).toNatClampNeg)] σ lg) (hnext : ∀ (o : xO) (lg' : Int64), Inv (xget o σ) lg' → J σ (1418, [(0, .ref 900), (1, .ref 0), (2, .ref 52), (3, .int (nI i))], [], SH0, o, lg')) : J σ (378, [(0, .ref 900), (1, .ref 0), (2, .ref 52), (3, .int (nI i))], [], SH0, [], lg) := by
  obtain ⟨v, ox, lg1, om, lg2, h_x, h_m, h_i⟩ := hc
  refine r_sts R 5 (383, [(0, .ref 900), (1, .ref 0), (2, .ref 52), (3, .int (nI i))], [.int (nI i + 1), .ref 900, .ref 0], SH0, [], lg) rfl rfl ?_
  refine r_par R (p := inr (nI i + 1) X.1) (384, [(0, .ref 900), (1, .ref 0), (2, .ref 52), (3, .int (nI i))], [.int (X.2 (nI i + 1).toNatClampNeg), .ref 0], SH0, [], lg) rfl h1 rfl ?_
  refine r_sts R 4 (388, [(0, .ref 900), (1, .ref 0), (2, .ref 52), (3, .int (nI i))], [.int (nI i + 2), .ref 900, .int (X.2 (nI i + 1).toNatClampNeg), .ref 0], SH0, [], lg) rfl rfl ?_
  refine r_par R (p := inr (nI i + 2) X.1) (389, [(0, .ref 900), (1, .ref 0), (2, .ref 52), (3, .int (nI i))], [.int (X.2 (nI i + 2).toNatClampNeg), .int (X.2 (nI i + 1).toNatClampNeg), .ref 0], SH0, [], lg) rfl h2 rfl ?_
  refine r_call R rfl h_x ?_
  refine r_sts R 5 (397, [(0, .ref 900), (1, .ref 0), (2, .ref 52), (3, .int (nI i))], [.int (nI i + 1), .ref 900, .ref 52, .int v], SH0, xmrg [] ox, lg1) rfl rfl ?_
  refine r_par R (p := inr (nI i + 1) X.1) (398, [(0, .ref 900), (1, .ref 0), (2, .ref 52), (3, .int (nI i))], [.int (X.2 (nI i + 1).toNatClampNeg), .ref 52, .int v], SH0, xmrg [] ox, lg1) rfl h1 rfl ?_
  refine r_sts R 4 (402, [(0, .ref 900), (1, .ref 0), (2, .ref 52), (3, .int (nI i))], [.int (nI i + 2), .ref 900, .int (X.2 (nI i + 1).toNatClampNeg), .ref 52, .int v], SH0, xmrg [] ox, lg1) rfl rfl ?_
  refine r_par R (p := inr (nI i + 2) X.1) (403, [(0, .ref 900), (1, .ref 0), (2, .ref 52), (3, .int (nI i))], [.int (X.2 (nI i + 2).toNatClampNeg), .int (X.2 (nI i + 1).toNatClampNeg), .ref 52, .int v], SH0, xmrg [] ox, lg1) rfl h2 rfl ?_
  refine r_call R rfl (by rw [xget_mrg]; exact h_m) ?_
  refine r_sts R 1 (if v = v then 1418 else 409, [(0, .ref 900), (1, .ref 0), (2, .ref 52), (3, .int (nI i))], [], SH0, xmrg (xmrg [] ox) om, lg2) rfl rfl ?_
  refine r_itt rfl ?_
  exact hnext _ _ (by rw [xget_mrg, xget_mrg]; exact h_i)
set_option maxRecDepth 20000 in
theorem law_5 (R : xRules X J) {Inv : xM → Int64 → Prop} {σ : xM} {lg : Int64} {i : Nat} (h1 : inr (nI i + 1) X.1) (h2 : inr (nI i + 2) X.1) (hc : xCmdI X Inv 73 150 [.int (X.2 (nI i + 1).toNatClampNeg), .int (X.2 (nI i + 2).toNatClampNeg)] σ lg) (hnext : ∀ (o : xO) (lg' : Int64), Inv (xget o σ) lg' → J σ (1418, [(0, .ref 900), (1, .ref 0), (2, .ref 52), (3, .int (nI i))], [], SH0, o, lg')) : J σ (411, [(0, .ref 900), (1, .ref 0), (2, .ref 52), (3, .int (nI i))], [], SH0, [], lg) := by
  obtain ⟨v, ox, lg1, om, lg2, h_x, h_m, h_i⟩ := hc
  refine r_sts R 5 (416, [(0, .ref 900), (1, .ref 0), (2, .ref 52), (3, .int (nI i))], [.int (nI i + 1), .ref 900, .ref 0], SH0, [], lg) rfl rfl ?_
  refine r_par R (p := inr (nI i + 1) X.1) (417, [(0, .ref 900), (1, .ref 0), (2, .ref 52), (3, .int (nI i))], [.int (X.2 (nI i + 1).toNatClampNeg), .ref 0], SH0, [], lg) rfl h1 rfl ?_
  refine r_sts R 4 (421, [(0, .ref 900), (1, .ref 0), (2, .ref 52), (3, .int (nI i))], [.int (nI i + 2), .ref 900, .int (X.2 (nI i + 1).toNatClampNeg), .ref 0], SH0, [], lg) rfl rfl ?_
  refine r_par R (p := inr (nI i + 2) X.1) (422, [(0, .ref 900), (1, .ref 0), (2, .ref 52), (3, .int (nI i))], [.int (X.2 (nI i + 2).toNatClampNeg), .int (X.2 (nI i + 1).toNatClampNeg), .ref 0], SH0, [], lg) rfl h2 rfl ?_
  refine r_call R rfl h_x ?_
  refine r_sts R 5 (430, [(0, .ref 900), (1, .ref 0), (2, .ref 52), (3, .int (nI i))], [.int (nI i + 1), .ref 900, .ref 52, .int v], SH0, xmrg [] ox, lg1) rfl rfl ?_
  refine r_par R (p := inr (nI i + 1) X.1) (431, [(0, .ref 900), (1, .ref 0), (2, .ref 52), (3, .int (nI i))], [.int (X.2 (nI i + 1).toNatClampNeg), .ref 52, .int v], SH0, xmrg [] ox, lg1) rfl h1 rfl ?_
  refine r_sts R 4 (435, [(0, .ref 900), (1, .ref 0), (2, .ref 52), (3, .int (nI i))], [.int (nI i + 2), .ref 900, .int (X.2 (nI i + 1).toNatClampNeg), .ref 52, .int v], SH0, xmrg [] ox, lg1) rfl rfl ?_
  refine r_par R (p := inr (nI i + 2) X.1) (436, [(0, .ref 900), (1, .ref 0), (2, .ref 52), (3, .int (nI i))], [.int (X.2 (nI i + 2).toNatClampNeg), .int (X.2 (nI i + 1).toNatClampNeg), .ref 52, .int v], SH0, xmrg [] ox, lg1) rfl h2 rfl ?_
  refine r_call R rfl (by rw [xget_mrg]; exact h_m) ?_
  refine r_sts R 1 (if v = v then 1418 else 442, [(0, .ref 900), (1, .ref 0), (2, .ref 52), (3, .int (nI i))], [], SH0, xmrg (xmrg [] ox) om, lg2) rfl rfl ?_
  refine r_itt rfl ?_
  exact hnext _ _ (by rw [xget_mrg, xget_mrg]; exact h_i)
set_option maxRecDepth 20000 in
theorem law_6 (R : xRules X J) {Inv : xM → Int64 → Prop} {σ : xM} {lg : Int64} {i : Nat} (h1 : inr (nI i + 1) X.1) (hc : xCmdI X Inv 74 151 [.int (X.2 (nI i + 1).toNatClampNeg)] σ lg) (hnext : ∀ (o : xO) (lg' : Int64), Inv (xget o σ) lg' → J σ (1418, [(0, .ref 900), (1, .ref 0), (2, .ref 52), (3, .int (nI i))], [], SH0, o, lg')) : J σ (444, [(0, .ref 900), (1, .ref 0), (2, .ref 52), (3, .int (nI i))], [], SH0, [], lg) := by
  obtain ⟨v, ox, lg1, om, lg2, h_x, h_m, h_i⟩ := hc
  refine r_sts R 5 (449, [(0, .ref 900), (1, .ref 0), (2, .ref 52), (3, .int (nI i))], [.int (nI i + 1), .ref 900, .ref 0], SH0, [], lg) rfl rfl ?_
  refine r_par R (p := inr (nI i + 1) X.1) (450, [(0, .ref 900), (1, .ref 0), (2, .ref 52), (3, .int (nI i))], [.int (X.2 (nI i + 1).toNatClampNeg), .ref 0], SH0, [], lg) rfl h1 rfl ?_
  refine r_call R rfl h_x ?_
  refine r_sts R 5 (458, [(0, .ref 900), (1, .ref 0), (2, .ref 52), (3, .int (nI i))], [.int (nI i + 1), .ref 900, .ref 52, .int v], SH0, xmrg [] ox, lg1) rfl rfl ?_
  refine r_par R (p := inr (nI i + 1) X.1) (459, [(0, .ref 900), (1, .ref 0), (2, .ref 52), (3, .int (nI i))], [.int (X.2 (nI i + 1).toNatClampNeg), .ref 52, .int v], SH0, xmrg [] ox, lg1) rfl h1 rfl ?_
  refine r_call R rfl (by rw [xget_mrg]; exact h_m) ?_
  refine r_sts R 1 (if v = v then 1418 else 465, [(0, .ref 900), (1, .ref 0), (2, .ref 52), (3, .int (nI i))], [], SH0, xmrg (xmrg [] ox) om, lg2) rfl rfl ?_
  refine r_itt rfl ?_
  exact hnext _ _ (by rw [xget_mrg, xget_mrg]; exact h_i)
set_option maxRecDepth 20000 in
theorem law_7 (R : xRules X J) {Inv : xM → Int64 → Prop} {σ : xM} {lg : Int64} {i : Nat} (hc : xCmdI X Inv 75 152 [] σ lg) (hnext : ∀ (o : xO) (lg' : Int64), Inv (xget o σ) lg' → J σ (1418, [(0, .ref 900), (1, .ref 0), (2, .ref 52), (3, .int (nI i))], [], SH0, o, lg')) : J σ (467, [(0, .ref 900), (1, .ref 0), (2, .ref 52), (3, .int (nI i))], [], SH0, [], lg) := by
  obtain ⟨v, ox, lg1, om, lg2, h_x, h_m, h_i⟩ := hc
  refine r_sts R 1 (468, [(0, .ref 900), (1, .ref 0), (2, .ref 52), (3, .int (nI i))], [.ref 0], SH0, [], lg) rfl rfl ?_
  refine r_call R rfl h_x ?_
  refine r_sts R 1 (472, [(0, .ref 900), (1, .ref 0), (2, .ref 52), (3, .int (nI i))], [.ref 52, .int v], SH0, xmrg [] ox, lg1) rfl rfl ?_
  refine r_call R rfl (by rw [xget_mrg]; exact h_m) ?_
  refine r_sts R 1 (if v = v then 1418 else 478, [(0, .ref 900), (1, .ref 0), (2, .ref 52), (3, .int (nI i))], [], SH0, xmrg (xmrg [] ox) om, lg2) rfl rfl ?_
  refine r_itt rfl ?_
  exact hnext _ _ (by rw [xget_mrg, xget_mrg]; exact h_i)
set_option maxRecDepth 20000 in
theorem law_8 (R : xRules X J) {Inv : xM → Int64 → Prop} {σ : xM} {lg : Int64} {i : Nat} (hc : xCmdI X Inv 76 153 [] σ lg) (hnext : ∀ (o : xO) (lg' : Int64), Inv (xget o σ) lg' → J σ (1418, [(0, .ref 900), (1, .ref 0), (2, .ref 52), (3, .int (nI i))], [], SH0, o, lg')) : J σ (480, [(0, .ref 900), (1, .ref 0), (2, .ref 52), (3, .int (nI i))], [], SH0, [], lg) := by
  obtain ⟨v, ox, lg1, om, lg2, h_x, h_m, h_i⟩ := hc
  refine r_sts R 1 (481, [(0, .ref 900), (1, .ref 0), (2, .ref 52), (3, .int (nI i))], [.ref 0], SH0, [], lg) rfl rfl ?_
  refine r_call R rfl h_x ?_
  refine r_sts R 1 (485, [(0, .ref 900), (1, .ref 0), (2, .ref 52), (3, .int (nI i))], [.ref 52, .int v], SH0, xmrg [] ox, lg1) rfl rfl ?_
  refine r_call R rfl (by rw [xget_mrg]; exact h_m) ?_
  refine r_sts R 1 (if v = v then 1418 else 491, [(0, .ref 900), (1, .ref 0), (2, .ref 52), (3, .int (nI i))], [], SH0, xmrg (xmrg [] ox) om, lg2) rfl rfl ?_
  refine r_itt rfl ?_
  exact hnext _ _ (by rw [xget_mrg, xget_mrg]; exact h_i)
set_option maxRecDepth 20000 in
theorem law_9 (R : xRules X J) {Inv : xM → Int64 → Prop} {σ : xM} {lg : Int64} {i : Nat} (h1 : inr (nI i + 1) X.1) (hc : xCmdI X Inv 77 154 [.int (X.2 (nI i + 1).toNatClampNeg)] σ lg) (hnext : ∀ (o : xO) (lg' : Int64), Inv (xget o σ) lg' → J σ (1418, [(0, .ref 900), (1, .ref 0), (2, .ref 52), (3, .int (nI i))], [], SH0, o, lg')) : J σ (493, [(0, .ref 900), (1, .ref 0), (2, .ref 52), (3, .int (nI i))], [], SH0, [], lg) := by
  obtain ⟨v, ox, lg1, om, lg2, h_x, h_m, h_i⟩ := hc
  refine r_sts R 5 (498, [(0, .ref 900), (1, .ref 0), (2, .ref 52), (3, .int (nI i))], [.int (nI i + 1), .ref 900, .ref 0], SH0, [], lg) rfl rfl ?_
  refine r_par R (p := inr (nI i + 1) X.1) (499, [(0, .ref 900), (1, .ref 0), (2, .ref 52), (3, .int (nI i))], [.int (X.2 (nI i + 1).toNatClampNeg), .ref 0], SH0, [], lg) rfl h1 rfl ?_
  refine r_call R rfl h_x ?_
  refine r_sts R 5 (507, [(0, .ref 900), (1, .ref 0), (2, .ref 52), (3, .int (nI i))], [.int (nI i + 1), .ref 900, .ref 52, .int v], SH0, xmrg [] ox, lg1) rfl rfl ?_
  refine r_par R (p := inr (nI i + 1) X.1) (508, [(0, .ref 900), (1, .ref 0), (2, .ref 52), (3, .int (nI i))], [.int (X.2 (nI i + 1).toNatClampNeg), .ref 52, .int v], SH0, xmrg [] ox, lg1) rfl h1 rfl ?_
  refine r_call R rfl (by rw [xget_mrg]; exact h_m) ?_
  refine r_sts R 1 (if v = v then 1418 else 514, [(0, .ref 900), (1, .ref 0), (2, .ref 52), (3, .int (nI i))], [], SH0, xmrg (xmrg [] ox) om, lg2) rfl rfl ?_
  refine r_itt rfl ?_
  exact hnext _ _ (by rw [xget_mrg, xget_mrg]; exact h_i)
set_option maxRecDepth 20000 in
theorem law_10 (R : xRules X J) {Inv : xM → Int64 → Prop} {σ : xM} {lg : Int64} {i : Nat} (h1 : inr (nI i + 1) X.1) (hc : xCmdI X Inv 78 156 [.int (X.2 (nI i + 1).toNatClampNeg)] σ lg) (hnext : ∀ (o : xO) (lg' : Int64), Inv (xget o σ) lg' → J σ (1418, [(0, .ref 900), (1, .ref 0), (2, .ref 52), (3, .int (nI i))], [], SH0, o, lg')) : J σ (516, [(0, .ref 900), (1, .ref 0), (2, .ref 52), (3, .int (nI i))], [], SH0, [], lg) := by
  obtain ⟨v, ox, lg1, om, lg2, h_x, h_m, h_i⟩ := hc
  refine r_sts R 5 (521, [(0, .ref 900), (1, .ref 0), (2, .ref 52), (3, .int (nI i))], [.int (nI i + 1), .ref 900, .ref 0], SH0, [], lg) rfl rfl ?_
  refine r_par R (p := inr (nI i + 1) X.1) (522, [(0, .ref 900), (1, .ref 0), (2, .ref 52), (3, .int (nI i))], [.int (X.2 (nI i + 1).toNatClampNeg), .ref 0], SH0, [], lg) rfl h1 rfl ?_
  refine r_call R rfl h_x ?_
  refine r_sts R 5 (530, [(0, .ref 900), (1, .ref 0), (2, .ref 52), (3, .int (nI i))], [.int (nI i + 1), .ref 900, .ref 52, .int v], SH0, xmrg [] ox, lg1) rfl rfl ?_
  refine r_par R (p := inr (nI i + 1) X.1) (531, [(0, .ref 900), (1, .ref 0), (2, .ref 52), (3, .int (nI i))], [.int (X.2 (nI i + 1).toNatClampNeg), .ref 52, .int v], SH0, xmrg [] ox, lg1) rfl h1 rfl ?_
  refine r_call R rfl (by rw [xget_mrg]; exact h_m) ?_
  refine r_sts R 1 (if v = v then 1418 else 537, [(0, .ref 900), (1, .ref 0), (2, .ref 52), (3, .int (nI i))], [], SH0, xmrg (xmrg [] ox) om, lg2) rfl rfl ?_
  refine r_itt rfl ?_
  exact hnext _ _ (by rw [xget_mrg, xget_mrg]; exact h_i)
set_option maxRecDepth 20000 in
theorem law_11 (R : xRules X J) {Inv : xM → Int64 → Prop} {σ : xM} {lg : Int64} {i : Nat} (h1 : inr (nI i + 1) X.1) (hc : xCmdI X Inv 79 160 [.int (X.2 (nI i + 1).toNatClampNeg)] σ lg) (hnext : ∀ (o : xO) (lg' : Int64), Inv (xget o σ) lg' → J σ (1418, [(0, .ref 900), (1, .ref 0), (2, .ref 52), (3, .int (nI i))], [], SH0, o, lg')) : J σ (539, [(0, .ref 900), (1, .ref 0), (2, .ref 52), (3, .int (nI i))], [], SH0, [], lg) := by
  obtain ⟨v, ox, lg1, om, lg2, h_x, h_m, h_i⟩ := hc
  refine r_sts R 5 (544, [(0, .ref 900), (1, .ref 0), (2, .ref 52), (3, .int (nI i))], [.int (nI i + 1), .ref 900, .ref 0], SH0, [], lg) rfl rfl ?_
  refine r_par R (p := inr (nI i + 1) X.1) (545, [(0, .ref 900), (1, .ref 0), (2, .ref 52), (3, .int (nI i))], [.int (X.2 (nI i + 1).toNatClampNeg), .ref 0], SH0, [], lg) rfl h1 rfl ?_
  refine r_call R rfl h_x ?_
  refine r_sts R 5 (553, [(0, .ref 900), (1, .ref 0), (2, .ref 52), (3, .int (nI i))], [.int (nI i + 1), .ref 900, .ref 52, .int v], SH0, xmrg [] ox, lg1) rfl rfl ?_
  refine r_par R (p := inr (nI i + 1) X.1) (554, [(0, .ref 900), (1, .ref 0), (2, .ref 52), (3, .int (nI i))], [.int (X.2 (nI i + 1).toNatClampNeg), .ref 52, .int v], SH0, xmrg [] ox, lg1) rfl h1 rfl ?_
  refine r_call R rfl (by rw [xget_mrg]; exact h_m) ?_
  refine r_sts R 1 (if v = v then 1418 else 560, [(0, .ref 900), (1, .ref 0), (2, .ref 52), (3, .int (nI i))], [], SH0, xmrg (xmrg [] ox) om, lg2) rfl rfl ?_
  refine r_itt rfl ?_
  exact hnext _ _ (by rw [xget_mrg, xget_mrg]; exact h_i)
set_option maxRecDepth 20000 in
theorem law_12 (R : xRules X J) {Inv : xM → Int64 → Prop} {σ : xM} {lg : Int64} {i : Nat} (h1 : inr (nI i + 1) X.1) (h2 : inr (nI i + 2) X.1) (hc : xCmdI X Inv 80 161 [.int (X.2 (nI i + 1).toNatClampNeg), .int (X.2 (nI i + 2).toNatClampNeg)] σ lg) (hnext : ∀ (o : xO) (lg' : Int64), Inv (xget o σ) lg' → J σ (1418, [(0, .ref 900), (1, .ref 0), (2, .ref 52), (3, .int (nI i))], [], SH0, o, lg')) : J σ (562, [(0, .ref 900), (1, .ref 0), (2, .ref 52), (3, .int (nI i))], [], SH0, [], lg) := by
  obtain ⟨v, ox, lg1, om, lg2, h_x, h_m, h_i⟩ := hc
  refine r_sts R 5 (567, [(0, .ref 900), (1, .ref 0), (2, .ref 52), (3, .int (nI i))], [.int (nI i + 1), .ref 900, .ref 0], SH0, [], lg) rfl rfl ?_
  refine r_par R (p := inr (nI i + 1) X.1) (568, [(0, .ref 900), (1, .ref 0), (2, .ref 52), (3, .int (nI i))], [.int (X.2 (nI i + 1).toNatClampNeg), .ref 0], SH0, [], lg) rfl h1 rfl ?_
  refine r_sts R 4 (572, [(0, .ref 900), (1, .ref 0), (2, .ref 52), (3, .int (nI i))], [.int (nI i + 2), .ref 900, .int (X.2 (nI i + 1).toNatClampNeg), .ref 0], SH0, [], lg) rfl rfl ?_
  refine r_par R (p := inr (nI i + 2) X.1) (573, [(0, .ref 900), (1, .ref 0), (2, .ref 52), (3, .int (nI i))], [.int (X.2 (nI i + 2).toNatClampNeg), .int (X.2 (nI i + 1).toNatClampNeg), .ref 0], SH0, [], lg) rfl h2 rfl ?_
  refine r_call R rfl h_x ?_
  refine r_sts R 5 (581, [(0, .ref 900), (1, .ref 0), (2, .ref 52), (3, .int (nI i))], [.int (nI i + 1), .ref 900, .ref 52, .int v], SH0, xmrg [] ox, lg1) rfl rfl ?_
  refine r_par R (p := inr (nI i + 1) X.1) (582, [(0, .ref 900), (1, .ref 0), (2, .ref 52), (3, .int (nI i))], [.int (X.2 (nI i + 1).toNatClampNeg), .ref 52, .int v], SH0, xmrg [] ox, lg1) rfl h1 rfl ?_
  refine r_sts R 4 (586, [(0, .ref 900), (1, .ref 0), (2, .ref 52), (3, .int (nI i))], [.int (nI i + 2), .ref 900, .int (X.2 (nI i + 1).toNatClampNeg), .ref 52, .int v], SH0, xmrg [] ox, lg1) rfl rfl ?_
  refine r_par R (p := inr (nI i + 2) X.1) (587, [(0, .ref 900), (1, .ref 0), (2, .ref 52), (3, .int (nI i))], [.int (X.2 (nI i + 2).toNatClampNeg), .int (X.2 (nI i + 1).toNatClampNeg), .ref 52, .int v], SH0, xmrg [] ox, lg1) rfl h2 rfl ?_
  refine r_call R rfl (by rw [xget_mrg]; exact h_m) ?_
  refine r_sts R 1 (if v = v then 1418 else 593, [(0, .ref 900), (1, .ref 0), (2, .ref 52), (3, .int (nI i))], [], SH0, xmrg (xmrg [] ox) om, lg2) rfl rfl ?_
  refine r_itt rfl ?_
  exact hnext _ _ (by rw [xget_mrg, xget_mrg]; exact h_i)
set_option maxRecDepth 20000 in
theorem law_13 (R : xRules X J) {Inv : xM → Int64 → Prop} {σ : xM} {lg : Int64} {i : Nat} (hc : xCmdI X Inv 81 163 [] σ lg) (hnext : ∀ (o : xO) (lg' : Int64), Inv (xget o σ) lg' → J σ (1418, [(0, .ref 900), (1, .ref 0), (2, .ref 52), (3, .int (nI i))], [], SH0, o, lg')) : J σ (595, [(0, .ref 900), (1, .ref 0), (2, .ref 52), (3, .int (nI i))], [], SH0, [], lg) := by
  obtain ⟨v, ox, lg1, om, lg2, h_x, h_m, h_i⟩ := hc
  refine r_sts R 1 (596, [(0, .ref 900), (1, .ref 0), (2, .ref 52), (3, .int (nI i))], [.ref 0], SH0, [], lg) rfl rfl ?_
  refine r_call R rfl h_x ?_
  refine r_sts R 1 (600, [(0, .ref 900), (1, .ref 0), (2, .ref 52), (3, .int (nI i))], [.ref 52, .int v], SH0, xmrg [] ox, lg1) rfl rfl ?_
  refine r_call R rfl (by rw [xget_mrg]; exact h_m) ?_
  refine r_sts R 1 (if v = v then 1418 else 606, [(0, .ref 900), (1, .ref 0), (2, .ref 52), (3, .int (nI i))], [], SH0, xmrg (xmrg [] ox) om, lg2) rfl rfl ?_
  refine r_itt rfl ?_
  exact hnext _ _ (by rw [xget_mrg, xget_mrg]; exact h_i)
set_option maxRecDepth 20000 in
theorem law_14 (R : xRules X J) {Inv : xM → Int64 → Prop} {σ : xM} {lg : Int64} {i : Nat} (hc : xCmdI X Inv 82 164 [] σ lg) (hnext : ∀ (o : xO) (lg' : Int64), Inv (xget o σ) lg' → J σ (1418, [(0, .ref 900), (1, .ref 0), (2, .ref 52), (3, .int (nI i))], [], SH0, o, lg')) : J σ (608, [(0, .ref 900), (1, .ref 0), (2, .ref 52), (3, .int (nI i))], [], SH0, [], lg) := by
  obtain ⟨v, ox, lg1, om, lg2, h_x, h_m, h_i⟩ := hc
  refine r_sts R 1 (609, [(0, .ref 900), (1, .ref 0), (2, .ref 52), (3, .int (nI i))], [.ref 0], SH0, [], lg) rfl rfl ?_
  refine r_call R rfl h_x ?_
  refine r_sts R 1 (613, [(0, .ref 900), (1, .ref 0), (2, .ref 52), (3, .int (nI i))], [.ref 52, .int v], SH0, xmrg [] ox, lg1) rfl rfl ?_
  refine r_call R rfl (by rw [xget_mrg]; exact h_m) ?_
  refine r_sts R 1 (if v = v then 1418 else 619, [(0, .ref 900), (1, .ref 0), (2, .ref 52), (3, .int (nI i))], [], SH0, xmrg (xmrg [] ox) om, lg2) rfl rfl ?_
  refine r_itt rfl ?_
  exact hnext _ _ (by rw [xget_mrg, xget_mrg]; exact h_i)
set_option maxRecDepth 20000 in
theorem law_15 (R : xRules X J) {Inv : xM → Int64 → Prop} {σ : xM} {lg : Int64} {i : Nat} (h1 : inr (nI i + 1) X.1) (h2 : inr (nI i + 2) X.1) (hc : xCmdI X Inv 83 165 [.int (X.2 (nI i + 1).toNatClampNeg), .int (X.2 (nI i + 2).toNatClampNeg)] σ lg) (hnext : ∀ (o : xO) (lg' : Int64), Inv (xget o σ) lg' → J σ (1418, [(0, .ref 900), (1, .ref 0), (2, .ref 52), (3, .int (nI i))], [], SH0, o, lg')) : J σ (621, [(0, .ref 900), (1, .ref 0), (2, .ref 52), (3, .int (nI i))], [], SH0, [], lg) := by
  obtain ⟨v, ox, lg1, om, lg2, h_x, h_m, h_i⟩ := hc
  refine r_sts R 5 (626, [(0, .ref 900), (1, .ref 0), (2, .ref 52), (3, .int (nI i))], [.int (nI i + 1), .ref 900, .ref 0], SH0, [], lg) rfl rfl ?_
  refine r_par R (p := inr (nI i + 1) X.1) (627, [(0, .ref 900), (1, .ref 0), (2, .ref 52), (3, .int (nI i))], [.int (X.2 (nI i + 1).toNatClampNeg), .ref 0], SH0, [], lg) rfl h1 rfl ?_
  refine r_sts R 4 (631, [(0, .ref 900), (1, .ref 0), (2, .ref 52), (3, .int (nI i))], [.int (nI i + 2), .ref 900, .int (X.2 (nI i + 1).toNatClampNeg), .ref 0], SH0, [], lg) rfl rfl ?_
  refine r_par R (p := inr (nI i + 2) X.1) (632, [(0, .ref 900), (1, .ref 0), (2, .ref 52), (3, .int (nI i))], [.int (X.2 (nI i + 2).toNatClampNeg), .int (X.2 (nI i + 1).toNatClampNeg), .ref 0], SH0, [], lg) rfl h2 rfl ?_
  refine r_call R rfl h_x ?_
  refine r_sts R 5 (640, [(0, .ref 900), (1, .ref 0), (2, .ref 52), (3, .int (nI i))], [.int (nI i + 1), .ref 900, .ref 52, .int v], SH0, xmrg [] ox, lg1) rfl rfl ?_
  refine r_par R (p := inr (nI i + 1) X.1) (641, [(0, .ref 900), (1, .ref 0), (2, .ref 52), (3, .int (nI i))], [.int (X.2 (nI i + 1).toNatClampNeg), .ref 52, .int v], SH0, xmrg [] ox, lg1) rfl h1 rfl ?_
  refine r_sts R 4 (645, [(0, .ref 900), (1, .ref 0), (2, .ref 52), (3, .int (nI i))], [.int (nI i + 2), .ref 900, .int (X.2 (nI i + 1).toNatClampNeg), .ref 52, .int v], SH0, xmrg [] ox, lg1) rfl rfl ?_
  refine r_par R (p := inr (nI i + 2) X.1) (646, [(0, .ref 900), (1, .ref 0), (2, .ref 52), (3, .int (nI i))], [.int (X.2 (nI i + 2).toNatClampNeg), .int (X.2 (nI i + 1).toNatClampNeg), .ref 52, .int v], SH0, xmrg [] ox, lg1) rfl h2 rfl ?_
  refine r_call R rfl (by rw [xget_mrg]; exact h_m) ?_
  refine r_sts R 1 (if v = v then 1418 else 652, [(0, .ref 900), (1, .ref 0), (2, .ref 52), (3, .int (nI i))], [], SH0, xmrg (xmrg [] ox) om, lg2) rfl rfl ?_
  refine r_itt rfl ?_
  exact hnext _ _ (by rw [xget_mrg, xget_mrg]; exact h_i)
set_option maxRecDepth 20000 in
theorem law_16 (R : xRules X J) {Inv : xM → Int64 → Prop} {σ : xM} {lg : Int64} {i : Nat} (h1 : inr (nI i + 1) X.1) (hc : xCmdI X Inv 84 167 [.int (X.2 (nI i + 1).toNatClampNeg)] σ lg) (hnext : ∀ (o : xO) (lg' : Int64), Inv (xget o σ) lg' → J σ (1418, [(0, .ref 900), (1, .ref 0), (2, .ref 52), (3, .int (nI i))], [], SH0, o, lg')) : J σ (654, [(0, .ref 900), (1, .ref 0), (2, .ref 52), (3, .int (nI i))], [], SH0, [], lg) := by
  obtain ⟨v, ox, lg1, om, lg2, h_x, h_m, h_i⟩ := hc
  refine r_sts R 5 (659, [(0, .ref 900), (1, .ref 0), (2, .ref 52), (3, .int (nI i))], [.int (nI i + 1), .ref 900, .ref 0], SH0, [], lg) rfl rfl ?_
  refine r_par R (p := inr (nI i + 1) X.1) (660, [(0, .ref 900), (1, .ref 0), (2, .ref 52), (3, .int (nI i))], [.int (X.2 (nI i + 1).toNatClampNeg), .ref 0], SH0, [], lg) rfl h1 rfl ?_
  refine r_call R rfl h_x ?_
  refine r_sts R 5 (668, [(0, .ref 900), (1, .ref 0), (2, .ref 52), (3, .int (nI i))], [.int (nI i + 1), .ref 900, .ref 52, .int v], SH0, xmrg [] ox, lg1) rfl rfl ?_
  refine r_par R (p := inr (nI i + 1) X.1) (669, [(0, .ref 900), (1, .ref 0), (2, .ref 52), (3, .int (nI i))], [.int (X.2 (nI i + 1).toNatClampNeg), .ref 52, .int v], SH0, xmrg [] ox, lg1) rfl h1 rfl ?_
  refine r_call R rfl (by rw [xget_mrg]; exact h_m) ?_
  refine r_sts R 1 (if v = v then 1418 else 675, [(0, .ref 900), (1, .ref 0), (2, .ref 52), (3, .int (nI i))], [], SH0, xmrg (xmrg [] ox) om, lg2) rfl rfl ?_
  refine r_itt rfl ?_
  exact hnext _ _ (by rw [xget_mrg, xget_mrg]; exact h_i)
set_option maxRecDepth 20000 in
theorem law_17 (R : xRules X J) {Inv : xM → Int64 → Prop} {σ : xM} {lg : Int64} {i : Nat} (hc : xCmdI X Inv 85 168 [] σ lg) (hnext : ∀ (o : xO) (lg' : Int64), Inv (xget o σ) lg' → J σ (1418, [(0, .ref 900), (1, .ref 0), (2, .ref 52), (3, .int (nI i))], [], SH0, o, lg')) : J σ (677, [(0, .ref 900), (1, .ref 0), (2, .ref 52), (3, .int (nI i))], [], SH0, [], lg) := by
  obtain ⟨v, ox, lg1, om, lg2, h_x, h_m, h_i⟩ := hc
  refine r_sts R 1 (678, [(0, .ref 900), (1, .ref 0), (2, .ref 52), (3, .int (nI i))], [.ref 0], SH0, [], lg) rfl rfl ?_
  refine r_call R rfl h_x ?_
  refine r_sts R 1 (682, [(0, .ref 900), (1, .ref 0), (2, .ref 52), (3, .int (nI i))], [.ref 52, .int v], SH0, xmrg [] ox, lg1) rfl rfl ?_
  refine r_call R rfl (by rw [xget_mrg]; exact h_m) ?_
  refine r_sts R 1 (if v = v then 1418 else 688, [(0, .ref 900), (1, .ref 0), (2, .ref 52), (3, .int (nI i))], [], SH0, xmrg (xmrg [] ox) om, lg2) rfl rfl ?_
  refine r_itt rfl ?_
  exact hnext _ _ (by rw [xget_mrg, xget_mrg]; exact h_i)
set_option maxRecDepth 20000 in
theorem law_18 (R : xRules X J) {Inv : xM → Int64 → Prop} {σ : xM} {lg : Int64} {i : Nat} (hc : xCmdI X Inv 86 169 [] σ lg) (hnext : ∀ (o : xO) (lg' : Int64), Inv (xget o σ) lg' → J σ (1418, [(0, .ref 900), (1, .ref 0), (2, .ref 52), (3, .int (nI i))], [], SH0, o, lg')) : J σ (690, [(0, .ref 900), (1, .ref 0), (2, .ref 52), (3, .int (nI i))], [], SH0, [], lg) := by
  obtain ⟨v, ox, lg1, om, lg2, h_x, h_m, h_i⟩ := hc
  refine r_sts R 1 (691, [(0, .ref 900), (1, .ref 0), (2, .ref 52), (3, .int (nI i))], [.ref 0], SH0, [], lg) rfl rfl ?_
  refine r_call R rfl h_x ?_
  refine r_sts R 1 (695, [(0, .ref 900), (1, .ref 0), (2, .ref 52), (3, .int (nI i))], [.ref 52, .int v], SH0, xmrg [] ox, lg1) rfl rfl ?_
  refine r_call R rfl (by rw [xget_mrg]; exact h_m) ?_
  refine r_sts R 1 (if v = v then 1418 else 701, [(0, .ref 900), (1, .ref 0), (2, .ref 52), (3, .int (nI i))], [], SH0, xmrg (xmrg [] ox) om, lg2) rfl rfl ?_
  refine r_itt rfl ?_
  exact hnext _ _ (by rw [xget_mrg, xget_mrg]; exact h_i)
set_option maxRecDepth 20000 in
theorem law_19 (R : xRules X J) {Inv : xM → Int64 → Prop} {σ : xM} {lg : Int64} {i : Nat} (h1 : inr (nI i + 1) X.1) (h2 : inr (nI i + 2) X.1) (hc : xCmdI X Inv 87 170 [.int (X.2 (nI i + 1).toNatClampNeg), .int (X.2 (nI i + 2).toNatClampNeg)] σ lg) (hnext : ∀ (o : xO) (lg' : Int64), Inv (xget o σ) lg' → J σ (1418, [(0, .ref 900), (1, .ref 0), (2, .ref 52), (3, .int (nI i))], [], SH0, o, lg')) : J σ (703, [(0, .ref 900), (1, .ref 0), (2, .ref 52), (3, .int (nI i))], [], SH0, [], lg) := by
  obtain ⟨v, ox, lg1, om, lg2, h_x, h_m, h_i⟩ := hc
  refine r_sts R 5 (708, [(0, .ref 900), (1, .ref 0), (2, .ref 52), (3, .int (nI i))], [.int (nI i + 1), .ref 900, .ref 0], SH0, [], lg) rfl rfl ?_
  refine r_par R (p := inr (nI i + 1) X.1) (709, [(0, .ref 900), (1, .ref 0), (2, .ref 52), (3, .int (nI i))], [.int (X.2 (nI i + 1).toNatClampNeg), .ref 0], SH0, [], lg) rfl h1 rfl ?_
  refine r_sts R 4 (713, [(0, .ref 900), (1, .ref 0), (2, .ref 52), (3, .int (nI i))], [.int (nI i + 2), .ref 900, .int (X.2 (nI i + 1).toNatClampNeg), .ref 0], SH0, [], lg) rfl rfl ?_
  refine r_par R (p := inr (nI i + 2) X.1) (714, [(0, .ref 900), (1, .ref 0), (2, .ref 52), (3, .int (nI i))], [.int (X.2 (nI i + 2).toNatClampNeg), .int (X.2 (nI i + 1).toNatClampNeg), .ref 0], SH0, [], lg) rfl h2 rfl ?_
  refine r_call R rfl h_x ?_
  refine r_sts R 5 (722, [(0, .ref 900), (1, .ref 0), (2, .ref 52), (3, .int (nI i))], [.int (nI i + 1), .ref 900, .ref 52, .int v], SH0, xmrg [] ox, lg1) rfl rfl ?_
  refine r_par R (p := inr (nI i + 1) X.1) (723, [(0, .ref 900), (1, .ref 0), (2, .ref 52), (3, .int (nI i))], [.int (X.2 (nI i + 1).toNatClampNeg), .ref 52, .int v], SH0, xmrg [] ox, lg1) rfl h1 rfl ?_
  refine r_sts R 4 (727, [(0, .ref 900), (1, .ref 0), (2, .ref 52), (3, .int (nI i))], [.int (nI i + 2), .ref 900, .int (X.2 (nI i + 1).toNatClampNeg), .ref 52, .int v], SH0, xmrg [] ox, lg1) rfl rfl ?_
  refine r_par R (p := inr (nI i + 2) X.1) (728, [(0, .ref 900), (1, .ref 0), (2, .ref 52), (3, .int (nI i))], [.int (X.2 (nI i + 2).toNatClampNeg), .int (X.2 (nI i + 1).toNatClampNeg), .ref 52, .int v], SH0, xmrg [] ox, lg1) rfl h2 rfl ?_
  refine r_call R rfl (by rw [xget_mrg]; exact h_m) ?_
  refine r_sts R 1 (if v = v then 1418 else 734, [(0, .ref 900), (1, .ref 0), (2, .ref 52), (3, .int (nI i))], [], SH0, xmrg (xmrg [] ox) om, lg2) rfl rfl ?_
  refine r_itt rfl ?_
  exact hnext _ _ (by rw [xget_mrg, xget_mrg]; exact h_i)
set_option maxRecDepth 20000 in
theorem law_20 (R : xRules X J) {Inv : xM → Int64 → Prop} {σ : xM} {lg : Int64} {i : Nat} (h1 : inr (nI i + 1) X.1) (hc : xCmdI X Inv 88 171 [.int (X.2 (nI i + 1).toNatClampNeg)] σ lg) (hnext : ∀ (o : xO) (lg' : Int64), Inv (xget o σ) lg' → J σ (1418, [(0, .ref 900), (1, .ref 0), (2, .ref 52), (3, .int (nI i))], [], SH0, o, lg')) : J σ (736, [(0, .ref 900), (1, .ref 0), (2, .ref 52), (3, .int (nI i))], [], SH0, [], lg) := by
  obtain ⟨v, ox, lg1, om, lg2, h_x, h_m, h_i⟩ := hc
  refine r_sts R 5 (741, [(0, .ref 900), (1, .ref 0), (2, .ref 52), (3, .int (nI i))], [.int (nI i + 1), .ref 900, .ref 0], SH0, [], lg) rfl rfl ?_
  refine r_par R (p := inr (nI i + 1) X.1) (742, [(0, .ref 900), (1, .ref 0), (2, .ref 52), (3, .int (nI i))], [.int (X.2 (nI i + 1).toNatClampNeg), .ref 0], SH0, [], lg) rfl h1 rfl ?_
  refine r_call R rfl h_x ?_
  refine r_sts R 5 (750, [(0, .ref 900), (1, .ref 0), (2, .ref 52), (3, .int (nI i))], [.int (nI i + 1), .ref 900, .ref 52, .int v], SH0, xmrg [] ox, lg1) rfl rfl ?_
  refine r_par R (p := inr (nI i + 1) X.1) (751, [(0, .ref 900), (1, .ref 0), (2, .ref 52), (3, .int (nI i))], [.int (X.2 (nI i + 1).toNatClampNeg), .ref 52, .int v], SH0, xmrg [] ox, lg1) rfl h1 rfl ?_
  refine r_call R rfl (by rw [xget_mrg]; exact h_m) ?_
  refine r_sts R 1 (if v = v then 1418 else 757, [(0, .ref 900), (1, .ref 0), (2, .ref 52), (3, .int (nI i))], [], SH0, xmrg (xmrg [] ox) om, lg2) rfl rfl ?_
  refine r_itt rfl ?_
  exact hnext _ _ (by rw [xget_mrg, xget_mrg]; exact h_i)
set_option maxRecDepth 20000 in
theorem law_21 (R : xRules X J) {Inv : xM → Int64 → Prop} {σ : xM} {lg : Int64} {i : Nat} (hc : xCmdI X Inv 89 173 [] σ lg) (hnext : ∀ (o : xO) (lg' : Int64), Inv (xget o σ) lg' → J σ (1418, [(0, .ref 900), (1, .ref 0), (2, .ref 52), (3, .int (nI i))], [], SH0, o, lg')) : J σ (759, [(0, .ref 900), (1, .ref 0), (2, .ref 52), (3, .int (nI i))], [], SH0, [], lg) := by
  obtain ⟨v, ox, lg1, om, lg2, h_x, h_m, h_i⟩ := hc
  refine r_sts R 1 (760, [(0, .ref 900), (1, .ref 0), (2, .ref 52), (3, .int (nI i))], [.ref 0], SH0, [], lg) rfl rfl ?_
  refine r_call R rfl h_x ?_
  refine r_sts R 1 (764, [(0, .ref 900), (1, .ref 0), (2, .ref 52), (3, .int (nI i))], [.ref 52, .int v], SH0, xmrg [] ox, lg1) rfl rfl ?_
  refine r_call R rfl (by rw [xget_mrg]; exact h_m) ?_
  refine r_sts R 1 (if v = v then 1418 else 770, [(0, .ref 900), (1, .ref 0), (2, .ref 52), (3, .int (nI i))], [], SH0, xmrg (xmrg [] ox) om, lg2) rfl rfl ?_
  refine r_itt rfl ?_
  exact hnext _ _ (by rw [xget_mrg, xget_mrg]; exact h_i)
set_option maxRecDepth 20000 in
theorem law_22 (R : xRules X J) {Inv : xM → Int64 → Prop} {σ : xM} {lg : Int64} {i : Nat} (hc : xCmdI X Inv 90 174 [] σ lg) (hnext : ∀ (o : xO) (lg' : Int64), Inv (xget o σ) lg' → J σ (1418, [(0, .ref 900), (1, .ref 0), (2, .ref 52), (3, .int (nI i))], [], SH0, o, lg')) : J σ (772, [(0, .ref 900), (1, .ref 0), (2, .ref 52), (3, .int (nI i))], [], SH0, [], lg) := by
  obtain ⟨v, ox, lg1, om, lg2, h_x, h_m, h_i⟩ := hc
  refine r_sts R 1 (773, [(0, .ref 900), (1, .ref 0), (2, .ref 52), (3, .int (nI i))], [.ref 0], SH0, [], lg) rfl rfl ?_
  refine r_call R rfl h_x ?_
  refine r_sts R 1 (777, [(0, .ref 900), (1, .ref 0), (2, .ref 52), (3, .int (nI i))], [.ref 52, .int v], SH0, xmrg [] ox, lg1) rfl rfl ?_
  refine r_call R rfl (by rw [xget_mrg]; exact h_m) ?_
  refine r_sts R 1 (if v = v then 1418 else 783, [(0, .ref 900), (1, .ref 0), (2, .ref 52), (3, .int (nI i))], [], SH0, xmrg (xmrg [] ox) om, lg2) rfl rfl ?_
  refine r_itt rfl ?_
  exact hnext _ _ (by rw [xget_mrg, xget_mrg]; exact h_i)
set_option maxRecDepth 20000 in
theorem law_23 (R : xRules X J) {Inv : xM → Int64 → Prop} {σ : xM} {lg : Int64} {i : Nat} (hc : xCmdI X Inv 91 175 [] σ lg) (hnext : ∀ (o : xO) (lg' : Int64), Inv (xget o σ) lg' → J σ (1418, [(0, .ref 900), (1, .ref 0), (2, .ref 52), (3, .int (nI i))], [], SH0, o, lg')) : J σ (785, [(0, .ref 900), (1, .ref 0), (2, .ref 52), (3, .int (nI i))], [], SH0, [], lg) := by
  obtain ⟨v, ox, lg1, om, lg2, h_x, h_m, h_i⟩ := hc
  refine r_sts R 1 (786, [(0, .ref 900), (1, .ref 0), (2, .ref 52), (3, .int (nI i))], [.ref 0], SH0, [], lg) rfl rfl ?_
  refine r_call R rfl h_x ?_
  refine r_sts R 1 (790, [(0, .ref 900), (1, .ref 0), (2, .ref 52), (3, .int (nI i))], [.ref 52, .int v], SH0, xmrg [] ox, lg1) rfl rfl ?_
  refine r_call R rfl (by rw [xget_mrg]; exact h_m) ?_
  refine r_sts R 1 (if v = v then 1418 else 796, [(0, .ref 900), (1, .ref 0), (2, .ref 52), (3, .int (nI i))], [], SH0, xmrg (xmrg [] ox) om, lg2) rfl rfl ?_
  refine r_itt rfl ?_
  exact hnext _ _ (by rw [xget_mrg, xget_mrg]; exact h_i)
set_option maxRecDepth 20000 in
theorem law_24 (R : xRules X J) {Inv : xM → Int64 → Prop} {σ : xM} {lg : Int64} {i : Nat} (h1 : inr (nI i + 1) X.1) (h2 : inr (nI i + 2) X.1) (h3 : inr (nI i + 3) X.1) (hc : xCmdI X Inv 92 177 [.int (X.2 (nI i + 1).toNatClampNeg), .int (X.2 (nI i + 2).toNatClampNeg), .int (X.2 (nI i + 3).toNatClampNeg)] σ lg) (hnext : ∀ (o : xO) (lg' : Int64), Inv (xget o σ) lg' → J σ (1418, [(0, .ref 900), (1, .ref 0), (2, .ref 52), (3, .int (nI i))], [], SH0, o, lg')) : J σ (798, [(0, .ref 900), (1, .ref 0), (2, .ref 52), (3, .int (nI i))], [], SH0, [], lg) := by
  obtain ⟨v, ox, lg1, om, lg2, h_x, h_m, h_i⟩ := hc
  refine r_sts R 5 (803, [(0, .ref 900), (1, .ref 0), (2, .ref 52), (3, .int (nI i))], [.int (nI i + 1), .ref 900, .ref 0], SH0, [], lg) rfl rfl ?_
  refine r_par R (p := inr (nI i + 1) X.1) (804, [(0, .ref 900), (1, .ref 0), (2, .ref 52), (3, .int (nI i))], [.int (X.2 (nI i + 1).toNatClampNeg), .ref 0], SH0, [], lg) rfl h1 rfl ?_
  refine r_sts R 4 (808, [(0, .ref 900), (1, .ref 0), (2, .ref 52), (3, .int (nI i))], [.int (nI i + 2), .ref 900, .int (X.2 (nI i + 1).toNatClampNeg), .ref 0], SH0, [], lg) rfl rfl ?_
  refine r_par R (p := inr (nI i + 2) X.1) (809, [(0, .ref 900), (1, .ref 0), (2, .ref 52), (3, .int (nI i))], [.int (X.2 (nI i + 2).toNatClampNeg), .int (X.2 (nI i + 1).toNatClampNeg), .ref 0], SH0, [], lg) rfl h2 rfl ?_
  refine r_sts R 4 (813, [(0, .ref 900), (1, .ref 0), (2, .ref 52), (3, .int (nI i))], [.int (nI i + 3), .ref 900, .int (X.2 (nI i + 2).toNatClampNeg), .int (X.2 (nI i + 1).toNatClampNeg), .ref 0], SH0, [], lg) rfl rfl ?_
  refine r_par R (p := inr (nI i + 3) X.1) (814, [(0, .ref 900), (1, .ref 0), (2, .ref 52), (3, .int (nI i))], [.int (X.2 (nI i + 3).toNatClampNeg), .int (X.2 (nI i + 2).toNatClampNeg), .int (X.2 (nI i + 1).toNatClampNeg), .ref 0], SH0, [], lg) rfl h3 rfl ?_
  refine r_call R rfl h_x ?_
  refine r_sts R 5 (822, [(0, .ref 900), (1, .ref 0), (2, .ref 52), (3, .int (nI i))], [.int (nI i + 1), .ref 900, .ref 52, .int v], SH0, xmrg [] ox, lg1) rfl rfl ?_
  refine r_par R (p := inr (nI i + 1) X.1) (823, [(0, .ref 900), (1, .ref 0), (2, .ref 52), (3, .int (nI i))], [.int (X.2 (nI i + 1).toNatClampNeg), .ref 52, .int v], SH0, xmrg [] ox, lg1) rfl h1 rfl ?_
  refine r_sts R 4 (827, [(0, .ref 900), (1, .ref 0), (2, .ref 52), (3, .int (nI i))], [.int (nI i + 2), .ref 900, .int (X.2 (nI i + 1).toNatClampNeg), .ref 52, .int v], SH0, xmrg [] ox, lg1) rfl rfl ?_
  refine r_par R (p := inr (nI i + 2) X.1) (828, [(0, .ref 900), (1, .ref 0), (2, .ref 52), (3, .int (nI i))], [.int (X.2 (nI i + 2).toNatClampNeg), .int (X.2 (nI i + 1).toNatClampNeg), .ref 52, .int v], SH0, xmrg [] ox, lg1) rfl h2 rfl ?_
  refine r_sts R 4 (832, [(0, .ref 900), (1, .ref 0), (2, .ref 52), (3, .int (nI i))], [.int (nI i + 3), .ref 900, .int (X.2 (nI i + 2).toNatClampNeg), .int (X.2 (nI i + 1).toNatClampNeg), .ref 52, .int v], SH0, xmrg [] ox, lg1) rfl rfl ?_
  refine r_par R (p := inr (nI i + 3) X.1) (833, [(0, .ref 900), (1, .ref 0), (2, .ref 52), (3, .int (nI i))], [.int (X.2 (nI i + 3).toNatClampNeg), .int (X.2 (nI i + 2).toNatClampNeg), .int (X.2 (nI i + 1).toNatClampNeg), .ref 52, .int v], SH0, xmrg [] ox, lg1) rfl h3 rfl ?_
  refine r_call R rfl (by rw [xget_mrg]; exact h_m) ?_
  refine r_sts R 1 (if v = v then 1418 else 839, [(0, .ref 900), (1, .ref 0), (2, .ref 52), (3, .int (nI i))], [], SH0, xmrg (xmrg [] ox) om, lg2) rfl rfl ?_
  refine r_itt rfl ?_
  exact hnext _ _ (by rw [xget_mrg, xget_mrg]; exact h_i)
set_option maxRecDepth 20000 in
theorem law_25 (R : xRules X J) {Inv : xM → Int64 → Prop} {σ : xM} {lg : Int64} {i : Nat} (h1 : inr (nI i + 1) X.1) (h2 : inr (nI i + 2) X.1) (h3 : inr (nI i + 3) X.1) (hc : xCmdI X Inv 93 178 [.int (X.2 (nI i + 1).toNatClampNeg), .int (X.2 (nI i + 2).toNatClampNeg), .int (X.2 (nI i + 3).toNatClampNeg)] σ lg) (hnext : ∀ (o : xO) (lg' : Int64), Inv (xget o σ) lg' → J σ (1418, [(0, .ref 900), (1, .ref 0), (2, .ref 52), (3, .int (nI i))], [], SH0, o, lg')) : J σ (841, [(0, .ref 900), (1, .ref 0), (2, .ref 52), (3, .int (nI i))], [], SH0, [], lg) := by
  obtain ⟨v, ox, lg1, om, lg2, h_x, h_m, h_i⟩ := hc
  refine r_sts R 5 (846, [(0, .ref 900), (1, .ref 0), (2, .ref 52), (3, .int (nI i))], [.int (nI i + 1), .ref 900, .ref 0], SH0, [], lg) rfl rfl ?_
  refine r_par R (p := inr (nI i + 1) X.1) (847, [(0, .ref 900), (1, .ref 0), (2, .ref 52), (3, .int (nI i))], [.int (X.2 (nI i + 1).toNatClampNeg), .ref 0], SH0, [], lg) rfl h1 rfl ?_
  refine r_sts R 4 (851, [(0, .ref 900), (1, .ref 0), (2, .ref 52), (3, .int (nI i))], [.int (nI i + 2), .ref 900, .int (X.2 (nI i + 1).toNatClampNeg), .ref 0], SH0, [], lg) rfl rfl ?_
  refine r_par R (p := inr (nI i + 2) X.1) (852, [(0, .ref 900), (1, .ref 0), (2, .ref 52), (3, .int (nI i))], [.int (X.2 (nI i + 2).toNatClampNeg), .int (X.2 (nI i + 1).toNatClampNeg), .ref 0], SH0, [], lg) rfl h2 rfl ?_
  refine r_sts R 4 (856, [(0, .ref 900), (1, .ref 0), (2, .ref 52), (3, .int (nI i))], [.int (nI i + 3), .ref 900, .int (X.2 (nI i + 2).toNatClampNeg), .int (X.2 (nI i + 1).toNatClampNeg), .ref 0], SH0, [], lg) rfl rfl ?_
  refine r_par R (p := inr (nI i + 3) X.1) (857, [(0, .ref 900), (1, .ref 0), (2, .ref 52), (3, .int (nI i))], [.int (X.2 (nI i + 3).toNatClampNeg), .int (X.2 (nI i + 2).toNatClampNeg), .int (X.2 (nI i + 1).toNatClampNeg), .ref 0], SH0, [], lg) rfl h3 rfl ?_
  refine r_call R rfl h_x ?_
  refine r_sts R 5 (865, [(0, .ref 900), (1, .ref 0), (2, .ref 52), (3, .int (nI i))], [.int (nI i + 1), .ref 900, .ref 52, .int v], SH0, xmrg [] ox, lg1) rfl rfl ?_
  refine r_par R (p := inr (nI i + 1) X.1) (866, [(0, .ref 900), (1, .ref 0), (2, .ref 52), (3, .int (nI i))], [.int (X.2 (nI i + 1).toNatClampNeg), .ref 52, .int v], SH0, xmrg [] ox, lg1) rfl h1 rfl ?_
  refine r_sts R 4 (870, [(0, .ref 900), (1, .ref 0), (2, .ref 52), (3, .int (nI i))], [.int (nI i + 2), .ref 900, .int (X.2 (nI i + 1).toNatClampNeg), .ref 52, .int v], SH0, xmrg [] ox, lg1) rfl rfl ?_
  refine r_par R (p := inr (nI i + 2) X.1) (871, [(0, .ref 900), (1, .ref 0), (2, .ref 52), (3, .int (nI i))], [.int (X.2 (nI i + 2).toNatClampNeg), .int (X.2 (nI i + 1).toNatClampNeg), .ref 52, .int v], SH0, xmrg [] ox, lg1) rfl h2 rfl ?_
  refine r_sts R 4 (875, [(0, .ref 900), (1, .ref 0), (2, .ref 52), (3, .int (nI i))], [.int (nI i + 3), .ref 900, .int (X.2 (nI i + 2).toNatClampNeg), .int (X.2 (nI i + 1).toNatClampNeg), .ref 52, .int v], SH0, xmrg [] ox, lg1) rfl rfl ?_
  refine r_par R (p := inr (nI i + 3) X.1) (876, [(0, .ref 900), (1, .ref 0), (2, .ref 52), (3, .int (nI i))], [.int (X.2 (nI i + 3).toNatClampNeg), .int (X.2 (nI i + 2).toNatClampNeg), .int (X.2 (nI i + 1).toNatClampNeg), .ref 52, .int v], SH0, xmrg [] ox, lg1) rfl h3 rfl ?_
  refine r_call R rfl (by rw [xget_mrg]; exact h_m) ?_
  refine r_sts R 1 (if v = v then 1418 else 882, [(0, .ref 900), (1, .ref 0), (2, .ref 52), (3, .int (nI i))], [], SH0, xmrg (xmrg [] ox) om, lg2) rfl rfl ?_
  refine r_itt rfl ?_
  exact hnext _ _ (by rw [xget_mrg, xget_mrg]; exact h_i)
set_option maxRecDepth 20000 in
theorem law_26 (R : xRules X J) {Inv : xM → Int64 → Prop} {σ : xM} {lg : Int64} {i : Nat} (h1 : inr (nI i + 1) X.1) (h2 : inr (nI i + 2) X.1) (hc : xCmdL X Inv 94 182 [.int (X.2 (nI i + 1).toNatClampNeg), .int (X.2 (nI i + 2).toNatClampNeg)] σ lg) (hnext : ∀ (o : xO) (lg' : Int64), Inv (xget o σ) lg' → J σ (1418, [(0, .ref 900), (1, .ref 0), (2, .ref 52), (3, .int (nI i))], [], SH0, o, lg')) : J σ (884, [(0, .ref 900), (1, .ref 0), (2, .ref 52), (3, .int (nI i))], [], SH0, [], lg) := by
  obtain ⟨v, ox, lg1, om, lg2, h_x, h_m, h_i⟩ := hc
  refine r_sts R 5 (889, [(0, .ref 900), (1, .ref 0), (2, .ref 52), (3, .int (nI i))], [.int (nI i + 1), .ref 900, .ref 0], SH0, [], lg) rfl rfl ?_
  refine r_par R (p := inr (nI i + 1) X.1) (890, [(0, .ref 900), (1, .ref 0), (2, .ref 52), (3, .int (nI i))], [.int (X.2 (nI i + 1).toNatClampNeg), .ref 0], SH0, [], lg) rfl h1 rfl ?_
  refine r_sts R 4 (894, [(0, .ref 900), (1, .ref 0), (2, .ref 52), (3, .int (nI i))], [.int (nI i + 2), .ref 900, .int (X.2 (nI i + 1).toNatClampNeg), .ref 0], SH0, [], lg) rfl rfl ?_
  refine r_par R (p := inr (nI i + 2) X.1) (895, [(0, .ref 900), (1, .ref 0), (2, .ref 52), (3, .int (nI i))], [.int (X.2 (nI i + 2).toNatClampNeg), .int (X.2 (nI i + 1).toNatClampNeg), .ref 0], SH0, [], lg) rfl h2 rfl ?_
  refine r_call R rfl h_x ?_
  refine r_sts R 5 (903, [(0, .ref 900), (1, .ref 0), (2, .ref 52), (3, .int (nI i))], [.int (nI i + 1), .ref 900, .ref 52, .long v], SH0, xmrg [] ox, lg1) rfl rfl ?_
  refine r_par R (p := inr (nI i + 1) X.1) (904, [(0, .ref 900), (1, .ref 0), (2, .ref 52), (3, .int (nI i))], [.int (X.2 (nI i + 1).toNatClampNeg), .ref 52, .long v], SH0, xmrg [] ox, lg1) rfl h1 rfl ?_
  refine r_sts R 4 (908, [(0, .ref 900), (1, .ref 0), (2, .ref 52), (3, .int (nI i))], [.int (nI i + 2), .ref 900, .int (X.2 (nI i + 1).toNatClampNeg), .ref 52, .long v], SH0, xmrg [] ox, lg1) rfl rfl ?_
  refine r_par R (p := inr (nI i + 2) X.1) (909, [(0, .ref 900), (1, .ref 0), (2, .ref 52), (3, .int (nI i))], [.int (X.2 (nI i + 2).toNatClampNeg), .int (X.2 (nI i + 1).toNatClampNeg), .ref 52, .long v], SH0, xmrg [] ox, lg1) rfl h2 rfl ?_
  refine r_call R rfl (by rw [xget_mrg]; exact h_m) ?_
  refine r_sts R 2 (if (lg_cmp v v) = 0 then 1418 else 916, [(0, .ref 900), (1, .ref 0), (2, .ref 52), (3, .int (nI i))], [], SH0, xmrg (xmrg [] ox) om, lg2) rfl rfl ?_
  refine r_itt (by simp [lg_cmp]) ?_
  exact hnext _ _ (by rw [xget_mrg, xget_mrg]; exact h_i)
set_option maxRecDepth 20000 in
theorem law_27 (R : xRules X J) {Inv : xM → Int64 → Prop} {σ : xM} {lg : Int64} {i : Nat} (hc : xCmdI X Inv 95 183 [] σ lg) (hnext : ∀ (o : xO) (lg' : Int64), Inv (xget o σ) lg' → J σ (1418, [(0, .ref 900), (1, .ref 0), (2, .ref 52), (3, .int (nI i))], [], SH0, o, lg')) : J σ (918, [(0, .ref 900), (1, .ref 0), (2, .ref 52), (3, .int (nI i))], [], SH0, [], lg) := by
  obtain ⟨v, ox, lg1, om, lg2, h_x, h_m, h_i⟩ := hc
  refine r_sts R 1 (919, [(0, .ref 900), (1, .ref 0), (2, .ref 52), (3, .int (nI i))], [.ref 0], SH0, [], lg) rfl rfl ?_
  refine r_call R rfl h_x ?_
  refine r_sts R 1 (923, [(0, .ref 900), (1, .ref 0), (2, .ref 52), (3, .int (nI i))], [.ref 52, .int v], SH0, xmrg [] ox, lg1) rfl rfl ?_
  refine r_call R rfl (by rw [xget_mrg]; exact h_m) ?_
  refine r_sts R 1 (if v = v then 1418 else 929, [(0, .ref 900), (1, .ref 0), (2, .ref 52), (3, .int (nI i))], [], SH0, xmrg (xmrg [] ox) om, lg2) rfl rfl ?_
  refine r_itt rfl ?_
  exact hnext _ _ (by rw [xget_mrg, xget_mrg]; exact h_i)
set_option maxRecDepth 20000 in
theorem law_28 (R : xRules X J) {Inv : xM → Int64 → Prop} {σ : xM} {lg : Int64} {i : Nat} (h1 : inr (nI i + 1) X.1) (hc : xCmdI X Inv 96 185 [.int (X.2 (nI i + 1).toNatClampNeg)] σ lg) (hnext : ∀ (o : xO) (lg' : Int64), Inv (xget o σ) lg' → J σ (1418, [(0, .ref 900), (1, .ref 0), (2, .ref 52), (3, .int (nI i))], [], SH0, o, lg')) : J σ (931, [(0, .ref 900), (1, .ref 0), (2, .ref 52), (3, .int (nI i))], [], SH0, [], lg) := by
  obtain ⟨v, ox, lg1, om, lg2, h_x, h_m, h_i⟩ := hc
  refine r_sts R 5 (936, [(0, .ref 900), (1, .ref 0), (2, .ref 52), (3, .int (nI i))], [.int (nI i + 1), .ref 900, .ref 0], SH0, [], lg) rfl rfl ?_
  refine r_par R (p := inr (nI i + 1) X.1) (937, [(0, .ref 900), (1, .ref 0), (2, .ref 52), (3, .int (nI i))], [.int (X.2 (nI i + 1).toNatClampNeg), .ref 0], SH0, [], lg) rfl h1 rfl ?_
  refine r_call R rfl h_x ?_
  refine r_sts R 5 (945, [(0, .ref 900), (1, .ref 0), (2, .ref 52), (3, .int (nI i))], [.int (nI i + 1), .ref 900, .ref 52, .int v], SH0, xmrg [] ox, lg1) rfl rfl ?_
  refine r_par R (p := inr (nI i + 1) X.1) (946, [(0, .ref 900), (1, .ref 0), (2, .ref 52), (3, .int (nI i))], [.int (X.2 (nI i + 1).toNatClampNeg), .ref 52, .int v], SH0, xmrg [] ox, lg1) rfl h1 rfl ?_
  refine r_call R rfl (by rw [xget_mrg]; exact h_m) ?_
  refine r_sts R 1 (if v = v then 1418 else 952, [(0, .ref 900), (1, .ref 0), (2, .ref 52), (3, .int (nI i))], [], SH0, xmrg (xmrg [] ox) om, lg2) rfl rfl ?_
  refine r_itt rfl ?_
  exact hnext _ _ (by rw [xget_mrg, xget_mrg]; exact h_i)
set_option maxRecDepth 20000 in
theorem law_29 (R : xRules X J) {Inv : xM → Int64 → Prop} {σ : xM} {lg : Int64} {i : Nat} (hc : xCmdI X Inv 97 186 [] σ lg) (hnext : ∀ (o : xO) (lg' : Int64), Inv (xget o σ) lg' → J σ (1418, [(0, .ref 900), (1, .ref 0), (2, .ref 52), (3, .int (nI i))], [], SH0, o, lg')) : J σ (954, [(0, .ref 900), (1, .ref 0), (2, .ref 52), (3, .int (nI i))], [], SH0, [], lg) := by
  obtain ⟨v, ox, lg1, om, lg2, h_x, h_m, h_i⟩ := hc
  refine r_sts R 1 (955, [(0, .ref 900), (1, .ref 0), (2, .ref 52), (3, .int (nI i))], [.ref 0], SH0, [], lg) rfl rfl ?_
  refine r_call R rfl h_x ?_
  refine r_sts R 1 (959, [(0, .ref 900), (1, .ref 0), (2, .ref 52), (3, .int (nI i))], [.ref 52, .int v], SH0, xmrg [] ox, lg1) rfl rfl ?_
  refine r_call R rfl (by rw [xget_mrg]; exact h_m) ?_
  refine r_sts R 1 (if v = v then 1418 else 965, [(0, .ref 900), (1, .ref 0), (2, .ref 52), (3, .int (nI i))], [], SH0, xmrg (xmrg [] ox) om, lg2) rfl rfl ?_
  refine r_itt rfl ?_
  exact hnext _ _ (by rw [xget_mrg, xget_mrg]; exact h_i)
set_option maxRecDepth 20000 in
theorem law_30 (R : xRules X J) {Inv : xM → Int64 → Prop} {σ : xM} {lg : Int64} {i : Nat} (h1 : inr (nI i + 1) X.1) (hc : xCmdI X Inv 98 187 [.int (X.2 (nI i + 1).toNatClampNeg)] σ lg) (hnext : ∀ (o : xO) (lg' : Int64), Inv (xget o σ) lg' → J σ (1418, [(0, .ref 900), (1, .ref 0), (2, .ref 52), (3, .int (nI i))], [], SH0, o, lg')) : J σ (967, [(0, .ref 900), (1, .ref 0), (2, .ref 52), (3, .int (nI i))], [], SH0, [], lg) := by
  obtain ⟨v, ox, lg1, om, lg2, h_x, h_m, h_i⟩ := hc
  refine r_sts R 5 (972, [(0, .ref 900), (1, .ref 0), (2, .ref 52), (3, .int (nI i))], [.int (nI i + 1), .ref 900, .ref 0], SH0, [], lg) rfl rfl ?_
  refine r_par R (p := inr (nI i + 1) X.1) (973, [(0, .ref 900), (1, .ref 0), (2, .ref 52), (3, .int (nI i))], [.int (X.2 (nI i + 1).toNatClampNeg), .ref 0], SH0, [], lg) rfl h1 rfl ?_
  refine r_call R rfl h_x ?_
  refine r_sts R 5 (981, [(0, .ref 900), (1, .ref 0), (2, .ref 52), (3, .int (nI i))], [.int (nI i + 1), .ref 900, .ref 52, .int v], SH0, xmrg [] ox, lg1) rfl rfl ?_
  refine r_par R (p := inr (nI i + 1) X.1) (982, [(0, .ref 900), (1, .ref 0), (2, .ref 52), (3, .int (nI i))], [.int (X.2 (nI i + 1).toNatClampNeg), .ref 52, .int v], SH0, xmrg [] ox, lg1) rfl h1 rfl ?_
  refine r_call R rfl (by rw [xget_mrg]; exact h_m) ?_
  refine r_sts R 1 (if v = v then 1418 else 988, [(0, .ref 900), (1, .ref 0), (2, .ref 52), (3, .int (nI i))], [], SH0, xmrg (xmrg [] ox) om, lg2) rfl rfl ?_
  refine r_itt rfl ?_
  exact hnext _ _ (by rw [xget_mrg, xget_mrg]; exact h_i)
set_option maxRecDepth 20000 in
theorem law_31 (R : xRules X J) {Inv : xM → Int64 → Prop} {σ : xM} {lg : Int64} {i : Nat} (h1 : inr (nI i + 1) X.1) (h2 : inr (nI i + 2) X.1) (hc : xCmdI X Inv 99 190 [.int (X.2 (nI i + 1).toNatClampNeg), .int (X.2 (nI i + 2).toNatClampNeg)] σ lg) (hnext : ∀ (o : xO) (lg' : Int64), Inv (xget o σ) lg' → J σ (1418, [(0, .ref 900), (1, .ref 0), (2, .ref 52), (3, .int (nI i))], [], SH0, o, lg')) : J σ (990, [(0, .ref 900), (1, .ref 0), (2, .ref 52), (3, .int (nI i))], [], SH0, [], lg) := by
  obtain ⟨v, ox, lg1, om, lg2, h_x, h_m, h_i⟩ := hc
  refine r_sts R 5 (995, [(0, .ref 900), (1, .ref 0), (2, .ref 52), (3, .int (nI i))], [.int (nI i + 1), .ref 900, .ref 0], SH0, [], lg) rfl rfl ?_
  refine r_par R (p := inr (nI i + 1) X.1) (996, [(0, .ref 900), (1, .ref 0), (2, .ref 52), (3, .int (nI i))], [.int (X.2 (nI i + 1).toNatClampNeg), .ref 0], SH0, [], lg) rfl h1 rfl ?_
  refine r_sts R 4 (1000, [(0, .ref 900), (1, .ref 0), (2, .ref 52), (3, .int (nI i))], [.int (nI i + 2), .ref 900, .int (X.2 (nI i + 1).toNatClampNeg), .ref 0], SH0, [], lg) rfl rfl ?_
  refine r_par R (p := inr (nI i + 2) X.1) (1001, [(0, .ref 900), (1, .ref 0), (2, .ref 52), (3, .int (nI i))], [.int (X.2 (nI i + 2).toNatClampNeg), .int (X.2 (nI i + 1).toNatClampNeg), .ref 0], SH0, [], lg) rfl h2 rfl ?_
  refine r_call R rfl h_x ?_
  refine r_sts R 5 (1009, [(0, .ref 900), (1, .ref 0), (2, .ref 52), (3, .int (nI i))], [.int (nI i + 1), .ref 900, .ref 52, .int v], SH0, xmrg [] ox, lg1) rfl rfl ?_
  refine r_par R (p := inr (nI i + 1) X.1) (1010, [(0, .ref 900), (1, .ref 0), (2, .ref 52), (3, .int (nI i))], [.int (X.2 (nI i + 1).toNatClampNeg), .ref 52, .int v], SH0, xmrg [] ox, lg1) rfl h1 rfl ?_
  refine r_sts R 4 (1014, [(0, .ref 900), (1, .ref 0), (2, .ref 52), (3, .int (nI i))], [.int (nI i + 2), .ref 900, .int (X.2 (nI i + 1).toNatClampNeg), .ref 52, .int v], SH0, xmrg [] ox, lg1) rfl rfl ?_
  refine r_par R (p := inr (nI i + 2) X.1) (1015, [(0, .ref 900), (1, .ref 0), (2, .ref 52), (3, .int (nI i))], [.int (X.2 (nI i + 2).toNatClampNeg), .int (X.2 (nI i + 1).toNatClampNeg), .ref 52, .int v], SH0, xmrg [] ox, lg1) rfl h2 rfl ?_
  refine r_call R rfl (by rw [xget_mrg]; exact h_m) ?_
  refine r_sts R 1 (if v = v then 1418 else 1021, [(0, .ref 900), (1, .ref 0), (2, .ref 52), (3, .int (nI i))], [], SH0, xmrg (xmrg [] ox) om, lg2) rfl rfl ?_
  refine r_itt rfl ?_
  exact hnext _ _ (by rw [xget_mrg, xget_mrg]; exact h_i)
set_option maxRecDepth 20000 in
theorem law_32 (R : xRules X J) {Inv : xM → Int64 → Prop} {σ : xM} {lg : Int64} {i : Nat} (hc : xCmdI X Inv 100 191 [] σ lg) (hnext : ∀ (o : xO) (lg' : Int64), Inv (xget o σ) lg' → J σ (1418, [(0, .ref 900), (1, .ref 0), (2, .ref 52), (3, .int (nI i))], [], SH0, o, lg')) : J σ (1023, [(0, .ref 900), (1, .ref 0), (2, .ref 52), (3, .int (nI i))], [], SH0, [], lg) := by
  obtain ⟨v, ox, lg1, om, lg2, h_x, h_m, h_i⟩ := hc
  refine r_sts R 1 (1024, [(0, .ref 900), (1, .ref 0), (2, .ref 52), (3, .int (nI i))], [.ref 0], SH0, [], lg) rfl rfl ?_
  refine r_call R rfl h_x ?_
  refine r_sts R 1 (1028, [(0, .ref 900), (1, .ref 0), (2, .ref 52), (3, .int (nI i))], [.ref 52, .int v], SH0, xmrg [] ox, lg1) rfl rfl ?_
  refine r_call R rfl (by rw [xget_mrg]; exact h_m) ?_
  refine r_sts R 1 (if v = v then 1418 else 1034, [(0, .ref 900), (1, .ref 0), (2, .ref 52), (3, .int (nI i))], [], SH0, xmrg (xmrg [] ox) om, lg2) rfl rfl ?_
  refine r_itt rfl ?_
  exact hnext _ _ (by rw [xget_mrg, xget_mrg]; exact h_i)
set_option maxRecDepth 20000 in
theorem law_33 (R : xRules X J) {Inv : xM → Int64 → Prop} {σ : xM} {lg : Int64} {i : Nat} (hc : xCmdI X Inv 101 200 [] σ lg) (hnext : ∀ (o : xO) (lg' : Int64), Inv (xget o σ) lg' → J σ (1418, [(0, .ref 900), (1, .ref 0), (2, .ref 52), (3, .int (nI i))], [], SH0, o, lg')) : J σ (1036, [(0, .ref 900), (1, .ref 0), (2, .ref 52), (3, .int (nI i))], [], SH0, [], lg) := by
  obtain ⟨v, ox, lg1, om, lg2, h_x, h_m, h_i⟩ := hc
  refine r_sts R 1 (1037, [(0, .ref 900), (1, .ref 0), (2, .ref 52), (3, .int (nI i))], [.ref 0], SH0, [], lg) rfl rfl ?_
  refine r_call R rfl h_x ?_
  refine r_sts R 1 (1041, [(0, .ref 900), (1, .ref 0), (2, .ref 52), (3, .int (nI i))], [.ref 52, .int v], SH0, xmrg [] ox, lg1) rfl rfl ?_
  refine r_call R rfl (by rw [xget_mrg]; exact h_m) ?_
  refine r_sts R 1 (if v = v then 1418 else 1047, [(0, .ref 900), (1, .ref 0), (2, .ref 52), (3, .int (nI i))], [], SH0, xmrg (xmrg [] ox) om, lg2) rfl rfl ?_
  refine r_itt rfl ?_
  exact hnext _ _ (by rw [xget_mrg, xget_mrg]; exact h_i)
set_option maxRecDepth 20000 in
theorem law_34 (R : xRules X J) {Inv : xM → Int64 → Prop} {σ : xM} {lg : Int64} {i : Nat} (h1 : inr (nI i + 1) X.1) (h2 : inr (nI i + 2) X.1) (hc : xCmdI X Inv 102 202 [.int (X.2 (nI i + 1).toNatClampNeg), .int (X.2 (nI i + 2).toNatClampNeg)] σ lg) (hnext : ∀ (o : xO) (lg' : Int64), Inv (xget o σ) lg' → J σ (1418, [(0, .ref 900), (1, .ref 0), (2, .ref 52), (3, .int (nI i))], [], SH0, o, lg')) : J σ (1049, [(0, .ref 900), (1, .ref 0), (2, .ref 52), (3, .int (nI i))], [], SH0, [], lg) := by
  obtain ⟨v, ox, lg1, om, lg2, h_x, h_m, h_i⟩ := hc
  refine r_sts R 5 (1054, [(0, .ref 900), (1, .ref 0), (2, .ref 52), (3, .int (nI i))], [.int (nI i + 1), .ref 900, .ref 0], SH0, [], lg) rfl rfl ?_
  refine r_par R (p := inr (nI i + 1) X.1) (1055, [(0, .ref 900), (1, .ref 0), (2, .ref 52), (3, .int (nI i))], [.int (X.2 (nI i + 1).toNatClampNeg), .ref 0], SH0, [], lg) rfl h1 rfl ?_
  refine r_sts R 4 (1059, [(0, .ref 900), (1, .ref 0), (2, .ref 52), (3, .int (nI i))], [.int (nI i + 2), .ref 900, .int (X.2 (nI i + 1).toNatClampNeg), .ref 0], SH0, [], lg) rfl rfl ?_
  refine r_par R (p := inr (nI i + 2) X.1) (1060, [(0, .ref 900), (1, .ref 0), (2, .ref 52), (3, .int (nI i))], [.int (X.2 (nI i + 2).toNatClampNeg), .int (X.2 (nI i + 1).toNatClampNeg), .ref 0], SH0, [], lg) rfl h2 rfl ?_
  refine r_call R rfl h_x ?_
  refine r_sts R 5 (1068, [(0, .ref 900), (1, .ref 0), (2, .ref 52), (3, .int (nI i))], [.int (nI i + 1), .ref 900, .ref 52, .int v], SH0, xmrg [] ox, lg1) rfl rfl ?_
  refine r_par R (p := inr (nI i + 1) X.1) (1069, [(0, .ref 900), (1, .ref 0), (2, .ref 52), (3, .int (nI i))], [.int (X.2 (nI i + 1).toNatClampNeg), .ref 52, .int v], SH0, xmrg [] ox, lg1) rfl h1 rfl ?_
  refine r_sts R 4 (1073, [(0, .ref 900), (1, .ref 0), (2, .ref 52), (3, .int (nI i))], [.int (nI i + 2), .ref 900, .int (X.2 (nI i + 1).toNatClampNeg), .ref 52, .int v], SH0, xmrg [] ox, lg1) rfl rfl ?_
  refine r_par R (p := inr (nI i + 2) X.1) (1074, [(0, .ref 900), (1, .ref 0), (2, .ref 52), (3, .int (nI i))], [.int (X.2 (nI i + 2).toNatClampNeg), .int (X.2 (nI i + 1).toNatClampNeg), .ref 52, .int v], SH0, xmrg [] ox, lg1) rfl h2 rfl ?_
  refine r_call R rfl (by rw [xget_mrg]; exact h_m) ?_
  refine r_sts R 1 (if v = v then 1418 else 1080, [(0, .ref 900), (1, .ref 0), (2, .ref 52), (3, .int (nI i))], [], SH0, xmrg (xmrg [] ox) om, lg2) rfl rfl ?_
  refine r_itt rfl ?_
  exact hnext _ _ (by rw [xget_mrg, xget_mrg]; exact h_i)
set_option maxRecDepth 20000 in
theorem law_35 (R : xRules X J) {Inv : xM → Int64 → Prop} {σ : xM} {lg : Int64} {i : Nat} (h1 : inr (nI i + 1) X.1) (h2 : inr (nI i + 2) X.1) (hc : xCmdI X Inv 103 206 [.int (X.2 (nI i + 1).toNatClampNeg), .int (X.2 (nI i + 2).toNatClampNeg)] σ lg) (hnext : ∀ (o : xO) (lg' : Int64), Inv (xget o σ) lg' → J σ (1418, [(0, .ref 900), (1, .ref 0), (2, .ref 52), (3, .int (nI i))], [], SH0, o, lg')) : J σ (1082, [(0, .ref 900), (1, .ref 0), (2, .ref 52), (3, .int (nI i))], [], SH0, [], lg) := by
  obtain ⟨v, ox, lg1, om, lg2, h_x, h_m, h_i⟩ := hc
  refine r_sts R 5 (1087, [(0, .ref 900), (1, .ref 0), (2, .ref 52), (3, .int (nI i))], [.int (nI i + 1), .ref 900, .ref 0], SH0, [], lg) rfl rfl ?_
  refine r_par R (p := inr (nI i + 1) X.1) (1088, [(0, .ref 900), (1, .ref 0), (2, .ref 52), (3, .int (nI i))], [.int (X.2 (nI i + 1).toNatClampNeg), .ref 0], SH0, [], lg) rfl h1 rfl ?_
  refine r_sts R 4 (1092, [(0, .ref 900), (1, .ref 0), (2, .ref 52), (3, .int (nI i))], [.int (nI i + 2), .ref 900, .int (X.2 (nI i + 1).toNatClampNeg), .ref 0], SH0, [], lg) rfl rfl ?_
  refine r_par R (p := inr (nI i + 2) X.1) (1093, [(0, .ref 900), (1, .ref 0), (2, .ref 52), (3, .int (nI i))], [.int (X.2 (nI i + 2).toNatClampNeg), .int (X.2 (nI i + 1).toNatClampNeg), .ref 0], SH0, [], lg) rfl h2 rfl ?_
  refine r_call R rfl h_x ?_
  refine r_sts R 5 (1101, [(0, .ref 900), (1, .ref 0), (2, .ref 52), (3, .int (nI i))], [.int (nI i + 1), .ref 900, .ref 52, .int v], SH0, xmrg [] ox, lg1) rfl rfl ?_
  refine r_par R (p := inr (nI i + 1) X.1) (1102, [(0, .ref 900), (1, .ref 0), (2, .ref 52), (3, .int (nI i))], [.int (X.2 (nI i + 1).toNatClampNeg), .ref 52, .int v], SH0, xmrg [] ox, lg1) rfl h1 rfl ?_
  refine r_sts R 4 (1106, [(0, .ref 900), (1, .ref 0), (2, .ref 52), (3, .int (nI i))], [.int (nI i + 2), .ref 900, .int (X.2 (nI i + 1).toNatClampNeg), .ref 52, .int v], SH0, xmrg [] ox, lg1) rfl rfl ?_
  refine r_par R (p := inr (nI i + 2) X.1) (1107, [(0, .ref 900), (1, .ref 0), (2, .ref 52), (3, .int (nI i))], [.int (X.2 (nI i + 2).toNatClampNeg), .int (X.2 (nI i + 1).toNatClampNeg), .ref 52, .int v], SH0, xmrg [] ox, lg1) rfl h2 rfl ?_
  refine r_call R rfl (by rw [xget_mrg]; exact h_m) ?_
  refine r_sts R 1 (if v = v then 1418 else 1113, [(0, .ref 900), (1, .ref 0), (2, .ref 52), (3, .int (nI i))], [], SH0, xmrg (xmrg [] ox) om, lg2) rfl rfl ?_
  refine r_itt rfl ?_
  exact hnext _ _ (by rw [xget_mrg, xget_mrg]; exact h_i)
set_option maxRecDepth 20000 in
theorem law_36 (R : xRules X J) {Inv : xM → Int64 → Prop} {σ : xM} {lg : Int64} {i : Nat} (h1 : inr (nI i + 1) X.1) (h2 : inr (nI i + 2) X.1) (h3 : inr (nI i + 3) X.1) (hc : xCmdI X Inv 104 207 [.int (X.2 (nI i + 1).toNatClampNeg), .int (X.2 (nI i + 2).toNatClampNeg), .int (X.2 (nI i + 3).toNatClampNeg)] σ lg) (hnext : ∀ (o : xO) (lg' : Int64), Inv (xget o σ) lg' → J σ (1418, [(0, .ref 900), (1, .ref 0), (2, .ref 52), (3, .int (nI i))], [], SH0, o, lg')) : J σ (1115, [(0, .ref 900), (1, .ref 0), (2, .ref 52), (3, .int (nI i))], [], SH0, [], lg) := by
  obtain ⟨v, ox, lg1, om, lg2, h_x, h_m, h_i⟩ := hc
  refine r_sts R 5 (1120, [(0, .ref 900), (1, .ref 0), (2, .ref 52), (3, .int (nI i))], [.int (nI i + 1), .ref 900, .ref 0], SH0, [], lg) rfl rfl ?_
  refine r_par R (p := inr (nI i + 1) X.1) (1121, [(0, .ref 900), (1, .ref 0), (2, .ref 52), (3, .int (nI i))], [.int (X.2 (nI i + 1).toNatClampNeg), .ref 0], SH0, [], lg) rfl h1 rfl ?_
  refine r_sts R 4 (1125, [(0, .ref 900), (1, .ref 0), (2, .ref 52), (3, .int (nI i))], [.int (nI i + 2), .ref 900, .int (X.2 (nI i + 1).toNatClampNeg), .ref 0], SH0, [], lg) rfl rfl ?_
  refine r_par R (p := inr (nI i + 2) X.1) (1126, [(0, .ref 900), (1, .ref 0), (2, .ref 52), (3, .int (nI i))], [.int (X.2 (nI i + 2).toNatClampNeg), .int (X.2 (nI i + 1).toNatClampNeg), .ref 0], SH0, [], lg) rfl h2 rfl ?_
  refine r_sts R 4 (1130, [(0, .ref 900), (1, .ref 0), (2, .ref 52), (3, .int (nI i))], [.int (nI i + 3), .ref 900, .int (X.2 (nI i + 2).toNatClampNeg), .int (X.2 (nI i + 1).toNatClampNeg), .ref 0], SH0, [], lg) rfl rfl ?_
  refine r_par R (p := inr (nI i + 3) X.1) (1131, [(0, .ref 900), (1, .ref 0), (2, .ref 52), (3, .int (nI i))], [.int (X.2 (nI i + 3).toNatClampNeg), .int (X.2 (nI i + 2).toNatClampNeg), .int (X.2 (nI i + 1).toNatClampNeg), .ref 0], SH0, [], lg) rfl h3 rfl ?_
  refine r_call R rfl h_x ?_
  refine r_sts R 5 (1139, [(0, .ref 900), (1, .ref 0), (2, .ref 52), (3, .int (nI i))], [.int (nI i + 1), .ref 900, .ref 52, .int v], SH0, xmrg [] ox, lg1) rfl rfl ?_
  refine r_par R (p := inr (nI i + 1) X.1) (1140, [(0, .ref 900), (1, .ref 0), (2, .ref 52), (3, .int (nI i))], [.int (X.2 (nI i + 1).toNatClampNeg), .ref 52, .int v], SH0, xmrg [] ox, lg1) rfl h1 rfl ?_
  refine r_sts R 4 (1144, [(0, .ref 900), (1, .ref 0), (2, .ref 52), (3, .int (nI i))], [.int (nI i + 2), .ref 900, .int (X.2 (nI i + 1).toNatClampNeg), .ref 52, .int v], SH0, xmrg [] ox, lg1) rfl rfl ?_
  refine r_par R (p := inr (nI i + 2) X.1) (1145, [(0, .ref 900), (1, .ref 0), (2, .ref 52), (3, .int (nI i))], [.int (X.2 (nI i + 2).toNatClampNeg), .int (X.2 (nI i + 1).toNatClampNeg), .ref 52, .int v], SH0, xmrg [] ox, lg1) rfl h2 rfl ?_
  refine r_sts R 4 (1149, [(0, .ref 900), (1, .ref 0), (2, .ref 52), (3, .int (nI i))], [.int (nI i + 3), .ref 900, .int (X.2 (nI i + 2).toNatClampNeg), .int (X.2 (nI i + 1).toNatClampNeg), .ref 52, .int v], SH0, xmrg [] ox, lg1) rfl rfl ?_
  refine r_par R (p := inr (nI i + 3) X.1) (1150, [(0, .ref 900), (1, .ref 0), (2, .ref 52), (3, .int (nI i))], [.int (X.2 (nI i + 3).toNatClampNeg), .int (X.2 (nI i + 2).toNatClampNeg), .int (X.2 (nI i + 1).toNatClampNeg), .ref 52, .int v], SH0, xmrg [] ox, lg1) rfl h3 rfl ?_
  refine r_call R rfl (by rw [xget_mrg]; exact h_m) ?_
  refine r_sts R 1 (if v = v then 1418 else 1156, [(0, .ref 900), (1, .ref 0), (2, .ref 52), (3, .int (nI i))], [], SH0, xmrg (xmrg [] ox) om, lg2) rfl rfl ?_
  refine r_itt rfl ?_
  exact hnext _ _ (by rw [xget_mrg, xget_mrg]; exact h_i)
set_option maxRecDepth 20000 in
theorem law_37 (R : xRules X J) {Inv : xM → Int64 → Prop} {σ : xM} {lg : Int64} {i : Nat} (h1 : inr (nI i + 1) X.1) (h2 : inr (nI i + 2) X.1) (h3 : inr (nI i + 3) X.1) (hc : xCmdI X Inv 105 208 [.int (X.2 (nI i + 1).toNatClampNeg), .int (X.2 (nI i + 2).toNatClampNeg), .int (X.2 (nI i + 3).toNatClampNeg)] σ lg) (hnext : ∀ (o : xO) (lg' : Int64), Inv (xget o σ) lg' → J σ (1418, [(0, .ref 900), (1, .ref 0), (2, .ref 52), (3, .int (nI i))], [], SH0, o, lg')) : J σ (1158, [(0, .ref 900), (1, .ref 0), (2, .ref 52), (3, .int (nI i))], [], SH0, [], lg) := by
  obtain ⟨v, ox, lg1, om, lg2, h_x, h_m, h_i⟩ := hc
  refine r_sts R 5 (1163, [(0, .ref 900), (1, .ref 0), (2, .ref 52), (3, .int (nI i))], [.int (nI i + 1), .ref 900, .ref 0], SH0, [], lg) rfl rfl ?_
  refine r_par R (p := inr (nI i + 1) X.1) (1164, [(0, .ref 900), (1, .ref 0), (2, .ref 52), (3, .int (nI i))], [.int (X.2 (nI i + 1).toNatClampNeg), .ref 0], SH0, [], lg) rfl h1 rfl ?_
  refine r_sts R 4 (1168, [(0, .ref 900), (1, .ref 0), (2, .ref 52), (3, .int (nI i))], [.int (nI i + 2), .ref 900, .int (X.2 (nI i + 1).toNatClampNeg), .ref 0], SH0, [], lg) rfl rfl ?_
  refine r_par R (p := inr (nI i + 2) X.1) (1169, [(0, .ref 900), (1, .ref 0), (2, .ref 52), (3, .int (nI i))], [.int (X.2 (nI i + 2).toNatClampNeg), .int (X.2 (nI i + 1).toNatClampNeg), .ref 0], SH0, [], lg) rfl h2 rfl ?_
  refine r_sts R 4 (1173, [(0, .ref 900), (1, .ref 0), (2, .ref 52), (3, .int (nI i))], [.int (nI i + 3), .ref 900, .int (X.2 (nI i + 2).toNatClampNeg), .int (X.2 (nI i + 1).toNatClampNeg), .ref 0], SH0, [], lg) rfl rfl ?_
  refine r_par R (p := inr (nI i + 3) X.1) (1174, [(0, .ref 900), (1, .ref 0), (2, .ref 52), (3, .int (nI i))], [.int (X.2 (nI i + 3).toNatClampNeg), .int (X.2 (nI i + 2).toNatClampNeg), .int (X.2 (nI i + 1).toNatClampNeg), .ref 0], SH0, [], lg) rfl h3 rfl ?_
  refine r_call R rfl h_x ?_
  refine r_sts R 5 (1182, [(0, .ref 900), (1, .ref 0), (2, .ref 52), (3, .int (nI i))], [.int (nI i + 1), .ref 900, .ref 52, .int v], SH0, xmrg [] ox, lg1) rfl rfl ?_
  refine r_par R (p := inr (nI i + 1) X.1) (1183, [(0, .ref 900), (1, .ref 0), (2, .ref 52), (3, .int (nI i))], [.int (X.2 (nI i + 1).toNatClampNeg), .ref 52, .int v], SH0, xmrg [] ox, lg1) rfl h1 rfl ?_
  refine r_sts R 4 (1187, [(0, .ref 900), (1, .ref 0), (2, .ref 52), (3, .int (nI i))], [.int (nI i + 2), .ref 900, .int (X.2 (nI i + 1).toNatClampNeg), .ref 52, .int v], SH0, xmrg [] ox, lg1) rfl rfl ?_
  refine r_par R (p := inr (nI i + 2) X.1) (1188, [(0, .ref 900), (1, .ref 0), (2, .ref 52), (3, .int (nI i))], [.int (X.2 (nI i + 2).toNatClampNeg), .int (X.2 (nI i + 1).toNatClampNeg), .ref 52, .int v], SH0, xmrg [] ox, lg1) rfl h2 rfl ?_
  refine r_sts R 4 (1192, [(0, .ref 900), (1, .ref 0), (2, .ref 52), (3, .int (nI i))], [.int (nI i + 3), .ref 900, .int (X.2 (nI i + 2).toNatClampNeg), .int (X.2 (nI i + 1).toNatClampNeg), .ref 52, .int v], SH0, xmrg [] ox, lg1) rfl rfl ?_
  refine r_par R (p := inr (nI i + 3) X.1) (1193, [(0, .ref 900), (1, .ref 0), (2, .ref 52), (3, .int (nI i))], [.int (X.2 (nI i + 3).toNatClampNeg), .int (X.2 (nI i + 2).toNatClampNeg), .int (X.2 (nI i + 1).toNatClampNeg), .ref 52, .int v], SH0, xmrg [] ox, lg1) rfl h3 rfl ?_
  refine r_call R rfl (by rw [xget_mrg]; exact h_m) ?_
  refine r_sts R 1 (if v = v then 1418 else 1199, [(0, .ref 900), (1, .ref 0), (2, .ref 52), (3, .int (nI i))], [], SH0, xmrg (xmrg [] ox) om, lg2) rfl rfl ?_
  refine r_itt rfl ?_
  exact hnext _ _ (by rw [xget_mrg, xget_mrg]; exact h_i)
set_option maxRecDepth 20000 in
theorem law_38 (R : xRules X J) {Inv : xM → Int64 → Prop} {σ : xM} {lg : Int64} {i : Nat} (h1 : inr (nI i + 1) X.1) (h2 : inr (nI i + 2) X.1) (h3 : inr (nI i + 3) X.1) (h4 : inr (nI i + 4) X.1) (h5 : inr (nI i + 5) X.1) (hc : xCmdI X Inv 106 209 [.int (X.2 (nI i + 1).toNatClampNeg), .int (X.2 (nI i + 2).toNatClampNeg), .int (X.2 (nI i + 3).toNatClampNeg), .int (X.2 (nI i + 4).toNatClampNeg), .int (X.2 (nI i + 5).toNatClampNeg)] σ lg) (hnext : ∀ (o : xO) (lg' : Int64), Inv (xget o σ) lg' → J σ (1418, [(0, .ref 900), (1, .ref 0), (2, .ref 52), (3, .int (nI i))], [], SH0, o, lg')) : J σ (1201, [(0, .ref 900), (1, .ref 0), (2, .ref 52), (3, .int (nI i))], [], SH0, [], lg) := by
  obtain ⟨v, ox, lg1, om, lg2, h_x, h_m, h_i⟩ := hc
  refine r_sts R 5 (1206, [(0, .ref 900), (1, .ref 0), (2, .ref 52), (3, .int (nI i))], [.int (nI i + 1), .ref 900, .ref 0], SH0, [], lg) rfl rfl ?_
  refine r_par R (p := inr (nI i + 1) X.1) (1207, [(0, .ref 900), (1, .ref 0), (2, .ref 52), (3, .int (nI i))], [.int (X.2 (nI i + 1).toNatClampNeg), .ref 0], SH0, [], lg) rfl h1 rfl ?_
  refine r_sts R 4 (1211, [(0, .ref 900), (1, .ref 0), (2, .ref 52), (3, .int (nI i))], [.int (nI i + 2), .ref 900, .int (X.2 (nI i + 1).toNatClampNeg), .ref 0], SH0, [], lg) rfl rfl ?_
  refine r_par R (p := inr (nI i + 2) X.1) (1212, [(0, .ref 900), (1, .ref 0), (2, .ref 52), (3, .int (nI i))], [.int (X.2 (nI i + 2).toNatClampNeg), .int (X.2 (nI i + 1).toNatClampNeg), .ref 0], SH0, [], lg) rfl h2 rfl ?_
  refine r_sts R 4 (1216, [(0, .ref 900), (1, .ref 0), (2, .ref 52), (3, .int (nI i))], [.int (nI i + 3), .ref 900, .int (X.2 (nI i + 2).toNatClampNeg), .int (X.2 (nI i + 1).toNatClampNeg), .ref 0], SH0, [], lg) rfl rfl ?_
  refine r_par R (p := inr (nI i + 3) X.1) (1217, [(0, .ref 900), (1, .ref 0), (2, .ref 52), (3, .int (nI i))], [.int (X.2 (nI i + 3).toNatClampNeg), .int (X.2 (nI i + 2).toNatClampNeg), .int (X.2 (nI i + 1).toNatClampNeg), .ref 0], SH0, [], lg) rfl h3 rfl ?_
  refine r_sts R 4 (1221, [(0, .ref 900), (1, .ref 0), (2, .ref 52), (3, .int (nI i))], [.int (nI i + 4), .ref 900, .int (X.2 (nI i + 3).toNatClampNeg), .int (X.2 (nI i + 2).toNatClampNeg), .int (X.2 (nI i + 1).toNatClampNeg), .ref 0], SH0, [], lg) rfl rfl ?_
  refine r_par R (p := inr (nI i + 4) X.1) (1222, [(0, .ref 900), (1, .ref 0), (2, .ref 52), (3, .int (nI i))], [.int (X.2 (nI i + 4).toNatClampNeg), .int (X.2 (nI i + 3).toNatClampNeg), .int (X.2 (nI i + 2).toNatClampNeg), .int (X.2 (nI i + 1).toNatClampNeg), .ref 0], SH0, [], lg) rfl h4 rfl ?_
  refine r_sts R 4 (1226, [(0, .ref 900), (1, .ref 0), (2, .ref 52), (3, .int (nI i))], [.int (nI i + 5), .ref 900, .int (X.2 (nI i + 4).toNatClampNeg), .int (X.2 (nI i + 3).toNatClampNeg), .int (X.2 (nI i + 2).toNatClampNeg), .int (X.2 (nI i + 1).toNatClampNeg), .ref 0], SH0, [], lg) rfl rfl ?_
  refine r_par R (p := inr (nI i + 5) X.1) (1227, [(0, .ref 900), (1, .ref 0), (2, .ref 52), (3, .int (nI i))], [.int (X.2 (nI i + 5).toNatClampNeg), .int (X.2 (nI i + 4).toNatClampNeg), .int (X.2 (nI i + 3).toNatClampNeg), .int (X.2 (nI i + 2).toNatClampNeg), .int (X.2 (nI i + 1).toNatClampNeg), .ref 0], SH0, [], lg) rfl h5 rfl ?_
  refine r_call R rfl h_x ?_
  refine r_sts R 5 (1235, [(0, .ref 900), (1, .ref 0), (2, .ref 52), (3, .int (nI i))], [.int (nI i + 1), .ref 900, .ref 52, .int v], SH0, xmrg [] ox, lg1) rfl rfl ?_
  refine r_par R (p := inr (nI i + 1) X.1) (1236, [(0, .ref 900), (1, .ref 0), (2, .ref 52), (3, .int (nI i))], [.int (X.2 (nI i + 1).toNatClampNeg), .ref 52, .int v], SH0, xmrg [] ox, lg1) rfl h1 rfl ?_
  refine r_sts R 4 (1240, [(0, .ref 900), (1, .ref 0), (2, .ref 52), (3, .int (nI i))], [.int (nI i + 2), .ref 900, .int (X.2 (nI i + 1).toNatClampNeg), .ref 52, .int v], SH0, xmrg [] ox, lg1) rfl rfl ?_
  refine r_par R (p := inr (nI i + 2) X.1) (1241, [(0, .ref 900), (1, .ref 0), (2, .ref 52), (3, .int (nI i))], [.int (X.2 (nI i + 2).toNatClampNeg), .int (X.2 (nI i + 1).toNatClampNeg), .ref 52, .int v], SH0, xmrg [] ox, lg1) rfl h2 rfl ?_
  refine r_sts R 4 (1245, [(0, .ref 900), (1, .ref 0), (2, .ref 52), (3, .int (nI i))], [.int (nI i + 3), .ref 900, .int (X.2 (nI i + 2).toNatClampNeg), .int (X.2 (nI i + 1).toNatClampNeg), .ref 52, .int v], SH0, xmrg [] ox, lg1) rfl rfl ?_
  refine r_par R (p := inr (nI i + 3) X.1) (1246, [(0, .ref 900), (1, .ref 0), (2, .ref 52), (3, .int (nI i))], [.int (X.2 (nI i + 3).toNatClampNeg), .int (X.2 (nI i + 2).toNatClampNeg), .int (X.2 (nI i + 1).toNatClampNeg), .ref 52, .int v], SH0, xmrg [] ox, lg1) rfl h3 rfl ?_
  refine r_sts R 4 (1250, [(0, .ref 900), (1, .ref 0), (2, .ref 52), (3, .int (nI i))], [.int (nI i + 4), .ref 900, .int (X.2 (nI i + 3).toNatClampNeg), .int (X.2 (nI i + 2).toNatClampNeg), .int (X.2 (nI i + 1).toNatClampNeg), .ref 52, .int v], SH0, xmrg [] ox, lg1) rfl rfl ?_
  refine r_par R (p := inr (nI i + 4) X.1) (1251, [(0, .ref 900), (1, .ref 0), (2, .ref 52), (3, .int (nI i))], [.int (X.2 (nI i + 4).toNatClampNeg), .int (X.2 (nI i + 3).toNatClampNeg), .int (X.2 (nI i + 2).toNatClampNeg), .int (X.2 (nI i + 1).toNatClampNeg), .ref 52, .int v], SH0, xmrg [] ox, lg1) rfl h4 rfl ?_
  refine r_sts R 4 (1255, [(0, .ref 900), (1, .ref 0), (2, .ref 52), (3, .int (nI i))], [.int (nI i + 5), .ref 900, .int (X.2 (nI i + 4).toNatClampNeg), .int (X.2 (nI i + 3).toNatClampNeg), .int (X.2 (nI i + 2).toNatClampNeg), .int (X.2 (nI i + 1).toNatClampNeg), .ref 52, .int v], SH0, xmrg [] ox, lg1) rfl rfl ?_
  refine r_par R (p := inr (nI i + 5) X.1) (1256, [(0, .ref 900), (1, .ref 0), (2, .ref 52), (3, .int (nI i))], [.int (X.2 (nI i + 5).toNatClampNeg), .int (X.2 (nI i + 4).toNatClampNeg), .int (X.2 (nI i + 3).toNatClampNeg), .int (X.2 (nI i + 2).toNatClampNeg), .int (X.2 (nI i + 1).toNatClampNeg), .ref 52, .int v], SH0, xmrg [] ox, lg1) rfl h5 rfl ?_
  refine r_call R rfl (by rw [xget_mrg]; exact h_m) ?_
  refine r_sts R 1 (if v = v then 1418 else 1262, [(0, .ref 900), (1, .ref 0), (2, .ref 52), (3, .int (nI i))], [], SH0, xmrg (xmrg [] ox) om, lg2) rfl rfl ?_
  refine r_itt rfl ?_
  exact hnext _ _ (by rw [xget_mrg, xget_mrg]; exact h_i)
set_option maxRecDepth 20000 in
theorem law_39 (R : xRules X J) {Inv : xM → Int64 → Prop} {σ : xM} {lg : Int64} {i : Nat} (h1 : inr (nI i + 1) X.1) (hc : xCmdI X Inv 107 210 [.int (X.2 (nI i + 1).toNatClampNeg)] σ lg) (hnext : ∀ (o : xO) (lg' : Int64), Inv (xget o σ) lg' → J σ (1418, [(0, .ref 900), (1, .ref 0), (2, .ref 52), (3, .int (nI i))], [], SH0, o, lg')) : J σ (1264, [(0, .ref 900), (1, .ref 0), (2, .ref 52), (3, .int (nI i))], [], SH0, [], lg) := by
  obtain ⟨v, ox, lg1, om, lg2, h_x, h_m, h_i⟩ := hc
  refine r_sts R 5 (1269, [(0, .ref 900), (1, .ref 0), (2, .ref 52), (3, .int (nI i))], [.int (nI i + 1), .ref 900, .ref 0], SH0, [], lg) rfl rfl ?_
  refine r_par R (p := inr (nI i + 1) X.1) (1270, [(0, .ref 900), (1, .ref 0), (2, .ref 52), (3, .int (nI i))], [.int (X.2 (nI i + 1).toNatClampNeg), .ref 0], SH0, [], lg) rfl h1 rfl ?_
  refine r_call R rfl h_x ?_
  refine r_sts R 5 (1278, [(0, .ref 900), (1, .ref 0), (2, .ref 52), (3, .int (nI i))], [.int (nI i + 1), .ref 900, .ref 52, .int v], SH0, xmrg [] ox, lg1) rfl rfl ?_
  refine r_par R (p := inr (nI i + 1) X.1) (1279, [(0, .ref 900), (1, .ref 0), (2, .ref 52), (3, .int (nI i))], [.int (X.2 (nI i + 1).toNatClampNeg), .ref 52, .int v], SH0, xmrg [] ox, lg1) rfl h1 rfl ?_
  refine r_call R rfl (by rw [xget_mrg]; exact h_m) ?_
  refine r_sts R 1 (if v = v then 1418 else 1285, [(0, .ref 900), (1, .ref 0), (2, .ref 52), (3, .int (nI i))], [], SH0, xmrg (xmrg [] ox) om, lg2) rfl rfl ?_
  refine r_itt rfl ?_
  exact hnext _ _ (by rw [xget_mrg, xget_mrg]; exact h_i)
set_option maxRecDepth 20000 in
theorem law_40 (R : xRules X J) {Inv : xM → Int64 → Prop} {σ : xM} {lg : Int64} {i : Nat} (h1 : inr (nI i + 1) X.1) (hc : xCmdI X Inv 108 212 [.int (X.2 (nI i + 1).toNatClampNeg)] σ lg) (hnext : ∀ (o : xO) (lg' : Int64), Inv (xget o σ) lg' → J σ (1418, [(0, .ref 900), (1, .ref 0), (2, .ref 52), (3, .int (nI i))], [], SH0, o, lg')) : J σ (1287, [(0, .ref 900), (1, .ref 0), (2, .ref 52), (3, .int (nI i))], [], SH0, [], lg) := by
  obtain ⟨v, ox, lg1, om, lg2, h_x, h_m, h_i⟩ := hc
  refine r_sts R 5 (1292, [(0, .ref 900), (1, .ref 0), (2, .ref 52), (3, .int (nI i))], [.int (nI i + 1), .ref 900, .ref 0], SH0, [], lg) rfl rfl ?_
  refine r_par R (p := inr (nI i + 1) X.1) (1293, [(0, .ref 900), (1, .ref 0), (2, .ref 52), (3, .int (nI i))], [.int (X.2 (nI i + 1).toNatClampNeg), .ref 0], SH0, [], lg) rfl h1 rfl ?_
  refine r_call R rfl h_x ?_
  refine r_sts R 5 (1301, [(0, .ref 900), (1, .ref 0), (2, .ref 52), (3, .int (nI i))], [.int (nI i + 1), .ref 900, .ref 52, .int v], SH0, xmrg [] ox, lg1) rfl rfl ?_
  refine r_par R (p := inr (nI i + 1) X.1) (1302, [(0, .ref 900), (1, .ref 0), (2, .ref 52), (3, .int (nI i))], [.int (X.2 (nI i + 1).toNatClampNeg), .ref 52, .int v], SH0, xmrg [] ox, lg1) rfl h1 rfl ?_
  refine r_call R rfl (by rw [xget_mrg]; exact h_m) ?_
  refine r_sts R 1 (if v = v then 1418 else 1308, [(0, .ref 900), (1, .ref 0), (2, .ref 52), (3, .int (nI i))], [], SH0, xmrg (xmrg [] ox) om, lg2) rfl rfl ?_
  refine r_itt rfl ?_
  exact hnext _ _ (by rw [xget_mrg, xget_mrg]; exact h_i)
set_option maxRecDepth 20000 in
theorem law_41 (R : xRules X J) {Inv : xM → Int64 → Prop} {σ : xM} {lg : Int64} {i : Nat} (h1 : inr (nI i + 1) X.1) (hc : xCmdI X Inv 109 213 [.int (X.2 (nI i + 1).toNatClampNeg)] σ lg) (hnext : ∀ (o : xO) (lg' : Int64), Inv (xget o σ) lg' → J σ (1418, [(0, .ref 900), (1, .ref 0), (2, .ref 52), (3, .int (nI i))], [], SH0, o, lg')) : J σ (1310, [(0, .ref 900), (1, .ref 0), (2, .ref 52), (3, .int (nI i))], [], SH0, [], lg) := by
  obtain ⟨v, ox, lg1, om, lg2, h_x, h_m, h_i⟩ := hc
  refine r_sts R 5 (1315, [(0, .ref 900), (1, .ref 0), (2, .ref 52), (3, .int (nI i))], [.int (nI i + 1), .ref 900, .ref 0], SH0, [], lg) rfl rfl ?_
  refine r_par R (p := inr (nI i + 1) X.1) (1316, [(0, .ref 900), (1, .ref 0), (2, .ref 52), (3, .int (nI i))], [.int (X.2 (nI i + 1).toNatClampNeg), .ref 0], SH0, [], lg) rfl h1 rfl ?_
  refine r_call R rfl h_x ?_
  refine r_sts R 5 (1324, [(0, .ref 900), (1, .ref 0), (2, .ref 52), (3, .int (nI i))], [.int (nI i + 1), .ref 900, .ref 52, .int v], SH0, xmrg [] ox, lg1) rfl rfl ?_
  refine r_par R (p := inr (nI i + 1) X.1) (1325, [(0, .ref 900), (1, .ref 0), (2, .ref 52), (3, .int (nI i))], [.int (X.2 (nI i + 1).toNatClampNeg), .ref 52, .int v], SH0, xmrg [] ox, lg1) rfl h1 rfl ?_
  refine r_call R rfl (by rw [xget_mrg]; exact h_m) ?_
  refine r_sts R 1 (if v = v then 1418 else 1331, [(0, .ref 900), (1, .ref 0), (2, .ref 52), (3, .int (nI i))], [], SH0, xmrg (xmrg [] ox) om, lg2) rfl rfl ?_
  refine r_itt rfl ?_
  exact hnext _ _ (by rw [xget_mrg, xget_mrg]; exact h_i)
set_option maxRecDepth 20000 in
theorem law_42 (R : xRules X J) {Inv : xM → Int64 → Prop} {σ : xM} {lg : Int64} {i : Nat} (hc : xCmdI X Inv 110 214 [] σ lg) (hnext : ∀ (o : xO) (lg' : Int64), Inv (xget o σ) lg' → J σ (1418, [(0, .ref 900), (1, .ref 0), (2, .ref 52), (3, .int (nI i))], [], SH0, o, lg')) : J σ (1333, [(0, .ref 900), (1, .ref 0), (2, .ref 52), (3, .int (nI i))], [], SH0, [], lg) := by
  obtain ⟨v, ox, lg1, om, lg2, h_x, h_m, h_i⟩ := hc
  refine r_sts R 1 (1334, [(0, .ref 900), (1, .ref 0), (2, .ref 52), (3, .int (nI i))], [.ref 0], SH0, [], lg) rfl rfl ?_
  refine r_call R rfl h_x ?_
  refine r_sts R 1 (1338, [(0, .ref 900), (1, .ref 0), (2, .ref 52), (3, .int (nI i))], [.ref 52, .int v], SH0, xmrg [] ox, lg1) rfl rfl ?_
  refine r_call R rfl (by rw [xget_mrg]; exact h_m) ?_
  refine r_sts R 1 (if v = v then 1418 else 1344, [(0, .ref 900), (1, .ref 0), (2, .ref 52), (3, .int (nI i))], [], SH0, xmrg (xmrg [] ox) om, lg2) rfl rfl ?_
  refine r_itt rfl ?_
  exact hnext _ _ (by rw [xget_mrg, xget_mrg]; exact h_i)
set_option maxRecDepth 20000 in
theorem law_43 (R : xRules X J) {Inv : xM → Int64 → Prop} {σ : xM} {lg : Int64} {i : Nat} (hc : xCmdI X Inv 111 215 [] σ lg) (hnext : ∀ (o : xO) (lg' : Int64), Inv (xget o σ) lg' → J σ (1418, [(0, .ref 900), (1, .ref 0), (2, .ref 52), (3, .int (nI i))], [], SH0, o, lg')) : J σ (1346, [(0, .ref 900), (1, .ref 0), (2, .ref 52), (3, .int (nI i))], [], SH0, [], lg) := by
  obtain ⟨v, ox, lg1, om, lg2, h_x, h_m, h_i⟩ := hc
  refine r_sts R 1 (1347, [(0, .ref 900), (1, .ref 0), (2, .ref 52), (3, .int (nI i))], [.ref 0], SH0, [], lg) rfl rfl ?_
  refine r_call R rfl h_x ?_
  refine r_sts R 1 (1351, [(0, .ref 900), (1, .ref 0), (2, .ref 52), (3, .int (nI i))], [.ref 52, .int v], SH0, xmrg [] ox, lg1) rfl rfl ?_
  refine r_call R rfl (by rw [xget_mrg]; exact h_m) ?_
  refine r_sts R 1 (if v = v then 1418 else 1357, [(0, .ref 900), (1, .ref 0), (2, .ref 52), (3, .int (nI i))], [], SH0, xmrg (xmrg [] ox) om, lg2) rfl rfl ?_
  refine r_itt rfl ?_
  exact hnext _ _ (by rw [xget_mrg, xget_mrg]; exact h_i)
set_option maxRecDepth 20000 in
theorem law_44 (R : xRules X J) {Inv : xM → Int64 → Prop} {σ : xM} {lg : Int64} {i : Nat} (hc : xCmdI X Inv 112 216 [] σ lg) (hnext : ∀ (o : xO) (lg' : Int64), Inv (xget o σ) lg' → J σ (1418, [(0, .ref 900), (1, .ref 0), (2, .ref 52), (3, .int (nI i))], [], SH0, o, lg')) : J σ (1359, [(0, .ref 900), (1, .ref 0), (2, .ref 52), (3, .int (nI i))], [], SH0, [], lg) := by
  obtain ⟨v, ox, lg1, om, lg2, h_x, h_m, h_i⟩ := hc
  refine r_sts R 1 (1360, [(0, .ref 900), (1, .ref 0), (2, .ref 52), (3, .int (nI i))], [.ref 0], SH0, [], lg) rfl rfl ?_
  refine r_call R rfl h_x ?_
  refine r_sts R 1 (1364, [(0, .ref 900), (1, .ref 0), (2, .ref 52), (3, .int (nI i))], [.ref 52, .int v], SH0, xmrg [] ox, lg1) rfl rfl ?_
  refine r_call R rfl (by rw [xget_mrg]; exact h_m) ?_
  refine r_sts R 1 (if v = v then 1418 else 1370, [(0, .ref 900), (1, .ref 0), (2, .ref 52), (3, .int (nI i))], [], SH0, xmrg (xmrg [] ox) om, lg2) rfl rfl ?_
  refine r_itt rfl ?_
  exact hnext _ _ (by rw [xget_mrg, xget_mrg]; exact h_i)
set_option maxRecDepth 20000 in
theorem law_45 (R : xRules X J) {Inv : xM → Int64 → Prop} {σ : xM} {lg : Int64} {i : Nat} (h1 : inr (nI i + 1) X.1) (hc : xCmdI X Inv 113 217 [.int (X.2 (nI i + 1).toNatClampNeg)] σ lg) (hnext : ∀ (o : xO) (lg' : Int64), Inv (xget o σ) lg' → J σ (1418, [(0, .ref 900), (1, .ref 0), (2, .ref 52), (3, .int (nI i))], [], SH0, o, lg')) : J σ (1372, [(0, .ref 900), (1, .ref 0), (2, .ref 52), (3, .int (nI i))], [], SH0, [], lg) := by
  obtain ⟨v, ox, lg1, om, lg2, h_x, h_m, h_i⟩ := hc
  refine r_sts R 5 (1377, [(0, .ref 900), (1, .ref 0), (2, .ref 52), (3, .int (nI i))], [.int (nI i + 1), .ref 900, .ref 0], SH0, [], lg) rfl rfl ?_
  refine r_par R (p := inr (nI i + 1) X.1) (1378, [(0, .ref 900), (1, .ref 0), (2, .ref 52), (3, .int (nI i))], [.int (X.2 (nI i + 1).toNatClampNeg), .ref 0], SH0, [], lg) rfl h1 rfl ?_
  refine r_call R rfl h_x ?_
  refine r_sts R 5 (1386, [(0, .ref 900), (1, .ref 0), (2, .ref 52), (3, .int (nI i))], [.int (nI i + 1), .ref 900, .ref 52, .int v], SH0, xmrg [] ox, lg1) rfl rfl ?_
  refine r_par R (p := inr (nI i + 1) X.1) (1387, [(0, .ref 900), (1, .ref 0), (2, .ref 52), (3, .int (nI i))], [.int (X.2 (nI i + 1).toNatClampNeg), .ref 52, .int v], SH0, xmrg [] ox, lg1) rfl h1 rfl ?_
  refine r_call R rfl (by rw [xget_mrg]; exact h_m) ?_
  refine r_sts R 1 (if v = v then 1418 else 1393, [(0, .ref 900), (1, .ref 0), (2, .ref 52), (3, .int (nI i))], [], SH0, xmrg (xmrg [] ox) om, lg2) rfl rfl ?_
  refine r_itt rfl ?_
  exact hnext _ _ (by rw [xget_mrg, xget_mrg]; exact h_i)
set_option maxRecDepth 20000 in
theorem law_46 (R : xRules X J) {Inv : xM → Int64 → Prop} {σ : xM} {lg : Int64} {i : Nat} (h1 : inr (nI i + 1) X.1) (hc : xCmdI X Inv 114 218 [.int (X.2 (nI i + 1).toNatClampNeg)] σ lg) (hnext : ∀ (o : xO) (lg' : Int64), Inv (xget o σ) lg' → J σ (1418, [(0, .ref 900), (1, .ref 0), (2, .ref 52), (3, .int (nI i))], [], SH0, o, lg')) : J σ (1395, [(0, .ref 900), (1, .ref 0), (2, .ref 52), (3, .int (nI i))], [], SH0, [], lg) := by
  obtain ⟨v, ox, lg1, om, lg2, h_x, h_m, h_i⟩ := hc
  refine r_sts R 5 (1400, [(0, .ref 900), (1, .ref 0), (2, .ref 52), (3, .int (nI i))], [.int (nI i + 1), .ref 900, .ref 0], SH0, [], lg) rfl rfl ?_
  refine r_par R (p := inr (nI i + 1) X.1) (1401, [(0, .ref 900), (1, .ref 0), (2, .ref 52), (3, .int (nI i))], [.int (X.2 (nI i + 1).toNatClampNeg), .ref 0], SH0, [], lg) rfl h1 rfl ?_
  refine r_call R rfl h_x ?_
  refine r_sts R 5 (1409, [(0, .ref 900), (1, .ref 0), (2, .ref 52), (3, .int (nI i))], [.int (nI i + 1), .ref 900, .ref 52, .int v], SH0, xmrg [] ox, lg1) rfl rfl ?_
  refine r_par R (p := inr (nI i + 1) X.1) (1410, [(0, .ref 900), (1, .ref 0), (2, .ref 52), (3, .int (nI i))], [.int (X.2 (nI i + 1).toNatClampNeg), .ref 52, .int v], SH0, xmrg [] ox, lg1) rfl h1 rfl ?_
  refine r_call R rfl (by rw [xget_mrg]; exact h_m) ?_
  refine r_sts R 1 (if v = v then 1418 else 1416, [(0, .ref 900), (1, .ref 0), (2, .ref 52), (3, .int (nI i))], [], SH0, xmrg (xmrg [] ox) om, lg2) rfl rfl ?_
  refine r_itt rfl ?_
  exact hnext _ _ (by rw [xget_mrg, xget_mrg]; exact h_i)
def xCmds (X : xX) (Inv : xM → Int64 → Prop) : Prop :=
  (∀ (σ : xM) (lg : Int64) (a1 : Int32), Inv σ lg → xCmdI X Inv 68 144 [.int a1] σ lg) ∧
  (∀ (σ : xM) (lg : Int64) (a1 a2 : Int32), Inv σ lg → xCmdI X Inv 69 145 [.int a1, .int a2] σ lg) ∧
  (∀ (σ : xM) (lg : Int64) (a1 a2 a3 : Int32), Inv σ lg → xCmdI X Inv 70 146 [.int a1, .int a2, .int a3] σ lg) ∧
  (∀ (σ : xM) (lg : Int64) (a1 a2 a3 : Int32), Inv σ lg → xCmdI X Inv 71 147 [.int a1, .int a2, .int a3] σ lg) ∧
  (∀ (σ : xM) (lg : Int64) (a1 a2 : Int32), Inv σ lg → xCmdI X Inv 72 149 [.int a1, .int a2] σ lg) ∧
  (∀ (σ : xM) (lg : Int64) (a1 a2 : Int32), Inv σ lg → xCmdI X Inv 73 150 [.int a1, .int a2] σ lg) ∧
  (∀ (σ : xM) (lg : Int64) (a1 : Int32), Inv σ lg → xCmdI X Inv 74 151 [.int a1] σ lg) ∧
  (∀ (σ : xM) (lg : Int64), Inv σ lg → xCmdI X Inv 75 152 [] σ lg) ∧
  (∀ (σ : xM) (lg : Int64), Inv σ lg → xCmdI X Inv 76 153 [] σ lg) ∧
  (∀ (σ : xM) (lg : Int64) (a1 : Int32), Inv σ lg → xCmdI X Inv 77 154 [.int a1] σ lg) ∧
  (∀ (σ : xM) (lg : Int64) (a1 : Int32), Inv σ lg → xCmdI X Inv 78 156 [.int a1] σ lg) ∧
  (∀ (σ : xM) (lg : Int64) (a1 : Int32), Inv σ lg → xCmdI X Inv 79 160 [.int a1] σ lg) ∧
  (∀ (σ : xM) (lg : Int64) (a1 a2 : Int32), Inv σ lg → xCmdI X Inv 80 161 [.int a1, .int a2] σ lg) ∧
  (∀ (σ : xM) (lg : Int64), Inv σ lg → xCmdI X Inv 81 163 [] σ lg) ∧
  (∀ (σ : xM) (lg : Int64), Inv σ lg → xCmdI X Inv 82 164 [] σ lg) ∧
  (∀ (σ : xM) (lg : Int64) (a1 a2 : Int32), Inv σ lg → xCmdI X Inv 83 165 [.int a1, .int a2] σ lg) ∧
  (∀ (σ : xM) (lg : Int64) (a1 : Int32), Inv σ lg → xCmdI X Inv 84 167 [.int a1] σ lg) ∧
  (∀ (σ : xM) (lg : Int64), Inv σ lg → xCmdI X Inv 85 168 [] σ lg) ∧
  (∀ (σ : xM) (lg : Int64), Inv σ lg → xCmdI X Inv 86 169 [] σ lg) ∧
  (∀ (σ : xM) (lg : Int64) (a1 a2 : Int32), Inv σ lg → xCmdI X Inv 87 170 [.int a1, .int a2] σ lg) ∧
  (∀ (σ : xM) (lg : Int64) (a1 : Int32), Inv σ lg → xCmdI X Inv 88 171 [.int a1] σ lg) ∧
  (∀ (σ : xM) (lg : Int64), Inv σ lg → xCmdI X Inv 89 173 [] σ lg) ∧
  (∀ (σ : xM) (lg : Int64), Inv σ lg → xCmdI X Inv 90 174 [] σ lg) ∧
  (∀ (σ : xM) (lg : Int64), Inv σ lg → xCmdI X Inv 91 175 [] σ lg) ∧
  (∀ (σ : xM) (lg : Int64) (a1 a2 a3 : Int32), Inv σ lg → xCmdI X Inv 92 177 [.int a1, .int a2, .int a3] σ lg) ∧
  (∀ (σ : xM) (lg : Int64) (a1 a2 a3 : Int32), Inv σ lg → xCmdI X Inv 93 178 [.int a1, .int a2, .int a3] σ lg) ∧
  (∀ (σ : xM) (lg : Int64) (a1 a2 : Int32), Inv σ lg → xCmdL X Inv 94 182 [.int a1, .int a2] σ lg) ∧
  (∀ (σ : xM) (lg : Int64), Inv σ lg → xCmdI X Inv 95 183 [] σ lg) ∧
  (∀ (σ : xM) (lg : Int64) (a1 : Int32), Inv σ lg → xCmdI X Inv 96 185 [.int a1] σ lg) ∧
  (∀ (σ : xM) (lg : Int64), Inv σ lg → xCmdI X Inv 97 186 [] σ lg) ∧
  (∀ (σ : xM) (lg : Int64) (a1 : Int32), Inv σ lg → xCmdI X Inv 98 187 [.int a1] σ lg) ∧
  (∀ (σ : xM) (lg : Int64) (a1 a2 : Int32), Inv σ lg → xCmdI X Inv 99 190 [.int a1, .int a2] σ lg) ∧
  (∀ (σ : xM) (lg : Int64), Inv σ lg → xCmdI X Inv 100 191 [] σ lg) ∧
  (∀ (σ : xM) (lg : Int64), Inv σ lg → xCmdI X Inv 101 200 [] σ lg) ∧
  (∀ (σ : xM) (lg : Int64) (a1 a2 : Int32), Inv σ lg → xCmdI X Inv 102 202 [.int a1, .int a2] σ lg) ∧
  (∀ (σ : xM) (lg : Int64) (a1 a2 : Int32), Inv σ lg → xCmdI X Inv 103 206 [.int a1, .int a2] σ lg) ∧
  (∀ (σ : xM) (lg : Int64) (a1 a2 a3 : Int32), Inv σ lg → xCmdI X Inv 104 207 [.int a1, .int a2, .int a3] σ lg) ∧
  (∀ (σ : xM) (lg : Int64) (a1 a2 a3 : Int32), Inv σ lg → xCmdI X Inv 105 208 [.int a1, .int a2, .int a3] σ lg) ∧
  (∀ (σ : xM) (lg : Int64) (a1 a2 a3 a4 a5 : Int32), Inv σ lg → xCmdI X Inv 106 209 [.int a1, .int a2, .int a3, .int a4, .int a5] σ lg) ∧
  (∀ (σ : xM) (lg : Int64) (a1 : Int32), Inv σ lg → xCmdI X Inv 107 210 [.int a1] σ lg) ∧
  (∀ (σ : xM) (lg : Int64) (a1 : Int32), Inv σ lg → xCmdI X Inv 108 212 [.int a1] σ lg) ∧
  (∀ (σ : xM) (lg : Int64) (a1 : Int32), Inv σ lg → xCmdI X Inv 109 213 [.int a1] σ lg) ∧
  (∀ (σ : xM) (lg : Int64), Inv σ lg → xCmdI X Inv 110 214 [] σ lg) ∧
  (∀ (σ : xM) (lg : Int64), Inv σ lg → xCmdI X Inv 111 215 [] σ lg) ∧
  (∀ (σ : xM) (lg : Int64), Inv σ lg → xCmdI X Inv 112 216 [] σ lg) ∧
  (∀ (σ : xM) (lg : Int64) (a1 : Int32), Inv σ lg → xCmdI X Inv 113 217 [.int a1] σ lg) ∧
  (∀ (σ : xM) (lg : Int64) (a1 : Int32), Inv σ lg → xCmdI X Inv 114 218 [.int a1] σ lg)
theorem inr_ni {i n : Nat} (h : i < n) (hn : n < 2 ^ 31) : inr (nI i) n := by
  rw [inr, nI_toInt (by omega)]
  omega
set_option maxRecDepth 20000 in
set_option maxHeartbeats 4000000 in
theorem law_loop (R : xRules X J) {Inv : xM → Int64 → Prop} (hX : X.1 ≤ 3072) (hC : xCmds X Inv) : ∀ (n i : Nat) (σ : xM) (lg : Int64), i ≤ X.1 + 6 → X.1 + 6 - i < n → Inv σ lg → J σ (18, [(0, .ref 900), (1, .ref 0), (2, .ref 52), (3, .int (nI i))], [], SH0, [], lg) := by
  intro n
  induction n with
  | zero => intro i σ lg h1 h2; omega
  | succ n ih =>
    intro i σ lg h1 h2 hI
    obtain ⟨c0, c1, c2, c3, c4, c5, c6, c7, c8, c9, c10, c11, c12, c13, c14, c15, c16, c17, c18, c19, c20, c21, c22, c23, c24, c25, c26, c27, c28, c29, c30, c31, c32, c33, c34, c35, c36, c37, c38, c39, c40, c41, c42, c43, c44, c45, c46⟩ := hC
    refine r_sts R 6 (if (nI X.1 - 6) < nI i then 1424 else 27, [(0, .ref 900), (1, .ref 0), (2, .ref 52), (3, .int (nI i))], [], SH0, [], lg) rfl rfl ?_
    by_cases hlt : (nI X.1 - 6) < nI i
    · refine r_itt hlt ?_
      refine r_sts R 1 (1425, [(0, .ref 900), (1, .ref 0), (2, .ref 52), (3, .int (nI i))], [.int 1], SH0, [], lg) rfl rfl ?_
      exact R.2.2.2 _ _ _ _
    refine r_itf hlt ?_
    have hle : i + 6 ≤ X.1 := by
      rcases Nat.lt_or_ge X.1 (i + 6) with hh | hh
      · exfalso
        apply hlt
        rw [Int32.lt_iff_toInt_lt, nI_toInt (by omega)]
        by_cases h6 : 6 ≤ X.1
        · have e6 : (6 : Int32) = nI 6 := rfl
          rw [e6, pk_sub h6, nI_toInt (by omega)]
          omega
        · have hs : ∀ k : Nat, k < 6 → (nI k - 6).toInt < 0 := by decide +kernel
          have := hs X.1 (by omega)
          omega
      · exact hh
    have hadd : ∀ k : Nat, nI i + nI k = nI (i + k) := fun k => nI_add i k
    have h0 : inr (nI i) X.1 := inr_ni (by omega) (by omega)
    have h1 : inr (nI i + 1) X.1 := by have := hadd 1; rw [show (1 : Int32) = nI 1 from rfl, this]; exact inr_ni (by omega) (by omega)
    have h2 : inr (nI i + 2) X.1 := by have := hadd 2; rw [show (2 : Int32) = nI 2 from rfl, this]; exact inr_ni (by omega) (by omega)
    have h3 : inr (nI i + 3) X.1 := by have := hadd 3; rw [show (3 : Int32) = nI 3 from rfl, this]; exact inr_ni (by omega) (by omega)
    have h4 : inr (nI i + 4) X.1 := by have := hadd 4; rw [show (4 : Int32) = nI 4 from rfl, this]; exact inr_ni (by omega) (by omega)
    have h5 : inr (nI i + 5) X.1 := by have := hadd 5; rw [show (5 : Int32) = nI 5 from rfl, this]; exact inr_ni (by omega) (by omega)
    refine r_sts R 2 (29, [(0, .ref 900), (1, .ref 0), (2, .ref 52), (3, .int (nI i))], [.int (nI i), .ref 900], SH0, [], lg) rfl rfl ?_
    refine r_par R (p := inr (nI i) X.1) (30, [(0, .ref 900), (1, .ref 0), (2, .ref 52), (3, .int (nI i))], [.int (X.2 (nI i).toNatClampNeg)], SH0, [], lg) rfl h0 rfl ?_
    refine r_sts R 3 (if (X.2 (nI i).toNatClampNeg &&& 63) = 0 then 236 else if (X.2 (nI i).toNatClampNeg &&& 63) = 1 then 259 else if (X.2 (nI i).toNatClampNeg &&& 63) = 2 then 292 else if (X.2 (nI i).toNatClampNeg &&& 63) = 3 then 335 else if (X.2 (nI i).toNatClampNeg &&& 63) = 4 then 378 else if (X.2 (nI i).toNatClampNeg &&& 63) = 5 then 411 else if (X.2 (nI i).toNatClampNeg &&& 63) = 6 then 444 else if (X.2 (nI i).toNatClampNeg &&& 63) = 7 then 467 else if (X.2 (nI i).toNatClampNeg &&& 63) = 8 then 480 else if (X.2 (nI i).toNatClampNeg &&& 63) = 9 then 493 else if (X.2 (nI i).toNatClampNeg &&& 63) = 10 then 516 else if (X.2 (nI i).toNatClampNeg &&& 63) = 11 then 539 else if (X.2 (nI i).toNatClampNeg &&& 63) = 12 then 562 else if (X.2 (nI i).toNatClampNeg &&& 63) = 13 then 595 else if (X.2 (nI i).toNatClampNeg &&& 63) = 14 then 608 else if (X.2 (nI i).toNatClampNeg &&& 63) = 15 then 621 else if (X.2 (nI i).toNatClampNeg &&& 63) = 16 then 654 else if (X.2 (nI i).toNatClampNeg &&& 63) = 17 then 677 else if (X.2 (nI i).toNatClampNeg &&& 63) = 18 then 690 else if (X.2 (nI i).toNatClampNeg &&& 63) = 19 then 703 else if (X.2 (nI i).toNatClampNeg &&& 63) = 20 then 736 else if (X.2 (nI i).toNatClampNeg &&& 63) = 21 then 759 else if (X.2 (nI i).toNatClampNeg &&& 63) = 22 then 772 else if (X.2 (nI i).toNatClampNeg &&& 63) = 23 then 785 else if (X.2 (nI i).toNatClampNeg &&& 63) = 24 then 798 else if (X.2 (nI i).toNatClampNeg &&& 63) = 25 then 841 else if (X.2 (nI i).toNatClampNeg &&& 63) = 26 then 884 else if (X.2 (nI i).toNatClampNeg &&& 63) = 27 then 918 else if (X.2 (nI i).toNatClampNeg &&& 63) = 28 then 931 else if (X.2 (nI i).toNatClampNeg &&& 63) = 29 then 954 else if (X.2 (nI i).toNatClampNeg &&& 63) = 30 then 967 else if (X.2 (nI i).toNatClampNeg &&& 63) = 31 then 990 else if (X.2 (nI i).toNatClampNeg &&& 63) = 32 then 1023 else if (X.2 (nI i).toNatClampNeg &&& 63) = 33 then 1036 else if (X.2 (nI i).toNatClampNeg &&& 63) = 34 then 1049 else if (X.2 (nI i).toNatClampNeg &&& 63) = 35 then 1082 else if (X.2 (nI i).toNatClampNeg &&& 63) = 36 then 1115 else if (X.2 (nI i).toNatClampNeg &&& 63) = 37 then 1158 else if (X.2 (nI i).toNatClampNeg &&& 63) = 38 then 1201 else if (X.2 (nI i).toNatClampNeg &&& 63) = 39 then 1264 else if (X.2 (nI i).toNatClampNeg &&& 63) = 40 then 1287 else if (X.2 (nI i).toNatClampNeg &&& 63) = 41 then 1310 else if (X.2 (nI i).toNatClampNeg &&& 63) = 42 then 1333 else if (X.2 (nI i).toNatClampNeg &&& 63) = 43 then 1346 else if (X.2 (nI i).toNatClampNeg &&& 63) = 44 then 1359 else if (X.2 (nI i).toNatClampNeg &&& 63) = 45 then 1372 else if (X.2 (nI i).toNatClampNeg &&& 63) = 46 then 1395 else 1418, [(0, .ref 900), (1, .ref 0), (2, .ref 52), (3, .int (nI i))], [], SH0, [], lg) rfl rfl ?_
    have hnext : ∀ (o : xO) (lg' : Int64), Inv (xget o σ) lg' → J σ (1418, [(0, .ref 900), (1, .ref 0), (2, .ref 52), (3, .int (nI i))], [], SH0, o, lg') := by
      intro o lg' hI'
      refine r_sts R 2 (18, [(0, .ref 900), (1, .ref 0), (2, .ref 52), (3, .int (nI i + 6))], [], SH0, o, lg') rfl rfl ?_
      refine R.2.2.1 _ _ _ _ _ _ ?_
      rw [show nI i + 6 = nI (i + 6) from hadd 6]
      exact ih (i + 6) _ _ (by omega) (by omega) hI'
    by_cases hc0 : (X.2 (nI i).toNatClampNeg &&& 63) = 0
    · refine r_itt hc0 ?_
      exact law_0 R h1 (c0 σ lg _ hI) hnext
    refine r_itf hc0 ?_
    by_cases hc1 : (X.2 (nI i).toNatClampNeg &&& 63) = 1
    · refine r_itt hc1 ?_
      exact law_1 R h1 h2 (c1 σ lg _ _ hI) hnext
    refine r_itf hc1 ?_
    by_cases hc2 : (X.2 (nI i).toNatClampNeg &&& 63) = 2
    · refine r_itt hc2 ?_
      exact law_2 R h1 h2 h3 (c2 σ lg _ _ _ hI) hnext
    refine r_itf hc2 ?_
    by_cases hc3 : (X.2 (nI i).toNatClampNeg &&& 63) = 3
    · refine r_itt hc3 ?_
      exact law_3 R h1 h2 h3 (c3 σ lg _ _ _ hI) hnext
    refine r_itf hc3 ?_
    by_cases hc4 : (X.2 (nI i).toNatClampNeg &&& 63) = 4
    · refine r_itt hc4 ?_
      exact law_4 R h1 h2 (c4 σ lg _ _ hI) hnext
    refine r_itf hc4 ?_
    by_cases hc5 : (X.2 (nI i).toNatClampNeg &&& 63) = 5
    · refine r_itt hc5 ?_
      exact law_5 R h1 h2 (c5 σ lg _ _ hI) hnext
    refine r_itf hc5 ?_
    by_cases hc6 : (X.2 (nI i).toNatClampNeg &&& 63) = 6
    · refine r_itt hc6 ?_
      exact law_6 R h1 (c6 σ lg _ hI) hnext
    refine r_itf hc6 ?_
    by_cases hc7 : (X.2 (nI i).toNatClampNeg &&& 63) = 7
    · refine r_itt hc7 ?_
      exact law_7 R (c7 σ lg  hI) hnext
    refine r_itf hc7 ?_
    by_cases hc8 : (X.2 (nI i).toNatClampNeg &&& 63) = 8
    · refine r_itt hc8 ?_
      exact law_8 R (c8 σ lg  hI) hnext
    refine r_itf hc8 ?_
    by_cases hc9 : (X.2 (nI i).toNatClampNeg &&& 63) = 9
    · refine r_itt hc9 ?_
      exact law_9 R h1 (c9 σ lg _ hI) hnext
    refine r_itf hc9 ?_
    by_cases hc10 : (X.2 (nI i).toNatClampNeg &&& 63) = 10
    · refine r_itt hc10 ?_
      exact law_10 R h1 (c10 σ lg _ hI) hnext
    refine r_itf hc10 ?_
    by_cases hc11 : (X.2 (nI i).toNatClampNeg &&& 63) = 11
    · refine r_itt hc11 ?_
      exact law_11 R h1 (c11 σ lg _ hI) hnext
    refine r_itf hc11 ?_
    by_cases hc12 : (X.2 (nI i).toNatClampNeg &&& 63) = 12
    · refine r_itt hc12 ?_
      exact law_12 R h1 h2 (c12 σ lg _ _ hI) hnext
    refine r_itf hc12 ?_
    by_cases hc13 : (X.2 (nI i).toNatClampNeg &&& 63) = 13
    · refine r_itt hc13 ?_
      exact law_13 R (c13 σ lg  hI) hnext
    refine r_itf hc13 ?_
    by_cases hc14 : (X.2 (nI i).toNatClampNeg &&& 63) = 14
    · refine r_itt hc14 ?_
      exact law_14 R (c14 σ lg  hI) hnext
    refine r_itf hc14 ?_
    by_cases hc15 : (X.2 (nI i).toNatClampNeg &&& 63) = 15
    · refine r_itt hc15 ?_
      exact law_15 R h1 h2 (c15 σ lg _ _ hI) hnext
    refine r_itf hc15 ?_
    by_cases hc16 : (X.2 (nI i).toNatClampNeg &&& 63) = 16
    · refine r_itt hc16 ?_
      exact law_16 R h1 (c16 σ lg _ hI) hnext
    refine r_itf hc16 ?_
    by_cases hc17 : (X.2 (nI i).toNatClampNeg &&& 63) = 17
    · refine r_itt hc17 ?_
      exact law_17 R (c17 σ lg  hI) hnext
    refine r_itf hc17 ?_
    by_cases hc18 : (X.2 (nI i).toNatClampNeg &&& 63) = 18
    · refine r_itt hc18 ?_
      exact law_18 R (c18 σ lg  hI) hnext
    refine r_itf hc18 ?_
    by_cases hc19 : (X.2 (nI i).toNatClampNeg &&& 63) = 19
    · refine r_itt hc19 ?_
      exact law_19 R h1 h2 (c19 σ lg _ _ hI) hnext
    refine r_itf hc19 ?_
    by_cases hc20 : (X.2 (nI i).toNatClampNeg &&& 63) = 20
    · refine r_itt hc20 ?_
      exact law_20 R h1 (c20 σ lg _ hI) hnext
    refine r_itf hc20 ?_
    by_cases hc21 : (X.2 (nI i).toNatClampNeg &&& 63) = 21
    · refine r_itt hc21 ?_
      exact law_21 R (c21 σ lg  hI) hnext
    refine r_itf hc21 ?_
    by_cases hc22 : (X.2 (nI i).toNatClampNeg &&& 63) = 22
    · refine r_itt hc22 ?_
      exact law_22 R (c22 σ lg  hI) hnext
    refine r_itf hc22 ?_
    by_cases hc23 : (X.2 (nI i).toNatClampNeg &&& 63) = 23
    · refine r_itt hc23 ?_
      exact law_23 R (c23 σ lg  hI) hnext
    refine r_itf hc23 ?_
    by_cases hc24 : (X.2 (nI i).toNatClampNeg &&& 63) = 24
    · refine r_itt hc24 ?_
      exact law_24 R h1 h2 h3 (c24 σ lg _ _ _ hI) hnext
    refine r_itf hc24 ?_
    by_cases hc25 : (X.2 (nI i).toNatClampNeg &&& 63) = 25
    · refine r_itt hc25 ?_
      exact law_25 R h1 h2 h3 (c25 σ lg _ _ _ hI) hnext
    refine r_itf hc25 ?_
    by_cases hc26 : (X.2 (nI i).toNatClampNeg &&& 63) = 26
    · refine r_itt hc26 ?_
      exact law_26 R h1 h2 (c26 σ lg _ _ hI) hnext
    refine r_itf hc26 ?_
    by_cases hc27 : (X.2 (nI i).toNatClampNeg &&& 63) = 27
    · refine r_itt hc27 ?_
      exact law_27 R (c27 σ lg  hI) hnext
    refine r_itf hc27 ?_
    by_cases hc28 : (X.2 (nI i).toNatClampNeg &&& 63) = 28
    · refine r_itt hc28 ?_
      exact law_28 R h1 (c28 σ lg _ hI) hnext
    refine r_itf hc28 ?_
    by_cases hc29 : (X.2 (nI i).toNatClampNeg &&& 63) = 29
    · refine r_itt hc29 ?_
      exact law_29 R (c29 σ lg  hI) hnext
    refine r_itf hc29 ?_
    by_cases hc30 : (X.2 (nI i).toNatClampNeg &&& 63) = 30
    · refine r_itt hc30 ?_
      exact law_30 R h1 (c30 σ lg _ hI) hnext
    refine r_itf hc30 ?_
    by_cases hc31 : (X.2 (nI i).toNatClampNeg &&& 63) = 31
    · refine r_itt hc31 ?_
      exact law_31 R h1 h2 (c31 σ lg _ _ hI) hnext
    refine r_itf hc31 ?_
    by_cases hc32 : (X.2 (nI i).toNatClampNeg &&& 63) = 32
    · refine r_itt hc32 ?_
      exact law_32 R (c32 σ lg  hI) hnext
    refine r_itf hc32 ?_
    by_cases hc33 : (X.2 (nI i).toNatClampNeg &&& 63) = 33
    · refine r_itt hc33 ?_
      exact law_33 R (c33 σ lg  hI) hnext
    refine r_itf hc33 ?_
    by_cases hc34 : (X.2 (nI i).toNatClampNeg &&& 63) = 34
    · refine r_itt hc34 ?_
      exact law_34 R h1 h2 (c34 σ lg _ _ hI) hnext
    refine r_itf hc34 ?_
    by_cases hc35 : (X.2 (nI i).toNatClampNeg &&& 63) = 35
    · refine r_itt hc35 ?_
      exact law_35 R h1 h2 (c35 σ lg _ _ hI) hnext
    refine r_itf hc35 ?_
    by_cases hc36 : (X.2 (nI i).toNatClampNeg &&& 63) = 36
    · refine r_itt hc36 ?_
      exact law_36 R h1 h2 h3 (c36 σ lg _ _ _ hI) hnext
    refine r_itf hc36 ?_
    by_cases hc37 : (X.2 (nI i).toNatClampNeg &&& 63) = 37
    · refine r_itt hc37 ?_
      exact law_37 R h1 h2 h3 (c37 σ lg _ _ _ hI) hnext
    refine r_itf hc37 ?_
    by_cases hc38 : (X.2 (nI i).toNatClampNeg &&& 63) = 38
    · refine r_itt hc38 ?_
      exact law_38 R h1 h2 h3 h4 h5 (c38 σ lg _ _ _ _ _ hI) hnext
    refine r_itf hc38 ?_
    by_cases hc39 : (X.2 (nI i).toNatClampNeg &&& 63) = 39
    · refine r_itt hc39 ?_
      exact law_39 R h1 (c39 σ lg _ hI) hnext
    refine r_itf hc39 ?_
    by_cases hc40 : (X.2 (nI i).toNatClampNeg &&& 63) = 40
    · refine r_itt hc40 ?_
      exact law_40 R h1 (c40 σ lg _ hI) hnext
    refine r_itf hc40 ?_
    by_cases hc41 : (X.2 (nI i).toNatClampNeg &&& 63) = 41
    · refine r_itt hc41 ?_
      exact law_41 R h1 (c41 σ lg _ hI) hnext
    refine r_itf hc41 ?_
    by_cases hc42 : (X.2 (nI i).toNatClampNeg &&& 63) = 42
    · refine r_itt hc42 ?_
      exact law_42 R (c42 σ lg  hI) hnext
    refine r_itf hc42 ?_
    by_cases hc43 : (X.2 (nI i).toNatClampNeg &&& 63) = 43
    · refine r_itt hc43 ?_
      exact law_43 R (c43 σ lg  hI) hnext
    refine r_itf hc43 ?_
    by_cases hc44 : (X.2 (nI i).toNatClampNeg &&& 63) = 44
    · refine r_itt hc44 ?_
      exact law_44 R (c44 σ lg  hI) hnext
    refine r_itf hc44 ?_
    by_cases hc45 : (X.2 (nI i).toNatClampNeg &&& 63) = 45
    · refine r_itt hc45 ?_
      exact law_45 R h1 (c45 σ lg _ hI) hnext
    refine r_itf hc45 ?_
    by_cases hc46 : (X.2 (nI i).toNatClampNeg &&& 63) = 46
    · refine r_itt hc46 ?_
      exact law_46 R h1 (c46 σ lg _ hI) hnext
    refine r_itf hc46 ?_
    exact hnext _ _ hI
end LAW
