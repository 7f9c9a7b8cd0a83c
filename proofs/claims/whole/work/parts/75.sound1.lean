/-! SOUNDNESS 1: the worlds of the abstract machine, rows of instructions over them -/
def xR : Nat → String
  | 0 => RX0 | 1 => RX1 | 2 => RX2 | 3 => RX3 | 4 => RX4 | 5 => RX5 | 6 => RX6 | 7 => RL | 8 => RJ6 | 9 => RJ9 | 10 => RJ0 | 11 => RJ1 | _ => RJ3
/-- addresses: a0 the first cell of ours, b the script, aK and aV the texts and their bytes, tS the static arrays, fv what is no matter -/
abbrev xG : Type := Nat × Nat × va_G × ClassId × ClassId × (Nat → Nat) × (Nat → Nat) × (Nat → Nat) × Value
abbrev g_a (g : xG) : Nat := g.1
abbrev g_b (g : xG) : Nat := g.2.1
abbrev g_D (g : xG) : va_G := g.2.2.1
abbrev g_I (g : xG) : ClassId := g.2.2.2.1
abbrev g_C (g : xG) : ClassId := g.2.2.2.2.1
abbrev g_K (g : xG) : Nat → Nat := g.2.2.2.2.2.1
abbrev g_V (g : xG) : Nat → Nat := g.2.2.2.2.2.2.1
abbrev g_T (g : xG) : Nat → Nat := g.2.2.2.2.2.2.2.1
abbrev g_f (g : xG) : Value := g.2.2.2.2.2.2.2.2
abbrev g_A (g : xG) : Nat → Prop := fun q => g_a g ≤ q
def xcv (g : xG) : Value → Value
  | .ref q => if q ≤ 899 then .ref (g_a g + q) else if q = 900 then .ref (g_b g) else .ref (g_T g (q - 1000))
  | .retAddr w => .ref (g_K g (w % 16))
  | .float x => .ref (g_V g (x.toNat % 16))
  | .null => g_f g
  | v => v
abbrev LGC : Nat := XP.2.2.2.2.2.2.2.2
def xfv (g : xG) (σ : xM) (lg : Int64) (c : Nat) : Nat → Value
  | 0 => .int (σ c 0)
  | 1 => .long (if c = LGC then lg else 0)
  | 2 => .null
  | t + 3 => .ref (g_a g + t)
def xAt (g : xG) (σ : xM) (lg : Int64) (q : Nat) (x : xSh) (H : Heap) : Prop := match x with
  | .inl (ci, tags) => ∃ r : vw_C, vwCl[ci]? = some r ∧ r.2.2 = tags.length ∧ tags.length ≤ 90 ∧ t_OB (g_a g + q) ((g_D g).1 ci) r.2.2 ((g_D g).2 ci) H (fun k => xfv g σ lg (100 * q + k + 1) (tags.getD k 2))
  | .inr (ch, n) => H[g_a g + q]? = some (arrV (bif ch then g_C g else g_I g) n (fun j => .int (σ (100 * q) j)))
def xWd (g : xG) (sh : xS) (σ : xM) (lg : Int64) (H : Heap) : Prop := H.size = g_a g + sh.length ∧ ∀ q x, xnth sh q = some x → xAt g σ lg q x H
abbrev xKK (g : xG) (s : State) : Prop := va_K (g_D g) vwCl [(g_I g, .int), (g_C g, .char)] s
theorem xnth_get {α : Type} : ∀ (l : List α) (i : Nat), xnth l i = l[i]? := by
  intro l
  induction l with
  | nil => intro i; simp [xnth]
  | cons a l ih => intro i; cases i with
    | zero => simp [xnth]
    | succ i => simp [xnth, ih]
theorem xnth_lt {α : Type} {l : List α} {i : Nat} {a : α} (h : xnth l i = some a) : i < l.length := by
  rw [xnth_get] at h
  exact (List.getElem?_eq_some_iff.mp h).1
theorem xnth_set {α : Type} {l : List α} {i j : Nat} {a : α} : xnth (l.set i a) j = if i = j then (if i < l.length then some a else none) else xnth l j := by
  rw [xnth_get, xnth_get, List.getElem?_set]
theorem xfind_mem {α : Type} : ∀ {l : List (Nat × α)} {i : Nat} {a : α}, xfind l i = some a → (i, a) ∈ l := by
  intro l
  induction l with
  | nil => intro i a h; simp [xfind] at h
  | cons e l ih =>
    obtain ⟨j, b⟩ := e
    intro i a h
    rw [xfind] at h
    cases hb : Nat.beq j i with
    | true =>
      rw [hb] at h
      simp only [cond_true, Option.some.injEq] at h
      rw [Nat.eq_of_beq_eq_true hb, h]
      exact List.mem_cons_self
    | false =>
      rw [hb] at h
      exact List.mem_cons_of_mem _ (ih h)
theorem xq_f {c d : Nat} (h : ¬ c = d) : Nat.beq c d = false := Bool.eq_false_iff.mpr (fun z => h (Nat.eq_of_beq_eq_true z))
theorem xq_t (c : Nat) : Nat.beq c c = true := Nat.beq_refl c
/-- memories that tell the same -/
def xEq (f g : xM) : Prop := (∀ c, c % 100 = 0 → f c = g c) ∧ ∀ c, f c 0 = g c 0
theorem xEq.rf (f : xM) : xEq f f := ⟨fun _ _ => rfl, fun _ => rfl⟩
theorem xEq.tr {f g h : xM} (a : xEq f g) (b : xEq g h) : xEq f h := ⟨fun c hc => (a.1 c hc).trans (b.1 c hc), fun c => (a.2 c).trans (b.2 c)⟩
theorem xfv_eq {g : xG} {f f' : xM} (h : xEq f f') {lg : Int64} {c t : Nat} : xfv g f lg c t = xfv g f' lg c t := by
  unfold xfv
  split <;> simp [h.2 c]
theorem xWd_eq {g : xG} {sh : xS} {f f' : xM} {lg : Int64} {H : Heap} (h : xEq f f') (hw : xWd g sh f lg H) : xWd g sh f' lg H := by
  refine ⟨hw.1, fun q x hx => ?_⟩
  have h1 := hw.2 q x hx
  cases x with
  | inl o =>
    obtain ⟨ci, tags⟩ := o
    obtain ⟨r, r1, r2, r3, r4⟩ := h1
    exact ⟨r, r1, r2, r3, r4.to (fun k _ => xfv_eq h)⟩
  | inr o =>
    obtain ⟨ch, n⟩ := o
    simp only [xAt] at h1 ⊢
    rw [← h.1 (100 * q) (by omega)]
    exact h1
theorem xget_set (o : xO) (σ : xM) (c : Nat) (f : Nat → Int32) : ∀ d, xget (xset o c f) σ d = if c = d then f else xget o σ d := by
  intro d
  induction o with
  | nil =>
    simp only [xset, xget]
    by_cases h : c = d
    · subst h; rw [xq_t c, if_pos rfl]; rfl
    · have : Nat.beq c d = false := xq_f h
      rw [this, if_neg h]; rfl
  | cons e o ih =>
    obtain ⟨j, g⟩ := e
    rw [xset]
    by_cases hj : j = c
    · subst hj
      rw [xq_t j]
      simp only [cond_true, xget]
      by_cases h : j = d
      · subst h; rw [xq_t j, if_pos rfl]; rfl
      · have : Nat.beq j d = false := xq_f h
        rw [this, if_neg h]; rfl
    · have hb : Nat.beq j c = false := xq_f hj
      rw [hb]
      simp only [cond_false]
      cases hl : Nat.ble j c with
      | true =>
        simp only [cond_true, xget]
        rw [ih]
        by_cases h : c = d
        · subst h
          simp [hb]
        · rw [if_neg h, if_neg h]
      | false =>
        simp only [cond_false, xget]
        by_cases h : c = d
        · subst h; rw [xq_t c, if_pos rfl]; rfl
        · have : Nat.beq c d = false := xq_f h
          rw [this, if_neg h, cond_false]
theorem xget_mrg (o : xO) (σ : xM) : ∀ l : xO, xget (xmrg o l) σ = xget l (xget o σ) := by
  intro l
  induction l with
  | nil => rfl
  | cons e l ih =>
    obtain ⟨c, f⟩ := e
    funext d
    rw [xmrg, xget_set, xget, ih]
    by_cases h : c = d
    · subst h; rw [xq_t c, if_pos rfl]; rfl
    · have : Nat.beq c d = false := xq_f h
      rw [this, if_neg h]; rfl
theorem xdf_eq (c : Nat) (f : Nat → Int32) : (c % 100 = 0 → xdf c f = f) ∧ xdf c f 0 = f 0 := by
  unfold xdf
  cases h : Nat.beq (c % 100) 0 with
  | true => exact ⟨fun _ => rfl, rfl⟩
  | false => exact ⟨fun hc => (by rw [hc] at h; cases h), rfl⟩
theorem xaddI_eq {K : xO → xO} {σ : xM} (hK : ∀ o, xEq (xget (K o) σ) (xget o σ)) (c : Nat) : ∀ o, xEq (xget (xaddI K σ c o) σ) (xget o σ) := by
  have ins : ∀ o : xO, xEq (xget ((c, xdf c (xget o σ c)) :: K o) σ) (xget o σ) := by
    intro o
    refine ⟨fun d hd => ?_, fun d => ?_⟩
    · rw [xget]
      by_cases h : c = d
      · subst h; rw [xq_t c]; exact (xdf_eq c _).1 hd
      · rw [xq_f h]; exact (hK o).1 d hd
    · rw [xget]
      by_cases h : c = d
      · subst h; rw [xq_t c]; exact (xdf_eq c _).2
      · rw [xq_f h]; exact (hK o).2 d
  intro o
  induction o with
  | nil => exact ins []
  | cons e o ih =>
    obtain ⟨j, f⟩ := e
    rw [xaddI]
    cases h1 : Nat.beq j c with
    | true =>
      refine ⟨fun d hd => ?_, fun d => ?_⟩
      · rw [cond_true, xget, xget]
        cases Nat.beq j d
        · exact (hK o).1 d hd
        · rfl
      · rw [cond_true, xget, xget]
        cases Nat.beq j d
        · exact (hK o).2 d
        · rfl
    | false =>
      rw [cond_false]
      cases h2 : Nat.ble j c with
      | true =>
        refine ⟨fun d hd => ?_, fun d => ?_⟩
        · rw [cond_true, xget, xget]
          cases Nat.beq j d
          · exact ih.1 d hd
          · rfl
        · rw [cond_true, xget, xget]
          cases Nat.beq j d
          · exact ih.2 d
          · rfl
      | false => exact ins ((j, f) :: o)
theorem xadd_eq (σ : xM) : ∀ (cs : List Nat) (o : xO), xEq (xget (xadd σ cs o) σ) (xget o σ) := by
  intro cs
  induction cs with
  | nil => intro o; exact xEq.rf _
  | cons c cs ih => intro o; exact xaddI_eq ih c o
theorem xaddr_eq (σ : xM) (lv : xL) : ∀ (rs : List Nat) (o : xO), xEq (xget (xaddr σ lv rs o) σ) (xget o σ) := by
  intro rs
  induction rs with
  | nil => intro o; exact xEq.rf _
  | cons j rs ih =>
    intro o
    rw [xaddr]
    split
    · exact (ih _).tr (xadd_eq σ _ o)
    · exact ih o
/-- writing a cell -/
theorem xWd_arr {g : xG} {sh : xS} {o : xO} {σ : xM} {lg : Int64} {H H1 : Heap} {q n : Nat} {ch : Bool} {f : Nat → Int32} (hw : xWd g sh (xget o σ) lg H) (hq : xnth sh q = some (.inr (ch, n)))
    (h1 : H1[g_a g + q]? = some (arrV (bif ch then g_C g else g_I g) n (fun j => .int (f j)))) (hz : H1.size = H.size) (ho : ∀ a, a ≠ g_a g + q → H1[a]? = H[a]?) : xWd g sh (xget (xset o (100 * q) f) σ) lg H1 := by
  refine ⟨hz.trans hw.1, fun q' x hx => ?_⟩
  have h2 := hw.2 q' x hx
  cases x with
  | inl p =>
    obtain ⟨ci, tags⟩ := p
    obtain ⟨r, r1, r2, r3, r4⟩ := h2
    have hne : q' ≠ q := by rintro rfl; rw [hq] at hx; cases hx
    refine ⟨r, r1, r2, r3, (r4.kept (ho _ (by omega))).to (fun k hk => ?_)⟩
    unfold xfv
    split
    · rw [xget_set, if_neg (by omega)]
    · rfl
    · rfl
    · rfl
  | inr p =>
    obtain ⟨ch', n'⟩ := p
    simp only [xAt] at h2 ⊢
    rw [xget_set]
    by_cases h : q' = q
    · subst h
      rw [hq] at hx
      cases hx
      rw [if_pos rfl]
      exact h1
    · rw [if_neg (by omega), ho _ (by omega)]
      exact h2
theorem xWd_fld {g : xG} {sh sh' : xS} {o : xO} {σ σ' : xM} {lg lg' : Int64} {H H1 : Heap} {q ci k : Nat} {tags tags' : List Nat} {v : Value} (hw : xWd g sh σ lg H) (hq : xnth sh q = some (.inl (ci, tags))) (hk : k < tags.length)
    (hsh : sh' = sh.set q (.inl (ci, tags'))) (htl : tags'.length = tags.length) (htj : ∀ j, j ≠ k → tags'.getD j 2 = tags.getD j 2)
    (hself : xfv g σ' lg' (100 * q + k + 1) (tags'.getD k 2) = v) (hoth : ∀ c t, c ≠ 100 * q + k + 1 → xfv g σ' lg' c t = xfv g σ lg c t) (harr : ∀ c, c % 100 = 0 → σ' c = σ c)
    (h1 : ∃ r : vw_C, vwCl[ci]? = some r ∧ r.2.2 = tags.length ∧ t_OB (g_a g + q) ((g_D g).1 ci) r.2.2 ((g_D g).2 ci) H1 (updV (fun k => xfv g σ lg (100 * q + k + 1) (tags.getD k 2)) k v)) (hz : H1.size = H.size) (ho : ∀ a, a ≠ g_a g + q → H1[a]? = H[a]?) : xWd g sh' σ' lg' H1 := by
  subst hsh
  have hql := xnth_lt hq
  have h90 : tags.length ≤ 90 := (hw.2 q _ hq).choose_spec.2.2.1
  refine ⟨by rw [List.length_set]; exact hz.trans hw.1, fun q' x hx => ?_⟩
  rw [xnth_set] at hx
  by_cases h : q = q'
  · subst h
    rw [if_pos rfl, if_pos hql] at hx
    cases hx
    obtain ⟨r, r1, r2, r4⟩ := h1
    refine ⟨r, r1, r2.trans htl.symm, by omega, r4.to (fun j hj => ?_)⟩
    unfold updV
    by_cases hjk : j = k
    · subst hjk
      rw [if_pos rfl, hself]
    · rw [if_neg hjk, hoth _ _ (by omega), htj j hjk]
  · rw [if_neg h] at hx
    have h2 := hw.2 q' x hx
    cases x with
    | inl p =>
      obtain ⟨ci', tg⟩ := p
      obtain ⟨r, r1, r2, r3, r4⟩ := h2
      refine ⟨r, r1, r2, r3, (r4.kept (ho _ (by omega))).to (fun j hj => ?_)⟩
      rw [hoth]
      omega
    | inr p =>
      obtain ⟨ch', n'⟩ := p
      simp only [xAt] at h2 ⊢
      rw [harr _ (by omega), ho _ (by omega)]
      exact h2
