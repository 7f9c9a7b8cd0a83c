/-! SOUNDNESS 2: rows of the heap -/
def xTy : Nat → FieldType
  | 0 => .int
  | 1 => .char
  | _ => .byte
def xLd : Nat → Instr
  | 0 => .iaload
  | 1 => .caload
  | _ => .baload
def xAr (s : State) (H : Heap) (a kd n : Nat) (f : Nat → Int32) : Prop := ∃ cell : Cell, H[a]? = some cell ∧ s.isArrayOf cell (xTy kd) ∧ cell.vm ≠ .unknown ∧ n ≤ cell.slots.size ∧ cell.slots.size.toInt32 = nI n ∧ ∀ j, j < n → cell.slots[j]? = some (.int (f j))
def xlens : List Nat := xstrs.map (fun l => l.length)
def xsix : List Nat := [135, 137, 139, 141, 143, 145, 147, 149, 151, 153, 155, 157, 159, 161, 163, 164]
def xstx : List String := ["bow", "rowed", "rising", "falling", "last", "shielded", "child", "tires", "silent", "gain", "loss", "train", "contract", "love", "seconds", "ahead"]
def xNWm : List Cond := [.methodLinkNest RX5 15 yX2_init RX5, .methodLinkNest RX5 28 yX1_init RX5, .methodLinkNest RX5 35 yX4_init RX5, .methodLinkNest RX5 42 yX3_init RX5, .methodLinkNest RX2 64 yX5_isIn RX5, .methodLinkNest RX3 21 yX5_isIn RX5, .methodLinkNest RX4 51 yX5_isIn RX5]
def xNWf : Cond := .fieldLinkNest RX4 90 RX5 "MOST_OF_RULE" "[I" RX5
/-- what stands outside and stays -/
def xST (g : xG) (X : xX) (s : State) (H : Heap) : Prop :=
  (va_Z RX5 "MOST_OF_RULE" "[I" (.ref (g_T g 0)) (g_A g) s H ∧ va_T .int (g_T g 0) 5 (fun j => .int ((xstats.getD 0 []).getD j 0)) (g_A g) s H) ∧
  (va_Z RX0 "ABOVE" "[I" (.ref (g_T g 1)) (g_A g) s H ∧ va_T .int (g_T g 1) 7 (fun j => .int ((xstats.getD 1 []).getD j 0)) (g_A g) s H) ∧
  (va_Z RJ0 "COMPACT_STRINGS" "Z" (.int 1) (g_A g) s H ∧ va_Z RJ3 "SIOOBE_FORMATTER" "Ljava/util/function/BiFunction;" (g_f g) (g_A g) s H ∧ (g_f g = .null ∨ ∃ a, g_f g = .ref a)) ∧
  (vk_S 16 xlens xstrs (g_K g) (g_V g) (g_A g) s H ∧ ∀ i, i < 16 → vk_R RX4 (xsix.getD i 0) (xstx.getD i "") (g_K g i) s) ∧
  ((∀ w ∈ xNWm, va_Nw w s) ∧ va_Nw xNWf s) ∧
  (va_X (g_b g) X.1 X.2 s H ∧ g_b g < g_a g ∧ X.1 ≤ 3072)
theorem xST_move {g : xG} {X : xX} {s U : State} {H1 : Heap} (h : xST g X s s.heap) (hs : g_a g ≤ s.heap.size) (hW : s.WarmedH U.vm) (hk : ∀ q : Nat, q < s.heap.size → ¬ g_A g q → H1[q]? = s.heap[q]?) : xST g X U H1 := by
  obtain ⟨⟨a1, a2⟩, ⟨b1, b2⟩, ⟨c1, c2, c3⟩, ⟨d1, d2⟩, ⟨e1, e2⟩, f1, f2, f3⟩ := h
  have hv := hW.alike
  refine ⟨⟨(a1.moved hv).kept hk, (a2.moved hv).kept hk⟩, ⟨(b1.moved hv).kept hk, (b2.moved hv).kept hk⟩, ⟨(c1.moved hv).kept hk, (c2.moved hv).kept hk, c3⟩, ⟨(d1.moved hv).kept hk, fun i hi => (d2 i hi).warm hW⟩, ⟨fun w hw => ?_, e2.warmF hW⟩, (f1.moved hv).kept (hk _ (by omega) (by show ¬ g_a g ≤ g_b g; omega)), f2, f3⟩
  have h1 := e1 w hw
  simp only [xNWm, List.mem_cons, List.not_mem_nil, or_false] at hw
  rcases hw with rfl | rfl | rfl | rfl | rfl | rfl | rfl <;> exact h1.warmM hW
section S2
variable {p : Program} {l : Launch} {e : Env} {R : Room} {s : State} {m : MethodId} {args : Array Value} {below : List Frame} {meth : Method} {c : Code} {H : Heap} {locs : List Loc} {cells slots : Nat} {Q : State → Prop}
variable {cc : ByteArray} {pc : Nat} {ls : Array Slot} {rest : List Value} {g : xG} {sh : xS} {σ : xM} {o : xO} {lg : Int64} {H0 : Heap} {X : xX} {q n kd : Nat} {f : Nat → Int32} {Ts : List Cond}
theorem x_ald (hx : p.tables.exec = Jvm.exec) (hb : c.code = cc) {a : Nat} (h : xAr s H a kd n f) {i : Int32} (hi : inr i n) (hdg : decode cc pc = .ok (xLd kd, 1))
    (kk : W p l e R s m args below meth c H locs cells slots Q (F0 m (pc + 1) ls (.int (f i.toNatClampNeg) :: rest))) : W p l e R s m args below meth c H locs cells slots Q (F0 m pc ls (.int i :: .ref a :: rest)) := by
  obtain ⟨cell, h1, h2, h3, h4, -, h6⟩ := h
  have hn : i.toNatClampNeg < n := by
    show i.toInt.toNat < n
    have := hi.1
    have := hi.2
    omega
  have hb2 : ¬ (i < 0 ∨ cell.slots.size ≤ i.toNatClampNeg) := by
    rintro (h | h)
    · have := Int32.lt_iff_toInt_lt.mp h
      have h0 : (0 : Int32).toInt = 0 := rfl
      have := hi.1
      omega
    · omega
  rcases kd with _ | _ | k
  · exact W.iald hx hb h1 h2 h3 hb2 (h6 _ hn) rfl rfl hdg kk
  · exact W.cald hx hb h1 h2 h3 hb2 (h6 _ hn) rfl rfl hdg kk
  · exact W.bald hx hb h1 h2 h3 hb2 (h6 _ hn) rfl rfl hdg kk
theorem x_alen (hx : p.tables.exec = Jvm.exec) (hb : c.code = cc) {a : Nat} (h : xAr s H a kd n f) (hdg : decode cc pc = .ok (.arraylength, 1))
    (kk : W p l e R s m args below meth c H locs cells slots Q (F0 m (pc + 1) ls (.int (nI n) :: rest))) : W p l e R s m args below meth c H locs cells slots Q (F0 m pc ls (.ref a :: rest)) := by
  obtain ⟨cell, h1, h2, -, -, h5, -⟩ := h
  exact W.alen hx hb h1 h2 h5 rfl rfl hdg kk
theorem x_world_arr (hK : xKK g s) (hw : xWd g sh σ lg H) {ch : Bool} (hq : xnth sh q = some (.inr (ch, n))) : xAr s H (g_a g + q) (bif ch then 1 else 0) n (σ (100 * q)) := by
  have h1 := hw.2 q _ hq
  simp only [xAt] at h1
  refine ⟨_, h1, ?_, fun h => (by cases h), (by rw [arrV_size]; exact Nat.le_refl _), (by rw [arrV_size]; rfl), fun j hj => arrV_read _ _ hj⟩
  cases ch with
  | false => exact (hK.2 0 _ rfl).1 n _
  | true => exact (hK.2 1 _ rfl).1 n _
theorem x_T {ty t N : Nat} {f : Nat → Int32} (hs : g_a g ≤ s.heap.size) (h : va_T (xTy ty) t N (fun j => .int (f j)) (g_A g) s s.heap) (hS : va_S (g_A g) s.heap H locs) : xAr s H t ty N f := by
  obtain ⟨cell, h1, h2, h3, h4, h5, h6, h7⟩ := h.kept hS.2.1
  exact ⟨cell, h1, h2, h3, h4, h5, h6⟩
theorem x_arr (hs : g_a g ≤ s.heap.size) (hK : xKK g s) (hT : xST g X s s.heap) (hS : va_S (g_A g) s.heap H locs) (hw : xWd g sh (xget o σ) lg H) {v : Value} (h : xarr XP X σ sh o v = some (kd, n, f)) : ∃ a, xcv g v = .ref a ∧ xAr s H a kd n f := by
  obtain ⟨⟨-, a2⟩, ⟨-, b2⟩, -, ⟨d1, -⟩, -, f1, f2, f3⟩ := hT
  unfold xarr at h
  split at h
  · rename_i q
    cases h1 : Nat.ble q 899 with
    | true =>
      rw [h1, cond_true] at h
      have hq : q ≤ 899 := Nat.le_of_ble_eq_true h1
      split at h
      · rename_i ch n' hx
        simp only [Option.some.injEq, Prod.mk.injEq] at h
        obtain ⟨rfl, rfl, rfl⟩ := h
        exact ⟨_, by rw [xcv, if_pos hq], x_world_arr hK hw hx⟩
      · cases h
    | false =>
      rw [h1, cond_false] at h
      have hq : ¬ q ≤ 899 := fun z => by rw [Nat.ble_eq_true_of_le z] at h1; cases h1
      cases h2 : Nat.beq q 900 with
      | true =>
        rw [h2, cond_true] at h
        have hq2 : q = 900 := Nat.eq_of_beq_eq_true h2
        simp only [Option.some.injEq, Prod.mk.injEq] at h
        obtain ⟨rfl, rfl, rfl⟩ := h
        refine ⟨g_b g, by rw [xcv, if_neg hq, if_pos hq2], ?_⟩
        obtain ⟨scr, g1, g2, g3, g4, g5⟩ := f1
        refine ⟨scr, by rw [hS.2.1 _ (by omega) (by show ¬ g_a g ≤ g_b g; omega)]; exact g1, g2, g3, by omega, by rw [g4]; rfl, g5⟩
      | false =>
        rw [h2, cond_false] at h
        have hq2 : ¬ q = 900 := fun z => by rw [z] at h2; cases h2
        split at h
        · rename_i l' hl
          simp only [Option.some.injEq, Prod.mk.injEq] at h
          obtain ⟨rfl, rfl, rfl⟩ := h
          refine ⟨g_T g (q - 1000), by rw [xcv, if_neg hq, if_neg hq2], ?_⟩
          have hl2 : q - 1000 < 2 := xnth_lt hl
          rcases (show ∀ k : Nat, k < 2 → k = 0 ∨ k = 1 by omega) _ hl2 with h0 | h0
          · rw [h0] at hl ⊢
            have e : l' = xstats.getD 0 [] := (Option.some.inj hl).symm
            rw [e]
            exact x_T (ty := 0) (f := fun j => (xstats.getD 0 []).getD j 0) hs a2 hS
          · rw [h0] at hl ⊢
            have e : l' = xstats.getD 1 [] := (Option.some.inj hl).symm
            rw [e]
            exact x_T (ty := 0) (f := fun j => (xstats.getD 1 []).getD j 0) hs b2 hS
        · cases h
  · rename_i b
    simp only [Option.some.injEq, Prod.mk.injEq] at h
    obtain ⟨rfl, rfl, rfl⟩ := h
    refine ⟨g_V g (b.toNat % 16), rfl, ?_⟩
    have h16 : XP.2.2.2.2.2.2.2.1.length = 16 := rfl
    rw [h16]
    have hlt : b.toNat % 16 < 16 := Nat.mod_lt _ (by decide)
    have h1 := (d1.1 _ hlt).2.2.2
    have e : xlens.getD (b.toNat % 16) 0 = (xstrs.getD (b.toNat % 16) []).length := by
      generalize b.toNat % 16 = k at hlt ⊢
      have : ∀ k, k < 16 → xlens.getD k 0 = (xstrs.getD k []).length := by decide +kernel
      exact this k hlt
    rw [e] at h1
    exact x_T (ty := 2) (f := fun j => (xstrs.getD (b.toNat % 16) []).getD j 0) hs h1 hS
  · cases h
theorem x_ast (hx : p.tables.exec = Jvm.exec) (hb : c.code = cc) (hK : xKK g s) (hw : xWd g sh (xget o σ) lg H) (hH0 : g_a g ≤ H0.size) (hS : va_S (g_A g) H0 H locs) {ch : Bool} (hq : xnth sh q = some (.inr (ch, n))) {i x : Int32} (hi : inr i n) (hdg : decode cc pc = .ok (bif ch then .castore else .iastore, 1))
    (kk : ∀ (H1 : Heap) (locs1 : List Loc), xWd g sh (xget (xset o (100 * q) (upd (xget o σ (100 * q)) i.toNatClampNeg (xnar (bif ch then 1 else 0) x))) σ) lg H1 → va_S (g_A g) H0 H1 locs1 → W p l e R s m args below meth c H1 locs1 cells slots Q (F0 m (pc + 1) ls rest)) : W p l e R s m args below meth c H locs cells slots Q (F0 m pc ls (.int x :: .int i :: .ref (g_a g + q) :: rest)) := by
  have h1 := hw.2 q _ hq
  simp only [xAt] at h1
  have hbnd : ∀ cI : ClassId, ∀ z : Nat → Value, ¬ (i < 0 ∨ (arrV cI n z).slots.size ≤ i.toNatClampNeg) := by
    intro cI z
    rw [arrV_size]
    rintro (h | h)
    · have := Int32.lt_iff_toInt_lt.mp h
      have h0 : (0 : Int32).toInt = 0 := rfl
      have := hi.1
      omega
    · have h2 : n ≤ i.toInt.toNat := h
      have := hi.1
      have := hi.2
      omega
  have fin : ∀ (v : Int32) (cI : ClassId) (H1 : Heap), H1[g_a g + q]? = some ((arrV cI n (fun j => .int (xget o σ (100 * q) j))).setSlot i.toNatClampNeg (.int v)) → H1[g_a g + q]? = some (arrV cI n (fun j => .int (upd (xget o σ (100 * q)) i.toNatClampNeg v j))) := by
    intro v cI H1 h
    rw [h, arrV_store]
    congr 2
    funext j
    by_cases hj : j = i.toNatClampNeg <;> simp [updV, upd, hj]
  cases ch with
  | false =>
    refine W.iast hx hb h1 ((hK.2 0 _ rfl).1 n _) (fun q => by cases q) (hbnd _ _) rfl rfl hdg fun H1 e z oq => ?_
    refine kk H1 _ (xWd_arr (f := upd (xget o σ (100 * q)) i.toNatClampNeg x) hw hq (fin x _ H1 e) z oq) (hS.put z oq (by show g_a g ≤ g_a g + q; omega))
  | true =>
    refine W.cast hx hb h1 ((hK.2 1 _ rfl).1 n _) (fun q => by cases q) (hbnd _ _) rfl rfl hdg fun H1 e z oq => ?_
    refine kk H1 _ (xWd_arr (f := upd (xget o σ (100 * q)) i.toNatClampNeg (vp_nar .char x)) hw hq (fin _ _ H1 e) z oq) (hS.put z oq (by show g_a g ≤ g_a g + q; omega))
theorem x_get (hx : p.tables.exec = Jvm.exec) (hb : c.code = cc) (hts : ∀ w ∈ Ts, w.before args s = true) {own C : String} {T : u_T} {N ci k index : Nat} {tags : List Nat} (hown : s.vm.findClass own = some m.cls) (hK : xKK g s) (hw : xWd g sh σ lg H) (hq : xnth sh q = some (.inl (ci, tags))) (hc : vwCl[ci]? = some (C, T, N)) (hin : ∀ w ∈ u_ws C T N, w ∈ Ts) (hk : k < N)
    (hlink : (Cond.fieldLink own index (T k).1 (T k).2.1 (T k).2.2.1).before args s = true) (hdg : decode cc pc = .ok (.getfield index, 3))
    (kk : W p l e R s m args below meth c H locs cells slots Q (F0 m (pc + 3) ls (xfv g σ lg (100 * q + k + 1) (tags.getD k 2) :: rest))) : W p l e R s m args below meth c H locs cells slots Q (F0 m pc ls (.ref (g_a g + q) :: rest)) := by
  obtain ⟨r, h1, r2, r3, cell, q1, q2, q3, q4⟩ := hw.2 q _ hq
  have hr : r = (C, T, N) := Option.some.inj (h1.symm.trans hc)
  subst hr
  obtain ⟨hS, hfc, kC, hkC, hkind⟩ := hK.1 ci _ hc
  obtain ⟨cf, kf, fi, fd, hi, hsl⟩ := hS k hk
  refine W.getf hx hb hown hlink hi (u_facts hfc hkC (u_lays hts hin hk) hi).1 q1 (by rw [q3]; exact fun h => by cases h) ?_ rfl rfl hdg kk
  rw [hsl, q4 k hk]
theorem x_put (hx : p.tables.exec = Jvm.exec) (hb : c.code = cc) (hts : ∀ w ∈ Ts, w.before args s = true) {own C : String} {T : u_T} {N ci k index : Nat} {tags : List Nat} (ty0 : Nat → FieldType) (hty : ∀ k, k < N → parseFieldDescriptor (T k).2.2.1 = some (ty0 k)) (hnm : ∀ a, a < N → ∀ b, b < N → a ≠ b → (T a).2.1 ≠ (T b).2.1) (hown : s.vm.findClass own = some m.cls) (hK : xKK g s) (hw : xWd g sh σ lg H) (hS0 : va_S (g_A g) H0 H locs) (hq : xnth sh q = some (.inl (ci, tags))) (hc : vwCl[ci]? = some (C, T, N)) (hin : ∀ w ∈ u_ws C T N, w ∈ Ts) (hk : k < N)
    (hlink : (Cond.fieldLink own index (T k).1 (T k).2.1 (T k).2.2.1).before args s = true) {ty : FieldType} {v : Value} (hd : parseFieldDescriptor (T k).2.2.1 = some ty) (hn : narrow ty v = v) (hfit : fits ty v = true) (hfin : (T k).2.2.2 = false ∨ ((T k).2.2.2 = true ∧ meth.name = "<init>" ∧ (T k).1 = own)) (hdg : decode cc pc = .ok (.putfield index, 3))
    (kk : ∀ (H1 : Heap) (locs1 : List Loc), (∃ r : vw_C, vwCl[ci]? = some r ∧ r.2.2 = tags.length ∧ t_OB (g_a g + q) ((g_D g).1 ci) r.2.2 ((g_D g).2 ci) H1 (updV (fun k => xfv g σ lg (100 * q + k + 1) (tags.getD k 2)) k v)) → H1.size = H.size → (∀ a, a ≠ g_a g + q → H1[a]? = H[a]?) → va_S (g_A g) H0 H1 locs1 → W p l e R s m args below meth c H1 locs1 cells slots Q (F0 m (pc + 3) ls rest)) : W p l e R s m args below meth c H locs cells slots Q (F0 m pc ls (v :: .ref (g_a g + q) :: rest)) := by
  have hap := va_apart (own := own) hts hin ty0 hty hnm hK hc
  obtain ⟨r, h1, r2, r3, cell, q1, q2, q3, q4⟩ := hw.2 q _ hq
  have hr : r = (C, T, N) := Option.some.inj (h1.symm.trans hc)
  subst hr
  obtain ⟨hS, hfc, kC, hkC, hkind⟩ := hK.1 ci _ hc
  obtain ⟨cf, kf, fi, fd, hi, hsl⟩ := hS k hk
  have hst := (u_facts hfc hkC (u_lays hts hin hk) hi).1
  have hAq : g_A g (g_a g + q) := by show g_a g ≤ g_a g + q; omega
  have hlay := hts _ (hin _ (u_in_lay hk))
  unfold u_lay at hlay
  rcases hfin with hfin | ⟨hfin, hin2, hdecl⟩
  · rw [if_neg (by rw [hfin]; decide)] at hlay
    have h6 := u_store hfc hkC hkind hlay hi hd hn hfit
    refine W.putK hx hb (f := fd) ⟨hown, hlink, ⟨_, _, _, hi⟩, hst⟩ (by rw [q2]; exact h6) q1 q3 (by rw [hsl]; exact k2_hasslot (q4 k hk)) rfl rfl hdg fun H' e1 e2 e3 => ?_
    rw [hsl] at e1 ⊢
    exact kk H' _ ⟨_, hc, r2, _, e1, q2, q3, t_set q4 hap hk v⟩ e2 e3 (hS0.put e2 e3 hAq)
  · rw [if_pos hfin] at hlay
    have hcf : m.cls = cf := by
      obtain ⟨_, _, c', _, _, _, -, -, hf', -, -, -, hown2, -⟩ := Cond.laysFinal_spec hlay
      have e1 : c' = cf := by have := hi.symm.trans hf'; simp at this; exact this.1.symm
      rw [hdecl] at hown2
      rw [← e1]; exact Option.some.inj (hown.symm.trans hown2)
    have h6 := u_fits hfc hkC hkind (Or.inr hlay) hi hd hn hfit
    refine W.putFinK hx hb hown hlink hi hst hcf hin2 (by rw [q2]; exact h6) q1 q3 (by rw [hsl]; exact k2_hasslot (q4 k hk)) rfl rfl hdg fun H' e1 e2 e3 => ?_
    rw [hsl] at e1 ⊢
    exact kk H' _ ⟨_, hc, r2, _, e1, q2, q3, t_set q4 hap hk v⟩ e2 e3 (hS0.put e2 e3 hAq)
end S2
