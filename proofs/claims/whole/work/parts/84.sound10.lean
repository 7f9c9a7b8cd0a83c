/-! SOUNDNESS 10: a step, a call, a run, a method -/
section S10
variable {p : Program} {l : Launch} {e : Env} {R : Room} {s : State} {m : MethodId} {args : Array Value} {below : List Frame} {meth : Method} {c : Code} {Q : State → Prop} {g : xG} {X : xX} {cc : ByteArray} {nL n0 m0 : Nat} {M : xT} {σ : xM}
theorem xact_sound (Y : xYt) (hT : xTab Y) (hF : xFrm g X p s m args meth c R cc nL M) {c0 c' : xC} (hroom : c'.2.2.2.1.length ≤ n0 + R.cells ∧ xsl c'.2.2.2.1 ≤ m0 + R.slots) (h : xact XP M X σ c0 = some (.inr (.inr c'))) (k : xJ p l e R s m args below meth c Q g nL n0 m0 σ c') : xJ p l e R s m args below meth c Q g nL n0 m0 σ c0 := by
  obtain ⟨pc, lv, st, sh, o, lg⟩ := c0
  unfold xact at h
  have hok := hF.2.2.2.2.2.2.2.2.2.1
  cases hl : Nat.ble 100000 pc with
  | true =>
    simp only [hl, cond_true] at h
    split at h
    · rename_i ks cs rs hx
      simp only [Option.some.injEq, Sum.inr.injEq] at h
      subst h
      have hle := Nat.le_of_ble_eq_true hl
      have hlt := hok.2 _ (xfind_mem hx)
      dsimp only at hlt
      intro H locs cells slots ls a1 a2 a3 a4 a5
      have e1 : xEq (xget o σ) (xget (xadd σ cs (xaddr σ lv rs o)) σ) := by
        have h1 := (xadd_eq σ cs (xaddr σ lv rs o)).tr (xaddr_eq σ lv rs o)
        exact ⟨fun c hc => (h1.1 c hc).symm, fun c => (h1.2 c).symm⟩
      have h2 := k H locs cells slots ls (xWd_eq e1 a1) a2 (lv_less a3 (fun q hq => by
        obtain ⟨r, hr, rfl⟩ := List.mem_map.mp hq
        exact List.mem_map.mpr ⟨r, xkeep_sub _ _ r hr, rfl⟩)) a4 a5
      rw [xrp_lt hlt] at h2
      unfold xrp
      rw [if_pos hle]
      exact h2
    · cases h
  | false =>
    simp only [hl, cond_false] at h
    have hlt : pc < 100000 := by
      rcases Nat.lt_or_ge pc 100000 with z | z
      · exact z
      · rw [Nat.ble_eq_true_of_le z] at hl; cases hl
    split at h
    · rename_i ch hch
      split at h
      · rename_i i ln tgt cv cs hrow
        have hr : xenok cc nL (pc, i, ln, tgt, cv, cs) = true := hok.1 ch (by rw [xnth_get] at hch; exact List.mem_of_getElem? hch) _ (xfind_mem hrow)
        suffices hh : xAtW p l e R s m args below meth c Q g nL n0 m0 σ pc lv st sh o lg by
          intro H locs cells slots ls a1 a2 a3 a4 a5
          rw [xrp_lt hlt]
          exact hh H locs cells slots ls a1 a2 a3 a4 a5
        obtain ⟨-, hd, hpc, -, -, -, h2⟩ := xex_dec hr
        dsimp only at hd hpc h2
        cases i with
        | putfield j => exact xexec_put Y hT hF hr h k
        | new j => exact xexec_new Y hT hF hr hroom h k
        | newarray a => exact xexec_newa Y hT hF hr hroom h k
        | invokestatic j =>
          have hln : ln = 3 := Nat.eq_of_beq_eq_true h2
          subst hln
          simp only [xexec] at h
          split at h
          · rename_i kind _ _ _ _
            cases hk : (Nat.beq kind 4 || (Nat.beq kind 1 || Nat.beq kind 2)) with
            | true => rw [hk] at h; cases h
            | false =>
              rw [hk, cond_false] at h
              simp only [Bool.or_eq_false_iff] at hk
              exact xcall_simple Y hT hF hroom hd ⟨fun z => by rw [z] at hk; exact absurd hk.1 (by decide), fun _ _ => rfl⟩ hpc h k
          · cases h
        | invokevirtual j =>
          have hln : ln = 3 := Nat.eq_of_beq_eq_true h2
          subst hln
          exact xcall_simple Y hT hF hroom hd ⟨fun z => absurd z (by decide), fun _ z => absurd z (by decide)⟩ hpc h k
        | invokespecial j =>
          have hln : ln = 3 := Nat.eq_of_beq_eq_true h2
          subst hln
          simp only [xexec] at h
          split at h
          · rename_i kind _ _ _ _
            cases hk : (Nat.beq kind 4 || Nat.beq kind 2) with
            | false => rw [hk] at h; cases h
            | true =>
              rw [hk, cond_true] at h
              refine xcall_simple Y hT hF hroom hd ⟨fun _ => rfl, fun z1 z2 => ?_⟩ hpc h k
              exfalso
              simp only [Bool.or_eq_true] at hk
              rcases hk with hk | hk
              · exact z1 (Nat.eq_of_beq_eq_true hk)
              · have := Nat.eq_of_beq_eq_true hk
                omega
          · cases h
        | return_ => simp only [xexec, xret] at h; split at h <;> simp at h
        | ireturn =>
          simp only [xexec, xret] at h
          split at h
          · simp at h
          · have h := (x_ite h).2; simp at h
          · have h := (x_ite h).2; simp at h
          · have h := (x_ite h).2; simp at h
          · simp at h
        | lreturn => simp only [xexec, xret] at h; split at h <;> simp at h
        | areturn => simp only [xexec, xret] at h; split at h <;> simp at h
        | _ => first
          | exact xexec_pure Y hT hF hr trivial h k
          | exact xexec_mid Y hT hF hr trivial h k
          | exact xexec_heap Y hT hF hr trivial h k
          | (cases h)
      · cases h
    · cases h
/-- a method's room: by its depth, and by what it makes -/
def xrm (d mc ms : Nat) : Room := { frames := d, cells := mc, slots := ms, locals := 40 * d }
def xPre (g : xG) (X : xX) (sh : xS) (σ : xM) (lg : Int64) : State → Prop := fun U => xWd g sh σ lg U.heap ∧ xKK g U ∧ xST g X U U.heap
def xPost (g : xG) (r : Option Value) (sh : xS) (σ : xM) (lg : Int64) : Array Value → State → Outcome → State → Prop := fun _ st oc t => (oc = .returned (r.map (xcv g)) ∧ xWd g sh σ lg t.heap) ∧ va_F (g_A g) st t
/-- the methods' contracts, to a depth -/
def MOK (l : Launch) (g : xG) (X : xX) (Y : xYt) (d : Nat) : Prop := ∀ (k : Nat) (as : List Value) (sh : xS) (lg : Int64) (σ : xM) (r : Option Value) (sh' : xS) (ol' : xO) (lg' : Int64) (N : Nat), xcall XP X d N k as sh lg σ = some (r, sh', ol', lg') → ∀ (y : MethodName) (cc : ByteArray) (mL : Nat) (M : xT), xnth Y k = some (y, cc, mL) → xnth xMT k = some M → k + 1 ≠ xMT.length →
  Met l y (Cond.code y cc mL M.2.2.2.1 :: xTs) (xrm d (sh'.length - sh.length) (xsl sh' - xsl sh)) (va_Pc (as.map (xcv g)) (xPre g X sh σ lg)) (xPost g r sh' (xget ol' σ) lg') (sh'.length - sh.length) (xsl sh' - xsl sh) (g_A g)
theorem xPre_blind {sh : xS} {lg : Int64} {as : List Value} : FrameBlind (va_Pc as (xPre g X sh σ lg)) := by
  intro a U gg mk ⟨h1, h2, h3, h4⟩
  refine ⟨h1, h2, va_K.moved (u := U) (Vm.Alike.refl U.vm) h3, ?_⟩
  obtain ⟨⟨a1, a2⟩, ⟨b1, b2⟩, ⟨c1, c2, c3⟩, ⟨d1, d2⟩, ⟨e1, e2⟩, f1, f2, f3⟩ := h4
  have hv : U.vm.Alike (U.calling gg mk a).vm := Vm.Alike.refl U.vm
  refine ⟨⟨a1.moved hv, a2.moved hv⟩, ⟨b1.moved hv, b2.moved hv⟩, ⟨c1.moved hv, c2.moved hv, c3⟩, ⟨d1.moved hv, fun i hi => (d2 i hi).same rfl⟩, ⟨fun w hw => ?_, va_Nw.same rfl rfl e2⟩, f1.moved hv, f2, f3⟩
  have h1 := e1 w hw
  simp only [xNWm, List.mem_cons, List.not_mem_nil, or_false] at hw
  rcases hw with rfl | rfl | rfl | rfl | rfl | rfl | rfl <;> exact va_Nw.same rfl rfl h1
theorem xTs_good {y : MethodName} {cc : ByteArray} {mL : Nat} {ret : Option FieldType} (h : Cond.code y cc mL ret ∈ xTs) : GoodIn xTs (Cond.code y cc mL ret :: xTs) := by
  intro w hw
  have hm : w ∈ xTs := by
    rcases List.mem_cons.mp hw with rfl | hw
    · exact h
    · exact hw
  exact ⟨hm, good_of_word (List.mem_filter.mp hm).2⟩
theorem xTs_goods {ws : List Cond} (h : ∀ w ∈ ws, w ∈ xTs) : GoodIn xTs ws := fun w hw => ⟨h w hw, good_of_word (List.mem_filter.mp (h w hw)).2⟩
/-- behind a call -/
theorem x_callk {pc : Nat} {ls : Array Slot} {rest st0 : List Value} {a : Array Value} {H : Heap} {locs : List Loc} {cells slots mc ms : Nat} {r : Option Value} {sh' : xS} {σ' : xM} {lg' : Int64} (hr : va_Run p l e R s m args below meth c H locs cells slots mc ms (F0 m pc ls st0) rest (xPost g r sh' σ' lg' a) (g_A g)) (hS : va_S (g_A g) s.heap H locs)
    (kk : ∀ (H1 : Heap) (locs1 : List Loc), xWd g sh' σ' lg' H1 → va_S (g_A g) s.heap H1 locs1 → W p l e R s m args below meth c H1 locs1 (cells + mc) (slots + ms) Q (F0 m (pc + 3) ls ((r.map (xcv g)).toList ++ rest))) : W p l e R s m args below meth c H locs cells slots Q (F0 m pc ls st0) := by
  intro T hT X
  obtain ⟨v, st₀, t, T', L, h0, X', hL, e1, e2, ⟨⟨hv, hb⟩, hz, hk⟩, st⟩ := hr T hT X
  cases hv
  rw [h0] at hz hk
  obtain ⟨t2, a1, b1⟩ := kk T'.heap (locs ++ L) (by rw [e1]; exact hb)
    ⟨Nat.le_trans hS.1 (by rw [e1]; exact hz), fun q h1 h2 => by rw [e1, hk q (Nat.lt_of_lt_of_le h1 hS.1) h2]; exact hS.2.1 q h1 h2, fun q hq => by
      rcases List.mem_append.mp hq with h | h
      · exact hS.2.2 q h
      · exact hL q h⟩ T' rfl X'
  exact ⟨t2, st t2 a1, b1⟩
def xrcv (sh : xS) (rcv : Nat) (v : Option Value) : Prop := rcv = 0 ∨ (∃ q c tags, v = some (.ref q) ∧ rcv = c + 1 ∧ q ≤ 899 ∧ xnth sh q = some (.inl (c, tags))) ∨ (∃ w, v = some (.retAddr w) ∧ rcv = 101)
theorem xcallA_inv {kd idx pc : Nat} {lv : xL} {st : List Value} {sh : xS} {o : xO} {lg : Int64} {k : Nat} {as : List Value} {c1 : xC} (h : xcallA XP M σ kd idx pc lv sh o lg st = some (.inr (.inl (k, as, c1)))) :
    ∃ n rcv, xfind (xCT.getD M.1 []) idx = some (kd, k, n, rcv) ∧ n ≤ st.length ∧ xcat (st.drop n) ≤ 8 ∧ as = (st.take n).reverse ∧ c1 = (xnx M pc, lv, st.drop n, sh, o, lg) ∧ xrcv sh rcv (st.drop (n - 1)).head? ∧ ¬ (3 ≤ kd ∧ kd ≤ 7) := by
  have hgt : ∀ {lv' : xL} {st' : List Value} {sh' : xS} {o' : xO} {lg' : Int64}, xgt M pc lv' st' sh' o' lg' = some (.inr (.inl (k, as, c1))) → False := by
    intro lv' st' sh' o' lg' hg
    unfold xgt at hg
    simp at hg
  unfold xcallA at h
  split at h
  · rename_i kind k' n rcv hfd
    cases h0 : Nat.beq kind kd with
    | false => rw [h0] at h; cases h
    | true =>
      have := Nat.eq_of_beq_eq_true h0
      subst this
      rw [h0, cond_true] at h
      cases h3 : Nat.beq kind 3 with
      | true =>
        exfalso
        rw [h3, cond_true] at h
        split at h
        · rename_i n dp q1 sp q0 r
          cases hq : (Nat.ble q0 899 && (Nat.ble q1 899 && Nat.ble (xcat r) 8)) with
          | false => rw [hq] at h; cases h
          | true =>
            rw [hq, cond_true] at h
            split at h
            · exact hgt (x_ite h).2
            · cases h
        · cases h
      | false =>
      rw [h3, cond_false] at h
      cases h4 : Nat.beq kind 4 with
      | true =>
        exfalso
        rw [h4, cond_true] at h
        split at h
        · rename_i q r
          cases hq : (Nat.ble q 899 && Nat.ble (xcat r) 8) with
          | false => rw [hq] at h; cases h
          | true => rw [hq, cond_true] at h; exact hgt h
        · cases h
      | false =>
      rw [h4, cond_false] at h
      cases h5 : Nat.beq kind 5 with
      | true =>
        exfalso
        rw [h5, cond_true] at h
        split at h
        · rename_i y x r
          cases hq : Nat.ble (xcat r) 8 with
          | false => rw [hq] at h; cases h
          | true => rw [hq, cond_true] at h; exact hgt h
        · cases h
      | false =>
      rw [h5, cond_false] at h
      cases h6 : Nat.beq kind 6 with
      | true =>
        exfalso
        rw [h6, cond_true] at h
        split at h
        · rename_i y x r
          cases hq : Nat.ble (xcat r) 8 with
          | false => rw [hq] at h; cases h
          | true => rw [hq, cond_true] at h; exact hgt h
        · cases h
      | false =>
      rw [h6, cond_false] at h
      cases h7 : Nat.beq kind 7 with
      | true =>
        exfalso
        rw [h7, cond_true] at h
        split at h
        · rename_i y x r
          cases hq : Nat.ble (xcat r) 8 with
          | false => rw [hq] at h; cases h
          | true => rw [hq, cond_true] at h; exact hgt h
        · cases h
      | false =>
      rw [h7, cond_false] at h
      have hne : ¬ (3 ≤ kind ∧ kind ≤ 7) := by
        rintro ⟨z1, z2⟩
        have e3 : kind ≠ 3 := fun z => by rw [z] at h3; cases h3
        have e4 : kind ≠ 4 := fun z => by rw [z] at h4; cases h4
        have e5 : kind ≠ 5 := fun z => by rw [z] at h5; cases h5
        have e6 : kind ≠ 6 := fun z => by rw [z] at h6; cases h6
        have e7 : kind ≠ 7 := fun z => by rw [z] at h7; cases h7
        omega
      cases hA : (Nat.ble n st.length && Nat.ble (xcat (st.drop n)) 8) with
      | false => rw [hA] at h; cases h
      | true =>
        rw [hA, cond_true] at h
        simp only [Bool.and_eq_true] at hA
        have aux : ∀ (b2 : Bool) (z w : Nat × List Value × xC), ((bif b2 then some (Sum.inr (Sum.inl z)) else none) : Option xAc) = some (.inr (.inl w)) → b2 = true ∧ z = w := by
          intro b2 z w h
          cases b2
          · cases h
          · exact ⟨rfl, by simpa using h⟩
        obtain ⟨hb2, hz⟩ := aux _ _ _ h
        cases hz
        refine ⟨n, rcv, hfd, Nat.le_of_ble_eq_true hA.1, Nat.le_of_ble_eq_true hA.2, rfl, rfl, ?_, hne⟩
        split at hb2
        · exact Or.inl rfl
        · rename_i q r c' hdr
          simp only [Bool.and_eq_true] at hb2
          obtain ⟨hb3, hb4⟩ := hb2
          split at hb4
          · rename_i ci' tags hxa
            have := Nat.eq_of_beq_eq_true hb4
            subst this
            exact Or.inr (Or.inl ⟨q, ci', tags, by rw [hdr]; rfl, rfl, Nat.le_of_ble_eq_true hb3, hxa⟩)
          · cases hb4
        · rename_i w r c' hdr
          have := Nat.eq_of_beq_eq_true hb2
          subst this
          exact Or.inr (Or.inr ⟨w, by rw [hdr]; rfl, rfl⟩)
        · cases hb2
  · cases h
theorem xcall_some {d N k : Nat} {as : List Value} {sh : xS} {lg : Int64} {σ : xM} {out : xOut} (h : xcall XP X d N k as sh lg σ = some out) : ∃ M', xnth xMT k = some M' := by
  cases d with
  | zero => cases h
  | succ d =>
    simp only [xcall] at h
    split at h
    · cases h
    · rename_i M' hM
      exact ⟨M', hM⟩
end S10
