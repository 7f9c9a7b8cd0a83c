/-! SOUNDNESS 13: a run; a method's contract -/
section S13
variable {p : Program} {l : Launch} {e : Env} {R : Room} {s : State} {m : MethodId} {args : Array Value} {below : List Frame} {meth : Method} {c : Code} {Q : State → Prop} {g : xG} {X : xX} {cc : ByteArray} {nL n0 m0 : Nat} {M : xT} {σ : xM}
/-- an instruction's row, from a step that isn't a label's -/
theorem xact_row (hok : xmok cc nL M) {pc : Nat} {lv : xL} {st : List Value} {sh : xS} {o : xO} {lg : Int64} {a : xAc} (h : xact XP M X σ (pc, lv, st, sh, o, lg) = some a) (hns : ∀ c', a ≠ .inr (.inr c')) : pc < 100000 ∧ ∃ i ln tgt cv cs, xenok cc nL (pc, i, ln, tgt, cv, cs) = true ∧ xexec XP M X σ i tgt cv cs (pc + ln) lv st sh o lg = some a := by
  unfold xact at h
  cases hl : Nat.ble 100000 pc with
  | true =>
    simp only [hl, cond_true] at h
    split at h
    · simp only [Option.some.injEq] at h
      exact absurd h.symm (hns _)
    · cases h
  | false =>
    simp only [hl, cond_false] at h
    have hlt : pc < 100000 := by
      rcases Nat.lt_or_ge pc 100000 with z | z
      · exact z
      · rw [Nat.ble_eq_true_of_le z] at hl; cases hl
    split at h
    · rename_i ch hch
      split at h
      · rename_i i ln tgt cv cs hrow
        exact ⟨hlt, i, ln, tgt, cv, cs, hok.1 ch (by rw [xnth_get] at hch; exact List.mem_of_getElem? hch) _ (xfind_mem hrow), h⟩
      · cases h
    · cases h
theorem xact_call (Y : xYt) (hT : xTab Y) (hF : xFrm g X p s m args meth c R cc nL M) {d N : Nat} (hMO : MOK l g X Y d) (hd1 : d + 1 ≤ R.frames) (hd2 : 40 * d + 40 ≤ R.locals) {c0 : xC} {k : Nat} {as : List Value} {pc' : Nat} {lv' : xL} {st' : List Value} {sh1 : xS} {o' : xO} {lg' : Int64} {r : Option Value} {sh2 : xS} {ol2 : xO} {lg2 : Int64}
    (h : xact XP M X σ c0 = some (.inr (.inl (k, as, pc', lv', st', sh1, o', lg')))) (ho : xcall XP X d N k as sh1 lg' (xget o' σ) = some (r, sh2, ol2, lg2)) (hroom : sh2.length ≤ n0 + R.cells ∧ xsl sh2 ≤ m0 + R.slots)
    (kk : xJ p l e R s m args below meth c Q g nL n0 m0 σ (pc', lv', r.toList ++ st', sh2, xmrg o' ol2, lg2)) : xJ p l e R s m args below meth c Q g nL n0 m0 σ c0 := by
  obtain ⟨pc, lv, st, sh, o, lg⟩ := c0
  obtain ⟨hlt, i, ln, tgt, cv, cs, hr, hx⟩ := xact_row hF.2.2.2.2.2.2.2.2.2.1 h (fun c' z => by simp at z)
  obtain ⟨-, hd, hpc, -, -, -, h2⟩ := xex_dec hr
  dsimp only at hd hpc h2
  have hi := xexec_isC g rfl hx
  suffices hh : xAtW p l e R s m args below meth c Q g nL n0 m0 σ pc lv st sh o lg by
    intro H locs cells slots ls a1 a2 a3 a4 a5
    rw [xrp_lt hlt]
    exact hh H locs cells slots ls a1 a2 a3 a4 a5
  cases i with
  | invokestatic j =>
    have hln : ln = 3 := Nat.eq_of_beq_eq_true h2
    subst hln
    simp only [xexec] at hx
    split at hx
    · rename_i kind _ _ _ _
      cases hk : (Nat.beq kind 4 || (Nat.beq kind 1 || Nat.beq kind 2)) with
      | true => rw [hk] at hx; cases hx
      | false =>
        rw [hk, cond_false] at hx
        simp only [Bool.or_eq_false_iff] at hk
        exact xcallA_sound Y hT hF hMO hd1 hd2 hd ⟨fun _ => rfl, fun z => by rw [z] at hk; exact absurd hk.2.1 (by decide), fun z => by rw [z] at hk; exact absurd hk.2.2 (by decide)⟩ hpc hx ho hroom kk
    · cases hx
  | invokevirtual j =>
    have hln : ln = 3 := Nat.eq_of_beq_eq_true h2
    subst hln
    exact xcallA_sound Y hT hF hMO hd1 hd2 hd ⟨fun z => absurd z (by decide), fun _ => rfl, fun z => absurd z (by decide)⟩ hpc hx ho hroom kk
  | invokespecial j =>
    have hln : ln = 3 := Nat.eq_of_beq_eq_true h2
    subst hln
    simp only [xexec] at hx
    split at hx
    · rename_i kind _ _ _ _
      cases hk : (Nat.beq kind 4 || Nat.beq kind 2) with
      | false => rw [hk] at hx; cases hx
      | true =>
        rw [hk, cond_true] at hx
        simp only [Bool.or_eq_true] at hk
        refine xcallA_sound Y hT hF hMO hd1 hd2 hd ⟨fun z => ?_, fun z => ?_, fun _ => rfl⟩ hpc hx ho hroom kk
        · exfalso
          rcases hk with hk | hk
          · have := Nat.eq_of_beq_eq_true hk; omega
          · have := Nat.eq_of_beq_eq_true hk; omega
        · exfalso
          rcases hk with hk | hk
          · have := Nat.eq_of_beq_eq_true hk; omega
          · have := Nat.eq_of_beq_eq_true hk; omega
    · cases hx
  | _ => exact absurd hi id
/-- a run inside a method: what is needed at its end is told -/
theorem xgo_sound (Y : xYt) (hT : xTab Y) (hF : xFrm g X p s m args meth c R cc nL M) {d N : Nat} (hMO : MOK l g X Y d) (hd1 : d + 1 ≤ R.frames) (hd2 : 40 * d + 40 ≤ R.locals) {r : Option Value} {sh' : xS} {ol' : xO} {lg' : Int64} (hroom : sh'.length ≤ n0 + R.cells ∧ xsl sh' ≤ m0 + R.slots)
    (hend : ∀ c0 : xC, xact XP M X σ c0 = some (.inl (r, sh', ol', lg')) → xJ p l e R s m args below meth c Q g nL n0 m0 σ c0) : ∀ (n : Nat) (c0 : xC), xgo XP (xcall XP X d N) M X σ n c0 = some (r, sh', ol', lg') → xJ p l e R s m args below meth c Q g nL n0 m0 σ c0 := by
  intro n
  induction n with
  | zero => intro c0 h; cases h
  | succ n ih =>
    intro c0 h
    have hmo := fun c0 h => xgo_mon (orc := xcall XP X d N) (M := M) (X := X) (σ := σ) g (fun k as sh lg σ r sh' ol' lg' h => xcall_mon g d N k as sh lg σ r sh' ol' lg' h) n c0 r sh' ol' lg' h
    rw [xgo] at h
    split at h
    · cases h
    · rename_i o ha
      cases h
      exact hend c0 ha
    · rename_i ha
      split at h
      · cases h
      · rename_i ho
        have h1 := hmo _ h
        dsimp only at h1
        exact xact_call Y hT hF hMO hd1 hd2 ha ho (by omega) (ih _ h)
    · rename_i c1 ha
      have h1 := hmo _ h
      exact xact_sound Y hT hF (by omega) ha (ih _ h)
/-- a method's end -/
theorem xend_sound (hF : xFrm g X p s m args meth c R cc nL M) (hrt : meth.sig.returnType = M.2.2.2.1) (hlk : meth.locks = false) {r : Option Value} {sh' : xS} {ol' : xO} {lg' : Int64} {c0 : xC} (h : xact XP M X σ c0 = some (.inl (r, sh', ol', lg'))) : xJ p l e R s m args below meth c (MQ below (xPost g r sh' (xget ol' σ) lg') args s (sh'.length - n0) (xsl sh' - m0) (g_A g)) g nL n0 m0 σ c0 := by
  obtain ⟨pc, lv, st, sh, o, lg⟩ := c0
  obtain ⟨hlt, i, ln, tgt, cv, cs, hr, hx⟩ := xact_row hF.2.2.2.2.2.2.2.2.2.1 h (fun c' z => by simp at z)
  obtain ⟨-, hd, hpc, -, -, -, h2⟩ := xex_dec hr
  dsimp only at hd hpc h2
  have hi := xexec_isR g rfl hx
  obtain ⟨hxx, hb, hml, hown, hts, hK, hST, hs0, hini, hok, hR1, hR2⟩ := hF
  intro H locs cells slots ls hw hS hl ha hz
  rw [xrp_lt hlt]
  have hq : ∀ (v : Option Value), r = v → sh' = sh → ol' = o → lg' = lg → ∀ t : State, t.heap = H → s.WarmedH t.vm → xPost g r sh' (xget ol' σ) lg' args s (.returned (v.map (xcv g))) t := by
    rintro v rfl rfl rfl rfl t ht hW
    exact ⟨⟨rfl, by rw [ht]; exact hw⟩, hS.F ht⟩
  have e1 : ∀ {sh2 : xS}, sh2 = sh → sh2.length - n0 = cells ∧ xsl sh2 - m0 = slots := by rintro sh2 rfl; omega
  cases i with
  | return_ =>
    have hln : ln = 1 := Nat.eq_of_beq_eq_true h2
    subst hln
    simp only [xexec, xret] at hx
    split at hx
    · rename_i hret
      simp only [Option.some.injEq, Sum.inl.injEq, Prod.mk.injEq] at hx
      obtain ⟨a1, a2, a3, a4⟩ := hx
      obtain ⟨b1, b2⟩ := e1 a2.symm
      rw [b1, b2]
      exact W.vret hxx hb (hrt.trans hret) (hq none a1.symm a2.symm a3.symm a4.symm) hS.2.2 hd hlk
    · cases hx
  | ireturn =>
    have hln : ln = 1 := Nat.eq_of_beq_eq_true h2
    subst hln
    simp only [xexec, xret] at hx
    split at hx
    · rename_i x hret
      simp only [Option.some.injEq, Sum.inl.injEq, Prod.mk.injEq] at hx
      obtain ⟨a1, a2, a3, a4⟩ := hx
      obtain ⟨b1, b2⟩ := e1 a2.symm
      rw [b1, b2]
      exact W.iret (v := x) hxx hb (hrt.trans hret) (hq (some (.int x)) a1.symm a2.symm a3.symm a4.symm) hS.2.2 hd hlk
    · rename_i x hret
      obtain ⟨h01, hx⟩ := x_ite hx
      simp only [Option.some.injEq, Sum.inl.injEq, Prod.mk.injEq] at hx
      obtain ⟨a1, a2, a3, a4⟩ := hx
      obtain ⟨b1, b2⟩ := e1 a2.symm
      rw [b1, b2]
      exact W.zret (v := x) (ty := .boolean) hxx hb (hrt.trans hret) (by rcases h01 with rfl | rfl <;> rfl) (hq (some (.int x)) a1.symm a2.symm a3.symm a4.symm) hS.2.2 hd hlk
    · rename_i x hret
      obtain ⟨h01, hx⟩ := x_ite hx
      simp only [Option.some.injEq, Sum.inl.injEq, Prod.mk.injEq] at hx
      obtain ⟨a1, a2, a3, a4⟩ := hx
      obtain ⟨b1, b2⟩ := e1 a2.symm
      rw [b1, b2]
      exact W.zret (v := x) (ty := .byte) hxx hb (hrt.trans hret) (show Value.int (vp_nar .byte x) = .int x by rw [h01]) (hq (some (.int x)) a1.symm a2.symm a3.symm a4.symm) hS.2.2 hd hlk
    · rename_i x hret
      obtain ⟨h01, hx⟩ := x_ite hx
      simp only [Option.some.injEq, Sum.inl.injEq, Prod.mk.injEq] at hx
      obtain ⟨a1, a2, a3, a4⟩ := hx
      obtain ⟨b1, b2⟩ := e1 a2.symm
      rw [b1, b2]
      exact W.zret (v := x) (ty := .char) hxx hb (hrt.trans hret) (show Value.int (vp_nar .char x) = .int x by rw [h01]) (hq (some (.int x)) a1.symm a2.symm a3.symm a4.symm) hS.2.2 hd hlk
    · cases hx
  | lreturn =>
    have hln : ln = 1 := Nat.eq_of_beq_eq_true h2
    subst hln
    simp only [xexec, xret] at hx
    split at hx
    · rename_i x hret
      simp only [Option.some.injEq, Sum.inl.injEq, Prod.mk.injEq] at hx
      obtain ⟨a1, a2, a3, a4⟩ := hx
      obtain ⟨b1, b2⟩ := e1 a2.symm
      rw [b1, b2]
      exact W.lret (v := x) hxx hb (hrt.trans hret) (hq (some (.long x)) a1.symm a2.symm a3.symm a4.symm) hS.2.2 hd hlk
    · cases hx
  | areturn =>
    have hln : ln = 1 := Nat.eq_of_beq_eq_true h2
    subst hln
    simp only [xexec, xret] at hx
    split at hx
    · rename_i w n hret
      simp only [Option.some.injEq, Sum.inl.injEq, Prod.mk.injEq] at hx
      obtain ⟨a1, a2, a3, a4⟩ := hx
      obtain ⟨b1, b2⟩ := e1 a2.symm
      rw [b1, b2]
      exact W.aret (v := .ref (g_K g (w % 16))) hxx hb (hrt.trans hret) (Or.inl ⟨_, rfl⟩) (Or.inr ⟨_, rfl⟩) (hq (some (.retAddr w)) a1.symm a2.symm a3.symm a4.symm) hS.2.2 hd hlk
    · cases hx
  | _ => exact absurd hi id
theorem xcl_args (hf : g_f g = .null ∨ ∃ a, g_f g = .ref a) : ∀ (as : List Value) (i : Nat), lv_args i (as.map (xcv g)) = xcl g (lv_args i as) := by
  intro as
  induction as with
  | nil => intro i; rfl
  | cons v as ih =>
    intro i
    rw [List.map_cons, lv_args, lv_args, xcl, List.map_cons, xcv_cat g hf, ih]
    rfl
theorem xsl_len (hf : g_f g = .null ∨ ∃ a, g_f g = .ref a) : ∀ as : List Value, (lg_sl (as.map (xcv g))).length ≤ xcat as := by
  intro as
  induction as with
  | nil => exact Nat.le_refl _
  | cons v as ih =>
    have h1 : lg_sl ((v :: as).map (xcv g)) = (if (xcv g v).category = 2 then [.val (xcv g v), .second] else [.val (xcv g v)]) ++ lg_sl (as.map (xcv g)) := by simp [lg_sl]
    have h2 : xcat (v :: as) = v.category + xcat as := by simp [xcat]
    rw [h1, List.length_append, h2, xcv_cat g hf]
    have h3 : v.category = 1 ∨ v.category = 2 := lv_cat v
    split
    · simp; omega
    · simp; omega
theorem MOK_all (Y : xYt) (hT : xTab Y) : ∀ d, MOK l g X Y d := by
  intro d
  induction d with
  | zero => intro k as sh lg σ r sh' ol' lg' N h; cases h
  | succ d ih =>
    intro k as sh lg σ r sh' ol' lg' N h y cc mL M hy hM hk
    obtain ⟨y2, cc2, mL2, hy2, e1, e2, e3, e4, hok, hini⟩ := hT.2.2.2.2.2.2.2 k M hM
    cases hy.symm.trans hy2
    obtain ⟨hpl, hcd⟩ := e2.resolve_left hk
    have hmono := xcall_mon g (d + 1) N k as sh lg σ r sh' ol' lg' h
    have hMx : xnth XP.1 k = some M := hM
    simp only [xcall, hMx] at h
    cases hb : Nat.ble (xcat as) M.2.2.2.2.2 with
    | false => rw [hb] at h; cases h
    | true =>
      rw [hb, cond_true] at h
      have hle := Nat.le_of_ble_eq_true hb
      refine Met.ofW (cc := cc) (maxL := mL) (ret := M.2.2.2.1) hpl rfl ?_
      intro p e s m args below meth c s₁ B hml hv
      obtain ⟨rfl, hw, hK, hST⟩ := hv
      have hf := hST.2.2.1.2.2
      have hts0 := atoms_spec (ws := Cond.code y cc mL M.2.2.2.1 :: xTs) B.pre
      have hown : s.vm.findClass (xR M.1) = some m.cls := by rw [← e1]; exact findClass_of_methodNamed B.named
      have hF : xFrm g X p s m ((as.map (xcv g)).toArray) meth c (xrm (d + 1) (sh'.length - sh.length) (xsl sh' - xsl sh)) cc mL M := ⟨B.exec, B.bytes, hml, hown, fun w hw9 => hts0 w (List.mem_cons_of_mem _ hw9), hK, hST, by rw [hw.1]; omega, fun hi => by rw [(name_of_methodNamed B.named B.method).1]; exact hini hi, hok, by show 1 ≤ d + 1; omega, by show 40 ≤ 40 * (d + 1); omega⟩
      have hl := lv_entry (as.map (xcv g)) (n := mL) (Nat.le_trans (xsl_len hf as) (by omega))
      rw [lg_entry_eq]
      generalize (lg_sl (as.map (xcv g)) ++ List.replicate (mL - (lg_sl (as.map (xcv g))).length) Slot.unset).toArray = ls at hl ⊢
      rw [xcl_args hf] at hl
      have hrun := xgo_sound (l := l) (e := e) (below := below) (n0 := sh.length) (m0 := xsl sh) Y hT hF ih (by show d + 1 ≤ d + 1; omega) (by show 40 * d + 40 ≤ 40 * (d + 1); omega) (by constructor <;> (show _ ≤ _ + (_ - _); omega)) (fun c0 h0 => xend_sound hF B.returns B.notSynchronized h0) N _ h
      have h9 := hrun s.heap [] 0 0 ls hw va_S.rf hl (by omega) (by omega)
      rw [xrp_lt (by omega)] at h9
      exact h9
end S13
