/-! SOUNDNESS 4: every simple instruction -/
section S4
variable {p : Program} {l : Launch} {e : Env} {R : Room} {s : State} {m : MethodId} {args : Array Value} {below : List Frame} {meth : Method} {c : Code} {Q : State → Prop} {g : xG} {X : xX} {cc : ByteArray} {nL n0 m0 : Nat} {M : xT} {σ : xM}
theorem xJ_go {pc : Nat} {lv : xL} {st : List Value} {sh : xS} {o : xO} {lg : Int64} {c' : xC} (h : xgt M pc lv st sh o lg = some (.inr (.inr c'))) (hpc : pc < 100000) (k : xJ p l e R s m args below meth c Q g nL n0 m0 σ c') :
    ∀ (H : Heap) (locs : List Loc) (cells slots : Nat) (ls : Array Slot), xWd g sh (xget o σ) lg H → va_S (g_A g) s.heap H locs → lv_has ls nL (xcl g lv) → cells + n0 = sh.length → slots + m0 = xsl sh → W p l e R s m args below meth c H locs cells slots Q (F0 m pc ls (st.map (xcv g))) := by
  unfold xgt at h
  simp only [Option.some.injEq, Sum.inr.injEq] at h
  subst h
  intro H locs cells slots ls a1 a2 a3 a4 a5
  have h := k H locs cells slots ls a1 a2 a3 a4 a5
  rw [xrp_nx hpc] at h
  exact h
/-- what a step may use: the machine at pc with its stack -/
def xAtW (p : Program) (l : Launch) (e : Env) (R : Room) (s : State) (m : MethodId) (args : Array Value) (below : List Frame) (meth : Method) (c : Code) (Q : State → Prop) (g : xG) (nL n0 m0 : Nat) (σ : xM) (pc : Nat) (lv : xL) (st : List Value) (sh : xS) (o : xO) (lg : Int64) : Prop := ∀ (H : Heap) (locs : List Loc) (cells slots : Nat) (ls : Array Slot), xWd g sh (xget o σ) lg H → va_S (g_A g) s.heap H locs → lv_has ls nL (xcl g lv) → cells + n0 = sh.length → slots + m0 = xsl sh → W p l e R s m args below meth c H locs cells slots Q (F0 m pc ls (st.map (xcv g)))
theorem xbr_inv {cd : Jvm.ClassFile.Cond} {x y : Int32} {a b : Nat} (P : Nat → Prop) (hp : P (xbr M cd x y a b)) : (match cd with | .eq => (x = y → P (xnx M a)) ∧ (¬ x = y → P (xnx M b)) | .ne => (¬ x = y → P (xnx M a)) ∧ (x = y → P (xnx M b)) | .lt => (x < y → P (xnx M a)) ∧ (¬ x < y → P (xnx M b)) | .ge => (y ≤ x → P (xnx M a)) ∧ (¬ y ≤ x → P (xnx M b)) | .gt => (y < x → P (xnx M a)) ∧ (¬ y < x → P (xnx M b)) | .le => (x ≤ y → P (xnx M a)) ∧ (¬ x ≤ y → P (xnx M b))) := by
  cases cd <;> simp only [xbr] at hp ⊢ <;> refine ⟨fun h => ?_, fun h => ?_⟩ <;> simpa [h] using hp
theorem xsw_inv : ∀ (cs : List (Int32 × Nat)) (d : Nat) (x : Int32), (∃ (j : Nat) (t : Nat), cs[j]? = some (x, t) ∧ xsw M cs d x = xnx M t) ∨ ((∀ e ∈ cs, ¬ x = e.1) ∧ xsw M cs d x = xnx M d) := by
  intro cs
  induction cs with
  | nil => intro d x; exact Or.inr ⟨fun e h => (by cases h), rfl⟩
  | cons e cs ih =>
    obtain ⟨v, t⟩ := e
    intro d x
    rw [xsw]
    by_cases h : x = v
    · subst h
      exact Or.inl ⟨0, t, rfl, by rw [if_pos rfl]⟩
    · rw [if_neg h]
      rcases ih d x with ⟨j, t', h1, h2⟩ | ⟨h1, h2⟩
      · exact Or.inl ⟨j + 1, t', by simpa using h1, h2⟩
      · exact Or.inr ⟨fun e he => by
          rcases List.mem_cons.mp he with rfl | he
          · exact h
          · exact h1 e he, h2⟩
theorem xex_dec {r : xEn} (h : xenok cc nL r = true) : xen3 nL r.2.1 = true ∧ decode cc r.1 = .ok (r.2.1, r.2.2.1) ∧ r.1 + r.2.2.1 < 100000 ∧ r.2.2.2.1 < 100000 ∧ (∀ x ∈ r.2.2.2.2.2, x.2 < 100000) ∧ xen1 r.1 r.2.1 r.2.2.2.1 r.2.2.2.2.1 r.2.2.2.2.2 = true ∧ xen2 r.2.1 r.2.2.1 = true := by
  unfold xenok at h
  simp only [Bool.and_eq_true, decide_eq_true_eq, List.all_eq_true] at h
  obtain ⟨⟨h0, h1⟩, h2, h3, h4, h5, h6⟩ := h
  have := Nat.le_of_ble_eq_true h2
  have := Nat.le_of_ble_eq_true h3
  refine ⟨h0, h1, by omega, by omega, fun x hx => ?_, h5, h6⟩
  have := Nat.le_of_ble_eq_true (h4 x hx)
  omega
/-- the instructions that touch stack and locals alone -/
theorem xexec_pure (Y : xYt) (hT : xTab Y) (hF : xFrm g X p s m args meth c R cc nL M) {i : Instr} {ln tgt : Nat} {cv : Int32} {cs : List (Int32 × Nat)} {pc : Nat} {lv : xL} {st : List Value} {sh : xS} {o : xO} {lg : Int64} {c' : xC} (hr : xenok cc nL (pc, i, ln, tgt, cv, cs) = true)
    (hi : match i with | .aload _ | .aload_n _ | .iload _ | .iload_n _ | .lload _ | .lload_n _ | .iconst _ | .bipush _ | .sipush _ | .lconst _ | .iadd | .isub | .imul | .iand | .ior | .ixor | .ishl | .ishr | .iushr | .idiv | .irem | .ineg | .i2b | .i2s | .i2c | .i2l | .l2i | .ladd | .lsub | .lmul | .ldiv | .lrem | .lcmp | .pop | .dup | .dup2 | .goto _ => True | _ => False)
    (h : xexec XP M X σ i tgt cv cs (pc + ln) lv st sh o lg = some (.inr (.inr c'))) (k : xJ p l e R s m args below meth c Q g nL n0 m0 σ c') : xAtW p l e R s m args below meth c Q g nL n0 m0 σ pc lv st sh o lg := by
  obtain ⟨-, hd, hpc, htg, -, h1, h2⟩ := xex_dec hr
  obtain ⟨hx, hb, hml, hown, hts, hK, hST, hs0, hini, hok, hR1, hR2⟩ := hF
  have hf := hST.2.2.1.2.2
  dsimp only at hd hpc htg h1 h2
  intro H locs cells slots ls hw hS hl ha hz
  cases i with
  | aload j =>
    have hln : ln = 2 := Nat.eq_of_beq_eq_true h2
    subst hln
    obtain ⟨v, hv, hg, h3⟩ := xld_inv g h
    rcases h3 with ⟨h3, -⟩ | ⟨h3, -⟩ | ⟨-, q, hq⟩
    · cases h3
    · cases h3
    have hl2 := xcl_at hl hv
    rw [hq] at hl2
    refine lv_aload hx hb hd hl2 ?_
    have := xJ_go hg hpc k H locs cells slots ls hw hS hl ha hz
    rw [List.map_cons, hq] at this
    exact this
  | aload_n j =>
    have hln : ln = 1 := Nat.eq_of_beq_eq_true h2
    subst hln
    obtain ⟨v, hv, hg, h3⟩ := xld_inv g h
    rcases h3 with ⟨h3, -⟩ | ⟨h3, -⟩ | ⟨-, q, hq⟩
    · cases h3
    · cases h3
    have hl2 := xcl_at hl hv
    rw [hq] at hl2
    refine lv_aload_n hx hb hd rfl hl2 ?_
    have := xJ_go hg hpc k H locs cells slots ls hw hS hl ha hz
    rw [List.map_cons, hq] at this
    exact this
  | iload j =>
    have hln : ln = 2 := Nat.eq_of_beq_eq_true h2
    subst hln
    obtain ⟨v, hv, hg, h3⟩ := xld_inv g h
    rcases h3 with ⟨-, x, rfl⟩ | ⟨h3, -⟩ | ⟨h3, -⟩
    · exact lv_iload hx hb hd (xcl_at hl hv) (xJ_go hg hpc k H locs cells slots ls hw hS hl ha hz)
    · cases h3
    · cases h3
  | iload_n j =>
    have hln : ln = 1 := Nat.eq_of_beq_eq_true h2
    subst hln
    obtain ⟨v, hv, hg, h3⟩ := xld_inv g h
    rcases h3 with ⟨-, x, rfl⟩ | ⟨h3, -⟩ | ⟨h3, -⟩
    · exact lv_iload_n hx hb hd rfl (xcl_at hl hv) (xJ_go hg hpc k H locs cells slots ls hw hS hl ha hz)
    · cases h3
    · cases h3
  | lload j =>
    have hln : ln = 2 := Nat.eq_of_beq_eq_true h2
    subst hln
    obtain ⟨v, hv, hg, h3⟩ := xld_inv g h
    rcases h3 with ⟨h3, -⟩ | ⟨-, x, rfl⟩ | ⟨h3, -⟩
    · cases h3
    · exact lv_lload hx hb hd (xcl_at hl hv) (xJ_go hg hpc k H locs cells slots ls hw hS hl ha hz)
    · cases h3
  | lload_n j =>
    have hln : ln = 1 := Nat.eq_of_beq_eq_true h2
    subst hln
    obtain ⟨v, hv, hg, h3⟩ := xld_inv g h
    rcases h3 with ⟨h3, -⟩ | ⟨-, x, rfl⟩ | ⟨h3, -⟩
    · cases h3
    · exact lv_lload_n hx hb hd rfl (xcl_at hl hv) (xJ_go hg hpc k H locs cells slots ls hw hS hl ha hz)
    · cases h3
  | iconst n =>
    have hln : ln = 1 := Nat.eq_of_beq_eq_true h2
    subst hln
    exact lv_iconst hx hb hd (of_decide_eq_true h1) (xJ_go h hpc k H locs cells slots ls hw hS hl ha hz)
  | bipush n =>
    have hln : ln = 2 := Nat.eq_of_beq_eq_true h2
    subst hln
    exact lv_bipush hx hb hd (of_decide_eq_true h1) (xJ_go h hpc k H locs cells slots ls hw hS hl ha hz)
  | sipush n =>
    have hln : ln = 3 := Nat.eq_of_beq_eq_true h2
    subst hln
    exact lv_sipush hx hb hd (of_decide_eq_true h1) (xJ_go h hpc k H locs cells slots ls hw hS hl ha hz)
  | lconst n =>
    have hln : ln = 1 := Nat.eq_of_beq_eq_true h2
    subst hln
    exact lv_lconst hx hb hd rfl (xJ_go h hpc k H locs cells slots ls hw hS hl ha hz)
  | iadd =>
    have hln : ln = 1 := Nat.eq_of_beq_eq_true h2
    subst hln
    obtain ⟨x, y, r, rfl, hg⟩ := xin2_inv h
    exact lv_iadd hx hb hd (xJ_go hg hpc k H locs cells slots ls hw hS hl ha hz)
  | isub =>
    have hln : ln = 1 := Nat.eq_of_beq_eq_true h2
    subst hln
    obtain ⟨x, y, r, rfl, hg⟩ := xin2_inv h
    exact lv_isub hx hb hd (xJ_go hg hpc k H locs cells slots ls hw hS hl ha hz)
  | imul =>
    have hln : ln = 1 := Nat.eq_of_beq_eq_true h2
    subst hln
    obtain ⟨x, y, r, rfl, hg⟩ := xin2_inv h
    exact lv_imul hx hb hd (xJ_go hg hpc k H locs cells slots ls hw hS hl ha hz)
  | iand =>
    have hln : ln = 1 := Nat.eq_of_beq_eq_true h2
    subst hln
    obtain ⟨x, y, r, rfl, hg⟩ := xin2_inv h
    exact lv_iand hx hb hd (xJ_go hg hpc k H locs cells slots ls hw hS hl ha hz)
  | ior =>
    have hln : ln = 1 := Nat.eq_of_beq_eq_true h2
    subst hln
    obtain ⟨x, y, r, rfl, hg⟩ := xin2_inv h
    exact lv_ior hx hb hd (xJ_go hg hpc k H locs cells slots ls hw hS hl ha hz)
  | ixor =>
    have hln : ln = 1 := Nat.eq_of_beq_eq_true h2
    subst hln
    obtain ⟨x, y, r, rfl, hg⟩ := xin2_inv h
    exact lv_ixor hx hb hd (xJ_go hg hpc k H locs cells slots ls hw hS hl ha hz)
  | ishl =>
    have hln : ln = 1 := Nat.eq_of_beq_eq_true h2
    subst hln
    obtain ⟨x, y, r, rfl, hg⟩ := xin2_inv h
    exact lv_ishl hx hb hd (xJ_go hg hpc k H locs cells slots ls hw hS hl ha hz)
  | ishr =>
    have hln : ln = 1 := Nat.eq_of_beq_eq_true h2
    subst hln
    obtain ⟨x, y, r, rfl, hg⟩ := xin2_inv h
    exact lv_ishr hx hb hd (xJ_go hg hpc k H locs cells slots ls hw hS hl ha hz)
  | iushr =>
    have hln : ln = 1 := Nat.eq_of_beq_eq_true h2
    subst hln
    obtain ⟨x, y, r, rfl, hg⟩ := xin2_inv h
    exact lv_iushr hx hb hd rfl (xJ_go hg hpc k H locs cells slots ls hw hS hl ha hz)
  | idiv =>
    have hln : ln = 1 := Nat.eq_of_beq_eq_true h2
    subst hln
    obtain ⟨x, y, r, rfl, hy, hg⟩ := xind_inv h
    exact lv_idiv hx hb hd hy (xJ_go hg hpc k H locs cells slots ls hw hS hl ha hz)
  | irem =>
    have hln : ln = 1 := Nat.eq_of_beq_eq_true h2
    subst hln
    obtain ⟨x, y, r, rfl, hy, hg⟩ := xind_inv h
    exact lv_irem hx hb hd hy (xJ_go hg hpc k H locs cells slots ls hw hS hl ha hz)
  | ineg =>
    have hln : ln = 1 := Nat.eq_of_beq_eq_true h2
    subst hln
    obtain ⟨x, r, rfl, hg⟩ := xin1_inv h
    exact lv_ineg hx hb hd (xJ_go hg hpc k H locs cells slots ls hw hS hl ha hz)
  | i2b =>
    have hln : ln = 1 := Nat.eq_of_beq_eq_true h2
    subst hln
    obtain ⟨x, r, rfl, hg⟩ := xin1_inv h
    exact lv_i2b hx hb hd rfl (xJ_go hg hpc k H locs cells slots ls hw hS hl ha hz)
  | i2s =>
    have hln : ln = 1 := Nat.eq_of_beq_eq_true h2
    subst hln
    obtain ⟨x, r, rfl, hg⟩ := xin1_inv h
    exact lv_i2s hx hb hd rfl (xJ_go hg hpc k H locs cells slots ls hw hS hl ha hz)
  | i2c =>
    have hln : ln = 1 := Nat.eq_of_beq_eq_true h2
    subst hln
    obtain ⟨x, r, rfl, hg⟩ := xin1_inv h
    exact lv_i2c hx hb hd rfl (xJ_go hg hpc k H locs cells slots ls hw hS hl ha hz)
  | i2l =>
    have hln : ln = 1 := Nat.eq_of_beq_eq_true h2
    subst hln
    simp only [xexec] at h
    split at h
    · exact lv_i2l hx hb hd rfl (xJ_go h hpc k H locs cells slots ls hw hS hl ha hz)
    · cases h
  | l2i =>
    have hln : ln = 1 := Nat.eq_of_beq_eq_true h2
    subst hln
    simp only [xexec] at h
    split at h
    · exact lv_l2i hx hb hd rfl (xJ_go h hpc k H locs cells slots ls hw hS hl ha hz)
    · cases h
  | ladd =>
    have hln : ln = 1 := Nat.eq_of_beq_eq_true h2
    subst hln
    obtain ⟨x, y, r, rfl, hg⟩ := xln2_inv h
    exact lv_ladd hx hb hd (xJ_go hg hpc k H locs cells slots ls hw hS hl ha hz)
  | lsub =>
    have hln : ln = 1 := Nat.eq_of_beq_eq_true h2
    subst hln
    obtain ⟨x, y, r, rfl, hg⟩ := xln2_inv h
    exact lv_lsub hx hb hd (xJ_go hg hpc k H locs cells slots ls hw hS hl ha hz)
  | lmul =>
    have hln : ln = 1 := Nat.eq_of_beq_eq_true h2
    subst hln
    obtain ⟨x, y, r, rfl, hg⟩ := xln2_inv h
    exact lv_lmul hx hb hd (xJ_go hg hpc k H locs cells slots ls hw hS hl ha hz)
  | ldiv =>
    have hln : ln = 1 := Nat.eq_of_beq_eq_true h2
    subst hln
    obtain ⟨x, y, r, rfl, hy, hg⟩ := xlnd_inv h
    exact lv_ldiv hx hb hd hy (xJ_go hg hpc k H locs cells slots ls hw hS hl ha hz)
  | lrem =>
    have hln : ln = 1 := Nat.eq_of_beq_eq_true h2
    subst hln
    obtain ⟨x, y, r, rfl, hy, hg⟩ := xlnd_inv h
    exact lv_lrem hx hb hd hy (xJ_go hg hpc k H locs cells slots ls hw hS hl ha hz)
  | lcmp =>
    have hln : ln = 1 := Nat.eq_of_beq_eq_true h2
    subst hln
    simp only [xexec] at h
    split at h
    · exact W.lcmp hx hb hd (xJ_go h hpc k H locs cells slots ls hw hS hl ha hz)
    · cases h
  | pop =>
    have hln : ln = 1 := Nat.eq_of_beq_eq_true h2
    subst hln
    simp only [xexec] at h
    split at h
    · rename_i v r
      cases hc1 : Nat.beq v.category 1 with
      | false => rw [hc1] at h; cases h
      | true =>
        rw [hc1] at h
        exact lv_pop hx hb hd ((xcv_cat g hf v).trans (Nat.eq_of_beq_eq_true hc1)) (xJ_go h hpc k H locs cells slots ls hw hS hl ha hz)
    · cases h
  | dup =>
    have hln : ln = 1 := Nat.eq_of_beq_eq_true h2
    subst hln
    simp only [xexec] at h
    split at h
    · rename_i v r
      cases hc1 : Nat.beq v.category 1 with
      | false => rw [hc1] at h; cases h
      | true =>
        rw [hc1] at h
        exact lv_dup hx hb hd ((xcv_cat g hf v).trans (Nat.eq_of_beq_eq_true hc1)) (xJ_go h hpc k H locs cells slots ls hw hS hl ha hz)
    · cases h
  | dup2 =>
    have hln : ln = 1 := Nat.eq_of_beq_eq_true h2
    subst hln
    simp only [xexec] at h
    split at h
    · rename_i v w r
      cases hc1 : Nat.beq v.category 1 with
      | false => rw [hc1] at h; cases h
      | true =>
        rw [hc1] at h
        cases hc2 : Nat.beq w.category 1 with
        | false => rw [hc2] at h; cases h
        | true =>
          rw [hc2] at h
          exact lv_dup2_11 hx hb hd ((xcv_cat g hf v).trans (Nat.eq_of_beq_eq_true hc1)) ((xcv_cat g hf w).trans (Nat.eq_of_beq_eq_true hc2)) (xJ_go h hpc k H locs cells slots ls hw hS hl ha hz)
    · cases h
  | goto off =>
    have hln : ln = 3 := Nat.eq_of_beq_eq_true h2
    subst hln
    exact lv_goto hx hb hd (of_decide_eq_true h1) (xJ_go h htg k H locs cells slots ls hw hS hl ha hz)
  | _ => exact absurd hi (by simp)
end S4
