/-! SOUNDNESS 9: a run only makes cells; every simple step; the end of a method -/
def xmon (sh : xS) : xAc → Prop
  | .inl (_, sh', _, _) => sh.length ≤ sh'.length ∧ xsl sh ≤ xsl sh'
  | .inr (.inl (_, _, _, _, _, sh', _, _)) => sh' = sh
  | .inr (.inr (_, _, _, sh', _, _)) => sh.length ≤ sh'.length ∧ xsl sh ≤ xsl sh'
section S9a
variable {X : xX} {M : xT} {σ : xM} {pc : Nat} {lv : xL} {st : List Value} {sh : xS} {o : xO} {lg : Int64} {a : xAc}
theorem xgt_mon {lv' : xL} {st' : List Value} {sh' : xS} {o' : xO} {lg' : Int64} (h : xgt M pc lv' st' sh' o' lg' = some a) (h1 : sh.length ≤ sh'.length ∧ xsl sh ≤ xsl sh') : xmon sh a := by
  unfold xgt at h
  simp only [Option.some.injEq] at h
  subst h
  exact h1
theorem xgt_mo {lv' : xL} {st' : List Value} {o' : xO} {lg' : Int64} (h : xgt M pc lv' st' sh o' lg' = some a) : xmon sh a := xgt_mon h ⟨Nat.le_refl _, Nat.le_refl _⟩
theorem xgetf_inv {idx : Nat} (h : xgetf XP M σ idx pc lv sh o lg st = some a) : ∃ st', xgt M pc lv st' sh o lg = some a := by
  unfold xgetf at h
  split at h
  · split at h
    · rename_i q r
      cases hq : Nat.ble q 899 with
      | false => rw [hq] at h; cases h
      | true =>
        rw [hq, cond_true] at h
        split at h
        · rename_i ci k _ _ _ _ _ ci' tags hxa
          cases hcb : Nat.beq ci' ci with
          | false => rw [hcb] at h; cases h
          | true =>
            rw [hcb, cond_true] at h
            split at h
            · exact ⟨_, h⟩
            · cases hlg : Nat.beq (100 * q + k + 1) XP.2.2.2.2.2.2.2.2 with
              | false => rw [hlg] at h; cases h
              | true => rw [hlg, cond_true] at h; exact ⟨_, h⟩
            · cases h
            · rename_i t _
              cases ht9 : Nat.ble t 899 with
              | false => rw [ht9] at h; cases h
              | true => rw [ht9, cond_true] at h; exact ⟨_, h⟩
            · cases h
        · cases h
    · rename_i ci k _ _ _ _ w r
      cases hcb : Nat.beq ci 100 with
      | false => rw [hcb] at h; cases h
      | true =>
        rw [hcb, cond_true] at h
        cases hk : Nat.beq k 0 with
        | false => rw [hk, cond_false] at h; exact ⟨_, h⟩
        | true => rw [hk, cond_true] at h; exact ⟨_, h⟩
    · cases h
  · cases h
theorem xcallA_mon {kd idx : Nat} (h : xcallA XP M σ kd idx pc lv sh o lg st = some a) : xmon sh a := by
  unfold xcallA at h
  split at h
  · rename_i kind k' n rcv hfd
    cases h0 : Nat.beq kind kd with
    | false => rw [h0] at h; cases h
    | true =>
      rw [h0, cond_true] at h
      cases h3 : Nat.beq kd 3 with
      | true =>
        rw [h3, cond_true] at h
        split at h
        · rename_i n dp q1 sp q0 r
          cases hq : (Nat.ble q0 899 && (Nat.ble q1 899 && Nat.ble (xcat r) 8)) with
          | false => rw [hq] at h; cases h
          | true =>
            rw [hq, cond_true] at h
            split at h
            · exact xgt_mo (x_ite h).2
            · cases h
        · cases h
      | false =>
        rw [h3, cond_false] at h
        cases h4 : Nat.beq kd 4 with
        | true =>
          rw [h4, cond_true] at h
          split at h
          · rename_i q r
            cases hq : (Nat.ble q 899 && Nat.ble (xcat r) 8) with
            | false => rw [hq] at h; cases h
            | true => rw [hq, cond_true] at h; exact xgt_mo h
          · cases h
        | false =>
          rw [h4, cond_false] at h
          cases h5 : Nat.beq kd 5 with
          | true =>
            rw [h5, cond_true] at h
            split at h
            · rename_i y x r
              cases hq : Nat.ble (xcat r) 8 with
              | false => rw [hq] at h; cases h
              | true => rw [hq, cond_true] at h; exact xgt_mo h
            · cases h
          | false =>
            rw [h5, cond_false] at h
            cases h6 : Nat.beq kd 6 with
            | true =>
              rw [h6, cond_true] at h
              split at h
              · rename_i y x r
                cases hq : Nat.ble (xcat r) 8 with
                | false => rw [hq] at h; cases h
                | true => rw [hq, cond_true] at h; exact xgt_mo h
              · cases h
            | false =>
              rw [h6, cond_false] at h
              cases h7 : Nat.beq kd 7 with
              | true =>
                rw [h7, cond_true] at h
                split at h
                · rename_i y x r
                  cases hq : Nat.ble (xcat r) 8 with
                  | false => rw [hq] at h; cases h
                  | true => rw [hq, cond_true] at h; exact xgt_mo h
                · cases h
              | false =>
                rw [h7, cond_false] at h
                have aux : ∀ (b1 b2 : Bool) (z : Nat × List Value × xC), ((bif b1 then (bif b2 then some (Sum.inr (Sum.inl z)) else none) else none) : Option xAc) = some a → a = .inr (.inl z) := by
                  intro b1 b2 z h
                  cases b1
                  · cases h
                  · cases b2
                    · cases h
                    · simp only [cond_true, Option.some.injEq] at h
                      exact h.symm
                have e := aux _ _ _ h
                subst e
                rfl
  · cases h
theorem xexec_mon {i : Instr} {tgt : Nat} {cv : Int32} {cs : List (Int32 × Nat)} (g : xG) (h : xexec XP M X σ i tgt cv cs pc lv st sh o lg = some a) : xmon sh a := by
  cases i with
  | aload j => obtain ⟨v, -, hg, -⟩ := xld_inv g h; exact xgt_mo hg
  | aload_n j => obtain ⟨v, -, hg, -⟩ := xld_inv g h; exact xgt_mo hg
  | iload j => obtain ⟨v, -, hg, -⟩ := xld_inv g h; exact xgt_mo hg
  | iload_n j => obtain ⟨v, -, hg, -⟩ := xld_inv g h; exact xgt_mo hg
  | lload j => obtain ⟨v, -, hg, -⟩ := xld_inv g h; exact xgt_mo hg
  | lload_n j => obtain ⟨v, -, hg, -⟩ := xld_inv g h; exact xgt_mo hg
  | astore j => rcases xst_inv h with ⟨-, _, _, -, hg⟩ | ⟨-, _, _, -, hg⟩ | ⟨-, _, _, -, hg⟩ <;> exact xgt_mo hg
  | astore_n j => rcases xst_inv h with ⟨-, _, _, -, hg⟩ | ⟨-, _, _, -, hg⟩ | ⟨-, _, _, -, hg⟩ <;> exact xgt_mo hg
  | istore j => rcases xst_inv h with ⟨-, _, _, -, hg⟩ | ⟨-, _, _, -, hg⟩ | ⟨-, _, _, -, hg⟩ <;> exact xgt_mo hg
  | istore_n j => rcases xst_inv h with ⟨-, _, _, -, hg⟩ | ⟨-, _, _, -, hg⟩ | ⟨-, _, _, -, hg⟩ <;> exact xgt_mo hg
  | lstore j => rcases xst_inv h with ⟨-, _, _, -, hg⟩ | ⟨-, _, _, -, hg⟩ | ⟨-, _, _, -, hg⟩ <;> exact xgt_mo hg
  | lstore_n j => rcases xst_inv h with ⟨-, _, _, -, hg⟩ | ⟨-, _, _, -, hg⟩ | ⟨-, _, _, -, hg⟩ <;> exact xgt_mo hg
  | iconst n => exact xgt_mo h
  | bipush n => exact xgt_mo h
  | sipush n => exact xgt_mo h
  | lconst n => exact xgt_mo h
  | ldc j => simp only [xexec] at h; split at h <;> first | exact xgt_mo h | cases h
  | ldc_w j => simp only [xexec] at h; split at h <;> first | exact xgt_mo h | cases h
  | ldc2_w j => simp only [xexec] at h; split at h <;> first | exact xgt_mo h | cases h
  | iadd => obtain ⟨_, _, _, -, hg⟩ := xin2_inv h; exact xgt_mo hg
  | isub => obtain ⟨_, _, _, -, hg⟩ := xin2_inv h; exact xgt_mo hg
  | imul => obtain ⟨_, _, _, -, hg⟩ := xin2_inv h; exact xgt_mo hg
  | iand => obtain ⟨_, _, _, -, hg⟩ := xin2_inv h; exact xgt_mo hg
  | ior => obtain ⟨_, _, _, -, hg⟩ := xin2_inv h; exact xgt_mo hg
  | ixor => obtain ⟨_, _, _, -, hg⟩ := xin2_inv h; exact xgt_mo hg
  | ishl => obtain ⟨_, _, _, -, hg⟩ := xin2_inv h; exact xgt_mo hg
  | ishr => obtain ⟨_, _, _, -, hg⟩ := xin2_inv h; exact xgt_mo hg
  | iushr => obtain ⟨_, _, _, -, hg⟩ := xin2_inv h; exact xgt_mo hg
  | idiv => obtain ⟨_, _, _, -, -, hg⟩ := xind_inv h; exact xgt_mo hg
  | irem => obtain ⟨_, _, _, -, -, hg⟩ := xind_inv h; exact xgt_mo hg
  | ineg => obtain ⟨_, _, -, hg⟩ := xin1_inv h; exact xgt_mo hg
  | i2b => obtain ⟨_, _, -, hg⟩ := xin1_inv h; exact xgt_mo hg
  | i2s => obtain ⟨_, _, -, hg⟩ := xin1_inv h; exact xgt_mo hg
  | i2c => obtain ⟨_, _, -, hg⟩ := xin1_inv h; exact xgt_mo hg
  | i2l => simp only [xexec] at h; split at h <;> first | exact xgt_mo h | cases h
  | l2i => simp only [xexec] at h; split at h <;> first | exact xgt_mo h | cases h
  | ladd => obtain ⟨_, _, _, -, hg⟩ := xln2_inv h; exact xgt_mo hg
  | lsub => obtain ⟨_, _, _, -, hg⟩ := xln2_inv h; exact xgt_mo hg
  | lmul => obtain ⟨_, _, _, -, hg⟩ := xln2_inv h; exact xgt_mo hg
  | ldiv => obtain ⟨_, _, _, -, -, hg⟩ := xlnd_inv h; exact xgt_mo hg
  | lrem => obtain ⟨_, _, _, -, -, hg⟩ := xlnd_inv h; exact xgt_mo hg
  | lcmp => simp only [xexec] at h; split at h <;> first | exact xgt_mo h | cases h
  | iinc j n => simp only [xexec] at h; split at h <;> first | exact xgt_mo h | cases h
  | pop =>
    simp only [xexec] at h
    split at h
    · rename_i v r
      cases hc1 : Nat.beq v.category 1 with
      | false => rw [hc1] at h; cases h
      | true => rw [hc1] at h; exact xgt_mo h
    · cases h
  | dup =>
    simp only [xexec] at h
    split at h
    · rename_i v r
      cases hc1 : Nat.beq v.category 1 with
      | false => rw [hc1] at h; cases h
      | true => rw [hc1] at h; exact xgt_mo h
    · cases h
  | dup2 =>
    simp only [xexec] at h
    split at h
    · rename_i v w r
      cases hc1 : (Nat.beq v.category 1 && Nat.beq w.category 1) with
      | false => rw [hc1] at h; cases h
      | true => rw [hc1] at h; exact xgt_mo h
    · cases h
  | goto off => exact xgt_mo h
  | ifCond cd off =>
    simp only [xexec] at h
    split at h
    · simp only [Option.some.injEq] at h; subst h; exact ⟨Nat.le_refl _, Nat.le_refl _⟩
    · cases h
  | if_icmp cd off =>
    simp only [xexec] at h
    split at h
    · simp only [Option.some.injEq] at h; subst h; exact ⟨Nat.le_refl _, Nat.le_refl _⟩
    · cases h
  | tableswitch _ _ _ _ =>
    simp only [xexec] at h
    split at h
    · simp only [Option.some.injEq] at h; subst h; exact ⟨Nat.le_refl _, Nat.le_refl _⟩
    · cases h
  | getfield j => obtain ⟨_, hg⟩ := xgetf_inv h; exact xgt_mo hg
  | putfield j =>
    obtain ⟨ci, k, ty, fin, v, q, r, tags, -, -, -, -, hxa, hcase⟩ := xputf_inv (σ := σ) h
    rcases hcase with ⟨x, -, -, -, hg⟩ | ⟨x, -, -, -, -, hg⟩ | ⟨t, -, -, -, -, hg⟩
    · exact xgt_mo hg
    · exact xgt_mo hg
    · exact xgt_mon hg ⟨by rw [List.length_set]; exact Nat.le_refl _, by rw [xsl_set hxa (by simp [xsz])]; exact Nat.le_refl _⟩
  | getstatic j => simp only [xexec] at h; split at h <;> first | exact xgt_mo h | cases h
  | iaload => obtain ⟨_, _, _, _, _, -, -, -, hg⟩ := xaload_inv h; exact xgt_mo hg
  | caload => obtain ⟨_, _, _, _, _, -, -, -, hg⟩ := xaload_inv h; exact xgt_mo hg
  | baload => obtain ⟨_, _, _, _, _, -, -, -, hg⟩ := xaload_inv h; exact xgt_mo hg
  | iastore => obtain ⟨_, _, _, _, _, _, -, -, -, -, -, hg⟩ := xastore_inv h; exact xgt_mo hg
  | castore => obtain ⟨_, _, _, _, _, _, -, -, -, -, -, hg⟩ := xastore_inv h; exact xgt_mo hg
  | arraylength =>
    simp only [xexec] at h
    split at h
    · split at h
      · exact xgt_mo h
      · cases h
    · cases h
  | newarray aty =>
    simp only [xexec] at h
    split at h
    · exact xgt_mon (x_ite h).2 ⟨by rw [List.length_append]; omega, by rw [xsl_app]; omega⟩
    · exact xgt_mon (x_ite h).2 ⟨by rw [List.length_append]; omega, by rw [xsl_app]; omega⟩
    · cases h
  | new j =>
    simp only [xexec] at h
    split at h
    · rename_i ci tags hfd
      cases hcnd : (Nat.ble sh.length 899 && (!(xmem tags 1) || Nat.ble (100 * sh.length) XP.2.2.2.2.2.2.2.2)) with
      | false => rw [hcnd] at h; cases h
      | true => rw [hcnd, cond_true] at h; exact xgt_mon h ⟨by rw [List.length_append]; omega, by rw [xsl_app]; omega⟩
    · cases h
  | invokestatic j =>
    simp only [xexec] at h
    split at h
    · rename_i kind _ _ _ _
      cases hk : (Nat.beq kind 4 || (Nat.beq kind 1 || Nat.beq kind 2)) with
      | true => rw [hk] at h; cases h
      | false => rw [hk, cond_false] at h; exact xcallA_mon h
    · cases h
  | invokevirtual j => exact xcallA_mon h
  | invokespecial j =>
    simp only [xexec] at h
    split at h
    · rename_i kind _ _ _ _
      cases hk : (Nat.beq kind 4 || Nat.beq kind 2) with
      | false => rw [hk] at h; cases h
      | true => rw [hk, cond_true] at h; exact xcallA_mon h
    · cases h
  | return_ =>
    simp only [xexec, xret] at h
    split at h
    · simp only [Option.some.injEq] at h; subst h; exact ⟨Nat.le_refl _, Nat.le_refl _⟩
    · cases h
  | ireturn =>
    simp only [xexec, xret] at h
    split at h
    · simp only [Option.some.injEq] at h; subst h; exact ⟨Nat.le_refl _, Nat.le_refl _⟩
    · have h := (x_ite h).2; simp only [Option.some.injEq] at h; subst h; exact ⟨Nat.le_refl _, Nat.le_refl _⟩
    · have h := (x_ite h).2; simp only [Option.some.injEq] at h; subst h; exact ⟨Nat.le_refl _, Nat.le_refl _⟩
    · have h := (x_ite h).2; simp only [Option.some.injEq] at h; subst h; exact ⟨Nat.le_refl _, Nat.le_refl _⟩
    · cases h
  | lreturn =>
    simp only [xexec, xret] at h
    split at h
    · simp only [Option.some.injEq] at h; subst h; exact ⟨Nat.le_refl _, Nat.le_refl _⟩
    · cases h
  | areturn =>
    simp only [xexec, xret] at h
    split at h
    · simp only [Option.some.injEq] at h; subst h; exact ⟨Nat.le_refl _, Nat.le_refl _⟩
    · cases h
  | _ => cases h
theorem xact_mon {c : xC} (g : xG) (h : xact XP M X σ c = some a) : xmon c.2.2.2.1 a := by
  obtain ⟨pc, lv, st, sh, o, lg⟩ := c
  unfold xact at h
  cases hl : Nat.ble 100000 pc with
  | true =>
    simp only [hl, cond_true] at h
    split at h
    · simp only [Option.some.injEq] at h; subst h; exact ⟨Nat.le_refl _, Nat.le_refl _⟩
    · cases h
  | false =>
    simp only [hl, cond_false] at h
    split at h
    · split at h
      · exact xexec_mon g h
      · cases h
    · cases h
end S9a
theorem xgo_mon {orc : xOrc} {M : xT} {X : xX} {σ : xM} (g : xG) (ho : ∀ k as sh lg σ r sh' ol' lg', orc k as sh lg σ = some (r, sh', ol', lg') → sh.length ≤ sh'.length ∧ xsl sh ≤ xsl sh') : ∀ (n : Nat) (c : xC) (r : Option Value) (sh' : xS) (ol' : xO) (lg' : Int64), xgo XP orc M X σ n c = some (r, sh', ol', lg') → c.2.2.2.1.length ≤ sh'.length ∧ xsl c.2.2.2.1 ≤ xsl sh' := by
  intro n
  induction n with
  | zero => intro c r sh' ol' lg' h; cases h
  | succ n ih =>
    intro c r sh' ol' lg' h
    rw [xgo] at h
    split at h
    · cases h
    · rename_i o ha
      have hm := xact_mon g ha
      cases h
      exact hm
    · rename_i ha
      have hm := xact_mon g ha
      split at h
      · cases h
      · rename_i ho1
        have h1 := ho _ _ _ _ _ _ _ _ _ ho1
        have h2 := ih _ _ _ _ _ h
        dsimp only [xmon] at hm
        dsimp only at h2
        rw [← hm]
        omega
    · rename_i c1 ha
      have hm := xact_mon g ha
      have h2 := ih _ _ _ _ _ h
      obtain ⟨a1, a2, a3, a4, a5, a6⟩ := c1
      dsimp only [xmon] at hm
      dsimp only at h2
      omega
theorem xcall_mon (g : xG) {X : xX} : ∀ (d N k : Nat) (as : List Value) (sh : xS) (lg : Int64) (σ : xM) (r : Option Value) (sh' : xS) (ol' : xO) (lg' : Int64), xcall XP X d N k as sh lg σ = some (r, sh', ol', lg') → sh.length ≤ sh'.length ∧ xsl sh ≤ xsl sh' := by
  intro d
  induction d with
  | zero => intro N k as sh lg σ r sh' ol' lg' h; cases h
  | succ d ih =>
    intro N k as sh lg σ r sh' ol' lg' h
    simp only [xcall] at h
    split at h
    · cases h
    · rename_i M hM
      cases hb : Nat.ble (xcat as) M.2.2.2.2.2 with
      | false => rw [hb] at h; cases h
      | true =>
        rw [hb, cond_true] at h
        exact xgo_mon g (fun k as sh lg σ r sh' ol' lg' h => ih N k as sh lg σ r sh' ol' lg' h) N _ r sh' ol' lg' h
