/-! SOUNDNESS 12: which instructions call, which end -/
def xisC : Instr → Prop
  | .invokestatic _ => True
  | .invokevirtual _ => True
  | .invokespecial _ => True
  | _ => False
def xisR : Instr → Prop
  | .return_ => True
  | .ireturn => True
  | .lreturn => True
  | .areturn => True
  | _ => False
section S12
variable {X : xX} {M : xT} {σ : xM} {pc : Nat} {lv : xL} {st : List Value} {sh : xS} {o : xO} {lg : Int64} {i : Instr} {tgt : Nat} {cv : Int32} {cs : List (Int32 × Nat)}
section S12a
variable {z : Nat × List Value × xC} {a : xAc}
theorem xgt_nc {lv' : xL} {st' : List Value} {sh' : xS} {o' : xO} {lg' : Int64} (hz : a = .inr (.inl z)) (h : xgt M pc lv' st' sh' o' lg' = some a) : False := by
  subst hz
  unfold xgt at h
  simp at h
theorem xexec_isC (g : xG) (hz : a = .inr (.inl z)) (h : xexec XP M X σ i tgt cv cs pc lv st sh o lg = some a) : xisC i := by
  cases i with
  | aload j => obtain ⟨v, -, hg, -⟩ := xld_inv g h; exact (xgt_nc hz hg).elim
  | aload_n j => obtain ⟨v, -, hg, -⟩ := xld_inv g h; exact (xgt_nc hz hg).elim
  | iload j => obtain ⟨v, -, hg, -⟩ := xld_inv g h; exact (xgt_nc hz hg).elim
  | iload_n j => obtain ⟨v, -, hg, -⟩ := xld_inv g h; exact (xgt_nc hz hg).elim
  | lload j => obtain ⟨v, -, hg, -⟩ := xld_inv g h; exact (xgt_nc hz hg).elim
  | lload_n j => obtain ⟨v, -, hg, -⟩ := xld_inv g h; exact (xgt_nc hz hg).elim
  | astore j => rcases xst_inv h with ⟨-, _, _, -, hg⟩ | ⟨-, _, _, -, hg⟩ | ⟨-, _, _, -, hg⟩ <;> exact (xgt_nc hz hg).elim
  | astore_n j => rcases xst_inv h with ⟨-, _, _, -, hg⟩ | ⟨-, _, _, -, hg⟩ | ⟨-, _, _, -, hg⟩ <;> exact (xgt_nc hz hg).elim
  | istore j => rcases xst_inv h with ⟨-, _, _, -, hg⟩ | ⟨-, _, _, -, hg⟩ | ⟨-, _, _, -, hg⟩ <;> exact (xgt_nc hz hg).elim
  | istore_n j => rcases xst_inv h with ⟨-, _, _, -, hg⟩ | ⟨-, _, _, -, hg⟩ | ⟨-, _, _, -, hg⟩ <;> exact (xgt_nc hz hg).elim
  | lstore j => rcases xst_inv h with ⟨-, _, _, -, hg⟩ | ⟨-, _, _, -, hg⟩ | ⟨-, _, _, -, hg⟩ <;> exact (xgt_nc hz hg).elim
  | lstore_n j => rcases xst_inv h with ⟨-, _, _, -, hg⟩ | ⟨-, _, _, -, hg⟩ | ⟨-, _, _, -, hg⟩ <;> exact (xgt_nc hz hg).elim
  | iconst n => exact (xgt_nc hz h).elim
  | bipush n => exact (xgt_nc hz h).elim
  | sipush n => exact (xgt_nc hz h).elim
  | lconst n => exact (xgt_nc hz h).elim
  | ldc j => simp only [xexec] at h; split at h <;> first | exact (xgt_nc hz h).elim | cases h
  | ldc_w j => simp only [xexec] at h; split at h <;> first | exact (xgt_nc hz h).elim | cases h
  | ldc2_w j => simp only [xexec] at h; split at h <;> first | exact (xgt_nc hz h).elim | cases h
  | iadd => obtain ⟨_, _, _, -, hg⟩ := xin2_inv h; exact (xgt_nc hz hg).elim
  | isub => obtain ⟨_, _, _, -, hg⟩ := xin2_inv h; exact (xgt_nc hz hg).elim
  | imul => obtain ⟨_, _, _, -, hg⟩ := xin2_inv h; exact (xgt_nc hz hg).elim
  | iand => obtain ⟨_, _, _, -, hg⟩ := xin2_inv h; exact (xgt_nc hz hg).elim
  | ior => obtain ⟨_, _, _, -, hg⟩ := xin2_inv h; exact (xgt_nc hz hg).elim
  | ixor => obtain ⟨_, _, _, -, hg⟩ := xin2_inv h; exact (xgt_nc hz hg).elim
  | ishl => obtain ⟨_, _, _, -, hg⟩ := xin2_inv h; exact (xgt_nc hz hg).elim
  | ishr => obtain ⟨_, _, _, -, hg⟩ := xin2_inv h; exact (xgt_nc hz hg).elim
  | iushr => obtain ⟨_, _, _, -, hg⟩ := xin2_inv h; exact (xgt_nc hz hg).elim
  | idiv => obtain ⟨_, _, _, -, -, hg⟩ := xind_inv h; exact (xgt_nc hz hg).elim
  | irem => obtain ⟨_, _, _, -, -, hg⟩ := xind_inv h; exact (xgt_nc hz hg).elim
  | ineg => obtain ⟨_, _, -, hg⟩ := xin1_inv h; exact (xgt_nc hz hg).elim
  | i2b => obtain ⟨_, _, -, hg⟩ := xin1_inv h; exact (xgt_nc hz hg).elim
  | i2s => obtain ⟨_, _, -, hg⟩ := xin1_inv h; exact (xgt_nc hz hg).elim
  | i2c => obtain ⟨_, _, -, hg⟩ := xin1_inv h; exact (xgt_nc hz hg).elim
  | i2l => simp only [xexec] at h; split at h <;> first | exact (xgt_nc hz h).elim | cases h
  | l2i => simp only [xexec] at h; split at h <;> first | exact (xgt_nc hz h).elim | cases h
  | ladd => obtain ⟨_, _, _, -, hg⟩ := xln2_inv h; exact (xgt_nc hz hg).elim
  | lsub => obtain ⟨_, _, _, -, hg⟩ := xln2_inv h; exact (xgt_nc hz hg).elim
  | lmul => obtain ⟨_, _, _, -, hg⟩ := xln2_inv h; exact (xgt_nc hz hg).elim
  | ldiv => obtain ⟨_, _, _, -, -, hg⟩ := xlnd_inv h; exact (xgt_nc hz hg).elim
  | lrem => obtain ⟨_, _, _, -, -, hg⟩ := xlnd_inv h; exact (xgt_nc hz hg).elim
  | lcmp => simp only [xexec] at h; split at h <;> first | exact (xgt_nc hz h).elim | cases h
  | iinc j n => simp only [xexec] at h; split at h <;> first | exact (xgt_nc hz h).elim | cases h
  | pop =>
    simp only [xexec] at h
    split at h
    · rename_i v r
      cases hc1 : Nat.beq v.category 1 with
      | false => rw [hc1] at h; cases h
      | true => rw [hc1] at h; exact (xgt_nc hz h).elim
    · cases h
  | dup =>
    simp only [xexec] at h
    split at h
    · rename_i v r
      cases hc1 : Nat.beq v.category 1 with
      | false => rw [hc1] at h; cases h
      | true => rw [hc1] at h; exact (xgt_nc hz h).elim
    · cases h
  | dup2 =>
    simp only [xexec] at h
    split at h
    · rename_i v w r
      cases hc1 : (Nat.beq v.category 1 && Nat.beq w.category 1) with
      | false => rw [hc1] at h; cases h
      | true => rw [hc1] at h; exact (xgt_nc hz h).elim
    · cases h
  | goto off => exact (xgt_nc hz h).elim
  | ifCond cd off =>
    simp only [xexec] at h
    split at h
    · simp only [Option.some.injEq] at h; subst h; cases hz
    · cases h
  | if_icmp cd off =>
    simp only [xexec] at h
    split at h
    · simp only [Option.some.injEq] at h; subst h; cases hz
    · cases h
  | tableswitch _ _ _ _ =>
    simp only [xexec] at h
    split at h
    · simp only [Option.some.injEq] at h; subst h; cases hz
    · cases h
  | getfield j => obtain ⟨_, hg⟩ := xgetf_inv h; exact (xgt_nc hz hg).elim
  | putfield j =>
    obtain ⟨ci, k, ty, fin, v, q, r, tags, -, -, -, -, hxa, hcase⟩ := xputf_inv (σ := σ) h
    rcases hcase with ⟨x, -, -, -, hg⟩ | ⟨x, -, -, -, -, hg⟩ | ⟨t, -, -, -, -, hg⟩
    · exact (xgt_nc hz hg).elim
    · exact (xgt_nc hz hg).elim
    · exact (xgt_nc hz hg).elim
  | getstatic j => simp only [xexec] at h; split at h <;> first | exact (xgt_nc hz h).elim | cases h
  | iaload => obtain ⟨_, _, _, _, _, -, -, -, hg⟩ := xaload_inv h; exact (xgt_nc hz hg).elim
  | caload => obtain ⟨_, _, _, _, _, -, -, -, hg⟩ := xaload_inv h; exact (xgt_nc hz hg).elim
  | baload => obtain ⟨_, _, _, _, _, -, -, -, hg⟩ := xaload_inv h; exact (xgt_nc hz hg).elim
  | iastore => obtain ⟨_, _, _, _, _, _, -, -, -, -, -, hg⟩ := xastore_inv h; exact (xgt_nc hz hg).elim
  | castore => obtain ⟨_, _, _, _, _, _, -, -, -, -, -, hg⟩ := xastore_inv h; exact (xgt_nc hz hg).elim
  | arraylength =>
    simp only [xexec] at h
    split at h
    · split at h
      · exact (xgt_nc hz h).elim
      · cases h
    · cases h
  | newarray aty =>
    simp only [xexec] at h
    split at h
    · exact (xgt_nc hz (x_ite h).2).elim
    · exact (xgt_nc hz (x_ite h).2).elim
    · cases h
  | new j =>
    simp only [xexec] at h
    split at h
    · rename_i ci tags hfd
      cases hcnd : (Nat.ble sh.length 899 && (!(xmem tags 1) || Nat.ble (100 * sh.length) XP.2.2.2.2.2.2.2.2)) with
      | false => rw [hcnd] at h; cases h
      | true => rw [hcnd, cond_true] at h; exact (xgt_nc hz h).elim
    · cases h
  | invokestatic j => exact trivial
  | invokevirtual j => exact trivial
  | invokespecial j => exact trivial
  | return_ =>
    simp only [xexec, xret] at h
    split at h
    · simp only [Option.some.injEq] at h; subst h; cases hz
    · cases h
  | ireturn =>
    simp only [xexec, xret] at h
    split at h
    · simp only [Option.some.injEq] at h; subst h; cases hz
    · have h := (x_ite h).2; simp only [Option.some.injEq] at h; subst h; cases hz
    · have h := (x_ite h).2; simp only [Option.some.injEq] at h; subst h; cases hz
    · have h := (x_ite h).2; simp only [Option.some.injEq] at h; subst h; cases hz
    · cases h
  | lreturn =>
    simp only [xexec, xret] at h
    split at h
    · simp only [Option.some.injEq] at h; subst h; cases hz
    · cases h
  | areturn =>
    simp only [xexec, xret] at h
    split at h
    · simp only [Option.some.injEq] at h; subst h; cases hz
    · cases h
  | _ => cases h
end S12a
variable {z : xOut} {a : xAc}
theorem xgt_nr {lv' : xL} {st' : List Value} {sh' : xS} {o' : xO} {lg' : Int64} (hz : a = .inl z) (h : xgt M pc lv' st' sh' o' lg' = some a) : False := by
  subst hz
  unfold xgt at h
  simp at h
theorem xcallA_nr {kd idx : Nat} (hz : a = .inl z) (h : xcallA XP M σ kd idx pc lv sh o lg st = some a) : False := by
  unfold xcallA at h
  split at h
  · rename_i kind k' n rcv hfd
    cases h0 : Nat.beq kind kd with
    | false => rw [h0] at h; cases h
    | true =>
      rw [h0, cond_true] at h
      cases h3 : Nat.beq kd 3 with
      | true =>
        rw [h3, cond_true] at h
        split at h
        · rename_i n dp q1 sp q0 r
          cases hq : (Nat.ble q0 899 && (Nat.ble q1 899 && Nat.ble (xcat r) 8)) with
          | false => rw [hq] at h; cases h
          | true =>
            rw [hq, cond_true] at h
            split at h
            · exact xgt_nr hz (x_ite h).2
            · cases h
        · cases h
      | false =>
        rw [h3, cond_false] at h
        cases h4 : Nat.beq kd 4 with
        | true =>
          rw [h4, cond_true] at h
          split at h
          · rename_i q r
            cases hq : (Nat.ble q 899 && Nat.ble (xcat r) 8) with
            | false => rw [hq] at h; cases h
            | true => rw [hq, cond_true] at h; exact xgt_nr hz h
          · cases h
        | false =>
          rw [h4, cond_false] at h
          cases h5 : Nat.beq kd 5 with
          | true =>
            rw [h5, cond_true] at h
            split at h
            · rename_i y x r
              cases hq : Nat.ble (xcat r) 8 with
              | false => rw [hq] at h; cases h
              | true => rw [hq, cond_true] at h; exact xgt_nr hz h
            · cases h
          | false =>
            rw [h5, cond_false] at h
            cases h6 : Nat.beq kd 6 with
            | true =>
              rw [h6, cond_true] at h
              split at h
              · rename_i y x r
                cases hq : Nat.ble (xcat r) 8 with
                | false => rw [hq] at h; cases h
                | true => rw [hq, cond_true] at h; exact xgt_nr hz h
              · cases h
            | false =>
              rw [h6, cond_false] at h
              cases h7 : Nat.beq kd 7 with
              | true =>
                rw [h7, cond_true] at h
                split at h
                · rename_i y x r
                  cases hq : Nat.ble (xcat r) 8 with
                  | false => rw [hq] at h; cases h
                  | true => rw [hq, cond_true] at h; exact xgt_nr hz h
                · cases h
              | false =>
                rw [h7, cond_false] at h
                have aux : ∀ (b1 b2 : Bool) (w : Nat × List Value × xC), ((bif b1 then (bif b2 then some (Sum.inr (Sum.inl w)) else none) else none) : Option xAc) = some a → False := by
                  intro b1 b2 w h
                  cases b1
                  · cases h
                  · cases b2
                    · cases h
                    · simp only [cond_true, Option.some.injEq] at h; subst h; cases hz
                exact aux _ _ _ h
  · cases h
theorem xexec_isR (g : xG) (hz : a = .inl z) (h : xexec XP M X σ i tgt cv cs pc lv st sh o lg = some a) : xisR i := by
  cases i with
  | aload j => obtain ⟨v, -, hg, -⟩ := xld_inv g h; exact (xgt_nr hz hg).elim
  | aload_n j => obtain ⟨v, -, hg, -⟩ := xld_inv g h; exact (xgt_nr hz hg).elim
  | iload j => obtain ⟨v, -, hg, -⟩ := xld_inv g h; exact (xgt_nr hz hg).elim
  | iload_n j => obtain ⟨v, -, hg, -⟩ := xld_inv g h; exact (xgt_nr hz hg).elim
  | lload j => obtain ⟨v, -, hg, -⟩ := xld_inv g h; exact (xgt_nr hz hg).elim
  | lload_n j => obtain ⟨v, -, hg, -⟩ := xld_inv g h; exact (xgt_nr hz hg).elim
  | astore j => rcases xst_inv h with ⟨-, _, _, -, hg⟩ | ⟨-, _, _, -, hg⟩ | ⟨-, _, _, -, hg⟩ <;> exact (xgt_nr hz hg).elim
  | astore_n j => rcases xst_inv h with ⟨-, _, _, -, hg⟩ | ⟨-, _, _, -, hg⟩ | ⟨-, _, _, -, hg⟩ <;> exact (xgt_nr hz hg).elim
  | istore j => rcases xst_inv h with ⟨-, _, _, -, hg⟩ | ⟨-, _, _, -, hg⟩ | ⟨-, _, _, -, hg⟩ <;> exact (xgt_nr hz hg).elim
  | istore_n j => rcases xst_inv h with ⟨-, _, _, -, hg⟩ | ⟨-, _, _, -, hg⟩ | ⟨-, _, _, -, hg⟩ <;> exact (xgt_nr hz hg).elim
  | lstore j => rcases xst_inv h with ⟨-, _, _, -, hg⟩ | ⟨-, _, _, -, hg⟩ | ⟨-, _, _, -, hg⟩ <;> exact (xgt_nr hz hg).elim
  | lstore_n j => rcases xst_inv h with ⟨-, _, _, -, hg⟩ | ⟨-, _, _, -, hg⟩ | ⟨-, _, _, -, hg⟩ <;> exact (xgt_nr hz hg).elim
  | iconst n => exact (xgt_nr hz h).elim
  | bipush n => exact (xgt_nr hz h).elim
  | sipush n => exact (xgt_nr hz h).elim
  | lconst n => exact (xgt_nr hz h).elim
  | ldc j => simp only [xexec] at h; split at h <;> first | exact (xgt_nr hz h).elim | cases h
  | ldc_w j => simp only [xexec] at h; split at h <;> first | exact (xgt_nr hz h).elim | cases h
  | ldc2_w j => simp only [xexec] at h; split at h <;> first | exact (xgt_nr hz h).elim | cases h
  | iadd => obtain ⟨_, _, _, -, hg⟩ := xin2_inv h; exact (xgt_nr hz hg).elim
  | isub => obtain ⟨_, _, _, -, hg⟩ := xin2_inv h; exact (xgt_nr hz hg).elim
  | imul => obtain ⟨_, _, _, -, hg⟩ := xin2_inv h; exact (xgt_nr hz hg).elim
  | iand => obtain ⟨_, _, _, -, hg⟩ := xin2_inv h; exact (xgt_nr hz hg).elim
  | ior => obtain ⟨_, _, _, -, hg⟩ := xin2_inv h; exact (xgt_nr hz hg).elim
  | ixor => obtain ⟨_, _, _, -, hg⟩ := xin2_inv h; exact (xgt_nr hz hg).elim
  | ishl => obtain ⟨_, _, _, -, hg⟩ := xin2_inv h; exact (xgt_nr hz hg).elim
  | ishr => obtain ⟨_, _, _, -, hg⟩ := xin2_inv h; exact (xgt_nr hz hg).elim
  | iushr => obtain ⟨_, _, _, -, hg⟩ := xin2_inv h; exact (xgt_nr hz hg).elim
  | idiv => obtain ⟨_, _, _, -, -, hg⟩ := xind_inv h; exact (xgt_nr hz hg).elim
  | irem => obtain ⟨_, _, _, -, -, hg⟩ := xind_inv h; exact (xgt_nr hz hg).elim
  | ineg => obtain ⟨_, _, -, hg⟩ := xin1_inv h; exact (xgt_nr hz hg).elim
  | i2b => obtain ⟨_, _, -, hg⟩ := xin1_inv h; exact (xgt_nr hz hg).elim
  | i2s => obtain ⟨_, _, -, hg⟩ := xin1_inv h; exact (xgt_nr hz hg).elim
  | i2c => obtain ⟨_, _, -, hg⟩ := xin1_inv h; exact (xgt_nr hz hg).elim
  | i2l => simp only [xexec] at h; split at h <;> first | exact (xgt_nr hz h).elim | cases h
  | l2i => simp only [xexec] at h; split at h <;> first | exact (xgt_nr hz h).elim | cases h
  | ladd => obtain ⟨_, _, _, -, hg⟩ := xln2_inv h; exact (xgt_nr hz hg).elim
  | lsub => obtain ⟨_, _, _, -, hg⟩ := xln2_inv h; exact (xgt_nr hz hg).elim
  | lmul => obtain ⟨_, _, _, -, hg⟩ := xln2_inv h; exact (xgt_nr hz hg).elim
  | ldiv => obtain ⟨_, _, _, -, -, hg⟩ := xlnd_inv h; exact (xgt_nr hz hg).elim
  | lrem => obtain ⟨_, _, _, -, -, hg⟩ := xlnd_inv h; exact (xgt_nr hz hg).elim
  | lcmp => simp only [xexec] at h; split at h <;> first | exact (xgt_nr hz h).elim | cases h
  | iinc j n => simp only [xexec] at h; split at h <;> first | exact (xgt_nr hz h).elim | cases h
  | pop =>
    simp only [xexec] at h
    split at h
    · rename_i v r
      cases hc1 : Nat.beq v.category 1 with
      | false => rw [hc1] at h; cases h
      | true => rw [hc1] at h; exact (xgt_nr hz h).elim
    · cases h
  | dup =>
    simp only [xexec] at h
    split at h
    · rename_i v r
      cases hc1 : Nat.beq v.category 1 with
      | false => rw [hc1] at h; cases h
      | true => rw [hc1] at h; exact (xgt_nr hz h).elim
    · cases h
  | dup2 =>
    simp only [xexec] at h
    split at h
    · rename_i v w r
      cases hc1 : (Nat.beq v.category 1 && Nat.beq w.category 1) with
      | false => rw [hc1] at h; cases h
      | true => rw [hc1] at h; exact (xgt_nr hz h).elim
    · cases h
  | goto off => exact (xgt_nr hz h).elim
  | ifCond cd off =>
    simp only [xexec] at h
    split at h
    · simp only [Option.some.injEq] at h; subst h; cases hz
    · cases h
  | if_icmp cd off =>
    simp only [xexec] at h
    split at h
    · simp only [Option.some.injEq] at h; subst h; cases hz
    · cases h
  | tableswitch _ _ _ _ =>
    simp only [xexec] at h
    split at h
    · simp only [Option.some.injEq] at h; subst h; cases hz
    · cases h
  | getfield j => obtain ⟨_, hg⟩ := xgetf_inv h; exact (xgt_nr hz hg).elim
  | putfield j =>
    obtain ⟨ci, k, ty, fin, v, q, r, tags, -, -, -, -, hxa, hcase⟩ := xputf_inv (σ := σ) h
    rcases hcase with ⟨x, -, -, -, hg⟩ | ⟨x, -, -, -, -, hg⟩ | ⟨t, -, -, -, -, hg⟩
    · exact (xgt_nr hz hg).elim
    · exact (xgt_nr hz hg).elim
    · exact (xgt_nr hz hg).elim
  | getstatic j => simp only [xexec] at h; split at h <;> first | exact (xgt_nr hz h).elim | cases h
  | iaload => obtain ⟨_, _, _, _, _, -, -, -, hg⟩ := xaload_inv h; exact (xgt_nr hz hg).elim
  | caload => obtain ⟨_, _, _, _, _, -, -, -, hg⟩ := xaload_inv h; exact (xgt_nr hz hg).elim
  | baload => obtain ⟨_, _, _, _, _, -, -, -, hg⟩ := xaload_inv h; exact (xgt_nr hz hg).elim
  | iastore => obtain ⟨_, _, _, _, _, _, -, -, -, -, -, hg⟩ := xastore_inv h; exact (xgt_nr hz hg).elim
  | castore => obtain ⟨_, _, _, _, _, _, -, -, -, -, -, hg⟩ := xastore_inv h; exact (xgt_nr hz hg).elim
  | arraylength =>
    simp only [xexec] at h
    split at h
    · split at h
      · exact (xgt_nr hz h).elim
      · cases h
    · cases h
  | newarray aty =>
    simp only [xexec] at h
    split at h
    · exact (xgt_nr hz (x_ite h).2).elim
    · exact (xgt_nr hz (x_ite h).2).elim
    · cases h
  | new j =>
    simp only [xexec] at h
    split at h
    · rename_i ci tags hfd
      cases hcnd : (Nat.ble sh.length 899 && (!(xmem tags 1) || Nat.ble (100 * sh.length) XP.2.2.2.2.2.2.2.2)) with
      | false => rw [hcnd] at h; cases h
      | true => rw [hcnd, cond_true] at h; exact (xgt_nr hz h).elim
    · cases h
  | invokestatic j =>
    simp only [xexec] at h
    split at h
    · rename_i kind _ _ _ _
      cases hk : (Nat.beq kind 4 || (Nat.beq kind 1 || Nat.beq kind 2)) with
      | true => rw [hk] at h; cases h
      | false => rw [hk, cond_false] at h; exact (xcallA_nr hz h).elim
    · cases h
  | invokevirtual j => exact (xcallA_nr hz h).elim
  | invokespecial j =>
    simp only [xexec] at h
    split at h
    · rename_i kind _ _ _ _
      cases hk : (Nat.beq kind 4 || Nat.beq kind 2) with
      | false => rw [hk] at h; cases h
      | true => rw [hk, cond_true] at h; exact (xcallA_nr hz h).elim
    · cases h
  | return_ => exact trivial
  | ireturn => exact trivial
  | lreturn => exact trivial
  | areturn => exact trivial
  | _ => cases h
end S12
