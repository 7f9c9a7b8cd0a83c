/-! SOUNDNESS 8: copies, Math, labels; every simple step -/
section S8
variable {p : Program} {l : Launch} {e : Env} {R : Room} {s : State} {m : MethodId} {args : Array Value} {below : List Frame} {meth : Method} {c : Code} {H : Heap} {locs : List Loc} {cells slots : Nat} {Q : State → Prop}
variable {cc : ByteArray} {pc : Nat} {ls : Array Slot} {rest : List Value} {g : xG} {sh : xS} {σ : xM} {o : xO} {lg : Int64} {X : xX} {nL n0 m0 : Nat} {M : xT}
theorem x_copy (hexec : p.tables.exec = Jvm.exec) (hb : c.code = cc) (hml : c.maxLocals = ls.size) {own : String} {index : Nat} (hown : s.vm.findClass own = some m.cls) (hlink : (Cond.methodLink own index arraycopyName).before args s = true) (hnat : (Cond.native arraycopyName).before args s = true) (hstat : (Cond.static arraycopyName).before args s = true) (hini : (Cond.initialized "java/lang/System").before args s = true)
    (hK : xKK g s) (hw : xWd g sh (xget o σ) lg H) (hS : va_S (g_A g) s.heap H locs) {q0 q1 k0 k1 : Nat} (hq0 : xnth sh q0 = some (.inr (false, k0))) (hq1 : xnth sh q1 = some (.inr (false, k1)))
    {sp dp n : Int32} (h1 : ¬ sp < 0) (h2 : ¬ dp < 0) (h3 : ¬ n < 0) (h4 : sp.toNatClampNeg + n.toNatClampNeg ≤ k0) (h5 : dp.toNatClampNeg + n.toNatClampNeg ≤ k1)
    (hframes : 1 ≤ R.frames) (hlocals : (rest.map fun v => v.category).sum + (nativeFrameWords "java/lang/System" "arraycopy" 5 + 11) ≤ R.locals) (hdg : decode cc pc = .ok (.invokestatic index, 3))
    (kk : ∀ (H1 : Heap) (locs1 : List Loc), xWd g sh (xget (xset o (100 * q1) (va_cpy (xget o σ (100 * q0)) (xget o σ (100 * q1)) sp.toNatClampNeg dp.toNatClampNeg n.toNatClampNeg)) σ) lg H1 → va_S (g_A g) s.heap H1 locs1 → W p l e R s m args below meth c H1 locs1 cells slots Q (F0 m (pc + 3) ls rest)) : W p l e R s m args below meth c H locs cells slots Q (F0 m pc ls (.int n :: .int dp :: .ref (g_a g + q1) :: .int sp :: .ref (g_a g + q0) :: rest)) := by
  have nn : ∀ z : Int32, ¬ z < 0 → z.toInt = (z.toNatClampNeg : Int) := by
    intro z hz
    have hz0 : (0 : Int) ≤ z.toInt := by
      have := Int32.not_lt.mp hz
      simpa using Int32.le_iff_toInt_le.mp this
    show z.toInt = ((z.toInt.toNat : Nat) : Int)
    omega
  intro T hT X
  have hc0 : H[g_a g + q0]? = some (vp_cell (g_I g) (k0, .inl (xget o σ (100 * q0)))) := hw.2 q0 _ hq0
  have hc1 : H[g_a g + q1]? = some (vp_cell (g_I g) (k1, .inl (xget o σ (100 * q1)))) := hw.2 q1 _ hq1
  generalize hf : xget o σ (100 * q0) = f at hc0 kk
  generalize hg : xget o σ (100 * q1) = f1 at hc1 kk
  obtain ⟨-, c0, hk0, cm0, hkk0⟩ := (hK.2 0 _ rfl).1 k0 (fun j => .int (f j))
  obtain ⟨-, c1, hk1, cm1, hkk1⟩ := (hK.2 0 _ rfl).1 k1 (fun j => .int (f1 j))
  obtain ⟨vm', X', step⟩ := X.arraycopy hexec hown hlink hnat hstat hini (src := g_a g + q0) (dst := g_a g + q1) (cs := vp_cell (g_I g) (k0, .inl f)) (cd := vp_cell (g_I g) (k1, .inl f1)) (srcPos := sp) (destPos := dp) (n := n) (by rw [hT]; exact hc0) (by rw [hT]; exact hc1)
    (fun _ h => by cases h) (fun _ h => by cases h) (fun h => by cases h) (fun h => by cases h) hk0 hk1 hkk0 hkk1 (by simp [refKind]) h1 h2 h3
    (by rw [nn sp h1, nn n h3]; show ¬ _ > ((arrV _ k0 (fun j => .int (f j))).slots.size : Int); rw [arrV_size]; omega)
    (by rw [nn dp h2, nn n h3]; show ¬ _ > ((arrV _ k1 (fun j => .int (f1 j))).slots.size : Int); rw [arrV_size]; omega)
    (fun vm₁ _ i hi => by
      have e : (vp_cell (g_I g) (k0, .inl f)).slots.getD (sp.toNatClampNeg + i) .null = .int (f (sp.toNatClampNeg + i)) := by
        show (arrV _ k0 (fun j => .int (f j))).slots.getD _ _ = _
        rw [Array.getD_eq_getD_getElem?, arrV_read _ _ (by omega)]
        rfl
      refine ⟨?_, ?_⟩
      · rw [e]
        rfl
      · rw [e]
        exact trivial)
    (g := F0 m pc ls (.int n :: .int dp :: .ref (g_a g + q1) :: .int sp :: .ref (g_a g + q0) :: rest)) rfl (by rw [hml]) (rest := rest) rfl (by rw [hb]; exact hdg) hframes (by show 2 * 0 + _ + _ ≤ _; omega)
  have e1 : copied (vp_cell (g_I g) (k0, .inl f)) (vp_cell (g_I g) (k1, .inl f1)) sp dp n = vp_cell (g_I g) (k1, .inl (va_cpy f f1 sp.toNatClampNeg dp.toNatClampNeg n.toNatClampNeg)) := va_copied (fun z => .int z) _ _ f f1 h4
  rw [e1] at X' step
  have hl : g_a g + q1 < H.size := (Array.getElem?_eq_some_iff.mp hc1).1
  have hheap : ((T.setVm vm').setCell (g_a g + q1) (vp_cell (g_I g) (k1, .inl (va_cpy f f1 sp.toNatClampNeg dp.toNatClampNeg n.toNatClampNeg)))).heap = H.setIfInBounds (g_a g + q1) (vp_cell (g_I g) (k1, .inl (va_cpy f f1 sp.toNatClampNeg dp.toNatClampNeg n.toNatClampNeg))) := by rw [← hT]; rfl
  have oq : ∀ q : Nat, q ≠ g_a g + q1 → (H.setIfInBounds (g_a g + q1) (vp_cell (g_I g) (k1, .inl (va_cpy f f1 sp.toNatClampNeg dp.toNatClampNeg n.toNatClampNeg))))[q]? = H[q]? := fun q hq => by simp [Array.getElem?_setIfInBounds, Ne.symm hq]
  have hA1 : g_A g (g_a g + q1) := by show g_a g ≤ g_a g + q1; omega
  obtain ⟨t, a1, b1⟩ := kk _ _ (xWd_arr hw hq1 (show (H.setIfInBounds (g_a g + q1) _)[g_a g + q1]? = some _ by simp [Array.getElem?_setIfInBounds, hl]; rfl) (by simp) oq) ⟨by simp; exact hS.1, fun q g1 g2 => by
      rw [oq q (fun e => g2 (by rw [e]; exact hA1))]
      exact hS.2.1 q g1 g2, fun q hq => by
      rcases List.mem_append.mp hq with h | h
      · exact hS.2.2 q h
      · obtain ⟨z, -, hz⟩ := List.mem_map.mp h
        rw [← hz]
        exact hA1⟩ _ hheap X'
  exact ⟨t, step t a1, b1⟩
theorem xcat_cv (hf : g_f g = .null ∨ ∃ a, g_f g = .ref a) (st : List Value) : ((st.map (xcv g)).map fun v => v.category).sum = xcat st := by
  unfold xcat
  rw [List.map_map]
  congr 1
  refine List.map_congr_left fun v _ => ?_
  exact xcv_cat g hf v
theorem xcall_simple (Y : xYt) (hT : xTab Y) (hF : xFrm g X p s m args meth c R cc nL M) {kd idx : Nat} {lv : xL} {st : List Value} {c' : xC} {i : Instr} (hroom : c'.2.2.2.1.length ≤ n0 + R.cells ∧ xsl c'.2.2.2.1 ≤ m0 + R.slots)
    (hd : decode cc pc = .ok (i, 3)) (hi : (kd = 4 → i = .invokespecial idx) ∧ (kd ≠ 4 → 3 ≤ kd → i = .invokestatic idx)) (hpc : pc + 3 < 100000)
    (h : xcallA XP M σ kd idx (pc + 3) lv sh o lg st = some (.inr (.inr c'))) (k : xJ p l e R s m args below meth c Q g nL n0 m0 σ c') : xAtW p l e R s m args below meth c Q g nL n0 m0 σ pc lv st sh o lg := by
  obtain ⟨-, -, -, -, -, hTW, hTC, -⟩ := hT
  obtain ⟨hx, hb, hml, hown, hts, hK, hST, hs0, hini, hok, hR1, hR2⟩ := hF
  have hf := hST.2.2.1.2.2
  obtain ⟨-, -, tW1, tW2, tW3, tW4, tW5, tW6, ⟨tW7, tW8⟩, ⟨tW9, tW10⟩, ⟨tW11, tW12⟩⟩ := hTW
  intro H locs cells slots ls hw hS hl ha hz
  have hnl : c.maxLocals = ls.size := hml.trans hl.1.symm
  unfold xcallA at h
  split at h
  · rename_i kind k' n rcv hfd
    cases hkb : Nat.beq kind kd with
    | false => rw [hkb] at h; cases h
    | true =>
      rw [hkb, cond_true] at h
      have hke := Nat.eq_of_beq_eq_true hkb
      subst hke
      have hcr : ∀ {st'}, xgt M (pc + 3) lv st' sh o lg = some (.inr (.inr c')) → cells ≤ R.cells ∧ slots ≤ R.slots := by
        intro st' hg
        have hsh : c'.2.2.2.1 = sh := by
          unfold xgt at hg
          simp only [Option.some.injEq, Sum.inr.injEq] at hg
          rw [← hg]
        rw [hsh] at hroom
        omega
      have hTC2 := hTC _ _ _ _ _ _ hfd
      cases h3 : Nat.beq kind 3 with
      | true =>
        rw [h3, cond_true] at h
        have hk3 := Nat.eq_of_beq_eq_true h3
        subst hk3
        have hie := hi.2 (by decide) (by decide)
        subst hie
        have hlk : Cond.methodLink (xR M.1) idx arraycopyName ∈ xTs := by
          rcases hTC2 with ⟨z, -⟩ | ⟨z, -⟩ | ⟨z, -⟩ | ⟨-, z⟩ | ⟨z, -⟩ | ⟨z, -⟩ | ⟨z, -⟩ | ⟨z, -⟩ <;> first | exact z | cases z
        split at h
        · rename_i n dp q1 sp q0 r
          cases hq : (Nat.ble q0 899 && (Nat.ble q1 899 && Nat.ble (xcat r) 8)) with
          | false => rw [hq] at h; cases h
          | true =>
            rw [hq, cond_true] at h
            simp only [Bool.and_eq_true] at hq
            obtain ⟨hq0, hq1, hr8⟩ := hq
            split at h
            · rename_i k0 k1 hx0 hx1
              obtain ⟨⟨c1, c2, c3, c4, c5⟩, hg⟩ := x_ite h
              have hnn : ∀ n : Int32, 0 ≤ n.toInt → ¬ n < 0 := by
                intro n h0 hlt
                have := Int32.lt_iff_toInt_lt.mp hlt
                have hz0 : (0 : Int32).toInt = 0 := rfl
                omega
              rw [List.map_cons, List.map_cons, List.map_cons, List.map_cons, List.map_cons, xcv_small (Nat.le_of_ble_eq_true hq0), xcv_small (Nat.le_of_ble_eq_true hq1)]
              have h8 := Nat.le_of_ble_eq_true hr8
              refine x_copy hx hb hnl hown (hts _ hlk) (hts _ tW1) (hts _ tW2) (hts _ tW3) hK hw hS hx0 hx1 (hnn _ c1) (hnn _ c2) (hnn _ c3) (by show sp.toInt.toNat + n.toInt.toNat ≤ k0; omega) (by show dp.toInt.toNat + n.toInt.toNat ≤ k1; omega) hR1 ?_ hd (fun H1 locs1 hw1 hS1 => xJ_go hg hpc k H1 locs1 cells slots ls hw1 hS1 hl ha hz)
              rw [xcat_cv hf]
              have : nativeFrameWords "java/lang/System" "arraycopy" 5 = 7 := by decide +kernel
              omega
            · cases h
        · cases h
      | false =>
        rw [h3, cond_false] at h
        cases h4 : Nat.beq kind 4 with
        | true =>
          rw [h4, cond_true] at h
          have hk4 := Nat.eq_of_beq_eq_true h4
          subst hk4
          have hie := hi.1 rfl
          subst hie
          have hlk : Cond.methodLink (xR M.1) idx objectInit ∈ xTs := by
            rcases hTC2 with ⟨z, -⟩ | ⟨z, -⟩ | ⟨z, -⟩ | ⟨z, -⟩ | ⟨-, z⟩ | ⟨z, -⟩ | ⟨z, -⟩ | ⟨z, -⟩ <;> first | exact z | cases z
          split at h
          · rename_i q r
            cases hq : (Nat.ble q 899 && Nat.ble (xcat r) 8) with
            | false => rw [hq] at h; cases h
            | true =>
              rw [hq, cond_true] at h
              simp only [Bool.and_eq_true] at hq
              have h8 := Nat.le_of_ble_eq_true hq.2
              rw [List.map_cons, xcv_small (Nat.le_of_ble_eq_true hq.1)]
              refine W.objInit hx hb hown (hts _ hlk) (hts _ tW4) (hts _ tW5) rfl (by rw [hnl]) rfl hd hR1 ?_ (xJ_go h hpc k H locs cells slots ls hw hS hl ha hz)
              rw [xcat_cv hf]
              show 2 * 0 + _ + 12 ≤ _
              omega
          · cases h
        | false =>
          rw [h4, cond_false] at h
          have hn4 : kind ≠ 4 := fun z => by rw [z] at h4; cases h4
          cases h5 : Nat.beq kind 5 with
          | true =>
            rw [h5, cond_true] at h
            have hk5 := Nat.eq_of_beq_eq_true h5
            subst hk5
            have hie := hi.2 (by decide) (by decide)
            subst hie
            have hlk : Cond.methodLink (xR M.1) idx Lib.Math.max.name ∈ xTs := by
              rcases hTC2 with ⟨z, -⟩ | ⟨z, -⟩ | ⟨z, -⟩ | ⟨z, -⟩ | ⟨z, -⟩ | ⟨-, z⟩ | ⟨z, -⟩ | ⟨z, -⟩ <;> first | exact z | cases z
            split at h
            · rename_i y x r
              cases hq : Nat.ble (xcat r) 8 with
              | false => rw [hq] at h; cases h
              | true =>
                rw [hq, cond_true] at h
                have h8 := Nat.le_of_ble_eq_true hq
                refine va_mmax hx hb hnl hown (hts _ hlk) (hts _ tW7) (hts _ tW6) (hts _ tW8) hR1 (by rw [xcat_cv hf]; omega) (hcr h).1 (hcr h).2 hd (xJ_go h hpc k H locs cells slots ls hw hS hl ha hz)
            · cases h
          | false =>
            rw [h5, cond_false] at h
            cases h6 : Nat.beq kind 6 with
            | true =>
              rw [h6, cond_true] at h
              have hk6 := Nat.eq_of_beq_eq_true h6
              subst hk6
              have hie := hi.2 (by decide) (by decide)
              subst hie
              have hlk : Cond.methodLink (xR M.1) idx Lib.Math.min.name ∈ xTs := by
                rcases hTC2 with ⟨z, -⟩ | ⟨z, -⟩ | ⟨z, -⟩ | ⟨z, -⟩ | ⟨z, -⟩ | ⟨z, -⟩ | ⟨-, z⟩ | ⟨z, -⟩ <;> first | exact z | cases z
              split at h
              · rename_i y x r
                cases hq : Nat.ble (xcat r) 8 with
                | false => rw [hq] at h; cases h
                | true =>
                  rw [hq, cond_true] at h
                  have h8 := Nat.le_of_ble_eq_true hq
                  refine va_mmin hx hb hnl hown (hts _ hlk) (hts _ tW9) (hts _ tW6) (hts _ tW10) hR1 (by rw [xcat_cv hf]; omega) (hcr h).1 (hcr h).2 hd (xJ_go h hpc k H locs cells slots ls hw hS hl ha hz)
              · cases h
            | false =>
              rw [h6, cond_false] at h
              cases h7 : Nat.beq kind 7 with
              | true =>
                rw [h7, cond_true] at h
                have hk7 := Nat.eq_of_beq_eq_true h7
                subst hk7
                have hie := hi.2 (by decide) (by decide)
                subst hie
                have hlk : Cond.methodLink (xR M.1) idx Lib.MathLoose.max_long.x ∈ xTs := by
                  rcases hTC2 with ⟨z, -⟩ | ⟨z, -⟩ | ⟨z, -⟩ | ⟨z, -⟩ | ⟨z, -⟩ | ⟨z, -⟩ | ⟨z, -⟩ | ⟨-, z⟩ <;> first | exact z | cases z
                split at h
                · rename_i y x r
                  cases hq : Nat.ble (xcat r) 8 with
                  | false => rw [hq] at h; cases h
                  | true =>
                    rw [hq, cond_true] at h
                    have h8 := Nat.le_of_ble_eq_true hq
                    refine va_mmax_long hx hb hnl hown (hts _ hlk) (hts _ tW11) (hts _ tW6) (hts _ tW12) hR1 (by rw [xcat_cv hf]; omega) (hcr h).1 (hcr h).2 hd (xJ_go h hpc k H locs cells slots ls hw hS hl ha hz)
                · cases h
              | false =>
                rw [h7, cond_false] at h
                exfalso
                have aux : ∀ (b1 b2 : Bool) (z : Nat × List Value × xC), ((bif b1 then (bif b2 then some (Sum.inr (Sum.inl z)) else none) else none) : Option xAc) = some (.inr (.inr c')) → False := by
                  intro b1 b2 z h
                  cases b1
                  · cases h
                  · cases b2
                    · cases h
                    · simp at h
                exact aux _ _ _ h
  · cases h
end S8
