/-! SOUNDNESS 7: writes of fields, new cells, copies -/
theorem set_same {sh : xS} {q : Nat} {x : xSh} (h : xnth sh q = some x) : sh = sh.set q x := by
  rw [xnth_get] at h
  obtain ⟨h1, h2⟩ := List.getElem?_eq_some_iff.mp h
  rw [← h2, List.set_getElem_self]
theorem xmem_of : ∀ {l : List Nat} {k d i : Nat}, k < l.length → l.getD k d = i → xmem l i = true := by
  intro l
  induction l with
  | nil => intro k d i h; cases h
  | cons a l ih =>
    intro k d i hk h
    rw [xmem]
    cases hb : Nat.beq a i with
    | true => rfl
    | false =>
      rw [cond_false]
      cases k with
      | zero =>
        have : a = i := by simpa using h
        rw [this, xq_t] at hb
        cases hb
      | succ k => exact ih (by simpa using hk) (by simpa using h)
section S7
variable {p : Program} {l : Launch} {e : Env} {R : Room} {s : State} {m : MethodId} {args : Array Value} {below : List Frame} {meth : Method} {c : Code} {Q : State → Prop} {g : xG} {X : xX} {cc : ByteArray} {nL n0 m0 : Nat} {M : xT} {σ : xM}
theorem xputf_inv {idx pc : Nat} {lv : xL} {sh : xS} {o : xO} {lg : Int64} {st : List Value} {a : xAc} (h : xputf XP M σ idx pc lv sh o lg st = some a) :
    ∃ ci k ty fin v q r tags, xfind (xFT.getD M.1 []) idx = some (ci, k, ty, fin) ∧ (fin = true → M.2.2.2.2.1 = true ∧ M.1 = ci + 1) ∧ st = v :: .ref q :: r ∧ q ≤ 899 ∧ xnth sh q = some (.inl (ci, tags)) ∧
    ((∃ x, xnth tags k = some 0 ∧ v = .int x ∧ (ty = .int ∨ (ty = .boolean ∧ (x = 0 ∨ x = 1))) ∧ xgt M pc lv r sh (xset o (100 * q + k + 1) (fun _ => x)) lg = some a) ∨
     (∃ x, xnth tags k = some 1 ∧ v = .long x ∧ ty = .long ∧ 100 * q + k + 1 = LGC ∧ xgt M pc lv r sh o x = some a) ∨
     (∃ t, xnth tags k = some 2 ∧ v = .ref t ∧ t ≤ 899 ∧ ((∃ n, ty = .object n) ∨ ∃ n, ty = .array n) ∧ xgt M pc lv r (sh.set q (.inl (ci, tags.set k (t + 3)))) o lg = some a)) := by
  unfold xputf at h
  split at h
  · rename_i ci k ty fin hfd
    cases hcnd : (!fin || (M.2.2.2.2.1 && Nat.beq M.1 (ci + 1))) with
    | false => rw [hcnd] at h; cases h
    | true =>
      rw [hcnd, cond_true] at h
      split at h
      · rename_i v q r
        cases hq : Nat.ble q 899 with
        | false => rw [hq] at h; cases h
        | true =>
          rw [hq, cond_true] at h
          split at h
          · rename_i ci' tags hxa
            cases hcb : Nat.beq ci' ci with
            | false => rw [hcb] at h; cases h
            | true =>
              rw [hcb, cond_true] at h
              have hce := Nat.eq_of_beq_eq_true hcb
              subst hce
              refine ⟨ci', k, ty, fin, v, q, r, tags, hfd, fun hf => ?_, rfl, Nat.le_of_ble_eq_true hq, hxa, ?_⟩
              · rw [hf] at hcnd
                simp only [Bool.not_true, Bool.false_or, Bool.and_eq_true] at hcnd
                exact ⟨hcnd.1, Nat.eq_of_beq_eq_true hcnd.2⟩
              · split at h
                · rename_i x ht
                  exact Or.inl ⟨_, ht, rfl, Or.inl rfl, h⟩
                · rename_i x ht
                  obtain ⟨h1, h2⟩ := x_ite h
                  exact Or.inl ⟨_, ht, rfl, Or.inr ⟨rfl, h1⟩, h2⟩
                · rename_i x ht
                  cases hlg : Nat.beq (100 * q + k + 1) XP.2.2.2.2.2.2.2.2 with
                  | false => rw [hlg] at h; cases h
                  | true =>
                    rw [hlg, cond_true] at h
                    exact Or.inr (Or.inl ⟨_, ht, rfl, rfl, Nat.eq_of_beq_eq_true hlg, h⟩)
                · rename_i t n ht
                  cases ht9 : Nat.ble t 899 with
                  | false => rw [ht9] at h; cases h
                  | true =>
                    rw [ht9, cond_true] at h
                    exact Or.inr (Or.inr ⟨_, ht, rfl, Nat.le_of_ble_eq_true ht9, Or.inl ⟨_, rfl⟩, h⟩)
                · rename_i t n ht
                  cases ht9 : Nat.ble t 899 with
                  | false => rw [ht9] at h; cases h
                  | true =>
                    rw [ht9, cond_true] at h
                    exact Or.inr (Or.inr ⟨_, ht, rfl, Nat.le_of_ble_eq_true ht9, Or.inr ⟨_, rfl⟩, h⟩)
                · cases h
          · cases h
      · cases h
  · cases h
theorem xexec_put (Y : xYt) (hT : xTab Y) (hF : xFrm g X p s m args meth c R cc nL M) {idx ln tgt : Nat} {cv : Int32} {cs : List (Int32 × Nat)} {pc : Nat} {lv : xL} {st : List Value} {sh : xS} {o : xO} {lg : Int64} {c' : xC} (hr : xenok cc nL (pc, .putfield idx, ln, tgt, cv, cs) = true)
    (h : xexec XP M X σ (.putfield idx) tgt cv cs (pc + ln) lv st sh o lg = some (.inr (.inr c'))) (k : xJ p l e R s m args below meth c Q g nL n0 m0 σ c') : xAtW p l e R s m args below meth c Q g nL n0 m0 σ pc lv st sh o lg := by
  obtain ⟨h3, hd, hpc, htg, hcs, h1, h2⟩ := xex_dec hr
  obtain ⟨hTF, hTF2, -, -, -, -, -, -⟩ := hT
  obtain ⟨hx, hb, hml, hown, hts, hK, hST, hs0, hini, hok, hR1, hR2⟩ := hF
  dsimp only at hd hpc htg h1 h2 h3 hcs
  have hln : ln = 3 := Nat.eq_of_beq_eq_true h2
  subst hln
  intro H locs cells slots ls hw hS hl ha hz
  obtain ⟨ci, k0, ty, fin, v, q, r, tags, hfd, hfin, rfl, hq, hxa, hcase⟩ := xputf_inv (σ := σ) h
  rcases hTF _ _ _ _ _ _ hfd with ⟨C, T, N, hc, hk, hlk, hpd, hfn⟩ | ⟨h100, -⟩
  · obtain ⟨hC, hin, ⟨ty0, hty0⟩, hnm, hdecl⟩ := hTF2 _ _ _ _ hc
    have hNt : N = tags.length := by
      obtain ⟨r', r1, r2, -⟩ := hw.2 q _ hxa
      rw [hc] at r1
      cases r1
      exact r2
    have h90 : tags.length ≤ 90 := (hw.2 q _ hxa).choose_spec.2.2.1
    have hfin2 : (T k0).2.2.2 = false ∨ ((T k0).2.2.2 = true ∧ meth.name = "<init>" ∧ (T k0).1 = xR M.1) := by
      cases fin with
      | false => exact Or.inl hfn
      | true =>
        obtain ⟨f1, f2⟩ := hfin rfl
        exact Or.inr ⟨hfn, hini f1, by rw [hdecl k0 hk, hC, f2]⟩
    have hgd : ∀ t, xnth tags k0 = some t → tags.getD k0 2 = t := by
      intro t ht
      rw [xnth_get] at ht
      rw [List.getD_eq_getElem?_getD, ht]; rfl
    have hkt : k0 < tags.length := by omega
    rw [List.map_cons, List.map_cons, xcv_small hq]
    rcases hcase with ⟨x, ht, rfl, hty, hg⟩ | ⟨x, ht, rfl, rfl, hL, hg⟩ | ⟨t, ht, rfl, ht9, hty, hg⟩
    · have hn : narrow ty (.int x) = .int x ∧ fits ty (.int x) = true := by
        rcases hty with rfl | ⟨rfl, rfl | rfl⟩
        · exact ⟨rfl, rfl⟩
        · exact ⟨rfl, rfl⟩
        · exact ⟨rfl, rfl⟩
      refine x_put hx hb hts ty0 hty0 hnm hown hK hw hS hxa hc hin hk (hts _ hlk) hpd hn.1 hn.2 hfin2 hd (fun H1 locs1 hr1 hz1 ho1 hS1 => ?_)
      refine xJ_go hg hpc k H1 locs1 cells slots ls (xWd_fld (v := .int x) (o := o) (σ := xget o σ) hw hxa hkt (set_same hxa) rfl (fun _ _ => rfl) ?_ ?_ ?_ hr1 hz1 ho1) hS1 hl ha hz
      · rw [hgd _ ht]
        simp only [xfv]
        rw [xget_set, if_pos rfl]
      · intro c t hct
        unfold xfv
        split
        · rw [xget_set, if_neg (fun z => hct z.symm)]
        · rfl
        · rfl
        · rfl
      · intro c hc0
        rw [xget_set, if_neg (by omega)]
    · refine x_put hx hb hts ty0 hty0 hnm hown hK hw hS hxa hc hin hk (hts _ hlk) hpd rfl rfl hfin2 hd (fun H1 locs1 hr1 hz1 ho1 hS1 => ?_)
      refine xJ_go hg hpc k H1 locs1 cells slots ls (xWd_fld (v := .long x) (o := o) (σ := xget o σ) hw hxa hkt (set_same hxa) rfl (fun _ _ => rfl) ?_ ?_ (fun _ _ => rfl) hr1 hz1 ho1) hS1 hl ha hz
      · rw [hgd _ ht]
        simp only [xfv]
        rw [if_pos hL]
      · intro c t hct
        unfold xfv
        split
        · rfl
        · rw [if_neg (fun z => hct (z.trans hL.symm)), if_neg (fun z => hct (z.trans hL.symm))]
        · rfl
        · rfl
    · have hn : narrow ty (.ref (g_a g + t)) = .ref (g_a g + t) ∧ fits ty (.ref (g_a g + t)) = true := by
        rcases hty with ⟨n, rfl⟩ | ⟨n, rfl⟩ <;> exact ⟨rfl, rfl⟩
      rw [xcv_small ht9]
      refine x_put hx hb hts ty0 hty0 hnm hown hK hw hS hxa hc hin hk (hts _ hlk) hpd hn.1 hn.2 hfin2 hd (fun H1 locs1 hr1 hz1 ho1 hS1 => ?_)
      refine xJ_go hg hpc k H1 locs1 cells slots ls (xWd_fld (v := .ref (g_a g + t)) (o := o) (σ := xget o σ) hw hxa hkt rfl (by rw [List.length_set]) ?_ ?_ (fun _ _ _ => rfl) (fun _ _ => rfl) hr1 hz1 ho1) hS1 hl (by rw [List.length_set]; exact ha) ?_
      · intro j hj
        rw [List.getD_eq_getElem?_getD, List.getElem?_set, if_neg (fun z => hj z.symm), ← List.getD_eq_getElem?_getD]
      · rw [List.getD_eq_getElem?_getD, List.getElem?_set, if_pos rfl, if_pos hkt]
        rfl
      · rw [xsl_set hxa (by simp [xsz])]
        exact hz
  · have := vwlen (hw.2 q _ hxa).choose_spec.1
    omega
theorem xexec_new (Y : xYt) (hT : xTab Y) (hF : xFrm g X p s m args meth c R cc nL M) {idx ln tgt : Nat} {cv : Int32} {cs : List (Int32 × Nat)} {pc : Nat} {lv : xL} {st : List Value} {sh : xS} {o : xO} {lg : Int64} {c' : xC} (hr : xenok cc nL (pc, .new idx, ln, tgt, cv, cs) = true) (hroom : c'.2.2.2.1.length ≤ n0 + R.cells ∧ xsl c'.2.2.2.1 ≤ m0 + R.slots)
    (h : xexec XP M X σ (.new idx) tgt cv cs (pc + ln) lv st sh o lg = some (.inr (.inr c'))) (k : xJ p l e R s m args below meth c Q g nL n0 m0 σ c') : xAtW p l e R s m args below meth c Q g nL n0 m0 σ pc lv st sh o lg := by
  obtain ⟨h3, hd, hpc, htg, hcs, h1, h2⟩ := xex_dec hr
  obtain ⟨-, hTF2, -, -, hTN, -, -, -⟩ := hT
  obtain ⟨hx, hb, hml, hown, hts, hK, hST, hs0, hini, hok, hR1, hR2⟩ := hF
  dsimp only at hd hpc htg h1 h2 h3 hcs
  have hln : ln = 3 := Nat.eq_of_beq_eq_true h2
  subst hln
  intro H locs cells slots ls hw hS hl ha hz
  simp only [xexec] at h
  split at h
  · rename_i ci tags hfd
    cases hcnd : (Nat.ble sh.length 899 && (!(xmem tags 1) || Nat.ble (100 * sh.length) XP.2.2.2.2.2.2.2.2)) with
    | false => rw [hcnd] at h; cases h
    | true =>
      rw [hcnd, cond_true] at h
      simp only [Bool.and_eq_true, Bool.or_eq_true, Bool.not_eq_true'] at hcnd
      obtain ⟨hcnd0, hcnd⟩ := hcnd
      have h899 : sh.length ≤ 899 := Nat.le_of_ble_eq_true hcnd0
      obtain ⟨C, T, N, hc, hN, h90, hcl, hins, hint, hdef, -, -⟩ := hTN _ _ _ _ hfd
      obtain ⟨hC, hin, ⟨ty0, hty0⟩, hnm, hdecl⟩ := hTF2 _ _ _ _ hc
      have hKn := hK.1 ci _ hc
      have hsh : c'.2.2.2.1 = sh ++ [.inl (ci, tags)] := by
        unfold xgt at h
        simp only [Option.some.injEq, Sum.inr.injEq] at h
        rw [← h]
      rw [hsh, xsl_app, List.length_append] at hroom
      have hr1 : sh.length + 1 ≤ n0 + R.cells := hroom.1
      have hr2 : xsl sh + tags.length ≤ m0 + R.slots := hroom.2
      refine W.newcK hx hb hown (hts _ hcl) (hts _ hins) (hts _ hint) rfl hd (by omega) (by omega) hKn.2.1 hw.1 fun H1 kC hkC e1 z1 o1 => ?_
      have hgo := xJ_go h hpc k H1 locs (cells + 1) (slots + N) ls ?_ ?_ hl (by rw [List.length_append]; simp; omega) (by rw [xsl_app]; show slots + N + m0 = xsl sh + tags.length; omega)
      · rw [List.map_cons, xcv_small h899] at hgo
        exact hgo
      · have hout : ∀ c, c < 100 * sh.length → ¬ ∃ j, j < tags.length ∧ tags.getD j 2 = 0 ∧ c = 100 * sh.length + (0 + j) + 1 := by
          rintro c hc ⟨j, -, -, h9⟩
          omega
        refine xWd_push hw (by have := hw.1; omega) (fun a ha2 => o1 a (by have := hw.1; omega)) (fun c hc2 => by rw [xget_zero, if_neg (hout c hc2)]) (fun c hc2 hL => ?_) ⟨_, hc, hN.symm, by omega, (u_born ty0 hts hin hKn hkC e1 hty0).to (fun j hj => ?_)⟩
        · cases hm : xmem tags 1 with
          | false => rfl
          | true =>
            exfalso
            rcases hcnd with h9 | h9
            · rw [hm] at h9; cases h9
            · have h10 := Nat.le_of_ble_eq_true h9
              have h11 : c = XP.2.2.2.2.2.2.2.2 := hL
              omega
        · obtain ⟨ty, hp, hdv, hle⟩ := hdef j hj
          have hte : ty0 j = ty := by
            have := (hty0 j hj).symm.trans hp
            simpa using this
          have hj2 : j < tags.length := by omega
          show defaultValue (ty0 j) = xfv g _ _ _ (tags.getD j 2)
          rw [hte, hdv]
          rcases (show tags.getD j 2 = 0 ∨ tags.getD j 2 = 1 ∨ tags.getD j 2 = 2 by omega) with h9 | h9 | h9
          · rw [h9]
            simp only [xfv]
            rw [xget_zero, if_pos ⟨j, hj2, h9, by omega⟩]
          · have hm := xmem_of hj2 h9
            rw [h9, hm]
            simp only [xfv, cond_true]
            split <;> rfl
          · rw [h9]
            rfl
      · exact ⟨by have := hS.1; have := hw.1; omega, fun x g1 g2 => (o1 x (by have := hS.1; have := hw.1; omega)).trans (hS.2.1 x g1 g2), hS.2.2⟩
  · cases h
theorem xexec_newa (Y : xYt) (hT : xTab Y) (hF : xFrm g X p s m args meth c R cc nL M) {aty : ArrayType} {ln tgt : Nat} {cv : Int32} {cs : List (Int32 × Nat)} {pc : Nat} {lv : xL} {st : List Value} {sh : xS} {o : xO} {lg : Int64} {c' : xC} (hr : xenok cc nL (pc, .newarray aty, ln, tgt, cv, cs) = true) (hroom : c'.2.2.2.1.length ≤ n0 + R.cells ∧ xsl c'.2.2.2.1 ≤ m0 + R.slots)
    (h : xexec XP M X σ (.newarray aty) tgt cv cs (pc + ln) lv st sh o lg = some (.inr (.inr c'))) (k : xJ p l e R s m args below meth c Q g nL n0 m0 σ c') : xAtW p l e R s m args below meth c Q g nL n0 m0 σ pc lv st sh o lg := by
  obtain ⟨h3, hd, hpc, htg, hcs, h1, h2⟩ := xex_dec hr
  obtain ⟨-, hTF2, -, -, -, hTW, -, -⟩ := hT
  obtain ⟨hx, hb, hml, hown, hts, hK, hST, hs0, hini, hok, hR1, hR2⟩ := hF
  dsimp only at hd hpc htg h1 h2 h3 hcs
  have hln : ln = 2 := Nat.eq_of_beq_eq_true h2
  subst hln
  intro H locs cells slots ls hw hS hl ha hz
  simp only [xexec] at h
  have push : ∀ (ch : Bool) (n : Int32) (r : List Value) (H1 : Heap), xgt M (pc + 2) lv (.ref sh.length :: r) (sh ++ [.inr (ch, n.toNatClampNeg)]) (xset o (100 * sh.length) (fun _ => 0)) lg = some (.inr (.inr c')) → sh.length ≤ 899 → H1[g_a g + sh.length]? = some (arrV (bif ch then g_C g else g_I g) n.toNatClampNeg (fun _ => .int 0)) → H1.size = (g_a g + sh.length) + 1 → (∀ q, q < g_a g + sh.length → H1[q]? = H[q]?) → W p l e R s m args below meth c H1 locs (cells + 1) (slots + n.toNatClampNeg) Q (F0 m (pc + 2) ls (.ref (g_a g + sh.length) :: r.map (xcv g))) := by
    intro ch n r H1 hg h899 e1 z1 o1
    have hgo := xJ_go hg hpc k H1 locs (cells + 1) (slots + n.toNatClampNeg) ls ?_ ?_ hl (by rw [List.length_append]; simp; omega) (by rw [xsl_app]; show slots + n.toNatClampNeg + m0 = xsl sh + n.toNatClampNeg; omega)
    · rw [List.map_cons, xcv_small h899] at hgo
      exact hgo
    · refine xWd_push hw (by have := hw.1; omega) (fun a ha2 => o1 a (by have := hw.1; omega)) (fun c hc2 => by rw [xget_set, if_neg (by omega)]) (fun _ _ _ => rfl) ?_
      simp only [xAt]
      rw [xget_set, if_pos rfl]
      exact e1
    · exact ⟨by have := hS.1; have := hw.1; omega, fun x g1 g2 => (o1 x (by have := hS.1; have := hw.1; omega)).trans (hS.2.1 x g1 g2), hS.2.2⟩
  have hro : ∀ (ch : Bool) (n : Int32) (r : List Value), xgt M (pc + 2) lv (.ref sh.length :: r) (sh ++ [.inr (ch, n.toNatClampNeg)]) (xset o (100 * sh.length) (fun _ => 0)) lg = some (.inr (.inr c')) → cells + 1 ≤ R.cells ∧ slots + n.toNatClampNeg ≤ R.slots := by
    intro ch n r hg
    have hsh : c'.2.2.2.1 = sh ++ [.inr (ch, n.toNatClampNeg)] := by
      unfold xgt at hg
      simp only [Option.some.injEq, Sum.inr.injEq] at hg
      rw [← hg]
    rw [hsh, xsl_app, List.length_append] at hroom
    have hr1 : sh.length + 1 ≤ n0 + R.cells := hroom.1
    have hr2 : xsl sh + n.toNatClampNeg ≤ m0 + R.slots := hroom.2
    omega
  have hnn : ∀ n : Int32, 0 ≤ n.toInt → ¬ n < 0 := by
    intro n h0 hlt
    have := Int32.lt_iff_toInt_lt.mp hlt
    have hz0 : (0 : Int32).toInt = 0 := rfl
    omega
  split at h
  · rename_i n r
    obtain ⟨⟨⟨q1, q2⟩, h899⟩, hg⟩ := x_ite h
    obtain ⟨r1, r2⟩ := hro _ _ _ hg
    have hnl : n.toNatClampNeg ≤ 65536 := by show n.toInt.toNat ≤ 65536; omega
    refine va_newaK (atype := .int) hx hb (hts _ hTW.1) rfl hd rfl (hnn n q1) rfl (by show n.toNatClampNeg * 4 ≤ 536870912; omega) r1 r2 hw.1 fun H1 cA e1 z1 o1 hAr hNm => ?_
    have hI : cA = g_I g := by
      have h9 : s.vm.findClass ("[" ++ (FieldType.int).toString) = some (g_I g) := (hK.2 0 _ rfl).2
      exact Option.some.inj (hNm.symm.trans h9)
    subst hI
    exact push false n r H1 hg h899 e1 z1 o1
  · rename_i n r
    obtain ⟨⟨⟨q1, q2⟩, h899⟩, hg⟩ := x_ite h
    obtain ⟨r1, r2⟩ := hro _ _ _ hg
    have hnl : n.toNatClampNeg ≤ 65536 := by show n.toInt.toNat ≤ 65536; omega
    refine va_newaK (atype := .char) hx hb (hts _ hTW.2.1) rfl hd rfl (hnn n q1) rfl (by show n.toNatClampNeg * 2 ≤ 536870912; omega) r1 r2 hw.1 fun H1 cA e1 z1 o1 hAr hNm => ?_
    have hI : cA = g_C g := by
      have h9 : s.vm.findClass ("[" ++ (FieldType.char).toString) = some (g_C g) := (hK.2 1 _ rfl).2
      exact Option.some.inj (hNm.symm.trans h9)
    subst hI
    exact push true n r H1 hg h899 e1 z1 o1
  · cases h
end S7
