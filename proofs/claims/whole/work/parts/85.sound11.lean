/-! SOUNDNESS 11: calls -/
section S11
variable {p : Program} {l : Launch} {e : Env} {R : Room} {s : State} {m : MethodId} {args : Array Value} {below : List Frame} {meth : Method} {c : Code} {Q : State → Prop} {g : xG} {X : xX} {cc : ByteArray} {nL n0 m0 : Nat} {M : xT} {σ : xM}
theorem xcallA_sound (Y : xYt) (hT : xTab Y) (hF : xFrm g X p s m args meth c R cc nL M) {d N : Nat} (hMO : MOK l g X Y d) (hd1 : d + 1 ≤ R.frames) (hd2 : 40 * d + 40 ≤ R.locals) {kd idx pc : Nat} {i : Instr} {lv : xL} {st : List Value} {sh : xS} {o : xO} {lg : Int64} {k : Nat} {as : List Value} {pc' : Nat} {lv' : xL} {st' : List Value} {sh1 : xS} {o' : xO} {lg' : Int64} {r : Option Value} {sh2 : xS} {ol2 : xO} {lg2 : Int64}
    (hdc : decode cc pc = .ok (i, 3)) (hi : (kd = 0 → i = .invokestatic idx) ∧ (kd = 1 → i = .invokevirtual idx) ∧ (kd = 2 → i = .invokespecial idx)) (hpc : pc + 3 < 100000)
    (h : xcallA XP M σ kd idx (pc + 3) lv sh o lg st = some (.inr (.inl (k, as, pc', lv', st', sh1, o', lg')))) (ho : xcall XP X d N k as sh1 lg' (xget o' σ) = some (r, sh2, ol2, lg2)) (hroom : sh2.length ≤ n0 + R.cells ∧ xsl sh2 ≤ m0 + R.slots)
    (kk : xJ p l e R s m args below meth c Q g nL n0 m0 σ (pc', lv', r.toList ++ st', sh2, xmrg o' ol2, lg2)) : xAtW p l e R s m args below meth c Q g nL n0 m0 σ pc lv st sh o lg := by
  obtain ⟨-, -, -, -, -, -, hTC, hTM⟩ := hT
  obtain ⟨hx, hb, hml, hown, hts, hK, hST, hs0, hini, hok, hR1, hR2⟩ := hF
  have hf := hST.2.2.1.2.2
  obtain ⟨n, rcv, hfd, hnl, h8, has, hc1, hrcv, hne⟩ := xcallA_inv h
  cases hc1
  obtain ⟨M', hM'⟩ := xcall_some ho
  have hmono := xcall_mon g d N k as sh lg (xget o σ) r sh2 ol2 lg2 ho
  intro H locs cells slots ls hw hS hl ha hz
  have hS2 : CallFix p m c cc nL s args xTs (xR M.1) := ⟨hx, hb, hml, hown, hts⟩
  have hstk : (as.map (xcv g)).reverse ++ (st.drop n).map (xcv g) = st.map (xcv g) := by
    rw [has, ← List.map_reverse, List.reverse_reverse, ← List.map_append, List.take_append_drop]
  have hW8 : ∀ g0 : List Value, 2 * (F0 m pc ls g0).monitorRoom + (((st.drop n).map (xcv g)).map fun v => v.category).sum ≤ 8 := by
    intro g0
    show 2 * 0 + _ ≤ 8
    rw [xcat_cv hf]
    omega
  have hcs : cells + (sh2.length - sh.length) ≤ R.cells ∧ slots + (xsl sh2 - xsl sh) ≤ R.slots := by omega
  have hpre : ∀ U : State, U.heap = H → s.WarmedH U.vm → xPre g X sh (xget o σ) lg U := fun U hU hWm => ⟨by rw [hU]; exact hw, va_K.moved hWm.alike hK, xST_move hST hs0 hWm (by rw [hU]; exact hS.2.1)⟩
  have fin : ∀ {a : Array Value} {g0 : List Value}, va_Run p l e R s m args below meth c H locs cells slots (sh2.length - sh.length) (xsl sh2 - xsl sh) (F0 m pc ls g0) ((st.drop n).map (xcv g)) (xPost g r sh2 (xget ol2 (xget o σ)) lg2 a) (g_A g) → W p l e R s m args below meth c H locs cells slots Q (F0 m pc ls g0) := by
    intro a g0 hr
    refine x_callk hr hS fun H1 locs1 hw1 hS1 => ?_
    have h9 := kk H1 locs1 (cells + (sh2.length - sh.length)) (slots + (xsl sh2 - xsl sh)) ls (by rw [xget_mrg]; exact hw1) hS1 hl (by omega) (by omega)
    rw [xrp_nx hpc, List.map_append] at h9
    cases r with
    | none => exact h9
    | some v => exact h9
  have hRm : ∀ mL : Nat, mL ≤ 21 → (xrm d (sh2.length - sh.length) (xsl sh2 - xsl sh)).frames + 1 ≤ R.frames ∧ 8 + (mL + 11) + (xrm d (sh2.length - sh.length) (xsl sh2 - xsl sh)).locals ≤ R.locals := fun mL hmL => ⟨hd1, by show 8 + (mL + 11) + 40 * d ≤ R.locals; omega⟩
  have hcode : ∀ {y cc mL}, xnth Y k = some (y, cc, mL) → k + 1 ≠ xMT.length → y.cls = xR M'.1 ∧ Cond.code y cc mL M'.2.2.2.1 ∈ xTs ∧ mL ≤ 21 := by
    intro y cc mL hy hk
    obtain ⟨y2, cc2, mL2, hy2, e1, e2, e3, -, -, -⟩ := hTM k M' hM'
    cases hy.symm.trans hy2
    rcases e2 with e2 | ⟨-, e2⟩
    · exact absurd e2 hk
    · exact ⟨e1, e2, e3⟩
  rcases hTC _ _ _ _ _ _ hfd with ⟨rfl, hkn, hrc0, y, yc, mL, hy, ⟨n1, n2, n3⟩, hst, hin, hlk⟩ | ⟨rfl, hkn, y, yc, mL, n1', hy, rfl, ⟨n1, n2, n3⟩, hlk, hinm, hsel, hin, hrc⟩ | ⟨rfl, hkn, ⟨M2, hM2, hret⟩, y, yc, mL, n1', hy, rfl, ⟨n1, n2, n3⟩, hnm, hinm, hin, hlk, hrc1, hrc6⟩ | ⟨z, -⟩ | ⟨z, -⟩ | ⟨z, -⟩ | ⟨z, -⟩ | ⟨z, -⟩
  · have hie := hi.1 rfl
    subst hie
    obtain ⟨-, hcd, hmL⟩ := hcode hy hkn
    have hMet := hMO k as sh lg (xget o σ) r sh2 ol2 lg2 N ho y yc mL M' hy hM' hkn
    have hlen : (as.map (xcv g)).length = n := by rw [List.length_map, has, List.length_reverse, List.length_take]; omega
    rcases hlk with hlk | ⟨host, hlk⟩
    · have hgd : GoodIn xTs (va_wsS (xR M.1) idx y (Cond.code y yc mL M'.2.2.2.1 :: xTs)) := by
        refine xTs_goods fun w hw9 => ?_
        simp only [va_wsS, List.cons_append, List.nil_append, List.mem_cons] at hw9
        rcases hw9 with rfl | rfl | rfl | rfl | hw9
        · exact hlk
        · exact hst
        · exact hin
        · exact hcd
        · exact hw9
      exact fin (va_runS hS2 hMet (va_cwS n hts hgd rfl rfl rfl ⟨n1, n2, n3⟩ (hRm mL hmL)) ⟨xPre_blind, fun U hU hWm => ⟨rfl, hpre U hU hWm⟩⟩ rfl hlen hl.1 hstk.symm (hW8 _) hdc hcs)
    · exact fin (va_runSN hS2 hMet ⟨va_cnB n hts (xTs_good hcd) rfl rfl rfl (hST.2.2.2.2.1.1 _ hlk) (hts _ hin) ⟨n1, n2, n3⟩ (hRm mL hmL), hts _ hst, trivial⟩ ⟨xPre_blind, fun U hU hWm => ⟨rfl, hpre U hU hWm⟩⟩ rfl hlen hl.1 hstk.symm (hW8 _) hdc hcs)
  · have hie := hi.2.1 rfl
    subst hie
    obtain ⟨-, hcd, hmL⟩ := hcode hy hkn
    have hMet := hMO k as sh lg (xget o σ) r sh2 ol2 lg2 N ho y yc mL M' hy hM' hkn
    obtain ⟨v0, hv0⟩ : ∃ v0, st.drop n1' = v0 :: st.drop (n1' + 1) := ⟨st[n1']'(by omega), by rw [List.drop_eq_getElem_cons (by omega)]⟩
    have hhd : (st.drop (n1' + 1 - 1)).head? = some v0 := by rw [Nat.add_sub_cancel, hv0]; rfl
    have hrecv : ∃ b, xcv g v0 = .ref b ∧ ∃ cellB : Cell, H[b]? = some cellB ∧ cellB.vm.isStatics = false ∧ s.vm.findClass y.cls = some cellB.cls := by
      rw [hhd] at hrcv
      rcases hrc with ⟨ci, hci, hc100, T, N', hcl⟩ | ⟨hci, hys⟩
      · rcases hrcv with h9 | ⟨q, c', tags, h9, h10, hq9, hxa⟩ | ⟨w, h9, h10⟩
        · omega
        · cases h9
          have : c' = ci := by omega
          subst this
          obtain ⟨r', r1, -, -, cell, q1, q2, q3, -⟩ := hw.2 q _ hxa
          rw [hcl] at r1
          cases r1
          exact ⟨_, xcv_small hq9, cell, q1, by rw [q3]; rfl, by rw [q2]; exact (hK.1 _ _ hcl).2.1⟩
        · exfalso; omega
      · rcases hrcv with h9 | ⟨q, c', tags, h9, h10, hq9, hxa⟩ | ⟨w, h9, h10⟩
        · omega
        · have hc9 : c' = 100 := by omega
          subst hc9
          obtain ⟨r', r1, -⟩ := hw.2 q _ hxa
          have := vwlen r1
          omega
        · cases h9
          obtain ⟨cell, g1, g2, g3⟩ := vk_recv hST.2.2.2.1.1 (Nat.mod_lt w (by decide : 0 < 16)) hS
          exact ⟨_, rfl, cell, g1, g2, by rw [hys]; exact g3⟩
    obtain ⟨b, hvb, hcell⟩ := hrecv
    have has2 : as.map (xcv g) = .ref b :: ((st.take n1').reverse.map (xcv g)) := by
      rw [has, List.take_succ_eq_append_getElem (by omega), List.reverse_append]
      simp only [List.reverse_cons, List.reverse_nil, List.nil_append, List.cons_append, List.map_cons]
      have : st[n1']'(by omega) = v0 := by
        rw [List.drop_eq_getElem_cons (by omega)] at hv0
        exact (List.cons.inj hv0).1
      rw [this, hvb]
    have hgd : GoodIn xTs (wsV (xR M.1) idx y.cls y (Cond.code y yc mL M'.2.2.2.1 :: xTs)) := by
      refine xTs_goods fun w hw9 => ?_
      simp only [wsV, List.cons_append, List.nil_append, List.mem_cons] at hw9
      rcases hw9 with rfl | rfl | rfl | rfl | rfl | hw9
      · exact hlk
      · exact hinm
      · exact hsel
      · exact hin
      · exact hcd
      · exact hw9
    rw [has2] at hstk hMet
    refine fin (va_runV (As := (st.take n1').reverse.map (xcv g)) hS2 hMet (cwV n1' hts hgd rfl rfl rfl ⟨rfl, n1, n2, n3⟩ (hRm mL hmL)) ⟨xPre_blind, hcell, fun U hU hWm => ⟨rfl, hpre U hU hWm⟩⟩ rfl ?_ hl.1 ?_ (hW8 _) hdc hcs)
    · rw [List.length_map, List.length_reverse, List.length_take]; omega
    · rw [← hstk]
      simp
  · have hie := hi.2.2 rfl
    subst hie
    obtain ⟨-, hcd, hmL⟩ := hcode hy hkn
    have hMet := hMO k as sh lg (xget o σ) r sh2 ol2 lg2 N ho y yc mL M' hy hM' hkn
    cases hM2.symm.trans hM'
    rw [hret] at hcd hMet
    obtain ⟨v0, hv0⟩ : ∃ v0, st.drop n1' = v0 :: st.drop (n1' + 1) := ⟨st[n1']'(by omega), by rw [List.drop_eq_getElem_cons (by omega)]⟩
    have hhd : (st.drop (n1' + 1 - 1)).head? = some v0 := by rw [Nat.add_sub_cancel, hv0]; rfl
    have hrecv : ∃ b, xcv g v0 = .ref b := by
      rw [hhd] at hrcv
      rcases hrcv with h9 | ⟨q, c', tags, h9, h10, hq9, hxa⟩ | ⟨w, h9, h10⟩
      · omega
      · cases h9; exact ⟨_, xcv_small hq9⟩
      · omega
    obtain ⟨b, hvb⟩ := hrecv
    have has2 : as.map (xcv g) = .ref b :: ((st.take n1').reverse.map (xcv g)) := by
      rw [has, List.take_succ_eq_append_getElem (by omega), List.reverse_append]
      simp only [List.reverse_cons, List.reverse_nil, List.nil_append, List.cons_append, List.map_cons]
      have : st[n1']'(by omega) = v0 := by
        rw [List.drop_eq_getElem_cons (by omega)] at hv0
        exact (List.cons.inj hv0).1
      rw [this, hvb]
    rw [has2] at hstk hMet
    have hl2 : ((st.take n1').reverse.map (xcv g)).length = n1' := by rw [List.length_map, List.length_reverse, List.length_take]; omega
    have hst2 : (F0 m pc ls (st.map (xcv g))).stack = ((st.take n1').reverse.map (xcv g)).reverse ++ .ref b :: (st.drop (n1' + 1)).map (xcv g) := by
      show st.map (xcv g) = _
      rw [← hstk]
      simp
    rcases hlk with hlk | ⟨host, hlk⟩
    · exact fin (va_runI (As := (st.take n1').reverse.map (xcv g)) hS2 hMet (cwI n1' hts (xTs_good hcd) rfl rfl rfl (hts _ hin) (hts _ hlk) (hts _ hinm) hnm ⟨n1, n2, n3⟩ (hRm mL hmL)) ⟨xPre_blind, fun U hU hWm => ⟨rfl, hpre U hU hWm⟩⟩ rfl hl2 hl.1 hst2 (hW8 _) hdc hcs)
    · exact fin (va_runIN (As := (st.take n1').reverse.map (xcv g)) hS2 hMet ⟨va_cnB n1' hts (xTs_good hcd) rfl rfl rfl (hST.2.2.2.2.1.1 _ hlk) (hts _ hin) ⟨n1, n2, n3⟩ (hRm mL hmL), hnm, hts _ hinm⟩ ⟨xPre_blind, fun U hU hWm => ⟨rfl, hpre U hU hWm⟩⟩ rfl hl2 hl.1 hst2 (hW8 _) hdc hcs)
  · exact absurd (by omega) hne
  · exact absurd (by omega) hne
  · exact absurd (by omega) hne
  · exact absurd (by omega) hne
  · exact absurd (by omega) hne
end S11
