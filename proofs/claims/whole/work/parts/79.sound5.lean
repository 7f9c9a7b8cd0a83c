/-! SOUNDNESS 5: stores, branches, constants -/
section S5
variable {p : Program} {l : Launch} {e : Env} {R : Room} {s : State} {m : MethodId} {args : Array Value} {below : List Frame} {meth : Method} {c : Code} {Q : State → Prop} {g : xG} {X : xX} {cc : ByteArray} {nL n0 m0 : Nat} {M : xT} {σ : xM}
theorem xst_inv {kd i pc : Nat} {lv : xL} {sh : xS} {o : xO} {lg : Int64} {st : List Value} {a : xAc} (h : xst M kd i pc lv sh o lg st = some a) : (kd = 0 ∧ ∃ x r, st = .int x :: r ∧ xgt M pc (xls1 lv i (.int x)) r sh o lg = some a) ∨ (kd = 1 ∧ ∃ x r, st = .long x :: r ∧ xgt M pc (xls2 lv i (.long x)) r sh o lg = some a) ∨ (kd = 2 ∧ ∃ q r, st = .ref q :: r ∧ xgt M pc (xls1 lv i (.ref q)) r sh o lg = some a) := by
  unfold xst at h
  split at h
  · exact Or.inl ⟨rfl, _, _, rfl, h⟩
  · exact Or.inr (Or.inl ⟨rfl, _, _, rfl, h⟩)
  · exact Or.inr (Or.inr ⟨rfl, _, _, rfl, h⟩)
  · cases h
theorem xcv_ref (g : xG) (q : Nat) : ∃ a, xcv g (.ref q) = .ref a := by
  simp only [xcv]
  split
  · exact ⟨_, rfl⟩
  · split <;> exact ⟨_, rfl⟩
theorem xexec_mid (Y : xYt) (hT : xTab Y) (hF : xFrm g X p s m args meth c R cc nL M) {i : Instr} {ln tgt : Nat} {cv : Int32} {cs : List (Int32 × Nat)} {pc : Nat} {lv : xL} {st : List Value} {sh : xS} {o : xO} {lg : Int64} {c' : xC} (hr : xenok cc nL (pc, i, ln, tgt, cv, cs) = true)
    (hi : match i with | .astore _ | .astore_n _ | .istore _ | .istore_n _ | .lstore _ | .lstore_n _ | .ldc _ | .ldc_w _ | .ldc2_w _ | .iinc _ _ | .ifCond _ _ | .if_icmp _ _ | .tableswitch _ _ _ _ | .getstatic _ => True | _ => False)
    (h : xexec XP M X σ i tgt cv cs (pc + ln) lv st sh o lg = some (.inr (.inr c'))) (k : xJ p l e R s m args below meth c Q g nL n0 m0 σ c') : xAtW p l e R s m args below meth c Q g nL n0 m0 σ pc lv st sh o lg := by
  obtain ⟨h3, hd, hpc, htg, hcs, h1, h2⟩ := xex_dec hr
  obtain ⟨-, -, hTK, hTG, -, -, -, -⟩ := hT
  obtain ⟨hx, hb, hml, hown, hts, hK, hST, hs0, hini, hok, hR1, hR2⟩ := hF
  have hf := hST.2.2.1.2.2
  dsimp only at hd hpc htg h1 h2 h3 hcs
  intro H locs cells slots ls hw hS hl ha hz
  cases i with
  | istore j =>
    have hln : ln = 2 := Nat.eq_of_beq_eq_true h2
    subst hln
    rcases xst_inv h with ⟨-, x, r, rfl, hg⟩ | ⟨h9, -⟩ | ⟨h9, -⟩
    · exact lv_istore hx hb hd hl (of_decide_eq_true h3) rfl (fun ls' hl' => xJ_go hg hpc k H locs cells slots ls' hw hS (lv_less hl' (xls1_sub hf)) ha hz)
    · cases h9
    · cases h9
  | istore_n j =>
    have hln : ln = 1 := Nat.eq_of_beq_eq_true h2
    subst hln
    rcases xst_inv h with ⟨-, x, r, rfl, hg⟩ | ⟨h9, -⟩ | ⟨h9, -⟩
    · exact lv_istore_n hx hb hd rfl hl (of_decide_eq_true h3) rfl (fun ls' hl' => xJ_go hg hpc k H locs cells slots ls' hw hS (lv_less hl' (xls1_sub hf)) ha hz)
    · cases h9
    · cases h9
  | lstore j =>
    have hln : ln = 2 := Nat.eq_of_beq_eq_true h2
    subst hln
    rcases xst_inv h with ⟨h9, -⟩ | ⟨-, x, r, rfl, hg⟩ | ⟨h9, -⟩
    · cases h9
    · exact lv_lstore hx hb hd hl (of_decide_eq_true h3) rfl (fun ls' hl' => xJ_go hg hpc k H locs cells slots ls' hw hS (lv_less hl' (xls2_sub hf)) ha hz)
    · cases h9
  | lstore_n j =>
    have hln : ln = 1 := Nat.eq_of_beq_eq_true h2
    subst hln
    rcases xst_inv h with ⟨h9, -⟩ | ⟨-, x, r, rfl, hg⟩ | ⟨h9, -⟩
    · cases h9
    · exact lv_lstore_n hx hb hd rfl hl (of_decide_eq_true h3) rfl (fun ls' hl' => xJ_go hg hpc k H locs cells slots ls' hw hS (lv_less hl' (xls2_sub hf)) ha hz)
    · cases h9
  | astore j =>
    have hln : ln = 2 := Nat.eq_of_beq_eq_true h2
    subst hln
    rcases xst_inv h with ⟨h9, -⟩ | ⟨h9, -⟩ | ⟨-, q, r, rfl, hg⟩
    · cases h9
    · cases h9
    · obtain ⟨a, ea⟩ := xcv_ref g q
      rw [List.map_cons, ea]
      refine lv_astore hx hb hd hl (of_decide_eq_true h3) rfl (fun ls' hl' => xJ_go hg hpc k H locs cells slots ls' hw hS (lv_less hl' ?_) ha hz)
      rw [← ea]
      exact xls1_sub hf
  | astore_n j =>
    have hln : ln = 1 := Nat.eq_of_beq_eq_true h2
    subst hln
    rcases xst_inv h with ⟨h9, -⟩ | ⟨h9, -⟩ | ⟨-, q, r, rfl, hg⟩
    · cases h9
    · cases h9
    · obtain ⟨a, ea⟩ := xcv_ref g q
      rw [List.map_cons, ea]
      refine lv_astore_n hx hb hd rfl hl (of_decide_eq_true h3) rfl (fun ls' hl' => xJ_go hg hpc k H locs cells slots ls' hw hS (lv_less hl' ?_) ha hz)
      rw [← ea]
      exact xls1_sub hf
  | iinc j n =>
    have hln : ln = 3 := Nat.eq_of_beq_eq_true h2
    subst hln
    simp only [xexec] at h
    split at h
    · rename_i x hv
      have hm := xcl_mem (g := g) (xfind_mem hv)
      obtain ⟨kk, hkk⟩ := List.getElem?_of_mem hm
      have hlt := lv_lt (hl.2.2 _ hm)
      rw [hl.1] at hlt
      have e1 : Int32.ofInt n = cv := of_decide_eq_true h1
      exact lv_iinc hx hb hd hl hkk (by rw [e1]) hlt rfl (fun ls' hl' => xJ_go h hpc k H locs cells slots ls' hw hS (lv_less hl' (xls1_sub hf)) ha hz)
    · cases h
  | ldc j =>
    have hln : ln = 2 := Nat.eq_of_beq_eq_true h2
    subst hln
    simp only [xexec] at h
    split at h
    · rename_i x hv
      rcases hTK _ _ _ hv with ⟨x', e1, hc⟩ | ⟨x', e1, hc⟩ | ⟨w, e1, -⟩
      · cases e1
        exact lv_ldc hx hb hown (hts _ hc) hd (xJ_go h hpc k H locs cells slots ls hw hS hl ha hz)
      · cases e1
      · cases e1
    · rename_i w hv
      rcases hTK _ _ _ hv with ⟨x', e1, hc⟩ | ⟨x', e1, hc⟩ | ⟨w', e1, h16, h4, hix⟩
      · cases e1
      · cases e1
      · cases e1
        have hR := hST.2.2.2.1.2 w h16
        rw [hix] at hR
        rw [h4] at hown
        have hgo := xJ_go h hpc k H locs cells slots ls hw hS hl ha hz
        rw [List.map_cons] at hgo
        simp only [xcv, Nat.mod_eq_of_lt h16] at hgo
        exact va_ldcS hx hb hown hR hd hgo
    · cases h
  | ldc_w j =>
    have hln : ln = 3 := Nat.eq_of_beq_eq_true h2
    subst hln
    simp only [xexec] at h
    split at h
    · rename_i x hv
      rcases hTK _ _ _ hv with ⟨x', e1, hc⟩ | ⟨x', e1, hc⟩ | ⟨w, e1, -⟩
      · cases e1
        exact lv_ldcw hx hb hown (hts _ hc) hd (xJ_go h hpc k H locs cells slots ls hw hS hl ha hz)
      · cases e1
      · cases e1
    · cases h
  | ldc2_w j =>
    have hln : ln = 3 := Nat.eq_of_beq_eq_true h2
    subst hln
    simp only [xexec] at h
    split at h
    · rename_i x hv
      rcases hTK _ _ _ hv with ⟨x', e1, hc⟩ | ⟨x', e1, hc⟩ | ⟨w, e1, -⟩
      · cases e1
      · cases e1
        exact lv_ldc2 hx hb hown (hts _ hc) hd (xJ_go h hpc k H locs cells slots ls hw hS hl ha hz)
      · cases e1
    · cases h
  | ifCond cd off =>
    have hln : ln = 3 := Nat.eq_of_beq_eq_true h2
    subst hln
    have ht : (pc : Int) + off = (tgt : Int) := of_decide_eq_true h1
    simp only [xexec] at h
    split at h
    · rename_i x r
      simp only [Option.some.injEq, Sum.inr.injEq] at h
      subst h
      have hk := xbr_inv (fun z => xJ p l e R s m args below meth c Q g nL n0 m0 σ (z, lv, r, sh, o, lg)) k
      have go : ∀ z, z < 100000 → xJ p l e R s m args below meth c Q g nL n0 m0 σ (xnx M z, lv, r, sh, o, lg) → W p l e R s m args below meth c H locs cells slots Q (F0 m z ls (r.map (xcv g))) := fun z hz2 kk => xJ_go (M := M) rfl hz2 kk H locs cells slots ls hw hS hl ha hz
      cases cd
      · exact lv_if_eq hx hb hd ht (fun z => go _ htg (hk.1 z)) (fun z => go _ hpc (hk.2 z))
      · exact lv_if_ne hx hb hd ht (fun z => go _ htg (hk.1 z)) (fun z => go _ hpc (hk.2 z))
      · exact lv_if_lt hx hb hd ht (fun z => go _ htg (hk.1 z)) (fun z => go _ hpc (hk.2 z))
      · exact lv_if_ge hx hb hd ht (fun z => go _ htg (hk.1 z)) (fun z => go _ hpc (hk.2 z))
      · exact lv_if_gt hx hb hd ht (fun z => go _ htg (hk.1 z)) (fun z => go _ hpc (hk.2 z))
      · exact lv_if_le hx hb hd ht (fun z => go _ htg (hk.1 z)) (fun z => go _ hpc (hk.2 z))
    · cases h
  | if_icmp cd off =>
    have hln : ln = 3 := Nat.eq_of_beq_eq_true h2
    subst hln
    have ht : (pc : Int) + off = (tgt : Int) := of_decide_eq_true h1
    simp only [xexec] at h
    split at h
    · rename_i y x r
      simp only [Option.some.injEq, Sum.inr.injEq] at h
      subst h
      have hk := xbr_inv (fun z => xJ p l e R s m args below meth c Q g nL n0 m0 σ (z, lv, r, sh, o, lg)) k
      have go : ∀ z, z < 100000 → xJ p l e R s m args below meth c Q g nL n0 m0 σ (xnx M z, lv, r, sh, o, lg) → W p l e R s m args below meth c H locs cells slots Q (F0 m z ls (r.map (xcv g))) := fun z hz2 kk => xJ_go (M := M) rfl hz2 kk H locs cells slots ls hw hS hl ha hz
      cases cd
      · exact lv_icmp_eq hx hb hd ht (fun z => go _ htg (hk.1 z)) (fun z => go _ hpc (hk.2 z))
      · exact lv_icmp_ne hx hb hd ht (fun z => go _ htg (hk.1 z)) (fun z => go _ hpc (hk.2 z))
      · exact lv_icmp_lt hx hb hd ht (fun z => go _ htg (hk.1 z)) (fun z => go _ hpc (hk.2 z))
      · exact lv_icmp_ge hx hb hd ht (fun z => go _ htg (hk.1 z)) (fun z => go _ hpc (hk.2 z))
      · exact lv_icmp_gt hx hb hd ht (fun z => go _ htg (hk.1 z)) (fun z => go _ hpc (hk.2 z))
      · exact lv_icmp_le hx hb hd ht (fun z => go _ htg (hk.1 z)) (fun z => go _ hpc (hk.2 z))
    · cases h
  | tableswitch d lo hi2 offs =>
    simp only [xen1, Bool.and_eq_true, decide_eq_true_eq, List.all_eq_true, List.mem_range] at h1
    obtain ⟨⟨⟨e1, e2⟩, e3⟩, e4⟩ := h1
    simp only [xexec] at h
    split at h
    · rename_i x r
      simp only [Option.some.injEq, Sum.inr.injEq] at h
      subst h
      have go : ∀ z, z < 100000 → xJ p l e R s m args below meth c Q g nL n0 m0 σ (xnx M z, lv, r, sh, o, lg) → W p l e R s m args below meth c H locs cells slots Q (F0 m z ls (r.map (xcv g))) := fun z hz2 kk => xJ_go (M := M) rfl hz2 kk H locs cells slots ls hw hS hl ha hz
      rcases xsw_inv (M := M) cs tgt x with ⟨j, t, hj, es⟩ | ⟨hno, es⟩
      · rw [es] at k
        have hjl := (List.getElem?_eq_some_iff.mp hj).1
        obtain ⟨e5, e6⟩ := e4 j hjl
        have hg : cs.getD j (0, 0) = (x, t) := by rw [List.getD_eq_getElem?_getD, hj]; rfl
        rw [hg] at e5 e6
        dsimp only at e5 e6
        have hto : (x.toInt - lo).toNat = j := by omega
        refine lv_tableIn hx hb hd (off := offs.getD j 0) (tgt := t) (by omega) (by omega) ?_ e6 (go t (hcs _ (List.mem_of_getElem? hj)) k)
        rw [hto]
        have hjo : j < offs.size := by omega
        simp [Array.getD, hjo]
      · rw [es] at k
        refine lv_tableOut hx hb hd ?_ e1 (go tgt htg k)
        rcases Int.lt_or_le x.toInt lo with q1 | q1
        · exact Or.inl q1
        rcases Int.lt_or_le hi2 x.toInt with q2 | q2
        · exact Or.inr q2
        exfalso
        have hjl : (x.toInt - lo).toNat < cs.length := by omega
        obtain ⟨e5, -⟩ := e4 _ hjl
        have hmem : cs.getD (x.toInt - lo).toNat (0, 0) ∈ cs := by
          rw [List.getD_eq_getElem?_getD, List.getElem?_eq_getElem hjl]
          exact List.getElem_mem hjl
        refine hno _ hmem (Int32.toInt_inj.mp ?_)
        rw [e5]
        omega
    · cases h
  | getstatic j =>
    have hln : ln = 3 := Nat.eq_of_beq_eq_true h2
    subst hln
    simp only [xexec] at h
    split at h
    · rename_i v hv
      have hgo := xJ_go h hpc k H locs cells slots ls hw hS hl ha hz
      rcases hTG _ _ _ hv with ⟨rfl, h9⟩ | ⟨rfl, h9⟩ | ⟨rfl, h9⟩ | ⟨rfl, h9⟩
      · rcases h9 with h9 | ⟨h9, rfl⟩
        · exact va_gets hx hb hST.1.1 hS hown (hts _ h9) (fun _ z => z) hd hgo
        · obtain ⟨cf, kf, fi, f, a, cell, q1, q2, q3, q4, q5, q6, q7, q8⟩ := hST.1.1
          rw [h9] at hown
          exact va_WgetsN hx hb hown (va_Nw.use (A := args) rfl hST.2.2.2.2.1.2) q1 q2 q3 q4 (by rw [hS.2.1 a (Array.getElem?_eq_some_iff.mp q5).1 q8]; exact q5) (fun e => by rw [e] at q6; cases q6) q7 rfl hd hgo
      · exact va_gets hx hb hST.2.1.1 hS hown (hts _ h9) (fun _ z => z) hd hgo
      · exact va_gets hx hb hST.2.2.1.1 hS hown (hts _ h9) (fun _ z => z) hd hgo
      · exact va_gets hx hb hST.2.2.1.2.1 hS hown (hts _ h9) (fun _ z => z) hd hgo
    · cases h
  | _ => exact absurd hi (by simp)
end S5
