/-! SOUNDNESS 6: the heap's instructions -/
theorem xsl_app (sh : xS) (x : xSh) : xsl (sh ++ [x]) = xsl sh + xsz x := by simp [xsl]
theorem xsl_set {sh : xS} {q : Nat} {x y : xSh} (h : xnth sh q = some x) (he : xsz y = xsz x) : xsl (sh.set q y) = xsl sh := by
  unfold xsl
  induction sh generalizing q with
  | nil => cases q <;> simp [xnth] at h
  | cons a sh ih =>
    cases q with
    | zero =>
      simp only [xnth, Option.some.injEq] at h
      subst h
      simp [he]
    | succ q =>
      simp only [xnth] at h
      simp only [List.set_cons_succ, List.map_cons, List.sum_cons, ih h]
theorem xnth_app_lt {sh : xS} {x : xSh} {q : Nat} (h : q < sh.length) : xnth (sh ++ [x]) q = xnth sh q := by
  rw [xnth_get, xnth_get, List.getElem?_append_left h]
theorem xnth_app_eq {sh : xS} {x : xSh} : xnth (sh ++ [x]) sh.length = some x := by
  rw [xnth_get]; simp
theorem xget_zero (q : Nat) (σ : xM) : ∀ (tags : List Nat) (k : Nat) (o : xO) (c : Nat), xget (xzero q k tags o) σ c = if (∃ j, j < tags.length ∧ tags.getD j 2 = 0 ∧ c = 100 * q + (k + j) + 1) then (fun _ => 0) else xget o σ c := by
  intro tags
  induction tags with
  | nil => intro k o c; rw [xzero, if_neg]; rintro ⟨j, hj, -⟩; cases hj
  | cons t tags ih =>
    intro k o c
    rw [xzero, ih]
    by_cases h : ∃ j, j < tags.length ∧ tags.getD j 2 = 0 ∧ c = 100 * q + (k + 1 + j) + 1
    · rw [if_pos h, if_pos]
      obtain ⟨j, h1, h2, h3⟩ := h
      exact ⟨j + 1, by simp; omega, by simpa using h2, by omega⟩
    · rw [if_neg h]
      cases ht : Nat.beq t 0 with
      | true =>
        have ht0 : t = 0 := Nat.eq_of_beq_eq_true ht
        rw [cond_true, xget_set]
        by_cases hc : 100 * q + k + 1 = c
        · rw [if_pos hc, if_pos]
          exact ⟨0, by simp, by simpa using ht0, by omega⟩
        · rw [if_neg hc, if_neg]
          rintro ⟨j, h1, h2, h3⟩
          cases j with
          | zero => omega
          | succ j => exact h ⟨j, by simpa using h1, by simpa using h2, by omega⟩
      | false =>
        rw [cond_false, if_neg]
        rintro ⟨j, h1, h2, h3⟩
        cases j with
        | zero =>
          have : t = 0 := by simpa using h2
          subst this
          cases ht
        | succ j => exact h ⟨j, by simpa using h1, by simpa using h2, by omega⟩
/-- a world grows by a cell -/
theorem xWd_push {g : xG} {sh : xS} {σ σ' : xM} {lg lg' : Int64} {H H1 : Heap} {x : xSh} (hw : xWd g sh σ lg H) (hz : H1.size = H.size + 1) (ho : ∀ a, a < H.size → H1[a]? = H[a]?) (hσ : ∀ c, c < 100 * sh.length → σ' c = σ c) (hlg : ∀ c, c < 100 * sh.length → c = LGC → lg' = lg) (hx : xAt g σ' lg' sh.length x H1) : xWd g (sh ++ [x]) σ' lg' H1 := by
  refine ⟨by rw [List.length_append, hz, hw.1]; simp; omega, fun q y hy => ?_⟩
  by_cases h : q < sh.length
  · rw [xnth_app_lt h] at hy
    have h2 := hw.2 q y hy
    have hlt : g_a g + q < H.size := by rw [hw.1]; omega
    cases y with
    | inl p =>
      obtain ⟨ci, tags⟩ := p
      obtain ⟨r, r1, r2, r3, r4⟩ := h2
      refine ⟨r, r1, r2, r3, (r4.kept (ho _ hlt)).to (fun k hk => ?_)⟩
      have hc : 100 * q + k + 1 < 100 * sh.length := by omega
      unfold xfv
      split
      · rw [hσ _ hc]
      · by_cases he : 100 * q + k + 1 = LGC
        · rw [if_pos he, if_pos he, hlg _ hc he]
        · rw [if_neg he, if_neg he]
      · rfl
      · rfl
    | inr p =>
      obtain ⟨ch, n⟩ := p
      simp only [xAt] at h2 ⊢
      rw [ho _ hlt, hσ _ (by omega)]
      exact h2
  · have hq : q = sh.length := by
      have := xnth_lt hy
      rw [List.length_append] at this
      simp at this
      omega
    subst hq
    rw [xnth_app_eq] at hy
    cases hy
    exact hx
section S6
variable {p : Program} {l : Launch} {e : Env} {R : Room} {s : State} {m : MethodId} {args : Array Value} {below : List Frame} {meth : Method} {c : Code} {Q : State → Prop} {g : xG} {X : xX} {cc : ByteArray} {nL n0 m0 : Nat} {M : xT} {σ : xM}
theorem xaload_inv {kd pc : Nat} {lv : xL} {sh : xS} {o : xO} {lg : Int64} {st : List Value} {a : xAc} (h : xaload XP M X σ kd pc lv sh o lg st = some a) : ∃ i v r n f, st = .int i :: v :: r ∧ xarr XP X σ sh o v = some (kd, n, f) ∧ inr i n ∧ xgt M pc lv (.int (f i.toNatClampNeg) :: r) sh o lg = some a := by
  unfold xaload at h
  split at h
  · split at h
    · rename_i k n f hx
      cases hb : Nat.beq k kd with
      | true =>
        rw [hb, cond_true] at h
        have := Nat.eq_of_beq_eq_true hb
        subst this
        obtain ⟨h1, h2⟩ := x_ite h
        exact ⟨_, _, _, _, _, rfl, hx, h1, h2⟩
      | false => rw [hb] at h; cases h
    · cases h
  · cases h
theorem xastore_inv {kd pc : Nat} {lv : xL} {sh : xS} {o : xO} {lg : Int64} {st : List Value} {a : xAc} (h : xastore M σ kd pc lv sh o lg st = some a) : ∃ x i q r ch n, st = .int x :: .int i :: .ref q :: r ∧ q ≤ 899 ∧ xnth sh q = some (.inr (ch, n)) ∧ (bif ch then 1 else 0) = kd ∧ inr i n ∧ xgt M pc lv r sh (xset o (100 * q) (upd (xget o σ (100 * q)) i.toNatClampNeg (xnar kd x))) lg = some a := by
  unfold xastore at h
  split at h
  · rename_i x i q r
    cases hq : Nat.ble q 899 with
    | false => rw [hq] at h; cases h
    | true =>
      rw [hq, cond_true] at h
      split at h
      · rename_i ch n hx
        cases hb : Nat.beq (bif ch then 1 else 0) kd with
        | false => rw [hb] at h; cases h
        | true =>
          rw [hb, cond_true] at h
          obtain ⟨h1, h2⟩ := x_ite h
          exact ⟨_, _, _, _, _, _, rfl, Nat.le_of_ble_eq_true hq, hx, Nat.eq_of_beq_eq_true hb, h1, h2⟩
      · cases h
  · cases h
theorem xcv_small {q : Nat} (h : q ≤ 899) : xcv g (.ref q) = .ref (g_a g + q) := by simp only [xcv]; rw [if_pos h]
theorem vwlen {ci : Nat} {r : vw_C} (h : vwCl[ci]? = some r) : ci < 6 := (List.getElem?_eq_some_iff.mp h).1
theorem xexec_heap (Y : xYt) (hT : xTab Y) (hF : xFrm g X p s m args meth c R cc nL M) {i : Instr} {ln tgt : Nat} {cv : Int32} {cs : List (Int32 × Nat)} {pc : Nat} {lv : xL} {st : List Value} {sh : xS} {o : xO} {lg : Int64} {c' : xC} (hr : xenok cc nL (pc, i, ln, tgt, cv, cs) = true)
    (hi : match i with | .iaload | .caload | .baload | .iastore | .castore | .arraylength | .getfield _ => True | _ => False)
    (h : xexec XP M X σ i tgt cv cs (pc + ln) lv st sh o lg = some (.inr (.inr c'))) (k : xJ p l e R s m args below meth c Q g nL n0 m0 σ c') : xAtW p l e R s m args below meth c Q g nL n0 m0 σ pc lv st sh o lg := by
  obtain ⟨h3, hd, hpc, htg, hcs, h1, h2⟩ := xex_dec hr
  obtain ⟨hTF, hTF2, -, -, -, -, -, -⟩ := hT
  obtain ⟨hx, hb, hml, hown, hts, hK, hST, hs0, hini, hok, hR1, hR2⟩ := hF
  have hf := hST.2.2.1.2.2
  dsimp only at hd hpc htg h1 h2 h3 hcs
  intro H locs cells slots ls hw hS hl ha hz
  cases i with
  | iaload =>
    have hln : ln = 1 := Nat.eq_of_beq_eq_true h2
    subst hln
    obtain ⟨i, v, r, n, f, rfl, hxa, hin, hg⟩ := xaload_inv h
    obtain ⟨a, ea, hA⟩ := x_arr hs0 hK hST hS hw hxa
    rw [List.map_cons, List.map_cons, ea]
    exact x_ald hx hb hA hin hd (xJ_go hg hpc k H locs cells slots ls hw hS hl ha hz)
  | caload =>
    have hln : ln = 1 := Nat.eq_of_beq_eq_true h2
    subst hln
    obtain ⟨i, v, r, n, f, rfl, hxa, hin, hg⟩ := xaload_inv h
    obtain ⟨a, ea, hA⟩ := x_arr hs0 hK hST hS hw hxa
    rw [List.map_cons, List.map_cons, ea]
    exact x_ald hx hb hA hin hd (xJ_go hg hpc k H locs cells slots ls hw hS hl ha hz)
  | baload =>
    have hln : ln = 1 := Nat.eq_of_beq_eq_true h2
    subst hln
    obtain ⟨i, v, r, n, f, rfl, hxa, hin, hg⟩ := xaload_inv h
    obtain ⟨a, ea, hA⟩ := x_arr hs0 hK hST hS hw hxa
    rw [List.map_cons, List.map_cons, ea]
    exact x_ald hx hb hA hin hd (xJ_go hg hpc k H locs cells slots ls hw hS hl ha hz)
  | iastore =>
    have hln : ln = 1 := Nat.eq_of_beq_eq_true h2
    subst hln
    obtain ⟨x, i, q, r, ch, n, rfl, hq, hxa, hch, hin, hg⟩ := xastore_inv h
    cases ch with
    | true => cases hch
    | false =>
      rw [List.map_cons, List.map_cons, List.map_cons, xcv_small hq]
      exact x_ast hx hb hK hw hs0 hS hxa hin hd (fun H1 locs1 hw1 hS1 => xJ_go hg hpc k H1 locs1 cells slots ls hw1 hS1 hl ha hz)
  | castore =>
    have hln : ln = 1 := Nat.eq_of_beq_eq_true h2
    subst hln
    obtain ⟨x, i, q, r, ch, n, rfl, hq, hxa, hch, hin, hg⟩ := xastore_inv h
    cases ch with
    | false => cases hch
    | true =>
      rw [List.map_cons, List.map_cons, List.map_cons, xcv_small hq]
      exact x_ast hx hb hK hw hs0 hS hxa hin hd (fun H1 locs1 hw1 hS1 => xJ_go hg hpc k H1 locs1 cells slots ls hw1 hS1 hl ha hz)
  | arraylength =>
    have hln : ln = 1 := Nat.eq_of_beq_eq_true h2
    subst hln
    simp only [xexec] at h
    split at h
    · split at h
      · rename_i hxa
        obtain ⟨a, ea, hA⟩ := x_arr hs0 hK hST hS hw hxa
        rw [List.map_cons, ea]
        exact x_alen hx hb hA hd (xJ_go h hpc k H locs cells slots ls hw hS hl ha hz)
      · cases h
    · cases h
  | getfield j =>
    have hln : ln = 3 := Nat.eq_of_beq_eq_true h2
    subst hln
    simp only [xexec, xgetf] at h
    split at h
    · rename_i ci k0 ty fin hfd
      split at h
      · rename_i q r
        cases hq : Nat.ble q 899 with
        | false => rw [hq] at h; cases h
        | true =>
          rw [hq, cond_true] at h
          have hq9 : q ≤ 899 := Nat.le_of_ble_eq_true hq
          split at h
          · rename_i ci' tags hxa
            cases hcb : Nat.beq ci' ci with
            | false => rw [hcb] at h; cases h
            | true =>
              rw [hcb, cond_true] at h
              have hce := Nat.eq_of_beq_eq_true hcb
              subst hce
              rcases hTF _ _ _ _ _ _ hfd with ⟨C, T, N, hc, hk, hlk, -, -⟩ | ⟨h100, -⟩
              · have hin := (hTF2 _ _ _ _ hc).2.1
                rw [List.map_cons, xcv_small hq9]
                refine x_get hx hb hts hown hK hw hxa hc hin hk (hts _ hlk) hd ?_
                have hgd : ∀ t, xnth tags k0 = some t → tags.getD k0 2 = t := by
                  intro t ht
                  rw [xnth_get] at ht
                  rw [List.getD_eq_getElem?_getD, ht]; rfl
                split at h
                · rename_i ht
                  rw [hgd _ ht]
                  exact xJ_go h hpc k H locs cells slots ls hw hS hl ha hz
                · rename_i ht
                  rw [hgd _ ht]
                  cases hlg : Nat.beq (100 * q + k0 + 1) XP.2.2.2.2.2.2.2.2 with
                  | false => rw [hlg] at h; cases h
                  | true =>
                    rw [hlg, cond_true] at h
                    have hgo := xJ_go h hpc k H locs cells slots ls hw hS hl ha hz
                    simp only [xfv]
                    rw [if_pos (Nat.eq_of_beq_eq_true hlg)]
                    exact hgo
                · cases h
                · rename_i t ht
                  rw [hgd _ ht]
                  cases ht9 : Nat.ble t 899 with
                  | false => rw [ht9] at h; cases h
                  | true =>
                    rw [ht9, cond_true] at h
                    have hgo := xJ_go h hpc k H locs cells slots ls hw hS hl ha hz
                    rw [List.map_cons, xcv_small (Nat.le_of_ble_eq_true ht9)] at hgo
                    exact hgo
                · cases h
              · have := vwlen (hw.2 q _ hxa).choose_spec.1
                omega
          · cases h
      · rename_i w r
        cases hcb : Nat.beq ci 100 with
        | false => rw [hcb] at h; cases h
        | true =>
          rw [hcb, cond_true] at h
          have hw16 : w % 16 < 16 := Nat.mod_lt _ (by decide)
          have hV := hST.2.2.2.1.1.1 _ hw16
          rcases hTF _ _ _ _ _ _ hfd with ⟨C, T, N, hc, -⟩ | ⟨-, hs9⟩
          · have := vwlen hc
            have := Nat.eq_of_beq_eq_true hcb
            omega
          rcases hs9 with ⟨hk0, hlk⟩ | ⟨hk0, hlk⟩
          · subst hk0
            have hgo := xJ_go h hpc k H locs cells slots ls hw hS hl ha hz
            rw [List.map_cons] at hgo
            have e1 : xcv g (.float (UInt32.ofNat (w % 4096))) = .ref (g_V g (w % 16)) := by
              simp only [xcv]
              congr 2
              have : (UInt32.ofNat (w % 4096)).toNat = w % 4096 := by
                rw [UInt32.toNat_ofNat']
                omega
              rw [this]
              omega
            rw [e1] at hgo
            exact vk_getf hx hb hV.2.2.1 hS hown (hts _ hlk) (fun _ z => z) hd hgo
          · subst hk0
            exact vk_getf hx hb hV.2.1 hS hown (hts _ hlk) (fun _ z => z) hd (xJ_go h hpc k H locs cells slots ls hw hS hl ha hz)
      · cases h
    · cases h
  | _ => exact absurd hi (by simp)
end S6
