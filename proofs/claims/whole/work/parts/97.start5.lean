/-! FROM THE LAW'S ENTRY, 5: the walk, out of the commands' part -/
section ST5
variable {p : Program} {e : Env} {s : State} {m : MethodId} {below : List Frame} {meth : Method} {c : Code} {b L : Nat} {xs : Nat → Int32}
theorem st_size : SH0.length = 69 ∧ xsl SH0 = 13249 := by decide +kernel
theorem st_end (l : Launch) {g : xG} (C0 : lw_At p s m meth c b L xs) (hg : g_a g = s.heap.size) (σ : xM) (lv : xL) (o : xO) (lg : Int64) : xJ p l e room_1 s m #[Value.ref b] below meth c (lw_Z below #[Value.ref b] s) g 4 0 0 σ (1425, lv, [.int 1], SH0, o, lg) := by
  obtain ⟨hx, hb, hr, -, -, -, -, -, hlk, -⟩ := C0
  intro H locs cells slots ls hW hS hls hc hs
  have h1 := st_size
  have hc' : cells = 69 := by omega
  have hs' : slots = 13249 := by omega
  subst hc' hs'
  refine va_forget (fun q hq => ?_) (lw_ret (l := l) hx hb hr hlk (pc := 1425) (by decide +kernel))
  have := hS.2.2 q hq
  rw [← hg]
  exact this
theorem st_rules (l : Launch) {g : xG} (C0 : lw_At p s m meth c b L xs) (hg : g_a g = s.heap.size) (hF : xFrm g (L, xs) p s m #[Value.ref b] meth c room_1 cL_law 4 xm_233) : xRules (L, xs) (fun σ a => xJ p l e room_1 s m #[Value.ref b] below meth c (lw_Z below #[Value.ref b] s) g 4 0 0 σ a) := by
  refine ⟨fun σ n a b h hs k => ?_, fun σ a k as pc lv st o lg r ol' lg' h hE kk => ?_, fun σ pc lv st o lg kk => st_base σ pc lv st SH0 o lg kk, fun σ lv o lg => st_end l C0 hg σ lv o lg⟩
  · exact st_steps hF n a b h (by rw [hs]; exact Nat.le_of_eq st_size.1) (by rw [hs]; exact Nat.le_of_eq st_size.2) k
  · exact st_call hF σ a k as pc lv st SH0 o lg r SH0 ol' lg' h hE (Nat.le_of_eq st_size.1) (Nat.le_of_eq st_size.2) kk
theorem st_whole (l : Launch) (hL : L ≤ 3072) (C0 : lw_At p s m meth c b L xs) {Inv : xM → Int64 → Prop} (hC : xCmds (L, xs) Inv) (h0 : Inv xm0 0) : W p l e room_1 s m #[Value.ref b] below meth c s.heap [] 0 0 (lw_Z below #[Value.ref b] s) (entryFrame m ([Value.ref b] : List Value).toArray 4) := by
  have C1 := C0
  obtain ⟨hx, hb, hr, hml, hown, hts, hX, hbl, hlk, hgv⟩ := C0
  obtain ⟨g, hg1, hg2, hK, hST⟩ := st_world hts hgv hX hbl hL
  have hF : xFrm g (L, xs) p s m #[Value.ref b] meth c room_1 cL_law 4 xm_233 := ⟨hx, hb, hml, hown, fun w hw => hts w (List.mem_filter.mp hw).1, hK, hST, Nat.le_of_eq hg1, fun h => (by cases h), tmo_law, by decide, by decide⟩
  have hJ := law_start (X := (L, xs)) (J := fun σ a => xJ p l e room_1 s m #[Value.ref b] below meth c (lw_Z below #[Value.ref b] s) g 4 0 0 σ a) (fun σ n a b h h1 h2 k => st_steps hF n a b h h1 h2 k) (fun σ a k as pc lv st sh o lg r sh' ol' lg' h hE h1 h2 kk => st_call hF σ a k as pc lv st sh o lg r sh' ol' lg' h hE h1 h2 kk) (fun _ _ => 0)
    (st_base _ _ _ _ _ _ _ (law_loop (st_rules l C1 hg1 hF) hL hC (L + 7) 0 xm0 0 (Nat.zero_le _) (by show L + 6 - 0 < L + 7; omega) h0))
  rw [lg_entry_eq]
  have hlv := lv_entry [Value.ref b] (n := 4) (show (lg_sl [Value.ref b]).length ≤ 4 by simp [lg_sl, Value.category])
  refine hJ s.heap [] 0 0 _ ⟨by rw [hg1]; rfl, fun q x h => ?_⟩ va_S.rf ?_ rfl rfl
  · cases q <;> cases h
  · have e1 : xcl g [(0, Value.ref 900)] = lv_args 0 [Value.ref b] := by
      simp [xcl, xcv, lv_args, ← hg2]
    rw [e1]
    exact hlv
end ST5
