/-! FROM THE LAW'S ENTRY, 1: the machine's rules stand under the law's frame -/
section ST1
variable {p : Program} {l : Launch} {e : Env} {s : State} {m : MethodId} {args : Array Value} {below : List Frame} {meth : Method} {c : Code} {Q : State → Prop} {g : xG} {X : xX}
theorem xsteps_mon (g : xG) {σ : xM} : ∀ (n : Nat) (a b : xC), xsteps XP xm_233 X σ n a = some b → a.2.2.2.1.length ≤ b.2.2.2.1.length ∧ xsl a.2.2.2.1 ≤ xsl b.2.2.2.1 := by
  intro n
  induction n with
  | zero => intro a b h; cases h; exact ⟨Nat.le_refl _, Nat.le_refl _⟩
  | succ n ih =>
    intro a b h
    unfold xsteps at h
    cases hx : xact XP xm_233 X σ a with
    | none => rw [hx] at h; cases h
    | some y =>
      rw [hx] at h
      match y, hx, h with
      | .inr (.inr c1), hx, h =>
        have h1 : a.2.2.2.1.length ≤ c1.2.2.2.1.length ∧ xsl a.2.2.2.1 ≤ xsl c1.2.2.2.1 := xact_mon g hx
        have h2 := ih c1 b h
        exact ⟨Nat.le_trans h1.1 h2.1, Nat.le_trans h1.2 h2.2⟩
      | .inl _, hx, h => cases h
      | .inr (.inl _), hx, h => cases h
theorem st_steps (hF : xFrm g X p s m args meth c room_1 cL_law 4 xm_233) {σ : xM} : ∀ (n : Nat) (a b : xC), xsteps XP xm_233 X σ n a = some b → b.2.2.2.1.length ≤ 69 → xsl b.2.2.2.1 ≤ 13249 → xJ p l e room_1 s m args below meth c Q g 4 0 0 σ b → xJ p l e room_1 s m args below meth c Q g 4 0 0 σ a := by
  intro n
  induction n with
  | zero => intro a b h _ _ k; cases h; exact k
  | succ n ih =>
    intro a b h h1 h2 k
    unfold xsteps at h
    cases hx : xact XP xm_233 X σ a with
    | none => rw [hx] at h; cases h
    | some y =>
      rw [hx] at h
      match y, hx, h with
      | .inr (.inr c1), hx, h =>
        have h3 := xsteps_mon g n c1 b h
        refine xact_sound xYL t_all hF ?_ hx (ih c1 b h h1 h2 k)
        exact ⟨by rw [Nat.zero_add]; exact Nat.le_trans h3.1 h1, by rw [Nat.zero_add]; exact Nat.le_trans h3.2 h2⟩
      | .inl _, hx, h => cases h
      | .inr (.inl _), hx, h => cases h
theorem st_call (hF : xFrm g X p s m args meth c room_1 cL_law 4 xm_233) (σ : xM) (a : xC) (k : Nat) (as : List Value) (pc : Nat) (lv : xL) (st : List Value) (sh : xS) (o : xO) (lg : Int64) (r : Option Value) (sh' : xS) (ol' : xO) (lg' : Int64) (h : xact XP xm_233 X σ a = some (.inr (.inl (k, as, pc, lv, st, sh, o, lg)))) (hE : EM XP X 11 k as sh lg (xget o σ) (r, sh', ol', lg')) (h1 : sh'.length ≤ 69) (h2 : xsl sh' ≤ 13249)
    (kk : xJ p l e room_1 s m args below meth c Q g 4 0 0 σ (pc, lv, r.toList ++ st, sh', xmrg o ol', lg')) : xJ p l e room_1 s m args below meth c Q g 4 0 0 σ a := by
  obtain ⟨N, ho⟩ := hE
  refine xact_call xYL t_all hF (MOK_all xYL t_all 11) (by decide) (by decide) h ho ⟨?_, ?_⟩ kk
  · rw [Nat.zero_add]; exact h1
  · rw [Nat.zero_add]; exact h2
theorem st_base (σ : xM) (pc : Nat) (lv : xL) (st : List Value) (sh : xS) (o : xO) (lg : Int64) (kk : xJ p l e room_1 s m args below meth c Q g 4 0 0 (xget o σ) (pc, lv, st, sh, [], lg)) : xJ p l e room_1 s m args below meth c Q g 4 0 0 σ (pc, lv, st, sh, o, lg) :=
  fun H locs cells slots ls h1 h2 h3 h4 h5 => kk H locs cells slots ls h1 h2 h3 h4 h5
end ST1
