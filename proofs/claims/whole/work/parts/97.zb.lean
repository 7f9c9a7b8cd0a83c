/-! the glue of stood and seed -/
theorem c_stood {X : xX} {Inv : xM → Int64 → Prop} (σ : xM) (lg : Int64) (v : Int32) (hA : IA σ) (hB : IB σ) (hI : ∀ (a b : Nat → Int32), IA (xget [(5600, b)] (xget [(100, a)] σ)) → IB (xget [(5600, b)] (xget [(100, a)] σ)) → Inv (xget [(5600, b)] (xget [(100, a)] σ)) lg) : xCmdI X Inv 77 154 [.int v] σ lg := by
  obtain ⟨r5, r6, h1, h2, h3, h4⟩ := p_stood hA hB v
  have e5 := EM_up (d' := 11) (by decide) (e_X5_stood X σ lg v r5 h1)
  have e6 := EM_up (d' := 11) (by decide) (e_X6_stood X (xget [(100, r5.2)] σ) lg v r6 h2)
  refine ⟨r5.1, _, lg, _, lg, e5, ?_, hI _ _ hA h4⟩
  rw [h3]
  exact e6
