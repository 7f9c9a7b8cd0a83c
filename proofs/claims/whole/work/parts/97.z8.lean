/-! the glue of of -/
theorem c_of {X : xX} {Inv : xM → Int64 → Prop} (σ : xM) (lg : Int64) (v w : Int32) (hA : IA σ) (hB : IB σ) (hI : ∀ (a b : Nat → Int32), IA (xget [(5600, b)] (xget [(100, a)] σ)) → IB (xget [(5600, b)] (xget [(100, a)] σ)) → Inv (xget [(5600, b)] (xget [(100, a)] σ)) lg) : xCmdI X Inv 69 145 [.int v, .int w] σ lg := by
  obtain ⟨r5, r6, h1, h2, h3, h4⟩ := p_of hA hB v w
  have e5 := EM_up (d' := 11) (by decide) (e_X5_of X σ lg v w r5 h1)
  have e6 := EM_up (d' := 11) (by decide) (e_X6_of X (xget [(100, r5.2)] σ) lg v w r6 h2)
  refine ⟨r5.1, _, lg, _, lg, e5, ?_, hI _ _ hA h4⟩
  rw [h3]
  exact e6
