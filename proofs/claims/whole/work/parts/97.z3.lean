/-! the commands' glue: bow -/
def IA (σ : xM) : Prop := SR (σ 5300) (σ 201 0) (σ 207 0) (σ 208 0) (σ 209 0) (σ 210 0) (σ 214 0) (σ 300) (σ 400) (σ 500) (σ 600) (σ 700) (σ 800) (σ 900) (σ 1000) (σ 1100)
def IB (σ : xM) : Prop := FR (σ 100) (σ 5600)
/-- the cells that bow writes -/
theorem c_bow {X : xX} {Inv : xM → Int64 → Prop} (σ : xM) (lg : Int64) (v : Int32) (hA : IA σ) (hB : IB σ) (hI : ∀ (a b d e f g h i : Nat → Int32), IA (xget [(5300, h), (5600, i)] (xget [(100, a), (201, b), (300, d), (400, e), (500, f), (600, g)] σ)) → IB (xget [(5300, h), (5600, i)] (xget [(100, a), (201, b), (300, d), (400, e), (500, f), (600, g)] σ)) → Inv (xget [(5300, h), (5600, i)] (xget [(100, a), (201, b), (300, d), (400, e), (500, f), (600, g)] σ)) lg) : xCmdI X Inv 68 144 [.int v] σ lg := by
  obtain ⟨r5, r6, h1, h2, h3, h4, h5⟩ := p_bow hA hB v
  have e5 := EM_up (d' := 11) (by decide) (e_X5_bow X σ lg v r5 h1)
  have e6 := EM_up (d' := 11) (by decide) (e_X6_bow X (xget [(100, r5.2.1), (201, fun _ => r5.2.2.1), (300, r5.2.2.2.1), (400, r5.2.2.2.2.1), (500, r5.2.2.2.2.2.1), (600, r5.2.2.2.2.2.2)] σ) lg v r6 h2)
  refine ⟨r5.1, _, lg, _, lg, e5, ?_, hI _ _ _ _ _ _ _ _ h5 h4⟩
  rw [h3]
  exact e6
