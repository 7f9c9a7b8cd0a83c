/-! THE COMMANDS: class and reference answer the same (under way) -/
theorem pure_all : ∃ Inv : xM → Int64 → Prop, (∀ X : xX, X.1 ≤ 3072 → xCmds X Inv) ∧ Inv xm0 0 := by
  sorry
