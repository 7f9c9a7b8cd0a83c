/-! seed -/
theorem SR_z {s kd lo se ah ru sg no ti sp : Nat → Int32} {bw th cm hd ck zz : Int32} (h : SR s bw th cm hd ck zz kd lo se ah ru sg no ti sp) (v : Int32) : SR (upd s 4 v) bw th cm hd ck v kd lo se ah ru sg no ti sp := by
  obtain ⟨nb, nt, ⟨a1, a2, a3, a4, a5, a6⟩, hb, ⟨f, f1, f2, c, c1, c2, c3⟩, ⟨g1, g2, g3⟩, r1, s1⟩ := h
  have w : ∀ i, i ≠ 4 → upd s 4 v i = s i := fun i hi => upd_ne hi
  refine ⟨nb, nt, ⟨a1, a2, by rw [w 3 (by decide), a3], a4, by rw [w 2 (by decide), a5], a6⟩, fun b hb' => ?_, ⟨f, fun i hi => ?_, f2, c, c1, c2, c3⟩, ⟨by rw [w 0 (by decide), g1], by rw [w 1 (by decide), g2], upd_eq.symm⟩, fun k hk => by rw [w _ (by omega), r1 k hk], fun k hk => ?_⟩
  · rw [w _ (by omega), w _ (by omega), w _ (by omega), w _ (by omega)]
    exact hb b hb'
  · rw [w _ (by omega), w _ (by omega), w _ (by omega)]
    exact f1 i hi
  · rw [w _ (by omega)]
    exact s1 k hk
theorem p_seed {s kd lo se ah ru sg no ti sp : Nat → Int32} {bw th cm hd ck zz : Int32} (h : SR s bw th cm hd ck zz kd lo se ah ru sg no ti sp) (v : Int32) :
    ∃ r5 r6, X5_seed zz v = some r5 ∧ X6_seed s v = some r6 ∧ r5.1 = r6.1 ∧ SR r6.2 bw th cm hd ck r5.2 kd lo se ah ru sg no ti sp := by
  have h1 := SR_z h v
  obtain ⟨nb, nt, -, -, -, ⟨-, -, g3⟩, -⟩ := h
  exact ⟨_, _, rfl, rfl, g3, h1⟩
