/-! FROM THE LAW'S ENTRY, 4: the frame -/
section ST4
variable {p : Program} {l : Launch} {e : Env} {s : State} {m : MethodId} {below : List Frame} {meth : Method} {c : Code} {b L : Nat} {xs : Nat → Int32}
theorem st_arr (ty : FieldType) {args : Array Value} (ho : ∀ C, ty ≠ .object C) (h : (Cond.arrayClass ty).before args s = true) : ∃ cA, ArrOfT s cA ty ∧ va_RA s cA ty := by
  obtain ⟨cA, kA, comp, h1, h2, h3⟩ := Cond.arrayClass_spec h
  refine ⟨cA, fun n z => ?_, ?_⟩
  · simp [State.isArrayOf, arrV, h2, h3]
  · cases ty with
    | object C => exact absurd rfl (ho C)
    | _ => exact h1
theorem st_world (hts : ∀ w ∈ lw_tbl, w.before #[Value.ref b] s = true) (hgv : (Jvm.Cond.and given_1 narrow_1).before #[Value.ref b] s = true) (hX : va_X b L xs s s.heap) (hb : b < s.heap.size) (hL : L ≤ 3072) : ∃ g : xG, g_a g = s.heap.size ∧ g_b g = b ∧ xKK g s ∧ xST g (L, xs) s s.heap := by
  have hs := flat_of_before _ hgv
  have hts1 : ∀ w ∈ xTs, w.before #[Value.ref b] s = true := fun w hw => hts w (List.mem_filter.mp hw).1
  have hA : ∀ a : Nat, a < s.heap.size → ¬ (s.heap.size ≤ a) := fun a h1 h2 => Nat.not_le_of_lt h1 h2
  have hD : ∀ ci : Nat, ∃ q : ClassId × (Nat → Nat), ∀ r, vwCl[ci]? = some r → u_Kn s r.1 r.2.1 r.2.2 q.1 q.2 := by
    intro ci
    cases h : vwCl[ci]? with
    | none => exact ⟨(0, fun _ => 0), fun r hr => by cases hr⟩
    | some r =>
      obtain ⟨cC, iS, hk⟩ := u_known hts1 (t_all.2.1 ci r.1 r.2.1 r.2.2 h).2.1 (hts _ (st_inst ci r h))
      exact ⟨(cC, iS), fun r' hr => by cases hr; exact hk⟩
  obtain ⟨D, hD⟩ := Classical.axiomOfChoice hD
  obtain ⟨cI, hI1, hI2⟩ := st_arr .int (fun C => by intro h; cases h) (hts (.arrayClass .int) (by decide +kernel))
  obtain ⟨cC, hC1, hC2⟩ := st_arr .char (fun C => by intro h; cases h) (hts (.arrayClass .char) (by decide +kernel))
  obtain ⟨t0, ht0, hT0⟩ := va_Tof (f := fun j => .int ((xstats.getD 0 []).getD j 0)) (tm := .static RX5 "MOST_OF_RULE" "[I") (ty := .int) (N := 5) (by decide) (hs _ (show _ ∈ st_fl by decide +kernel)) (va_eqt (hs _ (show _ ∈ st_fl by decide +kernel))) (fun j hj => va_eqt (hs _ (st_g1 j hj))) hA
  obtain ⟨t1, ht1, hT1⟩ := va_Tof (f := fun j => .int ((xstats.getD 1 []).getD j 0)) (tm := .static RX0 "ABOVE" "[I") (ty := .int) (N := 7) (by decide) (hs _ (show _ ∈ st_fl by decide +kernel)) (va_eqt (hs _ (show _ ∈ st_fl by decide +kernel))) (fun j hj => va_eqt (hs _ (st_g2 j hj))) hA
  have hZ0 := va_Zof (hts (.laysStatic RX5 "MOST_OF_RULE" "[I") (by decide +kernel)) (hts (.initialized RX5) (by decide +kernel)) ht0 hA
  have hZ1 := va_Zof (hts (.laysStatic RX0 "ABOVE" "[I") (by decide +kernel)) (hts (.initialized RX0) (by decide +kernel)) ht1 hA
  have hZ2 := va_Zof (hts (.laysStatic RJ0 "COMPACT_STRINGS" "Z") (by decide +kernel)) (hts (.initialized RJ0) (by decide +kernel)) (va_eqi (hs (.eq (.static RJ0 "COMPACT_STRINGS" "Z") (.int 1)) (show _ ∈ st_fl by decide +kernel))) hA
  have hZ3 := va_Zqof (hts (.laysStatic RJ3 "SIOOBE_FORMATTER" "Ljava/util/function/BiFunction;") (by decide +kernel)) (hts (.initialized RJ3) (by decide +kernel)) (hs _ (show _ ∈ st_fl by decide +kernel)) hA
  obtain ⟨aK, aV, hS1, hS2⟩ := vk_Sof (tm := st_tm) (N := 16) (len := xlens) (byt := xstrs) st_f8 (fun i hi => hs _ (st_f1 i hi)) (fun i hi => hs _ (st_f2 i hi)) (fun i hi => hs _ (st_f3 i hi)) (fun i hi => hs _ (st_f4 i hi)) (fun i hi j hj => hs _ (st_f5 i hi j hj)) (fun i j hi hj hij => (st_f6 i j hi hj hij).imp (fun h => hs _ h) (fun h => hs _ h)) hA
  have hfv : ∃ fv : Value, va_Z RJ3 "SIOOBE_FORMATTER" "Ljava/util/function/BiFunction;" fv (fun q => s.heap.size ≤ q) s s.heap ∧ (fv = .null ∨ ∃ a, fv = .ref a) := by
    rcases hZ3 with h | ⟨t, h⟩
    · exact ⟨.null, h, Or.inl rfl⟩
    · exact ⟨.ref t, h, Or.inr ⟨t, rfl⟩⟩
  obtain ⟨fv, hf1, hf2⟩ := hfv
  refine ⟨(s.heap.size, b, (fun i => (D i).1, fun i => (D i).2), cI, cC, aK, aV, fun i => if i = 0 then t0 else t1, fv), rfl, rfl, ⟨fun i r hr => hD i r hr, fun k q hk => ?_⟩, ⟨hZ0, hT0⟩, ⟨hZ1, hT1⟩, ⟨hZ2, hf1, hf2⟩, ⟨hS1, fun i hi => vk_R.of (hts _ (st_f7 i hi)) (hS2 i hi)⟩, ⟨fun w hw => va_Nw.of ?_ (hts w (st_nw.1 w hw)), va_Nw.of rfl (hts _ st_nw.2)⟩, hX, hb, hL⟩
  · match k, hk with
    | 0, hk => cases hk; exact ⟨hI1, hI2⟩
    | 1, hk => cases hk; exact ⟨hC1, hC2⟩
    | k + 2, hk => cases hk
  · simp only [xNWm, List.mem_cons, List.not_mem_nil, or_false] at hw
    rcases hw with rfl | rfl | rfl | rfl | rfl | rfl | rfl <;> rfl
end ST4
