/-! the tables are right, 0 (by gen/tabok.py) -/
/-! the tables are right (by gen/tabok.py) -/

theorem tin_1 : ∀ w ∈ tables_1_1, w ∈ lw_tbl := fun w h => List.mem_append_right _ (List.mem_append_left _ h)
theorem tin_2 : ∀ w ∈ tables_1_2, w ∈ lw_tbl := fun w h => List.mem_append_right _ (List.mem_append_right _ (List.mem_append_left _ h))
theorem tin_3 : ∀ w ∈ tables_1_3, w ∈ lw_tbl := fun w h => List.mem_append_right _ (List.mem_append_right _ (List.mem_append_right _ (List.mem_append_left _ h)))
theorem tin_4 : ∀ w ∈ tables_1_4, w ∈ lw_tbl := fun w h => List.mem_append_right _ (List.mem_append_right _ (List.mem_append_right _ (List.mem_append_right _ (List.mem_append_left _ h))))
theorem tin_5 : ∀ w ∈ tables_1_5, w ∈ lw_tbl := fun w h => List.mem_append_right _ (List.mem_append_right _ (List.mem_append_right _ (List.mem_append_right _ (List.mem_append_right _ (List.mem_append_left _ h)))))
theorem tin_6 : ∀ w ∈ tables_1_6, w ∈ lw_tbl := fun w h => List.mem_append_right _ (List.mem_append_right _ (List.mem_append_right _ (List.mem_append_right _ (List.mem_append_right _ (List.mem_append_right _ (h))))))
theorem tpr_1 : ∀ w ∈ k2_sels lw_privs_1, w ∈ lw_tbl := fun w h => List.mem_append_left _ (by
  obtain ⟨q, hq, rfl⟩ := List.mem_map.mp h
  exact List.mem_map.mpr ⟨q, (show q ∈ lw_privs from List.mem_append_left _ hq), rfl⟩)
theorem tpr_2 : ∀ w ∈ k2_sels lw_privs_2, w ∈ lw_tbl := fun w h => List.mem_append_left _ (by
  obtain ⟨q, hq, rfl⟩ := List.mem_map.mp h
  exact List.mem_map.mpr ⟨q, (show q ∈ lw_privs from List.mem_append_right _ (List.mem_append_left _ hq)), rfl⟩)
theorem tpr_3 : ∀ w ∈ k2_sels lw_privs_3, w ∈ lw_tbl := fun w h => List.mem_append_left _ (by
  obtain ⟨q, hq, rfl⟩ := List.mem_map.mp h
  exact List.mem_map.mpr ⟨q, (show q ∈ lw_privs from List.mem_append_right _ (List.mem_append_right _ (List.mem_append_left _ hq))), rfl⟩)
theorem tpr_4 : ∀ w ∈ k2_sels lw_privs_4, w ∈ lw_tbl := fun w h => List.mem_append_left _ (by
  obtain ⟨q, hq, rfl⟩ := List.mem_map.mp h
  exact List.mem_map.mpr ⟨q, (show q ∈ lw_privs from List.mem_append_right _ (List.mem_append_right _ (List.mem_append_right _ (hq)))), rfl⟩)
theorem tl_0_0 : u_lay RX1 TX1 0 ∈ xTs := (xTs_in (tin_1 _ (List.mem_of_getElem? (i := 127) rfl)) rfl)
theorem tl_0_1 : u_lay RX1 TX1 1 ∈ xTs := (xTs_in (tin_1 _ (List.mem_of_getElem? (i := 129) rfl)) rfl)
theorem tl_0_2 : u_lay RX1 TX1 2 ∈ xTs := (xTs_in (tin_1 _ (List.mem_of_getElem? (i := 131) rfl)) rfl)
theorem tl_0_3 : u_lay RX1 TX1 3 ∈ xTs := (xTs_in (tin_1 _ (List.mem_of_getElem? (i := 133) rfl)) rfl)
theorem tl_0_4 : u_lay RX1 TX1 4 ∈ xTs := (xTs_in (tin_1 _ (List.mem_of_getElem? (i := 135) rfl)) rfl)
theorem tl_0_5 : u_lay RX1 TX1 5 ∈ xTs := (xTs_in (tin_1 _ (List.mem_of_getElem? (i := 137) rfl)) rfl)
theorem tl_0_6 : u_lay RX1 TX1 6 ∈ xTs := (xTs_in (tin_1 _ (List.mem_of_getElem? (i := 139) rfl)) rfl)
theorem tl_0_7 : u_lay RX1 TX1 7 ∈ xTs := (xTs_in (tin_1 _ (List.mem_of_getElem? (i := 141) rfl)) rfl)
theorem tl_0_8 : u_lay RX1 TX1 8 ∈ xTs := (xTs_in (tin_1 _ (List.mem_of_getElem? (i := 143) rfl)) rfl)
theorem tl_0_9 : u_lay RX1 TX1 9 ∈ xTs := (xTs_in (tin_1 _ (List.mem_of_getElem? (i := 145) rfl)) rfl)
theorem tl_0_10 : u_lay RX1 TX1 10 ∈ xTs := (xTs_in (tin_1 _ (List.mem_of_getElem? (i := 147) rfl)) rfl)
theorem tl_0_11 : u_lay RX1 TX1 11 ∈ xTs := (xTs_in (tin_1 _ (List.mem_of_getElem? (i := 149) rfl)) rfl)
theorem tl_0_12 : u_lay RX1 TX1 12 ∈ xTs := (xTs_in (tin_1 _ (List.mem_of_getElem? (i := 151) rfl)) rfl)
theorem tl_0_13 : u_lay RX1 TX1 13 ∈ xTs := (xTs_in (tin_1 _ (List.mem_of_getElem? (i := 153) rfl)) rfl)
theorem tl_0_14 : u_lay RX1 TX1 14 ∈ xTs := (xTs_in (tin_1 _ (List.mem_of_getElem? (i := 155) rfl)) rfl)
theorem tl_0_15 : u_lay RX1 TX1 15 ∈ xTs := (xTs_in (tin_1 _ (List.mem_of_getElem? (i := 157) rfl)) rfl)
theorem tl_0 : ∀ w ∈ u_ws RX1 TX1 16, w ∈ xTs := by
  show ∀ w ∈ [u_lay RX1 TX1 0, u_lay RX1 TX1 1, u_lay RX1 TX1 2, u_lay RX1 TX1 3, u_lay RX1 TX1 4, u_lay RX1 TX1 5, u_lay RX1 TX1 6, u_lay RX1 TX1 7, u_lay RX1 TX1 8, u_lay RX1 TX1 9, u_lay RX1 TX1 10, u_lay RX1 TX1 11, u_lay RX1 TX1 12, u_lay RX1 TX1 13, u_lay RX1 TX1 14, u_lay RX1 TX1 15], w ∈ xTs
  exact List.forall_mem_cons.mpr ⟨tl_0_0, List.forall_mem_cons.mpr ⟨tl_0_1, List.forall_mem_cons.mpr ⟨tl_0_2, List.forall_mem_cons.mpr ⟨tl_0_3, List.forall_mem_cons.mpr ⟨tl_0_4, List.forall_mem_cons.mpr ⟨tl_0_5, List.forall_mem_cons.mpr ⟨tl_0_6, List.forall_mem_cons.mpr ⟨tl_0_7, List.forall_mem_cons.mpr ⟨tl_0_8, List.forall_mem_cons.mpr ⟨tl_0_9, List.forall_mem_cons.mpr ⟨tl_0_10, List.forall_mem_cons.mpr ⟨tl_0_11, List.forall_mem_cons.mpr ⟨tl_0_12, List.forall_mem_cons.mpr ⟨tl_0_13, List.forall_mem_cons.mpr ⟨tl_0_14, List.forall_mem_cons.mpr ⟨tl_0_15, fun _ h => absurd h List.not_mem_nil⟩⟩⟩⟩⟩⟩⟩⟩⟩⟩⟩⟩⟩⟩⟩⟩
theorem tdc_0 : ∀ k, k < 16 → (TX1 k).1 = RX1 := by decide +kernel
theorem tl_1_0 : u_lay RX2 TX2 0 ∈ xTs := (xTs_in (tin_1 _ (List.mem_of_getElem? (i := 69) rfl)) rfl)
theorem tl_1_1 : u_lay RX2 TX2 1 ∈ xTs := (xTs_in (tin_1 _ (List.mem_of_getElem? (i := 71) rfl)) rfl)
theorem tl_1_2 : u_lay RX2 TX2 2 ∈ xTs := (xTs_in (tin_1 _ (List.mem_of_getElem? (i := 73) rfl)) rfl)
theorem tl_1_3 : u_lay RX2 TX2 3 ∈ xTs := (xTs_in (tin_1 _ (List.mem_of_getElem? (i := 75) rfl)) rfl)
theorem tl_1_4 : u_lay RX2 TX2 4 ∈ xTs := (xTs_in (tin_1 _ (List.mem_of_getElem? (i := 77) rfl)) rfl)
theorem tl_1_5 : u_lay RX2 TX2 5 ∈ xTs := (xTs_in (tin_1 _ (List.mem_of_getElem? (i := 79) rfl)) rfl)
theorem tl_1_6 : u_lay RX2 TX2 6 ∈ xTs := (xTs_in (tin_1 _ (List.mem_of_getElem? (i := 81) rfl)) rfl)
theorem tl_1_7 : u_lay RX2 TX2 7 ∈ xTs := (xTs_in (tin_1 _ (List.mem_of_getElem? (i := 83) rfl)) rfl)
theorem tl_1_8 : u_lay RX2 TX2 8 ∈ xTs := (xTs_in (tin_1 _ (List.mem_of_getElem? (i := 85) rfl)) rfl)
theorem tl_1_9 : u_lay RX2 TX2 9 ∈ xTs := (xTs_in (tin_1 _ (List.mem_of_getElem? (i := 87) rfl)) rfl)
theorem tl_1_10 : u_lay RX2 TX2 10 ∈ xTs := (xTs_in (tin_1 _ (List.mem_of_getElem? (i := 89) rfl)) rfl)
theorem tl_1_11 : u_lay RX2 TX2 11 ∈ xTs := (xTs_in (tin_1 _ (List.mem_of_getElem? (i := 91) rfl)) rfl)
theorem tl_1_12 : u_lay RX2 TX2 12 ∈ xTs := (xTs_in (tin_1 _ (List.mem_of_getElem? (i := 93) rfl)) rfl)
theorem tl_1_13 : u_lay RX2 TX2 13 ∈ xTs := (xTs_in (tin_1 _ (List.mem_of_getElem? (i := 95) rfl)) rfl)
theorem tl_1_14 : u_lay RX2 TX2 14 ∈ xTs := (xTs_in (tin_1 _ (List.mem_of_getElem? (i := 97) rfl)) rfl)
theorem tl_1 : ∀ w ∈ u_ws RX2 TX2 15, w ∈ xTs := by
  show ∀ w ∈ [u_lay RX2 TX2 0, u_lay RX2 TX2 1, u_lay RX2 TX2 2, u_lay RX2 TX2 3, u_lay RX2 TX2 4, u_lay RX2 TX2 5, u_lay RX2 TX2 6, u_lay RX2 TX2 7, u_lay RX2 TX2 8, u_lay RX2 TX2 9, u_lay RX2 TX2 10, u_lay RX2 TX2 11, u_lay RX2 TX2 12, u_lay RX2 TX2 13, u_lay RX2 TX2 14], w ∈ xTs
  exact List.forall_mem_cons.mpr ⟨tl_1_0, List.forall_mem_cons.mpr ⟨tl_1_1, List.forall_mem_cons.mpr ⟨tl_1_2, List.forall_mem_cons.mpr ⟨tl_1_3, List.forall_mem_cons.mpr ⟨tl_1_4, List.forall_mem_cons.mpr ⟨tl_1_5, List.forall_mem_cons.mpr ⟨tl_1_6, List.forall_mem_cons.mpr ⟨tl_1_7, List.forall_mem_cons.mpr ⟨tl_1_8, List.forall_mem_cons.mpr ⟨tl_1_9, List.forall_mem_cons.mpr ⟨tl_1_10, List.forall_mem_cons.mpr ⟨tl_1_11, List.forall_mem_cons.mpr ⟨tl_1_12, List.forall_mem_cons.mpr ⟨tl_1_13, List.forall_mem_cons.mpr ⟨tl_1_14, fun _ h => absurd h List.not_mem_nil⟩⟩⟩⟩⟩⟩⟩⟩⟩⟩⟩⟩⟩⟩⟩
theorem tdc_1 : ∀ k, k < 15 → (TX2 k).1 = RX2 := by decide +kernel
theorem tl_2_0 : u_lay RX3 TX3 0 ∈ xTs := (xTs_in (tin_1 _ (List.mem_of_getElem? (i := 209) rfl)) rfl)
theorem tl_2_1 : u_lay RX3 TX3 1 ∈ xTs := (xTs_in (tin_1 _ (List.mem_of_getElem? (i := 211) rfl)) rfl)
theorem tl_2_2 : u_lay RX3 TX3 2 ∈ xTs := (xTs_in (tin_1 _ (List.mem_of_getElem? (i := 213) rfl)) rfl)
theorem tl_2 : ∀ w ∈ u_ws RX3 TX3 3, w ∈ xTs := by
  show ∀ w ∈ [u_lay RX3 TX3 0, u_lay RX3 TX3 1, u_lay RX3 TX3 2], w ∈ xTs
  exact List.forall_mem_cons.mpr ⟨tl_2_0, List.forall_mem_cons.mpr ⟨tl_2_1, List.forall_mem_cons.mpr ⟨tl_2_2, fun _ h => absurd h List.not_mem_nil⟩⟩⟩
theorem tdc_2 : ∀ k, k < 3 → (TX3 k).1 = RX3 := by decide +kernel
theorem tl_3_0 : u_lay RX4 TX4 0 ∈ xTs := (xTs_in (tin_1 _ (List.mem_of_getElem? (i := 177) rfl)) rfl)
theorem tl_3_1 : u_lay RX4 TX4 1 ∈ xTs := (xTs_in (tin_1 _ (List.mem_of_getElem? (i := 179) rfl)) rfl)
theorem tl_3_2 : u_lay RX4 TX4 2 ∈ xTs := (xTs_in (tin_1 _ (List.mem_of_getElem? (i := 181) rfl)) rfl)
theorem tl_3_3 : u_lay RX4 TX4 3 ∈ xTs := (xTs_in (tin_1 _ (List.mem_of_getElem? (i := 183) rfl)) rfl)
theorem tl_3_4 : u_lay RX4 TX4 4 ∈ xTs := (xTs_in (tin_1 _ (List.mem_of_getElem? (i := 185) rfl)) rfl)
theorem tl_3_5 : u_lay RX4 TX4 5 ∈ xTs := (xTs_in (tin_1 _ (List.mem_of_getElem? (i := 187) rfl)) rfl)
theorem tl_3_6 : u_lay RX4 TX4 6 ∈ xTs := (xTs_in (tin_1 _ (List.mem_of_getElem? (i := 189) rfl)) rfl)
theorem tl_3_7 : u_lay RX4 TX4 7 ∈ xTs := (xTs_in (tin_1 _ (List.mem_of_getElem? (i := 191) rfl)) rfl)
theorem tl_3_8 : u_lay RX4 TX4 8 ∈ xTs := (xTs_in (tin_1 _ (List.mem_of_getElem? (i := 193) rfl)) rfl)
theorem tl_3_9 : u_lay RX4 TX4 9 ∈ xTs := (xTs_in (tin_1 _ (List.mem_of_getElem? (i := 195) rfl)) rfl)
theorem tl_3 : ∀ w ∈ u_ws RX4 TX4 10, w ∈ xTs := by
  show ∀ w ∈ [u_lay RX4 TX4 0, u_lay RX4 TX4 1, u_lay RX4 TX4 2, u_lay RX4 TX4 3, u_lay RX4 TX4 4, u_lay RX4 TX4 5, u_lay RX4 TX4 6, u_lay RX4 TX4 7, u_lay RX4 TX4 8, u_lay RX4 TX4 9], w ∈ xTs
  exact List.forall_mem_cons.mpr ⟨tl_3_0, List.forall_mem_cons.mpr ⟨tl_3_1, List.forall_mem_cons.mpr ⟨tl_3_2, List.forall_mem_cons.mpr ⟨tl_3_3, List.forall_mem_cons.mpr ⟨tl_3_4, List.forall_mem_cons.mpr ⟨tl_3_5, List.forall_mem_cons.mpr ⟨tl_3_6, List.forall_mem_cons.mpr ⟨tl_3_7, List.forall_mem_cons.mpr ⟨tl_3_8, List.forall_mem_cons.mpr ⟨tl_3_9, fun _ h => absurd h List.not_mem_nil⟩⟩⟩⟩⟩⟩⟩⟩⟩⟩
theorem tdc_3 : ∀ k, k < 10 → (TX4 k).1 = RX4 := by decide +kernel
theorem tl_4_0 : u_lay RX5 TX5 0 ∈ xTs := (xTs_in (tin_1 _ (List.mem_of_getElem? (i := 224) rfl)) rfl)
theorem tl_4_1 : u_lay RX5 TX5 1 ∈ xTs := (xTs_in (tin_1 _ (List.mem_of_getElem? (i := 226) rfl)) rfl)
theorem tl_4_2 : u_lay RX5 TX5 2 ∈ xTs := (xTs_in (tin_1 _ (List.mem_of_getElem? (i := 228) rfl)) rfl)
theorem tl_4_3 : u_lay RX5 TX5 3 ∈ xTs := (xTs_in (tin_1 _ (List.mem_of_getElem? (i := 230) rfl)) rfl)
theorem tl_4_4 : u_lay RX5 TX5 4 ∈ xTs := (xTs_in (tin_1 _ (List.mem_of_getElem? (i := 232) rfl)) rfl)
theorem tl_4_5 : u_lay RX5 TX5 5 ∈ xTs := (xTs_in (tin_1 _ (List.mem_of_getElem? (i := 234) rfl)) rfl)
theorem tl_4_6 : u_lay RX5 TX5 6 ∈ xTs := (xTs_in (tin_1 _ (List.mem_of_getElem? (i := 236) rfl)) rfl)
theorem tl_4_7 : u_lay RX5 TX5 7 ∈ xTs := (xTs_in (tin_1 _ (List.mem_of_getElem? (i := 238) rfl)) rfl)
theorem tl_4 : ∀ w ∈ u_ws RX5 TX5 8, w ∈ xTs := by
  show ∀ w ∈ [u_lay RX5 TX5 0, u_lay RX5 TX5 1, u_lay RX5 TX5 2, u_lay RX5 TX5 3, u_lay RX5 TX5 4, u_lay RX5 TX5 5, u_lay RX5 TX5 6, u_lay RX5 TX5 7], w ∈ xTs
  exact List.forall_mem_cons.mpr ⟨tl_4_0, List.forall_mem_cons.mpr ⟨tl_4_1, List.forall_mem_cons.mpr ⟨tl_4_2, List.forall_mem_cons.mpr ⟨tl_4_3, List.forall_mem_cons.mpr ⟨tl_4_4, List.forall_mem_cons.mpr ⟨tl_4_5, List.forall_mem_cons.mpr ⟨tl_4_6, List.forall_mem_cons.mpr ⟨tl_4_7, fun _ h => absurd h List.not_mem_nil⟩⟩⟩⟩⟩⟩⟩⟩
theorem tdc_4 : ∀ k, k < 8 → (TX5 k).1 = RX5 := by decide +kernel
theorem tl_5_0 : u_lay RX6 TX6 0 ∈ xTs := (xTs_in (tin_4 _ (List.mem_of_getElem? (i := 151) rfl)) rfl)
theorem tl_5_1 : u_lay RX6 TX6 1 ∈ xTs := (xTs_in (tin_4 _ (List.mem_of_getElem? (i := 153) rfl)) rfl)
theorem tl_5_2 : u_lay RX6 TX6 2 ∈ xTs := (xTs_in (tin_4 _ (List.mem_of_getElem? (i := 155) rfl)) rfl)
theorem tl_5_3 : u_lay RX6 TX6 3 ∈ xTs := (xTs_in (tin_4 _ (List.mem_of_getElem? (i := 157) rfl)) rfl)
theorem tl_5_4 : u_lay RX6 TX6 4 ∈ xTs := (xTs_in (tin_4 _ (List.mem_of_getElem? (i := 159) rfl)) rfl)
theorem tl_5_5 : u_lay RX6 TX6 5 ∈ xTs := (xTs_in (tin_4 _ (List.mem_of_getElem? (i := 161) rfl)) rfl)
theorem tl_5_6 : u_lay RX6 TX6 6 ∈ xTs := (xTs_in (tin_4 _ (List.mem_of_getElem? (i := 163) rfl)) rfl)
theorem tl_5_7 : u_lay RX6 TX6 7 ∈ xTs := (xTs_in (tin_4 _ (List.mem_of_getElem? (i := 165) rfl)) rfl)
theorem tl_5_8 : u_lay RX6 TX6 8 ∈ xTs := (xTs_in (tin_4 _ (List.mem_of_getElem? (i := 167) rfl)) rfl)
theorem tl_5_9 : u_lay RX6 TX6 9 ∈ xTs := (xTs_in (tin_4 _ (List.mem_of_getElem? (i := 169) rfl)) rfl)
theorem tl_5_10 : u_lay RX6 TX6 10 ∈ xTs := (xTs_in (tin_4 _ (List.mem_of_getElem? (i := 171) rfl)) rfl)
theorem tl_5_11 : u_lay RX6 TX6 11 ∈ xTs := (xTs_in (tin_4 _ (List.mem_of_getElem? (i := 173) rfl)) rfl)
theorem tl_5_12 : u_lay RX6 TX6 12 ∈ xTs := (xTs_in (tin_4 _ (List.mem_of_getElem? (i := 175) rfl)) rfl)
theorem tl_5_13 : u_lay RX6 TX6 13 ∈ xTs := (xTs_in (tin_4 _ (List.mem_of_getElem? (i := 177) rfl)) rfl)
theorem tl_5_14 : u_lay RX6 TX6 14 ∈ xTs := (xTs_in (tin_4 _ (List.mem_of_getElem? (i := 179) rfl)) rfl)
theorem tl_5_15 : u_lay RX6 TX6 15 ∈ xTs := (xTs_in (tin_4 _ (List.mem_of_getElem? (i := 181) rfl)) rfl)
theorem tl_5_16 : u_lay RX6 TX6 16 ∈ xTs := (xTs_in (tin_4 _ (List.mem_of_getElem? (i := 183) rfl)) rfl)
theorem tl_5_17 : u_lay RX6 TX6 17 ∈ xTs := (xTs_in (tin_4 _ (List.mem_of_getElem? (i := 185) rfl)) rfl)
theorem tl_5_18 : u_lay RX6 TX6 18 ∈ xTs := (xTs_in (tin_4 _ (List.mem_of_getElem? (i := 187) rfl)) rfl)
theorem tl_5_19 : u_lay RX6 TX6 19 ∈ xTs := (xTs_in (tin_4 _ (List.mem_of_getElem? (i := 189) rfl)) rfl)
theorem tl_5_20 : u_lay RX6 TX6 20 ∈ xTs := (xTs_in (tin_4 _ (List.mem_of_getElem? (i := 191) rfl)) rfl)
theorem tl_5_21 : u_lay RX6 TX6 21 ∈ xTs := (xTs_in (tin_4 _ (List.mem_of_getElem? (i := 193) rfl)) rfl)
theorem tl_5_22 : u_lay RX6 TX6 22 ∈ xTs := (xTs_in (tin_4 _ (List.mem_of_getElem? (i := 195) rfl)) rfl)
theorem tl_5_23 : u_lay RX6 TX6 23 ∈ xTs := (xTs_in (tin_4 _ (List.mem_of_getElem? (i := 197) rfl)) rfl)
theorem tl_5_24 : u_lay RX6 TX6 24 ∈ xTs := (xTs_in (tin_4 _ (List.mem_of_getElem? (i := 199) rfl)) rfl)
theorem tl_5 : ∀ w ∈ u_ws RX6 TX6 25, w ∈ xTs := by
  show ∀ w ∈ [u_lay RX6 TX6 0, u_lay RX6 TX6 1, u_lay RX6 TX6 2, u_lay RX6 TX6 3, u_lay RX6 TX6 4, u_lay RX6 TX6 5, u_lay RX6 TX6 6, u_lay RX6 TX6 7, u_lay RX6 TX6 8, u_lay RX6 TX6 9, u_lay RX6 TX6 10, u_lay RX6 TX6 11, u_lay RX6 TX6 12, u_lay RX6 TX6 13, u_lay RX6 TX6 14, u_lay RX6 TX6 15, u_lay RX6 TX6 16, u_lay RX6 TX6 17, u_lay RX6 TX6 18, u_lay RX6 TX6 19, u_lay RX6 TX6 20, u_lay RX6 TX6 21, u_lay RX6 TX6 22, u_lay RX6 TX6 23, u_lay RX6 TX6 24], w ∈ xTs
  exact List.forall_mem_cons.mpr ⟨tl_5_0, List.forall_mem_cons.mpr ⟨tl_5_1, List.forall_mem_cons.mpr ⟨tl_5_2, List.forall_mem_cons.mpr ⟨tl_5_3, List.forall_mem_cons.mpr ⟨tl_5_4, List.forall_mem_cons.mpr ⟨tl_5_5, List.forall_mem_cons.mpr ⟨tl_5_6, List.forall_mem_cons.mpr ⟨tl_5_7, List.forall_mem_cons.mpr ⟨tl_5_8, List.forall_mem_cons.mpr ⟨tl_5_9, List.forall_mem_cons.mpr ⟨tl_5_10, List.forall_mem_cons.mpr ⟨tl_5_11, List.forall_mem_cons.mpr ⟨tl_5_12, List.forall_mem_cons.mpr ⟨tl_5_13, List.forall_mem_cons.mpr ⟨tl_5_14, List.forall_mem_cons.mpr ⟨tl_5_15, List.forall_mem_cons.mpr ⟨tl_5_16, List.forall_mem_cons.mpr ⟨tl_5_17, List.forall_mem_cons.mpr ⟨tl_5_18, List.forall_mem_cons.mpr ⟨tl_5_19, List.forall_mem_cons.mpr ⟨tl_5_20, List.forall_mem_cons.mpr ⟨tl_5_21, List.forall_mem_cons.mpr ⟨tl_5_22, List.forall_mem_cons.mpr ⟨tl_5_23, List.forall_mem_cons.mpr ⟨tl_5_24, fun _ h => absurd h List.not_mem_nil⟩⟩⟩⟩⟩⟩⟩⟩⟩⟩⟩⟩⟩⟩⟩⟩⟩⟩⟩⟩⟩⟩⟩⟩⟩
theorem tdc_5 : ∀ k, k < 25 → (TX6 k).1 = RX6 := by decide +kernel
theorem t_F2 : xTF2 := by
  intro ci C T N h
  match ci, h with
  | 0, h => cases h; exact ⟨rfl, tl_0, ⟨tyX1, tyX1_ok⟩, nmX1, tdc_0⟩
  | 1, h => cases h; exact ⟨rfl, tl_1, ⟨tyX2, tyX2_ok⟩, nmX2, tdc_1⟩
  | 2, h => cases h; exact ⟨rfl, tl_2, ⟨tyX3, tyX3_ok⟩, nmX3, tdc_2⟩
  | 3, h => cases h; exact ⟨rfl, tl_3, ⟨tyX4, tyX4_ok⟩, nmX4, tdc_3⟩
  | 4, h => cases h; exact ⟨rfl, tl_4, ⟨tyX5, tyX5_ok⟩, nmX5, tdc_4⟩
  | 5, h => cases h; exact ⟨rfl, tl_5, ⟨tyX6, tyX6_ok⟩, nmX6, tdc_5⟩
  | n + 6, h => simp at h
def Ptf (own : Nat) (e : Nat × Nat × Nat × FieldType × Bool) : Prop := (∃ C T N, vwCl[e.2.1]? = some (C, T, N) ∧ e.2.2.1 < N ∧ Cond.fieldLink (xR own) e.1 (T e.2.2.1).1 (T e.2.2.1).2.1 (T e.2.2.1).2.2.1 ∈ xTs ∧ parseFieldDescriptor (T e.2.2.1).2.2.1 = some e.2.2.2.1 ∧ (T e.2.2.1).2.2.2 = e.2.2.2.2) ∨ (e.2.1 = 100 ∧ ((e.2.2.1 = 0 ∧ Cond.fieldLink (xR own) e.1 RJ0 "value" "[B" ∈ xTs) ∨ (e.2.2.1 = 1 ∧ Cond.fieldLink (xR own) e.1 RJ0 "coder" "B" ∈ xTs)))
theorem tf_0 : ∀ e ∈ xFT.getD 0 [], Ptf 0 e := fun _ h => absurd h List.not_mem_nil
theorem tf_1_0 : Ptf 1 (9, 0, 0, .array .int, true) := Or.inl ⟨RX1, TX1, 16, rfl, by decide, (xTs_in (tin_1 _ (List.mem_of_getElem? (i := 107) rfl)) rfl), by decide +kernel, rfl⟩
theorem tf_1_1 : Ptf 1 (15, 0, 1, .array .int, true) := Or.inl ⟨RX1, TX1, 16, rfl, by decide, (xTs_in (tin_1 _ (List.mem_of_getElem? (i := 108) rfl)) rfl), by decide +kernel, rfl⟩
theorem tf_1_2 : Ptf 1 (18, 0, 2, .array .int, true) := Or.inl ⟨RX1, TX1, 16, rfl, by decide, (xTs_in (tin_1 _ (List.mem_of_getElem? (i := 109) rfl)) rfl), by decide +kernel, rfl⟩
theorem tf_1_3 : Ptf 1 (21, 0, 3, .array .int, true) := Or.inl ⟨RX1, TX1, 16, rfl, by decide, (xTs_in (tin_1 _ (List.mem_of_getElem? (i := 110) rfl)) rfl), by decide +kernel, rfl⟩
theorem tf_1_4 : Ptf 1 (24, 0, 4, .array .int, true) := Or.inl ⟨RX1, TX1, 16, rfl, by decide, (xTs_in (tin_1 _ (List.mem_of_getElem? (i := 111) rfl)) rfl), by decide +kernel, rfl⟩
theorem tf_1_5 : Ptf 1 (27, 0, 5, .array .int, true) := Or.inl ⟨RX1, TX1, 16, rfl, by decide, (xTs_in (tin_1 _ (List.mem_of_getElem? (i := 112) rfl)) rfl), by decide +kernel, rfl⟩
theorem tf_1_6 : Ptf 1 (30, 0, 6, .array .int, true) := Or.inl ⟨RX1, TX1, 16, rfl, by decide, (xTs_in (tin_1 _ (List.mem_of_getElem? (i := 113) rfl)) rfl), by decide +kernel, rfl⟩
theorem tf_1_7 : Ptf 1 (33, 0, 8, .array .int, true) := Or.inl ⟨RX1, TX1, 16, rfl, by decide, (xTs_in (tin_1 _ (List.mem_of_getElem? (i := 115) rfl)) rfl), by decide +kernel, rfl⟩
theorem tf_1_8 : Ptf 1 (36, 0, 9, .array .int, true) := Or.inl ⟨RX1, TX1, 16, rfl, by decide, (xTs_in (tin_1 _ (List.mem_of_getElem? (i := 116) rfl)) rfl), by decide +kernel, rfl⟩
theorem tf_1_9 : Ptf 1 (39, 1, 0, .int, false) := Or.inl ⟨RX2, TX2, 15, rfl, by decide, (xTs_in (tin_1 _ (List.mem_of_getElem? (i := 29) rfl)) rfl), by decide +kernel, rfl⟩
theorem tf_1_10 : Ptf 1 (45, 0, 10, .int, false) := Or.inl ⟨RX1, TX1, 16, rfl, by decide, (xTs_in (tin_1 _ (List.mem_of_getElem? (i := 118) rfl)) rfl), by decide +kernel, rfl⟩
theorem tf_1_11 : Ptf 1 (46, 1, 7, .int, false) := Or.inl ⟨RX2, TX2, 15, rfl, by decide, (xTs_in (tin_1 _ (List.mem_of_getElem? (i := 53) rfl)) rfl), by decide +kernel, rfl⟩
theorem tf_1_12 : Ptf 1 (49, 0, 11, .int, false) := Or.inl ⟨RX1, TX1, 16, rfl, by decide, (xTs_in (tin_1 _ (List.mem_of_getElem? (i := 119) rfl)) rfl), by decide +kernel, rfl⟩
theorem tf_1_13 : Ptf 1 (50, 1, 6, .int, false) := Or.inl ⟨RX2, TX2, 15, rfl, by decide, (xTs_in (tin_1 _ (List.mem_of_getElem? (i := 51) rfl)) rfl), by decide +kernel, rfl⟩
theorem tf_1_14 : Ptf 1 (53, 1, 10, .array .int, true) := Or.inl ⟨RX2, TX2, 15, rfl, by decide, (xTs_in (tin_1 _ (List.mem_of_getElem? (i := 61) rfl)) rfl), by decide +kernel, rfl⟩
theorem tf_1_15 : Ptf 1 (56, 0, 12, .int, false) := Or.inl ⟨RX1, TX1, 16, rfl, by decide, (xTs_in (tin_1 _ (List.mem_of_getElem? (i := 120) rfl)) rfl), by decide +kernel, rfl⟩
theorem tf_1_16 : Ptf 1 (59, 0, 13, .int, false) := Or.inl ⟨RX1, TX1, 16, rfl, by decide, (xTs_in (tin_1 _ (List.mem_of_getElem? (i := 121) rfl)) rfl), by decide +kernel, rfl⟩
theorem tf_1_17 : Ptf 1 (62, 1, 1, .array .int, true) := Or.inl ⟨RX2, TX2, 15, rfl, by decide, (xTs_in (tin_1 _ (List.mem_of_getElem? (i := 34) rfl)) rfl), by decide +kernel, rfl⟩
theorem tf_1_18 : Ptf 1 (69, 1, 2, .array .int, true) := Or.inl ⟨RX2, TX2, 15, rfl, by decide, (xTs_in (tin_1 _ (List.mem_of_getElem? (i := 37) rfl)) rfl), by decide +kernel, rfl⟩
theorem tf_1_19 : Ptf 1 (70, 1, 4, .array .int, true) := Or.inl ⟨RX2, TX2, 15, rfl, by decide, (xTs_in (tin_1 _ (List.mem_of_getElem? (i := 44) rfl)) rfl), by decide +kernel, rfl⟩
theorem tf_1_20 : Ptf 1 (105, 0, 7, .int, false) := Or.inl ⟨RX1, TX1, 16, rfl, by decide, (xTs_in (tin_1 _ (List.mem_of_getElem? (i := 114) rfl)) rfl), by decide +kernel, rfl⟩
theorem tf_1_21 : Ptf 1 (134, 0, 15, .int, false) := Or.inl ⟨RX1, TX1, 16, rfl, by decide, (xTs_in (tin_1 _ (List.mem_of_getElem? (i := 125) rfl)) rfl), by decide +kernel, rfl⟩
theorem tf_1_22 : Ptf 1 (137, 0, 14, .int, false) := Or.inl ⟨RX1, TX1, 16, rfl, by decide, (xTs_in (tin_1 _ (List.mem_of_getElem? (i := 123) rfl)) rfl), by decide +kernel, rfl⟩
theorem tf_1 : ∀ e ∈ xFT.getD 1 [], Ptf 1 e := by
  show ∀ e ∈ [(9, 0, 0, .array .int, true), (15, 0, 1, .array .int, true), (18, 0, 2, .array .int, true), (21, 0, 3, .array .int, true), (24, 0, 4, .array .int, true), (27, 0, 5, .array .int, true), (30, 0, 6, .array .int, true), (33, 0, 8, .array .int, true), (36, 0, 9, .array .int, true), (39, 1, 0, .int, false), (45, 0, 10, .int, false), (46, 1, 7, .int, false), (49, 0, 11, .int, false), (50, 1, 6, .int, false), (53, 1, 10, .array .int, true), (56, 0, 12, .int, false), (59, 0, 13, .int, false), (62, 1, 1, .array .int, true), (69, 1, 2, .array .int, true), (70, 1, 4, .array .int, true), (105, 0, 7, .int, false), (134, 0, 15, .int, false), (137, 0, 14, .int, false)], Ptf 1 e
  exact List.forall_mem_cons.mpr ⟨tf_1_0, List.forall_mem_cons.mpr ⟨tf_1_1, List.forall_mem_cons.mpr ⟨tf_1_2, List.forall_mem_cons.mpr ⟨tf_1_3, List.forall_mem_cons.mpr ⟨tf_1_4, List.forall_mem_cons.mpr ⟨tf_1_5, List.forall_mem_cons.mpr ⟨tf_1_6, List.forall_mem_cons.mpr ⟨tf_1_7, List.forall_mem_cons.mpr ⟨tf_1_8, List.forall_mem_cons.mpr ⟨tf_1_9, List.forall_mem_cons.mpr ⟨tf_1_10, List.forall_mem_cons.mpr ⟨tf_1_11, List.forall_mem_cons.mpr ⟨tf_1_12, List.forall_mem_cons.mpr ⟨tf_1_13, List.forall_mem_cons.mpr ⟨tf_1_14, List.forall_mem_cons.mpr ⟨tf_1_15, List.forall_mem_cons.mpr ⟨tf_1_16, List.forall_mem_cons.mpr ⟨tf_1_17, List.forall_mem_cons.mpr ⟨tf_1_18, List.forall_mem_cons.mpr ⟨tf_1_19, List.forall_mem_cons.mpr ⟨tf_1_20, List.forall_mem_cons.mpr ⟨tf_1_21, List.forall_mem_cons.mpr ⟨tf_1_22, fun _ h => absurd h List.not_mem_nil⟩⟩⟩⟩⟩⟩⟩⟩⟩⟩⟩⟩⟩⟩⟩⟩⟩⟩⟩⟩⟩⟩⟩
theorem tf_2_0 : Ptf 2 (9, 1, 1, .array .int, true) := Or.inl ⟨RX2, TX2, 15, rfl, by decide, (xTs_in (tin_1 _ (List.mem_of_getElem? (i := 33) rfl)) rfl), by decide +kernel, rfl⟩
theorem tf_2_1 : Ptf 2 (15, 1, 2, .array .int, true) := Or.inl ⟨RX2, TX2, 15, rfl, by decide, (xTs_in (tin_1 _ (List.mem_of_getElem? (i := 36) rfl)) rfl), by decide +kernel, rfl⟩
theorem tf_2_2 : Ptf 2 (18, 1, 3, .array .int, true) := Or.inl ⟨RX2, TX2, 15, rfl, by decide, (xTs_in (tin_1 _ (List.mem_of_getElem? (i := 40) rfl)) rfl), by decide +kernel, rfl⟩
theorem tf_2_3 : Ptf 2 (21, 1, 4, .array .int, true) := Or.inl ⟨RX2, TX2, 15, rfl, by decide, (xTs_in (tin_1 _ (List.mem_of_getElem? (i := 43) rfl)) rfl), by decide +kernel, rfl⟩
theorem tf_2_4 : Ptf 2 (24, 1, 5, .array .int, true) := Or.inl ⟨RX2, TX2, 15, rfl, by decide, (xTs_in (tin_1 _ (List.mem_of_getElem? (i := 47) rfl)) rfl), by decide +kernel, rfl⟩
theorem tf_2_5 : Ptf 2 (27, 1, 10, .array .int, true) := Or.inl ⟨RX2, TX2, 15, rfl, by decide, (xTs_in (tin_1 _ (List.mem_of_getElem? (i := 60) rfl)) rfl), by decide +kernel, rfl⟩
theorem tf_2_6 : Ptf 2 (30, 1, 11, .array .int, true) := Or.inl ⟨RX2, TX2, 15, rfl, by decide, (xTs_in (tin_1 _ (List.mem_of_getElem? (i := 63) rfl)) rfl), by decide +kernel, rfl⟩
theorem tf_2_7 : Ptf 2 (33, 1, 12, .array .int, true) := Or.inl ⟨RX2, TX2, 15, rfl, by decide, (xTs_in (tin_1 _ (List.mem_of_getElem? (i := 64) rfl)) rfl), by decide +kernel, rfl⟩
theorem tf_2_8 : Ptf 2 (36, 1, 13, .int, false) := Or.inl ⟨RX2, TX2, 15, rfl, by decide, (xTs_in (tin_1 _ (List.mem_of_getElem? (i := 65) rfl)) rfl), by decide +kernel, rfl⟩
theorem tf_2_9 : Ptf 2 (40, 1, 14, .array .int, true) := Or.inl ⟨RX2, TX2, 15, rfl, by decide, (xTs_in (tin_1 _ (List.mem_of_getElem? (i := 67) rfl)) rfl), by decide +kernel, rfl⟩
theorem tf_2_10 : Ptf 2 (43, 1, 0, .int, false) := Or.inl ⟨RX2, TX2, 15, rfl, by decide, (xTs_in (tin_1 _ (List.mem_of_getElem? (i := 30) rfl)) rfl), by decide +kernel, rfl⟩
theorem tf_2_11 : Ptf 2 (46, 1, 6, .int, false) := Or.inl ⟨RX2, TX2, 15, rfl, by decide, (xTs_in (tin_1 _ (List.mem_of_getElem? (i := 50) rfl)) rfl), by decide +kernel, rfl⟩
theorem tf_2_12 : Ptf 2 (49, 1, 7, .int, false) := Or.inl ⟨RX2, TX2, 15, rfl, by decide, (xTs_in (tin_1 _ (List.mem_of_getElem? (i := 54) rfl)) rfl), by decide +kernel, rfl⟩
theorem tf_2_13 : Ptf 2 (52, 1, 8, .int, false) := Or.inl ⟨RX2, TX2, 15, rfl, by decide, (xTs_in (tin_1 _ (List.mem_of_getElem? (i := 56) rfl)) rfl), by decide +kernel, rfl⟩
theorem tf_2_14 : Ptf 2 (55, 1, 9, .int, false) := Or.inl ⟨RX2, TX2, 15, rfl, by decide, (xTs_in (tin_1 _ (List.mem_of_getElem? (i := 58) rfl)) rfl), by decide +kernel, rfl⟩
theorem tf_2 : ∀ e ∈ xFT.getD 2 [], Ptf 2 e := by
  show ∀ e ∈ [(9, 1, 1, .array .int, true), (15, 1, 2, .array .int, true), (18, 1, 3, .array .int, true), (21, 1, 4, .array .int, true), (24, 1, 5, .array .int, true), (27, 1, 10, .array .int, true), (30, 1, 11, .array .int, true), (33, 1, 12, .array .int, true), (36, 1, 13, .int, false), (40, 1, 14, .array .int, true), (43, 1, 0, .int, false), (46, 1, 6, .int, false), (49, 1, 7, .int, false), (52, 1, 8, .int, false), (55, 1, 9, .int, false)], Ptf 2 e
  exact List.forall_mem_cons.mpr ⟨tf_2_0, List.forall_mem_cons.mpr ⟨tf_2_1, List.forall_mem_cons.mpr ⟨tf_2_2, List.forall_mem_cons.mpr ⟨tf_2_3, List.forall_mem_cons.mpr ⟨tf_2_4, List.forall_mem_cons.mpr ⟨tf_2_5, List.forall_mem_cons.mpr ⟨tf_2_6, List.forall_mem_cons.mpr ⟨tf_2_7, List.forall_mem_cons.mpr ⟨tf_2_8, List.forall_mem_cons.mpr ⟨tf_2_9, List.forall_mem_cons.mpr ⟨tf_2_10, List.forall_mem_cons.mpr ⟨tf_2_11, List.forall_mem_cons.mpr ⟨tf_2_12, List.forall_mem_cons.mpr ⟨tf_2_13, List.forall_mem_cons.mpr ⟨tf_2_14, fun _ h => absurd h List.not_mem_nil⟩⟩⟩⟩⟩⟩⟩⟩⟩⟩⟩⟩⟩⟩⟩
theorem tf_3_0 : Ptf 3 (11, 2, 0, .array .int, true) := Or.inl ⟨RX3, TX3, 3, rfl, by decide, (xTs_in (tin_1 _ (List.mem_of_getElem? (i := 204) rfl)) rfl), by decide +kernel, rfl⟩
theorem tf_3_1 : Ptf 3 (15, 2, 1, .array .int, true) := Or.inl ⟨RX3, TX3, 3, rfl, by decide, (xTs_in (tin_1 _ (List.mem_of_getElem? (i := 206) rfl)) rfl), by decide +kernel, rfl⟩
theorem tf_3_2 : Ptf 3 (18, 2, 2, .array .int, true) := Or.inl ⟨RX3, TX3, 3, rfl, by decide, (xTs_in (tin_1 _ (List.mem_of_getElem? (i := 208) rfl)) rfl), by decide +kernel, rfl⟩
theorem tf_3 : ∀ e ∈ xFT.getD 3 [], Ptf 3 e := by
  show ∀ e ∈ [(11, 2, 0, .array .int, true), (15, 2, 1, .array .int, true), (18, 2, 2, .array .int, true)], Ptf 3 e
  exact List.forall_mem_cons.mpr ⟨tf_3_0, List.forall_mem_cons.mpr ⟨tf_3_1, List.forall_mem_cons.mpr ⟨tf_3_2, fun _ h => absurd h List.not_mem_nil⟩⟩⟩
theorem tf_4_0 : Ptf 4 (11, 3, 0, .array .int, true) := Or.inl ⟨RX4, TX4, 10, rfl, by decide, (xTs_in (tin_1 _ (List.mem_of_getElem? (i := 166) rfl)) rfl), by decide +kernel, rfl⟩
theorem tf_4_1 : Ptf 4 (15, 3, 2, .array .int, true) := Or.inl ⟨RX4, TX4, 10, rfl, by decide, (xTs_in (tin_1 _ (List.mem_of_getElem? (i := 169) rfl)) rfl), by decide +kernel, rfl⟩
theorem tf_4_2 : Ptf 4 (18, 3, 3, .array .int, true) := Or.inl ⟨RX4, TX4, 10, rfl, by decide, (xTs_in (tin_1 _ (List.mem_of_getElem? (i := 170) rfl)) rfl), by decide +kernel, rfl⟩
theorem tf_4_3 : Ptf 4 (21, 3, 4, .array .int, true) := Or.inl ⟨RX4, TX4, 10, rfl, by decide, (xTs_in (tin_1 _ (List.mem_of_getElem? (i := 171) rfl)) rfl), by decide +kernel, rfl⟩
theorem tf_4_4 : Ptf 4 (24, 3, 5, .array .int, true) := Or.inl ⟨RX4, TX4, 10, rfl, by decide, (xTs_in (tin_1 _ (List.mem_of_getElem? (i := 172) rfl)) rfl), by decide +kernel, rfl⟩
theorem tf_4_5 : Ptf 4 (27, 3, 1, .int, false) := Or.inl ⟨RX4, TX4, 10, rfl, by decide, (xTs_in (tin_1 _ (List.mem_of_getElem? (i := 167) rfl)) rfl), by decide +kernel, rfl⟩
theorem tf_4_6 : Ptf 4 (42, 3, 7, .int, false) := Or.inl ⟨RX4, TX4, 10, rfl, by decide, (xTs_in (tin_1 _ (List.mem_of_getElem? (i := 174) rfl)) rfl), by decide +kernel, rfl⟩
theorem tf_4_7 : Ptf 4 (45, 3, 8, .int, false) := Or.inl ⟨RX4, TX4, 10, rfl, by decide, (xTs_in (tin_1 _ (List.mem_of_getElem? (i := 175) rfl)) rfl), by decide +kernel, rfl⟩
theorem tf_4_8 : Ptf 4 (48, 3, 9, .int, false) := Or.inl ⟨RX4, TX4, 10, rfl, by decide, (xTs_in (tin_1 _ (List.mem_of_getElem? (i := 176) rfl)) rfl), by decide +kernel, rfl⟩
theorem tf_4_9 : Ptf 4 (64, 1, 0, .int, false) := Or.inl ⟨RX2, TX2, 15, rfl, by decide, (xTs_in (tin_1 _ (List.mem_of_getElem? (i := 32) rfl)) rfl), by decide +kernel, rfl⟩
theorem tf_4_10 : Ptf 4 (73, 1, 2, .array .int, true) := Or.inl ⟨RX2, TX2, 15, rfl, by decide, (xTs_in (tin_1 _ (List.mem_of_getElem? (i := 39) rfl)) rfl), by decide +kernel, rfl⟩
theorem tf_4_11 : Ptf 4 (80, 1, 3, .array .int, true) := Or.inl ⟨RX2, TX2, 15, rfl, by decide, (xTs_in (tin_1 _ (List.mem_of_getElem? (i := 42) rfl)) rfl), by decide +kernel, rfl⟩
theorem tf_4_12 : Ptf 4 (83, 1, 4, .array .int, true) := Or.inl ⟨RX2, TX2, 15, rfl, by decide, (xTs_in (tin_1 _ (List.mem_of_getElem? (i := 46) rfl)) rfl), by decide +kernel, rfl⟩
theorem tf_4_13 : Ptf 4 (93, 1, 5, .array .int, true) := Or.inl ⟨RX2, TX2, 15, rfl, by decide, (xTs_in (tin_1 _ (List.mem_of_getElem? (i := 49) rfl)) rfl), by decide +kernel, rfl⟩
theorem tf_4_14 : Ptf 4 (96, 3, 6, .int, false) := Or.inl ⟨RX4, TX4, 10, rfl, by decide, (xTs_in (tin_1 _ (List.mem_of_getElem? (i := 173) rfl)) rfl), by decide +kernel, rfl⟩
theorem tf_4 : ∀ e ∈ xFT.getD 4 [], Ptf 4 e := by
  show ∀ e ∈ [(11, 3, 0, .array .int, true), (15, 3, 2, .array .int, true), (18, 3, 3, .array .int, true), (21, 3, 4, .array .int, true), (24, 3, 5, .array .int, true), (27, 3, 1, .int, false), (42, 3, 7, .int, false), (45, 3, 8, .int, false), (48, 3, 9, .int, false), (64, 1, 0, .int, false), (73, 1, 2, .array .int, true), (80, 1, 3, .array .int, true), (83, 1, 4, .array .int, true), (93, 1, 5, .array .int, true), (96, 3, 6, .int, false)], Ptf 4 e
  exact List.forall_mem_cons.mpr ⟨tf_4_0, List.forall_mem_cons.mpr ⟨tf_4_1, List.forall_mem_cons.mpr ⟨tf_4_2, List.forall_mem_cons.mpr ⟨tf_4_3, List.forall_mem_cons.mpr ⟨tf_4_4, List.forall_mem_cons.mpr ⟨tf_4_5, List.forall_mem_cons.mpr ⟨tf_4_6, List.forall_mem_cons.mpr ⟨tf_4_7, List.forall_mem_cons.mpr ⟨tf_4_8, List.forall_mem_cons.mpr ⟨tf_4_9, List.forall_mem_cons.mpr ⟨tf_4_10, List.forall_mem_cons.mpr ⟨tf_4_11, List.forall_mem_cons.mpr ⟨tf_4_12, List.forall_mem_cons.mpr ⟨tf_4_13, List.forall_mem_cons.mpr ⟨tf_4_14, fun _ h => absurd h List.not_mem_nil⟩⟩⟩⟩⟩⟩⟩⟩⟩⟩⟩⟩⟩⟩⟩
theorem tf_5_0 : Ptf 5 (9, 4, 0, .array .int, true) := Or.inl ⟨RX5, TX5, 8, rfl, by decide, (xTs_in (tin_1 _ (List.mem_of_getElem? (i := 216) rfl)) rfl), by decide +kernel, rfl⟩
theorem tf_5_1 : Ptf 5 (16, 4, 1, .object "WhoBowsLast$Scene", true) := Or.inl ⟨RX5, TX5, 8, rfl, by decide, (xTs_in (tin_1 _ (List.mem_of_getElem? (i := 217) rfl)) rfl), by decide +kernel, rfl⟩
theorem tf_5_2 : Ptf 5 (20, 4, 2, .object "WhoBowsLast$Scene", true) := Or.inl ⟨RX5, TX5, 8, rfl, by decide, (xTs_in (tin_1 _ (List.mem_of_getElem? (i := 218) rfl)) rfl), by decide +kernel, rfl⟩
theorem tf_5_3 : Ptf 5 (23, 4, 3, .object "WhoBowsLast$Scene", true) := Or.inl ⟨RX5, TX5, 8, rfl, by decide, (xTs_in (tin_1 _ (List.mem_of_getElem? (i := 219) rfl)) rfl), by decide +kernel, rfl⟩
theorem tf_5_4 : Ptf 5 (29, 4, 4, .object "WhoBowsLast$Orders", true) := Or.inl ⟨RX5, TX5, 8, rfl, by decide, (xTs_in (tin_1 _ (List.mem_of_getElem? (i := 220) rfl)) rfl), by decide +kernel, rfl⟩
theorem tf_5_5 : Ptf 5 (36, 4, 5, .object "WhoBowsLast$Tape", true) := Or.inl ⟨RX5, TX5, 8, rfl, by decide, (xTs_in (tin_1 _ (List.mem_of_getElem? (i := 221) rfl)) rfl), by decide +kernel, rfl⟩
theorem tf_5_6 : Ptf 5 (43, 4, 6, .object "WhoBowsLast$Sheets", true) := Or.inl ⟨RX5, TX5, 8, rfl, by decide, (xTs_in (tin_1 _ (List.mem_of_getElem? (i := 222) rfl)) rfl), by decide +kernel, rfl⟩
theorem tf_5_7 : Ptf 5 (47, 4, 7, .boolean, false) := Or.inl ⟨RX5, TX5, 8, rfl, by decide, (xTs_in (tin_1 _ (List.mem_of_getElem? (i := 223) rfl)) rfl), by decide +kernel, rfl⟩
theorem tf_5_8 : Ptf 5 (59, 1, 0, .int, false) := Or.inl ⟨RX2, TX2, 15, rfl, by decide, (xTs_in (tin_1 _ (List.mem_of_getElem? (i := 31) rfl)) rfl), by decide +kernel, rfl⟩
theorem tf_5_9 : Ptf 5 (70, 1, 1, .array .int, true) := Or.inl ⟨RX2, TX2, 15, rfl, by decide, (xTs_in (tin_1 _ (List.mem_of_getElem? (i := 35) rfl)) rfl), by decide +kernel, rfl⟩
theorem tf_5_10 : Ptf 5 (73, 1, 2, .array .int, true) := Or.inl ⟨RX2, TX2, 15, rfl, by decide, (xTs_in (tin_1 _ (List.mem_of_getElem? (i := 38) rfl)) rfl), by decide +kernel, rfl⟩
theorem tf_5_11 : Ptf 5 (76, 1, 3, .array .int, true) := Or.inl ⟨RX2, TX2, 15, rfl, by decide, (xTs_in (tin_1 _ (List.mem_of_getElem? (i := 41) rfl)) rfl), by decide +kernel, rfl⟩
theorem tf_5_12 : Ptf 5 (79, 1, 4, .array .int, true) := Or.inl ⟨RX2, TX2, 15, rfl, by decide, (xTs_in (tin_1 _ (List.mem_of_getElem? (i := 45) rfl)) rfl), by decide +kernel, rfl⟩
theorem tf_5_13 : Ptf 5 (107, 1, 5, .array .int, true) := Or.inl ⟨RX2, TX2, 15, rfl, by decide, (xTs_in (tin_1 _ (List.mem_of_getElem? (i := 48) rfl)) rfl), by decide +kernel, rfl⟩
theorem tf_5_14 : Ptf 5 (110, 1, 7, .int, false) := Or.inl ⟨RX2, TX2, 15, rfl, by decide, (xTs_in (tin_1 _ (List.mem_of_getElem? (i := 55) rfl)) rfl), by decide +kernel, rfl⟩
theorem tf_5_15 : Ptf 5 (119, 1, 6, .int, false) := Or.inl ⟨RX2, TX2, 15, rfl, by decide, (xTs_in (tin_1 _ (List.mem_of_getElem? (i := 52) rfl)) rfl), by decide +kernel, rfl⟩
theorem tf_5_16 : Ptf 5 (128, 1, 10, .array .int, true) := Or.inl ⟨RX2, TX2, 15, rfl, by decide, (xTs_in (tin_1 _ (List.mem_of_getElem? (i := 62) rfl)) rfl), by decide +kernel, rfl⟩
theorem tf_5_17 : Ptf 5 (131, 1, 8, .int, false) := Or.inl ⟨RX2, TX2, 15, rfl, by decide, (xTs_in (tin_1 _ (List.mem_of_getElem? (i := 57) rfl)) rfl), by decide +kernel, rfl⟩
theorem tf_5_18 : Ptf 5 (134, 1, 9, .int, false) := Or.inl ⟨RX2, TX2, 15, rfl, by decide, (xTs_in (tin_1 _ (List.mem_of_getElem? (i := 59) rfl)) rfl), by decide +kernel, rfl⟩
theorem tf_5_19 : Ptf 5 (161, 0, 9, .array .int, true) := Or.inl ⟨RX1, TX1, 16, rfl, by decide, (xTs_in (tin_1 _ (List.mem_of_getElem? (i := 117) rfl)) rfl), by decide +kernel, rfl⟩
theorem tf_5_20 : Ptf 5 (179, 0, 13, .int, false) := Or.inl ⟨RX1, TX1, 16, rfl, by decide, (xTs_in (tin_1 _ (List.mem_of_getElem? (i := 122) rfl)) rfl), by decide +kernel, rfl⟩
theorem tf_5_21 : Ptf 5 (194, 0, 14, .int, false) := Or.inl ⟨RX1, TX1, 16, rfl, by decide, (xTs_in (tin_1 _ (List.mem_of_getElem? (i := 124) rfl)) rfl), by decide +kernel, rfl⟩
theorem tf_5_22 : Ptf 5 (197, 0, 15, .int, false) := Or.inl ⟨RX1, TX1, 16, rfl, by decide, (xTs_in (tin_1 _ (List.mem_of_getElem? (i := 126) rfl)) rfl), by decide +kernel, rfl⟩
theorem tf_5_23 : Ptf 5 (231, 1, 13, .int, false) := Or.inl ⟨RX2, TX2, 15, rfl, by decide, (xTs_in (tin_1 _ (List.mem_of_getElem? (i := 66) rfl)) rfl), by decide +kernel, rfl⟩
theorem tf_5_24 : Ptf 5 (249, 1, 14, .array .int, true) := Or.inl ⟨RX2, TX2, 15, rfl, by decide, (xTs_in (tin_1 _ (List.mem_of_getElem? (i := 68) rfl)) rfl), by decide +kernel, rfl⟩
theorem tf_5_25 : Ptf 5 (264, 2, 1, .array .int, true) := Or.inl ⟨RX3, TX3, 3, rfl, by decide, (xTs_in (tin_1 _ (List.mem_of_getElem? (i := 207) rfl)) rfl), by decide +kernel, rfl⟩
theorem tf_5_26 : Ptf 5 (271, 2, 0, .array .int, true) := Or.inl ⟨RX3, TX3, 3, rfl, by decide, (xTs_in (tin_1 _ (List.mem_of_getElem? (i := 205) rfl)) rfl), by decide +kernel, rfl⟩
theorem tf_5_27 : Ptf 5 (298, 3, 1, .int, false) := Or.inl ⟨RX4, TX4, 10, rfl, by decide, (xTs_in (tin_1 _ (List.mem_of_getElem? (i := 168) rfl)) rfl), by decide +kernel, rfl⟩
theorem tf_5 : ∀ e ∈ xFT.getD 5 [], Ptf 5 e := by
  show ∀ e ∈ [(9, 4, 0, .array .int, true), (16, 4, 1, .object "WhoBowsLast$Scene", true), (20, 4, 2, .object "WhoBowsLast$Scene", true), (23, 4, 3, .object "WhoBowsLast$Scene", true), (29, 4, 4, .object "WhoBowsLast$Orders", true), (36, 4, 5, .object "WhoBowsLast$Tape", true), (43, 4, 6, .object "WhoBowsLast$Sheets", true), (47, 4, 7, .boolean, false), (59, 1, 0, .int, false), (70, 1, 1, .array .int, true), (73, 1, 2, .array .int, true), (76, 1, 3, .array .int, true), (79, 1, 4, .array .int, true), (107, 1, 5, .array .int, true), (110, 1, 7, .int, false), (119, 1, 6, .int, false), (128, 1, 10, .array .int, true), (131, 1, 8, .int, false), (134, 1, 9, .int, false), (161, 0, 9, .array .int, true), (179, 0, 13, .int, false), (194, 0, 14, .int, false), (197, 0, 15, .int, false), (231, 1, 13, .int, false), (249, 1, 14, .array .int, true), (264, 2, 1, .array .int, true), (271, 2, 0, .array .int, true), (298, 3, 1, .int, false)], Ptf 5 e
  exact List.forall_mem_cons.mpr ⟨tf_5_0, List.forall_mem_cons.mpr ⟨tf_5_1, List.forall_mem_cons.mpr ⟨tf_5_2, List.forall_mem_cons.mpr ⟨tf_5_3, List.forall_mem_cons.mpr ⟨tf_5_4, List.forall_mem_cons.mpr ⟨tf_5_5, List.forall_mem_cons.mpr ⟨tf_5_6, List.forall_mem_cons.mpr ⟨tf_5_7, List.forall_mem_cons.mpr ⟨tf_5_8, List.forall_mem_cons.mpr ⟨tf_5_9, List.forall_mem_cons.mpr ⟨tf_5_10, List.forall_mem_cons.mpr ⟨tf_5_11, List.forall_mem_cons.mpr ⟨tf_5_12, List.forall_mem_cons.mpr ⟨tf_5_13, List.forall_mem_cons.mpr ⟨tf_5_14, List.forall_mem_cons.mpr ⟨tf_5_15, List.forall_mem_cons.mpr ⟨tf_5_16, List.forall_mem_cons.mpr ⟨tf_5_17, List.forall_mem_cons.mpr ⟨tf_5_18, List.forall_mem_cons.mpr ⟨tf_5_19, List.forall_mem_cons.mpr ⟨tf_5_20, List.forall_mem_cons.mpr ⟨tf_5_21, List.forall_mem_cons.mpr ⟨tf_5_22, List.forall_mem_cons.mpr ⟨tf_5_23, List.forall_mem_cons.mpr ⟨tf_5_24, List.forall_mem_cons.mpr ⟨tf_5_25, List.forall_mem_cons.mpr ⟨tf_5_26, List.forall_mem_cons.mpr ⟨tf_5_27, fun _ h => absurd h List.not_mem_nil⟩⟩⟩⟩⟩⟩⟩⟩⟩⟩⟩⟩⟩⟩⟩⟩⟩⟩⟩⟩⟩⟩⟩⟩⟩⟩⟩⟩
theorem tf_6_0 : Ptf 6 (9, 5, 0, .array .int, true) := Or.inl ⟨RX6, TX6, 25, rfl, by decide, (xTs_in (tin_4 _ (List.mem_of_getElem? (i := 126) rfl)) rfl), by decide +kernel, rfl⟩
theorem tf_6_1 : Ptf 6 (13, 5, 1, .array .int, true) := Or.inl ⟨RX6, TX6, 25, rfl, by decide, (xTs_in (tin_4 _ (List.mem_of_getElem? (i := 127) rfl)) rfl), by decide +kernel, rfl⟩
theorem tf_6_2 : Ptf 6 (16, 5, 2, .array .int, true) := Or.inl ⟨RX6, TX6, 25, rfl, by decide, (xTs_in (tin_4 _ (List.mem_of_getElem? (i := 128) rfl)) rfl), by decide +kernel, rfl⟩
theorem tf_6_3 : Ptf 6 (19, 5, 4, .array .int, true) := Or.inl ⟨RX6, TX6, 25, rfl, by decide, (xTs_in (tin_4 _ (List.mem_of_getElem? (i := 130) rfl)) rfl), by decide +kernel, rfl⟩
theorem tf_6_4 : Ptf 6 (22, 5, 5, .array .int, true) := Or.inl ⟨RX6, TX6, 25, rfl, by decide, (xTs_in (tin_4 _ (List.mem_of_getElem? (i := 131) rfl)) rfl), by decide +kernel, rfl⟩
theorem tf_6_5 : Ptf 6 (25, 5, 6, .array .int, true) := Or.inl ⟨RX6, TX6, 25, rfl, by decide, (xTs_in (tin_4 _ (List.mem_of_getElem? (i := 132) rfl)) rfl), by decide +kernel, rfl⟩
theorem tf_6_6 : Ptf 6 (28, 5, 8, .array .int, true) := Or.inl ⟨RX6, TX6, 25, rfl, by decide, (xTs_in (tin_4 _ (List.mem_of_getElem? (i := 134) rfl)) rfl), by decide +kernel, rfl⟩
theorem tf_6_7 : Ptf 6 (31, 5, 9, .array .int, true) := Or.inl ⟨RX6, TX6, 25, rfl, by decide, (xTs_in (tin_4 _ (List.mem_of_getElem? (i := 135) rfl)) rfl), by decide +kernel, rfl⟩
theorem tf_6_8 : Ptf 6 (34, 5, 11, .array .int, true) := Or.inl ⟨RX6, TX6, 25, rfl, by decide, (xTs_in (tin_4 _ (List.mem_of_getElem? (i := 137) rfl)) rfl), by decide +kernel, rfl⟩
theorem tf_6_9 : Ptf 6 (37, 5, 17, .array .char, true) := Or.inl ⟨RX6, TX6, 25, rfl, by decide, (xTs_in (tin_4 _ (List.mem_of_getElem? (i := 143) rfl)) rfl), by decide +kernel, rfl⟩
theorem tf_6_10 : Ptf 6 (41, 5, 18, .array .char, true) := Or.inl ⟨RX6, TX6, 25, rfl, by decide, (xTs_in (tin_4 _ (List.mem_of_getElem? (i := 144) rfl)) rfl), by decide +kernel, rfl⟩
theorem tf_6_11 : Ptf 6 (44, 5, 19, .array .char, true) := Or.inl ⟨RX6, TX6, 25, rfl, by decide, (xTs_in (tin_4 _ (List.mem_of_getElem? (i := 145) rfl)) rfl), by decide +kernel, rfl⟩
theorem tf_6_12 : Ptf 6 (47, 5, 20, .array .int, true) := Or.inl ⟨RX6, TX6, 25, rfl, by decide, (xTs_in (tin_4 _ (List.mem_of_getElem? (i := 146) rfl)) rfl), by decide +kernel, rfl⟩
theorem tf_6_13 : Ptf 6 (50, 5, 21, .array .int, true) := Or.inl ⟨RX6, TX6, 25, rfl, by decide, (xTs_in (tin_4 _ (List.mem_of_getElem? (i := 147) rfl)) rfl), by decide +kernel, rfl⟩
theorem tf_6_14 : Ptf 6 (53, 5, 22, .array .int, true) := Or.inl ⟨RX6, TX6, 25, rfl, by decide, (xTs_in (tin_4 _ (List.mem_of_getElem? (i := 148) rfl)) rfl), by decide +kernel, rfl⟩
theorem tf_6_15 : Ptf 6 (56, 5, 23, .array .int, true) := Or.inl ⟨RX6, TX6, 25, rfl, by decide, (xTs_in (tin_4 _ (List.mem_of_getElem? (i := 149) rfl)) rfl), by decide +kernel, rfl⟩
theorem tf_6_16 : Ptf 6 (142, 5, 7, .int, false) := Or.inl ⟨RX6, TX6, 25, rfl, by decide, (xTs_in (tin_4 _ (List.mem_of_getElem? (i := 133) rfl)) rfl), by decide +kernel, rfl⟩
theorem tf_6_17 : Ptf 6 (158, 5, 10, .int, false) := Or.inl ⟨RX6, TX6, 25, rfl, by decide, (xTs_in (tin_4 _ (List.mem_of_getElem? (i := 136) rfl)) rfl), by decide +kernel, rfl⟩
theorem tf_6_18 : Ptf 6 (183, 5, 12, .int, false) := Or.inl ⟨RX6, TX6, 25, rfl, by decide, (xTs_in (tin_4 _ (List.mem_of_getElem? (i := 138) rfl)) rfl), by decide +kernel, rfl⟩
theorem tf_6_19 : Ptf 6 (186, 5, 15, .int, false) := Or.inl ⟨RX6, TX6, 25, rfl, by decide, (xTs_in (tin_4 _ (List.mem_of_getElem? (i := 141) rfl)) rfl), by decide +kernel, rfl⟩
theorem tf_6_20 : Ptf 6 (189, 5, 14, .int, false) := Or.inl ⟨RX6, TX6, 25, rfl, by decide, (xTs_in (tin_4 _ (List.mem_of_getElem? (i := 140) rfl)) rfl), by decide +kernel, rfl⟩
theorem tf_6_21 : Ptf 6 (192, 5, 16, .long, false) := Or.inl ⟨RX6, TX6, 25, rfl, by decide, (xTs_in (tin_4 _ (List.mem_of_getElem? (i := 142) rfl)) rfl), by decide +kernel, rfl⟩
theorem tf_6_22 : Ptf 6 (196, 5, 13, .int, false) := Or.inl ⟨RX6, TX6, 25, rfl, by decide, (xTs_in (tin_4 _ (List.mem_of_getElem? (i := 139) rfl)) rfl), by decide +kernel, rfl⟩
theorem tf_6_23 : Ptf 6 (253, 5, 24, .int, false) := Or.inl ⟨RX6, TX6, 25, rfl, by decide, (xTs_in (tin_4 _ (List.mem_of_getElem? (i := 150) rfl)) rfl), by decide +kernel, rfl⟩
theorem tf_6_24 : Ptf 6 (259, 5, 3, .boolean, false) := Or.inl ⟨RX6, TX6, 25, rfl, by decide, (xTs_in (tin_4 _ (List.mem_of_getElem? (i := 129) rfl)) rfl), by decide +kernel, rfl⟩
theorem tf_6 : ∀ e ∈ xFT.getD 6 [], Ptf 6 e := by
  show ∀ e ∈ [(9, 5, 0, .array .int, true), (13, 5, 1, .array .int, true), (16, 5, 2, .array .int, true), (19, 5, 4, .array .int, true), (22, 5, 5, .array .int, true), (25, 5, 6, .array .int, true), (28, 5, 8, .array .int, true), (31, 5, 9, .array .int, true), (34, 5, 11, .array .int, true), (37, 5, 17, .array .char, true), (41, 5, 18, .array .char, true), (44, 5, 19, .array .char, true), (47, 5, 20, .array .int, true), (50, 5, 21, .array .int, true), (53, 5, 22, .array .int, true), (56, 5, 23, .array .int, true), (142, 5, 7, .int, false), (158, 5, 10, .int, false), (183, 5, 12, .int, false), (186, 5, 15, .int, false), (189, 5, 14, .int, false), (192, 5, 16, .long, false), (196, 5, 13, .int, false), (253, 5, 24, .int, false), (259, 5, 3, .boolean, false)], Ptf 6 e
  exact List.forall_mem_cons.mpr ⟨tf_6_0, List.forall_mem_cons.mpr ⟨tf_6_1, List.forall_mem_cons.mpr ⟨tf_6_2, List.forall_mem_cons.mpr ⟨tf_6_3, List.forall_mem_cons.mpr ⟨tf_6_4, List.forall_mem_cons.mpr ⟨tf_6_5, List.forall_mem_cons.mpr ⟨tf_6_6, List.forall_mem_cons.mpr ⟨tf_6_7, List.forall_mem_cons.mpr ⟨tf_6_8, List.forall_mem_cons.mpr ⟨tf_6_9, List.forall_mem_cons.mpr ⟨tf_6_10, List.forall_mem_cons.mpr ⟨tf_6_11, List.forall_mem_cons.mpr ⟨tf_6_12, List.forall_mem_cons.mpr ⟨tf_6_13, List.forall_mem_cons.mpr ⟨tf_6_14, List.forall_mem_cons.mpr ⟨tf_6_15, List.forall_mem_cons.mpr ⟨tf_6_16, List.forall_mem_cons.mpr ⟨tf_6_17, List.forall_mem_cons.mpr ⟨tf_6_18, List.forall_mem_cons.mpr ⟨tf_6_19, List.forall_mem_cons.mpr ⟨tf_6_20, List.forall_mem_cons.mpr ⟨tf_6_21, List.forall_mem_cons.mpr ⟨tf_6_22, List.forall_mem_cons.mpr ⟨tf_6_23, List.forall_mem_cons.mpr ⟨tf_6_24, fun _ h => absurd h List.not_mem_nil⟩⟩⟩⟩⟩⟩⟩⟩⟩⟩⟩⟩⟩⟩⟩⟩⟩⟩⟩⟩⟩⟩⟩⟩⟩
theorem tf_7 : ∀ e ∈ xFT.getD 7 [], Ptf 7 e := fun _ h => absurd h List.not_mem_nil
theorem tf_8 : ∀ e ∈ xFT.getD 8 [], Ptf 8 e := fun _ h => absurd h List.not_mem_nil
theorem tf_9 : ∀ e ∈ xFT.getD 9 [], Ptf 9 e := fun _ h => absurd h List.not_mem_nil
theorem tf_10_0 : Ptf 10 (9, 100, 0, .int, true) := Or.inr ⟨rfl, Or.inl ⟨rfl, (xTs_in (tin_6 _ (List.mem_of_getElem? (i := 104) rfl)) rfl)⟩⟩
theorem tf_10_1 : Ptf 10 (15, 100, 1, .int, true) := Or.inr ⟨rfl, Or.inr ⟨rfl, (xTs_in (tin_6 _ (List.mem_of_getElem? (i := 105) rfl)) rfl)⟩⟩
theorem tf_10 : ∀ e ∈ xFT.getD 10 [], Ptf 10 e := by
  show ∀ e ∈ [(9, 100, 0, .int, true), (15, 100, 1, .int, true)], Ptf 10 e
  exact List.forall_mem_cons.mpr ⟨tf_10_0, List.forall_mem_cons.mpr ⟨tf_10_1, fun _ h => absurd h List.not_mem_nil⟩⟩
theorem tf_11 : ∀ e ∈ xFT.getD 11 [], Ptf 11 e := fun _ h => absurd h List.not_mem_nil
theorem tf_12 : ∀ e ∈ xFT.getD 12 [], Ptf 12 e := fun _ h => absurd h List.not_mem_nil
theorem tf_all : ∀ (own : Nat) e, e ∈ xFT.getD own [] → Ptf own e := by
  intro own e h
  match own, h with
  | 0, h => exact tf_0 e h
  | 1, h => exact tf_1 e h
  | 2, h => exact tf_2 e h
  | 3, h => exact tf_3 e h
  | 4, h => exact tf_4 e h
  | 5, h => exact tf_5 e h
  | 6, h => exact tf_6 e h
  | 7, h => exact tf_7 e h
  | 8, h => exact tf_8 e h
  | 9, h => exact tf_9 e h
  | 10, h => exact tf_10 e h
  | 11, h => exact tf_11 e h
  | 12, h => exact tf_12 e h
  | n + 13, h => exact absurd h List.not_mem_nil
theorem t_F1 : xTF1 := fun own idx ci k ty fin h => tf_all own _ (xfind_mem h)
def Ptk (own : Nat) (e : Nat × Value) : Prop := (∃ x, e.2 = .int x ∧ Cond.constant (xR own) e.1 x ∈ xTs) ∨ (∃ x, e.2 = .long x ∧ Cond.constantLong (xR own) e.1 x ∈ xTs) ∨ (∃ w, e.2 = .retAddr w ∧ w < 16 ∧ own = 4 ∧ xsix.getD w 0 = e.1)
theorem tk_0 : ∀ e ∈ xKT.getD 0 [], Ptk 0 e := fun _ h => absurd h List.not_mem_nil
theorem tk_1_0 : Ptk 1 (108, .int (-1000000)) := Or.inl ⟨_, rfl, (xTs_in (tin_2 _ (List.mem_of_getElem? (i := 172) rfl)) rfl)⟩
theorem tk_1 : ∀ e ∈ xKT.getD 1 [], Ptk 1 e := by
  show ∀ e ∈ [(108, .int (-1000000))], Ptk 1 e
  exact List.forall_mem_cons.mpr ⟨tk_1_0, fun _ h => absurd h List.not_mem_nil⟩
theorem tk_2_0 : Ptk 2 (97, .int 1103515245) := Or.inl ⟨_, rfl, (xTs_in (tin_3 _ (List.mem_of_getElem? (i := 86) rfl)) rfl)⟩
theorem tk_2 : ∀ e ∈ xKT.getD 2 [], Ptk 2 e := by
  show ∀ e ∈ [(97, .int 1103515245)], Ptk 2 e
  exact List.forall_mem_cons.mpr ⟨tk_2_0, fun _ h => absurd h List.not_mem_nil⟩
theorem tk_3 : ∀ e ∈ xKT.getD 3 [], Ptk 3 e := fun _ h => absurd h List.not_mem_nil
theorem tk_4_0 : Ptk 4 (135, .retAddr 0) := Or.inr (Or.inr ⟨_, rfl, by decide, rfl, rfl⟩)
theorem tk_4_1 : Ptk 4 (137, .retAddr 1) := Or.inr (Or.inr ⟨_, rfl, by decide, rfl, rfl⟩)
theorem tk_4_2 : Ptk 4 (139, .retAddr 2) := Or.inr (Or.inr ⟨_, rfl, by decide, rfl, rfl⟩)
theorem tk_4_3 : Ptk 4 (141, .retAddr 3) := Or.inr (Or.inr ⟨_, rfl, by decide, rfl, rfl⟩)
theorem tk_4_4 : Ptk 4 (143, .retAddr 4) := Or.inr (Or.inr ⟨_, rfl, by decide, rfl, rfl⟩)
theorem tk_4_5 : Ptk 4 (145, .retAddr 5) := Or.inr (Or.inr ⟨_, rfl, by decide, rfl, rfl⟩)
theorem tk_4_6 : Ptk 4 (147, .retAddr 6) := Or.inr (Or.inr ⟨_, rfl, by decide, rfl, rfl⟩)
theorem tk_4_7 : Ptk 4 (149, .retAddr 7) := Or.inr (Or.inr ⟨_, rfl, by decide, rfl, rfl⟩)
theorem tk_4_8 : Ptk 4 (151, .retAddr 8) := Or.inr (Or.inr ⟨_, rfl, by decide, rfl, rfl⟩)
theorem tk_4_9 : Ptk 4 (153, .retAddr 9) := Or.inr (Or.inr ⟨_, rfl, by decide, rfl, rfl⟩)
theorem tk_4_10 : Ptk 4 (155, .retAddr 10) := Or.inr (Or.inr ⟨_, rfl, by decide, rfl, rfl⟩)
theorem tk_4_11 : Ptk 4 (157, .retAddr 11) := Or.inr (Or.inr ⟨_, rfl, by decide, rfl, rfl⟩)
theorem tk_4_12 : Ptk 4 (159, .retAddr 12) := Or.inr (Or.inr ⟨_, rfl, by decide, rfl, rfl⟩)
theorem tk_4_13 : Ptk 4 (161, .retAddr 13) := Or.inr (Or.inr ⟨_, rfl, by decide, rfl, rfl⟩)
theorem tk_4_14 : Ptk 4 (163, .retAddr 14) := Or.inr (Or.inr ⟨_, rfl, by decide, rfl, rfl⟩)
theorem tk_4_15 : Ptk 4 (164, .retAddr 15) := Or.inr (Or.inr ⟨_, rfl, by decide, rfl, rfl⟩)
theorem tk_4 : ∀ e ∈ xKT.getD 4 [], Ptk 4 e := by
  show ∀ e ∈ [(135, .retAddr 0), (137, .retAddr 1), (139, .retAddr 2), (141, .retAddr 3), (143, .retAddr 4), (145, .retAddr 5), (147, .retAddr 6), (149, .retAddr 7), (151, .retAddr 8), (153, .retAddr 9), (155, .retAddr 10), (157, .retAddr 11), (159, .retAddr 12), (161, .retAddr 13), (163, .retAddr 14), (164, .retAddr 15)], Ptk 4 e
  exact List.forall_mem_cons.mpr ⟨tk_4_0, List.forall_mem_cons.mpr ⟨tk_4_1, List.forall_mem_cons.mpr ⟨tk_4_2, List.forall_mem_cons.mpr ⟨tk_4_3, List.forall_mem_cons.mpr ⟨tk_4_4, List.forall_mem_cons.mpr ⟨tk_4_5, List.forall_mem_cons.mpr ⟨tk_4_6, List.forall_mem_cons.mpr ⟨tk_4_7, List.forall_mem_cons.mpr ⟨tk_4_8, List.forall_mem_cons.mpr ⟨tk_4_9, List.forall_mem_cons.mpr ⟨tk_4_10, List.forall_mem_cons.mpr ⟨tk_4_11, List.forall_mem_cons.mpr ⟨tk_4_12, List.forall_mem_cons.mpr ⟨tk_4_13, List.forall_mem_cons.mpr ⟨tk_4_14, List.forall_mem_cons.mpr ⟨tk_4_15, fun _ h => absurd h List.not_mem_nil⟩⟩⟩⟩⟩⟩⟩⟩⟩⟩⟩⟩⟩⟩⟩⟩
theorem tk_5_0 : Ptk 5 (304, .int (-1000001)) := Or.inl ⟨_, rfl, (xTs_in (tin_2 _ (List.mem_of_getElem? (i := 12) rfl)) rfl)⟩
theorem tk_5_1 : Ptk 5 (213, .long 2) := Or.inr (Or.inl ⟨_, rfl, (xTs_in (tin_3 _ (List.mem_of_getElem? (i := 72) rfl)) rfl)⟩)
theorem tk_5_2 : Ptk 5 (215, .long 5) := Or.inr (Or.inl ⟨_, rfl, (xTs_in (tin_3 _ (List.mem_of_getElem? (i := 73) rfl)) rfl)⟩)
theorem tk_5_3 : Ptk 5 (305, .long 10) := Or.inr (Or.inl ⟨_, rfl, (xTs_in (tin_3 _ (List.mem_of_getElem? (i := 68) rfl)) rfl)⟩)
theorem tk_5 : ∀ e ∈ xKT.getD 5 [], Ptk 5 e := by
  show ∀ e ∈ [(304, .int (-1000001)), (213, .long 2), (215, .long 5), (305, .long 10)], Ptk 5 e
  exact List.forall_mem_cons.mpr ⟨tk_5_0, List.forall_mem_cons.mpr ⟨tk_5_1, List.forall_mem_cons.mpr ⟨tk_5_2, List.forall_mem_cons.mpr ⟨tk_5_3, fun _ h => absurd h List.not_mem_nil⟩⟩⟩⟩
theorem tk_6_0 : Ptk 6 (59, .int (-1000001)) := Or.inl ⟨_, rfl, (xTs_in (tin_4 _ (List.mem_of_getElem? (i := 214) rfl)) rfl)⟩
theorem tk_6_1 : Ptk 6 (135, .int (-99999999)) := Or.inl ⟨_, rfl, (xTs_in (tin_5 _ (List.mem_of_getElem? (i := 99) rfl)) rfl)⟩
theorem tk_6_2 : Ptk 6 (179, .int 1103515245) := Or.inl ⟨_, rfl, (xTs_in (tin_5 _ (List.mem_of_getElem? (i := 211) rfl)) rfl)⟩
theorem tk_6_3 : Ptk 6 (167, .long 10) := Or.inr (Or.inl ⟨_, rfl, (xTs_in (tin_5 _ (List.mem_of_getElem? (i := 191) rfl)) rfl)⟩)
theorem tk_6_4 : Ptk 6 (202, .long 9999999999999) := Or.inr (Or.inl ⟨_, rfl, (xTs_in (tin_6 _ (List.mem_of_getElem? (i := 3) rfl)) rfl)⟩)
theorem tk_6_5 : Ptk 6 (204, .long 27) := Or.inr (Or.inl ⟨_, rfl, (xTs_in (tin_6 _ (List.mem_of_getElem? (i := 4) rfl)) rfl)⟩)
theorem tk_6_6 : Ptk 6 (206, .long 96) := Or.inr (Or.inl ⟨_, rfl, (xTs_in (tin_6 _ (List.mem_of_getElem? (i := 5) rfl)) rfl)⟩)
theorem tk_6_7 : Ptk 6 (211, .long 999) := Or.inr (Or.inl ⟨_, rfl, (xTs_in (tin_6 _ (List.mem_of_getElem? (i := 9) rfl)) rfl)⟩)
theorem tk_6_8 : Ptk 6 (213, .long 48) := Or.inr (Or.inl ⟨_, rfl, (xTs_in (tin_6 _ (List.mem_of_getElem? (i := 10) rfl)) rfl)⟩)
theorem tk_6 : ∀ e ∈ xKT.getD 6 [], Ptk 6 e := by
  show ∀ e ∈ [(59, .int (-1000001)), (135, .int (-99999999)), (179, .int 1103515245), (167, .long 10), (202, .long 9999999999999), (204, .long 27), (206, .long 96), (211, .long 999), (213, .long 48)], Ptk 6 e
  exact List.forall_mem_cons.mpr ⟨tk_6_0, List.forall_mem_cons.mpr ⟨tk_6_1, List.forall_mem_cons.mpr ⟨tk_6_2, List.forall_mem_cons.mpr ⟨tk_6_3, List.forall_mem_cons.mpr ⟨tk_6_4, List.forall_mem_cons.mpr ⟨tk_6_5, List.forall_mem_cons.mpr ⟨tk_6_6, List.forall_mem_cons.mpr ⟨tk_6_7, List.forall_mem_cons.mpr ⟨tk_6_8, fun _ h => absurd h List.not_mem_nil⟩⟩⟩⟩⟩⟩⟩⟩⟩
theorem tk_7 : ∀ e ∈ xKT.getD 7 [], Ptk 7 e := fun _ h => absurd h List.not_mem_nil
theorem tk_8_0 : Ptk 8 (265, .int 1431655765) := Or.inl ⟨_, rfl, (xTs_in (tin_2 _ (List.mem_of_getElem? (i := 185) rfl)) rfl)⟩
theorem tk_8_1 : Ptk 8 (266, .int 858993459) := Or.inl ⟨_, rfl, (xTs_in (tin_2 _ (List.mem_of_getElem? (i := 186) rfl)) rfl)⟩
theorem tk_8_2 : Ptk 8 (267, .int 252645135) := Or.inl ⟨_, rfl, (xTs_in (tin_2 _ (List.mem_of_getElem? (i := 187) rfl)) rfl)⟩
theorem tk_8 : ∀ e ∈ xKT.getD 8 [], Ptk 8 e := by
  show ∀ e ∈ [(265, .int 1431655765), (266, .int 858993459), (267, .int 252645135)], Ptk 8 e
  exact List.forall_mem_cons.mpr ⟨tk_8_0, List.forall_mem_cons.mpr ⟨tk_8_1, List.forall_mem_cons.mpr ⟨tk_8_2, fun _ h => absurd h List.not_mem_nil⟩⟩⟩
theorem tk_9 : ∀ e ∈ xKT.getD 9 [], Ptk 9 e := fun _ h => absurd h List.not_mem_nil
theorem tk_10 : ∀ e ∈ xKT.getD 10 [], Ptk 10 e := fun _ h => absurd h List.not_mem_nil
theorem tk_11 : ∀ e ∈ xKT.getD 11 [], Ptk 11 e := fun _ h => absurd h List.not_mem_nil
theorem tk_12 : ∀ e ∈ xKT.getD 12 [], Ptk 12 e := fun _ h => absurd h List.not_mem_nil
theorem tk_all : ∀ (own : Nat) e, e ∈ xKT.getD own [] → Ptk own e := by
  intro own e h
  match own, h with
  | 0, h => exact tk_0 e h
  | 1, h => exact tk_1 e h
  | 2, h => exact tk_2 e h
  | 3, h => exact tk_3 e h
  | 4, h => exact tk_4 e h
  | 5, h => exact tk_5 e h
  | 6, h => exact tk_6 e h
  | 7, h => exact tk_7 e h
  | 8, h => exact tk_8 e h
  | 9, h => exact tk_9 e h
  | 10, h => exact tk_10 e h
  | 11, h => exact tk_11 e h
  | 12, h => exact tk_12 e h
  | n + 13, h => exact absurd h List.not_mem_nil
theorem t_K1 : xTK1 := fun own idx v h => tk_all own _ (xfind_mem h)
def Ptg (own : Nat) (e : Nat × Value) : Prop := (e.2 = .ref 1000 ∧ (Cond.fieldLink (xR own) e.1 RX5 "MOST_OF_RULE" "[I" ∈ xTs ∨ (own = 4 ∧ e.1 = 90))) ∨ (e.2 = .ref 1001 ∧ Cond.fieldLink (xR own) e.1 RX0 "ABOVE" "[I" ∈ xTs) ∨ (e.2 = .int 1 ∧ Cond.fieldLink (xR own) e.1 RJ0 "COMPACT_STRINGS" "Z" ∈ xTs) ∨ (e.2 = .null ∧ Cond.fieldLink (xR own) e.1 RJ3 "SIOOBE_FORMATTER" "Ljava/util/function/BiFunction;" ∈ xTs)
theorem tg_0_0 : Ptg 0 (20, .ref 1001) := Or.inr (Or.inl ⟨rfl, (xTs_in (tin_4 _ (List.mem_of_getElem? (i := 26) rfl)) rfl)⟩)
theorem tg_0 : ∀ e ∈ xGT.getD 0 [], Ptg 0 e := by
  show ∀ e ∈ [(20, .ref 1001)], Ptg 0 e
  exact List.forall_mem_cons.mpr ⟨tg_0_0, fun _ h => absurd h List.not_mem_nil⟩
theorem tg_1 : ∀ e ∈ xGT.getD 1 [], Ptg 1 e := fun _ h => absurd h List.not_mem_nil
theorem tg_2 : ∀ e ∈ xGT.getD 2 [], Ptg 2 e := fun _ h => absurd h List.not_mem_nil
theorem tg_3 : ∀ e ∈ xGT.getD 3 [], Ptg 3 e := fun _ h => absurd h List.not_mem_nil
theorem tg_4_0 : Ptg 4 (90, .ref 1000) := Or.inl ⟨rfl, Or.inr ⟨rfl, rfl⟩⟩
theorem tg_4 : ∀ e ∈ xGT.getD 4 [], Ptg 4 e := by
  show ∀ e ∈ [(90, .ref 1000)], Ptg 4 e
  exact List.forall_mem_cons.mpr ⟨tg_4_0, fun _ h => absurd h List.not_mem_nil⟩
theorem tg_5_0 : Ptg 5 (104, .ref 1000) := Or.inl ⟨rfl, Or.inl (xTs_in (tin_2 _ (List.mem_of_getElem? (i := 77) rfl)) rfl)⟩
theorem tg_5 : ∀ e ∈ xGT.getD 5 [], Ptg 5 e := by
  show ∀ e ∈ [(104, .ref 1000)], Ptg 5 e
  exact List.forall_mem_cons.mpr ⟨tg_5_0, fun _ h => absurd h List.not_mem_nil⟩
theorem tg_6 : ∀ e ∈ xGT.getD 6 [], Ptg 6 e := fun _ h => absurd h List.not_mem_nil
theorem tg_7 : ∀ e ∈ xGT.getD 7 [], Ptg 7 e := fun _ h => absurd h List.not_mem_nil
theorem tg_8 : ∀ e ∈ xGT.getD 8 [], Ptg 8 e := fun _ h => absurd h List.not_mem_nil
theorem tg_9 : ∀ e ∈ xGT.getD 9 [], Ptg 9 e := fun _ h => absurd h List.not_mem_nil
theorem tg_10_0 : Ptg 10 (38, .int 1) := Or.inr (Or.inr (Or.inl ⟨rfl, (xTs_in (tin_3 _ (List.mem_of_getElem? (i := 178) rfl)) rfl)⟩))
theorem tg_10_1 : Ptg 10 (1053, .null) := Or.inr (Or.inr (Or.inr ⟨rfl, (xTs_in (tin_3 _ (List.mem_of_getElem? (i := 194) rfl)) rfl)⟩))
theorem tg_10 : ∀ e ∈ xGT.getD 10 [], Ptg 10 e := by
  show ∀ e ∈ [(38, .int 1), (1053, .null)], Ptg 10 e
  exact List.forall_mem_cons.mpr ⟨tg_10_0, List.forall_mem_cons.mpr ⟨tg_10_1, fun _ h => absurd h List.not_mem_nil⟩⟩
theorem tg_11 : ∀ e ∈ xGT.getD 11 [], Ptg 11 e := fun _ h => absurd h List.not_mem_nil
theorem tg_12 : ∀ e ∈ xGT.getD 12 [], Ptg 12 e := fun _ h => absurd h List.not_mem_nil
theorem tg_all : ∀ (own : Nat) e, e ∈ xGT.getD own [] → Ptg own e := by
  intro own e h
  match own, h with
  | 0, h => exact tg_0 e h
  | 1, h => exact tg_1 e h
  | 2, h => exact tg_2 e h
  | 3, h => exact tg_3 e h
  | 4, h => exact tg_4 e h
  | 5, h => exact tg_5 e h
  | 6, h => exact tg_6 e h
  | 7, h => exact tg_7 e h
  | 8, h => exact tg_8 e h
  | 9, h => exact tg_9 e h
  | 10, h => exact tg_10 e h
  | 11, h => exact tg_11 e h
  | 12, h => exact tg_12 e h
  | n + 13, h => exact absurd h List.not_mem_nil
theorem t_G1 : xTG1 := fun own idx v h => tg_all own _ (xfind_mem h)
theorem tnd_0 : ∀ k, k < 16 → ∃ ty, parseFieldDescriptor (TX1 k).2.2.1 = some ty ∧ defaultValue ty = (match ([2, 2, 2, 2, 2, 2, 2, 0, 2, 2, 0, 0, 0, 0, 0, 0] : List Nat).getD k 2 with | 0 => .int 0 | 1 => .long 0 | _ => .null) ∧ ([2, 2, 2, 2, 2, 2, 2, 0, 2, 2, 0, 0, 0, 0, 0, 0] : List Nat).getD k 2 ≤ 2 := by
  have h : ∀ k, k < 16 → defaultValue (tyX1 k) = (match ([2, 2, 2, 2, 2, 2, 2, 0, 2, 2, 0, 0, 0, 0, 0, 0] : List Nat).getD k 2 with | 0 => .int 0 | 1 => .long 0 | _ => .null) ∧ ([2, 2, 2, 2, 2, 2, 2, 0, 2, 2, 0, 0, 0, 0, 0, 0] : List Nat).getD k 2 ≤ 2 := by decide +kernel
  exact fun k hk => ⟨tyX1 k, tyX1_ok k hk, (h k hk).1, (h k hk).2⟩
theorem tnd_1 : ∀ k, k < 15 → ∃ ty, parseFieldDescriptor (TX2 k).2.2.1 = some ty ∧ defaultValue ty = (match ([0, 2, 2, 2, 2, 2, 0, 0, 0, 0, 2, 2, 2, 0, 2] : List Nat).getD k 2 with | 0 => .int 0 | 1 => .long 0 | _ => .null) ∧ ([0, 2, 2, 2, 2, 2, 0, 0, 0, 0, 2, 2, 2, 0, 2] : List Nat).getD k 2 ≤ 2 := by
  have h : ∀ k, k < 15 → defaultValue (tyX2 k) = (match ([0, 2, 2, 2, 2, 2, 0, 0, 0, 0, 2, 2, 2, 0, 2] : List Nat).getD k 2 with | 0 => .int 0 | 1 => .long 0 | _ => .null) ∧ ([0, 2, 2, 2, 2, 2, 0, 0, 0, 0, 2, 2, 2, 0, 2] : List Nat).getD k 2 ≤ 2 := by decide +kernel
  exact fun k hk => ⟨tyX2 k, tyX2_ok k hk, (h k hk).1, (h k hk).2⟩
theorem tnd_2 : ∀ k, k < 3 → ∃ ty, parseFieldDescriptor (TX3 k).2.2.1 = some ty ∧ defaultValue ty = (match ([2, 2, 2] : List Nat).getD k 2 with | 0 => .int 0 | 1 => .long 0 | _ => .null) ∧ ([2, 2, 2] : List Nat).getD k 2 ≤ 2 := by
  have h : ∀ k, k < 3 → defaultValue (tyX3 k) = (match ([2, 2, 2] : List Nat).getD k 2 with | 0 => .int 0 | 1 => .long 0 | _ => .null) ∧ ([2, 2, 2] : List Nat).getD k 2 ≤ 2 := by decide +kernel
  exact fun k hk => ⟨tyX3 k, tyX3_ok k hk, (h k hk).1, (h k hk).2⟩
theorem tnd_3 : ∀ k, k < 10 → ∃ ty, parseFieldDescriptor (TX4 k).2.2.1 = some ty ∧ defaultValue ty = (match ([2, 0, 2, 2, 2, 2, 0, 0, 0, 0] : List Nat).getD k 2 with | 0 => .int 0 | 1 => .long 0 | _ => .null) ∧ ([2, 0, 2, 2, 2, 2, 0, 0, 0, 0] : List Nat).getD k 2 ≤ 2 := by
  have h : ∀ k, k < 10 → defaultValue (tyX4 k) = (match ([2, 0, 2, 2, 2, 2, 0, 0, 0, 0] : List Nat).getD k 2 with | 0 => .int 0 | 1 => .long 0 | _ => .null) ∧ ([2, 0, 2, 2, 2, 2, 0, 0, 0, 0] : List Nat).getD k 2 ≤ 2 := by decide +kernel
  exact fun k hk => ⟨tyX4 k, tyX4_ok k hk, (h k hk).1, (h k hk).2⟩
theorem tnd_4 : ∀ k, k < 8 → ∃ ty, parseFieldDescriptor (TX5 k).2.2.1 = some ty ∧ defaultValue ty = (match ([2, 2, 2, 2, 2, 2, 2, 0] : List Nat).getD k 2 with | 0 => .int 0 | 1 => .long 0 | _ => .null) ∧ ([2, 2, 2, 2, 2, 2, 2, 0] : List Nat).getD k 2 ≤ 2 := by
  have h : ∀ k, k < 8 → defaultValue (tyX5 k) = (match ([2, 2, 2, 2, 2, 2, 2, 0] : List Nat).getD k 2 with | 0 => .int 0 | 1 => .long 0 | _ => .null) ∧ ([2, 2, 2, 2, 2, 2, 2, 0] : List Nat).getD k 2 ≤ 2 := by decide +kernel
  exact fun k hk => ⟨tyX5 k, tyX5_ok k hk, (h k hk).1, (h k hk).2⟩
theorem tnd_5 : ∀ k, k < 25 → ∃ ty, parseFieldDescriptor (TX6 k).2.2.1 = some ty ∧ defaultValue ty = (match ([2, 2, 2, 0, 2, 2, 2, 0, 2, 2, 0, 2, 0, 0, 0, 0, 1, 2, 2, 2, 2, 2, 2, 2, 0] : List Nat).getD k 2 with | 0 => .int 0 | 1 => .long 0 | _ => .null) ∧ ([2, 2, 2, 0, 2, 2, 2, 0, 2, 2, 0, 2, 0, 0, 0, 0, 1, 2, 2, 2, 2, 2, 2, 2, 0] : List Nat).getD k 2 ≤ 2 := by
  have h : ∀ k, k < 25 → defaultValue (tyX6 k) = (match ([2, 2, 2, 0, 2, 2, 2, 0, 2, 2, 0, 2, 0, 0, 0, 0, 1, 2, 2, 2, 2, 2, 2, 2, 0] : List Nat).getD k 2 with | 0 => .int 0 | 1 => .long 0 | _ => .null) ∧ ([2, 2, 2, 0, 2, 2, 2, 0, 2, 2, 0, 2, 0, 0, 0, 0, 1, 2, 2, 2, 2, 2, 2, 2, 0] : List Nat).getD k 2 ≤ 2 := by decide +kernel
  exact fun k hk => ⟨tyX6 k, tyX6_ok k hk, (h k hk).1, (h k hk).2⟩
def Ptn (own : Nat) (e : Nat × Nat × List Nat) : Prop := ∃ C T N, vwCl[e.2.1]? = some (C, T, N) ∧ e.2.2.length = N ∧ N ≤ 90 ∧ Cond.classLink (xR own) e.1 C ∈ xTs ∧ Cond.instantiable C N ∈ xTs ∧ Cond.initialized C ∈ xTs ∧ (∀ k, k < N → ∃ ty, parseFieldDescriptor (T k).2.2.1 = some ty ∧ defaultValue ty = (match e.2.2.getD k 2 with | 0 => .int 0 | 1 => .long 0 | _ => .null) ∧ e.2.2.getD k 2 ≤ 2) ∧ Cond.arrayClass .int ∈ xTs ∧ Cond.arrayClass .char ∈ xTs
theorem tn_0 : ∀ e ∈ xNT.getD 0 [], Ptn 0 e := fun _ h => absurd h List.not_mem_nil
theorem tn_1 : ∀ e ∈ xNT.getD 1 [], Ptn 1 e := fun _ h => absurd h List.not_mem_nil
theorem tn_2 : ∀ e ∈ xNT.getD 2 [], Ptn 2 e := fun _ h => absurd h List.not_mem_nil
theorem tn_3 : ∀ e ∈ xNT.getD 3 [], Ptn 3 e := fun _ h => absurd h List.not_mem_nil
theorem tn_4 : ∀ e ∈ xNT.getD 4 [], Ptn 4 e := fun _ h => absurd h List.not_mem_nil
theorem tn_5_0 : Ptn 5 (13, 1, [0, 2, 2, 2, 2, 2, 0, 0, 0, 0, 2, 2, 2, 0, 2]) := ⟨RX2, TX2, 15, rfl, rfl, by decide, (xTs_in (tin_1 _ (List.mem_of_getElem? (i := 23) rfl)) rfl), (xTs_in (tin_1 _ (List.mem_of_getElem? (i := 24) rfl)) rfl), (xTs_in (tin_1 _ (List.mem_of_getElem? (i := 2) rfl)) rfl), tnd_1, (xTs_in (tin_1 _ (List.mem_of_getElem? (i := 100) rfl)) rfl), (xTs_in (tin_4 _ (List.mem_of_getElem? (i := 202) rfl)) rfl)⟩
theorem tn_5_1 : Ptn 5 (26, 0, [2, 2, 2, 2, 2, 2, 2, 0, 2, 2, 0, 0, 0, 0, 0, 0]) := ⟨RX1, TX1, 16, rfl, rfl, by decide, (xTs_in (tin_1 _ (List.mem_of_getElem? (i := 101) rfl)) rfl), (xTs_in (tin_1 _ (List.mem_of_getElem? (i := 102) rfl)) rfl), (xTs_in (tin_1 _ (List.mem_of_getElem? (i := 3) rfl)) rfl), tnd_0, (xTs_in (tin_1 _ (List.mem_of_getElem? (i := 100) rfl)) rfl), (xTs_in (tin_4 _ (List.mem_of_getElem? (i := 202) rfl)) rfl)⟩
theorem tn_5_2 : Ptn 5 (33, 3, [2, 0, 2, 2, 2, 2, 0, 0, 0, 0]) := ⟨RX4, TX4, 10, rfl, rfl, by decide, (xTs_in (tin_1 _ (List.mem_of_getElem? (i := 160) rfl)) rfl), (xTs_in (tin_1 _ (List.mem_of_getElem? (i := 161) rfl)) rfl), (xTs_in (tin_1 _ (List.mem_of_getElem? (i := 4) rfl)) rfl), tnd_3, (xTs_in (tin_1 _ (List.mem_of_getElem? (i := 100) rfl)) rfl), (xTs_in (tin_4 _ (List.mem_of_getElem? (i := 202) rfl)) rfl)⟩
theorem tn_5_3 : Ptn 5 (40, 2, [2, 2, 2]) := ⟨RX3, TX3, 3, rfl, rfl, by decide, (xTs_in (tin_1 _ (List.mem_of_getElem? (i := 198) rfl)) rfl), (xTs_in (tin_1 _ (List.mem_of_getElem? (i := 199) rfl)) rfl), (xTs_in (tin_1 _ (List.mem_of_getElem? (i := 5) rfl)) rfl), tnd_2, (xTs_in (tin_1 _ (List.mem_of_getElem? (i := 100) rfl)) rfl), (xTs_in (tin_4 _ (List.mem_of_getElem? (i := 202) rfl)) rfl)⟩
theorem tn_5 : ∀ e ∈ xNT.getD 5 [], Ptn 5 e := by
  show ∀ e ∈ [(13, 1, [0, 2, 2, 2, 2, 2, 0, 0, 0, 0, 2, 2, 2, 0, 2]), (26, 0, [2, 2, 2, 2, 2, 2, 2, 0, 2, 2, 0, 0, 0, 0, 0, 0]), (33, 3, [2, 0, 2, 2, 2, 2, 0, 0, 0, 0]), (40, 2, [2, 2, 2])], Ptn 5 e
  exact List.forall_mem_cons.mpr ⟨tn_5_0, List.forall_mem_cons.mpr ⟨tn_5_1, List.forall_mem_cons.mpr ⟨tn_5_2, List.forall_mem_cons.mpr ⟨tn_5_3, fun _ h => absurd h List.not_mem_nil⟩⟩⟩⟩
theorem tn_6 : ∀ e ∈ xNT.getD 6 [], Ptn 6 e := fun _ h => absurd h List.not_mem_nil
theorem tn_7_0 : Ptn 7 (7, 4, [2, 2, 2, 2, 2, 2, 2, 0]) := ⟨RX5, TX5, 8, rfl, rfl, by decide, (xTs_in (tin_1 _ (List.mem_of_getElem? (i := 15) rfl)) rfl), (xTs_in (tin_1 _ (List.mem_of_getElem? (i := 16) rfl)) rfl), (xTs_in (tin_1 _ (List.mem_of_getElem? (i := 1) rfl)) rfl), tnd_4, (xTs_in (tin_1 _ (List.mem_of_getElem? (i := 100) rfl)) rfl), (xTs_in (tin_4 _ (List.mem_of_getElem? (i := 202) rfl)) rfl)⟩
theorem tn_7_1 : Ptn 7 (10, 5, [2, 2, 2, 0, 2, 2, 2, 0, 2, 2, 0, 2, 0, 0, 0, 0, 1, 2, 2, 2, 2, 2, 2, 2, 0]) := ⟨RX6, TX6, 25, rfl, rfl, by decide, (xTs_in (tin_4 _ (List.mem_of_getElem? (i := 120) rfl)) rfl), (xTs_in (tin_4 _ (List.mem_of_getElem? (i := 121) rfl)) rfl), (xTs_in (tin_1 _ (List.mem_of_getElem? (i := 6) rfl)) rfl), tnd_5, (xTs_in (tin_1 _ (List.mem_of_getElem? (i := 100) rfl)) rfl), (xTs_in (tin_4 _ (List.mem_of_getElem? (i := 202) rfl)) rfl)⟩
theorem tn_7 : ∀ e ∈ xNT.getD 7 [], Ptn 7 e := by
  show ∀ e ∈ [(7, 4, [2, 2, 2, 2, 2, 2, 2, 0]), (10, 5, [2, 2, 2, 0, 2, 2, 2, 0, 2, 2, 0, 2, 0, 0, 0, 0, 1, 2, 2, 2, 2, 2, 2, 2, 0])], Ptn 7 e
  exact List.forall_mem_cons.mpr ⟨tn_7_0, List.forall_mem_cons.mpr ⟨tn_7_1, fun _ h => absurd h List.not_mem_nil⟩⟩
theorem tn_8 : ∀ e ∈ xNT.getD 8 [], Ptn 8 e := fun _ h => absurd h List.not_mem_nil
theorem tn_9 : ∀ e ∈ xNT.getD 9 [], Ptn 9 e := fun _ h => absurd h List.not_mem_nil
theorem tn_10 : ∀ e ∈ xNT.getD 10 [], Ptn 10 e := fun _ h => absurd h List.not_mem_nil
theorem tn_11 : ∀ e ∈ xNT.getD 11 [], Ptn 11 e := fun _ h => absurd h List.not_mem_nil
theorem tn_12 : ∀ e ∈ xNT.getD 12 [], Ptn 12 e := fun _ h => absurd h List.not_mem_nil
theorem tn_all : ∀ (own : Nat) e, e ∈ xNT.getD own [] → Ptn own e := by
  intro own e h
  match own, h with
  | 0, h => exact tn_0 e h
  | 1, h => exact tn_1 e h
  | 2, h => exact tn_2 e h
  | 3, h => exact tn_3 e h
  | 4, h => exact tn_4 e h
  | 5, h => exact tn_5 e h
  | 6, h => exact tn_6 e h
  | 7, h => exact tn_7 e h
  | 8, h => exact tn_8 e h
  | 9, h => exact tn_9 e h
  | 10, h => exact tn_10 e h
  | 11, h => exact tn_11 e h
  | 12, h => exact tn_12 e h
  | n + 13, h => exact absurd h List.not_mem_nil
theorem t_N1 : xTN1 := fun own idx ci tags h => tn_all own _ (xfind_mem h)
theorem t_W1 : xTW1 := ⟨(xTs_in (tin_1 _ (List.mem_of_getElem? (i := 100) rfl)) rfl), (xTs_in (tin_4 _ (List.mem_of_getElem? (i := 202) rfl)) rfl), (xTs_in (tin_2 _ (List.mem_of_getElem? (i := 141) rfl)) rfl), (xTs_in (tin_2 _ (List.mem_of_getElem? (i := 140) rfl)) rfl), (xTs_in (tin_1 _ (List.mem_of_getElem? (i := 9) rfl)) rfl), (xTs_in (tin_1 _ (List.mem_of_getElem? (i := 21) rfl)) rfl), (xTs_in (tin_1 _ (List.mem_of_getElem? (i := 22) rfl)) rfl), (xTs_in (tin_1 _ (List.mem_of_getElem? (i := 8) rfl)) rfl), ⟨(xTs_in (tin_2 _ (List.mem_of_getElem? (i := 40) rfl)) rfl), (xTs_in (tin_2 _ (List.mem_of_getElem? (i := 41) rfl)) rfl)⟩, ⟨(xTs_in (tin_3 _ (List.mem_of_getElem? (i := 12) rfl)) rfl), (xTs_in (tin_3 _ (List.mem_of_getElem? (i := 13) rfl)) rfl)⟩, ⟨(xTs_in (tin_3 _ (List.mem_of_getElem? (i := 66) rfl)) rfl), (xTs_in (tin_3 _ (List.mem_of_getElem? (i := 67) rfl)) rfl)⟩⟩

