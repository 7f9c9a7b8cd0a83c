/-! the tables are right, 1 (by gen/tabok.py) -/

def xmokb (cc : ByteArray) (nL : Nat) (M : xT) : Bool := M.2.1.all (fun ch => ch.all (fun r => xenok cc nL r)) && M.2.2.1.all (fun x => Nat.ble x.1 99999)
theorem xmok_of {cc : ByteArray} {nL : Nat} {M : xT} (h : xmokb cc nL M = true) : xmok cc nL M := by
  unfold xmokb at h
  simp only [Bool.and_eq_true, List.all_eq_true] at h
  refine ⟨h.1, fun x hx => ?_⟩
  have := Nat.le_of_ble_eq_true (h.2 x hx)
  omega
abbrev xMe : Type := xT × MethodName × ByteArray × Nat
def Pm (e : xMe) : Prop := e.2.1.cls = xR e.1.1 ∧ (plainName e.2.1.cls = true ∧ Cond.code e.2.1 e.2.2.1 e.2.2.2 e.1.2.2.2.1 ∈ xTs) ∧ e.2.2.2 ≤ 21 ∧ e.2.2.2 = e.1.2.2.2.2.2 ∧ xmok e.2.2.1 e.2.2.2 e.1 ∧ (e.1.2.2.2.2.1 = true → e.2.1.name = "<init>")
set_option maxRecDepth 100000 in
theorem tmo_0 : xmok cX0_noiseOf 3 xm_0 := xmok_of (by decide +kernel)
theorem tm_0 : Pm (xm_0, yX0_noiseOf, cX0_noiseOf, 3) := ⟨rfl, ⟨by decide +kernel, (xTs_in (tin_2 _ (List.mem_of_getElem? (i := 53) rfl)) rfl)⟩, by decide, rfl, tmo_0, fun h => absurd h (by decide)⟩
set_option maxRecDepth 100000 in
theorem tmo_1 : xmok cX0_fallingNoise 2 xm_1 := xmok_of (by decide +kernel)
theorem tm_1 : Pm (xm_1, yX0_fallingNoise, cX0_fallingNoise, 2) := ⟨rfl, ⟨by decide +kernel, (xTs_in (tin_2 _ (List.mem_of_getElem? (i := 56) rfl)) rfl)⟩, by decide, rfl, tmo_1, fun h => absurd h (by decide)⟩
set_option maxRecDepth 100000 in
theorem tmo_2 : xmok cX0_leftBy 2 xm_2 := xmok_of (by decide +kernel)
theorem tm_2 : Pm (xm_2, yX0_leftBy, cX0_leftBy, 2) := ⟨rfl, ⟨by decide +kernel, (xTs_in (tin_2 _ (List.mem_of_getElem? (i := 31) rfl)) rfl)⟩, by decide, rfl, tmo_2, fun h => absurd h (by decide)⟩
set_option maxRecDepth 100000 in
theorem tmo_3 : xmok cX0_lastedBy 2 xm_3 := xmok_of (by decide +kernel)
theorem tm_3 : Pm (xm_3, yX0_lastedBy, cX0_lastedBy, 2) := ⟨rfl, ⟨by decide +kernel, (xTs_in (tin_2 _ (List.mem_of_getElem? (i := 38) rfl)) rfl)⟩, by decide, rfl, tmo_3, fun h => absurd h (by decide)⟩
set_option maxRecDepth 100000 in
theorem tmo_4 : xmok cX0_isUnder 4 xm_4 := xmok_of (by decide +kernel)
theorem tm_4 : Pm (xm_4, yX0_isUnder, cX0_isUnder, 4) := ⟨rfl, ⟨by decide +kernel, (xTs_in (tin_4 _ (List.mem_of_getElem? (i := 25) rfl)) rfl)⟩, by decide, rfl, tmo_4, fun h => absurd h (by decide)⟩
set_option maxRecDepth 100000 in
theorem tmo_5 : xmok cX1_startFrom 2 xm_5 := xmok_of (by decide +kernel)
theorem tm_5 : Pm (xm_5, yX1_startFrom, cX1_startFrom, 2) := ⟨rfl, ⟨by decide +kernel, (xTs_in (tin_2 _ (List.mem_of_getElem? (i := 138) rfl)) rfl)⟩, by decide, rfl, tmo_5, fun h => absurd h (by decide)⟩
set_option maxRecDepth 100000 in
theorem tmo_6 : xmok cX1_rest 1 xm_6 := xmok_of (by decide +kernel)
theorem tm_6 : Pm (xm_6, yX1_rest, cX1_rest, 1) := ⟨rfl, ⟨by decide +kernel, (xTs_in (tin_2 _ (List.mem_of_getElem? (i := 181) rfl)) rfl)⟩, by decide, rfl, tmo_6, fun h => absurd h (by decide)⟩
set_option maxRecDepth 100000 in
theorem tmo_7 : xmok cX1_canFollow 3 xm_7 := xmok_of (by decide +kernel)
theorem tm_7 : Pm (xm_7, yX1_canFollow, cX1_canFollow, 3) := ⟨rfl, ⟨by decide +kernel, (xTs_in (tin_2 _ (List.mem_of_getElem? (i := 149) rfl)) rfl)⟩, by decide, rfl, tmo_7, fun h => absurd h (by decide)⟩
set_option maxRecDepth 100000 in
theorem tmo_8 : xmok cX1_haveWay 4 xm_8 := xmok_of (by decide +kernel)
theorem tm_8 : Pm (xm_8, yX1_haveWay, cX1_haveWay, 4) := ⟨rfl, ⟨by decide +kernel, (xTs_in (tin_2 _ (List.mem_of_getElem? (i := 145) rfl)) rfl)⟩, by decide, rfl, tmo_8, fun h => absurd h (by decide)⟩
set_option maxRecDepth 100000 in
theorem tmo_9 : xmok cX1_canStand 4 xm_9 := xmok_of (by decide +kernel)
theorem tm_9 : Pm (xm_9, yX1_canStand, cX1_canStand, 4) := ⟨rfl, ⟨by decide +kernel, (xTs_in (tin_2 _ (List.mem_of_getElem? (i := 163) rfl)) rfl)⟩, by decide, rfl, tmo_9, fun h => absurd h (by decide)⟩
set_option maxRecDepth 100000 in
theorem tmo_10 : xmok cX1_score 6 xm_10 := xmok_of (by decide +kernel)
theorem tm_10 : Pm (xm_10, yX1_score, cX1_score, 6) := ⟨rfl, ⟨by decide +kernel, (xTs_in (tin_2 _ (List.mem_of_getElem? (i := 157) rfl)) rfl)⟩, by decide, rfl, tmo_10, fun h => absurd h (by decide)⟩
set_option maxRecDepth 100000 in
theorem tmo_11 : xmok cX1_weigh 4 xm_11 := xmok_of (by decide +kernel)
theorem tm_11 : Pm (xm_11, yX1_weigh, cX1_weigh, 4) := ⟨rfl, ⟨by decide +kernel, (xTs_in (tin_2 _ (List.mem_of_getElem? (i := 153) rfl)) rfl)⟩, by decide, rfl, tmo_11, fun h => absurd h (by decide)⟩
set_option maxRecDepth 100000 in
theorem tmo_12 : xmok cX1_findFollowers 3 xm_12 := xmok_of (by decide +kernel)
theorem tm_12 : Pm (xm_12, yX1_findFollowers, cX1_findFollowers, 3) := ⟨rfl, ⟨by decide +kernel, (xTs_in (tin_2 _ (List.mem_of_getElem? (i := 167) rfl)) rfl)⟩, by decide, rfl, tmo_12, fun h => absurd h (by decide)⟩
set_option maxRecDepth 100000 in
theorem tmo_13 : xmok cX1_mostBehind 4 xm_13 := xmok_of (by decide +kernel)
theorem tm_13 : Pm (xm_13, yX1_mostBehind, cX1_mostBehind, 4) := ⟨rfl, ⟨by decide +kernel, (xTs_in (tin_2 _ (List.mem_of_getElem? (i := 171) rfl)) rfl)⟩, by decide, rfl, tmo_13, fun h => absurd h (by decide)⟩
set_option maxRecDepth 100000 in
theorem tmo_14 : xmok cX1_findFirst 6 xm_14 := xmok_of (by decide +kernel)
theorem tm_14 : Pm (xm_14, yX1_findFirst, cX1_findFirst, 6) := ⟨rfl, ⟨by decide +kernel, (xTs_in (tin_2 _ (List.mem_of_getElem? (i := 191) rfl)) rfl)⟩, by decide, rfl, tmo_14, fun h => absurd h (by decide)⟩
set_option maxRecDepth 100000 in
theorem tmo_15 : xmok cX1_firstBehind 4 xm_15 := xmok_of (by decide +kernel)
theorem tm_15 : Pm (xm_15, yX1_firstBehind, cX1_firstBehind, 4) := ⟨rfl, ⟨by decide +kernel, (xTs_in (tin_2 _ (List.mem_of_getElem? (i := 197) rfl)) rfl)⟩, by decide, rfl, tmo_15, fun h => absurd h (by decide)⟩
set_option maxRecDepth 100000 in
theorem tmo_16 : xmok cX1_countWays 4 xm_16 := xmok_of (by decide +kernel)
theorem tm_16 : Pm (xm_16, yX1_countWays, cX1_countWays, 4) := ⟨rfl, ⟨by decide +kernel, (xTs_in (tin_2 _ (List.mem_of_getElem? (i := 205) rfl)) rfl)⟩, by decide, rfl, tmo_16, fun h => absurd h (by decide)⟩
set_option maxRecDepth 100000 in
theorem tmo_17 : xmok cX1_lastOnes 3 xm_17 := xmok_of (by decide +kernel)
theorem tm_17 : Pm (xm_17, yX1_lastOnes, cX1_lastOnes, 3) := ⟨rfl, ⟨by decide +kernel, (xTs_in (tin_2 _ (List.mem_of_getElem? (i := 213) rfl)) rfl)⟩, by decide, rfl, tmo_17, fun h => absurd h (by decide)⟩
set_option maxRecDepth 100000 in
theorem tmo_18 : xmok cX1_allAhead 6 xm_18 := xmok_of (by decide +kernel)
theorem tm_18 : Pm (xm_18, yX1_allAhead, cX1_allAhead, 6) := ⟨rfl, ⟨by decide +kernel, (xTs_in (tin_2 _ (List.mem_of_getElem? (i := 229) rfl)) rfl)⟩, by decide, rfl, tmo_18, fun h => absurd h (by decide)⟩
set_option maxRecDepth 100000 in
theorem tmo_19 : xmok cX1_earliest 2 xm_19 := xmok_of (by decide +kernel)
theorem tm_19 : Pm (xm_19, yX1_earliest, cX1_earliest, 2) := ⟨rfl, ⟨by decide +kernel, (xTs_in (tin_2 _ (List.mem_of_getElem? (i := 225) rfl)) rfl)⟩, by decide, rfl, tmo_19, fun h => absurd h (by decide)⟩
set_option maxRecDepth 100000 in
theorem tmo_20 : xmok cX1_latest 5 xm_20 := xmok_of (by decide +kernel)
theorem tm_20 : Pm (xm_20, yX1_latest, cX1_latest, 5) := ⟨rfl, ⟨by decide +kernel, (xTs_in (tin_2 _ (List.mem_of_getElem? (i := 233) rfl)) rfl)⟩, by decide, rfl, tmo_20, fun h => absurd h (by decide)⟩
set_option maxRecDepth 100000 in
theorem tmo_21 : xmok cX1_fewestBroken 5 xm_21 := xmok_of (by decide +kernel)
theorem tm_21 : Pm (xm_21, yX1_fewestBroken, cX1_fewestBroken, 5) := ⟨rfl, ⟨by decide +kernel, (xTs_in (tin_3 _ (List.mem_of_getElem? (i := 10) rfl)) rfl)⟩, by decide, rfl, tmo_21, fun h => absurd h (by decide)⟩
set_option maxRecDepth 100000 in
theorem tmo_22 : xmok cX1_bestKind 6 xm_22 := xmok_of (by decide +kernel)
theorem tm_22 : Pm (xm_22, yX1_bestKind, cX1_bestKind, 6) := ⟨rfl, ⟨by decide +kernel, (xTs_in (tin_3 _ (List.mem_of_getElem? (i := 25) rfl)) rfl)⟩, by decide, rfl, tmo_22, fun h => absurd h (by decide)⟩
set_option maxRecDepth 100000 in
theorem tmo_23 : xmok cX1_freeOne 6 xm_23 := xmok_of (by decide +kernel)
theorem tm_23 : Pm (xm_23, yX1_freeOne, cX1_freeOne, 6) := ⟨rfl, ⟨by decide +kernel, (xTs_in (tin_3 _ (List.mem_of_getElem? (i := 33) rfl)) rfl)⟩, by decide, rfl, tmo_23, fun h => absurd h (by decide)⟩
set_option maxRecDepth 100000 in
theorem tmo_24 : xmok cX2_become 2 xm_24 := xmok_of (by decide +kernel)
theorem tm_24 : Pm (xm_24, yX2_become, cX2_become, 2) := ⟨rfl, ⟨by decide +kernel, (xTs_in (tin_3 _ (List.mem_of_getElem? (i := 126) rfl)) rfl)⟩, by decide, rfl, tmo_24, fun h => absurd h (by decide)⟩
set_option maxRecDepth 100000 in
theorem tmo_25 : xmok cX2_isBow 2 xm_25 := xmok_of (by decide +kernel)
theorem tm_25 : Pm (xm_25, yX2_isBow, cX2_isBow, 2) := ⟨rfl, ⟨by decide +kernel, (xTs_in (tin_2 _ (List.mem_of_getElem? (i := 24) rfl)) rfl)⟩, by decide, rfl, tmo_25, fun h => absurd h (by decide)⟩
set_option maxRecDepth 100000 in
theorem tmo_26 : xmok cX2_isSetWithout 3 xm_26 := xmok_of (by decide +kernel)
theorem tm_26 : Pm (xm_26, yX2_isSetWithout, cX2_isSetWithout, 3) := ⟨rfl, ⟨by decide +kernel, (xTs_in (tin_2 _ (List.mem_of_getElem? (i := 67) rfl)) rfl)⟩, by decide, rfl, tmo_26, fun h => absurd h (by decide)⟩
set_option maxRecDepth 100000 in
theorem tmo_27 : xmok cX2_addBow 3 xm_27 := xmok_of (by decide +kernel)
theorem tm_27 : Pm (xm_27, yX2_addBow, cX2_addBow, 3) := ⟨rfl, ⟨by decide +kernel, (xTs_in (tin_2 _ (List.mem_of_getElem? (i := 16) rfl)) rfl)⟩, by decide, rfl, tmo_27, fun h => absurd h (by decide)⟩
set_option maxRecDepth 100000 in
theorem tmo_28 : xmok cX2_noiseBy 3 xm_28 := xmok_of (by decide +kernel)
theorem tm_28 : Pm (xm_28, yX2_noiseBy, cX2_noiseBy, 3) := ⟨rfl, ⟨by decide +kernel, (xTs_in (tin_2 _ (List.mem_of_getElem? (i := 50) rfl)) rfl)⟩, by decide, rfl, tmo_28, fun h => absurd h (by decide)⟩
set_option maxRecDepth 100000 in
theorem tmo_29 : xmok cX2_leftBy 2 xm_29 := xmok_of (by decide +kernel)
theorem tm_29 : Pm (xm_29, yX2_leftBy, cX2_leftBy, 2) := ⟨rfl, ⟨by decide +kernel, (xTs_in (tin_2 _ (List.mem_of_getElem? (i := 28) rfl)) rfl)⟩, by decide, rfl, tmo_29, fun h => absurd h (by decide)⟩
set_option maxRecDepth 100000 in
theorem tmo_30 : xmok cX2_leftByLatest 1 xm_30 := xmok_of (by decide +kernel)
theorem tm_30 : Pm (xm_30, yX2_leftByLatest, cX2_leftByLatest, 1) := ⟨rfl, ⟨by decide +kernel, (xTs_in (tin_2 _ (List.mem_of_getElem? (i := 45) rfl)) rfl)⟩, by decide, rfl, tmo_30, fun h => absurd h (by decide)⟩
set_option maxRecDepth 100000 in
theorem tmo_31 : xmok cX2_lastedBy 2 xm_31 := xmok_of (by decide +kernel)
theorem tm_31 : Pm (xm_31, yX2_lastedBy, cX2_lastedBy, 2) := ⟨rfl, ⟨by decide +kernel, (xTs_in (tin_2 _ (List.mem_of_getElem? (i := 35) rfl)) rfl)⟩, by decide, rfl, tmo_31, fun h => absurd h (by decide)⟩
set_option maxRecDepth 100000 in
theorem tmo_32 : xmok cX2_hasCome 2 xm_32 := xmok_of (by decide +kernel)
theorem tm_32 : Pm (xm_32, yX2_hasCome, cX2_hasCome, 2) := ⟨rfl, ⟨by decide +kernel, (xTs_in (tin_2 _ (List.mem_of_getElem? (i := 221) rfl)) rfl)⟩, by decide, rfl, tmo_32, fun h => absurd h (by decide)⟩
set_option maxRecDepth 100000 in
theorem tmo_33 : xmok cX2_couldCome 3 xm_33 := xmok_of (by decide +kernel)
theorem tm_33 : Pm (xm_33, yX2_couldCome, cX2_couldCome, 3) := ⟨rfl, ⟨by decide +kernel, (xTs_in (tin_2 _ (List.mem_of_getElem? (i := 90) rfl)) rfl)⟩, by decide, rfl, tmo_33, fun h => absurd h (by decide)⟩
set_option maxRecDepth 100000 in
theorem tmo_34 : xmok cX2_comers 3 xm_34 := xmok_of (by decide +kernel)
theorem tm_34 : Pm (xm_34, yX2_comers, cX2_comers, 3) := ⟨rfl, ⟨by decide +kernel, (xTs_in (tin_2 _ (List.mem_of_getElem? (i := 125) rfl)) rfl)⟩, by decide, rfl, tmo_34, fun h => absurd h (by decide)⟩
set_option maxRecDepth 100000 in
theorem tmo_35 : xmok cX2_enter 4 xm_35 := xmok_of (by decide +kernel)
theorem tm_35 : Pm (xm_35, yX2_enter, cX2_enter, 4) := ⟨rfl, ⟨by decide +kernel, (xTs_in (tin_2 _ (List.mem_of_getElem? (i := 94) rfl)) rfl)⟩, by decide, rfl, tmo_35, fun h => absurd h (by decide)⟩
set_option maxRecDepth 100000 in
theorem tmo_36 : xmok cX2_leave 2 xm_36 := xmok_of (by decide +kernel)
theorem tm_36 : Pm (xm_36, yX2_leave, cX2_leave, 2) := ⟨rfl, ⟨by decide +kernel, (xTs_in (tin_2 _ (List.mem_of_getElem? (i := 105) rfl)) rfl)⟩, by decide, rfl, tmo_36, fun h => absurd h (by decide)⟩
set_option maxRecDepth 100000 in
theorem tmo_37 : xmok cX2_empty 1 xm_37 := xmok_of (by decide +kernel)
theorem tm_37 : Pm (xm_37, yX2_empty, cX2_empty, 1) := ⟨rfl, ⟨by decide +kernel, (xTs_in (tin_2 _ (List.mem_of_getElem? (i := 113) rfl)) rfl)⟩, by decide, rfl, tmo_37, fun h => absurd h (by decide)⟩
set_option maxRecDepth 100000 in
theorem tmo_38 : xmok cX2_falls 4 xm_38 := xmok_of (by decide +kernel)
theorem tm_38 : Pm (xm_38, yX2_falls, cX2_falls, 4) := ⟨rfl, ⟨by decide +kernel, (xTs_in (tin_2 _ (List.mem_of_getElem? (i := 130) rfl)) rfl)⟩, by decide, rfl, tmo_38, fun h => absurd h (by decide)⟩
set_option maxRecDepth 100000 in
theorem tmo_39 : xmok cX2_draw 1 xm_39 := xmok_of (by decide +kernel)
theorem tm_39 : Pm (xm_39, yX2_draw, cX2_draw, 1) := ⟨rfl, ⟨by decide +kernel, (xTs_in (tin_3 _ (List.mem_of_getElem? (i := 85) rfl)) rfl)⟩, by decide, rfl, tmo_39, fun h => absurd h (by decide)⟩
set_option maxRecDepth 100000 in
theorem tmo_40 : xmok cX2_contracts 3 xm_40 := xmok_of (by decide +kernel)
theorem tm_40 : Pm (xm_40, yX2_contracts, cX2_contracts, 3) := ⟨rfl, ⟨by decide +kernel, (xTs_in (tin_4 _ (List.mem_of_getElem? (i := 106) rfl)) rfl)⟩, by decide, rfl, tmo_40, fun h => absurd h (by decide)⟩
set_option maxRecDepth 100000 in
theorem tmo_41 : xmok cX2_lovesTogether 3 xm_41 := xmok_of (by decide +kernel)
theorem tm_41 : Pm (xm_41, yX2_lovesTogether, cX2_lovesTogether, 3) := ⟨rfl, ⟨by decide +kernel, (xTs_in (tin_4 _ (List.mem_of_getElem? (i := 111) rfl)) rfl)⟩, by decide, rfl, tmo_41, fun h => absurd h (by decide)⟩
set_option maxRecDepth 100000 in
theorem tmo_42 : xmok cX2_heldSpots 3 xm_42 := xmok_of (by decide +kernel)
theorem tm_42 : Pm (xm_42, yX2_heldSpots, cX2_heldSpots, 3) := ⟨rfl, ⟨by decide +kernel, (xTs_in (tin_4 _ (List.mem_of_getElem? (i := 115) rfl)) rfl)⟩, by decide, rfl, tmo_42, fun h => absurd h (by decide)⟩
set_option maxRecDepth 100000 in
theorem tmo_43 : xmok cX3_isSheet 2 xm_43 := xmok_of (by decide +kernel)
theorem tm_43 : Pm (xm_43, yX3_isSheet, cX3_isSheet, 2) := ⟨rfl, ⟨by decide +kernel, (xTs_in (tin_4 _ (List.mem_of_getElem? (i := 35) rfl)) rfl)⟩, by decide, rfl, tmo_43, fun h => absurd h (by decide)⟩
set_option maxRecDepth 100000 in
theorem tmo_44 : xmok cX3_wrongWith 2 xm_44 := xmok_of (by decide +kernel)
theorem tm_44 : Pm (xm_44, yX3_wrongWith, cX3_wrongWith, 2) := ⟨rfl, ⟨by decide +kernel, (xTs_in (tin_4 _ (List.mem_of_getElem? (i := 48) rfl)) rfl)⟩, by decide, rfl, tmo_44, fun h => absurd h (by decide)⟩
set_option maxRecDepth 100000 in
theorem tmo_45 : xmok cX3_lay 5 xm_45 := xmok_of (by decide +kernel)
theorem tm_45 : Pm (xm_45, yX3_lay, cX3_lay, 5) := ⟨rfl, ⟨by decide +kernel, (xTs_in (tin_4 _ (List.mem_of_getElem? (i := 40) rfl)) rfl)⟩, by decide, rfl, tmo_45, fun h => absurd h (by decide)⟩
set_option maxRecDepth 100000 in
theorem tmo_46 : xmok cX3_numberAt 3 xm_46 := xmok_of (by decide +kernel)
theorem tm_46 : Pm (xm_46, yX3_numberAt, cX3_numberAt, 3) := ⟨rfl, ⟨by decide +kernel, (xTs_in (tin_4 _ (List.mem_of_getElem? (i := 74) rfl)) rfl)⟩, by decide, rfl, tmo_46, fun h => absurd h (by decide)⟩
set_option maxRecDepth 100000 in
theorem tmo_47 : xmok cX3_set 5 xm_47 := xmok_of (by decide +kernel)
theorem tm_47 : Pm (xm_47, yX3_set, cX3_set, 5) := ⟨rfl, ⟨by decide +kernel, (xTs_in (tin_4 _ (List.mem_of_getElem? (i := 53) rfl)) rfl)⟩, by decide, rfl, tmo_47, fun h => absurd h (by decide)⟩
set_option maxRecDepth 100000 in
theorem tmo_48 : xmok cX3_hasPart 4 xm_48 := xmok_of (by decide +kernel)
theorem tm_48 : Pm (xm_48, yX3_hasPart, cX3_hasPart, 4) := ⟨rfl, ⟨by decide +kernel, (xTs_in (tin_4 _ (List.mem_of_getElem? (i := 61) rfl)) rfl)⟩, by decide, rfl, tmo_48, fun h => absurd h (by decide)⟩
set_option maxRecDepth 100000 in
theorem tmo_49 : xmok cX3_move 6 xm_49 := xmok_of (by decide +kernel)
theorem tm_49 : Pm (xm_49, yX3_move, cX3_move, 6) := ⟨rfl, ⟨by decide +kernel, (xTs_in (tin_4 _ (List.mem_of_getElem? (i := 65) rfl)) rfl)⟩, by decide, rfl, tmo_49, fun h => absurd h (by decide)⟩
set_option maxRecDepth 100000 in
theorem tmo_50 : xmok cX4_hasRoom 2 xm_50 := xmok_of (by decide +kernel)
theorem tm_50 : Pm (xm_50, yX4_hasRoom, cX4_hasRoom, 2) := ⟨rfl, ⟨by decide +kernel, (xTs_in (tin_3 _ (List.mem_of_getElem? (i := 106) rfl)) rfl)⟩, by decide, rfl, tmo_50, fun h => absurd h (by decide)⟩
set_option maxRecDepth 100000 in
theorem tmo_51 : xmok cX4_append 4 xm_51 := xmok_of (by decide +kernel)
theorem tm_51 : Pm (xm_51, yX4_append, cX4_append, 4) := ⟨rfl, ⟨by decide +kernel, (xTs_in (tin_3 _ (List.mem_of_getElem? (i := 110) rfl)) rfl)⟩, by decide, rfl, tmo_51, fun h => absurd h (by decide)⟩
set_option maxRecDepth 100000 in
theorem tmo_52 : xmok cX4_empty 2 xm_52 := xmok_of (by decide +kernel)
theorem tm_52 : Pm (xm_52, yX4_empty, cX4_empty, 2) := ⟨rfl, ⟨by decide +kernel, (xTs_in (tin_3 _ (List.mem_of_getElem? (i := 118) rfl)) rfl)⟩, by decide, rfl, tmo_52, fun h => absurd h (by decide)⟩
set_option maxRecDepth 100000 in
theorem tmo_53 : xmok cX4_readOnto 3 xm_53 := xmok_of (by decide +kernel)
theorem tm_53 : Pm (xm_53, yX4_readOnto, cX4_readOnto, 3) := ⟨rfl, ⟨by decide +kernel, (xTs_in (tin_3 _ (List.mem_of_getElem? (i := 131) rfl)) rfl)⟩, by decide, rfl, tmo_53, fun h => absurd h (by decide)⟩
set_option maxRecDepth 100000 in
theorem tmo_54 : xmok cX4_readItem 2 xm_54 := xmok_of (by decide +kernel)
theorem tm_54 : Pm (xm_54, yX4_readItem, cX4_readItem, 2) := ⟨rfl, ⟨by decide +kernel, (xTs_in (tin_3 _ (List.mem_of_getElem? (i := 230) rfl)) rfl)⟩, by decide, rfl, tmo_54, fun h => absurd h (by decide)⟩
set_option maxRecDepth 100000 in
theorem tmo_55 : xmok cX4_readBow 3 xm_55 := xmok_of (by decide +kernel)
theorem tm_55 : Pm (xm_55, yX4_readBow, cX4_readBow, 3) := ⟨rfl, ⟨by decide +kernel, (xTs_in (tin_3 _ (List.mem_of_getElem? (i := 235) rfl)) rfl)⟩, by decide, rfl, tmo_55, fun h => absurd h (by decide)⟩
set_option maxRecDepth 100000 in
theorem tmo_56 : xmok cX4_readPart 6 xm_56 := xmok_of (by decide +kernel)
theorem tm_56 : Pm (xm_56, yX4_readPart, cX4_readPart, 6) := ⟨rfl, ⟨by decide +kernel, (xTs_in (tin_4 _ (List.mem_of_getElem? (i := 0) rfl)) rfl)⟩, by decide, rfl, tmo_56, fun h => absurd h (by decide)⟩
set_option maxRecDepth 100000 in
theorem tmo_57 : xmok cX4_readRule 3 xm_57 := xmok_of (by decide +kernel)
theorem tm_57 : Pm (xm_57, yX4_readRule, cX4_readRule, 3) := ⟨rfl, ⟨by decide +kernel, (xTs_in (tin_4 _ (List.mem_of_getElem? (i := 8) rfl)) rfl)⟩, by decide, rfl, tmo_57, fun h => absurd h (by decide)⟩
set_option maxRecDepth 100000 in
theorem tmo_58 : xmok cX4_readContract 3 xm_58 := xmok_of (by decide +kernel)
theorem tm_58 : Pm (xm_58, yX4_readContract, cX4_readContract, 3) := ⟨rfl, ⟨by decide +kernel, (xTs_in (tin_4 _ (List.mem_of_getElem? (i := 13) rfl)) rfl)⟩, by decide, rfl, tmo_58, fun h => absurd h (by decide)⟩
set_option maxRecDepth 100000 in
theorem tmo_59 : xmok cX4_isNumber 3 xm_59 := xmok_of (by decide +kernel)
theorem tm_59 : Pm (xm_59, yX4_isNumber, cX4_isNumber, 3) := ⟨rfl, ⟨by decide +kernel, (xTs_in (tin_4 _ (List.mem_of_getElem? (i := 4) rfl)) rfl)⟩, by decide, rfl, tmo_59, fun h => absurd h (by decide)⟩
set_option maxRecDepth 100000 in
theorem tmo_60 : xmok cX4_cut 5 xm_60 := xmok_of (by decide +kernel)
theorem tm_60 : Pm (xm_60, yX4_cut, cX4_cut, 5) := ⟨rfl, ⟨by decide +kernel, (xTs_in (tin_3 _ (List.mem_of_getElem? (i := 135) rfl)) rfl)⟩, by decide, rfl, tmo_60, fun h => absurd h (by decide)⟩
set_option maxRecDepth 100000 in
theorem tmo_61 : xmok cX4_valueOf 2 xm_61 := xmok_of (by decide +kernel)
theorem tm_61 : Pm (xm_61, yX4_valueOf, cX4_valueOf, 2) := ⟨rfl, ⟨by decide +kernel, (xTs_in (tin_3 _ (List.mem_of_getElem? (i := 142) rfl)) rfl)⟩, by decide, rfl, tmo_61, fun h => absurd h (by decide)⟩
set_option maxRecDepth 100000 in
theorem tmo_62 : xmok cX4_sortOf 1 xm_62 := xmok_of (by decide +kernel)
theorem tm_62 : Pm (xm_62, yX4_sortOf, cX4_sortOf, 1) := ⟨rfl, ⟨by decide +kernel, (xTs_in (tin_3 _ (List.mem_of_getElem? (i := 138) rfl)) rfl)⟩, by decide, rfl, tmo_62, fun h => absurd h (by decide)⟩
set_option maxRecDepth 100000 in
theorem tmo_63 : xmok cX4_take 2 xm_63 := xmok_of (by decide +kernel)
theorem tm_63 : Pm (xm_63, yX4_take, cX4_take, 2) := ⟨rfl, ⟨by decide +kernel, (xTs_in (tin_3 _ (List.mem_of_getElem? (i := 226) rfl)) rfl)⟩, by decide, rfl, tmo_63, fun h => absurd h (by decide)⟩
set_option maxRecDepth 100000 in
theorem tmo_64 : xmok cX4_wordAt 4 xm_64 := xmok_of (by decide +kernel)
theorem tm_64 : Pm (xm_64, yX4_wordAt, cX4_wordAt, 4) := ⟨rfl, ⟨by decide +kernel, (xTs_in (tin_3 _ (List.mem_of_getElem? (i := 146) rfl)) rfl)⟩, by decide, rfl, tmo_64, fun h => absurd h (by decide)⟩
set_option maxRecDepth 100000 in
theorem tmo_65 : xmok cX4_isWord 5 xm_65 := xmok_of (by decide +kernel)
theorem tm_65 : Pm (xm_65, yX4_isWord, cX4_isWord, 5) := ⟨rfl, ⟨by decide +kernel, (xTs_in (tin_3 _ (List.mem_of_getElem? (i := 169) rfl)) rfl)⟩, by decide, rfl, tmo_65, fun h => absurd h (by decide)⟩
set_option maxRecDepth 100000 in
theorem tmo_66 : xmok cX4_numberAt 5 xm_66 := xmok_of (by decide +kernel)
theorem tm_66 : Pm (xm_66, yX4_numberAt, cX4_numberAt, 5) := ⟨rfl, ⟨by decide +kernel, (xTs_in (tin_3 _ (List.mem_of_getElem? (i := 221) rfl)) rfl)⟩, by decide, rfl, tmo_66, fun h => absurd h (by decide)⟩
set_option maxRecDepth 100000 in
theorem tmo_67 : xmok cX4_spelled 1 xm_67 := xmok_of (by decide +kernel)
theorem tm_67 : Pm (xm_67, yX4_spelled, cX4_spelled, 1) := ⟨rfl, ⟨by decide +kernel, (xTs_in (tin_3 _ (List.mem_of_getElem? (i := 149) rfl)) rfl)⟩, by decide, rfl, tmo_67, fun h => absurd h (by decide)⟩
set_option maxRecDepth 100000 in
theorem tmo_68 : xmok cX5_bow 2 xm_68 := xmok_of (by decide +kernel)
theorem tm_68 : Pm (xm_68, yX5_bow, cX5_bow, 2) := ⟨rfl, ⟨by decide +kernel, (xTs_in (tin_2 _ (List.mem_of_getElem? (i := 4) rfl)) rfl)⟩, by decide, rfl, tmo_68, fun h => absurd h (by decide)⟩
set_option maxRecDepth 100000 in
theorem tmo_69 : xmok cX5_of 3 xm_69 := xmok_of (by decide +kernel)
theorem tm_69 : Pm (xm_69, yX5_of, cX5_of, 3) := ⟨rfl, ⟨by decide +kernel, (xTs_in (tin_2 _ (List.mem_of_getElem? (i := 20) rfl)) rfl)⟩, by decide, rfl, tmo_69, fun h => absurd h (by decide)⟩
set_option maxRecDepth 100000 in
theorem tmo_70 : xmok cX5_change 4 xm_70 := xmok_of (by decide +kernel)
theorem tm_70 : Pm (xm_70, yX5_change, cX5_change, 4) := ⟨rfl, ⟨by decide +kernel, (xTs_in (tin_2 _ (List.mem_of_getElem? (i := 60) rfl)) rfl)⟩, by decide, rfl, tmo_70, fun h => absurd h (by decide)⟩
set_option maxRecDepth 100000 in
theorem tmo_71 : xmok cX5_contract 6 xm_71 := xmok_of (by decide +kernel)
theorem tm_71 : Pm (xm_71, yX5_contract, cX5_contract, 6) := ⟨rfl, ⟨by decide +kernel, (xTs_in (tin_2 _ (List.mem_of_getElem? (i := 72) rfl)) rfl)⟩, by decide, rfl, tmo_71, fun h => absurd h (by decide)⟩
set_option maxRecDepth 100000 in
theorem tmo_72 : xmok cX5_rule 3 xm_72 := xmok_of (by decide +kernel)
theorem tm_72 : Pm (xm_72, yX5_rule, cX5_rule, 3) := ⟨rfl, ⟨by decide +kernel, (xTs_in (tin_2 _ (List.mem_of_getElem? (i := 76) rfl)) rfl)⟩, by decide, rfl, tmo_72, fun h => absurd h (by decide)⟩
set_option maxRecDepth 100000 in
theorem tmo_73 : xmok cX5_noise 3 xm_73 := xmok_of (by decide +kernel)
theorem tm_73 : Pm (xm_73, yX5_noise, cX5_noise, 3) := ⟨rfl, ⟨by decide +kernel, (xTs_in (tin_2 _ (List.mem_of_getElem? (i := 82) rfl)) rfl)⟩, by decide, rfl, tmo_73, fun h => absurd h (by decide)⟩
set_option maxRecDepth 100000 in
theorem tmo_74 : xmok cX5_come 2 xm_74 := xmok_of (by decide +kernel)
theorem tm_74 : Pm (xm_74, yX5_come, cX5_come, 2) := ⟨rfl, ⟨by decide +kernel, (xTs_in (tin_2 _ (List.mem_of_getElem? (i := 86) rfl)) rfl)⟩, by decide, rfl, tmo_74, fun h => absurd h (by decide)⟩
set_option maxRecDepth 100000 in
theorem tmo_75 : xmok cX5_back 1 xm_75 := xmok_of (by decide +kernel)
theorem tm_75 : Pm (xm_75, yX5_back, cX5_back, 1) := ⟨rfl, ⟨by decide +kernel, (xTs_in (tin_2 _ (List.mem_of_getElem? (i := 101) rfl)) rfl)⟩, by decide, rfl, tmo_75, fun h => absurd h (by decide)⟩
set_option maxRecDepth 100000 in
theorem tmo_76 : xmok cX5_clear 2 xm_76 := xmok_of (by decide +kernel)
theorem tm_76 : Pm (xm_76, yX5_clear, cX5_clear, 2) := ⟨rfl, ⟨by decide +kernel, (xTs_in (tin_2 _ (List.mem_of_getElem? (i := 109) rfl)) rfl)⟩, by decide, rfl, tmo_76, fun h => absurd h (by decide)⟩
set_option maxRecDepth 100000 in
theorem tmo_77 : xmok cX5_stood 2 xm_77 := xmok_of (by decide +kernel)
theorem tm_77 : Pm (xm_77, yX5_stood, cX5_stood, 2) := ⟨rfl, ⟨by decide +kernel, (xTs_in (tin_2 _ (List.mem_of_getElem? (i := 117) rfl)) rfl)⟩, by decide, rfl, tmo_77, fun h => absurd h (by decide)⟩
set_option maxRecDepth 100000 in
theorem tmo_78 : xmok cX5_now 2 xm_78 := xmok_of (by decide +kernel)
theorem tm_78 : Pm (xm_78, yX5_now, cX5_now, 2) := ⟨rfl, ⟨by decide +kernel, (xTs_in (tin_2 _ (List.mem_of_getElem? (i := 121) rfl)) rfl)⟩, by decide, rfl, tmo_78, fun h => absurd h (by decide)⟩
set_option maxRecDepth 100000 in
theorem tmo_79 : xmok cX5_best 3 xm_79 := xmok_of (by decide +kernel)
theorem tm_79 : Pm (xm_79, yX5_best, cX5_best, 3) := ⟨rfl, ⟨by decide +kernel, (xTs_in (tin_2 _ (List.mem_of_getElem? (i := 134) rfl)) rfl)⟩, by decide, rfl, tmo_79, fun h => absurd h (by decide)⟩
set_option maxRecDepth 100000 in
theorem tmo_80 : xmok cX5_ith 3 xm_80 := xmok_of (by decide +kernel)
theorem tm_80 : Pm (xm_80, yX5_ith, cX5_ith, 3) := ⟨rfl, ⟨by decide +kernel, (xTs_in (tin_2 _ (List.mem_of_getElem? (i := 177) rfl)) rfl)⟩, by decide, rfl, tmo_80, fun h => absurd h (by decide)⟩
set_option maxRecDepth 100000 in
theorem tmo_81 : xmok cX5_ways 1 xm_81 := xmok_of (by decide +kernel)
theorem tm_81 : Pm (xm_81, yX5_ways, cX5_ways, 1) := ⟨rfl, ⟨by decide +kernel, (xTs_in (tin_2 _ (List.mem_of_getElem? (i := 201) rfl)) rfl)⟩, by decide, rfl, tmo_81, fun h => absurd h (by decide)⟩
set_option maxRecDepth 100000 in
theorem tmo_82 : xmok cX5_lasts 1 xm_82 := xmok_of (by decide +kernel)
theorem tm_82 : Pm (xm_82, yX5_lasts, cX5_lasts, 1) := ⟨rfl, ⟨by decide +kernel, (xTs_in (tin_2 _ (List.mem_of_getElem? (i := 209) rfl)) rfl)⟩, by decide, rfl, tmo_82, fun h => absurd h (by decide)⟩
set_option maxRecDepth 100000 in
theorem tmo_83 : xmok cX5_place 3 xm_83 := xmok_of (by decide +kernel)
theorem tm_83 : Pm (xm_83, yX5_place, cX5_place, 3) := ⟨rfl, ⟨by decide +kernel, (xTs_in (tin_2 _ (List.mem_of_getElem? (i := 217) rfl)) rfl)⟩, by decide, rfl, tmo_83, fun h => absurd h (by decide)⟩
set_option maxRecDepth 100000 in
theorem tmo_84 : xmok cX5_all 2 xm_84 := xmok_of (by decide +kernel)
theorem tm_84 : Pm (xm_84, yX5_all, cX5_all, 2) := ⟨rfl, ⟨by decide +kernel, (xTs_in (tin_2 _ (List.mem_of_getElem? (i := 237) rfl)) rfl)⟩, by decide, rfl, tmo_84, fun h => absurd h (by decide)⟩
set_option maxRecDepth 100000 in
theorem tmo_85 : xmok cX5_clash 3 xm_85 := xmok_of (by decide +kernel)
theorem tm_85 : Pm (xm_85, yX5_clash, cX5_clash, 3) := ⟨rfl, ⟨by decide +kernel, (xTs_in (tin_3 _ (List.mem_of_getElem? (i := 2) rfl)) rfl)⟩, by decide, rfl, tmo_85, fun h => absurd h (by decide)⟩
set_option maxRecDepth 100000 in
theorem tmo_86 : xmok cX5_broken 1 xm_86 := xmok_of (by decide +kernel)
theorem tm_86 : Pm (xm_86, yX5_broken, cX5_broken, 1) := ⟨rfl, ⟨by decide +kernel, (xTs_in (tin_3 _ (List.mem_of_getElem? (i := 6) rfl)) rfl)⟩, by decide, rfl, tmo_86, fun h => absurd h (by decide)⟩
set_option maxRecDepth 100000 in
theorem tmo_87 : xmok cX5_between 7 xm_87 := xmok_of (by decide +kernel)
theorem tm_87 : Pm (xm_87, yX5_between, cX5_between, 7) := ⟨rfl, ⟨by decide +kernel, (xTs_in (tin_3 _ (List.mem_of_getElem? (i := 17) rfl)) rfl)⟩, by decide, rfl, tmo_87, fun h => absurd h (by decide)⟩
set_option maxRecDepth 100000 in
theorem tmo_88 : xmok cX5_kindFor 2 xm_88 := xmok_of (by decide +kernel)
theorem tm_88 : Pm (xm_88, yX5_kindFor, cX5_kindFor, 2) := ⟨rfl, ⟨by decide +kernel, (xTs_in (tin_3 _ (List.mem_of_getElem? (i := 21) rfl)) rfl)⟩, by decide, rfl, tmo_88, fun h => absurd h (by decide)⟩
set_option maxRecDepth 100000 in
theorem tmo_89 : xmok cX5_freed 1 xm_89 := xmok_of (by decide +kernel)
theorem tm_89 : Pm (xm_89, yX5_freed, cX5_freed, 1) := ⟨rfl, ⟨by decide +kernel, (xTs_in (tin_3 _ (List.mem_of_getElem? (i := 29) rfl)) rfl)⟩, by decide, rfl, tmo_89, fun h => absurd h (by decide)⟩
set_option maxRecDepth 100000 in
theorem tmo_90 : xmok cX5_free 1 xm_90 := xmok_of (by decide +kernel)
theorem tm_90 : Pm (xm_90, yX5_free, cX5_free, 1) := ⟨rfl, ⟨by decide +kernel, (xTs_in (tin_3 _ (List.mem_of_getElem? (i := 38) rfl)) rfl)⟩, by decide, rfl, tmo_90, fun h => absurd h (by decide)⟩
set_option maxRecDepth 100000 in
theorem tmo_91 : xmok cX5_train 4 xm_91 := xmok_of (by decide +kernel)
theorem tm_91 : Pm (xm_91, yX5_train, cX5_train, 4) := ⟨rfl, ⟨by decide +kernel, (xTs_in (tin_3 _ (List.mem_of_getElem? (i := 42) rfl)) rfl)⟩, by decide, rfl, tmo_91, fun h => absurd h (by decide)⟩
set_option maxRecDepth 100000 in
theorem tmo_92 : xmok cX5_fits 6 xm_92 := xmok_of (by decide +kernel)
theorem tm_92 : Pm (xm_92, yX5_fits, cX5_fits, 6) := ⟨rfl, ⟨by decide +kernel, (xTs_in (tin_3 _ (List.mem_of_getElem? (i := 46) rfl)) rfl)⟩, by decide, rfl, tmo_92, fun h => absurd h (by decide)⟩
set_option maxRecDepth 100000 in
theorem tmo_93 : xmok cX5_love 5 xm_93 := xmok_of (by decide +kernel)
theorem tm_93 : Pm (xm_93, yX5_love, cX5_love, 5) := ⟨rfl, ⟨by decide +kernel, (xTs_in (tin_3 _ (List.mem_of_getElem? (i := 51) rfl)) rfl)⟩, by decide, rfl, tmo_93, fun h => absurd h (by decide)⟩
set_option maxRecDepth 100000 in
theorem tmo_94 : xmok cX5_curtain 8 xm_94 := xmok_of (by decide +kernel)
theorem tm_94 : Pm (xm_94, yX5_curtain, cX5_curtain, 8) := ⟨rfl, ⟨by decide +kernel, (xTs_in (tin_3 _ (List.mem_of_getElem? (i := 55) rfl)) rfl)⟩, by decide, rfl, tmo_94, fun h => absurd h (by decide)⟩
set_option maxRecDepth 100000 in
theorem tmo_95 : xmok cX5_stop 2 xm_95 := xmok_of (by decide +kernel)
theorem tm_95 : Pm (xm_95, yX5_stop, cX5_stop, 2) := ⟨rfl, ⟨by decide +kernel, (xTs_in (tin_3 _ (List.mem_of_getElem? (i := 77) rfl)) rfl)⟩, by decide, rfl, tmo_95, fun h => absurd h (by decide)⟩
set_option maxRecDepth 100000 in
theorem tmo_96 : xmok cX5_evening 4 xm_96 := xmok_of (by decide +kernel)
theorem tm_96 : Pm (xm_96, yX5_evening, cX5_evening, 4) := ⟨rfl, ⟨by decide +kernel, (xTs_in (tin_3 _ (List.mem_of_getElem? (i := 81) rfl)) rfl)⟩, by decide, rfl, tmo_96, fun h => absurd h (by decide)⟩
set_option maxRecDepth 100000 in
theorem tmo_97 : xmok cX5_lot 5 xm_97 := xmok_of (by decide +kernel)
theorem tm_97 : Pm (xm_97, yX5_lot, cX5_lot, 5) := ⟨rfl, ⟨by decide +kernel, (xTs_in (tin_3 _ (List.mem_of_getElem? (i := 90) rfl)) rfl)⟩, by decide, rfl, tmo_97, fun h => absurd h (by decide)⟩
set_option maxRecDepth 100000 in
theorem tmo_98 : xmok cX5_seed 3 xm_98 := xmok_of (by decide +kernel)
theorem tm_98 : Pm (xm_98, yX5_seed, cX5_seed, 3) := ⟨rfl, ⟨by decide +kernel, (xTs_in (tin_3 _ (List.mem_of_getElem? (i := 98) rfl)) rfl)⟩, by decide, rfl, tmo_98, fun h => absurd h (by decide)⟩
set_option maxRecDepth 100000 in
theorem tmo_99 : xmok cX5_feed 3 xm_99 := xmok_of (by decide +kernel)
theorem tm_99 : Pm (xm_99, yX5_feed, cX5_feed, 3) := ⟨rfl, ⟨by decide +kernel, (xTs_in (tin_3 _ (List.mem_of_getElem? (i := 102) rfl)) rfl)⟩, by decide, rfl, tmo_99, fun h => absurd h (by decide)⟩
set_option maxRecDepth 100000 in
theorem tmo_100 : xmok cX5_wipe 1 xm_100 := xmok_of (by decide +kernel)
theorem tm_100 : Pm (xm_100, yX5_wipe, cX5_wipe, 1) := ⟨rfl, ⟨by decide +kernel, (xTs_in (tin_3 _ (List.mem_of_getElem? (i := 114) rfl)) rfl)⟩, by decide, rfl, tmo_100, fun h => absurd h (by decide)⟩
set_option maxRecDepth 100000 in
theorem tmo_101 : xmok cX5_text 2 xm_101 := xmok_of (by decide +kernel)
theorem tm_101 : Pm (xm_101, yX5_text, cX5_text, 2) := ⟨rfl, ⟨by decide +kernel, (xTs_in (tin_3 _ (List.mem_of_getElem? (i := 122) rfl)) rfl)⟩, by decide, rfl, tmo_101, fun h => absurd h (by decide)⟩
set_option maxRecDepth 100000 in
theorem tmo_102 : xmok cX5_hold 3 xm_102 := xmok_of (by decide +kernel)
theorem tm_102 : Pm (xm_102, yX5_hold, cX5_hold, 3) := ⟨rfl, ⟨by decide +kernel, (xTs_in (tin_4 _ (List.mem_of_getElem? (i := 18) rfl)) rfl)⟩, by decide, rfl, tmo_102, fun h => absurd h (by decide)⟩
set_option maxRecDepth 100000 in
theorem tmo_103 : xmok cX5_as 4 xm_103 := xmok_of (by decide +kernel)
theorem tm_103 : Pm (xm_103, yX5_as, cX5_as, 4) := ⟨rfl, ⟨by decide +kernel, (xTs_in (tin_4 _ (List.mem_of_getElem? (i := 22) rfl)) rfl)⟩, by decide, rfl, tmo_103, fun h => absurd h (by decide)⟩
set_option maxRecDepth 100000 in
theorem tmo_104 : xmok cX5_sheet 4 xm_104 := xmok_of (by decide +kernel)
theorem tm_104 : Pm (xm_104, yX5_sheet, cX5_sheet, 4) := ⟨rfl, ⟨by decide +kernel, (xTs_in (tin_4 _ (List.mem_of_getElem? (i := 31) rfl)) rfl)⟩, by decide, rfl, tmo_104, fun h => absurd h (by decide)⟩
set_option maxRecDepth 100000 in
theorem tmo_105 : xmok cX5_write 5 xm_105 := xmok_of (by decide +kernel)
theorem tm_105 : Pm (xm_105, yX5_write, cX5_write, 5) := ⟨rfl, ⟨by decide +kernel, (xTs_in (tin_4 _ (List.mem_of_getElem? (i := 44) rfl)) rfl)⟩, by decide, rfl, tmo_105, fun h => absurd h (by decide)⟩
set_option maxRecDepth 100000 in
theorem tmo_106 : xmok cX5_copy 6 xm_106 := xmok_of (by decide +kernel)
theorem tm_106 : Pm (xm_106, yX5_copy, cX5_copy, 6) := ⟨rfl, ⟨by decide +kernel, (xTs_in (tin_4 _ (List.mem_of_getElem? (i := 57) rfl)) rfl)⟩, by decide, rfl, tmo_106, fun h => absurd h (by decide)⟩
set_option maxRecDepth 100000 in
theorem tmo_107 : xmok cX5_load 5 xm_107 := xmok_of (by decide +kernel)
theorem tm_107 : Pm (xm_107, yX5_load, cX5_load, 5) := ⟨rfl, ⟨by decide +kernel, (xTs_in (tin_4 _ (List.mem_of_getElem? (i := 70) rfl)) rfl)⟩, by decide, rfl, tmo_107, fun h => absurd h (by decide)⟩
set_option maxRecDepth 100000 in
theorem tmo_108 : xmok cX5_judge 3 xm_108 := xmok_of (by decide +kernel)
theorem tm_108 : Pm (xm_108, yX5_judge, cX5_judge, 3) := ⟨rfl, ⟨by decide +kernel, (xTs_in (tin_4 _ (List.mem_of_getElem? (i := 78) rfl)) rfl)⟩, by decide, rfl, tmo_108, fun h => absurd h (by decide)⟩
set_option maxRecDepth 100000 in
theorem tmo_109 : xmok cX5_loud 7 xm_109 := xmok_of (by decide +kernel)
theorem tm_109 : Pm (xm_109, yX5_loud, cX5_loud, 7) := ⟨rfl, ⟨by decide +kernel, (xTs_in (tin_4 _ (List.mem_of_getElem? (i := 86) rfl)) rfl)⟩, by decide, rfl, tmo_109, fun h => absurd h (by decide)⟩
set_option maxRecDepth 100000 in
theorem tmo_110 : xmok cX5_image 1 xm_110 := xmok_of (by decide +kernel)
theorem tm_110 : Pm (xm_110, yX5_image, cX5_image, 1) := ⟨rfl, ⟨by decide +kernel, (xTs_in (tin_4 _ (List.mem_of_getElem? (i := 90) rfl)) rfl)⟩, by decide, rfl, tmo_110, fun h => absurd h (by decide)⟩
set_option maxRecDepth 100000 in
theorem tmo_111 : xmok cX5_undo 1 xm_111 := xmok_of (by decide +kernel)
theorem tm_111 : Pm (xm_111, yX5_undo, cX5_undo, 1) := ⟨rfl, ⟨by decide +kernel, (xTs_in (tin_4 _ (List.mem_of_getElem? (i := 94) rfl)) rfl)⟩, by decide, rfl, tmo_111, fun h => absurd h (by decide)⟩
set_option maxRecDepth 100000 in
theorem tmo_112 : xmok cX5_tear 2 xm_112 := xmok_of (by decide +kernel)
theorem tm_112 : Pm (xm_112, yX5_tear, cX5_tear, 2) := ⟨rfl, ⟨by decide +kernel, (xTs_in (tin_4 _ (List.mem_of_getElem? (i := 98) rfl)) rfl)⟩, by decide, rfl, tmo_112, fun h => absurd h (by decide)⟩
set_option maxRecDepth 100000 in
theorem tmo_113 : xmok cX5_count 2 xm_113 := xmok_of (by decide +kernel)
theorem tm_113 : Pm (xm_113, yX5_count, cX5_count, 2) := ⟨rfl, ⟨by decide +kernel, (xTs_in (tin_4 _ (List.mem_of_getElem? (i := 102) rfl)) rfl)⟩, by decide, rfl, tmo_113, fun h => absurd h (by decide)⟩
set_option maxRecDepth 100000 in
theorem tmo_114 : xmok cX5_status 4 xm_114 := xmok_of (by decide +kernel)
theorem tm_114 : Pm (xm_114, yX5_status, cX5_status, 4) := ⟨rfl, ⟨by decide +kernel, (xTs_in (tin_4 _ (List.mem_of_getElem? (i := 119) rfl)) rfl)⟩, by decide, rfl, tmo_114, fun h => absurd h (by decide)⟩
set_option maxRecDepth 100000 in
theorem tmo_115 : xmok cX5_finding 2 xm_115 := xmok_of (by decide +kernel)
theorem tm_115 : Pm (xm_115, yX5_finding, cX5_finding, 2) := ⟨rfl, ⟨by decide +kernel, (xTs_in (tin_2 _ (List.mem_of_getElem? (i := 11) rfl)) rfl)⟩, by decide, rfl, tmo_115, fun h => absurd h (by decide)⟩
set_option maxRecDepth 100000 in
theorem tmo_116 : xmok cX5_isIn 3 xm_116 := xmok_of (by decide +kernel)
theorem tm_116 : Pm (xm_116, yX5_isIn, cX5_isIn, 3) := ⟨rfl, ⟨by decide +kernel, (xTs_in (tin_2 _ (List.mem_of_getElem? (i := 7) rfl)) rfl)⟩, by decide, rfl, tmo_116, fun h => absurd h (by decide)⟩
set_option maxRecDepth 100000 in
theorem tmo_117 : xmok cX5_put 4 xm_117 := xmok_of (by decide +kernel)
theorem tm_117 : Pm (xm_117, yX5_put, cX5_put, 4) := ⟨rfl, ⟨by decide +kernel, (xTs_in (tin_2 _ (List.mem_of_getElem? (i := 63) rfl)) rfl)⟩, by decide, rfl, tmo_117, fun h => absurd h (by decide)⟩
set_option maxRecDepth 100000 in
theorem tmo_118 : xmok cX5_memberOf 5 xm_118 := xmok_of (by decide +kernel)
theorem tm_118 : Pm (xm_118, yX5_memberOf, cX5_memberOf, 5) := ⟨rfl, ⟨by decide +kernel, (xTs_in (tin_3 _ (List.mem_of_getElem? (i := 94) rfl)) rfl)⟩, by decide, rfl, tmo_118, fun h => absurd h (by decide)⟩
set_option maxRecDepth 100000 in
theorem tmo_119 : xmok cX5_gainAt 2 xm_119 := xmok_of (by decide +kernel)
theorem tm_119 : Pm (xm_119, yX5_gainAt, cX5_gainAt, 2) := ⟨rfl, ⟨by decide +kernel, (xTs_in (tin_3 _ (List.mem_of_getElem? (i := 64) rfl)) rfl)⟩, by decide, rfl, tmo_119, fun h => absurd h (by decide)⟩
set_option maxRecDepth 100000 in
theorem tmo_120 : xmok cX5_partsFrom 4 xm_120 := xmok_of (by decide +kernel)
theorem tm_120 : Pm (xm_120, yX5_partsFrom, cX5_partsFrom, 4) := ⟨rfl, ⟨by decide +kernel, (xTs_in (tin_3 _ (List.mem_of_getElem? (i := 71) rfl)) rfl)⟩, by decide, rfl, tmo_120, fun h => absurd h (by decide)⟩
set_option maxRecDepth 100000 in
theorem tmo_121 : xmok cX5_worth 12 xm_121 := xmok_of (by decide +kernel)
theorem tm_121 : Pm (xm_121, yX5_worth, cX5_worth, 12) := ⟨rfl, ⟨by decide +kernel, (xTs_in (tin_3 _ (List.mem_of_getElem? (i := 59) rfl)) rfl)⟩, by decide, rfl, tmo_121, fun h => absurd h (by decide)⟩
set_option maxRecDepth 100000 in
theorem tmo_122 : xmok cX5_firstThatCannot 5 xm_122 := xmok_of (by decide +kernel)
theorem tm_122 : Pm (xm_122, yX5_firstThatCannot, cX5_firstThatCannot, 5) := ⟨rfl, ⟨by decide +kernel, (xTs_in (tin_4 _ (List.mem_of_getElem? (i := 82) rfl)) rfl)⟩, by decide, rfl, tmo_122, fun h => absurd h (by decide)⟩
set_option maxRecDepth 100000 in
theorem tmo_123 : xmok cX6_no 2 xm_123 := xmok_of (by decide +kernel)
theorem tm_123 : Pm (xm_123, yX6_no, cX6_no, 2) := ⟨rfl, ⟨by decide +kernel, (xTs_in (tin_4 _ (List.mem_of_getElem? (i := 213) rfl)) rfl)⟩, by decide, rfl, tmo_123, fun h => absurd h (by decide)⟩
set_option maxRecDepth 100000 in
theorem tmo_124 : xmok cX6_in1 3 xm_124 := xmok_of (by decide +kernel)
theorem tm_124 : Pm (xm_124, yX6_in1, cX6_in1, 3) := ⟨rfl, ⟨by decide +kernel, (xTs_in (tin_4 _ (List.mem_of_getElem? (i := 209) rfl)) rfl)⟩, by decide, rfl, tmo_124, fun h => absurd h (by decide)⟩
set_option maxRecDepth 100000 in
theorem tmo_125 : xmok cX6_most 2 xm_125 := xmok_of (by decide +kernel)
theorem tm_125 : Pm (xm_125, yX6_most, cX6_most, 2) := ⟨rfl, ⟨by decide +kernel, (xTs_in (tin_5 _ (List.mem_of_getElem? (i := 5) rfl)) rfl)⟩, by decide, rfl, tmo_125, fun h => absurd h (by decide)⟩
set_option maxRecDepth 100000 in
theorem tmo_126 : xmok cX6_bits 3 xm_126 := xmok_of (by decide +kernel)
theorem tm_126 : Pm (xm_126, yX6_bits, cX6_bits, 3) := ⟨rfl, ⟨by decide +kernel, (xTs_in (tin_5 _ (List.mem_of_getElem? (i := 130) rfl)) rfl)⟩, by decide, rfl, tmo_126, fun h => absurd h (by decide)⟩
set_option maxRecDepth 100000 in
theorem tmo_127 : xmok cX6_isIn 2 xm_127 := xmok_of (by decide +kernel)
theorem tm_127 : Pm (xm_127, yX6_isIn, cX6_isIn, 2) := ⟨rfl, ⟨by decide +kernel, (xTs_in (tin_5 _ (List.mem_of_getElem? (i := 35) rfl)) rfl)⟩, by decide, rfl, tmo_127, fun h => absurd h (by decide)⟩
set_option maxRecDepth 100000 in
theorem tmo_128 : xmok cX6_isBow 2 xm_128 := xmok_of (by decide +kernel)
theorem tm_128 : Pm (xm_128, yX6_isBow, cX6_isBow, 2) := ⟨rfl, ⟨by decide +kernel, (xTs_in (tin_4 _ (List.mem_of_getElem? (i := 230) rfl)) rfl)⟩, by decide, rfl, tmo_128, fun h => absurd h (by decide)⟩
set_option maxRecDepth 100000 in
theorem tmo_129 : xmok cX6_get 3 xm_129 := xmok_of (by decide +kernel)
theorem tm_129 : Pm (xm_129, yX6_get, cX6_get, 3) := ⟨rfl, ⟨by decide +kernel, (xTs_in (tin_4 _ (List.mem_of_getElem? (i := 234) rfl)) rfl)⟩, by decide, rfl, tmo_129, fun h => absurd h (by decide)⟩
set_option maxRecDepth 100000 in
theorem tmo_130 : xmok cX6_puts 4 xm_130 := xmok_of (by decide +kernel)
theorem tm_130 : Pm (xm_130, yX6_puts, cX6_puts, 4) := ⟨rfl, ⟨by decide +kernel, (xTs_in (tin_4 _ (List.mem_of_getElem? (i := 222) rfl)) rfl)⟩, by decide, rfl, tmo_130, fun h => absurd h (by decide)⟩
set_option maxRecDepth 100000 in
theorem tmo_131 : xmok cX6_allBows 1 xm_131 := xmok_of (by decide +kernel)
theorem tm_131 : Pm (xm_131, yX6_allBows, cX6_allBows, 1) := ⟨rfl, ⟨by decide +kernel, (xTs_in (tin_5 _ (List.mem_of_getElem? (i := 32) rfl)) rfl)⟩, by decide, rfl, tmo_131, fun h => absurd h (by decide)⟩
set_option maxRecDepth 100000 in
theorem tmo_132 : xmok cX6_noiseOf 5 xm_132 := xmok_of (by decide +kernel)
theorem tm_132 : Pm (xm_132, yX6_noiseOf, cX6_noiseOf, 5) := ⟨rfl, ⟨by decide +kernel, (xTs_in (tin_5 _ (List.mem_of_getElem? (i := 24) rfl)) rfl)⟩, by decide, rfl, tmo_132, fun h => absurd h (by decide)⟩
set_option maxRecDepth 100000 in
theorem tmo_133 : xmok cX6_noiseBy 3 xm_133 := xmok_of (by decide +kernel)
theorem tm_133 : Pm (xm_133, yX6_noiseBy, cX6_noiseBy, 3) := ⟨rfl, ⟨by decide +kernel, (xTs_in (tin_5 _ (List.mem_of_getElem? (i := 21) rfl)) rfl)⟩, by decide, rfl, tmo_133, fun h => absurd h (by decide)⟩
set_option maxRecDepth 100000 in
theorem tmo_134 : xmok cX6_leaves 3 xm_134 := xmok_of (by decide +kernel)
theorem tm_134 : Pm (xm_134, yX6_leaves, cX6_leaves, 3) := ⟨rfl, ⟨by decide +kernel, (xTs_in (tin_4 _ (List.mem_of_getElem? (i := 238) rfl)) rfl)⟩, by decide, rfl, tmo_134, fun h => absurd h (by decide)⟩
set_option maxRecDepth 100000 in
theorem tmo_135 : xmok cX6_secondsOf 3 xm_135 := xmok_of (by decide +kernel)
theorem tm_135 : Pm (xm_135, yX6_secondsOf, cX6_secondsOf, 3) := ⟨rfl, ⟨by decide +kernel, (xTs_in (tin_5 _ (List.mem_of_getElem? (i := 2) rfl)) rfl)⟩, by decide, rfl, tmo_135, fun h => absurd h (by decide)⟩
set_option maxRecDepth 100000 in
theorem tmo_136 : xmok cX6_leftBy 2 xm_136 := xmok_of (by decide +kernel)
theorem tm_136 : Pm (xm_136, yX6_leftBy, cX6_leftBy, 2) := ⟨rfl, ⟨by decide +kernel, (xTs_in (tin_5 _ (List.mem_of_getElem? (i := 17) rfl)) rfl)⟩, by decide, rfl, tmo_136, fun h => absurd h (by decide)⟩
set_option maxRecDepth 100000 in
theorem tmo_137 : xmok cX6_whoAt 2 xm_137 := xmok_of (by decide +kernel)
theorem tm_137 : Pm (xm_137, yX6_whoAt, cX6_whoAt, 2) := ⟨rfl, ⟨by decide +kernel, (xTs_in (tin_5 _ (List.mem_of_getElem? (i := 13) rfl)) rfl)⟩, by decide, rfl, tmo_137, fun h => absurd h (by decide)⟩
set_option maxRecDepth 100000 in
theorem tmo_138 : xmok cX6_stageSet 3 xm_138 := xmok_of (by decide +kernel)
theorem tm_138 : Pm (xm_138, yX6_stageSet, cX6_stageSet, 3) := ⟨rfl, ⟨by decide +kernel, (xTs_in (tin_5 _ (List.mem_of_getElem? (i := 58) rfl)) rfl)⟩, by decide, rfl, tmo_138, fun h => absurd h (by decide)⟩
set_option maxRecDepth 100000 in
theorem tmo_139 : xmok cX6_latest 1 xm_139 := xmok_of (by decide +kernel)
theorem tm_139 : Pm (xm_139, yX6_latest, cX6_latest, 1) := ⟨rfl, ⟨by decide +kernel, (xTs_in (tin_5 _ (List.mem_of_getElem? (i := 9) rfl)) rfl)⟩, by decide, rfl, tmo_139, fun h => absurd h (by decide)⟩
set_option maxRecDepth 100000 in
theorem tmo_140 : xmok cX6_canBehind 3 xm_140 := xmok_of (by decide +kernel)
theorem tm_140 : Pm (xm_140, yX6_canBehind, cX6_canBehind, 3) := ⟨rfl, ⟨by decide +kernel, (xTs_in (tin_5 _ (List.mem_of_getElem? (i := 62) rfl)) rfl)⟩, by decide, rfl, tmo_140, fun h => absurd h (by decide)⟩
set_option maxRecDepth 100000 in
theorem tmo_141 : xmok cX6_canSet 4 xm_141 := xmok_of (by decide +kernel)
theorem tm_141 : Pm (xm_141, yX6_canSet, cX6_canSet, 4) := ⟨rfl, ⟨by decide +kernel, (xTs_in (tin_5 _ (List.mem_of_getElem? (i := 86) rfl)) rfl)⟩, by decide, rfl, tmo_141, fun h => absurd h (by decide)⟩
set_option maxRecDepth 100000 in
theorem tmo_142 : xmok cX6_comes 4 xm_142 := xmok_of (by decide +kernel)
theorem tm_142 : Pm (xm_142, yX6_comes, cX6_comes, 4) := ⟨rfl, ⟨by decide +kernel, (xTs_in (tin_5 _ (List.mem_of_getElem? (i := 66) rfl)) rfl)⟩, by decide, rfl, tmo_142, fun h => absurd h (by decide)⟩
set_option maxRecDepth 100000 in
theorem tmo_143 : xmok cX6_addsBow 3 xm_143 := xmok_of (by decide +kernel)
theorem tm_143 : Pm (xm_143, yX6_addsBow, cX6_addsBow, 3) := ⟨rfl, ⟨by decide +kernel, (xTs_in (tin_4 _ (List.mem_of_getElem? (i := 218) rfl)) rfl)⟩, by decide, rfl, tmo_143, fun h => absurd h (by decide)⟩
set_option maxRecDepth 100000 in
theorem tmo_144 : xmok cX6_bow 2 xm_144 := xmok_of (by decide +kernel)
theorem tm_144 : Pm (xm_144, yX6_bow, cX6_bow, 2) := ⟨rfl, ⟨by decide +kernel, (xTs_in (tin_4 _ (List.mem_of_getElem? (i := 206) rfl)) rfl)⟩, by decide, rfl, tmo_144, fun h => absurd h (by decide)⟩
set_option maxRecDepth 100000 in
theorem tmo_145 : xmok cX6_of 3 xm_145 := xmok_of (by decide +kernel)
theorem tm_145 : Pm (xm_145, yX6_of, cX6_of, 3) := ⟨rfl, ⟨by decide +kernel, (xTs_in (tin_4 _ (List.mem_of_getElem? (i := 226) rfl)) rfl)⟩, by decide, rfl, tmo_145, fun h => absurd h (by decide)⟩
set_option maxRecDepth 100000 in
theorem tmo_146 : xmok cX6_change 6 xm_146 := xmok_of (by decide +kernel)
theorem tm_146 : Pm (xm_146, yX6_change, cX6_change, 6) := ⟨rfl, ⟨by decide +kernel, (xTs_in (tin_5 _ (List.mem_of_getElem? (i := 28) rfl)) rfl)⟩, by decide, rfl, tmo_146, fun h => absurd h (by decide)⟩
set_option maxRecDepth 100000 in
theorem tmo_147 : xmok cX6_contract 5 xm_147 := xmok_of (by decide +kernel)
theorem tm_147 : Pm (xm_147, yX6_contract, cX6_contract, 5) := ⟨rfl, ⟨by decide +kernel, (xTs_in (tin_5 _ (List.mem_of_getElem? (i := 39) rfl)) rfl)⟩, by decide, rfl, tmo_147, fun h => absurd h (by decide)⟩
set_option maxRecDepth 100000 in
theorem tmo_148 : xmok cX6_greatestRule 1 xm_148 := xmok_of (by decide +kernel)
theorem tm_148 : Pm (xm_148, yX6_greatestRule, cX6_greatestRule, 1) := ⟨rfl, ⟨by decide +kernel, (xTs_in (tin_5 _ (List.mem_of_getElem? (i := 46) rfl)) rfl)⟩, by decide, rfl, tmo_148, fun h => absurd h (by decide)⟩
set_option maxRecDepth 100000 in
theorem tmo_149 : xmok cX6_rule 4 xm_149 := xmok_of (by decide +kernel)
theorem tm_149 : Pm (xm_149, yX6_rule, cX6_rule, 4) := ⟨rfl, ⟨by decide +kernel, (xTs_in (tin_5 _ (List.mem_of_getElem? (i := 43) rfl)) rfl)⟩, by decide, rfl, tmo_149, fun h => absurd h (by decide)⟩
set_option maxRecDepth 100000 in
theorem tmo_150 : xmok cX6_noise 3 xm_150 := xmok_of (by decide +kernel)
theorem tm_150 : Pm (xm_150, yX6_noise, cX6_noise, 3) := ⟨rfl, ⟨by decide +kernel, (xTs_in (tin_5 _ (List.mem_of_getElem? (i := 50) rfl)) rfl)⟩, by decide, rfl, tmo_150, fun h => absurd h (by decide)⟩
set_option maxRecDepth 100000 in
theorem tmo_151 : xmok cX6_come 2 xm_151 := xmok_of (by decide +kernel)
theorem tm_151 : Pm (xm_151, yX6_come, cX6_come, 2) := ⟨rfl, ⟨by decide +kernel, (xTs_in (tin_5 _ (List.mem_of_getElem? (i := 54) rfl)) rfl)⟩, by decide, rfl, tmo_151, fun h => absurd h (by decide)⟩
set_option maxRecDepth 100000 in
theorem tmo_152 : xmok cX6_back 2 xm_152 := xmok_of (by decide +kernel)
theorem tm_152 : Pm (xm_152, yX6_back, cX6_back, 2) := ⟨rfl, ⟨by decide +kernel, (xTs_in (tin_5 _ (List.mem_of_getElem? (i := 70) rfl)) rfl)⟩, by decide, rfl, tmo_152, fun h => absurd h (by decide)⟩
set_option maxRecDepth 100000 in
theorem tmo_153 : xmok cX6_clear 2 xm_153 := xmok_of (by decide +kernel)
theorem tm_153 : Pm (xm_153, yX6_clear, cX6_clear, 2) := ⟨rfl, ⟨by decide +kernel, (xTs_in (tin_5 _ (List.mem_of_getElem? (i := 74) rfl)) rfl)⟩, by decide, rfl, tmo_153, fun h => absurd h (by decide)⟩
set_option maxRecDepth 100000 in
theorem tmo_154 : xmok cX6_stood 2 xm_154 := xmok_of (by decide +kernel)
theorem tm_154 : Pm (xm_154, yX6_stood, cX6_stood, 2) := ⟨rfl, ⟨by decide +kernel, (xTs_in (tin_5 _ (List.mem_of_getElem? (i := 78) rfl)) rfl)⟩, by decide, rfl, tmo_154, fun h => absurd h (by decide)⟩
set_option maxRecDepth 100000 in
theorem tmo_155 : xmok cX6_fallsOfStage 3 xm_155 := xmok_of (by decide +kernel)
theorem tm_155 : Pm (xm_155, yX6_fallsOfStage, cX6_fallsOfStage, 3) := ⟨rfl, ⟨by decide +kernel, (xTs_in (tin_5 _ (List.mem_of_getElem? (i := 90) rfl)) rfl)⟩, by decide, rfl, tmo_155, fun h => absurd h (by decide)⟩
set_option maxRecDepth 100000 in
theorem tmo_156 : xmok cX6_now 2 xm_156 := xmok_of (by decide +kernel)
theorem tm_156 : Pm (xm_156, yX6_now, cX6_now, 2) := ⟨rfl, ⟨by decide +kernel, (xTs_in (tin_5 _ (List.mem_of_getElem? (i := 82) rfl)) rfl)⟩, by decide, rfl, tmo_156, fun h => absurd h (by decide)⟩
set_option maxRecDepth 100000 in
theorem tmo_157 : xmok cX6_brings 5 xm_157 := xmok_of (by decide +kernel)
theorem tm_157 : Pm (xm_157, yX6_brings, cX6_brings, 5) := ⟨rfl, ⟨by decide +kernel, (xTs_in (tin_5 _ (List.mem_of_getElem? (i := 103) rfl)) rfl)⟩, by decide, rfl, tmo_157, fun h => absurd h (by decide)⟩
set_option maxRecDepth 100000 in
theorem tmo_158 : xmok cX6_findsBest 10 xm_158 := xmok_of (by decide +kernel)
theorem tm_158 : Pm (xm_158, yX6_findsBest, cX6_findsBest, 10) := ⟨rfl, ⟨by decide +kernel, (xTs_in (tin_5 _ (List.mem_of_getElem? (i := 98) rfl)) rfl)⟩, by decide, rfl, tmo_158, fun h => absurd h (by decide)⟩
set_option maxRecDepth 100000 in
theorem tmo_159 : xmok cX6_findsRow 8 xm_159 := xmok_of (by decide +kernel)
theorem tm_159 : Pm (xm_159, yX6_findsRow, cX6_findsRow, 8) := ⟨rfl, ⟨by decide +kernel, (xTs_in (tin_5 _ (List.mem_of_getElem? (i := 111) rfl)) rfl)⟩, by decide, rfl, tmo_159, fun h => absurd h (by decide)⟩
set_option maxRecDepth 100000 in
theorem tmo_160 : xmok cX6_best 3 xm_160 := xmok_of (by decide +kernel)
theorem tm_160 : Pm (xm_160, yX6_best, cX6_best, 3) := ⟨rfl, ⟨by decide +kernel, (xTs_in (tin_5 _ (List.mem_of_getElem? (i := 94) rfl)) rfl)⟩, by decide, rfl, tmo_160, fun h => absurd h (by decide)⟩
set_option maxRecDepth 100000 in
theorem tmo_161 : xmok cX6_ith 4 xm_161 := xmok_of (by decide +kernel)
theorem tm_161 : Pm (xm_161, yX6_ith, cX6_ith, 4) := ⟨rfl, ⟨by decide +kernel, (xTs_in (tin_5 _ (List.mem_of_getElem? (i := 107) rfl)) rfl)⟩, by decide, rfl, tmo_161, fun h => absurd h (by decide)⟩
set_option maxRecDepth 100000 in
theorem tmo_162 : xmok cX6_countsWays 5 xm_162 := xmok_of (by decide +kernel)
theorem tm_162 : Pm (xm_162, yX6_countsWays, cX6_countsWays, 5) := ⟨rfl, ⟨by decide +kernel, (xTs_in (tin_5 _ (List.mem_of_getElem? (i := 119) rfl)) rfl)⟩, by decide, rfl, tmo_162, fun h => absurd h (by decide)⟩
set_option maxRecDepth 100000 in
theorem tmo_163 : xmok cX6_ways 1 xm_163 := xmok_of (by decide +kernel)
theorem tm_163 : Pm (xm_163, yX6_ways, cX6_ways, 1) := ⟨rfl, ⟨by decide +kernel, (xTs_in (tin_5 _ (List.mem_of_getElem? (i := 115) rfl)) rfl)⟩, by decide, rfl, tmo_163, fun h => absurd h (by decide)⟩
set_option maxRecDepth 100000 in
theorem tmo_164 : xmok cX6_lasts 5 xm_164 := xmok_of (by decide +kernel)
theorem tm_164 : Pm (xm_164, yX6_lasts, cX6_lasts, 5) := ⟨rfl, ⟨by decide +kernel, (xTs_in (tin_5 _ (List.mem_of_getElem? (i := 123) rfl)) rfl)⟩, by decide, rfl, tmo_164, fun h => absurd h (by decide)⟩
set_option maxRecDepth 100000 in
theorem tmo_165 : xmok cX6_place 8 xm_165 := xmok_of (by decide +kernel)
theorem tm_165 : Pm (xm_165, yX6_place, cX6_place, 8) := ⟨rfl, ⟨by decide +kernel, (xTs_in (tin_5 _ (List.mem_of_getElem? (i := 127) rfl)) rfl)⟩, by decide, rfl, tmo_165, fun h => absurd h (by decide)⟩
set_option maxRecDepth 100000 in
theorem tmo_166 : xmok cX6_allAhead 5 xm_166 := xmok_of (by decide +kernel)
theorem tm_166 : Pm (xm_166, yX6_allAhead, cX6_allAhead, 5) := ⟨rfl, ⟨by decide +kernel, (xTs_in (tin_5 _ (List.mem_of_getElem? (i := 138) rfl)) rfl)⟩, by decide, rfl, tmo_166, fun h => absurd h (by decide)⟩
set_option maxRecDepth 100000 in
theorem tmo_167 : xmok cX6_all 2 xm_167 := xmok_of (by decide +kernel)
theorem tm_167 : Pm (xm_167, yX6_all, cX6_all, 2) := ⟨rfl, ⟨by decide +kernel, (xTs_in (tin_5 _ (List.mem_of_getElem? (i := 134) rfl)) rfl)⟩, by decide, rfl, tmo_167, fun h => absurd h (by decide)⟩
set_option maxRecDepth 100000 in
theorem tmo_168 : xmok cX6_clash 3 xm_168 := xmok_of (by decide +kernel)
theorem tm_168 : Pm (xm_168, yX6_clash, cX6_clash, 3) := ⟨rfl, ⟨by decide +kernel, (xTs_in (tin_5 _ (List.mem_of_getElem? (i := 142) rfl)) rfl)⟩, by decide, rfl, tmo_168, fun h => absurd h (by decide)⟩
set_option maxRecDepth 100000 in
theorem tmo_169 : xmok cX6_broken 4 xm_169 := xmok_of (by decide +kernel)
theorem tm_169 : Pm (xm_169, yX6_broken, cX6_broken, 4) := ⟨rfl, ⟨by decide +kernel, (xTs_in (tin_5 _ (List.mem_of_getElem? (i := 146) rfl)) rfl)⟩, by decide, rfl, tmo_169, fun h => absurd h (by decide)⟩
set_option maxRecDepth 100000 in
theorem tmo_170 : xmok cX6_between 7 xm_170 := xmok_of (by decide +kernel)
theorem tm_170 : Pm (xm_170, yX6_between, cX6_between, 7) := ⟨rfl, ⟨by decide +kernel, (xTs_in (tin_5 _ (List.mem_of_getElem? (i := 150) rfl)) rfl)⟩, by decide, rfl, tmo_170, fun h => absurd h (by decide)⟩
set_option maxRecDepth 100000 in
theorem tmo_171 : xmok cX6_kindFor 7 xm_171 := xmok_of (by decide +kernel)
theorem tm_171 : Pm (xm_171, yX6_kindFor, cX6_kindFor, 7) := ⟨rfl, ⟨by decide +kernel, (xTs_in (tin_5 _ (List.mem_of_getElem? (i := 154) rfl)) rfl)⟩, by decide, rfl, tmo_171, fun h => absurd h (by decide)⟩
set_option maxRecDepth 100000 in
theorem tmo_172 : xmok cX6_findsFreed 7 xm_172 := xmok_of (by decide +kernel)
theorem tm_172 : Pm (xm_172, yX6_findsFreed, cX6_findsFreed, 7) := ⟨rfl, ⟨by decide +kernel, (xTs_in (tin_5 _ (List.mem_of_getElem? (i := 162) rfl)) rfl)⟩, by decide, rfl, tmo_172, fun h => absurd h (by decide)⟩
set_option maxRecDepth 100000 in
theorem tmo_173 : xmok cX6_freed 2 xm_173 := xmok_of (by decide +kernel)
theorem tm_173 : Pm (xm_173, yX6_freed, cX6_freed, 2) := ⟨rfl, ⟨by decide +kernel, (xTs_in (tin_5 _ (List.mem_of_getElem? (i := 158) rfl)) rfl)⟩, by decide, rfl, tmo_173, fun h => absurd h (by decide)⟩
set_option maxRecDepth 100000 in
theorem tmo_174 : xmok cX6_free 2 xm_174 := xmok_of (by decide +kernel)
theorem tm_174 : Pm (xm_174, yX6_free, cX6_free, 2) := ⟨rfl, ⟨by decide +kernel, (xTs_in (tin_5 _ (List.mem_of_getElem? (i := 166) rfl)) rfl)⟩, by decide, rfl, tmo_174, fun h => absurd h (by decide)⟩
set_option maxRecDepth 100000 in
theorem tmo_175 : xmok cX6_train 4 xm_175 := xmok_of (by decide +kernel)
theorem tm_175 : Pm (xm_175, yX6_train, cX6_train, 4) := ⟨rfl, ⟨by decide +kernel, (xTs_in (tin_5 _ (List.mem_of_getElem? (i := 170) rfl)) rfl)⟩, by decide, rfl, tmo_175, fun h => absurd h (by decide)⟩
set_option maxRecDepth 100000 in
theorem tmo_176 : xmok cX6_isAsked 3 xm_176 := xmok_of (by decide +kernel)
theorem tm_176 : Pm (xm_176, yX6_isAsked, cX6_isAsked, 3) := ⟨rfl, ⟨by decide +kernel, (xTs_in (tin_5 _ (List.mem_of_getElem? (i := 178) rfl)) rfl)⟩, by decide, rfl, tmo_176, fun h => absurd h (by decide)⟩
set_option maxRecDepth 100000 in
theorem tmo_177 : xmok cX6_fits 6 xm_177 := xmok_of (by decide +kernel)
theorem tm_177 : Pm (xm_177, yX6_fits, cX6_fits, 6) := ⟨rfl, ⟨by decide +kernel, (xTs_in (tin_5 _ (List.mem_of_getElem? (i := 174) rfl)) rfl)⟩, by decide, rfl, tmo_177, fun h => absurd h (by decide)⟩
set_option maxRecDepth 100000 in
theorem tmo_178 : xmok cX6_love 6 xm_178 := xmok_of (by decide +kernel)
theorem tm_178 : Pm (xm_178, yX6_love, cX6_love, 6) := ⟨rfl, ⟨by decide +kernel, (xTs_in (tin_5 _ (List.mem_of_getElem? (i := 182) rfl)) rfl)⟩, by decide, rfl, tmo_178, fun h => absurd h (by decide)⟩
set_option maxRecDepth 100000 in
theorem tmo_179 : xmok cX6_silentAt 3 xm_179 := xmok_of (by decide +kernel)
theorem tm_179 : Pm (xm_179, yX6_silentAt, cX6_silentAt, 3) := ⟨rfl, ⟨by decide +kernel, (xTs_in (tin_5 _ (List.mem_of_getElem? (i := 195) rfl)) rfl)⟩, by decide, rfl, tmo_179, fun h => absurd h (by decide)⟩
set_option maxRecDepth 100000 in
theorem tmo_180 : xmok cX6_tens 4 xm_180 := xmok_of (by decide +kernel)
theorem tm_180 : Pm (xm_180, yX6_tens, cX6_tens, 4) := ⟨rfl, ⟨by decide +kernel, (xTs_in (tin_5 _ (List.mem_of_getElem? (i := 198) rfl)) rfl)⟩, by decide, rfl, tmo_180, fun h => absurd h (by decide)⟩
set_option maxRecDepth 100000 in
theorem tmo_181 : xmok cX6_worthFrom 7 xm_181 := xmok_of (by decide +kernel)
theorem tm_181 : Pm (xm_181, yX6_worthFrom, cX6_worthFrom, 7) := ⟨rfl, ⟨by decide +kernel, (xTs_in (tin_5 _ (List.mem_of_getElem? (i := 190) rfl)) rfl)⟩, by decide, rfl, tmo_181, fun h => absurd h (by decide)⟩
set_option maxRecDepth 100000 in
theorem tmo_182 : xmok cX6_curtain 13 xm_182 := xmok_of (by decide +kernel)
theorem tm_182 : Pm (xm_182, yX6_curtain, cX6_curtain, 13) := ⟨rfl, ⟨by decide +kernel, (xTs_in (tin_5 _ (List.mem_of_getElem? (i := 186) rfl)) rfl)⟩, by decide, rfl, tmo_182, fun h => absurd h (by decide)⟩
set_option maxRecDepth 100000 in
theorem tmo_183 : xmok cX6_stop 2 xm_183 := xmok_of (by decide +kernel)
theorem tm_183 : Pm (xm_183, yX6_stop, cX6_stop, 2) := ⟨rfl, ⟨by decide +kernel, (xTs_in (tin_5 _ (List.mem_of_getElem? (i := 202) rfl)) rfl)⟩, by decide, rfl, tmo_183, fun h => absurd h (by decide)⟩
set_option maxRecDepth 100000 in
theorem tmo_184 : xmok cX6_draw 1 xm_184 := xmok_of (by decide +kernel)
theorem tm_184 : Pm (xm_184, yX6_draw, cX6_draw, 1) := ⟨rfl, ⟨by decide +kernel, (xTs_in (tin_5 _ (List.mem_of_getElem? (i := 210) rfl)) rfl)⟩, by decide, rfl, tmo_184, fun h => absurd h (by decide)⟩
set_option maxRecDepth 100000 in
theorem tmo_185 : xmok cX6_evening 5 xm_185 := xmok_of (by decide +kernel)
theorem tm_185 : Pm (xm_185, yX6_evening, cX6_evening, 5) := ⟨rfl, ⟨by decide +kernel, (xTs_in (tin_5 _ (List.mem_of_getElem? (i := 206) rfl)) rfl)⟩, by decide, rfl, tmo_185, fun h => absurd h (by decide)⟩
set_option maxRecDepth 100000 in
theorem tmo_186 : xmok cX6_lot 6 xm_186 := xmok_of (by decide +kernel)
theorem tm_186 : Pm (xm_186, yX6_lot, cX6_lot, 6) := ⟨rfl, ⟨by decide +kernel, (xTs_in (tin_5 _ (List.mem_of_getElem? (i := 215) rfl)) rfl)⟩, by decide, rfl, tmo_186, fun h => absurd h (by decide)⟩
set_option maxRecDepth 100000 in
theorem tmo_187 : xmok cX6_seed 3 xm_187 := xmok_of (by decide +kernel)
theorem tm_187 : Pm (xm_187, yX6_seed, cX6_seed, 3) := ⟨rfl, ⟨by decide +kernel, (xTs_in (tin_5 _ (List.mem_of_getElem? (i := 219) rfl)) rfl)⟩, by decide, rfl, tmo_187, fun h => absurd h (by decide)⟩
set_option maxRecDepth 100000 in
theorem tmo_188 : xmok cX6_setsAside 2 xm_188 := xmok_of (by decide +kernel)
theorem tm_188 : Pm (xm_188, yX6_setsAside, cX6_setsAside, 2) := ⟨rfl, ⟨by decide +kernel, (xTs_in (tin_5 _ (List.mem_of_getElem? (i := 235) rfl)) rfl)⟩, by decide, rfl, tmo_188, fun h => absurd h (by decide)⟩
set_option maxRecDepth 100000 in
theorem tmo_189 : xmok cX6_laysBack 2 xm_189 := xmok_of (by decide +kernel)
theorem tm_189 : Pm (xm_189, yX6_laysBack, cX6_laysBack, 2) := ⟨rfl, ⟨by decide +kernel, (xTs_in (tin_6 _ (List.mem_of_getElem? (i := 34) rfl)) rfl)⟩, by decide, rfl, tmo_189, fun h => absurd h (by decide)⟩
set_option maxRecDepth 100000 in
theorem tmo_190 : xmok cX6_feed 4 xm_190 := xmok_of (by decide +kernel)
theorem tm_190 : Pm (xm_190, yX6_feed, cX6_feed, 4) := ⟨rfl, ⟨by decide +kernel, (xTs_in (tin_5 _ (List.mem_of_getElem? (i := 223) rfl)) rfl)⟩, by decide, rfl, tmo_190, fun h => absurd h (by decide)⟩
set_option maxRecDepth 100000 in
theorem tmo_191 : xmok cX6_wipe 2 xm_191 := xmok_of (by decide +kernel)
theorem tm_191 : Pm (xm_191, yX6_wipe, cX6_wipe, 2) := ⟨rfl, ⟨by decide +kernel, (xTs_in (tin_5 _ (List.mem_of_getElem? (i := 227) rfl)) rfl)⟩, by decide, rfl, tmo_191, fun h => absurd h (by decide)⟩
set_option maxRecDepth 100000 in
theorem tmo_192 : xmok cX6_isLetter 1 xm_192 := xmok_of (by decide +kernel)
theorem tm_192 : Pm (xm_192, yX6_isLetter, cX6_isLetter, 1) := ⟨rfl, ⟨by decide +kernel, (xTs_in (tin_6 _ (List.mem_of_getElem? (i := 2) rfl)) rfl)⟩, by decide, rfl, tmo_192, fun h => absurd h (by decide)⟩
set_option maxRecDepth 100000 in
theorem tmo_193 : xmok cX6_isDigit 1 xm_193 := xmok_of (by decide +kernel)
theorem tm_193 : Pm (xm_193, yX6_isDigit, cX6_isDigit, 1) := ⟨rfl, ⟨by decide +kernel, (xTs_in (tin_6 _ (List.mem_of_getElem? (i := 8) rfl)) rfl)⟩, by decide, rfl, tmo_193, fun h => absurd h (by decide)⟩
set_option maxRecDepth 100000 in
theorem tmo_194_0 : xm_194_0.all (fun r => xenok cX6_nextToken 1 r) = true := by decide +kernel
set_option maxRecDepth 100000 in
theorem tmo_194_1 : xm_194_1.all (fun r => xenok cX6_nextToken 1 r) = true := by decide +kernel
set_option maxRecDepth 100000 in
theorem tmo_194_2 : xm_194_2.all (fun r => xenok cX6_nextToken 1 r) = true := by decide +kernel
set_option maxRecDepth 100000 in
theorem tmo_194_3 : xm_194_3.all (fun r => xenok cX6_nextToken 1 r) = true := by decide +kernel
set_option maxRecDepth 100000 in
theorem tmo_194_4 : xm_194_4.all (fun r => xenok cX6_nextToken 1 r) = true := by decide +kernel
set_option maxRecDepth 100000 in
theorem tmo_194_5 : xm_194_5.all (fun r => xenok cX6_nextToken 1 r) = true := by decide +kernel
set_option maxRecDepth 100000 in
theorem tmo_194_6 : xm_194_6.all (fun r => xenok cX6_nextToken 1 r) = true := by decide +kernel
set_option maxRecDepth 100000 in
theorem tmo_194_7 : xm_194_7.all (fun r => xenok cX6_nextToken 1 r) = true := by decide +kernel
set_option maxRecDepth 100000 in
theorem tmo_194_8 : xm_194_8.all (fun r => xenok cX6_nextToken 1 r) = true := by decide +kernel
set_option maxRecDepth 100000 in
theorem tmo_194_9 : xm_194_9.all (fun r => xenok cX6_nextToken 1 r) = true := by decide +kernel
set_option maxRecDepth 100000 in
theorem tmo_194_10 : xm_194_10.all (fun r => xenok cX6_nextToken 1 r) = true := by decide +kernel
theorem tmo_194 : xmok cX6_nextToken 1 xm_194 := by
  refine ⟨?_, ?_⟩
  · show ∀ ch ∈ [xm_194_0, xm_194_1, xm_194_2, xm_194_3, xm_194_4, xm_194_5, xm_194_6, xm_194_7, xm_194_8, xm_194_9, xm_194_10], ∀ r ∈ ch, xenok cX6_nextToken 1 r = true
    exact List.forall_mem_cons.mpr ⟨fun r h => List.all_eq_true.mp tmo_194_0 r h, List.forall_mem_cons.mpr ⟨fun r h => List.all_eq_true.mp tmo_194_1 r h, List.forall_mem_cons.mpr ⟨fun r h => List.all_eq_true.mp tmo_194_2 r h, List.forall_mem_cons.mpr ⟨fun r h => List.all_eq_true.mp tmo_194_3 r h, List.forall_mem_cons.mpr ⟨fun r h => List.all_eq_true.mp tmo_194_4 r h, List.forall_mem_cons.mpr ⟨fun r h => List.all_eq_true.mp tmo_194_5 r h, List.forall_mem_cons.mpr ⟨fun r h => List.all_eq_true.mp tmo_194_6 r h, List.forall_mem_cons.mpr ⟨fun r h => List.all_eq_true.mp tmo_194_7 r h, List.forall_mem_cons.mpr ⟨fun r h => List.all_eq_true.mp tmo_194_8 r h, List.forall_mem_cons.mpr ⟨fun r h => List.all_eq_true.mp tmo_194_9 r h, List.forall_mem_cons.mpr ⟨fun r h => List.all_eq_true.mp tmo_194_10 r h, fun _ h => absurd h List.not_mem_nil⟩⟩⟩⟩⟩⟩⟩⟩⟩⟩⟩
  · decide
theorem tm_194 : Pm (xm_194, yX6_nextToken, cX6_nextToken, 1) := ⟨rfl, ⟨by decide +kernel, (xTs_in (tin_5 _ (List.mem_of_getElem? (i := 239) rfl)) rfl)⟩, by decide, rfl, tmo_194, fun h => absurd h (by decide)⟩
set_option maxRecDepth 100000 in
theorem tmo_195 : xmok cX6_wordOf 7 xm_195 := xmok_of (by decide +kernel)
theorem tm_195 : Pm (xm_195, yX6_wordOf, cX6_wordOf, 7) := ⟨rfl, ⟨by decide +kernel, (xTs_in (tin_6 _ (List.mem_of_getElem? (i := 18) rfl)) rfl)⟩, by decide, rfl, tmo_195, fun h => absurd h (by decide)⟩
set_option maxRecDepth 100000 in
theorem tmo_196 : xmok cX6_takesNumber 4 xm_196 := xmok_of (by decide +kernel)
theorem tm_196 : Pm (xm_196, yX6_takesNumber, cX6_takesNumber, 4) := ⟨rfl, ⟨by decide +kernel, (xTs_in (tin_6 _ (List.mem_of_getElem? (i := 26) rfl)) rfl)⟩, by decide, rfl, tmo_196, fun h => absurd h (by decide)⟩
set_option maxRecDepth 100000 in
theorem tmo_197 : xmok cX6_readsBow 6 xm_197 := xmok_of (by decide +kernel)
theorem tm_197 : Pm (xm_197, yX6_readsBow, cX6_readsBow, 6) := ⟨rfl, ⟨by decide +kernel, (xTs_in (tin_6 _ (List.mem_of_getElem? (i := 22) rfl)) rfl)⟩, by decide, rfl, tmo_197, fun h => absurd h (by decide)⟩
set_option maxRecDepth 100000 in
theorem tmo_198 : xmok cX6_readsContract 3 xm_198 := xmok_of (by decide +kernel)
theorem tm_198 : Pm (xm_198, yX6_readsContract, cX6_readsContract, 3) := ⟨rfl, ⟨by decide +kernel, (xTs_in (tin_6 _ (List.mem_of_getElem? (i := 30) rfl)) rfl)⟩, by decide, rfl, tmo_198, fun h => absurd h (by decide)⟩
set_option maxRecDepth 100000 in
theorem tmo_199 : xmok cX6_readsItem 4 xm_199 := xmok_of (by decide +kernel)
theorem tm_199 : Pm (xm_199, yX6_readsItem, cX6_readsItem, 4) := ⟨rfl, ⟨by decide +kernel, (xTs_in (tin_6 _ (List.mem_of_getElem? (i := 14) rfl)) rfl)⟩, by decide, rfl, tmo_199, fun h => absurd h (by decide)⟩
set_option maxRecDepth 100000 in
theorem tmo_200 : xmok cX6_text 3 xm_200 := xmok_of (by decide +kernel)
theorem tm_200 : Pm (xm_200, yX6_text, cX6_text, 3) := ⟨rfl, ⟨by decide +kernel, (xTs_in (tin_5 _ (List.mem_of_getElem? (i := 231) rfl)) rfl)⟩, by decide, rfl, tmo_200, fun h => absurd h (by decide)⟩
set_option maxRecDepth 100000 in
theorem tmo_201 : xmok cX6_isSpot 1 xm_201 := xmok_of (by decide +kernel)
theorem tm_201 : Pm (xm_201, yX6_isSpot, cX6_isSpot, 1) := ⟨rfl, ⟨by decide +kernel, (xTs_in (tin_6 _ (List.mem_of_getElem? (i := 41) rfl)) rfl)⟩, by decide, rfl, tmo_201, fun h => absurd h (by decide)⟩
set_option maxRecDepth 100000 in
theorem tmo_202 : xmok cX6_hold 3 xm_202 := xmok_of (by decide +kernel)
theorem tm_202 : Pm (xm_202, yX6_hold, cX6_hold, 3) := ⟨rfl, ⟨by decide +kernel, (xTs_in (tin_6 _ (List.mem_of_getElem? (i := 38) rfl)) rfl)⟩, by decide, rfl, tmo_202, fun h => absurd h (by decide)⟩
set_option maxRecDepth 100000 in
theorem tmo_203 : xmok cX6_above 1 xm_203 := xmok_of (by decide +kernel)
theorem tm_203 : Pm (xm_203, yX6_above, cX6_above, 1) := ⟨rfl, ⟨by decide +kernel, (xTs_in (tin_6 _ (List.mem_of_getElem? (i := 48) rfl)) rfl)⟩, by decide, rfl, tmo_203, fun h => absurd h (by decide)⟩
set_option maxRecDepth 100000 in
theorem tmo_204 : xmok cX6_isSheet 1 xm_204 := xmok_of (by decide +kernel)
theorem tm_204 : Pm (xm_204, yX6_isSheet, cX6_isSheet, 1) := ⟨rfl, ⟨by decide +kernel, (xTs_in (tin_6 _ (List.mem_of_getElem? (i := 55) rfl)) rfl)⟩, by decide, rfl, tmo_204, fun h => absurd h (by decide)⟩
set_option maxRecDepth 100000 in
theorem tmo_205 : xmok cX6_wrongSheet 2 xm_205 := xmok_of (by decide +kernel)
theorem tm_205 : Pm (xm_205, yX6_wrongSheet, cX6_wrongSheet, 2) := ⟨rfl, ⟨by decide +kernel, (xTs_in (tin_6 _ (List.mem_of_getElem? (i := 63) rfl)) rfl)⟩, by decide, rfl, tmo_205, fun h => absurd h (by decide)⟩
set_option maxRecDepth 100000 in
theorem tmo_206 : xmok cX6_as 5 xm_206 := xmok_of (by decide +kernel)
theorem tm_206 : Pm (xm_206, yX6_as, cX6_as, 5) := ⟨rfl, ⟨by decide +kernel, (xTs_in (tin_6 _ (List.mem_of_getElem? (i := 45) rfl)) rfl)⟩, by decide, rfl, tmo_206, fun h => absurd h (by decide)⟩
set_option maxRecDepth 100000 in
theorem tmo_207 : xmok cX6_sheet 5 xm_207 := xmok_of (by decide +kernel)
theorem tm_207 : Pm (xm_207, yX6_sheet, cX6_sheet, 5) := ⟨rfl, ⟨by decide +kernel, (xTs_in (tin_6 _ (List.mem_of_getElem? (i := 52) rfl)) rfl)⟩, by decide, rfl, tmo_207, fun h => absurd h (by decide)⟩
set_option maxRecDepth 100000 in
theorem tmo_208 : xmok cX6_write 5 xm_208 := xmok_of (by decide +kernel)
theorem tm_208 : Pm (xm_208, yX6_write, cX6_write, 5) := ⟨rfl, ⟨by decide +kernel, (xTs_in (tin_6 _ (List.mem_of_getElem? (i := 59) rfl)) rfl)⟩, by decide, rfl, tmo_208, fun h => absurd h (by decide)⟩
set_option maxRecDepth 100000 in
theorem tmo_209 : xmok cX6_copy 7 xm_209 := xmok_of (by decide +kernel)
theorem tm_209 : Pm (xm_209, yX6_copy, cX6_copy, 7) := ⟨rfl, ⟨by decide +kernel, (xTs_in (tin_6 _ (List.mem_of_getElem? (i := 67) rfl)) rfl)⟩, by decide, rfl, tmo_209, fun h => absurd h (by decide)⟩
set_option maxRecDepth 100000 in
theorem tmo_210 : xmok cX6_load 4 xm_210 := xmok_of (by decide +kernel)
theorem tm_210 : Pm (xm_210, yX6_load, cX6_load, 4) := ⟨rfl, ⟨by decide +kernel, (xTs_in (tin_6 _ (List.mem_of_getElem? (i := 71) rfl)) rfl)⟩, by decide, rfl, tmo_210, fun h => absurd h (by decide)⟩
set_option maxRecDepth 100000 in
theorem tmo_211 : xmok cX6_comeOf 6 xm_211 := xmok_of (by decide +kernel)
theorem tm_211 : Pm (xm_211, yX6_comeOf, cX6_comeOf, 6) := ⟨rfl, ⟨by decide +kernel, (xTs_in (tin_6 _ (List.mem_of_getElem? (i := 79) rfl)) rfl)⟩, by decide, rfl, tmo_211, fun h => absurd h (by decide)⟩
set_option maxRecDepth 100000 in
theorem tmo_212 : xmok cX6_judge 4 xm_212 := xmok_of (by decide +kernel)
theorem tm_212 : Pm (xm_212, yX6_judge, cX6_judge, 4) := ⟨rfl, ⟨by decide +kernel, (xTs_in (tin_6 _ (List.mem_of_getElem? (i := 75) rfl)) rfl)⟩, by decide, rfl, tmo_212, fun h => absurd h (by decide)⟩
set_option maxRecDepth 100000 in
theorem tmo_213 : xmok cX6_loud 4 xm_213 := xmok_of (by decide +kernel)
theorem tm_213 : Pm (xm_213, yX6_loud, cX6_loud, 4) := ⟨rfl, ⟨by decide +kernel, (xTs_in (tin_6 _ (List.mem_of_getElem? (i := 83) rfl)) rfl)⟩, by decide, rfl, tmo_213, fun h => absurd h (by decide)⟩
set_option maxRecDepth 100000 in
theorem tmo_214 : xmok cX6_image 2 xm_214 := xmok_of (by decide +kernel)
theorem tm_214 : Pm (xm_214, yX6_image, cX6_image, 2) := ⟨rfl, ⟨by decide +kernel, (xTs_in (tin_6 _ (List.mem_of_getElem? (i := 87) rfl)) rfl)⟩, by decide, rfl, tmo_214, fun h => absurd h (by decide)⟩
set_option maxRecDepth 100000 in
theorem tmo_215 : xmok cX6_undo 2 xm_215 := xmok_of (by decide +kernel)
theorem tm_215 : Pm (xm_215, yX6_undo, cX6_undo, 2) := ⟨rfl, ⟨by decide +kernel, (xTs_in (tin_6 _ (List.mem_of_getElem? (i := 91) rfl)) rfl)⟩, by decide, rfl, tmo_215, fun h => absurd h (by decide)⟩
set_option maxRecDepth 100000 in
theorem tmo_216 : xmok cX6_tear 2 xm_216 := xmok_of (by decide +kernel)
theorem tm_216 : Pm (xm_216, yX6_tear, cX6_tear, 2) := ⟨rfl, ⟨by decide +kernel, (xTs_in (tin_6 _ (List.mem_of_getElem? (i := 95) rfl)) rfl)⟩, by decide, rfl, tmo_216, fun h => absurd h (by decide)⟩
set_option maxRecDepth 100000 in
theorem tmo_217 : xmok cX6_count 4 xm_217 := xmok_of (by decide +kernel)
theorem tm_217 : Pm (xm_217, yX6_count, cX6_count, 4) := ⟨rfl, ⟨by decide +kernel, (xTs_in (tin_6 _ (List.mem_of_getElem? (i := 99) rfl)) rfl)⟩, by decide, rfl, tmo_217, fun h => absurd h (by decide)⟩
set_option maxRecDepth 100000 in
theorem tmo_218 : xmok cX6_status 4 xm_218 := xmok_of (by decide +kernel)
theorem tm_218 : Pm (xm_218, yX6_status, cX6_status, 4) := ⟨rfl, ⟨by decide +kernel, (xTs_in (tin_6 _ (List.mem_of_getElem? (i := 103) rfl)) rfl)⟩, by decide, rfl, tmo_218, fun h => absurd h (by decide)⟩
set_option maxRecDepth 100000 in
theorem tmo_219 : xmok cJ6_bitCount_0f7a4 1 xm_219 := xmok_of (by decide +kernel)
theorem tm_219 : Pm (xm_219, yJ6_bitCount_0f7a4, cJ6_bitCount_0f7a4, 1) := ⟨rfl, ⟨by decide +kernel, (xTs_in (tin_2 _ (List.mem_of_getElem? (i := 184) rfl)) rfl)⟩, by decide, rfl, tmo_219, fun h => absurd h (by decide)⟩
set_option maxRecDepth 100000 in
theorem tmo_220 : xmok cJ0_length_8abf5 1 xm_220 := xmok_of (by decide +kernel)
theorem tm_220 : Pm (xm_220, yJ0_length_8abf5, cJ0_length_8abf5, 1) := ⟨rfl, ⟨by decide +kernel, (xTs_in (tin_3 _ (List.mem_of_getElem? (i := 173) rfl)) rfl)⟩, by decide, rfl, tmo_220, fun h => absurd h (by decide)⟩
set_option maxRecDepth 100000 in
theorem tmo_221 : xmok cJ0_charAt_5068e 2 xm_221 := xmok_of (by decide +kernel)
theorem tm_221 : Pm (xm_221, yJ0_charAt_5068e, cJ0_charAt_5068e, 2) := ⟨rfl, ⟨by decide +kernel, (xTs_in (tin_3 _ (List.mem_of_getElem? (i := 183) rfl)) rfl)⟩, by decide, rfl, tmo_221, fun h => absurd h (by decide)⟩
set_option maxRecDepth 100000 in
theorem tmo_222 : xmok cJ0_coder_7d493 1 xm_222 := xmok_of (by decide +kernel)
theorem tm_222 : Pm (xm_222, yJ0_coder_7d493, cJ0_coder_7d493, 1) := ⟨rfl, ⟨by decide +kernel, (xTs_in (tin_3 _ (List.mem_of_getElem? (i := 177) rfl)) rfl)⟩, by decide, rfl, tmo_222, fun h => absurd h (by decide)⟩
set_option maxRecDepth 100000 in
theorem tmo_223 : xmok cJ0_isLatin1_aae02 1 xm_223 := xmok_of (by decide +kernel)
theorem tm_223 : Pm (xm_223, yJ0_isLatin1_aae02, cJ0_isLatin1_aae02, 1) := ⟨rfl, ⟨by decide +kernel, (xTs_in (tin_3 _ (List.mem_of_getElem? (i := 187) rfl)) rfl)⟩, by decide, rfl, tmo_223, fun h => absurd h (by decide)⟩
set_option maxRecDepth 100000 in
theorem tmo_224 : xmok cJ0_checkIndex_df160 2 xm_224 := xmok_of (by decide +kernel)
theorem tm_224 : Pm (xm_224, yJ0_checkIndex_df160, cJ0_checkIndex_df160, 2) := ⟨rfl, ⟨by decide +kernel, (xTs_in (tin_3 _ (List.mem_of_getElem? (i := 193) rfl)) rfl)⟩, by decide, rfl, tmo_224, fun h => absurd h (by decide)⟩
set_option maxRecDepth 100000 in
theorem tmo_225 : xmok cJ1_charAt_3b067 2 xm_225 := xmok_of (by decide +kernel)
theorem tm_225 : Pm (xm_225, yJ1_charAt_3b067, cJ1_charAt_3b067, 2) := ⟨rfl, ⟨by decide +kernel, (xTs_in (tin_3 _ (List.mem_of_getElem? (i := 190) rfl)) rfl)⟩, by decide, rfl, tmo_225, fun h => absurd h (by decide)⟩
set_option maxRecDepth 100000 in
theorem tmo_226 : xmok cJ3_checkIndex_8e157 3 xm_226 := xmok_of (by decide +kernel)
theorem tm_226 : Pm (xm_226, yJ3_checkIndex_8e157, cJ3_checkIndex_8e157, 3) := ⟨rfl, ⟨by decide +kernel, (xTs_in (tin_3 _ (List.mem_of_getElem? (i := 198) rfl)) rfl)⟩, by decide, rfl, tmo_226, fun h => absurd h (by decide)⟩
set_option maxRecDepth 100000 in
theorem tmo_227 : xmok cX1_init 1 xm_227 := xmok_of (by decide +kernel)
theorem tm_227 : Pm (xm_227, yX1_init, cX1_init, 1) := ⟨rfl, ⟨by decide +kernel, (xTs_in (tin_1 _ (List.mem_of_getElem? (i := 105) rfl)) rfl)⟩, by decide, rfl, tmo_227, fun _ => rfl⟩
set_option maxRecDepth 100000 in
theorem tmo_228 : xmok cX2_init 1 xm_228 := xmok_of (by decide +kernel)
theorem tm_228 : Pm (xm_228, yX2_init, cX2_init, 1) := ⟨rfl, ⟨by decide +kernel, (xTs_in (tin_1 _ (List.mem_of_getElem? (i := 27) rfl)) rfl)⟩, by decide, rfl, tmo_228, fun _ => rfl⟩
set_option maxRecDepth 100000 in
theorem tmo_229 : xmok cX3_init 1 xm_229 := xmok_of (by decide +kernel)
theorem tm_229 : Pm (xm_229, yX3_init, cX3_init, 1) := ⟨rfl, ⟨by decide +kernel, (xTs_in (tin_1 _ (List.mem_of_getElem? (i := 202) rfl)) rfl)⟩, by decide, rfl, tmo_229, fun _ => rfl⟩
set_option maxRecDepth 100000 in
theorem tmo_230 : xmok cX4_init 1 xm_230 := xmok_of (by decide +kernel)
theorem tm_230 : Pm (xm_230, yX4_init, cX4_init, 1) := ⟨rfl, ⟨by decide +kernel, (xTs_in (tin_1 _ (List.mem_of_getElem? (i := 164) rfl)) rfl)⟩, by decide, rfl, tmo_230, fun _ => rfl⟩
set_option maxRecDepth 100000 in
theorem tmo_231 : xmok cX5_init 1 xm_231 := xmok_of (by decide +kernel)
theorem tm_231 : Pm (xm_231, yX5_init, cX5_init, 1) := ⟨rfl, ⟨by decide +kernel, (xTs_in (tin_1 _ (List.mem_of_getElem? (i := 19) rfl)) rfl)⟩, by decide, rfl, tmo_231, fun _ => rfl⟩
set_option maxRecDepth 100000 in
theorem tmo_232_0 : xm_232_0.all (fun r => xenok cX6_init 2 r) = true := by decide +kernel
set_option maxRecDepth 100000 in
theorem tmo_232_1 : xm_232_1.all (fun r => xenok cX6_init 2 r) = true := by decide +kernel
set_option maxRecDepth 100000 in
theorem tmo_232_2 : xm_232_2.all (fun r => xenok cX6_init 2 r) = true := by decide +kernel
set_option maxRecDepth 100000 in
theorem tmo_232_3 : xm_232_3.all (fun r => xenok cX6_init 2 r) = true := by decide +kernel
set_option maxRecDepth 100000 in
theorem tmo_232_4 : xm_232_4.all (fun r => xenok cX6_init 2 r) = true := by decide +kernel
set_option maxRecDepth 100000 in
theorem tmo_232_5 : xm_232_5.all (fun r => xenok cX6_init 2 r) = true := by decide +kernel
set_option maxRecDepth 100000 in
theorem tmo_232_6 : xm_232_6.all (fun r => xenok cX6_init 2 r) = true := by decide +kernel
set_option maxRecDepth 100000 in
theorem tmo_232_7 : xm_232_7.all (fun r => xenok cX6_init 2 r) = true := by decide +kernel
set_option maxRecDepth 100000 in
theorem tmo_232_8 : xm_232_8.all (fun r => xenok cX6_init 2 r) = true := by decide +kernel
set_option maxRecDepth 100000 in
theorem tmo_232_9 : xm_232_9.all (fun r => xenok cX6_init 2 r) = true := by decide +kernel
set_option maxRecDepth 100000 in
theorem tmo_232_10 : xm_232_10.all (fun r => xenok cX6_init 2 r) = true := by decide +kernel
set_option maxRecDepth 100000 in
theorem tmo_232_11 : xm_232_11.all (fun r => xenok cX6_init 2 r) = true := by decide +kernel
set_option maxRecDepth 100000 in
theorem tmo_232_12 : xm_232_12.all (fun r => xenok cX6_init 2 r) = true := by decide +kernel
set_option maxRecDepth 100000 in
theorem tmo_232_13 : xm_232_13.all (fun r => xenok cX6_init 2 r) = true := by decide +kernel
set_option maxRecDepth 100000 in
theorem tmo_232_14 : xm_232_14.all (fun r => xenok cX6_init 2 r) = true := by decide +kernel
set_option maxRecDepth 100000 in
theorem tmo_232_15 : xm_232_15.all (fun r => xenok cX6_init 2 r) = true := by decide +kernel
set_option maxRecDepth 100000 in
theorem tmo_232_16 : xm_232_16.all (fun r => xenok cX6_init 2 r) = true := by decide +kernel
set_option maxRecDepth 100000 in
theorem tmo_232_17 : xm_232_17.all (fun r => xenok cX6_init 2 r) = true := by decide +kernel
set_option maxRecDepth 100000 in
theorem tmo_232_18 : xm_232_18.all (fun r => xenok cX6_init 2 r) = true := by decide +kernel
set_option maxRecDepth 100000 in
theorem tmo_232_19 : xm_232_19.all (fun r => xenok cX6_init 2 r) = true := by decide +kernel
set_option maxRecDepth 100000 in
theorem tmo_232_20 : xm_232_20.all (fun r => xenok cX6_init 2 r) = true := by decide +kernel
set_option maxRecDepth 100000 in
theorem tmo_232_21 : xm_232_21.all (fun r => xenok cX6_init 2 r) = true := by decide +kernel
set_option maxRecDepth 100000 in
theorem tmo_232_22 : xm_232_22.all (fun r => xenok cX6_init 2 r) = true := by decide +kernel
set_option maxRecDepth 100000 in
theorem tmo_232_23 : xm_232_23.all (fun r => xenok cX6_init 2 r) = true := by decide +kernel
set_option maxRecDepth 100000 in
theorem tmo_232_24 : xm_232_24.all (fun r => xenok cX6_init 2 r) = true := by decide +kernel
set_option maxRecDepth 100000 in
theorem tmo_232_25 : xm_232_25.all (fun r => xenok cX6_init 2 r) = true := by decide +kernel
set_option maxRecDepth 100000 in
theorem tmo_232_26 : xm_232_26.all (fun r => xenok cX6_init 2 r) = true := by decide +kernel
set_option maxRecDepth 100000 in
theorem tmo_232_27 : xm_232_27.all (fun r => xenok cX6_init 2 r) = true := by decide +kernel
set_option maxRecDepth 100000 in
theorem tmo_232_28 : xm_232_28.all (fun r => xenok cX6_init 2 r) = true := by decide +kernel
set_option maxRecDepth 100000 in
theorem tmo_232_29 : xm_232_29.all (fun r => xenok cX6_init 2 r) = true := by decide +kernel
theorem tmo_232 : xmok cX6_init 2 xm_232 := by
  refine ⟨?_, ?_⟩
  · show ∀ ch ∈ [xm_232_0, xm_232_1, xm_232_2, xm_232_3, xm_232_4, xm_232_5, xm_232_6, xm_232_7, xm_232_8, xm_232_9, xm_232_10, xm_232_11, xm_232_12, xm_232_13, xm_232_14, xm_232_15, xm_232_16, xm_232_17, xm_232_18, xm_232_19, xm_232_20, xm_232_21, xm_232_22, xm_232_23, xm_232_24, xm_232_25, xm_232_26, xm_232_27, xm_232_28, xm_232_29], ∀ r ∈ ch, xenok cX6_init 2 r = true
    exact List.forall_mem_cons.mpr ⟨fun r h => List.all_eq_true.mp tmo_232_0 r h, List.forall_mem_cons.mpr ⟨fun r h => List.all_eq_true.mp tmo_232_1 r h, List.forall_mem_cons.mpr ⟨fun r h => List.all_eq_true.mp tmo_232_2 r h, List.forall_mem_cons.mpr ⟨fun r h => List.all_eq_true.mp tmo_232_3 r h, List.forall_mem_cons.mpr ⟨fun r h => List.all_eq_true.mp tmo_232_4 r h, List.forall_mem_cons.mpr ⟨fun r h => List.all_eq_true.mp tmo_232_5 r h, List.forall_mem_cons.mpr ⟨fun r h => List.all_eq_true.mp tmo_232_6 r h, List.forall_mem_cons.mpr ⟨fun r h => List.all_eq_true.mp tmo_232_7 r h, List.forall_mem_cons.mpr ⟨fun r h => List.all_eq_true.mp tmo_232_8 r h, List.forall_mem_cons.mpr ⟨fun r h => List.all_eq_true.mp tmo_232_9 r h, List.forall_mem_cons.mpr ⟨fun r h => List.all_eq_true.mp tmo_232_10 r h, List.forall_mem_cons.mpr ⟨fun r h => List.all_eq_true.mp tmo_232_11 r h, List.forall_mem_cons.mpr ⟨fun r h => List.all_eq_true.mp tmo_232_12 r h, List.forall_mem_cons.mpr ⟨fun r h => List.all_eq_true.mp tmo_232_13 r h, List.forall_mem_cons.mpr ⟨fun r h => List.all_eq_true.mp tmo_232_14 r h, List.forall_mem_cons.mpr ⟨fun r h => List.all_eq_true.mp tmo_232_15 r h, List.forall_mem_cons.mpr ⟨fun r h => List.all_eq_true.mp tmo_232_16 r h, List.forall_mem_cons.mpr ⟨fun r h => List.all_eq_true.mp tmo_232_17 r h, List.forall_mem_cons.mpr ⟨fun r h => List.all_eq_true.mp tmo_232_18 r h, List.forall_mem_cons.mpr ⟨fun r h => List.all_eq_true.mp tmo_232_19 r h, List.forall_mem_cons.mpr ⟨fun r h => List.all_eq_true.mp tmo_232_20 r h, List.forall_mem_cons.mpr ⟨fun r h => List.all_eq_true.mp tmo_232_21 r h, List.forall_mem_cons.mpr ⟨fun r h => List.all_eq_true.mp tmo_232_22 r h, List.forall_mem_cons.mpr ⟨fun r h => List.all_eq_true.mp tmo_232_23 r h, List.forall_mem_cons.mpr ⟨fun r h => List.all_eq_true.mp tmo_232_24 r h, List.forall_mem_cons.mpr ⟨fun r h => List.all_eq_true.mp tmo_232_25 r h, List.forall_mem_cons.mpr ⟨fun r h => List.all_eq_true.mp tmo_232_26 r h, List.forall_mem_cons.mpr ⟨fun r h => List.all_eq_true.mp tmo_232_27 r h, List.forall_mem_cons.mpr ⟨fun r h => List.all_eq_true.mp tmo_232_28 r h, List.forall_mem_cons.mpr ⟨fun r h => List.all_eq_true.mp tmo_232_29 r h, fun _ h => absurd h List.not_mem_nil⟩⟩⟩⟩⟩⟩⟩⟩⟩⟩⟩⟩⟩⟩⟩⟩⟩⟩⟩⟩⟩⟩⟩⟩⟩⟩⟩⟩⟩⟩
  · decide
theorem tm_232 : Pm (xm_232, yX6_init, cX6_init, 2) := ⟨rfl, ⟨by decide +kernel, (xTs_in (tin_4 _ (List.mem_of_getElem? (i := 124) rfl)) rfl)⟩, by decide, rfl, tmo_232, fun _ => rfl⟩
def xML_0 : List xMe := [(xm_0, yX0_noiseOf, cX0_noiseOf, 3), (xm_1, yX0_fallingNoise, cX0_fallingNoise, 2), (xm_2, yX0_leftBy, cX0_leftBy, 2), (xm_3, yX0_lastedBy, cX0_lastedBy, 2), (xm_4, yX0_isUnder, cX0_isUnder, 4), (xm_5, yX1_startFrom, cX1_startFrom, 2), (xm_6, yX1_rest, cX1_rest, 1), (xm_7, yX1_canFollow, cX1_canFollow, 3), (xm_8, yX1_haveWay, cX1_haveWay, 4), (xm_9, yX1_canStand, cX1_canStand, 4), (xm_10, yX1_score, cX1_score, 6), (xm_11, yX1_weigh, cX1_weigh, 4), (xm_12, yX1_findFollowers, cX1_findFollowers, 3), (xm_13, yX1_mostBehind, cX1_mostBehind, 4), (xm_14, yX1_findFirst, cX1_findFirst, 6), (xm_15, yX1_firstBehind, cX1_firstBehind, 4), (xm_16, yX1_countWays, cX1_countWays, 4), (xm_17, yX1_lastOnes, cX1_lastOnes, 3), (xm_18, yX1_allAhead, cX1_allAhead, 6), (xm_19, yX1_earliest, cX1_earliest, 2), (xm_20, yX1_latest, cX1_latest, 5), (xm_21, yX1_fewestBroken, cX1_fewestBroken, 5), (xm_22, yX1_bestKind, cX1_bestKind, 6), (xm_23, yX1_freeOne, cX1_freeOne, 6), (xm_24, yX2_become, cX2_become, 2), (xm_25, yX2_isBow, cX2_isBow, 2), (xm_26, yX2_isSetWithout, cX2_isSetWithout, 3), (xm_27, yX2_addBow, cX2_addBow, 3), (xm_28, yX2_noiseBy, cX2_noiseBy, 3), (xm_29, yX2_leftBy, cX2_leftBy, 2), (xm_30, yX2_leftByLatest, cX2_leftByLatest, 1), (xm_31, yX2_lastedBy, cX2_lastedBy, 2), (xm_32, yX2_hasCome, cX2_hasCome, 2), (xm_33, yX2_couldCome, cX2_couldCome, 3), (xm_34, yX2_comers, cX2_comers, 3), (xm_35, yX2_enter, cX2_enter, 4), (xm_36, yX2_leave, cX2_leave, 2), (xm_37, yX2_empty, cX2_empty, 1), (xm_38, yX2_falls, cX2_falls, 4), (xm_39, yX2_draw, cX2_draw, 1)]
theorem tml_0 : ∀ e ∈ xML_0, Pm e := by
  unfold xML_0
  exact List.forall_mem_cons.mpr ⟨tm_0, List.forall_mem_cons.mpr ⟨tm_1, List.forall_mem_cons.mpr ⟨tm_2, List.forall_mem_cons.mpr ⟨tm_3, List.forall_mem_cons.mpr ⟨tm_4, List.forall_mem_cons.mpr ⟨tm_5, List.forall_mem_cons.mpr ⟨tm_6, List.forall_mem_cons.mpr ⟨tm_7, List.forall_mem_cons.mpr ⟨tm_8, List.forall_mem_cons.mpr ⟨tm_9, List.forall_mem_cons.mpr ⟨tm_10, List.forall_mem_cons.mpr ⟨tm_11, List.forall_mem_cons.mpr ⟨tm_12, List.forall_mem_cons.mpr ⟨tm_13, List.forall_mem_cons.mpr ⟨tm_14, List.forall_mem_cons.mpr ⟨tm_15, List.forall_mem_cons.mpr ⟨tm_16, List.forall_mem_cons.mpr ⟨tm_17, List.forall_mem_cons.mpr ⟨tm_18, List.forall_mem_cons.mpr ⟨tm_19, List.forall_mem_cons.mpr ⟨tm_20, List.forall_mem_cons.mpr ⟨tm_21, List.forall_mem_cons.mpr ⟨tm_22, List.forall_mem_cons.mpr ⟨tm_23, List.forall_mem_cons.mpr ⟨tm_24, List.forall_mem_cons.mpr ⟨tm_25, List.forall_mem_cons.mpr ⟨tm_26, List.forall_mem_cons.mpr ⟨tm_27, List.forall_mem_cons.mpr ⟨tm_28, List.forall_mem_cons.mpr ⟨tm_29, List.forall_mem_cons.mpr ⟨tm_30, List.forall_mem_cons.mpr ⟨tm_31, List.forall_mem_cons.mpr ⟨tm_32, List.forall_mem_cons.mpr ⟨tm_33, List.forall_mem_cons.mpr ⟨tm_34, List.forall_mem_cons.mpr ⟨tm_35, List.forall_mem_cons.mpr ⟨tm_36, List.forall_mem_cons.mpr ⟨tm_37, List.forall_mem_cons.mpr ⟨tm_38, List.forall_mem_cons.mpr ⟨tm_39, fun _ h => absurd h List.not_mem_nil⟩⟩⟩⟩⟩⟩⟩⟩⟩⟩⟩⟩⟩⟩⟩⟩⟩⟩⟩⟩⟩⟩⟩⟩⟩⟩⟩⟩⟩⟩⟩⟩⟩⟩⟩⟩⟩⟩⟩⟩
def xML_1 : List xMe := [(xm_40, yX2_contracts, cX2_contracts, 3), (xm_41, yX2_lovesTogether, cX2_lovesTogether, 3), (xm_42, yX2_heldSpots, cX2_heldSpots, 3), (xm_43, yX3_isSheet, cX3_isSheet, 2), (xm_44, yX3_wrongWith, cX3_wrongWith, 2), (xm_45, yX3_lay, cX3_lay, 5), (xm_46, yX3_numberAt, cX3_numberAt, 3), (xm_47, yX3_set, cX3_set, 5), (xm_48, yX3_hasPart, cX3_hasPart, 4), (xm_49, yX3_move, cX3_move, 6), (xm_50, yX4_hasRoom, cX4_hasRoom, 2), (xm_51, yX4_append, cX4_append, 4), (xm_52, yX4_empty, cX4_empty, 2), (xm_53, yX4_readOnto, cX4_readOnto, 3), (xm_54, yX4_readItem, cX4_readItem, 2), (xm_55, yX4_readBow, cX4_readBow, 3), (xm_56, yX4_readPart, cX4_readPart, 6), (xm_57, yX4_readRule, cX4_readRule, 3), (xm_58, yX4_readContract, cX4_readContract, 3), (xm_59, yX4_isNumber, cX4_isNumber, 3), (xm_60, yX4_cut, cX4_cut, 5), (xm_61, yX4_valueOf, cX4_valueOf, 2), (xm_62, yX4_sortOf, cX4_sortOf, 1), (xm_63, yX4_take, cX4_take, 2), (xm_64, yX4_wordAt, cX4_wordAt, 4), (xm_65, yX4_isWord, cX4_isWord, 5), (xm_66, yX4_numberAt, cX4_numberAt, 5), (xm_67, yX4_spelled, cX4_spelled, 1), (xm_68, yX5_bow, cX5_bow, 2), (xm_69, yX5_of, cX5_of, 3), (xm_70, yX5_change, cX5_change, 4), (xm_71, yX5_contract, cX5_contract, 6), (xm_72, yX5_rule, cX5_rule, 3), (xm_73, yX5_noise, cX5_noise, 3), (xm_74, yX5_come, cX5_come, 2), (xm_75, yX5_back, cX5_back, 1), (xm_76, yX5_clear, cX5_clear, 2), (xm_77, yX5_stood, cX5_stood, 2), (xm_78, yX5_now, cX5_now, 2), (xm_79, yX5_best, cX5_best, 3)]
theorem tml_1 : ∀ e ∈ xML_1, Pm e := by
  unfold xML_1
  exact List.forall_mem_cons.mpr ⟨tm_40, List.forall_mem_cons.mpr ⟨tm_41, List.forall_mem_cons.mpr ⟨tm_42, List.forall_mem_cons.mpr ⟨tm_43, List.forall_mem_cons.mpr ⟨tm_44, List.forall_mem_cons.mpr ⟨tm_45, List.forall_mem_cons.mpr ⟨tm_46, List.forall_mem_cons.mpr ⟨tm_47, List.forall_mem_cons.mpr ⟨tm_48, List.forall_mem_cons.mpr ⟨tm_49, List.forall_mem_cons.mpr ⟨tm_50, List.forall_mem_cons.mpr ⟨tm_51, List.forall_mem_cons.mpr ⟨tm_52, List.forall_mem_cons.mpr ⟨tm_53, List.forall_mem_cons.mpr ⟨tm_54, List.forall_mem_cons.mpr ⟨tm_55, List.forall_mem_cons.mpr ⟨tm_56, List.forall_mem_cons.mpr ⟨tm_57, List.forall_mem_cons.mpr ⟨tm_58, List.forall_mem_cons.mpr ⟨tm_59, List.forall_mem_cons.mpr ⟨tm_60, List.forall_mem_cons.mpr ⟨tm_61, List.forall_mem_cons.mpr ⟨tm_62, List.forall_mem_cons.mpr ⟨tm_63, List.forall_mem_cons.mpr ⟨tm_64, List.forall_mem_cons.mpr ⟨tm_65, List.forall_mem_cons.mpr ⟨tm_66, List.forall_mem_cons.mpr ⟨tm_67, List.forall_mem_cons.mpr ⟨tm_68, List.forall_mem_cons.mpr ⟨tm_69, List.forall_mem_cons.mpr ⟨tm_70, List.forall_mem_cons.mpr ⟨tm_71, List.forall_mem_cons.mpr ⟨tm_72, List.forall_mem_cons.mpr ⟨tm_73, List.forall_mem_cons.mpr ⟨tm_74, List.forall_mem_cons.mpr ⟨tm_75, List.forall_mem_cons.mpr ⟨tm_76, List.forall_mem_cons.mpr ⟨tm_77, List.forall_mem_cons.mpr ⟨tm_78, List.forall_mem_cons.mpr ⟨tm_79, fun _ h => absurd h List.not_mem_nil⟩⟩⟩⟩⟩⟩⟩⟩⟩⟩⟩⟩⟩⟩⟩⟩⟩⟩⟩⟩⟩⟩⟩⟩⟩⟩⟩⟩⟩⟩⟩⟩⟩⟩⟩⟩⟩⟩⟩⟩
def xML_2 : List xMe := [(xm_80, yX5_ith, cX5_ith, 3), (xm_81, yX5_ways, cX5_ways, 1), (xm_82, yX5_lasts, cX5_lasts, 1), (xm_83, yX5_place, cX5_place, 3), (xm_84, yX5_all, cX5_all, 2), (xm_85, yX5_clash, cX5_clash, 3), (xm_86, yX5_broken, cX5_broken, 1), (xm_87, yX5_between, cX5_between, 7), (xm_88, yX5_kindFor, cX5_kindFor, 2), (xm_89, yX5_freed, cX5_freed, 1), (xm_90, yX5_free, cX5_free, 1), (xm_91, yX5_train, cX5_train, 4), (xm_92, yX5_fits, cX5_fits, 6), (xm_93, yX5_love, cX5_love, 5), (xm_94, yX5_curtain, cX5_curtain, 8), (xm_95, yX5_stop, cX5_stop, 2), (xm_96, yX5_evening, cX5_evening, 4), (xm_97, yX5_lot, cX5_lot, 5), (xm_98, yX5_seed, cX5_seed, 3), (xm_99, yX5_feed, cX5_feed, 3), (xm_100, yX5_wipe, cX5_wipe, 1), (xm_101, yX5_text, cX5_text, 2), (xm_102, yX5_hold, cX5_hold, 3), (xm_103, yX5_as, cX5_as, 4), (xm_104, yX5_sheet, cX5_sheet, 4), (xm_105, yX5_write, cX5_write, 5), (xm_106, yX5_copy, cX5_copy, 6), (xm_107, yX5_load, cX5_load, 5), (xm_108, yX5_judge, cX5_judge, 3), (xm_109, yX5_loud, cX5_loud, 7), (xm_110, yX5_image, cX5_image, 1), (xm_111, yX5_undo, cX5_undo, 1), (xm_112, yX5_tear, cX5_tear, 2), (xm_113, yX5_count, cX5_count, 2), (xm_114, yX5_status, cX5_status, 4), (xm_115, yX5_finding, cX5_finding, 2), (xm_116, yX5_isIn, cX5_isIn, 3), (xm_117, yX5_put, cX5_put, 4), (xm_118, yX5_memberOf, cX5_memberOf, 5), (xm_119, yX5_gainAt, cX5_gainAt, 2)]
theorem tml_2 : ∀ e ∈ xML_2, Pm e := by
  unfold xML_2
  exact List.forall_mem_cons.mpr ⟨tm_80, List.forall_mem_cons.mpr ⟨tm_81, List.forall_mem_cons.mpr ⟨tm_82, List.forall_mem_cons.mpr ⟨tm_83, List.forall_mem_cons.mpr ⟨tm_84, List.forall_mem_cons.mpr ⟨tm_85, List.forall_mem_cons.mpr ⟨tm_86, List.forall_mem_cons.mpr ⟨tm_87, List.forall_mem_cons.mpr ⟨tm_88, List.forall_mem_cons.mpr ⟨tm_89, List.forall_mem_cons.mpr ⟨tm_90, List.forall_mem_cons.mpr ⟨tm_91, List.forall_mem_cons.mpr ⟨tm_92, List.forall_mem_cons.mpr ⟨tm_93, List.forall_mem_cons.mpr ⟨tm_94, List.forall_mem_cons.mpr ⟨tm_95, List.forall_mem_cons.mpr ⟨tm_96, List.forall_mem_cons.mpr ⟨tm_97, List.forall_mem_cons.mpr ⟨tm_98, List.forall_mem_cons.mpr ⟨tm_99, List.forall_mem_cons.mpr ⟨tm_100, List.forall_mem_cons.mpr ⟨tm_101, List.forall_mem_cons.mpr ⟨tm_102, List.forall_mem_cons.mpr ⟨tm_103, List.forall_mem_cons.mpr ⟨tm_104, List.forall_mem_cons.mpr ⟨tm_105, List.forall_mem_cons.mpr ⟨tm_106, List.forall_mem_cons.mpr ⟨tm_107, List.forall_mem_cons.mpr ⟨tm_108, List.forall_mem_cons.mpr ⟨tm_109, List.forall_mem_cons.mpr ⟨tm_110, List.forall_mem_cons.mpr ⟨tm_111, List.forall_mem_cons.mpr ⟨tm_112, List.forall_mem_cons.mpr ⟨tm_113, List.forall_mem_cons.mpr ⟨tm_114, List.forall_mem_cons.mpr ⟨tm_115, List.forall_mem_cons.mpr ⟨tm_116, List.forall_mem_cons.mpr ⟨tm_117, List.forall_mem_cons.mpr ⟨tm_118, List.forall_mem_cons.mpr ⟨tm_119, fun _ h => absurd h List.not_mem_nil⟩⟩⟩⟩⟩⟩⟩⟩⟩⟩⟩⟩⟩⟩⟩⟩⟩⟩⟩⟩⟩⟩⟩⟩⟩⟩⟩⟩⟩⟩⟩⟩⟩⟩⟩⟩⟩⟩⟩⟩
def xML_3 : List xMe := [(xm_120, yX5_partsFrom, cX5_partsFrom, 4), (xm_121, yX5_worth, cX5_worth, 12), (xm_122, yX5_firstThatCannot, cX5_firstThatCannot, 5), (xm_123, yX6_no, cX6_no, 2), (xm_124, yX6_in1, cX6_in1, 3), (xm_125, yX6_most, cX6_most, 2), (xm_126, yX6_bits, cX6_bits, 3), (xm_127, yX6_isIn, cX6_isIn, 2), (xm_128, yX6_isBow, cX6_isBow, 2), (xm_129, yX6_get, cX6_get, 3), (xm_130, yX6_puts, cX6_puts, 4), (xm_131, yX6_allBows, cX6_allBows, 1), (xm_132, yX6_noiseOf, cX6_noiseOf, 5), (xm_133, yX6_noiseBy, cX6_noiseBy, 3), (xm_134, yX6_leaves, cX6_leaves, 3), (xm_135, yX6_secondsOf, cX6_secondsOf, 3), (xm_136, yX6_leftBy, cX6_leftBy, 2), (xm_137, yX6_whoAt, cX6_whoAt, 2), (xm_138, yX6_stageSet, cX6_stageSet, 3), (xm_139, yX6_latest, cX6_latest, 1), (xm_140, yX6_canBehind, cX6_canBehind, 3), (xm_141, yX6_canSet, cX6_canSet, 4), (xm_142, yX6_comes, cX6_comes, 4), (xm_143, yX6_addsBow, cX6_addsBow, 3), (xm_144, yX6_bow, cX6_bow, 2), (xm_145, yX6_of, cX6_of, 3), (xm_146, yX6_change, cX6_change, 6), (xm_147, yX6_contract, cX6_contract, 5), (xm_148, yX6_greatestRule, cX6_greatestRule, 1), (xm_149, yX6_rule, cX6_rule, 4), (xm_150, yX6_noise, cX6_noise, 3), (xm_151, yX6_come, cX6_come, 2), (xm_152, yX6_back, cX6_back, 2), (xm_153, yX6_clear, cX6_clear, 2), (xm_154, yX6_stood, cX6_stood, 2), (xm_155, yX6_fallsOfStage, cX6_fallsOfStage, 3), (xm_156, yX6_now, cX6_now, 2), (xm_157, yX6_brings, cX6_brings, 5), (xm_158, yX6_findsBest, cX6_findsBest, 10), (xm_159, yX6_findsRow, cX6_findsRow, 8)]
theorem tml_3 : ∀ e ∈ xML_3, Pm e := by
  unfold xML_3
  exact List.forall_mem_cons.mpr ⟨tm_120, List.forall_mem_cons.mpr ⟨tm_121, List.forall_mem_cons.mpr ⟨tm_122, List.forall_mem_cons.mpr ⟨tm_123, List.forall_mem_cons.mpr ⟨tm_124, List.forall_mem_cons.mpr ⟨tm_125, List.forall_mem_cons.mpr ⟨tm_126, List.forall_mem_cons.mpr ⟨tm_127, List.forall_mem_cons.mpr ⟨tm_128, List.forall_mem_cons.mpr ⟨tm_129, List.forall_mem_cons.mpr ⟨tm_130, List.forall_mem_cons.mpr ⟨tm_131, List.forall_mem_cons.mpr ⟨tm_132, List.forall_mem_cons.mpr ⟨tm_133, List.forall_mem_cons.mpr ⟨tm_134, List.forall_mem_cons.mpr ⟨tm_135, List.forall_mem_cons.mpr ⟨tm_136, List.forall_mem_cons.mpr ⟨tm_137, List.forall_mem_cons.mpr ⟨tm_138, List.forall_mem_cons.mpr ⟨tm_139, List.forall_mem_cons.mpr ⟨tm_140, List.forall_mem_cons.mpr ⟨tm_141, List.forall_mem_cons.mpr ⟨tm_142, List.forall_mem_cons.mpr ⟨tm_143, List.forall_mem_cons.mpr ⟨tm_144, List.forall_mem_cons.mpr ⟨tm_145, List.forall_mem_cons.mpr ⟨tm_146, List.forall_mem_cons.mpr ⟨tm_147, List.forall_mem_cons.mpr ⟨tm_148, List.forall_mem_cons.mpr ⟨tm_149, List.forall_mem_cons.mpr ⟨tm_150, List.forall_mem_cons.mpr ⟨tm_151, List.forall_mem_cons.mpr ⟨tm_152, List.forall_mem_cons.mpr ⟨tm_153, List.forall_mem_cons.mpr ⟨tm_154, List.forall_mem_cons.mpr ⟨tm_155, List.forall_mem_cons.mpr ⟨tm_156, List.forall_mem_cons.mpr ⟨tm_157, List.forall_mem_cons.mpr ⟨tm_158, List.forall_mem_cons.mpr ⟨tm_159, fun _ h => absurd h List.not_mem_nil⟩⟩⟩⟩⟩⟩⟩⟩⟩⟩⟩⟩⟩⟩⟩⟩⟩⟩⟩⟩⟩⟩⟩⟩⟩⟩⟩⟩⟩⟩⟩⟩⟩⟩⟩⟩⟩⟩⟩⟩
def xML_4 : List xMe := [(xm_160, yX6_best, cX6_best, 3), (xm_161, yX6_ith, cX6_ith, 4), (xm_162, yX6_countsWays, cX6_countsWays, 5), (xm_163, yX6_ways, cX6_ways, 1), (xm_164, yX6_lasts, cX6_lasts, 5), (xm_165, yX6_place, cX6_place, 8), (xm_166, yX6_allAhead, cX6_allAhead, 5), (xm_167, yX6_all, cX6_all, 2), (xm_168, yX6_clash, cX6_clash, 3), (xm_169, yX6_broken, cX6_broken, 4), (xm_170, yX6_between, cX6_between, 7), (xm_171, yX6_kindFor, cX6_kindFor, 7), (xm_172, yX6_findsFreed, cX6_findsFreed, 7), (xm_173, yX6_freed, cX6_freed, 2), (xm_174, yX6_free, cX6_free, 2), (xm_175, yX6_train, cX6_train, 4), (xm_176, yX6_isAsked, cX6_isAsked, 3), (xm_177, yX6_fits, cX6_fits, 6), (xm_178, yX6_love, cX6_love, 6), (xm_179, yX6_silentAt, cX6_silentAt, 3), (xm_180, yX6_tens, cX6_tens, 4), (xm_181, yX6_worthFrom, cX6_worthFrom, 7), (xm_182, yX6_curtain, cX6_curtain, 13), (xm_183, yX6_stop, cX6_stop, 2), (xm_184, yX6_draw, cX6_draw, 1), (xm_185, yX6_evening, cX6_evening, 5), (xm_186, yX6_lot, cX6_lot, 6), (xm_187, yX6_seed, cX6_seed, 3), (xm_188, yX6_setsAside, cX6_setsAside, 2), (xm_189, yX6_laysBack, cX6_laysBack, 2), (xm_190, yX6_feed, cX6_feed, 4), (xm_191, yX6_wipe, cX6_wipe, 2), (xm_192, yX6_isLetter, cX6_isLetter, 1), (xm_193, yX6_isDigit, cX6_isDigit, 1), (xm_194, yX6_nextToken, cX6_nextToken, 1), (xm_195, yX6_wordOf, cX6_wordOf, 7), (xm_196, yX6_takesNumber, cX6_takesNumber, 4), (xm_197, yX6_readsBow, cX6_readsBow, 6), (xm_198, yX6_readsContract, cX6_readsContract, 3), (xm_199, yX6_readsItem, cX6_readsItem, 4)]
theorem tml_4 : ∀ e ∈ xML_4, Pm e := by
  unfold xML_4
  exact List.forall_mem_cons.mpr ⟨tm_160, List.forall_mem_cons.mpr ⟨tm_161, List.forall_mem_cons.mpr ⟨tm_162, List.forall_mem_cons.mpr ⟨tm_163, List.forall_mem_cons.mpr ⟨tm_164, List.forall_mem_cons.mpr ⟨tm_165, List.forall_mem_cons.mpr ⟨tm_166, List.forall_mem_cons.mpr ⟨tm_167, List.forall_mem_cons.mpr ⟨tm_168, List.forall_mem_cons.mpr ⟨tm_169, List.forall_mem_cons.mpr ⟨tm_170, List.forall_mem_cons.mpr ⟨tm_171, List.forall_mem_cons.mpr ⟨tm_172, List.forall_mem_cons.mpr ⟨tm_173, List.forall_mem_cons.mpr ⟨tm_174, List.forall_mem_cons.mpr ⟨tm_175, List.forall_mem_cons.mpr ⟨tm_176, List.forall_mem_cons.mpr ⟨tm_177, List.forall_mem_cons.mpr ⟨tm_178, List.forall_mem_cons.mpr ⟨tm_179, List.forall_mem_cons.mpr ⟨tm_180, List.forall_mem_cons.mpr ⟨tm_181, List.forall_mem_cons.mpr ⟨tm_182, List.forall_mem_cons.mpr ⟨tm_183, List.forall_mem_cons.mpr ⟨tm_184, List.forall_mem_cons.mpr ⟨tm_185, List.forall_mem_cons.mpr ⟨tm_186, List.forall_mem_cons.mpr ⟨tm_187, List.forall_mem_cons.mpr ⟨tm_188, List.forall_mem_cons.mpr ⟨tm_189, List.forall_mem_cons.mpr ⟨tm_190, List.forall_mem_cons.mpr ⟨tm_191, List.forall_mem_cons.mpr ⟨tm_192, List.forall_mem_cons.mpr ⟨tm_193, List.forall_mem_cons.mpr ⟨tm_194, List.forall_mem_cons.mpr ⟨tm_195, List.forall_mem_cons.mpr ⟨tm_196, List.forall_mem_cons.mpr ⟨tm_197, List.forall_mem_cons.mpr ⟨tm_198, List.forall_mem_cons.mpr ⟨tm_199, fun _ h => absurd h List.not_mem_nil⟩⟩⟩⟩⟩⟩⟩⟩⟩⟩⟩⟩⟩⟩⟩⟩⟩⟩⟩⟩⟩⟩⟩⟩⟩⟩⟩⟩⟩⟩⟩⟩⟩⟩⟩⟩⟩⟩⟩⟩
def xML_5 : List xMe := [(xm_200, yX6_text, cX6_text, 3), (xm_201, yX6_isSpot, cX6_isSpot, 1), (xm_202, yX6_hold, cX6_hold, 3), (xm_203, yX6_above, cX6_above, 1), (xm_204, yX6_isSheet, cX6_isSheet, 1), (xm_205, yX6_wrongSheet, cX6_wrongSheet, 2), (xm_206, yX6_as, cX6_as, 5), (xm_207, yX6_sheet, cX6_sheet, 5), (xm_208, yX6_write, cX6_write, 5), (xm_209, yX6_copy, cX6_copy, 7), (xm_210, yX6_load, cX6_load, 4), (xm_211, yX6_comeOf, cX6_comeOf, 6), (xm_212, yX6_judge, cX6_judge, 4), (xm_213, yX6_loud, cX6_loud, 4), (xm_214, yX6_image, cX6_image, 2), (xm_215, yX6_undo, cX6_undo, 2), (xm_216, yX6_tear, cX6_tear, 2), (xm_217, yX6_count, cX6_count, 4), (xm_218, yX6_status, cX6_status, 4), (xm_219, yJ6_bitCount_0f7a4, cJ6_bitCount_0f7a4, 1), (xm_220, yJ0_length_8abf5, cJ0_length_8abf5, 1), (xm_221, yJ0_charAt_5068e, cJ0_charAt_5068e, 2), (xm_222, yJ0_coder_7d493, cJ0_coder_7d493, 1), (xm_223, yJ0_isLatin1_aae02, cJ0_isLatin1_aae02, 1), (xm_224, yJ0_checkIndex_df160, cJ0_checkIndex_df160, 2), (xm_225, yJ1_charAt_3b067, cJ1_charAt_3b067, 2), (xm_226, yJ3_checkIndex_8e157, cJ3_checkIndex_8e157, 3), (xm_227, yX1_init, cX1_init, 1), (xm_228, yX2_init, cX2_init, 1), (xm_229, yX3_init, cX3_init, 1), (xm_230, yX4_init, cX4_init, 1), (xm_231, yX5_init, cX5_init, 1), (xm_232, yX6_init, cX6_init, 2)]
theorem tml_5 : ∀ e ∈ xML_5, Pm e := by
  unfold xML_5
  exact List.forall_mem_cons.mpr ⟨tm_200, List.forall_mem_cons.mpr ⟨tm_201, List.forall_mem_cons.mpr ⟨tm_202, List.forall_mem_cons.mpr ⟨tm_203, List.forall_mem_cons.mpr ⟨tm_204, List.forall_mem_cons.mpr ⟨tm_205, List.forall_mem_cons.mpr ⟨tm_206, List.forall_mem_cons.mpr ⟨tm_207, List.forall_mem_cons.mpr ⟨tm_208, List.forall_mem_cons.mpr ⟨tm_209, List.forall_mem_cons.mpr ⟨tm_210, List.forall_mem_cons.mpr ⟨tm_211, List.forall_mem_cons.mpr ⟨tm_212, List.forall_mem_cons.mpr ⟨tm_213, List.forall_mem_cons.mpr ⟨tm_214, List.forall_mem_cons.mpr ⟨tm_215, List.forall_mem_cons.mpr ⟨tm_216, List.forall_mem_cons.mpr ⟨tm_217, List.forall_mem_cons.mpr ⟨tm_218, List.forall_mem_cons.mpr ⟨tm_219, List.forall_mem_cons.mpr ⟨tm_220, List.forall_mem_cons.mpr ⟨tm_221, List.forall_mem_cons.mpr ⟨tm_222, List.forall_mem_cons.mpr ⟨tm_223, List.forall_mem_cons.mpr ⟨tm_224, List.forall_mem_cons.mpr ⟨tm_225, List.forall_mem_cons.mpr ⟨tm_226, List.forall_mem_cons.mpr ⟨tm_227, List.forall_mem_cons.mpr ⟨tm_228, List.forall_mem_cons.mpr ⟨tm_229, List.forall_mem_cons.mpr ⟨tm_230, List.forall_mem_cons.mpr ⟨tm_231, List.forall_mem_cons.mpr ⟨tm_232, fun _ h => absurd h List.not_mem_nil⟩⟩⟩⟩⟩⟩⟩⟩⟩⟩⟩⟩⟩⟩⟩⟩⟩⟩⟩⟩⟩⟩⟩⟩⟩⟩⟩⟩⟩⟩⟩⟩⟩
def yRL_law : MethodName := ⟨RL, "law", "([I)Z"⟩
def xMLa : List xMe := xML_0 ++ (xML_1 ++ (xML_2 ++ (xML_3 ++ (xML_4 ++ (xML_5)))))
theorem tmla : ∀ e ∈ xMLa, Pm e := by
  intro e h
  unfold xMLa at h
  simp only [List.mem_append] at h
  rcases h with h | h | h | h | h | h
  · exact tml_0 e h
  · exact tml_1 e h
  · exact tml_2 e h
  · exact tml_3 e h
  · exact tml_4 e h
  · exact tml_5 e h
set_option maxRecDepth 100000 in
theorem tmo_law_0 : xm_233_0.all (fun r => xenok cL_law 4 r) = true := by decide +kernel
set_option maxRecDepth 100000 in
theorem tmo_law_1 : xm_233_1.all (fun r => xenok cL_law 4 r) = true := by decide +kernel
set_option maxRecDepth 100000 in
theorem tmo_law_7 : xm_233_7.all (fun r => xenok cL_law 4 r) = true := by decide +kernel
set_option maxRecDepth 100000 in
theorem tmo_law_8 : xm_233_8.all (fun r => xenok cL_law 4 r) = true := by decide +kernel
set_option maxRecDepth 100000 in
theorem tmo_law_9 : xm_233_9.all (fun r => xenok cL_law 4 r) = true := by decide +kernel
set_option maxRecDepth 100000 in
theorem tmo_law_10 : xm_233_10.all (fun r => xenok cL_law 4 r) = true := by decide +kernel
set_option maxRecDepth 100000 in
theorem tmo_law_11 : xm_233_11.all (fun r => xenok cL_law 4 r) = true := by decide +kernel
set_option maxRecDepth 100000 in
theorem tmo_law_12 : xm_233_12.all (fun r => xenok cL_law 4 r) = true := by decide +kernel
set_option maxRecDepth 100000 in
theorem tmo_law_13 : xm_233_13.all (fun r => xenok cL_law 4 r) = true := by decide +kernel
set_option maxRecDepth 100000 in
theorem tmo_law_14 : xm_233_14.all (fun r => xenok cL_law 4 r) = true := by decide +kernel
set_option maxRecDepth 100000 in
theorem tmo_law_15 : xm_233_15.all (fun r => xenok cL_law 4 r) = true := by decide +kernel
set_option maxRecDepth 100000 in
theorem tmo_law_16 : xm_233_16.all (fun r => xenok cL_law 4 r) = true := by decide +kernel
set_option maxRecDepth 100000 in
theorem tmo_law_17 : xm_233_17.all (fun r => xenok cL_law 4 r) = true := by decide +kernel
set_option maxRecDepth 100000 in
theorem tmo_law_18 : xm_233_18.all (fun r => xenok cL_law 4 r) = true := by decide +kernel
set_option maxRecDepth 100000 in
theorem tmo_law_19 : xm_233_19.all (fun r => xenok cL_law 4 r) = true := by decide +kernel
set_option maxRecDepth 100000 in
theorem tmo_law_20 : xm_233_20.all (fun r => xenok cL_law 4 r) = true := by decide +kernel
set_option maxRecDepth 100000 in
theorem tmo_law_21 : xm_233_21.all (fun r => xenok cL_law 4 r) = true := by decide +kernel
set_option maxRecDepth 100000 in
theorem tmo_law_22 : xm_233_22.all (fun r => xenok cL_law 4 r) = true := by decide +kernel
set_option maxRecDepth 100000 in
theorem tmo_law_23 : xm_233_23.all (fun r => xenok cL_law 4 r) = true := by decide +kernel
set_option maxRecDepth 100000 in
theorem tmo_law_24 : xm_233_24.all (fun r => xenok cL_law 4 r) = true := by decide +kernel
set_option maxRecDepth 100000 in
theorem tmo_law_25 : xm_233_25.all (fun r => xenok cL_law 4 r) = true := by decide +kernel
set_option maxRecDepth 100000 in
theorem tmo_law_26 : xm_233_26.all (fun r => xenok cL_law 4 r) = true := by decide +kernel
set_option maxRecDepth 100000 in
theorem tmo_law_27 : xm_233_27.all (fun r => xenok cL_law 4 r) = true := by decide +kernel
set_option maxRecDepth 100000 in
theorem tmo_law_28 : xm_233_28.all (fun r => xenok cL_law 4 r) = true := by decide +kernel
set_option maxRecDepth 100000 in
theorem tmo_law_29 : xm_233_29.all (fun r => xenok cL_law 4 r) = true := by decide +kernel
set_option maxRecDepth 100000 in
theorem tmo_law_30 : xm_233_30.all (fun r => xenok cL_law 4 r) = true := by decide +kernel
set_option maxRecDepth 100000 in
theorem tmo_law_31 : xm_233_31.all (fun r => xenok cL_law 4 r) = true := by decide +kernel
set_option maxRecDepth 100000 in
theorem tmo_law_32 : xm_233_32.all (fun r => xenok cL_law 4 r) = true := by decide +kernel
set_option maxRecDepth 100000 in
theorem tmo_law_33 : xm_233_33.all (fun r => xenok cL_law 4 r) = true := by decide +kernel
set_option maxRecDepth 100000 in
theorem tmo_law_34 : xm_233_34.all (fun r => xenok cL_law 4 r) = true := by decide +kernel
set_option maxRecDepth 100000 in
theorem tmo_law_35 : xm_233_35.all (fun r => xenok cL_law 4 r) = true := by decide +kernel
set_option maxRecDepth 100000 in
theorem tmo_law_36 : xm_233_36.all (fun r => xenok cL_law 4 r) = true := by decide +kernel
set_option maxRecDepth 100000 in
theorem tmo_law_37 : xm_233_37.all (fun r => xenok cL_law 4 r) = true := by decide +kernel
set_option maxRecDepth 100000 in
theorem tmo_law_38 : xm_233_38.all (fun r => xenok cL_law 4 r) = true := by decide +kernel
set_option maxRecDepth 100000 in
theorem tmo_law_39 : xm_233_39.all (fun r => xenok cL_law 4 r) = true := by decide +kernel
set_option maxRecDepth 100000 in
theorem tmo_law_40 : xm_233_40.all (fun r => xenok cL_law 4 r) = true := by decide +kernel
set_option maxRecDepth 100000 in
theorem tmo_law_41 : xm_233_41.all (fun r => xenok cL_law 4 r) = true := by decide +kernel
set_option maxRecDepth 100000 in
theorem tmo_law_42 : xm_233_42.all (fun r => xenok cL_law 4 r) = true := by decide +kernel
set_option maxRecDepth 100000 in
theorem tmo_law_43 : xm_233_43.all (fun r => xenok cL_law 4 r) = true := by decide +kernel
set_option maxRecDepth 100000 in
theorem tmo_law_44 : xm_233_44.all (fun r => xenok cL_law 4 r) = true := by decide +kernel
theorem tmo_law : xmok cL_law 4 xm_233 := by
  refine ⟨?_, ?_⟩
  · show ∀ ch ∈ [xm_233_0, xm_233_1, [], [], [], [], [], xm_233_7, xm_233_8, xm_233_9, xm_233_10, xm_233_11, xm_233_12, xm_233_13, xm_233_14, xm_233_15, xm_233_16, xm_233_17, xm_233_18, xm_233_19, xm_233_20, xm_233_21, xm_233_22, xm_233_23, xm_233_24, xm_233_25, xm_233_26, xm_233_27, xm_233_28, xm_233_29, xm_233_30, xm_233_31, xm_233_32, xm_233_33, xm_233_34, xm_233_35, xm_233_36, xm_233_37, xm_233_38, xm_233_39, xm_233_40, xm_233_41, xm_233_42, xm_233_43, xm_233_44], ∀ r ∈ ch, xenok cL_law 4 r = true
    exact List.forall_mem_cons.mpr ⟨fun r h => List.all_eq_true.mp tmo_law_0 r h, List.forall_mem_cons.mpr ⟨fun r h => List.all_eq_true.mp tmo_law_1 r h, List.forall_mem_cons.mpr ⟨fun _ h => absurd h List.not_mem_nil, List.forall_mem_cons.mpr ⟨fun _ h => absurd h List.not_mem_nil, List.forall_mem_cons.mpr ⟨fun _ h => absurd h List.not_mem_nil, List.forall_mem_cons.mpr ⟨fun _ h => absurd h List.not_mem_nil, List.forall_mem_cons.mpr ⟨fun _ h => absurd h List.not_mem_nil, List.forall_mem_cons.mpr ⟨fun r h => List.all_eq_true.mp tmo_law_7 r h, List.forall_mem_cons.mpr ⟨fun r h => List.all_eq_true.mp tmo_law_8 r h, List.forall_mem_cons.mpr ⟨fun r h => List.all_eq_true.mp tmo_law_9 r h, List.forall_mem_cons.mpr ⟨fun r h => List.all_eq_true.mp tmo_law_10 r h, List.forall_mem_cons.mpr ⟨fun r h => List.all_eq_true.mp tmo_law_11 r h, List.forall_mem_cons.mpr ⟨fun r h => List.all_eq_true.mp tmo_law_12 r h, List.forall_mem_cons.mpr ⟨fun r h => List.all_eq_true.mp tmo_law_13 r h, List.forall_mem_cons.mpr ⟨fun r h => List.all_eq_true.mp tmo_law_14 r h, List.forall_mem_cons.mpr ⟨fun r h => List.all_eq_true.mp tmo_law_15 r h, List.forall_mem_cons.mpr ⟨fun r h => List.all_eq_true.mp tmo_law_16 r h, List.forall_mem_cons.mpr ⟨fun r h => List.all_eq_true.mp tmo_law_17 r h, List.forall_mem_cons.mpr ⟨fun r h => List.all_eq_true.mp tmo_law_18 r h, List.forall_mem_cons.mpr ⟨fun r h => List.all_eq_true.mp tmo_law_19 r h, List.forall_mem_cons.mpr ⟨fun r h => List.all_eq_true.mp tmo_law_20 r h, List.forall_mem_cons.mpr ⟨fun r h => List.all_eq_true.mp tmo_law_21 r h, List.forall_mem_cons.mpr ⟨fun r h => List.all_eq_true.mp tmo_law_22 r h, List.forall_mem_cons.mpr ⟨fun r h => List.all_eq_true.mp tmo_law_23 r h, List.forall_mem_cons.mpr ⟨fun r h => List.all_eq_true.mp tmo_law_24 r h, List.forall_mem_cons.mpr ⟨fun r h => List.all_eq_true.mp tmo_law_25 r h, List.forall_mem_cons.mpr ⟨fun r h => List.all_eq_true.mp tmo_law_26 r h, List.forall_mem_cons.mpr ⟨fun r h => List.all_eq_true.mp tmo_law_27 r h, List.forall_mem_cons.mpr ⟨fun r h => List.all_eq_true.mp tmo_law_28 r h, List.forall_mem_cons.mpr ⟨fun r h => List.all_eq_true.mp tmo_law_29 r h, List.forall_mem_cons.mpr ⟨fun r h => List.all_eq_true.mp tmo_law_30 r h, List.forall_mem_cons.mpr ⟨fun r h => List.all_eq_true.mp tmo_law_31 r h, List.forall_mem_cons.mpr ⟨fun r h => List.all_eq_true.mp tmo_law_32 r h, List.forall_mem_cons.mpr ⟨fun r h => List.all_eq_true.mp tmo_law_33 r h, List.forall_mem_cons.mpr ⟨fun r h => List.all_eq_true.mp tmo_law_34 r h, List.forall_mem_cons.mpr ⟨fun r h => List.all_eq_true.mp tmo_law_35 r h, List.forall_mem_cons.mpr ⟨fun r h => List.all_eq_true.mp tmo_law_36 r h, List.forall_mem_cons.mpr ⟨fun r h => List.all_eq_true.mp tmo_law_37 r h, List.forall_mem_cons.mpr ⟨fun r h => List.all_eq_true.mp tmo_law_38 r h, List.forall_mem_cons.mpr ⟨fun r h => List.all_eq_true.mp tmo_law_39 r h, List.forall_mem_cons.mpr ⟨fun r h => List.all_eq_true.mp tmo_law_40 r h, List.forall_mem_cons.mpr ⟨fun r h => List.all_eq_true.mp tmo_law_41 r h, List.forall_mem_cons.mpr ⟨fun r h => List.all_eq_true.mp tmo_law_42 r h, List.forall_mem_cons.mpr ⟨fun r h => List.all_eq_true.mp tmo_law_43 r h, List.forall_mem_cons.mpr ⟨fun r h => List.all_eq_true.mp tmo_law_44 r h, fun _ h => absurd h List.not_mem_nil⟩⟩⟩⟩⟩⟩⟩⟩⟩⟩⟩⟩⟩⟩⟩⟩⟩⟩⟩⟩⟩⟩⟩⟩⟩⟩⟩⟩⟩⟩⟩⟩⟩⟩⟩⟩⟩⟩⟩⟩⟩⟩⟩⟩⟩
  · decide
def xML : List xMe := xMLa ++ [(xm_233, yRL_law, cL_law, 4)]
def xYL : xYt := xML.map (fun e => e.2)
set_option maxRecDepth 100000 in
theorem xMT_eq : xMT = xML.map (fun e => e.1) := rfl
set_option maxRecDepth 100000 in
theorem xML_len : xML.length = xMLa.length + 1 := by unfold xML; rw [List.length_append]; rfl
theorem xMLa_lt : xMLa.length + 1 = xMT.length := by rw [xMT_eq, List.length_map, xML_len]
theorem t_M1 : xTM1 xYL := by
  intro k M h
  rw [xMT_eq, xnth_get, List.getElem?_map] at h
  obtain ⟨e, he, rfl⟩ := Option.map_eq_some_iff.mp h
  have hy : xnth xYL k = some e.2 := by rw [xnth_get]; unfold xYL; rw [List.getElem?_map, he]; rfl
  by_cases hk : k < xMLa.length
  · have hm : e ∈ xMLa := by
      unfold xML at he
      rw [List.getElem?_append_left hk] at he
      exact List.mem_of_getElem? he
    obtain ⟨p1, p2, p3, p4, p5, p6⟩ := tmla e hm
    exact ⟨_, _, _, hy, p1, Or.inr p2, p3, p4, p5, p6⟩
  · have hlt := (List.getElem?_eq_some_iff.mp he).1
    have hl : xML.length = xMLa.length + 1 := xML_len
    have hkk : k = xMLa.length := by omega
    have hee : e = (xm_233, yRL_law, cL_law, 4) := by
      unfold xML at he
      rw [List.getElem?_append_right (by omega), hkk, Nat.sub_self] at he
      exact (Option.some.inj he).symm
    subst hee
    exact ⟨_, _, _, hy, rfl, Or.inl (by rw [xMT_eq, List.length_map, hl, hkk]), by decide, rfl, tmo_law, fun h => absurd h (by decide)⟩

