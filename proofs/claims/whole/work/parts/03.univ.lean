/-- the words that every walk stands on: all good words of the tables -/
def sw_U : List Cond := lw_tbl.filter goodWord
theorem sw_in {w : Cond} (h : w ∈ lw_tbl) (g : goodWord w = true) : w ∈ sw_U := List.mem_filter.mpr ⟨h, g⟩
theorem sw_out {w : Cond} (h : w ∈ sw_U) : w ∈ lw_tbl := (List.mem_filter.mp h).1
theorem sw_good {w : Cond} (h : w ∈ sw_U) : (w.onTables && w.keeps) = true ∨ ∃ ty, w = .arrayClass ty := good_of_word (List.mem_filter.mp h).2
theorem sw_G {ws : List Cond} (h : ∀ w ∈ ws, w ∈ sw_U) : GoodIn sw_U ws := fun w hw => ⟨h w hw, sw_good (h w hw)⟩
theorem sw_c {w : Cond} {a : List Cond} {b : List Cond} (h : w ∈ b) (k : ∀ w ∈ a, w ∈ b) : ∀ x ∈ w :: a, x ∈ b := fun x hx => (List.mem_cons.mp hx).elim (fun e => e ▸ h) (k x)
theorem sw_0 {b : List Cond} : ∀ x ∈ ([] : List Cond), x ∈ b := fun _ h => absurd h List.not_mem_nil
theorem sw_self : ∀ x ∈ sw_U, x ∈ sw_U := fun _ h => h
theorem sw_tl {w : Cond} {Q : Cond → Prop} (h : ∀ x ∈ w :: sw_U, Q x) : ∀ x ∈ sw_U, Q x := fun x hx => h x (List.mem_cons_of_mem _ hx)
theorem sw_V {own : String} {idx : Nat} {C : String} {y : MethodName} {w : Cond} (h1 : Cond.methodLink own idx y ∈ sw_U) (h2 : Cond.instanceMethod y ∈ sw_U) (h3 : Cond.selects C y y ∈ sw_U) (h4 : Cond.initialized C ∈ sw_U) (h5 : w ∈ sw_U) : GoodIn sw_U (wsV own idx C y (w :: sw_U)) :=
  sw_G (sw_c h1 (sw_c h2 (sw_c h3 (sw_c h4 (sw_c h5 sw_self)))))
theorem sw_W {w : Cond} (h5 : w ∈ sw_U) : GoodIn sw_U (w :: sw_U) := sw_G (sw_c h5 sw_self)
theorem sw_all {ws : List Cond} (ps : List Nat) (h : ws = ps.filterMap (fun i => lw_tbl[i]?)) (g : ws.all goodWord = true) : ∀ w ∈ ws, w ∈ sw_U := by
  intro w hw
  refine sw_in ?_ (List.all_eq_true.mp g w hw)
  rw [h] at hw
  obtain ⟨i, -, hi⟩ := List.mem_filterMap.mp hw
  exact List.mem_of_getElem? hi
theorem sw_t1 {w : Cond} (h : w ∈ tables_1_1) : w ∈ lw_tbl := List.mem_append_right _ (List.mem_append_left _ h)
theorem sw_t2 {w : Cond} (h : w ∈ tables_1_2) : w ∈ lw_tbl := List.mem_append_right _ (List.mem_append_right _ (List.mem_append_left _ h))
theorem sw_t3 {w : Cond} (h : w ∈ tables_1_3) : w ∈ lw_tbl := List.mem_append_right _ (List.mem_append_right _ (List.mem_append_right _ (List.mem_append_left _ h)))
theorem sw_t4 {w : Cond} (h : w ∈ tables_1_4) : w ∈ lw_tbl := List.mem_append_right _ (List.mem_append_right _ (List.mem_append_right _ (List.mem_append_right _ (List.mem_append_left _ h))))
theorem sw_t5 {w : Cond} (h : w ∈ tables_1_5) : w ∈ lw_tbl := List.mem_append_right _ (List.mem_append_right _ (List.mem_append_right _ (List.mem_append_right _ (List.mem_append_right _ (List.mem_append_left _ h)))))
theorem sw_t6 {w : Cond} (h : w ∈ tables_1_6) : w ∈ lw_tbl := List.mem_append_right _ (List.mem_append_right _ (List.mem_append_right _ (List.mem_append_right _ (List.mem_append_right _ (List.mem_append_right _ (List.mem_append_left _ h))))))
theorem sw_t7 {w : Cond} (h : w ∈ tables_1_7) : w ∈ lw_tbl := List.mem_append_right _ (List.mem_append_right _ (List.mem_append_right _ (List.mem_append_right _ (List.mem_append_right _ (List.mem_append_right _ (List.mem_append_right _ (List.mem_append_left _ h)))))))
theorem sw_t8 {w : Cond} (h : w ∈ tables_1_8) : w ∈ lw_tbl := List.mem_append_right _ (List.mem_append_right _ (List.mem_append_right _ (List.mem_append_right _ (List.mem_append_right _ (List.mem_append_right _ (List.mem_append_right _ (List.mem_append_right _ (List.mem_append_left _ h))))))))
theorem sw_t9 {w : Cond} (h : w ∈ tables_1_9) : w ∈ lw_tbl := List.mem_append_right _ (List.mem_append_right _ (List.mem_append_right _ (List.mem_append_right _ (List.mem_append_right _ (List.mem_append_right _ (List.mem_append_right _ (List.mem_append_right _ (List.mem_append_right _ (h)))))))))
theorem iU_X1 : ∀ w ∈ u_ws RX1 TX1 3, w ∈ sw_U := sw_all [192, 194, 196] (by decide +kernel) (by decide +kernel)
theorem iU_X3 : ∀ w ∈ u_ws RX3 TX3 7, w ∈ sw_U := sw_all [164, 166, 168, 170, 172, 174, 176] (by decide +kernel) (by decide +kernel)
theorem iU_X4 : ∀ w ∈ u_ws RX4 TX4 4, w ∈ sw_U := sw_all [263, 265, 267, 269] (by decide +kernel) (by decide +kernel)
theorem iU_X5 : ∀ w ∈ u_ws RX5 TX5 4, w ∈ sw_U := sw_all [284, 286, 288, 290] (by decide +kernel) (by decide +kernel)
theorem iU_X6 : ∀ w ∈ u_ws RX6 TX6 2, w ∈ sw_U := sw_all [301, 303] (by decide +kernel) (by decide +kernel)
theorem iU_X7 : ∀ w ∈ u_ws RX7 TX7 6, w ∈ sw_U := sw_all [211, 213, 215, 217, 219, 221] (by decide +kernel) (by decide +kernel)
theorem iU_X8 : ∀ w ∈ u_ws RX8 TX8 7, w ∈ sw_U := sw_all [237, 239, 241, 243, 245, 247, 249] (by decide +kernel) (by decide +kernel)
theorem iU_X10 : ∀ w ∈ u_ws RX10 TX10 13, w ∈ sw_U := sw_all [331, 333, 335, 337, 339, 341, 343, 345, 347, 349, 351, 353, 355] (by decide +kernel) (by decide +kernel)
theorem iU_X11 : ∀ w ∈ u_ws RX11 TX11 30, w ∈ sw_U := sw_all [1392, 1394, 1396, 1398, 1400, 1402, 1404, 1406, 1408, 1410, 1412, 1414, 1416, 1418, 1420, 1422, 1424, 1426, 1428, 1430, 1432, 1434, 1436, 1438, 1440, 1442, 1444, 1446, 1448, 1450] (by decide +kernel) (by decide +kernel)
theorem se_X10_current : Cond.selects yX10_current.cls yX10_current yX10_current ∈ sw_U := sw_in (List.mem_append_left _ (List.mem_of_getElem? (i := 0) (by decide +kernel))) rfl
theorem se_X7_strikeOut : Cond.selects yX7_strikeOut.cls yX7_strikeOut yX7_strikeOut ∈ sw_U := sw_in (List.mem_append_left _ (List.mem_of_getElem? (i := 1) (by decide +kernel))) rfl
theorem se_X7_countAll : Cond.selects yX7_countAll.cls yX7_countAll yX7_countAll ∈ sw_U := sw_in (List.mem_append_left _ (List.mem_of_getElem? (i := 2) (by decide +kernel))) rfl
theorem se_X10_nextPart : Cond.selects yX10_nextPart.cls yX10_nextPart yX10_nextPart ∈ sw_U := sw_in (List.mem_append_left _ (List.mem_of_getElem? (i := 3) (by decide +kernel))) rfl
theorem se_X3_isMissing : Cond.selects yX3_isMissing.cls yX3_isMissing yX3_isMissing ∈ sw_U := sw_in (List.mem_append_left _ (List.mem_of_getElem? (i := 4) (by decide +kernel))) rfl
theorem se_X7_countWithOwner : Cond.selects yX7_countWithOwner.cls yX7_countWithOwner yX7_countWithOwner ∈ sw_U := sw_in (List.mem_append_left _ (List.mem_of_getElem? (i := 5) (by decide +kernel))) rfl
theorem se_X10_operate : Cond.selects yX10_operate.cls yX10_operate yX10_operate ∈ sw_U := sw_in (List.mem_append_left _ (List.mem_of_getElem? (i := 6) (by decide +kernel))) rfl
theorem se_X10_carryOut : Cond.selects yX10_carryOut.cls yX10_carryOut yX10_carryOut ∈ sw_U := sw_in (List.mem_append_left _ (List.mem_of_getElem? (i := 8) (by decide +kernel))) rfl
theorem se_X10_layStretch : Cond.selects yX10_layStretch.cls yX10_layStretch yX10_layStretch ∈ sw_U := sw_in (List.mem_append_left _ (List.mem_of_getElem? (i := 9) (by decide +kernel))) rfl
theorem se_X3_roomAhead : Cond.selects yX3_roomAhead.cls yX3_roomAhead yX3_roomAhead ∈ sw_U := sw_in (List.mem_append_left _ (List.mem_of_getElem? (i := 10) (by decide +kernel))) rfl
theorem se_X10_dropStretch : Cond.selects yX10_dropStretch.cls yX10_dropStretch yX10_dropStretch ∈ sw_U := sw_in (List.mem_append_left _ (List.mem_of_getElem? (i := 11) (by decide +kernel))) rfl
theorem se_X10_trimStretch : Cond.selects yX10_trimStretch.cls yX10_trimStretch yX10_trimStretch ∈ sw_U := sw_in (List.mem_append_left _ (List.mem_of_getElem? (i := 12) (by decide +kernel))) rfl
theorem se_X10_swapStrikers : Cond.selects yX10_swapStrikers.cls yX10_swapStrikers yX10_swapStrikers ∈ sw_U := sw_in (List.mem_append_left _ (List.mem_of_getElem? (i := 13) (by decide +kernel))) rfl
theorem se_X10_addStriker : Cond.selects yX10_addStriker.cls yX10_addStriker yX10_addStriker ∈ sw_U := sw_in (List.mem_append_left _ (List.mem_of_getElem? (i := 14) (by decide +kernel))) rfl
theorem se_X10_liftStriker : Cond.selects yX10_liftStriker.cls yX10_liftStriker yX10_liftStriker ∈ sw_U := sw_in (List.mem_append_left _ (List.mem_of_getElem? (i := 15) (by decide +kernel))) rfl
theorem se_X10_countGiven : Cond.selects yX10_countGiven.cls yX10_countGiven yX10_countGiven ∈ sw_U := sw_in (List.mem_append_left _ (List.mem_of_getElem? (i := 16) (by decide +kernel))) rfl
theorem se_X10_putFirst : Cond.selects yX10_putFirst.cls yX10_putFirst yX10_putFirst ∈ sw_U := sw_in (List.mem_append_left _ (List.mem_of_getElem? (i := 17) (by decide +kernel))) rfl
theorem se_X10_changeWheel : Cond.selects yX10_changeWheel.cls yX10_changeWheel yX10_changeWheel ∈ sw_U := sw_in (List.mem_append_left _ (List.mem_of_getElem? (i := 18) (by decide +kernel))) rfl
theorem se_X10_fillUp : Cond.selects yX10_fillUp.cls yX10_fillUp yX10_fillUp ∈ sw_U := sw_in (List.mem_append_left _ (List.mem_of_getElem? (i := 19) (by decide +kernel))) rfl
theorem se_X10_takeIdleAway : Cond.selects yX10_takeIdleAway.cls yX10_takeIdleAway yX10_takeIdleAway ∈ sw_U := sw_in (List.mem_append_left _ (List.mem_of_getElem? (i := 20) (by decide +kernel))) rfl
theorem se_X10_counted : Cond.selects yX10_counted.cls yX10_counted yX10_counted ∈ sw_U := sw_in (List.mem_append_left _ (List.mem_of_getElem? (i := 21) (by decide +kernel))) rfl
theorem se_X4_begin : Cond.selects yX4_begin.cls yX4_begin yX4_begin ∈ sw_U := sw_in (List.mem_append_left _ (List.mem_of_getElem? (i := 22) (by decide +kernel))) rfl
theorem se_X8_byteAt : Cond.selects yX8_byteAt.cls yX8_byteAt yX8_byteAt ∈ sw_U := sw_in (List.mem_append_left _ (List.mem_of_getElem? (i := 23) (by decide +kernel))) rfl
theorem se_X8_skipLetters : Cond.selects yX8_skipLetters.cls yX8_skipLetters yX8_skipLetters ∈ sw_U := sw_in (List.mem_append_left _ (List.mem_of_getElem? (i := 24) (by decide +kernel))) rfl
theorem se_X8_readDigits : Cond.selects yX8_readDigits.cls yX8_readDigits yX8_readDigits ∈ sw_U := sw_in (List.mem_append_left _ (List.mem_of_getElem? (i := 25) (by decide +kernel))) rfl
theorem se_X4_takeWord : Cond.selects yX4_takeWord.cls yX4_takeWord yX4_takeWord ∈ sw_U := sw_in (List.mem_append_left _ (List.mem_of_getElem? (i := 26) (by decide +kernel))) rfl
theorem se_X4_fail : Cond.selects yX4_fail.cls yX4_fail yX4_fail ∈ sw_U := sw_in (List.mem_append_left _ (List.mem_of_getElem? (i := 27) (by decide +kernel))) rfl
theorem se_X4_takeNumber : Cond.selects yX4_takeNumber.cls yX4_takeNumber yX4_takeNumber ∈ sw_U := sw_in (List.mem_append_left _ (List.mem_of_getElem? (i := 28) (by decide +kernel))) rfl
theorem se_X4_takeSemicolon : Cond.selects yX4_takeSemicolon.cls yX4_takeSemicolon yX4_takeSemicolon ∈ sw_U := sw_in (List.mem_append_left _ (List.mem_of_getElem? (i := 29) (by decide +kernel))) rfl
theorem se_X4_readStretches : Cond.selects yX4_readStretches.cls yX4_readStretches yX4_readStretches ∈ sw_U := sw_in (List.mem_append_left _ (List.mem_of_getElem? (i := 30) (by decide +kernel))) rfl
theorem se_X4_readStrikers : Cond.selects yX4_readStrikers.cls yX4_readStrikers yX4_readStrikers ∈ sw_U := sw_in (List.mem_append_left _ (List.mem_of_getElem? (i := 31) (by decide +kernel))) rfl
theorem se_X10_closeReading : Cond.selects yX10_closeReading.cls yX10_closeReading yX10_closeReading ∈ sw_U := sw_in (List.mem_append_left _ (List.mem_of_getElem? (i := 32) (by decide +kernel))) rfl
theorem se_X10_countIdle : Cond.selects yX10_countIdle.cls yX10_countIdle yX10_countIdle ∈ sw_U := sw_in (List.mem_append_left _ (List.mem_of_getElem? (i := 33) (by decide +kernel))) rfl
theorem se_X10_needStretch : Cond.selects yX10_needStretch.cls yX10_needStretch yX10_needStretch ∈ sw_U := sw_in (List.mem_append_left _ (List.mem_of_getElem? (i := 34) (by decide +kernel))) rfl
theorem se_X10_needStriker : Cond.selects yX10_needStriker.cls yX10_needStriker yX10_needStriker ∈ sw_U := sw_in (List.mem_append_left _ (List.mem_of_getElem? (i := 35) (by decide +kernel))) rfl
theorem se_X10_nextCommon : Cond.selects yX10_nextCommon.cls yX10_nextCommon yX10_nextCommon ∈ sw_U := sw_in (List.mem_append_left _ (List.mem_of_getElem? (i := 36) (by decide +kernel))) rfl
theorem se_X4_readOrder : Cond.selects yX4_readOrder.cls yX4_readOrder yX4_readOrder ∈ sw_U := sw_in (List.mem_append_left _ (List.mem_of_getElem? (i := 37) (by decide +kernel))) rfl
theorem se_X4_orderHere : Cond.selects yX4_orderHere.cls yX4_orderHere yX4_orderHere ∈ sw_U := sw_in (List.mem_append_left _ (List.mem_of_getElem? (i := 38) (by decide +kernel))) rfl
theorem se_X5_isThere : Cond.selects yX5_isThere.cls yX5_isThere yX5_isThere ∈ sw_U := sw_in (List.mem_append_left _ (List.mem_of_getElem? (i := 39) (by decide +kernel))) rfl
theorem se_X11_lacks : Cond.selects yX11_lacks.cls yX11_lacks yX11_lacks ∈ sw_U := sw_in (List.mem_append_left _ (List.mem_of_getElem? (i := 40) (by decide +kernel))) rfl
theorem se_X11_strike : Cond.selects yX11_strike.cls yX11_strike yX11_strike ∈ sw_U := sw_in (List.mem_append_left _ (List.mem_of_getElem? (i := 41) (by decide +kernel))) rfl
theorem se_X11_last : Cond.selects yX11_last.cls yX11_last yX11_last ∈ sw_U := sw_in (List.mem_append_left _ (List.mem_of_getElem? (i := 42) (by decide +kernel))) rfl
theorem se_X11_lastOf : Cond.selects yX11_lastOf.cls yX11_lastOf yX11_lastOf ∈ sw_U := sw_in (List.mem_append_left _ (List.mem_of_getElem? (i := 43) (by decide +kernel))) rfl
theorem se_X11_strikeUpTo : Cond.selects yX11_strikeUpTo.cls yX11_strikeUpTo yX11_strikeUpTo ∈ sw_U := sw_in (List.mem_append_left _ (List.mem_of_getElem? (i := 44) (by decide +kernel))) rfl
theorem se_X11_isOnSpoke : Cond.selects yX11_isOnSpoke.cls yX11_isOnSpoke yX11_isOnSpoke ∈ sw_U := sw_in (List.mem_append_left _ (List.mem_of_getElem? (i := 45) (by decide +kernel))) rfl
theorem se_X11_wheelPrimeOf : Cond.selects yX11_wheelPrimeOf.cls yX11_wheelPrimeOf yX11_wheelPrimeOf ∈ sw_U := sw_in (List.mem_append_left _ (List.mem_of_getElem? (i := 46) (by decide +kernel))) rfl
theorem se_X11_marksIn : Cond.selects yX11_marksIn.cls yX11_marksIn yX11_marksIn ∈ sw_U := sw_in (List.mem_append_left _ (List.mem_of_getElem? (i := 47) (by decide +kernel))) rfl
theorem se_X11_isMark : Cond.selects yX11_isMark.cls yX11_isMark yX11_isMark ∈ sw_U := sw_in (List.mem_append_left _ (List.mem_of_getElem? (i := 48) (by decide +kernel))) rfl
theorem se_X11_spokesIn : Cond.selects yX11_spokesIn.cls yX11_spokesIn yX11_spokesIn ∈ sw_U := sw_in (List.mem_append_left _ (List.mem_of_getElem? (i := 49) (by decide +kernel))) rfl
theorem se_X11_product : Cond.selects yX11_product.cls yX11_product yX11_product ∈ sw_U := sw_in (List.mem_append_left _ (List.mem_of_getElem? (i := 50) (by decide +kernel))) rfl
theorem se_X11_rightOnes : Cond.selects yX11_rightOnes.cls yX11_rightOnes yX11_rightOnes ∈ sw_U := sw_in (List.mem_append_left _ (List.mem_of_getElem? (i := 51) (by decide +kernel))) rfl
theorem se_X11_countMissing : Cond.selects yX11_countMissing.cls yX11_countMissing yX11_countMissing ∈ sw_U := sw_in (List.mem_append_left _ (List.mem_of_getElem? (i := 52) (by decide +kernel))) rfl
theorem se_X11_missingFrom : Cond.selects yX11_missingFrom.cls yX11_missingFrom yX11_missingFrom ∈ sw_U := sw_in (List.mem_append_left _ (List.mem_of_getElem? (i := 53) (by decide +kernel))) rfl
theorem se_X11_couldStrike : Cond.selects yX11_couldStrike.cls yX11_couldStrike yX11_couldStrike ∈ sw_U := sw_in (List.mem_append_left _ (List.mem_of_getElem? (i := 54) (by decide +kernel))) rfl
theorem se_X11_placeOf : Cond.selects yX11_placeOf.cls yX11_placeOf yX11_placeOf ∈ sw_U := sw_in (List.mem_append_left _ (List.mem_of_getElem? (i := 55) (by decide +kernel))) rfl
theorem se_X11_isWheelPrime : Cond.selects yX11_isWheelPrime.cls yX11_isWheelPrime yX11_isWheelPrime ∈ sw_U := sw_in (List.mem_append_left _ (List.mem_of_getElem? (i := 56) (by decide +kernel))) rfl
theorem se_X11_countIdle : Cond.selects yX11_countIdle.cls yX11_countIdle yX11_countIdle ∈ sw_U := sw_in (List.mem_append_left _ (List.mem_of_getElem? (i := 57) (by decide +kernel))) rfl
theorem se_X11_ownedBy : Cond.selects yX11_ownedBy.cls yX11_ownedBy yX11_ownedBy ∈ sw_U := sw_in (List.mem_append_left _ (List.mem_of_getElem? (i := 58) (by decide +kernel))) rfl
theorem se_X11_isStretch : Cond.selects yX11_isStretch.cls yX11_isStretch yX11_isStretch ∈ sw_U := sw_in (List.mem_append_left _ (List.mem_of_getElem? (i := 59) (by decide +kernel))) rfl
theorem se_X11_firstMark : Cond.selects yX11_firstMark.cls yX11_firstMark yX11_firstMark ∈ sw_U := sw_in (List.mem_append_left _ (List.mem_of_getElem? (i := 60) (by decide +kernel))) rfl
theorem se_X11_lastMark : Cond.selects yX11_lastMark.cls yX11_lastMark yX11_lastMark ∈ sw_U := sw_in (List.mem_append_left _ (List.mem_of_getElem? (i := 61) (by decide +kernel))) rfl
theorem se_X11_raise : Cond.selects yX11_raise.cls yX11_raise yX11_raise ∈ sw_U := sw_in (List.mem_append_left _ (List.mem_of_getElem? (i := 62) (by decide +kernel))) rfl
theorem se_X11_isStriker : Cond.selects yX11_isStriker.cls yX11_isStriker yX11_isStriker ∈ sw_U := sw_in (List.mem_append_left _ (List.mem_of_getElem? (i := 63) (by decide +kernel))) rfl
theorem se_X11_struckBy : Cond.selects yX11_struckBy.cls yX11_struckBy yX11_struckBy ∈ sw_U := sw_in (List.mem_append_left _ (List.mem_of_getElem? (i := 64) (by decide +kernel))) rfl
theorem se_X11_nextStruck : Cond.selects yX11_nextStruck.cls yX11_nextStruck yX11_nextStruck ∈ sw_U := sw_in (List.mem_append_left _ (List.mem_of_getElem? (i := 65) (by decide +kernel))) rfl
theorem se_X11_strikes : Cond.selects yX11_strikes.cls yX11_strikes yX11_strikes ∈ sw_U := sw_in (List.mem_append_left _ (List.mem_of_getElem? (i := 66) (by decide +kernel))) rfl
theorem se_X11_leastOwned : Cond.selects yX11_leastOwned.cls yX11_leastOwned yX11_leastOwned ∈ sw_U := sw_in (List.mem_append_left _ (List.mem_of_getElem? (i := 67) (by decide +kernel))) rfl
theorem se_X11_kindOf : Cond.selects yX11_kindOf.cls yX11_kindOf yX11_kindOf ∈ sw_U := sw_in (List.mem_append_left _ (List.mem_of_getElem? (i := 68) (by decide +kernel))) rfl
theorem se_X11_isLaid : Cond.selects yX11_isLaid.cls yX11_isLaid yX11_isLaid ∈ sw_U := sw_in (List.mem_append_left _ (List.mem_of_getElem? (i := 69) (by decide +kernel))) rfl
theorem se_X11_isCoprime : Cond.selects yX11_isCoprime.cls yX11_isCoprime yX11_isCoprime ∈ sw_U := sw_in (List.mem_append_left _ (List.mem_of_getElem? (i := 70) (by decide +kernel))) rfl
theorem se_X11_greatestGap : Cond.selects yX11_greatestGap.cls yX11_greatestGap yX11_greatestGap ∈ sw_U := sw_in (List.mem_append_left _ (List.mem_of_getElem? (i := 71) (by decide +kernel))) rfl
theorem se_X11_sumFrom : Cond.selects yX11_sumFrom.cls yX11_sumFrom yX11_sumFrom ∈ sw_U := sw_in (List.mem_append_left _ (List.mem_of_getElem? (i := 72) (by decide +kernel))) rfl
theorem se_X11_dividing : Cond.selects yX11_dividing.cls yX11_dividing yX11_dividing ∈ sw_U := sw_in (List.mem_append_left _ (List.mem_of_getElem? (i := 73) (by decide +kernel))) rfl
theorem se_X11_wrongOnes : Cond.selects yX11_wrongOnes.cls yX11_wrongOnes yX11_wrongOnes ∈ sw_U := sw_in (List.mem_append_left _ (List.mem_of_getElem? (i := 74) (by decide +kernel))) rfl
theorem se_X11_takenBy : Cond.selects yX11_takenBy.cls yX11_takenBy yX11_takenBy ∈ sw_U := sw_in (List.mem_append_left _ (List.mem_of_getElem? (i := 75) (by decide +kernel))) rfl
theorem se_X11_ownedAlone : Cond.selects yX11_ownedAlone.cls yX11_ownedAlone yX11_ownedAlone ∈ sw_U := sw_in (List.mem_append_left _ (List.mem_of_getElem? (i := 76) (by decide +kernel))) rfl
theorem se_X11_keep : Cond.selects yX11_keep.cls yX11_keep yX11_keep ∈ sw_U := sw_in (List.mem_append_left _ (List.mem_of_getElem? (i := 77) (by decide +kernel))) rfl
theorem se_X11_doLay : Cond.selects yX11_doLay.cls yX11_doLay yX11_doLay ∈ sw_U := sw_in (List.mem_append_left _ (List.mem_of_getElem? (i := 78) (by decide +kernel))) rfl
theorem se_X11_ends : Cond.selects yX11_ends.cls yX11_ends yX11_ends ∈ sw_U := sw_in (List.mem_append_left _ (List.mem_of_getElem? (i := 79) (by decide +kernel))) rfl
theorem se_X11_recorded : Cond.selects yX11_recorded.cls yX11_recorded yX11_recorded ∈ sw_U := sw_in (List.mem_append_left _ (List.mem_of_getElem? (i := 80) (by decide +kernel))) rfl
theorem se_X11_record : Cond.selects yX11_record.cls yX11_record yX11_record ∈ sw_U := sw_in (List.mem_append_left _ (List.mem_of_getElem? (i := 81) (by decide +kernel))) rfl
theorem se_X11_doDrop : Cond.selects yX11_doDrop.cls yX11_doDrop yX11_doDrop ∈ sw_U := sw_in (List.mem_append_left _ (List.mem_of_getElem? (i := 82) (by decide +kernel))) rfl
theorem se_X11_doAdd : Cond.selects yX11_doAdd.cls yX11_doAdd yX11_doAdd ∈ sw_U := sw_in (List.mem_append_left _ (List.mem_of_getElem? (i := 83) (by decide +kernel))) rfl
theorem se_X11_newStriker : Cond.selects yX11_newStriker.cls yX11_newStriker yX11_newStriker ∈ sw_U := sw_in (List.mem_append_left _ (List.mem_of_getElem? (i := 84) (by decide +kernel))) rfl
theorem se_X11_doLift : Cond.selects yX11_doLift.cls yX11_doLift yX11_doLift ∈ sw_U := sw_in (List.mem_append_left _ (List.mem_of_getElem? (i := 85) (by decide +kernel))) rfl
theorem se_X11_removeStriker : Cond.selects yX11_removeStriker.cls yX11_removeStriker yX11_removeStriker ∈ sw_U := sw_in (List.mem_append_left _ (List.mem_of_getElem? (i := 86) (by decide +kernel))) rfl
theorem se_X11_doFirst : Cond.selects yX11_doFirst.cls yX11_doFirst yX11_doFirst ∈ sw_U := sw_in (List.mem_append_left _ (List.mem_of_getElem? (i := 87) (by decide +kernel))) rfl
theorem se_X11_doTrim : Cond.selects yX11_doTrim.cls yX11_doTrim yX11_doTrim ∈ sw_U := sw_in (List.mem_append_left _ (List.mem_of_getElem? (i := 88) (by decide +kernel))) rfl
theorem se_X11_doSwap : Cond.selects yX11_doSwap.cls yX11_doSwap yX11_doSwap ∈ sw_U := sw_in (List.mem_append_left _ (List.mem_of_getElem? (i := 89) (by decide +kernel))) rfl
theorem se_X11_doWheel : Cond.selects yX11_doWheel.cls yX11_doWheel yX11_doWheel ∈ sw_U := sw_in (List.mem_append_left _ (List.mem_of_getElem? (i := 90) (by decide +kernel))) rfl
theorem se_X11_doFill : Cond.selects yX11_doFill.cls yX11_doFill yX11_doFill ∈ sw_U := sw_in (List.mem_append_left _ (List.mem_of_getElem? (i := 91) (by decide +kernel))) rfl
theorem se_X11_doTidy : Cond.selects yX11_doTidy.cls yX11_doTidy yX11_doTidy ∈ sw_U := sw_in (List.mem_append_left _ (List.mem_of_getElem? (i := 92) (by decide +kernel))) rfl
theorem se_X11_write : Cond.selects yX11_write.cls yX11_write yX11_write ∈ sw_U := sw_in (List.mem_append_left _ (List.mem_of_getElem? (i := 93) (by decide +kernel))) rfl
theorem se_X11_writeNumber : Cond.selects yX11_writeNumber.cls yX11_writeNumber yX11_writeNumber ∈ sw_U := sw_in (List.mem_append_left _ (List.mem_of_getElem? (i := 94) (by decide +kernel))) rfl
theorem se_X11_startText : Cond.selects yX11_startText.cls yX11_startText yX11_startText ∈ sw_U := sw_in (List.mem_append_left _ (List.mem_of_getElem? (i := 95) (by decide +kernel))) rfl
theorem se_X11_scan : Cond.selects yX11_scan.cls yX11_scan yX11_scan ∈ sw_U := sw_in (List.mem_append_left _ (List.mem_of_getElem? (i := 96) (by decide +kernel))) rfl
theorem se_X11_byteAt : Cond.selects yX11_byteAt.cls yX11_byteAt yX11_byteAt ∈ sw_U := sw_in (List.mem_append_left _ (List.mem_of_getElem? (i := 97) (by decide +kernel))) rfl
theorem se_X11_isLetter : Cond.selects yX11_isLetter.cls yX11_isLetter yX11_isLetter ∈ sw_U := sw_in (List.mem_append_left _ (List.mem_of_getElem? (i := 98) (by decide +kernel))) rfl
theorem se_X11_isDigit : Cond.selects yX11_isDigit.cls yX11_isDigit yX11_isDigit ∈ sw_U := sw_in (List.mem_append_left _ (List.mem_of_getElem? (i := 99) (by decide +kernel))) rfl
theorem se_X11_readText : Cond.selects yX11_readText.cls yX11_readText yX11_readText ∈ sw_U := sw_in (List.mem_append_left _ (List.mem_of_getElem? (i := 100) (by decide +kernel))) rfl
theorem se_X11_isWord : Cond.selects yX11_isWord.cls yX11_isWord yX11_isWord ∈ sw_U := sw_in (List.mem_append_left _ (List.mem_of_getElem? (i := 101) (by decide +kernel))) rfl
theorem se_X11_check : Cond.selects yX11_check.cls yX11_check yX11_check ∈ sw_U := sw_in (List.mem_append_left _ (List.mem_of_getElem? (i := 102) (by decide +kernel))) rfl
theorem se_X11_advance : Cond.selects yX11_advance.cls yX11_advance yX11_advance ∈ sw_U := sw_in (List.mem_append_left _ (List.mem_of_getElem? (i := 103) (by decide +kernel))) rfl
theorem se_X11_readNumber : Cond.selects yX11_readNumber.cls yX11_readNumber yX11_readNumber ∈ sw_U := sw_in (List.mem_append_left _ (List.mem_of_getElem? (i := 104) (by decide +kernel))) rfl
theorem se_X11_look : Cond.selects yX11_look.cls yX11_look yX11_look ∈ sw_U := sw_in (List.mem_append_left _ (List.mem_of_getElem? (i := 105) (by decide +kernel))) rfl
theorem se_X11_value : Cond.selects yX11_value.cls yX11_value yX11_value ∈ sw_U := sw_in (List.mem_append_left _ (List.mem_of_getElem? (i := 106) (by decide +kernel))) rfl
theorem se_X11_expect : Cond.selects yX11_expect.cls yX11_expect yX11_expect ∈ sw_U := sw_in (List.mem_append_left _ (List.mem_of_getElem? (i := 107) (by decide +kernel))) rfl
theorem se_X11_isSymbol : Cond.selects yX11_isSymbol.cls yX11_isSymbol yX11_isSymbol ∈ sw_U := sw_in (List.mem_append_left _ (List.mem_of_getElem? (i := 108) (by decide +kernel))) rfl
theorem se_X11_readStretch : Cond.selects yX11_readStretch.cls yX11_readStretch yX11_readStretch ∈ sw_U := sw_in (List.mem_append_left _ (List.mem_of_getElem? (i := 109) (by decide +kernel))) rfl
theorem se_X11_readStriker : Cond.selects yX11_readStriker.cls yX11_readStriker yX11_readStriker ∈ sw_U := sw_in (List.mem_append_left _ (List.mem_of_getElem? (i := 110) (by decide +kernel))) rfl
theorem se_X11_finish : Cond.selects yX11_finish.cls yX11_finish yX11_finish ∈ sw_U := sw_in (List.mem_append_left _ (List.mem_of_getElem? (i := 111) (by decide +kernel))) rfl
theorem se_X11_readOrder : Cond.selects yX11_readOrder.cls yX11_readOrder yX11_readOrder ∈ sw_U := sw_in (List.mem_append_left _ (List.mem_of_getElem? (i := 112) (by decide +kernel))) rfl
theorem se_X11_orderHere : Cond.selects yX11_orderHere.cls yX11_orderHere yX11_orderHere ∈ sw_U := sw_in (List.mem_append_left _ (List.mem_of_getElem? (i := 113) (by decide +kernel))) rfl
theorem se_X11_readFirst : Cond.selects yX11_readFirst.cls yX11_readFirst yX11_readFirst ∈ sw_U := sw_in (List.mem_append_left _ (List.mem_of_getElem? (i := 114) (by decide +kernel))) rfl
theorem se_X11_does : Cond.selects yX11_does.cls yX11_does yX11_does ∈ sw_U := sw_in (List.mem_append_left _ (List.mem_of_getElem? (i := 115) (by decide +kernel))) rfl
theorem ini_L : Cond.initialized RL ∈ sw_U := sw_in (sw_t1 (List.mem_of_getElem? (i := 0) (by decide +kernel))) rfl
theorem ini_X10 : Cond.initialized RX10 ∈ sw_U := sw_in (sw_t1 (List.mem_of_getElem? (i := 1) (by decide +kernel))) rfl
theorem ini_X3 : Cond.initialized RX3 ∈ sw_U := sw_in (sw_t1 (List.mem_of_getElem? (i := 2) (by decide +kernel))) rfl
theorem ini_X1 : Cond.initialized RX1 ∈ sw_U := sw_in (sw_t1 (List.mem_of_getElem? (i := 3) (by decide +kernel))) rfl
theorem ini_X7 : Cond.initialized RX7 ∈ sw_U := sw_in (sw_t1 (List.mem_of_getElem? (i := 4) (by decide +kernel))) rfl
theorem ini_X8 : Cond.initialized RX8 ∈ sw_U := sw_in (sw_t1 (List.mem_of_getElem? (i := 5) (by decide +kernel))) rfl
theorem ini_X4 : Cond.initialized RX4 ∈ sw_U := sw_in (sw_t1 (List.mem_of_getElem? (i := 6) (by decide +kernel))) rfl
theorem ini_X5 : Cond.initialized RX5 ∈ sw_U := sw_in (sw_t1 (List.mem_of_getElem? (i := 7) (by decide +kernel))) rfl
theorem ini_X6 : Cond.initialized RX6 ∈ sw_U := sw_in (sw_t1 (List.mem_of_getElem? (i := 8) (by decide +kernel))) rfl
theorem ini_X11 : Cond.initialized RX11 ∈ sw_U := sw_in (sw_t1 (List.mem_of_getElem? (i := 9) (by decide +kernel))) rfl
theorem ini_java_lang_Throwable : Cond.initialized "java/lang/Throwable" ∈ sw_U := sw_in (sw_t1 (List.mem_of_getElem? (i := 10) (by decide +kernel))) rfl
theorem ini_java_lang_Exception : Cond.initialized "java/lang/Exception" ∈ sw_U := sw_in (sw_t1 (List.mem_of_getElem? (i := 11) (by decide +kernel))) rfl
theorem ini_java_lang_RuntimeException : Cond.initialized "java/lang/RuntimeException" ∈ sw_U := sw_in (sw_t1 (List.mem_of_getElem? (i := 12) (by decide +kernel))) rfl
theorem ini_java_lang_IllegalArgumentException : Cond.initialized "java/lang/IllegalArgumentException" ∈ sw_U := sw_in (sw_t1 (List.mem_of_getElem? (i := 13) (by decide +kernel))) rfl
theorem ini_J9 : Cond.initialized RJ9 ∈ sw_U := sw_in (sw_t1 (List.mem_of_getElem? (i := 14) (by decide +kernel))) rfl
theorem ini_J0 : Cond.initialized RJ0 ∈ sw_U := sw_in (sw_t1 (List.mem_of_getElem? (i := 15) (by decide +kernel))) rfl
theorem ini_J1 : Cond.initialized RJ1 ∈ sw_U := sw_in (sw_t1 (List.mem_of_getElem? (i := 16) (by decide +kernel))) rfl
theorem ini_J3 : Cond.initialized RJ3 ∈ sw_U := sw_in (sw_t1 (List.mem_of_getElem? (i := 17) (by decide +kernel))) rfl
theorem ini_J2 : Cond.initialized RJ2 ∈ sw_U := sw_in (sw_t1 (List.mem_of_getElem? (i := 18) (by decide +kernel))) rfl
theorem ini_J10 : Cond.initialized RJ10 ∈ sw_U := sw_in (sw_t1 (List.mem_of_getElem? (i := 19) (by decide +kernel))) rfl
theorem ini_X9 : Cond.initialized RX9 ∈ sw_U := sw_in (sw_t1 (List.mem_of_getElem? (i := 20) (by decide +kernel))) rfl
theorem ini_java_util_NoSuchElementException : Cond.initialized "java/util/NoSuchElementException" ∈ sw_U := sw_in (sw_t1 (List.mem_of_getElem? (i := 21) (by decide +kernel))) rfl
theorem ini_Jxd2413 : Cond.initialized RJxd2413 ∈ sw_U := sw_in (sw_t1 (List.mem_of_getElem? (i := 22) (by decide +kernel))) rfl
theorem ini_Jxf58ca : Cond.initialized RJxf58ca ∈ sw_U := sw_in (sw_t1 (List.mem_of_getElem? (i := 23) (by decide +kernel))) rfl
theorem ini_Jx29ce0 : Cond.initialized RJx29ce0 ∈ sw_U := sw_in (sw_t1 (List.mem_of_getElem? (i := 24) (by decide +kernel))) rfl
theorem ini_X2 : Cond.initialized RX2 ∈ sw_U := sw_in (sw_t1 (List.mem_of_getElem? (i := 25) (by decide +kernel))) rfl
theorem ini_X0 : Cond.initialized RX0 ∈ sw_U := sw_in (sw_t1 (List.mem_of_getElem? (i := 26) (by decide +kernel))) rfl
theorem cl_L_8 : Cond.classLink RL 8 RX10 ∈ sw_U := sw_in (sw_t1 (List.mem_of_getElem? (i := 27) (by decide +kernel))) rfl
theorem ins_X10 : Cond.instantiable RX10 13 ∈ sw_U := sw_in (sw_t1 (List.mem_of_getElem? (i := 28) (by decide +kernel))) rfl
theorem ml_L_90 : Cond.methodLink RL 90 yX10_init ∈ sw_U := sw_in (sw_t1 (List.mem_of_getElem? (i := 29) (by decide +kernel))) rfl
theorem im_X10_init : Cond.instanceMethod yX10_init ∈ sw_U := sw_in (sw_t1 (List.mem_of_getElem? (i := 30) (by decide +kernel))) rfl
theorem co_X10_init : Cond.code yX10_init cX10_init 1 (Option.none : Option Jvm.ClassFile.FieldType) ∈ sw_U := sw_in (sw_t1 (List.mem_of_getElem? (i := 31) (by decide +kernel))) rfl
theorem ml_X10_3 : Cond.methodLink RX10 3 ⟨"java/lang/Object", "<init>", "()V"⟩ ∈ sw_U := sw_in (sw_t1 (List.mem_of_getElem? (i := 32) (by decide +kernel))) rfl
theorem cl_X10_9 : Cond.classLink RX10 9 RX3 ∈ sw_U := sw_in (sw_t1 (List.mem_of_getElem? (i := 35) (by decide +kernel))) rfl
theorem ins_X3 : Cond.instantiable RX3 7 ∈ sw_U := sw_in (sw_t1 (List.mem_of_getElem? (i := 36) (by decide +kernel))) rfl
theorem ml_X10_11 : Cond.methodLink RX10 11 yX3_init ∈ sw_U := sw_in (sw_t1 (List.mem_of_getElem? (i := 37) (by decide +kernel))) rfl
theorem im_X3_init : Cond.instanceMethod yX3_init ∈ sw_U := sw_in (sw_t1 (List.mem_of_getElem? (i := 38) (by decide +kernel))) rfl
theorem co_X3_init : Cond.code yX3_init cX3_init 1 (Option.none : Option Jvm.ClassFile.FieldType) ∈ sw_U := sw_in (sw_t1 (List.mem_of_getElem? (i := 39) (by decide +kernel))) rfl
theorem ml_X3_3 : Cond.methodLink RX3 3 ⟨"java/lang/Object", "<init>", "()V"⟩ ∈ sw_U := sw_in (sw_t1 (List.mem_of_getElem? (i := 40) (by decide +kernel))) rfl
theorem fl_X3_9 : Cond.fieldLink RX3 9 "StrikeWheels$Plan" "wheel" "I" ∈ sw_U := sw_in (sw_t1 (List.mem_of_getElem? (i := 41) (by decide +kernel))) rfl
theorem fl_X3_15 : Cond.fieldLink RX3 15 "StrikeWheels$Plan" "stretches" "I" ∈ sw_U := sw_in (sw_t1 (List.mem_of_getElem? (i := 42) (by decide +kernel))) rfl
theorem fl_X3_18 : Cond.fieldLink RX3 18 "StrikeWheels$Plan" "rooms" "[I" ∈ sw_U := sw_in (sw_t1 (List.mem_of_getElem? (i := 43) (by decide +kernel))) rfl
theorem fl_X3_22 : Cond.fieldLink RX3 22 "StrikeWheels$Plan" "last" "I" ∈ sw_U := sw_in (sw_t1 (List.mem_of_getElem? (i := 44) (by decide +kernel))) rfl
theorem fl_X3_25 : Cond.fieldLink RX3 25 "StrikeWheels$Plan" "strikers" "I" ∈ sw_U := sw_in (sw_t1 (List.mem_of_getElem? (i := 45) (by decide +kernel))) rfl
theorem fl_X3_28 : Cond.fieldLink RX3 28 "StrikeWheels$Plan" "ds" "[I" ∈ sw_U := sw_in (sw_t1 (List.mem_of_getElem? (i := 46) (by decide +kernel))) rfl
theorem fl_X3_31 : Cond.fieldLink RX3 31 "StrikeWheels$Plan" "version" "I" ∈ sw_U := sw_in (sw_t1 (List.mem_of_getElem? (i := 47) (by decide +kernel))) rfl
theorem ac_int : Cond.arrayClass Jvm.ClassFile.FieldType.int ∈ sw_U := sw_in (sw_t1 (List.mem_of_getElem? (i := 63) (by decide +kernel))) rfl
theorem cl_X10_29 : Cond.classLink RX10 29 RX1 ∈ sw_U := sw_in (sw_t1 (List.mem_of_getElem? (i := 64) (by decide +kernel))) rfl
theorem ins_X1 : Cond.instantiable RX1 3 ∈ sw_U := sw_in (sw_t1 (List.mem_of_getElem? (i := 65) (by decide +kernel))) rfl
theorem ml_X10_31 : Cond.methodLink RX10 31 yX1_init ∈ sw_U := sw_in (sw_t1 (List.mem_of_getElem? (i := 66) (by decide +kernel))) rfl
theorem im_X1_init : Cond.instanceMethod yX1_init ∈ sw_U := sw_in (sw_t1 (List.mem_of_getElem? (i := 67) (by decide +kernel))) rfl
theorem co_X1_init : Cond.code yX1_init cX1_init 2 (Option.none : Option Jvm.ClassFile.FieldType) ∈ sw_U := sw_in (sw_t1 (List.mem_of_getElem? (i := 68) (by decide +kernel))) rfl
theorem ml_X1_3 : Cond.methodLink RX1 3 ⟨"java/lang/Object", "<init>", "()V"⟩ ∈ sw_U := sw_in (sw_t1 (List.mem_of_getElem? (i := 69) (by decide +kernel))) rfl
theorem cl_X1_9 : Cond.classLink RX1 9 RX3 ∈ sw_U := sw_in (sw_t1 (List.mem_of_getElem? (i := 70) (by decide +kernel))) rfl
theorem ml_X1_24 : Cond.methodLink RX1 24 yX3_init ∈ sw_U := sw_in (sw_t1 (List.mem_of_getElem? (i := 72) (by decide +kernel))) rfl
theorem fl_X1_11 : Cond.fieldLink RX1 11 "StrikeWheels$History" "plans" "[LStrikeWheels$Plan;" ∈ sw_U := sw_in (sw_t1 (List.mem_of_getElem? (i := 73) (by decide +kernel))) rfl
theorem fl_X1_17 : Cond.fieldLink RX1 17 "StrikeWheels$History" "oldest" "I" ∈ sw_U := sw_in (sw_t1 (List.mem_of_getElem? (i := 74) (by decide +kernel))) rfl
theorem fl_X1_21 : Cond.fieldLink RX1 21 "StrikeWheels$History" "count" "I" ∈ sw_U := sw_in (sw_t1 (List.mem_of_getElem? (i := 75) (by decide +kernel))) rfl
theorem cl_X10_36 : Cond.classLink RX10 36 RX7 ∈ sw_U := sw_in (sw_t1 (List.mem_of_getElem? (i := 83) (by decide +kernel))) rfl
theorem ins_X7 : Cond.instantiable RX7 6 ∈ sw_U := sw_in (sw_t1 (List.mem_of_getElem? (i := 84) (by decide +kernel))) rfl
theorem ml_X10_38 : Cond.methodLink RX10 38 yX7_init ∈ sw_U := sw_in (sw_t1 (List.mem_of_getElem? (i := 85) (by decide +kernel))) rfl
theorem im_X7_init : Cond.instanceMethod yX7_init ∈ sw_U := sw_in (sw_t1 (List.mem_of_getElem? (i := 86) (by decide +kernel))) rfl
theorem co_X7_init : Cond.code yX7_init cX7_init 1 (Option.none : Option Jvm.ClassFile.FieldType) ∈ sw_U := sw_in (sw_t1 (List.mem_of_getElem? (i := 87) (by decide +kernel))) rfl
theorem ml_X7_3 : Cond.methodLink RX7 3 ⟨"java/lang/Object", "<init>", "()V"⟩ ∈ sw_U := sw_in (sw_t1 (List.mem_of_getElem? (i := 88) (by decide +kernel))) rfl
theorem fl_X7_9 : Cond.fieldLink RX7 9 "StrikeWheels$Sieve" "owners" "[I" ∈ sw_U := sw_in (sw_t1 (List.mem_of_getElem? (i := 89) (by decide +kernel))) rfl
theorem fl_X7_15 : Cond.fieldLink RX7 15 "StrikeWheels$Sieve" "counts" "[I" ∈ sw_U := sw_in (sw_t1 (List.mem_of_getElem? (i := 90) (by decide +kernel))) rfl
theorem fl_X7_18 : Cond.fieldLink RX7 18 "StrikeWheels$Sieve" "last" "I" ∈ sw_U := sw_in (sw_t1 (List.mem_of_getElem? (i := 91) (by decide +kernel))) rfl
theorem fl_X7_22 : Cond.fieldLink RX7 22 "StrikeWheels$Sieve" "markCount" "I" ∈ sw_U := sw_in (sw_t1 (List.mem_of_getElem? (i := 92) (by decide +kernel))) rfl
theorem fl_X7_25 : Cond.fieldLink RX7 25 "StrikeWheels$Sieve" "spokeCount" "I" ∈ sw_U := sw_in (sw_t1 (List.mem_of_getElem? (i := 93) (by decide +kernel))) rfl
theorem fl_X7_28 : Cond.fieldLink RX7 28 "StrikeWheels$Sieve" "builtVersion" "I" ∈ sw_U := sw_in (sw_t1 (List.mem_of_getElem? (i := 94) (by decide +kernel))) rfl
theorem cl_X10_43 : Cond.classLink RX10 43 RX8 ∈ sw_U := sw_in (sw_t1 (List.mem_of_getElem? (i := 108) (by decide +kernel))) rfl
theorem ins_X8 : Cond.instantiable RX8 7 ∈ sw_U := sw_in (sw_t1 (List.mem_of_getElem? (i := 109) (by decide +kernel))) rfl
theorem ml_X10_45 : Cond.methodLink RX10 45 yX8_init ∈ sw_U := sw_in (sw_t1 (List.mem_of_getElem? (i := 110) (by decide +kernel))) rfl
theorem im_X8_init : Cond.instanceMethod yX8_init ∈ sw_U := sw_in (sw_t1 (List.mem_of_getElem? (i := 111) (by decide +kernel))) rfl
theorem co_X8_init : Cond.code yX8_init cX8_init 1 (Option.none : Option Jvm.ClassFile.FieldType) ∈ sw_U := sw_in (sw_t1 (List.mem_of_getElem? (i := 112) (by decide +kernel))) rfl
theorem ml_X8_3 : Cond.methodLink RX8 3 ⟨"java/lang/Object", "<init>", "()V"⟩ ∈ sw_U := sw_in (sw_t1 (List.mem_of_getElem? (i := 113) (by decide +kernel))) rfl
theorem fl_X8_9 : Cond.fieldLink RX8 9 "StrikeWheels$Source" "bytes" "[B" ∈ sw_U := sw_in (sw_t1 (List.mem_of_getElem? (i := 114) (by decide +kernel))) rfl
theorem fl_X8_15 : Cond.fieldLink RX8 15 "StrikeWheels$Source" "filled" "I" ∈ sw_U := sw_in (sw_t1 (List.mem_of_getElem? (i := 115) (by decide +kernel))) rfl
theorem fl_X8_19 : Cond.fieldLink RX8 19 "StrikeWheels$Source" "end" "I" ∈ sw_U := sw_in (sw_t1 (List.mem_of_getElem? (i := 116) (by decide +kernel))) rfl
theorem fl_X8_22 : Cond.fieldLink RX8 22 "StrikeWheels$Source" "position" "I" ∈ sw_U := sw_in (sw_t1 (List.mem_of_getElem? (i := 117) (by decide +kernel))) rfl
theorem fl_X8_25 : Cond.fieldLink RX8 25 "StrikeWheels$Source" "kind" "I" ∈ sw_U := sw_in (sw_t1 (List.mem_of_getElem? (i := 118) (by decide +kernel))) rfl
theorem fl_X8_28 : Cond.fieldLink RX8 28 "StrikeWheels$Source" "start" "I" ∈ sw_U := sw_in (sw_t1 (List.mem_of_getElem? (i := 119) (by decide +kernel))) rfl
theorem fl_X8_31 : Cond.fieldLink RX8 31 "StrikeWheels$Source" "value" "I" ∈ sw_U := sw_in (sw_t1 (List.mem_of_getElem? (i := 120) (by decide +kernel))) rfl
theorem ac_byte : Cond.arrayClass Jvm.ClassFile.FieldType.byte ∈ sw_U := sw_in (sw_t1 (List.mem_of_getElem? (i := 136) (by decide +kernel))) rfl
theorem cl_X10_50 : Cond.classLink RX10 50 RX4 ∈ sw_U := sw_in (sw_t1 (List.mem_of_getElem? (i := 137) (by decide +kernel))) rfl
theorem ins_X4 : Cond.instantiable RX4 4 ∈ sw_U := sw_in (sw_t1 (List.mem_of_getElem? (i := 138) (by decide +kernel))) rfl
theorem ml_X10_52 : Cond.methodLink RX10 52 yX4_init ∈ sw_U := sw_in (sw_t1 (List.mem_of_getElem? (i := 139) (by decide +kernel))) rfl
theorem im_X4_init : Cond.instanceMethod yX4_init ∈ sw_U := sw_in (sw_t1 (List.mem_of_getElem? (i := 140) (by decide +kernel))) rfl
theorem co_X4_init : Cond.code yX4_init cX4_init 2 (Option.none : Option Jvm.ClassFile.FieldType) ∈ sw_U := sw_in (sw_t1 (List.mem_of_getElem? (i := 141) (by decide +kernel))) rfl
theorem ml_X4_3 : Cond.methodLink RX4 3 ⟨"java/lang/Object", "<init>", "()V"⟩ ∈ sw_U := sw_in (sw_t1 (List.mem_of_getElem? (i := 142) (by decide +kernel))) rfl
theorem fl_X4_21 : Cond.fieldLink RX4 21 "StrikeWheels$Reader" "source" "LStrikeWheels$Source;" ∈ sw_U := sw_in (sw_t1 (List.mem_of_getElem? (i := 143) (by decide +kernel))) rfl
theorem fl_X4_9 : Cond.fieldLink RX4 9 "StrikeWheels$Reader" "error" "I" ∈ sw_U := sw_in (sw_t1 (List.mem_of_getElem? (i := 144) (by decide +kernel))) rfl
theorem fl_X4_15 : Cond.fieldLink RX4 15 "StrikeWheels$Reader" "position" "I" ∈ sw_U := sw_in (sw_t1 (List.mem_of_getElem? (i := 145) (by decide +kernel))) rfl
theorem fl_X4_18 : Cond.fieldLink RX4 18 "StrikeWheels$Reader" "number" "I" ∈ sw_U := sw_in (sw_t1 (List.mem_of_getElem? (i := 146) (by decide +kernel))) rfl
theorem cl_X10_59 : Cond.classLink RX10 59 RX5 ∈ sw_U := sw_in (sw_t1 (List.mem_of_getElem? (i := 156) (by decide +kernel))) rfl
theorem ins_X5 : Cond.instantiable RX5 4 ∈ sw_U := sw_in (sw_t1 (List.mem_of_getElem? (i := 157) (by decide +kernel))) rfl
theorem ml_X10_61 : Cond.methodLink RX10 61 yX5_init ∈ sw_U := sw_in (sw_t1 (List.mem_of_getElem? (i := 158) (by decide +kernel))) rfl
theorem im_X5_init : Cond.instanceMethod yX5_init ∈ sw_U := sw_in (sw_t1 (List.mem_of_getElem? (i := 159) (by decide +kernel))) rfl
theorem co_X5_init : Cond.code yX5_init cX5_init 1 (Option.none : Option Jvm.ClassFile.FieldType) ∈ sw_U := sw_in (sw_t1 (List.mem_of_getElem? (i := 160) (by decide +kernel))) rfl
theorem ml_X5_3 : Cond.methodLink RX5 3 ⟨"java/lang/Object", "<init>", "()V"⟩ ∈ sw_U := sw_in (sw_t1 (List.mem_of_getElem? (i := 161) (by decide +kernel))) rfl
theorem cl_X5_9 : Cond.classLink RX5 9 RX2 ∈ sw_U := sw_in (sw_t1 (List.mem_of_getElem? (i := 162) (by decide +kernel))) rfl
theorem fl_X5_11 : Cond.fieldLink RX5 11 "StrikeWheels$Script" "orders" "[LStrikeWheels$Order;" ∈ sw_U := sw_in (sw_t1 (List.mem_of_getElem? (i := 164) (by decide +kernel))) rfl
theorem fl_X5_17 : Cond.fieldLink RX5 17 "StrikeWheels$Script" "numbers" "[I" ∈ sw_U := sw_in (sw_t1 (List.mem_of_getElem? (i := 165) (by decide +kernel))) rfl
theorem fl_X5_21 : Cond.fieldLink RX5 21 "StrikeWheels$Script" "others" "[I" ∈ sw_U := sw_in (sw_t1 (List.mem_of_getElem? (i := 166) (by decide +kernel))) rfl
theorem fl_X5_24 : Cond.fieldLink RX5 24 "StrikeWheels$Script" "count" "I" ∈ sw_U := sw_in (sw_t1 (List.mem_of_getElem? (i := 167) (by decide +kernel))) rfl
theorem cl_X10_66 : Cond.classLink RX10 66 RX6 ∈ sw_U := sw_in (sw_t1 (List.mem_of_getElem? (i := 177) (by decide +kernel))) rfl
theorem ins_X6 : Cond.instantiable RX6 2 ∈ sw_U := sw_in (sw_t1 (List.mem_of_getElem? (i := 178) (by decide +kernel))) rfl
theorem ml_X10_68 : Cond.methodLink RX10 68 yX6_init ∈ sw_U := sw_in (sw_t1 (List.mem_of_getElem? (i := 179) (by decide +kernel))) rfl
theorem im_X6_init : Cond.instanceMethod yX6_init ∈ sw_U := sw_in (sw_t1 (List.mem_of_getElem? (i := 180) (by decide +kernel))) rfl
theorem co_X6_init : Cond.code yX6_init cX6_init 1 (Option.none : Option Jvm.ClassFile.FieldType) ∈ sw_U := sw_in (sw_t1 (List.mem_of_getElem? (i := 181) (by decide +kernel))) rfl
theorem ml_X6_3 : Cond.methodLink RX6 3 ⟨"java/lang/Object", "<init>", "()V"⟩ ∈ sw_U := sw_in (sw_t1 (List.mem_of_getElem? (i := 182) (by decide +kernel))) rfl
theorem fl_X6_9 : Cond.fieldLink RX6 9 "StrikeWheels$Sheet" "bytes" "[B" ∈ sw_U := sw_in (sw_t1 (List.mem_of_getElem? (i := 183) (by decide +kernel))) rfl
theorem fl_X6_15 : Cond.fieldLink RX6 15 "StrikeWheels$Sheet" "length" "I" ∈ sw_U := sw_in (sw_t1 (List.mem_of_getElem? (i := 184) (by decide +kernel))) rfl
theorem ml_X10_81 : Cond.methodLink RX10 81 yX3_beginWith ∈ sw_U := sw_in (sw_t1 (List.mem_of_getElem? (i := 190) (by decide +kernel))) rfl
theorem im_X3_beginWith : Cond.instanceMethod yX3_beginWith ∈ sw_U := sw_in (sw_t1 (List.mem_of_getElem? (i := 191) (by decide +kernel))) rfl
theorem se_X3_beginWith : Cond.selects yX3_beginWith.cls yX3_beginWith yX3_beginWith ∈ sw_U := sw_in (sw_t1 (List.mem_of_getElem? (i := 192) (by decide +kernel))) rfl
theorem co_X3_beginWith : Cond.code yX3_beginWith cX3_beginWith 2 (Option.none : Option Jvm.ClassFile.FieldType) ∈ sw_U := sw_in (sw_t1 (List.mem_of_getElem? (i := 193) (by decide +kernel))) rfl
theorem ml_X10_85 : Cond.methodLink RX10 85 yX3_appendStretch ∈ sw_U := sw_in (sw_t1 (List.mem_of_getElem? (i := 194) (by decide +kernel))) rfl
theorem im_X3_appendStretch : Cond.instanceMethod yX3_appendStretch ∈ sw_U := sw_in (sw_t1 (List.mem_of_getElem? (i := 195) (by decide +kernel))) rfl
theorem se_X3_appendStretch : Cond.selects yX3_appendStretch.cls yX3_appendStretch yX3_appendStretch ∈ sw_U := sw_in (sw_t1 (List.mem_of_getElem? (i := 196) (by decide +kernel))) rfl
theorem co_X3_appendStretch : Cond.code yX3_appendStretch cX3_appendStretch 2 (Option.none : Option Jvm.ClassFile.FieldType) ∈ sw_U := sw_in (sw_t1 (List.mem_of_getElem? (i := 197) (by decide +kernel))) rfl
theorem ml_X10_88 : Cond.methodLink RX10 88 yX3_appendStriker ∈ sw_U := sw_in (sw_t1 (List.mem_of_getElem? (i := 198) (by decide +kernel))) rfl
theorem im_X3_appendStriker : Cond.instanceMethod yX3_appendStriker ∈ sw_U := sw_in (sw_t1 (List.mem_of_getElem? (i := 199) (by decide +kernel))) rfl
theorem se_X3_appendStriker : Cond.selects yX3_appendStriker.cls yX3_appendStriker yX3_appendStriker ∈ sw_U := sw_in (sw_t1 (List.mem_of_getElem? (i := 200) (by decide +kernel))) rfl
theorem co_X3_appendStriker : Cond.code yX3_appendStriker cX3_appendStriker 2 (Option.none : Option Jvm.ClassFile.FieldType) ∈ sw_U := sw_in (sw_t1 (List.mem_of_getElem? (i := 201) (by decide +kernel))) rfl
theorem fl_X10_12 : Cond.fieldLink RX10 12 "StrikeWheels" "plan" "LStrikeWheels$Plan;" ∈ sw_U := sw_in (sw_t1 (List.mem_of_getElem? (i := 202) (by decide +kernel))) rfl
theorem fl_X10_16 : Cond.fieldLink RX10 16 "StrikeWheels" "before" "LStrikeWheels$Plan;" ∈ sw_U := sw_in (sw_t1 (List.mem_of_getElem? (i := 203) (by decide +kernel))) rfl
theorem fl_X10_19 : Cond.fieldLink RX10 19 "StrikeWheels" "draft" "LStrikeWheels$Plan;" ∈ sw_U := sw_in (sw_t1 (List.mem_of_getElem? (i := 204) (by decide +kernel))) rfl
theorem fl_X10_22 : Cond.fieldLink RX10 22 "StrikeWheels" "snapshot" "LStrikeWheels$Plan;" ∈ sw_U := sw_in (sw_t1 (List.mem_of_getElem? (i := 205) (by decide +kernel))) rfl
theorem fl_X10_25 : Cond.fieldLink RX10 25 "StrikeWheels" "hasSnapshot" "Z" ∈ sw_U := sw_in (sw_t1 (List.mem_of_getElem? (i := 206) (by decide +kernel))) rfl
theorem fl_X10_32 : Cond.fieldLink RX10 32 "StrikeWheels" "history" "LStrikeWheels$History;" ∈ sw_U := sw_in (sw_t1 (List.mem_of_getElem? (i := 207) (by decide +kernel))) rfl
theorem fl_X10_39 : Cond.fieldLink RX10 39 "StrikeWheels" "sieve" "LStrikeWheels$Sieve;" ∈ sw_U := sw_in (sw_t1 (List.mem_of_getElem? (i := 208) (by decide +kernel))) rfl
theorem fl_X10_46 : Cond.fieldLink RX10 46 "StrikeWheels" "source" "LStrikeWheels$Source;" ∈ sw_U := sw_in (sw_t1 (List.mem_of_getElem? (i := 209) (by decide +kernel))) rfl
theorem fl_X10_55 : Cond.fieldLink RX10 55 "StrikeWheels" "reader" "LStrikeWheels$Reader;" ∈ sw_U := sw_in (sw_t1 (List.mem_of_getElem? (i := 210) (by decide +kernel))) rfl
theorem fl_X10_62 : Cond.fieldLink RX10 62 "StrikeWheels" "script" "LStrikeWheels$Script;" ∈ sw_U := sw_in (sw_t1 (List.mem_of_getElem? (i := 211) (by decide +kernel))) rfl
theorem fl_X10_69 : Cond.fieldLink RX10 69 "StrikeWheels" "sheet" "LStrikeWheels$Sheet;" ∈ sw_U := sw_in (sw_t1 (List.mem_of_getElem? (i := 212) (by decide +kernel))) rfl
theorem fl_X10_73 : Cond.fieldLink RX10 73 "StrikeWheels" "accounts" "[I" ∈ sw_U := sw_in (sw_t1 (List.mem_of_getElem? (i := 213) (by decide +kernel))) rfl
theorem fl_X10_77 : Cond.fieldLink RX10 77 "StrikeWheels" "positionOfError" "I" ∈ sw_U := sw_in (sw_t1 (List.mem_of_getElem? (i := 214) (by decide +kernel))) rfl
theorem ml_L_94 : Cond.methodLink RL 94 yX10_feed ∈ sw_U := sw_in (sw_t2 (List.mem_of_getElem? (i := 2) (by decide +kernel))) rfl
theorem im_X10_feed : Cond.instanceMethod yX10_feed ∈ sw_U := sw_in (sw_t2 (List.mem_of_getElem? (i := 3) (by decide +kernel))) rfl
theorem se_X10_feed : Cond.selects yX10_feed.cls yX10_feed yX10_feed ∈ sw_U := sw_in (sw_t2 (List.mem_of_getElem? (i := 4) (by decide +kernel))) rfl
theorem co_X10_feed : Cond.code yX10_feed cX10_feed 6 (Option.some Jvm.ClassFile.FieldType.int) ∈ sw_U := sw_in (sw_t2 (List.mem_of_getElem? (i := 5) (by decide +kernel))) rfl
theorem ml_X10_91 : Cond.methodLink RX10 91 yX8_filled ∈ sw_U := sw_in (sw_t2 (List.mem_of_getElem? (i := 6) (by decide +kernel))) rfl
theorem im_X8_filled : Cond.instanceMethod yX8_filled ∈ sw_U := sw_in (sw_t2 (List.mem_of_getElem? (i := 7) (by decide +kernel))) rfl
theorem se_X8_filled : Cond.selects yX8_filled.cls yX8_filled yX8_filled ∈ sw_U := sw_in (sw_t2 (List.mem_of_getElem? (i := 8) (by decide +kernel))) rfl
theorem co_X8_filled : Cond.code yX8_filled cX8_filled 1 (Option.some Jvm.ClassFile.FieldType.int) ∈ sw_U := sw_in (sw_t2 (List.mem_of_getElem? (i := 9) (by decide +kernel))) rfl
theorem ml_X10_95 : Cond.methodLink RX10 95 yX8_appendFour ∈ sw_U := sw_in (sw_t2 (List.mem_of_getElem? (i := 10) (by decide +kernel))) rfl
theorem im_X8_appendFour : Cond.instanceMethod yX8_appendFour ∈ sw_U := sw_in (sw_t2 (List.mem_of_getElem? (i := 11) (by decide +kernel))) rfl
theorem se_X8_appendFour : Cond.selects yX8_appendFour.cls yX8_appendFour yX8_appendFour ∈ sw_U := sw_in (sw_t2 (List.mem_of_getElem? (i := 12) (by decide +kernel))) rfl
theorem co_X8_appendFour : Cond.code yX8_appendFour cX8_appendFour 3 (Option.none : Option Jvm.ClassFile.FieldType) ∈ sw_U := sw_in (sw_t2 (List.mem_of_getElem? (i := 13) (by decide +kernel))) rfl
theorem ml_L_109 : Cond.methodLink RL 109 yX10_errorPosition ∈ sw_U := sw_in (sw_t2 (List.mem_of_getElem? (i := 14) (by decide +kernel))) rfl
theorem im_X10_errorPosition : Cond.instanceMethod yX10_errorPosition ∈ sw_U := sw_in (sw_t2 (List.mem_of_getElem? (i := 15) (by decide +kernel))) rfl
theorem se_X10_errorPosition : Cond.selects yX10_errorPosition.cls yX10_errorPosition yX10_errorPosition ∈ sw_U := sw_in (sw_t2 (List.mem_of_getElem? (i := 16) (by decide +kernel))) rfl
theorem co_X10_errorPosition : Cond.code yX10_errorPosition cX10_errorPosition 1 (Option.some Jvm.ClassFile.FieldType.int) ∈ sw_U := sw_in (sw_t2 (List.mem_of_getElem? (i := 17) (by decide +kernel))) rfl
theorem ml_L_126 : Cond.methodLink RL 126 yX10_find ∈ sw_U := sw_in (sw_t2 (List.mem_of_getElem? (i := 18) (by decide +kernel))) rfl
theorem im_X10_find : Cond.instanceMethod yX10_find ∈ sw_U := sw_in (sw_t2 (List.mem_of_getElem? (i := 19) (by decide +kernel))) rfl
theorem se_X10_find : Cond.selects yX10_find.cls yX10_find yX10_find ∈ sw_U := sw_in (sw_t2 (List.mem_of_getElem? (i := 20) (by decide +kernel))) rfl
theorem co_X10_find : Cond.code yX10_find cX10_find 2 (Option.some Jvm.ClassFile.FieldType.int) ∈ sw_U := sw_in (sw_t2 (List.mem_of_getElem? (i := 21) (by decide +kernel))) rfl
theorem ml_X10_201 : Cond.methodLink RX10 201 yX3_placeOf ∈ sw_U := sw_in (sw_t2 (List.mem_of_getElem? (i := 22) (by decide +kernel))) rfl
theorem im_X3_placeOf : Cond.instanceMethod yX3_placeOf ∈ sw_U := sw_in (sw_t2 (List.mem_of_getElem? (i := 23) (by decide +kernel))) rfl
theorem se_X3_placeOf : Cond.selects yX3_placeOf.cls yX3_placeOf yX3_placeOf ∈ sw_U := sw_in (sw_t2 (List.mem_of_getElem? (i := 24) (by decide +kernel))) rfl
theorem co_X3_placeOf : Cond.code yX3_placeOf cX3_placeOf 3 (Option.some Jvm.ClassFile.FieldType.int) ∈ sw_U := sw_in (sw_t2 (List.mem_of_getElem? (i := 25) (by decide +kernel))) rfl
theorem ml_L_130 : Cond.methodLink RL 130 yX10_at ∈ sw_U := sw_in (sw_t2 (List.mem_of_getElem? (i := 26) (by decide +kernel))) rfl
theorem im_X10_at : Cond.instanceMethod yX10_at ∈ sw_U := sw_in (sw_t2 (List.mem_of_getElem? (i := 27) (by decide +kernel))) rfl
theorem se_X10_at : Cond.selects yX10_at.cls yX10_at yX10_at ∈ sw_U := sw_in (sw_t2 (List.mem_of_getElem? (i := 28) (by decide +kernel))) rfl
theorem co_X10_at : Cond.code yX10_at cX10_at 3 (Option.some Jvm.ClassFile.FieldType.int) ∈ sw_U := sw_in (sw_t2 (List.mem_of_getElem? (i := 29) (by decide +kernel))) rfl
theorem ml_X10_128 : Cond.methodLink RX10 128 yX10_current ∈ sw_U := sw_in (sw_t2 (List.mem_of_getElem? (i := 30) (by decide +kernel))) rfl
theorem im_X10_current : Cond.instanceMethod yX10_current ∈ sw_U := sw_in (sw_t2 (List.mem_of_getElem? (i := 32) (by decide +kernel))) rfl
theorem co_X10_current : Cond.code yX10_current cX10_current 1 (Option.some (Jvm.ClassFile.FieldType.object "StrikeWheels$Sieve")) ∈ sw_U := sw_in (sw_t2 (List.mem_of_getElem? (i := 33) (by decide +kernel))) rfl
theorem ml_X10_352 : Cond.methodLink RX10 352 yX7_isBuiltFor ∈ sw_U := sw_in (sw_t2 (List.mem_of_getElem? (i := 34) (by decide +kernel))) rfl
theorem im_X7_isBuiltFor : Cond.instanceMethod yX7_isBuiltFor ∈ sw_U := sw_in (sw_t2 (List.mem_of_getElem? (i := 35) (by decide +kernel))) rfl
theorem se_X7_isBuiltFor : Cond.selects yX7_isBuiltFor.cls yX7_isBuiltFor yX7_isBuiltFor ∈ sw_U := sw_in (sw_t2 (List.mem_of_getElem? (i := 36) (by decide +kernel))) rfl
theorem co_X7_isBuiltFor : Cond.code yX7_isBuiltFor cX7_isBuiltFor 2 (Option.some Jvm.ClassFile.FieldType.boolean) ∈ sw_U := sw_in (sw_t2 (List.mem_of_getElem? (i := 37) (by decide +kernel))) rfl
theorem ml_X7_31 : Cond.methodLink RX7 31 yX3_version ∈ sw_U := sw_in (sw_t2 (List.mem_of_getElem? (i := 38) (by decide +kernel))) rfl
theorem im_X3_version : Cond.instanceMethod yX3_version ∈ sw_U := sw_in (sw_t2 (List.mem_of_getElem? (i := 39) (by decide +kernel))) rfl
theorem se_X3_version : Cond.selects yX3_version.cls yX3_version yX3_version ∈ sw_U := sw_in (sw_t2 (List.mem_of_getElem? (i := 40) (by decide +kernel))) rfl
theorem co_X3_version : Cond.code yX3_version cX3_version 1 (Option.some Jvm.ClassFile.FieldType.int) ∈ sw_U := sw_in (sw_t2 (List.mem_of_getElem? (i := 41) (by decide +kernel))) rfl
theorem ml_X10_356 : Cond.methodLink RX10 356 yX7_build ∈ sw_U := sw_in (sw_t2 (List.mem_of_getElem? (i := 42) (by decide +kernel))) rfl
theorem im_X7_build : Cond.instanceMethod yX7_build ∈ sw_U := sw_in (sw_t2 (List.mem_of_getElem? (i := 43) (by decide +kernel))) rfl
theorem se_X7_build : Cond.selects yX7_build.cls yX7_build yX7_build ∈ sw_U := sw_in (sw_t2 (List.mem_of_getElem? (i := 44) (by decide +kernel))) rfl
theorem co_X7_build : Cond.code yX7_build cX7_build 4 (Option.none : Option Jvm.ClassFile.FieldType) ∈ sw_U := sw_in (sw_t2 (List.mem_of_getElem? (i := 45) (by decide +kernel))) rfl
theorem ml_X7_37 : Cond.methodLink RX7 37 yX3_lastNumber ∈ sw_U := sw_in (sw_t2 (List.mem_of_getElem? (i := 46) (by decide +kernel))) rfl
theorem im_X3_lastNumber : Cond.instanceMethod yX3_lastNumber ∈ sw_U := sw_in (sw_t2 (List.mem_of_getElem? (i := 47) (by decide +kernel))) rfl
theorem se_X3_lastNumber : Cond.selects yX3_lastNumber.cls yX3_lastNumber yX3_lastNumber ∈ sw_U := sw_in (sw_t2 (List.mem_of_getElem? (i := 48) (by decide +kernel))) rfl
theorem co_X3_lastNumber : Cond.code yX3_lastNumber cX3_lastNumber 1 (Option.some Jvm.ClassFile.FieldType.int) ∈ sw_U := sw_in (sw_t2 (List.mem_of_getElem? (i := 49) (by decide +kernel))) rfl
theorem ml_X7_40 : Cond.methodLink RX7 40 yJ9_min_7cf53 ∈ sw_U := sw_in (sw_t2 (List.mem_of_getElem? (i := 50) (by decide +kernel))) rfl
theorem st_J9_min_7cf53 : Cond.static yJ9_min_7cf53 ∈ sw_U := sw_in (sw_t2 (List.mem_of_getElem? (i := 51) (by decide +kernel))) rfl
theorem co_J9_min_7cf53 : Cond.code yJ9_min_7cf53 cJ9_min_7cf53 2 (Option.some Jvm.ClassFile.FieldType.int) ∈ sw_U := sw_in (sw_t2 (List.mem_of_getElem? (i := 52) (by decide +kernel))) rfl
theorem ml_X7_46 : Cond.methodLink RX7 46 yX3_wheelNow ∈ sw_U := sw_in (sw_t2 (List.mem_of_getElem? (i := 53) (by decide +kernel))) rfl
theorem im_X3_wheelNow : Cond.instanceMethod yX3_wheelNow ∈ sw_U := sw_in (sw_t2 (List.mem_of_getElem? (i := 54) (by decide +kernel))) rfl
theorem se_X3_wheelNow : Cond.selects yX3_wheelNow.cls yX3_wheelNow yX3_wheelNow ∈ sw_U := sw_in (sw_t2 (List.mem_of_getElem? (i := 55) (by decide +kernel))) rfl
theorem co_X3_wheelNow : Cond.code yX3_wheelNow cX3_wheelNow 1 (Option.some Jvm.ClassFile.FieldType.int) ∈ sw_U := sw_in (sw_t2 (List.mem_of_getElem? (i := 56) (by decide +kernel))) rfl
theorem ml_X7_49 : Cond.methodLink RX7 49 yX9_primeAt ∈ sw_U := sw_in (sw_t2 (List.mem_of_getElem? (i := 57) (by decide +kernel))) rfl
theorem st_X9_primeAt : Cond.static yX9_primeAt ∈ sw_U := sw_in (sw_t2 (List.mem_of_getElem? (i := 58) (by decide +kernel))) rfl
theorem co_X9_primeAt : Cond.code yX9_primeAt cX9_primeAt 1 (Option.some Jvm.ClassFile.FieldType.int) ∈ sw_U := sw_in (sw_t2 (List.mem_of_getElem? (i := 59) (by decide +kernel))) rfl
theorem fl_X9_9 : Cond.fieldLink RX9 9 "StrikeWheels$Wheels" "PRIMES" "[I" ∈ sw_U := sw_in (sw_t2 (List.mem_of_getElem? (i := 60) (by decide +kernel))) rfl
theorem ml_X7_55 : Cond.methodLink RX7 55 yX7_strikeOut ∈ sw_U := sw_in (sw_t2 (List.mem_of_getElem? (i := 62) (by decide +kernel))) rfl
theorem im_X7_strikeOut : Cond.instanceMethod yX7_strikeOut ∈ sw_U := sw_in (sw_t2 (List.mem_of_getElem? (i := 64) (by decide +kernel))) rfl
theorem co_X7_strikeOut : Cond.code yX7_strikeOut cX7_strikeOut 5 (Option.none : Option Jvm.ClassFile.FieldType) ∈ sw_U := sw_in (sw_t2 (List.mem_of_getElem? (i := 65) (by decide +kernel))) rfl
theorem ml_X7_59 : Cond.methodLink RX7 59 yX3_strikerCount ∈ sw_U := sw_in (sw_t2 (List.mem_of_getElem? (i := 66) (by decide +kernel))) rfl
theorem im_X3_strikerCount : Cond.instanceMethod yX3_strikerCount ∈ sw_U := sw_in (sw_t2 (List.mem_of_getElem? (i := 67) (by decide +kernel))) rfl
theorem se_X3_strikerCount : Cond.selects yX3_strikerCount.cls yX3_strikerCount yX3_strikerCount ∈ sw_U := sw_in (sw_t2 (List.mem_of_getElem? (i := 68) (by decide +kernel))) rfl
theorem co_X3_strikerCount : Cond.code yX3_strikerCount cX3_strikerCount 1 (Option.some Jvm.ClassFile.FieldType.int) ∈ sw_U := sw_in (sw_t2 (List.mem_of_getElem? (i := 69) (by decide +kernel))) rfl
theorem ml_X7_62 : Cond.methodLink RX7 62 yX3_dOf ∈ sw_U := sw_in (sw_t2 (List.mem_of_getElem? (i := 70) (by decide +kernel))) rfl
theorem im_X3_dOf : Cond.instanceMethod yX3_dOf ∈ sw_U := sw_in (sw_t2 (List.mem_of_getElem? (i := 71) (by decide +kernel))) rfl
theorem se_X3_dOf : Cond.selects yX3_dOf.cls yX3_dOf yX3_dOf ∈ sw_U := sw_in (sw_t2 (List.mem_of_getElem? (i := 72) (by decide +kernel))) rfl
theorem co_X3_dOf : Cond.code yX3_dOf cX3_dOf 2 (Option.some Jvm.ClassFile.FieldType.int) ∈ sw_U := sw_in (sw_t2 (List.mem_of_getElem? (i := 73) (by decide +kernel))) rfl
theorem ml_X7_65 : Cond.methodLink RX7 65 yX7_countAll ∈ sw_U := sw_in (sw_t2 (List.mem_of_getElem? (i := 74) (by decide +kernel))) rfl
theorem im_X7_countAll : Cond.instanceMethod yX7_countAll ∈ sw_U := sw_in (sw_t2 (List.mem_of_getElem? (i := 76) (by decide +kernel))) rfl
theorem co_X7_countAll : Cond.code yX7_countAll cX7_countAll 2 (Option.none : Option Jvm.ClassFile.FieldType) ∈ sw_U := sw_in (sw_t2 (List.mem_of_getElem? (i := 77) (by decide +kernel))) rfl
theorem ml_X10_204 : Cond.methodLink RX10 204 yX7_ownerOf ∈ sw_U := sw_in (sw_t2 (List.mem_of_getElem? (i := 78) (by decide +kernel))) rfl
theorem im_X7_ownerOf : Cond.instanceMethod yX7_ownerOf ∈ sw_U := sw_in (sw_t2 (List.mem_of_getElem? (i := 79) (by decide +kernel))) rfl
theorem se_X7_ownerOf : Cond.selects yX7_ownerOf.cls yX7_ownerOf yX7_ownerOf ∈ sw_U := sw_in (sw_t2 (List.mem_of_getElem? (i := 80) (by decide +kernel))) rfl
theorem co_X7_ownerOf : Cond.code yX7_ownerOf cX7_ownerOf 2 (Option.some Jvm.ClassFile.FieldType.int) ∈ sw_U := sw_in (sw_t2 (List.mem_of_getElem? (i := 81) (by decide +kernel))) rfl
theorem ml_L_134 : Cond.methodLink RL 134 yX10_cause ∈ sw_U := sw_in (sw_t2 (List.mem_of_getElem? (i := 82) (by decide +kernel))) rfl
theorem im_X10_cause : Cond.instanceMethod yX10_cause ∈ sw_U := sw_in (sw_t2 (List.mem_of_getElem? (i := 83) (by decide +kernel))) rfl
theorem se_X10_cause : Cond.selects yX10_cause.cls yX10_cause yX10_cause ∈ sw_U := sw_in (sw_t2 (List.mem_of_getElem? (i := 84) (by decide +kernel))) rfl
theorem co_X10_cause : Cond.code yX10_cause cX10_cause 3 (Option.some Jvm.ClassFile.FieldType.int) ∈ sw_U := sw_in (sw_t2 (List.mem_of_getElem? (i := 85) (by decide +kernel))) rfl
theorem ml_X10_116 : Cond.methodLink RX10 116 yX3_lastNumber ∈ sw_U := sw_in (sw_t2 (List.mem_of_getElem? (i := 86) (by decide +kernel))) rfl
theorem ml_X10_119 : Cond.methodLink RX10 119 yX3_wheelNow ∈ sw_U := sw_in (sw_t2 (List.mem_of_getElem? (i := 87) (by decide +kernel))) rfl
theorem ml_X10_207 : Cond.methodLink RX10 207 yX9_smallestPrimeOf ∈ sw_U := sw_in (sw_t2 (List.mem_of_getElem? (i := 88) (by decide +kernel))) rfl
theorem st_X9_smallestPrimeOf : Cond.static yX9_smallestPrimeOf ∈ sw_U := sw_in (sw_t2 (List.mem_of_getElem? (i := 89) (by decide +kernel))) rfl
theorem co_X9_smallestPrimeOf : Cond.code yX9_smallestPrimeOf cX9_smallestPrimeOf 3 (Option.some Jvm.ClassFile.FieldType.int) ∈ sw_U := sw_in (sw_t2 (List.mem_of_getElem? (i := 90) (by decide +kernel))) rfl
theorem ml_L_141 : Cond.methodLink RL 141 yX10_spokeAt ∈ sw_U := sw_in (sw_t2 (List.mem_of_getElem? (i := 91) (by decide +kernel))) rfl
theorem im_X10_spokeAt : Cond.instanceMethod yX10_spokeAt ∈ sw_U := sw_in (sw_t2 (List.mem_of_getElem? (i := 92) (by decide +kernel))) rfl
theorem se_X10_spokeAt : Cond.selects yX10_spokeAt.cls yX10_spokeAt yX10_spokeAt ∈ sw_U := sw_in (sw_t2 (List.mem_of_getElem? (i := 93) (by decide +kernel))) rfl
theorem co_X10_spokeAt : Cond.code yX10_spokeAt cX10_spokeAt 6 (Option.some Jvm.ClassFile.FieldType.int) ∈ sw_U := sw_in (sw_t2 (List.mem_of_getElem? (i := 94) (by decide +kernel))) rfl
theorem ml_X10_138 : Cond.methodLink RX10 138 yX9_product ∈ sw_U := sw_in (sw_t2 (List.mem_of_getElem? (i := 95) (by decide +kernel))) rfl
theorem st_X9_product : Cond.static yX9_product ∈ sw_U := sw_in (sw_t2 (List.mem_of_getElem? (i := 96) (by decide +kernel))) rfl
theorem co_X9_product : Cond.code yX9_product cX9_product 1 (Option.some Jvm.ClassFile.FieldType.int) ∈ sw_U := sw_in (sw_t2 (List.mem_of_getElem? (i := 97) (by decide +kernel))) rfl
theorem fl_X9_15 : Cond.fieldLink RX9 15 "StrikeWheels$Wheels" "PRODUCTS" "[I" ∈ sw_U := sw_in (sw_t2 (List.mem_of_getElem? (i := 98) (by decide +kernel))) rfl
theorem ml_X10_216 : Cond.methodLink RX10 216 yX9_isFree ∈ sw_U := sw_in (sw_t2 (List.mem_of_getElem? (i := 100) (by decide +kernel))) rfl
theorem st_X9_isFree : Cond.static yX9_isFree ∈ sw_U := sw_in (sw_t2 (List.mem_of_getElem? (i := 101) (by decide +kernel))) rfl
theorem co_X9_isFree : Cond.code yX9_isFree cX9_isFree 2 (Option.some Jvm.ClassFile.FieldType.boolean) ∈ sw_U := sw_in (sw_t2 (List.mem_of_getElem? (i := 102) (by decide +kernel))) rfl
theorem ml_X9_18 : Cond.methodLink RX9 18 yX9_smallestPrimeOf ∈ sw_U := sw_in (sw_t2 (List.mem_of_getElem? (i := 103) (by decide +kernel))) rfl
theorem ml_L_145 : Cond.methodLink RL 145 yX10_spokeOf ∈ sw_U := sw_in (sw_t2 (List.mem_of_getElem? (i := 104) (by decide +kernel))) rfl
theorem im_X10_spokeOf : Cond.instanceMethod yX10_spokeOf ∈ sw_U := sw_in (sw_t2 (List.mem_of_getElem? (i := 105) (by decide +kernel))) rfl
theorem se_X10_spokeOf : Cond.selects yX10_spokeOf.cls yX10_spokeOf yX10_spokeOf ∈ sw_U := sw_in (sw_t2 (List.mem_of_getElem? (i := 106) (by decide +kernel))) rfl
theorem co_X10_spokeOf : Cond.code yX10_spokeOf cX10_spokeOf 5 (Option.some Jvm.ClassFile.FieldType.int) ∈ sw_U := sw_in (sw_t2 (List.mem_of_getElem? (i := 107) (by decide +kernel))) rfl
theorem ml_X10_220 : Cond.methodLink RX10 220 yJ9_max_7cf53 ∈ sw_U := sw_in (sw_t2 (List.mem_of_getElem? (i := 108) (by decide +kernel))) rfl
theorem st_J9_max_7cf53 : Cond.static yJ9_max_7cf53 ∈ sw_U := sw_in (sw_t2 (List.mem_of_getElem? (i := 109) (by decide +kernel))) rfl
theorem co_J9_max_7cf53 : Cond.code yJ9_max_7cf53 cJ9_max_7cf53 2 (Option.some Jvm.ClassFile.FieldType.int) ∈ sw_U := sw_in (sw_t2 (List.mem_of_getElem? (i := 110) (by decide +kernel))) rfl
theorem ml_X10_144 : Cond.methodLink RX10 144 yX9_spokesUpTo ∈ sw_U := sw_in (sw_t2 (List.mem_of_getElem? (i := 111) (by decide +kernel))) rfl
theorem st_X9_spokesUpTo : Cond.static yX9_spokesUpTo ∈ sw_U := sw_in (sw_t2 (List.mem_of_getElem? (i := 112) (by decide +kernel))) rfl
theorem co_X9_spokesUpTo : Cond.code yX9_spokesUpTo cX9_spokesUpTo 4 (Option.some Jvm.ClassFile.FieldType.int) ∈ sw_U := sw_in (sw_t2 (List.mem_of_getElem? (i := 113) (by decide +kernel))) rfl
theorem ml_X9_22 : Cond.methodLink RX9 22 yX9_isFree ∈ sw_U := sw_in (sw_t2 (List.mem_of_getElem? (i := 114) (by decide +kernel))) rfl
theorem ml_L_155 : Cond.methodLink RL 155 yX10_upTo ∈ sw_U := sw_in (sw_t2 (List.mem_of_getElem? (i := 115) (by decide +kernel))) rfl
theorem im_X10_upTo : Cond.instanceMethod yX10_upTo ∈ sw_U := sw_in (sw_t2 (List.mem_of_getElem? (i := 116) (by decide +kernel))) rfl
theorem se_X10_upTo : Cond.selects yX10_upTo.cls yX10_upTo yX10_upTo ∈ sw_U := sw_in (sw_t2 (List.mem_of_getElem? (i := 117) (by decide +kernel))) rfl
theorem co_X10_upTo : Cond.code yX10_upTo cX10_upTo 2 (Option.some Jvm.ClassFile.FieldType.int) ∈ sw_U := sw_in (sw_t2 (List.mem_of_getElem? (i := 118) (by decide +kernel))) rfl
theorem ml_X10_228 : Cond.methodLink RX10 228 yX7_marksUpTo ∈ sw_U := sw_in (sw_t2 (List.mem_of_getElem? (i := 119) (by decide +kernel))) rfl
theorem im_X7_marksUpTo : Cond.instanceMethod yX7_marksUpTo ∈ sw_U := sw_in (sw_t2 (List.mem_of_getElem? (i := 120) (by decide +kernel))) rfl
theorem se_X7_marksUpTo : Cond.selects yX7_marksUpTo.cls yX7_marksUpTo yX7_marksUpTo ∈ sw_U := sw_in (sw_t2 (List.mem_of_getElem? (i := 121) (by decide +kernel))) rfl
theorem co_X7_marksUpTo : Cond.code yX7_marksUpTo cX7_marksUpTo 2 (Option.some Jvm.ClassFile.FieldType.int) ∈ sw_U := sw_in (sw_t2 (List.mem_of_getElem? (i := 122) (by decide +kernel))) rfl
theorem ml_L_159 : Cond.methodLink RL 159 yX10_mark ∈ sw_U := sw_in (sw_t2 (List.mem_of_getElem? (i := 123) (by decide +kernel))) rfl
theorem im_X10_mark : Cond.instanceMethod yX10_mark ∈ sw_U := sw_in (sw_t2 (List.mem_of_getElem? (i := 124) (by decide +kernel))) rfl
theorem se_X10_mark : Cond.selects yX10_mark.cls yX10_mark yX10_mark ∈ sw_U := sw_in (sw_t2 (List.mem_of_getElem? (i := 125) (by decide +kernel))) rfl
theorem co_X10_mark : Cond.code yX10_mark cX10_mark 2 (Option.some Jvm.ClassFile.FieldType.int) ∈ sw_U := sw_in (sw_t2 (List.mem_of_getElem? (i := 126) (by decide +kernel))) rfl
theorem ml_X10_231 : Cond.methodLink RX10 231 yX7_markAt ∈ sw_U := sw_in (sw_t2 (List.mem_of_getElem? (i := 127) (by decide +kernel))) rfl
theorem im_X7_markAt : Cond.instanceMethod yX7_markAt ∈ sw_U := sw_in (sw_t2 (List.mem_of_getElem? (i := 128) (by decide +kernel))) rfl
theorem se_X7_markAt : Cond.selects yX7_markAt.cls yX7_markAt yX7_markAt ∈ sw_U := sw_in (sw_t2 (List.mem_of_getElem? (i := 129) (by decide +kernel))) rfl
theorem co_X7_markAt : Cond.code yX7_markAt cX7_markAt 3 (Option.some Jvm.ClassFile.FieldType.int) ∈ sw_U := sw_in (sw_t2 (List.mem_of_getElem? (i := 130) (by decide +kernel))) rfl
theorem ml_L_163 : Cond.methodLink RL 163 yX10_between ∈ sw_U := sw_in (sw_t2 (List.mem_of_getElem? (i := 131) (by decide +kernel))) rfl
theorem im_X10_between : Cond.instanceMethod yX10_between ∈ sw_U := sw_in (sw_t2 (List.mem_of_getElem? (i := 132) (by decide +kernel))) rfl
theorem se_X10_between : Cond.selects yX10_between.cls yX10_between yX10_between ∈ sw_U := sw_in (sw_t2 (List.mem_of_getElem? (i := 133) (by decide +kernel))) rfl
theorem co_X10_between : Cond.code yX10_between cX10_between 3 (Option.some Jvm.ClassFile.FieldType.int) ∈ sw_U := sw_in (sw_t2 (List.mem_of_getElem? (i := 134) (by decide +kernel))) rfl
theorem ml_X10_163 : Cond.methodLink RX10 163 yX7_marksBetween ∈ sw_U := sw_in (sw_t2 (List.mem_of_getElem? (i := 135) (by decide +kernel))) rfl
theorem im_X7_marksBetween : Cond.instanceMethod yX7_marksBetween ∈ sw_U := sw_in (sw_t2 (List.mem_of_getElem? (i := 136) (by decide +kernel))) rfl
theorem se_X7_marksBetween : Cond.selects yX7_marksBetween.cls yX7_marksBetween yX7_marksBetween ∈ sw_U := sw_in (sw_t2 (List.mem_of_getElem? (i := 137) (by decide +kernel))) rfl
theorem co_X7_marksBetween : Cond.code yX7_marksBetween cX7_marksBetween 4 (Option.some Jvm.ClassFile.FieldType.int) ∈ sw_U := sw_in (sw_t2 (List.mem_of_getElem? (i := 138) (by decide +kernel))) rfl
theorem ml_X7_71 : Cond.methodLink RX7 71 yJ9_max_7cf53 ∈ sw_U := sw_in (sw_t2 (List.mem_of_getElem? (i := 139) (by decide +kernel))) rfl
theorem ml_X7_74 : Cond.methodLink RX7 74 yX7_marksUpTo ∈ sw_U := sw_in (sw_t2 (List.mem_of_getElem? (i := 140) (by decide +kernel))) rfl
theorem ml_L_167 : Cond.methodLink RL 167 yX10_divisor ∈ sw_U := sw_in (sw_t2 (List.mem_of_getElem? (i := 141) (by decide +kernel))) rfl
theorem im_X10_divisor : Cond.instanceMethod yX10_divisor ∈ sw_U := sw_in (sw_t2 (List.mem_of_getElem? (i := 142) (by decide +kernel))) rfl
theorem se_X10_divisor : Cond.selects yX10_divisor.cls yX10_divisor yX10_divisor ∈ sw_U := sw_in (sw_t2 (List.mem_of_getElem? (i := 143) (by decide +kernel))) rfl
theorem co_X10_divisor : Cond.code yX10_divisor cX10_divisor 4 (Option.some Jvm.ClassFile.FieldType.int) ∈ sw_U := sw_in (sw_t2 (List.mem_of_getElem? (i := 144) (by decide +kernel))) rfl
theorem ml_X10_234 : Cond.methodLink RX10 234 yX7_lastNumber ∈ sw_U := sw_in (sw_t2 (List.mem_of_getElem? (i := 145) (by decide +kernel))) rfl
theorem im_X7_lastNumber : Cond.instanceMethod yX7_lastNumber ∈ sw_U := sw_in (sw_t2 (List.mem_of_getElem? (i := 146) (by decide +kernel))) rfl
theorem se_X7_lastNumber : Cond.selects yX7_lastNumber.cls yX7_lastNumber yX7_lastNumber ∈ sw_U := sw_in (sw_t2 (List.mem_of_getElem? (i := 147) (by decide +kernel))) rfl
theorem co_X7_lastNumber : Cond.code yX7_lastNumber cX7_lastNumber 1 (Option.some Jvm.ClassFile.FieldType.int) ∈ sw_U := sw_in (sw_t2 (List.mem_of_getElem? (i := 148) (by decide +kernel))) rfl
theorem ml_X10_235 : Cond.methodLink RX10 235 yX7_isMark ∈ sw_U := sw_in (sw_t2 (List.mem_of_getElem? (i := 149) (by decide +kernel))) rfl
theorem im_X7_isMark : Cond.instanceMethod yX7_isMark ∈ sw_U := sw_in (sw_t2 (List.mem_of_getElem? (i := 150) (by decide +kernel))) rfl
theorem se_X7_isMark : Cond.selects yX7_isMark.cls yX7_isMark yX7_isMark ∈ sw_U := sw_in (sw_t2 (List.mem_of_getElem? (i := 151) (by decide +kernel))) rfl
theorem co_X7_isMark : Cond.code yX7_isMark cX7_isMark 2 (Option.some Jvm.ClassFile.FieldType.boolean) ∈ sw_U := sw_in (sw_t2 (List.mem_of_getElem? (i := 152) (by decide +kernel))) rfl
theorem ml_X7_68 : Cond.methodLink RX7 68 yX7_ownerOf ∈ sw_U := sw_in (sw_t2 (List.mem_of_getElem? (i := 153) (by decide +kernel))) rfl
theorem ml_L_171 : Cond.methodLink RL 171 yX10_divisors ∈ sw_U := sw_in (sw_t2 (List.mem_of_getElem? (i := 154) (by decide +kernel))) rfl
theorem im_X10_divisors : Cond.instanceMethod yX10_divisors ∈ sw_U := sw_in (sw_t2 (List.mem_of_getElem? (i := 155) (by decide +kernel))) rfl
theorem se_X10_divisors : Cond.selects yX10_divisors.cls yX10_divisors yX10_divisors ∈ sw_U := sw_in (sw_t2 (List.mem_of_getElem? (i := 156) (by decide +kernel))) rfl
theorem co_X10_divisors : Cond.code yX10_divisors cX10_divisors 5 (Option.some Jvm.ClassFile.FieldType.int) ∈ sw_U := sw_in (sw_t2 (List.mem_of_getElem? (i := 157) (by decide +kernel))) rfl
theorem ml_L_175 : Cond.methodLink RL 175 yX10_longest ∈ sw_U := sw_in (sw_t2 (List.mem_of_getElem? (i := 158) (by decide +kernel))) rfl
theorem im_X10_longest : Cond.instanceMethod yX10_longest ∈ sw_U := sw_in (sw_t2 (List.mem_of_getElem? (i := 159) (by decide +kernel))) rfl
theorem se_X10_longest : Cond.selects yX10_longest.cls yX10_longest yX10_longest ∈ sw_U := sw_in (sw_t2 (List.mem_of_getElem? (i := 160) (by decide +kernel))) rfl
theorem co_X10_longest : Cond.code yX10_longest cX10_longest 6 (Option.some Jvm.ClassFile.FieldType.int) ∈ sw_U := sw_in (sw_t2 (List.mem_of_getElem? (i := 161) (by decide +kernel))) rfl
theorem ml_L_179 : Cond.methodLink RL 179 yX10_chain ∈ sw_U := sw_in (sw_t2 (List.mem_of_getElem? (i := 162) (by decide +kernel))) rfl
theorem im_X10_chain : Cond.instanceMethod yX10_chain ∈ sw_U := sw_in (sw_t2 (List.mem_of_getElem? (i := 163) (by decide +kernel))) rfl
theorem se_X10_chain : Cond.selects yX10_chain.cls yX10_chain yX10_chain ∈ sw_U := sw_in (sw_t2 (List.mem_of_getElem? (i := 164) (by decide +kernel))) rfl
theorem co_X10_chain : Cond.code yX10_chain cX10_chain 5 (Option.some Jvm.ClassFile.FieldType.int) ∈ sw_U := sw_in (sw_t2 (List.mem_of_getElem? (i := 165) (by decide +kernel))) rfl
theorem ml_L_186 : Cond.methodLink RL 186 yX10_next ∈ sw_U := sw_in (sw_t2 (List.mem_of_getElem? (i := 166) (by decide +kernel))) rfl
theorem im_X10_next : Cond.instanceMethod yX10_next ∈ sw_U := sw_in (sw_t2 (List.mem_of_getElem? (i := 167) (by decide +kernel))) rfl
theorem se_X10_next : Cond.selects yX10_next.cls yX10_next yX10_next ∈ sw_U := sw_in (sw_t2 (List.mem_of_getElem? (i := 168) (by decide +kernel))) rfl
theorem co_X10_next : Cond.code yX10_next cX10_next 3 (Option.some Jvm.ClassFile.FieldType.int) ∈ sw_U := sw_in (sw_t2 (List.mem_of_getElem? (i := 169) (by decide +kernel))) rfl
theorem ml_X10_176 : Cond.methodLink RX10 176 yX7_markBelow ∈ sw_U := sw_in (sw_t2 (List.mem_of_getElem? (i := 170) (by decide +kernel))) rfl
theorem im_X7_markBelow : Cond.instanceMethod yX7_markBelow ∈ sw_U := sw_in (sw_t2 (List.mem_of_getElem? (i := 171) (by decide +kernel))) rfl
theorem se_X7_markBelow : Cond.selects yX7_markBelow.cls yX7_markBelow yX7_markBelow ∈ sw_U := sw_in (sw_t2 (List.mem_of_getElem? (i := 172) (by decide +kernel))) rfl
theorem co_X7_markBelow : Cond.code yX7_markBelow cX7_markBelow 3 (Option.some Jvm.ClassFile.FieldType.int) ∈ sw_U := sw_in (sw_t2 (List.mem_of_getElem? (i := 173) (by decide +kernel))) rfl
theorem ml_X10_169 : Cond.methodLink RX10 169 yX7_markAbove ∈ sw_U := sw_in (sw_t2 (List.mem_of_getElem? (i := 174) (by decide +kernel))) rfl
theorem im_X7_markAbove : Cond.instanceMethod yX7_markAbove ∈ sw_U := sw_in (sw_t2 (List.mem_of_getElem? (i := 175) (by decide +kernel))) rfl
theorem se_X7_markAbove : Cond.selects yX7_markAbove.cls yX7_markAbove yX7_markAbove ∈ sw_U := sw_in (sw_t2 (List.mem_of_getElem? (i := 176) (by decide +kernel))) rfl
theorem co_X7_markAbove : Cond.code yX7_markAbove cX7_markAbove 3 (Option.some Jvm.ClassFile.FieldType.int) ∈ sw_U := sw_in (sw_t2 (List.mem_of_getElem? (i := 177) (by decide +kernel))) rfl
theorem ml_L_194 : Cond.methodLink RL 194 yX10_widest ∈ sw_U := sw_in (sw_t2 (List.mem_of_getElem? (i := 178) (by decide +kernel))) rfl
theorem im_X10_widest : Cond.instanceMethod yX10_widest ∈ sw_U := sw_in (sw_t2 (List.mem_of_getElem? (i := 179) (by decide +kernel))) rfl
theorem se_X10_widest : Cond.selects yX10_widest.cls yX10_widest yX10_widest ∈ sw_U := sw_in (sw_t2 (List.mem_of_getElem? (i := 180) (by decide +kernel))) rfl
theorem co_X10_widest : Cond.code yX10_widest cX10_widest 2 (Option.some Jvm.ClassFile.FieldType.int) ∈ sw_U := sw_in (sw_t2 (List.mem_of_getElem? (i := 181) (by decide +kernel))) rfl
theorem ml_X10_238 : Cond.methodLink RX10 238 yX10_widestAt ∈ sw_U := sw_in (sw_t2 (List.mem_of_getElem? (i := 182) (by decide +kernel))) rfl
theorem im_X10_widestAt : Cond.instanceMethod yX10_widestAt ∈ sw_U := sw_in (sw_t2 (List.mem_of_getElem? (i := 183) (by decide +kernel))) rfl
theorem se_X10_widestAt : Cond.selects yX10_widestAt.cls yX10_widestAt yX10_widestAt ∈ sw_U := sw_in (sw_t2 (List.mem_of_getElem? (i := 184) (by decide +kernel))) rfl
theorem co_X10_widestAt : Cond.code yX10_widestAt cX10_widestAt 6 (Option.some Jvm.ClassFile.FieldType.int) ∈ sw_U := sw_in (sw_t2 (List.mem_of_getElem? (i := 185) (by decide +kernel))) rfl
theorem ml_L_198 : Cond.methodLink RL 198 yX10_widestAt ∈ sw_U := sw_in (sw_t2 (List.mem_of_getElem? (i := 186) (by decide +kernel))) rfl
theorem ml_L_205 : Cond.methodLink RL 205 yX10_sums ∈ sw_U := sw_in (sw_t2 (List.mem_of_getElem? (i := 187) (by decide +kernel))) rfl
theorem im_X10_sums : Cond.instanceMethod yX10_sums ∈ sw_U := sw_in (sw_t2 (List.mem_of_getElem? (i := 188) (by decide +kernel))) rfl
theorem se_X10_sums : Cond.selects yX10_sums.cls yX10_sums yX10_sums ∈ sw_U := sw_in (sw_t2 (List.mem_of_getElem? (i := 189) (by decide +kernel))) rfl
theorem co_X10_sums : Cond.code yX10_sums cX10_sums 4 (Option.some Jvm.ClassFile.FieldType.int) ∈ sw_U := sw_in (sw_t2 (List.mem_of_getElem? (i := 190) (by decide +kernel))) rfl
theorem ml_X10_241 : Cond.methodLink RX10 241 yX10_nextPart ∈ sw_U := sw_in (sw_t2 (List.mem_of_getElem? (i := 191) (by decide +kernel))) rfl
theorem im_X10_nextPart : Cond.instanceMethod yX10_nextPart ∈ sw_U := sw_in (sw_t2 (List.mem_of_getElem? (i := 193) (by decide +kernel))) rfl
theorem co_X10_nextPart : Cond.code yX10_nextPart cX10_nextPart 5 (Option.some Jvm.ClassFile.FieldType.int) ∈ sw_U := sw_in (sw_t2 (List.mem_of_getElem? (i := 194) (by decide +kernel))) rfl
theorem ml_L_209 : Cond.methodLink RL 209 yX10_leastOf ∈ sw_U := sw_in (sw_t2 (List.mem_of_getElem? (i := 195) (by decide +kernel))) rfl
theorem im_X10_leastOf : Cond.instanceMethod yX10_leastOf ∈ sw_U := sw_in (sw_t2 (List.mem_of_getElem? (i := 196) (by decide +kernel))) rfl
theorem se_X10_leastOf : Cond.selects yX10_leastOf.cls yX10_leastOf yX10_leastOf ∈ sw_U := sw_in (sw_t2 (List.mem_of_getElem? (i := 197) (by decide +kernel))) rfl
theorem co_X10_leastOf : Cond.code yX10_leastOf cX10_leastOf 2 (Option.some Jvm.ClassFile.FieldType.int) ∈ sw_U := sw_in (sw_t2 (List.mem_of_getElem? (i := 198) (by decide +kernel))) rfl
theorem ml_L_216 : Cond.methodLink RL 216 yX10_wrong ∈ sw_U := sw_in (sw_t2 (List.mem_of_getElem? (i := 199) (by decide +kernel))) rfl
theorem im_X10_wrong : Cond.instanceMethod yX10_wrong ∈ sw_U := sw_in (sw_t2 (List.mem_of_getElem? (i := 200) (by decide +kernel))) rfl
theorem se_X10_wrong : Cond.selects yX10_wrong.cls yX10_wrong yX10_wrong ∈ sw_U := sw_in (sw_t2 (List.mem_of_getElem? (i := 201) (by decide +kernel))) rfl
theorem co_X10_wrong : Cond.code yX10_wrong cX10_wrong 4 (Option.some Jvm.ClassFile.FieldType.int) ∈ sw_U := sw_in (sw_t2 (List.mem_of_getElem? (i := 202) (by decide +kernel))) rfl
theorem ml_X10_194 : Cond.methodLink RX10 194 yX9_isPrime ∈ sw_U := sw_in (sw_t2 (List.mem_of_getElem? (i := 203) (by decide +kernel))) rfl
theorem st_X9_isPrime : Cond.static yX9_isPrime ∈ sw_U := sw_in (sw_t2 (List.mem_of_getElem? (i := 204) (by decide +kernel))) rfl
theorem co_X9_isPrime : Cond.code yX9_isPrime cX9_isPrime 2 (Option.some Jvm.ClassFile.FieldType.boolean) ∈ sw_U := sw_in (sw_t2 (List.mem_of_getElem? (i := 205) (by decide +kernel))) rfl
theorem ml_L_220 : Cond.methodLink RL 220 yX10_firstWrong ∈ sw_U := sw_in (sw_t2 (List.mem_of_getElem? (i := 206) (by decide +kernel))) rfl
theorem im_X10_firstWrong : Cond.instanceMethod yX10_firstWrong ∈ sw_U := sw_in (sw_t2 (List.mem_of_getElem? (i := 207) (by decide +kernel))) rfl
theorem se_X10_firstWrong : Cond.selects yX10_firstWrong.cls yX10_firstWrong yX10_firstWrong ∈ sw_U := sw_in (sw_t2 (List.mem_of_getElem? (i := 208) (by decide +kernel))) rfl
theorem co_X10_firstWrong : Cond.code yX10_firstWrong cX10_firstWrong 3 (Option.some Jvm.ClassFile.FieldType.int) ∈ sw_U := sw_in (sw_t2 (List.mem_of_getElem? (i := 209) (by decide +kernel))) rfl
theorem ml_L_224 : Cond.methodLink RL 224 yX10_gap ∈ sw_U := sw_in (sw_t2 (List.mem_of_getElem? (i := 210) (by decide +kernel))) rfl
theorem im_X10_gap : Cond.instanceMethod yX10_gap ∈ sw_U := sw_in (sw_t2 (List.mem_of_getElem? (i := 211) (by decide +kernel))) rfl
theorem se_X10_gap : Cond.selects yX10_gap.cls yX10_gap yX10_gap ∈ sw_U := sw_in (sw_t2 (List.mem_of_getElem? (i := 212) (by decide +kernel))) rfl
theorem co_X10_gap : Cond.code yX10_gap cX10_gap 4 (Option.some Jvm.ClassFile.FieldType.int) ∈ sw_U := sw_in (sw_t2 (List.mem_of_getElem? (i := 213) (by decide +kernel))) rfl
theorem ml_X10_244 : Cond.methodLink RX10 244 yX3_smallestMissing ∈ sw_U := sw_in (sw_t2 (List.mem_of_getElem? (i := 214) (by decide +kernel))) rfl
theorem im_X3_smallestMissing : Cond.instanceMethod yX3_smallestMissing ∈ sw_U := sw_in (sw_t2 (List.mem_of_getElem? (i := 215) (by decide +kernel))) rfl
theorem se_X3_smallestMissing : Cond.selects yX3_smallestMissing.cls yX3_smallestMissing yX3_smallestMissing ∈ sw_U := sw_in (sw_t2 (List.mem_of_getElem? (i := 216) (by decide +kernel))) rfl
theorem co_X3_smallestMissing : Cond.code yX3_smallestMissing cX3_smallestMissing 4 (Option.some Jvm.ClassFile.FieldType.int) ∈ sw_U := sw_in (sw_t2 (List.mem_of_getElem? (i := 217) (by decide +kernel))) rfl
theorem ml_X3_72 : Cond.methodLink RX3 72 yX3_lastNumber ∈ sw_U := sw_in (sw_t2 (List.mem_of_getElem? (i := 218) (by decide +kernel))) rfl
theorem ml_X3_75 : Cond.methodLink RX3 75 yX3_isMissing ∈ sw_U := sw_in (sw_t2 (List.mem_of_getElem? (i := 219) (by decide +kernel))) rfl
theorem im_X3_isMissing : Cond.instanceMethod yX3_isMissing ∈ sw_U := sw_in (sw_t2 (List.mem_of_getElem? (i := 221) (by decide +kernel))) rfl
theorem co_X3_isMissing : Cond.code yX3_isMissing cX3_isMissing 3 (Option.some Jvm.ClassFile.FieldType.boolean) ∈ sw_U := sw_in (sw_t2 (List.mem_of_getElem? (i := 222) (by decide +kernel))) rfl
theorem ml_X3_61 : Cond.methodLink RX3 61 yX9_smallestPrimeOf ∈ sw_U := sw_in (sw_t2 (List.mem_of_getElem? (i := 223) (by decide +kernel))) rfl
theorem ml_X3_66 : Cond.methodLink RX3 66 yX3_placeOf ∈ sw_U := sw_in (sw_t2 (List.mem_of_getElem? (i := 224) (by decide +kernel))) rfl
theorem ml_X3_69 : Cond.methodLink RX3 69 yX3_firstHit ∈ sw_U := sw_in (sw_t2 (List.mem_of_getElem? (i := 225) (by decide +kernel))) rfl
theorem im_X3_firstHit : Cond.instanceMethod yX3_firstHit ∈ sw_U := sw_in (sw_t2 (List.mem_of_getElem? (i := 226) (by decide +kernel))) rfl
theorem se_X3_firstHit : Cond.selects yX3_firstHit.cls yX3_firstHit yX3_firstHit ∈ sw_U := sw_in (sw_t2 (List.mem_of_getElem? (i := 227) (by decide +kernel))) rfl
theorem co_X3_firstHit : Cond.code yX3_firstHit cX3_firstHit 4 (Option.some Jvm.ClassFile.FieldType.int) ∈ sw_U := sw_in (sw_t2 (List.mem_of_getElem? (i := 228) (by decide +kernel))) rfl
theorem ml_X10_247 : Cond.methodLink RX10 247 yX10_wrong ∈ sw_U := sw_in (sw_t2 (List.mem_of_getElem? (i := 229) (by decide +kernel))) rfl
theorem ml_L_228 : Cond.methodLink RL 228 yX10_missing ∈ sw_U := sw_in (sw_t2 (List.mem_of_getElem? (i := 230) (by decide +kernel))) rfl
theorem im_X10_missing : Cond.instanceMethod yX10_missing ∈ sw_U := sw_in (sw_t2 (List.mem_of_getElem? (i := 231) (by decide +kernel))) rfl
theorem se_X10_missing : Cond.selects yX10_missing.cls yX10_missing yX10_missing ∈ sw_U := sw_in (sw_t2 (List.mem_of_getElem? (i := 232) (by decide +kernel))) rfl
theorem co_X10_missing : Cond.code yX10_missing cX10_missing 1 (Option.some Jvm.ClassFile.FieldType.int) ∈ sw_U := sw_in (sw_t2 (List.mem_of_getElem? (i := 233) (by decide +kernel))) rfl
theorem ml_L_238 : Cond.methodLink RL 238 yX10_best ∈ sw_U := sw_in (sw_t2 (List.mem_of_getElem? (i := 234) (by decide +kernel))) rfl
theorem im_X10_best : Cond.instanceMethod yX10_best ∈ sw_U := sw_in (sw_t2 (List.mem_of_getElem? (i := 235) (by decide +kernel))) rfl
theorem se_X10_best : Cond.selects yX10_best.cls yX10_best yX10_best ∈ sw_U := sw_in (sw_t2 (List.mem_of_getElem? (i := 236) (by decide +kernel))) rfl
theorem co_X10_best : Cond.code yX10_best cX10_best 6 (Option.some Jvm.ClassFile.FieldType.int) ∈ sw_U := sw_in (sw_t2 (List.mem_of_getElem? (i := 237) (by decide +kernel))) rfl
theorem ml_X10_250 : Cond.methodLink RX10 250 yX7_countTaken ∈ sw_U := sw_in (sw_t2 (List.mem_of_getElem? (i := 238) (by decide +kernel))) rfl
theorem im_X7_countTaken : Cond.instanceMethod yX7_countTaken ∈ sw_U := sw_in (sw_t2 (List.mem_of_getElem? (i := 239) (by decide +kernel))) rfl
theorem se_X7_countTaken : Cond.selects yX7_countTaken.cls yX7_countTaken yX7_countTaken ∈ sw_U := sw_in (sw_t3 (List.mem_of_getElem? (i := 0) (by decide +kernel))) rfl
theorem co_X7_countTaken : Cond.code yX7_countTaken cX7_countTaken 2 (Option.some Jvm.ClassFile.FieldType.int) ∈ sw_U := sw_in (sw_t3 (List.mem_of_getElem? (i := 1) (by decide +kernel))) rfl
theorem ml_X7_77 : Cond.methodLink RX7 77 yX7_countWithOwner ∈ sw_U := sw_in (sw_t3 (List.mem_of_getElem? (i := 2) (by decide +kernel))) rfl
theorem im_X7_countWithOwner : Cond.instanceMethod yX7_countWithOwner ∈ sw_U := sw_in (sw_t3 (List.mem_of_getElem? (i := 4) (by decide +kernel))) rfl
theorem co_X7_countWithOwner : Cond.code yX7_countWithOwner cX7_countWithOwner 5 (Option.some Jvm.ClassFile.FieldType.int) ∈ sw_U := sw_in (sw_t3 (List.mem_of_getElem? (i := 5) (by decide +kernel))) rfl
theorem ml_L_245 : Cond.methodLink RL 245 yX10_leastWheel ∈ sw_U := sw_in (sw_t3 (List.mem_of_getElem? (i := 6) (by decide +kernel))) rfl
theorem im_X10_leastWheel : Cond.instanceMethod yX10_leastWheel ∈ sw_U := sw_in (sw_t3 (List.mem_of_getElem? (i := 7) (by decide +kernel))) rfl
theorem se_X10_leastWheel : Cond.selects yX10_leastWheel.cls yX10_leastWheel yX10_leastWheel ∈ sw_U := sw_in (sw_t3 (List.mem_of_getElem? (i := 8) (by decide +kernel))) rfl
theorem co_X10_leastWheel : Cond.code yX10_leastWheel cX10_leastWheel 2 (Option.some Jvm.ClassFile.FieldType.int) ∈ sw_U := sw_in (sw_t3 (List.mem_of_getElem? (i := 9) (by decide +kernel))) rfl
theorem ml_L_249 : Cond.methodLink RL 249 yX10_shareBits ∈ sw_U := sw_in (sw_t3 (List.mem_of_getElem? (i := 10) (by decide +kernel))) rfl
theorem im_X10_shareBits : Cond.instanceMethod yX10_shareBits ∈ sw_U := sw_in (sw_t3 (List.mem_of_getElem? (i := 11) (by decide +kernel))) rfl
theorem se_X10_shareBits : Cond.selects yX10_shareBits.cls yX10_shareBits yX10_shareBits ∈ sw_U := sw_in (sw_t3 (List.mem_of_getElem? (i := 12) (by decide +kernel))) rfl
theorem co_X10_shareBits : Cond.code yX10_shareBits cX10_shareBits 2 (Option.some Jvm.ClassFile.FieldType.int) ∈ sw_U := sw_in (sw_t3 (List.mem_of_getElem? (i := 13) (by decide +kernel))) rfl
theorem ml_X10_132 : Cond.methodLink RX10 132 yX7_markCount ∈ sw_U := sw_in (sw_t3 (List.mem_of_getElem? (i := 14) (by decide +kernel))) rfl
theorem im_X7_markCount : Cond.instanceMethod yX7_markCount ∈ sw_U := sw_in (sw_t3 (List.mem_of_getElem? (i := 15) (by decide +kernel))) rfl
theorem se_X7_markCount : Cond.selects yX7_markCount.cls yX7_markCount yX7_markCount ∈ sw_U := sw_in (sw_t3 (List.mem_of_getElem? (i := 16) (by decide +kernel))) rfl
theorem co_X7_markCount : Cond.code yX7_markCount cX7_markCount 1 (Option.some Jvm.ClassFile.FieldType.int) ∈ sw_U := sw_in (sw_t3 (List.mem_of_getElem? (i := 17) (by decide +kernel))) rfl
theorem ml_X10_263 : Cond.methodLink RX10 263 yX10_bitsOfShare ∈ sw_U := sw_in (sw_t3 (List.mem_of_getElem? (i := 18) (by decide +kernel))) rfl
theorem st_X10_bitsOfShare : Cond.static yX10_bitsOfShare ∈ sw_U := sw_in (sw_t3 (List.mem_of_getElem? (i := 19) (by decide +kernel))) rfl
theorem co_X10_bitsOfShare : Cond.code yX10_bitsOfShare cX10_bitsOfShare 4 (Option.some Jvm.ClassFile.FieldType.int) ∈ sw_U := sw_in (sw_t3 (List.mem_of_getElem? (i := 20) (by decide +kernel))) rfl
theorem ml_L_253 : Cond.methodLink RL 253 yX10_useful ∈ sw_U := sw_in (sw_t3 (List.mem_of_getElem? (i := 23) (by decide +kernel))) rfl
theorem im_X10_useful : Cond.instanceMethod yX10_useful ∈ sw_U := sw_in (sw_t3 (List.mem_of_getElem? (i := 24) (by decide +kernel))) rfl
theorem se_X10_useful : Cond.selects yX10_useful.cls yX10_useful yX10_useful ∈ sw_U := sw_in (sw_t3 (List.mem_of_getElem? (i := 25) (by decide +kernel))) rfl
theorem co_X10_useful : Cond.code yX10_useful cX10_useful 4 (Option.some Jvm.ClassFile.FieldType.double) ∈ sw_U := sw_in (sw_t3 (List.mem_of_getElem? (i := 26) (by decide +kernel))) rfl
theorem ml_X10_125 : Cond.methodLink RX10 125 yX3_strikerCount ∈ sw_U := sw_in (sw_t3 (List.mem_of_getElem? (i := 27) (by decide +kernel))) rfl
theorem ml_X10_182 : Cond.methodLink RX10 182 yX3_dOf ∈ sw_U := sw_in (sw_t3 (List.mem_of_getElem? (i := 28) (by decide +kernel))) rfl
theorem ml_X10_185 : Cond.methodLink RX10 185 yX7_countStrikes ∈ sw_U := sw_in (sw_t3 (List.mem_of_getElem? (i := 29) (by decide +kernel))) rfl
theorem im_X7_countStrikes : Cond.instanceMethod yX7_countStrikes ∈ sw_U := sw_in (sw_t3 (List.mem_of_getElem? (i := 30) (by decide +kernel))) rfl
theorem se_X7_countStrikes : Cond.selects yX7_countStrikes.cls yX7_countStrikes yX7_countStrikes ∈ sw_U := sw_in (sw_t3 (List.mem_of_getElem? (i := 31) (by decide +kernel))) rfl
theorem co_X7_countStrikes : Cond.code yX7_countStrikes cX7_countStrikes 4 (Option.some Jvm.ClassFile.FieldType.int) ∈ sw_U := sw_in (sw_t3 (List.mem_of_getElem? (i := 32) (by decide +kernel))) rfl
theorem ml_X10_135 : Cond.methodLink RX10 135 yX7_spokeCount ∈ sw_U := sw_in (sw_t3 (List.mem_of_getElem? (i := 33) (by decide +kernel))) rfl
theorem im_X7_spokeCount : Cond.instanceMethod yX7_spokeCount ∈ sw_U := sw_in (sw_t3 (List.mem_of_getElem? (i := 34) (by decide +kernel))) rfl
theorem se_X7_spokeCount : Cond.selects yX7_spokeCount.cls yX7_spokeCount yX7_spokeCount ∈ sw_U := sw_in (sw_t3 (List.mem_of_getElem? (i := 35) (by decide +kernel))) rfl
theorem co_X7_spokeCount : Cond.code yX7_spokeCount cX7_spokeCount 1 (Option.some Jvm.ClassFile.FieldType.int) ∈ sw_U := sw_in (sw_t3 (List.mem_of_getElem? (i := 36) (by decide +kernel))) rfl
theorem ml_L_258 : Cond.methodLink RL 258 yX10_spokeShare ∈ sw_U := sw_in (sw_t3 (List.mem_of_getElem? (i := 37) (by decide +kernel))) rfl
theorem im_X10_spokeShare : Cond.instanceMethod yX10_spokeShare ∈ sw_U := sw_in (sw_t3 (List.mem_of_getElem? (i := 38) (by decide +kernel))) rfl
theorem se_X10_spokeShare : Cond.selects yX10_spokeShare.cls yX10_spokeShare yX10_spokeShare ∈ sw_U := sw_in (sw_t3 (List.mem_of_getElem? (i := 39) (by decide +kernel))) rfl
theorem co_X10_spokeShare : Cond.code yX10_spokeShare cX10_spokeShare 2 (Option.some Jvm.ClassFile.FieldType.float) ∈ sw_U := sw_in (sw_t3 (List.mem_of_getElem? (i := 40) (by decide +kernel))) rfl
theorem ml_L_266 : Cond.methodLink RL 266 yX10_drop ∈ sw_U := sw_in (sw_t3 (List.mem_of_getElem? (i := 41) (by decide +kernel))) rfl
theorem im_X10_drop : Cond.instanceMethod yX10_drop ∈ sw_U := sw_in (sw_t3 (List.mem_of_getElem? (i := 42) (by decide +kernel))) rfl
theorem se_X10_drop : Cond.selects yX10_drop.cls yX10_drop yX10_drop ∈ sw_U := sw_in (sw_t3 (List.mem_of_getElem? (i := 43) (by decide +kernel))) rfl
theorem co_X10_drop : Cond.code yX10_drop cX10_drop 1 (Option.some Jvm.ClassFile.FieldType.int) ∈ sw_U := sw_in (sw_t3 (List.mem_of_getElem? (i := 44) (by decide +kernel))) rfl
theorem fl_X10_277 : Cond.fieldLink RX10 277 "StrikeWheels$Order" "DROP" "LStrikeWheels$Order;" ∈ sw_U := sw_in (sw_t3 (List.mem_of_getElem? (i := 45) (by decide +kernel))) rfl
theorem ml_X10_273 : Cond.methodLink RX10 273 yX10_operate ∈ sw_U := sw_in (sw_t3 (List.mem_of_getElem? (i := 47) (by decide +kernel))) rfl
theorem im_X10_operate : Cond.instanceMethod yX10_operate ∈ sw_U := sw_in (sw_t3 (List.mem_of_getElem? (i := 49) (by decide +kernel))) rfl
theorem co_X10_operate : Cond.code yX10_operate cX10_operate 5 (Option.some Jvm.ClassFile.FieldType.int) ∈ sw_U := sw_in (sw_t3 (List.mem_of_getElem? (i := 50) (by decide +kernel))) rfl
theorem ml_X10_361 : Cond.methodLink RX10 361 yX2_isInRange ∈ sw_U := sw_in (sw_t3 (List.mem_of_getElem? (i := 51) (by decide +kernel))) rfl
theorem im_X2_isInRange : Cond.instanceMethod yX2_isInRange ∈ sw_U := sw_in (sw_t3 (List.mem_of_getElem? (i := 52) (by decide +kernel))) rfl
theorem se_X2_isInRange : Cond.selects yX2_isInRange.cls yX2_isInRange yX2_isInRange ∈ sw_U := sw_in (sw_t3 (List.mem_of_getElem? (i := 53) (by decide +kernel))) rfl
theorem co_X2_isInRange : Cond.code yX2_isInRange cX2_isInRange 3 (Option.some Jvm.ClassFile.FieldType.boolean) ∈ sw_U := sw_in (sw_t3 (List.mem_of_getElem? (i := 54) (by decide +kernel))) rfl
theorem cl_X10_349 : Cond.classLink RX10 349 "java/lang/IllegalArgumentException" ∈ sw_U := sw_in (sw_t3 (List.mem_of_getElem? (i := 55) (by decide +kernel))) rfl
theorem ins_java_lang_IllegalArgumentException : Cond.instantiable "java/lang/IllegalArgumentException" 6 ∈ sw_U := sw_in (sw_t3 (List.mem_of_getElem? (i := 56) (by decide +kernel))) rfl
theorem ins_java_lang_Throwable : Cond.instantiable "java/lang/Throwable" 6 ∈ sw_U := sw_in (sw_t3 (List.mem_of_getElem? (i := 93) (by decide +kernel))) rfl
theorem ml_X10_351 : Cond.methodLink RX10 351 ⟨"java/lang/IllegalArgumentException", "<init>", "()V"⟩ ∈ sw_U := sw_in (sw_t3 (List.mem_of_getElem? (i := 95) (by decide +kernel))) rfl
theorem ml_X10_109 : Cond.methodLink RX10 109 yX3_takeOver ∈ sw_U := sw_in (sw_t3 (List.mem_of_getElem? (i := 117) (by decide +kernel))) rfl
theorem im_X3_takeOver : Cond.instanceMethod yX3_takeOver ∈ sw_U := sw_in (sw_t3 (List.mem_of_getElem? (i := 118) (by decide +kernel))) rfl
theorem se_X3_takeOver : Cond.selects yX3_takeOver.cls yX3_takeOver yX3_takeOver ∈ sw_U := sw_in (sw_t3 (List.mem_of_getElem? (i := 119) (by decide +kernel))) rfl
theorem co_X3_takeOver : Cond.code yX3_takeOver cX3_takeOver 2 (Option.none : Option Jvm.ClassFile.FieldType) ∈ sw_U := sw_in (sw_t3 (List.mem_of_getElem? (i := 120) (by decide +kernel))) rfl
theorem ml_X3_34 : Cond.methodLink RX3 34 ⟨"java/lang/System", "arraycopy", "(Ljava/lang/Object;ILjava/lang/Object;II)V"⟩ ∈ sw_U := sw_in (sw_t3 (List.mem_of_getElem? (i := 121) (by decide +kernel))) rfl
theorem ml_X10_324 : Cond.methodLink RX10 324 yX10_carryOut ∈ sw_U := sw_in (sw_t3 (List.mem_of_getElem? (i := 124) (by decide +kernel))) rfl
theorem im_X10_carryOut : Cond.instanceMethod yX10_carryOut ∈ sw_U := sw_in (sw_t3 (List.mem_of_getElem? (i := 126) (by decide +kernel))) rfl
theorem co_X10_carryOut : Cond.code yX10_carryOut cX10_carryOut 4 (Option.some Jvm.ClassFile.FieldType.int) ∈ sw_U := sw_in (sw_t3 (List.mem_of_getElem? (i := 127) (by decide +kernel))) rfl
theorem fl_X10_364 : Cond.fieldLink RX10 364 "StrikeWheels$1" "$SwitchMap$StrikeWheels$Order" "[I" ∈ sw_U := sw_in (sw_t3 (List.mem_of_getElem? (i := 128) (by decide +kernel))) rfl
theorem ml_X10_369 : Cond.methodLink RX10 369 ⟨"StrikeWheels$Order", "ordinal", "()I"⟩ ∈ sw_U := sw_in (sw_t3 (List.mem_of_getElem? (i := 130) (by decide +kernel))) rfl
theorem im_Jx29ce0_ordinal_8abf5 : Cond.instanceMethod yJx29ce0_ordinal_8abf5 ∈ sw_U := sw_in (sw_t3 (List.mem_of_getElem? (i := 134) (by decide +kernel))) rfl
theorem co_Jx29ce0_ordinal_8abf5 : Cond.code yJx29ce0_ordinal_8abf5 cJx29ce0_ordinal_8abf5 1 (Option.some Jvm.ClassFile.FieldType.int) ∈ sw_U := sw_in (sw_t3 (List.mem_of_getElem? (i := 135) (by decide +kernel))) rfl
theorem ml_X10_372 : Cond.methodLink RX10 372 yX10_layStretch ∈ sw_U := sw_in (sw_t3 (List.mem_of_getElem? (i := 136) (by decide +kernel))) rfl
theorem im_X10_layStretch : Cond.instanceMethod yX10_layStretch ∈ sw_U := sw_in (sw_t3 (List.mem_of_getElem? (i := 138) (by decide +kernel))) rfl
theorem co_X10_layStretch : Cond.code yX10_layStretch cX10_layStretch 3 (Option.some Jvm.ClassFile.FieldType.int) ∈ sw_U := sw_in (sw_t3 (List.mem_of_getElem? (i := 139) (by decide +kernel))) rfl
theorem ml_X10_122 : Cond.methodLink RX10 122 yX3_stretchCount ∈ sw_U := sw_in (sw_t3 (List.mem_of_getElem? (i := 140) (by decide +kernel))) rfl
theorem im_X3_stretchCount : Cond.instanceMethod yX3_stretchCount ∈ sw_U := sw_in (sw_t3 (List.mem_of_getElem? (i := 141) (by decide +kernel))) rfl
theorem se_X3_stretchCount : Cond.selects yX3_stretchCount.cls yX3_stretchCount yX3_stretchCount ∈ sw_U := sw_in (sw_t3 (List.mem_of_getElem? (i := 142) (by decide +kernel))) rfl
theorem co_X3_stretchCount : Cond.code yX3_stretchCount cX3_stretchCount 1 (Option.some Jvm.ClassFile.FieldType.int) ∈ sw_U := sw_in (sw_t3 (List.mem_of_getElem? (i := 143) (by decide +kernel))) rfl
theorem ml_X10_157 : Cond.methodLink RX10 157 yX3_firstNumberOf ∈ sw_U := sw_in (sw_t3 (List.mem_of_getElem? (i := 144) (by decide +kernel))) rfl
theorem im_X3_firstNumberOf : Cond.instanceMethod yX3_firstNumberOf ∈ sw_U := sw_in (sw_t3 (List.mem_of_getElem? (i := 145) (by decide +kernel))) rfl
theorem se_X3_firstNumberOf : Cond.selects yX3_firstNumberOf.cls yX3_firstNumberOf yX3_firstNumberOf ∈ sw_U := sw_in (sw_t3 (List.mem_of_getElem? (i := 146) (by decide +kernel))) rfl
theorem co_X3_firstNumberOf : Cond.code yX3_firstNumberOf cX3_firstNumberOf 2 (Option.some Jvm.ClassFile.FieldType.int) ∈ sw_U := sw_in (sw_t3 (List.mem_of_getElem? (i := 147) (by decide +kernel))) rfl
theorem ml_X3_40 : Cond.methodLink RX3 40 yX3_roomAhead ∈ sw_U := sw_in (sw_t3 (List.mem_of_getElem? (i := 148) (by decide +kernel))) rfl
theorem im_X3_roomAhead : Cond.instanceMethod yX3_roomAhead ∈ sw_U := sw_in (sw_t3 (List.mem_of_getElem? (i := 150) (by decide +kernel))) rfl
theorem co_X3_roomAhead : Cond.code yX3_roomAhead cX3_roomAhead 4 (Option.some Jvm.ClassFile.FieldType.int) ∈ sw_U := sw_in (sw_t3 (List.mem_of_getElem? (i := 151) (by decide +kernel))) rfl
theorem ml_X10_160 : Cond.methodLink RX10 160 yX3_lastNumberOf ∈ sw_U := sw_in (sw_t3 (List.mem_of_getElem? (i := 152) (by decide +kernel))) rfl
theorem im_X3_lastNumberOf : Cond.instanceMethod yX3_lastNumberOf ∈ sw_U := sw_in (sw_t3 (List.mem_of_getElem? (i := 153) (by decide +kernel))) rfl
theorem se_X3_lastNumberOf : Cond.selects yX3_lastNumberOf.cls yX3_lastNumberOf yX3_lastNumberOf ∈ sw_U := sw_in (sw_t3 (List.mem_of_getElem? (i := 154) (by decide +kernel))) rfl
theorem co_X3_lastNumberOf : Cond.code yX3_lastNumberOf cX3_lastNumberOf 2 (Option.some Jvm.ClassFile.FieldType.int) ∈ sw_U := sw_in (sw_t3 (List.mem_of_getElem? (i := 155) (by decide +kernel))) rfl
theorem ml_X10_375 : Cond.methodLink RX10 375 yX10_dropStretch ∈ sw_U := sw_in (sw_t3 (List.mem_of_getElem? (i := 156) (by decide +kernel))) rfl
theorem im_X10_dropStretch : Cond.instanceMethod yX10_dropStretch ∈ sw_U := sw_in (sw_t3 (List.mem_of_getElem? (i := 158) (by decide +kernel))) rfl
theorem co_X10_dropStretch : Cond.code yX10_dropStretch cX10_dropStretch 1 (Option.some Jvm.ClassFile.FieldType.int) ∈ sw_U := sw_in (sw_t3 (List.mem_of_getElem? (i := 159) (by decide +kernel))) rfl
theorem ml_X10_402 : Cond.methodLink RX10 402 yX3_removeStretch ∈ sw_U := sw_in (sw_t3 (List.mem_of_getElem? (i := 160) (by decide +kernel))) rfl
theorem im_X3_removeStretch : Cond.instanceMethod yX3_removeStretch ∈ sw_U := sw_in (sw_t3 (List.mem_of_getElem? (i := 161) (by decide +kernel))) rfl
theorem se_X3_removeStretch : Cond.selects yX3_removeStretch.cls yX3_removeStretch yX3_removeStretch ∈ sw_U := sw_in (sw_t3 (List.mem_of_getElem? (i := 162) (by decide +kernel))) rfl
theorem co_X3_removeStretch : Cond.code yX3_removeStretch cX3_removeStretch 2 (Option.none : Option Jvm.ClassFile.FieldType) ∈ sw_U := sw_in (sw_t3 (List.mem_of_getElem? (i := 163) (by decide +kernel))) rfl
theorem ml_X3_44 : Cond.methodLink RX3 44 yX3_lastRoom ∈ sw_U := sw_in (sw_t3 (List.mem_of_getElem? (i := 164) (by decide +kernel))) rfl
theorem im_X3_lastRoom : Cond.instanceMethod yX3_lastRoom ∈ sw_U := sw_in (sw_t3 (List.mem_of_getElem? (i := 165) (by decide +kernel))) rfl
theorem se_X3_lastRoom : Cond.selects yX3_lastRoom.cls yX3_lastRoom yX3_lastRoom ∈ sw_U := sw_in (sw_t3 (List.mem_of_getElem? (i := 166) (by decide +kernel))) rfl
theorem co_X3_lastRoom : Cond.code yX3_lastRoom cX3_lastRoom 1 (Option.some Jvm.ClassFile.FieldType.int) ∈ sw_U := sw_in (sw_t3 (List.mem_of_getElem? (i := 167) (by decide +kernel))) rfl
theorem ml_X10_378 : Cond.methodLink RX10 378 yX10_trimStretch ∈ sw_U := sw_in (sw_t3 (List.mem_of_getElem? (i := 168) (by decide +kernel))) rfl
theorem im_X10_trimStretch : Cond.instanceMethod yX10_trimStretch ∈ sw_U := sw_in (sw_t3 (List.mem_of_getElem? (i := 170) (by decide +kernel))) rfl
theorem co_X10_trimStretch : Cond.code yX10_trimStretch cX10_trimStretch 2 (Option.some Jvm.ClassFile.FieldType.int) ∈ sw_U := sw_in (sw_t3 (List.mem_of_getElem? (i := 171) (by decide +kernel))) rfl
theorem ml_X10_405 : Cond.methodLink RX10 405 yX3_lastRoom ∈ sw_U := sw_in (sw_t3 (List.mem_of_getElem? (i := 172) (by decide +kernel))) rfl
theorem ml_X10_381 : Cond.methodLink RX10 381 yX10_swapStrikers ∈ sw_U := sw_in (sw_t3 (List.mem_of_getElem? (i := 173) (by decide +kernel))) rfl
theorem im_X10_swapStrikers : Cond.instanceMethod yX10_swapStrikers ∈ sw_U := sw_in (sw_t3 (List.mem_of_getElem? (i := 175) (by decide +kernel))) rfl
theorem co_X10_swapStrikers : Cond.code yX10_swapStrikers cX10_swapStrikers 9 (Option.some Jvm.ClassFile.FieldType.int) ∈ sw_U := sw_in (sw_t3 (List.mem_of_getElem? (i := 176) (by decide +kernel))) rfl
theorem ml_X10_408 : Cond.methodLink RX10 408 yX3_exchange ∈ sw_U := sw_in (sw_t3 (List.mem_of_getElem? (i := 177) (by decide +kernel))) rfl
theorem im_X3_exchange : Cond.instanceMethod yX3_exchange ∈ sw_U := sw_in (sw_t3 (List.mem_of_getElem? (i := 178) (by decide +kernel))) rfl
theorem se_X3_exchange : Cond.selects yX3_exchange.cls yX3_exchange yX3_exchange ∈ sw_U := sw_in (sw_t3 (List.mem_of_getElem? (i := 179) (by decide +kernel))) rfl
theorem co_X3_exchange : Cond.code yX3_exchange cX3_exchange 4 (Option.none : Option Jvm.ClassFile.FieldType) ∈ sw_U := sw_in (sw_t3 (List.mem_of_getElem? (i := 180) (by decide +kernel))) rfl
theorem ml_X10_260 : Cond.methodLink RX10 260 yX3_firstHit ∈ sw_U := sw_in (sw_t3 (List.mem_of_getElem? (i := 181) (by decide +kernel))) rfl
theorem ml_X10_384 : Cond.methodLink RX10 384 yX10_addStriker ∈ sw_U := sw_in (sw_t3 (List.mem_of_getElem? (i := 182) (by decide +kernel))) rfl
theorem im_X10_addStriker : Cond.instanceMethod yX10_addStriker ∈ sw_U := sw_in (sw_t3 (List.mem_of_getElem? (i := 184) (by decide +kernel))) rfl
theorem co_X10_addStriker : Cond.code yX10_addStriker cX10_addStriker 3 (Option.some Jvm.ClassFile.FieldType.int) ∈ sw_U := sw_in (sw_t3 (List.mem_of_getElem? (i := 185) (by decide +kernel))) rfl
theorem ml_X10_387 : Cond.methodLink RX10 387 yX10_liftStriker ∈ sw_U := sw_in (sw_t3 (List.mem_of_getElem? (i := 186) (by decide +kernel))) rfl
theorem im_X10_liftStriker : Cond.instanceMethod yX10_liftStriker ∈ sw_U := sw_in (sw_t3 (List.mem_of_getElem? (i := 188) (by decide +kernel))) rfl
theorem co_X10_liftStriker : Cond.code yX10_liftStriker cX10_liftStriker 4 (Option.some Jvm.ClassFile.FieldType.int) ∈ sw_U := sw_in (sw_t3 (List.mem_of_getElem? (i := 189) (by decide +kernel))) rfl
theorem ml_X10_253 : Cond.methodLink RX10 253 yX10_countGiven ∈ sw_U := sw_in (sw_t3 (List.mem_of_getElem? (i := 190) (by decide +kernel))) rfl
theorem im_X10_countGiven : Cond.instanceMethod yX10_countGiven ∈ sw_U := sw_in (sw_t3 (List.mem_of_getElem? (i := 192) (by decide +kernel))) rfl
theorem co_X10_countGiven : Cond.code yX10_countGiven cX10_countGiven 6 (Option.some Jvm.ClassFile.FieldType.int) ∈ sw_U := sw_in (sw_t3 (List.mem_of_getElem? (i := 193) (by decide +kernel))) rfl
theorem ml_X10_213 : Cond.methodLink RX10 213 yX3_countHits ∈ sw_U := sw_in (sw_t3 (List.mem_of_getElem? (i := 194) (by decide +kernel))) rfl
theorem im_X3_countHits : Cond.instanceMethod yX3_countHits ∈ sw_U := sw_in (sw_t3 (List.mem_of_getElem? (i := 195) (by decide +kernel))) rfl
theorem se_X3_countHits : Cond.selects yX3_countHits.cls yX3_countHits yX3_countHits ∈ sw_U := sw_in (sw_t3 (List.mem_of_getElem? (i := 196) (by decide +kernel))) rfl
theorem co_X3_countHits : Cond.code yX3_countHits cX3_countHits 7 (Option.some Jvm.ClassFile.FieldType.int) ∈ sw_U := sw_in (sw_t3 (List.mem_of_getElem? (i := 197) (by decide +kernel))) rfl
theorem ml_X3_58 : Cond.methodLink RX3 58 yJ9_max_7cf53 ∈ sw_U := sw_in (sw_t3 (List.mem_of_getElem? (i := 198) (by decide +kernel))) rfl
theorem ml_X10_412 : Cond.methodLink RX10 412 yX3_removeStriker ∈ sw_U := sw_in (sw_t3 (List.mem_of_getElem? (i := 199) (by decide +kernel))) rfl
theorem im_X3_removeStriker : Cond.instanceMethod yX3_removeStriker ∈ sw_U := sw_in (sw_t3 (List.mem_of_getElem? (i := 200) (by decide +kernel))) rfl
theorem se_X3_removeStriker : Cond.selects yX3_removeStriker.cls yX3_removeStriker yX3_removeStriker ∈ sw_U := sw_in (sw_t3 (List.mem_of_getElem? (i := 201) (by decide +kernel))) rfl
theorem co_X3_removeStriker : Cond.code yX3_removeStriker cX3_removeStriker 3 (Option.none : Option Jvm.ClassFile.FieldType) ∈ sw_U := sw_in (sw_t3 (List.mem_of_getElem? (i := 202) (by decide +kernel))) rfl
theorem ml_X10_390 : Cond.methodLink RX10 390 yX10_putFirst ∈ sw_U := sw_in (sw_t3 (List.mem_of_getElem? (i := 203) (by decide +kernel))) rfl
theorem im_X10_putFirst : Cond.instanceMethod yX10_putFirst ∈ sw_U := sw_in (sw_t3 (List.mem_of_getElem? (i := 205) (by decide +kernel))) rfl
theorem co_X10_putFirst : Cond.code yX10_putFirst cX10_putFirst 3 (Option.some Jvm.ClassFile.FieldType.int) ∈ sw_U := sw_in (sw_t3 (List.mem_of_getElem? (i := 206) (by decide +kernel))) rfl
theorem ml_X10_415 : Cond.methodLink RX10 415 yX3_moveToFront ∈ sw_U := sw_in (sw_t3 (List.mem_of_getElem? (i := 207) (by decide +kernel))) rfl
theorem im_X3_moveToFront : Cond.instanceMethod yX3_moveToFront ∈ sw_U := sw_in (sw_t3 (List.mem_of_getElem? (i := 208) (by decide +kernel))) rfl
theorem se_X3_moveToFront : Cond.selects yX3_moveToFront.cls yX3_moveToFront yX3_moveToFront ∈ sw_U := sw_in (sw_t3 (List.mem_of_getElem? (i := 209) (by decide +kernel))) rfl
theorem co_X3_moveToFront : Cond.code yX3_moveToFront cX3_moveToFront 3 (Option.none : Option Jvm.ClassFile.FieldType) ∈ sw_U := sw_in (sw_t3 (List.mem_of_getElem? (i := 210) (by decide +kernel))) rfl
theorem ml_X3_48 : Cond.methodLink RX3 48 yJ9_min_7cf53 ∈ sw_U := sw_in (sw_t3 (List.mem_of_getElem? (i := 211) (by decide +kernel))) rfl
theorem ml_X3_54 : Cond.methodLink RX3 54 yX3_exchange ∈ sw_U := sw_in (sw_t3 (List.mem_of_getElem? (i := 212) (by decide +kernel))) rfl
theorem ml_X10_393 : Cond.methodLink RX10 393 yX10_changeWheel ∈ sw_U := sw_in (sw_t3 (List.mem_of_getElem? (i := 213) (by decide +kernel))) rfl
theorem im_X10_changeWheel : Cond.instanceMethod yX10_changeWheel ∈ sw_U := sw_in (sw_t3 (List.mem_of_getElem? (i := 215) (by decide +kernel))) rfl
theorem co_X10_changeWheel : Cond.code yX10_changeWheel cX10_changeWheel 3 (Option.some Jvm.ClassFile.FieldType.int) ∈ sw_U := sw_in (sw_t3 (List.mem_of_getElem? (i := 216) (by decide +kernel))) rfl
theorem ml_X10_418 : Cond.methodLink RX10 418 yX3_setWheel ∈ sw_U := sw_in (sw_t3 (List.mem_of_getElem? (i := 217) (by decide +kernel))) rfl
theorem im_X3_setWheel : Cond.instanceMethod yX3_setWheel ∈ sw_U := sw_in (sw_t3 (List.mem_of_getElem? (i := 218) (by decide +kernel))) rfl
theorem se_X3_setWheel : Cond.selects yX3_setWheel.cls yX3_setWheel yX3_setWheel ∈ sw_U := sw_in (sw_t3 (List.mem_of_getElem? (i := 219) (by decide +kernel))) rfl
theorem co_X3_setWheel : Cond.code yX3_setWheel cX3_setWheel 2 (Option.none : Option Jvm.ClassFile.FieldType) ∈ sw_U := sw_in (sw_t3 (List.mem_of_getElem? (i := 220) (by decide +kernel))) rfl
theorem ml_X10_396 : Cond.methodLink RX10 396 yX10_fillUp ∈ sw_U := sw_in (sw_t3 (List.mem_of_getElem? (i := 221) (by decide +kernel))) rfl
theorem im_X10_fillUp : Cond.instanceMethod yX10_fillUp ∈ sw_U := sw_in (sw_t3 (List.mem_of_getElem? (i := 223) (by decide +kernel))) rfl
theorem co_X10_fillUp : Cond.code yX10_fillUp cX10_fillUp 5 (Option.some Jvm.ClassFile.FieldType.int) ∈ sw_U := sw_in (sw_t3 (List.mem_of_getElem? (i := 224) (by decide +kernel))) rfl
theorem ml_X10_399 : Cond.methodLink RX10 399 yX10_takeIdleAway ∈ sw_U := sw_in (sw_t3 (List.mem_of_getElem? (i := 225) (by decide +kernel))) rfl
theorem im_X10_takeIdleAway : Cond.instanceMethod yX10_takeIdleAway ∈ sw_U := sw_in (sw_t3 (List.mem_of_getElem? (i := 227) (by decide +kernel))) rfl
theorem co_X10_takeIdleAway : Cond.code yX10_takeIdleAway cX10_takeIdleAway 4 (Option.some Jvm.ClassFile.FieldType.int) ∈ sw_U := sw_in (sw_t3 (List.mem_of_getElem? (i := 228) (by decide +kernel))) rfl
theorem ml_X10_198 : Cond.methodLink RX10 198 yX7_smallestOwned ∈ sw_U := sw_in (sw_t3 (List.mem_of_getElem? (i := 229) (by decide +kernel))) rfl
theorem im_X7_smallestOwned : Cond.instanceMethod yX7_smallestOwned ∈ sw_U := sw_in (sw_t3 (List.mem_of_getElem? (i := 230) (by decide +kernel))) rfl
theorem se_X7_smallestOwned : Cond.selects yX7_smallestOwned.cls yX7_smallestOwned yX7_smallestOwned ∈ sw_U := sw_in (sw_t3 (List.mem_of_getElem? (i := 231) (by decide +kernel))) rfl
theorem co_X7_smallestOwned : Cond.code yX7_smallestOwned cX7_smallestOwned 3 (Option.some Jvm.ClassFile.FieldType.int) ∈ sw_U := sw_in (sw_t3 (List.mem_of_getElem? (i := 232) (by decide +kernel))) rfl
theorem ml_X10_327 : Cond.methodLink RX10 327 yX10_counted ∈ sw_U := sw_in (sw_t3 (List.mem_of_getElem? (i := 233) (by decide +kernel))) rfl
theorem im_X10_counted : Cond.instanceMethod yX10_counted ∈ sw_U := sw_in (sw_t3 (List.mem_of_getElem? (i := 235) (by decide +kernel))) rfl
theorem co_X10_counted : Cond.code yX10_counted cX10_counted 2 (Option.some Jvm.ClassFile.FieldType.int) ∈ sw_U := sw_in (sw_t3 (List.mem_of_getElem? (i := 236) (by decide +kernel))) rfl
theorem ml_X10_308 : Cond.methodLink RX10 308 yX1_push ∈ sw_U := sw_in (sw_t3 (List.mem_of_getElem? (i := 237) (by decide +kernel))) rfl
theorem im_X1_push : Cond.instanceMethod yX1_push ∈ sw_U := sw_in (sw_t3 (List.mem_of_getElem? (i := 238) (by decide +kernel))) rfl
theorem se_X1_push : Cond.selects yX1_push.cls yX1_push yX1_push ∈ sw_U := sw_in (sw_t3 (List.mem_of_getElem? (i := 239) (by decide +kernel))) rfl
theorem co_X1_push : Cond.code yX1_push cX1_push 2 (Option.none : Option Jvm.ClassFile.FieldType) ∈ sw_U := sw_in (sw_t4 (List.mem_of_getElem? (i := 0) (by decide +kernel))) rfl
theorem ml_X1_25 : Cond.methodLink RX1 25 yX3_takeOver ∈ sw_U := sw_in (sw_t4 (List.mem_of_getElem? (i := 1) (by decide +kernel))) rfl
theorem ml_L_291 : Cond.methodLink RL 291 yX10_tidy ∈ sw_U := sw_in (sw_t4 (List.mem_of_getElem? (i := 2) (by decide +kernel))) rfl
theorem im_X10_tidy : Cond.instanceMethod yX10_tidy ∈ sw_U := sw_in (sw_t4 (List.mem_of_getElem? (i := 3) (by decide +kernel))) rfl
theorem se_X10_tidy : Cond.selects yX10_tidy.cls yX10_tidy yX10_tidy ∈ sw_U := sw_in (sw_t4 (List.mem_of_getElem? (i := 4) (by decide +kernel))) rfl
theorem co_X10_tidy : Cond.code yX10_tidy cX10_tidy 1 (Option.some Jvm.ClassFile.FieldType.int) ∈ sw_U := sw_in (sw_t4 (List.mem_of_getElem? (i := 5) (by decide +kernel))) rfl
theorem fl_X10_301 : Cond.fieldLink RX10 301 "StrikeWheels$Order" "TIDY" "LStrikeWheels$Order;" ∈ sw_U := sw_in (sw_t4 (List.mem_of_getElem? (i := 6) (by decide +kernel))) rfl
theorem ml_L_301 : Cond.methodLink RL 301 yX10_formattedByte ∈ sw_U := sw_in (sw_t4 (List.mem_of_getElem? (i := 8) (by decide +kernel))) rfl
theorem im_X10_formattedByte : Cond.instanceMethod yX10_formattedByte ∈ sw_U := sw_in (sw_t4 (List.mem_of_getElem? (i := 9) (by decide +kernel))) rfl
theorem se_X10_formattedByte : Cond.selects yX10_formattedByte.cls yX10_formattedByte yX10_formattedByte ∈ sw_U := sw_in (sw_t4 (List.mem_of_getElem? (i := 10) (by decide +kernel))) rfl
theorem co_X10_formattedByte : Cond.code yX10_formattedByte cX10_formattedByte 2 (Option.some Jvm.ClassFile.FieldType.int) ∈ sw_U := sw_in (sw_t4 (List.mem_of_getElem? (i := 11) (by decide +kernel))) rfl
theorem ml_X10_342 : Cond.methodLink RX10 342 yX6_byteAt ∈ sw_U := sw_in (sw_t4 (List.mem_of_getElem? (i := 12) (by decide +kernel))) rfl
theorem im_X6_byteAt : Cond.instanceMethod yX6_byteAt ∈ sw_U := sw_in (sw_t4 (List.mem_of_getElem? (i := 13) (by decide +kernel))) rfl
theorem se_X6_byteAt : Cond.selects yX6_byteAt.cls yX6_byteAt yX6_byteAt ∈ sw_U := sw_in (sw_t4 (List.mem_of_getElem? (i := 14) (by decide +kernel))) rfl
theorem co_X6_byteAt : Cond.code yX6_byteAt cX6_byteAt 2 (Option.some Jvm.ClassFile.FieldType.int) ∈ sw_U := sw_in (sw_t4 (List.mem_of_getElem? (i := 15) (by decide +kernel))) rfl
theorem ml_L_305 : Cond.methodLink RL 305 yX10_undoCount ∈ sw_U := sw_in (sw_t4 (List.mem_of_getElem? (i := 16) (by decide +kernel))) rfl
theorem im_X10_undoCount : Cond.instanceMethod yX10_undoCount ∈ sw_U := sw_in (sw_t4 (List.mem_of_getElem? (i := 17) (by decide +kernel))) rfl
theorem se_X10_undoCount : Cond.selects yX10_undoCount.cls yX10_undoCount yX10_undoCount ∈ sw_U := sw_in (sw_t4 (List.mem_of_getElem? (i := 18) (by decide +kernel))) rfl
theorem co_X10_undoCount : Cond.code yX10_undoCount cX10_undoCount 1 (Option.some Jvm.ClassFile.FieldType.int) ∈ sw_U := sw_in (sw_t4 (List.mem_of_getElem? (i := 19) (by decide +kernel))) rfl
theorem ml_X10_345 : Cond.methodLink RX10 345 yX1_count ∈ sw_U := sw_in (sw_t4 (List.mem_of_getElem? (i := 20) (by decide +kernel))) rfl
theorem im_X1_count : Cond.instanceMethod yX1_count ∈ sw_U := sw_in (sw_t4 (List.mem_of_getElem? (i := 21) (by decide +kernel))) rfl
theorem se_X1_count : Cond.selects yX1_count.cls yX1_count yX1_count ∈ sw_U := sw_in (sw_t4 (List.mem_of_getElem? (i := 22) (by decide +kernel))) rfl
theorem co_X1_count : Cond.code yX1_count cX1_count 1 (Option.some Jvm.ClassFile.FieldType.int) ∈ sw_U := sw_in (sw_t4 (List.mem_of_getElem? (i := 23) (by decide +kernel))) rfl
theorem ml_L_309 : Cond.methodLink RL 309 yX10_undo ∈ sw_U := sw_in (sw_t4 (List.mem_of_getElem? (i := 24) (by decide +kernel))) rfl
theorem im_X10_undo : Cond.instanceMethod yX10_undo ∈ sw_U := sw_in (sw_t4 (List.mem_of_getElem? (i := 25) (by decide +kernel))) rfl
theorem se_X10_undo : Cond.selects yX10_undo.cls yX10_undo yX10_undo ∈ sw_U := sw_in (sw_t4 (List.mem_of_getElem? (i := 26) (by decide +kernel))) rfl
theorem co_X10_undo : Cond.code yX10_undo cX10_undo 1 (Option.some Jvm.ClassFile.FieldType.int) ∈ sw_U := sw_in (sw_t4 (List.mem_of_getElem? (i := 27) (by decide +kernel))) rfl
theorem ml_X10_346 : Cond.methodLink RX10 346 yX1_pop ∈ sw_U := sw_in (sw_t4 (List.mem_of_getElem? (i := 28) (by decide +kernel))) rfl
theorem im_X1_pop : Cond.instanceMethod yX1_pop ∈ sw_U := sw_in (sw_t4 (List.mem_of_getElem? (i := 29) (by decide +kernel))) rfl
theorem se_X1_pop : Cond.selects yX1_pop.cls yX1_pop yX1_pop ∈ sw_U := sw_in (sw_t4 (List.mem_of_getElem? (i := 30) (by decide +kernel))) rfl
theorem co_X1_pop : Cond.code yX1_pop cX1_pop 2 (Option.none : Option Jvm.ClassFile.FieldType) ∈ sw_U := sw_in (sw_t4 (List.mem_of_getElem? (i := 31) (by decide +kernel))) rfl
theorem ml_L_313 : Cond.methodLink RL 313 yX10_saveSnapshot ∈ sw_U := sw_in (sw_t4 (List.mem_of_getElem? (i := 32) (by decide +kernel))) rfl
theorem im_X10_saveSnapshot : Cond.instanceMethod yX10_saveSnapshot ∈ sw_U := sw_in (sw_t4 (List.mem_of_getElem? (i := 33) (by decide +kernel))) rfl
theorem se_X10_saveSnapshot : Cond.selects yX10_saveSnapshot.cls yX10_saveSnapshot yX10_saveSnapshot ∈ sw_U := sw_in (sw_t4 (List.mem_of_getElem? (i := 34) (by decide +kernel))) rfl
theorem co_X10_saveSnapshot : Cond.code yX10_saveSnapshot cX10_saveSnapshot 1 (Option.none : Option Jvm.ClassFile.FieldType) ∈ sw_U := sw_in (sw_t4 (List.mem_of_getElem? (i := 35) (by decide +kernel))) rfl
theorem ml_L_317 : Cond.methodLink RL 317 yX10_restoreSnapshot ∈ sw_U := sw_in (sw_t4 (List.mem_of_getElem? (i := 36) (by decide +kernel))) rfl
theorem im_X10_restoreSnapshot : Cond.instanceMethod yX10_restoreSnapshot ∈ sw_U := sw_in (sw_t4 (List.mem_of_getElem? (i := 37) (by decide +kernel))) rfl
theorem se_X10_restoreSnapshot : Cond.selects yX10_restoreSnapshot.cls yX10_restoreSnapshot yX10_restoreSnapshot ∈ sw_U := sw_in (sw_t4 (List.mem_of_getElem? (i := 38) (by decide +kernel))) rfl
theorem co_X10_restoreSnapshot : Cond.code yX10_restoreSnapshot cX10_restoreSnapshot 1 (Option.some Jvm.ClassFile.FieldType.boolean) ∈ sw_U := sw_in (sw_t4 (List.mem_of_getElem? (i := 39) (by decide +kernel))) rfl
theorem ml_X10_113 : Cond.methodLink RX10 113 yX1_forget ∈ sw_U := sw_in (sw_t4 (List.mem_of_getElem? (i := 40) (by decide +kernel))) rfl
theorem im_X1_forget : Cond.instanceMethod yX1_forget ∈ sw_U := sw_in (sw_t4 (List.mem_of_getElem? (i := 41) (by decide +kernel))) rfl
theorem se_X1_forget : Cond.selects yX1_forget.cls yX1_forget yX1_forget ∈ sw_U := sw_in (sw_t4 (List.mem_of_getElem? (i := 42) (by decide +kernel))) rfl
theorem co_X1_forget : Cond.code yX1_forget cX1_forget 1 (Option.none : Option Jvm.ClassFile.FieldType) ∈ sw_U := sw_in (sw_t4 (List.mem_of_getElem? (i := 43) (by decide +kernel))) rfl
theorem ml_L_99 : Cond.methodLink RL 99 yL_load ∈ sw_U := sw_in (sw_t4 (List.mem_of_getElem? (i := 44) (by decide +kernel))) rfl
theorem st_L_load : Cond.static yL_load ∈ sw_U := sw_in (sw_t4 (List.mem_of_getElem? (i := 45) (by decide +kernel))) rfl
theorem cw_L_load : Cond.codeWith yL_load cL_load 4 (Option.some Jvm.ClassFile.FieldType.int) [((0 : Nat), (9 : Nat), (12 : Nat), (13 : Nat))] ∈ sw_U := sw_in (sw_t4 (List.mem_of_getElem? (i := 46) (by decide +kernel))) rfl
theorem cl_L_13 : Cond.classLink RL 13 "java/lang/IllegalArgumentException" ∈ sw_U := sw_in (sw_t4 (List.mem_of_getElem? (i := 47) (by decide +kernel))) rfl
theorem ml_L_7 : Cond.methodLink RL 7 yX10_load ∈ sw_U := sw_in (sw_t4 (List.mem_of_getElem? (i := 48) (by decide +kernel))) rfl
theorem im_X10_load : Cond.instanceMethod yX10_load ∈ sw_U := sw_in (sw_t4 (List.mem_of_getElem? (i := 49) (by decide +kernel))) rfl
theorem se_X10_load : Cond.selects yX10_load.cls yX10_load yX10_load ∈ sw_U := sw_in (sw_t4 (List.mem_of_getElem? (i := 50) (by decide +kernel))) rfl
theorem co_X10_load : Cond.code yX10_load cX10_load 3 (Option.some Jvm.ClassFile.FieldType.int) ∈ sw_U := sw_in (sw_t4 (List.mem_of_getElem? (i := 51) (by decide +kernel))) rfl
theorem ml_X10_98 : Cond.methodLink RX10 98 yX10_needInRange ∈ sw_U := sw_in (sw_t4 (List.mem_of_getElem? (i := 52) (by decide +kernel))) rfl
theorem st_X10_needInRange : Cond.static yX10_needInRange ∈ sw_U := sw_in (sw_t4 (List.mem_of_getElem? (i := 53) (by decide +kernel))) rfl
theorem co_X10_needInRange : Cond.code yX10_needInRange cX10_needInRange 3 (Option.none : Option Jvm.ClassFile.FieldType) ∈ sw_U := sw_in (sw_t4 (List.mem_of_getElem? (i := 54) (by decide +kernel))) rfl
theorem ml_X10_102 : Cond.methodLink RX10 102 yX4_readText ∈ sw_U := sw_in (sw_t4 (List.mem_of_getElem? (i := 55) (by decide +kernel))) rfl
theorem im_X4_readText : Cond.instanceMethod yX4_readText ∈ sw_U := sw_in (sw_t4 (List.mem_of_getElem? (i := 56) (by decide +kernel))) rfl
theorem se_X4_readText : Cond.selects yX4_readText.cls yX4_readText yX4_readText ∈ sw_U := sw_in (sw_t4 (List.mem_of_getElem? (i := 57) (by decide +kernel))) rfl
theorem co_X4_readText : Cond.code yX4_readText cX4_readText 3 (Option.some Jvm.ClassFile.FieldType.int) ∈ sw_U := sw_in (sw_t4 (List.mem_of_getElem? (i := 58) (by decide +kernel))) rfl
theorem ml_X4_25 : Cond.methodLink RX4 25 yX4_begin ∈ sw_U := sw_in (sw_t4 (List.mem_of_getElem? (i := 59) (by decide +kernel))) rfl
theorem im_X4_begin : Cond.instanceMethod yX4_begin ∈ sw_U := sw_in (sw_t4 (List.mem_of_getElem? (i := 61) (by decide +kernel))) rfl
theorem co_X4_begin : Cond.code yX4_begin cX4_begin 2 (Option.none : Option Jvm.ClassFile.FieldType) ∈ sw_U := sw_in (sw_t4 (List.mem_of_getElem? (i := 62) (by decide +kernel))) rfl
theorem ml_X4_73 : Cond.methodLink RX4 73 yX8_open ∈ sw_U := sw_in (sw_t4 (List.mem_of_getElem? (i := 63) (by decide +kernel))) rfl
theorem im_X8_open : Cond.instanceMethod yX8_open ∈ sw_U := sw_in (sw_t4 (List.mem_of_getElem? (i := 64) (by decide +kernel))) rfl
theorem se_X8_open : Cond.selects yX8_open.cls yX8_open yX8_open ∈ sw_U := sw_in (sw_t4 (List.mem_of_getElem? (i := 65) (by decide +kernel))) rfl
theorem co_X8_open : Cond.code yX8_open cX8_open 2 (Option.none : Option Jvm.ClassFile.FieldType) ∈ sw_U := sw_in (sw_t4 (List.mem_of_getElem? (i := 66) (by decide +kernel))) rfl
theorem ml_X8_34 : Cond.methodLink RX8 34 yJ9_min_7cf53 ∈ sw_U := sw_in (sw_t4 (List.mem_of_getElem? (i := 67) (by decide +kernel))) rfl
theorem ml_X8_40 : Cond.methodLink RX8 40 yX8_advance ∈ sw_U := sw_in (sw_t4 (List.mem_of_getElem? (i := 68) (by decide +kernel))) rfl
theorem im_X8_advance : Cond.instanceMethod yX8_advance ∈ sw_U := sw_in (sw_t4 (List.mem_of_getElem? (i := 69) (by decide +kernel))) rfl
theorem se_X8_advance : Cond.selects yX8_advance.cls yX8_advance yX8_advance ∈ sw_U := sw_in (sw_t4 (List.mem_of_getElem? (i := 70) (by decide +kernel))) rfl
theorem co_X8_advance : Cond.code yX8_advance cX8_advance 1 (Option.none : Option Jvm.ClassFile.FieldType) ∈ sw_U := sw_in (sw_t4 (List.mem_of_getElem? (i := 71) (by decide +kernel))) rfl
theorem ml_X8_43 : Cond.methodLink RX8 43 yX8_byteAt ∈ sw_U := sw_in (sw_t4 (List.mem_of_getElem? (i := 72) (by decide +kernel))) rfl
theorem im_X8_byteAt : Cond.instanceMethod yX8_byteAt ∈ sw_U := sw_in (sw_t4 (List.mem_of_getElem? (i := 74) (by decide +kernel))) rfl
theorem co_X8_byteAt : Cond.code yX8_byteAt cX8_byteAt 2 (Option.some Jvm.ClassFile.FieldType.int) ∈ sw_U := sw_in (sw_t4 (List.mem_of_getElem? (i := 75) (by decide +kernel))) rfl
theorem ml_X8_47 : Cond.methodLink RX8 47 yX8_isBlank ∈ sw_U := sw_in (sw_t4 (List.mem_of_getElem? (i := 76) (by decide +kernel))) rfl
theorem st_X8_isBlank : Cond.static yX8_isBlank ∈ sw_U := sw_in (sw_t4 (List.mem_of_getElem? (i := 77) (by decide +kernel))) rfl
theorem co_X8_isBlank : Cond.code yX8_isBlank cX8_isBlank 1 (Option.some Jvm.ClassFile.FieldType.boolean) ∈ sw_U := sw_in (sw_t4 (List.mem_of_getElem? (i := 78) (by decide +kernel))) rfl
theorem ml_X8_51 : Cond.methodLink RX8 51 yX8_isLetter ∈ sw_U := sw_in (sw_t4 (List.mem_of_getElem? (i := 79) (by decide +kernel))) rfl
theorem st_X8_isLetter : Cond.static yX8_isLetter ∈ sw_U := sw_in (sw_t4 (List.mem_of_getElem? (i := 80) (by decide +kernel))) rfl
theorem co_X8_isLetter : Cond.code yX8_isLetter cX8_isLetter 1 (Option.some Jvm.ClassFile.FieldType.boolean) ∈ sw_U := sw_in (sw_t4 (List.mem_of_getElem? (i := 81) (by decide +kernel))) rfl
theorem ml_X8_54 : Cond.methodLink RX8 54 yX8_skipLetters ∈ sw_U := sw_in (sw_t4 (List.mem_of_getElem? (i := 82) (by decide +kernel))) rfl
theorem im_X8_skipLetters : Cond.instanceMethod yX8_skipLetters ∈ sw_U := sw_in (sw_t4 (List.mem_of_getElem? (i := 84) (by decide +kernel))) rfl
theorem co_X8_skipLetters : Cond.code yX8_skipLetters cX8_skipLetters 1 (Option.none : Option Jvm.ClassFile.FieldType) ∈ sw_U := sw_in (sw_t4 (List.mem_of_getElem? (i := 85) (by decide +kernel))) rfl
theorem ml_X8_57 : Cond.methodLink RX8 57 yX8_isDigit ∈ sw_U := sw_in (sw_t4 (List.mem_of_getElem? (i := 86) (by decide +kernel))) rfl
theorem st_X8_isDigit : Cond.static yX8_isDigit ∈ sw_U := sw_in (sw_t4 (List.mem_of_getElem? (i := 87) (by decide +kernel))) rfl
theorem co_X8_isDigit : Cond.code yX8_isDigit cX8_isDigit 1 (Option.some Jvm.ClassFile.FieldType.boolean) ∈ sw_U := sw_in (sw_t4 (List.mem_of_getElem? (i := 88) (by decide +kernel))) rfl
theorem ml_X8_60 : Cond.methodLink RX8 60 yX8_readDigits ∈ sw_U := sw_in (sw_t4 (List.mem_of_getElem? (i := 89) (by decide +kernel))) rfl
theorem im_X8_readDigits : Cond.instanceMethod yX8_readDigits ∈ sw_U := sw_in (sw_t4 (List.mem_of_getElem? (i := 91) (by decide +kernel))) rfl
theorem co_X8_readDigits : Cond.code yX8_readDigits cX8_readDigits 1 (Option.none : Option Jvm.ClassFile.FieldType) ∈ sw_U := sw_in (sw_t4 (List.mem_of_getElem? (i := 92) (by decide +kernel))) rfl
theorem ml_X4_31 : Cond.methodLink RX4 31 yX4_takeWord ∈ sw_U := sw_in (sw_t4 (List.mem_of_getElem? (i := 95) (by decide +kernel))) rfl
theorem im_X4_takeWord : Cond.instanceMethod yX4_takeWord ∈ sw_U := sw_in (sw_t4 (List.mem_of_getElem? (i := 97) (by decide +kernel))) rfl
theorem co_X4_takeWord : Cond.code yX4_takeWord cX4_takeWord 2 (Option.some Jvm.ClassFile.FieldType.boolean) ∈ sw_U := sw_in (sw_t4 (List.mem_of_getElem? (i := 98) (by decide +kernel))) rfl
theorem ml_X4_82 : Cond.methodLink RX4 82 yX8_isWord ∈ sw_U := sw_in (sw_t4 (List.mem_of_getElem? (i := 99) (by decide +kernel))) rfl
theorem im_X8_isWord : Cond.instanceMethod yX8_isWord ∈ sw_U := sw_in (sw_t4 (List.mem_of_getElem? (i := 100) (by decide +kernel))) rfl
theorem se_X8_isWord : Cond.selects yX8_isWord.cls yX8_isWord yX8_isWord ∈ sw_U := sw_in (sw_t4 (List.mem_of_getElem? (i := 101) (by decide +kernel))) rfl
theorem co_X8_isWord : Cond.code yX8_isWord cX8_isWord 3 (Option.some Jvm.ClassFile.FieldType.boolean) ∈ sw_U := sw_in (sw_t4 (List.mem_of_getElem? (i := 102) (by decide +kernel))) rfl
theorem ml_X8_64 : Cond.methodLink RX8 64 yJ0_length_8abf5 ∈ sw_U := sw_in (sw_t4 (List.mem_of_getElem? (i := 103) (by decide +kernel))) rfl
theorem im_J0_length_8abf5 : Cond.instanceMethod yJ0_length_8abf5 ∈ sw_U := sw_in (sw_t4 (List.mem_of_getElem? (i := 104) (by decide +kernel))) rfl
theorem se_J0_length_8abf5 : Cond.selects yJ0_length_8abf5.cls yJ0_length_8abf5 yJ0_length_8abf5 ∈ sw_U := sw_in (sw_t4 (List.mem_of_getElem? (i := 105) (by decide +kernel))) rfl
theorem co_J0_length_8abf5 : Cond.code yJ0_length_8abf5 cJ0_length_8abf5 1 (Option.some Jvm.ClassFile.FieldType.int) ∈ sw_U := sw_in (sw_t4 (List.mem_of_getElem? (i := 106) (by decide +kernel))) rfl
theorem ml_J0_335 : Cond.methodLink RJ0 335 yJ0_coder_7d493 ∈ sw_U := sw_in (sw_t4 (List.mem_of_getElem? (i := 107) (by decide +kernel))) rfl
theorem im_J0_coder_7d493 : Cond.instanceMethod yJ0_coder_7d493 ∈ sw_U := sw_in (sw_t4 (List.mem_of_getElem? (i := 108) (by decide +kernel))) rfl
theorem se_J0_coder_7d493 : Cond.selects yJ0_coder_7d493.cls yJ0_coder_7d493 yJ0_coder_7d493 ∈ sw_U := sw_in (sw_t4 (List.mem_of_getElem? (i := 109) (by decide +kernel))) rfl
theorem co_J0_coder_7d493 : Cond.code yJ0_coder_7d493 cJ0_coder_7d493 1 (Option.some Jvm.ClassFile.FieldType.byte) ∈ sw_U := sw_in (sw_t4 (List.mem_of_getElem? (i := 110) (by decide +kernel))) rfl
theorem fl_J0_38 : Cond.fieldLink RJ0 38 "java/lang/String" "COMPACT_STRINGS" "Z" ∈ sw_U := sw_in (sw_t4 (List.mem_of_getElem? (i := 111) (by decide +kernel))) rfl
theorem ml_X8_70 : Cond.methodLink RX8 70 yJ0_charAt_5068e ∈ sw_U := sw_in (sw_t4 (List.mem_of_getElem? (i := 113) (by decide +kernel))) rfl
theorem im_J0_charAt_5068e : Cond.instanceMethod yJ0_charAt_5068e ∈ sw_U := sw_in (sw_t4 (List.mem_of_getElem? (i := 114) (by decide +kernel))) rfl
theorem se_J0_charAt_5068e : Cond.selects yJ0_charAt_5068e.cls yJ0_charAt_5068e yJ0_charAt_5068e ∈ sw_U := sw_in (sw_t4 (List.mem_of_getElem? (i := 115) (by decide +kernel))) rfl
theorem co_J0_charAt_5068e : Cond.code yJ0_charAt_5068e cJ0_charAt_5068e 2 (Option.some Jvm.ClassFile.FieldType.char) ∈ sw_U := sw_in (sw_t4 (List.mem_of_getElem? (i := 116) (by decide +kernel))) rfl
theorem ml_J0_492 : Cond.methodLink RJ0 492 yJ0_isLatin1_aae02 ∈ sw_U := sw_in (sw_t4 (List.mem_of_getElem? (i := 117) (by decide +kernel))) rfl
theorem im_J0_isLatin1_aae02 : Cond.instanceMethod yJ0_isLatin1_aae02 ∈ sw_U := sw_in (sw_t4 (List.mem_of_getElem? (i := 118) (by decide +kernel))) rfl
theorem se_J0_isLatin1_aae02 : Cond.selects yJ0_isLatin1_aae02.cls yJ0_isLatin1_aae02 yJ0_isLatin1_aae02 ∈ sw_U := sw_in (sw_t4 (List.mem_of_getElem? (i := 119) (by decide +kernel))) rfl
theorem co_J0_isLatin1_aae02 : Cond.code yJ0_isLatin1_aae02 cJ0_isLatin1_aae02 1 (Option.some Jvm.ClassFile.FieldType.boolean) ∈ sw_U := sw_in (sw_t4 (List.mem_of_getElem? (i := 120) (by decide +kernel))) rfl
theorem ml_J0_495 : Cond.methodLink RJ0 495 yJ1_charAt_3b067 ∈ sw_U := sw_in (sw_t4 (List.mem_of_getElem? (i := 121) (by decide +kernel))) rfl
theorem st_J1_charAt_3b067 : Cond.static yJ1_charAt_3b067 ∈ sw_U := sw_in (sw_t4 (List.mem_of_getElem? (i := 122) (by decide +kernel))) rfl
theorem co_J1_charAt_3b067 : Cond.code yJ1_charAt_3b067 cJ1_charAt_3b067 2 (Option.some Jvm.ClassFile.FieldType.char) ∈ sw_U := sw_in (sw_t4 (List.mem_of_getElem? (i := 123) (by decide +kernel))) rfl
theorem ml_J1_9 : Cond.methodLink RJ1 9 yJ0_checkIndex_df160 ∈ sw_U := sw_in (sw_t4 (List.mem_of_getElem? (i := 124) (by decide +kernel))) rfl
theorem st_J0_checkIndex_df160 : Cond.static yJ0_checkIndex_df160 ∈ sw_U := sw_in (sw_t4 (List.mem_of_getElem? (i := 125) (by decide +kernel))) rfl
theorem co_J0_checkIndex_df160 : Cond.code yJ0_checkIndex_df160 cJ0_checkIndex_df160 2 (Option.none : Option Jvm.ClassFile.FieldType) ∈ sw_U := sw_in (sw_t4 (List.mem_of_getElem? (i := 126) (by decide +kernel))) rfl
theorem fl_J0_1053 : Cond.fieldLink RJ0 1053 "jdk/internal/util/Preconditions" "SIOOBE_FORMATTER" "Ljava/util/function/BiFunction;" ∈ sw_U := sw_in (sw_t4 (List.mem_of_getElem? (i := 127) (by decide +kernel))) rfl
theorem ml_J0_1059 : Cond.methodLink RJ0 1059 yJ3_checkIndex_8e157 ∈ sw_U := sw_in (sw_t4 (List.mem_of_getElem? (i := 129) (by decide +kernel))) rfl
theorem st_J3_checkIndex_8e157 : Cond.static yJ3_checkIndex_8e157 ∈ sw_U := sw_in (sw_t4 (List.mem_of_getElem? (i := 130) (by decide +kernel))) rfl
theorem co_J3_checkIndex_8e157 : Cond.code yJ3_checkIndex_8e157 cJ3_checkIndex_8e157 3 (Option.some Jvm.ClassFile.FieldType.int) ∈ sw_U := sw_in (sw_t4 (List.mem_of_getElem? (i := 131) (by decide +kernel))) rfl
theorem ml_J0_498 : Cond.methodLink RJ0 498 yJ2_charAt_3b067 ∈ sw_U := sw_in (sw_t4 (List.mem_of_getElem? (i := 132) (by decide +kernel))) rfl
theorem st_J2_charAt_3b067 : Cond.static yJ2_charAt_3b067 ∈ sw_U := sw_in (sw_t4 (List.mem_of_getElem? (i := 133) (by decide +kernel))) rfl
theorem co_J2_charAt_3b067 : Cond.code yJ2_charAt_3b067 cJ2_charAt_3b067 2 (Option.some Jvm.ClassFile.FieldType.char) ∈ sw_U := sw_in (sw_t4 (List.mem_of_getElem? (i := 134) (by decide +kernel))) rfl
theorem ml_J2_67 : Cond.methodLink RJ2 67 yJ2_checkIndex_2214a ∈ sw_U := sw_in (sw_t4 (List.mem_of_getElem? (i := 135) (by decide +kernel))) rfl
theorem st_J2_checkIndex_2214a : Cond.static yJ2_checkIndex_2214a ∈ sw_U := sw_in (sw_t4 (List.mem_of_getElem? (i := 136) (by decide +kernel))) rfl
theorem co_J2_checkIndex_2214a : Cond.code yJ2_checkIndex_2214a cJ2_checkIndex_2214a 2 (Option.none : Option Jvm.ClassFile.FieldType) ∈ sw_U := sw_in (sw_t4 (List.mem_of_getElem? (i := 137) (by decide +kernel))) rfl
theorem ml_J2_48 : Cond.methodLink RJ2 48 yJ2_length_9d52b ∈ sw_U := sw_in (sw_t4 (List.mem_of_getElem? (i := 138) (by decide +kernel))) rfl
theorem st_J2_length_9d52b : Cond.static yJ2_length_9d52b ∈ sw_U := sw_in (sw_t4 (List.mem_of_getElem? (i := 139) (by decide +kernel))) rfl
theorem co_J2_length_9d52b : Cond.code yJ2_length_9d52b cJ2_length_9d52b 1 (Option.some Jvm.ClassFile.FieldType.int) ∈ sw_U := sw_in (sw_t4 (List.mem_of_getElem? (i := 140) (by decide +kernel))) rfl
theorem ml_J2_414 : Cond.methodLink RJ2 414 yJ0_checkIndex_df160 ∈ sw_U := sw_in (sw_t4 (List.mem_of_getElem? (i := 141) (by decide +kernel))) rfl
theorem ml_J2_71 : Cond.methodLink RJ2 71 yJ2_getChar_3b067 ∈ sw_U := sw_in (sw_t4 (List.mem_of_getElem? (i := 142) (by decide +kernel))) rfl
theorem st_J2_getChar_3b067 : Cond.static yJ2_getChar_3b067 ∈ sw_U := sw_in (sw_t4 (List.mem_of_getElem? (i := 143) (by decide +kernel))) rfl
theorem co_J2_getChar_3b067 : Cond.code yJ2_getChar_3b067 cJ2_getChar_3b067 2 (Option.some Jvm.ClassFile.FieldType.char) ∈ sw_U := sw_in (sw_t4 (List.mem_of_getElem? (i := 144) (by decide +kernel))) rfl
theorem fl_J2_44 : Cond.fieldLink RJ2 44 "java/lang/StringUTF16" "$assertionsDisabled" "Z" ∈ sw_U := sw_in (sw_t4 (List.mem_of_getElem? (i := 145) (by decide +kernel))) rfl
theorem fl_J2_59 : Cond.fieldLink RJ2 59 "java/lang/StringUTF16" "HI_BYTE_SHIFT" "I" ∈ sw_U := sw_in (sw_t4 (List.mem_of_getElem? (i := 147) (by decide +kernel))) rfl
theorem fl_J2_63 : Cond.fieldLink RJ2 63 "java/lang/StringUTF16" "LO_BYTE_SHIFT" "I" ∈ sw_U := sw_in (sw_t4 (List.mem_of_getElem? (i := 149) (by decide +kernel))) rfl
theorem ml_X4_60 : Cond.methodLink RX4 60 yX4_fail ∈ sw_U := sw_in (sw_t4 (List.mem_of_getElem? (i := 151) (by decide +kernel))) rfl
theorem im_X4_fail : Cond.instanceMethod yX4_fail ∈ sw_U := sw_in (sw_t4 (List.mem_of_getElem? (i := 153) (by decide +kernel))) rfl
theorem co_X4_fail : Cond.code yX4_fail cX4_fail 2 (Option.some Jvm.ClassFile.FieldType.boolean) ∈ sw_U := sw_in (sw_t4 (List.mem_of_getElem? (i := 154) (by decide +kernel))) rfl
theorem ml_X4_76 : Cond.methodLink RX4 76 yX8_tokenStart ∈ sw_U := sw_in (sw_t4 (List.mem_of_getElem? (i := 155) (by decide +kernel))) rfl
theorem im_X8_tokenStart : Cond.instanceMethod yX8_tokenStart ∈ sw_U := sw_in (sw_t4 (List.mem_of_getElem? (i := 156) (by decide +kernel))) rfl
theorem se_X8_tokenStart : Cond.selects yX8_tokenStart.cls yX8_tokenStart yX8_tokenStart ∈ sw_U := sw_in (sw_t4 (List.mem_of_getElem? (i := 157) (by decide +kernel))) rfl
theorem co_X8_tokenStart : Cond.code yX8_tokenStart cX8_tokenStart 1 (Option.some Jvm.ClassFile.FieldType.int) ∈ sw_U := sw_in (sw_t4 (List.mem_of_getElem? (i := 158) (by decide +kernel))) rfl
theorem ml_X4_85 : Cond.methodLink RX4 85 yX8_advance ∈ sw_U := sw_in (sw_t4 (List.mem_of_getElem? (i := 159) (by decide +kernel))) rfl
theorem ml_X4_35 : Cond.methodLink RX4 35 yX4_takeNumber ∈ sw_U := sw_in (sw_t4 (List.mem_of_getElem? (i := 160) (by decide +kernel))) rfl
theorem im_X4_takeNumber : Cond.instanceMethod yX4_takeNumber ∈ sw_U := sw_in (sw_t4 (List.mem_of_getElem? (i := 162) (by decide +kernel))) rfl
theorem co_X4_takeNumber : Cond.code yX4_takeNumber cX4_takeNumber 3 (Option.some Jvm.ClassFile.FieldType.boolean) ∈ sw_U := sw_in (sw_t4 (List.mem_of_getElem? (i := 163) (by decide +kernel))) rfl
theorem ml_X4_93 : Cond.methodLink RX4 93 yX8_isNumber ∈ sw_U := sw_in (sw_t4 (List.mem_of_getElem? (i := 164) (by decide +kernel))) rfl
theorem im_X8_isNumber : Cond.instanceMethod yX8_isNumber ∈ sw_U := sw_in (sw_t4 (List.mem_of_getElem? (i := 165) (by decide +kernel))) rfl
theorem se_X8_isNumber : Cond.selects yX8_isNumber.cls yX8_isNumber yX8_isNumber ∈ sw_U := sw_in (sw_t4 (List.mem_of_getElem? (i := 166) (by decide +kernel))) rfl
theorem co_X8_isNumber : Cond.code yX8_isNumber cX8_isNumber 1 (Option.some Jvm.ClassFile.FieldType.boolean) ∈ sw_U := sw_in (sw_t4 (List.mem_of_getElem? (i := 167) (by decide +kernel))) rfl
theorem ml_X4_96 : Cond.methodLink RX4 96 yX8_tokenValue ∈ sw_U := sw_in (sw_t4 (List.mem_of_getElem? (i := 168) (by decide +kernel))) rfl
theorem im_X8_tokenValue : Cond.instanceMethod yX8_tokenValue ∈ sw_U := sw_in (sw_t4 (List.mem_of_getElem? (i := 169) (by decide +kernel))) rfl
theorem se_X8_tokenValue : Cond.selects yX8_tokenValue.cls yX8_tokenValue yX8_tokenValue ∈ sw_U := sw_in (sw_t4 (List.mem_of_getElem? (i := 170) (by decide +kernel))) rfl
theorem co_X8_tokenValue : Cond.code yX8_tokenValue cX8_tokenValue 1 (Option.some Jvm.ClassFile.FieldType.int) ∈ sw_U := sw_in (sw_t4 (List.mem_of_getElem? (i := 171) (by decide +kernel))) rfl
theorem ml_X4_39 : Cond.methodLink RX4 39 yX4_takeSemicolon ∈ sw_U := sw_in (sw_t4 (List.mem_of_getElem? (i := 172) (by decide +kernel))) rfl
theorem im_X4_takeSemicolon : Cond.instanceMethod yX4_takeSemicolon ∈ sw_U := sw_in (sw_t4 (List.mem_of_getElem? (i := 174) (by decide +kernel))) rfl
theorem co_X4_takeSemicolon : Cond.code yX4_takeSemicolon cX4_takeSemicolon 1 (Option.some Jvm.ClassFile.FieldType.boolean) ∈ sw_U := sw_in (sw_t4 (List.mem_of_getElem? (i := 175) (by decide +kernel))) rfl
theorem ml_X4_140 : Cond.methodLink RX4 140 yX8_isSemicolon ∈ sw_U := sw_in (sw_t4 (List.mem_of_getElem? (i := 176) (by decide +kernel))) rfl
theorem im_X8_isSemicolon : Cond.instanceMethod yX8_isSemicolon ∈ sw_U := sw_in (sw_t4 (List.mem_of_getElem? (i := 177) (by decide +kernel))) rfl
theorem se_X8_isSemicolon : Cond.selects yX8_isSemicolon.cls yX8_isSemicolon yX8_isSemicolon ∈ sw_U := sw_in (sw_t4 (List.mem_of_getElem? (i := 178) (by decide +kernel))) rfl
theorem co_X8_isSemicolon : Cond.code yX8_isSemicolon cX8_isSemicolon 1 (Option.some Jvm.ClassFile.FieldType.boolean) ∈ sw_U := sw_in (sw_t4 (List.mem_of_getElem? (i := 179) (by decide +kernel))) rfl
theorem ml_X4_43 : Cond.methodLink RX4 43 yX3_beginWith ∈ sw_U := sw_in (sw_t4 (List.mem_of_getElem? (i := 180) (by decide +kernel))) rfl
theorem ml_X4_48 : Cond.methodLink RX4 48 yX4_readStretches ∈ sw_U := sw_in (sw_t4 (List.mem_of_getElem? (i := 181) (by decide +kernel))) rfl
theorem im_X4_readStretches : Cond.instanceMethod yX4_readStretches ∈ sw_U := sw_in (sw_t4 (List.mem_of_getElem? (i := 183) (by decide +kernel))) rfl
theorem co_X4_readStretches : Cond.code yX4_readStretches cX4_readStretches 3 (Option.some Jvm.ClassFile.FieldType.boolean) ∈ sw_U := sw_in (sw_t4 (List.mem_of_getElem? (i := 184) (by decide +kernel))) rfl
theorem ml_X4_88 : Cond.methodLink RX4 88 yX3_appendStretch ∈ sw_U := sw_in (sw_t4 (List.mem_of_getElem? (i := 186) (by decide +kernel))) rfl
theorem ml_X4_52 : Cond.methodLink RX4 52 yX4_readStrikers ∈ sw_U := sw_in (sw_t4 (List.mem_of_getElem? (i := 187) (by decide +kernel))) rfl
theorem im_X4_readStrikers : Cond.instanceMethod yX4_readStrikers ∈ sw_U := sw_in (sw_t4 (List.mem_of_getElem? (i := 189) (by decide +kernel))) rfl
theorem co_X4_readStrikers : Cond.code yX4_readStrikers cX4_readStrikers 3 (Option.some Jvm.ClassFile.FieldType.boolean) ∈ sw_U := sw_in (sw_t4 (List.mem_of_getElem? (i := 190) (by decide +kernel))) rfl
theorem ml_X4_99 : Cond.methodLink RX4 99 yX3_placeOf ∈ sw_U := sw_in (sw_t4 (List.mem_of_getElem? (i := 192) (by decide +kernel))) rfl
theorem ml_X4_103 : Cond.methodLink RX4 103 yX3_appendStriker ∈ sw_U := sw_in (sw_t4 (List.mem_of_getElem? (i := 193) (by decide +kernel))) rfl
theorem ml_X4_55 : Cond.methodLink RX4 55 yX8_isEnd ∈ sw_U := sw_in (sw_t4 (List.mem_of_getElem? (i := 194) (by decide +kernel))) rfl
theorem im_X8_isEnd : Cond.instanceMethod yX8_isEnd ∈ sw_U := sw_in (sw_t4 (List.mem_of_getElem? (i := 195) (by decide +kernel))) rfl
theorem se_X8_isEnd : Cond.selects yX8_isEnd.cls yX8_isEnd yX8_isEnd ∈ sw_U := sw_in (sw_t4 (List.mem_of_getElem? (i := 196) (by decide +kernel))) rfl
theorem co_X8_isEnd : Cond.code yX8_isEnd cX8_isEnd 1 (Option.some Jvm.ClassFile.FieldType.boolean) ∈ sw_U := sw_in (sw_t4 (List.mem_of_getElem? (i := 197) (by decide +kernel))) rfl
theorem ml_X10_106 : Cond.methodLink RX10 106 yX10_closeReading ∈ sw_U := sw_in (sw_t4 (List.mem_of_getElem? (i := 198) (by decide +kernel))) rfl
theorem im_X10_closeReading : Cond.instanceMethod yX10_closeReading ∈ sw_U := sw_in (sw_t4 (List.mem_of_getElem? (i := 200) (by decide +kernel))) rfl
theorem co_X10_closeReading : Cond.code yX10_closeReading cX10_closeReading 1 (Option.none : Option Jvm.ClassFile.FieldType) ∈ sw_U := sw_in (sw_t4 (List.mem_of_getElem? (i := 201) (by decide +kernel))) rfl
theorem ml_X10_421 : Cond.methodLink RX10 421 yX8_empty ∈ sw_U := sw_in (sw_t4 (List.mem_of_getElem? (i := 202) (by decide +kernel))) rfl
theorem im_X8_empty : Cond.instanceMethod yX8_empty ∈ sw_U := sw_in (sw_t4 (List.mem_of_getElem? (i := 203) (by decide +kernel))) rfl
theorem se_X8_empty : Cond.selects yX8_empty.cls yX8_empty yX8_empty ∈ sw_U := sw_in (sw_t4 (List.mem_of_getElem? (i := 204) (by decide +kernel))) rfl
theorem co_X8_empty : Cond.code yX8_empty cX8_empty 1 (Option.none : Option Jvm.ClassFile.FieldType) ∈ sw_U := sw_in (sw_t4 (List.mem_of_getElem? (i := 205) (by decide +kernel))) rfl
theorem ml_X10_424 : Cond.methodLink RX10 424 yX4_errorAt ∈ sw_U := sw_in (sw_t4 (List.mem_of_getElem? (i := 206) (by decide +kernel))) rfl
theorem im_X4_errorAt : Cond.instanceMethod yX4_errorAt ∈ sw_U := sw_in (sw_t4 (List.mem_of_getElem? (i := 207) (by decide +kernel))) rfl
theorem se_X4_errorAt : Cond.selects yX4_errorAt.cls yX4_errorAt yX4_errorAt ∈ sw_U := sw_in (sw_t4 (List.mem_of_getElem? (i := 208) (by decide +kernel))) rfl
theorem co_X4_errorAt : Cond.code yX4_errorAt cX4_errorAt 1 (Option.some Jvm.ClassFile.FieldType.int) ∈ sw_U := sw_in (sw_t4 (List.mem_of_getElem? (i := 209) (by decide +kernel))) rfl
theorem ml_L_113 : Cond.methodLink RL 113 yL_size ∈ sw_U := sw_in (sw_t4 (List.mem_of_getElem? (i := 210) (by decide +kernel))) rfl
theorem st_L_size : Cond.static yL_size ∈ sw_U := sw_in (sw_t4 (List.mem_of_getElem? (i := 211) (by decide +kernel))) rfl
theorem cw_L_size : Cond.codeWith yL_size cL_size 4 (Option.some Jvm.ClassFile.FieldType.int) [((0 : Nat), (9 : Nat), (12 : Nat), (13 : Nat))] ∈ sw_U := sw_in (sw_t4 (List.mem_of_getElem? (i := 212) (by decide +kernel))) rfl
theorem ml_L_15 : Cond.methodLink RL 15 yX10_size ∈ sw_U := sw_in (sw_t4 (List.mem_of_getElem? (i := 213) (by decide +kernel))) rfl
theorem im_X10_size : Cond.instanceMethod yX10_size ∈ sw_U := sw_in (sw_t4 (List.mem_of_getElem? (i := 214) (by decide +kernel))) rfl
theorem se_X10_size : Cond.selects yX10_size.cls yX10_size yX10_size ∈ sw_U := sw_in (sw_t4 (List.mem_of_getElem? (i := 215) (by decide +kernel))) rfl
theorem co_X10_size : Cond.code yX10_size cX10_size 2 (Option.some Jvm.ClassFile.FieldType.int) ∈ sw_U := sw_in (sw_t4 (List.mem_of_getElem? (i := 216) (by decide +kernel))) rfl
theorem ml_X10_148 : Cond.methodLink RX10 148 yX3_countMissing ∈ sw_U := sw_in (sw_t4 (List.mem_of_getElem? (i := 217) (by decide +kernel))) rfl
theorem im_X3_countMissing : Cond.instanceMethod yX3_countMissing ∈ sw_U := sw_in (sw_t4 (List.mem_of_getElem? (i := 218) (by decide +kernel))) rfl
theorem se_X3_countMissing : Cond.selects yX3_countMissing.cls yX3_countMissing yX3_countMissing ∈ sw_U := sw_in (sw_t4 (List.mem_of_getElem? (i := 219) (by decide +kernel))) rfl
theorem co_X3_countMissing : Cond.code yX3_countMissing cX3_countMissing 5 (Option.some Jvm.ClassFile.FieldType.int) ∈ sw_U := sw_in (sw_t4 (List.mem_of_getElem? (i := 220) (by decide +kernel))) rfl
theorem ml_X10_151 : Cond.methodLink RX10 151 yX10_countIdle ∈ sw_U := sw_in (sw_t4 (List.mem_of_getElem? (i := 221) (by decide +kernel))) rfl
theorem im_X10_countIdle : Cond.instanceMethod yX10_countIdle ∈ sw_U := sw_in (sw_t4 (List.mem_of_getElem? (i := 223) (by decide +kernel))) rfl
theorem co_X10_countIdle : Cond.code yX10_countIdle cX10_countIdle 4 (Option.some Jvm.ClassFile.FieldType.int) ∈ sw_U := sw_in (sw_t4 (List.mem_of_getElem? (i := 224) (by decide +kernel))) rfl
theorem ml_L_116 : Cond.methodLink RL 116 yL_account ∈ sw_U := sw_in (sw_t4 (List.mem_of_getElem? (i := 225) (by decide +kernel))) rfl
theorem st_L_account : Cond.static yL_account ∈ sw_U := sw_in (sw_t4 (List.mem_of_getElem? (i := 226) (by decide +kernel))) rfl
theorem cw_L_account : Cond.codeWith yL_account cL_account 4 (Option.some Jvm.ClassFile.FieldType.int) [((0 : Nat), (9 : Nat), (12 : Nat), (13 : Nat))] ∈ sw_U := sw_in (sw_t4 (List.mem_of_getElem? (i := 227) (by decide +kernel))) rfl
theorem ml_L_18 : Cond.methodLink RL 18 yX10_account ∈ sw_U := sw_in (sw_t4 (List.mem_of_getElem? (i := 228) (by decide +kernel))) rfl
theorem im_X10_account : Cond.instanceMethod yX10_account ∈ sw_U := sw_in (sw_t4 (List.mem_of_getElem? (i := 229) (by decide +kernel))) rfl
theorem se_X10_account : Cond.selects yX10_account.cls yX10_account yX10_account ∈ sw_U := sw_in (sw_t4 (List.mem_of_getElem? (i := 230) (by decide +kernel))) rfl
theorem co_X10_account : Cond.code yX10_account cX10_account 2 (Option.some Jvm.ClassFile.FieldType.int) ∈ sw_U := sw_in (sw_t4 (List.mem_of_getElem? (i := 231) (by decide +kernel))) rfl
theorem ml_L_119 : Cond.methodLink RL 119 yL_stretch ∈ sw_U := sw_in (sw_t4 (List.mem_of_getElem? (i := 232) (by decide +kernel))) rfl
theorem st_L_stretch : Cond.static yL_stretch ∈ sw_U := sw_in (sw_t4 (List.mem_of_getElem? (i := 233) (by decide +kernel))) rfl
theorem cw_L_stretch : Cond.codeWith yL_stretch cL_stretch 5 (Option.some Jvm.ClassFile.FieldType.int) [((0 : Nat), (10 : Nat), (13 : Nat), (25 : Nat)), ((0 : Nat), (10 : Nat), (17 : Nat), (13 : Nat))] ∈ sw_U := sw_in (sw_t4 (List.mem_of_getElem? (i := 234) (by decide +kernel))) rfl
theorem cl_L_25 : Cond.classLink RL 25 "java/util/NoSuchElementException" ∈ sw_U := sw_in (sw_t4 (List.mem_of_getElem? (i := 235) (by decide +kernel))) rfl
theorem ml_L_21 : Cond.methodLink RL 21 yX10_stretch ∈ sw_U := sw_in (sw_t4 (List.mem_of_getElem? (i := 236) (by decide +kernel))) rfl
theorem im_X10_stretch : Cond.instanceMethod yX10_stretch ∈ sw_U := sw_in (sw_t4 (List.mem_of_getElem? (i := 237) (by decide +kernel))) rfl
theorem se_X10_stretch : Cond.selects yX10_stretch.cls yX10_stretch yX10_stretch ∈ sw_U := sw_in (sw_t4 (List.mem_of_getElem? (i := 238) (by decide +kernel))) rfl
theorem co_X10_stretch : Cond.code yX10_stretch cX10_stretch 5 (Option.some Jvm.ClassFile.FieldType.int) ∈ sw_U := sw_in (sw_t4 (List.mem_of_getElem? (i := 239) (by decide +kernel))) rfl
theorem ml_X10_154 : Cond.methodLink RX10 154 yX10_needStretch ∈ sw_U := sw_in (sw_t5 (List.mem_of_getElem? (i := 0) (by decide +kernel))) rfl
theorem im_X10_needStretch : Cond.instanceMethod yX10_needStretch ∈ sw_U := sw_in (sw_t5 (List.mem_of_getElem? (i := 2) (by decide +kernel))) rfl
theorem co_X10_needStretch : Cond.code yX10_needStretch cX10_needStretch 2 (Option.none : Option Jvm.ClassFile.FieldType) ∈ sw_U := sw_in (sw_t5 (List.mem_of_getElem? (i := 3) (by decide +kernel))) rfl
theorem cl_X10_210 : Cond.classLink RX10 210 "java/util/NoSuchElementException" ∈ sw_U := sw_in (sw_t5 (List.mem_of_getElem? (i := 4) (by decide +kernel))) rfl
theorem ins_java_util_NoSuchElementException : Cond.instantiable "java/util/NoSuchElementException" 6 ∈ sw_U := sw_in (sw_t5 (List.mem_of_getElem? (i := 5) (by decide +kernel))) rfl
theorem ml_X10_212 : Cond.methodLink RX10 212 ⟨"java/util/NoSuchElementException", "<init>", "()V"⟩ ∈ sw_U := sw_in (sw_t5 (List.mem_of_getElem? (i := 13) (by decide +kernel))) rfl
theorem ml_X10_166 : Cond.methodLink RX10 166 yX7_spokesBetween ∈ sw_U := sw_in (sw_t5 (List.mem_of_getElem? (i := 19) (by decide +kernel))) rfl
theorem im_X7_spokesBetween : Cond.instanceMethod yX7_spokesBetween ∈ sw_U := sw_in (sw_t5 (List.mem_of_getElem? (i := 20) (by decide +kernel))) rfl
theorem se_X7_spokesBetween : Cond.selects yX7_spokesBetween.cls yX7_spokesBetween yX7_spokesBetween ∈ sw_U := sw_in (sw_t5 (List.mem_of_getElem? (i := 21) (by decide +kernel))) rfl
theorem co_X7_spokesBetween : Cond.code yX7_spokesBetween cX7_spokesBetween 6 (Option.some Jvm.ClassFile.FieldType.int) ∈ sw_U := sw_in (sw_t5 (List.mem_of_getElem? (i := 22) (by decide +kernel))) rfl
theorem ml_X10_172 : Cond.methodLink RX10 172 yX10_orNone ∈ sw_U := sw_in (sw_t5 (List.mem_of_getElem? (i := 23) (by decide +kernel))) rfl
theorem st_X10_orNone : Cond.static yX10_orNone ∈ sw_U := sw_in (sw_t5 (List.mem_of_getElem? (i := 24) (by decide +kernel))) rfl
theorem co_X10_orNone : Cond.code yX10_orNone cX10_orNone 3 (Option.some Jvm.ClassFile.FieldType.int) ∈ sw_U := sw_in (sw_t5 (List.mem_of_getElem? (i := 25) (by decide +kernel))) rfl
theorem ml_L_123 : Cond.methodLink RL 123 yL_striker ∈ sw_U := sw_in (sw_t5 (List.mem_of_getElem? (i := 26) (by decide +kernel))) rfl
theorem st_L_striker : Cond.static yL_striker ∈ sw_U := sw_in (sw_t5 (List.mem_of_getElem? (i := 27) (by decide +kernel))) rfl
theorem cw_L_striker : Cond.codeWith yL_striker cL_striker 5 (Option.some Jvm.ClassFile.FieldType.int) [((0 : Nat), (10 : Nat), (13 : Nat), (25 : Nat)), ((0 : Nat), (10 : Nat), (17 : Nat), (13 : Nat))] ∈ sw_U := sw_in (sw_t5 (List.mem_of_getElem? (i := 28) (by decide +kernel))) rfl
theorem ml_L_27 : Cond.methodLink RL 27 yX10_striker ∈ sw_U := sw_in (sw_t5 (List.mem_of_getElem? (i := 29) (by decide +kernel))) rfl
theorem im_X10_striker : Cond.instanceMethod yX10_striker ∈ sw_U := sw_in (sw_t5 (List.mem_of_getElem? (i := 30) (by decide +kernel))) rfl
theorem se_X10_striker : Cond.selects yX10_striker.cls yX10_striker yX10_striker ∈ sw_U := sw_in (sw_t5 (List.mem_of_getElem? (i := 31) (by decide +kernel))) rfl
theorem co_X10_striker : Cond.code yX10_striker cX10_striker 4 (Option.some Jvm.ClassFile.FieldType.int) ∈ sw_U := sw_in (sw_t5 (List.mem_of_getElem? (i := 32) (by decide +kernel))) rfl
theorem ml_X10_179 : Cond.methodLink RX10 179 yX10_needStriker ∈ sw_U := sw_in (sw_t5 (List.mem_of_getElem? (i := 33) (by decide +kernel))) rfl
theorem im_X10_needStriker : Cond.instanceMethod yX10_needStriker ∈ sw_U := sw_in (sw_t5 (List.mem_of_getElem? (i := 35) (by decide +kernel))) rfl
theorem co_X10_needStriker : Cond.code yX10_needStriker cX10_needStriker 2 (Option.none : Option Jvm.ClassFile.FieldType) ∈ sw_U := sw_in (sw_t5 (List.mem_of_getElem? (i := 36) (by decide +kernel))) rfl
theorem ml_X10_188 : Cond.methodLink RX10 188 yX7_countOwned ∈ sw_U := sw_in (sw_t5 (List.mem_of_getElem? (i := 37) (by decide +kernel))) rfl
theorem im_X7_countOwned : Cond.instanceMethod yX7_countOwned ∈ sw_U := sw_in (sw_t5 (List.mem_of_getElem? (i := 38) (by decide +kernel))) rfl
theorem se_X7_countOwned : Cond.selects yX7_countOwned.cls yX7_countOwned yX7_countOwned ∈ sw_U := sw_in (sw_t5 (List.mem_of_getElem? (i := 39) (by decide +kernel))) rfl
theorem co_X7_countOwned : Cond.code yX7_countOwned cX7_countOwned 2 (Option.some Jvm.ClassFile.FieldType.int) ∈ sw_U := sw_in (sw_t5 (List.mem_of_getElem? (i := 40) (by decide +kernel))) rfl
theorem ml_X10_191 : Cond.methodLink RX10 191 yX9_strikeAbove ∈ sw_U := sw_in (sw_t5 (List.mem_of_getElem? (i := 41) (by decide +kernel))) rfl
theorem st_X9_strikeAbove : Cond.static yX9_strikeAbove ∈ sw_U := sw_in (sw_t5 (List.mem_of_getElem? (i := 42) (by decide +kernel))) rfl
theorem co_X9_strikeAbove : Cond.code yX9_strikeAbove cX9_strikeAbove 6 (Option.some Jvm.ClassFile.FieldType.int) ∈ sw_U := sw_in (sw_t5 (List.mem_of_getElem? (i := 43) (by decide +kernel))) rfl
theorem ml_X9_26 : Cond.methodLink RX9 26 yJ9_max_7cf53 ∈ sw_U := sw_in (sw_t5 (List.mem_of_getElem? (i := 44) (by decide +kernel))) rfl
theorem ml_X9_31 : Cond.methodLink RX9 31 yX9_product ∈ sw_U := sw_in (sw_t5 (List.mem_of_getElem? (i := 45) (by decide +kernel))) rfl
theorem ml_X9_35 : Cond.methodLink RX9 35 yX9_isOnSpoke ∈ sw_U := sw_in (sw_t5 (List.mem_of_getElem? (i := 46) (by decide +kernel))) rfl
theorem st_X9_isOnSpoke : Cond.static yX9_isOnSpoke ∈ sw_U := sw_in (sw_t5 (List.mem_of_getElem? (i := 47) (by decide +kernel))) rfl
theorem co_X9_isOnSpoke : Cond.code yX9_isOnSpoke cX9_isOnSpoke 3 (Option.some Jvm.ClassFile.FieldType.boolean) ∈ sw_U := sw_in (sw_t5 (List.mem_of_getElem? (i := 48) (by decide +kernel))) rfl
theorem ml_L_138 : Cond.methodLink RL 138 yL_struck ∈ sw_U := sw_in (sw_t5 (List.mem_of_getElem? (i := 49) (by decide +kernel))) rfl
theorem st_L_struck : Cond.static yL_struck ∈ sw_U := sw_in (sw_t5 (List.mem_of_getElem? (i := 50) (by decide +kernel))) rfl
theorem cw_L_struck : Cond.codeWith yL_struck cL_struck 4 (Option.some Jvm.ClassFile.FieldType.int) [((0 : Nat), (9 : Nat), (12 : Nat), (25 : Nat))] ∈ sw_U := sw_in (sw_t5 (List.mem_of_getElem? (i := 51) (by decide +kernel))) rfl
theorem ml_L_30 : Cond.methodLink RL 30 yX10_struck ∈ sw_U := sw_in (sw_t5 (List.mem_of_getElem? (i := 52) (by decide +kernel))) rfl
theorem im_X10_struck : Cond.instanceMethod yX10_struck ∈ sw_U := sw_in (sw_t5 (List.mem_of_getElem? (i := 53) (by decide +kernel))) rfl
theorem se_X10_struck : Cond.selects yX10_struck.cls yX10_struck yX10_struck ∈ sw_U := sw_in (sw_t5 (List.mem_of_getElem? (i := 54) (by decide +kernel))) rfl
theorem co_X10_struck : Cond.code yX10_struck cX10_struck 3 (Option.some Jvm.ClassFile.FieldType.int) ∈ sw_U := sw_in (sw_t5 (List.mem_of_getElem? (i := 55) (by decide +kernel))) rfl
theorem ml_L_149 : Cond.methodLink RL 149 yL_both ∈ sw_U := sw_in (sw_t5 (List.mem_of_getElem? (i := 56) (by decide +kernel))) rfl
theorem st_L_both : Cond.static yL_both ∈ sw_U := sw_in (sw_t5 (List.mem_of_getElem? (i := 57) (by decide +kernel))) rfl
theorem cw_L_both : Cond.codeWith yL_both cL_both 5 (Option.some Jvm.ClassFile.FieldType.int) [((0 : Nat), (10 : Nat), (13 : Nat), (25 : Nat))] ∈ sw_U := sw_in (sw_t5 (List.mem_of_getElem? (i := 58) (by decide +kernel))) rfl
theorem ml_L_33 : Cond.methodLink RL 33 yX10_both ∈ sw_U := sw_in (sw_t5 (List.mem_of_getElem? (i := 59) (by decide +kernel))) rfl
theorem im_X10_both : Cond.instanceMethod yX10_both ∈ sw_U := sw_in (sw_t5 (List.mem_of_getElem? (i := 60) (by decide +kernel))) rfl
theorem se_X10_both : Cond.selects yX10_both.cls yX10_both yX10_both ∈ sw_U := sw_in (sw_t5 (List.mem_of_getElem? (i := 61) (by decide +kernel))) rfl
theorem co_X10_both : Cond.code yX10_both cX10_both 5 (Option.some Jvm.ClassFile.FieldType.int) ∈ sw_U := sw_in (sw_t5 (List.mem_of_getElem? (i := 62) (by decide +kernel))) rfl
theorem ml_X10_225 : Cond.methodLink RX10 225 yX10_nextCommon ∈ sw_U := sw_in (sw_t5 (List.mem_of_getElem? (i := 63) (by decide +kernel))) rfl
theorem im_X10_nextCommon : Cond.instanceMethod yX10_nextCommon ∈ sw_U := sw_in (sw_t5 (List.mem_of_getElem? (i := 65) (by decide +kernel))) rfl
theorem co_X10_nextCommon : Cond.code yX10_nextCommon cX10_nextCommon 7 (Option.some Jvm.ClassFile.FieldType.int) ∈ sw_U := sw_in (sw_t5 (List.mem_of_getElem? (i := 66) (by decide +kernel))) rfl
theorem ml_L_152 : Cond.methodLink RL 152 yL_meet ∈ sw_U := sw_in (sw_t5 (List.mem_of_getElem? (i := 67) (by decide +kernel))) rfl
theorem st_L_meet : Cond.static yL_meet ∈ sw_U := sw_in (sw_t5 (List.mem_of_getElem? (i := 68) (by decide +kernel))) rfl
theorem cw_L_meet : Cond.codeWith yL_meet cL_meet 5 (Option.some Jvm.ClassFile.FieldType.int) [((0 : Nat), (10 : Nat), (13 : Nat), (25 : Nat))] ∈ sw_U := sw_in (sw_t5 (List.mem_of_getElem? (i := 69) (by decide +kernel))) rfl
theorem ml_L_36 : Cond.methodLink RL 36 yX10_meet ∈ sw_U := sw_in (sw_t5 (List.mem_of_getElem? (i := 70) (by decide +kernel))) rfl
theorem im_X10_meet : Cond.instanceMethod yX10_meet ∈ sw_U := sw_in (sw_t5 (List.mem_of_getElem? (i := 71) (by decide +kernel))) rfl
theorem se_X10_meet : Cond.selects yX10_meet.cls yX10_meet yX10_meet ∈ sw_U := sw_in (sw_t5 (List.mem_of_getElem? (i := 72) (by decide +kernel))) rfl
theorem co_X10_meet : Cond.code yX10_meet cX10_meet 3 (Option.some Jvm.ClassFile.FieldType.int) ∈ sw_U := sw_in (sw_t5 (List.mem_of_getElem? (i := 73) (by decide +kernel))) rfl
theorem ml_L_183 : Cond.methodLink RL 183 yL_turn ∈ sw_U := sw_in (sw_t5 (List.mem_of_getElem? (i := 74) (by decide +kernel))) rfl
theorem st_L_turn : Cond.static yL_turn ∈ sw_U := sw_in (sw_t5 (List.mem_of_getElem? (i := 75) (by decide +kernel))) rfl
theorem cw_L_turn : Cond.codeWith yL_turn cL_turn 4 (Option.some Jvm.ClassFile.FieldType.int) [((0 : Nat), (9 : Nat), (12 : Nat), (13 : Nat))] ∈ sw_U := sw_in (sw_t5 (List.mem_of_getElem? (i := 76) (by decide +kernel))) rfl
theorem ml_L_39 : Cond.methodLink RL 39 yX10_turn ∈ sw_U := sw_in (sw_t5 (List.mem_of_getElem? (i := 77) (by decide +kernel))) rfl
theorem im_X10_turn : Cond.instanceMethod yX10_turn ∈ sw_U := sw_in (sw_t5 (List.mem_of_getElem? (i := 78) (by decide +kernel))) rfl
theorem se_X10_turn : Cond.selects yX10_turn.cls yX10_turn yX10_turn ∈ sw_U := sw_in (sw_t5 (List.mem_of_getElem? (i := 79) (by decide +kernel))) rfl
theorem co_X10_turn : Cond.code yX10_turn cX10_turn 3 (Option.some Jvm.ClassFile.FieldType.int) ∈ sw_U := sw_in (sw_t5 (List.mem_of_getElem? (i := 80) (by decide +kernel))) rfl
theorem ml_L_191 : Cond.methodLink RL 191 yL_gaps ∈ sw_U := sw_in (sw_t5 (List.mem_of_getElem? (i := 81) (by decide +kernel))) rfl
theorem st_L_gaps : Cond.static yL_gaps ∈ sw_U := sw_in (sw_t5 (List.mem_of_getElem? (i := 82) (by decide +kernel))) rfl
theorem cw_L_gaps : Cond.codeWith yL_gaps cL_gaps 4 (Option.some Jvm.ClassFile.FieldType.int) [((0 : Nat), (9 : Nat), (12 : Nat), (13 : Nat))] ∈ sw_U := sw_in (sw_t5 (List.mem_of_getElem? (i := 83) (by decide +kernel))) rfl
theorem ml_L_42 : Cond.methodLink RL 42 yX10_gaps ∈ sw_U := sw_in (sw_t5 (List.mem_of_getElem? (i := 84) (by decide +kernel))) rfl
theorem im_X10_gaps : Cond.instanceMethod yX10_gaps ∈ sw_U := sw_in (sw_t5 (List.mem_of_getElem? (i := 85) (by decide +kernel))) rfl
theorem se_X10_gaps : Cond.selects yX10_gaps.cls yX10_gaps yX10_gaps ∈ sw_U := sw_in (sw_t5 (List.mem_of_getElem? (i := 86) (by decide +kernel))) rfl
theorem co_X10_gaps : Cond.code yX10_gaps cX10_gaps 5 (Option.some Jvm.ClassFile.FieldType.int) ∈ sw_U := sw_in (sw_t5 (List.mem_of_getElem? (i := 87) (by decide +kernel))) rfl
theorem ml_L_202 : Cond.methodLink RL 202 yL_twins ∈ sw_U := sw_in (sw_t5 (List.mem_of_getElem? (i := 88) (by decide +kernel))) rfl
theorem st_L_twins : Cond.static yL_twins ∈ sw_U := sw_in (sw_t5 (List.mem_of_getElem? (i := 89) (by decide +kernel))) rfl
theorem cw_L_twins : Cond.codeWith yL_twins cL_twins 4 (Option.some Jvm.ClassFile.FieldType.int) [((0 : Nat), (9 : Nat), (12 : Nat), (13 : Nat))] ∈ sw_U := sw_in (sw_t5 (List.mem_of_getElem? (i := 90) (by decide +kernel))) rfl
theorem ml_L_45 : Cond.methodLink RL 45 yX10_twins ∈ sw_U := sw_in (sw_t5 (List.mem_of_getElem? (i := 91) (by decide +kernel))) rfl
theorem im_X10_twins : Cond.instanceMethod yX10_twins ∈ sw_U := sw_in (sw_t5 (List.mem_of_getElem? (i := 92) (by decide +kernel))) rfl
theorem se_X10_twins : Cond.selects yX10_twins.cls yX10_twins yX10_twins ∈ sw_U := sw_in (sw_t5 (List.mem_of_getElem? (i := 93) (by decide +kernel))) rfl
theorem co_X10_twins : Cond.code yX10_twins cX10_twins 5 (Option.some Jvm.ClassFile.FieldType.int) ∈ sw_U := sw_in (sw_t5 (List.mem_of_getElem? (i := 94) (by decide +kernel))) rfl
theorem ml_L_213 : Cond.methodLink RL 213 yL_thickest ∈ sw_U := sw_in (sw_t5 (List.mem_of_getElem? (i := 95) (by decide +kernel))) rfl
theorem st_L_thickest : Cond.static yL_thickest ∈ sw_U := sw_in (sw_t5 (List.mem_of_getElem? (i := 96) (by decide +kernel))) rfl
theorem cw_L_thickest : Cond.codeWith yL_thickest cL_thickest 4 (Option.some Jvm.ClassFile.FieldType.int) [((0 : Nat), (9 : Nat), (12 : Nat), (13 : Nat))] ∈ sw_U := sw_in (sw_t5 (List.mem_of_getElem? (i := 97) (by decide +kernel))) rfl
theorem ml_L_48 : Cond.methodLink RL 48 yX10_thickest ∈ sw_U := sw_in (sw_t5 (List.mem_of_getElem? (i := 98) (by decide +kernel))) rfl
theorem im_X10_thickest : Cond.instanceMethod yX10_thickest ∈ sw_U := sw_in (sw_t5 (List.mem_of_getElem? (i := 99) (by decide +kernel))) rfl
theorem se_X10_thickest : Cond.selects yX10_thickest.cls yX10_thickest yX10_thickest ∈ sw_U := sw_in (sw_t5 (List.mem_of_getElem? (i := 100) (by decide +kernel))) rfl
theorem co_X10_thickest : Cond.code yX10_thickest cX10_thickest 5 (Option.some Jvm.ClassFile.FieldType.int) ∈ sw_U := sw_in (sw_t5 (List.mem_of_getElem? (i := 101) (by decide +kernel))) rfl
theorem ml_L_232 : Cond.methodLink RL 232 yL_takes ∈ sw_U := sw_in (sw_t5 (List.mem_of_getElem? (i := 102) (by decide +kernel))) rfl
theorem st_L_takes : Cond.static yL_takes ∈ sw_U := sw_in (sw_t5 (List.mem_of_getElem? (i := 103) (by decide +kernel))) rfl
theorem cw_L_takes : Cond.codeWith yL_takes cL_takes 4 (Option.some Jvm.ClassFile.FieldType.int) [((0 : Nat), (9 : Nat), (12 : Nat), (13 : Nat))] ∈ sw_U := sw_in (sw_t5 (List.mem_of_getElem? (i := 104) (by decide +kernel))) rfl
theorem ml_L_51 : Cond.methodLink RL 51 yX10_takes ∈ sw_U := sw_in (sw_t5 (List.mem_of_getElem? (i := 105) (by decide +kernel))) rfl
theorem im_X10_takes : Cond.instanceMethod yX10_takes ∈ sw_U := sw_in (sw_t5 (List.mem_of_getElem? (i := 106) (by decide +kernel))) rfl
theorem se_X10_takes : Cond.selects yX10_takes.cls yX10_takes yX10_takes ∈ sw_U := sw_in (sw_t5 (List.mem_of_getElem? (i := 107) (by decide +kernel))) rfl
theorem co_X10_takes : Cond.code yX10_takes cX10_takes 2 (Option.some Jvm.ClassFile.FieldType.int) ∈ sw_U := sw_in (sw_t5 (List.mem_of_getElem? (i := 108) (by decide +kernel))) rfl
theorem ml_L_235 : Cond.methodLink RL 235 yL_gives ∈ sw_U := sw_in (sw_t5 (List.mem_of_getElem? (i := 109) (by decide +kernel))) rfl
theorem st_L_gives : Cond.static yL_gives ∈ sw_U := sw_in (sw_t5 (List.mem_of_getElem? (i := 110) (by decide +kernel))) rfl
theorem cw_L_gives : Cond.codeWith yL_gives cL_gives 4 (Option.some Jvm.ClassFile.FieldType.int) [((0 : Nat), (9 : Nat), (12 : Nat), (25 : Nat))] ∈ sw_U := sw_in (sw_t5 (List.mem_of_getElem? (i := 111) (by decide +kernel))) rfl
theorem ml_L_54 : Cond.methodLink RL 54 yX10_gives ∈ sw_U := sw_in (sw_t5 (List.mem_of_getElem? (i := 112) (by decide +kernel))) rfl
theorem im_X10_gives : Cond.instanceMethod yX10_gives ∈ sw_U := sw_in (sw_t5 (List.mem_of_getElem? (i := 113) (by decide +kernel))) rfl
theorem se_X10_gives : Cond.selects yX10_gives.cls yX10_gives yX10_gives ∈ sw_U := sw_in (sw_t5 (List.mem_of_getElem? (i := 114) (by decide +kernel))) rfl
theorem co_X10_gives : Cond.code yX10_gives cX10_gives 2 (Option.some Jvm.ClassFile.FieldType.int) ∈ sw_U := sw_in (sw_t5 (List.mem_of_getElem? (i := 115) (by decide +kernel))) rfl
theorem ml_L_242 : Cond.methodLink RL 242 yL_marksNext ∈ sw_U := sw_in (sw_t5 (List.mem_of_getElem? (i := 116) (by decide +kernel))) rfl
theorem st_L_marksNext : Cond.static yL_marksNext ∈ sw_U := sw_in (sw_t5 (List.mem_of_getElem? (i := 117) (by decide +kernel))) rfl
theorem cw_L_marksNext : Cond.codeWith yL_marksNext cL_marksNext 4 (Option.some Jvm.ClassFile.FieldType.int) [((0 : Nat), (9 : Nat), (12 : Nat), (13 : Nat))] ∈ sw_U := sw_in (sw_t5 (List.mem_of_getElem? (i := 118) (by decide +kernel))) rfl
theorem ml_L_57 : Cond.methodLink RL 57 yX10_marksNext ∈ sw_U := sw_in (sw_t5 (List.mem_of_getElem? (i := 119) (by decide +kernel))) rfl
theorem im_X10_marksNext : Cond.instanceMethod yX10_marksNext ∈ sw_U := sw_in (sw_t5 (List.mem_of_getElem? (i := 120) (by decide +kernel))) rfl
theorem se_X10_marksNext : Cond.selects yX10_marksNext.cls yX10_marksNext yX10_marksNext ∈ sw_U := sw_in (sw_t5 (List.mem_of_getElem? (i := 121) (by decide +kernel))) rfl
theorem co_X10_marksNext : Cond.code yX10_marksNext cX10_marksNext 5 (Option.some Jvm.ClassFile.FieldType.int) ∈ sw_U := sw_in (sw_t5 (List.mem_of_getElem? (i := 122) (by decide +kernel))) rfl
theorem ml_X10_257 : Cond.methodLink RX10 257 yX9_isOnSpoke ∈ sw_U := sw_in (sw_t5 (List.mem_of_getElem? (i := 123) (by decide +kernel))) rfl
theorem ml_L_263 : Cond.methodLink RL 263 yL_lay ∈ sw_U := sw_in (sw_t5 (List.mem_of_getElem? (i := 124) (by decide +kernel))) rfl
theorem st_L_lay : Cond.static yL_lay ∈ sw_U := sw_in (sw_t5 (List.mem_of_getElem? (i := 125) (by decide +kernel))) rfl
theorem cw_L_lay : Cond.codeWith yL_lay cL_lay 4 (Option.some Jvm.ClassFile.FieldType.int) [((0 : Nat), (9 : Nat), (12 : Nat), (13 : Nat))] ∈ sw_U := sw_in (sw_t5 (List.mem_of_getElem? (i := 126) (by decide +kernel))) rfl
theorem ml_L_60 : Cond.methodLink RL 60 yX10_lay ∈ sw_U := sw_in (sw_t5 (List.mem_of_getElem? (i := 127) (by decide +kernel))) rfl
theorem im_X10_lay : Cond.instanceMethod yX10_lay ∈ sw_U := sw_in (sw_t5 (List.mem_of_getElem? (i := 128) (by decide +kernel))) rfl
theorem se_X10_lay : Cond.selects yX10_lay.cls yX10_lay yX10_lay ∈ sw_U := sw_in (sw_t5 (List.mem_of_getElem? (i := 129) (by decide +kernel))) rfl
theorem co_X10_lay : Cond.code yX10_lay cX10_lay 2 (Option.some Jvm.ClassFile.FieldType.int) ∈ sw_U := sw_in (sw_t5 (List.mem_of_getElem? (i := 130) (by decide +kernel))) rfl
theorem fl_X10_267 : Cond.fieldLink RX10 267 "StrikeWheels$Order" "LAY" "LStrikeWheels$Order;" ∈ sw_U := sw_in (sw_t5 (List.mem_of_getElem? (i := 131) (by decide +kernel))) rfl
theorem ml_L_270 : Cond.methodLink RL 270 yL_trim ∈ sw_U := sw_in (sw_t5 (List.mem_of_getElem? (i := 133) (by decide +kernel))) rfl
theorem st_L_trim : Cond.static yL_trim ∈ sw_U := sw_in (sw_t5 (List.mem_of_getElem? (i := 134) (by decide +kernel))) rfl
theorem cw_L_trim : Cond.codeWith yL_trim cL_trim 4 (Option.some Jvm.ClassFile.FieldType.int) [((0 : Nat), (9 : Nat), (12 : Nat), (13 : Nat))] ∈ sw_U := sw_in (sw_t5 (List.mem_of_getElem? (i := 135) (by decide +kernel))) rfl
theorem ml_L_63 : Cond.methodLink RL 63 yX10_trim ∈ sw_U := sw_in (sw_t5 (List.mem_of_getElem? (i := 136) (by decide +kernel))) rfl
theorem im_X10_trim : Cond.instanceMethod yX10_trim ∈ sw_U := sw_in (sw_t5 (List.mem_of_getElem? (i := 137) (by decide +kernel))) rfl
theorem se_X10_trim : Cond.selects yX10_trim.cls yX10_trim yX10_trim ∈ sw_U := sw_in (sw_t5 (List.mem_of_getElem? (i := 138) (by decide +kernel))) rfl
theorem co_X10_trim : Cond.code yX10_trim cX10_trim 2 (Option.some Jvm.ClassFile.FieldType.int) ∈ sw_U := sw_in (sw_t5 (List.mem_of_getElem? (i := 139) (by decide +kernel))) rfl
theorem fl_X10_280 : Cond.fieldLink RX10 280 "StrikeWheels$Order" "TRIM" "LStrikeWheels$Order;" ∈ sw_U := sw_in (sw_t5 (List.mem_of_getElem? (i := 140) (by decide +kernel))) rfl
theorem ml_L_273 : Cond.methodLink RL 273 yL_swap ∈ sw_U := sw_in (sw_t5 (List.mem_of_getElem? (i := 142) (by decide +kernel))) rfl
theorem st_L_swap : Cond.static yL_swap ∈ sw_U := sw_in (sw_t5 (List.mem_of_getElem? (i := 143) (by decide +kernel))) rfl
theorem cw_L_swap : Cond.codeWith yL_swap cL_swap 5 (Option.some Jvm.ClassFile.FieldType.int) [((0 : Nat), (10 : Nat), (13 : Nat), (13 : Nat))] ∈ sw_U := sw_in (sw_t5 (List.mem_of_getElem? (i := 144) (by decide +kernel))) rfl
theorem ml_L_66 : Cond.methodLink RL 66 yX10_swap ∈ sw_U := sw_in (sw_t5 (List.mem_of_getElem? (i := 145) (by decide +kernel))) rfl
theorem im_X10_swap : Cond.instanceMethod yX10_swap ∈ sw_U := sw_in (sw_t5 (List.mem_of_getElem? (i := 146) (by decide +kernel))) rfl
theorem se_X10_swap : Cond.selects yX10_swap.cls yX10_swap yX10_swap ∈ sw_U := sw_in (sw_t5 (List.mem_of_getElem? (i := 147) (by decide +kernel))) rfl
theorem co_X10_swap : Cond.code yX10_swap cX10_swap 3 (Option.some Jvm.ClassFile.FieldType.int) ∈ sw_U := sw_in (sw_t5 (List.mem_of_getElem? (i := 148) (by decide +kernel))) rfl
theorem fl_X10_283 : Cond.fieldLink RX10 283 "StrikeWheels$Order" "SWAP" "LStrikeWheels$Order;" ∈ sw_U := sw_in (sw_t5 (List.mem_of_getElem? (i := 149) (by decide +kernel))) rfl
theorem ml_L_276 : Cond.methodLink RL 276 yL_add ∈ sw_U := sw_in (sw_t5 (List.mem_of_getElem? (i := 151) (by decide +kernel))) rfl
theorem st_L_add : Cond.static yL_add ∈ sw_U := sw_in (sw_t5 (List.mem_of_getElem? (i := 152) (by decide +kernel))) rfl
theorem cw_L_add : Cond.codeWith yL_add cL_add 4 (Option.some Jvm.ClassFile.FieldType.int) [((0 : Nat), (9 : Nat), (12 : Nat), (13 : Nat))] ∈ sw_U := sw_in (sw_t5 (List.mem_of_getElem? (i := 153) (by decide +kernel))) rfl
theorem ml_L_69 : Cond.methodLink RL 69 yX10_add ∈ sw_U := sw_in (sw_t5 (List.mem_of_getElem? (i := 154) (by decide +kernel))) rfl
theorem im_X10_add : Cond.instanceMethod yX10_add ∈ sw_U := sw_in (sw_t5 (List.mem_of_getElem? (i := 155) (by decide +kernel))) rfl
theorem se_X10_add : Cond.selects yX10_add.cls yX10_add yX10_add ∈ sw_U := sw_in (sw_t5 (List.mem_of_getElem? (i := 156) (by decide +kernel))) rfl
theorem co_X10_add : Cond.code yX10_add cX10_add 2 (Option.some Jvm.ClassFile.FieldType.int) ∈ sw_U := sw_in (sw_t5 (List.mem_of_getElem? (i := 157) (by decide +kernel))) rfl
theorem fl_X10_286 : Cond.fieldLink RX10 286 "StrikeWheels$Order" "ADD" "LStrikeWheels$Order;" ∈ sw_U := sw_in (sw_t5 (List.mem_of_getElem? (i := 158) (by decide +kernel))) rfl
theorem ml_L_279 : Cond.methodLink RL 279 yL_lift ∈ sw_U := sw_in (sw_t5 (List.mem_of_getElem? (i := 160) (by decide +kernel))) rfl
theorem st_L_lift : Cond.static yL_lift ∈ sw_U := sw_in (sw_t5 (List.mem_of_getElem? (i := 161) (by decide +kernel))) rfl
theorem cw_L_lift : Cond.codeWith yL_lift cL_lift 4 (Option.some Jvm.ClassFile.FieldType.int) [((0 : Nat), (9 : Nat), (12 : Nat), (13 : Nat))] ∈ sw_U := sw_in (sw_t5 (List.mem_of_getElem? (i := 162) (by decide +kernel))) rfl
theorem ml_L_72 : Cond.methodLink RL 72 yX10_lift ∈ sw_U := sw_in (sw_t5 (List.mem_of_getElem? (i := 163) (by decide +kernel))) rfl
theorem im_X10_lift : Cond.instanceMethod yX10_lift ∈ sw_U := sw_in (sw_t5 (List.mem_of_getElem? (i := 164) (by decide +kernel))) rfl
theorem se_X10_lift : Cond.selects yX10_lift.cls yX10_lift yX10_lift ∈ sw_U := sw_in (sw_t5 (List.mem_of_getElem? (i := 165) (by decide +kernel))) rfl
theorem co_X10_lift : Cond.code yX10_lift cX10_lift 2 (Option.some Jvm.ClassFile.FieldType.int) ∈ sw_U := sw_in (sw_t5 (List.mem_of_getElem? (i := 166) (by decide +kernel))) rfl
theorem fl_X10_289 : Cond.fieldLink RX10 289 "StrikeWheels$Order" "LIFT" "LStrikeWheels$Order;" ∈ sw_U := sw_in (sw_t5 (List.mem_of_getElem? (i := 167) (by decide +kernel))) rfl
theorem ml_L_282 : Cond.methodLink RL 282 yL_first ∈ sw_U := sw_in (sw_t5 (List.mem_of_getElem? (i := 169) (by decide +kernel))) rfl
theorem st_L_first : Cond.static yL_first ∈ sw_U := sw_in (sw_t5 (List.mem_of_getElem? (i := 170) (by decide +kernel))) rfl
theorem cw_L_first : Cond.codeWith yL_first cL_first 4 (Option.some Jvm.ClassFile.FieldType.int) [((0 : Nat), (9 : Nat), (12 : Nat), (13 : Nat))] ∈ sw_U := sw_in (sw_t5 (List.mem_of_getElem? (i := 171) (by decide +kernel))) rfl
theorem ml_L_75 : Cond.methodLink RL 75 yX10_first ∈ sw_U := sw_in (sw_t5 (List.mem_of_getElem? (i := 172) (by decide +kernel))) rfl
theorem im_X10_first : Cond.instanceMethod yX10_first ∈ sw_U := sw_in (sw_t5 (List.mem_of_getElem? (i := 173) (by decide +kernel))) rfl
theorem se_X10_first : Cond.selects yX10_first.cls yX10_first yX10_first ∈ sw_U := sw_in (sw_t5 (List.mem_of_getElem? (i := 174) (by decide +kernel))) rfl
theorem co_X10_first : Cond.code yX10_first cX10_first 2 (Option.some Jvm.ClassFile.FieldType.int) ∈ sw_U := sw_in (sw_t5 (List.mem_of_getElem? (i := 175) (by decide +kernel))) rfl
theorem fl_X10_292 : Cond.fieldLink RX10 292 "StrikeWheels$Order" "FIRST" "LStrikeWheels$Order;" ∈ sw_U := sw_in (sw_t5 (List.mem_of_getElem? (i := 176) (by decide +kernel))) rfl
theorem ml_L_285 : Cond.methodLink RL 285 yL_wheel ∈ sw_U := sw_in (sw_t5 (List.mem_of_getElem? (i := 178) (by decide +kernel))) rfl
theorem st_L_wheel : Cond.static yL_wheel ∈ sw_U := sw_in (sw_t5 (List.mem_of_getElem? (i := 179) (by decide +kernel))) rfl
theorem cw_L_wheel : Cond.codeWith yL_wheel cL_wheel 4 (Option.some Jvm.ClassFile.FieldType.int) [((0 : Nat), (9 : Nat), (12 : Nat), (13 : Nat))] ∈ sw_U := sw_in (sw_t5 (List.mem_of_getElem? (i := 180) (by decide +kernel))) rfl
theorem ml_L_78 : Cond.methodLink RL 78 yX10_wheel ∈ sw_U := sw_in (sw_t5 (List.mem_of_getElem? (i := 181) (by decide +kernel))) rfl
theorem im_X10_wheel : Cond.instanceMethod yX10_wheel ∈ sw_U := sw_in (sw_t5 (List.mem_of_getElem? (i := 182) (by decide +kernel))) rfl
theorem se_X10_wheel : Cond.selects yX10_wheel.cls yX10_wheel yX10_wheel ∈ sw_U := sw_in (sw_t5 (List.mem_of_getElem? (i := 183) (by decide +kernel))) rfl
theorem co_X10_wheel : Cond.code yX10_wheel cX10_wheel 2 (Option.some Jvm.ClassFile.FieldType.int) ∈ sw_U := sw_in (sw_t5 (List.mem_of_getElem? (i := 184) (by decide +kernel))) rfl
theorem fl_X10_295 : Cond.fieldLink RX10 295 "StrikeWheels$Order" "WHEEL" "LStrikeWheels$Order;" ∈ sw_U := sw_in (sw_t5 (List.mem_of_getElem? (i := 185) (by decide +kernel))) rfl
theorem ml_L_288 : Cond.methodLink RL 288 yL_fill ∈ sw_U := sw_in (sw_t5 (List.mem_of_getElem? (i := 187) (by decide +kernel))) rfl
theorem st_L_fill : Cond.static yL_fill ∈ sw_U := sw_in (sw_t5 (List.mem_of_getElem? (i := 188) (by decide +kernel))) rfl
theorem cw_L_fill : Cond.codeWith yL_fill cL_fill 4 (Option.some Jvm.ClassFile.FieldType.int) [((0 : Nat), (9 : Nat), (12 : Nat), (13 : Nat))] ∈ sw_U := sw_in (sw_t5 (List.mem_of_getElem? (i := 189) (by decide +kernel))) rfl
theorem ml_L_81 : Cond.methodLink RL 81 yX10_fill ∈ sw_U := sw_in (sw_t5 (List.mem_of_getElem? (i := 190) (by decide +kernel))) rfl
theorem im_X10_fill : Cond.instanceMethod yX10_fill ∈ sw_U := sw_in (sw_t5 (List.mem_of_getElem? (i := 191) (by decide +kernel))) rfl
theorem se_X10_fill : Cond.selects yX10_fill.cls yX10_fill yX10_fill ∈ sw_U := sw_in (sw_t5 (List.mem_of_getElem? (i := 192) (by decide +kernel))) rfl
theorem co_X10_fill : Cond.code yX10_fill cX10_fill 2 (Option.some Jvm.ClassFile.FieldType.int) ∈ sw_U := sw_in (sw_t5 (List.mem_of_getElem? (i := 193) (by decide +kernel))) rfl
theorem fl_X10_298 : Cond.fieldLink RX10 298 "StrikeWheels$Order" "FILL" "LStrikeWheels$Order;" ∈ sw_U := sw_in (sw_t5 (List.mem_of_getElem? (i := 194) (by decide +kernel))) rfl
theorem ml_L_295 : Cond.methodLink RL 295 yL_play ∈ sw_U := sw_in (sw_t5 (List.mem_of_getElem? (i := 196) (by decide +kernel))) rfl
theorem st_L_play : Cond.static yL_play ∈ sw_U := sw_in (sw_t5 (List.mem_of_getElem? (i := 197) (by decide +kernel))) rfl
theorem cw_L_play : Cond.codeWith yL_play cL_play 4 (Option.some Jvm.ClassFile.FieldType.int) [((0 : Nat), (9 : Nat), (12 : Nat), (13 : Nat))] ∈ sw_U := sw_in (sw_t5 (List.mem_of_getElem? (i := 198) (by decide +kernel))) rfl
theorem ml_L_84 : Cond.methodLink RL 84 yX10_play ∈ sw_U := sw_in (sw_t5 (List.mem_of_getElem? (i := 199) (by decide +kernel))) rfl
theorem im_X10_play : Cond.instanceMethod yX10_play ∈ sw_U := sw_in (sw_t5 (List.mem_of_getElem? (i := 200) (by decide +kernel))) rfl
theorem se_X10_play : Cond.selects yX10_play.cls yX10_play yX10_play ∈ sw_U := sw_in (sw_t5 (List.mem_of_getElem? (i := 201) (by decide +kernel))) rfl
theorem co_X10_play : Cond.code yX10_play cX10_play 6 (Option.some Jvm.ClassFile.FieldType.int) ∈ sw_U := sw_in (sw_t5 (List.mem_of_getElem? (i := 202) (by decide +kernel))) rfl
theorem ml_X10_304 : Cond.methodLink RX10 304 yX4_readScript ∈ sw_U := sw_in (sw_t5 (List.mem_of_getElem? (i := 203) (by decide +kernel))) rfl
theorem im_X4_readScript : Cond.instanceMethod yX4_readScript ∈ sw_U := sw_in (sw_t5 (List.mem_of_getElem? (i := 204) (by decide +kernel))) rfl
theorem se_X4_readScript : Cond.selects yX4_readScript.cls yX4_readScript yX4_readScript ∈ sw_U := sw_in (sw_t5 (List.mem_of_getElem? (i := 205) (by decide +kernel))) rfl
theorem co_X4_readScript : Cond.code yX4_readScript cX4_readScript 5 (Option.some Jvm.ClassFile.FieldType.int) ∈ sw_U := sw_in (sw_t5 (List.mem_of_getElem? (i := 206) (by decide +kernel))) rfl
theorem ml_X4_64 : Cond.methodLink RX4 64 yX5_clear ∈ sw_U := sw_in (sw_t5 (List.mem_of_getElem? (i := 207) (by decide +kernel))) rfl
theorem im_X5_clear : Cond.instanceMethod yX5_clear ∈ sw_U := sw_in (sw_t5 (List.mem_of_getElem? (i := 208) (by decide +kernel))) rfl
theorem se_X5_clear : Cond.selects yX5_clear.cls yX5_clear yX5_clear ∈ sw_U := sw_in (sw_t5 (List.mem_of_getElem? (i := 209) (by decide +kernel))) rfl
theorem co_X5_clear : Cond.code yX5_clear cX5_clear 1 (Option.none : Option Jvm.ClassFile.FieldType) ∈ sw_U := sw_in (sw_t5 (List.mem_of_getElem? (i := 210) (by decide +kernel))) rfl
theorem ml_X4_69 : Cond.methodLink RX4 69 yX4_readOrder ∈ sw_U := sw_in (sw_t5 (List.mem_of_getElem? (i := 211) (by decide +kernel))) rfl
theorem im_X4_readOrder : Cond.instanceMethod yX4_readOrder ∈ sw_U := sw_in (sw_t5 (List.mem_of_getElem? (i := 213) (by decide +kernel))) rfl
theorem co_X4_readOrder : Cond.code yX4_readOrder cX4_readOrder 4 (Option.some Jvm.ClassFile.FieldType.boolean) ∈ sw_U := sw_in (sw_t5 (List.mem_of_getElem? (i := 214) (by decide +kernel))) rfl
theorem ml_X4_120 : Cond.methodLink RX4 120 yX4_orderHere ∈ sw_U := sw_in (sw_t5 (List.mem_of_getElem? (i := 215) (by decide +kernel))) rfl
theorem im_X4_orderHere : Cond.instanceMethod yX4_orderHere ∈ sw_U := sw_in (sw_t5 (List.mem_of_getElem? (i := 217) (by decide +kernel))) rfl
theorem co_X4_orderHere : Cond.code yX4_orderHere cX4_orderHere 3 (Option.some (Jvm.ClassFile.FieldType.object "StrikeWheels$Order")) ∈ sw_U := sw_in (sw_t5 (List.mem_of_getElem? (i := 218) (by decide +kernel))) rfl
theorem ml_X4_124 : Cond.methodLink RX4 124 yX5_count ∈ sw_U := sw_in (sw_t5 (List.mem_of_getElem? (i := 221) (by decide +kernel))) rfl
theorem im_X5_count : Cond.instanceMethod yX5_count ∈ sw_U := sw_in (sw_t5 (List.mem_of_getElem? (i := 222) (by decide +kernel))) rfl
theorem se_X5_count : Cond.selects yX5_count.cls yX5_count yX5_count ∈ sw_U := sw_in (sw_t5 (List.mem_of_getElem? (i := 223) (by decide +kernel))) rfl
theorem co_X5_count : Cond.code yX5_count cX5_count 1 (Option.some Jvm.ClassFile.FieldType.int) ∈ sw_U := sw_in (sw_t5 (List.mem_of_getElem? (i := 224) (by decide +kernel))) rfl
theorem ml_X4_136 : Cond.methodLink RX4 136 yX5_append ∈ sw_U := sw_in (sw_t5 (List.mem_of_getElem? (i := 225) (by decide +kernel))) rfl
theorem im_X5_append : Cond.instanceMethod yX5_append ∈ sw_U := sw_in (sw_t5 (List.mem_of_getElem? (i := 226) (by decide +kernel))) rfl
theorem se_X5_append : Cond.selects yX5_append.cls yX5_append yX5_append ∈ sw_U := sw_in (sw_t5 (List.mem_of_getElem? (i := 227) (by decide +kernel))) rfl
theorem co_X5_append : Cond.code yX5_append cX5_append 4 (Option.none : Option Jvm.ClassFile.FieldType) ∈ sw_U := sw_in (sw_t5 (List.mem_of_getElem? (i := 228) (by decide +kernel))) rfl
theorem ml_X10_311 : Cond.methodLink RX10 311 yX5_count ∈ sw_U := sw_in (sw_t5 (List.mem_of_getElem? (i := 229) (by decide +kernel))) rfl
theorem ml_X10_314 : Cond.methodLink RX10 314 yX5_orderAt ∈ sw_U := sw_in (sw_t5 (List.mem_of_getElem? (i := 230) (by decide +kernel))) rfl
theorem im_X5_orderAt : Cond.instanceMethod yX5_orderAt ∈ sw_U := sw_in (sw_t5 (List.mem_of_getElem? (i := 231) (by decide +kernel))) rfl
theorem se_X5_orderAt : Cond.selects yX5_orderAt.cls yX5_orderAt yX5_orderAt ∈ sw_U := sw_in (sw_t5 (List.mem_of_getElem? (i := 232) (by decide +kernel))) rfl
theorem co_X5_orderAt : Cond.code yX5_orderAt cX5_orderAt 2 (Option.some (Jvm.ClassFile.FieldType.object "StrikeWheels$Order")) ∈ sw_U := sw_in (sw_t5 (List.mem_of_getElem? (i := 233) (by decide +kernel))) rfl
theorem ml_X5_28 : Cond.methodLink RX5 28 yX5_isThere ∈ sw_U := sw_in (sw_t5 (List.mem_of_getElem? (i := 234) (by decide +kernel))) rfl
theorem im_X5_isThere : Cond.instanceMethod yX5_isThere ∈ sw_U := sw_in (sw_t5 (List.mem_of_getElem? (i := 236) (by decide +kernel))) rfl
theorem co_X5_isThere : Cond.code yX5_isThere cX5_isThere 2 (Option.some Jvm.ClassFile.FieldType.boolean) ∈ sw_U := sw_in (sw_t5 (List.mem_of_getElem? (i := 237) (by decide +kernel))) rfl
theorem ml_X10_318 : Cond.methodLink RX10 318 yX5_numberAt ∈ sw_U := sw_in (sw_t5 (List.mem_of_getElem? (i := 238) (by decide +kernel))) rfl
theorem im_X5_numberAt : Cond.instanceMethod yX5_numberAt ∈ sw_U := sw_in (sw_t5 (List.mem_of_getElem? (i := 239) (by decide +kernel))) rfl
theorem se_X5_numberAt : Cond.selects yX5_numberAt.cls yX5_numberAt yX5_numberAt ∈ sw_U := sw_in (sw_t6 (List.mem_of_getElem? (i := 0) (by decide +kernel))) rfl
theorem co_X5_numberAt : Cond.code yX5_numberAt cX5_numberAt 2 (Option.some Jvm.ClassFile.FieldType.int) ∈ sw_U := sw_in (sw_t6 (List.mem_of_getElem? (i := 1) (by decide +kernel))) rfl
theorem ml_X10_321 : Cond.methodLink RX10 321 yX5_otherAt ∈ sw_U := sw_in (sw_t6 (List.mem_of_getElem? (i := 2) (by decide +kernel))) rfl
theorem im_X5_otherAt : Cond.instanceMethod yX5_otherAt ∈ sw_U := sw_in (sw_t6 (List.mem_of_getElem? (i := 3) (by decide +kernel))) rfl
theorem se_X5_otherAt : Cond.selects yX5_otherAt.cls yX5_otherAt yX5_otherAt ∈ sw_U := sw_in (sw_t6 (List.mem_of_getElem? (i := 4) (by decide +kernel))) rfl
theorem co_X5_otherAt : Cond.code yX5_otherAt cX5_otherAt 2 (Option.some Jvm.ClassFile.FieldType.int) ∈ sw_U := sw_in (sw_t6 (List.mem_of_getElem? (i := 5) (by decide +kernel))) rfl
theorem ml_L_298 : Cond.methodLink RL 298 yL_format ∈ sw_U := sw_in (sw_t6 (List.mem_of_getElem? (i := 6) (by decide +kernel))) rfl
theorem st_L_format : Cond.static yL_format ∈ sw_U := sw_in (sw_t6 (List.mem_of_getElem? (i := 7) (by decide +kernel))) rfl
theorem cw_L_format : Cond.codeWith yL_format cL_format 4 (Option.some Jvm.ClassFile.FieldType.int) [((0 : Nat), (9 : Nat), (12 : Nat), (25 : Nat))] ∈ sw_U := sw_in (sw_t6 (List.mem_of_getElem? (i := 8) (by decide +kernel))) rfl
theorem ml_L_87 : Cond.methodLink RL 87 yX10_format ∈ sw_U := sw_in (sw_t6 (List.mem_of_getElem? (i := 9) (by decide +kernel))) rfl
theorem im_X10_format : Cond.instanceMethod yX10_format ∈ sw_U := sw_in (sw_t6 (List.mem_of_getElem? (i := 10) (by decide +kernel))) rfl
theorem se_X10_format : Cond.selects yX10_format.cls yX10_format yX10_format ∈ sw_U := sw_in (sw_t6 (List.mem_of_getElem? (i := 11) (by decide +kernel))) rfl
theorem co_X10_format : Cond.code yX10_format cX10_format 7 (Option.some Jvm.ClassFile.FieldType.int) ∈ sw_U := sw_in (sw_t6 (List.mem_of_getElem? (i := 12) (by decide +kernel))) rfl
theorem ml_X10_330 : Cond.methodLink RX10 330 yX6_erase ∈ sw_U := sw_in (sw_t6 (List.mem_of_getElem? (i := 13) (by decide +kernel))) rfl
theorem im_X6_erase : Cond.instanceMethod yX6_erase ∈ sw_U := sw_in (sw_t6 (List.mem_of_getElem? (i := 14) (by decide +kernel))) rfl
theorem se_X6_erase : Cond.selects yX6_erase.cls yX6_erase yX6_erase ∈ sw_U := sw_in (sw_t6 (List.mem_of_getElem? (i := 15) (by decide +kernel))) rfl
theorem co_X6_erase : Cond.code yX6_erase cX6_erase 1 (Option.none : Option Jvm.ClassFile.FieldType) ∈ sw_U := sw_in (sw_t6 (List.mem_of_getElem? (i := 16) (by decide +kernel))) rfl
theorem ml_X10_333 : Cond.methodLink RX10 333 yX6_length ∈ sw_U := sw_in (sw_t6 (List.mem_of_getElem? (i := 17) (by decide +kernel))) rfl
theorem im_X6_length : Cond.instanceMethod yX6_length ∈ sw_U := sw_in (sw_t6 (List.mem_of_getElem? (i := 18) (by decide +kernel))) rfl
theorem se_X6_length : Cond.selects yX6_length.cls yX6_length yX6_length ∈ sw_U := sw_in (sw_t6 (List.mem_of_getElem? (i := 19) (by decide +kernel))) rfl
theorem co_X6_length : Cond.code yX6_length cX6_length 1 (Option.some Jvm.ClassFile.FieldType.int) ∈ sw_U := sw_in (sw_t6 (List.mem_of_getElem? (i := 20) (by decide +kernel))) rfl
theorem ml_X10_336 : Cond.methodLink RX10 336 yX6_put ∈ sw_U := sw_in (sw_t6 (List.mem_of_getElem? (i := 21) (by decide +kernel))) rfl
theorem im_X6_put : Cond.instanceMethod yX6_put ∈ sw_U := sw_in (sw_t6 (List.mem_of_getElem? (i := 22) (by decide +kernel))) rfl
theorem se_X6_put : Cond.selects yX6_put.cls yX6_put yX6_put ∈ sw_U := sw_in (sw_t6 (List.mem_of_getElem? (i := 23) (by decide +kernel))) rfl
theorem co_X6_put : Cond.code yX6_put cX6_put 2 (Option.none : Option Jvm.ClassFile.FieldType) ∈ sw_U := sw_in (sw_t6 (List.mem_of_getElem? (i := 24) (by decide +kernel))) rfl
theorem ml_X10_339 : Cond.methodLink RX10 339 yX6_putNumber ∈ sw_U := sw_in (sw_t6 (List.mem_of_getElem? (i := 25) (by decide +kernel))) rfl
theorem im_X6_putNumber : Cond.instanceMethod yX6_putNumber ∈ sw_U := sw_in (sw_t6 (List.mem_of_getElem? (i := 26) (by decide +kernel))) rfl
theorem se_X6_putNumber : Cond.selects yX6_putNumber.cls yX6_putNumber yX6_putNumber ∈ sw_U := sw_in (sw_t6 (List.mem_of_getElem? (i := 27) (by decide +kernel))) rfl
theorem co_X6_putNumber : Cond.code yX6_putNumber cX6_putNumber 3 (Option.none : Option Jvm.ClassFile.FieldType) ∈ sw_U := sw_in (sw_t6 (List.mem_of_getElem? (i := 28) (by decide +kernel))) rfl
theorem ml_X6_19 : Cond.methodLink RX6 19 yX6_put ∈ sw_U := sw_in (sw_t6 (List.mem_of_getElem? (i := 29) (by decide +kernel))) rfl
theorem cl_L_91 : Cond.classLink RL 91 RX11 ∈ sw_U := sw_in (sw_t6 (List.mem_of_getElem? (i := 30) (by decide +kernel))) rfl
theorem ins_X11 : Cond.instantiable RX11 30 ∈ sw_U := sw_in (sw_t6 (List.mem_of_getElem? (i := 31) (by decide +kernel))) rfl
theorem ml_L_93 : Cond.methodLink RL 93 yX11_init ∈ sw_U := sw_in (sw_t6 (List.mem_of_getElem? (i := 32) (by decide +kernel))) rfl
theorem im_X11_init : Cond.instanceMethod yX11_init ∈ sw_U := sw_in (sw_t6 (List.mem_of_getElem? (i := 33) (by decide +kernel))) rfl
theorem co_X11_init : Cond.code yX11_init cX11_init 1 (Option.none : Option Jvm.ClassFile.FieldType) ∈ sw_U := sw_in (sw_t6 (List.mem_of_getElem? (i := 34) (by decide +kernel))) rfl
theorem ml_X11_1 : Cond.methodLink RX11 1 ⟨"java/lang/Object", "<init>", "()V"⟩ ∈ sw_U := sw_in (sw_t6 (List.mem_of_getElem? (i := 35) (by decide +kernel))) rfl
theorem cl_X11_56 : Cond.classLink RX11 56 RJ0 ∈ sw_U := sw_in (sw_t6 (List.mem_of_getElem? (i := 36) (by decide +kernel))) rfl
theorem fl_X11_9 : Cond.fieldLink RX11 9 "StrikeWheelsModel" "now" "[I" ∈ sw_U := sw_in (sw_t6 (List.mem_of_getElem? (i := 46) (by decide +kernel))) rfl
theorem fl_X11_13 : Cond.fieldLink RX11 13 "StrikeWheelsModel" "draft" "[I" ∈ sw_U := sw_in (sw_t6 (List.mem_of_getElem? (i := 47) (by decide +kernel))) rfl
theorem fl_X11_16 : Cond.fieldLink RX11 16 "StrikeWheelsModel" "kept" "[I" ∈ sw_U := sw_in (sw_t6 (List.mem_of_getElem? (i := 48) (by decide +kernel))) rfl
theorem fl_X11_19 : Cond.fieldLink RX11 19 "StrikeWheelsModel" "snapshot" "[I" ∈ sw_U := sw_in (sw_t6 (List.mem_of_getElem? (i := 49) (by decide +kernel))) rfl
theorem fl_X11_22 : Cond.fieldLink RX11 22 "StrikeWheelsModel" "history" "[I" ∈ sw_U := sw_in (sw_t6 (List.mem_of_getElem? (i := 50) (by decide +kernel))) rfl
theorem fl_X11_25 : Cond.fieldLink RX11 25 "StrikeWheelsModel" "accounts" "[I" ∈ sw_U := sw_in (sw_t6 (List.mem_of_getElem? (i := 51) (by decide +kernel))) rfl
theorem fl_X11_28 : Cond.fieldLink RX11 28 "StrikeWheelsModel" "wheelPrimes" "[I" ∈ sw_U := sw_in (sw_t6 (List.mem_of_getElem? (i := 52) (by decide +kernel))) rfl
theorem fl_X11_31 : Cond.fieldLink RX11 31 "StrikeWheelsModel" "row" "[I" ∈ sw_U := sw_in (sw_t6 (List.mem_of_getElem? (i := 53) (by decide +kernel))) rfl
theorem fl_X11_245 : Cond.fieldLink RX11 245 "StrikeWheelsModel" "undoCount" "I" ∈ sw_U := sw_in (sw_t6 (List.mem_of_getElem? (i := 54) (by decide +kernel))) rfl
theorem fl_X11_78 : Cond.fieldLink RX11 78 "StrikeWheelsModel" "thrown" "I" ∈ sw_U := sw_in (sw_t6 (List.mem_of_getElem? (i := 55) (by decide +kernel))) rfl
theorem fl_X11_296 : Cond.fieldLink RX11 296 "StrikeWheelsModel" "hasSnapshot" "Z" ∈ sw_U := sw_in (sw_t6 (List.mem_of_getElem? (i := 56) (by decide +kernel))) rfl
theorem fl_X11_34 : Cond.fieldLink RX11 34 "StrikeWheelsModel" "owner" "[I" ∈ sw_U := sw_in (sw_t6 (List.mem_of_getElem? (i := 57) (by decide +kernel))) rfl
theorem fl_X11_37 : Cond.fieldLink RX11 37 "StrikeWheelsModel" "times" "[I" ∈ sw_U := sw_in (sw_t6 (List.mem_of_getElem? (i := 58) (by decide +kernel))) rfl
theorem fl_X11_100 : Cond.fieldLink RX11 100 "StrikeWheelsModel" "end" "I" ∈ sw_U := sw_in (sw_t6 (List.mem_of_getElem? (i := 59) (by decide +kernel))) rfl
theorem fl_X11_40 : Cond.fieldLink RX11 40 "StrikeWheelsModel" "ownerD" "[I" ∈ sw_U := sw_in (sw_t6 (List.mem_of_getElem? (i := 60) (by decide +kernel))) rfl
theorem fl_X11_43 : Cond.fieldLink RX11 43 "StrikeWheelsModel" "formatted" "[I" ∈ sw_U := sw_in (sw_t6 (List.mem_of_getElem? (i := 61) (by decide +kernel))) rfl
theorem fl_X11_287 : Cond.fieldLink RX11 287 "StrikeWheelsModel" "formattedLength" "I" ∈ sw_U := sw_in (sw_t6 (List.mem_of_getElem? (i := 62) (by decide +kernel))) rfl
theorem fl_X11_46 : Cond.fieldLink RX11 46 "StrikeWheelsModel" "buffer" "[I" ∈ sw_U := sw_in (sw_t6 (List.mem_of_getElem? (i := 63) (by decide +kernel))) rfl
theorem fl_X11_300 : Cond.fieldLink RX11 300 "StrikeWheelsModel" "bufferLength" "I" ∈ sw_U := sw_in (sw_t6 (List.mem_of_getElem? (i := 64) (by decide +kernel))) rfl
theorem fl_X11_303 : Cond.fieldLink RX11 303 "StrikeWheelsModel" "limit" "I" ∈ sw_U := sw_in (sw_t6 (List.mem_of_getElem? (i := 65) (by decide +kernel))) rfl
theorem fl_X11_309 : Cond.fieldLink RX11 309 "StrikeWheelsModel" "nextByte" "I" ∈ sw_U := sw_in (sw_t6 (List.mem_of_getElem? (i := 66) (by decide +kernel))) rfl
theorem fl_X11_312 : Cond.fieldLink RX11 312 "StrikeWheelsModel" "beginsAt" "I" ∈ sw_U := sw_in (sw_t6 (List.mem_of_getElem? (i := 67) (by decide +kernel))) rfl
theorem fl_X11_315 : Cond.fieldLink RX11 315 "StrikeWheelsModel" "token" "I" ∈ sw_U := sw_in (sw_t6 (List.mem_of_getElem? (i := 68) (by decide +kernel))) rfl
theorem fl_X11_324 : Cond.fieldLink RX11 324 "StrikeWheelsModel" "error" "I" ∈ sw_U := sw_in (sw_t6 (List.mem_of_getElem? (i := 69) (by decide +kernel))) rfl
theorem fl_X11_333 : Cond.fieldLink RX11 333 "StrikeWheelsModel" "errorAt" "I" ∈ sw_U := sw_in (sw_t6 (List.mem_of_getElem? (i := 70) (by decide +kernel))) rfl
theorem fl_X11_49 : Cond.fieldLink RX11 49 "StrikeWheelsModel" "errorPosition" "I" ∈ sw_U := sw_in (sw_t6 (List.mem_of_getElem? (i := 71) (by decide +kernel))) rfl
theorem fl_X11_327 : Cond.fieldLink RX11 327 "StrikeWheelsModel" "nested" "I" ∈ sw_U := sw_in (sw_t6 (List.mem_of_getElem? (i := 72) (by decide +kernel))) rfl
theorem fl_X11_53 : Cond.fieldLink RX11 53 "StrikeWheelsModel" "orders" "[I" ∈ sw_U := sw_in (sw_t6 (List.mem_of_getElem? (i := 73) (by decide +kernel))) rfl
theorem fl_X11_74 : Cond.fieldLink RX11 74 "StrikeWheelsModel" "orderWords" "[Ljava/lang/String;" ∈ sw_U := sw_in (sw_t6 (List.mem_of_getElem? (i := 74) (by decide +kernel))) rfl
theorem fl_X11_394 : Cond.fieldLink RX11 394 "StrikeWheelsModel" "orderCount" "I" ∈ sw_U := sw_in (sw_t6 (List.mem_of_getElem? (i := 75) (by decide +kernel))) rfl
theorem ml_L_105 : Cond.methodLink RL 105 yX11_thrown ∈ sw_U := sw_in (sw_t6 (List.mem_of_getElem? (i := 137) (by decide +kernel))) rfl
theorem im_X11_thrown : Cond.instanceMethod yX11_thrown ∈ sw_U := sw_in (sw_t6 (List.mem_of_getElem? (i := 138) (by decide +kernel))) rfl
theorem se_X11_thrown : Cond.selects yX11_thrown.cls yX11_thrown yX11_thrown ∈ sw_U := sw_in (sw_t6 (List.mem_of_getElem? (i := 139) (by decide +kernel))) rfl
theorem co_X11_thrown : Cond.code yX11_thrown cX11_thrown 1 (Option.some Jvm.ClassFile.FieldType.int) ∈ sw_U := sw_in (sw_t6 (List.mem_of_getElem? (i := 140) (by decide +kernel))) rfl
theorem ml_L_115 : Cond.methodLink RL 115 yX11_size ∈ sw_U := sw_in (sw_t6 (List.mem_of_getElem? (i := 141) (by decide +kernel))) rfl
theorem im_X11_size : Cond.instanceMethod yX11_size ∈ sw_U := sw_in (sw_t6 (List.mem_of_getElem? (i := 142) (by decide +kernel))) rfl
theorem se_X11_size : Cond.selects yX11_size.cls yX11_size yX11_size ∈ sw_U := sw_in (sw_t6 (List.mem_of_getElem? (i := 143) (by decide +kernel))) rfl
theorem co_X11_size : Cond.code yX11_size cX11_size 2 (Option.some Jvm.ClassFile.FieldType.int) ∈ sw_U := sw_in (sw_t6 (List.mem_of_getElem? (i := 144) (by decide +kernel))) rfl
theorem ml_X11_81 : Cond.methodLink RX11 81 yX11_inRange ∈ sw_U := sw_in (sw_t6 (List.mem_of_getElem? (i := 145) (by decide +kernel))) rfl
theorem st_X11_inRange : Cond.static yX11_inRange ∈ sw_U := sw_in (sw_t6 (List.mem_of_getElem? (i := 146) (by decide +kernel))) rfl
theorem co_X11_inRange : Cond.code yX11_inRange cX11_inRange 3 (Option.some Jvm.ClassFile.FieldType.boolean) ∈ sw_U := sw_in (sw_t6 (List.mem_of_getElem? (i := 147) (by decide +kernel))) rfl
theorem ml_X11_125 : Cond.methodLink RX11 125 yX11_lacks ∈ sw_U := sw_in (sw_t6 (List.mem_of_getElem? (i := 148) (by decide +kernel))) rfl
theorem im_X11_lacks : Cond.instanceMethod yX11_lacks ∈ sw_U := sw_in (sw_t6 (List.mem_of_getElem? (i := 150) (by decide +kernel))) rfl
theorem co_X11_lacks : Cond.code yX11_lacks cX11_lacks 2 (Option.some Jvm.ClassFile.FieldType.boolean) ∈ sw_U := sw_in (sw_t6 (List.mem_of_getElem? (i := 151) (by decide +kernel))) rfl
theorem ml_X11_129 : Cond.methodLink RX11 129 yX11_strike ∈ sw_U := sw_in (sw_t6 (List.mem_of_getElem? (i := 152) (by decide +kernel))) rfl
theorem im_X11_strike : Cond.instanceMethod yX11_strike ∈ sw_U := sw_in (sw_t6 (List.mem_of_getElem? (i := 154) (by decide +kernel))) rfl
theorem co_X11_strike : Cond.code yX11_strike cX11_strike 1 (Option.none : Option Jvm.ClassFile.FieldType) ∈ sw_U := sw_in (sw_t6 (List.mem_of_getElem? (i := 155) (by decide +kernel))) rfl
theorem ml_X11_89 : Cond.methodLink RX11 89 yX11_last ∈ sw_U := sw_in (sw_t6 (List.mem_of_getElem? (i := 156) (by decide +kernel))) rfl
theorem im_X11_last : Cond.instanceMethod yX11_last ∈ sw_U := sw_in (sw_t6 (List.mem_of_getElem? (i := 158) (by decide +kernel))) rfl
theorem co_X11_last : Cond.code yX11_last cX11_last 1 (Option.some Jvm.ClassFile.FieldType.int) ∈ sw_U := sw_in (sw_t6 (List.mem_of_getElem? (i := 159) (by decide +kernel))) rfl
theorem ml_X11_85 : Cond.methodLink RX11 85 yX11_lastOf ∈ sw_U := sw_in (sw_t6 (List.mem_of_getElem? (i := 160) (by decide +kernel))) rfl
theorem im_X11_lastOf : Cond.instanceMethod yX11_lastOf ∈ sw_U := sw_in (sw_t6 (List.mem_of_getElem? (i := 162) (by decide +kernel))) rfl
theorem co_X11_lastOf : Cond.code yX11_lastOf cX11_lastOf 4 (Option.some Jvm.ClassFile.FieldType.int) ∈ sw_U := sw_in (sw_t6 (List.mem_of_getElem? (i := 163) (by decide +kernel))) rfl
theorem ml_X11_103 : Cond.methodLink RX11 103 yX11_strikeUpTo ∈ sw_U := sw_in (sw_t6 (List.mem_of_getElem? (i := 164) (by decide +kernel))) rfl
theorem im_X11_strikeUpTo : Cond.instanceMethod yX11_strikeUpTo ∈ sw_U := sw_in (sw_t6 (List.mem_of_getElem? (i := 166) (by decide +kernel))) rfl
theorem co_X11_strikeUpTo : Cond.code yX11_strikeUpTo cX11_strikeUpTo 5 (Option.none : Option Jvm.ClassFile.FieldType) ∈ sw_U := sw_in (sw_t6 (List.mem_of_getElem? (i := 167) (by decide +kernel))) rfl
theorem ml_X11_96 : Cond.methodLink RX11 96 yX11_isOnSpoke ∈ sw_U := sw_in (sw_t6 (List.mem_of_getElem? (i := 168) (by decide +kernel))) rfl
theorem im_X11_isOnSpoke : Cond.instanceMethod yX11_isOnSpoke ∈ sw_U := sw_in (sw_t6 (List.mem_of_getElem? (i := 170) (by decide +kernel))) rfl
theorem co_X11_isOnSpoke : Cond.code yX11_isOnSpoke cX11_isOnSpoke 2 (Option.some Jvm.ClassFile.FieldType.boolean) ∈ sw_U := sw_in (sw_t6 (List.mem_of_getElem? (i := 171) (by decide +kernel))) rfl
theorem ml_X11_93 : Cond.methodLink RX11 93 yX11_wheelPrimeOf ∈ sw_U := sw_in (sw_t6 (List.mem_of_getElem? (i := 172) (by decide +kernel))) rfl
theorem im_X11_wheelPrimeOf : Cond.instanceMethod yX11_wheelPrimeOf ∈ sw_U := sw_in (sw_t6 (List.mem_of_getElem? (i := 174) (by decide +kernel))) rfl
theorem co_X11_wheelPrimeOf : Cond.code yX11_wheelPrimeOf cX11_wheelPrimeOf 3 (Option.some Jvm.ClassFile.FieldType.int) ∈ sw_U := sw_in (sw_t6 (List.mem_of_getElem? (i := 175) (by decide +kernel))) rfl
theorem ml_X11_132 : Cond.methodLink RX11 132 yX11_marksIn ∈ sw_U := sw_in (sw_t6 (List.mem_of_getElem? (i := 176) (by decide +kernel))) rfl
theorem im_X11_marksIn : Cond.instanceMethod yX11_marksIn ∈ sw_U := sw_in (sw_t6 (List.mem_of_getElem? (i := 178) (by decide +kernel))) rfl
theorem co_X11_marksIn : Cond.code yX11_marksIn cX11_marksIn 5 (Option.some Jvm.ClassFile.FieldType.int) ∈ sw_U := sw_in (sw_t6 (List.mem_of_getElem? (i := 179) (by decide +kernel))) rfl
theorem ml_X11_107 : Cond.methodLink RX11 107 yX11_isMark ∈ sw_U := sw_in (sw_t6 (List.mem_of_getElem? (i := 180) (by decide +kernel))) rfl
theorem im_X11_isMark : Cond.instanceMethod yX11_isMark ∈ sw_U := sw_in (sw_t6 (List.mem_of_getElem? (i := 182) (by decide +kernel))) rfl
theorem co_X11_isMark : Cond.code yX11_isMark cX11_isMark 2 (Option.some Jvm.ClassFile.FieldType.boolean) ∈ sw_U := sw_in (sw_t6 (List.mem_of_getElem? (i := 183) (by decide +kernel))) rfl
theorem ml_X11_136 : Cond.methodLink RX11 136 yX11_spokesIn ∈ sw_U := sw_in (sw_t6 (List.mem_of_getElem? (i := 184) (by decide +kernel))) rfl
theorem im_X11_spokesIn : Cond.instanceMethod yX11_spokesIn ∈ sw_U := sw_in (sw_t6 (List.mem_of_getElem? (i := 186) (by decide +kernel))) rfl
theorem co_X11_spokesIn : Cond.code yX11_spokesIn cX11_spokesIn 5 (Option.some Jvm.ClassFile.FieldType.int) ∈ sw_U := sw_in (sw_t6 (List.mem_of_getElem? (i := 187) (by decide +kernel))) rfl
theorem ml_X11_139 : Cond.methodLink RX11 139 yX11_product ∈ sw_U := sw_in (sw_t6 (List.mem_of_getElem? (i := 188) (by decide +kernel))) rfl
theorem im_X11_product : Cond.instanceMethod yX11_product ∈ sw_U := sw_in (sw_t6 (List.mem_of_getElem? (i := 190) (by decide +kernel))) rfl
theorem co_X11_product : Cond.code yX11_product cX11_product 3 (Option.some Jvm.ClassFile.FieldType.int) ∈ sw_U := sw_in (sw_t6 (List.mem_of_getElem? (i := 191) (by decide +kernel))) rfl
theorem ml_X11_142 : Cond.methodLink RX11 142 yX11_rightOnes ∈ sw_U := sw_in (sw_t6 (List.mem_of_getElem? (i := 192) (by decide +kernel))) rfl
theorem im_X11_rightOnes : Cond.instanceMethod yX11_rightOnes ∈ sw_U := sw_in (sw_t6 (List.mem_of_getElem? (i := 194) (by decide +kernel))) rfl
theorem co_X11_rightOnes : Cond.code yX11_rightOnes cX11_rightOnes 3 (Option.some Jvm.ClassFile.FieldType.int) ∈ sw_U := sw_in (sw_t6 (List.mem_of_getElem? (i := 195) (by decide +kernel))) rfl
theorem ml_X11_145 : Cond.methodLink RX11 145 yX11_countMissing ∈ sw_U := sw_in (sw_t6 (List.mem_of_getElem? (i := 196) (by decide +kernel))) rfl
theorem im_X11_countMissing : Cond.instanceMethod yX11_countMissing ∈ sw_U := sw_in (sw_t6 (List.mem_of_getElem? (i := 198) (by decide +kernel))) rfl
theorem co_X11_countMissing : Cond.code yX11_countMissing cX11_countMissing 3 (Option.some Jvm.ClassFile.FieldType.int) ∈ sw_U := sw_in (sw_t6 (List.mem_of_getElem? (i := 199) (by decide +kernel))) rfl
theorem ml_X11_119 : Cond.methodLink RX11 119 yX11_missingFrom ∈ sw_U := sw_in (sw_t6 (List.mem_of_getElem? (i := 200) (by decide +kernel))) rfl
theorem im_X11_missingFrom : Cond.instanceMethod yX11_missingFrom ∈ sw_U := sw_in (sw_t6 (List.mem_of_getElem? (i := 202) (by decide +kernel))) rfl
theorem co_X11_missingFrom : Cond.code yX11_missingFrom cX11_missingFrom 3 (Option.some Jvm.ClassFile.FieldType.int) ∈ sw_U := sw_in (sw_t6 (List.mem_of_getElem? (i := 203) (by decide +kernel))) rfl
theorem ml_X11_116 : Cond.methodLink RX11 116 yX11_couldStrike ∈ sw_U := sw_in (sw_t6 (List.mem_of_getElem? (i := 204) (by decide +kernel))) rfl
theorem im_X11_couldStrike : Cond.instanceMethod yX11_couldStrike ∈ sw_U := sw_in (sw_t6 (List.mem_of_getElem? (i := 206) (by decide +kernel))) rfl
theorem co_X11_couldStrike : Cond.code yX11_couldStrike cX11_couldStrike 2 (Option.some Jvm.ClassFile.FieldType.boolean) ∈ sw_U := sw_in (sw_t6 (List.mem_of_getElem? (i := 207) (by decide +kernel))) rfl
theorem ml_X11_110 : Cond.methodLink RX11 110 yX11_placeOf ∈ sw_U := sw_in (sw_t6 (List.mem_of_getElem? (i := 208) (by decide +kernel))) rfl
theorem im_X11_placeOf : Cond.instanceMethod yX11_placeOf ∈ sw_U := sw_in (sw_t6 (List.mem_of_getElem? (i := 210) (by decide +kernel))) rfl
theorem co_X11_placeOf : Cond.code yX11_placeOf cX11_placeOf 3 (Option.some Jvm.ClassFile.FieldType.int) ∈ sw_U := sw_in (sw_t6 (List.mem_of_getElem? (i := 211) (by decide +kernel))) rfl
theorem ml_X11_113 : Cond.methodLink RX11 113 yX11_isWheelPrime ∈ sw_U := sw_in (sw_t6 (List.mem_of_getElem? (i := 212) (by decide +kernel))) rfl
theorem im_X11_isWheelPrime : Cond.instanceMethod yX11_isWheelPrime ∈ sw_U := sw_in (sw_t6 (List.mem_of_getElem? (i := 214) (by decide +kernel))) rfl
theorem co_X11_isWheelPrime : Cond.code yX11_isWheelPrime cX11_isWheelPrime 3 (Option.some Jvm.ClassFile.FieldType.boolean) ∈ sw_U := sw_in (sw_t6 (List.mem_of_getElem? (i := 215) (by decide +kernel))) rfl
theorem ml_X11_148 : Cond.methodLink RX11 148 yX11_countIdle ∈ sw_U := sw_in (sw_t6 (List.mem_of_getElem? (i := 216) (by decide +kernel))) rfl
theorem im_X11_countIdle : Cond.instanceMethod yX11_countIdle ∈ sw_U := sw_in (sw_t6 (List.mem_of_getElem? (i := 218) (by decide +kernel))) rfl
theorem co_X11_countIdle : Cond.code yX11_countIdle cX11_countIdle 3 (Option.some Jvm.ClassFile.FieldType.int) ∈ sw_U := sw_in (sw_t6 (List.mem_of_getElem? (i := 219) (by decide +kernel))) rfl
theorem ml_X11_122 : Cond.methodLink RX11 122 yX11_ownedBy ∈ sw_U := sw_in (sw_t6 (List.mem_of_getElem? (i := 220) (by decide +kernel))) rfl
theorem im_X11_ownedBy : Cond.instanceMethod yX11_ownedBy ∈ sw_U := sw_in (sw_t6 (List.mem_of_getElem? (i := 222) (by decide +kernel))) rfl
theorem co_X11_ownedBy : Cond.code yX11_ownedBy cX11_ownedBy 4 (Option.some Jvm.ClassFile.FieldType.int) ∈ sw_U := sw_in (sw_t6 (List.mem_of_getElem? (i := 223) (by decide +kernel))) rfl
theorem ml_L_118 : Cond.methodLink RL 118 yX11_account ∈ sw_U := sw_in (sw_t6 (List.mem_of_getElem? (i := 224) (by decide +kernel))) rfl
theorem im_X11_account : Cond.instanceMethod yX11_account ∈ sw_U := sw_in (sw_t6 (List.mem_of_getElem? (i := 225) (by decide +kernel))) rfl
theorem se_X11_account : Cond.selects yX11_account.cls yX11_account yX11_account ∈ sw_U := sw_in (sw_t6 (List.mem_of_getElem? (i := 226) (by decide +kernel))) rfl
theorem co_X11_account : Cond.code yX11_account cX11_account 2 (Option.some Jvm.ClassFile.FieldType.int) ∈ sw_U := sw_in (sw_t6 (List.mem_of_getElem? (i := 227) (by decide +kernel))) rfl
theorem ml_L_122 : Cond.methodLink RL 122 yX11_stretch ∈ sw_U := sw_in (sw_t6 (List.mem_of_getElem? (i := 228) (by decide +kernel))) rfl
theorem im_X11_stretch : Cond.instanceMethod yX11_stretch ∈ sw_U := sw_in (sw_t6 (List.mem_of_getElem? (i := 229) (by decide +kernel))) rfl
theorem se_X11_stretch : Cond.selects yX11_stretch.cls yX11_stretch yX11_stretch ∈ sw_U := sw_in (sw_t6 (List.mem_of_getElem? (i := 230) (by decide +kernel))) rfl
theorem co_X11_stretch : Cond.code yX11_stretch cX11_stretch 5 (Option.some Jvm.ClassFile.FieldType.int) ∈ sw_U := sw_in (sw_t6 (List.mem_of_getElem? (i := 231) (by decide +kernel))) rfl
theorem ml_X11_151 : Cond.methodLink RX11 151 yX11_isStretch ∈ sw_U := sw_in (sw_t6 (List.mem_of_getElem? (i := 232) (by decide +kernel))) rfl
theorem im_X11_isStretch : Cond.instanceMethod yX11_isStretch ∈ sw_U := sw_in (sw_t6 (List.mem_of_getElem? (i := 234) (by decide +kernel))) rfl
theorem co_X11_isStretch : Cond.code yX11_isStretch cX11_isStretch 2 (Option.some Jvm.ClassFile.FieldType.boolean) ∈ sw_U := sw_in (sw_t6 (List.mem_of_getElem? (i := 235) (by decide +kernel))) rfl
theorem ml_X11_154 : Cond.methodLink RX11 154 yX11_firstMark ∈ sw_U := sw_in (sw_t6 (List.mem_of_getElem? (i := 236) (by decide +kernel))) rfl
theorem im_X11_firstMark : Cond.instanceMethod yX11_firstMark ∈ sw_U := sw_in (sw_t6 (List.mem_of_getElem? (i := 238) (by decide +kernel))) rfl
theorem co_X11_firstMark : Cond.code yX11_firstMark cX11_firstMark 4 (Option.some Jvm.ClassFile.FieldType.int) ∈ sw_U := sw_in (sw_t6 (List.mem_of_getElem? (i := 239) (by decide +kernel))) rfl
theorem ml_X11_157 : Cond.methodLink RX11 157 yX11_lastMark ∈ sw_U := sw_in (sw_t7 (List.mem_of_getElem? (i := 0) (by decide +kernel))) rfl
theorem im_X11_lastMark : Cond.instanceMethod yX11_lastMark ∈ sw_U := sw_in (sw_t7 (List.mem_of_getElem? (i := 2) (by decide +kernel))) rfl
theorem co_X11_lastMark : Cond.code yX11_lastMark cX11_lastMark 4 (Option.some Jvm.ClassFile.FieldType.int) ∈ sw_U := sw_in (sw_t7 (List.mem_of_getElem? (i := 3) (by decide +kernel))) rfl
theorem ml_X11_160 : Cond.methodLink RX11 160 yX11_raise ∈ sw_U := sw_in (sw_t7 (List.mem_of_getElem? (i := 4) (by decide +kernel))) rfl
theorem im_X11_raise : Cond.instanceMethod yX11_raise ∈ sw_U := sw_in (sw_t7 (List.mem_of_getElem? (i := 6) (by decide +kernel))) rfl
theorem co_X11_raise : Cond.code yX11_raise cX11_raise 2 (Option.some Jvm.ClassFile.FieldType.int) ∈ sw_U := sw_in (sw_t7 (List.mem_of_getElem? (i := 7) (by decide +kernel))) rfl
theorem ml_L_125 : Cond.methodLink RL 125 yX11_striker ∈ sw_U := sw_in (sw_t7 (List.mem_of_getElem? (i := 8) (by decide +kernel))) rfl
theorem im_X11_striker : Cond.instanceMethod yX11_striker ∈ sw_U := sw_in (sw_t7 (List.mem_of_getElem? (i := 9) (by decide +kernel))) rfl
theorem se_X11_striker : Cond.selects yX11_striker.cls yX11_striker yX11_striker ∈ sw_U := sw_in (sw_t7 (List.mem_of_getElem? (i := 10) (by decide +kernel))) rfl
theorem co_X11_striker : Cond.code yX11_striker cX11_striker 4 (Option.some Jvm.ClassFile.FieldType.int) ∈ sw_U := sw_in (sw_t7 (List.mem_of_getElem? (i := 11) (by decide +kernel))) rfl
theorem ml_X11_167 : Cond.methodLink RX11 167 yX11_isStriker ∈ sw_U := sw_in (sw_t7 (List.mem_of_getElem? (i := 12) (by decide +kernel))) rfl
theorem im_X11_isStriker : Cond.instanceMethod yX11_isStriker ∈ sw_U := sw_in (sw_t7 (List.mem_of_getElem? (i := 14) (by decide +kernel))) rfl
theorem co_X11_isStriker : Cond.code yX11_isStriker cX11_isStriker 2 (Option.some Jvm.ClassFile.FieldType.boolean) ∈ sw_U := sw_in (sw_t7 (List.mem_of_getElem? (i := 15) (by decide +kernel))) rfl
theorem ml_X11_170 : Cond.methodLink RX11 170 yX11_struckBy ∈ sw_U := sw_in (sw_t7 (List.mem_of_getElem? (i := 16) (by decide +kernel))) rfl
theorem im_X11_struckBy : Cond.instanceMethod yX11_struckBy ∈ sw_U := sw_in (sw_t7 (List.mem_of_getElem? (i := 18) (by decide +kernel))) rfl
theorem co_X11_struckBy : Cond.code yX11_struckBy cX11_struckBy 4 (Option.some Jvm.ClassFile.FieldType.int) ∈ sw_U := sw_in (sw_t7 (List.mem_of_getElem? (i := 19) (by decide +kernel))) rfl
theorem ml_X11_173 : Cond.methodLink RX11 173 yX11_nextStruck ∈ sw_U := sw_in (sw_t7 (List.mem_of_getElem? (i := 20) (by decide +kernel))) rfl
theorem im_X11_nextStruck : Cond.instanceMethod yX11_nextStruck ∈ sw_U := sw_in (sw_t7 (List.mem_of_getElem? (i := 22) (by decide +kernel))) rfl
theorem co_X11_nextStruck : Cond.code yX11_nextStruck cX11_nextStruck 3 (Option.some Jvm.ClassFile.FieldType.int) ∈ sw_U := sw_in (sw_t7 (List.mem_of_getElem? (i := 23) (by decide +kernel))) rfl
theorem ml_X11_163 : Cond.methodLink RX11 163 yX11_strikes ∈ sw_U := sw_in (sw_t7 (List.mem_of_getElem? (i := 24) (by decide +kernel))) rfl
theorem im_X11_strikes : Cond.instanceMethod yX11_strikes ∈ sw_U := sw_in (sw_t7 (List.mem_of_getElem? (i := 26) (by decide +kernel))) rfl
theorem co_X11_strikes : Cond.code yX11_strikes cX11_strikes 3 (Option.some Jvm.ClassFile.FieldType.boolean) ∈ sw_U := sw_in (sw_t7 (List.mem_of_getElem? (i := 27) (by decide +kernel))) rfl
theorem ml_X11_176 : Cond.methodLink RX11 176 yX11_isPrime ∈ sw_U := sw_in (sw_t7 (List.mem_of_getElem? (i := 28) (by decide +kernel))) rfl
theorem st_X11_isPrime : Cond.static yX11_isPrime ∈ sw_U := sw_in (sw_t7 (List.mem_of_getElem? (i := 29) (by decide +kernel))) rfl
theorem co_X11_isPrime : Cond.code yX11_isPrime cX11_isPrime 3 (Option.some Jvm.ClassFile.FieldType.boolean) ∈ sw_U := sw_in (sw_t7 (List.mem_of_getElem? (i := 30) (by decide +kernel))) rfl
theorem ml_X11_179 : Cond.methodLink RX11 179 yX11_leastOwned ∈ sw_U := sw_in (sw_t7 (List.mem_of_getElem? (i := 31) (by decide +kernel))) rfl
theorem im_X11_leastOwned : Cond.instanceMethod yX11_leastOwned ∈ sw_U := sw_in (sw_t7 (List.mem_of_getElem? (i := 33) (by decide +kernel))) rfl
theorem co_X11_leastOwned : Cond.code yX11_leastOwned cX11_leastOwned 3 (Option.some Jvm.ClassFile.FieldType.int) ∈ sw_U := sw_in (sw_t7 (List.mem_of_getElem? (i := 34) (by decide +kernel))) rfl
theorem ml_L_129 : Cond.methodLink RL 129 yX11_find ∈ sw_U := sw_in (sw_t7 (List.mem_of_getElem? (i := 35) (by decide +kernel))) rfl
theorem im_X11_find : Cond.instanceMethod yX11_find ∈ sw_U := sw_in (sw_t7 (List.mem_of_getElem? (i := 36) (by decide +kernel))) rfl
theorem se_X11_find : Cond.selects yX11_find.cls yX11_find yX11_find ∈ sw_U := sw_in (sw_t7 (List.mem_of_getElem? (i := 37) (by decide +kernel))) rfl
theorem co_X11_find : Cond.code yX11_find cX11_find 2 (Option.some Jvm.ClassFile.FieldType.int) ∈ sw_U := sw_in (sw_t7 (List.mem_of_getElem? (i := 38) (by decide +kernel))) rfl
theorem ml_L_133 : Cond.methodLink RL 133 yX11_at ∈ sw_U := sw_in (sw_t7 (List.mem_of_getElem? (i := 39) (by decide +kernel))) rfl
theorem im_X11_at : Cond.instanceMethod yX11_at ∈ sw_U := sw_in (sw_t7 (List.mem_of_getElem? (i := 40) (by decide +kernel))) rfl
theorem se_X11_at : Cond.selects yX11_at.cls yX11_at yX11_at ∈ sw_U := sw_in (sw_t7 (List.mem_of_getElem? (i := 41) (by decide +kernel))) rfl
theorem co_X11_at : Cond.code yX11_at cX11_at 2 (Option.some Jvm.ClassFile.FieldType.int) ∈ sw_U := sw_in (sw_t7 (List.mem_of_getElem? (i := 42) (by decide +kernel))) rfl
theorem ml_X11_185 : Cond.methodLink RX11 185 yX11_kindOf ∈ sw_U := sw_in (sw_t7 (List.mem_of_getElem? (i := 43) (by decide +kernel))) rfl
theorem im_X11_kindOf : Cond.instanceMethod yX11_kindOf ∈ sw_U := sw_in (sw_t7 (List.mem_of_getElem? (i := 45) (by decide +kernel))) rfl
theorem co_X11_kindOf : Cond.code yX11_kindOf cX11_kindOf 2 (Option.some Jvm.ClassFile.FieldType.int) ∈ sw_U := sw_in (sw_t7 (List.mem_of_getElem? (i := 46) (by decide +kernel))) rfl
theorem ml_X11_182 : Cond.methodLink RX11 182 yX11_isLaid ∈ sw_U := sw_in (sw_t7 (List.mem_of_getElem? (i := 47) (by decide +kernel))) rfl
theorem im_X11_isLaid : Cond.instanceMethod yX11_isLaid ∈ sw_U := sw_in (sw_t7 (List.mem_of_getElem? (i := 49) (by decide +kernel))) rfl
theorem co_X11_isLaid : Cond.code yX11_isLaid cX11_isLaid 2 (Option.some Jvm.ClassFile.FieldType.boolean) ∈ sw_U := sw_in (sw_t7 (List.mem_of_getElem? (i := 50) (by decide +kernel))) rfl
theorem ml_L_137 : Cond.methodLink RL 137 yX11_cause ∈ sw_U := sw_in (sw_t7 (List.mem_of_getElem? (i := 51) (by decide +kernel))) rfl
theorem im_X11_cause : Cond.instanceMethod yX11_cause ∈ sw_U := sw_in (sw_t7 (List.mem_of_getElem? (i := 52) (by decide +kernel))) rfl
theorem se_X11_cause : Cond.selects yX11_cause.cls yX11_cause yX11_cause ∈ sw_U := sw_in (sw_t7 (List.mem_of_getElem? (i := 53) (by decide +kernel))) rfl
theorem co_X11_cause : Cond.code yX11_cause cX11_cause 2 (Option.some Jvm.ClassFile.FieldType.int) ∈ sw_U := sw_in (sw_t7 (List.mem_of_getElem? (i := 54) (by decide +kernel))) rfl
theorem ml_L_140 : Cond.methodLink RL 140 yX11_struck ∈ sw_U := sw_in (sw_t7 (List.mem_of_getElem? (i := 55) (by decide +kernel))) rfl
theorem im_X11_struck : Cond.instanceMethod yX11_struck ∈ sw_U := sw_in (sw_t7 (List.mem_of_getElem? (i := 56) (by decide +kernel))) rfl
theorem se_X11_struck : Cond.selects yX11_struck.cls yX11_struck yX11_struck ∈ sw_U := sw_in (sw_t7 (List.mem_of_getElem? (i := 57) (by decide +kernel))) rfl
theorem co_X11_struck : Cond.code yX11_struck cX11_struck 2 (Option.some Jvm.ClassFile.FieldType.int) ∈ sw_U := sw_in (sw_t7 (List.mem_of_getElem? (i := 58) (by decide +kernel))) rfl
theorem ml_L_144 : Cond.methodLink RL 144 yX11_spokeAt ∈ sw_U := sw_in (sw_t7 (List.mem_of_getElem? (i := 59) (by decide +kernel))) rfl
theorem im_X11_spokeAt : Cond.instanceMethod yX11_spokeAt ∈ sw_U := sw_in (sw_t7 (List.mem_of_getElem? (i := 60) (by decide +kernel))) rfl
theorem se_X11_spokeAt : Cond.selects yX11_spokeAt.cls yX11_spokeAt yX11_spokeAt ∈ sw_U := sw_in (sw_t7 (List.mem_of_getElem? (i := 61) (by decide +kernel))) rfl
theorem co_X11_spokeAt : Cond.code yX11_spokeAt cX11_spokeAt 4 (Option.some Jvm.ClassFile.FieldType.int) ∈ sw_U := sw_in (sw_t7 (List.mem_of_getElem? (i := 62) (by decide +kernel))) rfl
theorem ml_X11_188 : Cond.methodLink RX11 188 yX11_isCoprime ∈ sw_U := sw_in (sw_t7 (List.mem_of_getElem? (i := 63) (by decide +kernel))) rfl
theorem im_X11_isCoprime : Cond.instanceMethod yX11_isCoprime ∈ sw_U := sw_in (sw_t7 (List.mem_of_getElem? (i := 65) (by decide +kernel))) rfl
theorem co_X11_isCoprime : Cond.code yX11_isCoprime cX11_isCoprime 2 (Option.some Jvm.ClassFile.FieldType.boolean) ∈ sw_U := sw_in (sw_t7 (List.mem_of_getElem? (i := 66) (by decide +kernel))) rfl
theorem ml_L_148 : Cond.methodLink RL 148 yX11_spokeOf ∈ sw_U := sw_in (sw_t7 (List.mem_of_getElem? (i := 67) (by decide +kernel))) rfl
theorem im_X11_spokeOf : Cond.instanceMethod yX11_spokeOf ∈ sw_U := sw_in (sw_t7 (List.mem_of_getElem? (i := 68) (by decide +kernel))) rfl
theorem se_X11_spokeOf : Cond.selects yX11_spokeOf.cls yX11_spokeOf yX11_spokeOf ∈ sw_U := sw_in (sw_t7 (List.mem_of_getElem? (i := 69) (by decide +kernel))) rfl
theorem co_X11_spokeOf : Cond.code yX11_spokeOf cX11_spokeOf 6 (Option.some Jvm.ClassFile.FieldType.int) ∈ sw_U := sw_in (sw_t7 (List.mem_of_getElem? (i := 70) (by decide +kernel))) rfl
theorem ml_L_151 : Cond.methodLink RL 151 yX11_both ∈ sw_U := sw_in (sw_t7 (List.mem_of_getElem? (i := 71) (by decide +kernel))) rfl
theorem im_X11_both : Cond.instanceMethod yX11_both ∈ sw_U := sw_in (sw_t7 (List.mem_of_getElem? (i := 72) (by decide +kernel))) rfl
theorem se_X11_both : Cond.selects yX11_both.cls yX11_both yX11_both ∈ sw_U := sw_in (sw_t7 (List.mem_of_getElem? (i := 73) (by decide +kernel))) rfl
theorem co_X11_both : Cond.code yX11_both cX11_both 5 (Option.some Jvm.ClassFile.FieldType.int) ∈ sw_U := sw_in (sw_t7 (List.mem_of_getElem? (i := 74) (by decide +kernel))) rfl
theorem ml_L_154 : Cond.methodLink RL 154 yX11_meet ∈ sw_U := sw_in (sw_t7 (List.mem_of_getElem? (i := 75) (by decide +kernel))) rfl
theorem im_X11_meet : Cond.instanceMethod yX11_meet ∈ sw_U := sw_in (sw_t7 (List.mem_of_getElem? (i := 76) (by decide +kernel))) rfl
theorem se_X11_meet : Cond.selects yX11_meet.cls yX11_meet yX11_meet ∈ sw_U := sw_in (sw_t7 (List.mem_of_getElem? (i := 77) (by decide +kernel))) rfl
theorem co_X11_meet : Cond.code yX11_meet cX11_meet 4 (Option.some Jvm.ClassFile.FieldType.int) ∈ sw_U := sw_in (sw_t7 (List.mem_of_getElem? (i := 78) (by decide +kernel))) rfl
theorem ml_L_158 : Cond.methodLink RL 158 yX11_upTo ∈ sw_U := sw_in (sw_t7 (List.mem_of_getElem? (i := 79) (by decide +kernel))) rfl
theorem im_X11_upTo : Cond.instanceMethod yX11_upTo ∈ sw_U := sw_in (sw_t7 (List.mem_of_getElem? (i := 80) (by decide +kernel))) rfl
theorem se_X11_upTo : Cond.selects yX11_upTo.cls yX11_upTo yX11_upTo ∈ sw_U := sw_in (sw_t7 (List.mem_of_getElem? (i := 81) (by decide +kernel))) rfl
theorem co_X11_upTo : Cond.code yX11_upTo cX11_upTo 2 (Option.some Jvm.ClassFile.FieldType.int) ∈ sw_U := sw_in (sw_t7 (List.mem_of_getElem? (i := 82) (by decide +kernel))) rfl
theorem ml_L_162 : Cond.methodLink RL 162 yX11_mark ∈ sw_U := sw_in (sw_t7 (List.mem_of_getElem? (i := 83) (by decide +kernel))) rfl
theorem im_X11_mark : Cond.instanceMethod yX11_mark ∈ sw_U := sw_in (sw_t7 (List.mem_of_getElem? (i := 84) (by decide +kernel))) rfl
theorem se_X11_mark : Cond.selects yX11_mark.cls yX11_mark yX11_mark ∈ sw_U := sw_in (sw_t7 (List.mem_of_getElem? (i := 85) (by decide +kernel))) rfl
theorem co_X11_mark : Cond.code yX11_mark cX11_mark 4 (Option.some Jvm.ClassFile.FieldType.int) ∈ sw_U := sw_in (sw_t7 (List.mem_of_getElem? (i := 86) (by decide +kernel))) rfl
theorem ml_L_190 : Cond.methodLink RL 190 yX11_next ∈ sw_U := sw_in (sw_t7 (List.mem_of_getElem? (i := 87) (by decide +kernel))) rfl
theorem im_X11_next : Cond.instanceMethod yX11_next ∈ sw_U := sw_in (sw_t7 (List.mem_of_getElem? (i := 88) (by decide +kernel))) rfl
theorem se_X11_next : Cond.selects yX11_next.cls yX11_next yX11_next ∈ sw_U := sw_in (sw_t7 (List.mem_of_getElem? (i := 89) (by decide +kernel))) rfl
theorem co_X11_next : Cond.code yX11_next cX11_next 3 (Option.some Jvm.ClassFile.FieldType.int) ∈ sw_U := sw_in (sw_t7 (List.mem_of_getElem? (i := 90) (by decide +kernel))) rfl
theorem ml_L_193 : Cond.methodLink RL 193 yX11_gaps ∈ sw_U := sw_in (sw_t7 (List.mem_of_getElem? (i := 91) (by decide +kernel))) rfl
theorem im_X11_gaps : Cond.instanceMethod yX11_gaps ∈ sw_U := sw_in (sw_t7 (List.mem_of_getElem? (i := 92) (by decide +kernel))) rfl
theorem se_X11_gaps : Cond.selects yX11_gaps.cls yX11_gaps yX11_gaps ∈ sw_U := sw_in (sw_t7 (List.mem_of_getElem? (i := 93) (by decide +kernel))) rfl
theorem co_X11_gaps : Cond.code yX11_gaps cX11_gaps 5 (Option.some Jvm.ClassFile.FieldType.int) ∈ sw_U := sw_in (sw_t7 (List.mem_of_getElem? (i := 94) (by decide +kernel))) rfl
theorem ml_X11_191 : Cond.methodLink RX11 191 yX11_isGap ∈ sw_U := sw_in (sw_t7 (List.mem_of_getElem? (i := 95) (by decide +kernel))) rfl
theorem st_X11_isGap : Cond.static yX11_isGap ∈ sw_U := sw_in (sw_t7 (List.mem_of_getElem? (i := 96) (by decide +kernel))) rfl
theorem co_X11_isGap : Cond.code yX11_isGap cX11_isGap 1 (Option.some Jvm.ClassFile.FieldType.boolean) ∈ sw_U := sw_in (sw_t7 (List.mem_of_getElem? (i := 97) (by decide +kernel))) rfl
theorem ml_L_197 : Cond.methodLink RL 197 yX11_widest ∈ sw_U := sw_in (sw_t7 (List.mem_of_getElem? (i := 98) (by decide +kernel))) rfl
theorem im_X11_widest : Cond.instanceMethod yX11_widest ∈ sw_U := sw_in (sw_t7 (List.mem_of_getElem? (i := 99) (by decide +kernel))) rfl
theorem se_X11_widest : Cond.selects yX11_widest.cls yX11_widest yX11_widest ∈ sw_U := sw_in (sw_t7 (List.mem_of_getElem? (i := 100) (by decide +kernel))) rfl
theorem co_X11_widest : Cond.code yX11_widest cX11_widest 1 (Option.some Jvm.ClassFile.FieldType.int) ∈ sw_U := sw_in (sw_t7 (List.mem_of_getElem? (i := 101) (by decide +kernel))) rfl
theorem ml_X11_194 : Cond.methodLink RX11 194 yX11_greatestGap ∈ sw_U := sw_in (sw_t7 (List.mem_of_getElem? (i := 102) (by decide +kernel))) rfl
theorem im_X11_greatestGap : Cond.instanceMethod yX11_greatestGap ∈ sw_U := sw_in (sw_t7 (List.mem_of_getElem? (i := 104) (by decide +kernel))) rfl
theorem co_X11_greatestGap : Cond.code yX11_greatestGap cX11_greatestGap 6 (Option.some Jvm.ClassFile.FieldType.int) ∈ sw_U := sw_in (sw_t7 (List.mem_of_getElem? (i := 105) (by decide +kernel))) rfl
theorem ml_L_201 : Cond.methodLink RL 201 yX11_widestAt ∈ sw_U := sw_in (sw_t7 (List.mem_of_getElem? (i := 106) (by decide +kernel))) rfl
theorem im_X11_widestAt : Cond.instanceMethod yX11_widestAt ∈ sw_U := sw_in (sw_t7 (List.mem_of_getElem? (i := 107) (by decide +kernel))) rfl
theorem se_X11_widestAt : Cond.selects yX11_widestAt.cls yX11_widestAt yX11_widestAt ∈ sw_U := sw_in (sw_t7 (List.mem_of_getElem? (i := 108) (by decide +kernel))) rfl
theorem co_X11_widestAt : Cond.code yX11_widestAt cX11_widestAt 1 (Option.some Jvm.ClassFile.FieldType.int) ∈ sw_U := sw_in (sw_t7 (List.mem_of_getElem? (i := 109) (by decide +kernel))) rfl
theorem ml_L_204 : Cond.methodLink RL 204 yX11_twins ∈ sw_U := sw_in (sw_t7 (List.mem_of_getElem? (i := 110) (by decide +kernel))) rfl
theorem im_X11_twins : Cond.instanceMethod yX11_twins ∈ sw_U := sw_in (sw_t7 (List.mem_of_getElem? (i := 111) (by decide +kernel))) rfl
theorem se_X11_twins : Cond.selects yX11_twins.cls yX11_twins yX11_twins ∈ sw_U := sw_in (sw_t7 (List.mem_of_getElem? (i := 112) (by decide +kernel))) rfl
theorem co_X11_twins : Cond.code yX11_twins cX11_twins 4 (Option.some Jvm.ClassFile.FieldType.int) ∈ sw_U := sw_in (sw_t7 (List.mem_of_getElem? (i := 113) (by decide +kernel))) rfl
theorem ml_L_208 : Cond.methodLink RL 208 yX11_sums ∈ sw_U := sw_in (sw_t7 (List.mem_of_getElem? (i := 114) (by decide +kernel))) rfl
theorem im_X11_sums : Cond.instanceMethod yX11_sums ∈ sw_U := sw_in (sw_t7 (List.mem_of_getElem? (i := 115) (by decide +kernel))) rfl
theorem se_X11_sums : Cond.selects yX11_sums.cls yX11_sums yX11_sums ∈ sw_U := sw_in (sw_t7 (List.mem_of_getElem? (i := 116) (by decide +kernel))) rfl
theorem co_X11_sums : Cond.code yX11_sums cX11_sums 4 (Option.some Jvm.ClassFile.FieldType.int) ∈ sw_U := sw_in (sw_t7 (List.mem_of_getElem? (i := 117) (by decide +kernel))) rfl
theorem ml_X11_198 : Cond.methodLink RX11 198 yX11_sumFrom ∈ sw_U := sw_in (sw_t7 (List.mem_of_getElem? (i := 118) (by decide +kernel))) rfl
theorem im_X11_sumFrom : Cond.instanceMethod yX11_sumFrom ∈ sw_U := sw_in (sw_t7 (List.mem_of_getElem? (i := 120) (by decide +kernel))) rfl
theorem co_X11_sumFrom : Cond.code yX11_sumFrom cX11_sumFrom 4 (Option.some Jvm.ClassFile.FieldType.int) ∈ sw_U := sw_in (sw_t7 (List.mem_of_getElem? (i := 121) (by decide +kernel))) rfl
theorem ml_L_212 : Cond.methodLink RL 212 yX11_leastOf ∈ sw_U := sw_in (sw_t7 (List.mem_of_getElem? (i := 122) (by decide +kernel))) rfl
theorem im_X11_leastOf : Cond.instanceMethod yX11_leastOf ∈ sw_U := sw_in (sw_t7 (List.mem_of_getElem? (i := 123) (by decide +kernel))) rfl
theorem se_X11_leastOf : Cond.selects yX11_leastOf.cls yX11_leastOf yX11_leastOf ∈ sw_U := sw_in (sw_t7 (List.mem_of_getElem? (i := 124) (by decide +kernel))) rfl
theorem co_X11_leastOf : Cond.code yX11_leastOf cX11_leastOf 2 (Option.some Jvm.ClassFile.FieldType.int) ∈ sw_U := sw_in (sw_t7 (List.mem_of_getElem? (i := 125) (by decide +kernel))) rfl
theorem ml_L_215 : Cond.methodLink RL 215 yX11_thickest ∈ sw_U := sw_in (sw_t7 (List.mem_of_getElem? (i := 126) (by decide +kernel))) rfl
theorem im_X11_thickest : Cond.instanceMethod yX11_thickest ∈ sw_U := sw_in (sw_t7 (List.mem_of_getElem? (i := 127) (by decide +kernel))) rfl
theorem se_X11_thickest : Cond.selects yX11_thickest.cls yX11_thickest yX11_thickest ∈ sw_U := sw_in (sw_t7 (List.mem_of_getElem? (i := 128) (by decide +kernel))) rfl
theorem co_X11_thickest : Cond.code yX11_thickest cX11_thickest 5 (Option.some Jvm.ClassFile.FieldType.int) ∈ sw_U := sw_in (sw_t7 (List.mem_of_getElem? (i := 129) (by decide +kernel))) rfl
theorem ml_L_166 : Cond.methodLink RL 166 yX11_between ∈ sw_U := sw_in (sw_t7 (List.mem_of_getElem? (i := 130) (by decide +kernel))) rfl
theorem im_X11_between : Cond.instanceMethod yX11_between ∈ sw_U := sw_in (sw_t7 (List.mem_of_getElem? (i := 131) (by decide +kernel))) rfl
theorem se_X11_between : Cond.selects yX11_between.cls yX11_between yX11_between ∈ sw_U := sw_in (sw_t7 (List.mem_of_getElem? (i := 132) (by decide +kernel))) rfl
theorem co_X11_between : Cond.code yX11_between cX11_between 3 (Option.some Jvm.ClassFile.FieldType.int) ∈ sw_U := sw_in (sw_t7 (List.mem_of_getElem? (i := 133) (by decide +kernel))) rfl
theorem ml_L_170 : Cond.methodLink RL 170 yX11_divisor ∈ sw_U := sw_in (sw_t7 (List.mem_of_getElem? (i := 134) (by decide +kernel))) rfl
theorem im_X11_divisor : Cond.instanceMethod yX11_divisor ∈ sw_U := sw_in (sw_t7 (List.mem_of_getElem? (i := 135) (by decide +kernel))) rfl
theorem se_X11_divisor : Cond.selects yX11_divisor.cls yX11_divisor yX11_divisor ∈ sw_U := sw_in (sw_t7 (List.mem_of_getElem? (i := 136) (by decide +kernel))) rfl
theorem co_X11_divisor : Cond.code yX11_divisor cX11_divisor 2 (Option.some Jvm.ClassFile.FieldType.int) ∈ sw_U := sw_in (sw_t7 (List.mem_of_getElem? (i := 137) (by decide +kernel))) rfl
theorem ml_X11_201 : Cond.methodLink RX11 201 yX11_dividing ∈ sw_U := sw_in (sw_t7 (List.mem_of_getElem? (i := 138) (by decide +kernel))) rfl
theorem im_X11_dividing : Cond.instanceMethod yX11_dividing ∈ sw_U := sw_in (sw_t7 (List.mem_of_getElem? (i := 140) (by decide +kernel))) rfl
theorem co_X11_dividing : Cond.code yX11_dividing cX11_dividing 5 (Option.some Jvm.ClassFile.FieldType.int) ∈ sw_U := sw_in (sw_t7 (List.mem_of_getElem? (i := 141) (by decide +kernel))) rfl
theorem ml_L_174 : Cond.methodLink RL 174 yX11_divisors ∈ sw_U := sw_in (sw_t7 (List.mem_of_getElem? (i := 142) (by decide +kernel))) rfl
theorem im_X11_divisors : Cond.instanceMethod yX11_divisors ∈ sw_U := sw_in (sw_t7 (List.mem_of_getElem? (i := 143) (by decide +kernel))) rfl
theorem se_X11_divisors : Cond.selects yX11_divisors.cls yX11_divisors yX11_divisors ∈ sw_U := sw_in (sw_t7 (List.mem_of_getElem? (i := 144) (by decide +kernel))) rfl
theorem co_X11_divisors : Cond.code yX11_divisors cX11_divisors 2 (Option.some Jvm.ClassFile.FieldType.int) ∈ sw_U := sw_in (sw_t7 (List.mem_of_getElem? (i := 145) (by decide +kernel))) rfl
theorem ml_L_178 : Cond.methodLink RL 178 yX11_longest ∈ sw_U := sw_in (sw_t7 (List.mem_of_getElem? (i := 146) (by decide +kernel))) rfl
theorem im_X11_longest : Cond.instanceMethod yX11_longest ∈ sw_U := sw_in (sw_t7 (List.mem_of_getElem? (i := 147) (by decide +kernel))) rfl
theorem se_X11_longest : Cond.selects yX11_longest.cls yX11_longest yX11_longest ∈ sw_U := sw_in (sw_t7 (List.mem_of_getElem? (i := 148) (by decide +kernel))) rfl
theorem co_X11_longest : Cond.code yX11_longest cX11_longest 4 (Option.some Jvm.ClassFile.FieldType.int) ∈ sw_U := sw_in (sw_t7 (List.mem_of_getElem? (i := 149) (by decide +kernel))) rfl
theorem ml_L_182 : Cond.methodLink RL 182 yX11_chain ∈ sw_U := sw_in (sw_t7 (List.mem_of_getElem? (i := 150) (by decide +kernel))) rfl
theorem im_X11_chain : Cond.instanceMethod yX11_chain ∈ sw_U := sw_in (sw_t7 (List.mem_of_getElem? (i := 151) (by decide +kernel))) rfl
theorem se_X11_chain : Cond.selects yX11_chain.cls yX11_chain yX11_chain ∈ sw_U := sw_in (sw_t7 (List.mem_of_getElem? (i := 152) (by decide +kernel))) rfl
theorem co_X11_chain : Cond.code yX11_chain cX11_chain 4 (Option.some Jvm.ClassFile.FieldType.int) ∈ sw_U := sw_in (sw_t7 (List.mem_of_getElem? (i := 153) (by decide +kernel))) rfl
theorem ml_L_185 : Cond.methodLink RL 185 yX11_turn ∈ sw_U := sw_in (sw_t7 (List.mem_of_getElem? (i := 154) (by decide +kernel))) rfl
theorem im_X11_turn : Cond.instanceMethod yX11_turn ∈ sw_U := sw_in (sw_t7 (List.mem_of_getElem? (i := 155) (by decide +kernel))) rfl
theorem se_X11_turn : Cond.selects yX11_turn.cls yX11_turn yX11_turn ∈ sw_U := sw_in (sw_t7 (List.mem_of_getElem? (i := 156) (by decide +kernel))) rfl
theorem co_X11_turn : Cond.code yX11_turn cX11_turn 4 (Option.some Jvm.ClassFile.FieldType.int) ∈ sw_U := sw_in (sw_t7 (List.mem_of_getElem? (i := 157) (by decide +kernel))) rfl
theorem ml_L_219 : Cond.methodLink RL 219 yX11_wrong ∈ sw_U := sw_in (sw_t7 (List.mem_of_getElem? (i := 158) (by decide +kernel))) rfl
theorem im_X11_wrong : Cond.instanceMethod yX11_wrong ∈ sw_U := sw_in (sw_t7 (List.mem_of_getElem? (i := 159) (by decide +kernel))) rfl
theorem se_X11_wrong : Cond.selects yX11_wrong.cls yX11_wrong yX11_wrong ∈ sw_U := sw_in (sw_t7 (List.mem_of_getElem? (i := 160) (by decide +kernel))) rfl
theorem co_X11_wrong : Cond.code yX11_wrong cX11_wrong 1 (Option.some Jvm.ClassFile.FieldType.int) ∈ sw_U := sw_in (sw_t7 (List.mem_of_getElem? (i := 161) (by decide +kernel))) rfl
theorem ml_X11_205 : Cond.methodLink RX11 205 yX11_wrongOnes ∈ sw_U := sw_in (sw_t7 (List.mem_of_getElem? (i := 162) (by decide +kernel))) rfl
theorem im_X11_wrongOnes : Cond.instanceMethod yX11_wrongOnes ∈ sw_U := sw_in (sw_t7 (List.mem_of_getElem? (i := 164) (by decide +kernel))) rfl
theorem co_X11_wrongOnes : Cond.code yX11_wrongOnes cX11_wrongOnes 3 (Option.some Jvm.ClassFile.FieldType.int) ∈ sw_U := sw_in (sw_t7 (List.mem_of_getElem? (i := 165) (by decide +kernel))) rfl
theorem ml_L_223 : Cond.methodLink RL 223 yX11_firstWrong ∈ sw_U := sw_in (sw_t7 (List.mem_of_getElem? (i := 166) (by decide +kernel))) rfl
theorem im_X11_firstWrong : Cond.instanceMethod yX11_firstWrong ∈ sw_U := sw_in (sw_t7 (List.mem_of_getElem? (i := 167) (by decide +kernel))) rfl
theorem se_X11_firstWrong : Cond.selects yX11_firstWrong.cls yX11_firstWrong yX11_firstWrong ∈ sw_U := sw_in (sw_t7 (List.mem_of_getElem? (i := 168) (by decide +kernel))) rfl
theorem co_X11_firstWrong : Cond.code yX11_firstWrong cX11_firstWrong 2 (Option.some Jvm.ClassFile.FieldType.int) ∈ sw_U := sw_in (sw_t7 (List.mem_of_getElem? (i := 169) (by decide +kernel))) rfl
theorem ml_L_227 : Cond.methodLink RL 227 yX11_gap ∈ sw_U := sw_in (sw_t7 (List.mem_of_getElem? (i := 170) (by decide +kernel))) rfl
theorem im_X11_gap : Cond.instanceMethod yX11_gap ∈ sw_U := sw_in (sw_t7 (List.mem_of_getElem? (i := 171) (by decide +kernel))) rfl
theorem se_X11_gap : Cond.selects yX11_gap.cls yX11_gap yX11_gap ∈ sw_U := sw_in (sw_t7 (List.mem_of_getElem? (i := 172) (by decide +kernel))) rfl
theorem co_X11_gap : Cond.code yX11_gap cX11_gap 3 (Option.some Jvm.ClassFile.FieldType.int) ∈ sw_U := sw_in (sw_t7 (List.mem_of_getElem? (i := 173) (by decide +kernel))) rfl
theorem ml_L_231 : Cond.methodLink RL 231 yX11_missing ∈ sw_U := sw_in (sw_t7 (List.mem_of_getElem? (i := 174) (by decide +kernel))) rfl
theorem im_X11_missing : Cond.instanceMethod yX11_missing ∈ sw_U := sw_in (sw_t7 (List.mem_of_getElem? (i := 175) (by decide +kernel))) rfl
theorem se_X11_missing : Cond.selects yX11_missing.cls yX11_missing yX11_missing ∈ sw_U := sw_in (sw_t7 (List.mem_of_getElem? (i := 176) (by decide +kernel))) rfl
theorem co_X11_missing : Cond.code yX11_missing cX11_missing 1 (Option.some Jvm.ClassFile.FieldType.int) ∈ sw_U := sw_in (sw_t7 (List.mem_of_getElem? (i := 177) (by decide +kernel))) rfl
theorem ml_L_234 : Cond.methodLink RL 234 yX11_takes ∈ sw_U := sw_in (sw_t7 (List.mem_of_getElem? (i := 178) (by decide +kernel))) rfl
theorem im_X11_takes : Cond.instanceMethod yX11_takes ∈ sw_U := sw_in (sw_t7 (List.mem_of_getElem? (i := 179) (by decide +kernel))) rfl
theorem se_X11_takes : Cond.selects yX11_takes.cls yX11_takes yX11_takes ∈ sw_U := sw_in (sw_t7 (List.mem_of_getElem? (i := 180) (by decide +kernel))) rfl
theorem co_X11_takes : Cond.code yX11_takes cX11_takes 2 (Option.some Jvm.ClassFile.FieldType.int) ∈ sw_U := sw_in (sw_t7 (List.mem_of_getElem? (i := 181) (by decide +kernel))) rfl
theorem ml_X11_208 : Cond.methodLink RX11 208 yX11_isD ∈ sw_U := sw_in (sw_t7 (List.mem_of_getElem? (i := 182) (by decide +kernel))) rfl
theorem st_X11_isD : Cond.static yX11_isD ∈ sw_U := sw_in (sw_t7 (List.mem_of_getElem? (i := 183) (by decide +kernel))) rfl
theorem co_X11_isD : Cond.code yX11_isD cX11_isD 1 (Option.some Jvm.ClassFile.FieldType.boolean) ∈ sw_U := sw_in (sw_t7 (List.mem_of_getElem? (i := 184) (by decide +kernel))) rfl
theorem ml_X11_211 : Cond.methodLink RX11 211 yX11_takenBy ∈ sw_U := sw_in (sw_t7 (List.mem_of_getElem? (i := 185) (by decide +kernel))) rfl
theorem im_X11_takenBy : Cond.instanceMethod yX11_takenBy ∈ sw_U := sw_in (sw_t7 (List.mem_of_getElem? (i := 187) (by decide +kernel))) rfl
theorem co_X11_takenBy : Cond.code yX11_takenBy cX11_takenBy 4 (Option.some Jvm.ClassFile.FieldType.int) ∈ sw_U := sw_in (sw_t7 (List.mem_of_getElem? (i := 188) (by decide +kernel))) rfl
theorem ml_L_237 : Cond.methodLink RL 237 yX11_gives ∈ sw_U := sw_in (sw_t7 (List.mem_of_getElem? (i := 189) (by decide +kernel))) rfl
theorem im_X11_gives : Cond.instanceMethod yX11_gives ∈ sw_U := sw_in (sw_t7 (List.mem_of_getElem? (i := 190) (by decide +kernel))) rfl
theorem se_X11_gives : Cond.selects yX11_gives.cls yX11_gives yX11_gives ∈ sw_U := sw_in (sw_t7 (List.mem_of_getElem? (i := 191) (by decide +kernel))) rfl
theorem co_X11_gives : Cond.code yX11_gives cX11_gives 2 (Option.some Jvm.ClassFile.FieldType.int) ∈ sw_U := sw_in (sw_t7 (List.mem_of_getElem? (i := 192) (by decide +kernel))) rfl
theorem ml_X11_214 : Cond.methodLink RX11 214 yX11_ownedAlone ∈ sw_U := sw_in (sw_t7 (List.mem_of_getElem? (i := 193) (by decide +kernel))) rfl
theorem im_X11_ownedAlone : Cond.instanceMethod yX11_ownedAlone ∈ sw_U := sw_in (sw_t7 (List.mem_of_getElem? (i := 195) (by decide +kernel))) rfl
theorem co_X11_ownedAlone : Cond.code yX11_ownedAlone cX11_ownedAlone 4 (Option.some Jvm.ClassFile.FieldType.int) ∈ sw_U := sw_in (sw_t7 (List.mem_of_getElem? (i := 196) (by decide +kernel))) rfl
theorem ml_L_241 : Cond.methodLink RL 241 yX11_best ∈ sw_U := sw_in (sw_t7 (List.mem_of_getElem? (i := 197) (by decide +kernel))) rfl
theorem im_X11_best : Cond.instanceMethod yX11_best ∈ sw_U := sw_in (sw_t7 (List.mem_of_getElem? (i := 198) (by decide +kernel))) rfl
theorem se_X11_best : Cond.selects yX11_best.cls yX11_best yX11_best ∈ sw_U := sw_in (sw_t7 (List.mem_of_getElem? (i := 199) (by decide +kernel))) rfl
theorem co_X11_best : Cond.code yX11_best cX11_best 5 (Option.some Jvm.ClassFile.FieldType.int) ∈ sw_U := sw_in (sw_t7 (List.mem_of_getElem? (i := 200) (by decide +kernel))) rfl
theorem ml_L_244 : Cond.methodLink RL 244 yX11_marksNext ∈ sw_U := sw_in (sw_t7 (List.mem_of_getElem? (i := 201) (by decide +kernel))) rfl
theorem im_X11_marksNext : Cond.instanceMethod yX11_marksNext ∈ sw_U := sw_in (sw_t7 (List.mem_of_getElem? (i := 202) (by decide +kernel))) rfl
theorem se_X11_marksNext : Cond.selects yX11_marksNext.cls yX11_marksNext yX11_marksNext ∈ sw_U := sw_in (sw_t7 (List.mem_of_getElem? (i := 203) (by decide +kernel))) rfl
theorem co_X11_marksNext : Cond.code yX11_marksNext cX11_marksNext 3 (Option.some Jvm.ClassFile.FieldType.int) ∈ sw_U := sw_in (sw_t7 (List.mem_of_getElem? (i := 204) (by decide +kernel))) rfl
theorem ml_X11_217 : Cond.methodLink RX11 217 yX11_isRoom ∈ sw_U := sw_in (sw_t7 (List.mem_of_getElem? (i := 205) (by decide +kernel))) rfl
theorem st_X11_isRoom : Cond.static yX11_isRoom ∈ sw_U := sw_in (sw_t7 (List.mem_of_getElem? (i := 206) (by decide +kernel))) rfl
theorem co_X11_isRoom : Cond.code yX11_isRoom cX11_isRoom 1 (Option.some Jvm.ClassFile.FieldType.boolean) ∈ sw_U := sw_in (sw_t7 (List.mem_of_getElem? (i := 207) (by decide +kernel))) rfl
theorem ml_L_248 : Cond.methodLink RL 248 yX11_leastWheel ∈ sw_U := sw_in (sw_t7 (List.mem_of_getElem? (i := 208) (by decide +kernel))) rfl
theorem im_X11_leastWheel : Cond.instanceMethod yX11_leastWheel ∈ sw_U := sw_in (sw_t7 (List.mem_of_getElem? (i := 209) (by decide +kernel))) rfl
theorem se_X11_leastWheel : Cond.selects yX11_leastWheel.cls yX11_leastWheel yX11_leastWheel ∈ sw_U := sw_in (sw_t7 (List.mem_of_getElem? (i := 210) (by decide +kernel))) rfl
theorem co_X11_leastWheel : Cond.code yX11_leastWheel cX11_leastWheel 4 (Option.some Jvm.ClassFile.FieldType.int) ∈ sw_U := sw_in (sw_t7 (List.mem_of_getElem? (i := 211) (by decide +kernel))) rfl
theorem ml_L_252 : Cond.methodLink RL 252 yX11_shareBits ∈ sw_U := sw_in (sw_t7 (List.mem_of_getElem? (i := 212) (by decide +kernel))) rfl
theorem im_X11_shareBits : Cond.instanceMethod yX11_shareBits ∈ sw_U := sw_in (sw_t7 (List.mem_of_getElem? (i := 213) (by decide +kernel))) rfl
theorem se_X11_shareBits : Cond.selects yX11_shareBits.cls yX11_shareBits yX11_shareBits ∈ sw_U := sw_in (sw_t7 (List.mem_of_getElem? (i := 214) (by decide +kernel))) rfl
theorem co_X11_shareBits : Cond.code yX11_shareBits cX11_shareBits 3 (Option.some Jvm.ClassFile.FieldType.int) ∈ sw_U := sw_in (sw_t7 (List.mem_of_getElem? (i := 215) (by decide +kernel))) rfl
theorem ml_X11_220 : Cond.methodLink RX11 220 yJxf58ca_floatToIntBits_5c35a ∈ sw_U := sw_in (sw_t7 (List.mem_of_getElem? (i := 216) (by decide +kernel))) rfl
theorem st_Jxf58ca_floatToIntBits_5c35a : Cond.static yJxf58ca_floatToIntBits_5c35a ∈ sw_U := sw_in (sw_t7 (List.mem_of_getElem? (i := 217) (by decide +kernel))) rfl
theorem co_Jxf58ca_floatToIntBits_5c35a : Cond.code yJxf58ca_floatToIntBits_5c35a cJxf58ca_floatToIntBits_5c35a 1 (Option.some Jvm.ClassFile.FieldType.int) ∈ sw_U := sw_in (sw_t7 (List.mem_of_getElem? (i := 218) (by decide +kernel))) rfl
theorem ml_Jxf58ca_59 : Cond.methodLink RJxf58ca 59 yJxf58ca_isNaN_12338 ∈ sw_U := sw_in (sw_t7 (List.mem_of_getElem? (i := 219) (by decide +kernel))) rfl
theorem st_Jxf58ca_isNaN_12338 : Cond.static yJxf58ca_isNaN_12338 ∈ sw_U := sw_in (sw_t7 (List.mem_of_getElem? (i := 220) (by decide +kernel))) rfl
theorem co_Jxf58ca_isNaN_12338 : Cond.code yJxf58ca_isNaN_12338 cJxf58ca_isNaN_12338 1 (Option.some Jvm.ClassFile.FieldType.boolean) ∈ sw_U := sw_in (sw_t7 (List.mem_of_getElem? (i := 221) (by decide +kernel))) rfl
theorem ml_Jxf58ca_74 : Cond.methodLink RJxf58ca 74 ⟨"java/lang/Float", "floatToRawIntBits", "(F)I"⟩ ∈ sw_U := sw_in (sw_t7 (List.mem_of_getElem? (i := 222) (by decide +kernel))) rfl
theorem ml_L_257 : Cond.methodLink RL 257 yX11_useful ∈ sw_U := sw_in (sw_t7 (List.mem_of_getElem? (i := 226) (by decide +kernel))) rfl
theorem im_X11_useful : Cond.instanceMethod yX11_useful ∈ sw_U := sw_in (sw_t7 (List.mem_of_getElem? (i := 227) (by decide +kernel))) rfl
theorem se_X11_useful : Cond.selects yX11_useful.cls yX11_useful yX11_useful ∈ sw_U := sw_in (sw_t7 (List.mem_of_getElem? (i := 228) (by decide +kernel))) rfl
theorem co_X11_useful : Cond.code yX11_useful cX11_useful 4 (Option.some Jvm.ClassFile.FieldType.double) ∈ sw_U := sw_in (sw_t7 (List.mem_of_getElem? (i := 229) (by decide +kernel))) rfl
theorem ml_L_262 : Cond.methodLink RL 262 yX11_spokeShare ∈ sw_U := sw_in (sw_t7 (List.mem_of_getElem? (i := 230) (by decide +kernel))) rfl
theorem im_X11_spokeShare : Cond.instanceMethod yX11_spokeShare ∈ sw_U := sw_in (sw_t7 (List.mem_of_getElem? (i := 231) (by decide +kernel))) rfl
theorem se_X11_spokeShare : Cond.selects yX11_spokeShare.cls yX11_spokeShare yX11_spokeShare ∈ sw_U := sw_in (sw_t7 (List.mem_of_getElem? (i := 232) (by decide +kernel))) rfl
theorem co_X11_spokeShare : Cond.code yX11_spokeShare cX11_spokeShare 2 (Option.some Jvm.ClassFile.FieldType.float) ∈ sw_U := sw_in (sw_t7 (List.mem_of_getElem? (i := 233) (by decide +kernel))) rfl
theorem ml_L_265 : Cond.methodLink RL 265 yX11_lay ∈ sw_U := sw_in (sw_t7 (List.mem_of_getElem? (i := 234) (by decide +kernel))) rfl
theorem im_X11_lay : Cond.instanceMethod yX11_lay ∈ sw_U := sw_in (sw_t7 (List.mem_of_getElem? (i := 235) (by decide +kernel))) rfl
theorem se_X11_lay : Cond.selects yX11_lay.cls yX11_lay yX11_lay ∈ sw_U := sw_in (sw_t7 (List.mem_of_getElem? (i := 236) (by decide +kernel))) rfl
theorem co_X11_lay : Cond.code yX11_lay cX11_lay 2 (Option.some Jvm.ClassFile.FieldType.int) ∈ sw_U := sw_in (sw_t7 (List.mem_of_getElem? (i := 237) (by decide +kernel))) rfl
theorem ml_X11_251 : Cond.methodLink RX11 251 yX11_keep ∈ sw_U := sw_in (sw_t7 (List.mem_of_getElem? (i := 238) (by decide +kernel))) rfl
theorem im_X11_keep : Cond.instanceMethod yX11_keep ∈ sw_U := sw_in (sw_t8 (List.mem_of_getElem? (i := 0) (by decide +kernel))) rfl
theorem co_X11_keep : Cond.code yX11_keep cX11_keep 1 (Option.none : Option Jvm.ClassFile.FieldType) ∈ sw_U := sw_in (sw_t8 (List.mem_of_getElem? (i := 1) (by decide +kernel))) rfl
theorem ml_X11_241 : Cond.methodLink RX11 241 yX11_copy ∈ sw_U := sw_in (sw_t8 (List.mem_of_getElem? (i := 2) (by decide +kernel))) rfl
theorem st_X11_copy : Cond.static yX11_copy ∈ sw_U := sw_in (sw_t8 (List.mem_of_getElem? (i := 3) (by decide +kernel))) rfl
theorem co_X11_copy : Cond.code yX11_copy cX11_copy 4 (Option.none : Option Jvm.ClassFile.FieldType) ∈ sw_U := sw_in (sw_t8 (List.mem_of_getElem? (i := 4) (by decide +kernel))) rfl
theorem ml_X11_235 : Cond.methodLink RX11 235 ⟨"java/lang/System", "arraycopy", "(Ljava/lang/Object;ILjava/lang/Object;II)V"⟩ ∈ sw_U := sw_in (sw_t8 (List.mem_of_getElem? (i := 5) (by decide +kernel))) rfl
theorem ml_X11_254 : Cond.methodLink RX11 254 yX11_doLay ∈ sw_U := sw_in (sw_t8 (List.mem_of_getElem? (i := 6) (by decide +kernel))) rfl
theorem im_X11_doLay : Cond.instanceMethod yX11_doLay ∈ sw_U := sw_in (sw_t8 (List.mem_of_getElem? (i := 8) (by decide +kernel))) rfl
theorem co_X11_doLay : Cond.code yX11_doLay cX11_doLay 3 (Option.some Jvm.ClassFile.FieldType.int) ∈ sw_U := sw_in (sw_t8 (List.mem_of_getElem? (i := 9) (by decide +kernel))) rfl
theorem ml_X11_226 : Cond.methodLink RX11 226 yX11_ends ∈ sw_U := sw_in (sw_t8 (List.mem_of_getElem? (i := 10) (by decide +kernel))) rfl
theorem im_X11_ends : Cond.instanceMethod yX11_ends ∈ sw_U := sw_in (sw_t8 (List.mem_of_getElem? (i := 12) (by decide +kernel))) rfl
theorem co_X11_ends : Cond.code yX11_ends cX11_ends 2 (Option.some Jvm.ClassFile.FieldType.int) ∈ sw_U := sw_in (sw_t8 (List.mem_of_getElem? (i := 13) (by decide +kernel))) rfl
theorem ml_X11_257 : Cond.methodLink RX11 257 yX11_recorded ∈ sw_U := sw_in (sw_t8 (List.mem_of_getElem? (i := 14) (by decide +kernel))) rfl
theorem im_X11_recorded : Cond.instanceMethod yX11_recorded ∈ sw_U := sw_in (sw_t8 (List.mem_of_getElem? (i := 16) (by decide +kernel))) rfl
theorem co_X11_recorded : Cond.code yX11_recorded cX11_recorded 2 (Option.some Jvm.ClassFile.FieldType.int) ∈ sw_U := sw_in (sw_t8 (List.mem_of_getElem? (i := 17) (by decide +kernel))) rfl
theorem ml_X11_248 : Cond.methodLink RX11 248 yX11_record ∈ sw_U := sw_in (sw_t8 (List.mem_of_getElem? (i := 18) (by decide +kernel))) rfl
theorem im_X11_record : Cond.instanceMethod yX11_record ∈ sw_U := sw_in (sw_t8 (List.mem_of_getElem? (i := 20) (by decide +kernel))) rfl
theorem co_X11_record : Cond.code yX11_record cX11_record 2 (Option.none : Option Jvm.ClassFile.FieldType) ∈ sw_U := sw_in (sw_t8 (List.mem_of_getElem? (i := 21) (by decide +kernel))) rfl
theorem ml_L_269 : Cond.methodLink RL 269 yX11_drop ∈ sw_U := sw_in (sw_t8 (List.mem_of_getElem? (i := 22) (by decide +kernel))) rfl
theorem im_X11_drop : Cond.instanceMethod yX11_drop ∈ sw_U := sw_in (sw_t8 (List.mem_of_getElem? (i := 23) (by decide +kernel))) rfl
theorem se_X11_drop : Cond.selects yX11_drop.cls yX11_drop yX11_drop ∈ sw_U := sw_in (sw_t8 (List.mem_of_getElem? (i := 24) (by decide +kernel))) rfl
theorem co_X11_drop : Cond.code yX11_drop cX11_drop 1 (Option.some Jvm.ClassFile.FieldType.int) ∈ sw_U := sw_in (sw_t8 (List.mem_of_getElem? (i := 25) (by decide +kernel))) rfl
theorem ml_X11_260 : Cond.methodLink RX11 260 yX11_doDrop ∈ sw_U := sw_in (sw_t8 (List.mem_of_getElem? (i := 26) (by decide +kernel))) rfl
theorem im_X11_doDrop : Cond.instanceMethod yX11_doDrop ∈ sw_U := sw_in (sw_t8 (List.mem_of_getElem? (i := 28) (by decide +kernel))) rfl
theorem co_X11_doDrop : Cond.code yX11_doDrop cX11_doDrop 1 (Option.some Jvm.ClassFile.FieldType.int) ∈ sw_U := sw_in (sw_t8 (List.mem_of_getElem? (i := 29) (by decide +kernel))) rfl
theorem ml_L_278 : Cond.methodLink RL 278 yX11_add ∈ sw_U := sw_in (sw_t8 (List.mem_of_getElem? (i := 30) (by decide +kernel))) rfl
theorem im_X11_add : Cond.instanceMethod yX11_add ∈ sw_U := sw_in (sw_t8 (List.mem_of_getElem? (i := 31) (by decide +kernel))) rfl
theorem se_X11_add : Cond.selects yX11_add.cls yX11_add yX11_add ∈ sw_U := sw_in (sw_t8 (List.mem_of_getElem? (i := 32) (by decide +kernel))) rfl
theorem co_X11_add : Cond.code yX11_add cX11_add 2 (Option.some Jvm.ClassFile.FieldType.int) ∈ sw_U := sw_in (sw_t8 (List.mem_of_getElem? (i := 33) (by decide +kernel))) rfl
theorem ml_X11_263 : Cond.methodLink RX11 263 yX11_doAdd ∈ sw_U := sw_in (sw_t8 (List.mem_of_getElem? (i := 34) (by decide +kernel))) rfl
theorem im_X11_doAdd : Cond.instanceMethod yX11_doAdd ∈ sw_U := sw_in (sw_t8 (List.mem_of_getElem? (i := 36) (by decide +kernel))) rfl
theorem co_X11_doAdd : Cond.code yX11_doAdd cX11_doAdd 2 (Option.some Jvm.ClassFile.FieldType.int) ∈ sw_U := sw_in (sw_t8 (List.mem_of_getElem? (i := 37) (by decide +kernel))) rfl
theorem ml_X11_229 : Cond.methodLink RX11 229 yX11_newStriker ∈ sw_U := sw_in (sw_t8 (List.mem_of_getElem? (i := 38) (by decide +kernel))) rfl
theorem im_X11_newStriker : Cond.instanceMethod yX11_newStriker ∈ sw_U := sw_in (sw_t8 (List.mem_of_getElem? (i := 40) (by decide +kernel))) rfl
theorem co_X11_newStriker : Cond.code yX11_newStriker cX11_newStriker 2 (Option.none : Option Jvm.ClassFile.FieldType) ∈ sw_U := sw_in (sw_t8 (List.mem_of_getElem? (i := 41) (by decide +kernel))) rfl
theorem ml_L_281 : Cond.methodLink RL 281 yX11_lift ∈ sw_U := sw_in (sw_t8 (List.mem_of_getElem? (i := 42) (by decide +kernel))) rfl
theorem im_X11_lift : Cond.instanceMethod yX11_lift ∈ sw_U := sw_in (sw_t8 (List.mem_of_getElem? (i := 43) (by decide +kernel))) rfl
theorem se_X11_lift : Cond.selects yX11_lift.cls yX11_lift yX11_lift ∈ sw_U := sw_in (sw_t8 (List.mem_of_getElem? (i := 44) (by decide +kernel))) rfl
theorem co_X11_lift : Cond.code yX11_lift cX11_lift 2 (Option.some Jvm.ClassFile.FieldType.int) ∈ sw_U := sw_in (sw_t8 (List.mem_of_getElem? (i := 45) (by decide +kernel))) rfl
theorem ml_X11_266 : Cond.methodLink RX11 266 yX11_doLift ∈ sw_U := sw_in (sw_t8 (List.mem_of_getElem? (i := 46) (by decide +kernel))) rfl
theorem im_X11_doLift : Cond.instanceMethod yX11_doLift ∈ sw_U := sw_in (sw_t8 (List.mem_of_getElem? (i := 48) (by decide +kernel))) rfl
theorem co_X11_doLift : Cond.code yX11_doLift cX11_doLift 4 (Option.some Jvm.ClassFile.FieldType.int) ∈ sw_U := sw_in (sw_t8 (List.mem_of_getElem? (i := 49) (by decide +kernel))) rfl
theorem ml_X11_232 : Cond.methodLink RX11 232 yX11_removeStriker ∈ sw_U := sw_in (sw_t8 (List.mem_of_getElem? (i := 50) (by decide +kernel))) rfl
theorem im_X11_removeStriker : Cond.instanceMethod yX11_removeStriker ∈ sw_U := sw_in (sw_t8 (List.mem_of_getElem? (i := 52) (by decide +kernel))) rfl
theorem co_X11_removeStriker : Cond.code yX11_removeStriker cX11_removeStriker 3 (Option.none : Option Jvm.ClassFile.FieldType) ∈ sw_U := sw_in (sw_t8 (List.mem_of_getElem? (i := 53) (by decide +kernel))) rfl
theorem ml_L_284 : Cond.methodLink RL 284 yX11_first ∈ sw_U := sw_in (sw_t8 (List.mem_of_getElem? (i := 54) (by decide +kernel))) rfl
theorem im_X11_first : Cond.instanceMethod yX11_first ∈ sw_U := sw_in (sw_t8 (List.mem_of_getElem? (i := 55) (by decide +kernel))) rfl
theorem se_X11_first : Cond.selects yX11_first.cls yX11_first yX11_first ∈ sw_U := sw_in (sw_t8 (List.mem_of_getElem? (i := 56) (by decide +kernel))) rfl
theorem co_X11_first : Cond.code yX11_first cX11_first 2 (Option.some Jvm.ClassFile.FieldType.int) ∈ sw_U := sw_in (sw_t8 (List.mem_of_getElem? (i := 57) (by decide +kernel))) rfl
theorem ml_X11_269 : Cond.methodLink RX11 269 yX11_doFirst ∈ sw_U := sw_in (sw_t8 (List.mem_of_getElem? (i := 58) (by decide +kernel))) rfl
theorem im_X11_doFirst : Cond.instanceMethod yX11_doFirst ∈ sw_U := sw_in (sw_t8 (List.mem_of_getElem? (i := 60) (by decide +kernel))) rfl
theorem co_X11_doFirst : Cond.code yX11_doFirst cX11_doFirst 4 (Option.some Jvm.ClassFile.FieldType.int) ∈ sw_U := sw_in (sw_t8 (List.mem_of_getElem? (i := 61) (by decide +kernel))) rfl
theorem ml_L_272 : Cond.methodLink RL 272 yX11_trim ∈ sw_U := sw_in (sw_t8 (List.mem_of_getElem? (i := 62) (by decide +kernel))) rfl
theorem im_X11_trim : Cond.instanceMethod yX11_trim ∈ sw_U := sw_in (sw_t8 (List.mem_of_getElem? (i := 63) (by decide +kernel))) rfl
theorem se_X11_trim : Cond.selects yX11_trim.cls yX11_trim yX11_trim ∈ sw_U := sw_in (sw_t8 (List.mem_of_getElem? (i := 64) (by decide +kernel))) rfl
theorem co_X11_trim : Cond.code yX11_trim cX11_trim 2 (Option.some Jvm.ClassFile.FieldType.int) ∈ sw_U := sw_in (sw_t8 (List.mem_of_getElem? (i := 65) (by decide +kernel))) rfl
theorem ml_X11_272 : Cond.methodLink RX11 272 yX11_doTrim ∈ sw_U := sw_in (sw_t8 (List.mem_of_getElem? (i := 66) (by decide +kernel))) rfl
theorem im_X11_doTrim : Cond.instanceMethod yX11_doTrim ∈ sw_U := sw_in (sw_t8 (List.mem_of_getElem? (i := 68) (by decide +kernel))) rfl
theorem co_X11_doTrim : Cond.code yX11_doTrim cX11_doTrim 3 (Option.some Jvm.ClassFile.FieldType.int) ∈ sw_U := sw_in (sw_t8 (List.mem_of_getElem? (i := 69) (by decide +kernel))) rfl
theorem ml_L_275 : Cond.methodLink RL 275 yX11_swap ∈ sw_U := sw_in (sw_t8 (List.mem_of_getElem? (i := 70) (by decide +kernel))) rfl
theorem im_X11_swap : Cond.instanceMethod yX11_swap ∈ sw_U := sw_in (sw_t8 (List.mem_of_getElem? (i := 71) (by decide +kernel))) rfl
theorem se_X11_swap : Cond.selects yX11_swap.cls yX11_swap yX11_swap ∈ sw_U := sw_in (sw_t8 (List.mem_of_getElem? (i := 72) (by decide +kernel))) rfl
theorem co_X11_swap : Cond.code yX11_swap cX11_swap 3 (Option.some Jvm.ClassFile.FieldType.int) ∈ sw_U := sw_in (sw_t8 (List.mem_of_getElem? (i := 73) (by decide +kernel))) rfl
theorem ml_X11_275 : Cond.methodLink RX11 275 yX11_doSwap ∈ sw_U := sw_in (sw_t8 (List.mem_of_getElem? (i := 74) (by decide +kernel))) rfl
theorem im_X11_doSwap : Cond.instanceMethod yX11_doSwap ∈ sw_U := sw_in (sw_t8 (List.mem_of_getElem? (i := 76) (by decide +kernel))) rfl
theorem co_X11_doSwap : Cond.code yX11_doSwap cX11_doSwap 7 (Option.some Jvm.ClassFile.FieldType.int) ∈ sw_U := sw_in (sw_t8 (List.mem_of_getElem? (i := 77) (by decide +kernel))) rfl
theorem ml_L_287 : Cond.methodLink RL 287 yX11_wheel ∈ sw_U := sw_in (sw_t8 (List.mem_of_getElem? (i := 78) (by decide +kernel))) rfl
theorem im_X11_wheel : Cond.instanceMethod yX11_wheel ∈ sw_U := sw_in (sw_t8 (List.mem_of_getElem? (i := 79) (by decide +kernel))) rfl
theorem se_X11_wheel : Cond.selects yX11_wheel.cls yX11_wheel yX11_wheel ∈ sw_U := sw_in (sw_t8 (List.mem_of_getElem? (i := 80) (by decide +kernel))) rfl
theorem co_X11_wheel : Cond.code yX11_wheel cX11_wheel 2 (Option.some Jvm.ClassFile.FieldType.int) ∈ sw_U := sw_in (sw_t8 (List.mem_of_getElem? (i := 81) (by decide +kernel))) rfl
theorem ml_X11_278 : Cond.methodLink RX11 278 yX11_doWheel ∈ sw_U := sw_in (sw_t8 (List.mem_of_getElem? (i := 82) (by decide +kernel))) rfl
theorem im_X11_doWheel : Cond.instanceMethod yX11_doWheel ∈ sw_U := sw_in (sw_t8 (List.mem_of_getElem? (i := 84) (by decide +kernel))) rfl
theorem co_X11_doWheel : Cond.code yX11_doWheel cX11_doWheel 3 (Option.some Jvm.ClassFile.FieldType.int) ∈ sw_U := sw_in (sw_t8 (List.mem_of_getElem? (i := 85) (by decide +kernel))) rfl
theorem ml_L_290 : Cond.methodLink RL 290 yX11_fill ∈ sw_U := sw_in (sw_t8 (List.mem_of_getElem? (i := 86) (by decide +kernel))) rfl
theorem im_X11_fill : Cond.instanceMethod yX11_fill ∈ sw_U := sw_in (sw_t8 (List.mem_of_getElem? (i := 87) (by decide +kernel))) rfl
theorem se_X11_fill : Cond.selects yX11_fill.cls yX11_fill yX11_fill ∈ sw_U := sw_in (sw_t8 (List.mem_of_getElem? (i := 88) (by decide +kernel))) rfl
theorem co_X11_fill : Cond.code yX11_fill cX11_fill 2 (Option.some Jvm.ClassFile.FieldType.int) ∈ sw_U := sw_in (sw_t8 (List.mem_of_getElem? (i := 89) (by decide +kernel))) rfl
theorem ml_X11_281 : Cond.methodLink RX11 281 yX11_doFill ∈ sw_U := sw_in (sw_t8 (List.mem_of_getElem? (i := 90) (by decide +kernel))) rfl
theorem im_X11_doFill : Cond.instanceMethod yX11_doFill ∈ sw_U := sw_in (sw_t8 (List.mem_of_getElem? (i := 92) (by decide +kernel))) rfl
theorem co_X11_doFill : Cond.code yX11_doFill cX11_doFill 4 (Option.some Jvm.ClassFile.FieldType.int) ∈ sw_U := sw_in (sw_t8 (List.mem_of_getElem? (i := 93) (by decide +kernel))) rfl
theorem ml_L_294 : Cond.methodLink RL 294 yX11_tidy ∈ sw_U := sw_in (sw_t8 (List.mem_of_getElem? (i := 94) (by decide +kernel))) rfl
theorem im_X11_tidy : Cond.instanceMethod yX11_tidy ∈ sw_U := sw_in (sw_t8 (List.mem_of_getElem? (i := 95) (by decide +kernel))) rfl
theorem se_X11_tidy : Cond.selects yX11_tidy.cls yX11_tidy yX11_tidy ∈ sw_U := sw_in (sw_t8 (List.mem_of_getElem? (i := 96) (by decide +kernel))) rfl
theorem co_X11_tidy : Cond.code yX11_tidy cX11_tidy 1 (Option.some Jvm.ClassFile.FieldType.int) ∈ sw_U := sw_in (sw_t8 (List.mem_of_getElem? (i := 97) (by decide +kernel))) rfl
theorem ml_X11_284 : Cond.methodLink RX11 284 yX11_doTidy ∈ sw_U := sw_in (sw_t8 (List.mem_of_getElem? (i := 98) (by decide +kernel))) rfl
theorem im_X11_doTidy : Cond.instanceMethod yX11_doTidy ∈ sw_U := sw_in (sw_t8 (List.mem_of_getElem? (i := 100) (by decide +kernel))) rfl
theorem co_X11_doTidy : Cond.code yX11_doTidy cX11_doTidy 3 (Option.some Jvm.ClassFile.FieldType.int) ∈ sw_U := sw_in (sw_t8 (List.mem_of_getElem? (i := 101) (by decide +kernel))) rfl
theorem ml_L_300 : Cond.methodLink RL 300 yX11_format ∈ sw_U := sw_in (sw_t8 (List.mem_of_getElem? (i := 102) (by decide +kernel))) rfl
theorem im_X11_format : Cond.instanceMethod yX11_format ∈ sw_U := sw_in (sw_t8 (List.mem_of_getElem? (i := 103) (by decide +kernel))) rfl
theorem se_X11_format : Cond.selects yX11_format.cls yX11_format yX11_format ∈ sw_U := sw_in (sw_t8 (List.mem_of_getElem? (i := 104) (by decide +kernel))) rfl
theorem co_X11_format : Cond.code yX11_format cX11_format 4 (Option.some Jvm.ClassFile.FieldType.int) ∈ sw_U := sw_in (sw_t8 (List.mem_of_getElem? (i := 105) (by decide +kernel))) rfl
theorem ml_X11_290 : Cond.methodLink RX11 290 yX11_write ∈ sw_U := sw_in (sw_t8 (List.mem_of_getElem? (i := 106) (by decide +kernel))) rfl
theorem im_X11_write : Cond.instanceMethod yX11_write ∈ sw_U := sw_in (sw_t8 (List.mem_of_getElem? (i := 108) (by decide +kernel))) rfl
theorem co_X11_write : Cond.code yX11_write cX11_write 2 (Option.none : Option Jvm.ClassFile.FieldType) ∈ sw_U := sw_in (sw_t8 (List.mem_of_getElem? (i := 109) (by decide +kernel))) rfl
theorem ml_X11_293 : Cond.methodLink RX11 293 yX11_writeNumber ∈ sw_U := sw_in (sw_t8 (List.mem_of_getElem? (i := 110) (by decide +kernel))) rfl
theorem im_X11_writeNumber : Cond.instanceMethod yX11_writeNumber ∈ sw_U := sw_in (sw_t8 (List.mem_of_getElem? (i := 112) (by decide +kernel))) rfl
theorem co_X11_writeNumber : Cond.code yX11_writeNumber cX11_writeNumber 4 (Option.none : Option Jvm.ClassFile.FieldType) ∈ sw_U := sw_in (sw_t8 (List.mem_of_getElem? (i := 113) (by decide +kernel))) rfl
theorem ml_L_304 : Cond.methodLink RL 304 yX11_formattedByte ∈ sw_U := sw_in (sw_t8 (List.mem_of_getElem? (i := 114) (by decide +kernel))) rfl
theorem im_X11_formattedByte : Cond.instanceMethod yX11_formattedByte ∈ sw_U := sw_in (sw_t8 (List.mem_of_getElem? (i := 115) (by decide +kernel))) rfl
theorem se_X11_formattedByte : Cond.selects yX11_formattedByte.cls yX11_formattedByte yX11_formattedByte ∈ sw_U := sw_in (sw_t8 (List.mem_of_getElem? (i := 116) (by decide +kernel))) rfl
theorem co_X11_formattedByte : Cond.code yX11_formattedByte cX11_formattedByte 2 (Option.some Jvm.ClassFile.FieldType.int) ∈ sw_U := sw_in (sw_t8 (List.mem_of_getElem? (i := 117) (by decide +kernel))) rfl
theorem ml_L_308 : Cond.methodLink RL 308 yX11_undoCount ∈ sw_U := sw_in (sw_t8 (List.mem_of_getElem? (i := 118) (by decide +kernel))) rfl
theorem im_X11_undoCount : Cond.instanceMethod yX11_undoCount ∈ sw_U := sw_in (sw_t8 (List.mem_of_getElem? (i := 119) (by decide +kernel))) rfl
theorem se_X11_undoCount : Cond.selects yX11_undoCount.cls yX11_undoCount yX11_undoCount ∈ sw_U := sw_in (sw_t8 (List.mem_of_getElem? (i := 120) (by decide +kernel))) rfl
theorem co_X11_undoCount : Cond.code yX11_undoCount cX11_undoCount 1 (Option.some Jvm.ClassFile.FieldType.int) ∈ sw_U := sw_in (sw_t8 (List.mem_of_getElem? (i := 121) (by decide +kernel))) rfl
theorem ml_L_312 : Cond.methodLink RL 312 yX11_undo ∈ sw_U := sw_in (sw_t8 (List.mem_of_getElem? (i := 122) (by decide +kernel))) rfl
theorem im_X11_undo : Cond.instanceMethod yX11_undo ∈ sw_U := sw_in (sw_t8 (List.mem_of_getElem? (i := 123) (by decide +kernel))) rfl
theorem se_X11_undo : Cond.selects yX11_undo.cls yX11_undo yX11_undo ∈ sw_U := sw_in (sw_t8 (List.mem_of_getElem? (i := 124) (by decide +kernel))) rfl
theorem co_X11_undo : Cond.code yX11_undo cX11_undo 1 (Option.some Jvm.ClassFile.FieldType.int) ∈ sw_U := sw_in (sw_t8 (List.mem_of_getElem? (i := 125) (by decide +kernel))) rfl
theorem ml_L_316 : Cond.methodLink RL 316 yX11_saveSnapshot ∈ sw_U := sw_in (sw_t8 (List.mem_of_getElem? (i := 126) (by decide +kernel))) rfl
theorem im_X11_saveSnapshot : Cond.instanceMethod yX11_saveSnapshot ∈ sw_U := sw_in (sw_t8 (List.mem_of_getElem? (i := 127) (by decide +kernel))) rfl
theorem se_X11_saveSnapshot : Cond.selects yX11_saveSnapshot.cls yX11_saveSnapshot yX11_saveSnapshot ∈ sw_U := sw_in (sw_t8 (List.mem_of_getElem? (i := 128) (by decide +kernel))) rfl
theorem co_X11_saveSnapshot : Cond.code yX11_saveSnapshot cX11_saveSnapshot 1 (Option.none : Option Jvm.ClassFile.FieldType) ∈ sw_U := sw_in (sw_t8 (List.mem_of_getElem? (i := 129) (by decide +kernel))) rfl
theorem ml_L_321 : Cond.methodLink RL 321 yX11_restoreSnapshot ∈ sw_U := sw_in (sw_t8 (List.mem_of_getElem? (i := 130) (by decide +kernel))) rfl
theorem im_X11_restoreSnapshot : Cond.instanceMethod yX11_restoreSnapshot ∈ sw_U := sw_in (sw_t8 (List.mem_of_getElem? (i := 131) (by decide +kernel))) rfl
theorem se_X11_restoreSnapshot : Cond.selects yX11_restoreSnapshot.cls yX11_restoreSnapshot yX11_restoreSnapshot ∈ sw_U := sw_in (sw_t8 (List.mem_of_getElem? (i := 132) (by decide +kernel))) rfl
theorem co_X11_restoreSnapshot : Cond.code yX11_restoreSnapshot cX11_restoreSnapshot 1 (Option.some Jvm.ClassFile.FieldType.boolean) ∈ sw_U := sw_in (sw_t8 (List.mem_of_getElem? (i := 133) (by decide +kernel))) rfl
theorem ml_L_98 : Cond.methodLink RL 98 yX11_feed ∈ sw_U := sw_in (sw_t8 (List.mem_of_getElem? (i := 134) (by decide +kernel))) rfl
theorem im_X11_feed : Cond.instanceMethod yX11_feed ∈ sw_U := sw_in (sw_t8 (List.mem_of_getElem? (i := 135) (by decide +kernel))) rfl
theorem se_X11_feed : Cond.selects yX11_feed.cls yX11_feed yX11_feed ∈ sw_U := sw_in (sw_t8 (List.mem_of_getElem? (i := 136) (by decide +kernel))) rfl
theorem co_X11_feed : Cond.code yX11_feed cX11_feed 8 (Option.some Jvm.ClassFile.FieldType.int) ∈ sw_U := sw_in (sw_t8 (List.mem_of_getElem? (i := 137) (by decide +kernel))) rfl
theorem ml_L_112 : Cond.methodLink RL 112 yX11_errorPosition ∈ sw_U := sw_in (sw_t8 (List.mem_of_getElem? (i := 138) (by decide +kernel))) rfl
theorem im_X11_errorPosition : Cond.instanceMethod yX11_errorPosition ∈ sw_U := sw_in (sw_t8 (List.mem_of_getElem? (i := 139) (by decide +kernel))) rfl
theorem se_X11_errorPosition : Cond.selects yX11_errorPosition.cls yX11_errorPosition yX11_errorPosition ∈ sw_U := sw_in (sw_t8 (List.mem_of_getElem? (i := 140) (by decide +kernel))) rfl
theorem co_X11_errorPosition : Cond.code yX11_errorPosition cX11_errorPosition 1 (Option.some Jvm.ClassFile.FieldType.int) ∈ sw_U := sw_in (sw_t8 (List.mem_of_getElem? (i := 141) (by decide +kernel))) rfl
theorem ml_L_104 : Cond.methodLink RL 104 yX11_load ∈ sw_U := sw_in (sw_t8 (List.mem_of_getElem? (i := 142) (by decide +kernel))) rfl
theorem im_X11_load : Cond.instanceMethod yX11_load ∈ sw_U := sw_in (sw_t8 (List.mem_of_getElem? (i := 143) (by decide +kernel))) rfl
theorem se_X11_load : Cond.selects yX11_load.cls yX11_load yX11_load ∈ sw_U := sw_in (sw_t8 (List.mem_of_getElem? (i := 144) (by decide +kernel))) rfl
theorem co_X11_load : Cond.code yX11_load cX11_load 3 (Option.some Jvm.ClassFile.FieldType.int) ∈ sw_U := sw_in (sw_t8 (List.mem_of_getElem? (i := 145) (by decide +kernel))) rfl
theorem ml_X11_382 : Cond.methodLink RX11 382 yX11_startText ∈ sw_U := sw_in (sw_t8 (List.mem_of_getElem? (i := 146) (by decide +kernel))) rfl
theorem im_X11_startText : Cond.instanceMethod yX11_startText ∈ sw_U := sw_in (sw_t8 (List.mem_of_getElem? (i := 148) (by decide +kernel))) rfl
theorem co_X11_startText : Cond.code yX11_startText cX11_startText 2 (Option.none : Option Jvm.ClassFile.FieldType) ∈ sw_U := sw_in (sw_t8 (List.mem_of_getElem? (i := 149) (by decide +kernel))) rfl
theorem ml_X11_330 : Cond.methodLink RX11 330 yX11_scan ∈ sw_U := sw_in (sw_t8 (List.mem_of_getElem? (i := 150) (by decide +kernel))) rfl
theorem im_X11_scan : Cond.instanceMethod yX11_scan ∈ sw_U := sw_in (sw_t8 (List.mem_of_getElem? (i := 152) (by decide +kernel))) rfl
theorem co_X11_scan : Cond.code yX11_scan cX11_scan 1 (Option.none : Option Jvm.ClassFile.FieldType) ∈ sw_U := sw_in (sw_t8 (List.mem_of_getElem? (i := 153) (by decide +kernel))) rfl
theorem ml_X11_306 : Cond.methodLink RX11 306 yX11_byteAt ∈ sw_U := sw_in (sw_t8 (List.mem_of_getElem? (i := 154) (by decide +kernel))) rfl
theorem im_X11_byteAt : Cond.instanceMethod yX11_byteAt ∈ sw_U := sw_in (sw_t8 (List.mem_of_getElem? (i := 156) (by decide +kernel))) rfl
theorem co_X11_byteAt : Cond.code yX11_byteAt cX11_byteAt 2 (Option.some Jvm.ClassFile.FieldType.int) ∈ sw_U := sw_in (sw_t8 (List.mem_of_getElem? (i := 157) (by decide +kernel))) rfl
theorem ml_X11_318 : Cond.methodLink RX11 318 yX11_isLetter ∈ sw_U := sw_in (sw_t8 (List.mem_of_getElem? (i := 158) (by decide +kernel))) rfl
theorem im_X11_isLetter : Cond.instanceMethod yX11_isLetter ∈ sw_U := sw_in (sw_t8 (List.mem_of_getElem? (i := 160) (by decide +kernel))) rfl
theorem co_X11_isLetter : Cond.code yX11_isLetter cX11_isLetter 2 (Option.some Jvm.ClassFile.FieldType.boolean) ∈ sw_U := sw_in (sw_t8 (List.mem_of_getElem? (i := 161) (by decide +kernel))) rfl
theorem ml_X11_321 : Cond.methodLink RX11 321 yX11_isDigit ∈ sw_U := sw_in (sw_t8 (List.mem_of_getElem? (i := 162) (by decide +kernel))) rfl
theorem im_X11_isDigit : Cond.instanceMethod yX11_isDigit ∈ sw_U := sw_in (sw_t8 (List.mem_of_getElem? (i := 164) (by decide +kernel))) rfl
theorem co_X11_isDigit : Cond.code yX11_isDigit cX11_isDigit 2 (Option.some Jvm.ClassFile.FieldType.boolean) ∈ sw_U := sw_in (sw_t8 (List.mem_of_getElem? (i := 165) (by decide +kernel))) rfl
theorem ml_X11_385 : Cond.methodLink RX11 385 yX11_readText ∈ sw_U := sw_in (sw_t8 (List.mem_of_getElem? (i := 166) (by decide +kernel))) rfl
theorem im_X11_readText : Cond.instanceMethod yX11_readText ∈ sw_U := sw_in (sw_t8 (List.mem_of_getElem? (i := 168) (by decide +kernel))) rfl
theorem co_X11_readText : Cond.code yX11_readText cX11_readText 1 (Option.none : Option Jvm.ClassFile.FieldType) ∈ sw_U := sw_in (sw_t8 (List.mem_of_getElem? (i := 169) (by decide +kernel))) rfl
theorem ml_X11_343 : Cond.methodLink RX11 343 yX11_isWord ∈ sw_U := sw_in (sw_t8 (List.mem_of_getElem? (i := 171) (by decide +kernel))) rfl
theorem im_X11_isWord : Cond.instanceMethod yX11_isWord ∈ sw_U := sw_in (sw_t8 (List.mem_of_getElem? (i := 173) (by decide +kernel))) rfl
theorem co_X11_isWord : Cond.code yX11_isWord cX11_isWord 4 (Option.some Jvm.ClassFile.FieldType.boolean) ∈ sw_U := sw_in (sw_t8 (List.mem_of_getElem? (i := 174) (by decide +kernel))) rfl
theorem ml_X11_336 : Cond.methodLink RX11 336 yJ0_length_8abf5 ∈ sw_U := sw_in (sw_t8 (List.mem_of_getElem? (i := 175) (by decide +kernel))) rfl
theorem ml_X11_339 : Cond.methodLink RX11 339 yJ0_charAt_5068e ∈ sw_U := sw_in (sw_t8 (List.mem_of_getElem? (i := 176) (by decide +kernel))) rfl
theorem ml_X11_350 : Cond.methodLink RX11 350 yX11_check ∈ sw_U := sw_in (sw_t8 (List.mem_of_getElem? (i := 177) (by decide +kernel))) rfl
theorem im_X11_check : Cond.instanceMethod yX11_check ∈ sw_U := sw_in (sw_t8 (List.mem_of_getElem? (i := 179) (by decide +kernel))) rfl
theorem co_X11_check : Cond.code yX11_check cX11_check 3 (Option.none : Option Jvm.ClassFile.FieldType) ∈ sw_U := sw_in (sw_t8 (List.mem_of_getElem? (i := 180) (by decide +kernel))) rfl
theorem ml_X11_354 : Cond.methodLink RX11 354 yX11_advance ∈ sw_U := sw_in (sw_t8 (List.mem_of_getElem? (i := 181) (by decide +kernel))) rfl
theorem im_X11_advance : Cond.instanceMethod yX11_advance ∈ sw_U := sw_in (sw_t8 (List.mem_of_getElem? (i := 183) (by decide +kernel))) rfl
theorem co_X11_advance : Cond.code yX11_advance cX11_advance 1 (Option.none : Option Jvm.ClassFile.FieldType) ∈ sw_U := sw_in (sw_t8 (List.mem_of_getElem? (i := 184) (by decide +kernel))) rfl
theorem ml_X11_364 : Cond.methodLink RX11 364 yX11_readNumber ∈ sw_U := sw_in (sw_t8 (List.mem_of_getElem? (i := 185) (by decide +kernel))) rfl
theorem im_X11_readNumber : Cond.instanceMethod yX11_readNumber ∈ sw_U := sw_in (sw_t8 (List.mem_of_getElem? (i := 187) (by decide +kernel))) rfl
theorem co_X11_readNumber : Cond.code yX11_readNumber cX11_readNumber 4 (Option.some Jvm.ClassFile.FieldType.int) ∈ sw_U := sw_in (sw_t8 (List.mem_of_getElem? (i := 188) (by decide +kernel))) rfl
theorem ml_X11_361 : Cond.methodLink RX11 361 yX11_look ∈ sw_U := sw_in (sw_t8 (List.mem_of_getElem? (i := 189) (by decide +kernel))) rfl
theorem im_X11_look : Cond.instanceMethod yX11_look ∈ sw_U := sw_in (sw_t8 (List.mem_of_getElem? (i := 191) (by decide +kernel))) rfl
theorem co_X11_look : Cond.code yX11_look cX11_look 4 (Option.some Jvm.ClassFile.FieldType.int) ∈ sw_U := sw_in (sw_t8 (List.mem_of_getElem? (i := 192) (by decide +kernel))) rfl
theorem ml_X11_358 : Cond.methodLink RX11 358 yX11_value ∈ sw_U := sw_in (sw_t8 (List.mem_of_getElem? (i := 193) (by decide +kernel))) rfl
theorem im_X11_value : Cond.instanceMethod yX11_value ∈ sw_U := sw_in (sw_t8 (List.mem_of_getElem? (i := 195) (by decide +kernel))) rfl
theorem co_X11_value : Cond.code yX11_value cX11_value 3 (Option.some Jvm.ClassFile.FieldType.int) ∈ sw_U := sw_in (sw_t8 (List.mem_of_getElem? (i := 196) (by decide +kernel))) rfl
theorem ml_X11_367 : Cond.methodLink RX11 367 yX11_expect ∈ sw_U := sw_in (sw_t8 (List.mem_of_getElem? (i := 198) (by decide +kernel))) rfl
theorem im_X11_expect : Cond.instanceMethod yX11_expect ∈ sw_U := sw_in (sw_t8 (List.mem_of_getElem? (i := 200) (by decide +kernel))) rfl
theorem co_X11_expect : Cond.code yX11_expect cX11_expect 2 (Option.none : Option Jvm.ClassFile.FieldType) ∈ sw_U := sw_in (sw_t8 (List.mem_of_getElem? (i := 201) (by decide +kernel))) rfl
theorem ml_X11_347 : Cond.methodLink RX11 347 yX11_isSymbol ∈ sw_U := sw_in (sw_t8 (List.mem_of_getElem? (i := 202) (by decide +kernel))) rfl
theorem im_X11_isSymbol : Cond.instanceMethod yX11_isSymbol ∈ sw_U := sw_in (sw_t8 (List.mem_of_getElem? (i := 204) (by decide +kernel))) rfl
theorem co_X11_isSymbol : Cond.code yX11_isSymbol cX11_isSymbol 2 (Option.some Jvm.ClassFile.FieldType.boolean) ∈ sw_U := sw_in (sw_t8 (List.mem_of_getElem? (i := 205) (by decide +kernel))) rfl
theorem ml_X11_374 : Cond.methodLink RX11 374 yX11_readStretch ∈ sw_U := sw_in (sw_t8 (List.mem_of_getElem? (i := 207) (by decide +kernel))) rfl
theorem im_X11_readStretch : Cond.instanceMethod yX11_readStretch ∈ sw_U := sw_in (sw_t8 (List.mem_of_getElem? (i := 209) (by decide +kernel))) rfl
theorem co_X11_readStretch : Cond.code yX11_readStretch cX11_readStretch 2 (Option.none : Option Jvm.ClassFile.FieldType) ∈ sw_U := sw_in (sw_t8 (List.mem_of_getElem? (i := 210) (by decide +kernel))) rfl
theorem ml_X11_379 : Cond.methodLink RX11 379 yX11_readStriker ∈ sw_U := sw_in (sw_t8 (List.mem_of_getElem? (i := 212) (by decide +kernel))) rfl
theorem im_X11_readStriker : Cond.instanceMethod yX11_readStriker ∈ sw_U := sw_in (sw_t8 (List.mem_of_getElem? (i := 214) (by decide +kernel))) rfl
theorem co_X11_readStriker : Cond.code yX11_readStriker cX11_readStriker 2 (Option.none : Option Jvm.ClassFile.FieldType) ∈ sw_U := sw_in (sw_t8 (List.mem_of_getElem? (i := 215) (by decide +kernel))) rfl
theorem ml_X11_388 : Cond.methodLink RX11 388 yX11_finish ∈ sw_U := sw_in (sw_t8 (List.mem_of_getElem? (i := 216) (by decide +kernel))) rfl
theorem im_X11_finish : Cond.instanceMethod yX11_finish ∈ sw_U := sw_in (sw_t8 (List.mem_of_getElem? (i := 218) (by decide +kernel))) rfl
theorem co_X11_finish : Cond.code yX11_finish cX11_finish 1 (Option.some Jvm.ClassFile.FieldType.int) ∈ sw_U := sw_in (sw_t8 (List.mem_of_getElem? (i := 219) (by decide +kernel))) rfl
theorem ml_L_297 : Cond.methodLink RL 297 yX11_play ∈ sw_U := sw_in (sw_t8 (List.mem_of_getElem? (i := 220) (by decide +kernel))) rfl
theorem im_X11_play : Cond.instanceMethod yX11_play ∈ sw_U := sw_in (sw_t8 (List.mem_of_getElem? (i := 221) (by decide +kernel))) rfl
theorem se_X11_play : Cond.selects yX11_play.cls yX11_play yX11_play ∈ sw_U := sw_in (sw_t8 (List.mem_of_getElem? (i := 222) (by decide +kernel))) rfl
theorem co_X11_play : Cond.code yX11_play cX11_play 3 (Option.some Jvm.ClassFile.FieldType.int) ∈ sw_U := sw_in (sw_t8 (List.mem_of_getElem? (i := 223) (by decide +kernel))) rfl
theorem ml_X11_400 : Cond.methodLink RX11 400 yX11_readOrder ∈ sw_U := sw_in (sw_t8 (List.mem_of_getElem? (i := 224) (by decide +kernel))) rfl
theorem im_X11_readOrder : Cond.instanceMethod yX11_readOrder ∈ sw_U := sw_in (sw_t8 (List.mem_of_getElem? (i := 226) (by decide +kernel))) rfl
theorem co_X11_readOrder : Cond.code yX11_readOrder cX11_readOrder 3 (Option.none : Option Jvm.ClassFile.FieldType) ∈ sw_U := sw_in (sw_t8 (List.mem_of_getElem? (i := 227) (by decide +kernel))) rfl
theorem ml_X11_391 : Cond.methodLink RX11 391 yX11_orderHere ∈ sw_U := sw_in (sw_t8 (List.mem_of_getElem? (i := 228) (by decide +kernel))) rfl
theorem im_X11_orderHere : Cond.instanceMethod yX11_orderHere ∈ sw_U := sw_in (sw_t8 (List.mem_of_getElem? (i := 230) (by decide +kernel))) rfl
theorem co_X11_orderHere : Cond.code yX11_orderHere cX11_orderHere 2 (Option.some Jvm.ClassFile.FieldType.int) ∈ sw_U := sw_in (sw_t8 (List.mem_of_getElem? (i := 231) (by decide +kernel))) rfl
theorem ml_X11_397 : Cond.methodLink RX11 397 yX11_readFirst ∈ sw_U := sw_in (sw_t8 (List.mem_of_getElem? (i := 232) (by decide +kernel))) rfl
theorem im_X11_readFirst : Cond.instanceMethod yX11_readFirst ∈ sw_U := sw_in (sw_t8 (List.mem_of_getElem? (i := 234) (by decide +kernel))) rfl
theorem co_X11_readFirst : Cond.code yX11_readFirst cX11_readFirst 2 (Option.some Jvm.ClassFile.FieldType.int) ∈ sw_U := sw_in (sw_t8 (List.mem_of_getElem? (i := 235) (by decide +kernel))) rfl
theorem ml_X11_403 : Cond.methodLink RX11 403 yX11_does ∈ sw_U := sw_in (sw_t8 (List.mem_of_getElem? (i := 236) (by decide +kernel))) rfl
theorem im_X11_does : Cond.instanceMethod yX11_does ∈ sw_U := sw_in (sw_t8 (List.mem_of_getElem? (i := 238) (by decide +kernel))) rfl
theorem co_X11_does : Cond.code yX11_does cX11_does 3 (Option.some Jvm.ClassFile.FieldType.int) ∈ sw_U := sw_in (sw_t8 (List.mem_of_getElem? (i := 239) (by decide +kernel))) rfl
theorem ac_long : Cond.arrayClass Jvm.ClassFile.FieldType.long ∈ sw_U := sw_in (sw_t9 (List.mem_of_getElem? (i := 0) (by decide +kernel))) rfl
theorem fl_J0_9 : Cond.fieldLink RJ0 9 "java/lang/String" "value" "[B" ∈ sw_U := sw_in (sw_t9 (List.mem_of_getElem? (i := 16) (by decide +kernel))) rfl
theorem fl_J0_15 : Cond.fieldLink RJ0 15 "java/lang/String" "coder" "B" ∈ sw_U := sw_in (sw_t9 (List.mem_of_getElem? (i := 17) (by decide +kernel))) rfl
theorem fl_X2_59 : Cond.fieldLink RX2 59 "StrikeWheels$Order" "numbers" "I" ∈ sw_U := sw_in (sw_t9 (List.mem_of_getElem? (i := 18) (by decide +kernel))) rfl
theorem fl_X2_63 : Cond.fieldLink RX2 63 "StrikeWheels$Order" "least" "I" ∈ sw_U := sw_in (sw_t9 (List.mem_of_getElem? (i := 19) (by decide +kernel))) rfl
theorem fl_X2_66 : Cond.fieldLink RX2 66 "StrikeWheels$Order" "most" "I" ∈ sw_U := sw_in (sw_t9 (List.mem_of_getElem? (i := 20) (by decide +kernel))) rfl
theorem fl_Jx29ce0_7 : Cond.fieldLink RJx29ce0 7 "java/lang/Enum" "ordinal" "I" ∈ sw_U := sw_in (sw_t9 (List.mem_of_getElem? (i := 21) (by decide +kernel))) rfl
