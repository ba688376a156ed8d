/-- the words that every walk stands on: all good words of the tables -/
def sw_U : List Cond := lw_tbl.filter goodWord
theorem sw_in {w : Cond} (h : w ∈ lw_tbl) (g : goodWord w = true) : w ∈ sw_U := List.mem_filter.mpr ⟨h, g⟩
theorem sw_out {w : Cond} (h : w ∈ sw_U) : w ∈ lw_tbl := (List.mem_filter.mp h).1
theorem sw_good {w : Cond} (h : w ∈ sw_U) : (w.onTables && w.keeps) = true ∨ ∃ ty, w = .arrayClass ty := good_of_word (List.mem_filter.mp h).2
theorem sw_G {ws : List Cond} (h : ∀ w ∈ ws, w ∈ sw_U) : GoodIn sw_U ws := fun w hw => ⟨h w hw, sw_good (h w hw)⟩
theorem sw_c {w : Cond} {a : List Cond} {b : List Cond} (h : w ∈ b) (k : ∀ w ∈ a, w ∈ b) : ∀ x ∈ w :: a, x ∈ b := fun x hx => (List.mem_cons.mp hx).elim (fun e => e ▸ h) (k x)
theorem sw_0 {b : List Cond} : ∀ x ∈ ([] : List Cond), x ∈ b := fun _ h => absurd h List.not_mem_nil
theorem sw_self : ∀ x ∈ sw_U, x ∈ sw_U := fun _ h => h
theorem sw_tl {w : Cond} {Q : Cond → Prop} (h : ∀ x ∈ w :: sw_U, Q x) : ∀ x ∈ sw_U, Q x := fun x hx => h x (List.mem_cons_of_mem _ hx)
theorem sw_V {own : String} {idx : Nat} {C : String} {y : MethodName} {w : Cond} (h1 : Cond.methodLink own idx y ∈ sw_U) (h2 : Cond.instanceMethod y ∈ sw_U) (h3 : Cond.selects C y y ∈ sw_U) (h4 : Cond.initialized C ∈ sw_U) (h5 : w ∈ sw_U) : GoodIn sw_U (wsV own idx C y (w :: sw_U)) :=
  sw_G (sw_c h1 (sw_c h2 (sw_c h3 (sw_c h4 (sw_c h5 sw_self)))))
theorem sw_W {w : Cond} (h5 : w ∈ sw_U) : GoodIn sw_U (w :: sw_U) := sw_G (sw_c h5 sw_self)
theorem sw_all {ws : List Cond} (ps : List Nat) (h : ws = ps.filterMap (fun i => lw_tbl[i]?)) (g : ws.all goodWord = true) : ∀ w ∈ ws, w ∈ sw_U := by
  intro w hw
  refine sw_in ?_ (List.all_eq_true.mp g w hw)
  rw [h] at hw
  obtain ⟨i, -, hi⟩ := List.mem_filterMap.mp hw
  exact List.mem_of_getElem? hi
theorem sw_t1 {w : Cond} (h : w ∈ tables_1_1) : w ∈ lw_tbl := List.mem_append_right _ (List.mem_append_left _ h)
theorem sw_t2 {w : Cond} (h : w ∈ tables_1_2) : w ∈ lw_tbl := List.mem_append_right _ (List.mem_append_right _ (List.mem_append_left _ h))
theorem sw_t3 {w : Cond} (h : w ∈ tables_1_3) : w ∈ lw_tbl := List.mem_append_right _ (List.mem_append_right _ (List.mem_append_right _ (List.mem_append_left _ h)))
theorem sw_t4 {w : Cond} (h : w ∈ tables_1_4) : w ∈ lw_tbl := List.mem_append_right _ (List.mem_append_right _ (List.mem_append_right _ (List.mem_append_right _ (List.mem_append_left _ h))))
theorem sw_t5 {w : Cond} (h : w ∈ tables_1_5) : w ∈ lw_tbl := List.mem_append_right _ (List.mem_append_right _ (List.mem_append_right _ (List.mem_append_right _ (List.mem_append_right _ (List.mem_append_left _ h)))))
theorem sw_t6 {w : Cond} (h : w ∈ tables_1_6) : w ∈ lw_tbl := List.mem_append_right _ (List.mem_append_right _ (List.mem_append_right _ (List.mem_append_right _ (List.mem_append_right _ (List.mem_append_right _ (h))))))
theorem iU_X1 : ∀ w ∈ u_ws RX1 TX1 3, w ∈ sw_U := sw_all [115, 117, 119] (by decide +kernel) (by decide +kernel)
theorem iU_X3 : ∀ w ∈ u_ws RX3 TX3 7, w ∈ sw_U := sw_all [87, 89, 91, 93, 95, 97, 99] (by decide +kernel) (by decide +kernel)
theorem iU_X4 : ∀ w ∈ u_ws RX4 TX4 4, w ∈ sw_U := sw_all [186, 188, 190, 192] (by decide +kernel) (by decide +kernel)
theorem iU_X5 : ∀ w ∈ u_ws RX5 TX5 4, w ∈ sw_U := sw_all [207, 209, 211, 213] (by decide +kernel) (by decide +kernel)
theorem iU_X6 : ∀ w ∈ u_ws RX6 TX6 2, w ∈ sw_U := sw_all [224, 226] (by decide +kernel) (by decide +kernel)
theorem iU_X7 : ∀ w ∈ u_ws RX7 TX7 6, w ∈ sw_U := sw_all [134, 136, 138, 140, 142, 144] (by decide +kernel) (by decide +kernel)
theorem iU_X8 : ∀ w ∈ u_ws RX8 TX8 7, w ∈ sw_U := sw_all [160, 162, 164, 166, 168, 170, 172] (by decide +kernel) (by decide +kernel)
theorem iU_X10 : ∀ w ∈ u_ws RX10 TX10 13, w ∈ sw_U := sw_all [254, 256, 258, 260, 262, 264, 266, 268, 270, 272, 274, 276, 278] (by decide +kernel) (by decide +kernel)
theorem se_X4_begin : Cond.selects yX4_begin.cls yX4_begin yX4_begin ∈ sw_U := sw_in (List.mem_append_left _ (List.mem_of_getElem? (i := 1) (by decide +kernel))) rfl
theorem se_X8_byteAt : Cond.selects yX8_byteAt.cls yX8_byteAt yX8_byteAt ∈ sw_U := sw_in (List.mem_append_left _ (List.mem_of_getElem? (i := 2) (by decide +kernel))) rfl
theorem se_X8_skipLetters : Cond.selects yX8_skipLetters.cls yX8_skipLetters yX8_skipLetters ∈ sw_U := sw_in (List.mem_append_left _ (List.mem_of_getElem? (i := 3) (by decide +kernel))) rfl
theorem se_X8_readDigits : Cond.selects yX8_readDigits.cls yX8_readDigits yX8_readDigits ∈ sw_U := sw_in (List.mem_append_left _ (List.mem_of_getElem? (i := 4) (by decide +kernel))) rfl
theorem se_X4_takeWord : Cond.selects yX4_takeWord.cls yX4_takeWord yX4_takeWord ∈ sw_U := sw_in (List.mem_append_left _ (List.mem_of_getElem? (i := 5) (by decide +kernel))) rfl
theorem se_X4_fail : Cond.selects yX4_fail.cls yX4_fail yX4_fail ∈ sw_U := sw_in (List.mem_append_left _ (List.mem_of_getElem? (i := 6) (by decide +kernel))) rfl
theorem se_X4_takeNumber : Cond.selects yX4_takeNumber.cls yX4_takeNumber yX4_takeNumber ∈ sw_U := sw_in (List.mem_append_left _ (List.mem_of_getElem? (i := 7) (by decide +kernel))) rfl
theorem se_X4_takeSemicolon : Cond.selects yX4_takeSemicolon.cls yX4_takeSemicolon yX4_takeSemicolon ∈ sw_U := sw_in (List.mem_append_left _ (List.mem_of_getElem? (i := 8) (by decide +kernel))) rfl
theorem se_X4_readStretches : Cond.selects yX4_readStretches.cls yX4_readStretches yX4_readStretches ∈ sw_U := sw_in (List.mem_append_left _ (List.mem_of_getElem? (i := 9) (by decide +kernel))) rfl
theorem se_X4_readStrikers : Cond.selects yX4_readStrikers.cls yX4_readStrikers yX4_readStrikers ∈ sw_U := sw_in (List.mem_append_left _ (List.mem_of_getElem? (i := 10) (by decide +kernel))) rfl
theorem se_X10_closeReading : Cond.selects yX10_closeReading.cls yX10_closeReading yX10_closeReading ∈ sw_U := sw_in (List.mem_append_left _ (List.mem_of_getElem? (i := 11) (by decide +kernel))) rfl
theorem se_X10_current : Cond.selects yX10_current.cls yX10_current yX10_current ∈ sw_U := sw_in (List.mem_append_left _ (List.mem_of_getElem? (i := 12) (by decide +kernel))) rfl
theorem se_X7_strikeOut : Cond.selects yX7_strikeOut.cls yX7_strikeOut yX7_strikeOut ∈ sw_U := sw_in (List.mem_append_left _ (List.mem_of_getElem? (i := 13) (by decide +kernel))) rfl
theorem se_X7_countAll : Cond.selects yX7_countAll.cls yX7_countAll yX7_countAll ∈ sw_U := sw_in (List.mem_append_left _ (List.mem_of_getElem? (i := 14) (by decide +kernel))) rfl
theorem se_X3_isMissing : Cond.selects yX3_isMissing.cls yX3_isMissing yX3_isMissing ∈ sw_U := sw_in (List.mem_append_left _ (List.mem_of_getElem? (i := 15) (by decide +kernel))) rfl
theorem se_X10_countIdle : Cond.selects yX10_countIdle.cls yX10_countIdle yX10_countIdle ∈ sw_U := sw_in (List.mem_append_left _ (List.mem_of_getElem? (i := 16) (by decide +kernel))) rfl
theorem se_X10_needStretch : Cond.selects yX10_needStretch.cls yX10_needStretch yX10_needStretch ∈ sw_U := sw_in (List.mem_append_left _ (List.mem_of_getElem? (i := 17) (by decide +kernel))) rfl
theorem se_X3_roomAhead : Cond.selects yX3_roomAhead.cls yX3_roomAhead yX3_roomAhead ∈ sw_U := sw_in (List.mem_append_left _ (List.mem_of_getElem? (i := 18) (by decide +kernel))) rfl
theorem se_X10_needStriker : Cond.selects yX10_needStriker.cls yX10_needStriker yX10_needStriker ∈ sw_U := sw_in (List.mem_append_left _ (List.mem_of_getElem? (i := 19) (by decide +kernel))) rfl
theorem se_X7_countWithOwner : Cond.selects yX7_countWithOwner.cls yX7_countWithOwner yX7_countWithOwner ∈ sw_U := sw_in (List.mem_append_left _ (List.mem_of_getElem? (i := 20) (by decide +kernel))) rfl
theorem se_X10_operate : Cond.selects yX10_operate.cls yX10_operate yX10_operate ∈ sw_U := sw_in (List.mem_append_left _ (List.mem_of_getElem? (i := 21) (by decide +kernel))) rfl
theorem se_X10_carryOut : Cond.selects yX10_carryOut.cls yX10_carryOut yX10_carryOut ∈ sw_U := sw_in (List.mem_append_left _ (List.mem_of_getElem? (i := 22) (by decide +kernel))) rfl
theorem se_X10_layStretch : Cond.selects yX10_layStretch.cls yX10_layStretch yX10_layStretch ∈ sw_U := sw_in (List.mem_append_left _ (List.mem_of_getElem? (i := 23) (by decide +kernel))) rfl
theorem se_X10_dropStretch : Cond.selects yX10_dropStretch.cls yX10_dropStretch yX10_dropStretch ∈ sw_U := sw_in (List.mem_append_left _ (List.mem_of_getElem? (i := 24) (by decide +kernel))) rfl
theorem se_X10_trimStretch : Cond.selects yX10_trimStretch.cls yX10_trimStretch yX10_trimStretch ∈ sw_U := sw_in (List.mem_append_left _ (List.mem_of_getElem? (i := 25) (by decide +kernel))) rfl
theorem se_X10_swapStrikers : Cond.selects yX10_swapStrikers.cls yX10_swapStrikers yX10_swapStrikers ∈ sw_U := sw_in (List.mem_append_left _ (List.mem_of_getElem? (i := 26) (by decide +kernel))) rfl
theorem se_X10_addStriker : Cond.selects yX10_addStriker.cls yX10_addStriker yX10_addStriker ∈ sw_U := sw_in (List.mem_append_left _ (List.mem_of_getElem? (i := 27) (by decide +kernel))) rfl
theorem se_X10_liftStriker : Cond.selects yX10_liftStriker.cls yX10_liftStriker yX10_liftStriker ∈ sw_U := sw_in (List.mem_append_left _ (List.mem_of_getElem? (i := 28) (by decide +kernel))) rfl
theorem se_X10_countGiven : Cond.selects yX10_countGiven.cls yX10_countGiven yX10_countGiven ∈ sw_U := sw_in (List.mem_append_left _ (List.mem_of_getElem? (i := 29) (by decide +kernel))) rfl
theorem se_X10_putFirst : Cond.selects yX10_putFirst.cls yX10_putFirst yX10_putFirst ∈ sw_U := sw_in (List.mem_append_left _ (List.mem_of_getElem? (i := 30) (by decide +kernel))) rfl
theorem se_X10_changeWheel : Cond.selects yX10_changeWheel.cls yX10_changeWheel yX10_changeWheel ∈ sw_U := sw_in (List.mem_append_left _ (List.mem_of_getElem? (i := 31) (by decide +kernel))) rfl
theorem se_X10_fillUp : Cond.selects yX10_fillUp.cls yX10_fillUp yX10_fillUp ∈ sw_U := sw_in (List.mem_append_left _ (List.mem_of_getElem? (i := 32) (by decide +kernel))) rfl
theorem se_X10_takeIdleAway : Cond.selects yX10_takeIdleAway.cls yX10_takeIdleAway yX10_takeIdleAway ∈ sw_U := sw_in (List.mem_append_left _ (List.mem_of_getElem? (i := 33) (by decide +kernel))) rfl
theorem se_X10_counted : Cond.selects yX10_counted.cls yX10_counted yX10_counted ∈ sw_U := sw_in (List.mem_append_left _ (List.mem_of_getElem? (i := 34) (by decide +kernel))) rfl
theorem se_X10_nextCommon : Cond.selects yX10_nextCommon.cls yX10_nextCommon yX10_nextCommon ∈ sw_U := sw_in (List.mem_append_left _ (List.mem_of_getElem? (i := 35) (by decide +kernel))) rfl
theorem ini_L : Cond.initialized RL ∈ sw_U := sw_in (sw_t1 (List.mem_of_getElem? (i := 0) (by decide +kernel))) rfl
theorem ini_X10 : Cond.initialized RX10 ∈ sw_U := sw_in (sw_t1 (List.mem_of_getElem? (i := 1) (by decide +kernel))) rfl
theorem ini_X3 : Cond.initialized RX3 ∈ sw_U := sw_in (sw_t1 (List.mem_of_getElem? (i := 2) (by decide +kernel))) rfl
theorem ini_X1 : Cond.initialized RX1 ∈ sw_U := sw_in (sw_t1 (List.mem_of_getElem? (i := 3) (by decide +kernel))) rfl
theorem ini_X7 : Cond.initialized RX7 ∈ sw_U := sw_in (sw_t1 (List.mem_of_getElem? (i := 4) (by decide +kernel))) rfl
theorem ini_X8 : Cond.initialized RX8 ∈ sw_U := sw_in (sw_t1 (List.mem_of_getElem? (i := 5) (by decide +kernel))) rfl
theorem ini_X4 : Cond.initialized RX4 ∈ sw_U := sw_in (sw_t1 (List.mem_of_getElem? (i := 6) (by decide +kernel))) rfl
theorem ini_X5 : Cond.initialized RX5 ∈ sw_U := sw_in (sw_t1 (List.mem_of_getElem? (i := 7) (by decide +kernel))) rfl
theorem ini_X6 : Cond.initialized RX6 ∈ sw_U := sw_in (sw_t1 (List.mem_of_getElem? (i := 8) (by decide +kernel))) rfl
theorem ini_J5 : Cond.initialized RJ5 ∈ sw_U := sw_in (sw_t1 (List.mem_of_getElem? (i := 9) (by decide +kernel))) rfl
theorem ini_J4 : Cond.initialized RJ4 ∈ sw_U := sw_in (sw_t1 (List.mem_of_getElem? (i := 10) (by decide +kernel))) rfl
theorem ini_J0 : Cond.initialized RJ0 ∈ sw_U := sw_in (sw_t1 (List.mem_of_getElem? (i := 11) (by decide +kernel))) rfl
theorem ini_J2 : Cond.initialized RJ2 ∈ sw_U := sw_in (sw_t1 (List.mem_of_getElem? (i := 12) (by decide +kernel))) rfl
theorem ini_J8 : Cond.initialized RJ8 ∈ sw_U := sw_in (sw_t1 (List.mem_of_getElem? (i := 13) (by decide +kernel))) rfl
theorem ini_J9 : Cond.initialized RJ9 ∈ sw_U := sw_in (sw_t1 (List.mem_of_getElem? (i := 14) (by decide +kernel))) rfl
theorem ini_J7 : Cond.initialized RJ7 ∈ sw_U := sw_in (sw_t1 (List.mem_of_getElem? (i := 15) (by decide +kernel))) rfl
theorem ini_J10 : Cond.initialized RJ10 ∈ sw_U := sw_in (sw_t1 (List.mem_of_getElem? (i := 16) (by decide +kernel))) rfl
theorem ini_J3 : Cond.initialized RJ3 ∈ sw_U := sw_in (sw_t1 (List.mem_of_getElem? (i := 17) (by decide +kernel))) rfl
theorem ini_J1 : Cond.initialized RJ1 ∈ sw_U := sw_in (sw_t1 (List.mem_of_getElem? (i := 18) (by decide +kernel))) rfl
theorem ini_Jxd2413 : Cond.initialized RJxd2413 ∈ sw_U := sw_in (sw_t1 (List.mem_of_getElem? (i := 19) (by decide +kernel))) rfl
theorem ini_J6 : Cond.initialized RJ6 ∈ sw_U := sw_in (sw_t1 (List.mem_of_getElem? (i := 20) (by decide +kernel))) rfl
theorem ini_java_lang_Throwable : Cond.initialized "java/lang/Throwable" ∈ sw_U := sw_in (sw_t1 (List.mem_of_getElem? (i := 21) (by decide +kernel))) rfl
theorem ini_java_lang_Exception : Cond.initialized "java/lang/Exception" ∈ sw_U := sw_in (sw_t1 (List.mem_of_getElem? (i := 22) (by decide +kernel))) rfl
theorem ini_java_lang_RuntimeException : Cond.initialized "java/lang/RuntimeException" ∈ sw_U := sw_in (sw_t1 (List.mem_of_getElem? (i := 23) (by decide +kernel))) rfl
theorem ini_java_lang_IllegalArgumentException : Cond.initialized "java/lang/IllegalArgumentException" ∈ sw_U := sw_in (sw_t1 (List.mem_of_getElem? (i := 24) (by decide +kernel))) rfl
theorem ini_X9 : Cond.initialized RX9 ∈ sw_U := sw_in (sw_t1 (List.mem_of_getElem? (i := 25) (by decide +kernel))) rfl
theorem ini_java_util_NoSuchElementException : Cond.initialized "java/util/NoSuchElementException" ∈ sw_U := sw_in (sw_t1 (List.mem_of_getElem? (i := 26) (by decide +kernel))) rfl
theorem ini_Jx29ce0 : Cond.initialized RJx29ce0 ∈ sw_U := sw_in (sw_t1 (List.mem_of_getElem? (i := 27) (by decide +kernel))) rfl
theorem ini_X2 : Cond.initialized RX2 ∈ sw_U := sw_in (sw_t1 (List.mem_of_getElem? (i := 28) (by decide +kernel))) rfl
theorem ini_X0 : Cond.initialized RX0 ∈ sw_U := sw_in (sw_t1 (List.mem_of_getElem? (i := 29) (by decide +kernel))) rfl
theorem cl_L_9 : Cond.classLink RL 9 RX10 ∈ sw_U := sw_in (sw_t1 (List.mem_of_getElem? (i := 30) (by decide +kernel))) rfl
theorem ins_X10 : Cond.instantiable RX10 13 ∈ sw_U := sw_in (sw_t1 (List.mem_of_getElem? (i := 31) (by decide +kernel))) rfl
theorem ml_L_141 : Cond.methodLink RL 141 yX10_init ∈ sw_U := sw_in (sw_t1 (List.mem_of_getElem? (i := 32) (by decide +kernel))) rfl
theorem im_X10_init : Cond.instanceMethod yX10_init ∈ sw_U := sw_in (sw_t1 (List.mem_of_getElem? (i := 33) (by decide +kernel))) rfl
theorem co_X10_init : Cond.code yX10_init cX10_init 1 (Option.none : Option Jvm.ClassFile.FieldType) ∈ sw_U := sw_in (sw_t1 (List.mem_of_getElem? (i := 34) (by decide +kernel))) rfl
theorem ml_X10_3 : Cond.methodLink RX10 3 ⟨"java/lang/Object", "<init>", "()V"⟩ ∈ sw_U := sw_in (sw_t1 (List.mem_of_getElem? (i := 35) (by decide +kernel))) rfl
theorem cl_X10_9 : Cond.classLink RX10 9 RX3 ∈ sw_U := sw_in (sw_t1 (List.mem_of_getElem? (i := 38) (by decide +kernel))) rfl
theorem ins_X3 : Cond.instantiable RX3 7 ∈ sw_U := sw_in (sw_t1 (List.mem_of_getElem? (i := 39) (by decide +kernel))) rfl
theorem ml_X10_11 : Cond.methodLink RX10 11 yX3_init ∈ sw_U := sw_in (sw_t1 (List.mem_of_getElem? (i := 40) (by decide +kernel))) rfl
theorem im_X3_init : Cond.instanceMethod yX3_init ∈ sw_U := sw_in (sw_t1 (List.mem_of_getElem? (i := 41) (by decide +kernel))) rfl
theorem co_X3_init : Cond.code yX3_init cX3_init 1 (Option.none : Option Jvm.ClassFile.FieldType) ∈ sw_U := sw_in (sw_t1 (List.mem_of_getElem? (i := 42) (by decide +kernel))) rfl
theorem ml_X3_3 : Cond.methodLink RX3 3 ⟨"java/lang/Object", "<init>", "()V"⟩ ∈ sw_U := sw_in (sw_t1 (List.mem_of_getElem? (i := 43) (by decide +kernel))) rfl
theorem fl_X3_9 : Cond.fieldLink RX3 9 "StrikeWheels$Plan" "wheel" "I" ∈ sw_U := sw_in (sw_t1 (List.mem_of_getElem? (i := 44) (by decide +kernel))) rfl
theorem fl_X3_15 : Cond.fieldLink RX3 15 "StrikeWheels$Plan" "stretches" "I" ∈ sw_U := sw_in (sw_t1 (List.mem_of_getElem? (i := 45) (by decide +kernel))) rfl
theorem fl_X3_18 : Cond.fieldLink RX3 18 "StrikeWheels$Plan" "rooms" "[I" ∈ sw_U := sw_in (sw_t1 (List.mem_of_getElem? (i := 46) (by decide +kernel))) rfl
theorem fl_X3_22 : Cond.fieldLink RX3 22 "StrikeWheels$Plan" "last" "I" ∈ sw_U := sw_in (sw_t1 (List.mem_of_getElem? (i := 47) (by decide +kernel))) rfl
theorem fl_X3_25 : Cond.fieldLink RX3 25 "StrikeWheels$Plan" "strikers" "I" ∈ sw_U := sw_in (sw_t1 (List.mem_of_getElem? (i := 48) (by decide +kernel))) rfl
theorem fl_X3_28 : Cond.fieldLink RX3 28 "StrikeWheels$Plan" "ds" "[I" ∈ sw_U := sw_in (sw_t1 (List.mem_of_getElem? (i := 49) (by decide +kernel))) rfl
theorem fl_X3_31 : Cond.fieldLink RX3 31 "StrikeWheels$Plan" "version" "I" ∈ sw_U := sw_in (sw_t1 (List.mem_of_getElem? (i := 50) (by decide +kernel))) rfl
theorem ac_int : Cond.arrayClass Jvm.ClassFile.FieldType.int ∈ sw_U := sw_in (sw_t1 (List.mem_of_getElem? (i := 66) (by decide +kernel))) rfl
theorem cl_X10_29 : Cond.classLink RX10 29 RX1 ∈ sw_U := sw_in (sw_t1 (List.mem_of_getElem? (i := 67) (by decide +kernel))) rfl
theorem ins_X1 : Cond.instantiable RX1 3 ∈ sw_U := sw_in (sw_t1 (List.mem_of_getElem? (i := 68) (by decide +kernel))) rfl
theorem ml_X10_31 : Cond.methodLink RX10 31 yX1_init ∈ sw_U := sw_in (sw_t1 (List.mem_of_getElem? (i := 69) (by decide +kernel))) rfl
theorem im_X1_init : Cond.instanceMethod yX1_init ∈ sw_U := sw_in (sw_t1 (List.mem_of_getElem? (i := 70) (by decide +kernel))) rfl
theorem co_X1_init : Cond.code yX1_init cX1_init 2 (Option.none : Option Jvm.ClassFile.FieldType) ∈ sw_U := sw_in (sw_t1 (List.mem_of_getElem? (i := 71) (by decide +kernel))) rfl
theorem ml_X1_3 : Cond.methodLink RX1 3 ⟨"java/lang/Object", "<init>", "()V"⟩ ∈ sw_U := sw_in (sw_t1 (List.mem_of_getElem? (i := 72) (by decide +kernel))) rfl
theorem cl_X1_9 : Cond.classLink RX1 9 RX3 ∈ sw_U := sw_in (sw_t1 (List.mem_of_getElem? (i := 73) (by decide +kernel))) rfl
theorem ml_X1_24 : Cond.methodLink RX1 24 yX3_init ∈ sw_U := sw_in (sw_t1 (List.mem_of_getElem? (i := 75) (by decide +kernel))) rfl
theorem fl_X1_11 : Cond.fieldLink RX1 11 "StrikeWheels$History" "plans" "[LStrikeWheels$Plan;" ∈ sw_U := sw_in (sw_t1 (List.mem_of_getElem? (i := 76) (by decide +kernel))) rfl
theorem fl_X1_17 : Cond.fieldLink RX1 17 "StrikeWheels$History" "oldest" "I" ∈ sw_U := sw_in (sw_t1 (List.mem_of_getElem? (i := 77) (by decide +kernel))) rfl
theorem fl_X1_21 : Cond.fieldLink RX1 21 "StrikeWheels$History" "count" "I" ∈ sw_U := sw_in (sw_t1 (List.mem_of_getElem? (i := 78) (by decide +kernel))) rfl
theorem cl_X10_36 : Cond.classLink RX10 36 RX7 ∈ sw_U := sw_in (sw_t1 (List.mem_of_getElem? (i := 86) (by decide +kernel))) rfl
theorem ins_X7 : Cond.instantiable RX7 6 ∈ sw_U := sw_in (sw_t1 (List.mem_of_getElem? (i := 87) (by decide +kernel))) rfl
theorem ml_X10_38 : Cond.methodLink RX10 38 yX7_init ∈ sw_U := sw_in (sw_t1 (List.mem_of_getElem? (i := 88) (by decide +kernel))) rfl
theorem im_X7_init : Cond.instanceMethod yX7_init ∈ sw_U := sw_in (sw_t1 (List.mem_of_getElem? (i := 89) (by decide +kernel))) rfl
theorem co_X7_init : Cond.code yX7_init cX7_init 1 (Option.none : Option Jvm.ClassFile.FieldType) ∈ sw_U := sw_in (sw_t1 (List.mem_of_getElem? (i := 90) (by decide +kernel))) rfl
theorem ml_X7_3 : Cond.methodLink RX7 3 ⟨"java/lang/Object", "<init>", "()V"⟩ ∈ sw_U := sw_in (sw_t1 (List.mem_of_getElem? (i := 91) (by decide +kernel))) rfl
theorem fl_X7_9 : Cond.fieldLink RX7 9 "StrikeWheels$Sieve" "owners" "[I" ∈ sw_U := sw_in (sw_t1 (List.mem_of_getElem? (i := 92) (by decide +kernel))) rfl
theorem fl_X7_15 : Cond.fieldLink RX7 15 "StrikeWheels$Sieve" "counts" "[I" ∈ sw_U := sw_in (sw_t1 (List.mem_of_getElem? (i := 93) (by decide +kernel))) rfl
theorem fl_X7_18 : Cond.fieldLink RX7 18 "StrikeWheels$Sieve" "last" "I" ∈ sw_U := sw_in (sw_t1 (List.mem_of_getElem? (i := 94) (by decide +kernel))) rfl
theorem fl_X7_22 : Cond.fieldLink RX7 22 "StrikeWheels$Sieve" "markCount" "I" ∈ sw_U := sw_in (sw_t1 (List.mem_of_getElem? (i := 95) (by decide +kernel))) rfl
theorem fl_X7_25 : Cond.fieldLink RX7 25 "StrikeWheels$Sieve" "spokeCount" "I" ∈ sw_U := sw_in (sw_t1 (List.mem_of_getElem? (i := 96) (by decide +kernel))) rfl
theorem fl_X7_28 : Cond.fieldLink RX7 28 "StrikeWheels$Sieve" "builtVersion" "I" ∈ sw_U := sw_in (sw_t1 (List.mem_of_getElem? (i := 97) (by decide +kernel))) rfl
theorem cl_X10_43 : Cond.classLink RX10 43 RX8 ∈ sw_U := sw_in (sw_t1 (List.mem_of_getElem? (i := 111) (by decide +kernel))) rfl
theorem ins_X8 : Cond.instantiable RX8 7 ∈ sw_U := sw_in (sw_t1 (List.mem_of_getElem? (i := 112) (by decide +kernel))) rfl
theorem ml_X10_45 : Cond.methodLink RX10 45 yX8_init ∈ sw_U := sw_in (sw_t1 (List.mem_of_getElem? (i := 113) (by decide +kernel))) rfl
theorem im_X8_init : Cond.instanceMethod yX8_init ∈ sw_U := sw_in (sw_t1 (List.mem_of_getElem? (i := 114) (by decide +kernel))) rfl
theorem co_X8_init : Cond.code yX8_init cX8_init 1 (Option.none : Option Jvm.ClassFile.FieldType) ∈ sw_U := sw_in (sw_t1 (List.mem_of_getElem? (i := 115) (by decide +kernel))) rfl
theorem ml_X8_3 : Cond.methodLink RX8 3 ⟨"java/lang/Object", "<init>", "()V"⟩ ∈ sw_U := sw_in (sw_t1 (List.mem_of_getElem? (i := 116) (by decide +kernel))) rfl
theorem fl_X8_9 : Cond.fieldLink RX8 9 "StrikeWheels$Source" "bytes" "[B" ∈ sw_U := sw_in (sw_t1 (List.mem_of_getElem? (i := 117) (by decide +kernel))) rfl
theorem fl_X8_15 : Cond.fieldLink RX8 15 "StrikeWheels$Source" "filled" "I" ∈ sw_U := sw_in (sw_t1 (List.mem_of_getElem? (i := 118) (by decide +kernel))) rfl
theorem fl_X8_19 : Cond.fieldLink RX8 19 "StrikeWheels$Source" "end" "I" ∈ sw_U := sw_in (sw_t1 (List.mem_of_getElem? (i := 119) (by decide +kernel))) rfl
theorem fl_X8_22 : Cond.fieldLink RX8 22 "StrikeWheels$Source" "position" "I" ∈ sw_U := sw_in (sw_t1 (List.mem_of_getElem? (i := 120) (by decide +kernel))) rfl
theorem fl_X8_25 : Cond.fieldLink RX8 25 "StrikeWheels$Source" "kind" "I" ∈ sw_U := sw_in (sw_t1 (List.mem_of_getElem? (i := 121) (by decide +kernel))) rfl
theorem fl_X8_28 : Cond.fieldLink RX8 28 "StrikeWheels$Source" "start" "I" ∈ sw_U := sw_in (sw_t1 (List.mem_of_getElem? (i := 122) (by decide +kernel))) rfl
theorem fl_X8_31 : Cond.fieldLink RX8 31 "StrikeWheels$Source" "value" "I" ∈ sw_U := sw_in (sw_t1 (List.mem_of_getElem? (i := 123) (by decide +kernel))) rfl
theorem ac_byte : Cond.arrayClass Jvm.ClassFile.FieldType.byte ∈ sw_U := sw_in (sw_t1 (List.mem_of_getElem? (i := 139) (by decide +kernel))) rfl
theorem cl_X10_50 : Cond.classLink RX10 50 RX4 ∈ sw_U := sw_in (sw_t1 (List.mem_of_getElem? (i := 140) (by decide +kernel))) rfl
theorem ins_X4 : Cond.instantiable RX4 4 ∈ sw_U := sw_in (sw_t1 (List.mem_of_getElem? (i := 141) (by decide +kernel))) rfl
theorem ml_X10_52 : Cond.methodLink RX10 52 yX4_init ∈ sw_U := sw_in (sw_t1 (List.mem_of_getElem? (i := 142) (by decide +kernel))) rfl
theorem im_X4_init : Cond.instanceMethod yX4_init ∈ sw_U := sw_in (sw_t1 (List.mem_of_getElem? (i := 143) (by decide +kernel))) rfl
theorem co_X4_init : Cond.code yX4_init cX4_init 2 (Option.none : Option Jvm.ClassFile.FieldType) ∈ sw_U := sw_in (sw_t1 (List.mem_of_getElem? (i := 144) (by decide +kernel))) rfl
theorem ml_X4_3 : Cond.methodLink RX4 3 ⟨"java/lang/Object", "<init>", "()V"⟩ ∈ sw_U := sw_in (sw_t1 (List.mem_of_getElem? (i := 145) (by decide +kernel))) rfl
theorem fl_X4_21 : Cond.fieldLink RX4 21 "StrikeWheels$Reader" "source" "LStrikeWheels$Source;" ∈ sw_U := sw_in (sw_t1 (List.mem_of_getElem? (i := 146) (by decide +kernel))) rfl
theorem fl_X4_9 : Cond.fieldLink RX4 9 "StrikeWheels$Reader" "error" "I" ∈ sw_U := sw_in (sw_t1 (List.mem_of_getElem? (i := 147) (by decide +kernel))) rfl
theorem fl_X4_15 : Cond.fieldLink RX4 15 "StrikeWheels$Reader" "position" "I" ∈ sw_U := sw_in (sw_t1 (List.mem_of_getElem? (i := 148) (by decide +kernel))) rfl
theorem fl_X4_18 : Cond.fieldLink RX4 18 "StrikeWheels$Reader" "number" "I" ∈ sw_U := sw_in (sw_t1 (List.mem_of_getElem? (i := 149) (by decide +kernel))) rfl
theorem cl_X10_59 : Cond.classLink RX10 59 RX5 ∈ sw_U := sw_in (sw_t1 (List.mem_of_getElem? (i := 159) (by decide +kernel))) rfl
theorem ins_X5 : Cond.instantiable RX5 4 ∈ sw_U := sw_in (sw_t1 (List.mem_of_getElem? (i := 160) (by decide +kernel))) rfl
theorem ml_X10_61 : Cond.methodLink RX10 61 yX5_init ∈ sw_U := sw_in (sw_t1 (List.mem_of_getElem? (i := 161) (by decide +kernel))) rfl
theorem im_X5_init : Cond.instanceMethod yX5_init ∈ sw_U := sw_in (sw_t1 (List.mem_of_getElem? (i := 162) (by decide +kernel))) rfl
theorem co_X5_init : Cond.code yX5_init cX5_init 1 (Option.none : Option Jvm.ClassFile.FieldType) ∈ sw_U := sw_in (sw_t1 (List.mem_of_getElem? (i := 163) (by decide +kernel))) rfl
theorem ml_X5_3 : Cond.methodLink RX5 3 ⟨"java/lang/Object", "<init>", "()V"⟩ ∈ sw_U := sw_in (sw_t1 (List.mem_of_getElem? (i := 164) (by decide +kernel))) rfl
theorem cl_X5_9 : Cond.classLink RX5 9 RX2 ∈ sw_U := sw_in (sw_t1 (List.mem_of_getElem? (i := 165) (by decide +kernel))) rfl
theorem fl_X5_11 : Cond.fieldLink RX5 11 "StrikeWheels$Script" "orders" "[LStrikeWheels$Order;" ∈ sw_U := sw_in (sw_t1 (List.mem_of_getElem? (i := 167) (by decide +kernel))) rfl
theorem fl_X5_17 : Cond.fieldLink RX5 17 "StrikeWheels$Script" "numbers" "[I" ∈ sw_U := sw_in (sw_t1 (List.mem_of_getElem? (i := 168) (by decide +kernel))) rfl
theorem fl_X5_21 : Cond.fieldLink RX5 21 "StrikeWheels$Script" "others" "[I" ∈ sw_U := sw_in (sw_t1 (List.mem_of_getElem? (i := 169) (by decide +kernel))) rfl
theorem fl_X5_24 : Cond.fieldLink RX5 24 "StrikeWheels$Script" "count" "I" ∈ sw_U := sw_in (sw_t1 (List.mem_of_getElem? (i := 170) (by decide +kernel))) rfl
theorem cl_X10_66 : Cond.classLink RX10 66 RX6 ∈ sw_U := sw_in (sw_t1 (List.mem_of_getElem? (i := 180) (by decide +kernel))) rfl
theorem ins_X6 : Cond.instantiable RX6 2 ∈ sw_U := sw_in (sw_t1 (List.mem_of_getElem? (i := 181) (by decide +kernel))) rfl
theorem ml_X10_68 : Cond.methodLink RX10 68 yX6_init ∈ sw_U := sw_in (sw_t1 (List.mem_of_getElem? (i := 182) (by decide +kernel))) rfl
theorem im_X6_init : Cond.instanceMethod yX6_init ∈ sw_U := sw_in (sw_t1 (List.mem_of_getElem? (i := 183) (by decide +kernel))) rfl
theorem co_X6_init : Cond.code yX6_init cX6_init 1 (Option.none : Option Jvm.ClassFile.FieldType) ∈ sw_U := sw_in (sw_t1 (List.mem_of_getElem? (i := 184) (by decide +kernel))) rfl
theorem ml_X6_3 : Cond.methodLink RX6 3 ⟨"java/lang/Object", "<init>", "()V"⟩ ∈ sw_U := sw_in (sw_t1 (List.mem_of_getElem? (i := 185) (by decide +kernel))) rfl
theorem fl_X6_9 : Cond.fieldLink RX6 9 "StrikeWheels$Sheet" "bytes" "[B" ∈ sw_U := sw_in (sw_t1 (List.mem_of_getElem? (i := 186) (by decide +kernel))) rfl
theorem fl_X6_15 : Cond.fieldLink RX6 15 "StrikeWheels$Sheet" "length" "I" ∈ sw_U := sw_in (sw_t1 (List.mem_of_getElem? (i := 187) (by decide +kernel))) rfl
theorem ml_X10_81 : Cond.methodLink RX10 81 yX3_beginWith ∈ sw_U := sw_in (sw_t1 (List.mem_of_getElem? (i := 193) (by decide +kernel))) rfl
theorem im_X3_beginWith : Cond.instanceMethod yX3_beginWith ∈ sw_U := sw_in (sw_t1 (List.mem_of_getElem? (i := 194) (by decide +kernel))) rfl
theorem se_X3_beginWith : Cond.selects yX3_beginWith.cls yX3_beginWith yX3_beginWith ∈ sw_U := sw_in (sw_t1 (List.mem_of_getElem? (i := 195) (by decide +kernel))) rfl
theorem co_X3_beginWith : Cond.code yX3_beginWith cX3_beginWith 2 (Option.none : Option Jvm.ClassFile.FieldType) ∈ sw_U := sw_in (sw_t1 (List.mem_of_getElem? (i := 196) (by decide +kernel))) rfl
theorem ml_X10_85 : Cond.methodLink RX10 85 yX3_appendStretch ∈ sw_U := sw_in (sw_t1 (List.mem_of_getElem? (i := 197) (by decide +kernel))) rfl
theorem im_X3_appendStretch : Cond.instanceMethod yX3_appendStretch ∈ sw_U := sw_in (sw_t1 (List.mem_of_getElem? (i := 198) (by decide +kernel))) rfl
theorem se_X3_appendStretch : Cond.selects yX3_appendStretch.cls yX3_appendStretch yX3_appendStretch ∈ sw_U := sw_in (sw_t1 (List.mem_of_getElem? (i := 199) (by decide +kernel))) rfl
theorem co_X3_appendStretch : Cond.code yX3_appendStretch cX3_appendStretch 2 (Option.none : Option Jvm.ClassFile.FieldType) ∈ sw_U := sw_in (sw_t1 (List.mem_of_getElem? (i := 200) (by decide +kernel))) rfl
theorem ml_X10_88 : Cond.methodLink RX10 88 yX3_appendStriker ∈ sw_U := sw_in (sw_t1 (List.mem_of_getElem? (i := 201) (by decide +kernel))) rfl
theorem im_X3_appendStriker : Cond.instanceMethod yX3_appendStriker ∈ sw_U := sw_in (sw_t1 (List.mem_of_getElem? (i := 202) (by decide +kernel))) rfl
theorem se_X3_appendStriker : Cond.selects yX3_appendStriker.cls yX3_appendStriker yX3_appendStriker ∈ sw_U := sw_in (sw_t1 (List.mem_of_getElem? (i := 203) (by decide +kernel))) rfl
theorem co_X3_appendStriker : Cond.code yX3_appendStriker cX3_appendStriker 2 (Option.none : Option Jvm.ClassFile.FieldType) ∈ sw_U := sw_in (sw_t1 (List.mem_of_getElem? (i := 204) (by decide +kernel))) rfl
theorem fl_X10_12 : Cond.fieldLink RX10 12 "StrikeWheels" "plan" "LStrikeWheels$Plan;" ∈ sw_U := sw_in (sw_t1 (List.mem_of_getElem? (i := 205) (by decide +kernel))) rfl
theorem fl_X10_16 : Cond.fieldLink RX10 16 "StrikeWheels" "before" "LStrikeWheels$Plan;" ∈ sw_U := sw_in (sw_t1 (List.mem_of_getElem? (i := 206) (by decide +kernel))) rfl
theorem fl_X10_19 : Cond.fieldLink RX10 19 "StrikeWheels" "draft" "LStrikeWheels$Plan;" ∈ sw_U := sw_in (sw_t1 (List.mem_of_getElem? (i := 207) (by decide +kernel))) rfl
theorem fl_X10_22 : Cond.fieldLink RX10 22 "StrikeWheels" "snapshot" "LStrikeWheels$Plan;" ∈ sw_U := sw_in (sw_t1 (List.mem_of_getElem? (i := 208) (by decide +kernel))) rfl
theorem fl_X10_25 : Cond.fieldLink RX10 25 "StrikeWheels" "hasSnapshot" "Z" ∈ sw_U := sw_in (sw_t1 (List.mem_of_getElem? (i := 209) (by decide +kernel))) rfl
theorem fl_X10_32 : Cond.fieldLink RX10 32 "StrikeWheels" "history" "LStrikeWheels$History;" ∈ sw_U := sw_in (sw_t1 (List.mem_of_getElem? (i := 210) (by decide +kernel))) rfl
theorem fl_X10_39 : Cond.fieldLink RX10 39 "StrikeWheels" "sieve" "LStrikeWheels$Sieve;" ∈ sw_U := sw_in (sw_t1 (List.mem_of_getElem? (i := 211) (by decide +kernel))) rfl
theorem fl_X10_46 : Cond.fieldLink RX10 46 "StrikeWheels" "source" "LStrikeWheels$Source;" ∈ sw_U := sw_in (sw_t1 (List.mem_of_getElem? (i := 212) (by decide +kernel))) rfl
theorem fl_X10_55 : Cond.fieldLink RX10 55 "StrikeWheels" "reader" "LStrikeWheels$Reader;" ∈ sw_U := sw_in (sw_t1 (List.mem_of_getElem? (i := 213) (by decide +kernel))) rfl
theorem fl_X10_62 : Cond.fieldLink RX10 62 "StrikeWheels" "script" "LStrikeWheels$Script;" ∈ sw_U := sw_in (sw_t1 (List.mem_of_getElem? (i := 214) (by decide +kernel))) rfl
theorem fl_X10_69 : Cond.fieldLink RX10 69 "StrikeWheels" "sheet" "LStrikeWheels$Sheet;" ∈ sw_U := sw_in (sw_t1 (List.mem_of_getElem? (i := 215) (by decide +kernel))) rfl
theorem fl_X10_73 : Cond.fieldLink RX10 73 "StrikeWheels" "accounts" "[I" ∈ sw_U := sw_in (sw_t1 (List.mem_of_getElem? (i := 216) (by decide +kernel))) rfl
theorem fl_X10_77 : Cond.fieldLink RX10 77 "StrikeWheels" "positionOfError" "I" ∈ sw_U := sw_in (sw_t1 (List.mem_of_getElem? (i := 217) (by decide +kernel))) rfl
theorem ml_L_179 : Cond.methodLink RL 179 yX10_load ∈ sw_U := sw_in (sw_t2 (List.mem_of_getElem? (i := 5) (by decide +kernel))) rfl
theorem im_X10_load : Cond.instanceMethod yX10_load ∈ sw_U := sw_in (sw_t2 (List.mem_of_getElem? (i := 6) (by decide +kernel))) rfl
theorem se_X10_load : Cond.selects yX10_load.cls yX10_load yX10_load ∈ sw_U := sw_in (sw_t2 (List.mem_of_getElem? (i := 7) (by decide +kernel))) rfl
theorem co_X10_load : Cond.code yX10_load cX10_load 3 (Option.some Jvm.ClassFile.FieldType.int) ∈ sw_U := sw_in (sw_t2 (List.mem_of_getElem? (i := 8) (by decide +kernel))) rfl
theorem ml_X10_91 : Cond.methodLink RX10 91 yX8_filled ∈ sw_U := sw_in (sw_t2 (List.mem_of_getElem? (i := 9) (by decide +kernel))) rfl
theorem im_X8_filled : Cond.instanceMethod yX8_filled ∈ sw_U := sw_in (sw_t2 (List.mem_of_getElem? (i := 10) (by decide +kernel))) rfl
theorem se_X8_filled : Cond.selects yX8_filled.cls yX8_filled yX8_filled ∈ sw_U := sw_in (sw_t2 (List.mem_of_getElem? (i := 11) (by decide +kernel))) rfl
theorem co_X8_filled : Cond.code yX8_filled cX8_filled 1 (Option.some Jvm.ClassFile.FieldType.int) ∈ sw_U := sw_in (sw_t2 (List.mem_of_getElem? (i := 12) (by decide +kernel))) rfl
theorem ml_X10_98 : Cond.methodLink RX10 98 yX10_needInRange ∈ sw_U := sw_in (sw_t2 (List.mem_of_getElem? (i := 13) (by decide +kernel))) rfl
theorem st_X10_needInRange : Cond.static yX10_needInRange ∈ sw_U := sw_in (sw_t2 (List.mem_of_getElem? (i := 14) (by decide +kernel))) rfl
theorem co_X10_needInRange : Cond.code yX10_needInRange cX10_needInRange 3 (Option.none : Option Jvm.ClassFile.FieldType) ∈ sw_U := sw_in (sw_t2 (List.mem_of_getElem? (i := 15) (by decide +kernel))) rfl
theorem cl_X10_349 : Cond.classLink RX10 349 "java/lang/IllegalArgumentException" ∈ sw_U := sw_in (sw_t2 (List.mem_of_getElem? (i := 16) (by decide +kernel))) rfl
theorem ins_java_lang_IllegalArgumentException : Cond.instantiable "java/lang/IllegalArgumentException" 6 ∈ sw_U := sw_in (sw_t2 (List.mem_of_getElem? (i := 17) (by decide +kernel))) rfl
theorem ins_java_lang_Throwable : Cond.instantiable "java/lang/Throwable" 6 ∈ sw_U := sw_in (sw_t2 (List.mem_of_getElem? (i := 54) (by decide +kernel))) rfl
theorem ml_X10_351 : Cond.methodLink RX10 351 ⟨"java/lang/IllegalArgumentException", "<init>", "()V"⟩ ∈ sw_U := sw_in (sw_t2 (List.mem_of_getElem? (i := 56) (by decide +kernel))) rfl
theorem ml_X10_102 : Cond.methodLink RX10 102 yX4_readText ∈ sw_U := sw_in (sw_t2 (List.mem_of_getElem? (i := 78) (by decide +kernel))) rfl
theorem im_X4_readText : Cond.instanceMethod yX4_readText ∈ sw_U := sw_in (sw_t2 (List.mem_of_getElem? (i := 79) (by decide +kernel))) rfl
theorem se_X4_readText : Cond.selects yX4_readText.cls yX4_readText yX4_readText ∈ sw_U := sw_in (sw_t2 (List.mem_of_getElem? (i := 80) (by decide +kernel))) rfl
theorem co_X4_readText : Cond.code yX4_readText cX4_readText 3 (Option.some Jvm.ClassFile.FieldType.int) ∈ sw_U := sw_in (sw_t2 (List.mem_of_getElem? (i := 81) (by decide +kernel))) rfl
theorem ml_X4_25 : Cond.methodLink RX4 25 yX4_begin ∈ sw_U := sw_in (sw_t2 (List.mem_of_getElem? (i := 82) (by decide +kernel))) rfl
theorem im_X4_begin : Cond.instanceMethod yX4_begin ∈ sw_U := sw_in (sw_t2 (List.mem_of_getElem? (i := 84) (by decide +kernel))) rfl
theorem co_X4_begin : Cond.code yX4_begin cX4_begin 2 (Option.none : Option Jvm.ClassFile.FieldType) ∈ sw_U := sw_in (sw_t2 (List.mem_of_getElem? (i := 85) (by decide +kernel))) rfl
theorem ml_X4_73 : Cond.methodLink RX4 73 yX8_open ∈ sw_U := sw_in (sw_t2 (List.mem_of_getElem? (i := 86) (by decide +kernel))) rfl
theorem im_X8_open : Cond.instanceMethod yX8_open ∈ sw_U := sw_in (sw_t2 (List.mem_of_getElem? (i := 87) (by decide +kernel))) rfl
theorem se_X8_open : Cond.selects yX8_open.cls yX8_open yX8_open ∈ sw_U := sw_in (sw_t2 (List.mem_of_getElem? (i := 88) (by decide +kernel))) rfl
theorem co_X8_open : Cond.code yX8_open cX8_open 2 (Option.none : Option Jvm.ClassFile.FieldType) ∈ sw_U := sw_in (sw_t2 (List.mem_of_getElem? (i := 89) (by decide +kernel))) rfl
theorem ml_X8_34 : Cond.methodLink RX8 34 yJ9_min_7cf53 ∈ sw_U := sw_in (sw_t2 (List.mem_of_getElem? (i := 90) (by decide +kernel))) rfl
theorem st_J9_min_7cf53 : Cond.static yJ9_min_7cf53 ∈ sw_U := sw_in (sw_t2 (List.mem_of_getElem? (i := 91) (by decide +kernel))) rfl
theorem co_J9_min_7cf53 : Cond.code yJ9_min_7cf53 cJ9_min_7cf53 2 (Option.some Jvm.ClassFile.FieldType.int) ∈ sw_U := sw_in (sw_t2 (List.mem_of_getElem? (i := 92) (by decide +kernel))) rfl
theorem ml_X8_40 : Cond.methodLink RX8 40 yX8_advance ∈ sw_U := sw_in (sw_t2 (List.mem_of_getElem? (i := 93) (by decide +kernel))) rfl
theorem im_X8_advance : Cond.instanceMethod yX8_advance ∈ sw_U := sw_in (sw_t2 (List.mem_of_getElem? (i := 94) (by decide +kernel))) rfl
theorem se_X8_advance : Cond.selects yX8_advance.cls yX8_advance yX8_advance ∈ sw_U := sw_in (sw_t2 (List.mem_of_getElem? (i := 95) (by decide +kernel))) rfl
theorem co_X8_advance : Cond.code yX8_advance cX8_advance 1 (Option.none : Option Jvm.ClassFile.FieldType) ∈ sw_U := sw_in (sw_t2 (List.mem_of_getElem? (i := 96) (by decide +kernel))) rfl
theorem ml_X8_43 : Cond.methodLink RX8 43 yX8_byteAt ∈ sw_U := sw_in (sw_t2 (List.mem_of_getElem? (i := 97) (by decide +kernel))) rfl
theorem im_X8_byteAt : Cond.instanceMethod yX8_byteAt ∈ sw_U := sw_in (sw_t2 (List.mem_of_getElem? (i := 99) (by decide +kernel))) rfl
theorem co_X8_byteAt : Cond.code yX8_byteAt cX8_byteAt 2 (Option.some Jvm.ClassFile.FieldType.int) ∈ sw_U := sw_in (sw_t2 (List.mem_of_getElem? (i := 100) (by decide +kernel))) rfl
theorem ml_X8_47 : Cond.methodLink RX8 47 yX8_isBlank ∈ sw_U := sw_in (sw_t2 (List.mem_of_getElem? (i := 101) (by decide +kernel))) rfl
theorem st_X8_isBlank : Cond.static yX8_isBlank ∈ sw_U := sw_in (sw_t2 (List.mem_of_getElem? (i := 102) (by decide +kernel))) rfl
theorem co_X8_isBlank : Cond.code yX8_isBlank cX8_isBlank 1 (Option.some Jvm.ClassFile.FieldType.boolean) ∈ sw_U := sw_in (sw_t2 (List.mem_of_getElem? (i := 103) (by decide +kernel))) rfl
theorem ml_X8_51 : Cond.methodLink RX8 51 yX8_isLetter ∈ sw_U := sw_in (sw_t2 (List.mem_of_getElem? (i := 104) (by decide +kernel))) rfl
theorem st_X8_isLetter : Cond.static yX8_isLetter ∈ sw_U := sw_in (sw_t2 (List.mem_of_getElem? (i := 105) (by decide +kernel))) rfl
theorem co_X8_isLetter : Cond.code yX8_isLetter cX8_isLetter 1 (Option.some Jvm.ClassFile.FieldType.boolean) ∈ sw_U := sw_in (sw_t2 (List.mem_of_getElem? (i := 106) (by decide +kernel))) rfl
theorem ml_X8_54 : Cond.methodLink RX8 54 yX8_skipLetters ∈ sw_U := sw_in (sw_t2 (List.mem_of_getElem? (i := 107) (by decide +kernel))) rfl
theorem im_X8_skipLetters : Cond.instanceMethod yX8_skipLetters ∈ sw_U := sw_in (sw_t2 (List.mem_of_getElem? (i := 109) (by decide +kernel))) rfl
theorem co_X8_skipLetters : Cond.code yX8_skipLetters cX8_skipLetters 1 (Option.none : Option Jvm.ClassFile.FieldType) ∈ sw_U := sw_in (sw_t2 (List.mem_of_getElem? (i := 110) (by decide +kernel))) rfl
theorem ml_X8_57 : Cond.methodLink RX8 57 yX8_isDigit ∈ sw_U := sw_in (sw_t2 (List.mem_of_getElem? (i := 111) (by decide +kernel))) rfl
theorem st_X8_isDigit : Cond.static yX8_isDigit ∈ sw_U := sw_in (sw_t2 (List.mem_of_getElem? (i := 112) (by decide +kernel))) rfl
theorem co_X8_isDigit : Cond.code yX8_isDigit cX8_isDigit 1 (Option.some Jvm.ClassFile.FieldType.boolean) ∈ sw_U := sw_in (sw_t2 (List.mem_of_getElem? (i := 113) (by decide +kernel))) rfl
theorem ml_X8_60 : Cond.methodLink RX8 60 yX8_readDigits ∈ sw_U := sw_in (sw_t2 (List.mem_of_getElem? (i := 114) (by decide +kernel))) rfl
theorem im_X8_readDigits : Cond.instanceMethod yX8_readDigits ∈ sw_U := sw_in (sw_t2 (List.mem_of_getElem? (i := 116) (by decide +kernel))) rfl
theorem co_X8_readDigits : Cond.code yX8_readDigits cX8_readDigits 1 (Option.none : Option Jvm.ClassFile.FieldType) ∈ sw_U := sw_in (sw_t2 (List.mem_of_getElem? (i := 117) (by decide +kernel))) rfl
theorem kc_X8_63 : Cond.constant RX8 63 1000000 ∈ sw_U := sw_in (sw_t2 (List.mem_of_getElem? (i := 118) (by decide +kernel))) rfl
theorem ml_X4_31 : Cond.methodLink RX4 31 yX4_takeWord ∈ sw_U := sw_in (sw_t2 (List.mem_of_getElem? (i := 120) (by decide +kernel))) rfl
theorem im_X4_takeWord : Cond.instanceMethod yX4_takeWord ∈ sw_U := sw_in (sw_t2 (List.mem_of_getElem? (i := 122) (by decide +kernel))) rfl
theorem co_X4_takeWord : Cond.code yX4_takeWord cX4_takeWord 2 (Option.some Jvm.ClassFile.FieldType.boolean) ∈ sw_U := sw_in (sw_t2 (List.mem_of_getElem? (i := 123) (by decide +kernel))) rfl
theorem ml_X4_82 : Cond.methodLink RX4 82 yX8_isWord ∈ sw_U := sw_in (sw_t2 (List.mem_of_getElem? (i := 124) (by decide +kernel))) rfl
theorem im_X8_isWord : Cond.instanceMethod yX8_isWord ∈ sw_U := sw_in (sw_t2 (List.mem_of_getElem? (i := 125) (by decide +kernel))) rfl
theorem se_X8_isWord : Cond.selects yX8_isWord.cls yX8_isWord yX8_isWord ∈ sw_U := sw_in (sw_t2 (List.mem_of_getElem? (i := 126) (by decide +kernel))) rfl
theorem co_X8_isWord : Cond.code yX8_isWord cX8_isWord 3 (Option.some Jvm.ClassFile.FieldType.boolean) ∈ sw_U := sw_in (sw_t2 (List.mem_of_getElem? (i := 127) (by decide +kernel))) rfl
theorem ml_X8_64 : Cond.methodLink RX8 64 yJ0_length_8abf5 ∈ sw_U := sw_in (sw_t2 (List.mem_of_getElem? (i := 128) (by decide +kernel))) rfl
theorem im_J0_length_8abf5 : Cond.instanceMethod yJ0_length_8abf5 ∈ sw_U := sw_in (sw_t2 (List.mem_of_getElem? (i := 129) (by decide +kernel))) rfl
theorem se_J0_length_8abf5 : Cond.selects yJ0_length_8abf5.cls yJ0_length_8abf5 yJ0_length_8abf5 ∈ sw_U := sw_in (sw_t2 (List.mem_of_getElem? (i := 130) (by decide +kernel))) rfl
theorem co_J0_length_8abf5 : Cond.code yJ0_length_8abf5 cJ0_length_8abf5 1 (Option.some Jvm.ClassFile.FieldType.int) ∈ sw_U := sw_in (sw_t2 (List.mem_of_getElem? (i := 131) (by decide +kernel))) rfl
theorem ml_J0_335 : Cond.methodLink RJ0 335 yJ0_coder_7d493 ∈ sw_U := sw_in (sw_t2 (List.mem_of_getElem? (i := 132) (by decide +kernel))) rfl
theorem im_J0_coder_7d493 : Cond.instanceMethod yJ0_coder_7d493 ∈ sw_U := sw_in (sw_t2 (List.mem_of_getElem? (i := 133) (by decide +kernel))) rfl
theorem se_J0_coder_7d493 : Cond.selects yJ0_coder_7d493.cls yJ0_coder_7d493 yJ0_coder_7d493 ∈ sw_U := sw_in (sw_t2 (List.mem_of_getElem? (i := 134) (by decide +kernel))) rfl
theorem co_J0_coder_7d493 : Cond.code yJ0_coder_7d493 cJ0_coder_7d493 1 (Option.some Jvm.ClassFile.FieldType.byte) ∈ sw_U := sw_in (sw_t2 (List.mem_of_getElem? (i := 135) (by decide +kernel))) rfl
theorem fl_J0_38 : Cond.fieldLink RJ0 38 "java/lang/String" "COMPACT_STRINGS" "Z" ∈ sw_U := sw_in (sw_t2 (List.mem_of_getElem? (i := 136) (by decide +kernel))) rfl
theorem ml_X8_70 : Cond.methodLink RX8 70 yJ0_charAt_5068e ∈ sw_U := sw_in (sw_t2 (List.mem_of_getElem? (i := 138) (by decide +kernel))) rfl
theorem im_J0_charAt_5068e : Cond.instanceMethod yJ0_charAt_5068e ∈ sw_U := sw_in (sw_t2 (List.mem_of_getElem? (i := 139) (by decide +kernel))) rfl
theorem se_J0_charAt_5068e : Cond.selects yJ0_charAt_5068e.cls yJ0_charAt_5068e yJ0_charAt_5068e ∈ sw_U := sw_in (sw_t2 (List.mem_of_getElem? (i := 140) (by decide +kernel))) rfl
theorem co_J0_charAt_5068e : Cond.code yJ0_charAt_5068e cJ0_charAt_5068e 2 (Option.some Jvm.ClassFile.FieldType.char) ∈ sw_U := sw_in (sw_t2 (List.mem_of_getElem? (i := 141) (by decide +kernel))) rfl
theorem ml_J0_492 : Cond.methodLink RJ0 492 yJ0_isLatin1_aae02 ∈ sw_U := sw_in (sw_t2 (List.mem_of_getElem? (i := 142) (by decide +kernel))) rfl
theorem im_J0_isLatin1_aae02 : Cond.instanceMethod yJ0_isLatin1_aae02 ∈ sw_U := sw_in (sw_t2 (List.mem_of_getElem? (i := 143) (by decide +kernel))) rfl
theorem se_J0_isLatin1_aae02 : Cond.selects yJ0_isLatin1_aae02.cls yJ0_isLatin1_aae02 yJ0_isLatin1_aae02 ∈ sw_U := sw_in (sw_t2 (List.mem_of_getElem? (i := 144) (by decide +kernel))) rfl
theorem co_J0_isLatin1_aae02 : Cond.code yJ0_isLatin1_aae02 cJ0_isLatin1_aae02 1 (Option.some Jvm.ClassFile.FieldType.boolean) ∈ sw_U := sw_in (sw_t2 (List.mem_of_getElem? (i := 145) (by decide +kernel))) rfl
theorem ml_J0_495 : Cond.methodLink RJ0 495 yJ1_charAt_3b067 ∈ sw_U := sw_in (sw_t2 (List.mem_of_getElem? (i := 146) (by decide +kernel))) rfl
theorem st_J1_charAt_3b067 : Cond.static yJ1_charAt_3b067 ∈ sw_U := sw_in (sw_t2 (List.mem_of_getElem? (i := 147) (by decide +kernel))) rfl
theorem co_J1_charAt_3b067 : Cond.code yJ1_charAt_3b067 cJ1_charAt_3b067 2 (Option.some Jvm.ClassFile.FieldType.char) ∈ sw_U := sw_in (sw_t2 (List.mem_of_getElem? (i := 148) (by decide +kernel))) rfl
theorem ml_J1_9 : Cond.methodLink RJ1 9 yJ0_checkIndex_df160 ∈ sw_U := sw_in (sw_t2 (List.mem_of_getElem? (i := 149) (by decide +kernel))) rfl
theorem st_J0_checkIndex_df160 : Cond.static yJ0_checkIndex_df160 ∈ sw_U := sw_in (sw_t2 (List.mem_of_getElem? (i := 150) (by decide +kernel))) rfl
theorem co_J0_checkIndex_df160 : Cond.code yJ0_checkIndex_df160 cJ0_checkIndex_df160 2 (Option.none : Option Jvm.ClassFile.FieldType) ∈ sw_U := sw_in (sw_t2 (List.mem_of_getElem? (i := 151) (by decide +kernel))) rfl
theorem fl_J0_1053 : Cond.fieldLink RJ0 1053 "jdk/internal/util/Preconditions" "SIOOBE_FORMATTER" "Ljava/util/function/BiFunction;" ∈ sw_U := sw_in (sw_t2 (List.mem_of_getElem? (i := 152) (by decide +kernel))) rfl
theorem ml_J0_1059 : Cond.methodLink RJ0 1059 yJ3_checkIndex_8e157 ∈ sw_U := sw_in (sw_t2 (List.mem_of_getElem? (i := 154) (by decide +kernel))) rfl
theorem st_J3_checkIndex_8e157 : Cond.static yJ3_checkIndex_8e157 ∈ sw_U := sw_in (sw_t2 (List.mem_of_getElem? (i := 155) (by decide +kernel))) rfl
theorem co_J3_checkIndex_8e157 : Cond.code yJ3_checkIndex_8e157 cJ3_checkIndex_8e157 3 (Option.some Jvm.ClassFile.FieldType.int) ∈ sw_U := sw_in (sw_t2 (List.mem_of_getElem? (i := 156) (by decide +kernel))) rfl
theorem ml_J0_498 : Cond.methodLink RJ0 498 yJ2_charAt_3b067 ∈ sw_U := sw_in (sw_t2 (List.mem_of_getElem? (i := 157) (by decide +kernel))) rfl
theorem st_J2_charAt_3b067 : Cond.static yJ2_charAt_3b067 ∈ sw_U := sw_in (sw_t2 (List.mem_of_getElem? (i := 158) (by decide +kernel))) rfl
theorem co_J2_charAt_3b067 : Cond.code yJ2_charAt_3b067 cJ2_charAt_3b067 2 (Option.some Jvm.ClassFile.FieldType.char) ∈ sw_U := sw_in (sw_t2 (List.mem_of_getElem? (i := 159) (by decide +kernel))) rfl
theorem ml_J2_67 : Cond.methodLink RJ2 67 yJ2_checkIndex_2214a ∈ sw_U := sw_in (sw_t2 (List.mem_of_getElem? (i := 160) (by decide +kernel))) rfl
theorem st_J2_checkIndex_2214a : Cond.static yJ2_checkIndex_2214a ∈ sw_U := sw_in (sw_t2 (List.mem_of_getElem? (i := 161) (by decide +kernel))) rfl
theorem co_J2_checkIndex_2214a : Cond.code yJ2_checkIndex_2214a cJ2_checkIndex_2214a 2 (Option.none : Option Jvm.ClassFile.FieldType) ∈ sw_U := sw_in (sw_t2 (List.mem_of_getElem? (i := 162) (by decide +kernel))) rfl
theorem ml_J2_48 : Cond.methodLink RJ2 48 yJ2_length_9d52b ∈ sw_U := sw_in (sw_t2 (List.mem_of_getElem? (i := 163) (by decide +kernel))) rfl
theorem st_J2_length_9d52b : Cond.static yJ2_length_9d52b ∈ sw_U := sw_in (sw_t2 (List.mem_of_getElem? (i := 164) (by decide +kernel))) rfl
theorem co_J2_length_9d52b : Cond.code yJ2_length_9d52b cJ2_length_9d52b 1 (Option.some Jvm.ClassFile.FieldType.int) ∈ sw_U := sw_in (sw_t2 (List.mem_of_getElem? (i := 165) (by decide +kernel))) rfl
theorem ml_J2_414 : Cond.methodLink RJ2 414 yJ0_checkIndex_df160 ∈ sw_U := sw_in (sw_t2 (List.mem_of_getElem? (i := 166) (by decide +kernel))) rfl
theorem ml_J2_71 : Cond.methodLink RJ2 71 yJ2_getChar_3b067 ∈ sw_U := sw_in (sw_t2 (List.mem_of_getElem? (i := 167) (by decide +kernel))) rfl
theorem st_J2_getChar_3b067 : Cond.static yJ2_getChar_3b067 ∈ sw_U := sw_in (sw_t2 (List.mem_of_getElem? (i := 168) (by decide +kernel))) rfl
theorem co_J2_getChar_3b067 : Cond.code yJ2_getChar_3b067 cJ2_getChar_3b067 2 (Option.some Jvm.ClassFile.FieldType.char) ∈ sw_U := sw_in (sw_t2 (List.mem_of_getElem? (i := 169) (by decide +kernel))) rfl
theorem fl_J2_44 : Cond.fieldLink RJ2 44 "java/lang/StringUTF16" "$assertionsDisabled" "Z" ∈ sw_U := sw_in (sw_t2 (List.mem_of_getElem? (i := 170) (by decide +kernel))) rfl
theorem fl_J2_59 : Cond.fieldLink RJ2 59 "java/lang/StringUTF16" "HI_BYTE_SHIFT" "I" ∈ sw_U := sw_in (sw_t2 (List.mem_of_getElem? (i := 172) (by decide +kernel))) rfl
theorem fl_J2_63 : Cond.fieldLink RJ2 63 "java/lang/StringUTF16" "LO_BYTE_SHIFT" "I" ∈ sw_U := sw_in (sw_t2 (List.mem_of_getElem? (i := 174) (by decide +kernel))) rfl
theorem ml_X4_60 : Cond.methodLink RX4 60 yX4_fail ∈ sw_U := sw_in (sw_t2 (List.mem_of_getElem? (i := 176) (by decide +kernel))) rfl
theorem im_X4_fail : Cond.instanceMethod yX4_fail ∈ sw_U := sw_in (sw_t2 (List.mem_of_getElem? (i := 178) (by decide +kernel))) rfl
theorem co_X4_fail : Cond.code yX4_fail cX4_fail 2 (Option.some Jvm.ClassFile.FieldType.boolean) ∈ sw_U := sw_in (sw_t2 (List.mem_of_getElem? (i := 179) (by decide +kernel))) rfl
theorem ml_X4_76 : Cond.methodLink RX4 76 yX8_tokenStart ∈ sw_U := sw_in (sw_t2 (List.mem_of_getElem? (i := 180) (by decide +kernel))) rfl
theorem im_X8_tokenStart : Cond.instanceMethod yX8_tokenStart ∈ sw_U := sw_in (sw_t2 (List.mem_of_getElem? (i := 181) (by decide +kernel))) rfl
theorem se_X8_tokenStart : Cond.selects yX8_tokenStart.cls yX8_tokenStart yX8_tokenStart ∈ sw_U := sw_in (sw_t2 (List.mem_of_getElem? (i := 182) (by decide +kernel))) rfl
theorem co_X8_tokenStart : Cond.code yX8_tokenStart cX8_tokenStart 1 (Option.some Jvm.ClassFile.FieldType.int) ∈ sw_U := sw_in (sw_t2 (List.mem_of_getElem? (i := 183) (by decide +kernel))) rfl
theorem ml_X4_85 : Cond.methodLink RX4 85 yX8_advance ∈ sw_U := sw_in (sw_t2 (List.mem_of_getElem? (i := 184) (by decide +kernel))) rfl
theorem ml_X4_35 : Cond.methodLink RX4 35 yX4_takeNumber ∈ sw_U := sw_in (sw_t2 (List.mem_of_getElem? (i := 185) (by decide +kernel))) rfl
theorem im_X4_takeNumber : Cond.instanceMethod yX4_takeNumber ∈ sw_U := sw_in (sw_t2 (List.mem_of_getElem? (i := 187) (by decide +kernel))) rfl
theorem co_X4_takeNumber : Cond.code yX4_takeNumber cX4_takeNumber 3 (Option.some Jvm.ClassFile.FieldType.boolean) ∈ sw_U := sw_in (sw_t2 (List.mem_of_getElem? (i := 188) (by decide +kernel))) rfl
theorem ml_X4_93 : Cond.methodLink RX4 93 yX8_isNumber ∈ sw_U := sw_in (sw_t2 (List.mem_of_getElem? (i := 189) (by decide +kernel))) rfl
theorem im_X8_isNumber : Cond.instanceMethod yX8_isNumber ∈ sw_U := sw_in (sw_t2 (List.mem_of_getElem? (i := 190) (by decide +kernel))) rfl
theorem se_X8_isNumber : Cond.selects yX8_isNumber.cls yX8_isNumber yX8_isNumber ∈ sw_U := sw_in (sw_t2 (List.mem_of_getElem? (i := 191) (by decide +kernel))) rfl
theorem co_X8_isNumber : Cond.code yX8_isNumber cX8_isNumber 1 (Option.some Jvm.ClassFile.FieldType.boolean) ∈ sw_U := sw_in (sw_t2 (List.mem_of_getElem? (i := 192) (by decide +kernel))) rfl
theorem ml_X4_96 : Cond.methodLink RX4 96 yX8_tokenValue ∈ sw_U := sw_in (sw_t2 (List.mem_of_getElem? (i := 193) (by decide +kernel))) rfl
theorem im_X8_tokenValue : Cond.instanceMethod yX8_tokenValue ∈ sw_U := sw_in (sw_t2 (List.mem_of_getElem? (i := 194) (by decide +kernel))) rfl
theorem se_X8_tokenValue : Cond.selects yX8_tokenValue.cls yX8_tokenValue yX8_tokenValue ∈ sw_U := sw_in (sw_t2 (List.mem_of_getElem? (i := 195) (by decide +kernel))) rfl
theorem co_X8_tokenValue : Cond.code yX8_tokenValue cX8_tokenValue 1 (Option.some Jvm.ClassFile.FieldType.int) ∈ sw_U := sw_in (sw_t2 (List.mem_of_getElem? (i := 196) (by decide +kernel))) rfl
theorem ml_X4_39 : Cond.methodLink RX4 39 yX4_takeSemicolon ∈ sw_U := sw_in (sw_t2 (List.mem_of_getElem? (i := 197) (by decide +kernel))) rfl
theorem im_X4_takeSemicolon : Cond.instanceMethod yX4_takeSemicolon ∈ sw_U := sw_in (sw_t2 (List.mem_of_getElem? (i := 199) (by decide +kernel))) rfl
theorem co_X4_takeSemicolon : Cond.code yX4_takeSemicolon cX4_takeSemicolon 1 (Option.some Jvm.ClassFile.FieldType.boolean) ∈ sw_U := sw_in (sw_t2 (List.mem_of_getElem? (i := 200) (by decide +kernel))) rfl
theorem ml_X4_140 : Cond.methodLink RX4 140 yX8_isSemicolon ∈ sw_U := sw_in (sw_t2 (List.mem_of_getElem? (i := 201) (by decide +kernel))) rfl
theorem im_X8_isSemicolon : Cond.instanceMethod yX8_isSemicolon ∈ sw_U := sw_in (sw_t2 (List.mem_of_getElem? (i := 202) (by decide +kernel))) rfl
theorem se_X8_isSemicolon : Cond.selects yX8_isSemicolon.cls yX8_isSemicolon yX8_isSemicolon ∈ sw_U := sw_in (sw_t2 (List.mem_of_getElem? (i := 203) (by decide +kernel))) rfl
theorem co_X8_isSemicolon : Cond.code yX8_isSemicolon cX8_isSemicolon 1 (Option.some Jvm.ClassFile.FieldType.boolean) ∈ sw_U := sw_in (sw_t2 (List.mem_of_getElem? (i := 204) (by decide +kernel))) rfl
theorem ml_X4_43 : Cond.methodLink RX4 43 yX3_beginWith ∈ sw_U := sw_in (sw_t2 (List.mem_of_getElem? (i := 205) (by decide +kernel))) rfl
theorem ml_X4_48 : Cond.methodLink RX4 48 yX4_readStretches ∈ sw_U := sw_in (sw_t2 (List.mem_of_getElem? (i := 206) (by decide +kernel))) rfl
theorem im_X4_readStretches : Cond.instanceMethod yX4_readStretches ∈ sw_U := sw_in (sw_t2 (List.mem_of_getElem? (i := 208) (by decide +kernel))) rfl
theorem co_X4_readStretches : Cond.code yX4_readStretches cX4_readStretches 3 (Option.some Jvm.ClassFile.FieldType.boolean) ∈ sw_U := sw_in (sw_t2 (List.mem_of_getElem? (i := 209) (by decide +kernel))) rfl
theorem ml_X4_88 : Cond.methodLink RX4 88 yX3_appendStretch ∈ sw_U := sw_in (sw_t2 (List.mem_of_getElem? (i := 211) (by decide +kernel))) rfl
theorem ml_X4_52 : Cond.methodLink RX4 52 yX4_readStrikers ∈ sw_U := sw_in (sw_t2 (List.mem_of_getElem? (i := 212) (by decide +kernel))) rfl
theorem im_X4_readStrikers : Cond.instanceMethod yX4_readStrikers ∈ sw_U := sw_in (sw_t2 (List.mem_of_getElem? (i := 214) (by decide +kernel))) rfl
theorem co_X4_readStrikers : Cond.code yX4_readStrikers cX4_readStrikers 3 (Option.some Jvm.ClassFile.FieldType.boolean) ∈ sw_U := sw_in (sw_t2 (List.mem_of_getElem? (i := 215) (by decide +kernel))) rfl
theorem ml_X4_99 : Cond.methodLink RX4 99 yX3_placeOf ∈ sw_U := sw_in (sw_t2 (List.mem_of_getElem? (i := 217) (by decide +kernel))) rfl
theorem im_X3_placeOf : Cond.instanceMethod yX3_placeOf ∈ sw_U := sw_in (sw_t2 (List.mem_of_getElem? (i := 218) (by decide +kernel))) rfl
theorem se_X3_placeOf : Cond.selects yX3_placeOf.cls yX3_placeOf yX3_placeOf ∈ sw_U := sw_in (sw_t2 (List.mem_of_getElem? (i := 219) (by decide +kernel))) rfl
theorem co_X3_placeOf : Cond.code yX3_placeOf cX3_placeOf 3 (Option.some Jvm.ClassFile.FieldType.int) ∈ sw_U := sw_in (sw_t2 (List.mem_of_getElem? (i := 220) (by decide +kernel))) rfl
theorem ml_X4_103 : Cond.methodLink RX4 103 yX3_appendStriker ∈ sw_U := sw_in (sw_t2 (List.mem_of_getElem? (i := 221) (by decide +kernel))) rfl
theorem ml_X4_55 : Cond.methodLink RX4 55 yX8_isEnd ∈ sw_U := sw_in (sw_t2 (List.mem_of_getElem? (i := 222) (by decide +kernel))) rfl
theorem im_X8_isEnd : Cond.instanceMethod yX8_isEnd ∈ sw_U := sw_in (sw_t2 (List.mem_of_getElem? (i := 223) (by decide +kernel))) rfl
theorem se_X8_isEnd : Cond.selects yX8_isEnd.cls yX8_isEnd yX8_isEnd ∈ sw_U := sw_in (sw_t2 (List.mem_of_getElem? (i := 224) (by decide +kernel))) rfl
theorem co_X8_isEnd : Cond.code yX8_isEnd cX8_isEnd 1 (Option.some Jvm.ClassFile.FieldType.boolean) ∈ sw_U := sw_in (sw_t2 (List.mem_of_getElem? (i := 225) (by decide +kernel))) rfl
theorem ml_X10_106 : Cond.methodLink RX10 106 yX10_closeReading ∈ sw_U := sw_in (sw_t2 (List.mem_of_getElem? (i := 226) (by decide +kernel))) rfl
theorem im_X10_closeReading : Cond.instanceMethod yX10_closeReading ∈ sw_U := sw_in (sw_t2 (List.mem_of_getElem? (i := 228) (by decide +kernel))) rfl
theorem co_X10_closeReading : Cond.code yX10_closeReading cX10_closeReading 1 (Option.none : Option Jvm.ClassFile.FieldType) ∈ sw_U := sw_in (sw_t2 (List.mem_of_getElem? (i := 229) (by decide +kernel))) rfl
theorem ml_X10_421 : Cond.methodLink RX10 421 yX8_empty ∈ sw_U := sw_in (sw_t2 (List.mem_of_getElem? (i := 230) (by decide +kernel))) rfl
theorem im_X8_empty : Cond.instanceMethod yX8_empty ∈ sw_U := sw_in (sw_t2 (List.mem_of_getElem? (i := 231) (by decide +kernel))) rfl
theorem se_X8_empty : Cond.selects yX8_empty.cls yX8_empty yX8_empty ∈ sw_U := sw_in (sw_t2 (List.mem_of_getElem? (i := 232) (by decide +kernel))) rfl
theorem co_X8_empty : Cond.code yX8_empty cX8_empty 1 (Option.none : Option Jvm.ClassFile.FieldType) ∈ sw_U := sw_in (sw_t2 (List.mem_of_getElem? (i := 233) (by decide +kernel))) rfl
theorem ml_X10_424 : Cond.methodLink RX10 424 yX4_errorAt ∈ sw_U := sw_in (sw_t2 (List.mem_of_getElem? (i := 234) (by decide +kernel))) rfl
theorem im_X4_errorAt : Cond.instanceMethod yX4_errorAt ∈ sw_U := sw_in (sw_t2 (List.mem_of_getElem? (i := 235) (by decide +kernel))) rfl
theorem se_X4_errorAt : Cond.selects yX4_errorAt.cls yX4_errorAt yX4_errorAt ∈ sw_U := sw_in (sw_t2 (List.mem_of_getElem? (i := 236) (by decide +kernel))) rfl
theorem co_X4_errorAt : Cond.code yX4_errorAt cX4_errorAt 1 (Option.some Jvm.ClassFile.FieldType.int) ∈ sw_U := sw_in (sw_t2 (List.mem_of_getElem? (i := 237) (by decide +kernel))) rfl
theorem ml_X10_109 : Cond.methodLink RX10 109 yX3_takeOver ∈ sw_U := sw_in (sw_t2 (List.mem_of_getElem? (i := 238) (by decide +kernel))) rfl
theorem im_X3_takeOver : Cond.instanceMethod yX3_takeOver ∈ sw_U := sw_in (sw_t2 (List.mem_of_getElem? (i := 239) (by decide +kernel))) rfl
theorem se_X3_takeOver : Cond.selects yX3_takeOver.cls yX3_takeOver yX3_takeOver ∈ sw_U := sw_in (sw_t3 (List.mem_of_getElem? (i := 0) (by decide +kernel))) rfl
theorem co_X3_takeOver : Cond.code yX3_takeOver cX3_takeOver 2 (Option.none : Option Jvm.ClassFile.FieldType) ∈ sw_U := sw_in (sw_t3 (List.mem_of_getElem? (i := 1) (by decide +kernel))) rfl
theorem ml_X3_34 : Cond.methodLink RX3 34 ⟨"java/lang/System", "arraycopy", "(Ljava/lang/Object;ILjava/lang/Object;II)V"⟩ ∈ sw_U := sw_in (sw_t3 (List.mem_of_getElem? (i := 2) (by decide +kernel))) rfl
theorem ac_st : Cond.static arraycopyName ∈ sw_U := sw_in (sw_t3 (List.mem_of_getElem? (i := 3) (by decide +kernel))) rfl
theorem ac_nat : Cond.native arraycopyName ∈ sw_U := sw_in (sw_t3 (List.mem_of_getElem? (i := 4) (by decide +kernel))) rfl
theorem ml_X10_113 : Cond.methodLink RX10 113 yX1_forget ∈ sw_U := sw_in (sw_t3 (List.mem_of_getElem? (i := 5) (by decide +kernel))) rfl
theorem im_X1_forget : Cond.instanceMethod yX1_forget ∈ sw_U := sw_in (sw_t3 (List.mem_of_getElem? (i := 6) (by decide +kernel))) rfl
theorem se_X1_forget : Cond.selects yX1_forget.cls yX1_forget yX1_forget ∈ sw_U := sw_in (sw_t3 (List.mem_of_getElem? (i := 7) (by decide +kernel))) rfl
theorem co_X1_forget : Cond.code yX1_forget cX1_forget 1 (Option.none : Option Jvm.ClassFile.FieldType) ∈ sw_U := sw_in (sw_t3 (List.mem_of_getElem? (i := 8) (by decide +kernel))) rfl
theorem ml_X10_116 : Cond.methodLink RX10 116 yX3_lastNumber ∈ sw_U := sw_in (sw_t3 (List.mem_of_getElem? (i := 9) (by decide +kernel))) rfl
theorem im_X3_lastNumber : Cond.instanceMethod yX3_lastNumber ∈ sw_U := sw_in (sw_t3 (List.mem_of_getElem? (i := 10) (by decide +kernel))) rfl
theorem se_X3_lastNumber : Cond.selects yX3_lastNumber.cls yX3_lastNumber yX3_lastNumber ∈ sw_U := sw_in (sw_t3 (List.mem_of_getElem? (i := 11) (by decide +kernel))) rfl
theorem co_X3_lastNumber : Cond.code yX3_lastNumber cX3_lastNumber 1 (Option.some Jvm.ClassFile.FieldType.int) ∈ sw_U := sw_in (sw_t3 (List.mem_of_getElem? (i := 12) (by decide +kernel))) rfl
theorem ml_L_193 : Cond.methodLink RL 193 yX10_undoCount ∈ sw_U := sw_in (sw_t3 (List.mem_of_getElem? (i := 13) (by decide +kernel))) rfl
theorem im_X10_undoCount : Cond.instanceMethod yX10_undoCount ∈ sw_U := sw_in (sw_t3 (List.mem_of_getElem? (i := 14) (by decide +kernel))) rfl
theorem se_X10_undoCount : Cond.selects yX10_undoCount.cls yX10_undoCount yX10_undoCount ∈ sw_U := sw_in (sw_t3 (List.mem_of_getElem? (i := 15) (by decide +kernel))) rfl
theorem co_X10_undoCount : Cond.code yX10_undoCount cX10_undoCount 1 (Option.some Jvm.ClassFile.FieldType.int) ∈ sw_U := sw_in (sw_t3 (List.mem_of_getElem? (i := 16) (by decide +kernel))) rfl
theorem ml_X10_345 : Cond.methodLink RX10 345 yX1_count ∈ sw_U := sw_in (sw_t3 (List.mem_of_getElem? (i := 17) (by decide +kernel))) rfl
theorem im_X1_count : Cond.instanceMethod yX1_count ∈ sw_U := sw_in (sw_t3 (List.mem_of_getElem? (i := 18) (by decide +kernel))) rfl
theorem se_X1_count : Cond.selects yX1_count.cls yX1_count yX1_count ∈ sw_U := sw_in (sw_t3 (List.mem_of_getElem? (i := 19) (by decide +kernel))) rfl
theorem co_X1_count : Cond.code yX1_count cX1_count 1 (Option.some Jvm.ClassFile.FieldType.int) ∈ sw_U := sw_in (sw_t3 (List.mem_of_getElem? (i := 20) (by decide +kernel))) rfl
theorem ml_L_200 : Cond.methodLink RL 200 yX10_undo ∈ sw_U := sw_in (sw_t3 (List.mem_of_getElem? (i := 21) (by decide +kernel))) rfl
theorem im_X10_undo : Cond.instanceMethod yX10_undo ∈ sw_U := sw_in (sw_t3 (List.mem_of_getElem? (i := 22) (by decide +kernel))) rfl
theorem se_X10_undo : Cond.selects yX10_undo.cls yX10_undo yX10_undo ∈ sw_U := sw_in (sw_t3 (List.mem_of_getElem? (i := 23) (by decide +kernel))) rfl
theorem co_X10_undo : Cond.code yX10_undo cX10_undo 1 (Option.some Jvm.ClassFile.FieldType.int) ∈ sw_U := sw_in (sw_t3 (List.mem_of_getElem? (i := 24) (by decide +kernel))) rfl
theorem ml_X10_346 : Cond.methodLink RX10 346 yX1_pop ∈ sw_U := sw_in (sw_t3 (List.mem_of_getElem? (i := 25) (by decide +kernel))) rfl
theorem im_X1_pop : Cond.instanceMethod yX1_pop ∈ sw_U := sw_in (sw_t3 (List.mem_of_getElem? (i := 26) (by decide +kernel))) rfl
theorem se_X1_pop : Cond.selects yX1_pop.cls yX1_pop yX1_pop ∈ sw_U := sw_in (sw_t3 (List.mem_of_getElem? (i := 27) (by decide +kernel))) rfl
theorem co_X1_pop : Cond.code yX1_pop cX1_pop 2 (Option.none : Option Jvm.ClassFile.FieldType) ∈ sw_U := sw_in (sw_t3 (List.mem_of_getElem? (i := 28) (by decide +kernel))) rfl
theorem ml_X1_25 : Cond.methodLink RX1 25 yX3_takeOver ∈ sw_U := sw_in (sw_t3 (List.mem_of_getElem? (i := 29) (by decide +kernel))) rfl
theorem ml_L_207 : Cond.methodLink RL 207 yX10_saveSnapshot ∈ sw_U := sw_in (sw_t3 (List.mem_of_getElem? (i := 30) (by decide +kernel))) rfl
theorem im_X10_saveSnapshot : Cond.instanceMethod yX10_saveSnapshot ∈ sw_U := sw_in (sw_t3 (List.mem_of_getElem? (i := 31) (by decide +kernel))) rfl
theorem se_X10_saveSnapshot : Cond.selects yX10_saveSnapshot.cls yX10_saveSnapshot yX10_saveSnapshot ∈ sw_U := sw_in (sw_t3 (List.mem_of_getElem? (i := 32) (by decide +kernel))) rfl
theorem co_X10_saveSnapshot : Cond.code yX10_saveSnapshot cX10_saveSnapshot 1 (Option.none : Option Jvm.ClassFile.FieldType) ∈ sw_U := sw_in (sw_t3 (List.mem_of_getElem? (i := 33) (by decide +kernel))) rfl
theorem ml_L_210 : Cond.methodLink RL 210 yX10_restoreSnapshot ∈ sw_U := sw_in (sw_t3 (List.mem_of_getElem? (i := 34) (by decide +kernel))) rfl
theorem im_X10_restoreSnapshot : Cond.instanceMethod yX10_restoreSnapshot ∈ sw_U := sw_in (sw_t3 (List.mem_of_getElem? (i := 35) (by decide +kernel))) rfl
theorem se_X10_restoreSnapshot : Cond.selects yX10_restoreSnapshot.cls yX10_restoreSnapshot yX10_restoreSnapshot ∈ sw_U := sw_in (sw_t3 (List.mem_of_getElem? (i := 36) (by decide +kernel))) rfl
theorem co_X10_restoreSnapshot : Cond.code yX10_restoreSnapshot cX10_restoreSnapshot 1 (Option.some Jvm.ClassFile.FieldType.boolean) ∈ sw_U := sw_in (sw_t3 (List.mem_of_getElem? (i := 37) (by decide +kernel))) rfl
theorem ml_L_103 : Cond.methodLink RL 103 yL_most ∈ sw_U := sw_in (sw_t3 (List.mem_of_getElem? (i := 38) (by decide +kernel))) rfl
theorem st_L_most : Cond.static yL_most ∈ sw_U := sw_in (sw_t3 (List.mem_of_getElem? (i := 39) (by decide +kernel))) rfl
theorem co_L_most : Cond.code yL_most cL_most 2 (Option.some Jvm.ClassFile.FieldType.int) ∈ sw_U := sw_in (sw_t3 (List.mem_of_getElem? (i := 40) (by decide +kernel))) rfl
theorem kc_L_7 : Cond.constant RL 7 2147483647 ∈ sw_U := sw_in (sw_t3 (List.mem_of_getElem? (i := 41) (by decide +kernel))) rfl
theorem ml_L_142 : Cond.methodLink RL 142 yL_cell ∈ sw_U := sw_in (sw_t3 (List.mem_of_getElem? (i := 42) (by decide +kernel))) rfl
theorem st_L_cell : Cond.static yL_cell ∈ sw_U := sw_in (sw_t3 (List.mem_of_getElem? (i := 43) (by decide +kernel))) rfl
theorem co_L_cell : Cond.code yL_cell cL_cell 2 (Option.some Jvm.ClassFile.FieldType.int) ∈ sw_U := sw_in (sw_t3 (List.mem_of_getElem? (i := 44) (by decide +kernel))) rfl
theorem ml_L_171 : Cond.methodLink RL 171 yL_say ∈ sw_U := sw_in (sw_t3 (List.mem_of_getElem? (i := 45) (by decide +kernel))) rfl
theorem st_L_say : Cond.static yL_say ∈ sw_U := sw_in (sw_t3 (List.mem_of_getElem? (i := 46) (by decide +kernel))) rfl
theorem co_L_say : Cond.code yL_say cL_say 4 (Option.none : Option Jvm.ClassFile.FieldType) ∈ sw_U := sw_in (sw_t3 (List.mem_of_getElem? (i := 47) (by decide +kernel))) rfl
theorem ml_L_14 : Cond.methodLink RL 14 yJ0_length_8abf5 ∈ sw_U := sw_in (sw_t3 (List.mem_of_getElem? (i := 48) (by decide +kernel))) rfl
theorem ml_L_20 : Cond.methodLink RL 20 yJ0_charAt_5068e ∈ sw_U := sw_in (sw_t3 (List.mem_of_getElem? (i := 49) (by decide +kernel))) rfl
theorem ml_L_24 : Cond.methodLink RL 24 yL_add ∈ sw_U := sw_in (sw_t3 (List.mem_of_getElem? (i := 50) (by decide +kernel))) rfl
theorem st_L_add : Cond.static yL_add ∈ sw_U := sw_in (sw_t3 (List.mem_of_getElem? (i := 51) (by decide +kernel))) rfl
theorem co_L_add : Cond.code yL_add cL_add 4 (Option.none : Option Jvm.ClassFile.FieldType) ∈ sw_U := sw_in (sw_t3 (List.mem_of_getElem? (i := 52) (by decide +kernel))) rfl
theorem ml_L_8 : Cond.methodLink RL 8 yX10_feed ∈ sw_U := sw_in (sw_t3 (List.mem_of_getElem? (i := 53) (by decide +kernel))) rfl
theorem im_X10_feed : Cond.instanceMethod yX10_feed ∈ sw_U := sw_in (sw_t3 (List.mem_of_getElem? (i := 54) (by decide +kernel))) rfl
theorem se_X10_feed : Cond.selects yX10_feed.cls yX10_feed yX10_feed ∈ sw_U := sw_in (sw_t3 (List.mem_of_getElem? (i := 55) (by decide +kernel))) rfl
theorem co_X10_feed : Cond.code yX10_feed cX10_feed 6 (Option.some Jvm.ClassFile.FieldType.int) ∈ sw_U := sw_in (sw_t3 (List.mem_of_getElem? (i := 56) (by decide +kernel))) rfl
theorem ml_X10_95 : Cond.methodLink RX10 95 yX8_appendFour ∈ sw_U := sw_in (sw_t3 (List.mem_of_getElem? (i := 57) (by decide +kernel))) rfl
theorem im_X8_appendFour : Cond.instanceMethod yX8_appendFour ∈ sw_U := sw_in (sw_t3 (List.mem_of_getElem? (i := 58) (by decide +kernel))) rfl
theorem se_X8_appendFour : Cond.selects yX8_appendFour.cls yX8_appendFour yX8_appendFour ∈ sw_U := sw_in (sw_t3 (List.mem_of_getElem? (i := 59) (by decide +kernel))) rfl
theorem co_X8_appendFour : Cond.code yX8_appendFour cX8_appendFour 3 (Option.none : Option Jvm.ClassFile.FieldType) ∈ sw_U := sw_in (sw_t3 (List.mem_of_getElem? (i := 60) (by decide +kernel))) rfl
theorem ml_L_175 : Cond.methodLink RL 175 yL_end ∈ sw_U := sw_in (sw_t3 (List.mem_of_getElem? (i := 61) (by decide +kernel))) rfl
theorem st_L_end : Cond.static yL_end ∈ sw_U := sw_in (sw_t3 (List.mem_of_getElem? (i := 62) (by decide +kernel))) rfl
theorem co_L_end : Cond.code yL_end cL_end 3 (Option.some Jvm.ClassFile.FieldType.int) ∈ sw_U := sw_in (sw_t3 (List.mem_of_getElem? (i := 63) (by decide +kernel))) rfl
theorem ml_L_189 : Cond.methodLink RL 189 yL_all ∈ sw_U := sw_in (sw_t3 (List.mem_of_getElem? (i := 64) (by decide +kernel))) rfl
theorem st_L_all : Cond.static yL_all ∈ sw_U := sw_in (sw_t3 (List.mem_of_getElem? (i := 65) (by decide +kernel))) rfl
theorem co_L_all : Cond.code yL_all cL_all 5 (Option.some (Jvm.ClassFile.FieldType.array Jvm.ClassFile.FieldType.int)) ∈ sw_U := sw_in (sw_t3 (List.mem_of_getElem? (i := 66) (by decide +kernel))) rfl
theorem ml_L_30 : Cond.methodLink RL 30 yX10_size ∈ sw_U := sw_in (sw_t3 (List.mem_of_getElem? (i := 67) (by decide +kernel))) rfl
theorem im_X10_size : Cond.instanceMethod yX10_size ∈ sw_U := sw_in (sw_t3 (List.mem_of_getElem? (i := 68) (by decide +kernel))) rfl
theorem se_X10_size : Cond.selects yX10_size.cls yX10_size yX10_size ∈ sw_U := sw_in (sw_t3 (List.mem_of_getElem? (i := 69) (by decide +kernel))) rfl
theorem co_X10_size : Cond.code yX10_size cX10_size 2 (Option.some Jvm.ClassFile.FieldType.int) ∈ sw_U := sw_in (sw_t3 (List.mem_of_getElem? (i := 70) (by decide +kernel))) rfl
theorem ml_X10_119 : Cond.methodLink RX10 119 yX3_wheelNow ∈ sw_U := sw_in (sw_t3 (List.mem_of_getElem? (i := 71) (by decide +kernel))) rfl
theorem im_X3_wheelNow : Cond.instanceMethod yX3_wheelNow ∈ sw_U := sw_in (sw_t3 (List.mem_of_getElem? (i := 72) (by decide +kernel))) rfl
theorem se_X3_wheelNow : Cond.selects yX3_wheelNow.cls yX3_wheelNow yX3_wheelNow ∈ sw_U := sw_in (sw_t3 (List.mem_of_getElem? (i := 73) (by decide +kernel))) rfl
theorem co_X3_wheelNow : Cond.code yX3_wheelNow cX3_wheelNow 1 (Option.some Jvm.ClassFile.FieldType.int) ∈ sw_U := sw_in (sw_t3 (List.mem_of_getElem? (i := 74) (by decide +kernel))) rfl
theorem ml_X10_122 : Cond.methodLink RX10 122 yX3_stretchCount ∈ sw_U := sw_in (sw_t3 (List.mem_of_getElem? (i := 75) (by decide +kernel))) rfl
theorem im_X3_stretchCount : Cond.instanceMethod yX3_stretchCount ∈ sw_U := sw_in (sw_t3 (List.mem_of_getElem? (i := 76) (by decide +kernel))) rfl
theorem se_X3_stretchCount : Cond.selects yX3_stretchCount.cls yX3_stretchCount yX3_stretchCount ∈ sw_U := sw_in (sw_t3 (List.mem_of_getElem? (i := 77) (by decide +kernel))) rfl
theorem co_X3_stretchCount : Cond.code yX3_stretchCount cX3_stretchCount 1 (Option.some Jvm.ClassFile.FieldType.int) ∈ sw_U := sw_in (sw_t3 (List.mem_of_getElem? (i := 78) (by decide +kernel))) rfl
theorem ml_X10_125 : Cond.methodLink RX10 125 yX3_strikerCount ∈ sw_U := sw_in (sw_t3 (List.mem_of_getElem? (i := 79) (by decide +kernel))) rfl
theorem im_X3_strikerCount : Cond.instanceMethod yX3_strikerCount ∈ sw_U := sw_in (sw_t3 (List.mem_of_getElem? (i := 80) (by decide +kernel))) rfl
theorem se_X3_strikerCount : Cond.selects yX3_strikerCount.cls yX3_strikerCount yX3_strikerCount ∈ sw_U := sw_in (sw_t3 (List.mem_of_getElem? (i := 81) (by decide +kernel))) rfl
theorem co_X3_strikerCount : Cond.code yX3_strikerCount cX3_strikerCount 1 (Option.some Jvm.ClassFile.FieldType.int) ∈ sw_U := sw_in (sw_t3 (List.mem_of_getElem? (i := 82) (by decide +kernel))) rfl
theorem ml_X10_128 : Cond.methodLink RX10 128 yX10_current ∈ sw_U := sw_in (sw_t3 (List.mem_of_getElem? (i := 83) (by decide +kernel))) rfl
theorem im_X10_current : Cond.instanceMethod yX10_current ∈ sw_U := sw_in (sw_t3 (List.mem_of_getElem? (i := 85) (by decide +kernel))) rfl
theorem co_X10_current : Cond.code yX10_current cX10_current 1 (Option.some (Jvm.ClassFile.FieldType.object "StrikeWheels$Sieve")) ∈ sw_U := sw_in (sw_t3 (List.mem_of_getElem? (i := 86) (by decide +kernel))) rfl
theorem ml_X10_352 : Cond.methodLink RX10 352 yX7_isBuiltFor ∈ sw_U := sw_in (sw_t3 (List.mem_of_getElem? (i := 87) (by decide +kernel))) rfl
theorem im_X7_isBuiltFor : Cond.instanceMethod yX7_isBuiltFor ∈ sw_U := sw_in (sw_t3 (List.mem_of_getElem? (i := 88) (by decide +kernel))) rfl
theorem se_X7_isBuiltFor : Cond.selects yX7_isBuiltFor.cls yX7_isBuiltFor yX7_isBuiltFor ∈ sw_U := sw_in (sw_t3 (List.mem_of_getElem? (i := 89) (by decide +kernel))) rfl
theorem co_X7_isBuiltFor : Cond.code yX7_isBuiltFor cX7_isBuiltFor 2 (Option.some Jvm.ClassFile.FieldType.boolean) ∈ sw_U := sw_in (sw_t3 (List.mem_of_getElem? (i := 90) (by decide +kernel))) rfl
theorem ml_X7_31 : Cond.methodLink RX7 31 yX3_version ∈ sw_U := sw_in (sw_t3 (List.mem_of_getElem? (i := 91) (by decide +kernel))) rfl
theorem im_X3_version : Cond.instanceMethod yX3_version ∈ sw_U := sw_in (sw_t3 (List.mem_of_getElem? (i := 92) (by decide +kernel))) rfl
theorem se_X3_version : Cond.selects yX3_version.cls yX3_version yX3_version ∈ sw_U := sw_in (sw_t3 (List.mem_of_getElem? (i := 93) (by decide +kernel))) rfl
theorem co_X3_version : Cond.code yX3_version cX3_version 1 (Option.some Jvm.ClassFile.FieldType.int) ∈ sw_U := sw_in (sw_t3 (List.mem_of_getElem? (i := 94) (by decide +kernel))) rfl
theorem ml_X10_356 : Cond.methodLink RX10 356 yX7_build ∈ sw_U := sw_in (sw_t3 (List.mem_of_getElem? (i := 95) (by decide +kernel))) rfl
theorem im_X7_build : Cond.instanceMethod yX7_build ∈ sw_U := sw_in (sw_t3 (List.mem_of_getElem? (i := 96) (by decide +kernel))) rfl
theorem se_X7_build : Cond.selects yX7_build.cls yX7_build yX7_build ∈ sw_U := sw_in (sw_t3 (List.mem_of_getElem? (i := 97) (by decide +kernel))) rfl
theorem co_X7_build : Cond.code yX7_build cX7_build 4 (Option.none : Option Jvm.ClassFile.FieldType) ∈ sw_U := sw_in (sw_t3 (List.mem_of_getElem? (i := 98) (by decide +kernel))) rfl
theorem ml_X7_37 : Cond.methodLink RX7 37 yX3_lastNumber ∈ sw_U := sw_in (sw_t3 (List.mem_of_getElem? (i := 99) (by decide +kernel))) rfl
theorem ml_X7_40 : Cond.methodLink RX7 40 yJ9_min_7cf53 ∈ sw_U := sw_in (sw_t3 (List.mem_of_getElem? (i := 100) (by decide +kernel))) rfl
theorem ml_X7_46 : Cond.methodLink RX7 46 yX3_wheelNow ∈ sw_U := sw_in (sw_t3 (List.mem_of_getElem? (i := 101) (by decide +kernel))) rfl
theorem ml_X7_49 : Cond.methodLink RX7 49 yX9_primeAt ∈ sw_U := sw_in (sw_t3 (List.mem_of_getElem? (i := 102) (by decide +kernel))) rfl
theorem st_X9_primeAt : Cond.static yX9_primeAt ∈ sw_U := sw_in (sw_t3 (List.mem_of_getElem? (i := 103) (by decide +kernel))) rfl
theorem co_X9_primeAt : Cond.code yX9_primeAt cX9_primeAt 1 (Option.some Jvm.ClassFile.FieldType.int) ∈ sw_U := sw_in (sw_t3 (List.mem_of_getElem? (i := 104) (by decide +kernel))) rfl
theorem fl_X9_9 : Cond.fieldLink RX9 9 "StrikeWheels$Wheels" "PRIMES" "[I" ∈ sw_U := sw_in (sw_t3 (List.mem_of_getElem? (i := 105) (by decide +kernel))) rfl
theorem ml_X7_55 : Cond.methodLink RX7 55 yX7_strikeOut ∈ sw_U := sw_in (sw_t3 (List.mem_of_getElem? (i := 107) (by decide +kernel))) rfl
theorem im_X7_strikeOut : Cond.instanceMethod yX7_strikeOut ∈ sw_U := sw_in (sw_t3 (List.mem_of_getElem? (i := 109) (by decide +kernel))) rfl
theorem co_X7_strikeOut : Cond.code yX7_strikeOut cX7_strikeOut 5 (Option.none : Option Jvm.ClassFile.FieldType) ∈ sw_U := sw_in (sw_t3 (List.mem_of_getElem? (i := 110) (by decide +kernel))) rfl
theorem ml_X7_59 : Cond.methodLink RX7 59 yX3_strikerCount ∈ sw_U := sw_in (sw_t3 (List.mem_of_getElem? (i := 111) (by decide +kernel))) rfl
theorem ml_X7_62 : Cond.methodLink RX7 62 yX3_dOf ∈ sw_U := sw_in (sw_t3 (List.mem_of_getElem? (i := 112) (by decide +kernel))) rfl
theorem im_X3_dOf : Cond.instanceMethod yX3_dOf ∈ sw_U := sw_in (sw_t3 (List.mem_of_getElem? (i := 113) (by decide +kernel))) rfl
theorem se_X3_dOf : Cond.selects yX3_dOf.cls yX3_dOf yX3_dOf ∈ sw_U := sw_in (sw_t3 (List.mem_of_getElem? (i := 114) (by decide +kernel))) rfl
theorem co_X3_dOf : Cond.code yX3_dOf cX3_dOf 2 (Option.some Jvm.ClassFile.FieldType.int) ∈ sw_U := sw_in (sw_t3 (List.mem_of_getElem? (i := 115) (by decide +kernel))) rfl
theorem ml_X7_65 : Cond.methodLink RX7 65 yX7_countAll ∈ sw_U := sw_in (sw_t3 (List.mem_of_getElem? (i := 116) (by decide +kernel))) rfl
theorem im_X7_countAll : Cond.instanceMethod yX7_countAll ∈ sw_U := sw_in (sw_t3 (List.mem_of_getElem? (i := 118) (by decide +kernel))) rfl
theorem co_X7_countAll : Cond.code yX7_countAll cX7_countAll 2 (Option.none : Option Jvm.ClassFile.FieldType) ∈ sw_U := sw_in (sw_t3 (List.mem_of_getElem? (i := 119) (by decide +kernel))) rfl
theorem ml_X10_132 : Cond.methodLink RX10 132 yX7_markCount ∈ sw_U := sw_in (sw_t3 (List.mem_of_getElem? (i := 120) (by decide +kernel))) rfl
theorem im_X7_markCount : Cond.instanceMethod yX7_markCount ∈ sw_U := sw_in (sw_t3 (List.mem_of_getElem? (i := 121) (by decide +kernel))) rfl
theorem se_X7_markCount : Cond.selects yX7_markCount.cls yX7_markCount yX7_markCount ∈ sw_U := sw_in (sw_t3 (List.mem_of_getElem? (i := 122) (by decide +kernel))) rfl
theorem co_X7_markCount : Cond.code yX7_markCount cX7_markCount 1 (Option.some Jvm.ClassFile.FieldType.int) ∈ sw_U := sw_in (sw_t3 (List.mem_of_getElem? (i := 123) (by decide +kernel))) rfl
theorem ml_X10_135 : Cond.methodLink RX10 135 yX7_spokeCount ∈ sw_U := sw_in (sw_t3 (List.mem_of_getElem? (i := 124) (by decide +kernel))) rfl
theorem im_X7_spokeCount : Cond.instanceMethod yX7_spokeCount ∈ sw_U := sw_in (sw_t3 (List.mem_of_getElem? (i := 125) (by decide +kernel))) rfl
theorem se_X7_spokeCount : Cond.selects yX7_spokeCount.cls yX7_spokeCount yX7_spokeCount ∈ sw_U := sw_in (sw_t3 (List.mem_of_getElem? (i := 126) (by decide +kernel))) rfl
theorem co_X7_spokeCount : Cond.code yX7_spokeCount cX7_spokeCount 1 (Option.some Jvm.ClassFile.FieldType.int) ∈ sw_U := sw_in (sw_t3 (List.mem_of_getElem? (i := 127) (by decide +kernel))) rfl
theorem ml_X10_138 : Cond.methodLink RX10 138 yX9_product ∈ sw_U := sw_in (sw_t3 (List.mem_of_getElem? (i := 128) (by decide +kernel))) rfl
theorem st_X9_product : Cond.static yX9_product ∈ sw_U := sw_in (sw_t3 (List.mem_of_getElem? (i := 129) (by decide +kernel))) rfl
theorem co_X9_product : Cond.code yX9_product cX9_product 1 (Option.some Jvm.ClassFile.FieldType.int) ∈ sw_U := sw_in (sw_t3 (List.mem_of_getElem? (i := 130) (by decide +kernel))) rfl
theorem fl_X9_15 : Cond.fieldLink RX9 15 "StrikeWheels$Wheels" "PRODUCTS" "[I" ∈ sw_U := sw_in (sw_t3 (List.mem_of_getElem? (i := 131) (by decide +kernel))) rfl
theorem ml_X10_144 : Cond.methodLink RX10 144 yX9_spokesUpTo ∈ sw_U := sw_in (sw_t3 (List.mem_of_getElem? (i := 133) (by decide +kernel))) rfl
theorem st_X9_spokesUpTo : Cond.static yX9_spokesUpTo ∈ sw_U := sw_in (sw_t3 (List.mem_of_getElem? (i := 134) (by decide +kernel))) rfl
theorem co_X9_spokesUpTo : Cond.code yX9_spokesUpTo cX9_spokesUpTo 4 (Option.some Jvm.ClassFile.FieldType.int) ∈ sw_U := sw_in (sw_t3 (List.mem_of_getElem? (i := 135) (by decide +kernel))) rfl
theorem ml_X9_22 : Cond.methodLink RX9 22 yX9_isFree ∈ sw_U := sw_in (sw_t3 (List.mem_of_getElem? (i := 136) (by decide +kernel))) rfl
theorem st_X9_isFree : Cond.static yX9_isFree ∈ sw_U := sw_in (sw_t3 (List.mem_of_getElem? (i := 137) (by decide +kernel))) rfl
theorem co_X9_isFree : Cond.code yX9_isFree cX9_isFree 2 (Option.some Jvm.ClassFile.FieldType.boolean) ∈ sw_U := sw_in (sw_t3 (List.mem_of_getElem? (i := 138) (by decide +kernel))) rfl
theorem ml_X9_18 : Cond.methodLink RX9 18 yX9_smallestPrimeOf ∈ sw_U := sw_in (sw_t3 (List.mem_of_getElem? (i := 139) (by decide +kernel))) rfl
theorem st_X9_smallestPrimeOf : Cond.static yX9_smallestPrimeOf ∈ sw_U := sw_in (sw_t3 (List.mem_of_getElem? (i := 140) (by decide +kernel))) rfl
theorem co_X9_smallestPrimeOf : Cond.code yX9_smallestPrimeOf cX9_smallestPrimeOf 3 (Option.some Jvm.ClassFile.FieldType.int) ∈ sw_U := sw_in (sw_t3 (List.mem_of_getElem? (i := 141) (by decide +kernel))) rfl
theorem ml_X10_148 : Cond.methodLink RX10 148 yX3_countMissing ∈ sw_U := sw_in (sw_t3 (List.mem_of_getElem? (i := 142) (by decide +kernel))) rfl
theorem im_X3_countMissing : Cond.instanceMethod yX3_countMissing ∈ sw_U := sw_in (sw_t3 (List.mem_of_getElem? (i := 143) (by decide +kernel))) rfl
theorem se_X3_countMissing : Cond.selects yX3_countMissing.cls yX3_countMissing yX3_countMissing ∈ sw_U := sw_in (sw_t3 (List.mem_of_getElem? (i := 144) (by decide +kernel))) rfl
theorem co_X3_countMissing : Cond.code yX3_countMissing cX3_countMissing 5 (Option.some Jvm.ClassFile.FieldType.int) ∈ sw_U := sw_in (sw_t3 (List.mem_of_getElem? (i := 145) (by decide +kernel))) rfl
theorem ml_X3_72 : Cond.methodLink RX3 72 yX3_lastNumber ∈ sw_U := sw_in (sw_t3 (List.mem_of_getElem? (i := 146) (by decide +kernel))) rfl
theorem ml_X3_75 : Cond.methodLink RX3 75 yX3_isMissing ∈ sw_U := sw_in (sw_t3 (List.mem_of_getElem? (i := 147) (by decide +kernel))) rfl
theorem im_X3_isMissing : Cond.instanceMethod yX3_isMissing ∈ sw_U := sw_in (sw_t3 (List.mem_of_getElem? (i := 149) (by decide +kernel))) rfl
theorem co_X3_isMissing : Cond.code yX3_isMissing cX3_isMissing 3 (Option.some Jvm.ClassFile.FieldType.boolean) ∈ sw_U := sw_in (sw_t3 (List.mem_of_getElem? (i := 150) (by decide +kernel))) rfl
theorem ml_X3_61 : Cond.methodLink RX3 61 yX9_smallestPrimeOf ∈ sw_U := sw_in (sw_t3 (List.mem_of_getElem? (i := 151) (by decide +kernel))) rfl
theorem ml_X3_66 : Cond.methodLink RX3 66 yX3_placeOf ∈ sw_U := sw_in (sw_t3 (List.mem_of_getElem? (i := 152) (by decide +kernel))) rfl
theorem ml_X3_69 : Cond.methodLink RX3 69 yX3_firstHit ∈ sw_U := sw_in (sw_t3 (List.mem_of_getElem? (i := 153) (by decide +kernel))) rfl
theorem im_X3_firstHit : Cond.instanceMethod yX3_firstHit ∈ sw_U := sw_in (sw_t3 (List.mem_of_getElem? (i := 154) (by decide +kernel))) rfl
theorem se_X3_firstHit : Cond.selects yX3_firstHit.cls yX3_firstHit yX3_firstHit ∈ sw_U := sw_in (sw_t3 (List.mem_of_getElem? (i := 155) (by decide +kernel))) rfl
theorem co_X3_firstHit : Cond.code yX3_firstHit cX3_firstHit 4 (Option.some Jvm.ClassFile.FieldType.int) ∈ sw_U := sw_in (sw_t3 (List.mem_of_getElem? (i := 156) (by decide +kernel))) rfl
theorem ml_X10_151 : Cond.methodLink RX10 151 yX10_countIdle ∈ sw_U := sw_in (sw_t3 (List.mem_of_getElem? (i := 157) (by decide +kernel))) rfl
theorem im_X10_countIdle : Cond.instanceMethod yX10_countIdle ∈ sw_U := sw_in (sw_t3 (List.mem_of_getElem? (i := 159) (by decide +kernel))) rfl
theorem co_X10_countIdle : Cond.code yX10_countIdle cX10_countIdle 4 (Option.some Jvm.ClassFile.FieldType.int) ∈ sw_U := sw_in (sw_t3 (List.mem_of_getElem? (i := 160) (by decide +kernel))) rfl
theorem ml_X10_182 : Cond.methodLink RX10 182 yX3_dOf ∈ sw_U := sw_in (sw_t3 (List.mem_of_getElem? (i := 161) (by decide +kernel))) rfl
theorem ml_X10_198 : Cond.methodLink RX10 198 yX7_smallestOwned ∈ sw_U := sw_in (sw_t3 (List.mem_of_getElem? (i := 162) (by decide +kernel))) rfl
theorem im_X7_smallestOwned : Cond.instanceMethod yX7_smallestOwned ∈ sw_U := sw_in (sw_t3 (List.mem_of_getElem? (i := 163) (by decide +kernel))) rfl
theorem se_X7_smallestOwned : Cond.selects yX7_smallestOwned.cls yX7_smallestOwned yX7_smallestOwned ∈ sw_U := sw_in (sw_t3 (List.mem_of_getElem? (i := 164) (by decide +kernel))) rfl
theorem co_X7_smallestOwned : Cond.code yX7_smallestOwned cX7_smallestOwned 3 (Option.some Jvm.ClassFile.FieldType.int) ∈ sw_U := sw_in (sw_t3 (List.mem_of_getElem? (i := 165) (by decide +kernel))) rfl
theorem ml_L_34 : Cond.methodLink RL 34 yX10_stretch ∈ sw_U := sw_in (sw_t3 (List.mem_of_getElem? (i := 166) (by decide +kernel))) rfl
theorem im_X10_stretch : Cond.instanceMethod yX10_stretch ∈ sw_U := sw_in (sw_t3 (List.mem_of_getElem? (i := 167) (by decide +kernel))) rfl
theorem se_X10_stretch : Cond.selects yX10_stretch.cls yX10_stretch yX10_stretch ∈ sw_U := sw_in (sw_t3 (List.mem_of_getElem? (i := 168) (by decide +kernel))) rfl
theorem co_X10_stretch : Cond.code yX10_stretch cX10_stretch 5 (Option.some Jvm.ClassFile.FieldType.int) ∈ sw_U := sw_in (sw_t3 (List.mem_of_getElem? (i := 169) (by decide +kernel))) rfl
theorem ml_X10_154 : Cond.methodLink RX10 154 yX10_needStretch ∈ sw_U := sw_in (sw_t3 (List.mem_of_getElem? (i := 170) (by decide +kernel))) rfl
theorem im_X10_needStretch : Cond.instanceMethod yX10_needStretch ∈ sw_U := sw_in (sw_t3 (List.mem_of_getElem? (i := 172) (by decide +kernel))) rfl
theorem co_X10_needStretch : Cond.code yX10_needStretch cX10_needStretch 2 (Option.none : Option Jvm.ClassFile.FieldType) ∈ sw_U := sw_in (sw_t3 (List.mem_of_getElem? (i := 173) (by decide +kernel))) rfl
theorem cl_X10_210 : Cond.classLink RX10 210 "java/util/NoSuchElementException" ∈ sw_U := sw_in (sw_t3 (List.mem_of_getElem? (i := 174) (by decide +kernel))) rfl
theorem ins_java_util_NoSuchElementException : Cond.instantiable "java/util/NoSuchElementException" 6 ∈ sw_U := sw_in (sw_t3 (List.mem_of_getElem? (i := 175) (by decide +kernel))) rfl
theorem ml_X10_212 : Cond.methodLink RX10 212 ⟨"java/util/NoSuchElementException", "<init>", "()V"⟩ ∈ sw_U := sw_in (sw_t3 (List.mem_of_getElem? (i := 183) (by decide +kernel))) rfl
theorem ml_X10_157 : Cond.methodLink RX10 157 yX3_firstNumberOf ∈ sw_U := sw_in (sw_t3 (List.mem_of_getElem? (i := 189) (by decide +kernel))) rfl
theorem im_X3_firstNumberOf : Cond.instanceMethod yX3_firstNumberOf ∈ sw_U := sw_in (sw_t3 (List.mem_of_getElem? (i := 190) (by decide +kernel))) rfl
theorem se_X3_firstNumberOf : Cond.selects yX3_firstNumberOf.cls yX3_firstNumberOf yX3_firstNumberOf ∈ sw_U := sw_in (sw_t3 (List.mem_of_getElem? (i := 191) (by decide +kernel))) rfl
theorem co_X3_firstNumberOf : Cond.code yX3_firstNumberOf cX3_firstNumberOf 2 (Option.some Jvm.ClassFile.FieldType.int) ∈ sw_U := sw_in (sw_t3 (List.mem_of_getElem? (i := 192) (by decide +kernel))) rfl
theorem ml_X3_40 : Cond.methodLink RX3 40 yX3_roomAhead ∈ sw_U := sw_in (sw_t3 (List.mem_of_getElem? (i := 193) (by decide +kernel))) rfl
theorem im_X3_roomAhead : Cond.instanceMethod yX3_roomAhead ∈ sw_U := sw_in (sw_t3 (List.mem_of_getElem? (i := 195) (by decide +kernel))) rfl
theorem co_X3_roomAhead : Cond.code yX3_roomAhead cX3_roomAhead 4 (Option.some Jvm.ClassFile.FieldType.int) ∈ sw_U := sw_in (sw_t3 (List.mem_of_getElem? (i := 196) (by decide +kernel))) rfl
theorem ml_X10_160 : Cond.methodLink RX10 160 yX3_lastNumberOf ∈ sw_U := sw_in (sw_t3 (List.mem_of_getElem? (i := 197) (by decide +kernel))) rfl
theorem im_X3_lastNumberOf : Cond.instanceMethod yX3_lastNumberOf ∈ sw_U := sw_in (sw_t3 (List.mem_of_getElem? (i := 198) (by decide +kernel))) rfl
theorem se_X3_lastNumberOf : Cond.selects yX3_lastNumberOf.cls yX3_lastNumberOf yX3_lastNumberOf ∈ sw_U := sw_in (sw_t3 (List.mem_of_getElem? (i := 199) (by decide +kernel))) rfl
theorem co_X3_lastNumberOf : Cond.code yX3_lastNumberOf cX3_lastNumberOf 2 (Option.some Jvm.ClassFile.FieldType.int) ∈ sw_U := sw_in (sw_t3 (List.mem_of_getElem? (i := 200) (by decide +kernel))) rfl
theorem ml_X10_163 : Cond.methodLink RX10 163 yX7_marksBetween ∈ sw_U := sw_in (sw_t3 (List.mem_of_getElem? (i := 201) (by decide +kernel))) rfl
theorem im_X7_marksBetween : Cond.instanceMethod yX7_marksBetween ∈ sw_U := sw_in (sw_t3 (List.mem_of_getElem? (i := 202) (by decide +kernel))) rfl
theorem se_X7_marksBetween : Cond.selects yX7_marksBetween.cls yX7_marksBetween yX7_marksBetween ∈ sw_U := sw_in (sw_t3 (List.mem_of_getElem? (i := 203) (by decide +kernel))) rfl
theorem co_X7_marksBetween : Cond.code yX7_marksBetween cX7_marksBetween 4 (Option.some Jvm.ClassFile.FieldType.int) ∈ sw_U := sw_in (sw_t3 (List.mem_of_getElem? (i := 204) (by decide +kernel))) rfl
theorem ml_X7_71 : Cond.methodLink RX7 71 yJ9_max_7cf53 ∈ sw_U := sw_in (sw_t3 (List.mem_of_getElem? (i := 205) (by decide +kernel))) rfl
theorem st_J9_max_7cf53 : Cond.static yJ9_max_7cf53 ∈ sw_U := sw_in (sw_t3 (List.mem_of_getElem? (i := 206) (by decide +kernel))) rfl
theorem co_J9_max_7cf53 : Cond.code yJ9_max_7cf53 cJ9_max_7cf53 2 (Option.some Jvm.ClassFile.FieldType.int) ∈ sw_U := sw_in (sw_t3 (List.mem_of_getElem? (i := 207) (by decide +kernel))) rfl
theorem ml_X7_74 : Cond.methodLink RX7 74 yX7_marksUpTo ∈ sw_U := sw_in (sw_t3 (List.mem_of_getElem? (i := 208) (by decide +kernel))) rfl
theorem im_X7_marksUpTo : Cond.instanceMethod yX7_marksUpTo ∈ sw_U := sw_in (sw_t3 (List.mem_of_getElem? (i := 209) (by decide +kernel))) rfl
theorem se_X7_marksUpTo : Cond.selects yX7_marksUpTo.cls yX7_marksUpTo yX7_marksUpTo ∈ sw_U := sw_in (sw_t3 (List.mem_of_getElem? (i := 210) (by decide +kernel))) rfl
theorem co_X7_marksUpTo : Cond.code yX7_marksUpTo cX7_marksUpTo 2 (Option.some Jvm.ClassFile.FieldType.int) ∈ sw_U := sw_in (sw_t3 (List.mem_of_getElem? (i := 211) (by decide +kernel))) rfl
theorem ml_X10_166 : Cond.methodLink RX10 166 yX7_spokesBetween ∈ sw_U := sw_in (sw_t3 (List.mem_of_getElem? (i := 212) (by decide +kernel))) rfl
theorem im_X7_spokesBetween : Cond.instanceMethod yX7_spokesBetween ∈ sw_U := sw_in (sw_t3 (List.mem_of_getElem? (i := 213) (by decide +kernel))) rfl
theorem se_X7_spokesBetween : Cond.selects yX7_spokesBetween.cls yX7_spokesBetween yX7_spokesBetween ∈ sw_U := sw_in (sw_t3 (List.mem_of_getElem? (i := 214) (by decide +kernel))) rfl
theorem co_X7_spokesBetween : Cond.code yX7_spokesBetween cX7_spokesBetween 6 (Option.some Jvm.ClassFile.FieldType.int) ∈ sw_U := sw_in (sw_t3 (List.mem_of_getElem? (i := 215) (by decide +kernel))) rfl
theorem ml_X10_169 : Cond.methodLink RX10 169 yX7_markAbove ∈ sw_U := sw_in (sw_t3 (List.mem_of_getElem? (i := 216) (by decide +kernel))) rfl
theorem im_X7_markAbove : Cond.instanceMethod yX7_markAbove ∈ sw_U := sw_in (sw_t3 (List.mem_of_getElem? (i := 217) (by decide +kernel))) rfl
theorem se_X7_markAbove : Cond.selects yX7_markAbove.cls yX7_markAbove yX7_markAbove ∈ sw_U := sw_in (sw_t3 (List.mem_of_getElem? (i := 218) (by decide +kernel))) rfl
theorem co_X7_markAbove : Cond.code yX7_markAbove cX7_markAbove 3 (Option.some Jvm.ClassFile.FieldType.int) ∈ sw_U := sw_in (sw_t3 (List.mem_of_getElem? (i := 219) (by decide +kernel))) rfl
theorem ml_X10_172 : Cond.methodLink RX10 172 yX10_orNone ∈ sw_U := sw_in (sw_t3 (List.mem_of_getElem? (i := 220) (by decide +kernel))) rfl
theorem st_X10_orNone : Cond.static yX10_orNone ∈ sw_U := sw_in (sw_t3 (List.mem_of_getElem? (i := 221) (by decide +kernel))) rfl
theorem co_X10_orNone : Cond.code yX10_orNone cX10_orNone 3 (Option.some Jvm.ClassFile.FieldType.int) ∈ sw_U := sw_in (sw_t3 (List.mem_of_getElem? (i := 222) (by decide +kernel))) rfl
theorem ml_X10_176 : Cond.methodLink RX10 176 yX7_markBelow ∈ sw_U := sw_in (sw_t3 (List.mem_of_getElem? (i := 223) (by decide +kernel))) rfl
theorem im_X7_markBelow : Cond.instanceMethod yX7_markBelow ∈ sw_U := sw_in (sw_t3 (List.mem_of_getElem? (i := 224) (by decide +kernel))) rfl
theorem se_X7_markBelow : Cond.selects yX7_markBelow.cls yX7_markBelow yX7_markBelow ∈ sw_U := sw_in (sw_t3 (List.mem_of_getElem? (i := 225) (by decide +kernel))) rfl
theorem co_X7_markBelow : Cond.code yX7_markBelow cX7_markBelow 3 (Option.some Jvm.ClassFile.FieldType.int) ∈ sw_U := sw_in (sw_t3 (List.mem_of_getElem? (i := 226) (by decide +kernel))) rfl
theorem ml_L_38 : Cond.methodLink RL 38 yX10_striker ∈ sw_U := sw_in (sw_t3 (List.mem_of_getElem? (i := 227) (by decide +kernel))) rfl
theorem im_X10_striker : Cond.instanceMethod yX10_striker ∈ sw_U := sw_in (sw_t3 (List.mem_of_getElem? (i := 228) (by decide +kernel))) rfl
theorem se_X10_striker : Cond.selects yX10_striker.cls yX10_striker yX10_striker ∈ sw_U := sw_in (sw_t3 (List.mem_of_getElem? (i := 229) (by decide +kernel))) rfl
theorem co_X10_striker : Cond.code yX10_striker cX10_striker 4 (Option.some Jvm.ClassFile.FieldType.int) ∈ sw_U := sw_in (sw_t3 (List.mem_of_getElem? (i := 230) (by decide +kernel))) rfl
theorem ml_X10_179 : Cond.methodLink RX10 179 yX10_needStriker ∈ sw_U := sw_in (sw_t3 (List.mem_of_getElem? (i := 231) (by decide +kernel))) rfl
theorem im_X10_needStriker : Cond.instanceMethod yX10_needStriker ∈ sw_U := sw_in (sw_t3 (List.mem_of_getElem? (i := 233) (by decide +kernel))) rfl
theorem co_X10_needStriker : Cond.code yX10_needStriker cX10_needStriker 2 (Option.none : Option Jvm.ClassFile.FieldType) ∈ sw_U := sw_in (sw_t3 (List.mem_of_getElem? (i := 234) (by decide +kernel))) rfl
theorem ml_X10_185 : Cond.methodLink RX10 185 yX7_countStrikes ∈ sw_U := sw_in (sw_t3 (List.mem_of_getElem? (i := 235) (by decide +kernel))) rfl
theorem im_X7_countStrikes : Cond.instanceMethod yX7_countStrikes ∈ sw_U := sw_in (sw_t3 (List.mem_of_getElem? (i := 236) (by decide +kernel))) rfl
theorem se_X7_countStrikes : Cond.selects yX7_countStrikes.cls yX7_countStrikes yX7_countStrikes ∈ sw_U := sw_in (sw_t3 (List.mem_of_getElem? (i := 237) (by decide +kernel))) rfl
theorem co_X7_countStrikes : Cond.code yX7_countStrikes cX7_countStrikes 4 (Option.some Jvm.ClassFile.FieldType.int) ∈ sw_U := sw_in (sw_t3 (List.mem_of_getElem? (i := 238) (by decide +kernel))) rfl
theorem ml_X10_188 : Cond.methodLink RX10 188 yX7_countOwned ∈ sw_U := sw_in (sw_t3 (List.mem_of_getElem? (i := 239) (by decide +kernel))) rfl
theorem im_X7_countOwned : Cond.instanceMethod yX7_countOwned ∈ sw_U := sw_in (sw_t4 (List.mem_of_getElem? (i := 0) (by decide +kernel))) rfl
theorem se_X7_countOwned : Cond.selects yX7_countOwned.cls yX7_countOwned yX7_countOwned ∈ sw_U := sw_in (sw_t4 (List.mem_of_getElem? (i := 1) (by decide +kernel))) rfl
theorem co_X7_countOwned : Cond.code yX7_countOwned cX7_countOwned 2 (Option.some Jvm.ClassFile.FieldType.int) ∈ sw_U := sw_in (sw_t4 (List.mem_of_getElem? (i := 2) (by decide +kernel))) rfl
theorem ml_X7_77 : Cond.methodLink RX7 77 yX7_countWithOwner ∈ sw_U := sw_in (sw_t4 (List.mem_of_getElem? (i := 3) (by decide +kernel))) rfl
theorem im_X7_countWithOwner : Cond.instanceMethod yX7_countWithOwner ∈ sw_U := sw_in (sw_t4 (List.mem_of_getElem? (i := 5) (by decide +kernel))) rfl
theorem co_X7_countWithOwner : Cond.code yX7_countWithOwner cX7_countWithOwner 5 (Option.some Jvm.ClassFile.FieldType.int) ∈ sw_U := sw_in (sw_t4 (List.mem_of_getElem? (i := 6) (by decide +kernel))) rfl
theorem ml_X10_191 : Cond.methodLink RX10 191 yX9_strikeAbove ∈ sw_U := sw_in (sw_t4 (List.mem_of_getElem? (i := 7) (by decide +kernel))) rfl
theorem st_X9_strikeAbove : Cond.static yX9_strikeAbove ∈ sw_U := sw_in (sw_t4 (List.mem_of_getElem? (i := 8) (by decide +kernel))) rfl
theorem co_X9_strikeAbove : Cond.code yX9_strikeAbove cX9_strikeAbove 6 (Option.some Jvm.ClassFile.FieldType.int) ∈ sw_U := sw_in (sw_t4 (List.mem_of_getElem? (i := 9) (by decide +kernel))) rfl
theorem ml_X9_26 : Cond.methodLink RX9 26 yJ9_max_7cf53 ∈ sw_U := sw_in (sw_t4 (List.mem_of_getElem? (i := 10) (by decide +kernel))) rfl
theorem ml_X9_31 : Cond.methodLink RX9 31 yX9_product ∈ sw_U := sw_in (sw_t4 (List.mem_of_getElem? (i := 11) (by decide +kernel))) rfl
theorem ml_X9_35 : Cond.methodLink RX9 35 yX9_isOnSpoke ∈ sw_U := sw_in (sw_t4 (List.mem_of_getElem? (i := 12) (by decide +kernel))) rfl
theorem st_X9_isOnSpoke : Cond.static yX9_isOnSpoke ∈ sw_U := sw_in (sw_t4 (List.mem_of_getElem? (i := 13) (by decide +kernel))) rfl
theorem co_X9_isOnSpoke : Cond.code yX9_isOnSpoke cX9_isOnSpoke 3 (Option.some Jvm.ClassFile.FieldType.boolean) ∈ sw_U := sw_in (sw_t4 (List.mem_of_getElem? (i := 14) (by decide +kernel))) rfl
theorem ml_X10_194 : Cond.methodLink RX10 194 yX9_isPrime ∈ sw_U := sw_in (sw_t4 (List.mem_of_getElem? (i := 15) (by decide +kernel))) rfl
theorem st_X9_isPrime : Cond.static yX9_isPrime ∈ sw_U := sw_in (sw_t4 (List.mem_of_getElem? (i := 16) (by decide +kernel))) rfl
theorem co_X9_isPrime : Cond.code yX9_isPrime cX9_isPrime 2 (Option.some Jvm.ClassFile.FieldType.boolean) ∈ sw_U := sw_in (sw_t4 (List.mem_of_getElem? (i := 17) (by decide +kernel))) rfl
theorem ml_L_203 : Cond.methodLink RL 203 yL_alike ∈ sw_U := sw_in (sw_t4 (List.mem_of_getElem? (i := 18) (by decide +kernel))) rfl
theorem st_L_alike : Cond.static yL_alike ∈ sw_U := sw_in (sw_t4 (List.mem_of_getElem? (i := 19) (by decide +kernel))) rfl
theorem co_L_alike : Cond.code yL_alike cL_alike 3 (Option.some Jvm.ClassFile.FieldType.boolean) ∈ sw_U := sw_in (sw_t4 (List.mem_of_getElem? (i := 20) (by decide +kernel))) rfl
theorem ml_L_182 : Cond.methodLink RL 182 yL_areNumbers ∈ sw_U := sw_in (sw_t4 (List.mem_of_getElem? (i := 21) (by decide +kernel))) rfl
theorem st_L_areNumbers : Cond.static yL_areNumbers ∈ sw_U := sw_in (sw_t4 (List.mem_of_getElem? (i := 22) (by decide +kernel))) rfl
theorem co_L_areNumbers : Cond.code yL_areNumbers cL_areNumbers 11 (Option.some Jvm.ClassFile.FieldType.boolean) ∈ sw_U := sw_in (sw_t4 (List.mem_of_getElem? (i := 23) (by decide +kernel))) rfl
theorem ml_L_41 : Cond.methodLink RL 41 yX10_missing ∈ sw_U := sw_in (sw_t4 (List.mem_of_getElem? (i := 24) (by decide +kernel))) rfl
theorem im_X10_missing : Cond.instanceMethod yX10_missing ∈ sw_U := sw_in (sw_t4 (List.mem_of_getElem? (i := 25) (by decide +kernel))) rfl
theorem se_X10_missing : Cond.selects yX10_missing.cls yX10_missing yX10_missing ∈ sw_U := sw_in (sw_t4 (List.mem_of_getElem? (i := 26) (by decide +kernel))) rfl
theorem co_X10_missing : Cond.code yX10_missing cX10_missing 1 (Option.some Jvm.ClassFile.FieldType.int) ∈ sw_U := sw_in (sw_t4 (List.mem_of_getElem? (i := 27) (by decide +kernel))) rfl
theorem ml_X10_244 : Cond.methodLink RX10 244 yX3_smallestMissing ∈ sw_U := sw_in (sw_t4 (List.mem_of_getElem? (i := 28) (by decide +kernel))) rfl
theorem im_X3_smallestMissing : Cond.instanceMethod yX3_smallestMissing ∈ sw_U := sw_in (sw_t4 (List.mem_of_getElem? (i := 29) (by decide +kernel))) rfl
theorem se_X3_smallestMissing : Cond.selects yX3_smallestMissing.cls yX3_smallestMissing yX3_smallestMissing ∈ sw_U := sw_in (sw_t4 (List.mem_of_getElem? (i := 30) (by decide +kernel))) rfl
theorem co_X3_smallestMissing : Cond.code yX3_smallestMissing cX3_smallestMissing 4 (Option.some Jvm.ClassFile.FieldType.int) ∈ sw_U := sw_in (sw_t4 (List.mem_of_getElem? (i := 31) (by decide +kernel))) rfl
theorem ml_L_44 : Cond.methodLink RL 44 yX10_at ∈ sw_U := sw_in (sw_t4 (List.mem_of_getElem? (i := 32) (by decide +kernel))) rfl
theorem im_X10_at : Cond.instanceMethod yX10_at ∈ sw_U := sw_in (sw_t4 (List.mem_of_getElem? (i := 33) (by decide +kernel))) rfl
theorem se_X10_at : Cond.selects yX10_at.cls yX10_at yX10_at ∈ sw_U := sw_in (sw_t4 (List.mem_of_getElem? (i := 34) (by decide +kernel))) rfl
theorem co_X10_at : Cond.code yX10_at cX10_at 3 (Option.some Jvm.ClassFile.FieldType.int) ∈ sw_U := sw_in (sw_t4 (List.mem_of_getElem? (i := 35) (by decide +kernel))) rfl
theorem ml_X10_204 : Cond.methodLink RX10 204 yX7_ownerOf ∈ sw_U := sw_in (sw_t4 (List.mem_of_getElem? (i := 36) (by decide +kernel))) rfl
theorem im_X7_ownerOf : Cond.instanceMethod yX7_ownerOf ∈ sw_U := sw_in (sw_t4 (List.mem_of_getElem? (i := 37) (by decide +kernel))) rfl
theorem se_X7_ownerOf : Cond.selects yX7_ownerOf.cls yX7_ownerOf yX7_ownerOf ∈ sw_U := sw_in (sw_t4 (List.mem_of_getElem? (i := 38) (by decide +kernel))) rfl
theorem co_X7_ownerOf : Cond.code yX7_ownerOf cX7_ownerOf 2 (Option.some Jvm.ClassFile.FieldType.int) ∈ sw_U := sw_in (sw_t4 (List.mem_of_getElem? (i := 39) (by decide +kernel))) rfl
theorem ml_L_47 : Cond.methodLink RL 47 yL_isPrime ∈ sw_U := sw_in (sw_t4 (List.mem_of_getElem? (i := 40) (by decide +kernel))) rfl
theorem st_L_isPrime : Cond.static yL_isPrime ∈ sw_U := sw_in (sw_t4 (List.mem_of_getElem? (i := 41) (by decide +kernel))) rfl
theorem co_L_isPrime : Cond.code yL_isPrime cL_isPrime 2 (Option.some Jvm.ClassFile.FieldType.boolean) ∈ sw_U := sw_in (sw_t4 (List.mem_of_getElem? (i := 42) (by decide +kernel))) rfl
theorem ml_L_51 : Cond.methodLink RL 51 yX10_mark ∈ sw_U := sw_in (sw_t4 (List.mem_of_getElem? (i := 43) (by decide +kernel))) rfl
theorem im_X10_mark : Cond.instanceMethod yX10_mark ∈ sw_U := sw_in (sw_t4 (List.mem_of_getElem? (i := 44) (by decide +kernel))) rfl
theorem se_X10_mark : Cond.selects yX10_mark.cls yX10_mark yX10_mark ∈ sw_U := sw_in (sw_t4 (List.mem_of_getElem? (i := 45) (by decide +kernel))) rfl
theorem co_X10_mark : Cond.code yX10_mark cX10_mark 2 (Option.some Jvm.ClassFile.FieldType.int) ∈ sw_U := sw_in (sw_t4 (List.mem_of_getElem? (i := 46) (by decide +kernel))) rfl
theorem ml_X10_231 : Cond.methodLink RX10 231 yX7_markAt ∈ sw_U := sw_in (sw_t4 (List.mem_of_getElem? (i := 47) (by decide +kernel))) rfl
theorem im_X7_markAt : Cond.instanceMethod yX7_markAt ∈ sw_U := sw_in (sw_t4 (List.mem_of_getElem? (i := 48) (by decide +kernel))) rfl
theorem se_X7_markAt : Cond.selects yX7_markAt.cls yX7_markAt yX7_markAt ∈ sw_U := sw_in (sw_t4 (List.mem_of_getElem? (i := 49) (by decide +kernel))) rfl
theorem co_X7_markAt : Cond.code yX7_markAt cX7_markAt 3 (Option.some Jvm.ClassFile.FieldType.int) ∈ sw_U := sw_in (sw_t4 (List.mem_of_getElem? (i := 50) (by decide +kernel))) rfl
theorem ml_L_54 : Cond.methodLink RL 54 yX10_upTo ∈ sw_U := sw_in (sw_t4 (List.mem_of_getElem? (i := 51) (by decide +kernel))) rfl
theorem im_X10_upTo : Cond.instanceMethod yX10_upTo ∈ sw_U := sw_in (sw_t4 (List.mem_of_getElem? (i := 52) (by decide +kernel))) rfl
theorem se_X10_upTo : Cond.selects yX10_upTo.cls yX10_upTo yX10_upTo ∈ sw_U := sw_in (sw_t4 (List.mem_of_getElem? (i := 53) (by decide +kernel))) rfl
theorem co_X10_upTo : Cond.code yX10_upTo cX10_upTo 2 (Option.some Jvm.ClassFile.FieldType.int) ∈ sw_U := sw_in (sw_t4 (List.mem_of_getElem? (i := 54) (by decide +kernel))) rfl
theorem ml_X10_228 : Cond.methodLink RX10 228 yX7_marksUpTo ∈ sw_U := sw_in (sw_t4 (List.mem_of_getElem? (i := 55) (by decide +kernel))) rfl
theorem ml_L_57 : Cond.methodLink RL 57 yX10_cause ∈ sw_U := sw_in (sw_t4 (List.mem_of_getElem? (i := 56) (by decide +kernel))) rfl
theorem im_X10_cause : Cond.instanceMethod yX10_cause ∈ sw_U := sw_in (sw_t4 (List.mem_of_getElem? (i := 57) (by decide +kernel))) rfl
theorem se_X10_cause : Cond.selects yX10_cause.cls yX10_cause yX10_cause ∈ sw_U := sw_in (sw_t4 (List.mem_of_getElem? (i := 58) (by decide +kernel))) rfl
theorem co_X10_cause : Cond.code yX10_cause cX10_cause 3 (Option.some Jvm.ClassFile.FieldType.int) ∈ sw_U := sw_in (sw_t4 (List.mem_of_getElem? (i := 59) (by decide +kernel))) rfl
theorem ml_X10_207 : Cond.methodLink RX10 207 yX9_smallestPrimeOf ∈ sw_U := sw_in (sw_t4 (List.mem_of_getElem? (i := 60) (by decide +kernel))) rfl
theorem ml_L_60 : Cond.methodLink RL 60 yX10_find ∈ sw_U := sw_in (sw_t4 (List.mem_of_getElem? (i := 61) (by decide +kernel))) rfl
theorem im_X10_find : Cond.instanceMethod yX10_find ∈ sw_U := sw_in (sw_t4 (List.mem_of_getElem? (i := 62) (by decide +kernel))) rfl
theorem se_X10_find : Cond.selects yX10_find.cls yX10_find yX10_find ∈ sw_U := sw_in (sw_t4 (List.mem_of_getElem? (i := 63) (by decide +kernel))) rfl
theorem co_X10_find : Cond.code yX10_find cX10_find 2 (Option.some Jvm.ClassFile.FieldType.int) ∈ sw_U := sw_in (sw_t4 (List.mem_of_getElem? (i := 64) (by decide +kernel))) rfl
theorem ml_X10_201 : Cond.methodLink RX10 201 yX3_placeOf ∈ sw_U := sw_in (sw_t4 (List.mem_of_getElem? (i := 65) (by decide +kernel))) rfl
theorem ml_L_63 : Cond.methodLink RL 63 yX10_struck ∈ sw_U := sw_in (sw_t4 (List.mem_of_getElem? (i := 66) (by decide +kernel))) rfl
theorem im_X10_struck : Cond.instanceMethod yX10_struck ∈ sw_U := sw_in (sw_t4 (List.mem_of_getElem? (i := 67) (by decide +kernel))) rfl
theorem se_X10_struck : Cond.selects yX10_struck.cls yX10_struck yX10_struck ∈ sw_U := sw_in (sw_t4 (List.mem_of_getElem? (i := 68) (by decide +kernel))) rfl
theorem co_X10_struck : Cond.code yX10_struck cX10_struck 3 (Option.some Jvm.ClassFile.FieldType.int) ∈ sw_U := sw_in (sw_t4 (List.mem_of_getElem? (i := 69) (by decide +kernel))) rfl
theorem ml_X10_213 : Cond.methodLink RX10 213 yX3_countHits ∈ sw_U := sw_in (sw_t4 (List.mem_of_getElem? (i := 70) (by decide +kernel))) rfl
theorem im_X3_countHits : Cond.instanceMethod yX3_countHits ∈ sw_U := sw_in (sw_t4 (List.mem_of_getElem? (i := 71) (by decide +kernel))) rfl
theorem se_X3_countHits : Cond.selects yX3_countHits.cls yX3_countHits yX3_countHits ∈ sw_U := sw_in (sw_t4 (List.mem_of_getElem? (i := 72) (by decide +kernel))) rfl
theorem co_X3_countHits : Cond.code yX3_countHits cX3_countHits 7 (Option.some Jvm.ClassFile.FieldType.int) ∈ sw_U := sw_in (sw_t4 (List.mem_of_getElem? (i := 73) (by decide +kernel))) rfl
theorem ml_X3_58 : Cond.methodLink RX3 58 yJ9_max_7cf53 ∈ sw_U := sw_in (sw_t4 (List.mem_of_getElem? (i := 74) (by decide +kernel))) rfl
theorem ml_L_66 : Cond.methodLink RL 66 yX10_wrong ∈ sw_U := sw_in (sw_t4 (List.mem_of_getElem? (i := 75) (by decide +kernel))) rfl
theorem im_X10_wrong : Cond.instanceMethod yX10_wrong ∈ sw_U := sw_in (sw_t4 (List.mem_of_getElem? (i := 76) (by decide +kernel))) rfl
theorem se_X10_wrong : Cond.selects yX10_wrong.cls yX10_wrong yX10_wrong ∈ sw_U := sw_in (sw_t4 (List.mem_of_getElem? (i := 77) (by decide +kernel))) rfl
theorem co_X10_wrong : Cond.code yX10_wrong cX10_wrong 4 (Option.some Jvm.ClassFile.FieldType.int) ∈ sw_U := sw_in (sw_t4 (List.mem_of_getElem? (i := 78) (by decide +kernel))) rfl
theorem ml_X10_234 : Cond.methodLink RX10 234 yX7_lastNumber ∈ sw_U := sw_in (sw_t4 (List.mem_of_getElem? (i := 79) (by decide +kernel))) rfl
theorem im_X7_lastNumber : Cond.instanceMethod yX7_lastNumber ∈ sw_U := sw_in (sw_t4 (List.mem_of_getElem? (i := 80) (by decide +kernel))) rfl
theorem se_X7_lastNumber : Cond.selects yX7_lastNumber.cls yX7_lastNumber yX7_lastNumber ∈ sw_U := sw_in (sw_t4 (List.mem_of_getElem? (i := 81) (by decide +kernel))) rfl
theorem co_X7_lastNumber : Cond.code yX7_lastNumber cX7_lastNumber 1 (Option.some Jvm.ClassFile.FieldType.int) ∈ sw_U := sw_in (sw_t4 (List.mem_of_getElem? (i := 82) (by decide +kernel))) rfl
theorem ml_X10_235 : Cond.methodLink RX10 235 yX7_isMark ∈ sw_U := sw_in (sw_t4 (List.mem_of_getElem? (i := 83) (by decide +kernel))) rfl
theorem im_X7_isMark : Cond.instanceMethod yX7_isMark ∈ sw_U := sw_in (sw_t4 (List.mem_of_getElem? (i := 84) (by decide +kernel))) rfl
theorem se_X7_isMark : Cond.selects yX7_isMark.cls yX7_isMark yX7_isMark ∈ sw_U := sw_in (sw_t4 (List.mem_of_getElem? (i := 85) (by decide +kernel))) rfl
theorem co_X7_isMark : Cond.code yX7_isMark cX7_isMark 2 (Option.some Jvm.ClassFile.FieldType.boolean) ∈ sw_U := sw_in (sw_t4 (List.mem_of_getElem? (i := 86) (by decide +kernel))) rfl
theorem ml_X7_68 : Cond.methodLink RX7 68 yX7_ownerOf ∈ sw_U := sw_in (sw_t4 (List.mem_of_getElem? (i := 87) (by decide +kernel))) rfl
theorem ml_L_69 : Cond.methodLink RL 69 yX10_firstWrong ∈ sw_U := sw_in (sw_t4 (List.mem_of_getElem? (i := 88) (by decide +kernel))) rfl
theorem im_X10_firstWrong : Cond.instanceMethod yX10_firstWrong ∈ sw_U := sw_in (sw_t4 (List.mem_of_getElem? (i := 89) (by decide +kernel))) rfl
theorem se_X10_firstWrong : Cond.selects yX10_firstWrong.cls yX10_firstWrong yX10_firstWrong ∈ sw_U := sw_in (sw_t4 (List.mem_of_getElem? (i := 90) (by decide +kernel))) rfl
theorem co_X10_firstWrong : Cond.code yX10_firstWrong cX10_firstWrong 3 (Option.some Jvm.ClassFile.FieldType.int) ∈ sw_U := sw_in (sw_t4 (List.mem_of_getElem? (i := 91) (by decide +kernel))) rfl
theorem ml_L_72 : Cond.methodLink RL 72 yX10_gap ∈ sw_U := sw_in (sw_t4 (List.mem_of_getElem? (i := 92) (by decide +kernel))) rfl
theorem im_X10_gap : Cond.instanceMethod yX10_gap ∈ sw_U := sw_in (sw_t4 (List.mem_of_getElem? (i := 93) (by decide +kernel))) rfl
theorem se_X10_gap : Cond.selects yX10_gap.cls yX10_gap yX10_gap ∈ sw_U := sw_in (sw_t4 (List.mem_of_getElem? (i := 94) (by decide +kernel))) rfl
theorem co_X10_gap : Cond.code yX10_gap cX10_gap 4 (Option.some Jvm.ClassFile.FieldType.int) ∈ sw_U := sw_in (sw_t4 (List.mem_of_getElem? (i := 95) (by decide +kernel))) rfl
theorem ml_X10_247 : Cond.methodLink RX10 247 yX10_wrong ∈ sw_U := sw_in (sw_t4 (List.mem_of_getElem? (i := 96) (by decide +kernel))) rfl
theorem ml_L_186 : Cond.methodLink RL 186 yL_areStretches ∈ sw_U := sw_in (sw_t4 (List.mem_of_getElem? (i := 97) (by decide +kernel))) rfl
theorem st_L_areStretches : Cond.static yL_areStretches ∈ sw_U := sw_in (sw_t4 (List.mem_of_getElem? (i := 98) (by decide +kernel))) rfl
theorem co_L_areStretches : Cond.code yL_areStretches cL_areStretches 5 (Option.some Jvm.ClassFile.FieldType.boolean) ∈ sw_U := sw_in (sw_t4 (List.mem_of_getElem? (i := 99) (by decide +kernel))) rfl
theorem ml_L_75 : Cond.methodLink RL 75 yX10_between ∈ sw_U := sw_in (sw_t4 (List.mem_of_getElem? (i := 100) (by decide +kernel))) rfl
theorem im_X10_between : Cond.instanceMethod yX10_between ∈ sw_U := sw_in (sw_t4 (List.mem_of_getElem? (i := 101) (by decide +kernel))) rfl
theorem se_X10_between : Cond.selects yX10_between.cls yX10_between yX10_between ∈ sw_U := sw_in (sw_t4 (List.mem_of_getElem? (i := 102) (by decide +kernel))) rfl
theorem co_X10_between : Cond.code yX10_between cX10_between 3 (Option.some Jvm.ClassFile.FieldType.int) ∈ sw_U := sw_in (sw_t4 (List.mem_of_getElem? (i := 103) (by decide +kernel))) rfl
theorem ml_L_78 : Cond.methodLink RL 78 yX10_widest ∈ sw_U := sw_in (sw_t4 (List.mem_of_getElem? (i := 104) (by decide +kernel))) rfl
theorem im_X10_widest : Cond.instanceMethod yX10_widest ∈ sw_U := sw_in (sw_t4 (List.mem_of_getElem? (i := 105) (by decide +kernel))) rfl
theorem se_X10_widest : Cond.selects yX10_widest.cls yX10_widest yX10_widest ∈ sw_U := sw_in (sw_t4 (List.mem_of_getElem? (i := 106) (by decide +kernel))) rfl
theorem co_X10_widest : Cond.code yX10_widest cX10_widest 2 (Option.some Jvm.ClassFile.FieldType.int) ∈ sw_U := sw_in (sw_t4 (List.mem_of_getElem? (i := 107) (by decide +kernel))) rfl
theorem ml_X10_238 : Cond.methodLink RX10 238 yX10_widestAt ∈ sw_U := sw_in (sw_t4 (List.mem_of_getElem? (i := 108) (by decide +kernel))) rfl
theorem im_X10_widestAt : Cond.instanceMethod yX10_widestAt ∈ sw_U := sw_in (sw_t4 (List.mem_of_getElem? (i := 109) (by decide +kernel))) rfl
theorem se_X10_widestAt : Cond.selects yX10_widestAt.cls yX10_widestAt yX10_widestAt ∈ sw_U := sw_in (sw_t4 (List.mem_of_getElem? (i := 110) (by decide +kernel))) rfl
theorem co_X10_widestAt : Cond.code yX10_widestAt cX10_widestAt 6 (Option.some Jvm.ClassFile.FieldType.int) ∈ sw_U := sw_in (sw_t4 (List.mem_of_getElem? (i := 111) (by decide +kernel))) rfl
theorem ml_L_81 : Cond.methodLink RL 81 yX10_widestAt ∈ sw_U := sw_in (sw_t4 (List.mem_of_getElem? (i := 112) (by decide +kernel))) rfl
theorem ml_L_84 : Cond.methodLink RL 84 yX10_next ∈ sw_U := sw_in (sw_t4 (List.mem_of_getElem? (i := 113) (by decide +kernel))) rfl
theorem im_X10_next : Cond.instanceMethod yX10_next ∈ sw_U := sw_in (sw_t4 (List.mem_of_getElem? (i := 114) (by decide +kernel))) rfl
theorem se_X10_next : Cond.selects yX10_next.cls yX10_next yX10_next ∈ sw_U := sw_in (sw_t4 (List.mem_of_getElem? (i := 115) (by decide +kernel))) rfl
theorem co_X10_next : Cond.code yX10_next cX10_next 3 (Option.some Jvm.ClassFile.FieldType.int) ∈ sw_U := sw_in (sw_t4 (List.mem_of_getElem? (i := 116) (by decide +kernel))) rfl
theorem ml_L_88 : Cond.methodLink RL 88 yX10_gaps ∈ sw_U := sw_in (sw_t4 (List.mem_of_getElem? (i := 117) (by decide +kernel))) rfl
theorem im_X10_gaps : Cond.instanceMethod yX10_gaps ∈ sw_U := sw_in (sw_t4 (List.mem_of_getElem? (i := 118) (by decide +kernel))) rfl
theorem se_X10_gaps : Cond.selects yX10_gaps.cls yX10_gaps yX10_gaps ∈ sw_U := sw_in (sw_t4 (List.mem_of_getElem? (i := 119) (by decide +kernel))) rfl
theorem co_X10_gaps : Cond.code yX10_gaps cX10_gaps 5 (Option.some Jvm.ClassFile.FieldType.int) ∈ sw_U := sw_in (sw_t4 (List.mem_of_getElem? (i := 120) (by decide +kernel))) rfl
theorem ml_L_91 : Cond.methodLink RL 91 yX10_best ∈ sw_U := sw_in (sw_t4 (List.mem_of_getElem? (i := 121) (by decide +kernel))) rfl
theorem im_X10_best : Cond.instanceMethod yX10_best ∈ sw_U := sw_in (sw_t4 (List.mem_of_getElem? (i := 122) (by decide +kernel))) rfl
theorem se_X10_best : Cond.selects yX10_best.cls yX10_best yX10_best ∈ sw_U := sw_in (sw_t4 (List.mem_of_getElem? (i := 123) (by decide +kernel))) rfl
theorem co_X10_best : Cond.code yX10_best cX10_best 6 (Option.some Jvm.ClassFile.FieldType.int) ∈ sw_U := sw_in (sw_t4 (List.mem_of_getElem? (i := 124) (by decide +kernel))) rfl
theorem ml_X10_250 : Cond.methodLink RX10 250 yX7_countTaken ∈ sw_U := sw_in (sw_t4 (List.mem_of_getElem? (i := 125) (by decide +kernel))) rfl
theorem im_X7_countTaken : Cond.instanceMethod yX7_countTaken ∈ sw_U := sw_in (sw_t4 (List.mem_of_getElem? (i := 126) (by decide +kernel))) rfl
theorem se_X7_countTaken : Cond.selects yX7_countTaken.cls yX7_countTaken yX7_countTaken ∈ sw_U := sw_in (sw_t4 (List.mem_of_getElem? (i := 127) (by decide +kernel))) rfl
theorem co_X7_countTaken : Cond.code yX7_countTaken cX7_countTaken 2 (Option.some Jvm.ClassFile.FieldType.int) ∈ sw_U := sw_in (sw_t4 (List.mem_of_getElem? (i := 128) (by decide +kernel))) rfl
theorem ml_L_94 : Cond.methodLink RL 94 yX10_takes ∈ sw_U := sw_in (sw_t4 (List.mem_of_getElem? (i := 129) (by decide +kernel))) rfl
theorem im_X10_takes : Cond.instanceMethod yX10_takes ∈ sw_U := sw_in (sw_t4 (List.mem_of_getElem? (i := 130) (by decide +kernel))) rfl
theorem se_X10_takes : Cond.selects yX10_takes.cls yX10_takes yX10_takes ∈ sw_U := sw_in (sw_t4 (List.mem_of_getElem? (i := 131) (by decide +kernel))) rfl
theorem co_X10_takes : Cond.code yX10_takes cX10_takes 2 (Option.some Jvm.ClassFile.FieldType.int) ∈ sw_U := sw_in (sw_t4 (List.mem_of_getElem? (i := 132) (by decide +kernel))) rfl
theorem ml_L_97 : Cond.methodLink RL 97 yX10_longest ∈ sw_U := sw_in (sw_t4 (List.mem_of_getElem? (i := 133) (by decide +kernel))) rfl
theorem im_X10_longest : Cond.instanceMethod yX10_longest ∈ sw_U := sw_in (sw_t4 (List.mem_of_getElem? (i := 134) (by decide +kernel))) rfl
theorem se_X10_longest : Cond.selects yX10_longest.cls yX10_longest yX10_longest ∈ sw_U := sw_in (sw_t4 (List.mem_of_getElem? (i := 135) (by decide +kernel))) rfl
theorem co_X10_longest : Cond.code yX10_longest cX10_longest 6 (Option.some Jvm.ClassFile.FieldType.int) ∈ sw_U := sw_in (sw_t4 (List.mem_of_getElem? (i := 136) (by decide +kernel))) rfl
theorem ml_X10_220 : Cond.methodLink RX10 220 yJ9_max_7cf53 ∈ sw_U := sw_in (sw_t4 (List.mem_of_getElem? (i := 137) (by decide +kernel))) rfl
theorem ml_L_100 : Cond.methodLink RL 100 yX10_thickest ∈ sw_U := sw_in (sw_t4 (List.mem_of_getElem? (i := 138) (by decide +kernel))) rfl
theorem im_X10_thickest : Cond.instanceMethod yX10_thickest ∈ sw_U := sw_in (sw_t4 (List.mem_of_getElem? (i := 139) (by decide +kernel))) rfl
theorem se_X10_thickest : Cond.selects yX10_thickest.cls yX10_thickest yX10_thickest ∈ sw_U := sw_in (sw_t4 (List.mem_of_getElem? (i := 140) (by decide +kernel))) rfl
theorem co_X10_thickest : Cond.code yX10_thickest cX10_thickest 5 (Option.some Jvm.ClassFile.FieldType.int) ∈ sw_U := sw_in (sw_t4 (List.mem_of_getElem? (i := 141) (by decide +kernel))) rfl
theorem ml_L_196 : Cond.methodLink RL 196 yL_act ∈ sw_U := sw_in (sw_t4 (List.mem_of_getElem? (i := 142) (by decide +kernel))) rfl
theorem st_L_act : Cond.static yL_act ∈ sw_U := sw_in (sw_t4 (List.mem_of_getElem? (i := 143) (by decide +kernel))) rfl
theorem co_L_act : Cond.code yL_act cL_act 11 (Option.some Jvm.ClassFile.FieldType.boolean) ∈ sw_U := sw_in (sw_t4 (List.mem_of_getElem? (i := 144) (by decide +kernel))) rfl
theorem ml_L_106 : Cond.methodLink RL 106 yX10_marksNext ∈ sw_U := sw_in (sw_t4 (List.mem_of_getElem? (i := 145) (by decide +kernel))) rfl
theorem im_X10_marksNext : Cond.instanceMethod yX10_marksNext ∈ sw_U := sw_in (sw_t4 (List.mem_of_getElem? (i := 146) (by decide +kernel))) rfl
theorem se_X10_marksNext : Cond.selects yX10_marksNext.cls yX10_marksNext yX10_marksNext ∈ sw_U := sw_in (sw_t4 (List.mem_of_getElem? (i := 147) (by decide +kernel))) rfl
theorem co_X10_marksNext : Cond.code yX10_marksNext cX10_marksNext 5 (Option.some Jvm.ClassFile.FieldType.int) ∈ sw_U := sw_in (sw_t4 (List.mem_of_getElem? (i := 148) (by decide +kernel))) rfl
theorem ml_X10_257 : Cond.methodLink RX10 257 yX9_isOnSpoke ∈ sw_U := sw_in (sw_t4 (List.mem_of_getElem? (i := 149) (by decide +kernel))) rfl
theorem ml_X10_260 : Cond.methodLink RX10 260 yX3_firstHit ∈ sw_U := sw_in (sw_t4 (List.mem_of_getElem? (i := 150) (by decide +kernel))) rfl
theorem ml_L_109 : Cond.methodLink RL 109 yX10_lay ∈ sw_U := sw_in (sw_t4 (List.mem_of_getElem? (i := 151) (by decide +kernel))) rfl
theorem im_X10_lay : Cond.instanceMethod yX10_lay ∈ sw_U := sw_in (sw_t4 (List.mem_of_getElem? (i := 152) (by decide +kernel))) rfl
theorem se_X10_lay : Cond.selects yX10_lay.cls yX10_lay yX10_lay ∈ sw_U := sw_in (sw_t4 (List.mem_of_getElem? (i := 153) (by decide +kernel))) rfl
theorem co_X10_lay : Cond.code yX10_lay cX10_lay 2 (Option.some Jvm.ClassFile.FieldType.int) ∈ sw_U := sw_in (sw_t4 (List.mem_of_getElem? (i := 154) (by decide +kernel))) rfl
theorem fl_X10_267 : Cond.fieldLink RX10 267 "StrikeWheels$Order" "LAY" "LStrikeWheels$Order;" ∈ sw_U := sw_in (sw_t4 (List.mem_of_getElem? (i := 155) (by decide +kernel))) rfl
theorem ml_X10_273 : Cond.methodLink RX10 273 yX10_operate ∈ sw_U := sw_in (sw_t4 (List.mem_of_getElem? (i := 157) (by decide +kernel))) rfl
theorem im_X10_operate : Cond.instanceMethod yX10_operate ∈ sw_U := sw_in (sw_t4 (List.mem_of_getElem? (i := 159) (by decide +kernel))) rfl
theorem co_X10_operate : Cond.code yX10_operate cX10_operate 5 (Option.some Jvm.ClassFile.FieldType.int) ∈ sw_U := sw_in (sw_t4 (List.mem_of_getElem? (i := 160) (by decide +kernel))) rfl
theorem ml_X10_361 : Cond.methodLink RX10 361 yX2_isInRange ∈ sw_U := sw_in (sw_t4 (List.mem_of_getElem? (i := 161) (by decide +kernel))) rfl
theorem im_X2_isInRange : Cond.instanceMethod yX2_isInRange ∈ sw_U := sw_in (sw_t4 (List.mem_of_getElem? (i := 162) (by decide +kernel))) rfl
theorem se_X2_isInRange : Cond.selects yX2_isInRange.cls yX2_isInRange yX2_isInRange ∈ sw_U := sw_in (sw_t4 (List.mem_of_getElem? (i := 163) (by decide +kernel))) rfl
theorem co_X2_isInRange : Cond.code yX2_isInRange cX2_isInRange 3 (Option.some Jvm.ClassFile.FieldType.boolean) ∈ sw_U := sw_in (sw_t4 (List.mem_of_getElem? (i := 164) (by decide +kernel))) rfl
theorem ml_X10_324 : Cond.methodLink RX10 324 yX10_carryOut ∈ sw_U := sw_in (sw_t4 (List.mem_of_getElem? (i := 165) (by decide +kernel))) rfl
theorem im_X10_carryOut : Cond.instanceMethod yX10_carryOut ∈ sw_U := sw_in (sw_t4 (List.mem_of_getElem? (i := 167) (by decide +kernel))) rfl
theorem co_X10_carryOut : Cond.code yX10_carryOut cX10_carryOut 4 (Option.some Jvm.ClassFile.FieldType.int) ∈ sw_U := sw_in (sw_t4 (List.mem_of_getElem? (i := 168) (by decide +kernel))) rfl
theorem fl_X10_364 : Cond.fieldLink RX10 364 "StrikeWheels$1" "$SwitchMap$StrikeWheels$Order" "[I" ∈ sw_U := sw_in (sw_t4 (List.mem_of_getElem? (i := 169) (by decide +kernel))) rfl
theorem ml_X10_369 : Cond.methodLink RX10 369 ⟨"StrikeWheels$Order", "ordinal", "()I"⟩ ∈ sw_U := sw_in (sw_t4 (List.mem_of_getElem? (i := 171) (by decide +kernel))) rfl
theorem im_Jx29ce0_ordinal_8abf5 : Cond.instanceMethod yJx29ce0_ordinal_8abf5 ∈ sw_U := sw_in (sw_t4 (List.mem_of_getElem? (i := 175) (by decide +kernel))) rfl
theorem co_Jx29ce0_ordinal_8abf5 : Cond.code yJx29ce0_ordinal_8abf5 cJx29ce0_ordinal_8abf5 1 (Option.some Jvm.ClassFile.FieldType.int) ∈ sw_U := sw_in (sw_t4 (List.mem_of_getElem? (i := 176) (by decide +kernel))) rfl
theorem ml_X10_372 : Cond.methodLink RX10 372 yX10_layStretch ∈ sw_U := sw_in (sw_t4 (List.mem_of_getElem? (i := 177) (by decide +kernel))) rfl
theorem im_X10_layStretch : Cond.instanceMethod yX10_layStretch ∈ sw_U := sw_in (sw_t4 (List.mem_of_getElem? (i := 179) (by decide +kernel))) rfl
theorem co_X10_layStretch : Cond.code yX10_layStretch cX10_layStretch 3 (Option.some Jvm.ClassFile.FieldType.int) ∈ sw_U := sw_in (sw_t4 (List.mem_of_getElem? (i := 180) (by decide +kernel))) rfl
theorem ml_X10_375 : Cond.methodLink RX10 375 yX10_dropStretch ∈ sw_U := sw_in (sw_t4 (List.mem_of_getElem? (i := 181) (by decide +kernel))) rfl
theorem im_X10_dropStretch : Cond.instanceMethod yX10_dropStretch ∈ sw_U := sw_in (sw_t4 (List.mem_of_getElem? (i := 183) (by decide +kernel))) rfl
theorem co_X10_dropStretch : Cond.code yX10_dropStretch cX10_dropStretch 1 (Option.some Jvm.ClassFile.FieldType.int) ∈ sw_U := sw_in (sw_t4 (List.mem_of_getElem? (i := 184) (by decide +kernel))) rfl
theorem ml_X10_402 : Cond.methodLink RX10 402 yX3_removeStretch ∈ sw_U := sw_in (sw_t4 (List.mem_of_getElem? (i := 185) (by decide +kernel))) rfl
theorem im_X3_removeStretch : Cond.instanceMethod yX3_removeStretch ∈ sw_U := sw_in (sw_t4 (List.mem_of_getElem? (i := 186) (by decide +kernel))) rfl
theorem se_X3_removeStretch : Cond.selects yX3_removeStretch.cls yX3_removeStretch yX3_removeStretch ∈ sw_U := sw_in (sw_t4 (List.mem_of_getElem? (i := 187) (by decide +kernel))) rfl
theorem co_X3_removeStretch : Cond.code yX3_removeStretch cX3_removeStretch 2 (Option.none : Option Jvm.ClassFile.FieldType) ∈ sw_U := sw_in (sw_t4 (List.mem_of_getElem? (i := 188) (by decide +kernel))) rfl
theorem ml_X3_44 : Cond.methodLink RX3 44 yX3_lastRoom ∈ sw_U := sw_in (sw_t4 (List.mem_of_getElem? (i := 189) (by decide +kernel))) rfl
theorem im_X3_lastRoom : Cond.instanceMethod yX3_lastRoom ∈ sw_U := sw_in (sw_t4 (List.mem_of_getElem? (i := 190) (by decide +kernel))) rfl
theorem se_X3_lastRoom : Cond.selects yX3_lastRoom.cls yX3_lastRoom yX3_lastRoom ∈ sw_U := sw_in (sw_t4 (List.mem_of_getElem? (i := 191) (by decide +kernel))) rfl
theorem co_X3_lastRoom : Cond.code yX3_lastRoom cX3_lastRoom 1 (Option.some Jvm.ClassFile.FieldType.int) ∈ sw_U := sw_in (sw_t4 (List.mem_of_getElem? (i := 192) (by decide +kernel))) rfl
theorem ml_X10_378 : Cond.methodLink RX10 378 yX10_trimStretch ∈ sw_U := sw_in (sw_t4 (List.mem_of_getElem? (i := 193) (by decide +kernel))) rfl
theorem im_X10_trimStretch : Cond.instanceMethod yX10_trimStretch ∈ sw_U := sw_in (sw_t4 (List.mem_of_getElem? (i := 195) (by decide +kernel))) rfl
theorem co_X10_trimStretch : Cond.code yX10_trimStretch cX10_trimStretch 2 (Option.some Jvm.ClassFile.FieldType.int) ∈ sw_U := sw_in (sw_t4 (List.mem_of_getElem? (i := 196) (by decide +kernel))) rfl
theorem ml_X10_405 : Cond.methodLink RX10 405 yX3_lastRoom ∈ sw_U := sw_in (sw_t4 (List.mem_of_getElem? (i := 197) (by decide +kernel))) rfl
theorem ml_X10_381 : Cond.methodLink RX10 381 yX10_swapStrikers ∈ sw_U := sw_in (sw_t4 (List.mem_of_getElem? (i := 198) (by decide +kernel))) rfl
theorem im_X10_swapStrikers : Cond.instanceMethod yX10_swapStrikers ∈ sw_U := sw_in (sw_t4 (List.mem_of_getElem? (i := 200) (by decide +kernel))) rfl
theorem co_X10_swapStrikers : Cond.code yX10_swapStrikers cX10_swapStrikers 9 (Option.some Jvm.ClassFile.FieldType.int) ∈ sw_U := sw_in (sw_t4 (List.mem_of_getElem? (i := 201) (by decide +kernel))) rfl
theorem ml_X10_408 : Cond.methodLink RX10 408 yX3_exchange ∈ sw_U := sw_in (sw_t4 (List.mem_of_getElem? (i := 202) (by decide +kernel))) rfl
theorem im_X3_exchange : Cond.instanceMethod yX3_exchange ∈ sw_U := sw_in (sw_t4 (List.mem_of_getElem? (i := 203) (by decide +kernel))) rfl
theorem se_X3_exchange : Cond.selects yX3_exchange.cls yX3_exchange yX3_exchange ∈ sw_U := sw_in (sw_t4 (List.mem_of_getElem? (i := 204) (by decide +kernel))) rfl
theorem co_X3_exchange : Cond.code yX3_exchange cX3_exchange 4 (Option.none : Option Jvm.ClassFile.FieldType) ∈ sw_U := sw_in (sw_t4 (List.mem_of_getElem? (i := 205) (by decide +kernel))) rfl
theorem ml_X10_384 : Cond.methodLink RX10 384 yX10_addStriker ∈ sw_U := sw_in (sw_t4 (List.mem_of_getElem? (i := 206) (by decide +kernel))) rfl
theorem im_X10_addStriker : Cond.instanceMethod yX10_addStriker ∈ sw_U := sw_in (sw_t4 (List.mem_of_getElem? (i := 208) (by decide +kernel))) rfl
theorem co_X10_addStriker : Cond.code yX10_addStriker cX10_addStriker 3 (Option.some Jvm.ClassFile.FieldType.int) ∈ sw_U := sw_in (sw_t4 (List.mem_of_getElem? (i := 209) (by decide +kernel))) rfl
theorem ml_X10_387 : Cond.methodLink RX10 387 yX10_liftStriker ∈ sw_U := sw_in (sw_t4 (List.mem_of_getElem? (i := 210) (by decide +kernel))) rfl
theorem im_X10_liftStriker : Cond.instanceMethod yX10_liftStriker ∈ sw_U := sw_in (sw_t4 (List.mem_of_getElem? (i := 212) (by decide +kernel))) rfl
theorem co_X10_liftStriker : Cond.code yX10_liftStriker cX10_liftStriker 4 (Option.some Jvm.ClassFile.FieldType.int) ∈ sw_U := sw_in (sw_t4 (List.mem_of_getElem? (i := 213) (by decide +kernel))) rfl
theorem ml_X10_253 : Cond.methodLink RX10 253 yX10_countGiven ∈ sw_U := sw_in (sw_t4 (List.mem_of_getElem? (i := 214) (by decide +kernel))) rfl
theorem im_X10_countGiven : Cond.instanceMethod yX10_countGiven ∈ sw_U := sw_in (sw_t4 (List.mem_of_getElem? (i := 216) (by decide +kernel))) rfl
theorem co_X10_countGiven : Cond.code yX10_countGiven cX10_countGiven 6 (Option.some Jvm.ClassFile.FieldType.int) ∈ sw_U := sw_in (sw_t4 (List.mem_of_getElem? (i := 217) (by decide +kernel))) rfl
theorem ml_X10_412 : Cond.methodLink RX10 412 yX3_removeStriker ∈ sw_U := sw_in (sw_t4 (List.mem_of_getElem? (i := 218) (by decide +kernel))) rfl
theorem im_X3_removeStriker : Cond.instanceMethod yX3_removeStriker ∈ sw_U := sw_in (sw_t4 (List.mem_of_getElem? (i := 219) (by decide +kernel))) rfl
theorem se_X3_removeStriker : Cond.selects yX3_removeStriker.cls yX3_removeStriker yX3_removeStriker ∈ sw_U := sw_in (sw_t4 (List.mem_of_getElem? (i := 220) (by decide +kernel))) rfl
theorem co_X3_removeStriker : Cond.code yX3_removeStriker cX3_removeStriker 3 (Option.none : Option Jvm.ClassFile.FieldType) ∈ sw_U := sw_in (sw_t4 (List.mem_of_getElem? (i := 221) (by decide +kernel))) rfl
theorem ml_X10_390 : Cond.methodLink RX10 390 yX10_putFirst ∈ sw_U := sw_in (sw_t4 (List.mem_of_getElem? (i := 222) (by decide +kernel))) rfl
theorem im_X10_putFirst : Cond.instanceMethod yX10_putFirst ∈ sw_U := sw_in (sw_t4 (List.mem_of_getElem? (i := 224) (by decide +kernel))) rfl
theorem co_X10_putFirst : Cond.code yX10_putFirst cX10_putFirst 3 (Option.some Jvm.ClassFile.FieldType.int) ∈ sw_U := sw_in (sw_t4 (List.mem_of_getElem? (i := 225) (by decide +kernel))) rfl
theorem ml_X10_415 : Cond.methodLink RX10 415 yX3_moveToFront ∈ sw_U := sw_in (sw_t4 (List.mem_of_getElem? (i := 226) (by decide +kernel))) rfl
theorem im_X3_moveToFront : Cond.instanceMethod yX3_moveToFront ∈ sw_U := sw_in (sw_t4 (List.mem_of_getElem? (i := 227) (by decide +kernel))) rfl
theorem se_X3_moveToFront : Cond.selects yX3_moveToFront.cls yX3_moveToFront yX3_moveToFront ∈ sw_U := sw_in (sw_t4 (List.mem_of_getElem? (i := 228) (by decide +kernel))) rfl
theorem co_X3_moveToFront : Cond.code yX3_moveToFront cX3_moveToFront 3 (Option.none : Option Jvm.ClassFile.FieldType) ∈ sw_U := sw_in (sw_t4 (List.mem_of_getElem? (i := 229) (by decide +kernel))) rfl
theorem ml_X3_48 : Cond.methodLink RX3 48 yJ9_min_7cf53 ∈ sw_U := sw_in (sw_t4 (List.mem_of_getElem? (i := 230) (by decide +kernel))) rfl
theorem ml_X3_54 : Cond.methodLink RX3 54 yX3_exchange ∈ sw_U := sw_in (sw_t4 (List.mem_of_getElem? (i := 231) (by decide +kernel))) rfl
theorem ml_X10_393 : Cond.methodLink RX10 393 yX10_changeWheel ∈ sw_U := sw_in (sw_t4 (List.mem_of_getElem? (i := 232) (by decide +kernel))) rfl
theorem im_X10_changeWheel : Cond.instanceMethod yX10_changeWheel ∈ sw_U := sw_in (sw_t4 (List.mem_of_getElem? (i := 234) (by decide +kernel))) rfl
theorem co_X10_changeWheel : Cond.code yX10_changeWheel cX10_changeWheel 3 (Option.some Jvm.ClassFile.FieldType.int) ∈ sw_U := sw_in (sw_t4 (List.mem_of_getElem? (i := 235) (by decide +kernel))) rfl
theorem ml_X10_418 : Cond.methodLink RX10 418 yX3_setWheel ∈ sw_U := sw_in (sw_t4 (List.mem_of_getElem? (i := 236) (by decide +kernel))) rfl
theorem im_X3_setWheel : Cond.instanceMethod yX3_setWheel ∈ sw_U := sw_in (sw_t4 (List.mem_of_getElem? (i := 237) (by decide +kernel))) rfl
theorem se_X3_setWheel : Cond.selects yX3_setWheel.cls yX3_setWheel yX3_setWheel ∈ sw_U := sw_in (sw_t4 (List.mem_of_getElem? (i := 238) (by decide +kernel))) rfl
theorem co_X3_setWheel : Cond.code yX3_setWheel cX3_setWheel 2 (Option.none : Option Jvm.ClassFile.FieldType) ∈ sw_U := sw_in (sw_t4 (List.mem_of_getElem? (i := 239) (by decide +kernel))) rfl
theorem ml_X10_396 : Cond.methodLink RX10 396 yX10_fillUp ∈ sw_U := sw_in (sw_t5 (List.mem_of_getElem? (i := 0) (by decide +kernel))) rfl
theorem im_X10_fillUp : Cond.instanceMethod yX10_fillUp ∈ sw_U := sw_in (sw_t5 (List.mem_of_getElem? (i := 2) (by decide +kernel))) rfl
theorem co_X10_fillUp : Cond.code yX10_fillUp cX10_fillUp 5 (Option.some Jvm.ClassFile.FieldType.int) ∈ sw_U := sw_in (sw_t5 (List.mem_of_getElem? (i := 3) (by decide +kernel))) rfl
theorem ml_X10_399 : Cond.methodLink RX10 399 yX10_takeIdleAway ∈ sw_U := sw_in (sw_t5 (List.mem_of_getElem? (i := 4) (by decide +kernel))) rfl
theorem im_X10_takeIdleAway : Cond.instanceMethod yX10_takeIdleAway ∈ sw_U := sw_in (sw_t5 (List.mem_of_getElem? (i := 6) (by decide +kernel))) rfl
theorem co_X10_takeIdleAway : Cond.code yX10_takeIdleAway cX10_takeIdleAway 4 (Option.some Jvm.ClassFile.FieldType.int) ∈ sw_U := sw_in (sw_t5 (List.mem_of_getElem? (i := 7) (by decide +kernel))) rfl
theorem ml_X10_327 : Cond.methodLink RX10 327 yX10_counted ∈ sw_U := sw_in (sw_t5 (List.mem_of_getElem? (i := 8) (by decide +kernel))) rfl
theorem im_X10_counted : Cond.instanceMethod yX10_counted ∈ sw_U := sw_in (sw_t5 (List.mem_of_getElem? (i := 10) (by decide +kernel))) rfl
theorem co_X10_counted : Cond.code yX10_counted cX10_counted 2 (Option.some Jvm.ClassFile.FieldType.int) ∈ sw_U := sw_in (sw_t5 (List.mem_of_getElem? (i := 11) (by decide +kernel))) rfl
theorem ml_X10_308 : Cond.methodLink RX10 308 yX1_push ∈ sw_U := sw_in (sw_t5 (List.mem_of_getElem? (i := 12) (by decide +kernel))) rfl
theorem im_X1_push : Cond.instanceMethod yX1_push ∈ sw_U := sw_in (sw_t5 (List.mem_of_getElem? (i := 13) (by decide +kernel))) rfl
theorem se_X1_push : Cond.selects yX1_push.cls yX1_push yX1_push ∈ sw_U := sw_in (sw_t5 (List.mem_of_getElem? (i := 14) (by decide +kernel))) rfl
theorem co_X1_push : Cond.code yX1_push cX1_push 2 (Option.none : Option Jvm.ClassFile.FieldType) ∈ sw_U := sw_in (sw_t5 (List.mem_of_getElem? (i := 15) (by decide +kernel))) rfl
theorem ml_L_112 : Cond.methodLink RL 112 yX10_add ∈ sw_U := sw_in (sw_t5 (List.mem_of_getElem? (i := 16) (by decide +kernel))) rfl
theorem im_X10_add : Cond.instanceMethod yX10_add ∈ sw_U := sw_in (sw_t5 (List.mem_of_getElem? (i := 17) (by decide +kernel))) rfl
theorem se_X10_add : Cond.selects yX10_add.cls yX10_add yX10_add ∈ sw_U := sw_in (sw_t5 (List.mem_of_getElem? (i := 18) (by decide +kernel))) rfl
theorem co_X10_add : Cond.code yX10_add cX10_add 2 (Option.some Jvm.ClassFile.FieldType.int) ∈ sw_U := sw_in (sw_t5 (List.mem_of_getElem? (i := 19) (by decide +kernel))) rfl
theorem fl_X10_286 : Cond.fieldLink RX10 286 "StrikeWheels$Order" "ADD" "LStrikeWheels$Order;" ∈ sw_U := sw_in (sw_t5 (List.mem_of_getElem? (i := 20) (by decide +kernel))) rfl
theorem ml_L_114 : Cond.methodLink RL 114 yX10_lift ∈ sw_U := sw_in (sw_t5 (List.mem_of_getElem? (i := 22) (by decide +kernel))) rfl
theorem im_X10_lift : Cond.instanceMethod yX10_lift ∈ sw_U := sw_in (sw_t5 (List.mem_of_getElem? (i := 23) (by decide +kernel))) rfl
theorem se_X10_lift : Cond.selects yX10_lift.cls yX10_lift yX10_lift ∈ sw_U := sw_in (sw_t5 (List.mem_of_getElem? (i := 24) (by decide +kernel))) rfl
theorem co_X10_lift : Cond.code yX10_lift cX10_lift 2 (Option.some Jvm.ClassFile.FieldType.int) ∈ sw_U := sw_in (sw_t5 (List.mem_of_getElem? (i := 25) (by decide +kernel))) rfl
theorem fl_X10_289 : Cond.fieldLink RX10 289 "StrikeWheels$Order" "LIFT" "LStrikeWheels$Order;" ∈ sw_U := sw_in (sw_t5 (List.mem_of_getElem? (i := 26) (by decide +kernel))) rfl
theorem ml_L_117 : Cond.methodLink RL 117 yX10_gives ∈ sw_U := sw_in (sw_t5 (List.mem_of_getElem? (i := 28) (by decide +kernel))) rfl
theorem im_X10_gives : Cond.instanceMethod yX10_gives ∈ sw_U := sw_in (sw_t5 (List.mem_of_getElem? (i := 29) (by decide +kernel))) rfl
theorem se_X10_gives : Cond.selects yX10_gives.cls yX10_gives yX10_gives ∈ sw_U := sw_in (sw_t5 (List.mem_of_getElem? (i := 30) (by decide +kernel))) rfl
theorem co_X10_gives : Cond.code yX10_gives cX10_gives 2 (Option.some Jvm.ClassFile.FieldType.int) ∈ sw_U := sw_in (sw_t5 (List.mem_of_getElem? (i := 31) (by decide +kernel))) rfl
theorem ml_L_120 : Cond.methodLink RL 120 yX10_first ∈ sw_U := sw_in (sw_t5 (List.mem_of_getElem? (i := 32) (by decide +kernel))) rfl
theorem im_X10_first : Cond.instanceMethod yX10_first ∈ sw_U := sw_in (sw_t5 (List.mem_of_getElem? (i := 33) (by decide +kernel))) rfl
theorem se_X10_first : Cond.selects yX10_first.cls yX10_first yX10_first ∈ sw_U := sw_in (sw_t5 (List.mem_of_getElem? (i := 34) (by decide +kernel))) rfl
theorem co_X10_first : Cond.code yX10_first cX10_first 2 (Option.some Jvm.ClassFile.FieldType.int) ∈ sw_U := sw_in (sw_t5 (List.mem_of_getElem? (i := 35) (by decide +kernel))) rfl
theorem fl_X10_292 : Cond.fieldLink RX10 292 "StrikeWheels$Order" "FIRST" "LStrikeWheels$Order;" ∈ sw_U := sw_in (sw_t5 (List.mem_of_getElem? (i := 36) (by decide +kernel))) rfl
theorem ml_L_123 : Cond.methodLink RL 123 yX10_swap ∈ sw_U := sw_in (sw_t5 (List.mem_of_getElem? (i := 38) (by decide +kernel))) rfl
theorem im_X10_swap : Cond.instanceMethod yX10_swap ∈ sw_U := sw_in (sw_t5 (List.mem_of_getElem? (i := 39) (by decide +kernel))) rfl
theorem se_X10_swap : Cond.selects yX10_swap.cls yX10_swap yX10_swap ∈ sw_U := sw_in (sw_t5 (List.mem_of_getElem? (i := 40) (by decide +kernel))) rfl
theorem co_X10_swap : Cond.code yX10_swap cX10_swap 3 (Option.some Jvm.ClassFile.FieldType.int) ∈ sw_U := sw_in (sw_t5 (List.mem_of_getElem? (i := 41) (by decide +kernel))) rfl
theorem fl_X10_283 : Cond.fieldLink RX10 283 "StrikeWheels$Order" "SWAP" "LStrikeWheels$Order;" ∈ sw_U := sw_in (sw_t5 (List.mem_of_getElem? (i := 42) (by decide +kernel))) rfl
theorem ml_L_126 : Cond.methodLink RL 126 yX10_both ∈ sw_U := sw_in (sw_t5 (List.mem_of_getElem? (i := 44) (by decide +kernel))) rfl
theorem im_X10_both : Cond.instanceMethod yX10_both ∈ sw_U := sw_in (sw_t5 (List.mem_of_getElem? (i := 45) (by decide +kernel))) rfl
theorem se_X10_both : Cond.selects yX10_both.cls yX10_both yX10_both ∈ sw_U := sw_in (sw_t5 (List.mem_of_getElem? (i := 46) (by decide +kernel))) rfl
theorem co_X10_both : Cond.code yX10_both cX10_both 5 (Option.some Jvm.ClassFile.FieldType.int) ∈ sw_U := sw_in (sw_t5 (List.mem_of_getElem? (i := 47) (by decide +kernel))) rfl
theorem ml_X10_225 : Cond.methodLink RX10 225 yX10_nextCommon ∈ sw_U := sw_in (sw_t5 (List.mem_of_getElem? (i := 48) (by decide +kernel))) rfl
theorem im_X10_nextCommon : Cond.instanceMethod yX10_nextCommon ∈ sw_U := sw_in (sw_t5 (List.mem_of_getElem? (i := 50) (by decide +kernel))) rfl
theorem co_X10_nextCommon : Cond.code yX10_nextCommon cX10_nextCommon 7 (Option.some Jvm.ClassFile.FieldType.int) ∈ sw_U := sw_in (sw_t5 (List.mem_of_getElem? (i := 51) (by decide +kernel))) rfl
theorem ml_L_129 : Cond.methodLink RL 129 yX10_wheel ∈ sw_U := sw_in (sw_t5 (List.mem_of_getElem? (i := 52) (by decide +kernel))) rfl
theorem im_X10_wheel : Cond.instanceMethod yX10_wheel ∈ sw_U := sw_in (sw_t5 (List.mem_of_getElem? (i := 53) (by decide +kernel))) rfl
theorem se_X10_wheel : Cond.selects yX10_wheel.cls yX10_wheel yX10_wheel ∈ sw_U := sw_in (sw_t5 (List.mem_of_getElem? (i := 54) (by decide +kernel))) rfl
theorem co_X10_wheel : Cond.code yX10_wheel cX10_wheel 2 (Option.some Jvm.ClassFile.FieldType.int) ∈ sw_U := sw_in (sw_t5 (List.mem_of_getElem? (i := 55) (by decide +kernel))) rfl
theorem fl_X10_295 : Cond.fieldLink RX10 295 "StrikeWheels$Order" "WHEEL" "LStrikeWheels$Order;" ∈ sw_U := sw_in (sw_t5 (List.mem_of_getElem? (i := 56) (by decide +kernel))) rfl
theorem ml_L_132 : Cond.methodLink RL 132 yX10_fill ∈ sw_U := sw_in (sw_t5 (List.mem_of_getElem? (i := 58) (by decide +kernel))) rfl
theorem im_X10_fill : Cond.instanceMethod yX10_fill ∈ sw_U := sw_in (sw_t5 (List.mem_of_getElem? (i := 59) (by decide +kernel))) rfl
theorem se_X10_fill : Cond.selects yX10_fill.cls yX10_fill yX10_fill ∈ sw_U := sw_in (sw_t5 (List.mem_of_getElem? (i := 60) (by decide +kernel))) rfl
theorem co_X10_fill : Cond.code yX10_fill cX10_fill 2 (Option.some Jvm.ClassFile.FieldType.int) ∈ sw_U := sw_in (sw_t5 (List.mem_of_getElem? (i := 61) (by decide +kernel))) rfl
theorem fl_X10_298 : Cond.fieldLink RX10 298 "StrikeWheels$Order" "FILL" "LStrikeWheels$Order;" ∈ sw_U := sw_in (sw_t5 (List.mem_of_getElem? (i := 62) (by decide +kernel))) rfl
theorem ml_L_135 : Cond.methodLink RL 135 yX10_tidy ∈ sw_U := sw_in (sw_t5 (List.mem_of_getElem? (i := 64) (by decide +kernel))) rfl
theorem im_X10_tidy : Cond.instanceMethod yX10_tidy ∈ sw_U := sw_in (sw_t5 (List.mem_of_getElem? (i := 65) (by decide +kernel))) rfl
theorem se_X10_tidy : Cond.selects yX10_tidy.cls yX10_tidy yX10_tidy ∈ sw_U := sw_in (sw_t5 (List.mem_of_getElem? (i := 66) (by decide +kernel))) rfl
theorem co_X10_tidy : Cond.code yX10_tidy cX10_tidy 1 (Option.some Jvm.ClassFile.FieldType.int) ∈ sw_U := sw_in (sw_t5 (List.mem_of_getElem? (i := 67) (by decide +kernel))) rfl
theorem fl_X10_301 : Cond.fieldLink RX10 301 "StrikeWheels$Order" "TIDY" "LStrikeWheels$Order;" ∈ sw_U := sw_in (sw_t5 (List.mem_of_getElem? (i := 68) (by decide +kernel))) rfl
theorem ml_L_138 : Cond.methodLink RL 138 yX10_drop ∈ sw_U := sw_in (sw_t5 (List.mem_of_getElem? (i := 70) (by decide +kernel))) rfl
theorem im_X10_drop : Cond.instanceMethod yX10_drop ∈ sw_U := sw_in (sw_t5 (List.mem_of_getElem? (i := 71) (by decide +kernel))) rfl
theorem se_X10_drop : Cond.selects yX10_drop.cls yX10_drop yX10_drop ∈ sw_U := sw_in (sw_t5 (List.mem_of_getElem? (i := 72) (by decide +kernel))) rfl
theorem co_X10_drop : Cond.code yX10_drop cX10_drop 1 (Option.some Jvm.ClassFile.FieldType.int) ∈ sw_U := sw_in (sw_t5 (List.mem_of_getElem? (i := 73) (by decide +kernel))) rfl
theorem fl_X10_277 : Cond.fieldLink RX10 277 "StrikeWheels$Order" "DROP" "LStrikeWheels$Order;" ∈ sw_U := sw_in (sw_t5 (List.mem_of_getElem? (i := 74) (by decide +kernel))) rfl
theorem cl_L_146 : Cond.classLink RL 146 RJ4 ∈ sw_U := sw_in (sw_t5 (List.mem_of_getElem? (i := 76) (by decide +kernel))) rfl
theorem ins_J4 : Cond.instantiable RJ4 4 ∈ sw_U := sw_in (sw_t5 (List.mem_of_getElem? (i := 77) (by decide +kernel))) rfl
theorem ml_L_150 : Cond.methodLink RL 150 yJ4_init_a7421 ∈ sw_U := sw_in (sw_t5 (List.mem_of_getElem? (i := 78) (by decide +kernel))) rfl
theorem im_J4_init_a7421 : Cond.instanceMethod yJ4_init_a7421 ∈ sw_U := sw_in (sw_t5 (List.mem_of_getElem? (i := 79) (by decide +kernel))) rfl
theorem co_J4_init_a7421 : Cond.code yJ4_init_a7421 cJ4_init_a7421 2 (Option.none : Option Jvm.ClassFile.FieldType) ∈ sw_U := sw_in (sw_t5 (List.mem_of_getElem? (i := 80) (by decide +kernel))) rfl
theorem ml_J4_7 : Cond.methodLink RJ4 7 yJ5_init_a7421 ∈ sw_U := sw_in (sw_t5 (List.mem_of_getElem? (i := 81) (by decide +kernel))) rfl
theorem im_J5_init_a7421 : Cond.instanceMethod yJ5_init_a7421 ∈ sw_U := sw_in (sw_t5 (List.mem_of_getElem? (i := 82) (by decide +kernel))) rfl
theorem co_J5_init_a7421 : Cond.code yJ5_init_a7421 cJ5_init_a7421 5 (Option.none : Option Jvm.ClassFile.FieldType) ∈ sw_U := sw_in (sw_t5 (List.mem_of_getElem? (i := 83) (by decide +kernel))) rfl
theorem ml_J5_3 : Cond.methodLink RJ5 3 ⟨"java/lang/Object", "<init>", "()V"⟩ ∈ sw_U := sw_in (sw_t5 (List.mem_of_getElem? (i := 84) (by decide +kernel))) rfl
theorem ml_J5_32 : Cond.methodLink RJ5 32 yJ0_length_8abf5 ∈ sw_U := sw_in (sw_t5 (List.mem_of_getElem? (i := 85) (by decide +kernel))) rfl
theorem kc_J5_38 : Cond.constant RJ5 38 2147483631 ∈ sw_U := sw_in (sw_t5 (List.mem_of_getElem? (i := 86) (by decide +kernel))) rfl
theorem kc_J5_39 : Cond.constant RJ5 39 2147483647 ∈ sw_U := sw_in (sw_t5 (List.mem_of_getElem? (i := 87) (by decide +kernel))) rfl
theorem ml_J5_40 : Cond.methodLink RJ5 40 yJ0_coder_7d493 ∈ sw_U := sw_in (sw_t5 (List.mem_of_getElem? (i := 88) (by decide +kernel))) rfl
theorem ml_J5_26 : Cond.methodLink RJ5 26 yJ2_newBytesFor_77867 ∈ sw_U := sw_in (sw_t5 (List.mem_of_getElem? (i := 89) (by decide +kernel))) rfl
theorem st_J2_newBytesFor_77867 : Cond.static yJ2_newBytesFor_77867 ∈ sw_U := sw_in (sw_t5 (List.mem_of_getElem? (i := 90) (by decide +kernel))) rfl
theorem co_J2_newBytesFor_77867 : Cond.code yJ2_newBytesFor_77867 cJ2_newBytesFor_77867 1 (Option.some (Jvm.ClassFile.FieldType.array Jvm.ClassFile.FieldType.byte)) ∈ sw_U := sw_in (sw_t5 (List.mem_of_getElem? (i := 91) (by decide +kernel))) rfl
theorem ml_J2_11 : Cond.methodLink RJ2 11 yJ2_newBytesLength_0f7a4 ∈ sw_U := sw_in (sw_t5 (List.mem_of_getElem? (i := 92) (by decide +kernel))) rfl
theorem st_J2_newBytesLength_0f7a4 : Cond.static yJ2_newBytesLength_0f7a4 ∈ sw_U := sw_in (sw_t5 (List.mem_of_getElem? (i := 93) (by decide +kernel))) rfl
theorem co_J2_newBytesLength_0f7a4 : Cond.code yJ2_newBytesLength_0f7a4 cJ2_newBytesLength_0f7a4 1 (Option.some Jvm.ClassFile.FieldType.int) ∈ sw_U := sw_in (sw_t5 (List.mem_of_getElem? (i := 94) (by decide +kernel))) rfl
theorem kc_J2_20 : Cond.constant RJ2 20 1073741823 ∈ sw_U := sw_in (sw_t5 (List.mem_of_getElem? (i := 95) (by decide +kernel))) rfl
theorem ml_J5_43 : Cond.methodLink RJ5 43 yJ5_append_cf1ce ∈ sw_U := sw_in (sw_t5 (List.mem_of_getElem? (i := 96) (by decide +kernel))) rfl
theorem im_J5_append_cf1ce : Cond.instanceMethod yJ5_append_cf1ce ∈ sw_U := sw_in (sw_t5 (List.mem_of_getElem? (i := 97) (by decide +kernel))) rfl
theorem im_J4_append_cf1ce : Cond.instanceMethod yJ4_append_cf1ce ∈ sw_U := sw_in (sw_t5 (List.mem_of_getElem? (i := 100) (by decide +kernel))) rfl
theorem co_J4_append_cf1ce : Cond.code yJ4_append_cf1ce cJ4_append_cf1ce 2 (Option.some (Jvm.ClassFile.FieldType.object "java/lang/AbstractStringBuilder")) ∈ sw_U := sw_in (sw_t5 (List.mem_of_getElem? (i := 101) (by decide +kernel))) rfl
theorem ml_J4_23 : Cond.methodLink RJ4 23 yJ4_append_15ec4 ∈ sw_U := sw_in (sw_t5 (List.mem_of_getElem? (i := 102) (by decide +kernel))) rfl
theorem im_J4_append_15ec4 : Cond.instanceMethod yJ4_append_15ec4 ∈ sw_U := sw_in (sw_t5 (List.mem_of_getElem? (i := 103) (by decide +kernel))) rfl
theorem se_J4_append_15ec4 : Cond.selects yJ4_append_15ec4.cls yJ4_append_15ec4 yJ4_append_15ec4 ∈ sw_U := sw_in (sw_t5 (List.mem_of_getElem? (i := 104) (by decide +kernel))) rfl
theorem co_J4_append_15ec4 : Cond.code yJ4_append_15ec4 cJ4_append_15ec4 2 (Option.some (Jvm.ClassFile.FieldType.object "java/lang/StringBuilder")) ∈ sw_U := sw_in (sw_t5 (List.mem_of_getElem? (i := 105) (by decide +kernel))) rfl
theorem ml_J4_29 : Cond.methodLink RJ4 29 yJ5_append_cf1ce ∈ sw_U := sw_in (sw_t5 (List.mem_of_getElem? (i := 106) (by decide +kernel))) rfl
theorem co_J5_append_cf1ce : Cond.code yJ5_append_cf1ce cJ5_append_cf1ce 3 (Option.some (Jvm.ClassFile.FieldType.object "java/lang/AbstractStringBuilder")) ∈ sw_U := sw_in (sw_t5 (List.mem_of_getElem? (i := 108) (by decide +kernel))) rfl
theorem ml_J5_204 : Cond.methodLink RJ5 204 yJ5_appendNull_278bc ∈ sw_U := sw_in (sw_t5 (List.mem_of_getElem? (i := 109) (by decide +kernel))) rfl
theorem im_J5_appendNull_278bc : Cond.instanceMethod yJ5_appendNull_278bc ∈ sw_U := sw_in (sw_t5 (List.mem_of_getElem? (i := 111) (by decide +kernel))) rfl
theorem co_J5_appendNull_278bc : Cond.code yJ5_appendNull_278bc cJ5_appendNull_278bc 3 (Option.some (Jvm.ClassFile.FieldType.object "java/lang/AbstractStringBuilder")) ∈ sw_U := sw_in (sw_t5 (List.mem_of_getElem? (i := 112) (by decide +kernel))) rfl
theorem ml_J5_100 : Cond.methodLink RJ5 100 yJ5_ensureCapacityInternal_d00df ∈ sw_U := sw_in (sw_t5 (List.mem_of_getElem? (i := 113) (by decide +kernel))) rfl
theorem im_J5_ensureCapacityInternal_d00df : Cond.instanceMethod yJ5_ensureCapacityInternal_d00df ∈ sw_U := sw_in (sw_t5 (List.mem_of_getElem? (i := 115) (by decide +kernel))) rfl
theorem co_J5_ensureCapacityInternal_d00df : Cond.code yJ5_ensureCapacityInternal_d00df cJ5_ensureCapacityInternal_d00df 3 (Option.none : Option Jvm.ClassFile.FieldType) ∈ sw_U := sw_in (sw_t5 (List.mem_of_getElem? (i := 116) (by decide +kernel))) rfl
theorem ml_J5_104 : Cond.methodLink RJ5 104 yJ5_newCapacity_0f7a4 ∈ sw_U := sw_in (sw_t5 (List.mem_of_getElem? (i := 117) (by decide +kernel))) rfl
theorem im_J5_newCapacity_0f7a4 : Cond.instanceMethod yJ5_newCapacity_0f7a4 ∈ sw_U := sw_in (sw_t5 (List.mem_of_getElem? (i := 119) (by decide +kernel))) rfl
theorem co_J5_newCapacity_0f7a4 : Cond.code yJ5_newCapacity_0f7a4 cJ5_newCapacity_0f7a4 6 (Option.some Jvm.ClassFile.FieldType.int) ∈ sw_U := sw_in (sw_t5 (List.mem_of_getElem? (i := 120) (by decide +kernel))) rfl
theorem ml_J5_114 : Cond.methodLink RJ5 114 yJ8_newLength_cabcc ∈ sw_U := sw_in (sw_t5 (List.mem_of_getElem? (i := 121) (by decide +kernel))) rfl
theorem st_J8_newLength_cabcc : Cond.static yJ8_newLength_cabcc ∈ sw_U := sw_in (sw_t5 (List.mem_of_getElem? (i := 122) (by decide +kernel))) rfl
theorem co_J8_newLength_cabcc : Cond.code yJ8_newLength_cabcc cJ8_newLength_cabcc 4 (Option.some Jvm.ClassFile.FieldType.int) ∈ sw_U := sw_in (sw_t5 (List.mem_of_getElem? (i := 123) (by decide +kernel))) rfl
theorem ml_J8_194 : Cond.methodLink RJ8 194 yJ9_max_7cf53 ∈ sw_U := sw_in (sw_t5 (List.mem_of_getElem? (i := 124) (by decide +kernel))) rfl
theorem kc_J8_200 : Cond.constant RJ8 200 2147483639 ∈ sw_U := sw_in (sw_t5 (List.mem_of_getElem? (i := 125) (by decide +kernel))) rfl
theorem ml_J8_201 : Cond.methodLink RJ8 201 yJ8_hugeLength_7cf53 ∈ sw_U := sw_in (sw_t5 (List.mem_of_getElem? (i := 126) (by decide +kernel))) rfl
theorem st_J8_hugeLength_7cf53 : Cond.static yJ8_hugeLength_7cf53 ∈ sw_U := sw_in (sw_t5 (List.mem_of_getElem? (i := 127) (by decide +kernel))) rfl
theorem co_J8_hugeLength_7cf53 : Cond.code yJ8_hugeLength_7cf53 cJ8_hugeLength_7cf53 3 (Option.some Jvm.ClassFile.FieldType.int) ∈ sw_U := sw_in (sw_t5 (List.mem_of_getElem? (i := 128) (by decide +kernel))) rfl
theorem ml_J5_108 : Cond.methodLink RJ5 108 yJ7_copyOf_9075b ∈ sw_U := sw_in (sw_t5 (List.mem_of_getElem? (i := 129) (by decide +kernel))) rfl
theorem st_J7_copyOf_9075b : Cond.static yJ7_copyOf_9075b ∈ sw_U := sw_in (sw_t5 (List.mem_of_getElem? (i := 130) (by decide +kernel))) rfl
theorem co_J7_copyOf_9075b : Cond.code yJ7_copyOf_9075b cJ7_copyOf_9075b 3 (Option.some (Jvm.ClassFile.FieldType.array Jvm.ClassFile.FieldType.byte)) ∈ sw_U := sw_in (sw_t5 (List.mem_of_getElem? (i := 131) (by decide +kernel))) rfl
theorem ml_J7_310 : Cond.methodLink RJ7 310 ⟨"[B", "clone", "()Ljava/lang/Object;"⟩ ∈ sw_U := sw_in (sw_t5 (List.mem_of_getElem? (i := 132) (by decide +kernel))) rfl
theorem cl_J7_311 : Cond.classLink RJ7 311 "[B" ∈ sw_U := sw_in (sw_t5 (List.mem_of_getElem? (i := 138) (by decide +kernel))) rfl
theorem ml_J7_304 : Cond.methodLink RJ7 304 yJ9_min_7cf53 ∈ sw_U := sw_in (sw_t5 (List.mem_of_getElem? (i := 139) (by decide +kernel))) rfl
theorem ml_J7_150 : Cond.methodLink RJ7 150 ⟨"java/lang/System", "arraycopy", "(Ljava/lang/Object;ILjava/lang/Object;II)V"⟩ ∈ sw_U := sw_in (sw_t5 (List.mem_of_getElem? (i := 140) (by decide +kernel))) rfl
theorem ml_J5_83 : Cond.methodLink RJ5 83 yJ5_isLatin1_aae02 ∈ sw_U := sw_in (sw_t5 (List.mem_of_getElem? (i := 141) (by decide +kernel))) rfl
theorem im_J5_isLatin1_aae02 : Cond.instanceMethod yJ5_isLatin1_aae02 ∈ sw_U := sw_in (sw_t5 (List.mem_of_getElem? (i := 142) (by decide +kernel))) rfl
theorem co_J5_isLatin1_aae02 : Cond.code yJ5_isLatin1_aae02 cJ5_isLatin1_aae02 1 (Option.some Jvm.ClassFile.FieldType.boolean) ∈ sw_U := sw_in (sw_t5 (List.mem_of_getElem? (i := 145) (by decide +kernel))) rfl
theorem fl_J5_18 : Cond.fieldLink RJ5 18 "java/lang/String" "COMPACT_STRINGS" "Z" ∈ sw_U := sw_in (sw_t5 (List.mem_of_getElem? (i := 146) (by decide +kernel))) rfl
theorem ml_J5_226 : Cond.methodLink RJ5 226 yJ2_putCharsAt_cd4e5 ∈ sw_U := sw_in (sw_t5 (List.mem_of_getElem? (i := 147) (by decide +kernel))) rfl
theorem st_J2_putCharsAt_cd4e5 : Cond.static yJ2_putCharsAt_cd4e5 ∈ sw_U := sw_in (sw_t5 (List.mem_of_getElem? (i := 148) (by decide +kernel))) rfl
theorem co_J2_putCharsAt_cd4e5 : Cond.code yJ2_putCharsAt_cd4e5 cJ2_putCharsAt_cd4e5 7 (Option.some Jvm.ClassFile.FieldType.int) ∈ sw_U := sw_in (sw_t5 (List.mem_of_getElem? (i := 149) (by decide +kernel))) rfl
theorem ml_J2_96 : Cond.methodLink RJ2 96 yJ2_checkBoundsBeginEnd_d044e ∈ sw_U := sw_in (sw_t5 (List.mem_of_getElem? (i := 150) (by decide +kernel))) rfl
theorem st_J2_checkBoundsBeginEnd_d044e : Cond.static yJ2_checkBoundsBeginEnd_d044e ∈ sw_U := sw_in (sw_t5 (List.mem_of_getElem? (i := 151) (by decide +kernel))) rfl
theorem co_J2_checkBoundsBeginEnd_d044e : Cond.code yJ2_checkBoundsBeginEnd_d044e cJ2_checkBoundsBeginEnd_d044e 3 (Option.none : Option Jvm.ClassFile.FieldType) ∈ sw_U := sw_in (sw_t5 (List.mem_of_getElem? (i := 152) (by decide +kernel))) rfl
theorem ml_J2_241 : Cond.methodLink RJ2 241 yJ0_checkBoundsBeginEnd_23922 ∈ sw_U := sw_in (sw_t5 (List.mem_of_getElem? (i := 153) (by decide +kernel))) rfl
theorem st_J0_checkBoundsBeginEnd_23922 : Cond.static yJ0_checkBoundsBeginEnd_23922 ∈ sw_U := sw_in (sw_t5 (List.mem_of_getElem? (i := 154) (by decide +kernel))) rfl
theorem co_J0_checkBoundsBeginEnd_23922 : Cond.code yJ0_checkBoundsBeginEnd_23922 cJ0_checkBoundsBeginEnd_23922 3 (Option.none : Option Jvm.ClassFile.FieldType) ∈ sw_U := sw_in (sw_t5 (List.mem_of_getElem? (i := 155) (by decide +kernel))) rfl
theorem ml_J0_1062 : Cond.methodLink RJ0 1062 yJ3_checkFromToIndex_8c36e ∈ sw_U := sw_in (sw_t5 (List.mem_of_getElem? (i := 156) (by decide +kernel))) rfl
theorem st_J3_checkFromToIndex_8c36e : Cond.static yJ3_checkFromToIndex_8c36e ∈ sw_U := sw_in (sw_t5 (List.mem_of_getElem? (i := 157) (by decide +kernel))) rfl
theorem co_J3_checkFromToIndex_8c36e : Cond.code yJ3_checkFromToIndex_8c36e cJ3_checkFromToIndex_8c36e 4 (Option.some Jvm.ClassFile.FieldType.int) ∈ sw_U := sw_in (sw_t5 (List.mem_of_getElem? (i := 158) (by decide +kernel))) rfl
theorem ml_J2_111 : Cond.methodLink RJ2 111 yJ2_putChar_b72d1 ∈ sw_U := sw_in (sw_t5 (List.mem_of_getElem? (i := 159) (by decide +kernel))) rfl
theorem st_J2_putChar_b72d1 : Cond.static yJ2_putChar_b72d1 ∈ sw_U := sw_in (sw_t5 (List.mem_of_getElem? (i := 160) (by decide +kernel))) rfl
theorem co_J2_putChar_b72d1 : Cond.code yJ2_putChar_b72d1 cJ2_putChar_b72d1 3 (Option.none : Option Jvm.ClassFile.FieldType) ∈ sw_U := sw_in (sw_t5 (List.mem_of_getElem? (i := 161) (by decide +kernel))) rfl
theorem ml_J5_208 : Cond.methodLink RJ5 208 yJ5_putStringAt_47b60 ∈ sw_U := sw_in (sw_t5 (List.mem_of_getElem? (i := 162) (by decide +kernel))) rfl
theorem im_J5_putStringAt_47b60 : Cond.instanceMethod yJ5_putStringAt_47b60 ∈ sw_U := sw_in (sw_t5 (List.mem_of_getElem? (i := 164) (by decide +kernel))) rfl
theorem co_J5_putStringAt_47b60 : Cond.code yJ5_putStringAt_47b60 cJ5_putStringAt_47b60 3 (Option.none : Option Jvm.ClassFile.FieldType) ∈ sw_U := sw_in (sw_t5 (List.mem_of_getElem? (i := 165) (by decide +kernel))) rfl
theorem ml_J5_397 : Cond.methodLink RJ5 397 yJ5_inflateIfNeededFor_a7421 ∈ sw_U := sw_in (sw_t5 (List.mem_of_getElem? (i := 166) (by decide +kernel))) rfl
theorem im_J5_inflateIfNeededFor_a7421 : Cond.instanceMethod yJ5_inflateIfNeededFor_a7421 ∈ sw_U := sw_in (sw_t5 (List.mem_of_getElem? (i := 168) (by decide +kernel))) rfl
theorem co_J5_inflateIfNeededFor_a7421 : Cond.code yJ5_inflateIfNeededFor_a7421 cJ5_inflateIfNeededFor_a7421 2 (Option.none : Option Jvm.ClassFile.FieldType) ∈ sw_U := sw_in (sw_t5 (List.mem_of_getElem? (i := 169) (by decide +kernel))) rfl
theorem ml_J5_195 : Cond.methodLink RJ5 195 yJ5_inflate_da8c8 ∈ sw_U := sw_in (sw_t5 (List.mem_of_getElem? (i := 170) (by decide +kernel))) rfl
theorem im_J5_inflate_da8c8 : Cond.instanceMethod yJ5_inflate_da8c8 ∈ sw_U := sw_in (sw_t5 (List.mem_of_getElem? (i := 172) (by decide +kernel))) rfl
theorem co_J5_inflate_da8c8 : Cond.code yJ5_inflate_da8c8 cJ5_inflate_da8c8 2 (Option.none : Option Jvm.ClassFile.FieldType) ∈ sw_U := sw_in (sw_t5 (List.mem_of_getElem? (i := 173) (by decide +kernel))) rfl
theorem ml_J5_125 : Cond.methodLink RJ5 125 yJ1_inflate_0e8fd ∈ sw_U := sw_in (sw_t5 (List.mem_of_getElem? (i := 174) (by decide +kernel))) rfl
theorem st_J1_inflate_0e8fd : Cond.static yJ1_inflate_0e8fd ∈ sw_U := sw_in (sw_t5 (List.mem_of_getElem? (i := 175) (by decide +kernel))) rfl
theorem co_J1_inflate_0e8fd : Cond.code yJ1_inflate_0e8fd cJ1_inflate_0e8fd 5 (Option.none : Option Jvm.ClassFile.FieldType) ∈ sw_U := sw_in (sw_t5 (List.mem_of_getElem? (i := 176) (by decide +kernel))) rfl
theorem ml_J1_240 : Cond.methodLink RJ1 240 yJ2_inflate_0e8fd ∈ sw_U := sw_in (sw_t5 (List.mem_of_getElem? (i := 177) (by decide +kernel))) rfl
theorem st_J2_inflate_0e8fd : Cond.static yJ2_inflate_0e8fd ∈ sw_U := sw_in (sw_t5 (List.mem_of_getElem? (i := 178) (by decide +kernel))) rfl
theorem co_J2_inflate_0e8fd : Cond.code yJ2_inflate_0e8fd cJ2_inflate_0e8fd 6 (Option.none : Option Jvm.ClassFile.FieldType) ∈ sw_U := sw_in (sw_t5 (List.mem_of_getElem? (i := 179) (by decide +kernel))) rfl
theorem ml_J2_173 : Cond.methodLink RJ2 173 yJ2_checkBoundsOffCount_d044e ∈ sw_U := sw_in (sw_t5 (List.mem_of_getElem? (i := 180) (by decide +kernel))) rfl
theorem st_J2_checkBoundsOffCount_d044e : Cond.static yJ2_checkBoundsOffCount_d044e ∈ sw_U := sw_in (sw_t5 (List.mem_of_getElem? (i := 181) (by decide +kernel))) rfl
theorem co_J2_checkBoundsOffCount_d044e : Cond.code yJ2_checkBoundsOffCount_d044e cJ2_checkBoundsOffCount_d044e 3 (Option.none : Option Jvm.ClassFile.FieldType) ∈ sw_U := sw_in (sw_t5 (List.mem_of_getElem? (i := 182) (by decide +kernel))) rfl
theorem ml_J2_419 : Cond.methodLink RJ2 419 yJ0_checkBoundsOffCount_cabcc ∈ sw_U := sw_in (sw_t5 (List.mem_of_getElem? (i := 183) (by decide +kernel))) rfl
theorem st_J0_checkBoundsOffCount_cabcc : Cond.static yJ0_checkBoundsOffCount_cabcc ∈ sw_U := sw_in (sw_t5 (List.mem_of_getElem? (i := 184) (by decide +kernel))) rfl
theorem co_J0_checkBoundsOffCount_cabcc : Cond.code yJ0_checkBoundsOffCount_cabcc cJ0_checkBoundsOffCount_cabcc 3 (Option.some Jvm.ClassFile.FieldType.int) ∈ sw_U := sw_in (sw_t5 (List.mem_of_getElem? (i := 185) (by decide +kernel))) rfl
theorem ml_J0_1065 : Cond.methodLink RJ0 1065 yJ3_checkFromIndexSize_8c36e ∈ sw_U := sw_in (sw_t5 (List.mem_of_getElem? (i := 186) (by decide +kernel))) rfl
theorem st_J3_checkFromIndexSize_8c36e : Cond.static yJ3_checkFromIndexSize_8c36e ∈ sw_U := sw_in (sw_t5 (List.mem_of_getElem? (i := 187) (by decide +kernel))) rfl
theorem co_J3_checkFromIndexSize_8c36e : Cond.code yJ3_checkFromIndexSize_8c36e cJ3_checkFromIndexSize_8c36e 4 (Option.some Jvm.ClassFile.FieldType.int) ∈ sw_U := sw_in (sw_t5 (List.mem_of_getElem? (i := 188) (by decide +kernel))) rfl
theorem ml_J5_399 : Cond.methodLink RJ5 399 yJ0_getBytes_840e7 ∈ sw_U := sw_in (sw_t5 (List.mem_of_getElem? (i := 189) (by decide +kernel))) rfl
theorem im_J0_getBytes_840e7 : Cond.instanceMethod yJ0_getBytes_840e7 ∈ sw_U := sw_in (sw_t5 (List.mem_of_getElem? (i := 190) (by decide +kernel))) rfl
theorem se_J0_getBytes_840e7 : Cond.selects yJ0_getBytes_840e7.cls yJ0_getBytes_840e7 yJ0_getBytes_840e7 ∈ sw_U := sw_in (sw_t5 (List.mem_of_getElem? (i := 191) (by decide +kernel))) rfl
theorem co_J0_getBytes_840e7 : Cond.code yJ0_getBytes_840e7 cJ0_getBytes_840e7 4 (Option.none : Option Jvm.ClassFile.FieldType) ∈ sw_U := sw_in (sw_t5 (List.mem_of_getElem? (i := 192) (by decide +kernel))) rfl
theorem ml_J0_212 : Cond.methodLink RJ0 212 ⟨"java/lang/System", "arraycopy", "(Ljava/lang/Object;ILjava/lang/Object;II)V"⟩ ∈ sw_U := sw_in (sw_t5 (List.mem_of_getElem? (i := 193) (by decide +kernel))) rfl
theorem ml_J0_106 : Cond.methodLink RJ0 106 yJ1_inflate_0e8fd ∈ sw_U := sw_in (sw_t5 (List.mem_of_getElem? (i := 194) (by decide +kernel))) rfl
theorem fl_J5_15 : Cond.fieldLink RJ5 15 "java/lang/AbstractStringBuilder" "value" "[B" ∈ sw_U := sw_in (sw_t5 (List.mem_of_getElem? (i := 195) (by decide +kernel))) rfl
theorem fl_J5_22 : Cond.fieldLink RJ5 22 "java/lang/AbstractStringBuilder" "coder" "B" ∈ sw_U := sw_in (sw_t5 (List.mem_of_getElem? (i := 196) (by decide +kernel))) rfl
theorem fl_J0_1048 : Cond.fieldLink RJ0 1048 "java/lang/AbstractStringBuilder" "maybeLatin1" "Z" ∈ sw_U := sw_in (sw_t5 (List.mem_of_getElem? (i := 197) (by decide +kernel))) rfl
theorem fl_J5_79 : Cond.fieldLink RJ5 79 "java/lang/AbstractStringBuilder" "count" "I" ∈ sw_U := sw_in (sw_t5 (List.mem_of_getElem? (i := 198) (by decide +kernel))) rfl
theorem ml_L_162 : Cond.methodLink RL 162 yJ4_append_15ec4 ∈ sw_U := sw_in (sw_t5 (List.mem_of_getElem? (i := 207) (by decide +kernel))) rfl
theorem ml_L_157 : Cond.methodLink RL 157 yJ4_append_cf468 ∈ sw_U := sw_in (sw_t5 (List.mem_of_getElem? (i := 208) (by decide +kernel))) rfl
theorem im_J4_append_cf468 : Cond.instanceMethod yJ4_append_cf468 ∈ sw_U := sw_in (sw_t5 (List.mem_of_getElem? (i := 209) (by decide +kernel))) rfl
theorem se_J4_append_cf468 : Cond.selects yJ4_append_cf468.cls yJ4_append_cf468 yJ4_append_cf468 ∈ sw_U := sw_in (sw_t5 (List.mem_of_getElem? (i := 210) (by decide +kernel))) rfl
theorem co_J4_append_cf468 : Cond.code yJ4_append_cf468 cJ4_append_cf468 2 (Option.some (Jvm.ClassFile.FieldType.object "java/lang/StringBuilder")) ∈ sw_U := sw_in (sw_t5 (List.mem_of_getElem? (i := 211) (by decide +kernel))) rfl
theorem ml_J4_50 : Cond.methodLink RJ4 50 yJ5_append_3fe6f ∈ sw_U := sw_in (sw_t5 (List.mem_of_getElem? (i := 212) (by decide +kernel))) rfl
theorem im_J5_append_3fe6f : Cond.instanceMethod yJ5_append_3fe6f ∈ sw_U := sw_in (sw_t5 (List.mem_of_getElem? (i := 213) (by decide +kernel))) rfl
theorem co_J5_append_3fe6f : Cond.code yJ5_append_3fe6f cJ5_append_3fe6f 2 (Option.some (Jvm.ClassFile.FieldType.object "java/lang/AbstractStringBuilder")) ∈ sw_U := sw_in (sw_t5 (List.mem_of_getElem? (i := 214) (by decide +kernel))) rfl
theorem ml_J5_191 : Cond.methodLink RJ5 191 yJ1_canEncode_fc78d ∈ sw_U := sw_in (sw_t5 (List.mem_of_getElem? (i := 215) (by decide +kernel))) rfl
theorem st_J1_canEncode_fc78d : Cond.static yJ1_canEncode_fc78d ∈ sw_U := sw_in (sw_t5 (List.mem_of_getElem? (i := 216) (by decide +kernel))) rfl
theorem co_J1_canEncode_fc78d : Cond.code yJ1_canEncode_fc78d cJ1_canEncode_fc78d 1 (Option.some Jvm.ClassFile.FieldType.boolean) ∈ sw_U := sw_in (sw_t5 (List.mem_of_getElem? (i := 217) (by decide +kernel))) rfl
theorem ml_J5_197 : Cond.methodLink RJ5 197 yJ2_putCharSB_b72d1 ∈ sw_U := sw_in (sw_t5 (List.mem_of_getElem? (i := 218) (by decide +kernel))) rfl
theorem st_J2_putCharSB_b72d1 : Cond.static yJ2_putCharSB_b72d1 ∈ sw_U := sw_in (sw_t5 (List.mem_of_getElem? (i := 219) (by decide +kernel))) rfl
theorem co_J2_putCharSB_b72d1 : Cond.code yJ2_putCharSB_b72d1 cJ2_putCharSB_b72d1 3 (Option.none : Option Jvm.ClassFile.FieldType) ∈ sw_U := sw_in (sw_t5 (List.mem_of_getElem? (i := 220) (by decide +kernel))) rfl
theorem ml_L_153 : Cond.methodLink RL 153 yJ4_append_bf812 ∈ sw_U := sw_in (sw_t5 (List.mem_of_getElem? (i := 221) (by decide +kernel))) rfl
theorem im_J4_append_bf812 : Cond.instanceMethod yJ4_append_bf812 ∈ sw_U := sw_in (sw_t5 (List.mem_of_getElem? (i := 222) (by decide +kernel))) rfl
theorem se_J4_append_bf812 : Cond.selects yJ4_append_bf812.cls yJ4_append_bf812 yJ4_append_bf812 ∈ sw_U := sw_in (sw_t5 (List.mem_of_getElem? (i := 223) (by decide +kernel))) rfl
theorem co_J4_append_bf812 : Cond.code yJ4_append_bf812 cJ4_append_bf812 2 (Option.some (Jvm.ClassFile.FieldType.object "java/lang/StringBuilder")) ∈ sw_U := sw_in (sw_t5 (List.mem_of_getElem? (i := 224) (by decide +kernel))) rfl
theorem ml_J4_53 : Cond.methodLink RJ4 53 yJ5_append_c97b9 ∈ sw_U := sw_in (sw_t5 (List.mem_of_getElem? (i := 225) (by decide +kernel))) rfl
theorem im_J5_append_c97b9 : Cond.instanceMethod yJ5_append_c97b9 ∈ sw_U := sw_in (sw_t5 (List.mem_of_getElem? (i := 226) (by decide +kernel))) rfl
theorem co_J5_append_c97b9 : Cond.code yJ5_append_c97b9 cJ5_append_c97b9 4 (Option.some (Jvm.ClassFile.FieldType.object "java/lang/AbstractStringBuilder")) ∈ sw_U := sw_in (sw_t5 (List.mem_of_getElem? (i := 227) (by decide +kernel))) rfl
theorem ml_J5_245 : Cond.methodLink RJ5 245 yJ6_stringSize_0f7a4 ∈ sw_U := sw_in (sw_t5 (List.mem_of_getElem? (i := 228) (by decide +kernel))) rfl
theorem st_J6_stringSize_0f7a4 : Cond.static yJ6_stringSize_0f7a4 ∈ sw_U := sw_in (sw_t5 (List.mem_of_getElem? (i := 229) (by decide +kernel))) rfl
theorem co_J6_stringSize_0f7a4 : Cond.code yJ6_stringSize_0f7a4 cJ6_stringSize_0f7a4 4 (Option.some Jvm.ClassFile.FieldType.int) ∈ sw_U := sw_in (sw_t5 (List.mem_of_getElem? (i := 230) (by decide +kernel))) rfl
theorem ml_J5_248 : Cond.methodLink RJ5 248 yJ6_getChars_ba4f3 ∈ sw_U := sw_in (sw_t5 (List.mem_of_getElem? (i := 231) (by decide +kernel))) rfl
theorem st_J6_getChars_ba4f3 : Cond.static yJ6_getChars_ba4f3 ∈ sw_U := sw_in (sw_t5 (List.mem_of_getElem? (i := 232) (by decide +kernel))) rfl
theorem co_J6_getChars_ba4f3 : Cond.code yJ6_getChars_ba4f3 cJ6_getChars_ba4f3 7 (Option.some Jvm.ClassFile.FieldType.int) ∈ sw_U := sw_in (sw_t5 (List.mem_of_getElem? (i := 233) (by decide +kernel))) rfl
theorem fl_J6_83 : Cond.fieldLink RJ6 83 "java/lang/Integer" "DigitOnes" "[B" ∈ sw_U := sw_in (sw_t5 (List.mem_of_getElem? (i := 234) (by decide +kernel))) rfl
theorem fl_J6_87 : Cond.fieldLink RJ6 87 "java/lang/Integer" "DigitTens" "[B" ∈ sw_U := sw_in (sw_t5 (List.mem_of_getElem? (i := 236) (by decide +kernel))) rfl
theorem ml_J5_251 : Cond.methodLink RJ5 251 yJ2_getChars_46870 ∈ sw_U := sw_in (sw_t5 (List.mem_of_getElem? (i := 238) (by decide +kernel))) rfl
theorem st_J2_getChars_46870 : Cond.static yJ2_getChars_46870 ∈ sw_U := sw_in (sw_t5 (List.mem_of_getElem? (i := 239) (by decide +kernel))) rfl
theorem co_J2_getChars_46870 : Cond.code yJ2_getChars_46870 cJ2_getChars_46870 5 (Option.some Jvm.ClassFile.FieldType.int) ∈ sw_U := sw_in (sw_t6 (List.mem_of_getElem? (i := 0) (by decide +kernel))) rfl
theorem ml_J2_393 : Cond.methodLink RJ2 393 yJ2_getChars_ba4f3 ∈ sw_U := sw_in (sw_t6 (List.mem_of_getElem? (i := 1) (by decide +kernel))) rfl
theorem st_J2_getChars_ba4f3 : Cond.static yJ2_getChars_ba4f3 ∈ sw_U := sw_in (sw_t6 (List.mem_of_getElem? (i := 2) (by decide +kernel))) rfl
theorem co_J2_getChars_ba4f3 : Cond.code yJ2_getChars_ba4f3 cJ2_getChars_ba4f3 7 (Option.some Jvm.ClassFile.FieldType.int) ∈ sw_U := sw_in (sw_t6 (List.mem_of_getElem? (i := 3) (by decide +kernel))) rfl
theorem fl_J2_403 : Cond.fieldLink RJ2 403 "java/lang/Integer" "DigitOnes" "[B" ∈ sw_U := sw_in (sw_t6 (List.mem_of_getElem? (i := 4) (by decide +kernel))) rfl
theorem fl_J2_407 : Cond.fieldLink RJ2 407 "java/lang/Integer" "DigitTens" "[B" ∈ sw_U := sw_in (sw_t6 (List.mem_of_getElem? (i := 5) (by decide +kernel))) rfl
theorem ml_L_167 : Cond.methodLink RL 167 yJ4_toString_0e30d ∈ sw_U := sw_in (sw_t6 (List.mem_of_getElem? (i := 6) (by decide +kernel))) rfl
theorem im_J4_toString_0e30d : Cond.instanceMethod yJ4_toString_0e30d ∈ sw_U := sw_in (sw_t6 (List.mem_of_getElem? (i := 7) (by decide +kernel))) rfl
theorem se_J4_toString_0e30d : Cond.selects yJ4_toString_0e30d.cls yJ4_toString_0e30d yJ4_toString_0e30d ∈ sw_U := sw_in (sw_t6 (List.mem_of_getElem? (i := 8) (by decide +kernel))) rfl
theorem co_J4_toString_0e30d : Cond.code yJ4_toString_0e30d cJ4_toString_0e30d 1 (Option.some (Jvm.ClassFile.FieldType.object "java/lang/String")) ∈ sw_U := sw_in (sw_t6 (List.mem_of_getElem? (i := 9) (by decide +kernel))) rfl
theorem cl_J4_18 : Cond.classLink RJ4 18 RJ0 ∈ sw_U := sw_in (sw_t6 (List.mem_of_getElem? (i := 10) (by decide +kernel))) rfl
theorem ins_J0 : Cond.instantiable RJ0 4 ∈ sw_U := sw_in (sw_t6 (List.mem_of_getElem? (i := 11) (by decide +kernel))) rfl
theorem ml_J4_137 : Cond.methodLink RJ4 137 yJ0_init_81219 ∈ sw_U := sw_in (sw_t6 (List.mem_of_getElem? (i := 12) (by decide +kernel))) rfl
theorem im_J0_init_81219 : Cond.instanceMethod yJ0_init_81219 ∈ sw_U := sw_in (sw_t6 (List.mem_of_getElem? (i := 13) (by decide +kernel))) rfl
theorem co_J0_init_81219 : Cond.code yJ0_init_81219 cJ0_init_81219 2 (Option.none : Option Jvm.ClassFile.FieldType) ∈ sw_U := sw_in (sw_t6 (List.mem_of_getElem? (i := 14) (by decide +kernel))) rfl
theorem ml_J0_489 : Cond.methodLink RJ0 489 yJ0_init_db425 ∈ sw_U := sw_in (sw_t6 (List.mem_of_getElem? (i := 15) (by decide +kernel))) rfl
theorem im_J0_init_db425 : Cond.instanceMethod yJ0_init_db425 ∈ sw_U := sw_in (sw_t6 (List.mem_of_getElem? (i := 16) (by decide +kernel))) rfl
theorem co_J0_init_db425 : Cond.code yJ0_init_db425 cJ0_init_db425 5 (Option.none : Option Jvm.ClassFile.FieldType) ∈ sw_U := sw_in (sw_t6 (List.mem_of_getElem? (i := 17) (by decide +kernel))) rfl
theorem ml_J0_1 : Cond.methodLink RJ0 1 ⟨"java/lang/Object", "<init>", "()V"⟩ ∈ sw_U := sw_in (sw_t6 (List.mem_of_getElem? (i := 18) (by decide +kernel))) rfl
theorem ml_J0_552 : Cond.methodLink RJ0 552 yJ5_getValue_6d5f1 ∈ sw_U := sw_in (sw_t6 (List.mem_of_getElem? (i := 19) (by decide +kernel))) rfl
theorem im_J5_getValue_6d5f1 : Cond.instanceMethod yJ5_getValue_6d5f1 ∈ sw_U := sw_in (sw_t6 (List.mem_of_getElem? (i := 20) (by decide +kernel))) rfl
theorem co_J5_getValue_6d5f1 : Cond.code yJ5_getValue_6d5f1 cJ5_getValue_6d5f1 1 (Option.some (Jvm.ClassFile.FieldType.array Jvm.ClassFile.FieldType.byte)) ∈ sw_U := sw_in (sw_t6 (List.mem_of_getElem? (i := 23) (by decide +kernel))) rfl
theorem ml_J0_549 : Cond.methodLink RJ0 549 yJ5_length_8abf5 ∈ sw_U := sw_in (sw_t6 (List.mem_of_getElem? (i := 24) (by decide +kernel))) rfl
theorem im_J5_length_8abf5 : Cond.instanceMethod yJ5_length_8abf5 ∈ sw_U := sw_in (sw_t6 (List.mem_of_getElem? (i := 25) (by decide +kernel))) rfl
theorem im_J4_length_8abf5 : Cond.instanceMethod yJ4_length_8abf5 ∈ sw_U := sw_in (sw_t6 (List.mem_of_getElem? (i := 28) (by decide +kernel))) rfl
theorem co_J4_length_8abf5 : Cond.code yJ4_length_8abf5 cJ4_length_8abf5 1 (Option.some Jvm.ClassFile.FieldType.int) ∈ sw_U := sw_in (sw_t6 (List.mem_of_getElem? (i := 29) (by decide +kernel))) rfl
theorem ml_J4_343 : Cond.methodLink RJ4 343 yJ5_length_8abf5 ∈ sw_U := sw_in (sw_t6 (List.mem_of_getElem? (i := 30) (by decide +kernel))) rfl
theorem co_J5_length_8abf5 : Cond.code yJ5_length_8abf5 cJ5_length_8abf5 1 (Option.some Jvm.ClassFile.FieldType.int) ∈ sw_U := sw_in (sw_t6 (List.mem_of_getElem? (i := 31) (by decide +kernel))) rfl
theorem ml_J0_1047 : Cond.methodLink RJ0 1047 yJ5_isLatin1_aae02 ∈ sw_U := sw_in (sw_t6 (List.mem_of_getElem? (i := 32) (by decide +kernel))) rfl
theorem ml_J0_54 : Cond.methodLink RJ0 54 yJ7_copyOfRange_39247 ∈ sw_U := sw_in (sw_t6 (List.mem_of_getElem? (i := 33) (by decide +kernel))) rfl
theorem st_J7_copyOfRange_39247 : Cond.static yJ7_copyOfRange_39247 ∈ sw_U := sw_in (sw_t6 (List.mem_of_getElem? (i := 34) (by decide +kernel))) rfl
theorem co_J7_copyOfRange_39247 : Cond.code yJ7_copyOfRange_39247 cJ7_copyOfRange_39247 3 (Option.some (Jvm.ClassFile.FieldType.array Jvm.ClassFile.FieldType.byte)) ∈ sw_U := sw_in (sw_t6 (List.mem_of_getElem? (i := 35) (by decide +kernel))) rfl
theorem ml_J7_339 : Cond.methodLink RJ7 339 yJ7_copyOfRangeByte_39247 ∈ sw_U := sw_in (sw_t6 (List.mem_of_getElem? (i := 36) (by decide +kernel))) rfl
theorem st_J7_copyOfRangeByte_39247 : Cond.static yJ7_copyOfRangeByte_39247 ∈ sw_U := sw_in (sw_t6 (List.mem_of_getElem? (i := 37) (by decide +kernel))) rfl
theorem co_J7_copyOfRangeByte_39247 : Cond.code yJ7_copyOfRangeByte_39247 cJ7_copyOfRangeByte_39247 5 (Option.some (Jvm.ClassFile.FieldType.array Jvm.ClassFile.FieldType.byte)) ∈ sw_U := sw_in (sw_t6 (List.mem_of_getElem? (i := 38) (by decide +kernel))) rfl
theorem ml_J7_343 : Cond.methodLink RJ7 343 yJ7_checkLength_df160 ∈ sw_U := sw_in (sw_t6 (List.mem_of_getElem? (i := 39) (by decide +kernel))) rfl
theorem st_J7_checkLength_df160 : Cond.static yJ7_checkLength_df160 ∈ sw_U := sw_in (sw_t6 (List.mem_of_getElem? (i := 40) (by decide +kernel))) rfl
theorem co_J7_checkLength_df160 : Cond.code yJ7_checkLength_df160 cJ7_checkLength_df160 2 (Option.none : Option Jvm.ClassFile.FieldType) ∈ sw_U := sw_in (sw_t6 (List.mem_of_getElem? (i := 41) (by decide +kernel))) rfl
theorem ml_J0_1051 : Cond.methodLink RJ0 1051 yJ2_compress_39247 ∈ sw_U := sw_in (sw_t6 (List.mem_of_getElem? (i := 42) (by decide +kernel))) rfl
theorem st_J2_compress_39247 : Cond.static yJ2_compress_39247 ∈ sw_U := sw_in (sw_t6 (List.mem_of_getElem? (i := 43) (by decide +kernel))) rfl
theorem co_J2_compress_39247 : Cond.code yJ2_compress_39247 cJ2_compress_39247 6 (Option.some (Jvm.ClassFile.FieldType.array Jvm.ClassFile.FieldType.byte)) ∈ sw_U := sw_in (sw_t6 (List.mem_of_getElem? (i := 44) (by decide +kernel))) rfl
theorem ml_J2_123 : Cond.methodLink RJ2 123 yJ2_compress_5af95 ∈ sw_U := sw_in (sw_t6 (List.mem_of_getElem? (i := 45) (by decide +kernel))) rfl
theorem st_J2_compress_5af95 : Cond.static yJ2_compress_5af95 ∈ sw_U := sw_in (sw_t6 (List.mem_of_getElem? (i := 46) (by decide +kernel))) rfl
theorem co_J2_compress_5af95 : Cond.code yJ2_compress_5af95 cJ2_compress_5af95 7 (Option.some Jvm.ClassFile.FieldType.int) ∈ sw_U := sw_in (sw_t6 (List.mem_of_getElem? (i := 47) (by decide +kernel))) rfl
theorem ml_J2_126 : Cond.methodLink RJ2 126 yJ7_copyOfRange_39247 ∈ sw_U := sw_in (sw_t6 (List.mem_of_getElem? (i := 48) (by decide +kernel))) rfl
theorem ml_J0_47 : Cond.methodLink RJ0 47 yJ2_coderFromArrayLen_85cad ∈ sw_U := sw_in (sw_t6 (List.mem_of_getElem? (i := 49) (by decide +kernel))) rfl
theorem st_J2_coderFromArrayLen_85cad : Cond.static yJ2_coderFromArrayLen_85cad ∈ sw_U := sw_in (sw_t6 (List.mem_of_getElem? (i := 50) (by decide +kernel))) rfl
theorem co_J2_coderFromArrayLen_85cad : Cond.code yJ2_coderFromArrayLen_85cad cJ2_coderFromArrayLen_85cad 2 (Option.some Jvm.ClassFile.FieldType.byte) ∈ sw_U := sw_in (sw_t6 (List.mem_of_getElem? (i := 51) (by decide +kernel))) rfl
theorem fl_J0_9 : Cond.fieldLink RJ0 9 "java/lang/String" "value" "[B" ∈ sw_U := sw_in (sw_t6 (List.mem_of_getElem? (i := 52) (by decide +kernel))) rfl
theorem fl_J0_15 : Cond.fieldLink RJ0 15 "java/lang/String" "coder" "B" ∈ sw_U := sw_in (sw_t6 (List.mem_of_getElem? (i := 53) (by decide +kernel))) rfl
theorem fl_X2_59 : Cond.fieldLink RX2 59 "StrikeWheels$Order" "numbers" "I" ∈ sw_U := sw_in (sw_t6 (List.mem_of_getElem? (i := 89) (by decide +kernel))) rfl
theorem fl_X2_63 : Cond.fieldLink RX2 63 "StrikeWheels$Order" "least" "I" ∈ sw_U := sw_in (sw_t6 (List.mem_of_getElem? (i := 90) (by decide +kernel))) rfl
theorem fl_X2_66 : Cond.fieldLink RX2 66 "StrikeWheels$Order" "most" "I" ∈ sw_U := sw_in (sw_t6 (List.mem_of_getElem? (i := 91) (by decide +kernel))) rfl
theorem fl_Jx29ce0_7 : Cond.fieldLink RJx29ce0 7 "java/lang/Enum" "ordinal" "I" ∈ sw_U := sw_in (sw_t6 (List.mem_of_getElem? (i := 92) (by decide +kernel))) rfl
theorem mm_X8_34 : Cond.methodLink RX8 34 Lib.Math.min.name ∈ sw_U := sw_in (sw_t2 (List.mem_of_getElem? (i := 90) (by decide +kernel))) rfl
theorem ac_X3_34 : Cond.methodLink RX3 34 arraycopyName ∈ sw_U := sw_in (sw_t3 (List.mem_of_getElem? (i := 2) (by decide +kernel))) rfl
theorem mm_X7_40 : Cond.methodLink RX7 40 Lib.Math.min.name ∈ sw_U := sw_in (sw_t3 (List.mem_of_getElem? (i := 100) (by decide +kernel))) rfl
theorem mm_X7_71 : Cond.methodLink RX7 71 Lib.Math.max.name ∈ sw_U := sw_in (sw_t3 (List.mem_of_getElem? (i := 205) (by decide +kernel))) rfl
theorem mm_X9_26 : Cond.methodLink RX9 26 Lib.Math.max.name ∈ sw_U := sw_in (sw_t4 (List.mem_of_getElem? (i := 10) (by decide +kernel))) rfl
theorem mm_X3_58 : Cond.methodLink RX3 58 Lib.Math.max.name ∈ sw_U := sw_in (sw_t4 (List.mem_of_getElem? (i := 74) (by decide +kernel))) rfl
theorem mm_X10_220 : Cond.methodLink RX10 220 Lib.Math.max.name ∈ sw_U := sw_in (sw_t4 (List.mem_of_getElem? (i := 137) (by decide +kernel))) rfl
theorem mm_X3_48 : Cond.methodLink RX3 48 Lib.Math.min.name ∈ sw_U := sw_in (sw_t4 (List.mem_of_getElem? (i := 230) (by decide +kernel))) rfl
theorem mm_J8_194 : Cond.methodLink RJ8 194 Lib.Math.max.name ∈ sw_U := sw_in (sw_t5 (List.mem_of_getElem? (i := 124) (by decide +kernel))) rfl
theorem mm_J7_304 : Cond.methodLink RJ7 304 Lib.Math.min.name ∈ sw_U := sw_in (sw_t5 (List.mem_of_getElem? (i := 139) (by decide +kernel))) rfl
theorem ac_J7_150 : Cond.methodLink RJ7 150 arraycopyName ∈ sw_U := sw_in (sw_t5 (List.mem_of_getElem? (i := 140) (by decide +kernel))) rfl
theorem ac_J0_212 : Cond.methodLink RJ0 212 arraycopyName ∈ sw_U := sw_in (sw_t5 (List.mem_of_getElem? (i := 193) (by decide +kernel))) rfl
theorem mm_ini : Cond.initialized "java/lang/Math" ∈ sw_U := sw_in (sw_t1 (List.mem_of_getElem? (i := 14) (by decide +kernel))) rfl
theorem ac_ini : Cond.initialized "java/lang/System" ∈ sw_U := sw_in (sw_t1 (List.mem_of_getElem? (i := 16) (by decide +kernel))) rfl
theorem mm_st_min : Cond.static Lib.Math.min.name ∈ sw_U := sw_in (sw_t2 (List.mem_of_getElem? (i := 91) (by decide +kernel))) rfl
theorem mm_co_min : Cond.code Lib.Math.min.name Lib.Math.min.code 2 (some .int) ∈ sw_U := sw_in (sw_t2 (List.mem_of_getElem? (i := 92) (by decide +kernel))) rfl
theorem mm_st_max : Cond.static Lib.Math.max.name ∈ sw_U := sw_in (sw_t3 (List.mem_of_getElem? (i := 206) (by decide +kernel))) rfl
theorem mm_co_max : Cond.code Lib.Math.max.name Lib.Math.max.code 2 (some .int) ∈ sw_U := sw_in (sw_t3 (List.mem_of_getElem? (i := 207) (by decide +kernel))) rfl
