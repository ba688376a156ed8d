/-- the words that every walk stands on: all good words of the tables -/
def sw_U : List Cond := lw_tbl.filter goodWord
theorem sw_in {w : Cond} (h : w ∈ lw_tbl) (g : goodWord w = true) : w ∈ sw_U := List.mem_filter.mpr ⟨h, g⟩
theorem sw_out {w : Cond} (h : w ∈ sw_U) : w ∈ lw_tbl := (List.mem_filter.mp h).1
theorem sw_good {w : Cond} (h : w ∈ sw_U) : (w.onTables && w.keeps) = true ∨ ∃ ty, w = .arrayClass ty := good_of_word (List.mem_filter.mp h).2
theorem sw_G {ws : List Cond} (h : ∀ w ∈ ws, w ∈ sw_U) : GoodIn sw_U ws := fun w hw => ⟨h w hw, sw_good (h w hw)⟩
theorem sw_c {w : Cond} {a : List Cond} {b : List Cond} (h : w ∈ b) (k : ∀ w ∈ a, w ∈ b) : ∀ x ∈ w :: a, x ∈ b := fun x hx => (List.mem_cons.mp hx).elim (fun e => e ▸ h) (k x)
theorem sw_0 {b : List Cond} : ∀ x ∈ ([] : List Cond), x ∈ b := fun _ h => absurd h List.not_mem_nil
theorem sw_self : ∀ x ∈ sw_U, x ∈ sw_U := fun _ h => h
theorem sw_tl {w : Cond} {Q : Cond → Prop} (h : ∀ x ∈ w :: sw_U, Q x) : ∀ x ∈ sw_U, Q x := fun x hx => h x (List.mem_cons_of_mem _ hx)
theorem sw_V {own : String} {idx : Nat} {C : String} {y : MethodName} {w : Cond} (h1 : Cond.methodLink own idx y ∈ sw_U) (h2 : Cond.instanceMethod y ∈ sw_U) (h3 : Cond.selects C y y ∈ sw_U) (h4 : Cond.initialized C ∈ sw_U) (h5 : w ∈ sw_U) : GoodIn sw_U (wsV own idx C y (w :: sw_U)) :=
  sw_G (sw_c h1 (sw_c h2 (sw_c h3 (sw_c h4 (sw_c h5 sw_self)))))
theorem sw_W {w : Cond} (h5 : w ∈ sw_U) : GoodIn sw_U (w :: sw_U) := sw_G (sw_c h5 sw_self)
theorem sw_all {ws : List Cond} (ps : List Nat) (h : ws = ps.filterMap (fun i => lw_tbl[i]?)) (g : ws.all goodWord = true) : ∀ w ∈ ws, w ∈ sw_U := by
  intro w hw
  refine sw_in ?_ (List.all_eq_true.mp g w hw)
  rw [h] at hw
  obtain ⟨i, -, hi⟩ := List.mem_filterMap.mp hw
  exact List.mem_of_getElem? hi
theorem sw_t1 {w : Cond} (h : w ∈ tables_1_1) : w ∈ lw_tbl := List.mem_append_right _ (List.mem_append_left _ h)
theorem sw_t2 {w : Cond} (h : w ∈ tables_1_2) : w ∈ lw_tbl := List.mem_append_right _ (List.mem_append_right _ (List.mem_append_left _ h))
theorem sw_t3 {w : Cond} (h : w ∈ tables_1_3) : w ∈ lw_tbl := List.mem_append_right _ (List.mem_append_right _ (List.mem_append_right _ (List.mem_append_left _ h)))
theorem sw_t4 {w : Cond} (h : w ∈ tables_1_4) : w ∈ lw_tbl := List.mem_append_right _ (List.mem_append_right _ (List.mem_append_right _ (List.mem_append_right _ (List.mem_append_left _ h))))
theorem sw_t5 {w : Cond} (h : w ∈ tables_1_5) : w ∈ lw_tbl := List.mem_append_right _ (List.mem_append_right _ (List.mem_append_right _ (List.mem_append_right _ (List.mem_append_right _ (List.mem_append_left _ h)))))
theorem sw_t6 {w : Cond} (h : w ∈ tables_1_6) : w ∈ lw_tbl := List.mem_append_right _ (List.mem_append_right _ (List.mem_append_right _ (List.mem_append_right _ (List.mem_append_right _ (List.mem_append_right _ (h))))))
theorem iU_X1 : ∀ w ∈ u_ws RX1 TX1 3, w ∈ sw_U := sw_all [115, 117, 119] (by decide +kernel) (by decide +kernel)
theorem iU_X3 : ∀ w ∈ u_ws RX3 TX3 7, w ∈ sw_U := sw_all [87, 89, 91, 93, 95, 97, 99] (by decide +kernel) (by decide +kernel)
theorem iU_X4 : ∀ w ∈ u_ws RX4 TX4 4, w ∈ sw_U := sw_all [186, 188, 190, 192] (by decide +kernel) (by decide +kernel)
theorem iU_X5 : ∀ w ∈ u_ws RX5 TX5 4, w ∈ sw_U := sw_all [207, 209, 211, 213] (by decide +kernel) (by decide +kernel)
theorem iU_X6 : ∀ w ∈ u_ws RX6 TX6 2, w ∈ sw_U := sw_all [224, 226] (by decide +kernel) (by decide +kernel)
theorem iU_X7 : ∀ w ∈ u_ws RX7 TX7 6, w ∈ sw_U := sw_all [134, 136, 138, 140, 142, 144] (by decide +kernel) (by decide +kernel)
theorem iU_X8 : ∀ w ∈ u_ws RX8 TX8 7, w ∈ sw_U := sw_all [160, 162, 164, 166, 168, 170, 172] (by decide +kernel) (by decide +kernel)
theorem iU_X10 : ∀ w ∈ u_ws RX10 TX10 13, w ∈ sw_U := sw_all [254, 256, 258, 260, 262, 264, 266, 268, 270, 272, 274, 276, 278] (by decide +kernel) (by decide +kernel)
theorem iU_J0 : ∀ w ∈ u_ws RJ0 TJ0 4, w ∈ sw_U := sw_all [1290, 1292, 1294, 1296] (by decide +kernel) (by decide +kernel)
theorem iU_J4 : ∀ w ∈ u_ws RJ4 TJ4 4, w ∈ sw_U := sw_all [1195, 1197, 1199, 1201] (by decide +kernel) (by decide +kernel)
theorem se_X4_begin : Cond.selects yX4_begin.cls yX4_begin yX4_begin ∈ sw_U := sw_in (List.mem_append_left _ (List.mem_of_getElem? (i := 1) (by decide +kernel))) rfl
theorem se_X8_byteAt : Cond.selects yX8_byteAt.cls yX8_byteAt yX8_byteAt ∈ sw_U := sw_in (List.mem_append_left _ (List.mem_of_getElem? (i := 2) (by decide +kernel))) rfl
theorem se_X8_skipLetters : Cond.selects yX8_skipLetters.cls yX8_skipLetters yX8_skipLetters ∈ sw_U := sw_in (List.mem_append_left _ (List.mem_of_getElem? (i := 3) (by decide +kernel))) rfl
theorem se_X8_readDigits : Cond.selects yX8_readDigits.cls yX8_readDigits yX8_readDigits ∈ sw_U := sw_in (List.mem_append_left _ (List.mem_of_getElem? (i := 4) (by decide +kernel))) rfl
theorem se_X4_takeWord : Cond.selects yX4_takeWord.cls yX4_takeWord yX4_takeWord ∈ sw_U := sw_in (List.mem_append_left _ (List.mem_of_getElem? (i := 5) (by decide +kernel))) rfl
theorem se_X4_fail : Cond.selects yX4_fail.cls yX4_fail yX4_fail ∈ sw_U := sw_in (List.mem_append_left _ (List.mem_of_getElem? (i := 6) (by decide +kernel))) rfl
theorem se_X4_takeNumber : Cond.selects yX4_takeNumber.cls yX4_takeNumber yX4_takeNumber ∈ sw_U := sw_in (List.mem_append_left _ (List.mem_of_getElem? (i := 7) (by decide +kernel))) rfl
theorem se_X4_takeSemicolon : Cond.selects yX4_takeSemicolon.cls yX4_takeSemicolon yX4_takeSemicolon ∈ sw_U := sw_in (List.mem_append_left _ (List.mem_of_getElem? (i := 8) (by decide +kernel))) rfl
theorem se_X4_readStretches : Cond.selects yX4_readStretches.cls yX4_readStretches yX4_readStretches ∈ sw_U := sw_in (List.mem_append_left _ (List.mem_of_getElem? (i := 9) (by decide +kernel))) rfl
theorem se_X4_readStrikers : Cond.selects yX4_readStrikers.cls yX4_readStrikers yX4_readStrikers ∈ sw_U := sw_in (List.mem_append_left _ (List.mem_of_getElem? (i := 10) (by decide +kernel))) rfl
theorem se_X10_closeReading : Cond.selects yX10_closeReading.cls yX10_closeReading yX10_closeReading ∈ sw_U := sw_in (List.mem_append_left _ (List.mem_of_getElem? (i := 11) (by decide +kernel))) rfl
theorem se_X10_current : Cond.selects yX10_current.cls yX10_current yX10_current ∈ sw_U := sw_in (List.mem_append_left _ (List.mem_of_getElem? (i := 12) (by decide +kernel))) rfl
theorem se_X7_strikeOut : Cond.selects yX7_strikeOut.cls yX7_strikeOut yX7_strikeOut ∈ sw_U := sw_in (List.mem_append_left _ (List.mem_of_getElem? (i := 13) (by decide +kernel))) rfl
theorem se_X7_countAll : Cond.selects yX7_countAll.cls yX7_countAll yX7_countAll ∈ sw_U := sw_in (List.mem_append_left _ (List.mem_of_getElem? (i := 14) (by decide +kernel))) rfl
theorem se_X3_isMissing : Cond.selects yX3_isMissing.cls yX3_isMissing yX3_isMissing ∈ sw_U := sw_in (List.mem_append_left _ (List.mem_of_getElem? (i := 15) (by decide +kernel))) rfl
theorem se_X10_countIdle : Cond.selects yX10_countIdle.cls yX10_countIdle yX10_countIdle ∈ sw_U := sw_in (List.mem_append_left _ (List.mem_of_getElem? (i := 16) (by decide +kernel))) rfl
theorem se_X10_needStretch : Cond.selects yX10_needStretch.cls yX10_needStretch yX10_needStretch ∈ sw_U := sw_in (List.mem_append_left _ (List.mem_of_getElem? (i := 17) (by decide +kernel))) rfl
theorem se_X3_roomAhead : Cond.selects yX3_roomAhead.cls yX3_roomAhead yX3_roomAhead ∈ sw_U := sw_in (List.mem_append_left _ (List.mem_of_getElem? (i := 18) (by decide +kernel))) rfl
theorem se_X10_needStriker : Cond.selects yX10_needStriker.cls yX10_needStriker yX10_needStriker ∈ sw_U := sw_in (List.mem_append_left _ (List.mem_of_getElem? (i := 19) (by decide +kernel))) rfl
theorem se_X7_countWithOwner : Cond.selects yX7_countWithOwner.cls yX7_countWithOwner yX7_countWithOwner ∈ sw_U := sw_in (List.mem_append_left _ (List.mem_of_getElem? (i := 20) (by decide +kernel))) rfl
theorem se_X10_operate : Cond.selects yX10_operate.cls yX10_operate yX10_operate ∈ sw_U := sw_in (List.mem_append_left _ (List.mem_of_getElem? (i := 21) (by decide +kernel))) rfl
theorem se_X10_carryOut : Cond.selects yX10_carryOut.cls yX10_carryOut yX10_carryOut ∈ sw_U := sw_in (List.mem_append_left _ (List.mem_of_getElem? (i := 22) (by decide +kernel))) rfl
theorem se_X10_layStretch : Cond.selects yX10_layStretch.cls yX10_layStretch yX10_layStretch ∈ sw_U := sw_in (List.mem_append_left _ (List.mem_of_getElem? (i := 23) (by decide +kernel))) rfl
theorem se_X10_dropStretch : Cond.selects yX10_dropStretch.cls yX10_dropStretch yX10_dropStretch ∈ sw_U := sw_in (List.mem_append_left _ (List.mem_of_getElem? (i := 24) (by decide +kernel))) rfl
theorem se_X10_trimStretch : Cond.selects yX10_trimStretch.cls yX10_trimStretch yX10_trimStretch ∈ sw_U := sw_in (List.mem_append_left _ (List.mem_of_getElem? (i := 25) (by decide +kernel))) rfl
theorem se_X10_swapStrikers : Cond.selects yX10_swapStrikers.cls yX10_swapStrikers yX10_swapStrikers ∈ sw_U := sw_in (List.mem_append_left _ (List.mem_of_getElem? (i := 26) (by decide +kernel))) rfl
theorem se_X10_addStriker : Cond.selects yX10_addStriker.cls yX10_addStriker yX10_addStriker ∈ sw_U := sw_in (List.mem_append_left _ (List.mem_of_getElem? (i := 27) (by decide +kernel))) rfl
theorem se_X10_liftStriker : Cond.selects yX10_liftStriker.cls yX10_liftStriker yX10_liftStriker ∈ sw_U := sw_in (List.mem_append_left _ (List.mem_of_getElem? (i := 28) (by decide +kernel))) rfl
theorem se_X10_countGiven : Cond.selects yX10_countGiven.cls yX10_countGiven yX10_countGiven ∈ sw_U := sw_in (List.mem_append_left _ (List.mem_of_getElem? (i := 29) (by decide +kernel))) rfl
theorem se_X10_putFirst : Cond.selects yX10_putFirst.cls yX10_putFirst yX10_putFirst ∈ sw_U := sw_in (List.mem_append_left _ (List.mem_of_getElem? (i := 30) (by decide +kernel))) rfl
theorem se_X10_changeWheel : Cond.selects yX10_changeWheel.cls yX10_changeWheel yX10_changeWheel ∈ sw_U := sw_in (List.mem_append_left _ (List.mem_of_getElem? (i := 31) (by decide +kernel))) rfl
theorem se_X10_fillUp : Cond.selects yX10_fillUp.cls yX10_fillUp yX10_fillUp ∈ sw_U := sw_in (List.mem_append_left _ (List.mem_of_getElem? (i := 32) (by decide +kernel))) rfl
theorem se_X10_takeIdleAway : Cond.selects yX10_takeIdleAway.cls yX10_takeIdleAway yX10_takeIdleAway ∈ sw_U := sw_in (List.mem_append_left _ (List.mem_of_getElem? (i := 33) (by decide +kernel))) rfl
theorem se_X10_counted : Cond.selects yX10_counted.cls yX10_counted yX10_counted ∈ sw_U := sw_in (List.mem_append_left _ (List.mem_of_getElem? (i := 34) (by decide +kernel))) rfl
theorem se_X10_nextCommon : Cond.selects yX10_nextCommon.cls yX10_nextCommon yX10_nextCommon ∈ sw_U := sw_in (List.mem_append_left _ (List.mem_of_getElem? (i := 35) (by decide +kernel))) rfl
theorem ini_L : Cond.initialized RL ∈ sw_U := sw_in (sw_t1 (List.mem_of_getElem? (i := 0) (by decide +kernel))) rfl
theorem ini_X10 : Cond.initialized RX10 ∈ sw_U := sw_in (sw_t1 (List.mem_of_getElem? (i := 1) (by decide +kernel))) rfl
theorem ini_X3 : Cond.initialized RX3 ∈ sw_U := sw_in (sw_t1 (List.mem_of_getElem? (i := 2) (by decide +kernel))) rfl
theorem ini_X1 : Cond.initialized RX1 ∈ sw_U := sw_in (sw_t1 (List.mem_of_getElem? (i := 3) (by decide +kernel))) rfl
theorem ini_X7 : Cond.initialized RX7 ∈ sw_U := sw_in (sw_t1 (List.mem_of_getElem? (i := 4) (by decide +kernel))) rfl
theorem ini_X8 : Cond.initialized RX8 ∈ sw_U := sw_in (sw_t1 (List.mem_of_getElem? (i := 5) (by decide +kernel))) rfl
theorem ini_X4 : Cond.initialized RX4 ∈ sw_U := sw_in (sw_t1 (List.mem_of_getElem? (i := 6) (by decide +kernel))) rfl
theorem ini_X5 : Cond.initialized RX5 ∈ sw_U := sw_in (sw_t1 (List.mem_of_getElem? (i := 7) (by decide +kernel))) rfl
theorem ini_X6 : Cond.initialized RX6 ∈ sw_U := sw_in (sw_t1 (List.mem_of_getElem? (i := 8) (by decide +kernel))) rfl
theorem ini_J5 : Cond.initialized RJ5 ∈ sw_U := sw_in (sw_t1 (List.mem_of_getElem? (i := 9) (by decide +kernel))) rfl
theorem ini_J4 : Cond.initialized RJ4 ∈ sw_U := sw_in (sw_t1 (List.mem_of_getElem? (i := 10) (by decide +kernel))) rfl
theorem ini_J0 : Cond.initialized RJ0 ∈ sw_U := sw_in (sw_t1 (List.mem_of_getElem? (i := 11) (by decide +kernel))) rfl
theorem ini_J2 : Cond.initialized RJ2 ∈ sw_U := sw_in (sw_t1 (List.mem_of_getElem? (i := 12) (by decide +kernel))) rfl
theorem ini_J8 : Cond.initialized RJ8 ∈ sw_U := sw_in (sw_t1 (List.mem_of_getElem? (i := 13) (by decide +kernel))) rfl
theorem ini_J9 : Cond.initialized RJ9 ∈ sw_U := sw_in (sw_t1 (List.mem_of_getElem? (i := 14) (by decide +kernel))) rfl
theorem ini_J7 : Cond.initialized RJ7 ∈ sw_U := sw_in (sw_t1 (List.mem_of_getElem? (i := 15) (by decide +kernel))) rfl
theorem ini_J10 : Cond.initialized RJ10 ∈ sw_U := sw_in (sw_t1 (List.mem_of_getElem? (i := 16) (by decide +kernel))) rfl
theorem ini_J3 : Cond.initialized RJ3 ∈ sw_U := sw_in (sw_t1 (List.mem_of_getElem? (i := 17) (by decide +kernel))) rfl
theorem ini_J1 : Cond.initialized RJ1 ∈ sw_U := sw_in (sw_t1 (List.mem_of_getElem? (i := 18) (by decide +kernel))) rfl
theorem ini_Jxd2413 : Cond.initialized RJxd2413 ∈ sw_U := sw_in (sw_t1 (List.mem_of_getElem? (i := 19) (by decide +kernel))) rfl
theorem ini_J6 : Cond.initialized RJ6 ∈ sw_U := sw_in (sw_t1 (List.mem_of_getElem? (i := 20) (by decide +kernel))) rfl
theorem ini_java_lang_Throwable : Cond.initialized "java/lang/Throwable" ∈ sw_U := sw_in (sw_t1 (List.mem_of_getElem? (i := 21) (by decide +kernel))) rfl
theorem ini_java_lang_Exception : Cond.initialized "java/lang/Exception" ∈ sw_U := sw_in (sw_t1 (List.mem_of_getElem? (i := 22) (by decide +kernel))) rfl
theorem ini_java_lang_RuntimeException : Cond.initialized "java/lang/RuntimeException" ∈ sw_U := sw_in (sw_t1 (List.mem_of_getElem? (i := 23) (by decide +kernel))) rfl
theorem ini_java_lang_IllegalArgumentException : Cond.initialized "java/lang/IllegalArgumentException" ∈ sw_U := sw_in (sw_t1 (List.mem_of_getElem? (i := 24) (by decide +kernel))) rfl
theorem ini_X9 : Cond.initialized RX9 ∈ sw_U := sw_in (sw_t1 (List.mem_of_getElem? (i := 25) (by decide +kernel))) rfl
theorem ini_java_util_NoSuchElementException : Cond.initialized "java/util/NoSuchElementException" ∈ sw_U := sw_in (sw_t1 (List.mem_of_getElem? (i := 26) (by decide +kernel))) rfl
theorem ini_Jx29ce0 : Cond.initialized RJx29ce0 ∈ sw_U := sw_in (sw_t1 (List.mem_of_getElem? (i := 27) (by decide +kernel))) rfl
theorem ini_X2 : Cond.initialized RX2 ∈ sw_U := sw_in (sw_t1 (List.mem_of_getElem? (i := 28) (by decide +kernel))) rfl
theorem ini_X0 : Cond.initialized RX0 ∈ sw_U := sw_in (sw_t1 (List.mem_of_getElem? (i := 29) (by decide +kernel))) rfl
theorem cl_L_9 : Cond.classLink RL 9 RX10 ∈ sw_U := sw_in (sw_t1 (List.mem_of_getElem? (i := 30) (by decide +kernel))) rfl
theorem ins_X10 : Cond.instantiable RX10 13 ∈ sw_U := sw_in (sw_t1 (List.mem_of_getElem? (i := 31) (by decide +kernel))) rfl
theorem ml_L_141 : Cond.methodLink RL 141 yX10_init ∈ sw_U := sw_in (sw_t1 (List.mem_of_getElem? (i := 32) (by decide +kernel))) rfl
theorem im_X10_init : Cond.instanceMethod yX10_init ∈ sw_U := sw_in (sw_t1 (List.mem_of_getElem? (i := 33) (by decide +kernel))) rfl
theorem co_X10_init : Cond.code yX10_init cX10_init 1 (Option.none : Option Jvm.ClassFile.FieldType) ∈ sw_U := sw_in (sw_t1 (List.mem_of_getElem? (i := 34) (by decide +kernel))) rfl
theorem ml_X10_3 : Cond.methodLink RX10 3 ⟨"java/lang/Object", "<init>", "()V"⟩ ∈ sw_U := sw_in (sw_t1 (List.mem_of_getElem? (i := 35) (by decide +kernel))) rfl
theorem cl_X10_9 : Cond.classLink RX10 9 RX3 ∈ sw_U := sw_in (sw_t1 (List.mem_of_getElem? (i := 38) (by decide +kernel))) rfl
theorem ins_X3 : Cond.instantiable RX3 7 ∈ sw_U := sw_in (sw_t1 (List.mem_of_getElem? (i := 39) (by decide +kernel))) rfl
theorem ml_X10_11 : Cond.methodLink RX10 11 yX3_init ∈ sw_U := sw_in (sw_t1 (List.mem_of_getElem? (i := 40) (by decide +kernel))) rfl
theorem im_X3_init : Cond.instanceMethod yX3_init ∈ sw_U := sw_in (sw_t1 (List.mem_of_getElem? (i := 41) (by decide +kernel))) rfl
theorem co_X3_init : Cond.code yX3_init cX3_init 1 (Option.none : Option Jvm.ClassFile.FieldType) ∈ sw_U := sw_in (sw_t1 (List.mem_of_getElem? (i := 42) (by decide +kernel))) rfl
theorem ml_X3_3 : Cond.methodLink RX3 3 ⟨"java/lang/Object", "<init>", "()V"⟩ ∈ sw_U := sw_in (sw_t1 (List.mem_of_getElem? (i := 43) (by decide +kernel))) rfl
theorem fl_X3_9 : Cond.fieldLink RX3 9 "StrikeWheels$Plan" "wheel" "I" ∈ sw_U := sw_in (sw_t1 (List.mem_of_getElem? (i := 44) (by decide +kernel))) rfl
theorem fl_X3_15 : Cond.fieldLink RX3 15 "StrikeWheels$Plan" "stretches" "I" ∈ sw_U := sw_in (sw_t1 (List.mem_of_getElem? (i := 45) (by decide +kernel))) rfl
theorem fl_X3_18 : Cond.fieldLink RX3 18 "StrikeWheels$Plan" "rooms" "[I" ∈ sw_U := sw_in (sw_t1 (List.mem_of_getElem? (i := 46) (by decide +kernel))) rfl
theorem fl_X3_22 : Cond.fieldLink RX3 22 "StrikeWheels$Plan" "last" "I" ∈ sw_U := sw_in (sw_t1 (List.mem_of_getElem? (i := 47) (by decide +kernel))) rfl
theorem fl_X3_25 : Cond.fieldLink RX3 25 "StrikeWheels$Plan" "strikers" "I" ∈ sw_U := sw_in (sw_t1 (List.mem_of_getElem? (i := 48) (by decide +kernel))) rfl
theorem fl_X3_28 : Cond.fieldLink RX3 28 "StrikeWheels$Plan" "ds" "[I" ∈ sw_U := sw_in (sw_t1 (List.mem_of_getElem? (i := 49) (by decide +kernel))) rfl
theorem fl_X3_31 : Cond.fieldLink RX3 31 "StrikeWheels$Plan" "version" "I" ∈ sw_U := sw_in (sw_t1 (List.mem_of_getElem? (i := 50) (by decide +kernel))) rfl
theorem ac_int : Cond.arrayClass Jvm.ClassFile.FieldType.int ∈ sw_U := sw_in (sw_t1 (List.mem_of_getElem? (i := 66) (by decide +kernel))) rfl
theorem cl_X10_29 : Cond.classLink RX10 29 RX1 ∈ sw_U := sw_in (sw_t1 (List.mem_of_getElem? (i := 67) (by decide +kernel))) rfl
theorem ins_X1 : Cond.instantiable RX1 3 ∈ sw_U := sw_in (sw_t1 (List.mem_of_getElem? (i := 68) (by decide +kernel))) rfl
theorem ml_X10_31 : Cond.methodLink RX10 31 yX1_init ∈ sw_U := sw_in (sw_t1 (List.mem_of_getElem? (i := 69) (by decide +kernel))) rfl
theorem im_X1_init : Cond.instanceMethod yX1_init ∈ sw_U := sw_in (sw_t1 (List.mem_of_getElem? (i := 70) (by decide +kernel))) rfl
theorem co_X1_init : Cond.code yX1_init cX1_init 2 (Option.none : Option Jvm.ClassFile.FieldType) ∈ sw_U := sw_in (sw_t1 (List.mem_of_getElem? (i := 71) (by decide +kernel))) rfl
theorem ml_X1_3 : Cond.methodLink RX1 3 ⟨"java/lang/Object", "<init>", "()V"⟩ ∈ sw_U := sw_in (sw_t1 (List.mem_of_getElem? (i := 72) (by decide +kernel))) rfl
theorem cl_X1_9 : Cond.classLink RX1 9 RX3 ∈ sw_U := sw_in (sw_t1 (List.mem_of_getElem? (i := 73) (by decide +kernel))) rfl
theorem ml_X1_24 : Cond.methodLink RX1 24 yX3_init ∈ sw_U := sw_in (sw_t1 (List.mem_of_getElem? (i := 75) (by decide +kernel))) rfl
theorem fl_X1_11 : Cond.fieldLink RX1 11 "StrikeWheels$History" "plans" "[LStrikeWheels$Plan;" ∈ sw_U := sw_in (sw_t1 (List.mem_of_getElem? (i := 76) (by decide +kernel))) rfl
theorem fl_X1_17 : Cond.fieldLink RX1 17 "StrikeWheels$History" "oldest" "I" ∈ sw_U := sw_in (sw_t1 (List.mem_of_getElem? (i := 77) (by decide +kernel))) rfl
theorem fl_X1_21 : Cond.fieldLink RX1 21 "StrikeWheels$History" "count" "I" ∈ sw_U := sw_in (sw_t1 (List.mem_of_getElem? (i := 78) (by decide +kernel))) rfl
theorem cl_X10_36 : Cond.classLink RX10 36 RX7 ∈ sw_U := sw_in (sw_t1 (List.mem_of_getElem? (i := 86) (by decide +kernel))) rfl
theorem ins_X7 : Cond.instantiable RX7 6 ∈ sw_U := sw_in (sw_t1 (List.mem_of_getElem? (i := 87) (by decide +kernel))) rfl
theorem ml_X10_38 : Cond.methodLink RX10 38 yX7_init ∈ sw_U := sw_in (sw_t1 (List.mem_of_getElem? (i := 88) (by decide +kernel))) rfl
theorem im_X7_init : Cond.instanceMethod yX7_init ∈ sw_U := sw_in (sw_t1 (List.mem_of_getElem? (i := 89) (by decide +kernel))) rfl
theorem co_X7_init : Cond.code yX7_init cX7_init 1 (Option.none : Option Jvm.ClassFile.FieldType) ∈ sw_U := sw_in (sw_t1 (List.mem_of_getElem? (i := 90) (by decide +kernel))) rfl
theorem ml_X7_3 : Cond.methodLink RX7 3 ⟨"java/lang/Object", "<init>", "()V"⟩ ∈ sw_U := sw_in (sw_t1 (List.mem_of_getElem? (i := 91) (by decide +kernel))) rfl
theorem fl_X7_9 : Cond.fieldLink RX7 9 "StrikeWheels$Sieve" "owners" "[I" ∈ sw_U := sw_in (sw_t1 (List.mem_of_getElem? (i := 92) (by decide +kernel))) rfl
theorem fl_X7_15 : Cond.fieldLink RX7 15 "StrikeWheels$Sieve" "counts" "[I" ∈ sw_U := sw_in (sw_t1 (List.mem_of_getElem? (i := 93) (by decide +kernel))) rfl
theorem fl_X7_18 : Cond.fieldLink RX7 18 "StrikeWheels$Sieve" "last" "I" ∈ sw_U := sw_in (sw_t1 (List.mem_of_getElem? (i := 94) (by decide +kernel))) rfl
theorem fl_X7_22 : Cond.fieldLink RX7 22 "StrikeWheels$Sieve" "markCount" "I" ∈ sw_U := sw_in (sw_t1 (List.mem_of_getElem? (i := 95) (by decide +kernel))) rfl
theorem fl_X7_25 : Cond.fieldLink RX7 25 "StrikeWheels$Sieve" "spokeCount" "I" ∈ sw_U := sw_in (sw_t1 (List.mem_of_getElem? (i := 96) (by decide +kernel))) rfl
theorem fl_X7_28 : Cond.fieldLink RX7 28 "StrikeWheels$Sieve" "builtVersion" "I" ∈ sw_U := sw_in (sw_t1 (List.mem_of_getElem? (i := 97) (by decide +kernel))) rfl
theorem cl_X10_43 : Cond.classLink RX10 43 RX8 ∈ sw_U := sw_in (sw_t1 (List.mem_of_getElem? (i := 111) (by decide +kernel))) rfl
theorem ins_X8 : Cond.instantiable RX8 7 ∈ sw_U := sw_in (sw_t1 (List.mem_of_getElem? (i := 112) (by decide +kernel))) rfl
theorem ml_X10_45 : Cond.methodLink RX10 45 yX8_init ∈ sw_U := sw_in (sw_t1 (List.mem_of_getElem? (i := 113) (by decide +kernel))) rfl
theorem im_X8_init : Cond.instanceMethod yX8_init ∈ sw_U := sw_in (sw_t1 (List.mem_of_getElem? (i := 114) (by decide +kernel))) rfl
theorem co_X8_init : Cond.code yX8_init cX8_init 1 (Option.none : Option Jvm.ClassFile.FieldType) ∈ sw_U := sw_in (sw_t1 (List.mem_of_getElem? (i := 115) (by decide +kernel))) rfl
theorem ml_X8_3 : Cond.methodLink RX8 3 ⟨"java/lang/Object", "<init>", "()V"⟩ ∈ sw_U := sw_in (sw_t1 (List.mem_of_getElem? (i := 116) (by decide +kernel))) rfl
theorem fl_X8_9 : Cond.fieldLink RX8 9 "StrikeWheels$Source" "bytes" "[B" ∈ sw_U := sw_in (sw_t1 (List.mem_of_getElem? (i := 117) (by decide +kernel))) rfl
theorem fl_X8_15 : Cond.fieldLink RX8 15 "StrikeWheels$Source" "filled" "I" ∈ sw_U := sw_in (sw_t1 (List.mem_of_getElem? (i := 118) (by decide +kernel))) rfl
theorem fl_X8_19 : Cond.fieldLink RX8 19 "StrikeWheels$Source" "end" "I" ∈ sw_U := sw_in (sw_t1 (List.mem_of_getElem? (i := 119) (by decide +kernel))) rfl
theorem fl_X8_22 : Cond.fieldLink RX8 22 "StrikeWheels$Source" "position" "I" ∈ sw_U := sw_in (sw_t1 (List.mem_of_getElem? (i := 120) (by decide +kernel))) rfl
theorem fl_X8_25 : Cond.fieldLink RX8 25 "StrikeWheels$Source" "kind" "I" ∈ sw_U := sw_in (sw_t1 (List.mem_of_getElem? (i := 121) (by decide +kernel))) rfl
theorem fl_X8_28 : Cond.fieldLink RX8 28 "StrikeWheels$Source" "start" "I" ∈ sw_U := sw_in (sw_t1 (List.mem_of_getElem? (i := 122) (by decide +kernel))) rfl
theorem fl_X8_31 : Cond.fieldLink RX8 31 "StrikeWheels$Source" "value" "I" ∈ sw_U := sw_in (sw_t1 (List.mem_of_getElem? (i := 123) (by decide +kernel))) rfl
theorem ac_byte : Cond.arrayClass Jvm.ClassFile.FieldType.byte ∈ sw_U := sw_in (sw_t1 (List.mem_of_getElem? (i := 139) (by decide +kernel))) rfl
theorem cl_X10_50 : Cond.classLink RX10 50 RX4 ∈ sw_U := sw_in (sw_t1 (List.mem_of_getElem? (i := 140) (by decide +kernel))) rfl
theorem ins_X4 : Cond.instantiable RX4 4 ∈ sw_U := sw_in (sw_t1 (List.mem_of_getElem? (i := 141) (by decide +kernel))) rfl
theorem ml_X10_52 : Cond.methodLink RX10 52 yX4_init ∈ sw_U := sw_in (sw_t1 (List.mem_of_getElem? (i := 142) (by decide +kernel))) rfl
theorem im_X4_init : Cond.instanceMethod yX4_init ∈ sw_U := sw_in (sw_t1 (List.mem_of_getElem? (i := 143) (by decide +kernel))) rfl
theorem co_X4_init : Cond.code yX4_init cX4_init 2 (Option.none : Option Jvm.ClassFile.FieldType) ∈ sw_U := sw_in (sw_t1 (List.mem_of_getElem? (i := 144) (by decide +kernel))) rfl
theorem ml_X4_3 : Cond.methodLink RX4 3 ⟨"java/lang/Object", "<init>", "()V"⟩ ∈ sw_U := sw_in (sw_t1 (List.mem_of_getElem? (i := 145) (by decide +kernel))) rfl
theorem fl_X4_21 : Cond.fieldLink RX4 21 "StrikeWheels$Reader" "source" "LStrikeWheels$Source;" ∈ sw_U := sw_in (sw_t1 (List.mem_of_getElem? (i := 146) (by decide +kernel))) rfl
theorem fl_X4_9 : Cond.fieldLink RX4 9 "StrikeWheels$Reader" "error" "I" ∈ sw_U := sw_in (sw_t1 (List.mem_of_getElem? (i := 147) (by decide +kernel))) rfl
theorem fl_X4_15 : Cond.fieldLink RX4 15 "StrikeWheels$Reader" "position" "I" ∈ sw_U := sw_in (sw_t1 (List.mem_of_getElem? (i := 148) (by decide +kernel))) rfl
theorem fl_X4_18 : Cond.fieldLink RX4 18 "StrikeWheels$Reader" "number" "I" ∈ sw_U := sw_in (sw_t1 (List.mem_of_getElem? (i := 149) (by decide +kernel))) rfl
theorem cl_X10_59 : Cond.classLink RX10 59 RX5 ∈ sw_U := sw_in (sw_t1 (List.mem_of_getElem? (i := 159) (by decide +kernel))) rfl
theorem ins_X5 : Cond.instantiable RX5 4 ∈ sw_U := sw_in (sw_t1 (List.mem_of_getElem? (i := 160) (by decide +kernel))) rfl
theorem ml_X10_61 : Cond.methodLink RX10 61 yX5_init ∈ sw_U := sw_in (sw_t1 (List.mem_of_getElem? (i := 161) (by decide +kernel))) rfl
theorem im_X5_init : Cond.instanceMethod yX5_init ∈ sw_U := sw_in (sw_t1 (List.mem_of_getElem? (i := 162) (by decide +kernel))) rfl
theorem co_X5_init : Cond.code yX5_init cX5_init 1 (Option.none : Option Jvm.ClassFile.FieldType) ∈ sw_U := sw_in (sw_t1 (List.mem_of_getElem? (i := 163) (by decide +kernel))) rfl
theorem ml_X5_3 : Cond.methodLink RX5 3 ⟨"java/lang/Object", "<init>", "()V"⟩ ∈ sw_U := sw_in (sw_t1 (List.mem_of_getElem? (i := 164) (by decide +kernel))) rfl
theorem cl_X5_9 : Cond.classLink RX5 9 RX2 ∈ sw_U := sw_in (sw_t1 (List.mem_of_getElem? (i := 165) (by decide +kernel))) rfl
theorem fl_X5_11 : Cond.fieldLink RX5 11 "StrikeWheels$Script" "orders" "[LStrikeWheels$Order;" ∈ sw_U := sw_in (sw_t1 (List.mem_of_getElem? (i := 167) (by decide +kernel))) rfl
theorem fl_X5_17 : Cond.fieldLink RX5 17 "StrikeWheels$Script" "numbers" "[I" ∈ sw_U := sw_in (sw_t1 (List.mem_of_getElem? (i := 168) (by decide +kernel))) rfl
theorem fl_X5_21 : Cond.fieldLink RX5 21 "StrikeWheels$Script" "others" "[I" ∈ sw_U := sw_in (sw_t1 (List.mem_of_getElem? (i := 169) (by decide +kernel))) rfl
theorem fl_X5_24 : Cond.fieldLink RX5 24 "StrikeWheels$Script" "count" "I" ∈ sw_U := sw_in (sw_t1 (List.mem_of_getElem? (i := 170) (by decide +kernel))) rfl
theorem cl_X10_66 : Cond.classLink RX10 66 RX6 ∈ sw_U := sw_in (sw_t1 (List.mem_of_getElem? (i := 180) (by decide +kernel))) rfl
theorem ins_X6 : Cond.instantiable RX6 2 ∈ sw_U := sw_in (sw_t1 (List.mem_of_getElem? (i := 181) (by decide +kernel))) rfl
theorem ml_X10_68 : Cond.methodLink RX10 68 yX6_init ∈ sw_U := sw_in (sw_t1 (List.mem_of_getElem? (i := 182) (by decide +kernel))) rfl
theorem im_X6_init : Cond.instanceMethod yX6_init ∈ sw_U := sw_in (sw_t1 (List.mem_of_getElem? (i := 183) (by decide +kernel))) rfl
theorem co_X6_init : Cond.code yX6_init cX6_init 1 (Option.none : Option Jvm.ClassFile.FieldType) ∈ sw_U := sw_in (sw_t1 (List.mem_of_getElem? (i := 184) (by decide +kernel))) rfl
theorem ml_X6_3 : Cond.methodLink RX6 3 ⟨"java/lang/Object", "<init>", "()V"⟩ ∈ sw_U := sw_in (sw_t1 (List.mem_of_getElem? (i := 185) (by decide +kernel))) rfl
theorem fl_X6_9 : Cond.fieldLink RX6 9 "StrikeWheels$Sheet" "bytes" "[B" ∈ sw_U := sw_in (sw_t1 (List.mem_of_getElem? (i := 186) (by decide +kernel))) rfl
theorem fl_X6_15 : Cond.fieldLink RX6 15 "StrikeWheels$Sheet" "length" "I" ∈ sw_U := sw_in (sw_t1 (List.mem_of_getElem? (i := 187) (by decide +kernel))) rfl
theorem ml_X10_81 : Cond.methodLink RX10 81 yX3_beginWith ∈ sw_U := sw_in (sw_t1 (List.mem_of_getElem? (i := 193) (by decide +kernel))) rfl
theorem im_X3_beginWith : Cond.instanceMethod yX3_beginWith ∈ sw_U := sw_in (sw_t1 (List.mem_of_getElem? (i := 194) (by decide +kernel))) rfl
theorem se_X3_beginWith : Cond.selects yX3_beginWith.cls yX3_beginWith yX3_beginWith ∈ sw_U := sw_in (sw_t1 (List.mem_of_getElem? (i := 195) (by decide +kernel))) rfl
theorem co_X3_beginWith : Cond.code yX3_beginWith cX3_beginWith 2 (Option.none : Option Jvm.ClassFile.FieldType) ∈ sw_U := sw_in (sw_t1 (List.mem_of_getElem? (i := 196) (by decide +kernel))) rfl
theorem ml_X10_85 : Cond.methodLink RX10 85 yX3_appendStretch ∈ sw_U := sw_in (sw_t1 (List.mem_of_getElem? (i := 197) (by decide +kernel))) rfl
theorem im_X3_appendStretch : Cond.instanceMethod yX3_appendStretch ∈ sw_U := sw_in (sw_t1 (List.mem_of_getElem? (i := 198) (by decide +kernel))) rfl
theorem se_X3_appendStretch : Cond.selects yX3_appendStretch.cls yX3_appendStretch yX3_appendStretch ∈ sw_U := sw_in (sw_t1 (List.mem_of_getElem? (i := 199) (by decide +kernel))) rfl
theorem co_X3_appendStretch : Cond.code yX3_appendStretch cX3_appendStretch 2 (Option.none : Option Jvm.ClassFile.FieldType) ∈ sw_U := sw_in (sw_t1 (List.mem_of_getElem? (i := 200) (by decide +kernel))) rfl
theorem ml_X10_88 : Cond.methodLink RX10 88 yX3_appendStriker ∈ sw_U := sw_in (sw_t1 (List.mem_of_getElem? (i := 201) (by decide +kernel))) rfl
theorem im_X3_appendStriker : Cond.instanceMethod yX3_appendStriker ∈ sw_U := sw_in (sw_t1 (List.mem_of_getElem? (i := 202) (by decide +kernel))) rfl
theorem se_X3_appendStriker : Cond.selects yX3_appendStriker.cls yX3_appendStriker yX3_appendStriker ∈ sw_U := sw_in (sw_t1 (List.mem_of_getElem? (i := 203) (by decide +kernel))) rfl
theorem co_X3_appendStriker : Cond.code yX3_appendStriker cX3_appendStriker 2 (Option.none : Option Jvm.ClassFile.FieldType) ∈ sw_U := sw_in (sw_t1 (List.mem_of_getElem? (i := 204) (by decide +kernel))) rfl
theorem fl_X10_12 : Cond.fieldLink RX10 12 "StrikeWheels" "plan" "LStrikeWheels$Plan;" ∈ sw_U := sw_in (sw_t1 (List.mem_of_getElem? (i := 205) (by decide +kernel))) rfl
theorem fl_X10_16 : Cond.fieldLink RX10 16 "StrikeWheels" "before" "LStrikeWheels$Plan;" ∈ sw_U := sw_in (sw_t1 (List.mem_of_getElem? (i := 206) (by decide +kernel))) rfl
theorem fl_X10_19 : Cond.fieldLink RX10 19 "StrikeWheels" "draft" "LStrikeWheels$Plan;" ∈ sw_U := sw_in (sw_t1 (List.mem_of_getElem? (i := 207) (by decide +kernel))) rfl
theorem fl_X10_22 : Cond.fieldLink RX10 22 "StrikeWheels" "snapshot" "LStrikeWheels$Plan;" ∈ sw_U := sw_in (sw_t1 (List.mem_of_getElem? (i := 208) (by decide +kernel))) rfl
theorem fl_X10_25 : Cond.fieldLink RX10 25 "StrikeWheels" "hasSnapshot" "Z" ∈ sw_U := sw_in (sw_t1 (List.mem_of_getElem? (i := 209) (by decide +kernel))) rfl
theorem fl_X10_32 : Cond.fieldLink RX10 32 "StrikeWheels" "history" "LStrikeWheels$History;" ∈ sw_U := sw_in (sw_t1 (List.mem_of_getElem? (i := 210) (by decide +kernel))) rfl
theorem fl_X10_39 : Cond.fieldLink RX10 39 "StrikeWheels" "sieve" "LStrikeWheels$Sieve;" ∈ sw_U := sw_in (sw_t1 (List.mem_of_getElem? (i := 211) (by decide +kernel))) rfl
theorem fl_X10_46 : Cond.fieldLink RX10 46 "StrikeWheels" "source" "LStrikeWheels$Source;" ∈ sw_U := sw_in (sw_t1 (List.mem_of_getElem? (i := 212) (by decide +kernel))) rfl
theorem fl_X10_55 : Cond.fieldLink RX10 55 "StrikeWheels" "reader" "LStrikeWheels$Reader;" ∈ sw_U := sw_in (sw_t1 (List.mem_of_getElem? (i := 213) (by decide +kernel))) rfl
theorem fl_X10_62 : Cond.fieldLink RX10 62 "StrikeWheels" "script" "LStrikeWheels$Script;" ∈ sw_U := sw_in (sw_t1 (List.mem_of_getElem? (i := 214) (by decide +kernel))) rfl
theorem fl_X10_69 : Cond.fieldLink RX10 69 "StrikeWheels" "sheet" "LStrikeWheels$Sheet;" ∈ sw_U := sw_in (sw_t1 (List.mem_of_getElem? (i := 215) (by decide +kernel))) rfl
theorem fl_X10_73 : Cond.fieldLink RX10 73 "StrikeWheels" "accounts" "[I" ∈ sw_U := sw_in (sw_t1 (List.mem_of_getElem? (i := 216) (by decide +kernel))) rfl
theorem fl_X10_77 : Cond.fieldLink RX10 77 "StrikeWheels" "positionOfError" "I" ∈ sw_U := sw_in (sw_t1 (List.mem_of_getElem? (i := 217) (by decide +kernel))) rfl
theorem ml_L_179 : Cond.methodLink RL 179 yX10_load ∈ sw_U := sw_in (sw_t2 (List.mem_of_getElem? (i := 5) (by decide +kernel))) rfl
theorem im_X10_load : Cond.instanceMethod yX10_load ∈ sw_U := sw_in (sw_t2 (List.mem_of_getElem? (i := 6) (by decide +kernel))) rfl
theorem se_X10_load : Cond.selects yX10_load.cls yX10_load yX10_load ∈ sw_U := sw_in (sw_t2 (List.mem_of_getElem? (i := 7) (by decide +kernel))) rfl
theorem co_X10_load : Cond.code yX10_load cX10_load 3 (Option.some Jvm.ClassFile.FieldType.int) ∈ sw_U := sw_in (sw_t2 (List.mem_of_getElem? (i := 8) (by decide +kernel))) rfl
theorem ml_X10_91 : Cond.methodLink RX10 91 yX8_filled ∈ sw_U := sw_in (sw_t2 (List.mem_of_getElem? (i := 9) (by decide +kernel))) rfl
theorem im_X8_filled : Cond.instanceMethod yX8_filled ∈ sw_U := sw_in (sw_t2 (List.mem_of_getElem? (i := 10) (by decide +kernel))) rfl
theorem se_X8_filled : Cond.selects yX8_filled.cls yX8_filled yX8_filled ∈ sw_U := sw_in (sw_t2 (List.mem_of_getElem? (i := 11) (by decide +kernel))) rfl
theorem co_X8_filled : Cond.code yX8_filled cX8_filled 1 (Option.some Jvm.ClassFile.FieldType.int) ∈ sw_U := sw_in (sw_t2 (List.mem_of_getElem? (i := 12) (by decide +kernel))) rfl
theorem ml_X10_98 : Cond.methodLink RX10 98 yX10_needInRange ∈ sw_U := sw_in (sw_t2 (List.mem_of_getElem? (i := 13) (by decide +kernel))) rfl
theorem st_X10_needInRange : Cond.static yX10_needInRange ∈ sw_U := sw_in (sw_t2 (List.mem_of_getElem? (i := 14) (by decide +kernel))) rfl
theorem co_X10_needInRange : Cond.code yX10_needInRange cX10_needInRange 3 (Option.none : Option Jvm.ClassFile.FieldType) ∈ sw_U := sw_in (sw_t2 (List.mem_of_getElem? (i := 15) (by decide +kernel))) rfl
theorem cl_X10_349 : Cond.classLink RX10 349 "java/lang/IllegalArgumentException" ∈ sw_U := sw_in (sw_t2 (List.mem_of_getElem? (i := 16) (by decide +kernel))) rfl
theorem ins_java_lang_IllegalArgumentException : Cond.instantiable "java/lang/IllegalArgumentException" 6 ∈ sw_U := sw_in (sw_t2 (List.mem_of_getElem? (i := 17) (by decide +kernel))) rfl
theorem ins_java_lang_Throwable : Cond.instantiable "java/lang/Throwable" 6 ∈ sw_U := sw_in (sw_t2 (List.mem_of_getElem? (i := 54) (by decide +kernel))) rfl
theorem ml_X10_351 : Cond.methodLink RX10 351 ⟨"java/lang/IllegalArgumentException", "<init>", "()V"⟩ ∈ sw_U := sw_in (sw_t2 (List.mem_of_getElem? (i := 56) (by decide +kernel))) rfl
theorem ml_X10_102 : Cond.methodLink RX10 102 yX4_readText ∈ sw_U := sw_in (sw_t2 (List.mem_of_getElem? (i := 78) (by decide +kernel))) rfl
theorem im_X4_readText : Cond.instanceMethod yX4_readText ∈ sw_U := sw_in (sw_t2 (List.mem_of_getElem? (i := 79) (by decide +kernel))) rfl
theorem se_X4_readText : Cond.selects yX4_readText.cls yX4_readText yX4_readText ∈ sw_U := sw_in (sw_t2 (List.mem_of_getElem? (i := 80) (by decide +kernel))) rfl
theorem co_X4_readText : Cond.code yX4_readText cX4_readText 3 (Option.some Jvm.ClassFile.FieldType.int) ∈ sw_U := sw_in (sw_t2 (List.mem_of_getElem? (i := 81) (by decide +kernel))) rfl
theorem ml_X4_25 : Cond.methodLink RX4 25 yX4_begin ∈ sw_U := sw_in (sw_t2 (List.mem_of_getElem? (i := 82) (by decide +kernel))) rfl
theorem im_X4_begin : Cond.instanceMethod yX4_begin ∈ sw_U := sw_in (sw_t2 (List.mem_of_getElem? (i := 84) (by decide +kernel))) rfl
theorem co_X4_begin : Cond.code yX4_begin cX4_begin 2 (Option.none : Option Jvm.ClassFile.FieldType) ∈ sw_U := sw_in (sw_t2 (List.mem_of_getElem? (i := 85) (by decide +kernel))) rfl
theorem ml_X4_73 : Cond.methodLink RX4 73 yX8_open ∈ sw_U := sw_in (sw_t2 (List.mem_of_getElem? (i := 86) (by decide +kernel))) rfl
theorem im_X8_open : Cond.instanceMethod yX8_open ∈ sw_U := sw_in (sw_t2 (List.mem_of_getElem? (i := 87) (by decide +kernel))) rfl
theorem se_X8_open : Cond.selects yX8_open.cls yX8_open yX8_open ∈ sw_U := sw_in (sw_t2 (List.mem_of_getElem? (i := 88) (by decide +kernel))) rfl
theorem co_X8_open : Cond.code yX8_open cX8_open 2 (Option.none : Option Jvm.ClassFile.FieldType) ∈ sw_U := sw_in (sw_t2 (List.mem_of_getElem? (i := 89) (by decide +kernel))) rfl
theorem ml_X8_34 : Cond.methodLink RX8 34 yJ9_min_7cf53 ∈ sw_U := sw_in (sw_t2 (List.mem_of_getElem? (i := 90) (by decide +kernel))) rfl
theorem st_J9_min_7cf53 : Cond.static yJ9_min_7cf53 ∈ sw_U := sw_in (sw_t2 (List.mem_of_getElem? (i := 91) (by decide +kernel))) rfl
theorem co_J9_min_7cf53 : Cond.code yJ9_min_7cf53 cJ9_min_7cf53 2 (Option.some Jvm.ClassFile.FieldType.int) ∈ sw_U := sw_in (sw_t2 (List.mem_of_getElem? (i := 92) (by decide +kernel))) rfl
theorem ml_X8_40 : Cond.methodLink RX8 40 yX8_advance ∈ sw_U := sw_in (sw_t2 (List.mem_of_getElem? (i := 93) (by decide +kernel))) rfl
theorem im_X8_advance : Cond.instanceMethod yX8_advance ∈ sw_U := sw_in (sw_t2 (List.mem_of_getElem? (i := 94) (by decide +kernel))) rfl
theorem se_X8_advance : Cond.selects yX8_advance.cls yX8_advance yX8_advance ∈ sw_U := sw_in (sw_t2 (List.mem_of_getElem? (i := 95) (by decide +kernel))) rfl
theorem co_X8_advance : Cond.code yX8_advance cX8_advance 1 (Option.none : Option Jvm.ClassFile.FieldType) ∈ sw_U := sw_in (sw_t2 (List.mem_of_getElem? (i := 96) (by decide +kernel))) rfl
theorem ml_X8_43 : Cond.methodLink RX8 43 yX8_byteAt ∈ sw_U := sw_in (sw_t2 (List.mem_of_getElem? (i := 97) (by decide +kernel))) rfl
theorem im_X8_byteAt : Cond.instanceMethod yX8_byteAt ∈ sw_U := sw_in (sw_t2 (List.mem_of_getElem? (i := 99) (by decide +kernel))) rfl
theorem co_X8_byteAt : Cond.code yX8_byteAt cX8_byteAt 2 (Option.some Jvm.ClassFile.FieldType.int) ∈ sw_U := sw_in (sw_t2 (List.mem_of_getElem? (i := 100) (by decide +kernel))) rfl
theorem ml_X8_47 : Cond.methodLink RX8 47 yX8_isBlank ∈ sw_U := sw_in (sw_t2 (List.mem_of_getElem? (i := 101) (by decide +kernel))) rfl
theorem st_X8_isBlank : Cond.static yX8_isBlank ∈ sw_U := sw_in (sw_t2 (List.mem_of_getElem? (i := 102) (by decide +kernel))) rfl
theorem co_X8_isBlank : Cond.code yX8_isBlank cX8_isBlank 1 (Option.some Jvm.ClassFile.FieldType.boolean) ∈ sw_U := sw_in (sw_t2 (List.mem_of_getElem? (i := 103) (by decide +kernel))) rfl
theorem ml_X8_51 : Cond.methodLink RX8 51 yX8_isLetter ∈ sw_U := sw_in (sw_t2 (List.mem_of_getElem? (i := 104) (by decide +kernel))) rfl
theorem st_X8_isLetter : Cond.static yX8_isLetter ∈ sw_U := sw_in (sw_t2 (List.mem_of_getElem? (i := 105) (by decide +kernel))) rfl
theorem co_X8_isLetter : Cond.code yX8_isLetter cX8_isLetter 1 (Option.some Jvm.ClassFile.FieldType.boolean) ∈ sw_U := sw_in (sw_t2 (List.mem_of_getElem? (i := 106) (by decide +kernel))) rfl
theorem ml_X8_54 : Cond.methodLink RX8 54 yX8_skipLetters ∈ sw_U := sw_in (sw_t2 (List.mem_of_getElem? (i := 107) (by decide +kernel))) rfl
theorem im_X8_skipLetters : Cond.instanceMethod yX8_skipLetters ∈ sw_U := sw_in (sw_t2 (List.mem_of_getElem? (i := 109) (by decide +kernel))) rfl
theorem co_X8_skipLetters : Cond.code yX8_skipLetters cX8_skipLetters 1 (Option.none : Option Jvm.ClassFile.FieldType) ∈ sw_U := sw_in (sw_t2 (List.mem_of_getElem? (i := 110) (by decide +kernel))) rfl
theorem ml_X8_57 : Cond.methodLink RX8 57 yX8_isDigit ∈ sw_U := sw_in (sw_t2 (List.mem_of_getElem? (i := 111) (by decide +kernel))) rfl
theorem st_X8_isDigit : Cond.static yX8_isDigit ∈ sw_U := sw_in (sw_t2 (List.mem_of_getElem? (i := 112) (by decide +kernel))) rfl
theorem co_X8_isDigit : Cond.code yX8_isDigit cX8_isDigit 1 (Option.some Jvm.ClassFile.FieldType.boolean) ∈ sw_U := sw_in (sw_t2 (List.mem_of_getElem? (i := 113) (by decide +kernel))) rfl
theorem ml_X8_60 : Cond.methodLink RX8 60 yX8_readDigits ∈ sw_U := sw_in (sw_t2 (List.mem_of_getElem? (i := 114) (by decide +kernel))) rfl
theorem im_X8_readDigits : Cond.instanceMethod yX8_readDigits ∈ sw_U := sw_in (sw_t2 (List.mem_of_getElem? (i := 116) (by decide +kernel))) rfl
theorem co_X8_readDigits : Cond.code yX8_readDigits cX8_readDigits 1 (Option.none : Option Jvm.ClassFile.FieldType) ∈ sw_U := sw_in (sw_t2 (List.mem_of_getElem? (i := 117) (by decide +kernel))) rfl
theorem kc_X8_63 : Cond.constant RX8 63 1000000 ∈ sw_U := sw_in (sw_t2 (List.mem_of_getElem? (i := 118) (by decide +kernel))) rfl
theorem ml_X4_31 : Cond.methodLink RX4 31 yX4_takeWord ∈ sw_U := sw_in (sw_t2 (List.mem_of_getElem? (i := 120) (by decide +kernel))) rfl
theorem im_X4_takeWord : Cond.instanceMethod yX4_takeWord ∈ sw_U := sw_in (sw_t2 (List.mem_of_getElem? (i := 122) (by decide +kernel))) rfl
theorem co_X4_takeWord : Cond.code yX4_takeWord cX4_takeWord 2 (Option.some Jvm.ClassFile.FieldType.boolean) ∈ sw_U := sw_in (sw_t2 (List.mem_of_getElem? (i := 123) (by decide +kernel))) rfl
theorem ml_X4_82 : Cond.methodLink RX4 82 yX8_isWord ∈ sw_U := sw_in (sw_t2 (List.mem_of_getElem? (i := 124) (by decide +kernel))) rfl
theorem im_X8_isWord : Cond.instanceMethod yX8_isWord ∈ sw_U := sw_in (sw_t2 (List.mem_of_getElem? (i := 125) (by decide +kernel))) rfl
theorem se_X8_isWord : Cond.selects yX8_isWord.cls yX8_isWord yX8_isWord ∈ sw_U := sw_in (sw_t2 (List.mem_of_getElem? (i := 126) (by decide +kernel))) rfl
theorem co_X8_isWord : Cond.code yX8_isWord cX8_isWord 3 (Option.some Jvm.ClassFile.FieldType.boolean) ∈ sw_U := sw_in (sw_t2 (List.mem_of_getElem? (i := 127) (by decide +kernel))) rfl
theorem ml_X8_64 : Cond.methodLink RX8 64 yJ0_length_8abf5 ∈ sw_U := sw_in (sw_t2 (List.mem_of_getElem? (i := 128) (by decide +kernel))) rfl
theorem im_J0_length_8abf5 : Cond.instanceMethod yJ0_length_8abf5 ∈ sw_U := sw_in (sw_t2 (List.mem_of_getElem? (i := 129) (by decide +kernel))) rfl
theorem se_J0_length_8abf5 : Cond.selects yJ0_length_8abf5.cls yJ0_length_8abf5 yJ0_length_8abf5 ∈ sw_U := sw_in (sw_t2 (List.mem_of_getElem? (i := 130) (by decide +kernel))) rfl
theorem co_J0_length_8abf5 : Cond.code yJ0_length_8abf5 cJ0_length_8abf5 1 (Option.some Jvm.ClassFile.FieldType.int) ∈ sw_U := sw_in (sw_t2 (List.mem_of_getElem? (i := 131) (by decide +kernel))) rfl
theorem ml_J0_335 : Cond.methodLink RJ0 335 yJ0_coder_7d493 ∈ sw_U := sw_in (sw_t2 (List.mem_of_getElem? (i := 132) (by decide +kernel))) rfl
theorem im_J0_coder_7d493 : Cond.instanceMethod yJ0_coder_7d493 ∈ sw_U := sw_in (sw_t2 (List.mem_of_getElem? (i := 133) (by decide +kernel))) rfl
theorem se_J0_coder_7d493 : Cond.selects yJ0_coder_7d493.cls yJ0_coder_7d493 yJ0_coder_7d493 ∈ sw_U := sw_in (sw_t2 (List.mem_of_getElem? (i := 134) (by decide +kernel))) rfl
theorem co_J0_coder_7d493 : Cond.code yJ0_coder_7d493 cJ0_coder_7d493 1 (Option.some Jvm.ClassFile.FieldType.byte) ∈ sw_U := sw_in (sw_t2 (List.mem_of_getElem? (i := 135) (by decide +kernel))) rfl
theorem fl_J0_38 : Cond.fieldLink RJ0 38 "java/lang/String" "COMPACT_STRINGS" "Z" ∈ sw_U := sw_in (sw_t2 (List.mem_of_getElem? (i := 136) (by decide +kernel))) rfl
theorem ml_X8_70 : Cond.methodLink RX8 70 yJ0_charAt_5068e ∈ sw_U := sw_in (sw_t2 (List.mem_of_getElem? (i := 138) (by decide +kernel))) rfl
theorem im_J0_charAt_5068e : Cond.instanceMethod yJ0_charAt_5068e ∈ sw_U := sw_in (sw_t2 (List.mem_of_getElem? (i := 139) (by decide +kernel))) rfl
theorem se_J0_charAt_5068e : Cond.selects yJ0_charAt_5068e.cls yJ0_charAt_5068e yJ0_charAt_5068e ∈ sw_U := sw_in (sw_t2 (List.mem_of_getElem? (i := 140) (by decide +kernel))) rfl
theorem co_J0_charAt_5068e : Cond.code yJ0_charAt_5068e cJ0_charAt_5068e 2 (Option.some Jvm.ClassFile.FieldType.char) ∈ sw_U := sw_in (sw_t2 (List.mem_of_getElem? (i := 141) (by decide +kernel))) rfl
theorem ml_J0_492 : Cond.methodLink RJ0 492 yJ0_isLatin1_aae02 ∈ sw_U := sw_in (sw_t2 (List.mem_of_getElem? (i := 142) (by decide +kernel))) rfl
theorem im_J0_isLatin1_aae02 : Cond.instanceMethod yJ0_isLatin1_aae02 ∈ sw_U := sw_in (sw_t2 (List.mem_of_getElem? (i := 143) (by decide +kernel))) rfl
theorem se_J0_isLatin1_aae02 : Cond.selects yJ0_isLatin1_aae02.cls yJ0_isLatin1_aae02 yJ0_isLatin1_aae02 ∈ sw_U := sw_in (sw_t2 (List.mem_of_getElem? (i := 144) (by decide +kernel))) rfl
theorem co_J0_isLatin1_aae02 : Cond.code yJ0_isLatin1_aae02 cJ0_isLatin1_aae02 1 (Option.some Jvm.ClassFile.FieldType.boolean) ∈ sw_U := sw_in (sw_t2 (List.mem_of_getElem? (i := 145) (by decide +kernel))) rfl
theorem ml_J0_495 : Cond.methodLink RJ0 495 yJ1_charAt_3b067 ∈ sw_U := sw_in (sw_t2 (List.mem_of_getElem? (i := 146) (by decide +kernel))) rfl
theorem st_J1_charAt_3b067 : Cond.static yJ1_charAt_3b067 ∈ sw_U := sw_in (sw_t2 (List.mem_of_getElem? (i := 147) (by decide +kernel))) rfl
theorem co_J1_charAt_3b067 : Cond.code yJ1_charAt_3b067 cJ1_charAt_3b067 2 (Option.some Jvm.ClassFile.FieldType.char) ∈ sw_U := sw_in (sw_t2 (List.mem_of_getElem? (i := 148) (by decide +kernel))) rfl
theorem ml_J1_9 : Cond.methodLink RJ1 9 yJ0_checkIndex_df160 ∈ sw_U := sw_in (sw_t2 (List.mem_of_getElem? (i := 149) (by decide +kernel))) rfl
theorem st_J0_checkIndex_df160 : Cond.static yJ0_checkIndex_df160 ∈ sw_U := sw_in (sw_t2 (List.mem_of_getElem? (i := 150) (by decide +kernel))) rfl
theorem co_J0_checkIndex_df160 : Cond.code yJ0_checkIndex_df160 cJ0_checkIndex_df160 2 (Option.none : Option Jvm.ClassFile.FieldType) ∈ sw_U := sw_in (sw_t2 (List.mem_of_getElem? (i := 151) (by decide +kernel))) rfl
theorem fl_J0_1053 : Cond.fieldLink RJ0 1053 "jdk/internal/util/Preconditions" "SIOOBE_FORMATTER" "Ljava/util/function/BiFunction;" ∈ sw_U := sw_in (sw_t2 (List.mem_of_getElem? (i := 152) (by decide +kernel))) rfl
theorem ml_J0_1059 : Cond.methodLink RJ0 1059 yJ3_checkIndex_8e157 ∈ sw_U := sw_in (sw_t2 (List.mem_of_getElem? (i := 154) (by decide +kernel))) rfl
theorem st_J3_checkIndex_8e157 : Cond.static yJ3_checkIndex_8e157 ∈ sw_U := sw_in (sw_t2 (List.mem_of_getElem? (i := 155) (by decide +kernel))) rfl
theorem co_J3_checkIndex_8e157 : Cond.code yJ3_checkIndex_8e157 cJ3_checkIndex_8e157 3 (Option.some Jvm.ClassFile.FieldType.int) ∈ sw_U := sw_in (sw_t2 (List.mem_of_getElem? (i := 156) (by decide +kernel))) rfl
theorem ml_J0_498 : Cond.methodLink RJ0 498 yJ2_charAt_3b067 ∈ sw_U := sw_in (sw_t2 (List.mem_of_getElem? (i := 157) (by decide +kernel))) rfl
theorem st_J2_charAt_3b067 : Cond.static yJ2_charAt_3b067 ∈ sw_U := sw_in (sw_t2 (List.mem_of_getElem? (i := 158) (by decide +kernel))) rfl
theorem co_J2_charAt_3b067 : Cond.code yJ2_charAt_3b067 cJ2_charAt_3b067 2 (Option.some Jvm.ClassFile.FieldType.char) ∈ sw_U := sw_in (sw_t2 (List.mem_of_getElem? (i := 159) (by decide +kernel))) rfl
theorem ml_J2_67 : Cond.methodLink RJ2 67 yJ2_checkIndex_2214a ∈ sw_U := sw_in (sw_t2 (List.mem_of_getElem? (i := 160) (by decide +kernel))) rfl
theorem st_J2_checkIndex_2214a : Cond.static yJ2_checkIndex_2214a ∈ sw_U := sw_in (sw_t2 (List.mem_of_getElem? (i := 161) (by decide +kernel))) rfl
theorem co_J2_checkIndex_2214a : Cond.code yJ2_checkIndex_2214a cJ2_checkIndex_2214a 2 (Option.none : Option Jvm.ClassFile.FieldType) ∈ sw_U := sw_in (sw_t2 (List.mem_of_getElem? (i := 162) (by decide +kernel))) rfl
theorem ml_J2_48 : Cond.methodLink RJ2 48 yJ2_length_9d52b ∈ sw_U := sw_in (sw_t2 (List.mem_of_getElem? (i := 163) (by decide +kernel))) rfl
theorem st_J2_length_9d52b : Cond.static yJ2_length_9d52b ∈ sw_U := sw_in (sw_t2 (List.mem_of_getElem? (i := 164) (by decide +kernel))) rfl
theorem co_J2_length_9d52b : Cond.code yJ2_length_9d52b cJ2_length_9d52b 1 (Option.some Jvm.ClassFile.FieldType.int) ∈ sw_U := sw_in (sw_t2 (List.mem_of_getElem? (i := 165) (by decide +kernel))) rfl
theorem ml_J2_414 : Cond.methodLink RJ2 414 yJ0_checkIndex_df160 ∈ sw_U := sw_in (sw_t2 (List.mem_of_getElem? (i := 166) (by decide +kernel))) rfl
theorem ml_J2_71 : Cond.methodLink RJ2 71 yJ2_getChar_3b067 ∈ sw_U := sw_in (sw_t2 (List.mem_of_getElem? (i := 167) (by decide +kernel))) rfl
theorem st_J2_getChar_3b067 : Cond.static yJ2_getChar_3b067 ∈ sw_U := sw_in (sw_t2 (List.mem_of_getElem? (i := 168) (by decide +kernel))) rfl
theorem co_J2_getChar_3b067 : Cond.code yJ2_getChar_3b067 cJ2_getChar_3b067 2 (Option.some Jvm.ClassFile.FieldType.char) ∈ sw_U := sw_in (sw_t2 (List.mem_of_getElem? (i := 169) (by decide +kernel))) rfl
theorem fl_J2_44 : Cond.fieldLink RJ2 44 "java/lang/StringUTF16" "$assertionsDisabled" "Z" ∈ sw_U := sw_in (sw_t2 (List.mem_of_getElem? (i := 170) (by decide +kernel))) rfl
theorem fl_J2_59 : Cond.fieldLink RJ2 59 "java/lang/StringUTF16" "HI_BYTE_SHIFT" "I" ∈ sw_U := sw_in (sw_t2 (List.mem_of_getElem? (i := 172) (by decide +kernel))) rfl
theorem fl_J2_63 : Cond.fieldLink RJ2 63 "java/lang/StringUTF16" "LO_BYTE_SHIFT" "I" ∈ sw_U := sw_in (sw_t2 (List.mem_of_getElem? (i := 174) (by decide +kernel))) rfl
theorem ml_X4_60 : Cond.methodLink RX4 60 yX4_fail ∈ sw_U := sw_in (sw_t2 (List.mem_of_getElem? (i := 176) (by decide +kernel))) rfl
theorem im_X4_fail : Cond.instanceMethod yX4_fail ∈ sw_U := sw_in (sw_t2 (List.mem_of_getElem? (i := 178) (by decide +kernel))) rfl
theorem co_X4_fail : Cond.code yX4_fail cX4_fail 2 (Option.some Jvm.ClassFile.FieldType.boolean) ∈ sw_U := sw_in (sw_t2 (List.mem_of_getElem? (i := 179) (by decide +kernel))) rfl
theorem ml_X4_76 : Cond.methodLink RX4 76 yX8_tokenStart ∈ sw_U := sw_in (sw_t2 (List.mem_of_getElem? (i := 180) (by decide +kernel))) rfl
theorem im_X8_tokenStart : Cond.instanceMethod yX8_tokenStart ∈ sw_U := sw_in (sw_t2 (List.mem_of_getElem? (i := 181) (by decide +kernel))) rfl
theorem se_X8_tokenStart : Cond.selects yX8_tokenStart.cls yX8_tokenStart yX8_tokenStart ∈ sw_U := sw_in (sw_t2 (List.mem_of_getElem? (i := 182) (by decide +kernel))) rfl
theorem co_X8_tokenStart : Cond.code yX8_tokenStart cX8_tokenStart 1 (Option.some Jvm.ClassFile.FieldType.int) ∈ sw_U := sw_in (sw_t2 (List.mem_of_getElem? (i := 183) (by decide +kernel))) rfl
theorem ml_X4_85 : Cond.methodLink RX4 85 yX8_advance ∈ sw_U := sw_in (sw_t2 (List.mem_of_getElem? (i := 184) (by decide +kernel))) rfl
theorem ml_X4_35 : Cond.methodLink RX4 35 yX4_takeNumber ∈ sw_U := sw_in (sw_t2 (List.mem_of_getElem? (i := 185) (by decide +kernel))) rfl
theorem im_X4_takeNumber : Cond.instanceMethod yX4_takeNumber ∈ sw_U := sw_in (sw_t2 (List.mem_of_getElem? (i := 187) (by decide +kernel))) rfl
theorem co_X4_takeNumber : Cond.code yX4_takeNumber cX4_takeNumber 3 (Option.some Jvm.ClassFile.FieldType.boolean) ∈ sw_U := sw_in (sw_t2 (List.mem_of_getElem? (i := 188) (by decide +kernel))) rfl
theorem ml_X4_93 : Cond.methodLink RX4 93 yX8_isNumber ∈ sw_U := sw_in (sw_t2 (List.mem_of_getElem? (i := 189) (by decide +kernel))) rfl
theorem im_X8_isNumber : Cond.instanceMethod yX8_isNumber ∈ sw_U := sw_in (sw_t2 (List.mem_of_getElem? (i := 190) (by decide +kernel))) rfl
theorem se_X8_isNumber : Cond.selects yX8_isNumber.cls yX8_isNumber yX8_isNumber ∈ sw_U := sw_in (sw_t2 (List.mem_of_getElem? (i := 191) (by decide +kernel))) rfl
theorem co_X8_isNumber : Cond.code yX8_isNumber cX8_isNumber 1 (Option.some Jvm.ClassFile.FieldType.boolean) ∈ sw_U := sw_in (sw_t2 (List.mem_of_getElem? (i := 192) (by decide +kernel))) rfl
theorem ml_X4_96 : Cond.methodLink RX4 96 yX8_tokenValue ∈ sw_U := sw_in (sw_t2 (List.mem_of_getElem? (i := 193) (by decide +kernel))) rfl
theorem im_X8_tokenValue : Cond.instanceMethod yX8_tokenValue ∈ sw_U := sw_in (sw_t2 (List.mem_of_getElem? (i := 194) (by decide +kernel))) rfl
theorem se_X8_tokenValue : Cond.selects yX8_tokenValue.cls yX8_tokenValue yX8_tokenValue ∈ sw_U := sw_in (sw_t2 (List.mem_of_getElem? (i := 195) (by decide +kernel))) rfl
theorem co_X8_tokenValue : Cond.code yX8_tokenValue cX8_tokenValue 1 (Option.some Jvm.ClassFile.FieldType.int) ∈ sw_U := sw_in (sw_t2 (List.mem_of_getElem? (i := 196) (by decide +kernel))) rfl
theorem ml_X4_39 : Cond.methodLink RX4 39 yX4_takeSemicolon ∈ sw_U := sw_in (sw_t2 (List.mem_of_getElem? (i := 197) (by decide +kernel))) rfl
theorem im_X4_takeSemicolon : Cond.instanceMethod yX4_takeSemicolon ∈ sw_U := sw_in (sw_t2 (List.mem_of_getElem? (i := 199) (by decide +kernel))) rfl
theorem co_X4_takeSemicolon : Cond.code yX4_takeSemicolon cX4_takeSemicolon 1 (Option.some Jvm.ClassFile.FieldType.boolean) ∈ sw_U := sw_in (sw_t2 (List.mem_of_getElem? (i := 200) (by decide +kernel))) rfl
theorem ml_X4_140 : Cond.methodLink RX4 140 yX8_isSemicolon ∈ sw_U := sw_in (sw_t2 (List.mem_of_getElem? (i := 201) (by decide +kernel))) rfl
theorem im_X8_isSemicolon : Cond.instanceMethod yX8_isSemicolon ∈ sw_U := sw_in (sw_t2 (List.mem_of_getElem? (i := 202) (by decide +kernel))) rfl
theorem se_X8_isSemicolon : Cond.selects yX8_isSemicolon.cls yX8_isSemicolon yX8_isSemicolon ∈ sw_U := sw_in (sw_t2 (List.mem_of_getElem? (i := 203) (by decide +kernel))) rfl
theorem co_X8_isSemicolon : Cond.code yX8_isSemicolon cX8_isSemicolon 1 (Option.some Jvm.ClassFile.FieldType.boolean) ∈ sw_U := sw_in (sw_t2 (List.mem_of_getElem? (i := 204) (by decide +kernel))) rfl
theorem ml_X4_43 : Cond.methodLink RX4 43 yX3_beginWith ∈ sw_U := sw_in (sw_t2 (List.mem_of_getElem? (i := 205) (by decide +kernel))) rfl
theorem ml_X4_48 : Cond.methodLink RX4 48 yX4_readStretches ∈ sw_U := sw_in (sw_t2 (List.mem_of_getElem? (i := 206) (by decide +kernel))) rfl
theorem im_X4_readStretches : Cond.instanceMethod yX4_readStretches ∈ sw_U := sw_in (sw_t2 (List.mem_of_getElem? (i := 208) (by decide +kernel))) rfl
theorem co_X4_readStretches : Cond.code yX4_readStretches cX4_readStretches 3 (Option.some Jvm.ClassFile.FieldType.boolean) ∈ sw_U := sw_in (sw_t2 (List.mem_of_getElem? (i := 209) (by decide +kernel))) rfl
theorem ml_X4_88 : Cond.methodLink RX4 88 yX3_appendStretch ∈ sw_U := sw_in (sw_t2 (List.mem_of_getElem? (i := 211) (by decide +kernel))) rfl
theorem ml_X4_52 : Cond.methodLink RX4 52 yX4_readStrikers ∈ sw_U := sw_in (sw_t2 (List.mem_of_getElem? (i := 212) (by decide +kernel))) rfl
theorem im_X4_readStrikers : Cond.instanceMethod yX4_readStrikers ∈ sw_U := sw_in (sw_t2 (List.mem_of_getElem? (i := 214) (by decide +kernel))) rfl
theorem co_X4_readStrikers : Cond.code yX4_readStrikers cX4_readStrikers 3 (Option.some Jvm.ClassFile.FieldType.boolean) ∈ sw_U := sw_in (sw_t2 (List.mem_of_getElem? (i := 215) (by decide +kernel))) rfl
theorem ml_X4_99 : Cond.methodLink RX4 99 yX3_placeOf ∈ sw_U := sw_in (sw_t2 (List.mem_of_getElem? (i := 217) (by decide +kernel))) rfl
theorem im_X3_placeOf : Cond.instanceMethod yX3_placeOf ∈ sw_U := sw_in (sw_t2 (List.mem_of_getElem? (i := 218) (by decide +kernel))) rfl
theorem se_X3_placeOf : Cond.selects yX3_placeOf.cls yX3_placeOf yX3_placeOf ∈ sw_U := sw_in (sw_t2 (List.mem_of_getElem? (i := 219) (by decide +kernel))) rfl
theorem co_X3_placeOf : Cond.code yX3_placeOf cX3_placeOf 3 (Option.some Jvm.ClassFile.FieldType.int) ∈ sw_U := sw_in (sw_t2 (List.mem_of_getElem? (i := 220) (by decide +kernel))) rfl
theorem ml_X4_103 : Cond.methodLink RX4 103 yX3_appendStriker ∈ sw_U := sw_in (sw_t2 (List.mem_of_getElem? (i := 221) (by decide +kernel))) rfl
theorem ml_X4_55 : Cond.methodLink RX4 55 yX8_isEnd ∈ sw_U := sw_in (sw_t2 (List.mem_of_getElem? (i := 222) (by decide +kernel))) rfl
theorem im_X8_isEnd : Cond.instanceMethod yX8_isEnd ∈ sw_U := sw_in (sw_t2 (List.mem_of_getElem? (i := 223) (by decide +kernel))) rfl
theorem se_X8_isEnd : Cond.selects yX8_isEnd.cls yX8_isEnd yX8_isEnd ∈ sw_U := sw_in (sw_t2 (List.mem_of_getElem? (i := 224) (by decide +kernel))) rfl
theorem co_X8_isEnd : Cond.code yX8_isEnd cX8_isEnd 1 (Option.some Jvm.ClassFile.FieldType.boolean) ∈ sw_U := sw_in (sw_t2 (List.mem_of_getElem? (i := 225) (by decide +kernel))) rfl
theorem ml_X10_106 : Cond.methodLink RX10 106 yX10_closeReading ∈ sw_U := sw_in (sw_t2 (List.mem_of_getElem? (i := 226) (by decide +kernel))) rfl
theorem im_X10_closeReading : Cond.instanceMethod yX10_closeReading ∈ sw_U := sw_in (sw_t2 (List.mem_of_getElem? (i := 228) (by decide +kernel))) rfl
theorem co_X10_closeReading : Cond.code yX10_closeReading cX10_closeReading 1 (Option.none : Option Jvm.ClassFile.FieldType) ∈ sw_U := sw_in (sw_t2 (List.mem_of_getElem? (i := 229) (by decide +kernel))) rfl
theorem ml_X10_421 : Cond.methodLink RX10 421 yX8_empty ∈ sw_U := sw_in (sw_t2 (List.mem_of_getElem? (i := 230) (by decide +kernel))) rfl
theorem im_X8_empty : Cond.instanceMethod yX8_empty ∈ sw_U := sw_in (sw_t2 (List.mem_of_getElem? (i := 231) (by decide +kernel))) rfl
theorem se_X8_empty : Cond.selects yX8_empty.cls yX8_empty yX8_empty ∈ sw_U := sw_in (sw_t2 (List.mem_of_getElem? (i := 232) (by decide +kernel))) rfl
theorem co_X8_empty : Cond.code yX8_empty cX8_empty 1 (Option.none : Option Jvm.ClassFile.FieldType) ∈ sw_U := sw_in (sw_t2 (List.mem_of_getElem? (i := 233) (by decide +kernel))) rfl
theorem ml_X10_424 : Cond.methodLink RX10 424 yX4_errorAt ∈ sw_U := sw_in (sw_t2 (List.mem_of_getElem? (i := 234) (by decide +kernel))) rfl
theorem im_X4_errorAt : Cond.instanceMethod yX4_errorAt ∈ sw_U := sw_in (sw_t2 (List.mem_of_getElem? (i := 235) (by decide +kernel))) rfl
theorem se_X4_errorAt : Cond.selects yX4_errorAt.cls yX4_errorAt yX4_errorAt ∈ sw_U := sw_in (sw_t2 (List.mem_of_getElem? (i := 236) (by decide +kernel))) rfl
theorem co_X4_errorAt : Cond.code yX4_errorAt cX4_errorAt 1 (Option.some Jvm.ClassFile.FieldType.int) ∈ sw_U := sw_in (sw_t2 (List.mem_of_getElem? (i := 237) (by decide +kernel))) rfl
theorem ml_X10_109 : Cond.methodLink RX10 109 yX3_takeOver ∈ sw_U := sw_in (sw_t2 (List.mem_of_getElem? (i := 238) (by decide +kernel))) rfl
theorem im_X3_takeOver : Cond.instanceMethod yX3_takeOver ∈ sw_U := sw_in (sw_t2 (List.mem_of_getElem? (i := 239) (by decide +kernel))) rfl
theorem se_X3_takeOver : Cond.selects yX3_takeOver.cls yX3_takeOver yX3_takeOver ∈ sw_U := sw_in (sw_t3 (List.mem_of_getElem? (i := 0) (by decide +kernel))) rfl
theorem co_X3_takeOver : Cond.code yX3_takeOver cX3_takeOver 2 (Option.none : Option Jvm.ClassFile.FieldType) ∈ sw_U := sw_in (sw_t3 (List.mem_of_getElem? (i := 1) (by decide +kernel))) rfl
theorem ml_X3_34 : Cond.methodLink RX3 34 ⟨"java/lang/System", "arraycopy", "(Ljava/lang/Object;ILjava/lang/Object;II)V"⟩ ∈ sw_U := sw_in (sw_t3 (List.mem_of_getElem? (i := 2) (by decide +kernel))) rfl
theorem ac_st : Cond.static arraycopyName ∈ sw_U := sw_in (sw_t3 (List.mem_of_getElem? (i := 3) (by decide +kernel))) rfl
theorem ac_nat : Cond.native arraycopyName ∈ sw_U := sw_in (sw_t3 (List.mem_of_getElem? (i := 4) (by decide +kernel))) rfl
theorem ml_X10_113 : Cond.methodLink RX10 113 yX1_forget ∈ sw_U := sw_in (sw_t3 (List.mem_of_getElem? (i := 5) (by decide +kernel))) rfl
theorem im_X1_forget : Cond.instanceMethod yX1_forget ∈ sw_U := sw_in (sw_t3 (List.mem_of_getElem? (i := 6) (by decide +kernel))) rfl
theorem se_X1_forget : Cond.selects yX1_forget.cls yX1_forget yX1_forget ∈ sw_U := sw_in (sw_t3 (List.mem_of_getElem? (i := 7) (by decide +kernel))) rfl
theorem co_X1_forget : Cond.code yX1_forget cX1_forget 1 (Option.none : Option Jvm.ClassFile.FieldType) ∈ sw_U := sw_in (sw_t3 (List.mem_of_getElem? (i := 8) (by decide +kernel))) rfl
theorem ml_X10_116 : Cond.methodLink RX10 116 yX3_lastNumber ∈ sw_U := sw_in (sw_t3 (List.mem_of_getElem? (i := 9) (by decide +kernel))) rfl
theorem im_X3_lastNumber : Cond.instanceMethod yX3_lastNumber ∈ sw_U := sw_in (sw_t3 (List.mem_of_getElem? (i := 10) (by decide +kernel))) rfl
theorem se_X3_lastNumber : Cond.selects yX3_lastNumber.cls yX3_lastNumber yX3_lastNumber ∈ sw_U := sw_in (sw_t3 (List.mem_of_getElem? (i := 11) (by decide +kernel))) rfl
theorem co_X3_lastNumber : Cond.code yX3_lastNumber cX3_lastNumber 1 (Option.some Jvm.ClassFile.FieldType.int) ∈ sw_U := sw_in (sw_t3 (List.mem_of_getElem? (i := 12) (by decide +kernel))) rfl
theorem ml_L_193 : Cond.methodLink RL 193 yX10_undoCount ∈ sw_U := sw_in (sw_t3 (List.mem_of_getElem? (i := 13) (by decide +kernel))) rfl
theorem im_X10_undoCount : Cond.instanceMethod yX10_undoCount ∈ sw_U := sw_in (sw_t3 (List.mem_of_getElem? (i := 14) (by decide +kernel))) rfl
theorem se_X10_undoCount : Cond.selects yX10_undoCount.cls yX10_undoCount yX10_undoCount ∈ sw_U := sw_in (sw_t3 (List.mem_of_getElem? (i := 15) (by decide +kernel))) rfl
theorem co_X10_undoCount : Cond.code yX10_undoCount cX10_undoCount 1 (Option.some Jvm.ClassFile.FieldType.int) ∈ sw_U := sw_in (sw_t3 (List.mem_of_getElem? (i := 16) (by decide +kernel))) rfl
theorem ml_X10_345 : Cond.methodLink RX10 345 yX1_count ∈ sw_U := sw_in (sw_t3 (List.mem_of_getElem? (i := 17) (by decide +kernel))) rfl
theorem im_X1_count : Cond.instanceMethod yX1_count ∈ sw_U := sw_in (sw_t3 (List.mem_of_getElem? (i := 18) (by decide +kernel))) rfl
theorem se_X1_count : Cond.selects yX1_count.cls yX1_count yX1_count ∈ sw_U := sw_in (sw_t3 (List.mem_of_getElem? (i := 19) (by decide +kernel))) rfl
theorem co_X1_count : Cond.code yX1_count cX1_count 1 (Option.some Jvm.ClassFile.FieldType.int) ∈ sw_U := sw_in (sw_t3 (List.mem_of_getElem? (i := 20) (by decide +kernel))) rfl
theorem ml_L_200 : Cond.methodLink RL 200 yX10_undo ∈ sw_U := sw_in (sw_t3 (List.mem_of_getElem? (i := 21) (by decide +kernel))) rfl
theorem im_X10_undo : Cond.instanceMethod yX10_undo ∈ sw_U := sw_in (sw_t3 (List.mem_of_getElem? (i := 22) (by decide +kernel))) rfl
theorem se_X10_undo : Cond.selects yX10_undo.cls yX10_undo yX10_undo ∈ sw_U := sw_in (sw_t3 (List.mem_of_getElem? (i := 23) (by decide +kernel))) rfl
theorem co_X10_undo : Cond.code yX10_undo cX10_undo 1 (Option.some Jvm.ClassFile.FieldType.int) ∈ sw_U := sw_in (sw_t3 (List.mem_of_getElem? (i := 24) (by decide +kernel))) rfl
