theorem ml_X10_369 : Cond.methodLink RX10 369 ⟨"StrikeWheels$Order", "ordinal", "()I"⟩ ∈ sw_U := sw_in (sw_t4 (List.mem_of_getElem? (i := 171) (by decide +kernel))) rfl
theorem im_Jx29ce0_ordinal_8abf5 : Cond.instanceMethod yJx29ce0_ordinal_8abf5 ∈ sw_U := sw_in (sw_t4 (List.mem_of_getElem? (i := 175) (by decide +kernel))) rfl
theorem co_Jx29ce0_ordinal_8abf5 : Cond.code yJx29ce0_ordinal_8abf5 cJx29ce0_ordinal_8abf5 1 (Option.some Jvm.ClassFile.FieldType.int) ∈ sw_U := sw_in (sw_t4 (List.mem_of_getElem? (i := 176) (by decide +kernel))) rfl
theorem ml_X10_372 : Cond.methodLink RX10 372 yX10_layStretch ∈ sw_U := sw_in (sw_t4 (List.mem_of_getElem? (i := 177) (by decide +kernel))) rfl
theorem im_X10_layStretch : Cond.instanceMethod yX10_layStretch ∈ sw_U := sw_in (sw_t4 (List.mem_of_getElem? (i := 179) (by decide +kernel))) rfl
theorem co_X10_layStretch : Cond.code yX10_layStretch cX10_layStretch 3 (Option.some Jvm.ClassFile.FieldType.int) ∈ sw_U := sw_in (sw_t4 (List.mem_of_getElem? (i := 180) (by decide +kernel))) rfl
theorem ml_X10_375 : Cond.methodLink RX10 375 yX10_dropStretch ∈ sw_U := sw_in (sw_t4 (List.mem_of_getElem? (i := 181) (by decide +kernel))) rfl
theorem im_X10_dropStretch : Cond.instanceMethod yX10_dropStretch ∈ sw_U := sw_in (sw_t4 (List.mem_of_getElem? (i := 183) (by decide +kernel))) rfl
theorem co_X10_dropStretch : Cond.code yX10_dropStretch cX10_dropStretch 1 (Option.some Jvm.ClassFile.FieldType.int) ∈ sw_U := sw_in (sw_t4 (List.mem_of_getElem? (i := 184) (by decide +kernel))) rfl
theorem ml_X10_402 : Cond.methodLink RX10 402 yX3_removeStretch ∈ sw_U := sw_in (sw_t4 (List.mem_of_getElem? (i := 185) (by decide +kernel))) rfl
theorem im_X3_removeStretch : Cond.instanceMethod yX3_removeStretch ∈ sw_U := sw_in (sw_t4 (List.mem_of_getElem? (i := 186) (by decide +kernel))) rfl
theorem se_X3_removeStretch : Cond.selects yX3_removeStretch.cls yX3_removeStretch yX3_removeStretch ∈ sw_U := sw_in (sw_t4 (List.mem_of_getElem? (i := 187) (by decide +kernel))) rfl
theorem co_X3_removeStretch : Cond.code yX3_removeStretch cX3_removeStretch 2 (Option.none : Option Jvm.ClassFile.FieldType) ∈ sw_U := sw_in (sw_t4 (List.mem_of_getElem? (i := 188) (by decide +kernel))) rfl
theorem ml_X3_44 : Cond.methodLink RX3 44 yX3_lastRoom ∈ sw_U := sw_in (sw_t4 (List.mem_of_getElem? (i := 189) (by decide +kernel))) rfl
theorem im_X3_lastRoom : Cond.instanceMethod yX3_lastRoom ∈ sw_U := sw_in (sw_t4 (List.mem_of_getElem? (i := 190) (by decide +kernel))) rfl
theorem se_X3_lastRoom : Cond.selects yX3_lastRoom.cls yX3_lastRoom yX3_lastRoom ∈ sw_U := sw_in (sw_t4 (List.mem_of_getElem? (i := 191) (by decide +kernel))) rfl
theorem co_X3_lastRoom : Cond.code yX3_lastRoom cX3_lastRoom 1 (Option.some Jvm.ClassFile.FieldType.int) ∈ sw_U := sw_in (sw_t4 (List.mem_of_getElem? (i := 192) (by decide +kernel))) rfl
theorem ml_X10_378 : Cond.methodLink RX10 378 yX10_trimStretch ∈ sw_U := sw_in (sw_t4 (List.mem_of_getElem? (i := 193) (by decide +kernel))) rfl
theorem im_X10_trimStretch : Cond.instanceMethod yX10_trimStretch ∈ sw_U := sw_in (sw_t4 (List.mem_of_getElem? (i := 195) (by decide +kernel))) rfl
theorem co_X10_trimStretch : Cond.code yX10_trimStretch cX10_trimStretch 2 (Option.some Jvm.ClassFile.FieldType.int) ∈ sw_U := sw_in (sw_t4 (List.mem_of_getElem? (i := 196) (by decide +kernel))) rfl
theorem ml_X10_405 : Cond.methodLink RX10 405 yX3_lastRoom ∈ sw_U := sw_in (sw_t4 (List.mem_of_getElem? (i := 197) (by decide +kernel))) rfl
theorem ml_X10_381 : Cond.methodLink RX10 381 yX10_swapStrikers ∈ sw_U := sw_in (sw_t4 (List.mem_of_getElem? (i := 198) (by decide +kernel))) rfl
theorem im_X10_swapStrikers : Cond.instanceMethod yX10_swapStrikers ∈ sw_U := sw_in (sw_t4 (List.mem_of_getElem? (i := 200) (by decide +kernel))) rfl
theorem co_X10_swapStrikers : Cond.code yX10_swapStrikers cX10_swapStrikers 9 (Option.some Jvm.ClassFile.FieldType.int) ∈ sw_U := sw_in (sw_t4 (List.mem_of_getElem? (i := 201) (by decide +kernel))) rfl
theorem ml_X10_408 : Cond.methodLink RX10 408 yX3_exchange ∈ sw_U := sw_in (sw_t4 (List.mem_of_getElem? (i := 202) (by decide +kernel))) rfl
theorem im_X3_exchange : Cond.instanceMethod yX3_exchange ∈ sw_U := sw_in (sw_t4 (List.mem_of_getElem? (i := 203) (by decide +kernel))) rfl
theorem se_X3_exchange : Cond.selects yX3_exchange.cls yX3_exchange yX3_exchange ∈ sw_U := sw_in (sw_t4 (List.mem_of_getElem? (i := 204) (by decide +kernel))) rfl
theorem co_X3_exchange : Cond.code yX3_exchange cX3_exchange 4 (Option.none : Option Jvm.ClassFile.FieldType) ∈ sw_U := sw_in (sw_t4 (List.mem_of_getElem? (i := 205) (by decide +kernel))) rfl
theorem ml_X10_384 : Cond.methodLink RX10 384 yX10_addStriker ∈ sw_U := sw_in (sw_t4 (List.mem_of_getElem? (i := 206) (by decide +kernel))) rfl
theorem im_X10_addStriker : Cond.instanceMethod yX10_addStriker ∈ sw_U := sw_in (sw_t4 (List.mem_of_getElem? (i := 208) (by decide +kernel))) rfl
theorem co_X10_addStriker : Cond.code yX10_addStriker cX10_addStriker 3 (Option.some Jvm.ClassFile.FieldType.int) ∈ sw_U := sw_in (sw_t4 (List.mem_of_getElem? (i := 209) (by decide +kernel))) rfl
theorem ml_X10_387 : Cond.methodLink RX10 387 yX10_liftStriker ∈ sw_U := sw_in (sw_t4 (List.mem_of_getElem? (i := 210) (by decide +kernel))) rfl
theorem im_X10_liftStriker : Cond.instanceMethod yX10_liftStriker ∈ sw_U := sw_in (sw_t4 (List.mem_of_getElem? (i := 212) (by decide +kernel))) rfl
theorem co_X10_liftStriker : Cond.code yX10_liftStriker cX10_liftStriker 4 (Option.some Jvm.ClassFile.FieldType.int) ∈ sw_U := sw_in (sw_t4 (List.mem_of_getElem? (i := 213) (by decide +kernel))) rfl
theorem ml_X10_253 : Cond.methodLink RX10 253 yX10_countGiven ∈ sw_U := sw_in (sw_t4 (List.mem_of_getElem? (i := 214) (by decide +kernel))) rfl
theorem im_X10_countGiven : Cond.instanceMethod yX10_countGiven ∈ sw_U := sw_in (sw_t4 (List.mem_of_getElem? (i := 216) (by decide +kernel))) rfl
theorem co_X10_countGiven : Cond.code yX10_countGiven cX10_countGiven 6 (Option.some Jvm.ClassFile.FieldType.int) ∈ sw_U := sw_in (sw_t4 (List.mem_of_getElem? (i := 217) (by decide +kernel))) rfl
theorem ml_X10_412 : Cond.methodLink RX10 412 yX3_removeStriker ∈ sw_U := sw_in (sw_t4 (List.mem_of_getElem? (i := 218) (by decide +kernel))) rfl
theorem im_X3_removeStriker : Cond.instanceMethod yX3_removeStriker ∈ sw_U := sw_in (sw_t4 (List.mem_of_getElem? (i := 219) (by decide +kernel))) rfl
theorem se_X3_removeStriker : Cond.selects yX3_removeStriker.cls yX3_removeStriker yX3_removeStriker ∈ sw_U := sw_in (sw_t4 (List.mem_of_getElem? (i := 220) (by decide +kernel))) rfl
theorem co_X3_removeStriker : Cond.code yX3_removeStriker cX3_removeStriker 3 (Option.none : Option Jvm.ClassFile.FieldType) ∈ sw_U := sw_in (sw_t4 (List.mem_of_getElem? (i := 221) (by decide +kernel))) rfl
theorem ml_X10_390 : Cond.methodLink RX10 390 yX10_putFirst ∈ sw_U := sw_in (sw_t4 (List.mem_of_getElem? (i := 222) (by decide +kernel))) rfl
theorem im_X10_putFirst : Cond.instanceMethod yX10_putFirst ∈ sw_U := sw_in (sw_t4 (List.mem_of_getElem? (i := 224) (by decide +kernel))) rfl
theorem co_X10_putFirst : Cond.code yX10_putFirst cX10_putFirst 3 (Option.some Jvm.ClassFile.FieldType.int) ∈ sw_U := sw_in (sw_t4 (List.mem_of_getElem? (i := 225) (by decide +kernel))) rfl
theorem ml_X10_415 : Cond.methodLink RX10 415 yX3_moveToFront ∈ sw_U := sw_in (sw_t4 (List.mem_of_getElem? (i := 226) (by decide +kernel))) rfl
theorem im_X3_moveToFront : Cond.instanceMethod yX3_moveToFront ∈ sw_U := sw_in (sw_t4 (List.mem_of_getElem? (i := 227) (by decide +kernel))) rfl
theorem se_X3_moveToFront : Cond.selects yX3_moveToFront.cls yX3_moveToFront yX3_moveToFront ∈ sw_U := sw_in (sw_t4 (List.mem_of_getElem? (i := 228) (by decide +kernel))) rfl
theorem co_X3_moveToFront : Cond.code yX3_moveToFront cX3_moveToFront 3 (Option.none : Option Jvm.ClassFile.FieldType) ∈ sw_U := sw_in (sw_t4 (List.mem_of_getElem? (i := 229) (by decide +kernel))) rfl
theorem ml_X3_48 : Cond.methodLink RX3 48 yJ9_min_7cf53 ∈ sw_U := sw_in (sw_t4 (List.mem_of_getElem? (i := 230) (by decide +kernel))) rfl
theorem ml_X3_54 : Cond.methodLink RX3 54 yX3_exchange ∈ sw_U := sw_in (sw_t4 (List.mem_of_getElem? (i := 231) (by decide +kernel))) rfl
theorem ml_X10_393 : Cond.methodLink RX10 393 yX10_changeWheel ∈ sw_U := sw_in (sw_t4 (List.mem_of_getElem? (i := 232) (by decide +kernel))) rfl
theorem im_X10_changeWheel : Cond.instanceMethod yX10_changeWheel ∈ sw_U := sw_in (sw_t4 (List.mem_of_getElem? (i := 234) (by decide +kernel))) rfl
theorem co_X10_changeWheel : Cond.code yX10_changeWheel cX10_changeWheel 3 (Option.some Jvm.ClassFile.FieldType.int) ∈ sw_U := sw_in (sw_t4 (List.mem_of_getElem? (i := 235) (by decide +kernel))) rfl
theorem ml_X10_418 : Cond.methodLink RX10 418 yX3_setWheel ∈ sw_U := sw_in (sw_t4 (List.mem_of_getElem? (i := 236) (by decide +kernel))) rfl
theorem im_X3_setWheel : Cond.instanceMethod yX3_setWheel ∈ sw_U := sw_in (sw_t4 (List.mem_of_getElem? (i := 237) (by decide +kernel))) rfl
theorem se_X3_setWheel : Cond.selects yX3_setWheel.cls yX3_setWheel yX3_setWheel ∈ sw_U := sw_in (sw_t4 (List.mem_of_getElem? (i := 238) (by decide +kernel))) rfl
theorem co_X3_setWheel : Cond.code yX3_setWheel cX3_setWheel 2 (Option.none : Option Jvm.ClassFile.FieldType) ∈ sw_U := sw_in (sw_t4 (List.mem_of_getElem? (i := 239) (by decide +kernel))) rfl
theorem ml_X10_396 : Cond.methodLink RX10 396 yX10_fillUp ∈ sw_U := sw_in (sw_t5 (List.mem_of_getElem? (i := 0) (by decide +kernel))) rfl
theorem im_X10_fillUp : Cond.instanceMethod yX10_fillUp ∈ sw_U := sw_in (sw_t5 (List.mem_of_getElem? (i := 2) (by decide +kernel))) rfl
theorem co_X10_fillUp : Cond.code yX10_fillUp cX10_fillUp 5 (Option.some Jvm.ClassFile.FieldType.int) ∈ sw_U := sw_in (sw_t5 (List.mem_of_getElem? (i := 3) (by decide +kernel))) rfl
theorem ml_X10_399 : Cond.methodLink RX10 399 yX10_takeIdleAway ∈ sw_U := sw_in (sw_t5 (List.mem_of_getElem? (i := 4) (by decide +kernel))) rfl
theorem im_X10_takeIdleAway : Cond.instanceMethod yX10_takeIdleAway ∈ sw_U := sw_in (sw_t5 (List.mem_of_getElem? (i := 6) (by decide +kernel))) rfl
theorem co_X10_takeIdleAway : Cond.code yX10_takeIdleAway cX10_takeIdleAway 4 (Option.some Jvm.ClassFile.FieldType.int) ∈ sw_U := sw_in (sw_t5 (List.mem_of_getElem? (i := 7) (by decide +kernel))) rfl
theorem ml_X10_327 : Cond.methodLink RX10 327 yX10_counted ∈ sw_U := sw_in (sw_t5 (List.mem_of_getElem? (i := 8) (by decide +kernel))) rfl
theorem im_X10_counted : Cond.instanceMethod yX10_counted ∈ sw_U := sw_in (sw_t5 (List.mem_of_getElem? (i := 10) (by decide +kernel))) rfl
theorem co_X10_counted : Cond.code yX10_counted cX10_counted 2 (Option.some Jvm.ClassFile.FieldType.int) ∈ sw_U := sw_in (sw_t5 (List.mem_of_getElem? (i := 11) (by decide +kernel))) rfl
theorem ml_X10_308 : Cond.methodLink RX10 308 yX1_push ∈ sw_U := sw_in (sw_t5 (List.mem_of_getElem? (i := 12) (by decide +kernel))) rfl
theorem im_X1_push : Cond.instanceMethod yX1_push ∈ sw_U := sw_in (sw_t5 (List.mem_of_getElem? (i := 13) (by decide +kernel))) rfl
theorem se_X1_push : Cond.selects yX1_push.cls yX1_push yX1_push ∈ sw_U := sw_in (sw_t5 (List.mem_of_getElem? (i := 14) (by decide +kernel))) rfl
theorem co_X1_push : Cond.code yX1_push cX1_push 2 (Option.none : Option Jvm.ClassFile.FieldType) ∈ sw_U := sw_in (sw_t5 (List.mem_of_getElem? (i := 15) (by decide +kernel))) rfl
theorem ml_L_112 : Cond.methodLink RL 112 yX10_add ∈ sw_U := sw_in (sw_t5 (List.mem_of_getElem? (i := 16) (by decide +kernel))) rfl
theorem im_X10_add : Cond.instanceMethod yX10_add ∈ sw_U := sw_in (sw_t5 (List.mem_of_getElem? (i := 17) (by decide +kernel))) rfl
theorem se_X10_add : Cond.selects yX10_add.cls yX10_add yX10_add ∈ sw_U := sw_in (sw_t5 (List.mem_of_getElem? (i := 18) (by decide +kernel))) rfl
theorem co_X10_add : Cond.code yX10_add cX10_add 2 (Option.some Jvm.ClassFile.FieldType.int) ∈ sw_U := sw_in (sw_t5 (List.mem_of_getElem? (i := 19) (by decide +kernel))) rfl
theorem fl_X10_286 : Cond.fieldLink RX10 286 "StrikeWheels$Order" "ADD" "LStrikeWheels$Order;" ∈ sw_U := sw_in (sw_t5 (List.mem_of_getElem? (i := 20) (by decide +kernel))) rfl
theorem ml_L_114 : Cond.methodLink RL 114 yX10_lift ∈ sw_U := sw_in (sw_t5 (List.mem_of_getElem? (i := 22) (by decide +kernel))) rfl
theorem im_X10_lift : Cond.instanceMethod yX10_lift ∈ sw_U := sw_in (sw_t5 (List.mem_of_getElem? (i := 23) (by decide +kernel))) rfl
theorem se_X10_lift : Cond.selects yX10_lift.cls yX10_lift yX10_lift ∈ sw_U := sw_in (sw_t5 (List.mem_of_getElem? (i := 24) (by decide +kernel))) rfl
theorem co_X10_lift : Cond.code yX10_lift cX10_lift 2 (Option.some Jvm.ClassFile.FieldType.int) ∈ sw_U := sw_in (sw_t5 (List.mem_of_getElem? (i := 25) (by decide +kernel))) rfl
theorem fl_X10_289 : Cond.fieldLink RX10 289 "StrikeWheels$Order" "LIFT" "LStrikeWheels$Order;" ∈ sw_U := sw_in (sw_t5 (List.mem_of_getElem? (i := 26) (by decide +kernel))) rfl
theorem ml_L_117 : Cond.methodLink RL 117 yX10_gives ∈ sw_U := sw_in (sw_t5 (List.mem_of_getElem? (i := 28) (by decide +kernel))) rfl
theorem im_X10_gives : Cond.instanceMethod yX10_gives ∈ sw_U := sw_in (sw_t5 (List.mem_of_getElem? (i := 29) (by decide +kernel))) rfl
theorem se_X10_gives : Cond.selects yX10_gives.cls yX10_gives yX10_gives ∈ sw_U := sw_in (sw_t5 (List.mem_of_getElem? (i := 30) (by decide +kernel))) rfl
theorem co_X10_gives : Cond.code yX10_gives cX10_gives 2 (Option.some Jvm.ClassFile.FieldType.int) ∈ sw_U := sw_in (sw_t5 (List.mem_of_getElem? (i := 31) (by decide +kernel))) rfl
theorem ml_L_120 : Cond.methodLink RL 120 yX10_first ∈ sw_U := sw_in (sw_t5 (List.mem_of_getElem? (i := 32) (by decide +kernel))) rfl
theorem im_X10_first : Cond.instanceMethod yX10_first ∈ sw_U := sw_in (sw_t5 (List.mem_of_getElem? (i := 33) (by decide +kernel))) rfl
theorem se_X10_first : Cond.selects yX10_first.cls yX10_first yX10_first ∈ sw_U := sw_in (sw_t5 (List.mem_of_getElem? (i := 34) (by decide +kernel))) rfl
theorem co_X10_first : Cond.code yX10_first cX10_first 2 (Option.some Jvm.ClassFile.FieldType.int) ∈ sw_U := sw_in (sw_t5 (List.mem_of_getElem? (i := 35) (by decide +kernel))) rfl
theorem fl_X10_292 : Cond.fieldLink RX10 292 "StrikeWheels$Order" "FIRST" "LStrikeWheels$Order;" ∈ sw_U := sw_in (sw_t5 (List.mem_of_getElem? (i := 36) (by decide +kernel))) rfl
theorem ml_L_123 : Cond.methodLink RL 123 yX10_swap ∈ sw_U := sw_in (sw_t5 (List.mem_of_getElem? (i := 38) (by decide +kernel))) rfl
theorem im_X10_swap : Cond.instanceMethod yX10_swap ∈ sw_U := sw_in (sw_t5 (List.mem_of_getElem? (i := 39) (by decide +kernel))) rfl
theorem se_X10_swap : Cond.selects yX10_swap.cls yX10_swap yX10_swap ∈ sw_U := sw_in (sw_t5 (List.mem_of_getElem? (i := 40) (by decide +kernel))) rfl
theorem co_X10_swap : Cond.code yX10_swap cX10_swap 3 (Option.some Jvm.ClassFile.FieldType.int) ∈ sw_U := sw_in (sw_t5 (List.mem_of_getElem? (i := 41) (by decide +kernel))) rfl
theorem fl_X10_283 : Cond.fieldLink RX10 283 "StrikeWheels$Order" "SWAP" "LStrikeWheels$Order;" ∈ sw_U := sw_in (sw_t5 (List.mem_of_getElem? (i := 42) (by decide +kernel))) rfl
theorem ml_L_126 : Cond.methodLink RL 126 yX10_both ∈ sw_U := sw_in (sw_t5 (List.mem_of_getElem? (i := 44) (by decide +kernel))) rfl
theorem im_X10_both : Cond.instanceMethod yX10_both ∈ sw_U := sw_in (sw_t5 (List.mem_of_getElem? (i := 45) (by decide +kernel))) rfl
theorem se_X10_both : Cond.selects yX10_both.cls yX10_both yX10_both ∈ sw_U := sw_in (sw_t5 (List.mem_of_getElem? (i := 46) (by decide +kernel))) rfl
theorem co_X10_both : Cond.code yX10_both cX10_both 5 (Option.some Jvm.ClassFile.FieldType.int) ∈ sw_U := sw_in (sw_t5 (List.mem_of_getElem? (i := 47) (by decide +kernel))) rfl
theorem ml_X10_225 : Cond.methodLink RX10 225 yX10_nextCommon ∈ sw_U := sw_in (sw_t5 (List.mem_of_getElem? (i := 48) (by decide +kernel))) rfl
theorem im_X10_nextCommon : Cond.instanceMethod yX10_nextCommon ∈ sw_U := sw_in (sw_t5 (List.mem_of_getElem? (i := 50) (by decide +kernel))) rfl
theorem co_X10_nextCommon : Cond.code yX10_nextCommon cX10_nextCommon 7 (Option.some Jvm.ClassFile.FieldType.int) ∈ sw_U := sw_in (sw_t5 (List.mem_of_getElem? (i := 51) (by decide +kernel))) rfl
theorem ml_L_129 : Cond.methodLink RL 129 yX10_wheel ∈ sw_U := sw_in (sw_t5 (List.mem_of_getElem? (i := 52) (by decide +kernel))) rfl
theorem im_X10_wheel : Cond.instanceMethod yX10_wheel ∈ sw_U := sw_in (sw_t5 (List.mem_of_getElem? (i := 53) (by decide +kernel))) rfl
theorem se_X10_wheel : Cond.selects yX10_wheel.cls yX10_wheel yX10_wheel ∈ sw_U := sw_in (sw_t5 (List.mem_of_getElem? (i := 54) (by decide +kernel))) rfl
theorem co_X10_wheel : Cond.code yX10_wheel cX10_wheel 2 (Option.some Jvm.ClassFile.FieldType.int) ∈ sw_U := sw_in (sw_t5 (List.mem_of_getElem? (i := 55) (by decide +kernel))) rfl
theorem fl_X10_295 : Cond.fieldLink RX10 295 "StrikeWheels$Order" "WHEEL" "LStrikeWheels$Order;" ∈ sw_U := sw_in (sw_t5 (List.mem_of_getElem? (i := 56) (by decide +kernel))) rfl
theorem ml_L_132 : Cond.methodLink RL 132 yX10_fill ∈ sw_U := sw_in (sw_t5 (List.mem_of_getElem? (i := 58) (by decide +kernel))) rfl
theorem im_X10_fill : Cond.instanceMethod yX10_fill ∈ sw_U := sw_in (sw_t5 (List.mem_of_getElem? (i := 59) (by decide +kernel))) rfl
theorem se_X10_fill : Cond.selects yX10_fill.cls yX10_fill yX10_fill ∈ sw_U := sw_in (sw_t5 (List.mem_of_getElem? (i := 60) (by decide +kernel))) rfl
theorem co_X10_fill : Cond.code yX10_fill cX10_fill 2 (Option.some Jvm.ClassFile.FieldType.int) ∈ sw_U := sw_in (sw_t5 (List.mem_of_getElem? (i := 61) (by decide +kernel))) rfl
theorem fl_X10_298 : Cond.fieldLink RX10 298 "StrikeWheels$Order" "FILL" "LStrikeWheels$Order;" ∈ sw_U := sw_in (sw_t5 (List.mem_of_getElem? (i := 62) (by decide +kernel))) rfl
theorem ml_L_135 : Cond.methodLink RL 135 yX10_tidy ∈ sw_U := sw_in (sw_t5 (List.mem_of_getElem? (i := 64) (by decide +kernel))) rfl
theorem im_X10_tidy : Cond.instanceMethod yX10_tidy ∈ sw_U := sw_in (sw_t5 (List.mem_of_getElem? (i := 65) (by decide +kernel))) rfl
theorem se_X10_tidy : Cond.selects yX10_tidy.cls yX10_tidy yX10_tidy ∈ sw_U := sw_in (sw_t5 (List.mem_of_getElem? (i := 66) (by decide +kernel))) rfl
theorem co_X10_tidy : Cond.code yX10_tidy cX10_tidy 1 (Option.some Jvm.ClassFile.FieldType.int) ∈ sw_U := sw_in (sw_t5 (List.mem_of_getElem? (i := 67) (by decide +kernel))) rfl
theorem fl_X10_301 : Cond.fieldLink RX10 301 "StrikeWheels$Order" "TIDY" "LStrikeWheels$Order;" ∈ sw_U := sw_in (sw_t5 (List.mem_of_getElem? (i := 68) (by decide +kernel))) rfl
theorem ml_L_138 : Cond.methodLink RL 138 yX10_drop ∈ sw_U := sw_in (sw_t5 (List.mem_of_getElem? (i := 70) (by decide +kernel))) rfl
theorem im_X10_drop : Cond.instanceMethod yX10_drop ∈ sw_U := sw_in (sw_t5 (List.mem_of_getElem? (i := 71) (by decide +kernel))) rfl
theorem se_X10_drop : Cond.selects yX10_drop.cls yX10_drop yX10_drop ∈ sw_U := sw_in (sw_t5 (List.mem_of_getElem? (i := 72) (by decide +kernel))) rfl
theorem co_X10_drop : Cond.code yX10_drop cX10_drop 1 (Option.some Jvm.ClassFile.FieldType.int) ∈ sw_U := sw_in (sw_t5 (List.mem_of_getElem? (i := 73) (by decide +kernel))) rfl
theorem fl_X10_277 : Cond.fieldLink RX10 277 "StrikeWheels$Order" "DROP" "LStrikeWheels$Order;" ∈ sw_U := sw_in (sw_t5 (List.mem_of_getElem? (i := 74) (by decide +kernel))) rfl
theorem cl_L_146 : Cond.classLink RL 146 RJ4 ∈ sw_U := sw_in (sw_t5 (List.mem_of_getElem? (i := 76) (by decide +kernel))) rfl
theorem ins_J4 : Cond.instantiable RJ4 4 ∈ sw_U := sw_in (sw_t5 (List.mem_of_getElem? (i := 77) (by decide +kernel))) rfl
theorem ml_L_150 : Cond.methodLink RL 150 yJ4_init_a7421 ∈ sw_U := sw_in (sw_t5 (List.mem_of_getElem? (i := 78) (by decide +kernel))) rfl
theorem im_J4_init_a7421 : Cond.instanceMethod yJ4_init_a7421 ∈ sw_U := sw_in (sw_t5 (List.mem_of_getElem? (i := 79) (by decide +kernel))) rfl
theorem co_J4_init_a7421 : Cond.code yJ4_init_a7421 cJ4_init_a7421 2 (Option.none : Option Jvm.ClassFile.FieldType) ∈ sw_U := sw_in (sw_t5 (List.mem_of_getElem? (i := 80) (by decide +kernel))) rfl
theorem ml_J4_7 : Cond.methodLink RJ4 7 yJ5_init_a7421 ∈ sw_U := sw_in (sw_t5 (List.mem_of_getElem? (i := 81) (by decide +kernel))) rfl
theorem im_J5_init_a7421 : Cond.instanceMethod yJ5_init_a7421 ∈ sw_U := sw_in (sw_t5 (List.mem_of_getElem? (i := 82) (by decide +kernel))) rfl
theorem co_J5_init_a7421 : Cond.code yJ5_init_a7421 cJ5_init_a7421 5 (Option.none : Option Jvm.ClassFile.FieldType) ∈ sw_U := sw_in (sw_t5 (List.mem_of_getElem? (i := 83) (by decide +kernel))) rfl
theorem ml_J5_3 : Cond.methodLink RJ5 3 ⟨"java/lang/Object", "<init>", "()V"⟩ ∈ sw_U := sw_in (sw_t5 (List.mem_of_getElem? (i := 84) (by decide +kernel))) rfl
theorem ml_J5_32 : Cond.methodLink RJ5 32 yJ0_length_8abf5 ∈ sw_U := sw_in (sw_t5 (List.mem_of_getElem? (i := 85) (by decide +kernel))) rfl
theorem kc_J5_38 : Cond.constant RJ5 38 2147483631 ∈ sw_U := sw_in (sw_t5 (List.mem_of_getElem? (i := 86) (by decide +kernel))) rfl
theorem kc_J5_39 : Cond.constant RJ5 39 2147483647 ∈ sw_U := sw_in (sw_t5 (List.mem_of_getElem? (i := 87) (by decide +kernel))) rfl
theorem ml_J5_40 : Cond.methodLink RJ5 40 yJ0_coder_7d493 ∈ sw_U := sw_in (sw_t5 (List.mem_of_getElem? (i := 88) (by decide +kernel))) rfl
theorem ml_J5_26 : Cond.methodLink RJ5 26 yJ2_newBytesFor_77867 ∈ sw_U := sw_in (sw_t5 (List.mem_of_getElem? (i := 89) (by decide +kernel))) rfl
theorem st_J2_newBytesFor_77867 : Cond.static yJ2_newBytesFor_77867 ∈ sw_U := sw_in (sw_t5 (List.mem_of_getElem? (i := 90) (by decide +kernel))) rfl
theorem co_J2_newBytesFor_77867 : Cond.code yJ2_newBytesFor_77867 cJ2_newBytesFor_77867 1 (Option.some (Jvm.ClassFile.FieldType.array Jvm.ClassFile.FieldType.byte)) ∈ sw_U := sw_in (sw_t5 (List.mem_of_getElem? (i := 91) (by decide +kernel))) rfl
theorem ml_J2_11 : Cond.methodLink RJ2 11 yJ2_newBytesLength_0f7a4 ∈ sw_U := sw_in (sw_t5 (List.mem_of_getElem? (i := 92) (by decide +kernel))) rfl
theorem st_J2_newBytesLength_0f7a4 : Cond.static yJ2_newBytesLength_0f7a4 ∈ sw_U := sw_in (sw_t5 (List.mem_of_getElem? (i := 93) (by decide +kernel))) rfl
theorem co_J2_newBytesLength_0f7a4 : Cond.code yJ2_newBytesLength_0f7a4 cJ2_newBytesLength_0f7a4 1 (Option.some Jvm.ClassFile.FieldType.int) ∈ sw_U := sw_in (sw_t5 (List.mem_of_getElem? (i := 94) (by decide +kernel))) rfl
theorem kc_J2_20 : Cond.constant RJ2 20 1073741823 ∈ sw_U := sw_in (sw_t5 (List.mem_of_getElem? (i := 95) (by decide +kernel))) rfl
theorem ml_J5_43 : Cond.methodLink RJ5 43 yJ5_append_cf1ce ∈ sw_U := sw_in (sw_t5 (List.mem_of_getElem? (i := 96) (by decide +kernel))) rfl
theorem im_J5_append_cf1ce : Cond.instanceMethod yJ5_append_cf1ce ∈ sw_U := sw_in (sw_t5 (List.mem_of_getElem? (i := 97) (by decide +kernel))) rfl
theorem sm_J5_append_cf1ce : Cond.sameMethod yJ5_append_cf1ce.cls yJ5_append_cf1ce.cls yJ5_append_cf1ce.name yJ5_append_cf1ce.desc ∈ sw_U := sw_in (sw_t5 (List.mem_of_getElem? (i := 98) (by decide +kernel))) rfl
theorem sx_J5_append_cf1ce : Cond.selects "java/lang/StringBuilder" yJ5_append_cf1ce yJ4_append_cf1ce ∈ sw_U := sw_in (sw_t5 (List.mem_of_getElem? (i := 99) (by decide +kernel))) rfl
theorem im_J4_append_cf1ce : Cond.instanceMethod yJ4_append_cf1ce ∈ sw_U := sw_in (sw_t5 (List.mem_of_getElem? (i := 100) (by decide +kernel))) rfl
theorem co_J4_append_cf1ce : Cond.code yJ4_append_cf1ce cJ4_append_cf1ce 2 (Option.some (Jvm.ClassFile.FieldType.object "java/lang/AbstractStringBuilder")) ∈ sw_U := sw_in (sw_t5 (List.mem_of_getElem? (i := 101) (by decide +kernel))) rfl
theorem ml_J4_23 : Cond.methodLink RJ4 23 yJ4_append_15ec4 ∈ sw_U := sw_in (sw_t5 (List.mem_of_getElem? (i := 102) (by decide +kernel))) rfl
theorem im_J4_append_15ec4 : Cond.instanceMethod yJ4_append_15ec4 ∈ sw_U := sw_in (sw_t5 (List.mem_of_getElem? (i := 103) (by decide +kernel))) rfl
theorem se_J4_append_15ec4 : Cond.selects yJ4_append_15ec4.cls yJ4_append_15ec4 yJ4_append_15ec4 ∈ sw_U := sw_in (sw_t5 (List.mem_of_getElem? (i := 104) (by decide +kernel))) rfl
theorem co_J4_append_15ec4 : Cond.code yJ4_append_15ec4 cJ4_append_15ec4 2 (Option.some (Jvm.ClassFile.FieldType.object "java/lang/StringBuilder")) ∈ sw_U := sw_in (sw_t5 (List.mem_of_getElem? (i := 105) (by decide +kernel))) rfl
theorem ml_J4_29 : Cond.methodLink RJ4 29 yJ5_append_cf1ce ∈ sw_U := sw_in (sw_t5 (List.mem_of_getElem? (i := 106) (by decide +kernel))) rfl
theorem sup_J4 : Cond.superclass RJ4 RJ5 ∈ sw_U := sw_in (sw_t5 (List.mem_of_getElem? (i := 107) (by decide +kernel))) rfl
theorem co_J5_append_cf1ce : Cond.code yJ5_append_cf1ce cJ5_append_cf1ce 3 (Option.some (Jvm.ClassFile.FieldType.object "java/lang/AbstractStringBuilder")) ∈ sw_U := sw_in (sw_t5 (List.mem_of_getElem? (i := 108) (by decide +kernel))) rfl
theorem ml_J5_204 : Cond.methodLink RJ5 204 yJ5_appendNull_278bc ∈ sw_U := sw_in (sw_t5 (List.mem_of_getElem? (i := 109) (by decide +kernel))) rfl
theorem pm_J5_appendNull_278bc : Cond.privateMethod yJ5_appendNull_278bc ∈ lw_tbl := sw_t5 (List.mem_of_getElem? (i := 110) (by decide +kernel))
theorem im_J5_appendNull_278bc : Cond.instanceMethod yJ5_appendNull_278bc ∈ sw_U := sw_in (sw_t5 (List.mem_of_getElem? (i := 111) (by decide +kernel))) rfl
theorem co_J5_appendNull_278bc : Cond.code yJ5_appendNull_278bc cJ5_appendNull_278bc 3 (Option.some (Jvm.ClassFile.FieldType.object "java/lang/AbstractStringBuilder")) ∈ sw_U := sw_in (sw_t5 (List.mem_of_getElem? (i := 112) (by decide +kernel))) rfl
theorem ml_J5_100 : Cond.methodLink RJ5 100 yJ5_ensureCapacityInternal_d00df ∈ sw_U := sw_in (sw_t5 (List.mem_of_getElem? (i := 113) (by decide +kernel))) rfl
theorem pm_J5_ensureCapacityInternal_d00df : Cond.privateMethod yJ5_ensureCapacityInternal_d00df ∈ lw_tbl := sw_t5 (List.mem_of_getElem? (i := 114) (by decide +kernel))
theorem im_J5_ensureCapacityInternal_d00df : Cond.instanceMethod yJ5_ensureCapacityInternal_d00df ∈ sw_U := sw_in (sw_t5 (List.mem_of_getElem? (i := 115) (by decide +kernel))) rfl
theorem co_J5_ensureCapacityInternal_d00df : Cond.code yJ5_ensureCapacityInternal_d00df cJ5_ensureCapacityInternal_d00df 3 (Option.none : Option Jvm.ClassFile.FieldType) ∈ sw_U := sw_in (sw_t5 (List.mem_of_getElem? (i := 116) (by decide +kernel))) rfl
theorem ml_J5_104 : Cond.methodLink RJ5 104 yJ5_newCapacity_0f7a4 ∈ sw_U := sw_in (sw_t5 (List.mem_of_getElem? (i := 117) (by decide +kernel))) rfl
theorem pm_J5_newCapacity_0f7a4 : Cond.privateMethod yJ5_newCapacity_0f7a4 ∈ lw_tbl := sw_t5 (List.mem_of_getElem? (i := 118) (by decide +kernel))
theorem im_J5_newCapacity_0f7a4 : Cond.instanceMethod yJ5_newCapacity_0f7a4 ∈ sw_U := sw_in (sw_t5 (List.mem_of_getElem? (i := 119) (by decide +kernel))) rfl
theorem co_J5_newCapacity_0f7a4 : Cond.code yJ5_newCapacity_0f7a4 cJ5_newCapacity_0f7a4 6 (Option.some Jvm.ClassFile.FieldType.int) ∈ sw_U := sw_in (sw_t5 (List.mem_of_getElem? (i := 120) (by decide +kernel))) rfl
theorem ml_J5_114 : Cond.methodLink RJ5 114 yJ8_newLength_cabcc ∈ sw_U := sw_in (sw_t5 (List.mem_of_getElem? (i := 121) (by decide +kernel))) rfl
theorem st_J8_newLength_cabcc : Cond.static yJ8_newLength_cabcc ∈ sw_U := sw_in (sw_t5 (List.mem_of_getElem? (i := 122) (by decide +kernel))) rfl
theorem co_J8_newLength_cabcc : Cond.code yJ8_newLength_cabcc cJ8_newLength_cabcc 4 (Option.some Jvm.ClassFile.FieldType.int) ∈ sw_U := sw_in (sw_t5 (List.mem_of_getElem? (i := 123) (by decide +kernel))) rfl
theorem ml_J8_194 : Cond.methodLink RJ8 194 yJ9_max_7cf53 ∈ sw_U := sw_in (sw_t5 (List.mem_of_getElem? (i := 124) (by decide +kernel))) rfl
theorem kc_J8_200 : Cond.constant RJ8 200 2147483639 ∈ sw_U := sw_in (sw_t5 (List.mem_of_getElem? (i := 125) (by decide +kernel))) rfl
theorem ml_J8_201 : Cond.methodLink RJ8 201 yJ8_hugeLength_7cf53 ∈ sw_U := sw_in (sw_t5 (List.mem_of_getElem? (i := 126) (by decide +kernel))) rfl
theorem st_J8_hugeLength_7cf53 : Cond.static yJ8_hugeLength_7cf53 ∈ sw_U := sw_in (sw_t5 (List.mem_of_getElem? (i := 127) (by decide +kernel))) rfl
theorem co_J8_hugeLength_7cf53 : Cond.code yJ8_hugeLength_7cf53 cJ8_hugeLength_7cf53 3 (Option.some Jvm.ClassFile.FieldType.int) ∈ sw_U := sw_in (sw_t5 (List.mem_of_getElem? (i := 128) (by decide +kernel))) rfl
theorem ml_J5_108 : Cond.methodLink RJ5 108 yJ7_copyOf_9075b ∈ sw_U := sw_in (sw_t5 (List.mem_of_getElem? (i := 129) (by decide +kernel))) rfl
theorem st_J7_copyOf_9075b : Cond.static yJ7_copyOf_9075b ∈ sw_U := sw_in (sw_t5 (List.mem_of_getElem? (i := 130) (by decide +kernel))) rfl
theorem co_J7_copyOf_9075b : Cond.code yJ7_copyOf_9075b cJ7_copyOf_9075b 3 (Option.some (Jvm.ClassFile.FieldType.array Jvm.ClassFile.FieldType.byte)) ∈ sw_U := sw_in (sw_t5 (List.mem_of_getElem? (i := 131) (by decide +kernel))) rfl
theorem ml_J7_310 : Cond.methodLink RJ7 310 ⟨"[B", "clone", "()Ljava/lang/Object;"⟩ ∈ sw_U := sw_in (sw_t5 (List.mem_of_getElem? (i := 132) (by decide +kernel))) rfl
theorem cln_sm : Cond.sameMethod "[B" "java/lang/Object" "clone" "()Ljava/lang/Object;" ∈ sw_U := sw_in (sw_t5 (List.mem_of_getElem? (i := 133) (by decide +kernel))) rfl
theorem cln_nat : Cond.native ⟨"java/lang/Object", "clone", "()Ljava/lang/Object;"⟩ ∈ sw_U := sw_in (sw_t5 (List.mem_of_getElem? (i := 134) (by decide +kernel))) rfl
theorem cln_im : Cond.instanceMethod ⟨"java/lang/Object", "clone", "()Ljava/lang/Object;"⟩ ∈ sw_U := sw_in (sw_t5 (List.mem_of_getElem? (i := 135) (by decide +kernel))) rfl
theorem cln_se : Cond.selects "[B" ⟨"[B", "clone", "()Ljava/lang/Object;"⟩ ⟨"java/lang/Object", "clone", "()Ljava/lang/Object;"⟩ ∈ sw_U := sw_in (sw_t5 (List.mem_of_getElem? (i := 136) (by decide +kernel))) rfl
theorem cln_cs : Cond.castable "[B" "java/lang/Cloneable" ∈ lw_tbl := sw_t5 (List.mem_of_getElem? (i := 137) (by decide +kernel))
theorem cl_J7_311 : Cond.classLink RJ7 311 "[B" ∈ sw_U := sw_in (sw_t5 (List.mem_of_getElem? (i := 138) (by decide +kernel))) rfl
theorem ml_J7_304 : Cond.methodLink RJ7 304 yJ9_min_7cf53 ∈ sw_U := sw_in (sw_t5 (List.mem_of_getElem? (i := 139) (by decide +kernel))) rfl
theorem ml_J7_150 : Cond.methodLink RJ7 150 ⟨"java/lang/System", "arraycopy", "(Ljava/lang/Object;ILjava/lang/Object;II)V"⟩ ∈ sw_U := sw_in (sw_t5 (List.mem_of_getElem? (i := 140) (by decide +kernel))) rfl
theorem ml_J5_83 : Cond.methodLink RJ5 83 yJ5_isLatin1_aae02 ∈ sw_U := sw_in (sw_t5 (List.mem_of_getElem? (i := 141) (by decide +kernel))) rfl
theorem im_J5_isLatin1_aae02 : Cond.instanceMethod yJ5_isLatin1_aae02 ∈ sw_U := sw_in (sw_t5 (List.mem_of_getElem? (i := 142) (by decide +kernel))) rfl
theorem sm_J5_isLatin1_aae02 : Cond.sameMethod yJ5_isLatin1_aae02.cls yJ5_isLatin1_aae02.cls yJ5_isLatin1_aae02.name yJ5_isLatin1_aae02.desc ∈ sw_U := sw_in (sw_t5 (List.mem_of_getElem? (i := 143) (by decide +kernel))) rfl
theorem sx_J5_isLatin1_aae02 : Cond.selects "java/lang/StringBuilder" yJ5_isLatin1_aae02 yJ5_isLatin1_aae02 ∈ sw_U := sw_in (sw_t5 (List.mem_of_getElem? (i := 144) (by decide +kernel))) rfl
theorem co_J5_isLatin1_aae02 : Cond.code yJ5_isLatin1_aae02 cJ5_isLatin1_aae02 1 (Option.some Jvm.ClassFile.FieldType.boolean) ∈ sw_U := sw_in (sw_t5 (List.mem_of_getElem? (i := 145) (by decide +kernel))) rfl
theorem fl_J5_18 : Cond.fieldLink RJ5 18 "java/lang/String" "COMPACT_STRINGS" "Z" ∈ sw_U := sw_in (sw_t5 (List.mem_of_getElem? (i := 146) (by decide +kernel))) rfl
theorem ml_J5_226 : Cond.methodLink RJ5 226 yJ2_putCharsAt_cd4e5 ∈ sw_U := sw_in (sw_t5 (List.mem_of_getElem? (i := 147) (by decide +kernel))) rfl
theorem st_J2_putCharsAt_cd4e5 : Cond.static yJ2_putCharsAt_cd4e5 ∈ sw_U := sw_in (sw_t5 (List.mem_of_getElem? (i := 148) (by decide +kernel))) rfl
theorem co_J2_putCharsAt_cd4e5 : Cond.code yJ2_putCharsAt_cd4e5 cJ2_putCharsAt_cd4e5 7 (Option.some Jvm.ClassFile.FieldType.int) ∈ sw_U := sw_in (sw_t5 (List.mem_of_getElem? (i := 149) (by decide +kernel))) rfl
theorem ml_J2_96 : Cond.methodLink RJ2 96 yJ2_checkBoundsBeginEnd_d044e ∈ sw_U := sw_in (sw_t5 (List.mem_of_getElem? (i := 150) (by decide +kernel))) rfl
theorem st_J2_checkBoundsBeginEnd_d044e : Cond.static yJ2_checkBoundsBeginEnd_d044e ∈ sw_U := sw_in (sw_t5 (List.mem_of_getElem? (i := 151) (by decide +kernel))) rfl
theorem co_J2_checkBoundsBeginEnd_d044e : Cond.code yJ2_checkBoundsBeginEnd_d044e cJ2_checkBoundsBeginEnd_d044e 3 (Option.none : Option Jvm.ClassFile.FieldType) ∈ sw_U := sw_in (sw_t5 (List.mem_of_getElem? (i := 152) (by decide +kernel))) rfl
theorem ml_J2_241 : Cond.methodLink RJ2 241 yJ0_checkBoundsBeginEnd_23922 ∈ sw_U := sw_in (sw_t5 (List.mem_of_getElem? (i := 153) (by decide +kernel))) rfl
theorem st_J0_checkBoundsBeginEnd_23922 : Cond.static yJ0_checkBoundsBeginEnd_23922 ∈ sw_U := sw_in (sw_t5 (List.mem_of_getElem? (i := 154) (by decide +kernel))) rfl
theorem co_J0_checkBoundsBeginEnd_23922 : Cond.code yJ0_checkBoundsBeginEnd_23922 cJ0_checkBoundsBeginEnd_23922 3 (Option.none : Option Jvm.ClassFile.FieldType) ∈ sw_U := sw_in (sw_t5 (List.mem_of_getElem? (i := 155) (by decide +kernel))) rfl
theorem ml_J0_1062 : Cond.methodLink RJ0 1062 yJ3_checkFromToIndex_8c36e ∈ sw_U := sw_in (sw_t5 (List.mem_of_getElem? (i := 156) (by decide +kernel))) rfl
theorem st_J3_checkFromToIndex_8c36e : Cond.static yJ3_checkFromToIndex_8c36e ∈ sw_U := sw_in (sw_t5 (List.mem_of_getElem? (i := 157) (by decide +kernel))) rfl
theorem co_J3_checkFromToIndex_8c36e : Cond.code yJ3_checkFromToIndex_8c36e cJ3_checkFromToIndex_8c36e 4 (Option.some Jvm.ClassFile.FieldType.int) ∈ sw_U := sw_in (sw_t5 (List.mem_of_getElem? (i := 158) (by decide +kernel))) rfl
theorem ml_J2_111 : Cond.methodLink RJ2 111 yJ2_putChar_b72d1 ∈ sw_U := sw_in (sw_t5 (List.mem_of_getElem? (i := 159) (by decide +kernel))) rfl
theorem st_J2_putChar_b72d1 : Cond.static yJ2_putChar_b72d1 ∈ sw_U := sw_in (sw_t5 (List.mem_of_getElem? (i := 160) (by decide +kernel))) rfl
theorem co_J2_putChar_b72d1 : Cond.code yJ2_putChar_b72d1 cJ2_putChar_b72d1 3 (Option.none : Option Jvm.ClassFile.FieldType) ∈ sw_U := sw_in (sw_t5 (List.mem_of_getElem? (i := 161) (by decide +kernel))) rfl
theorem ml_J5_208 : Cond.methodLink RJ5 208 yJ5_putStringAt_47b60 ∈ sw_U := sw_in (sw_t5 (List.mem_of_getElem? (i := 162) (by decide +kernel))) rfl
theorem pm_J5_putStringAt_47b60 : Cond.privateMethod yJ5_putStringAt_47b60 ∈ lw_tbl := sw_t5 (List.mem_of_getElem? (i := 163) (by decide +kernel))
theorem im_J5_putStringAt_47b60 : Cond.instanceMethod yJ5_putStringAt_47b60 ∈ sw_U := sw_in (sw_t5 (List.mem_of_getElem? (i := 164) (by decide +kernel))) rfl
theorem co_J5_putStringAt_47b60 : Cond.code yJ5_putStringAt_47b60 cJ5_putStringAt_47b60 3 (Option.none : Option Jvm.ClassFile.FieldType) ∈ sw_U := sw_in (sw_t5 (List.mem_of_getElem? (i := 165) (by decide +kernel))) rfl
theorem ml_J5_397 : Cond.methodLink RJ5 397 yJ5_inflateIfNeededFor_a7421 ∈ sw_U := sw_in (sw_t5 (List.mem_of_getElem? (i := 166) (by decide +kernel))) rfl
theorem pm_J5_inflateIfNeededFor_a7421 : Cond.privateMethod yJ5_inflateIfNeededFor_a7421 ∈ lw_tbl := sw_t5 (List.mem_of_getElem? (i := 167) (by decide +kernel))
theorem im_J5_inflateIfNeededFor_a7421 : Cond.instanceMethod yJ5_inflateIfNeededFor_a7421 ∈ sw_U := sw_in (sw_t5 (List.mem_of_getElem? (i := 168) (by decide +kernel))) rfl
theorem co_J5_inflateIfNeededFor_a7421 : Cond.code yJ5_inflateIfNeededFor_a7421 cJ5_inflateIfNeededFor_a7421 2 (Option.none : Option Jvm.ClassFile.FieldType) ∈ sw_U := sw_in (sw_t5 (List.mem_of_getElem? (i := 169) (by decide +kernel))) rfl
theorem ml_J5_195 : Cond.methodLink RJ5 195 yJ5_inflate_da8c8 ∈ sw_U := sw_in (sw_t5 (List.mem_of_getElem? (i := 170) (by decide +kernel))) rfl
theorem pm_J5_inflate_da8c8 : Cond.privateMethod yJ5_inflate_da8c8 ∈ lw_tbl := sw_t5 (List.mem_of_getElem? (i := 171) (by decide +kernel))
theorem im_J5_inflate_da8c8 : Cond.instanceMethod yJ5_inflate_da8c8 ∈ sw_U := sw_in (sw_t5 (List.mem_of_getElem? (i := 172) (by decide +kernel))) rfl
theorem co_J5_inflate_da8c8 : Cond.code yJ5_inflate_da8c8 cJ5_inflate_da8c8 2 (Option.none : Option Jvm.ClassFile.FieldType) ∈ sw_U := sw_in (sw_t5 (List.mem_of_getElem? (i := 173) (by decide +kernel))) rfl
theorem ml_J5_125 : Cond.methodLink RJ5 125 yJ1_inflate_0e8fd ∈ sw_U := sw_in (sw_t5 (List.mem_of_getElem? (i := 174) (by decide +kernel))) rfl
theorem st_J1_inflate_0e8fd : Cond.static yJ1_inflate_0e8fd ∈ sw_U := sw_in (sw_t5 (List.mem_of_getElem? (i := 175) (by decide +kernel))) rfl
theorem co_J1_inflate_0e8fd : Cond.code yJ1_inflate_0e8fd cJ1_inflate_0e8fd 5 (Option.none : Option Jvm.ClassFile.FieldType) ∈ sw_U := sw_in (sw_t5 (List.mem_of_getElem? (i := 176) (by decide +kernel))) rfl
theorem ml_J1_240 : Cond.methodLink RJ1 240 yJ2_inflate_0e8fd ∈ sw_U := sw_in (sw_t5 (List.mem_of_getElem? (i := 177) (by decide +kernel))) rfl
theorem st_J2_inflate_0e8fd : Cond.static yJ2_inflate_0e8fd ∈ sw_U := sw_in (sw_t5 (List.mem_of_getElem? (i := 178) (by decide +kernel))) rfl
theorem co_J2_inflate_0e8fd : Cond.code yJ2_inflate_0e8fd cJ2_inflate_0e8fd 6 (Option.none : Option Jvm.ClassFile.FieldType) ∈ sw_U := sw_in (sw_t5 (List.mem_of_getElem? (i := 179) (by decide +kernel))) rfl
theorem ml_J2_173 : Cond.methodLink RJ2 173 yJ2_checkBoundsOffCount_d044e ∈ sw_U := sw_in (sw_t5 (List.mem_of_getElem? (i := 180) (by decide +kernel))) rfl
theorem st_J2_checkBoundsOffCount_d044e : Cond.static yJ2_checkBoundsOffCount_d044e ∈ sw_U := sw_in (sw_t5 (List.mem_of_getElem? (i := 181) (by decide +kernel))) rfl
theorem co_J2_checkBoundsOffCount_d044e : Cond.code yJ2_checkBoundsOffCount_d044e cJ2_checkBoundsOffCount_d044e 3 (Option.none : Option Jvm.ClassFile.FieldType) ∈ sw_U := sw_in (sw_t5 (List.mem_of_getElem? (i := 182) (by decide +kernel))) rfl
theorem ml_J2_419 : Cond.methodLink RJ2 419 yJ0_checkBoundsOffCount_cabcc ∈ sw_U := sw_in (sw_t5 (List.mem_of_getElem? (i := 183) (by decide +kernel))) rfl
theorem st_J0_checkBoundsOffCount_cabcc : Cond.static yJ0_checkBoundsOffCount_cabcc ∈ sw_U := sw_in (sw_t5 (List.mem_of_getElem? (i := 184) (by decide +kernel))) rfl
theorem co_J0_checkBoundsOffCount_cabcc : Cond.code yJ0_checkBoundsOffCount_cabcc cJ0_checkBoundsOffCount_cabcc 3 (Option.some Jvm.ClassFile.FieldType.int) ∈ sw_U := sw_in (sw_t5 (List.mem_of_getElem? (i := 185) (by decide +kernel))) rfl
theorem ml_J0_1065 : Cond.methodLink RJ0 1065 yJ3_checkFromIndexSize_8c36e ∈ sw_U := sw_in (sw_t5 (List.mem_of_getElem? (i := 186) (by decide +kernel))) rfl
theorem st_J3_checkFromIndexSize_8c36e : Cond.static yJ3_checkFromIndexSize_8c36e ∈ sw_U := sw_in (sw_t5 (List.mem_of_getElem? (i := 187) (by decide +kernel))) rfl
theorem co_J3_checkFromIndexSize_8c36e : Cond.code yJ3_checkFromIndexSize_8c36e cJ3_checkFromIndexSize_8c36e 4 (Option.some Jvm.ClassFile.FieldType.int) ∈ sw_U := sw_in (sw_t5 (List.mem_of_getElem? (i := 188) (by decide +kernel))) rfl
theorem ml_J5_399 : Cond.methodLink RJ5 399 yJ0_getBytes_840e7 ∈ sw_U := sw_in (sw_t5 (List.mem_of_getElem? (i := 189) (by decide +kernel))) rfl
theorem im_J0_getBytes_840e7 : Cond.instanceMethod yJ0_getBytes_840e7 ∈ sw_U := sw_in (sw_t5 (List.mem_of_getElem? (i := 190) (by decide +kernel))) rfl
theorem se_J0_getBytes_840e7 : Cond.selects yJ0_getBytes_840e7.cls yJ0_getBytes_840e7 yJ0_getBytes_840e7 ∈ sw_U := sw_in (sw_t5 (List.mem_of_getElem? (i := 191) (by decide +kernel))) rfl
theorem co_J0_getBytes_840e7 : Cond.code yJ0_getBytes_840e7 cJ0_getBytes_840e7 4 (Option.none : Option Jvm.ClassFile.FieldType) ∈ sw_U := sw_in (sw_t5 (List.mem_of_getElem? (i := 192) (by decide +kernel))) rfl
theorem ml_J0_212 : Cond.methodLink RJ0 212 ⟨"java/lang/System", "arraycopy", "(Ljava/lang/Object;ILjava/lang/Object;II)V"⟩ ∈ sw_U := sw_in (sw_t5 (List.mem_of_getElem? (i := 193) (by decide +kernel))) rfl
theorem ml_J0_106 : Cond.methodLink RJ0 106 yJ1_inflate_0e8fd ∈ sw_U := sw_in (sw_t5 (List.mem_of_getElem? (i := 194) (by decide +kernel))) rfl
theorem fl_J5_15 : Cond.fieldLink RJ5 15 "java/lang/AbstractStringBuilder" "value" "[B" ∈ sw_U := sw_in (sw_t5 (List.mem_of_getElem? (i := 195) (by decide +kernel))) rfl
theorem fl_J5_22 : Cond.fieldLink RJ5 22 "java/lang/AbstractStringBuilder" "coder" "B" ∈ sw_U := sw_in (sw_t5 (List.mem_of_getElem? (i := 196) (by decide +kernel))) rfl
theorem fl_J0_1048 : Cond.fieldLink RJ0 1048 "java/lang/AbstractStringBuilder" "maybeLatin1" "Z" ∈ sw_U := sw_in (sw_t5 (List.mem_of_getElem? (i := 197) (by decide +kernel))) rfl
theorem fl_J5_79 : Cond.fieldLink RJ5 79 "java/lang/AbstractStringBuilder" "count" "I" ∈ sw_U := sw_in (sw_t5 (List.mem_of_getElem? (i := 198) (by decide +kernel))) rfl
theorem ml_L_162 : Cond.methodLink RL 162 yJ4_append_15ec4 ∈ sw_U := sw_in (sw_t5 (List.mem_of_getElem? (i := 207) (by decide +kernel))) rfl
theorem ml_L_157 : Cond.methodLink RL 157 yJ4_append_cf468 ∈ sw_U := sw_in (sw_t5 (List.mem_of_getElem? (i := 208) (by decide +kernel))) rfl
theorem im_J4_append_cf468 : Cond.instanceMethod yJ4_append_cf468 ∈ sw_U := sw_in (sw_t5 (List.mem_of_getElem? (i := 209) (by decide +kernel))) rfl
theorem se_J4_append_cf468 : Cond.selects yJ4_append_cf468.cls yJ4_append_cf468 yJ4_append_cf468 ∈ sw_U := sw_in (sw_t5 (List.mem_of_getElem? (i := 210) (by decide +kernel))) rfl
theorem co_J4_append_cf468 : Cond.code yJ4_append_cf468 cJ4_append_cf468 2 (Option.some (Jvm.ClassFile.FieldType.object "java/lang/StringBuilder")) ∈ sw_U := sw_in (sw_t5 (List.mem_of_getElem? (i := 211) (by decide +kernel))) rfl
theorem ml_J4_50 : Cond.methodLink RJ4 50 yJ5_append_3fe6f ∈ sw_U := sw_in (sw_t5 (List.mem_of_getElem? (i := 212) (by decide +kernel))) rfl
theorem im_J5_append_3fe6f : Cond.instanceMethod yJ5_append_3fe6f ∈ sw_U := sw_in (sw_t5 (List.mem_of_getElem? (i := 213) (by decide +kernel))) rfl
theorem co_J5_append_3fe6f : Cond.code yJ5_append_3fe6f cJ5_append_3fe6f 2 (Option.some (Jvm.ClassFile.FieldType.object "java/lang/AbstractStringBuilder")) ∈ sw_U := sw_in (sw_t5 (List.mem_of_getElem? (i := 214) (by decide +kernel))) rfl
theorem ml_J5_191 : Cond.methodLink RJ5 191 yJ1_canEncode_fc78d ∈ sw_U := sw_in (sw_t5 (List.mem_of_getElem? (i := 215) (by decide +kernel))) rfl
theorem st_J1_canEncode_fc78d : Cond.static yJ1_canEncode_fc78d ∈ sw_U := sw_in (sw_t5 (List.mem_of_getElem? (i := 216) (by decide +kernel))) rfl
theorem co_J1_canEncode_fc78d : Cond.code yJ1_canEncode_fc78d cJ1_canEncode_fc78d 1 (Option.some Jvm.ClassFile.FieldType.boolean) ∈ sw_U := sw_in (sw_t5 (List.mem_of_getElem? (i := 217) (by decide +kernel))) rfl
theorem ml_J5_197 : Cond.methodLink RJ5 197 yJ2_putCharSB_b72d1 ∈ sw_U := sw_in (sw_t5 (List.mem_of_getElem? (i := 218) (by decide +kernel))) rfl
theorem st_J2_putCharSB_b72d1 : Cond.static yJ2_putCharSB_b72d1 ∈ sw_U := sw_in (sw_t5 (List.mem_of_getElem? (i := 219) (by decide +kernel))) rfl
theorem co_J2_putCharSB_b72d1 : Cond.code yJ2_putCharSB_b72d1 cJ2_putCharSB_b72d1 3 (Option.none : Option Jvm.ClassFile.FieldType) ∈ sw_U := sw_in (sw_t5 (List.mem_of_getElem? (i := 220) (by decide +kernel))) rfl
theorem ml_L_153 : Cond.methodLink RL 153 yJ4_append_bf812 ∈ sw_U := sw_in (sw_t5 (List.mem_of_getElem? (i := 221) (by decide +kernel))) rfl
theorem im_J4_append_bf812 : Cond.instanceMethod yJ4_append_bf812 ∈ sw_U := sw_in (sw_t5 (List.mem_of_getElem? (i := 222) (by decide +kernel))) rfl
theorem se_J4_append_bf812 : Cond.selects yJ4_append_bf812.cls yJ4_append_bf812 yJ4_append_bf812 ∈ sw_U := sw_in (sw_t5 (List.mem_of_getElem? (i := 223) (by decide +kernel))) rfl
theorem co_J4_append_bf812 : Cond.code yJ4_append_bf812 cJ4_append_bf812 2 (Option.some (Jvm.ClassFile.FieldType.object "java/lang/StringBuilder")) ∈ sw_U := sw_in (sw_t5 (List.mem_of_getElem? (i := 224) (by decide +kernel))) rfl
theorem ml_J4_53 : Cond.methodLink RJ4 53 yJ5_append_c97b9 ∈ sw_U := sw_in (sw_t5 (List.mem_of_getElem? (i := 225) (by decide +kernel))) rfl
theorem im_J5_append_c97b9 : Cond.instanceMethod yJ5_append_c97b9 ∈ sw_U := sw_in (sw_t5 (List.mem_of_getElem? (i := 226) (by decide +kernel))) rfl
theorem co_J5_append_c97b9 : Cond.code yJ5_append_c97b9 cJ5_append_c97b9 4 (Option.some (Jvm.ClassFile.FieldType.object "java/lang/AbstractStringBuilder")) ∈ sw_U := sw_in (sw_t5 (List.mem_of_getElem? (i := 227) (by decide +kernel))) rfl
theorem ml_J5_245 : Cond.methodLink RJ5 245 yJ6_stringSize_0f7a4 ∈ sw_U := sw_in (sw_t5 (List.mem_of_getElem? (i := 228) (by decide +kernel))) rfl
theorem st_J6_stringSize_0f7a4 : Cond.static yJ6_stringSize_0f7a4 ∈ sw_U := sw_in (sw_t5 (List.mem_of_getElem? (i := 229) (by decide +kernel))) rfl
theorem co_J6_stringSize_0f7a4 : Cond.code yJ6_stringSize_0f7a4 cJ6_stringSize_0f7a4 4 (Option.some Jvm.ClassFile.FieldType.int) ∈ sw_U := sw_in (sw_t5 (List.mem_of_getElem? (i := 230) (by decide +kernel))) rfl
theorem ml_J5_248 : Cond.methodLink RJ5 248 yJ6_getChars_ba4f3 ∈ sw_U := sw_in (sw_t5 (List.mem_of_getElem? (i := 231) (by decide +kernel))) rfl
theorem st_J6_getChars_ba4f3 : Cond.static yJ6_getChars_ba4f3 ∈ sw_U := sw_in (sw_t5 (List.mem_of_getElem? (i := 232) (by decide +kernel))) rfl
theorem co_J6_getChars_ba4f3 : Cond.code yJ6_getChars_ba4f3 cJ6_getChars_ba4f3 7 (Option.some Jvm.ClassFile.FieldType.int) ∈ sw_U := sw_in (sw_t5 (List.mem_of_getElem? (i := 233) (by decide +kernel))) rfl
theorem fl_J6_83 : Cond.fieldLink RJ6 83 "java/lang/Integer" "DigitOnes" "[B" ∈ sw_U := sw_in (sw_t5 (List.mem_of_getElem? (i := 234) (by decide +kernel))) rfl
theorem fl_J6_87 : Cond.fieldLink RJ6 87 "java/lang/Integer" "DigitTens" "[B" ∈ sw_U := sw_in (sw_t5 (List.mem_of_getElem? (i := 236) (by decide +kernel))) rfl
theorem ml_J5_251 : Cond.methodLink RJ5 251 yJ2_getChars_46870 ∈ sw_U := sw_in (sw_t5 (List.mem_of_getElem? (i := 238) (by decide +kernel))) rfl
theorem st_J2_getChars_46870 : Cond.static yJ2_getChars_46870 ∈ sw_U := sw_in (sw_t5 (List.mem_of_getElem? (i := 239) (by decide +kernel))) rfl
theorem co_J2_getChars_46870 : Cond.code yJ2_getChars_46870 cJ2_getChars_46870 5 (Option.some Jvm.ClassFile.FieldType.int) ∈ sw_U := sw_in (sw_t6 (List.mem_of_getElem? (i := 0) (by decide +kernel))) rfl
theorem ml_J2_393 : Cond.methodLink RJ2 393 yJ2_getChars_ba4f3 ∈ sw_U := sw_in (sw_t6 (List.mem_of_getElem? (i := 1) (by decide +kernel))) rfl
theorem st_J2_getChars_ba4f3 : Cond.static yJ2_getChars_ba4f3 ∈ sw_U := sw_in (sw_t6 (List.mem_of_getElem? (i := 2) (by decide +kernel))) rfl
theorem co_J2_getChars_ba4f3 : Cond.code yJ2_getChars_ba4f3 cJ2_getChars_ba4f3 7 (Option.some Jvm.ClassFile.FieldType.int) ∈ sw_U := sw_in (sw_t6 (List.mem_of_getElem? (i := 3) (by decide +kernel))) rfl
theorem fl_J2_403 : Cond.fieldLink RJ2 403 "java/lang/Integer" "DigitOnes" "[B" ∈ sw_U := sw_in (sw_t6 (List.mem_of_getElem? (i := 4) (by decide +kernel))) rfl
theorem fl_J2_407 : Cond.fieldLink RJ2 407 "java/lang/Integer" "DigitTens" "[B" ∈ sw_U := sw_in (sw_t6 (List.mem_of_getElem? (i := 5) (by decide +kernel))) rfl
theorem ml_L_167 : Cond.methodLink RL 167 yJ4_toString_0e30d ∈ sw_U := sw_in (sw_t6 (List.mem_of_getElem? (i := 6) (by decide +kernel))) rfl
theorem im_J4_toString_0e30d : Cond.instanceMethod yJ4_toString_0e30d ∈ sw_U := sw_in (sw_t6 (List.mem_of_getElem? (i := 7) (by decide +kernel))) rfl
theorem se_J4_toString_0e30d : Cond.selects yJ4_toString_0e30d.cls yJ4_toString_0e30d yJ4_toString_0e30d ∈ sw_U := sw_in (sw_t6 (List.mem_of_getElem? (i := 8) (by decide +kernel))) rfl
theorem co_J4_toString_0e30d : Cond.code yJ4_toString_0e30d cJ4_toString_0e30d 1 (Option.some (Jvm.ClassFile.FieldType.object "java/lang/String")) ∈ sw_U := sw_in (sw_t6 (List.mem_of_getElem? (i := 9) (by decide +kernel))) rfl
theorem cl_J4_18 : Cond.classLink RJ4 18 RJ0 ∈ sw_U := sw_in (sw_t6 (List.mem_of_getElem? (i := 10) (by decide +kernel))) rfl
theorem ins_J0 : Cond.instantiable RJ0 4 ∈ sw_U := sw_in (sw_t6 (List.mem_of_getElem? (i := 11) (by decide +kernel))) rfl
theorem ml_J4_137 : Cond.methodLink RJ4 137 yJ0_init_81219 ∈ sw_U := sw_in (sw_t6 (List.mem_of_getElem? (i := 12) (by decide +kernel))) rfl
theorem im_J0_init_81219 : Cond.instanceMethod yJ0_init_81219 ∈ sw_U := sw_in (sw_t6 (List.mem_of_getElem? (i := 13) (by decide +kernel))) rfl
theorem co_J0_init_81219 : Cond.code yJ0_init_81219 cJ0_init_81219 2 (Option.none : Option Jvm.ClassFile.FieldType) ∈ sw_U := sw_in (sw_t6 (List.mem_of_getElem? (i := 14) (by decide +kernel))) rfl
theorem ml_J0_489 : Cond.methodLink RJ0 489 yJ0_init_db425 ∈ sw_U := sw_in (sw_t6 (List.mem_of_getElem? (i := 15) (by decide +kernel))) rfl
theorem im_J0_init_db425 : Cond.instanceMethod yJ0_init_db425 ∈ sw_U := sw_in (sw_t6 (List.mem_of_getElem? (i := 16) (by decide +kernel))) rfl
theorem co_J0_init_db425 : Cond.code yJ0_init_db425 cJ0_init_db425 5 (Option.none : Option Jvm.ClassFile.FieldType) ∈ sw_U := sw_in (sw_t6 (List.mem_of_getElem? (i := 17) (by decide +kernel))) rfl
theorem ml_J0_1 : Cond.methodLink RJ0 1 ⟨"java/lang/Object", "<init>", "()V"⟩ ∈ sw_U := sw_in (sw_t6 (List.mem_of_getElem? (i := 18) (by decide +kernel))) rfl
theorem ml_J0_552 : Cond.methodLink RJ0 552 yJ5_getValue_6d5f1 ∈ sw_U := sw_in (sw_t6 (List.mem_of_getElem? (i := 19) (by decide +kernel))) rfl
theorem im_J5_getValue_6d5f1 : Cond.instanceMethod yJ5_getValue_6d5f1 ∈ sw_U := sw_in (sw_t6 (List.mem_of_getElem? (i := 20) (by decide +kernel))) rfl
theorem sm_J5_getValue_6d5f1 : Cond.sameMethod yJ5_getValue_6d5f1.cls yJ5_getValue_6d5f1.cls yJ5_getValue_6d5f1.name yJ5_getValue_6d5f1.desc ∈ sw_U := sw_in (sw_t6 (List.mem_of_getElem? (i := 21) (by decide +kernel))) rfl
theorem sx_J5_getValue_6d5f1 : Cond.selects "java/lang/StringBuilder" yJ5_getValue_6d5f1 yJ5_getValue_6d5f1 ∈ sw_U := sw_in (sw_t6 (List.mem_of_getElem? (i := 22) (by decide +kernel))) rfl
theorem co_J5_getValue_6d5f1 : Cond.code yJ5_getValue_6d5f1 cJ5_getValue_6d5f1 1 (Option.some (Jvm.ClassFile.FieldType.array Jvm.ClassFile.FieldType.byte)) ∈ sw_U := sw_in (sw_t6 (List.mem_of_getElem? (i := 23) (by decide +kernel))) rfl
theorem ml_J0_549 : Cond.methodLink RJ0 549 yJ5_length_8abf5 ∈ sw_U := sw_in (sw_t6 (List.mem_of_getElem? (i := 24) (by decide +kernel))) rfl
theorem im_J5_length_8abf5 : Cond.instanceMethod yJ5_length_8abf5 ∈ sw_U := sw_in (sw_t6 (List.mem_of_getElem? (i := 25) (by decide +kernel))) rfl
theorem sm_J5_length_8abf5 : Cond.sameMethod yJ5_length_8abf5.cls yJ5_length_8abf5.cls yJ5_length_8abf5.name yJ5_length_8abf5.desc ∈ sw_U := sw_in (sw_t6 (List.mem_of_getElem? (i := 26) (by decide +kernel))) rfl
theorem sx_J5_length_8abf5 : Cond.selects "java/lang/StringBuilder" yJ5_length_8abf5 yJ4_length_8abf5 ∈ sw_U := sw_in (sw_t6 (List.mem_of_getElem? (i := 27) (by decide +kernel))) rfl
theorem im_J4_length_8abf5 : Cond.instanceMethod yJ4_length_8abf5 ∈ sw_U := sw_in (sw_t6 (List.mem_of_getElem? (i := 28) (by decide +kernel))) rfl
theorem co_J4_length_8abf5 : Cond.code yJ4_length_8abf5 cJ4_length_8abf5 1 (Option.some Jvm.ClassFile.FieldType.int) ∈ sw_U := sw_in (sw_t6 (List.mem_of_getElem? (i := 29) (by decide +kernel))) rfl
theorem ml_J4_343 : Cond.methodLink RJ4 343 yJ5_length_8abf5 ∈ sw_U := sw_in (sw_t6 (List.mem_of_getElem? (i := 30) (by decide +kernel))) rfl
theorem co_J5_length_8abf5 : Cond.code yJ5_length_8abf5 cJ5_length_8abf5 1 (Option.some Jvm.ClassFile.FieldType.int) ∈ sw_U := sw_in (sw_t6 (List.mem_of_getElem? (i := 31) (by decide +kernel))) rfl
theorem ml_J0_1047 : Cond.methodLink RJ0 1047 yJ5_isLatin1_aae02 ∈ sw_U := sw_in (sw_t6 (List.mem_of_getElem? (i := 32) (by decide +kernel))) rfl
theorem ml_J0_54 : Cond.methodLink RJ0 54 yJ7_copyOfRange_39247 ∈ sw_U := sw_in (sw_t6 (List.mem_of_getElem? (i := 33) (by decide +kernel))) rfl
theorem st_J7_copyOfRange_39247 : Cond.static yJ7_copyOfRange_39247 ∈ sw_U := sw_in (sw_t6 (List.mem_of_getElem? (i := 34) (by decide +kernel))) rfl
theorem co_J7_copyOfRange_39247 : Cond.code yJ7_copyOfRange_39247 cJ7_copyOfRange_39247 3 (Option.some (Jvm.ClassFile.FieldType.array Jvm.ClassFile.FieldType.byte)) ∈ sw_U := sw_in (sw_t6 (List.mem_of_getElem? (i := 35) (by decide +kernel))) rfl
theorem ml_J7_339 : Cond.methodLink RJ7 339 yJ7_copyOfRangeByte_39247 ∈ sw_U := sw_in (sw_t6 (List.mem_of_getElem? (i := 36) (by decide +kernel))) rfl
theorem st_J7_copyOfRangeByte_39247 : Cond.static yJ7_copyOfRangeByte_39247 ∈ sw_U := sw_in (sw_t6 (List.mem_of_getElem? (i := 37) (by decide +kernel))) rfl
theorem co_J7_copyOfRangeByte_39247 : Cond.code yJ7_copyOfRangeByte_39247 cJ7_copyOfRangeByte_39247 5 (Option.some (Jvm.ClassFile.FieldType.array Jvm.ClassFile.FieldType.byte)) ∈ sw_U := sw_in (sw_t6 (List.mem_of_getElem? (i := 38) (by decide +kernel))) rfl
theorem ml_J7_343 : Cond.methodLink RJ7 343 yJ7_checkLength_df160 ∈ sw_U := sw_in (sw_t6 (List.mem_of_getElem? (i := 39) (by decide +kernel))) rfl
theorem st_J7_checkLength_df160 : Cond.static yJ7_checkLength_df160 ∈ sw_U := sw_in (sw_t6 (List.mem_of_getElem? (i := 40) (by decide +kernel))) rfl
theorem co_J7_checkLength_df160 : Cond.code yJ7_checkLength_df160 cJ7_checkLength_df160 2 (Option.none : Option Jvm.ClassFile.FieldType) ∈ sw_U := sw_in (sw_t6 (List.mem_of_getElem? (i := 41) (by decide +kernel))) rfl
theorem ml_J0_1051 : Cond.methodLink RJ0 1051 yJ2_compress_39247 ∈ sw_U := sw_in (sw_t6 (List.mem_of_getElem? (i := 42) (by decide +kernel))) rfl
theorem st_J2_compress_39247 : Cond.static yJ2_compress_39247 ∈ sw_U := sw_in (sw_t6 (List.mem_of_getElem? (i := 43) (by decide +kernel))) rfl
theorem co_J2_compress_39247 : Cond.code yJ2_compress_39247 cJ2_compress_39247 6 (Option.some (Jvm.ClassFile.FieldType.array Jvm.ClassFile.FieldType.byte)) ∈ sw_U := sw_in (sw_t6 (List.mem_of_getElem? (i := 44) (by decide +kernel))) rfl
theorem ml_J2_123 : Cond.methodLink RJ2 123 yJ2_compress_5af95 ∈ sw_U := sw_in (sw_t6 (List.mem_of_getElem? (i := 45) (by decide +kernel))) rfl
theorem st_J2_compress_5af95 : Cond.static yJ2_compress_5af95 ∈ sw_U := sw_in (sw_t6 (List.mem_of_getElem? (i := 46) (by decide +kernel))) rfl
theorem co_J2_compress_5af95 : Cond.code yJ2_compress_5af95 cJ2_compress_5af95 7 (Option.some Jvm.ClassFile.FieldType.int) ∈ sw_U := sw_in (sw_t6 (List.mem_of_getElem? (i := 47) (by decide +kernel))) rfl
theorem ml_J2_126 : Cond.methodLink RJ2 126 yJ7_copyOfRange_39247 ∈ sw_U := sw_in (sw_t6 (List.mem_of_getElem? (i := 48) (by decide +kernel))) rfl
theorem ml_J0_47 : Cond.methodLink RJ0 47 yJ2_coderFromArrayLen_85cad ∈ sw_U := sw_in (sw_t6 (List.mem_of_getElem? (i := 49) (by decide +kernel))) rfl
theorem st_J2_coderFromArrayLen_85cad : Cond.static yJ2_coderFromArrayLen_85cad ∈ sw_U := sw_in (sw_t6 (List.mem_of_getElem? (i := 50) (by decide +kernel))) rfl
theorem co_J2_coderFromArrayLen_85cad : Cond.code yJ2_coderFromArrayLen_85cad cJ2_coderFromArrayLen_85cad 2 (Option.some Jvm.ClassFile.FieldType.byte) ∈ sw_U := sw_in (sw_t6 (List.mem_of_getElem? (i := 51) (by decide +kernel))) rfl
theorem fl_J0_9 : Cond.fieldLink RJ0 9 "java/lang/String" "value" "[B" ∈ sw_U := sw_in (sw_t6 (List.mem_of_getElem? (i := 52) (by decide +kernel))) rfl
theorem fl_J0_15 : Cond.fieldLink RJ0 15 "java/lang/String" "coder" "B" ∈ sw_U := sw_in (sw_t6 (List.mem_of_getElem? (i := 53) (by decide +kernel))) rfl
theorem sm_J5_appendNull_278bc : Cond.sameMethod yJ5_appendNull_278bc.cls yJ5_appendNull_278bc.cls yJ5_appendNull_278bc.name yJ5_appendNull_278bc.desc ∈ sw_U := sw_in (sw_t6 (List.mem_of_getElem? (i := 67) (by decide +kernel))) rfl
theorem sm_J5_ensureCapacityInternal_d00df : Cond.sameMethod yJ5_ensureCapacityInternal_d00df.cls yJ5_ensureCapacityInternal_d00df.cls yJ5_ensureCapacityInternal_d00df.name yJ5_ensureCapacityInternal_d00df.desc ∈ sw_U := sw_in (sw_t6 (List.mem_of_getElem? (i := 68) (by decide +kernel))) rfl
theorem sm_J5_newCapacity_0f7a4 : Cond.sameMethod yJ5_newCapacity_0f7a4.cls yJ5_newCapacity_0f7a4.cls yJ5_newCapacity_0f7a4.name yJ5_newCapacity_0f7a4.desc ∈ sw_U := sw_in (sw_t6 (List.mem_of_getElem? (i := 69) (by decide +kernel))) rfl
theorem sm_J5_putStringAt_47b60 : Cond.sameMethod yJ5_putStringAt_47b60.cls yJ5_putStringAt_47b60.cls yJ5_putStringAt_47b60.name yJ5_putStringAt_47b60.desc ∈ sw_U := sw_in (sw_t6 (List.mem_of_getElem? (i := 70) (by decide +kernel))) rfl
theorem sm_J5_inflateIfNeededFor_a7421 : Cond.sameMethod yJ5_inflateIfNeededFor_a7421.cls yJ5_inflateIfNeededFor_a7421.cls yJ5_inflateIfNeededFor_a7421.name yJ5_inflateIfNeededFor_a7421.desc ∈ sw_U := sw_in (sw_t6 (List.mem_of_getElem? (i := 71) (by decide +kernel))) rfl
theorem sm_J5_inflate_da8c8 : Cond.sameMethod yJ5_inflate_da8c8.cls yJ5_inflate_da8c8.cls yJ5_inflate_da8c8.name yJ5_inflate_da8c8.desc ∈ sw_U := sw_in (sw_t6 (List.mem_of_getElem? (i := 72) (by decide +kernel))) rfl
theorem sm_J5_append_3fe6f : Cond.sameMethod yJ5_append_3fe6f.cls yJ5_append_3fe6f.cls yJ5_append_3fe6f.name yJ5_append_3fe6f.desc ∈ sw_U := sw_in (sw_t6 (List.mem_of_getElem? (i := 73) (by decide +kernel))) rfl
theorem sm_J5_append_c97b9 : Cond.sameMethod yJ5_append_c97b9.cls yJ5_append_c97b9.cls yJ5_append_c97b9.name yJ5_append_c97b9.desc ∈ sw_U := sw_in (sw_t6 (List.mem_of_getElem? (i := 74) (by decide +kernel))) rfl
theorem fl_X2_59 : Cond.fieldLink RX2 59 "StrikeWheels$Order" "numbers" "I" ∈ sw_U := sw_in (sw_t6 (List.mem_of_getElem? (i := 89) (by decide +kernel))) rfl
theorem fl_X2_63 : Cond.fieldLink RX2 63 "StrikeWheels$Order" "least" "I" ∈ sw_U := sw_in (sw_t6 (List.mem_of_getElem? (i := 90) (by decide +kernel))) rfl
theorem fl_X2_66 : Cond.fieldLink RX2 66 "StrikeWheels$Order" "most" "I" ∈ sw_U := sw_in (sw_t6 (List.mem_of_getElem? (i := 91) (by decide +kernel))) rfl
theorem fl_Jx29ce0_7 : Cond.fieldLink RJx29ce0 7 "java/lang/Enum" "ordinal" "I" ∈ sw_U := sw_in (sw_t6 (List.mem_of_getElem? (i := 92) (by decide +kernel))) rfl
theorem mm_X8_34 : Cond.methodLink RX8 34 Lib.Math.min.name ∈ sw_U := sw_in (sw_t2 (List.mem_of_getElem? (i := 90) (by decide +kernel))) rfl
theorem ac_X3_34 : Cond.methodLink RX3 34 arraycopyName ∈ sw_U := sw_in (sw_t3 (List.mem_of_getElem? (i := 2) (by decide +kernel))) rfl
theorem mm_X7_40 : Cond.methodLink RX7 40 Lib.Math.min.name ∈ sw_U := sw_in (sw_t3 (List.mem_of_getElem? (i := 100) (by decide +kernel))) rfl
theorem mm_X7_71 : Cond.methodLink RX7 71 Lib.Math.max.name ∈ sw_U := sw_in (sw_t3 (List.mem_of_getElem? (i := 205) (by decide +kernel))) rfl
theorem mm_X9_26 : Cond.methodLink RX9 26 Lib.Math.max.name ∈ sw_U := sw_in (sw_t4 (List.mem_of_getElem? (i := 10) (by decide +kernel))) rfl
theorem mm_X3_58 : Cond.methodLink RX3 58 Lib.Math.max.name ∈ sw_U := sw_in (sw_t4 (List.mem_of_getElem? (i := 74) (by decide +kernel))) rfl
theorem mm_X10_220 : Cond.methodLink RX10 220 Lib.Math.max.name ∈ sw_U := sw_in (sw_t4 (List.mem_of_getElem? (i := 137) (by decide +kernel))) rfl
theorem mm_X3_48 : Cond.methodLink RX3 48 Lib.Math.min.name ∈ sw_U := sw_in (sw_t4 (List.mem_of_getElem? (i := 230) (by decide +kernel))) rfl
theorem mm_J8_194 : Cond.methodLink RJ8 194 Lib.Math.max.name ∈ sw_U := sw_in (sw_t5 (List.mem_of_getElem? (i := 124) (by decide +kernel))) rfl
theorem mm_J7_304 : Cond.methodLink RJ7 304 Lib.Math.min.name ∈ sw_U := sw_in (sw_t5 (List.mem_of_getElem? (i := 139) (by decide +kernel))) rfl
theorem ac_J7_150 : Cond.methodLink RJ7 150 arraycopyName ∈ sw_U := sw_in (sw_t5 (List.mem_of_getElem? (i := 140) (by decide +kernel))) rfl
theorem ac_J0_212 : Cond.methodLink RJ0 212 arraycopyName ∈ sw_U := sw_in (sw_t5 (List.mem_of_getElem? (i := 193) (by decide +kernel))) rfl
theorem mm_ini : Cond.initialized "java/lang/Math" ∈ sw_U := sw_in (sw_t1 (List.mem_of_getElem? (i := 14) (by decide +kernel))) rfl
theorem ac_ini : Cond.initialized "java/lang/System" ∈ sw_U := sw_in (sw_t1 (List.mem_of_getElem? (i := 16) (by decide +kernel))) rfl
theorem mm_st_min : Cond.static Lib.Math.min.name ∈ sw_U := sw_in (sw_t2 (List.mem_of_getElem? (i := 91) (by decide +kernel))) rfl
theorem mm_co_min : Cond.code Lib.Math.min.name Lib.Math.min.code 2 (some .int) ∈ sw_U := sw_in (sw_t2 (List.mem_of_getElem? (i := 92) (by decide +kernel))) rfl
theorem mm_st_max : Cond.static Lib.Math.max.name ∈ sw_U := sw_in (sw_t3 (List.mem_of_getElem? (i := 206) (by decide +kernel))) rfl
theorem mm_co_max : Cond.code Lib.Math.max.name Lib.Math.max.code 2 (some .int) ∈ sw_U := sw_in (sw_t3 (List.mem_of_getElem? (i := 207) (by decide +kernel))) rfl
