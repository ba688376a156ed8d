theorem ml_X10_346 : Cond.methodLink RX10 346 yX1_pop ∈ sw_U := sw_in (sw_t3 (List.mem_of_getElem? (i := 25) (by decide +kernel))) rfl
theorem im_X1_pop : Cond.instanceMethod yX1_pop ∈ sw_U := sw_in (sw_t3 (List.mem_of_getElem? (i := 26) (by decide +kernel))) rfl
theorem se_X1_pop : Cond.selects yX1_pop.cls yX1_pop yX1_pop ∈ sw_U := sw_in (sw_t3 (List.mem_of_getElem? (i := 27) (by decide +kernel))) rfl
theorem co_X1_pop : Cond.code yX1_pop cX1_pop 2 (Option.none : Option Jvm.ClassFile.FieldType) ∈ sw_U := sw_in (sw_t3 (List.mem_of_getElem? (i := 28) (by decide +kernel))) rfl
theorem ml_X1_25 : Cond.methodLink RX1 25 yX3_takeOver ∈ sw_U := sw_in (sw_t3 (List.mem_of_getElem? (i := 29) (by decide +kernel))) rfl
theorem ml_L_207 : Cond.methodLink RL 207 yX10_saveSnapshot ∈ sw_U := sw_in (sw_t3 (List.mem_of_getElem? (i := 30) (by decide +kernel))) rfl
theorem im_X10_saveSnapshot : Cond.instanceMethod yX10_saveSnapshot ∈ sw_U := sw_in (sw_t3 (List.mem_of_getElem? (i := 31) (by decide +kernel))) rfl
theorem se_X10_saveSnapshot : Cond.selects yX10_saveSnapshot.cls yX10_saveSnapshot yX10_saveSnapshot ∈ sw_U := sw_in (sw_t3 (List.mem_of_getElem? (i := 32) (by decide +kernel))) rfl
theorem co_X10_saveSnapshot : Cond.code yX10_saveSnapshot cX10_saveSnapshot 1 (Option.none : Option Jvm.ClassFile.FieldType) ∈ sw_U := sw_in (sw_t3 (List.mem_of_getElem? (i := 33) (by decide +kernel))) rfl
theorem ml_L_210 : Cond.methodLink RL 210 yX10_restoreSnapshot ∈ sw_U := sw_in (sw_t3 (List.mem_of_getElem? (i := 34) (by decide +kernel))) rfl
theorem im_X10_restoreSnapshot : Cond.instanceMethod yX10_restoreSnapshot ∈ sw_U := sw_in (sw_t3 (List.mem_of_getElem? (i := 35) (by decide +kernel))) rfl
theorem se_X10_restoreSnapshot : Cond.selects yX10_restoreSnapshot.cls yX10_restoreSnapshot yX10_restoreSnapshot ∈ sw_U := sw_in (sw_t3 (List.mem_of_getElem? (i := 36) (by decide +kernel))) rfl
theorem co_X10_restoreSnapshot : Cond.code yX10_restoreSnapshot cX10_restoreSnapshot 1 (Option.some Jvm.ClassFile.FieldType.boolean) ∈ sw_U := sw_in (sw_t3 (List.mem_of_getElem? (i := 37) (by decide +kernel))) rfl
theorem ml_L_103 : Cond.methodLink RL 103 yL_most ∈ sw_U := sw_in (sw_t3 (List.mem_of_getElem? (i := 38) (by decide +kernel))) rfl
theorem st_L_most : Cond.static yL_most ∈ sw_U := sw_in (sw_t3 (List.mem_of_getElem? (i := 39) (by decide +kernel))) rfl
theorem co_L_most : Cond.code yL_most cL_most 2 (Option.some Jvm.ClassFile.FieldType.int) ∈ sw_U := sw_in (sw_t3 (List.mem_of_getElem? (i := 40) rfl)) rfl
theorem kc_L_7 : Cond.constant RL 7 2147483647 ∈ sw_U := sw_in (sw_t3 (List.mem_of_getElem? (i := 41) (by decide +kernel))) rfl
theorem ml_L_142 : Cond.methodLink RL 142 yL_cell ∈ sw_U := sw_in (sw_t3 (List.mem_of_getElem? (i := 42) (by decide +kernel))) rfl
theorem st_L_cell : Cond.static yL_cell ∈ sw_U := sw_in (sw_t3 (List.mem_of_getElem? (i := 43) (by decide +kernel))) rfl
theorem co_L_cell : Cond.code yL_cell cL_cell 2 (Option.some Jvm.ClassFile.FieldType.int) ∈ sw_U := sw_in (sw_t3 (List.mem_of_getElem? (i := 44) rfl)) rfl
theorem ml_L_171 : Cond.methodLink RL 171 yL_say ∈ sw_U := sw_in (sw_t3 (List.mem_of_getElem? (i := 45) (by decide +kernel))) rfl
theorem st_L_say : Cond.static yL_say ∈ sw_U := sw_in (sw_t3 (List.mem_of_getElem? (i := 46) (by decide +kernel))) rfl
theorem co_L_say : Cond.code yL_say cL_say 4 (Option.none : Option Jvm.ClassFile.FieldType) ∈ sw_U := sw_in (sw_t3 (List.mem_of_getElem? (i := 47) rfl)) rfl
theorem ml_L_14 : Cond.methodLink RL 14 yJ0_length_8abf5 ∈ sw_U := sw_in (sw_t3 (List.mem_of_getElem? (i := 48) (by decide +kernel))) rfl
theorem ml_L_20 : Cond.methodLink RL 20 yJ0_charAt_5068e ∈ sw_U := sw_in (sw_t3 (List.mem_of_getElem? (i := 49) (by decide +kernel))) rfl
theorem ml_L_24 : Cond.methodLink RL 24 yL_add ∈ sw_U := sw_in (sw_t3 (List.mem_of_getElem? (i := 50) (by decide +kernel))) rfl
theorem st_L_add : Cond.static yL_add ∈ sw_U := sw_in (sw_t3 (List.mem_of_getElem? (i := 51) (by decide +kernel))) rfl
theorem co_L_add : Cond.code yL_add cL_add 4 (Option.none : Option Jvm.ClassFile.FieldType) ∈ sw_U := sw_in (sw_t3 (List.mem_of_getElem? (i := 52) rfl)) rfl
theorem ml_L_8 : Cond.methodLink RL 8 yX10_feed ∈ sw_U := sw_in (sw_t3 (List.mem_of_getElem? (i := 53) (by decide +kernel))) rfl
theorem im_X10_feed : Cond.instanceMethod yX10_feed ∈ sw_U := sw_in (sw_t3 (List.mem_of_getElem? (i := 54) (by decide +kernel))) rfl
theorem se_X10_feed : Cond.selects yX10_feed.cls yX10_feed yX10_feed ∈ sw_U := sw_in (sw_t3 (List.mem_of_getElem? (i := 55) (by decide +kernel))) rfl
theorem co_X10_feed : Cond.code yX10_feed cX10_feed 6 (Option.some Jvm.ClassFile.FieldType.int) ∈ sw_U := sw_in (sw_t3 (List.mem_of_getElem? (i := 56) (by decide +kernel))) rfl
theorem ml_X10_95 : Cond.methodLink RX10 95 yX8_appendFour ∈ sw_U := sw_in (sw_t3 (List.mem_of_getElem? (i := 57) (by decide +kernel))) rfl
theorem im_X8_appendFour : Cond.instanceMethod yX8_appendFour ∈ sw_U := sw_in (sw_t3 (List.mem_of_getElem? (i := 58) (by decide +kernel))) rfl
theorem se_X8_appendFour : Cond.selects yX8_appendFour.cls yX8_appendFour yX8_appendFour ∈ sw_U := sw_in (sw_t3 (List.mem_of_getElem? (i := 59) (by decide +kernel))) rfl
theorem co_X8_appendFour : Cond.code yX8_appendFour cX8_appendFour 3 (Option.none : Option Jvm.ClassFile.FieldType) ∈ sw_U := sw_in (sw_t3 (List.mem_of_getElem? (i := 60) (by decide +kernel))) rfl
theorem ml_L_175 : Cond.methodLink RL 175 yL_end ∈ sw_U := sw_in (sw_t3 (List.mem_of_getElem? (i := 61) (by decide +kernel))) rfl
theorem st_L_end : Cond.static yL_end ∈ sw_U := sw_in (sw_t3 (List.mem_of_getElem? (i := 62) (by decide +kernel))) rfl
theorem co_L_end : Cond.code yL_end cL_end 3 (Option.some Jvm.ClassFile.FieldType.int) ∈ sw_U := sw_in (sw_t3 (List.mem_of_getElem? (i := 63) rfl)) rfl
theorem ml_L_189 : Cond.methodLink RL 189 yL_all ∈ sw_U := sw_in (sw_t3 (List.mem_of_getElem? (i := 64) (by decide +kernel))) rfl
theorem st_L_all : Cond.static yL_all ∈ sw_U := sw_in (sw_t3 (List.mem_of_getElem? (i := 65) (by decide +kernel))) rfl
theorem co_L_all : Cond.code yL_all cL_all 5 (Option.some (Jvm.ClassFile.FieldType.array Jvm.ClassFile.FieldType.int)) ∈ sw_U := sw_in (sw_t3 (List.mem_of_getElem? (i := 66) rfl)) rfl
theorem ml_L_30 : Cond.methodLink RL 30 yX10_size ∈ sw_U := sw_in (sw_t3 (List.mem_of_getElem? (i := 67) (by decide +kernel))) rfl
theorem im_X10_size : Cond.instanceMethod yX10_size ∈ sw_U := sw_in (sw_t3 (List.mem_of_getElem? (i := 68) (by decide +kernel))) rfl
theorem se_X10_size : Cond.selects yX10_size.cls yX10_size yX10_size ∈ sw_U := sw_in (sw_t3 (List.mem_of_getElem? (i := 69) (by decide +kernel))) rfl
theorem co_X10_size : Cond.code yX10_size cX10_size 2 (Option.some Jvm.ClassFile.FieldType.int) ∈ sw_U := sw_in (sw_t3 (List.mem_of_getElem? (i := 70) (by decide +kernel))) rfl
theorem ml_X10_119 : Cond.methodLink RX10 119 yX3_wheelNow ∈ sw_U := sw_in (sw_t3 (List.mem_of_getElem? (i := 71) (by decide +kernel))) rfl
theorem im_X3_wheelNow : Cond.instanceMethod yX3_wheelNow ∈ sw_U := sw_in (sw_t3 (List.mem_of_getElem? (i := 72) (by decide +kernel))) rfl
theorem se_X3_wheelNow : Cond.selects yX3_wheelNow.cls yX3_wheelNow yX3_wheelNow ∈ sw_U := sw_in (sw_t3 (List.mem_of_getElem? (i := 73) (by decide +kernel))) rfl
theorem co_X3_wheelNow : Cond.code yX3_wheelNow cX3_wheelNow 1 (Option.some Jvm.ClassFile.FieldType.int) ∈ sw_U := sw_in (sw_t3 (List.mem_of_getElem? (i := 74) (by decide +kernel))) rfl
theorem ml_X10_122 : Cond.methodLink RX10 122 yX3_stretchCount ∈ sw_U := sw_in (sw_t3 (List.mem_of_getElem? (i := 75) (by decide +kernel))) rfl
theorem im_X3_stretchCount : Cond.instanceMethod yX3_stretchCount ∈ sw_U := sw_in (sw_t3 (List.mem_of_getElem? (i := 76) (by decide +kernel))) rfl
theorem se_X3_stretchCount : Cond.selects yX3_stretchCount.cls yX3_stretchCount yX3_stretchCount ∈ sw_U := sw_in (sw_t3 (List.mem_of_getElem? (i := 77) (by decide +kernel))) rfl
theorem co_X3_stretchCount : Cond.code yX3_stretchCount cX3_stretchCount 1 (Option.some Jvm.ClassFile.FieldType.int) ∈ sw_U := sw_in (sw_t3 (List.mem_of_getElem? (i := 78) (by decide +kernel))) rfl
theorem ml_X10_125 : Cond.methodLink RX10 125 yX3_strikerCount ∈ sw_U := sw_in (sw_t3 (List.mem_of_getElem? (i := 79) (by decide +kernel))) rfl
theorem im_X3_strikerCount : Cond.instanceMethod yX3_strikerCount ∈ sw_U := sw_in (sw_t3 (List.mem_of_getElem? (i := 80) (by decide +kernel))) rfl
theorem se_X3_strikerCount : Cond.selects yX3_strikerCount.cls yX3_strikerCount yX3_strikerCount ∈ sw_U := sw_in (sw_t3 (List.mem_of_getElem? (i := 81) (by decide +kernel))) rfl
theorem co_X3_strikerCount : Cond.code yX3_strikerCount cX3_strikerCount 1 (Option.some Jvm.ClassFile.FieldType.int) ∈ sw_U := sw_in (sw_t3 (List.mem_of_getElem? (i := 82) (by decide +kernel))) rfl
theorem ml_X10_128 : Cond.methodLink RX10 128 yX10_current ∈ sw_U := sw_in (sw_t3 (List.mem_of_getElem? (i := 83) (by decide +kernel))) rfl
theorem im_X10_current : Cond.instanceMethod yX10_current ∈ sw_U := sw_in (sw_t3 (List.mem_of_getElem? (i := 85) (by decide +kernel))) rfl
theorem co_X10_current : Cond.code yX10_current cX10_current 1 (Option.some (Jvm.ClassFile.FieldType.object "StrikeWheels$Sieve")) ∈ sw_U := sw_in (sw_t3 (List.mem_of_getElem? (i := 86) (by decide +kernel))) rfl
theorem ml_X10_352 : Cond.methodLink RX10 352 yX7_isBuiltFor ∈ sw_U := sw_in (sw_t3 (List.mem_of_getElem? (i := 87) (by decide +kernel))) rfl
theorem im_X7_isBuiltFor : Cond.instanceMethod yX7_isBuiltFor ∈ sw_U := sw_in (sw_t3 (List.mem_of_getElem? (i := 88) (by decide +kernel))) rfl
theorem se_X7_isBuiltFor : Cond.selects yX7_isBuiltFor.cls yX7_isBuiltFor yX7_isBuiltFor ∈ sw_U := sw_in (sw_t3 (List.mem_of_getElem? (i := 89) (by decide +kernel))) rfl
theorem co_X7_isBuiltFor : Cond.code yX7_isBuiltFor cX7_isBuiltFor 2 (Option.some Jvm.ClassFile.FieldType.boolean) ∈ sw_U := sw_in (sw_t3 (List.mem_of_getElem? (i := 90) (by decide +kernel))) rfl
theorem ml_X7_31 : Cond.methodLink RX7 31 yX3_version ∈ sw_U := sw_in (sw_t3 (List.mem_of_getElem? (i := 91) (by decide +kernel))) rfl
theorem im_X3_version : Cond.instanceMethod yX3_version ∈ sw_U := sw_in (sw_t3 (List.mem_of_getElem? (i := 92) (by decide +kernel))) rfl
theorem se_X3_version : Cond.selects yX3_version.cls yX3_version yX3_version ∈ sw_U := sw_in (sw_t3 (List.mem_of_getElem? (i := 93) (by decide +kernel))) rfl
theorem co_X3_version : Cond.code yX3_version cX3_version 1 (Option.some Jvm.ClassFile.FieldType.int) ∈ sw_U := sw_in (sw_t3 (List.mem_of_getElem? (i := 94) (by decide +kernel))) rfl
theorem ml_X10_356 : Cond.methodLink RX10 356 yX7_build ∈ sw_U := sw_in (sw_t3 (List.mem_of_getElem? (i := 95) (by decide +kernel))) rfl
theorem im_X7_build : Cond.instanceMethod yX7_build ∈ sw_U := sw_in (sw_t3 (List.mem_of_getElem? (i := 96) (by decide +kernel))) rfl
theorem se_X7_build : Cond.selects yX7_build.cls yX7_build yX7_build ∈ sw_U := sw_in (sw_t3 (List.mem_of_getElem? (i := 97) (by decide +kernel))) rfl
theorem co_X7_build : Cond.code yX7_build cX7_build 4 (Option.none : Option Jvm.ClassFile.FieldType) ∈ sw_U := sw_in (sw_t3 (List.mem_of_getElem? (i := 98) (by decide +kernel))) rfl
theorem ml_X7_37 : Cond.methodLink RX7 37 yX3_lastNumber ∈ sw_U := sw_in (sw_t3 (List.mem_of_getElem? (i := 99) (by decide +kernel))) rfl
theorem ml_X7_40 : Cond.methodLink RX7 40 yJ9_min_7cf53 ∈ sw_U := sw_in (sw_t3 (List.mem_of_getElem? (i := 100) (by decide +kernel))) rfl
theorem ml_X7_46 : Cond.methodLink RX7 46 yX3_wheelNow ∈ sw_U := sw_in (sw_t3 (List.mem_of_getElem? (i := 101) (by decide +kernel))) rfl
theorem ml_X7_49 : Cond.methodLink RX7 49 yX9_primeAt ∈ sw_U := sw_in (sw_t3 (List.mem_of_getElem? (i := 102) (by decide +kernel))) rfl
theorem st_X9_primeAt : Cond.static yX9_primeAt ∈ sw_U := sw_in (sw_t3 (List.mem_of_getElem? (i := 103) (by decide +kernel))) rfl
theorem co_X9_primeAt : Cond.code yX9_primeAt cX9_primeAt 1 (Option.some Jvm.ClassFile.FieldType.int) ∈ sw_U := sw_in (sw_t3 (List.mem_of_getElem? (i := 104) (by decide +kernel))) rfl
theorem fl_X9_9 : Cond.fieldLink RX9 9 "StrikeWheels$Wheels" "PRIMES" "[I" ∈ sw_U := sw_in (sw_t3 (List.mem_of_getElem? (i := 105) (by decide +kernel))) rfl
theorem ml_X7_55 : Cond.methodLink RX7 55 yX7_strikeOut ∈ sw_U := sw_in (sw_t3 (List.mem_of_getElem? (i := 107) (by decide +kernel))) rfl
theorem im_X7_strikeOut : Cond.instanceMethod yX7_strikeOut ∈ sw_U := sw_in (sw_t3 (List.mem_of_getElem? (i := 109) (by decide +kernel))) rfl
theorem co_X7_strikeOut : Cond.code yX7_strikeOut cX7_strikeOut 5 (Option.none : Option Jvm.ClassFile.FieldType) ∈ sw_U := sw_in (sw_t3 (List.mem_of_getElem? (i := 110) (by decide +kernel))) rfl
theorem ml_X7_59 : Cond.methodLink RX7 59 yX3_strikerCount ∈ sw_U := sw_in (sw_t3 (List.mem_of_getElem? (i := 111) (by decide +kernel))) rfl
theorem ml_X7_62 : Cond.methodLink RX7 62 yX3_dOf ∈ sw_U := sw_in (sw_t3 (List.mem_of_getElem? (i := 112) (by decide +kernel))) rfl
theorem im_X3_dOf : Cond.instanceMethod yX3_dOf ∈ sw_U := sw_in (sw_t3 (List.mem_of_getElem? (i := 113) (by decide +kernel))) rfl
theorem se_X3_dOf : Cond.selects yX3_dOf.cls yX3_dOf yX3_dOf ∈ sw_U := sw_in (sw_t3 (List.mem_of_getElem? (i := 114) (by decide +kernel))) rfl
theorem co_X3_dOf : Cond.code yX3_dOf cX3_dOf 2 (Option.some Jvm.ClassFile.FieldType.int) ∈ sw_U := sw_in (sw_t3 (List.mem_of_getElem? (i := 115) (by decide +kernel))) rfl
theorem ml_X7_65 : Cond.methodLink RX7 65 yX7_countAll ∈ sw_U := sw_in (sw_t3 (List.mem_of_getElem? (i := 116) (by decide +kernel))) rfl
theorem im_X7_countAll : Cond.instanceMethod yX7_countAll ∈ sw_U := sw_in (sw_t3 (List.mem_of_getElem? (i := 118) (by decide +kernel))) rfl
theorem co_X7_countAll : Cond.code yX7_countAll cX7_countAll 2 (Option.none : Option Jvm.ClassFile.FieldType) ∈ sw_U := sw_in (sw_t3 (List.mem_of_getElem? (i := 119) (by decide +kernel))) rfl
theorem ml_X10_132 : Cond.methodLink RX10 132 yX7_markCount ∈ sw_U := sw_in (sw_t3 (List.mem_of_getElem? (i := 120) (by decide +kernel))) rfl
theorem im_X7_markCount : Cond.instanceMethod yX7_markCount ∈ sw_U := sw_in (sw_t3 (List.mem_of_getElem? (i := 121) (by decide +kernel))) rfl
theorem se_X7_markCount : Cond.selects yX7_markCount.cls yX7_markCount yX7_markCount ∈ sw_U := sw_in (sw_t3 (List.mem_of_getElem? (i := 122) (by decide +kernel))) rfl
theorem co_X7_markCount : Cond.code yX7_markCount cX7_markCount 1 (Option.some Jvm.ClassFile.FieldType.int) ∈ sw_U := sw_in (sw_t3 (List.mem_of_getElem? (i := 123) (by decide +kernel))) rfl
theorem ml_X10_135 : Cond.methodLink RX10 135 yX7_spokeCount ∈ sw_U := sw_in (sw_t3 (List.mem_of_getElem? (i := 124) (by decide +kernel))) rfl
theorem im_X7_spokeCount : Cond.instanceMethod yX7_spokeCount ∈ sw_U := sw_in (sw_t3 (List.mem_of_getElem? (i := 125) (by decide +kernel))) rfl
theorem se_X7_spokeCount : Cond.selects yX7_spokeCount.cls yX7_spokeCount yX7_spokeCount ∈ sw_U := sw_in (sw_t3 (List.mem_of_getElem? (i := 126) (by decide +kernel))) rfl
theorem co_X7_spokeCount : Cond.code yX7_spokeCount cX7_spokeCount 1 (Option.some Jvm.ClassFile.FieldType.int) ∈ sw_U := sw_in (sw_t3 (List.mem_of_getElem? (i := 127) (by decide +kernel))) rfl
theorem ml_X10_138 : Cond.methodLink RX10 138 yX9_product ∈ sw_U := sw_in (sw_t3 (List.mem_of_getElem? (i := 128) (by decide +kernel))) rfl
theorem st_X9_product : Cond.static yX9_product ∈ sw_U := sw_in (sw_t3 (List.mem_of_getElem? (i := 129) (by decide +kernel))) rfl
theorem co_X9_product : Cond.code yX9_product cX9_product 1 (Option.some Jvm.ClassFile.FieldType.int) ∈ sw_U := sw_in (sw_t3 (List.mem_of_getElem? (i := 130) (by decide +kernel))) rfl
theorem fl_X9_15 : Cond.fieldLink RX9 15 "StrikeWheels$Wheels" "PRODUCTS" "[I" ∈ sw_U := sw_in (sw_t3 (List.mem_of_getElem? (i := 131) (by decide +kernel))) rfl
theorem ml_X10_144 : Cond.methodLink RX10 144 yX9_spokesUpTo ∈ sw_U := sw_in (sw_t3 (List.mem_of_getElem? (i := 133) (by decide +kernel))) rfl
theorem st_X9_spokesUpTo : Cond.static yX9_spokesUpTo ∈ sw_U := sw_in (sw_t3 (List.mem_of_getElem? (i := 134) (by decide +kernel))) rfl
theorem co_X9_spokesUpTo : Cond.code yX9_spokesUpTo cX9_spokesUpTo 4 (Option.some Jvm.ClassFile.FieldType.int) ∈ sw_U := sw_in (sw_t3 (List.mem_of_getElem? (i := 135) (by decide +kernel))) rfl
theorem ml_X9_22 : Cond.methodLink RX9 22 yX9_isFree ∈ sw_U := sw_in (sw_t3 (List.mem_of_getElem? (i := 136) (by decide +kernel))) rfl
theorem st_X9_isFree : Cond.static yX9_isFree ∈ sw_U := sw_in (sw_t3 (List.mem_of_getElem? (i := 137) (by decide +kernel))) rfl
theorem co_X9_isFree : Cond.code yX9_isFree cX9_isFree 2 (Option.some Jvm.ClassFile.FieldType.boolean) ∈ sw_U := sw_in (sw_t3 (List.mem_of_getElem? (i := 138) (by decide +kernel))) rfl
theorem ml_X9_18 : Cond.methodLink RX9 18 yX9_smallestPrimeOf ∈ sw_U := sw_in (sw_t3 (List.mem_of_getElem? (i := 139) (by decide +kernel))) rfl
theorem st_X9_smallestPrimeOf : Cond.static yX9_smallestPrimeOf ∈ sw_U := sw_in (sw_t3 (List.mem_of_getElem? (i := 140) (by decide +kernel))) rfl
theorem co_X9_smallestPrimeOf : Cond.code yX9_smallestPrimeOf cX9_smallestPrimeOf 3 (Option.some Jvm.ClassFile.FieldType.int) ∈ sw_U := sw_in (sw_t3 (List.mem_of_getElem? (i := 141) (by decide +kernel))) rfl
theorem ml_X10_148 : Cond.methodLink RX10 148 yX3_countMissing ∈ sw_U := sw_in (sw_t3 (List.mem_of_getElem? (i := 142) (by decide +kernel))) rfl
theorem im_X3_countMissing : Cond.instanceMethod yX3_countMissing ∈ sw_U := sw_in (sw_t3 (List.mem_of_getElem? (i := 143) (by decide +kernel))) rfl
theorem se_X3_countMissing : Cond.selects yX3_countMissing.cls yX3_countMissing yX3_countMissing ∈ sw_U := sw_in (sw_t3 (List.mem_of_getElem? (i := 144) (by decide +kernel))) rfl
theorem co_X3_countMissing : Cond.code yX3_countMissing cX3_countMissing 5 (Option.some Jvm.ClassFile.FieldType.int) ∈ sw_U := sw_in (sw_t3 (List.mem_of_getElem? (i := 145) (by decide +kernel))) rfl
theorem ml_X3_72 : Cond.methodLink RX3 72 yX3_lastNumber ∈ sw_U := sw_in (sw_t3 (List.mem_of_getElem? (i := 146) (by decide +kernel))) rfl
theorem ml_X3_75 : Cond.methodLink RX3 75 yX3_isMissing ∈ sw_U := sw_in (sw_t3 (List.mem_of_getElem? (i := 147) (by decide +kernel))) rfl
theorem im_X3_isMissing : Cond.instanceMethod yX3_isMissing ∈ sw_U := sw_in (sw_t3 (List.mem_of_getElem? (i := 149) (by decide +kernel))) rfl
theorem co_X3_isMissing : Cond.code yX3_isMissing cX3_isMissing 3 (Option.some Jvm.ClassFile.FieldType.boolean) ∈ sw_U := sw_in (sw_t3 (List.mem_of_getElem? (i := 150) (by decide +kernel))) rfl
theorem ml_X3_61 : Cond.methodLink RX3 61 yX9_smallestPrimeOf ∈ sw_U := sw_in (sw_t3 (List.mem_of_getElem? (i := 151) (by decide +kernel))) rfl
theorem ml_X3_66 : Cond.methodLink RX3 66 yX3_placeOf ∈ sw_U := sw_in (sw_t3 (List.mem_of_getElem? (i := 152) (by decide +kernel))) rfl
theorem ml_X3_69 : Cond.methodLink RX3 69 yX3_firstHit ∈ sw_U := sw_in (sw_t3 (List.mem_of_getElem? (i := 153) (by decide +kernel))) rfl
theorem im_X3_firstHit : Cond.instanceMethod yX3_firstHit ∈ sw_U := sw_in (sw_t3 (List.mem_of_getElem? (i := 154) (by decide +kernel))) rfl
theorem se_X3_firstHit : Cond.selects yX3_firstHit.cls yX3_firstHit yX3_firstHit ∈ sw_U := sw_in (sw_t3 (List.mem_of_getElem? (i := 155) (by decide +kernel))) rfl
theorem co_X3_firstHit : Cond.code yX3_firstHit cX3_firstHit 4 (Option.some Jvm.ClassFile.FieldType.int) ∈ sw_U := sw_in (sw_t3 (List.mem_of_getElem? (i := 156) (by decide +kernel))) rfl
theorem ml_X10_151 : Cond.methodLink RX10 151 yX10_countIdle ∈ sw_U := sw_in (sw_t3 (List.mem_of_getElem? (i := 157) (by decide +kernel))) rfl
theorem im_X10_countIdle : Cond.instanceMethod yX10_countIdle ∈ sw_U := sw_in (sw_t3 (List.mem_of_getElem? (i := 159) (by decide +kernel))) rfl
theorem co_X10_countIdle : Cond.code yX10_countIdle cX10_countIdle 4 (Option.some Jvm.ClassFile.FieldType.int) ∈ sw_U := sw_in (sw_t3 (List.mem_of_getElem? (i := 160) (by decide +kernel))) rfl
theorem ml_X10_182 : Cond.methodLink RX10 182 yX3_dOf ∈ sw_U := sw_in (sw_t3 (List.mem_of_getElem? (i := 161) (by decide +kernel))) rfl
theorem ml_X10_198 : Cond.methodLink RX10 198 yX7_smallestOwned ∈ sw_U := sw_in (sw_t3 (List.mem_of_getElem? (i := 162) (by decide +kernel))) rfl
theorem im_X7_smallestOwned : Cond.instanceMethod yX7_smallestOwned ∈ sw_U := sw_in (sw_t3 (List.mem_of_getElem? (i := 163) (by decide +kernel))) rfl
theorem se_X7_smallestOwned : Cond.selects yX7_smallestOwned.cls yX7_smallestOwned yX7_smallestOwned ∈ sw_U := sw_in (sw_t3 (List.mem_of_getElem? (i := 164) (by decide +kernel))) rfl
theorem co_X7_smallestOwned : Cond.code yX7_smallestOwned cX7_smallestOwned 3 (Option.some Jvm.ClassFile.FieldType.int) ∈ sw_U := sw_in (sw_t3 (List.mem_of_getElem? (i := 165) (by decide +kernel))) rfl
theorem ml_L_34 : Cond.methodLink RL 34 yX10_stretch ∈ sw_U := sw_in (sw_t3 (List.mem_of_getElem? (i := 166) (by decide +kernel))) rfl
theorem im_X10_stretch : Cond.instanceMethod yX10_stretch ∈ sw_U := sw_in (sw_t3 (List.mem_of_getElem? (i := 167) (by decide +kernel))) rfl
theorem se_X10_stretch : Cond.selects yX10_stretch.cls yX10_stretch yX10_stretch ∈ sw_U := sw_in (sw_t3 (List.mem_of_getElem? (i := 168) (by decide +kernel))) rfl
theorem co_X10_stretch : Cond.code yX10_stretch cX10_stretch 5 (Option.some Jvm.ClassFile.FieldType.int) ∈ sw_U := sw_in (sw_t3 (List.mem_of_getElem? (i := 169) (by decide +kernel))) rfl
theorem ml_X10_154 : Cond.methodLink RX10 154 yX10_needStretch ∈ sw_U := sw_in (sw_t3 (List.mem_of_getElem? (i := 170) (by decide +kernel))) rfl
theorem im_X10_needStretch : Cond.instanceMethod yX10_needStretch ∈ sw_U := sw_in (sw_t3 (List.mem_of_getElem? (i := 172) (by decide +kernel))) rfl
theorem co_X10_needStretch : Cond.code yX10_needStretch cX10_needStretch 2 (Option.none : Option Jvm.ClassFile.FieldType) ∈ sw_U := sw_in (sw_t3 (List.mem_of_getElem? (i := 173) (by decide +kernel))) rfl
theorem cl_X10_210 : Cond.classLink RX10 210 "java/util/NoSuchElementException" ∈ sw_U := sw_in (sw_t3 (List.mem_of_getElem? (i := 174) (by decide +kernel))) rfl
theorem ins_java_util_NoSuchElementException : Cond.instantiable "java/util/NoSuchElementException" 6 ∈ sw_U := sw_in (sw_t3 (List.mem_of_getElem? (i := 175) (by decide +kernel))) rfl
theorem ml_X10_212 : Cond.methodLink RX10 212 ⟨"java/util/NoSuchElementException", "<init>", "()V"⟩ ∈ sw_U := sw_in (sw_t3 (List.mem_of_getElem? (i := 183) (by decide +kernel))) rfl
theorem ml_X10_157 : Cond.methodLink RX10 157 yX3_firstNumberOf ∈ sw_U := sw_in (sw_t3 (List.mem_of_getElem? (i := 189) (by decide +kernel))) rfl
theorem im_X3_firstNumberOf : Cond.instanceMethod yX3_firstNumberOf ∈ sw_U := sw_in (sw_t3 (List.mem_of_getElem? (i := 190) (by decide +kernel))) rfl
theorem se_X3_firstNumberOf : Cond.selects yX3_firstNumberOf.cls yX3_firstNumberOf yX3_firstNumberOf ∈ sw_U := sw_in (sw_t3 (List.mem_of_getElem? (i := 191) (by decide +kernel))) rfl
theorem co_X3_firstNumberOf : Cond.code yX3_firstNumberOf cX3_firstNumberOf 2 (Option.some Jvm.ClassFile.FieldType.int) ∈ sw_U := sw_in (sw_t3 (List.mem_of_getElem? (i := 192) (by decide +kernel))) rfl
theorem ml_X3_40 : Cond.methodLink RX3 40 yX3_roomAhead ∈ sw_U := sw_in (sw_t3 (List.mem_of_getElem? (i := 193) (by decide +kernel))) rfl
theorem im_X3_roomAhead : Cond.instanceMethod yX3_roomAhead ∈ sw_U := sw_in (sw_t3 (List.mem_of_getElem? (i := 195) (by decide +kernel))) rfl
theorem co_X3_roomAhead : Cond.code yX3_roomAhead cX3_roomAhead 4 (Option.some Jvm.ClassFile.FieldType.int) ∈ sw_U := sw_in (sw_t3 (List.mem_of_getElem? (i := 196) (by decide +kernel))) rfl
theorem ml_X10_160 : Cond.methodLink RX10 160 yX3_lastNumberOf ∈ sw_U := sw_in (sw_t3 (List.mem_of_getElem? (i := 197) (by decide +kernel))) rfl
theorem im_X3_lastNumberOf : Cond.instanceMethod yX3_lastNumberOf ∈ sw_U := sw_in (sw_t3 (List.mem_of_getElem? (i := 198) (by decide +kernel))) rfl
theorem se_X3_lastNumberOf : Cond.selects yX3_lastNumberOf.cls yX3_lastNumberOf yX3_lastNumberOf ∈ sw_U := sw_in (sw_t3 (List.mem_of_getElem? (i := 199) (by decide +kernel))) rfl
theorem co_X3_lastNumberOf : Cond.code yX3_lastNumberOf cX3_lastNumberOf 2 (Option.some Jvm.ClassFile.FieldType.int) ∈ sw_U := sw_in (sw_t3 (List.mem_of_getElem? (i := 200) (by decide +kernel))) rfl
theorem ml_X10_163 : Cond.methodLink RX10 163 yX7_marksBetween ∈ sw_U := sw_in (sw_t3 (List.mem_of_getElem? (i := 201) (by decide +kernel))) rfl
theorem im_X7_marksBetween : Cond.instanceMethod yX7_marksBetween ∈ sw_U := sw_in (sw_t3 (List.mem_of_getElem? (i := 202) (by decide +kernel))) rfl
theorem se_X7_marksBetween : Cond.selects yX7_marksBetween.cls yX7_marksBetween yX7_marksBetween ∈ sw_U := sw_in (sw_t3 (List.mem_of_getElem? (i := 203) (by decide +kernel))) rfl
theorem co_X7_marksBetween : Cond.code yX7_marksBetween cX7_marksBetween 4 (Option.some Jvm.ClassFile.FieldType.int) ∈ sw_U := sw_in (sw_t3 (List.mem_of_getElem? (i := 204) (by decide +kernel))) rfl
theorem ml_X7_71 : Cond.methodLink RX7 71 yJ9_max_7cf53 ∈ sw_U := sw_in (sw_t3 (List.mem_of_getElem? (i := 205) (by decide +kernel))) rfl
theorem st_J9_max_7cf53 : Cond.static yJ9_max_7cf53 ∈ sw_U := sw_in (sw_t3 (List.mem_of_getElem? (i := 206) (by decide +kernel))) rfl
theorem co_J9_max_7cf53 : Cond.code yJ9_max_7cf53 cJ9_max_7cf53 2 (Option.some Jvm.ClassFile.FieldType.int) ∈ sw_U := sw_in (sw_t3 (List.mem_of_getElem? (i := 207) (by decide +kernel))) rfl
theorem ml_X7_74 : Cond.methodLink RX7 74 yX7_marksUpTo ∈ sw_U := sw_in (sw_t3 (List.mem_of_getElem? (i := 208) (by decide +kernel))) rfl
theorem im_X7_marksUpTo : Cond.instanceMethod yX7_marksUpTo ∈ sw_U := sw_in (sw_t3 (List.mem_of_getElem? (i := 209) (by decide +kernel))) rfl
theorem se_X7_marksUpTo : Cond.selects yX7_marksUpTo.cls yX7_marksUpTo yX7_marksUpTo ∈ sw_U := sw_in (sw_t3 (List.mem_of_getElem? (i := 210) (by decide +kernel))) rfl
theorem co_X7_marksUpTo : Cond.code yX7_marksUpTo cX7_marksUpTo 2 (Option.some Jvm.ClassFile.FieldType.int) ∈ sw_U := sw_in (sw_t3 (List.mem_of_getElem? (i := 211) (by decide +kernel))) rfl
theorem ml_X10_166 : Cond.methodLink RX10 166 yX7_spokesBetween ∈ sw_U := sw_in (sw_t3 (List.mem_of_getElem? (i := 212) (by decide +kernel))) rfl
theorem im_X7_spokesBetween : Cond.instanceMethod yX7_spokesBetween ∈ sw_U := sw_in (sw_t3 (List.mem_of_getElem? (i := 213) (by decide +kernel))) rfl
theorem se_X7_spokesBetween : Cond.selects yX7_spokesBetween.cls yX7_spokesBetween yX7_spokesBetween ∈ sw_U := sw_in (sw_t3 (List.mem_of_getElem? (i := 214) (by decide +kernel))) rfl
theorem co_X7_spokesBetween : Cond.code yX7_spokesBetween cX7_spokesBetween 6 (Option.some Jvm.ClassFile.FieldType.int) ∈ sw_U := sw_in (sw_t3 (List.mem_of_getElem? (i := 215) (by decide +kernel))) rfl
theorem ml_X10_169 : Cond.methodLink RX10 169 yX7_markAbove ∈ sw_U := sw_in (sw_t3 (List.mem_of_getElem? (i := 216) (by decide +kernel))) rfl
theorem im_X7_markAbove : Cond.instanceMethod yX7_markAbove ∈ sw_U := sw_in (sw_t3 (List.mem_of_getElem? (i := 217) (by decide +kernel))) rfl
theorem se_X7_markAbove : Cond.selects yX7_markAbove.cls yX7_markAbove yX7_markAbove ∈ sw_U := sw_in (sw_t3 (List.mem_of_getElem? (i := 218) (by decide +kernel))) rfl
theorem co_X7_markAbove : Cond.code yX7_markAbove cX7_markAbove 3 (Option.some Jvm.ClassFile.FieldType.int) ∈ sw_U := sw_in (sw_t3 (List.mem_of_getElem? (i := 219) (by decide +kernel))) rfl
theorem ml_X10_172 : Cond.methodLink RX10 172 yX10_orNone ∈ sw_U := sw_in (sw_t3 (List.mem_of_getElem? (i := 220) (by decide +kernel))) rfl
theorem st_X10_orNone : Cond.static yX10_orNone ∈ sw_U := sw_in (sw_t3 (List.mem_of_getElem? (i := 221) (by decide +kernel))) rfl
theorem co_X10_orNone : Cond.code yX10_orNone cX10_orNone 3 (Option.some Jvm.ClassFile.FieldType.int) ∈ sw_U := sw_in (sw_t3 (List.mem_of_getElem? (i := 222) (by decide +kernel))) rfl
theorem ml_X10_176 : Cond.methodLink RX10 176 yX7_markBelow ∈ sw_U := sw_in (sw_t3 (List.mem_of_getElem? (i := 223) (by decide +kernel))) rfl
theorem im_X7_markBelow : Cond.instanceMethod yX7_markBelow ∈ sw_U := sw_in (sw_t3 (List.mem_of_getElem? (i := 224) (by decide +kernel))) rfl
theorem se_X7_markBelow : Cond.selects yX7_markBelow.cls yX7_markBelow yX7_markBelow ∈ sw_U := sw_in (sw_t3 (List.mem_of_getElem? (i := 225) (by decide +kernel))) rfl
theorem co_X7_markBelow : Cond.code yX7_markBelow cX7_markBelow 3 (Option.some Jvm.ClassFile.FieldType.int) ∈ sw_U := sw_in (sw_t3 (List.mem_of_getElem? (i := 226) (by decide +kernel))) rfl
theorem ml_L_38 : Cond.methodLink RL 38 yX10_striker ∈ sw_U := sw_in (sw_t3 (List.mem_of_getElem? (i := 227) (by decide +kernel))) rfl
theorem im_X10_striker : Cond.instanceMethod yX10_striker ∈ sw_U := sw_in (sw_t3 (List.mem_of_getElem? (i := 228) (by decide +kernel))) rfl
theorem se_X10_striker : Cond.selects yX10_striker.cls yX10_striker yX10_striker ∈ sw_U := sw_in (sw_t3 (List.mem_of_getElem? (i := 229) (by decide +kernel))) rfl
theorem co_X10_striker : Cond.code yX10_striker cX10_striker 4 (Option.some Jvm.ClassFile.FieldType.int) ∈ sw_U := sw_in (sw_t3 (List.mem_of_getElem? (i := 230) (by decide +kernel))) rfl
theorem ml_X10_179 : Cond.methodLink RX10 179 yX10_needStriker ∈ sw_U := sw_in (sw_t3 (List.mem_of_getElem? (i := 231) (by decide +kernel))) rfl
theorem im_X10_needStriker : Cond.instanceMethod yX10_needStriker ∈ sw_U := sw_in (sw_t3 (List.mem_of_getElem? (i := 233) (by decide +kernel))) rfl
theorem co_X10_needStriker : Cond.code yX10_needStriker cX10_needStriker 2 (Option.none : Option Jvm.ClassFile.FieldType) ∈ sw_U := sw_in (sw_t3 (List.mem_of_getElem? (i := 234) (by decide +kernel))) rfl
theorem ml_X10_185 : Cond.methodLink RX10 185 yX7_countStrikes ∈ sw_U := sw_in (sw_t3 (List.mem_of_getElem? (i := 235) (by decide +kernel))) rfl
theorem im_X7_countStrikes : Cond.instanceMethod yX7_countStrikes ∈ sw_U := sw_in (sw_t3 (List.mem_of_getElem? (i := 236) (by decide +kernel))) rfl
theorem se_X7_countStrikes : Cond.selects yX7_countStrikes.cls yX7_countStrikes yX7_countStrikes ∈ sw_U := sw_in (sw_t3 (List.mem_of_getElem? (i := 237) (by decide +kernel))) rfl
theorem co_X7_countStrikes : Cond.code yX7_countStrikes cX7_countStrikes 4 (Option.some Jvm.ClassFile.FieldType.int) ∈ sw_U := sw_in (sw_t3 (List.mem_of_getElem? (i := 238) (by decide +kernel))) rfl
theorem ml_X10_188 : Cond.methodLink RX10 188 yX7_countOwned ∈ sw_U := sw_in (sw_t3 (List.mem_of_getElem? (i := 239) (by decide +kernel))) rfl
theorem im_X7_countOwned : Cond.instanceMethod yX7_countOwned ∈ sw_U := sw_in (sw_t4 (List.mem_of_getElem? (i := 0) (by decide +kernel))) rfl
theorem se_X7_countOwned : Cond.selects yX7_countOwned.cls yX7_countOwned yX7_countOwned ∈ sw_U := sw_in (sw_t4 (List.mem_of_getElem? (i := 1) (by decide +kernel))) rfl
theorem co_X7_countOwned : Cond.code yX7_countOwned cX7_countOwned 2 (Option.some Jvm.ClassFile.FieldType.int) ∈ sw_U := sw_in (sw_t4 (List.mem_of_getElem? (i := 2) (by decide +kernel))) rfl
theorem ml_X7_77 : Cond.methodLink RX7 77 yX7_countWithOwner ∈ sw_U := sw_in (sw_t4 (List.mem_of_getElem? (i := 3) (by decide +kernel))) rfl
theorem im_X7_countWithOwner : Cond.instanceMethod yX7_countWithOwner ∈ sw_U := sw_in (sw_t4 (List.mem_of_getElem? (i := 5) (by decide +kernel))) rfl
theorem co_X7_countWithOwner : Cond.code yX7_countWithOwner cX7_countWithOwner 5 (Option.some Jvm.ClassFile.FieldType.int) ∈ sw_U := sw_in (sw_t4 (List.mem_of_getElem? (i := 6) (by decide +kernel))) rfl
theorem ml_X10_191 : Cond.methodLink RX10 191 yX9_strikeAbove ∈ sw_U := sw_in (sw_t4 (List.mem_of_getElem? (i := 7) (by decide +kernel))) rfl
theorem st_X9_strikeAbove : Cond.static yX9_strikeAbove ∈ sw_U := sw_in (sw_t4 (List.mem_of_getElem? (i := 8) (by decide +kernel))) rfl
theorem co_X9_strikeAbove : Cond.code yX9_strikeAbove cX9_strikeAbove 6 (Option.some Jvm.ClassFile.FieldType.int) ∈ sw_U := sw_in (sw_t4 (List.mem_of_getElem? (i := 9) (by decide +kernel))) rfl
theorem ml_X9_26 : Cond.methodLink RX9 26 yJ9_max_7cf53 ∈ sw_U := sw_in (sw_t4 (List.mem_of_getElem? (i := 10) (by decide +kernel))) rfl
theorem ml_X9_31 : Cond.methodLink RX9 31 yX9_product ∈ sw_U := sw_in (sw_t4 (List.mem_of_getElem? (i := 11) (by decide +kernel))) rfl
theorem ml_X9_35 : Cond.methodLink RX9 35 yX9_isOnSpoke ∈ sw_U := sw_in (sw_t4 (List.mem_of_getElem? (i := 12) (by decide +kernel))) rfl
theorem st_X9_isOnSpoke : Cond.static yX9_isOnSpoke ∈ sw_U := sw_in (sw_t4 (List.mem_of_getElem? (i := 13) (by decide +kernel))) rfl
theorem co_X9_isOnSpoke : Cond.code yX9_isOnSpoke cX9_isOnSpoke 3 (Option.some Jvm.ClassFile.FieldType.boolean) ∈ sw_U := sw_in (sw_t4 (List.mem_of_getElem? (i := 14) (by decide +kernel))) rfl
theorem ml_X10_194 : Cond.methodLink RX10 194 yX9_isPrime ∈ sw_U := sw_in (sw_t4 (List.mem_of_getElem? (i := 15) (by decide +kernel))) rfl
theorem st_X9_isPrime : Cond.static yX9_isPrime ∈ sw_U := sw_in (sw_t4 (List.mem_of_getElem? (i := 16) (by decide +kernel))) rfl
theorem co_X9_isPrime : Cond.code yX9_isPrime cX9_isPrime 2 (Option.some Jvm.ClassFile.FieldType.boolean) ∈ sw_U := sw_in (sw_t4 (List.mem_of_getElem? (i := 17) (by decide +kernel))) rfl
theorem ml_L_203 : Cond.methodLink RL 203 yL_alike ∈ sw_U := sw_in (sw_t4 (List.mem_of_getElem? (i := 18) (by decide +kernel))) rfl
theorem st_L_alike : Cond.static yL_alike ∈ sw_U := sw_in (sw_t4 (List.mem_of_getElem? (i := 19) (by decide +kernel))) rfl
theorem co_L_alike : Cond.code yL_alike cL_alike 3 (Option.some Jvm.ClassFile.FieldType.boolean) ∈ sw_U := sw_in (sw_t4 (List.mem_of_getElem? (i := 20) rfl)) rfl
theorem ml_L_182 : Cond.methodLink RL 182 yL_areNumbers ∈ sw_U := sw_in (sw_t4 (List.mem_of_getElem? (i := 21) (by decide +kernel))) rfl
theorem st_L_areNumbers : Cond.static yL_areNumbers ∈ sw_U := sw_in (sw_t4 (List.mem_of_getElem? (i := 22) (by decide +kernel))) rfl
theorem co_L_areNumbers : Cond.code yL_areNumbers cL_areNumbers 11 (Option.some Jvm.ClassFile.FieldType.boolean) ∈ sw_U := sw_in (sw_t4 (List.mem_of_getElem? (i := 23) rfl)) rfl
theorem ml_L_41 : Cond.methodLink RL 41 yX10_missing ∈ sw_U := sw_in (sw_t4 (List.mem_of_getElem? (i := 24) (by decide +kernel))) rfl
theorem im_X10_missing : Cond.instanceMethod yX10_missing ∈ sw_U := sw_in (sw_t4 (List.mem_of_getElem? (i := 25) (by decide +kernel))) rfl
theorem se_X10_missing : Cond.selects yX10_missing.cls yX10_missing yX10_missing ∈ sw_U := sw_in (sw_t4 (List.mem_of_getElem? (i := 26) (by decide +kernel))) rfl
theorem co_X10_missing : Cond.code yX10_missing cX10_missing 1 (Option.some Jvm.ClassFile.FieldType.int) ∈ sw_U := sw_in (sw_t4 (List.mem_of_getElem? (i := 27) (by decide +kernel))) rfl
theorem ml_X10_244 : Cond.methodLink RX10 244 yX3_smallestMissing ∈ sw_U := sw_in (sw_t4 (List.mem_of_getElem? (i := 28) (by decide +kernel))) rfl
theorem im_X3_smallestMissing : Cond.instanceMethod yX3_smallestMissing ∈ sw_U := sw_in (sw_t4 (List.mem_of_getElem? (i := 29) (by decide +kernel))) rfl
theorem se_X3_smallestMissing : Cond.selects yX3_smallestMissing.cls yX3_smallestMissing yX3_smallestMissing ∈ sw_U := sw_in (sw_t4 (List.mem_of_getElem? (i := 30) (by decide +kernel))) rfl
theorem co_X3_smallestMissing : Cond.code yX3_smallestMissing cX3_smallestMissing 4 (Option.some Jvm.ClassFile.FieldType.int) ∈ sw_U := sw_in (sw_t4 (List.mem_of_getElem? (i := 31) (by decide +kernel))) rfl
theorem ml_L_44 : Cond.methodLink RL 44 yX10_at ∈ sw_U := sw_in (sw_t4 (List.mem_of_getElem? (i := 32) (by decide +kernel))) rfl
theorem im_X10_at : Cond.instanceMethod yX10_at ∈ sw_U := sw_in (sw_t4 (List.mem_of_getElem? (i := 33) (by decide +kernel))) rfl
theorem se_X10_at : Cond.selects yX10_at.cls yX10_at yX10_at ∈ sw_U := sw_in (sw_t4 (List.mem_of_getElem? (i := 34) (by decide +kernel))) rfl
theorem co_X10_at : Cond.code yX10_at cX10_at 3 (Option.some Jvm.ClassFile.FieldType.int) ∈ sw_U := sw_in (sw_t4 (List.mem_of_getElem? (i := 35) (by decide +kernel))) rfl
theorem ml_X10_204 : Cond.methodLink RX10 204 yX7_ownerOf ∈ sw_U := sw_in (sw_t4 (List.mem_of_getElem? (i := 36) (by decide +kernel))) rfl
theorem im_X7_ownerOf : Cond.instanceMethod yX7_ownerOf ∈ sw_U := sw_in (sw_t4 (List.mem_of_getElem? (i := 37) (by decide +kernel))) rfl
theorem se_X7_ownerOf : Cond.selects yX7_ownerOf.cls yX7_ownerOf yX7_ownerOf ∈ sw_U := sw_in (sw_t4 (List.mem_of_getElem? (i := 38) (by decide +kernel))) rfl
theorem co_X7_ownerOf : Cond.code yX7_ownerOf cX7_ownerOf 2 (Option.some Jvm.ClassFile.FieldType.int) ∈ sw_U := sw_in (sw_t4 (List.mem_of_getElem? (i := 39) (by decide +kernel))) rfl
theorem ml_L_47 : Cond.methodLink RL 47 yL_isPrime ∈ sw_U := sw_in (sw_t4 (List.mem_of_getElem? (i := 40) (by decide +kernel))) rfl
theorem st_L_isPrime : Cond.static yL_isPrime ∈ sw_U := sw_in (sw_t4 (List.mem_of_getElem? (i := 41) (by decide +kernel))) rfl
theorem co_L_isPrime : Cond.code yL_isPrime cL_isPrime 2 (Option.some Jvm.ClassFile.FieldType.boolean) ∈ sw_U := sw_in (sw_t4 (List.mem_of_getElem? (i := 42) rfl)) rfl
theorem ml_L_51 : Cond.methodLink RL 51 yX10_mark ∈ sw_U := sw_in (sw_t4 (List.mem_of_getElem? (i := 43) (by decide +kernel))) rfl
theorem im_X10_mark : Cond.instanceMethod yX10_mark ∈ sw_U := sw_in (sw_t4 (List.mem_of_getElem? (i := 44) (by decide +kernel))) rfl
theorem se_X10_mark : Cond.selects yX10_mark.cls yX10_mark yX10_mark ∈ sw_U := sw_in (sw_t4 (List.mem_of_getElem? (i := 45) (by decide +kernel))) rfl
theorem co_X10_mark : Cond.code yX10_mark cX10_mark 2 (Option.some Jvm.ClassFile.FieldType.int) ∈ sw_U := sw_in (sw_t4 (List.mem_of_getElem? (i := 46) (by decide +kernel))) rfl
theorem ml_X10_231 : Cond.methodLink RX10 231 yX7_markAt ∈ sw_U := sw_in (sw_t4 (List.mem_of_getElem? (i := 47) (by decide +kernel))) rfl
theorem im_X7_markAt : Cond.instanceMethod yX7_markAt ∈ sw_U := sw_in (sw_t4 (List.mem_of_getElem? (i := 48) (by decide +kernel))) rfl
theorem se_X7_markAt : Cond.selects yX7_markAt.cls yX7_markAt yX7_markAt ∈ sw_U := sw_in (sw_t4 (List.mem_of_getElem? (i := 49) (by decide +kernel))) rfl
theorem co_X7_markAt : Cond.code yX7_markAt cX7_markAt 3 (Option.some Jvm.ClassFile.FieldType.int) ∈ sw_U := sw_in (sw_t4 (List.mem_of_getElem? (i := 50) (by decide +kernel))) rfl
theorem ml_L_54 : Cond.methodLink RL 54 yX10_upTo ∈ sw_U := sw_in (sw_t4 (List.mem_of_getElem? (i := 51) (by decide +kernel))) rfl
theorem im_X10_upTo : Cond.instanceMethod yX10_upTo ∈ sw_U := sw_in (sw_t4 (List.mem_of_getElem? (i := 52) (by decide +kernel))) rfl
theorem se_X10_upTo : Cond.selects yX10_upTo.cls yX10_upTo yX10_upTo ∈ sw_U := sw_in (sw_t4 (List.mem_of_getElem? (i := 53) (by decide +kernel))) rfl
theorem co_X10_upTo : Cond.code yX10_upTo cX10_upTo 2 (Option.some Jvm.ClassFile.FieldType.int) ∈ sw_U := sw_in (sw_t4 (List.mem_of_getElem? (i := 54) (by decide +kernel))) rfl
theorem ml_X10_228 : Cond.methodLink RX10 228 yX7_marksUpTo ∈ sw_U := sw_in (sw_t4 (List.mem_of_getElem? (i := 55) (by decide +kernel))) rfl
theorem ml_L_57 : Cond.methodLink RL 57 yX10_cause ∈ sw_U := sw_in (sw_t4 (List.mem_of_getElem? (i := 56) (by decide +kernel))) rfl
theorem im_X10_cause : Cond.instanceMethod yX10_cause ∈ sw_U := sw_in (sw_t4 (List.mem_of_getElem? (i := 57) (by decide +kernel))) rfl
theorem se_X10_cause : Cond.selects yX10_cause.cls yX10_cause yX10_cause ∈ sw_U := sw_in (sw_t4 (List.mem_of_getElem? (i := 58) (by decide +kernel))) rfl
theorem co_X10_cause : Cond.code yX10_cause cX10_cause 3 (Option.some Jvm.ClassFile.FieldType.int) ∈ sw_U := sw_in (sw_t4 (List.mem_of_getElem? (i := 59) (by decide +kernel))) rfl
theorem ml_X10_207 : Cond.methodLink RX10 207 yX9_smallestPrimeOf ∈ sw_U := sw_in (sw_t4 (List.mem_of_getElem? (i := 60) (by decide +kernel))) rfl
theorem ml_L_60 : Cond.methodLink RL 60 yX10_find ∈ sw_U := sw_in (sw_t4 (List.mem_of_getElem? (i := 61) (by decide +kernel))) rfl
theorem im_X10_find : Cond.instanceMethod yX10_find ∈ sw_U := sw_in (sw_t4 (List.mem_of_getElem? (i := 62) (by decide +kernel))) rfl
theorem se_X10_find : Cond.selects yX10_find.cls yX10_find yX10_find ∈ sw_U := sw_in (sw_t4 (List.mem_of_getElem? (i := 63) (by decide +kernel))) rfl
theorem co_X10_find : Cond.code yX10_find cX10_find 2 (Option.some Jvm.ClassFile.FieldType.int) ∈ sw_U := sw_in (sw_t4 (List.mem_of_getElem? (i := 64) (by decide +kernel))) rfl
theorem ml_X10_201 : Cond.methodLink RX10 201 yX3_placeOf ∈ sw_U := sw_in (sw_t4 (List.mem_of_getElem? (i := 65) (by decide +kernel))) rfl
theorem ml_L_63 : Cond.methodLink RL 63 yX10_struck ∈ sw_U := sw_in (sw_t4 (List.mem_of_getElem? (i := 66) (by decide +kernel))) rfl
theorem im_X10_struck : Cond.instanceMethod yX10_struck ∈ sw_U := sw_in (sw_t4 (List.mem_of_getElem? (i := 67) (by decide +kernel))) rfl
theorem se_X10_struck : Cond.selects yX10_struck.cls yX10_struck yX10_struck ∈ sw_U := sw_in (sw_t4 (List.mem_of_getElem? (i := 68) (by decide +kernel))) rfl
theorem co_X10_struck : Cond.code yX10_struck cX10_struck 3 (Option.some Jvm.ClassFile.FieldType.int) ∈ sw_U := sw_in (sw_t4 (List.mem_of_getElem? (i := 69) (by decide +kernel))) rfl
theorem ml_X10_213 : Cond.methodLink RX10 213 yX3_countHits ∈ sw_U := sw_in (sw_t4 (List.mem_of_getElem? (i := 70) (by decide +kernel))) rfl
theorem im_X3_countHits : Cond.instanceMethod yX3_countHits ∈ sw_U := sw_in (sw_t4 (List.mem_of_getElem? (i := 71) (by decide +kernel))) rfl
theorem se_X3_countHits : Cond.selects yX3_countHits.cls yX3_countHits yX3_countHits ∈ sw_U := sw_in (sw_t4 (List.mem_of_getElem? (i := 72) (by decide +kernel))) rfl
theorem co_X3_countHits : Cond.code yX3_countHits cX3_countHits 7 (Option.some Jvm.ClassFile.FieldType.int) ∈ sw_U := sw_in (sw_t4 (List.mem_of_getElem? (i := 73) (by decide +kernel))) rfl
theorem ml_X3_58 : Cond.methodLink RX3 58 yJ9_max_7cf53 ∈ sw_U := sw_in (sw_t4 (List.mem_of_getElem? (i := 74) (by decide +kernel))) rfl
theorem ml_L_66 : Cond.methodLink RL 66 yX10_wrong ∈ sw_U := sw_in (sw_t4 (List.mem_of_getElem? (i := 75) (by decide +kernel))) rfl
theorem im_X10_wrong : Cond.instanceMethod yX10_wrong ∈ sw_U := sw_in (sw_t4 (List.mem_of_getElem? (i := 76) (by decide +kernel))) rfl
theorem se_X10_wrong : Cond.selects yX10_wrong.cls yX10_wrong yX10_wrong ∈ sw_U := sw_in (sw_t4 (List.mem_of_getElem? (i := 77) (by decide +kernel))) rfl
theorem co_X10_wrong : Cond.code yX10_wrong cX10_wrong 4 (Option.some Jvm.ClassFile.FieldType.int) ∈ sw_U := sw_in (sw_t4 (List.mem_of_getElem? (i := 78) (by decide +kernel))) rfl
theorem ml_X10_234 : Cond.methodLink RX10 234 yX7_lastNumber ∈ sw_U := sw_in (sw_t4 (List.mem_of_getElem? (i := 79) (by decide +kernel))) rfl
theorem im_X7_lastNumber : Cond.instanceMethod yX7_lastNumber ∈ sw_U := sw_in (sw_t4 (List.mem_of_getElem? (i := 80) (by decide +kernel))) rfl
theorem se_X7_lastNumber : Cond.selects yX7_lastNumber.cls yX7_lastNumber yX7_lastNumber ∈ sw_U := sw_in (sw_t4 (List.mem_of_getElem? (i := 81) (by decide +kernel))) rfl
theorem co_X7_lastNumber : Cond.code yX7_lastNumber cX7_lastNumber 1 (Option.some Jvm.ClassFile.FieldType.int) ∈ sw_U := sw_in (sw_t4 (List.mem_of_getElem? (i := 82) (by decide +kernel))) rfl
theorem ml_X10_235 : Cond.methodLink RX10 235 yX7_isMark ∈ sw_U := sw_in (sw_t4 (List.mem_of_getElem? (i := 83) (by decide +kernel))) rfl
theorem im_X7_isMark : Cond.instanceMethod yX7_isMark ∈ sw_U := sw_in (sw_t4 (List.mem_of_getElem? (i := 84) (by decide +kernel))) rfl
theorem se_X7_isMark : Cond.selects yX7_isMark.cls yX7_isMark yX7_isMark ∈ sw_U := sw_in (sw_t4 (List.mem_of_getElem? (i := 85) (by decide +kernel))) rfl
theorem co_X7_isMark : Cond.code yX7_isMark cX7_isMark 2 (Option.some Jvm.ClassFile.FieldType.boolean) ∈ sw_U := sw_in (sw_t4 (List.mem_of_getElem? (i := 86) (by decide +kernel))) rfl
theorem ml_X7_68 : Cond.methodLink RX7 68 yX7_ownerOf ∈ sw_U := sw_in (sw_t4 (List.mem_of_getElem? (i := 87) (by decide +kernel))) rfl
theorem ml_L_69 : Cond.methodLink RL 69 yX10_firstWrong ∈ sw_U := sw_in (sw_t4 (List.mem_of_getElem? (i := 88) (by decide +kernel))) rfl
theorem im_X10_firstWrong : Cond.instanceMethod yX10_firstWrong ∈ sw_U := sw_in (sw_t4 (List.mem_of_getElem? (i := 89) (by decide +kernel))) rfl
theorem se_X10_firstWrong : Cond.selects yX10_firstWrong.cls yX10_firstWrong yX10_firstWrong ∈ sw_U := sw_in (sw_t4 (List.mem_of_getElem? (i := 90) (by decide +kernel))) rfl
theorem co_X10_firstWrong : Cond.code yX10_firstWrong cX10_firstWrong 3 (Option.some Jvm.ClassFile.FieldType.int) ∈ sw_U := sw_in (sw_t4 (List.mem_of_getElem? (i := 91) (by decide +kernel))) rfl
theorem ml_L_72 : Cond.methodLink RL 72 yX10_gap ∈ sw_U := sw_in (sw_t4 (List.mem_of_getElem? (i := 92) (by decide +kernel))) rfl
theorem im_X10_gap : Cond.instanceMethod yX10_gap ∈ sw_U := sw_in (sw_t4 (List.mem_of_getElem? (i := 93) (by decide +kernel))) rfl
theorem se_X10_gap : Cond.selects yX10_gap.cls yX10_gap yX10_gap ∈ sw_U := sw_in (sw_t4 (List.mem_of_getElem? (i := 94) (by decide +kernel))) rfl
theorem co_X10_gap : Cond.code yX10_gap cX10_gap 4 (Option.some Jvm.ClassFile.FieldType.int) ∈ sw_U := sw_in (sw_t4 (List.mem_of_getElem? (i := 95) (by decide +kernel))) rfl
theorem ml_X10_247 : Cond.methodLink RX10 247 yX10_wrong ∈ sw_U := sw_in (sw_t4 (List.mem_of_getElem? (i := 96) (by decide +kernel))) rfl
theorem ml_L_186 : Cond.methodLink RL 186 yL_areStretches ∈ sw_U := sw_in (sw_t4 (List.mem_of_getElem? (i := 97) (by decide +kernel))) rfl
theorem st_L_areStretches : Cond.static yL_areStretches ∈ sw_U := sw_in (sw_t4 (List.mem_of_getElem? (i := 98) (by decide +kernel))) rfl
theorem co_L_areStretches : Cond.code yL_areStretches cL_areStretches 5 (Option.some Jvm.ClassFile.FieldType.boolean) ∈ sw_U := sw_in (sw_t4 (List.mem_of_getElem? (i := 99) rfl)) rfl
theorem ml_L_75 : Cond.methodLink RL 75 yX10_between ∈ sw_U := sw_in (sw_t4 (List.mem_of_getElem? (i := 100) (by decide +kernel))) rfl
theorem im_X10_between : Cond.instanceMethod yX10_between ∈ sw_U := sw_in (sw_t4 (List.mem_of_getElem? (i := 101) (by decide +kernel))) rfl
theorem se_X10_between : Cond.selects yX10_between.cls yX10_between yX10_between ∈ sw_U := sw_in (sw_t4 (List.mem_of_getElem? (i := 102) (by decide +kernel))) rfl
theorem co_X10_between : Cond.code yX10_between cX10_between 3 (Option.some Jvm.ClassFile.FieldType.int) ∈ sw_U := sw_in (sw_t4 (List.mem_of_getElem? (i := 103) (by decide +kernel))) rfl
theorem ml_L_78 : Cond.methodLink RL 78 yX10_widest ∈ sw_U := sw_in (sw_t4 (List.mem_of_getElem? (i := 104) (by decide +kernel))) rfl
theorem im_X10_widest : Cond.instanceMethod yX10_widest ∈ sw_U := sw_in (sw_t4 (List.mem_of_getElem? (i := 105) (by decide +kernel))) rfl
theorem se_X10_widest : Cond.selects yX10_widest.cls yX10_widest yX10_widest ∈ sw_U := sw_in (sw_t4 (List.mem_of_getElem? (i := 106) (by decide +kernel))) rfl
theorem co_X10_widest : Cond.code yX10_widest cX10_widest 2 (Option.some Jvm.ClassFile.FieldType.int) ∈ sw_U := sw_in (sw_t4 (List.mem_of_getElem? (i := 107) (by decide +kernel))) rfl
theorem ml_X10_238 : Cond.methodLink RX10 238 yX10_widestAt ∈ sw_U := sw_in (sw_t4 (List.mem_of_getElem? (i := 108) (by decide +kernel))) rfl
theorem im_X10_widestAt : Cond.instanceMethod yX10_widestAt ∈ sw_U := sw_in (sw_t4 (List.mem_of_getElem? (i := 109) (by decide +kernel))) rfl
theorem se_X10_widestAt : Cond.selects yX10_widestAt.cls yX10_widestAt yX10_widestAt ∈ sw_U := sw_in (sw_t4 (List.mem_of_getElem? (i := 110) (by decide +kernel))) rfl
theorem co_X10_widestAt : Cond.code yX10_widestAt cX10_widestAt 6 (Option.some Jvm.ClassFile.FieldType.int) ∈ sw_U := sw_in (sw_t4 (List.mem_of_getElem? (i := 111) (by decide +kernel))) rfl
theorem ml_L_81 : Cond.methodLink RL 81 yX10_widestAt ∈ sw_U := sw_in (sw_t4 (List.mem_of_getElem? (i := 112) (by decide +kernel))) rfl
theorem ml_L_84 : Cond.methodLink RL 84 yX10_next ∈ sw_U := sw_in (sw_t4 (List.mem_of_getElem? (i := 113) (by decide +kernel))) rfl
theorem im_X10_next : Cond.instanceMethod yX10_next ∈ sw_U := sw_in (sw_t4 (List.mem_of_getElem? (i := 114) (by decide +kernel))) rfl
theorem se_X10_next : Cond.selects yX10_next.cls yX10_next yX10_next ∈ sw_U := sw_in (sw_t4 (List.mem_of_getElem? (i := 115) (by decide +kernel))) rfl
theorem co_X10_next : Cond.code yX10_next cX10_next 3 (Option.some Jvm.ClassFile.FieldType.int) ∈ sw_U := sw_in (sw_t4 (List.mem_of_getElem? (i := 116) (by decide +kernel))) rfl
theorem ml_L_88 : Cond.methodLink RL 88 yX10_gaps ∈ sw_U := sw_in (sw_t4 (List.mem_of_getElem? (i := 117) (by decide +kernel))) rfl
theorem im_X10_gaps : Cond.instanceMethod yX10_gaps ∈ sw_U := sw_in (sw_t4 (List.mem_of_getElem? (i := 118) (by decide +kernel))) rfl
theorem se_X10_gaps : Cond.selects yX10_gaps.cls yX10_gaps yX10_gaps ∈ sw_U := sw_in (sw_t4 (List.mem_of_getElem? (i := 119) (by decide +kernel))) rfl
theorem co_X10_gaps : Cond.code yX10_gaps cX10_gaps 5 (Option.some Jvm.ClassFile.FieldType.int) ∈ sw_U := sw_in (sw_t4 (List.mem_of_getElem? (i := 120) (by decide +kernel))) rfl
theorem ml_L_91 : Cond.methodLink RL 91 yX10_best ∈ sw_U := sw_in (sw_t4 (List.mem_of_getElem? (i := 121) (by decide +kernel))) rfl
theorem im_X10_best : Cond.instanceMethod yX10_best ∈ sw_U := sw_in (sw_t4 (List.mem_of_getElem? (i := 122) (by decide +kernel))) rfl
theorem se_X10_best : Cond.selects yX10_best.cls yX10_best yX10_best ∈ sw_U := sw_in (sw_t4 (List.mem_of_getElem? (i := 123) (by decide +kernel))) rfl
theorem co_X10_best : Cond.code yX10_best cX10_best 6 (Option.some Jvm.ClassFile.FieldType.int) ∈ sw_U := sw_in (sw_t4 (List.mem_of_getElem? (i := 124) (by decide +kernel))) rfl
theorem ml_X10_250 : Cond.methodLink RX10 250 yX7_countTaken ∈ sw_U := sw_in (sw_t4 (List.mem_of_getElem? (i := 125) (by decide +kernel))) rfl
theorem im_X7_countTaken : Cond.instanceMethod yX7_countTaken ∈ sw_U := sw_in (sw_t4 (List.mem_of_getElem? (i := 126) (by decide +kernel))) rfl
theorem se_X7_countTaken : Cond.selects yX7_countTaken.cls yX7_countTaken yX7_countTaken ∈ sw_U := sw_in (sw_t4 (List.mem_of_getElem? (i := 127) (by decide +kernel))) rfl
theorem co_X7_countTaken : Cond.code yX7_countTaken cX7_countTaken 2 (Option.some Jvm.ClassFile.FieldType.int) ∈ sw_U := sw_in (sw_t4 (List.mem_of_getElem? (i := 128) (by decide +kernel))) rfl
theorem ml_L_94 : Cond.methodLink RL 94 yX10_takes ∈ sw_U := sw_in (sw_t4 (List.mem_of_getElem? (i := 129) (by decide +kernel))) rfl
theorem im_X10_takes : Cond.instanceMethod yX10_takes ∈ sw_U := sw_in (sw_t4 (List.mem_of_getElem? (i := 130) (by decide +kernel))) rfl
theorem se_X10_takes : Cond.selects yX10_takes.cls yX10_takes yX10_takes ∈ sw_U := sw_in (sw_t4 (List.mem_of_getElem? (i := 131) (by decide +kernel))) rfl
theorem co_X10_takes : Cond.code yX10_takes cX10_takes 2 (Option.some Jvm.ClassFile.FieldType.int) ∈ sw_U := sw_in (sw_t4 (List.mem_of_getElem? (i := 132) (by decide +kernel))) rfl
theorem ml_L_97 : Cond.methodLink RL 97 yX10_longest ∈ sw_U := sw_in (sw_t4 (List.mem_of_getElem? (i := 133) (by decide +kernel))) rfl
theorem im_X10_longest : Cond.instanceMethod yX10_longest ∈ sw_U := sw_in (sw_t4 (List.mem_of_getElem? (i := 134) (by decide +kernel))) rfl
theorem se_X10_longest : Cond.selects yX10_longest.cls yX10_longest yX10_longest ∈ sw_U := sw_in (sw_t4 (List.mem_of_getElem? (i := 135) (by decide +kernel))) rfl
theorem co_X10_longest : Cond.code yX10_longest cX10_longest 6 (Option.some Jvm.ClassFile.FieldType.int) ∈ sw_U := sw_in (sw_t4 (List.mem_of_getElem? (i := 136) (by decide +kernel))) rfl
theorem ml_X10_220 : Cond.methodLink RX10 220 yJ9_max_7cf53 ∈ sw_U := sw_in (sw_t4 (List.mem_of_getElem? (i := 137) (by decide +kernel))) rfl
theorem ml_L_100 : Cond.methodLink RL 100 yX10_thickest ∈ sw_U := sw_in (sw_t4 (List.mem_of_getElem? (i := 138) (by decide +kernel))) rfl
theorem im_X10_thickest : Cond.instanceMethod yX10_thickest ∈ sw_U := sw_in (sw_t4 (List.mem_of_getElem? (i := 139) (by decide +kernel))) rfl
theorem se_X10_thickest : Cond.selects yX10_thickest.cls yX10_thickest yX10_thickest ∈ sw_U := sw_in (sw_t4 (List.mem_of_getElem? (i := 140) (by decide +kernel))) rfl
theorem co_X10_thickest : Cond.code yX10_thickest cX10_thickest 5 (Option.some Jvm.ClassFile.FieldType.int) ∈ sw_U := sw_in (sw_t4 (List.mem_of_getElem? (i := 141) (by decide +kernel))) rfl
theorem ml_L_196 : Cond.methodLink RL 196 yL_act ∈ sw_U := sw_in (sw_t4 (List.mem_of_getElem? (i := 142) (by decide +kernel))) rfl
theorem st_L_act : Cond.static yL_act ∈ sw_U := sw_in (sw_t4 (List.mem_of_getElem? (i := 143) (by decide +kernel))) rfl
theorem co_L_act : Cond.code yL_act cL_act 11 (Option.some Jvm.ClassFile.FieldType.boolean) ∈ sw_U := sw_in (sw_t4 (List.mem_of_getElem? (i := 144) rfl)) rfl
theorem ml_L_106 : Cond.methodLink RL 106 yX10_marksNext ∈ sw_U := sw_in (sw_t4 (List.mem_of_getElem? (i := 145) (by decide +kernel))) rfl
theorem im_X10_marksNext : Cond.instanceMethod yX10_marksNext ∈ sw_U := sw_in (sw_t4 (List.mem_of_getElem? (i := 146) (by decide +kernel))) rfl
theorem se_X10_marksNext : Cond.selects yX10_marksNext.cls yX10_marksNext yX10_marksNext ∈ sw_U := sw_in (sw_t4 (List.mem_of_getElem? (i := 147) (by decide +kernel))) rfl
theorem co_X10_marksNext : Cond.code yX10_marksNext cX10_marksNext 5 (Option.some Jvm.ClassFile.FieldType.int) ∈ sw_U := sw_in (sw_t4 (List.mem_of_getElem? (i := 148) (by decide +kernel))) rfl
theorem ml_X10_257 : Cond.methodLink RX10 257 yX9_isOnSpoke ∈ sw_U := sw_in (sw_t4 (List.mem_of_getElem? (i := 149) (by decide +kernel))) rfl
theorem ml_X10_260 : Cond.methodLink RX10 260 yX3_firstHit ∈ sw_U := sw_in (sw_t4 (List.mem_of_getElem? (i := 150) (by decide +kernel))) rfl
theorem ml_L_109 : Cond.methodLink RL 109 yX10_lay ∈ sw_U := sw_in (sw_t4 (List.mem_of_getElem? (i := 151) (by decide +kernel))) rfl
theorem im_X10_lay : Cond.instanceMethod yX10_lay ∈ sw_U := sw_in (sw_t4 (List.mem_of_getElem? (i := 152) (by decide +kernel))) rfl
theorem se_X10_lay : Cond.selects yX10_lay.cls yX10_lay yX10_lay ∈ sw_U := sw_in (sw_t4 (List.mem_of_getElem? (i := 153) (by decide +kernel))) rfl
theorem co_X10_lay : Cond.code yX10_lay cX10_lay 2 (Option.some Jvm.ClassFile.FieldType.int) ∈ sw_U := sw_in (sw_t4 (List.mem_of_getElem? (i := 154) (by decide +kernel))) rfl
theorem fl_X10_267 : Cond.fieldLink RX10 267 "StrikeWheels$Order" "LAY" "LStrikeWheels$Order;" ∈ sw_U := sw_in (sw_t4 (List.mem_of_getElem? (i := 155) (by decide +kernel))) rfl
theorem ml_X10_273 : Cond.methodLink RX10 273 yX10_operate ∈ sw_U := sw_in (sw_t4 (List.mem_of_getElem? (i := 157) (by decide +kernel))) rfl
theorem im_X10_operate : Cond.instanceMethod yX10_operate ∈ sw_U := sw_in (sw_t4 (List.mem_of_getElem? (i := 159) (by decide +kernel))) rfl
theorem co_X10_operate : Cond.code yX10_operate cX10_operate 5 (Option.some Jvm.ClassFile.FieldType.int) ∈ sw_U := sw_in (sw_t4 (List.mem_of_getElem? (i := 160) (by decide +kernel))) rfl
theorem ml_X10_361 : Cond.methodLink RX10 361 yX2_isInRange ∈ sw_U := sw_in (sw_t4 (List.mem_of_getElem? (i := 161) (by decide +kernel))) rfl
theorem im_X2_isInRange : Cond.instanceMethod yX2_isInRange ∈ sw_U := sw_in (sw_t4 (List.mem_of_getElem? (i := 162) (by decide +kernel))) rfl
theorem se_X2_isInRange : Cond.selects yX2_isInRange.cls yX2_isInRange yX2_isInRange ∈ sw_U := sw_in (sw_t4 (List.mem_of_getElem? (i := 163) (by decide +kernel))) rfl
theorem co_X2_isInRange : Cond.code yX2_isInRange cX2_isInRange 3 (Option.some Jvm.ClassFile.FieldType.boolean) ∈ sw_U := sw_in (sw_t4 (List.mem_of_getElem? (i := 164) (by decide +kernel))) rfl
theorem ml_X10_324 : Cond.methodLink RX10 324 yX10_carryOut ∈ sw_U := sw_in (sw_t4 (List.mem_of_getElem? (i := 165) (by decide +kernel))) rfl
theorem im_X10_carryOut : Cond.instanceMethod yX10_carryOut ∈ sw_U := sw_in (sw_t4 (List.mem_of_getElem? (i := 167) (by decide +kernel))) rfl
theorem co_X10_carryOut : Cond.code yX10_carryOut cX10_carryOut 4 (Option.some Jvm.ClassFile.FieldType.int) ∈ sw_U := sw_in (sw_t4 (List.mem_of_getElem? (i := 168) (by decide +kernel))) rfl
theorem fl_X10_364 : Cond.fieldLink RX10 364 "StrikeWheels$1" "$SwitchMap$StrikeWheels$Order" "[I" ∈ sw_U := sw_in (sw_t4 (List.mem_of_getElem? (i := 169) (by decide +kernel))) rfl
