theorem dX1_init_0 : decode cX1_init 0 = .ok (.aload_n 0, 1) := by decide +kernel
theorem dX1_init_1 : decode cX1_init 1 = .ok (.invokespecial 3, 3) := by decide +kernel
theorem dX1_init_4 : decode cX1_init 4 = .ok (.aload_n 0, 1) := by decide +kernel
theorem dX1_init_5 : decode cX1_init 5 = .ok (.bipush 8, 2) := by decide +kernel
theorem dX1_init_7 : decode cX1_init 7 = .ok (.anewarray 9, 3) := by decide +kernel
theorem dX1_init_10 : decode cX1_init 10 = .ok (.putfield 11, 3) := by decide +kernel
theorem dX1_init_13 : decode cX1_init 13 = .ok (.aload_n 0, 1) := by decide +kernel
theorem dX1_init_14 : decode cX1_init 14 = .ok (.iconst 0, 1) := by decide +kernel
theorem dX1_init_15 : decode cX1_init 15 = .ok (.putfield 17, 3) := by decide +kernel
theorem dX1_init_18 : decode cX1_init 18 = .ok (.aload_n 0, 1) := by decide +kernel
theorem dX1_init_19 : decode cX1_init 19 = .ok (.iconst 0, 1) := by decide +kernel
theorem dX1_init_20 : decode cX1_init 20 = .ok (.putfield 21, 3) := by decide +kernel
theorem dX1_init_23 : decode cX1_init 23 = .ok (.iconst 0, 1) := by decide +kernel
theorem dX1_init_24 : decode cX1_init 24 = .ok (.istore_n 1, 1) := by decide +kernel
theorem dX1_init_25 : decode cX1_init 25 = .ok (.iload_n 1, 1) := by decide +kernel
theorem dX1_init_26 : decode cX1_init 26 = .ok (.bipush 8, 2) := by decide +kernel
theorem dX1_init_28 : decode cX1_init 28 = .ok (.if_icmp .ge 22, 3) := by decide +kernel
theorem dX1_init_31 : decode cX1_init 31 = .ok (.aload_n 0, 1) := by decide +kernel
theorem dX1_init_32 : decode cX1_init 32 = .ok (.getfield 11, 3) := by decide +kernel
theorem dX1_init_35 : decode cX1_init 35 = .ok (.iload_n 1, 1) := by decide +kernel
theorem dX1_init_36 : decode cX1_init 36 = .ok (.new 9, 3) := by decide +kernel
theorem dX1_init_39 : decode cX1_init 39 = .ok (.dup, 1) := by decide +kernel
theorem dX1_init_40 : decode cX1_init 40 = .ok (.invokespecial 24, 3) := by decide +kernel
theorem dX1_init_43 : decode cX1_init 43 = .ok (.aastore, 1) := by decide +kernel
theorem dX1_init_44 : decode cX1_init 44 = .ok (.iinc 1 1, 3) := by decide +kernel
theorem dX1_init_47 : decode cX1_init 47 = .ok (.goto (-22), 3) := by decide +kernel
theorem dX1_init_50 : decode cX1_init 50 = .ok (.return_, 1) := by decide +kernel
theorem dX1_count_0 : decode cX1_count 0 = .ok (.aload_n 0, 1) := by decide +kernel
theorem dX1_count_1 : decode cX1_count 1 = .ok (.getfield 21, 3) := by decide +kernel
theorem dX1_count_4 : decode cX1_count 4 = .ok (.ireturn, 1) := by decide +kernel
theorem dX1_forget_0 : decode cX1_forget 0 = .ok (.aload_n 0, 1) := by decide +kernel
theorem dX1_forget_1 : decode cX1_forget 1 = .ok (.iconst 0, 1) := by decide +kernel
theorem dX1_forget_2 : decode cX1_forget 2 = .ok (.putfield 21, 3) := by decide +kernel
theorem dX1_forget_5 : decode cX1_forget 5 = .ok (.return_, 1) := by decide +kernel
theorem dX1_push_0 : decode cX1_push 0 = .ok (.aload_n 0, 1) := by decide +kernel
theorem dX1_push_1 : decode cX1_push 1 = .ok (.getfield 11, 3) := by decide +kernel
theorem dX1_push_4 : decode cX1_push 4 = .ok (.aload_n 0, 1) := by decide +kernel
theorem dX1_push_5 : decode cX1_push 5 = .ok (.getfield 17, 3) := by decide +kernel
theorem dX1_push_8 : decode cX1_push 8 = .ok (.aload_n 0, 1) := by decide +kernel
theorem dX1_push_9 : decode cX1_push 9 = .ok (.getfield 21, 3) := by decide +kernel
theorem dX1_push_12 : decode cX1_push 12 = .ok (.iadd, 1) := by decide +kernel
theorem dX1_push_13 : decode cX1_push 13 = .ok (.bipush 8, 2) := by decide +kernel
theorem dX1_push_15 : decode cX1_push 15 = .ok (.irem, 1) := by decide +kernel
theorem dX1_push_16 : decode cX1_push 16 = .ok (.aaload, 1) := by decide +kernel
theorem dX1_push_17 : decode cX1_push 17 = .ok (.aload_n 1, 1) := by decide +kernel
theorem dX1_push_18 : decode cX1_push 18 = .ok (.invokevirtual 25, 3) := by decide +kernel
theorem dX1_push_21 : decode cX1_push 21 = .ok (.aload_n 0, 1) := by decide +kernel
theorem dX1_push_22 : decode cX1_push 22 = .ok (.getfield 21, 3) := by decide +kernel
theorem dX1_push_25 : decode cX1_push 25 = .ok (.bipush 8, 2) := by decide +kernel
theorem dX1_push_27 : decode cX1_push 27 = .ok (.if_icmp .ge 16, 3) := by decide +kernel
theorem dX1_push_30 : decode cX1_push 30 = .ok (.aload_n 0, 1) := by decide +kernel
theorem dX1_push_31 : decode cX1_push 31 = .ok (.dup, 1) := by decide +kernel
theorem dX1_push_32 : decode cX1_push 32 = .ok (.getfield 21, 3) := by decide +kernel
theorem dX1_push_35 : decode cX1_push 35 = .ok (.iconst 1, 1) := by decide +kernel
theorem dX1_push_36 : decode cX1_push 36 = .ok (.iadd, 1) := by decide +kernel
theorem dX1_push_37 : decode cX1_push 37 = .ok (.putfield 21, 3) := by decide +kernel
theorem dX1_push_40 : decode cX1_push 40 = .ok (.goto 16, 3) := by decide +kernel
theorem dX1_push_43 : decode cX1_push 43 = .ok (.aload_n 0, 1) := by decide +kernel
theorem dX1_push_44 : decode cX1_push 44 = .ok (.aload_n 0, 1) := by decide +kernel
theorem dX1_push_45 : decode cX1_push 45 = .ok (.getfield 17, 3) := by decide +kernel
theorem dX1_push_48 : decode cX1_push 48 = .ok (.iconst 1, 1) := by decide +kernel
theorem dX1_push_49 : decode cX1_push 49 = .ok (.iadd, 1) := by decide +kernel
theorem dX1_push_50 : decode cX1_push 50 = .ok (.bipush 8, 2) := by decide +kernel
theorem dX1_push_52 : decode cX1_push 52 = .ok (.irem, 1) := by decide +kernel
theorem dX1_push_53 : decode cX1_push 53 = .ok (.putfield 17, 3) := by decide +kernel
theorem dX1_push_56 : decode cX1_push 56 = .ok (.return_, 1) := by decide +kernel
theorem dX1_pop_0 : decode cX1_pop 0 = .ok (.aload_n 0, 1) := by decide +kernel
theorem dX1_pop_1 : decode cX1_pop 1 = .ok (.getfield 21, 3) := by decide +kernel
theorem dX1_pop_4 : decode cX1_pop 4 = .ok (.ifCond .le 34, 3) := by decide +kernel
theorem dX1_pop_7 : decode cX1_pop 7 = .ok (.aload_n 0, 1) := by decide +kernel
theorem dX1_pop_8 : decode cX1_pop 8 = .ok (.dup, 1) := by decide +kernel
theorem dX1_pop_9 : decode cX1_pop 9 = .ok (.getfield 21, 3) := by decide +kernel
theorem dX1_pop_12 : decode cX1_pop 12 = .ok (.iconst 1, 1) := by decide +kernel
theorem dX1_pop_13 : decode cX1_pop 13 = .ok (.isub, 1) := by decide +kernel
theorem dX1_pop_14 : decode cX1_pop 14 = .ok (.putfield 21, 3) := by decide +kernel
theorem dX1_pop_17 : decode cX1_pop 17 = .ok (.aload_n 1, 1) := by decide +kernel
theorem dX1_pop_18 : decode cX1_pop 18 = .ok (.aload_n 0, 1) := by decide +kernel
theorem dX1_pop_19 : decode cX1_pop 19 = .ok (.getfield 11, 3) := by decide +kernel
theorem dX1_pop_22 : decode cX1_pop 22 = .ok (.aload_n 0, 1) := by decide +kernel
theorem dX1_pop_23 : decode cX1_pop 23 = .ok (.getfield 17, 3) := by decide +kernel
theorem dX1_pop_26 : decode cX1_pop 26 = .ok (.aload_n 0, 1) := by decide +kernel
theorem dX1_pop_27 : decode cX1_pop 27 = .ok (.getfield 21, 3) := by decide +kernel
theorem dX1_pop_30 : decode cX1_pop 30 = .ok (.iadd, 1) := by decide +kernel
theorem dX1_pop_31 : decode cX1_pop 31 = .ok (.bipush 8, 2) := by decide +kernel
theorem dX1_pop_33 : decode cX1_pop 33 = .ok (.irem, 1) := by decide +kernel
theorem dX1_pop_34 : decode cX1_pop 34 = .ok (.aaload, 1) := by decide +kernel
theorem dX1_pop_35 : decode cX1_pop 35 = .ok (.invokevirtual 25, 3) := by decide +kernel
theorem dX1_pop_38 : decode cX1_pop 38 = .ok (.return_, 1) := by decide +kernel
theorem dX2_isInRange_0 : decode cX2_isInRange 0 = .ok (.aload_n 0, 1) := by decide +kernel
theorem dX2_isInRange_1 : decode cX2_isInRange 1 = .ok (.getfield 59, 3) := by decide +kernel
theorem dX2_isInRange_4 : decode cX2_isInRange 4 = .ok (.iconst 1, 1) := by decide +kernel
theorem dX2_isInRange_5 : decode cX2_isInRange 5 = .ok (.if_icmp .lt 19, 3) := by decide +kernel
theorem dX2_isInRange_8 : decode cX2_isInRange 8 = .ok (.iload_n 1, 1) := by decide +kernel
theorem dX2_isInRange_9 : decode cX2_isInRange 9 = .ok (.aload_n 0, 1) := by decide +kernel
theorem dX2_isInRange_10 : decode cX2_isInRange 10 = .ok (.getfield 63, 3) := by decide +kernel
theorem dX2_isInRange_13 : decode cX2_isInRange 13 = .ok (.if_icmp .lt 39, 3) := by decide +kernel
theorem dX2_isInRange_16 : decode cX2_isInRange 16 = .ok (.iload_n 1, 1) := by decide +kernel
theorem dX2_isInRange_17 : decode cX2_isInRange 17 = .ok (.aload_n 0, 1) := by decide +kernel
theorem dX2_isInRange_18 : decode cX2_isInRange 18 = .ok (.getfield 66, 3) := by decide +kernel
theorem dX2_isInRange_21 : decode cX2_isInRange 21 = .ok (.if_icmp .gt 31, 3) := by decide +kernel
theorem dX2_isInRange_24 : decode cX2_isInRange 24 = .ok (.aload_n 0, 1) := by decide +kernel
theorem dX2_isInRange_25 : decode cX2_isInRange 25 = .ok (.getfield 59, 3) := by decide +kernel
theorem dX2_isInRange_28 : decode cX2_isInRange 28 = .ok (.iconst 2, 1) := by decide +kernel
theorem dX2_isInRange_29 : decode cX2_isInRange 29 = .ok (.if_icmp .lt 19, 3) := by decide +kernel
theorem dX2_isInRange_32 : decode cX2_isInRange 32 = .ok (.iload_n 2, 1) := by decide +kernel
theorem dX2_isInRange_33 : decode cX2_isInRange 33 = .ok (.aload_n 0, 1) := by decide +kernel
theorem dX2_isInRange_34 : decode cX2_isInRange 34 = .ok (.getfield 63, 3) := by decide +kernel
theorem dX2_isInRange_37 : decode cX2_isInRange 37 = .ok (.if_icmp .lt 15, 3) := by decide +kernel
theorem dX2_isInRange_40 : decode cX2_isInRange 40 = .ok (.iload_n 2, 1) := by decide +kernel
theorem dX2_isInRange_41 : decode cX2_isInRange 41 = .ok (.aload_n 0, 1) := by decide +kernel
theorem dX2_isInRange_42 : decode cX2_isInRange 42 = .ok (.getfield 66, 3) := by decide +kernel
theorem dX2_isInRange_45 : decode cX2_isInRange 45 = .ok (.if_icmp .gt 7, 3) := by decide +kernel
theorem dX2_isInRange_48 : decode cX2_isInRange 48 = .ok (.iconst 1, 1) := by decide +kernel
theorem dX2_isInRange_49 : decode cX2_isInRange 49 = .ok (.goto 4, 3) := by decide +kernel
theorem dX2_isInRange_52 : decode cX2_isInRange 52 = .ok (.iconst 0, 1) := by decide +kernel
theorem dX2_isInRange_53 : decode cX2_isInRange 53 = .ok (.ireturn, 1) := by decide +kernel
theorem dX3_init_0 : decode cX3_init 0 = .ok (.aload_n 0, 1) := by decide +kernel
theorem dX3_init_1 : decode cX3_init 1 = .ok (.invokespecial 3, 3) := by decide +kernel
theorem dX3_init_4 : decode cX3_init 4 = .ok (.aload_n 0, 1) := by decide +kernel
theorem dX3_init_5 : decode cX3_init 5 = .ok (.iconst 0, 1) := by decide +kernel
theorem dX3_init_6 : decode cX3_init 6 = .ok (.putfield 9, 3) := by decide +kernel
theorem dX3_init_9 : decode cX3_init 9 = .ok (.aload_n 0, 1) := by decide +kernel
theorem dX3_init_10 : decode cX3_init 10 = .ok (.iconst 0, 1) := by decide +kernel
theorem dX3_init_11 : decode cX3_init 11 = .ok (.putfield 15, 3) := by decide +kernel
theorem dX3_init_14 : decode cX3_init 14 = .ok (.aload_n 0, 1) := by decide +kernel
theorem dX3_init_15 : decode cX3_init 15 = .ok (.bipush 12, 2) := by decide +kernel
theorem dX3_init_17 : decode cX3_init 17 = .ok (.newarray .int, 2) := by decide +kernel
theorem dX3_init_19 : decode cX3_init 19 = .ok (.putfield 18, 3) := by decide +kernel
theorem dX3_init_22 : decode cX3_init 22 = .ok (.aload_n 0, 1) := by decide +kernel
theorem dX3_init_23 : decode cX3_init 23 = .ok (.iconst 1, 1) := by decide +kernel
theorem dX3_init_24 : decode cX3_init 24 = .ok (.putfield 22, 3) := by decide +kernel
theorem dX3_init_27 : decode cX3_init 27 = .ok (.aload_n 0, 1) := by decide +kernel
theorem dX3_init_28 : decode cX3_init 28 = .ok (.iconst 0, 1) := by decide +kernel
theorem dX3_init_29 : decode cX3_init 29 = .ok (.putfield 25, 3) := by decide +kernel
theorem dX3_init_32 : decode cX3_init 32 = .ok (.aload_n 0, 1) := by decide +kernel
theorem dX3_init_33 : decode cX3_init 33 = .ok (.bipush 30, 2) := by decide +kernel
theorem dX3_init_35 : decode cX3_init 35 = .ok (.newarray .int, 2) := by decide +kernel
theorem dX3_init_37 : decode cX3_init 37 = .ok (.putfield 28, 3) := by decide +kernel
theorem dX3_init_40 : decode cX3_init 40 = .ok (.aload_n 0, 1) := by decide +kernel
theorem dX3_init_41 : decode cX3_init 41 = .ok (.iconst 0, 1) := by decide +kernel
theorem dX3_init_42 : decode cX3_init 42 = .ok (.putfield 31, 3) := by decide +kernel
theorem dX3_init_45 : decode cX3_init 45 = .ok (.return_, 1) := by decide +kernel
theorem dX3_beginWith_0 : decode cX3_beginWith 0 = .ok (.aload_n 0, 1) := by decide +kernel
theorem dX3_beginWith_1 : decode cX3_beginWith 1 = .ok (.iload_n 1, 1) := by decide +kernel
theorem dX3_beginWith_2 : decode cX3_beginWith 2 = .ok (.putfield 9, 3) := by decide +kernel
theorem dX3_beginWith_5 : decode cX3_beginWith 5 = .ok (.aload_n 0, 1) := by decide +kernel
theorem dX3_beginWith_6 : decode cX3_beginWith 6 = .ok (.iconst 0, 1) := by decide +kernel
theorem dX3_beginWith_7 : decode cX3_beginWith 7 = .ok (.putfield 15, 3) := by decide +kernel
theorem dX3_beginWith_10 : decode cX3_beginWith 10 = .ok (.aload_n 0, 1) := by decide +kernel
theorem dX3_beginWith_11 : decode cX3_beginWith 11 = .ok (.iconst 1, 1) := by decide +kernel
theorem dX3_beginWith_12 : decode cX3_beginWith 12 = .ok (.putfield 22, 3) := by decide +kernel
theorem dX3_beginWith_15 : decode cX3_beginWith 15 = .ok (.aload_n 0, 1) := by decide +kernel
theorem dX3_beginWith_16 : decode cX3_beginWith 16 = .ok (.iconst 0, 1) := by decide +kernel
theorem dX3_beginWith_17 : decode cX3_beginWith 17 = .ok (.putfield 25, 3) := by decide +kernel
theorem dX3_beginWith_20 : decode cX3_beginWith 20 = .ok (.aload_n 0, 1) := by decide +kernel
theorem dX3_beginWith_21 : decode cX3_beginWith 21 = .ok (.dup, 1) := by decide +kernel
theorem dX3_beginWith_22 : decode cX3_beginWith 22 = .ok (.getfield 31, 3) := by decide +kernel
theorem dX3_beginWith_25 : decode cX3_beginWith 25 = .ok (.iconst 1, 1) := by decide +kernel
theorem dX3_beginWith_26 : decode cX3_beginWith 26 = .ok (.iadd, 1) := by decide +kernel
theorem dX3_beginWith_27 : decode cX3_beginWith 27 = .ok (.putfield 31, 3) := by decide +kernel
theorem dX3_beginWith_30 : decode cX3_beginWith 30 = .ok (.return_, 1) := by decide +kernel
theorem dX3_takeOver_0 : decode cX3_takeOver 0 = .ok (.aload_n 0, 1) := by decide +kernel
theorem dX3_takeOver_1 : decode cX3_takeOver 1 = .ok (.aload_n 1, 1) := by decide +kernel
theorem dX3_takeOver_2 : decode cX3_takeOver 2 = .ok (.getfield 9, 3) := by decide +kernel
theorem dX3_takeOver_5 : decode cX3_takeOver 5 = .ok (.putfield 9, 3) := by decide +kernel
theorem dX3_takeOver_8 : decode cX3_takeOver 8 = .ok (.aload_n 0, 1) := by decide +kernel
theorem dX3_takeOver_9 : decode cX3_takeOver 9 = .ok (.aload_n 1, 1) := by decide +kernel
theorem dX3_takeOver_10 : decode cX3_takeOver 10 = .ok (.getfield 15, 3) := by decide +kernel
theorem dX3_takeOver_13 : decode cX3_takeOver 13 = .ok (.putfield 15, 3) := by decide +kernel
theorem dX3_takeOver_16 : decode cX3_takeOver 16 = .ok (.aload_n 0, 1) := by decide +kernel
theorem dX3_takeOver_17 : decode cX3_takeOver 17 = .ok (.aload_n 1, 1) := by decide +kernel
theorem dX3_takeOver_18 : decode cX3_takeOver 18 = .ok (.getfield 22, 3) := by decide +kernel
theorem dX3_takeOver_21 : decode cX3_takeOver 21 = .ok (.putfield 22, 3) := by decide +kernel
theorem dX3_takeOver_24 : decode cX3_takeOver 24 = .ok (.aload_n 0, 1) := by decide +kernel
theorem dX3_takeOver_25 : decode cX3_takeOver 25 = .ok (.aload_n 1, 1) := by decide +kernel
theorem dX3_takeOver_26 : decode cX3_takeOver 26 = .ok (.getfield 25, 3) := by decide +kernel
theorem dX3_takeOver_29 : decode cX3_takeOver 29 = .ok (.putfield 25, 3) := by decide +kernel
theorem dX3_takeOver_32 : decode cX3_takeOver 32 = .ok (.aload_n 1, 1) := by decide +kernel
theorem dX3_takeOver_33 : decode cX3_takeOver 33 = .ok (.getfield 18, 3) := by decide +kernel
theorem dX3_takeOver_36 : decode cX3_takeOver 36 = .ok (.iconst 0, 1) := by decide +kernel
theorem dX3_takeOver_37 : decode cX3_takeOver 37 = .ok (.aload_n 0, 1) := by decide +kernel
theorem dX3_takeOver_38 : decode cX3_takeOver 38 = .ok (.getfield 18, 3) := by decide +kernel
theorem dX3_takeOver_41 : decode cX3_takeOver 41 = .ok (.iconst 0, 1) := by decide +kernel
theorem dX3_takeOver_42 : decode cX3_takeOver 42 = .ok (.bipush 12, 2) := by decide +kernel
theorem dX3_takeOver_44 : decode cX3_takeOver 44 = .ok (.invokestatic 34, 3) := by decide +kernel
theorem dX3_takeOver_47 : decode cX3_takeOver 47 = .ok (.aload_n 1, 1) := by decide +kernel
theorem dX3_takeOver_48 : decode cX3_takeOver 48 = .ok (.getfield 28, 3) := by decide +kernel
theorem dX3_takeOver_51 : decode cX3_takeOver 51 = .ok (.iconst 0, 1) := by decide +kernel
theorem dX3_takeOver_52 : decode cX3_takeOver 52 = .ok (.aload_n 0, 1) := by decide +kernel
theorem dX3_takeOver_53 : decode cX3_takeOver 53 = .ok (.getfield 28, 3) := by decide +kernel
theorem dX3_takeOver_56 : decode cX3_takeOver 56 = .ok (.iconst 0, 1) := by decide +kernel
theorem dX3_takeOver_57 : decode cX3_takeOver 57 = .ok (.bipush 30, 2) := by decide +kernel
theorem dX3_takeOver_59 : decode cX3_takeOver 59 = .ok (.invokestatic 34, 3) := by decide +kernel
theorem dX3_takeOver_62 : decode cX3_takeOver 62 = .ok (.aload_n 0, 1) := by decide +kernel
theorem dX3_takeOver_63 : decode cX3_takeOver 63 = .ok (.dup, 1) := by decide +kernel
theorem dX3_takeOver_64 : decode cX3_takeOver 64 = .ok (.getfield 31, 3) := by decide +kernel
theorem dX3_takeOver_67 : decode cX3_takeOver 67 = .ok (.iconst 1, 1) := by decide +kernel
theorem dX3_takeOver_68 : decode cX3_takeOver 68 = .ok (.iadd, 1) := by decide +kernel
theorem dX3_takeOver_69 : decode cX3_takeOver 69 = .ok (.putfield 31, 3) := by decide +kernel
theorem dX3_takeOver_72 : decode cX3_takeOver 72 = .ok (.return_, 1) := by decide +kernel
theorem dX3_version_0 : decode cX3_version 0 = .ok (.aload_n 0, 1) := by decide +kernel
theorem dX3_version_1 : decode cX3_version 1 = .ok (.getfield 31, 3) := by decide +kernel
theorem dX3_version_4 : decode cX3_version 4 = .ok (.ireturn, 1) := by decide +kernel
theorem dX3_wheelNow_0 : decode cX3_wheelNow 0 = .ok (.aload_n 0, 1) := by decide +kernel
theorem dX3_wheelNow_1 : decode cX3_wheelNow 1 = .ok (.getfield 9, 3) := by decide +kernel
theorem dX3_wheelNow_4 : decode cX3_wheelNow 4 = .ok (.ireturn, 1) := by decide +kernel
theorem dX3_setWheel_0 : decode cX3_setWheel 0 = .ok (.aload_n 0, 1) := by decide +kernel
theorem dX3_setWheel_1 : decode cX3_setWheel 1 = .ok (.iload_n 1, 1) := by decide +kernel
theorem dX3_setWheel_2 : decode cX3_setWheel 2 = .ok (.putfield 9, 3) := by decide +kernel
theorem dX3_setWheel_5 : decode cX3_setWheel 5 = .ok (.aload_n 0, 1) := by decide +kernel
theorem dX3_setWheel_6 : decode cX3_setWheel 6 = .ok (.dup, 1) := by decide +kernel
theorem dX3_setWheel_7 : decode cX3_setWheel 7 = .ok (.getfield 31, 3) := by decide +kernel
theorem dX3_setWheel_10 : decode cX3_setWheel 10 = .ok (.iconst 1, 1) := by decide +kernel
theorem dX3_setWheel_11 : decode cX3_setWheel 11 = .ok (.iadd, 1) := by decide +kernel
theorem dX3_setWheel_12 : decode cX3_setWheel 12 = .ok (.putfield 31, 3) := by decide +kernel
theorem dX3_setWheel_15 : decode cX3_setWheel 15 = .ok (.return_, 1) := by decide +kernel
theorem dX3_stretchCount_0 : decode cX3_stretchCount 0 = .ok (.aload_n 0, 1) := by decide +kernel
theorem dX3_stretchCount_1 : decode cX3_stretchCount 1 = .ok (.getfield 15, 3) := by decide +kernel
theorem dX3_stretchCount_4 : decode cX3_stretchCount 4 = .ok (.ireturn, 1) := by decide +kernel
theorem dX3_firstNumberOf_0 : decode cX3_firstNumberOf 0 = .ok (.iconst 2, 1) := by decide +kernel
theorem dX3_firstNumberOf_1 : decode cX3_firstNumberOf 1 = .ok (.aload_n 0, 1) := by decide +kernel
theorem dX3_firstNumberOf_2 : decode cX3_firstNumberOf 2 = .ok (.iload_n 1, 1) := by decide +kernel
theorem dX3_firstNumberOf_3 : decode cX3_firstNumberOf 3 = .ok (.invokevirtual 40, 3) := by decide +kernel
theorem dX3_firstNumberOf_6 : decode cX3_firstNumberOf 6 = .ok (.iadd, 1) := by decide +kernel
theorem dX3_firstNumberOf_7 : decode cX3_firstNumberOf 7 = .ok (.ireturn, 1) := by decide +kernel
theorem dX3_lastNumberOf_0 : decode cX3_lastNumberOf 0 = .ok (.iconst 1, 1) := by decide +kernel
theorem dX3_lastNumberOf_1 : decode cX3_lastNumberOf 1 = .ok (.aload_n 0, 1) := by decide +kernel
theorem dX3_lastNumberOf_2 : decode cX3_lastNumberOf 2 = .ok (.iload_n 1, 1) := by decide +kernel
theorem dX3_lastNumberOf_3 : decode cX3_lastNumberOf 3 = .ok (.iconst 1, 1) := by decide +kernel
theorem dX3_lastNumberOf_4 : decode cX3_lastNumberOf 4 = .ok (.iadd, 1) := by decide +kernel
theorem dX3_lastNumberOf_5 : decode cX3_lastNumberOf 5 = .ok (.invokevirtual 40, 3) := by decide +kernel
theorem dX3_lastNumberOf_8 : decode cX3_lastNumberOf 8 = .ok (.iadd, 1) := by decide +kernel
theorem dX3_lastNumberOf_9 : decode cX3_lastNumberOf 9 = .ok (.ireturn, 1) := by decide +kernel
theorem dX3_lastNumber_0 : decode cX3_lastNumber 0 = .ok (.aload_n 0, 1) := by decide +kernel
theorem dX3_lastNumber_1 : decode cX3_lastNumber 1 = .ok (.getfield 22, 3) := by decide +kernel
theorem dX3_lastNumber_4 : decode cX3_lastNumber 4 = .ok (.ireturn, 1) := by decide +kernel
theorem dX3_roomAhead_0 : decode cX3_roomAhead 0 = .ok (.iconst 0, 1) := by decide +kernel
theorem dX3_roomAhead_1 : decode cX3_roomAhead 1 = .ok (.istore_n 2, 1) := by decide +kernel
theorem dX3_roomAhead_2 : decode cX3_roomAhead 2 = .ok (.iconst 0, 1) := by decide +kernel
theorem dX3_roomAhead_3 : decode cX3_roomAhead 3 = .ok (.istore_n 3, 1) := by decide +kernel
theorem dX3_roomAhead_4 : decode cX3_roomAhead 4 = .ok (.iload_n 3, 1) := by decide +kernel
theorem dX3_roomAhead_5 : decode cX3_roomAhead 5 = .ok (.iload_n 1, 1) := by decide +kernel
theorem dX3_roomAhead_6 : decode cX3_roomAhead 6 = .ok (.if_icmp .ge 27, 3) := by decide +kernel
theorem dX3_roomAhead_9 : decode cX3_roomAhead 9 = .ok (.iload_n 3, 1) := by decide +kernel
theorem dX3_roomAhead_10 : decode cX3_roomAhead 10 = .ok (.aload_n 0, 1) := by decide +kernel
theorem dX3_roomAhead_11 : decode cX3_roomAhead 11 = .ok (.getfield 18, 3) := by decide +kernel
theorem dX3_roomAhead_14 : decode cX3_roomAhead 14 = .ok (.arraylength, 1) := by decide +kernel
theorem dX3_roomAhead_15 : decode cX3_roomAhead 15 = .ok (.if_icmp .ge 18, 3) := by decide +kernel
theorem dX3_roomAhead_18 : decode cX3_roomAhead 18 = .ok (.iload_n 2, 1) := by decide +kernel
theorem dX3_roomAhead_19 : decode cX3_roomAhead 19 = .ok (.aload_n 0, 1) := by decide +kernel
theorem dX3_roomAhead_20 : decode cX3_roomAhead 20 = .ok (.getfield 18, 3) := by decide +kernel
theorem dX3_roomAhead_23 : decode cX3_roomAhead 23 = .ok (.iload_n 3, 1) := by decide +kernel
theorem dX3_roomAhead_24 : decode cX3_roomAhead 24 = .ok (.iaload, 1) := by decide +kernel
theorem dX3_roomAhead_25 : decode cX3_roomAhead 25 = .ok (.iadd, 1) := by decide +kernel
theorem dX3_roomAhead_26 : decode cX3_roomAhead 26 = .ok (.istore_n 2, 1) := by decide +kernel
theorem dX3_roomAhead_27 : decode cX3_roomAhead 27 = .ok (.iinc 3 1, 3) := by decide +kernel
theorem dX3_roomAhead_30 : decode cX3_roomAhead 30 = .ok (.goto (-26), 3) := by decide +kernel
theorem dX3_roomAhead_33 : decode cX3_roomAhead 33 = .ok (.iload_n 2, 1) := by decide +kernel
theorem dX3_roomAhead_34 : decode cX3_roomAhead 34 = .ok (.ireturn, 1) := by decide +kernel
theorem dX3_lastRoom_0 : decode cX3_lastRoom 0 = .ok (.aload_n 0, 1) := by decide +kernel
theorem dX3_lastRoom_1 : decode cX3_lastRoom 1 = .ok (.getfield 15, 3) := by decide +kernel
theorem dX3_lastRoom_4 : decode cX3_lastRoom 4 = .ok (.iconst 1, 1) := by decide +kernel
theorem dX3_lastRoom_5 : decode cX3_lastRoom 5 = .ok (.if_icmp .lt 15, 3) := by decide +kernel
theorem dX3_lastRoom_8 : decode cX3_lastRoom 8 = .ok (.aload_n 0, 1) := by decide +kernel
theorem dX3_lastRoom_9 : decode cX3_lastRoom 9 = .ok (.getfield 15, 3) := by decide +kernel
theorem dX3_lastRoom_12 : decode cX3_lastRoom 12 = .ok (.aload_n 0, 1) := by decide +kernel
theorem dX3_lastRoom_13 : decode cX3_lastRoom 13 = .ok (.getfield 18, 3) := by decide +kernel
theorem dX3_lastRoom_16 : decode cX3_lastRoom 16 = .ok (.arraylength, 1) := by decide +kernel
theorem dX3_lastRoom_17 : decode cX3_lastRoom 17 = .ok (.if_icmp .le 7, 3) := by decide +kernel
theorem dX3_lastRoom_20 : decode cX3_lastRoom 20 = .ok (.iconst 0, 1) := by decide +kernel
theorem dX3_lastRoom_21 : decode cX3_lastRoom 21 = .ok (.goto 14, 3) := by decide +kernel
theorem dX3_lastRoom_24 : decode cX3_lastRoom 24 = .ok (.aload_n 0, 1) := by decide +kernel
theorem dX3_lastRoom_25 : decode cX3_lastRoom 25 = .ok (.getfield 18, 3) := by decide +kernel
theorem dX3_lastRoom_28 : decode cX3_lastRoom 28 = .ok (.aload_n 0, 1) := by decide +kernel
theorem dX3_lastRoom_29 : decode cX3_lastRoom 29 = .ok (.getfield 15, 3) := by decide +kernel
theorem dX3_lastRoom_32 : decode cX3_lastRoom 32 = .ok (.iconst 1, 1) := by decide +kernel
theorem dX3_lastRoom_33 : decode cX3_lastRoom 33 = .ok (.isub, 1) := by decide +kernel
theorem dX3_lastRoom_34 : decode cX3_lastRoom 34 = .ok (.iaload, 1) := by decide +kernel
theorem dX3_lastRoom_35 : decode cX3_lastRoom 35 = .ok (.ireturn, 1) := by decide +kernel
theorem dX3_appendStretch_0 : decode cX3_appendStretch 0 = .ok (.aload_n 0, 1) := by decide +kernel
theorem dX3_appendStretch_1 : decode cX3_appendStretch 1 = .ok (.getfield 15, 3) := by decide +kernel
theorem dX3_appendStretch_4 : decode cX3_appendStretch 4 = .ok (.ifCond .lt 55, 3) := by decide +kernel
theorem dX3_appendStretch_7 : decode cX3_appendStretch 7 = .ok (.aload_n 0, 1) := by decide +kernel
theorem dX3_appendStretch_8 : decode cX3_appendStretch 8 = .ok (.getfield 15, 3) := by decide +kernel
theorem dX3_appendStretch_11 : decode cX3_appendStretch 11 = .ok (.aload_n 0, 1) := by decide +kernel
theorem dX3_appendStretch_12 : decode cX3_appendStretch 12 = .ok (.getfield 18, 3) := by decide +kernel
theorem dX3_appendStretch_15 : decode cX3_appendStretch 15 = .ok (.arraylength, 1) := by decide +kernel
theorem dX3_appendStretch_16 : decode cX3_appendStretch 16 = .ok (.if_icmp .ge 43, 3) := by decide +kernel
theorem dX3_appendStretch_19 : decode cX3_appendStretch 19 = .ok (.aload_n 0, 1) := by decide +kernel
theorem dX3_appendStretch_20 : decode cX3_appendStretch 20 = .ok (.getfield 18, 3) := by decide +kernel
theorem dX3_appendStretch_23 : decode cX3_appendStretch 23 = .ok (.aload_n 0, 1) := by decide +kernel
theorem dX3_appendStretch_24 : decode cX3_appendStretch 24 = .ok (.getfield 15, 3) := by decide +kernel
theorem dX3_appendStretch_27 : decode cX3_appendStretch 27 = .ok (.iload_n 1, 1) := by decide +kernel
theorem dX3_appendStretch_28 : decode cX3_appendStretch 28 = .ok (.iastore, 1) := by decide +kernel
theorem dX3_appendStretch_29 : decode cX3_appendStretch 29 = .ok (.aload_n 0, 1) := by decide +kernel
theorem dX3_appendStretch_30 : decode cX3_appendStretch 30 = .ok (.dup, 1) := by decide +kernel
theorem dX3_appendStretch_31 : decode cX3_appendStretch 31 = .ok (.getfield 15, 3) := by decide +kernel
theorem dX3_appendStretch_34 : decode cX3_appendStretch 34 = .ok (.iconst 1, 1) := by decide +kernel
theorem dX3_appendStretch_35 : decode cX3_appendStretch 35 = .ok (.iadd, 1) := by decide +kernel
theorem dX3_appendStretch_36 : decode cX3_appendStretch 36 = .ok (.putfield 15, 3) := by decide +kernel
theorem dX3_appendStretch_39 : decode cX3_appendStretch 39 = .ok (.aload_n 0, 1) := by decide +kernel
theorem dX3_appendStretch_40 : decode cX3_appendStretch 40 = .ok (.dup, 1) := by decide +kernel
theorem dX3_appendStretch_41 : decode cX3_appendStretch 41 = .ok (.getfield 22, 3) := by decide +kernel
theorem dX3_appendStretch_44 : decode cX3_appendStretch 44 = .ok (.iload_n 1, 1) := by decide +kernel
theorem dX3_appendStretch_45 : decode cX3_appendStretch 45 = .ok (.iadd, 1) := by decide +kernel
theorem dX3_appendStretch_46 : decode cX3_appendStretch 46 = .ok (.putfield 22, 3) := by decide +kernel
theorem dX3_appendStretch_49 : decode cX3_appendStretch 49 = .ok (.aload_n 0, 1) := by decide +kernel
theorem dX3_appendStretch_50 : decode cX3_appendStretch 50 = .ok (.dup, 1) := by decide +kernel
theorem dX3_appendStretch_51 : decode cX3_appendStretch 51 = .ok (.getfield 31, 3) := by decide +kernel
theorem dX3_appendStretch_54 : decode cX3_appendStretch 54 = .ok (.iconst 1, 1) := by decide +kernel
theorem dX3_appendStretch_55 : decode cX3_appendStretch 55 = .ok (.iadd, 1) := by decide +kernel
theorem dX3_appendStretch_56 : decode cX3_appendStretch 56 = .ok (.putfield 31, 3) := by decide +kernel
theorem dX3_appendStretch_59 : decode cX3_appendStretch 59 = .ok (.return_, 1) := by decide +kernel
theorem dX3_removeStretch_0 : decode cX3_removeStretch 0 = .ok (.aload_n 0, 1) := by decide +kernel
theorem dX3_removeStretch_1 : decode cX3_removeStretch 1 = .ok (.invokevirtual 44, 3) := by decide +kernel
theorem dX3_removeStretch_4 : decode cX3_removeStretch 4 = .ok (.istore_n 1, 1) := by decide +kernel
theorem dX3_removeStretch_5 : decode cX3_removeStretch 5 = .ok (.iload_n 1, 1) := by decide +kernel
theorem dX3_removeStretch_6 : decode cX3_removeStretch 6 = .ok (.ifCond .le 33, 3) := by decide +kernel
theorem dX3_removeStretch_9 : decode cX3_removeStretch 9 = .ok (.aload_n 0, 1) := by decide +kernel
theorem dX3_removeStretch_10 : decode cX3_removeStretch 10 = .ok (.dup, 1) := by decide +kernel
theorem dX3_removeStretch_11 : decode cX3_removeStretch 11 = .ok (.getfield 15, 3) := by decide +kernel
theorem dX3_removeStretch_14 : decode cX3_removeStretch 14 = .ok (.iconst 1, 1) := by decide +kernel
theorem dX3_removeStretch_15 : decode cX3_removeStretch 15 = .ok (.isub, 1) := by decide +kernel
theorem dX3_removeStretch_16 : decode cX3_removeStretch 16 = .ok (.putfield 15, 3) := by decide +kernel
theorem dX3_removeStretch_19 : decode cX3_removeStretch 19 = .ok (.aload_n 0, 1) := by decide +kernel
theorem dX3_removeStretch_20 : decode cX3_removeStretch 20 = .ok (.dup, 1) := by decide +kernel
theorem dX3_removeStretch_21 : decode cX3_removeStretch 21 = .ok (.getfield 22, 3) := by decide +kernel
theorem dX3_removeStretch_24 : decode cX3_removeStretch 24 = .ok (.iload_n 1, 1) := by decide +kernel
theorem dX3_removeStretch_25 : decode cX3_removeStretch 25 = .ok (.isub, 1) := by decide +kernel
theorem dX3_removeStretch_26 : decode cX3_removeStretch 26 = .ok (.putfield 22, 3) := by decide +kernel
theorem dX3_removeStretch_29 : decode cX3_removeStretch 29 = .ok (.aload_n 0, 1) := by decide +kernel
theorem dX3_removeStretch_30 : decode cX3_removeStretch 30 = .ok (.dup, 1) := by decide +kernel
theorem dX3_removeStretch_31 : decode cX3_removeStretch 31 = .ok (.getfield 31, 3) := by decide +kernel
theorem dX3_removeStretch_34 : decode cX3_removeStretch 34 = .ok (.iconst 1, 1) := by decide +kernel
theorem dX3_removeStretch_35 : decode cX3_removeStretch 35 = .ok (.iadd, 1) := by decide +kernel
theorem dX3_removeStretch_36 : decode cX3_removeStretch 36 = .ok (.putfield 31, 3) := by decide +kernel
theorem dX3_removeStretch_39 : decode cX3_removeStretch 39 = .ok (.return_, 1) := by decide +kernel
theorem dX3_strikerCount_0 : decode cX3_strikerCount 0 = .ok (.aload_n 0, 1) := by decide +kernel
theorem dX3_strikerCount_1 : decode cX3_strikerCount 1 = .ok (.getfield 25, 3) := by decide +kernel
theorem dX3_strikerCount_4 : decode cX3_strikerCount 4 = .ok (.ireturn, 1) := by decide +kernel
theorem dX3_dOf_0 : decode cX3_dOf 0 = .ok (.iload_n 1, 1) := by decide +kernel
theorem dX3_dOf_1 : decode cX3_dOf 1 = .ok (.ifCond .lt 20, 3) := by decide +kernel
theorem dX3_dOf_4 : decode cX3_dOf 4 = .ok (.iload_n 1, 1) := by decide +kernel
theorem dX3_dOf_5 : decode cX3_dOf 5 = .ok (.aload_n 0, 1) := by decide +kernel
theorem dX3_dOf_6 : decode cX3_dOf 6 = .ok (.getfield 25, 3) := by decide +kernel
theorem dX3_dOf_9 : decode cX3_dOf 9 = .ok (.if_icmp .ge 12, 3) := by decide +kernel
theorem dX3_dOf_12 : decode cX3_dOf 12 = .ok (.iload_n 1, 1) := by decide +kernel
theorem dX3_dOf_13 : decode cX3_dOf 13 = .ok (.aload_n 0, 1) := by decide +kernel
theorem dX3_dOf_14 : decode cX3_dOf 14 = .ok (.getfield 28, 3) := by decide +kernel
theorem dX3_dOf_17 : decode cX3_dOf 17 = .ok (.arraylength, 1) := by decide +kernel
theorem dX3_dOf_18 : decode cX3_dOf 18 = .ok (.if_icmp .lt 7, 3) := by decide +kernel
theorem dX3_dOf_21 : decode cX3_dOf 21 = .ok (.iconst (-1), 1) := by decide +kernel
theorem dX3_dOf_22 : decode cX3_dOf 22 = .ok (.goto 9, 3) := by decide +kernel
theorem dX3_dOf_25 : decode cX3_dOf 25 = .ok (.aload_n 0, 1) := by decide +kernel
theorem dX3_dOf_26 : decode cX3_dOf 26 = .ok (.getfield 28, 3) := by decide +kernel
theorem dX3_dOf_29 : decode cX3_dOf 29 = .ok (.iload_n 1, 1) := by decide +kernel
theorem dX3_dOf_30 : decode cX3_dOf 30 = .ok (.iaload, 1) := by decide +kernel
theorem dX3_dOf_31 : decode cX3_dOf 31 = .ok (.ireturn, 1) := by decide +kernel
theorem dX3_placeOf_0 : decode cX3_placeOf 0 = .ok (.iconst 0, 1) := by decide +kernel
theorem dX3_placeOf_1 : decode cX3_placeOf 1 = .ok (.istore_n 2, 1) := by decide +kernel
theorem dX3_placeOf_2 : decode cX3_placeOf 2 = .ok (.iload_n 2, 1) := by decide +kernel
theorem dX3_placeOf_3 : decode cX3_placeOf 3 = .ok (.aload_n 0, 1) := by decide +kernel
theorem dX3_placeOf_4 : decode cX3_placeOf 4 = .ok (.getfield 25, 3) := by decide +kernel
theorem dX3_placeOf_7 : decode cX3_placeOf 7 = .ok (.if_icmp .ge 30, 3) := by decide +kernel
theorem dX3_placeOf_10 : decode cX3_placeOf 10 = .ok (.iload_n 2, 1) := by decide +kernel
theorem dX3_placeOf_11 : decode cX3_placeOf 11 = .ok (.aload_n 0, 1) := by decide +kernel
theorem dX3_placeOf_12 : decode cX3_placeOf 12 = .ok (.getfield 28, 3) := by decide +kernel
theorem dX3_placeOf_15 : decode cX3_placeOf 15 = .ok (.arraylength, 1) := by decide +kernel
theorem dX3_placeOf_16 : decode cX3_placeOf 16 = .ok (.if_icmp .ge 21, 3) := by decide +kernel
theorem dX3_placeOf_19 : decode cX3_placeOf 19 = .ok (.aload_n 0, 1) := by decide +kernel
theorem dX3_placeOf_20 : decode cX3_placeOf 20 = .ok (.getfield 28, 3) := by decide +kernel
theorem dX3_placeOf_23 : decode cX3_placeOf 23 = .ok (.iload_n 2, 1) := by decide +kernel
theorem dX3_placeOf_24 : decode cX3_placeOf 24 = .ok (.iaload, 1) := by decide +kernel
theorem dX3_placeOf_25 : decode cX3_placeOf 25 = .ok (.iload_n 1, 1) := by decide +kernel
theorem dX3_placeOf_26 : decode cX3_placeOf 26 = .ok (.if_icmp .ne 5, 3) := by decide +kernel
theorem dX3_placeOf_29 : decode cX3_placeOf 29 = .ok (.iload_n 2, 1) := by decide +kernel
theorem dX3_placeOf_30 : decode cX3_placeOf 30 = .ok (.ireturn, 1) := by decide +kernel
theorem dX3_placeOf_31 : decode cX3_placeOf 31 = .ok (.iinc 2 1, 3) := by decide +kernel
theorem dX3_placeOf_34 : decode cX3_placeOf 34 = .ok (.goto (-32), 3) := by decide +kernel
theorem dX3_placeOf_37 : decode cX3_placeOf 37 = .ok (.iconst (-1), 1) := by decide +kernel
theorem dX3_placeOf_38 : decode cX3_placeOf 38 = .ok (.ireturn, 1) := by decide +kernel
theorem dX3_appendStriker_0 : decode cX3_appendStriker 0 = .ok (.aload_n 0, 1) := by decide +kernel
theorem dX3_appendStriker_1 : decode cX3_appendStriker 1 = .ok (.getfield 25, 3) := by decide +kernel
theorem dX3_appendStriker_4 : decode cX3_appendStriker 4 = .ok (.ifCond .lt 45, 3) := by decide +kernel
theorem dX3_appendStriker_7 : decode cX3_appendStriker 7 = .ok (.aload_n 0, 1) := by decide +kernel
theorem dX3_appendStriker_8 : decode cX3_appendStriker 8 = .ok (.getfield 25, 3) := by decide +kernel
theorem dX3_appendStriker_11 : decode cX3_appendStriker 11 = .ok (.aload_n 0, 1) := by decide +kernel
theorem dX3_appendStriker_12 : decode cX3_appendStriker 12 = .ok (.getfield 28, 3) := by decide +kernel
theorem dX3_appendStriker_15 : decode cX3_appendStriker 15 = .ok (.arraylength, 1) := by decide +kernel
theorem dX3_appendStriker_16 : decode cX3_appendStriker 16 = .ok (.if_icmp .ge 33, 3) := by decide +kernel
theorem dX3_appendStriker_19 : decode cX3_appendStriker 19 = .ok (.aload_n 0, 1) := by decide +kernel
theorem dX3_appendStriker_20 : decode cX3_appendStriker 20 = .ok (.getfield 28, 3) := by decide +kernel
theorem dX3_appendStriker_23 : decode cX3_appendStriker 23 = .ok (.aload_n 0, 1) := by decide +kernel
theorem dX3_appendStriker_24 : decode cX3_appendStriker 24 = .ok (.getfield 25, 3) := by decide +kernel
theorem dX3_appendStriker_27 : decode cX3_appendStriker 27 = .ok (.iload_n 1, 1) := by decide +kernel
theorem dX3_appendStriker_28 : decode cX3_appendStriker 28 = .ok (.iastore, 1) := by decide +kernel
theorem dX3_appendStriker_29 : decode cX3_appendStriker 29 = .ok (.aload_n 0, 1) := by decide +kernel
theorem dX3_appendStriker_30 : decode cX3_appendStriker 30 = .ok (.dup, 1) := by decide +kernel
theorem dX3_appendStriker_31 : decode cX3_appendStriker 31 = .ok (.getfield 25, 3) := by decide +kernel
theorem dX3_appendStriker_34 : decode cX3_appendStriker 34 = .ok (.iconst 1, 1) := by decide +kernel
theorem dX3_appendStriker_35 : decode cX3_appendStriker 35 = .ok (.iadd, 1) := by decide +kernel
theorem dX3_appendStriker_36 : decode cX3_appendStriker 36 = .ok (.putfield 25, 3) := by decide +kernel
theorem dX3_appendStriker_39 : decode cX3_appendStriker 39 = .ok (.aload_n 0, 1) := by decide +kernel
theorem dX3_appendStriker_40 : decode cX3_appendStriker 40 = .ok (.dup, 1) := by decide +kernel
theorem dX3_appendStriker_41 : decode cX3_appendStriker 41 = .ok (.getfield 31, 3) := by decide +kernel
theorem dX3_appendStriker_44 : decode cX3_appendStriker 44 = .ok (.iconst 1, 1) := by decide +kernel
theorem dX3_appendStriker_45 : decode cX3_appendStriker 45 = .ok (.iadd, 1) := by decide +kernel
theorem dX3_appendStriker_46 : decode cX3_appendStriker 46 = .ok (.putfield 31, 3) := by decide +kernel
theorem dX3_appendStriker_49 : decode cX3_appendStriker 49 = .ok (.return_, 1) := by decide +kernel
theorem dX3_removeStriker_0 : decode cX3_removeStriker 0 = .ok (.iload_n 1, 1) := by decide +kernel
theorem dX3_removeStriker_1 : decode cX3_removeStriker 1 = .ok (.ifCond .lt 11, 3) := by decide +kernel
theorem dX3_removeStriker_4 : decode cX3_removeStriker 4 = .ok (.iload_n 1, 1) := by decide +kernel
theorem dX3_removeStriker_5 : decode cX3_removeStriker 5 = .ok (.aload_n 0, 1) := by decide +kernel
theorem dX3_removeStriker_6 : decode cX3_removeStriker 6 = .ok (.getfield 25, 3) := by decide +kernel
theorem dX3_removeStriker_9 : decode cX3_removeStriker 9 = .ok (.if_icmp .lt 4, 3) := by decide +kernel
theorem dX3_removeStriker_12 : decode cX3_removeStriker 12 = .ok (.return_, 1) := by decide +kernel
theorem dX3_removeStriker_13 : decode cX3_removeStriker 13 = .ok (.iload_n 1, 1) := by decide +kernel
theorem dX3_removeStriker_14 : decode cX3_removeStriker 14 = .ok (.istore_n 2, 1) := by decide +kernel
theorem dX3_removeStriker_15 : decode cX3_removeStriker 15 = .ok (.iload_n 2, 1) := by decide +kernel
theorem dX3_removeStriker_16 : decode cX3_removeStriker 16 = .ok (.iconst 1, 1) := by decide +kernel
theorem dX3_removeStriker_17 : decode cX3_removeStriker 17 = .ok (.iadd, 1) := by decide +kernel
theorem dX3_removeStriker_18 : decode cX3_removeStriker 18 = .ok (.aload_n 0, 1) := by decide +kernel
theorem dX3_removeStriker_19 : decode cX3_removeStriker 19 = .ok (.getfield 25, 3) := by decide +kernel
theorem dX3_removeStriker_22 : decode cX3_removeStriker 22 = .ok (.if_icmp .ge 34, 3) := by decide +kernel
theorem dX3_removeStriker_25 : decode cX3_removeStriker 25 = .ok (.iload_n 2, 1) := by decide +kernel
theorem dX3_removeStriker_26 : decode cX3_removeStriker 26 = .ok (.iconst 1, 1) := by decide +kernel
theorem dX3_removeStriker_27 : decode cX3_removeStriker 27 = .ok (.iadd, 1) := by decide +kernel
theorem dX3_removeStriker_28 : decode cX3_removeStriker 28 = .ok (.aload_n 0, 1) := by decide +kernel
theorem dX3_removeStriker_29 : decode cX3_removeStriker 29 = .ok (.getfield 28, 3) := by decide +kernel
theorem dX3_removeStriker_32 : decode cX3_removeStriker 32 = .ok (.arraylength, 1) := by decide +kernel
theorem dX3_removeStriker_33 : decode cX3_removeStriker 33 = .ok (.if_icmp .ge 23, 3) := by decide +kernel
theorem dX3_removeStriker_36 : decode cX3_removeStriker 36 = .ok (.aload_n 0, 1) := by decide +kernel
theorem dX3_removeStriker_37 : decode cX3_removeStriker 37 = .ok (.getfield 28, 3) := by decide +kernel
theorem dX3_removeStriker_40 : decode cX3_removeStriker 40 = .ok (.iload_n 2, 1) := by decide +kernel
theorem dX3_removeStriker_41 : decode cX3_removeStriker 41 = .ok (.aload_n 0, 1) := by decide +kernel
theorem dX3_removeStriker_42 : decode cX3_removeStriker 42 = .ok (.getfield 28, 3) := by decide +kernel
theorem dX3_removeStriker_45 : decode cX3_removeStriker 45 = .ok (.iload_n 2, 1) := by decide +kernel
theorem dX3_removeStriker_46 : decode cX3_removeStriker 46 = .ok (.iconst 1, 1) := by decide +kernel
theorem dX3_removeStriker_47 : decode cX3_removeStriker 47 = .ok (.iadd, 1) := by decide +kernel
theorem dX3_removeStriker_48 : decode cX3_removeStriker 48 = .ok (.iaload, 1) := by decide +kernel
theorem dX3_removeStriker_49 : decode cX3_removeStriker 49 = .ok (.iastore, 1) := by decide +kernel
theorem dX3_removeStriker_50 : decode cX3_removeStriker 50 = .ok (.iinc 2 1, 3) := by decide +kernel
theorem dX3_removeStriker_53 : decode cX3_removeStriker 53 = .ok (.goto (-38), 3) := by decide +kernel
theorem dX3_removeStriker_56 : decode cX3_removeStriker 56 = .ok (.aload_n 0, 1) := by decide +kernel
theorem dX3_removeStriker_57 : decode cX3_removeStriker 57 = .ok (.dup, 1) := by decide +kernel
theorem dX3_removeStriker_58 : decode cX3_removeStriker 58 = .ok (.getfield 25, 3) := by decide +kernel
theorem dX3_removeStriker_61 : decode cX3_removeStriker 61 = .ok (.iconst 1, 1) := by decide +kernel
theorem dX3_removeStriker_62 : decode cX3_removeStriker 62 = .ok (.isub, 1) := by decide +kernel
theorem dX3_removeStriker_63 : decode cX3_removeStriker 63 = .ok (.putfield 25, 3) := by decide +kernel
theorem dX3_removeStriker_66 : decode cX3_removeStriker 66 = .ok (.aload_n 0, 1) := by decide +kernel
theorem dX3_removeStriker_67 : decode cX3_removeStriker 67 = .ok (.dup, 1) := by decide +kernel
theorem dX3_removeStriker_68 : decode cX3_removeStriker 68 = .ok (.getfield 31, 3) := by decide +kernel
theorem dX3_removeStriker_71 : decode cX3_removeStriker 71 = .ok (.iconst 1, 1) := by decide +kernel
theorem dX3_removeStriker_72 : decode cX3_removeStriker 72 = .ok (.iadd, 1) := by decide +kernel
theorem dX3_removeStriker_73 : decode cX3_removeStriker 73 = .ok (.putfield 31, 3) := by decide +kernel
theorem dX3_removeStriker_76 : decode cX3_removeStriker 76 = .ok (.return_, 1) := by decide +kernel
theorem dX3_exchange_0 : decode cX3_exchange 0 = .ok (.iload_n 1, 1) := by decide +kernel
theorem dX3_exchange_1 : decode cX3_exchange 1 = .ok (.ifCond .lt 25, 3) := by decide +kernel
theorem dX3_exchange_4 : decode cX3_exchange 4 = .ok (.iload_n 1, 1) := by decide +kernel
theorem dX3_exchange_5 : decode cX3_exchange 5 = .ok (.aload_n 0, 1) := by decide +kernel
theorem dX3_exchange_6 : decode cX3_exchange 6 = .ok (.getfield 28, 3) := by decide +kernel
theorem dX3_exchange_9 : decode cX3_exchange 9 = .ok (.arraylength, 1) := by decide +kernel
theorem dX3_exchange_10 : decode cX3_exchange 10 = .ok (.if_icmp .ge 16, 3) := by decide +kernel
theorem dX3_exchange_13 : decode cX3_exchange 13 = .ok (.iload_n 2, 1) := by decide +kernel
theorem dX3_exchange_14 : decode cX3_exchange 14 = .ok (.ifCond .lt 12, 3) := by decide +kernel
theorem dX3_exchange_17 : decode cX3_exchange 17 = .ok (.iload_n 2, 1) := by decide +kernel
theorem dX3_exchange_18 : decode cX3_exchange 18 = .ok (.aload_n 0, 1) := by decide +kernel
theorem dX3_exchange_19 : decode cX3_exchange 19 = .ok (.getfield 28, 3) := by decide +kernel
theorem dX3_exchange_22 : decode cX3_exchange 22 = .ok (.arraylength, 1) := by decide +kernel
theorem dX3_exchange_23 : decode cX3_exchange 23 = .ok (.if_icmp .lt 4, 3) := by decide +kernel
theorem dX3_exchange_26 : decode cX3_exchange 26 = .ok (.return_, 1) := by decide +kernel
theorem dX3_exchange_27 : decode cX3_exchange 27 = .ok (.aload_n 0, 1) := by decide +kernel
theorem dX3_exchange_28 : decode cX3_exchange 28 = .ok (.getfield 28, 3) := by decide +kernel
theorem dX3_exchange_31 : decode cX3_exchange 31 = .ok (.iload_n 1, 1) := by decide +kernel
theorem dX3_exchange_32 : decode cX3_exchange 32 = .ok (.iaload, 1) := by decide +kernel
theorem dX3_exchange_33 : decode cX3_exchange 33 = .ok (.istore_n 3, 1) := by decide +kernel
theorem dX3_exchange_34 : decode cX3_exchange 34 = .ok (.aload_n 0, 1) := by decide +kernel
theorem dX3_exchange_35 : decode cX3_exchange 35 = .ok (.getfield 28, 3) := by decide +kernel
theorem dX3_exchange_38 : decode cX3_exchange 38 = .ok (.iload_n 1, 1) := by decide +kernel
theorem dX3_exchange_39 : decode cX3_exchange 39 = .ok (.aload_n 0, 1) := by decide +kernel
theorem dX3_exchange_40 : decode cX3_exchange 40 = .ok (.getfield 28, 3) := by decide +kernel
theorem dX3_exchange_43 : decode cX3_exchange 43 = .ok (.iload_n 2, 1) := by decide +kernel
theorem dX3_exchange_44 : decode cX3_exchange 44 = .ok (.iaload, 1) := by decide +kernel
theorem dX3_exchange_45 : decode cX3_exchange 45 = .ok (.iastore, 1) := by decide +kernel
theorem dX3_exchange_46 : decode cX3_exchange 46 = .ok (.aload_n 0, 1) := by decide +kernel
theorem dX3_exchange_47 : decode cX3_exchange 47 = .ok (.getfield 28, 3) := by decide +kernel
theorem dX3_exchange_50 : decode cX3_exchange 50 = .ok (.iload_n 2, 1) := by decide +kernel
theorem dX3_exchange_51 : decode cX3_exchange 51 = .ok (.iload_n 3, 1) := by decide +kernel
theorem dX3_exchange_52 : decode cX3_exchange 52 = .ok (.iastore, 1) := by decide +kernel
theorem dX3_exchange_53 : decode cX3_exchange 53 = .ok (.aload_n 0, 1) := by decide +kernel
theorem dX3_exchange_54 : decode cX3_exchange 54 = .ok (.dup, 1) := by decide +kernel
theorem dX3_exchange_55 : decode cX3_exchange 55 = .ok (.getfield 31, 3) := by decide +kernel
theorem dX3_exchange_58 : decode cX3_exchange 58 = .ok (.iconst 1, 1) := by decide +kernel
theorem dX3_exchange_59 : decode cX3_exchange 59 = .ok (.iadd, 1) := by decide +kernel
theorem dX3_exchange_60 : decode cX3_exchange 60 = .ok (.putfield 31, 3) := by decide +kernel
theorem dX3_exchange_63 : decode cX3_exchange 63 = .ok (.return_, 1) := by decide +kernel
theorem dX3_moveToFront_0 : decode cX3_moveToFront 0 = .ok (.iload_n 1, 1) := by decide +kernel
theorem dX3_moveToFront_1 : decode cX3_moveToFront 1 = .ok (.aload_n 0, 1) := by decide +kernel
theorem dX3_moveToFront_2 : decode cX3_moveToFront 2 = .ok (.getfield 28, 3) := by decide +kernel
theorem dX3_moveToFront_5 : decode cX3_moveToFront 5 = .ok (.arraylength, 1) := by decide +kernel
theorem dX3_moveToFront_6 : decode cX3_moveToFront 6 = .ok (.iconst 1, 1) := by decide +kernel
theorem dX3_moveToFront_7 : decode cX3_moveToFront 7 = .ok (.isub, 1) := by decide +kernel
theorem dX3_moveToFront_8 : decode cX3_moveToFront 8 = .ok (.invokestatic 48, 3) := by decide +kernel
theorem dX3_moveToFront_11 : decode cX3_moveToFront 11 = .ok (.istore_n 2, 1) := by decide +kernel
theorem dX3_moveToFront_12 : decode cX3_moveToFront 12 = .ok (.iload_n 2, 1) := by decide +kernel
theorem dX3_moveToFront_13 : decode cX3_moveToFront 13 = .ok (.ifCond .le 17, 3) := by decide +kernel
theorem dX3_moveToFront_16 : decode cX3_moveToFront 16 = .ok (.aload_n 0, 1) := by decide +kernel
theorem dX3_moveToFront_17 : decode cX3_moveToFront 17 = .ok (.iload_n 2, 1) := by decide +kernel
theorem dX3_moveToFront_18 : decode cX3_moveToFront 18 = .ok (.iload_n 2, 1) := by decide +kernel
theorem dX3_moveToFront_19 : decode cX3_moveToFront 19 = .ok (.iconst 1, 1) := by decide +kernel
theorem dX3_moveToFront_20 : decode cX3_moveToFront 20 = .ok (.isub, 1) := by decide +kernel
theorem dX3_moveToFront_21 : decode cX3_moveToFront 21 = .ok (.invokevirtual 54, 3) := by decide +kernel
theorem dX3_moveToFront_24 : decode cX3_moveToFront 24 = .ok (.iinc 2 (-1), 3) := by decide +kernel
theorem dX3_moveToFront_27 : decode cX3_moveToFront 27 = .ok (.goto (-15), 3) := by decide +kernel
theorem dX3_moveToFront_30 : decode cX3_moveToFront 30 = .ok (.return_, 1) := by decide +kernel
theorem dX3_countHits_0 : decode cX3_countHits 0 = .ok (.iconst 0, 1) := by decide +kernel
theorem dX3_countHits_1 : decode cX3_countHits 1 = .ok (.istore 4, 2) := by decide +kernel
theorem dX3_countHits_3 : decode cX3_countHits 3 = .ok (.iload_n 2, 1) := by decide +kernel
theorem dX3_countHits_4 : decode cX3_countHits 4 = .ok (.iconst 0, 1) := by decide +kernel
theorem dX3_countHits_5 : decode cX3_countHits 5 = .ok (.invokestatic 58, 3) := by decide +kernel
theorem dX3_countHits_8 : decode cX3_countHits 8 = .ok (.istore 5, 2) := by decide +kernel
theorem dX3_countHits_10 : decode cX3_countHits 10 = .ok (.iload 5, 2) := by decide +kernel
theorem dX3_countHits_12 : decode cX3_countHits 12 = .ok (.iload_n 3, 1) := by decide +kernel
theorem dX3_countHits_13 : decode cX3_countHits 13 = .ok (.if_icmp .ge 62, 3) := by decide +kernel
theorem dX3_countHits_16 : decode cX3_countHits 16 = .ok (.iload 5, 2) := by decide +kernel
theorem dX3_countHits_18 : decode cX3_countHits 18 = .ok (.aload_n 0, 1) := by decide +kernel
theorem dX3_countHits_19 : decode cX3_countHits 19 = .ok (.getfield 25, 3) := by decide +kernel
theorem dX3_countHits_22 : decode cX3_countHits 22 = .ok (.if_icmp .ge 53, 3) := by decide +kernel
theorem dX3_countHits_25 : decode cX3_countHits 25 = .ok (.iload 5, 2) := by decide +kernel
theorem dX3_countHits_27 : decode cX3_countHits 27 = .ok (.aload_n 0, 1) := by decide +kernel
theorem dX3_countHits_28 : decode cX3_countHits 28 = .ok (.getfield 28, 3) := by decide +kernel
theorem dX3_countHits_31 : decode cX3_countHits 31 = .ok (.arraylength, 1) := by decide +kernel
theorem dX3_countHits_32 : decode cX3_countHits 32 = .ok (.if_icmp .ge 43, 3) := by decide +kernel
theorem dX3_countHits_35 : decode cX3_countHits 35 = .ok (.aload_n 0, 1) := by decide +kernel
theorem dX3_countHits_36 : decode cX3_countHits 36 = .ok (.getfield 28, 3) := by decide +kernel
theorem dX3_countHits_39 : decode cX3_countHits 39 = .ok (.iload 5, 2) := by decide +kernel
theorem dX3_countHits_41 : decode cX3_countHits 41 = .ok (.iaload, 1) := by decide +kernel
theorem dX3_countHits_42 : decode cX3_countHits 42 = .ok (.istore 6, 2) := by decide +kernel
theorem dX3_countHits_44 : decode cX3_countHits 44 = .ok (.iload 6, 2) := by decide +kernel
theorem dX3_countHits_46 : decode cX3_countHits 46 = .ok (.iconst 2, 1) := by decide +kernel
theorem dX3_countHits_47 : decode cX3_countHits 47 = .ok (.if_icmp .lt 22, 3) := by decide +kernel
theorem dX3_countHits_50 : decode cX3_countHits 50 = .ok (.iload_n 1, 1) := by decide +kernel
theorem dX3_countHits_51 : decode cX3_countHits 51 = .ok (.iload 6, 2) := by decide +kernel
theorem dX3_countHits_53 : decode cX3_countHits 53 = .ok (.iload 6, 2) := by decide +kernel
theorem dX3_countHits_55 : decode cX3_countHits 55 = .ok (.imul, 1) := by decide +kernel
theorem dX3_countHits_56 : decode cX3_countHits 56 = .ok (.if_icmp .lt 13, 3) := by decide +kernel
theorem dX3_countHits_59 : decode cX3_countHits 59 = .ok (.iload_n 1, 1) := by decide +kernel
theorem dX3_countHits_60 : decode cX3_countHits 60 = .ok (.iload 6, 2) := by decide +kernel
theorem dX3_countHits_62 : decode cX3_countHits 62 = .ok (.irem, 1) := by decide +kernel
theorem dX3_countHits_63 : decode cX3_countHits 63 = .ok (.ifCond .ne 6, 3) := by decide +kernel
theorem dX3_countHits_66 : decode cX3_countHits 66 = .ok (.iinc 4 1, 3) := by decide +kernel
theorem dX3_countHits_69 : decode cX3_countHits 69 = .ok (.iinc 5 1, 3) := by decide +kernel
theorem dX3_countHits_72 : decode cX3_countHits 72 = .ok (.goto (-62), 3) := by decide +kernel
theorem dX3_countHits_75 : decode cX3_countHits 75 = .ok (.iload 4, 2) := by decide +kernel
theorem dX3_countHits_77 : decode cX3_countHits 77 = .ok (.ireturn, 1) := by decide +kernel
theorem dX3_firstHit_0 : decode cX3_firstHit 0 = .ok (.iconst 0, 1) := by decide +kernel
theorem dX3_firstHit_1 : decode cX3_firstHit 1 = .ok (.istore_n 2, 1) := by decide +kernel
theorem dX3_firstHit_2 : decode cX3_firstHit 2 = .ok (.iload_n 2, 1) := by decide +kernel
theorem dX3_firstHit_3 : decode cX3_firstHit 3 = .ok (.aload_n 0, 1) := by decide +kernel
theorem dX3_firstHit_4 : decode cX3_firstHit 4 = .ok (.getfield 25, 3) := by decide +kernel
theorem dX3_firstHit_7 : decode cX3_firstHit 7 = .ok (.if_icmp .ge 45, 3) := by decide +kernel
theorem dX3_firstHit_10 : decode cX3_firstHit 10 = .ok (.iload_n 2, 1) := by decide +kernel
theorem dX3_firstHit_11 : decode cX3_firstHit 11 = .ok (.aload_n 0, 1) := by decide +kernel
theorem dX3_firstHit_12 : decode cX3_firstHit 12 = .ok (.getfield 28, 3) := by decide +kernel
theorem dX3_firstHit_15 : decode cX3_firstHit 15 = .ok (.arraylength, 1) := by decide +kernel
theorem dX3_firstHit_16 : decode cX3_firstHit 16 = .ok (.if_icmp .ge 36, 3) := by decide +kernel
theorem dX3_firstHit_19 : decode cX3_firstHit 19 = .ok (.aload_n 0, 1) := by decide +kernel
theorem dX3_firstHit_20 : decode cX3_firstHit 20 = .ok (.getfield 28, 3) := by decide +kernel
theorem dX3_firstHit_23 : decode cX3_firstHit 23 = .ok (.iload_n 2, 1) := by decide +kernel
theorem dX3_firstHit_24 : decode cX3_firstHit 24 = .ok (.iaload, 1) := by decide +kernel
theorem dX3_firstHit_25 : decode cX3_firstHit 25 = .ok (.istore_n 3, 1) := by decide +kernel
theorem dX3_firstHit_26 : decode cX3_firstHit 26 = .ok (.iload_n 3, 1) := by decide +kernel
theorem dX3_firstHit_27 : decode cX3_firstHit 27 = .ok (.iconst 2, 1) := by decide +kernel
theorem dX3_firstHit_28 : decode cX3_firstHit 28 = .ok (.if_icmp .lt 18, 3) := by decide +kernel
theorem dX3_firstHit_31 : decode cX3_firstHit 31 = .ok (.iload_n 1, 1) := by decide +kernel
theorem dX3_firstHit_32 : decode cX3_firstHit 32 = .ok (.iload_n 3, 1) := by decide +kernel
theorem dX3_firstHit_33 : decode cX3_firstHit 33 = .ok (.iload_n 3, 1) := by decide +kernel
theorem dX3_firstHit_34 : decode cX3_firstHit 34 = .ok (.imul, 1) := by decide +kernel
theorem dX3_firstHit_35 : decode cX3_firstHit 35 = .ok (.if_icmp .lt 11, 3) := by decide +kernel
theorem dX3_firstHit_38 : decode cX3_firstHit 38 = .ok (.iload_n 1, 1) := by decide +kernel
theorem dX3_firstHit_39 : decode cX3_firstHit 39 = .ok (.iload_n 3, 1) := by decide +kernel
theorem dX3_firstHit_40 : decode cX3_firstHit 40 = .ok (.irem, 1) := by decide +kernel
theorem dX3_firstHit_41 : decode cX3_firstHit 41 = .ok (.ifCond .ne 5, 3) := by decide +kernel
theorem dX3_firstHit_44 : decode cX3_firstHit 44 = .ok (.iload_n 3, 1) := by decide +kernel
theorem dX3_firstHit_45 : decode cX3_firstHit 45 = .ok (.ireturn, 1) := by decide +kernel
theorem dX3_firstHit_46 : decode cX3_firstHit 46 = .ok (.iinc 2 1, 3) := by decide +kernel
theorem dX3_firstHit_49 : decode cX3_firstHit 49 = .ok (.goto (-47), 3) := by decide +kernel
theorem dX3_firstHit_52 : decode cX3_firstHit 52 = .ok (.iconst (-1), 1) := by decide +kernel
theorem dX3_firstHit_53 : decode cX3_firstHit 53 = .ok (.ireturn, 1) := by decide +kernel
theorem dX3_isMissing_0 : decode cX3_isMissing 0 = .ok (.iload_n 1, 1) := by decide +kernel
theorem dX3_isMissing_1 : decode cX3_isMissing 1 = .ok (.iload_n 2, 1) := by decide +kernel
theorem dX3_isMissing_2 : decode cX3_isMissing 2 = .ok (.invokestatic 61, 3) := by decide +kernel
theorem dX3_isMissing_5 : decode cX3_isMissing 5 = .ok (.iconst (-1), 1) := by decide +kernel
theorem dX3_isMissing_6 : decode cX3_isMissing 6 = .ok (.if_icmp .ne 25, 3) := by decide +kernel
theorem dX3_isMissing_9 : decode cX3_isMissing 9 = .ok (.aload_n 0, 1) := by decide +kernel
theorem dX3_isMissing_10 : decode cX3_isMissing 10 = .ok (.iload_n 1, 1) := by decide +kernel
theorem dX3_isMissing_11 : decode cX3_isMissing 11 = .ok (.invokevirtual 66, 3) := by decide +kernel
theorem dX3_isMissing_14 : decode cX3_isMissing 14 = .ok (.iconst (-1), 1) := by decide +kernel
theorem dX3_isMissing_15 : decode cX3_isMissing 15 = .ok (.if_icmp .ne 16, 3) := by decide +kernel
theorem dX3_isMissing_18 : decode cX3_isMissing 18 = .ok (.aload_n 0, 1) := by decide +kernel
theorem dX3_isMissing_19 : decode cX3_isMissing 19 = .ok (.iload_n 1, 1) := by decide +kernel
theorem dX3_isMissing_20 : decode cX3_isMissing 20 = .ok (.invokevirtual 69, 3) := by decide +kernel
theorem dX3_isMissing_23 : decode cX3_isMissing 23 = .ok (.iconst (-1), 1) := by decide +kernel
theorem dX3_isMissing_24 : decode cX3_isMissing 24 = .ok (.if_icmp .ne 7, 3) := by decide +kernel
theorem dX3_isMissing_27 : decode cX3_isMissing 27 = .ok (.iconst 1, 1) := by decide +kernel
theorem dX3_isMissing_28 : decode cX3_isMissing 28 = .ok (.goto 4, 3) := by decide +kernel
theorem dX3_isMissing_31 : decode cX3_isMissing 31 = .ok (.iconst 0, 1) := by decide +kernel
theorem dX3_isMissing_32 : decode cX3_isMissing 32 = .ok (.ireturn, 1) := by decide +kernel
theorem dX3_smallestMissing_0 : decode cX3_smallestMissing 0 = .ok (.aload_n 0, 1) := by decide +kernel
theorem dX3_smallestMissing_1 : decode cX3_smallestMissing 1 = .ok (.invokevirtual 72, 3) := by decide +kernel
theorem dX3_smallestMissing_4 : decode cX3_smallestMissing 4 = .ok (.istore_n 2, 1) := by decide +kernel
theorem dX3_smallestMissing_5 : decode cX3_smallestMissing 5 = .ok (.iconst 2, 1) := by decide +kernel
theorem dX3_smallestMissing_6 : decode cX3_smallestMissing 6 = .ok (.istore_n 3, 1) := by decide +kernel
theorem dX3_smallestMissing_7 : decode cX3_smallestMissing 7 = .ok (.iload_n 3, 1) := by decide +kernel
theorem dX3_smallestMissing_8 : decode cX3_smallestMissing 8 = .ok (.bipush 120, 2) := by decide +kernel
theorem dX3_smallestMissing_10 : decode cX3_smallestMissing 10 = .ok (.if_icmp .gt 27, 3) := by decide +kernel
theorem dX3_smallestMissing_13 : decode cX3_smallestMissing 13 = .ok (.iload_n 3, 1) := by decide +kernel
theorem dX3_smallestMissing_14 : decode cX3_smallestMissing 14 = .ok (.iload_n 3, 1) := by decide +kernel
theorem dX3_smallestMissing_15 : decode cX3_smallestMissing 15 = .ok (.imul, 1) := by decide +kernel
theorem dX3_smallestMissing_16 : decode cX3_smallestMissing 16 = .ok (.iload_n 2, 1) := by decide +kernel
theorem dX3_smallestMissing_17 : decode cX3_smallestMissing 17 = .ok (.if_icmp .gt 20, 3) := by decide +kernel
theorem dX3_smallestMissing_20 : decode cX3_smallestMissing 20 = .ok (.aload_n 0, 1) := by decide +kernel
theorem dX3_smallestMissing_21 : decode cX3_smallestMissing 21 = .ok (.iload_n 3, 1) := by decide +kernel
theorem dX3_smallestMissing_22 : decode cX3_smallestMissing 22 = .ok (.iload_n 1, 1) := by decide +kernel
theorem dX3_smallestMissing_23 : decode cX3_smallestMissing 23 = .ok (.invokevirtual 75, 3) := by decide +kernel
theorem dX3_smallestMissing_26 : decode cX3_smallestMissing 26 = .ok (.ifCond .eq 5, 3) := by decide +kernel
theorem dX3_smallestMissing_29 : decode cX3_smallestMissing 29 = .ok (.iload_n 3, 1) := by decide +kernel
theorem dX3_smallestMissing_30 : decode cX3_smallestMissing 30 = .ok (.ireturn, 1) := by decide +kernel
theorem dX3_smallestMissing_31 : decode cX3_smallestMissing 31 = .ok (.iinc 3 1, 3) := by decide +kernel
theorem dX3_smallestMissing_34 : decode cX3_smallestMissing 34 = .ok (.goto (-27), 3) := by decide +kernel
theorem dX3_smallestMissing_37 : decode cX3_smallestMissing 37 = .ok (.iconst (-1), 1) := by decide +kernel
theorem dX3_smallestMissing_38 : decode cX3_smallestMissing 38 = .ok (.ireturn, 1) := by decide +kernel
theorem dX3_countMissing_0 : decode cX3_countMissing 0 = .ok (.aload_n 0, 1) := by decide +kernel
theorem dX3_countMissing_1 : decode cX3_countMissing 1 = .ok (.invokevirtual 72, 3) := by decide +kernel
theorem dX3_countMissing_4 : decode cX3_countMissing 4 = .ok (.istore_n 2, 1) := by decide +kernel
theorem dX3_countMissing_5 : decode cX3_countMissing 5 = .ok (.iconst 0, 1) := by decide +kernel
theorem dX3_countMissing_6 : decode cX3_countMissing 6 = .ok (.istore_n 3, 1) := by decide +kernel
theorem dX3_countMissing_7 : decode cX3_countMissing 7 = .ok (.iconst 2, 1) := by decide +kernel
theorem dX3_countMissing_8 : decode cX3_countMissing 8 = .ok (.istore 4, 2) := by decide +kernel
theorem dX3_countMissing_10 : decode cX3_countMissing 10 = .ok (.iload 4, 2) := by decide +kernel
theorem dX3_countMissing_12 : decode cX3_countMissing 12 = .ok (.bipush 120, 2) := by decide +kernel
theorem dX3_countMissing_14 : decode cX3_countMissing 14 = .ok (.if_icmp .gt 31, 3) := by decide +kernel
theorem dX3_countMissing_17 : decode cX3_countMissing 17 = .ok (.iload 4, 2) := by decide +kernel
theorem dX3_countMissing_19 : decode cX3_countMissing 19 = .ok (.iload 4, 2) := by decide +kernel
theorem dX3_countMissing_21 : decode cX3_countMissing 21 = .ok (.imul, 1) := by decide +kernel
theorem dX3_countMissing_22 : decode cX3_countMissing 22 = .ok (.iload_n 2, 1) := by decide +kernel
theorem dX3_countMissing_23 : decode cX3_countMissing 23 = .ok (.if_icmp .gt 22, 3) := by decide +kernel
theorem dX3_countMissing_26 : decode cX3_countMissing 26 = .ok (.aload_n 0, 1) := by decide +kernel
theorem dX3_countMissing_27 : decode cX3_countMissing 27 = .ok (.iload 4, 2) := by decide +kernel
theorem dX3_countMissing_29 : decode cX3_countMissing 29 = .ok (.iload_n 1, 1) := by decide +kernel
theorem dX3_countMissing_30 : decode cX3_countMissing 30 = .ok (.invokevirtual 75, 3) := by decide +kernel
theorem dX3_countMissing_33 : decode cX3_countMissing 33 = .ok (.ifCond .eq 6, 3) := by decide +kernel
theorem dX3_countMissing_36 : decode cX3_countMissing 36 = .ok (.iinc 3 1, 3) := by decide +kernel
theorem dX3_countMissing_39 : decode cX3_countMissing 39 = .ok (.iinc 4 1, 3) := by decide +kernel
theorem dX3_countMissing_42 : decode cX3_countMissing 42 = .ok (.goto (-32), 3) := by decide +kernel
theorem dX3_countMissing_45 : decode cX3_countMissing 45 = .ok (.iload_n 3, 1) := by decide +kernel
theorem dX3_countMissing_46 : decode cX3_countMissing 46 = .ok (.ireturn, 1) := by decide +kernel
theorem dX4_init_0 : decode cX4_init 0 = .ok (.aload_n 0, 1) := by decide +kernel
theorem dX4_init_1 : decode cX4_init 1 = .ok (.invokespecial 3, 3) := by decide +kernel
theorem dX4_init_4 : decode cX4_init 4 = .ok (.aload_n 0, 1) := by decide +kernel
theorem dX4_init_5 : decode cX4_init 5 = .ok (.iconst 0, 1) := by decide +kernel
theorem dX4_init_6 : decode cX4_init 6 = .ok (.putfield 9, 3) := by decide +kernel
theorem dX4_init_9 : decode cX4_init 9 = .ok (.aload_n 0, 1) := by decide +kernel
theorem dX4_init_10 : decode cX4_init 10 = .ok (.iconst (-1), 1) := by decide +kernel
theorem dX4_init_11 : decode cX4_init 11 = .ok (.putfield 15, 3) := by decide +kernel
theorem dX4_init_14 : decode cX4_init 14 = .ok (.aload_n 0, 1) := by decide +kernel
theorem dX4_init_15 : decode cX4_init 15 = .ok (.iconst 0, 1) := by decide +kernel
theorem dX4_init_16 : decode cX4_init 16 = .ok (.putfield 18, 3) := by decide +kernel
theorem dX4_init_19 : decode cX4_init 19 = .ok (.aload_n 0, 1) := by decide +kernel
theorem dX4_init_20 : decode cX4_init 20 = .ok (.aload_n 1, 1) := by decide +kernel
theorem dX4_init_21 : decode cX4_init 21 = .ok (.putfield 21, 3) := by decide +kernel
theorem dX4_init_24 : decode cX4_init 24 = .ok (.return_, 1) := by decide +kernel
theorem dX4_errorAt_0 : decode cX4_errorAt 0 = .ok (.aload_n 0, 1) := by decide +kernel
theorem dX4_errorAt_1 : decode cX4_errorAt 1 = .ok (.getfield 15, 3) := by decide +kernel
theorem dX4_errorAt_4 : decode cX4_errorAt 4 = .ok (.ireturn, 1) := by decide +kernel
theorem dX4_readText_0 : decode cX4_readText 0 = .ok (.aload_n 0, 1) := by decide +kernel
theorem dX4_readText_1 : decode cX4_readText 1 = .ok (.iload_n 1, 1) := by decide +kernel
theorem dX4_readText_2 : decode cX4_readText 2 = .ok (.invokevirtual 25, 3) := by decide +kernel
theorem dX4_readText_5 : decode cX4_readText 5 = .ok (.aload_n 0, 1) := by decide +kernel
theorem dX4_readText_6 : decode cX4_readText 6 = .ok (.ldc 29, 2) := by decide +kernel
theorem dX4_readText_8 : decode cX4_readText 8 = .ok (.invokevirtual 31, 3) := by decide +kernel
theorem dX4_readText_11 : decode cX4_readText 11 = .ok (.ifCond .eq 59, 3) := by decide +kernel
theorem dX4_readText_14 : decode cX4_readText 14 = .ok (.aload_n 0, 1) := by decide +kernel
theorem dX4_readText_15 : decode cX4_readText 15 = .ok (.iconst 0, 1) := by decide +kernel
theorem dX4_readText_16 : decode cX4_readText 16 = .ok (.iconst 4, 1) := by decide +kernel
theorem dX4_readText_17 : decode cX4_readText 17 = .ok (.invokevirtual 35, 3) := by decide +kernel
theorem dX4_readText_20 : decode cX4_readText 20 = .ok (.ifCond .eq 50, 3) := by decide +kernel
theorem dX4_readText_23 : decode cX4_readText 23 = .ok (.aload_n 0, 1) := by decide +kernel
theorem dX4_readText_24 : decode cX4_readText 24 = .ok (.invokevirtual 39, 3) := by decide +kernel
theorem dX4_readText_27 : decode cX4_readText 27 = .ok (.ifCond .eq 43, 3) := by decide +kernel
theorem dX4_readText_30 : decode cX4_readText 30 = .ok (.aload_n 2, 1) := by decide +kernel
theorem dX4_readText_31 : decode cX4_readText 31 = .ok (.aload_n 0, 1) := by decide +kernel
theorem dX4_readText_32 : decode cX4_readText 32 = .ok (.getfield 18, 3) := by decide +kernel
theorem dX4_readText_35 : decode cX4_readText 35 = .ok (.invokevirtual 43, 3) := by decide +kernel
theorem dX4_readText_38 : decode cX4_readText 38 = .ok (.aload_n 0, 1) := by decide +kernel
theorem dX4_readText_39 : decode cX4_readText 39 = .ok (.aload_n 2, 1) := by decide +kernel
theorem dX4_readText_40 : decode cX4_readText 40 = .ok (.invokevirtual 48, 3) := by decide +kernel
theorem dX4_readText_43 : decode cX4_readText 43 = .ok (.ifCond .eq 27, 3) := by decide +kernel
theorem dX4_readText_46 : decode cX4_readText 46 = .ok (.aload_n 0, 1) := by decide +kernel
theorem dX4_readText_47 : decode cX4_readText 47 = .ok (.aload_n 2, 1) := by decide +kernel
theorem dX4_readText_48 : decode cX4_readText 48 = .ok (.invokevirtual 52, 3) := by decide +kernel
theorem dX4_readText_51 : decode cX4_readText 51 = .ok (.ifCond .eq 19, 3) := by decide +kernel
theorem dX4_readText_54 : decode cX4_readText 54 = .ok (.aload_n 0, 1) := by decide +kernel
theorem dX4_readText_55 : decode cX4_readText 55 = .ok (.getfield 21, 3) := by decide +kernel
theorem dX4_readText_58 : decode cX4_readText 58 = .ok (.invokevirtual 55, 3) := by decide +kernel
theorem dX4_readText_61 : decode cX4_readText 61 = .ok (.ifCond .ne 9, 3) := by decide +kernel
theorem dX4_readText_64 : decode cX4_readText 64 = .ok (.aload_n 0, 1) := by decide +kernel
theorem dX4_readText_65 : decode cX4_readText 65 = .ok (.iconst 1, 1) := by decide +kernel
theorem dX4_readText_66 : decode cX4_readText 66 = .ok (.invokevirtual 60, 3) := by decide +kernel
theorem dX4_readText_69 : decode cX4_readText 69 = .ok (.pop, 1) := by decide +kernel
theorem dX4_readText_70 : decode cX4_readText 70 = .ok (.aload_n 0, 1) := by decide +kernel
theorem dX4_readText_71 : decode cX4_readText 71 = .ok (.getfield 9, 3) := by decide +kernel
theorem dX4_readText_74 : decode cX4_readText 74 = .ok (.ireturn, 1) := by decide +kernel
theorem dX4_begin_0 : decode cX4_begin 0 = .ok (.aload_n 0, 1) := by decide +kernel
theorem dX4_begin_1 : decode cX4_begin 1 = .ok (.iconst 0, 1) := by decide +kernel
theorem dX4_begin_2 : decode cX4_begin 2 = .ok (.putfield 9, 3) := by decide +kernel
theorem dX4_begin_5 : decode cX4_begin 5 = .ok (.aload_n 0, 1) := by decide +kernel
theorem dX4_begin_6 : decode cX4_begin 6 = .ok (.iconst (-1), 1) := by decide +kernel
theorem dX4_begin_7 : decode cX4_begin 7 = .ok (.putfield 15, 3) := by decide +kernel
theorem dX4_begin_10 : decode cX4_begin 10 = .ok (.aload_n 0, 1) := by decide +kernel
theorem dX4_begin_11 : decode cX4_begin 11 = .ok (.getfield 21, 3) := by decide +kernel
theorem dX4_begin_14 : decode cX4_begin 14 = .ok (.iload_n 1, 1) := by decide +kernel
theorem dX4_begin_15 : decode cX4_begin 15 = .ok (.invokevirtual 73, 3) := by decide +kernel
theorem dX4_begin_18 : decode cX4_begin 18 = .ok (.return_, 1) := by decide +kernel
theorem dX4_fail_0 : decode cX4_fail 0 = .ok (.aload_n 0, 1) := by decide +kernel
theorem dX4_fail_1 : decode cX4_fail 1 = .ok (.iload_n 1, 1) := by decide +kernel
theorem dX4_fail_2 : decode cX4_fail 2 = .ok (.putfield 9, 3) := by decide +kernel
theorem dX4_fail_5 : decode cX4_fail 5 = .ok (.aload_n 0, 1) := by decide +kernel
theorem dX4_fail_6 : decode cX4_fail 6 = .ok (.aload_n 0, 1) := by decide +kernel
theorem dX4_fail_7 : decode cX4_fail 7 = .ok (.getfield 21, 3) := by decide +kernel
theorem dX4_fail_10 : decode cX4_fail 10 = .ok (.invokevirtual 76, 3) := by decide +kernel
theorem dX4_fail_13 : decode cX4_fail 13 = .ok (.putfield 15, 3) := by decide +kernel
theorem dX4_fail_16 : decode cX4_fail 16 = .ok (.iconst 0, 1) := by decide +kernel
theorem dX4_fail_17 : decode cX4_fail 17 = .ok (.ireturn, 1) := by decide +kernel
theorem dX4_readStretches_0 : decode cX4_readStretches 0 = .ok (.iconst 0, 1) := by decide +kernel
theorem dX4_readStretches_1 : decode cX4_readStretches 1 = .ok (.istore_n 2, 1) := by decide +kernel
theorem dX4_readStretches_2 : decode cX4_readStretches 2 = .ok (.iload_n 2, 1) := by decide +kernel
theorem dX4_readStretches_3 : decode cX4_readStretches 3 = .ok (.bipush 12, 2) := by decide +kernel
theorem dX4_readStretches_5 : decode cX4_readStretches 5 = .ok (.if_icmp .gt 68, 3) := by decide +kernel
theorem dX4_readStretches_8 : decode cX4_readStretches 8 = .ok (.aload_n 0, 1) := by decide +kernel
theorem dX4_readStretches_9 : decode cX4_readStretches 9 = .ok (.getfield 21, 3) := by decide +kernel
theorem dX4_readStretches_12 : decode cX4_readStretches 12 = .ok (.ldc 80, 2) := by decide +kernel
theorem dX4_readStretches_14 : decode cX4_readStretches 14 = .ok (.invokevirtual 82, 3) := by decide +kernel
theorem dX4_readStretches_17 : decode cX4_readStretches 17 = .ok (.ifCond .eq 56, 3) := by decide +kernel
theorem dX4_readStretches_20 : decode cX4_readStretches 20 = .ok (.iload_n 2, 1) := by decide +kernel
theorem dX4_readStretches_21 : decode cX4_readStretches 21 = .ok (.bipush 12, 2) := by decide +kernel
theorem dX4_readStretches_23 : decode cX4_readStretches 23 = .ok (.if_icmp .ne 9, 3) := by decide +kernel
theorem dX4_readStretches_26 : decode cX4_readStretches 26 = .ok (.aload_n 0, 1) := by decide +kernel
theorem dX4_readStretches_27 : decode cX4_readStretches 27 = .ok (.iconst 4, 1) := by decide +kernel
theorem dX4_readStretches_28 : decode cX4_readStretches 28 = .ok (.invokevirtual 60, 3) := by decide +kernel
theorem dX4_readStretches_31 : decode cX4_readStretches 31 = .ok (.ireturn, 1) := by decide +kernel
theorem dX4_readStretches_32 : decode cX4_readStretches 32 = .ok (.aload_n 0, 1) := by decide +kernel
theorem dX4_readStretches_33 : decode cX4_readStretches 33 = .ok (.getfield 21, 3) := by decide +kernel
theorem dX4_readStretches_36 : decode cX4_readStretches 36 = .ok (.invokevirtual 85, 3) := by decide +kernel
theorem dX4_readStretches_39 : decode cX4_readStretches 39 = .ok (.aload_n 0, 1) := by decide +kernel
theorem dX4_readStretches_40 : decode cX4_readStretches 40 = .ok (.iconst 1, 1) := by decide +kernel
theorem dX4_readStretches_41 : decode cX4_readStretches 41 = .ok (.sipush 400, 3) := by decide +kernel
theorem dX4_readStretches_44 : decode cX4_readStretches 44 = .ok (.invokevirtual 35, 3) := by decide +kernel
theorem dX4_readStretches_47 : decode cX4_readStretches 47 = .ok (.ifCond .eq 10, 3) := by decide +kernel
theorem dX4_readStretches_50 : decode cX4_readStretches 50 = .ok (.aload_n 0, 1) := by decide +kernel
theorem dX4_readStretches_51 : decode cX4_readStretches 51 = .ok (.invokevirtual 39, 3) := by decide +kernel
theorem dX4_readStretches_54 : decode cX4_readStretches 54 = .ok (.ifCond .ne 5, 3) := by decide +kernel
theorem dX4_readStretches_57 : decode cX4_readStretches 57 = .ok (.iconst 0, 1) := by decide +kernel
theorem dX4_readStretches_58 : decode cX4_readStretches 58 = .ok (.ireturn, 1) := by decide +kernel
theorem dX4_readStretches_59 : decode cX4_readStretches 59 = .ok (.aload_n 1, 1) := by decide +kernel
theorem dX4_readStretches_60 : decode cX4_readStretches 60 = .ok (.aload_n 0, 1) := by decide +kernel
theorem dX4_readStretches_61 : decode cX4_readStretches 61 = .ok (.getfield 18, 3) := by decide +kernel
theorem dX4_readStretches_64 : decode cX4_readStretches 64 = .ok (.invokevirtual 88, 3) := by decide +kernel
theorem dX4_readStretches_67 : decode cX4_readStretches 67 = .ok (.iinc 2 1, 3) := by decide +kernel
theorem dX4_readStretches_70 : decode cX4_readStretches 70 = .ok (.goto (-68), 3) := by decide +kernel
theorem dX4_readStretches_73 : decode cX4_readStretches 73 = .ok (.iconst 1, 1) := by decide +kernel
theorem dX4_readStretches_74 : decode cX4_readStretches 74 = .ok (.ireturn, 1) := by decide +kernel
theorem dX4_readStrikers_0 : decode cX4_readStrikers 0 = .ok (.iconst 0, 1) := by decide +kernel
theorem dX4_readStrikers_1 : decode cX4_readStrikers 1 = .ok (.istore_n 2, 1) := by decide +kernel
theorem dX4_readStrikers_2 : decode cX4_readStrikers 2 = .ok (.iload_n 2, 1) := by decide +kernel
theorem dX4_readStrikers_3 : decode cX4_readStrikers 3 = .ok (.bipush 30, 2) := by decide +kernel
theorem dX4_readStrikers_5 : decode cX4_readStrikers 5 = .ok (.if_icmp .gt 98, 3) := by decide +kernel
theorem dX4_readStrikers_8 : decode cX4_readStrikers 8 = .ok (.aload_n 0, 1) := by decide +kernel
theorem dX4_readStrikers_9 : decode cX4_readStrikers 9 = .ok (.getfield 21, 3) := by decide +kernel
theorem dX4_readStrikers_12 : decode cX4_readStrikers 12 = .ok (.ldc 91, 2) := by decide +kernel
theorem dX4_readStrikers_14 : decode cX4_readStrikers 14 = .ok (.invokevirtual 82, 3) := by decide +kernel
theorem dX4_readStrikers_17 : decode cX4_readStrikers 17 = .ok (.ifCond .eq 86, 3) := by decide +kernel
theorem dX4_readStrikers_20 : decode cX4_readStrikers 20 = .ok (.iload_n 2, 1) := by decide +kernel
theorem dX4_readStrikers_21 : decode cX4_readStrikers 21 = .ok (.bipush 30, 2) := by decide +kernel
theorem dX4_readStrikers_23 : decode cX4_readStrikers 23 = .ok (.if_icmp .ne 9, 3) := by decide +kernel
theorem dX4_readStrikers_26 : decode cX4_readStrikers 26 = .ok (.aload_n 0, 1) := by decide +kernel
theorem dX4_readStrikers_27 : decode cX4_readStrikers 27 = .ok (.iconst 4, 1) := by decide +kernel
theorem dX4_readStrikers_28 : decode cX4_readStrikers 28 = .ok (.invokevirtual 60, 3) := by decide +kernel
theorem dX4_readStrikers_31 : decode cX4_readStrikers 31 = .ok (.ireturn, 1) := by decide +kernel
theorem dX4_readStrikers_32 : decode cX4_readStrikers 32 = .ok (.aload_n 0, 1) := by decide +kernel
theorem dX4_readStrikers_33 : decode cX4_readStrikers 33 = .ok (.getfield 21, 3) := by decide +kernel
theorem dX4_readStrikers_36 : decode cX4_readStrikers 36 = .ok (.invokevirtual 85, 3) := by decide +kernel
theorem dX4_readStrikers_39 : decode cX4_readStrikers 39 = .ok (.aload_n 0, 1) := by decide +kernel
theorem dX4_readStrikers_40 : decode cX4_readStrikers 40 = .ok (.getfield 21, 3) := by decide +kernel
theorem dX4_readStrikers_43 : decode cX4_readStrikers 43 = .ok (.invokevirtual 93, 3) := by decide +kernel
theorem dX4_readStrikers_46 : decode cX4_readStrikers 46 = .ok (.ifCond .eq 24, 3) := by decide +kernel
theorem dX4_readStrikers_49 : decode cX4_readStrikers 49 = .ok (.aload_n 1, 1) := by decide +kernel
theorem dX4_readStrikers_50 : decode cX4_readStrikers 50 = .ok (.aload_n 0, 1) := by decide +kernel
theorem dX4_readStrikers_51 : decode cX4_readStrikers 51 = .ok (.getfield 21, 3) := by decide +kernel
theorem dX4_readStrikers_54 : decode cX4_readStrikers 54 = .ok (.invokevirtual 96, 3) := by decide +kernel
theorem dX4_readStrikers_57 : decode cX4_readStrikers 57 = .ok (.invokevirtual 99, 3) := by decide +kernel
theorem dX4_readStrikers_60 : decode cX4_readStrikers 60 = .ok (.iconst (-1), 1) := by decide +kernel
theorem dX4_readStrikers_61 : decode cX4_readStrikers 61 = .ok (.if_icmp .eq 9, 3) := by decide +kernel
theorem dX4_readStrikers_64 : decode cX4_readStrikers 64 = .ok (.aload_n 0, 1) := by decide +kernel
theorem dX4_readStrikers_65 : decode cX4_readStrikers 65 = .ok (.iconst 3, 1) := by decide +kernel
theorem dX4_readStrikers_66 : decode cX4_readStrikers 66 = .ok (.invokevirtual 60, 3) := by decide +kernel
theorem dX4_readStrikers_69 : decode cX4_readStrikers 69 = .ok (.ireturn, 1) := by decide +kernel
theorem dX4_readStrikers_70 : decode cX4_readStrikers 70 = .ok (.aload_n 0, 1) := by decide +kernel
theorem dX4_readStrikers_71 : decode cX4_readStrikers 71 = .ok (.iconst 2, 1) := by decide +kernel
theorem dX4_readStrikers_72 : decode cX4_readStrikers 72 = .ok (.bipush 120, 2) := by decide +kernel
theorem dX4_readStrikers_74 : decode cX4_readStrikers 74 = .ok (.invokevirtual 35, 3) := by decide +kernel
theorem dX4_readStrikers_77 : decode cX4_readStrikers 77 = .ok (.ifCond .eq 10, 3) := by decide +kernel
theorem dX4_readStrikers_80 : decode cX4_readStrikers 80 = .ok (.aload_n 0, 1) := by decide +kernel
theorem dX4_readStrikers_81 : decode cX4_readStrikers 81 = .ok (.invokevirtual 39, 3) := by decide +kernel
theorem dX4_readStrikers_84 : decode cX4_readStrikers 84 = .ok (.ifCond .ne 5, 3) := by decide +kernel
theorem dX4_readStrikers_87 : decode cX4_readStrikers 87 = .ok (.iconst 0, 1) := by decide +kernel
theorem dX4_readStrikers_88 : decode cX4_readStrikers 88 = .ok (.ireturn, 1) := by decide +kernel
theorem dX4_readStrikers_89 : decode cX4_readStrikers 89 = .ok (.aload_n 1, 1) := by decide +kernel
theorem dX4_readStrikers_90 : decode cX4_readStrikers 90 = .ok (.aload_n 0, 1) := by decide +kernel
theorem dX4_readStrikers_91 : decode cX4_readStrikers 91 = .ok (.getfield 18, 3) := by decide +kernel
theorem dX4_readStrikers_94 : decode cX4_readStrikers 94 = .ok (.invokevirtual 103, 3) := by decide +kernel
theorem dX4_readStrikers_97 : decode cX4_readStrikers 97 = .ok (.iinc 2 1, 3) := by decide +kernel
theorem dX4_readStrikers_100 : decode cX4_readStrikers 100 = .ok (.goto (-98), 3) := by decide +kernel
theorem dX4_readStrikers_103 : decode cX4_readStrikers 103 = .ok (.iconst 1, 1) := by decide +kernel
theorem dX4_readStrikers_104 : decode cX4_readStrikers 104 = .ok (.ireturn, 1) := by decide +kernel
theorem dX4_takeWord_0 : decode cX4_takeWord 0 = .ok (.aload_n 0, 1) := by decide +kernel
theorem dX4_takeWord_1 : decode cX4_takeWord 1 = .ok (.getfield 21, 3) := by decide +kernel
theorem dX4_takeWord_4 : decode cX4_takeWord 4 = .ok (.aload_n 1, 1) := by decide +kernel
theorem dX4_takeWord_5 : decode cX4_takeWord 5 = .ok (.invokevirtual 82, 3) := by decide +kernel
theorem dX4_takeWord_8 : decode cX4_takeWord 8 = .ok (.ifCond .ne 9, 3) := by decide +kernel
theorem dX4_takeWord_11 : decode cX4_takeWord 11 = .ok (.aload_n 0, 1) := by decide +kernel
theorem dX4_takeWord_12 : decode cX4_takeWord 12 = .ok (.iconst 1, 1) := by decide +kernel
theorem dX4_takeWord_13 : decode cX4_takeWord 13 = .ok (.invokevirtual 60, 3) := by decide +kernel
theorem dX4_takeWord_16 : decode cX4_takeWord 16 = .ok (.ireturn, 1) := by decide +kernel
theorem dX4_takeWord_17 : decode cX4_takeWord 17 = .ok (.aload_n 0, 1) := by decide +kernel
theorem dX4_takeWord_18 : decode cX4_takeWord 18 = .ok (.getfield 21, 3) := by decide +kernel
theorem dX4_takeWord_21 : decode cX4_takeWord 21 = .ok (.invokevirtual 85, 3) := by decide +kernel
theorem dX4_takeWord_24 : decode cX4_takeWord 24 = .ok (.iconst 1, 1) := by decide +kernel
theorem dX4_takeWord_25 : decode cX4_takeWord 25 = .ok (.ireturn, 1) := by decide +kernel
theorem dX4_takeNumber_0 : decode cX4_takeNumber 0 = .ok (.aload_n 0, 1) := by decide +kernel
theorem dX4_takeNumber_1 : decode cX4_takeNumber 1 = .ok (.getfield 21, 3) := by decide +kernel
theorem dX4_takeNumber_4 : decode cX4_takeNumber 4 = .ok (.invokevirtual 93, 3) := by decide +kernel
theorem dX4_takeNumber_7 : decode cX4_takeNumber 7 = .ok (.ifCond .ne 9, 3) := by decide +kernel
theorem dX4_takeNumber_10 : decode cX4_takeNumber 10 = .ok (.aload_n 0, 1) := by decide +kernel
theorem dX4_takeNumber_11 : decode cX4_takeNumber 11 = .ok (.iconst 1, 1) := by decide +kernel
theorem dX4_takeNumber_12 : decode cX4_takeNumber 12 = .ok (.invokevirtual 60, 3) := by decide +kernel
theorem dX4_takeNumber_15 : decode cX4_takeNumber 15 = .ok (.ireturn, 1) := by decide +kernel
theorem dX4_takeNumber_16 : decode cX4_takeNumber 16 = .ok (.aload_n 0, 1) := by decide +kernel
theorem dX4_takeNumber_17 : decode cX4_takeNumber 17 = .ok (.aload_n 0, 1) := by decide +kernel
theorem dX4_takeNumber_18 : decode cX4_takeNumber 18 = .ok (.getfield 21, 3) := by decide +kernel
theorem dX4_takeNumber_21 : decode cX4_takeNumber 21 = .ok (.invokevirtual 96, 3) := by decide +kernel
theorem dX4_takeNumber_24 : decode cX4_takeNumber 24 = .ok (.putfield 18, 3) := by decide +kernel
theorem dX4_takeNumber_27 : decode cX4_takeNumber 27 = .ok (.aload_n 0, 1) := by decide +kernel
theorem dX4_takeNumber_28 : decode cX4_takeNumber 28 = .ok (.getfield 18, 3) := by decide +kernel
theorem dX4_takeNumber_31 : decode cX4_takeNumber 31 = .ok (.iload_n 1, 1) := by decide +kernel
theorem dX4_takeNumber_32 : decode cX4_takeNumber 32 = .ok (.if_icmp .lt 11, 3) := by decide +kernel
theorem dX4_takeNumber_35 : decode cX4_takeNumber 35 = .ok (.aload_n 0, 1) := by decide +kernel
theorem dX4_takeNumber_36 : decode cX4_takeNumber 36 = .ok (.getfield 18, 3) := by decide +kernel
theorem dX4_takeNumber_39 : decode cX4_takeNumber 39 = .ok (.iload_n 2, 1) := by decide +kernel
theorem dX4_takeNumber_40 : decode cX4_takeNumber 40 = .ok (.if_icmp .le 9, 3) := by decide +kernel
theorem dX4_takeNumber_43 : decode cX4_takeNumber 43 = .ok (.aload_n 0, 1) := by decide +kernel
theorem dX4_takeNumber_44 : decode cX4_takeNumber 44 = .ok (.iconst 2, 1) := by decide +kernel
theorem dX4_takeNumber_45 : decode cX4_takeNumber 45 = .ok (.invokevirtual 60, 3) := by decide +kernel
theorem dX4_takeNumber_48 : decode cX4_takeNumber 48 = .ok (.ireturn, 1) := by decide +kernel
theorem dX4_takeNumber_49 : decode cX4_takeNumber 49 = .ok (.aload_n 0, 1) := by decide +kernel
theorem dX4_takeNumber_50 : decode cX4_takeNumber 50 = .ok (.getfield 21, 3) := by decide +kernel
theorem dX4_takeNumber_53 : decode cX4_takeNumber 53 = .ok (.invokevirtual 85, 3) := by decide +kernel
theorem dX4_takeNumber_56 : decode cX4_takeNumber 56 = .ok (.iconst 1, 1) := by decide +kernel
theorem dX4_takeNumber_57 : decode cX4_takeNumber 57 = .ok (.ireturn, 1) := by decide +kernel
theorem dX4_takeSemicolon_0 : decode cX4_takeSemicolon 0 = .ok (.aload_n 0, 1) := by decide +kernel
theorem dX4_takeSemicolon_1 : decode cX4_takeSemicolon 1 = .ok (.getfield 21, 3) := by decide +kernel
theorem dX4_takeSemicolon_4 : decode cX4_takeSemicolon 4 = .ok (.invokevirtual 140, 3) := by decide +kernel
theorem dX4_takeSemicolon_7 : decode cX4_takeSemicolon 7 = .ok (.ifCond .ne 9, 3) := by decide +kernel
theorem dX4_takeSemicolon_10 : decode cX4_takeSemicolon 10 = .ok (.aload_n 0, 1) := by decide +kernel
theorem dX4_takeSemicolon_11 : decode cX4_takeSemicolon 11 = .ok (.iconst 1, 1) := by decide +kernel
theorem dX4_takeSemicolon_12 : decode cX4_takeSemicolon 12 = .ok (.invokevirtual 60, 3) := by decide +kernel
theorem dX4_takeSemicolon_15 : decode cX4_takeSemicolon 15 = .ok (.ireturn, 1) := by decide +kernel
theorem dX4_takeSemicolon_16 : decode cX4_takeSemicolon 16 = .ok (.aload_n 0, 1) := by decide +kernel
theorem dX4_takeSemicolon_17 : decode cX4_takeSemicolon 17 = .ok (.getfield 21, 3) := by decide +kernel
theorem dX4_takeSemicolon_20 : decode cX4_takeSemicolon 20 = .ok (.invokevirtual 85, 3) := by decide +kernel
theorem dX4_takeSemicolon_23 : decode cX4_takeSemicolon 23 = .ok (.iconst 1, 1) := by decide +kernel
theorem dX4_takeSemicolon_24 : decode cX4_takeSemicolon 24 = .ok (.ireturn, 1) := by decide +kernel
theorem dX5_init_0 : decode cX5_init 0 = .ok (.aload_n 0, 1) := by decide +kernel
theorem dX5_init_1 : decode cX5_init 1 = .ok (.invokespecial 3, 3) := by decide +kernel
theorem dX5_init_4 : decode cX5_init 4 = .ok (.aload_n 0, 1) := by decide +kernel
theorem dX5_init_5 : decode cX5_init 5 = .ok (.bipush 20, 2) := by decide +kernel
theorem dX5_init_7 : decode cX5_init 7 = .ok (.anewarray 9, 3) := by decide +kernel
theorem dX5_init_10 : decode cX5_init 10 = .ok (.putfield 11, 3) := by decide +kernel
theorem dX5_init_13 : decode cX5_init 13 = .ok (.aload_n 0, 1) := by decide +kernel
theorem dX5_init_14 : decode cX5_init 14 = .ok (.bipush 20, 2) := by decide +kernel
theorem dX5_init_16 : decode cX5_init 16 = .ok (.newarray .int, 2) := by decide +kernel
theorem dX5_init_18 : decode cX5_init 18 = .ok (.putfield 17, 3) := by decide +kernel
theorem dX5_init_21 : decode cX5_init 21 = .ok (.aload_n 0, 1) := by decide +kernel
theorem dX5_init_22 : decode cX5_init 22 = .ok (.bipush 20, 2) := by decide +kernel
theorem dX5_init_24 : decode cX5_init 24 = .ok (.newarray .int, 2) := by decide +kernel
theorem dX5_init_26 : decode cX5_init 26 = .ok (.putfield 21, 3) := by decide +kernel
theorem dX5_init_29 : decode cX5_init 29 = .ok (.aload_n 0, 1) := by decide +kernel
theorem dX5_init_30 : decode cX5_init 30 = .ok (.iconst 0, 1) := by decide +kernel
theorem dX5_init_31 : decode cX5_init 31 = .ok (.putfield 24, 3) := by decide +kernel
theorem dX5_init_34 : decode cX5_init 34 = .ok (.return_, 1) := by decide +kernel
theorem dX6_init_0 : decode cX6_init 0 = .ok (.aload_n 0, 1) := by decide +kernel
theorem dX6_init_1 : decode cX6_init 1 = .ok (.invokespecial 3, 3) := by decide +kernel
theorem dX6_init_4 : decode cX6_init 4 = .ok (.aload_n 0, 1) := by decide +kernel
theorem dX6_init_5 : decode cX6_init 5 = .ok (.sipush 2000, 3) := by decide +kernel
theorem dX6_init_8 : decode cX6_init 8 = .ok (.newarray .byte, 2) := by decide +kernel
theorem dX6_init_10 : decode cX6_init 10 = .ok (.putfield 9, 3) := by decide +kernel
theorem dX6_init_13 : decode cX6_init 13 = .ok (.aload_n 0, 1) := by decide +kernel
theorem dX6_init_14 : decode cX6_init 14 = .ok (.iconst 0, 1) := by decide +kernel
theorem dX6_init_15 : decode cX6_init 15 = .ok (.putfield 15, 3) := by decide +kernel
theorem dX6_init_18 : decode cX6_init 18 = .ok (.return_, 1) := by decide +kernel
theorem dX7_init_0 : decode cX7_init 0 = .ok (.aload_n 0, 1) := by decide +kernel
theorem dX7_init_1 : decode cX7_init 1 = .ok (.invokespecial 3, 3) := by decide +kernel
theorem dX7_init_4 : decode cX7_init 4 = .ok (.aload_n 0, 1) := by decide +kernel
theorem dX7_init_5 : decode cX7_init 5 = .ok (.sipush 4802, 3) := by decide +kernel
theorem dX7_init_8 : decode cX7_init 8 = .ok (.newarray .int, 2) := by decide +kernel
theorem dX7_init_10 : decode cX7_init 10 = .ok (.putfield 9, 3) := by decide +kernel
theorem dX7_init_13 : decode cX7_init 13 = .ok (.aload_n 0, 1) := by decide +kernel
theorem dX7_init_14 : decode cX7_init 14 = .ok (.sipush 4802, 3) := by decide +kernel
theorem dX7_init_17 : decode cX7_init 17 = .ok (.newarray .int, 2) := by decide +kernel
theorem dX7_init_19 : decode cX7_init 19 = .ok (.putfield 15, 3) := by decide +kernel
theorem dX7_init_22 : decode cX7_init 22 = .ok (.aload_n 0, 1) := by decide +kernel
theorem dX7_init_23 : decode cX7_init 23 = .ok (.iconst 1, 1) := by decide +kernel
theorem dX7_init_24 : decode cX7_init 24 = .ok (.putfield 18, 3) := by decide +kernel
theorem dX7_init_27 : decode cX7_init 27 = .ok (.aload_n 0, 1) := by decide +kernel
theorem dX7_init_28 : decode cX7_init 28 = .ok (.iconst 0, 1) := by decide +kernel
theorem dX7_init_29 : decode cX7_init 29 = .ok (.putfield 22, 3) := by decide +kernel
theorem dX7_init_32 : decode cX7_init 32 = .ok (.aload_n 0, 1) := by decide +kernel
theorem dX7_init_33 : decode cX7_init 33 = .ok (.iconst 0, 1) := by decide +kernel
theorem dX7_init_34 : decode cX7_init 34 = .ok (.putfield 25, 3) := by decide +kernel
theorem dX7_init_37 : decode cX7_init 37 = .ok (.aload_n 0, 1) := by decide +kernel
theorem dX7_init_38 : decode cX7_init 38 = .ok (.iconst (-1), 1) := by decide +kernel
theorem dX7_init_39 : decode cX7_init 39 = .ok (.putfield 28, 3) := by decide +kernel
theorem dX7_init_42 : decode cX7_init 42 = .ok (.return_, 1) := by decide +kernel
theorem dX7_isBuiltFor_0 : decode cX7_isBuiltFor 0 = .ok (.aload_n 0, 1) := by decide +kernel
theorem dX7_isBuiltFor_1 : decode cX7_isBuiltFor 1 = .ok (.getfield 28, 3) := by decide +kernel
theorem dX7_isBuiltFor_4 : decode cX7_isBuiltFor 4 = .ok (.aload_n 1, 1) := by decide +kernel
theorem dX7_isBuiltFor_5 : decode cX7_isBuiltFor 5 = .ok (.invokevirtual 31, 3) := by decide +kernel
theorem dX7_isBuiltFor_8 : decode cX7_isBuiltFor 8 = .ok (.if_icmp .ne 7, 3) := by decide +kernel
theorem dX7_isBuiltFor_11 : decode cX7_isBuiltFor 11 = .ok (.iconst 1, 1) := by decide +kernel
theorem dX7_isBuiltFor_12 : decode cX7_isBuiltFor 12 = .ok (.goto 4, 3) := by decide +kernel
theorem dX7_isBuiltFor_15 : decode cX7_isBuiltFor 15 = .ok (.iconst 0, 1) := by decide +kernel
theorem dX7_isBuiltFor_16 : decode cX7_isBuiltFor 16 = .ok (.ireturn, 1) := by decide +kernel
theorem dX7_build_0 : decode cX7_build 0 = .ok (.aload_n 0, 1) := by decide +kernel
theorem dX7_build_1 : decode cX7_build 1 = .ok (.aload_n 1, 1) := by decide +kernel
theorem dX7_build_2 : decode cX7_build 2 = .ok (.invokevirtual 37, 3) := by decide +kernel
theorem dX7_build_5 : decode cX7_build 5 = .ok (.sipush 4801, 3) := by decide +kernel
theorem dX7_build_8 : decode cX7_build 8 = .ok (.invokestatic 40, 3) := by decide +kernel
theorem dX7_build_11 : decode cX7_build 11 = .ok (.putfield 18, 3) := by decide +kernel
theorem dX7_build_14 : decode cX7_build 14 = .ok (.iconst 2, 1) := by decide +kernel
theorem dX7_build_15 : decode cX7_build 15 = .ok (.istore_n 2, 1) := by decide +kernel
theorem dX7_build_16 : decode cX7_build 16 = .ok (.iload_n 2, 1) := by decide +kernel
theorem dX7_build_17 : decode cX7_build 17 = .ok (.aload_n 0, 1) := by decide +kernel
theorem dX7_build_18 : decode cX7_build 18 = .ok (.getfield 18, 3) := by decide +kernel
theorem dX7_build_21 : decode cX7_build 21 = .ok (.if_icmp .gt 16, 3) := by decide +kernel
theorem dX7_build_24 : decode cX7_build 24 = .ok (.aload_n 0, 1) := by decide +kernel
theorem dX7_build_25 : decode cX7_build 25 = .ok (.getfield 9, 3) := by decide +kernel
theorem dX7_build_28 : decode cX7_build 28 = .ok (.iload_n 2, 1) := by decide +kernel
theorem dX7_build_29 : decode cX7_build 29 = .ok (.iconst 0, 1) := by decide +kernel
theorem dX7_build_30 : decode cX7_build 30 = .ok (.iastore, 1) := by decide +kernel
theorem dX7_build_31 : decode cX7_build 31 = .ok (.iinc 2 1, 3) := by decide +kernel
theorem dX7_build_34 : decode cX7_build 34 = .ok (.goto (-18), 3) := by decide +kernel
theorem dX7_build_37 : decode cX7_build 37 = .ok (.iconst 0, 1) := by decide +kernel
theorem dX7_build_38 : decode cX7_build 38 = .ok (.istore_n 2, 1) := by decide +kernel
theorem dX7_build_39 : decode cX7_build 39 = .ok (.iload_n 2, 1) := by decide +kernel
theorem dX7_build_40 : decode cX7_build 40 = .ok (.aload_n 1, 1) := by decide +kernel
theorem dX7_build_41 : decode cX7_build 41 = .ok (.invokevirtual 46, 3) := by decide +kernel
theorem dX7_build_44 : decode cX7_build 44 = .ok (.if_icmp .ge 23, 3) := by decide +kernel
theorem dX7_build_47 : decode cX7_build 47 = .ok (.iload_n 2, 1) := by decide +kernel
theorem dX7_build_48 : decode cX7_build 48 = .ok (.invokestatic 49, 3) := by decide +kernel
theorem dX7_build_51 : decode cX7_build 51 = .ok (.istore_n 3, 1) := by decide +kernel
theorem dX7_build_52 : decode cX7_build 52 = .ok (.aload_n 0, 1) := by decide +kernel
theorem dX7_build_53 : decode cX7_build 53 = .ok (.iconst 2, 1) := by decide +kernel
theorem dX7_build_54 : decode cX7_build 54 = .ok (.iload_n 3, 1) := by decide +kernel
theorem dX7_build_55 : decode cX7_build 55 = .ok (.imul, 1) := by decide +kernel
theorem dX7_build_56 : decode cX7_build 56 = .ok (.iload_n 3, 1) := by decide +kernel
theorem dX7_build_57 : decode cX7_build 57 = .ok (.iconst (-1), 1) := by decide +kernel
theorem dX7_build_58 : decode cX7_build 58 = .ok (.invokevirtual 55, 3) := by decide +kernel
theorem dX7_build_61 : decode cX7_build 61 = .ok (.iinc 2 1, 3) := by decide +kernel
theorem dX7_build_64 : decode cX7_build 64 = .ok (.goto (-25), 3) := by decide +kernel
theorem dX7_build_67 : decode cX7_build 67 = .ok (.iconst 0, 1) := by decide +kernel
theorem dX7_build_68 : decode cX7_build 68 = .ok (.istore_n 2, 1) := by decide +kernel
theorem dX7_build_69 : decode cX7_build 69 = .ok (.iload_n 2, 1) := by decide +kernel
theorem dX7_build_70 : decode cX7_build 70 = .ok (.aload_n 1, 1) := by decide +kernel
theorem dX7_build_71 : decode cX7_build 71 = .ok (.invokevirtual 59, 3) := by decide +kernel
theorem dX7_build_74 : decode cX7_build 74 = .ok (.if_icmp .ge 24, 3) := by decide +kernel
theorem dX7_build_77 : decode cX7_build 77 = .ok (.aload_n 1, 1) := by decide +kernel
theorem dX7_build_78 : decode cX7_build 78 = .ok (.iload_n 2, 1) := by decide +kernel
theorem dX7_build_79 : decode cX7_build 79 = .ok (.invokevirtual 62, 3) := by decide +kernel
theorem dX7_build_82 : decode cX7_build 82 = .ok (.istore_n 3, 1) := by decide +kernel
theorem dX7_build_83 : decode cX7_build 83 = .ok (.aload_n 0, 1) := by decide +kernel
theorem dX7_build_84 : decode cX7_build 84 = .ok (.iload_n 3, 1) := by decide +kernel
theorem dX7_build_85 : decode cX7_build 85 = .ok (.iload_n 3, 1) := by decide +kernel
theorem dX7_build_86 : decode cX7_build 86 = .ok (.imul, 1) := by decide +kernel
theorem dX7_build_87 : decode cX7_build 87 = .ok (.iload_n 3, 1) := by decide +kernel
theorem dX7_build_88 : decode cX7_build 88 = .ok (.iload_n 3, 1) := by decide +kernel
theorem dX7_build_89 : decode cX7_build 89 = .ok (.invokevirtual 55, 3) := by decide +kernel
theorem dX7_build_92 : decode cX7_build 92 = .ok (.iinc 2 1, 3) := by decide +kernel
theorem dX7_build_95 : decode cX7_build 95 = .ok (.goto (-26), 3) := by decide +kernel
theorem dX7_build_98 : decode cX7_build 98 = .ok (.aload_n 0, 1) := by decide +kernel
theorem dX7_build_99 : decode cX7_build 99 = .ok (.invokevirtual 65, 3) := by decide +kernel
theorem dX7_build_102 : decode cX7_build 102 = .ok (.aload_n 0, 1) := by decide +kernel
theorem dX7_build_103 : decode cX7_build 103 = .ok (.aload_n 1, 1) := by decide +kernel
theorem dX7_build_104 : decode cX7_build 104 = .ok (.invokevirtual 31, 3) := by decide +kernel
theorem dX7_build_107 : decode cX7_build 107 = .ok (.putfield 28, 3) := by decide +kernel
theorem dX7_build_110 : decode cX7_build 110 = .ok (.return_, 1) := by decide +kernel
theorem dX7_strikeOut_0 : decode cX7_strikeOut 0 = .ok (.iload_n 1, 1) := by decide +kernel
theorem dX7_strikeOut_1 : decode cX7_strikeOut 1 = .ok (.iconst 2, 1) := by decide +kernel
theorem dX7_strikeOut_2 : decode cX7_strikeOut 2 = .ok (.if_icmp .lt 8, 3) := by decide +kernel
theorem dX7_strikeOut_5 : decode cX7_strikeOut 5 = .ok (.iload_n 2, 1) := by decide +kernel
theorem dX7_strikeOut_6 : decode cX7_strikeOut 6 = .ok (.iconst 2, 1) := by decide +kernel
theorem dX7_strikeOut_7 : decode cX7_strikeOut 7 = .ok (.if_icmp .ge 4, 3) := by decide +kernel
theorem dX7_strikeOut_10 : decode cX7_strikeOut 10 = .ok (.return_, 1) := by decide +kernel
theorem dX7_strikeOut_11 : decode cX7_strikeOut 11 = .ok (.iload_n 1, 1) := by decide +kernel
theorem dX7_strikeOut_12 : decode cX7_strikeOut 12 = .ok (.istore 4, 2) := by decide +kernel
theorem dX7_strikeOut_14 : decode cX7_strikeOut 14 = .ok (.iload 4, 2) := by decide +kernel
theorem dX7_strikeOut_16 : decode cX7_strikeOut 16 = .ok (.aload_n 0, 1) := by decide +kernel
theorem dX7_strikeOut_17 : decode cX7_strikeOut 17 = .ok (.getfield 18, 3) := by decide +kernel
theorem dX7_strikeOut_20 : decode cX7_strikeOut 20 = .ok (.if_icmp .gt 30, 3) := by decide +kernel
theorem dX7_strikeOut_23 : decode cX7_strikeOut 23 = .ok (.aload_n 0, 1) := by decide +kernel
theorem dX7_strikeOut_24 : decode cX7_strikeOut 24 = .ok (.getfield 9, 3) := by decide +kernel
theorem dX7_strikeOut_27 : decode cX7_strikeOut 27 = .ok (.iload 4, 2) := by decide +kernel
theorem dX7_strikeOut_29 : decode cX7_strikeOut 29 = .ok (.iaload, 1) := by decide +kernel
theorem dX7_strikeOut_30 : decode cX7_strikeOut 30 = .ok (.ifCond .ne 11, 3) := by decide +kernel
theorem dX7_strikeOut_33 : decode cX7_strikeOut 33 = .ok (.aload_n 0, 1) := by decide +kernel
theorem dX7_strikeOut_34 : decode cX7_strikeOut 34 = .ok (.getfield 9, 3) := by decide +kernel
theorem dX7_strikeOut_37 : decode cX7_strikeOut 37 = .ok (.iload 4, 2) := by decide +kernel
theorem dX7_strikeOut_39 : decode cX7_strikeOut 39 = .ok (.iload_n 3, 1) := by decide +kernel
theorem dX7_strikeOut_40 : decode cX7_strikeOut 40 = .ok (.iastore, 1) := by decide +kernel
theorem dX7_strikeOut_41 : decode cX7_strikeOut 41 = .ok (.iload 4, 2) := by decide +kernel
theorem dX7_strikeOut_43 : decode cX7_strikeOut 43 = .ok (.iload_n 2, 1) := by decide +kernel
theorem dX7_strikeOut_44 : decode cX7_strikeOut 44 = .ok (.iadd, 1) := by decide +kernel
theorem dX7_strikeOut_45 : decode cX7_strikeOut 45 = .ok (.istore 4, 2) := by decide +kernel
theorem dX7_strikeOut_47 : decode cX7_strikeOut 47 = .ok (.goto (-33), 3) := by decide +kernel
theorem dX7_strikeOut_50 : decode cX7_strikeOut 50 = .ok (.return_, 1) := by decide +kernel
theorem dX7_countAll_0 : decode cX7_countAll 0 = .ok (.aload_n 0, 1) := by decide +kernel
theorem dX7_countAll_1 : decode cX7_countAll 1 = .ok (.iconst 0, 1) := by decide +kernel
theorem dX7_countAll_2 : decode cX7_countAll 2 = .ok (.putfield 22, 3) := by decide +kernel
theorem dX7_countAll_5 : decode cX7_countAll 5 = .ok (.aload_n 0, 1) := by decide +kernel
theorem dX7_countAll_6 : decode cX7_countAll 6 = .ok (.iconst 0, 1) := by decide +kernel
theorem dX7_countAll_7 : decode cX7_countAll 7 = .ok (.putfield 25, 3) := by decide +kernel
theorem dX7_countAll_10 : decode cX7_countAll 10 = .ok (.iconst 2, 1) := by decide +kernel
theorem dX7_countAll_11 : decode cX7_countAll 11 = .ok (.istore_n 1, 1) := by decide +kernel
theorem dX7_countAll_12 : decode cX7_countAll 12 = .ok (.iload_n 1, 1) := by decide +kernel
theorem dX7_countAll_13 : decode cX7_countAll 13 = .ok (.aload_n 0, 1) := by decide +kernel
theorem dX7_countAll_14 : decode cX7_countAll 14 = .ok (.getfield 18, 3) := by decide +kernel
theorem dX7_countAll_17 : decode cX7_countAll 17 = .ok (.if_icmp .gt 58, 3) := by decide +kernel
theorem dX7_countAll_20 : decode cX7_countAll 20 = .ok (.aload_n 0, 1) := by decide +kernel
theorem dX7_countAll_21 : decode cX7_countAll 21 = .ok (.getfield 9, 3) := by decide +kernel
theorem dX7_countAll_24 : decode cX7_countAll 24 = .ok (.iload_n 1, 1) := by decide +kernel
theorem dX7_countAll_25 : decode cX7_countAll 25 = .ok (.iaload, 1) := by decide +kernel
theorem dX7_countAll_26 : decode cX7_countAll 26 = .ok (.ifCond .ne 13, 3) := by decide +kernel
theorem dX7_countAll_29 : decode cX7_countAll 29 = .ok (.aload_n 0, 1) := by decide +kernel
theorem dX7_countAll_30 : decode cX7_countAll 30 = .ok (.dup, 1) := by decide +kernel
theorem dX7_countAll_31 : decode cX7_countAll 31 = .ok (.getfield 22, 3) := by decide +kernel
theorem dX7_countAll_34 : decode cX7_countAll 34 = .ok (.iconst 1, 1) := by decide +kernel
theorem dX7_countAll_35 : decode cX7_countAll 35 = .ok (.iadd, 1) := by decide +kernel
theorem dX7_countAll_36 : decode cX7_countAll 36 = .ok (.putfield 22, 3) := by decide +kernel
theorem dX7_countAll_39 : decode cX7_countAll 39 = .ok (.aload_n 0, 1) := by decide +kernel
theorem dX7_countAll_40 : decode cX7_countAll 40 = .ok (.getfield 9, 3) := by decide +kernel
theorem dX7_countAll_43 : decode cX7_countAll 43 = .ok (.iload_n 1, 1) := by decide +kernel
theorem dX7_countAll_44 : decode cX7_countAll 44 = .ok (.iaload, 1) := by decide +kernel
theorem dX7_countAll_45 : decode cX7_countAll 45 = .ok (.iconst (-1), 1) := by decide +kernel
theorem dX7_countAll_46 : decode cX7_countAll 46 = .ok (.if_icmp .eq 13, 3) := by decide +kernel
theorem dX7_countAll_49 : decode cX7_countAll 49 = .ok (.aload_n 0, 1) := by decide +kernel
theorem dX7_countAll_50 : decode cX7_countAll 50 = .ok (.dup, 1) := by decide +kernel
theorem dX7_countAll_51 : decode cX7_countAll 51 = .ok (.getfield 25, 3) := by decide +kernel
theorem dX7_countAll_54 : decode cX7_countAll 54 = .ok (.iconst 1, 1) := by decide +kernel
theorem dX7_countAll_55 : decode cX7_countAll 55 = .ok (.iadd, 1) := by decide +kernel
theorem dX7_countAll_56 : decode cX7_countAll 56 = .ok (.putfield 25, 3) := by decide +kernel
theorem dX7_countAll_59 : decode cX7_countAll 59 = .ok (.aload_n 0, 1) := by decide +kernel
theorem dX7_countAll_60 : decode cX7_countAll 60 = .ok (.getfield 15, 3) := by decide +kernel
theorem dX7_countAll_63 : decode cX7_countAll 63 = .ok (.iload_n 1, 1) := by decide +kernel
theorem dX7_countAll_64 : decode cX7_countAll 64 = .ok (.aload_n 0, 1) := by decide +kernel
theorem dX7_countAll_65 : decode cX7_countAll 65 = .ok (.getfield 22, 3) := by decide +kernel
theorem dX7_countAll_68 : decode cX7_countAll 68 = .ok (.iastore, 1) := by decide +kernel
theorem dX7_countAll_69 : decode cX7_countAll 69 = .ok (.iinc 1 1, 3) := by decide +kernel
theorem dX7_countAll_72 : decode cX7_countAll 72 = .ok (.goto (-60), 3) := by decide +kernel
theorem dX7_countAll_75 : decode cX7_countAll 75 = .ok (.return_, 1) := by decide +kernel
theorem dX7_lastNumber_0 : decode cX7_lastNumber 0 = .ok (.aload_n 0, 1) := by decide +kernel
theorem dX7_lastNumber_1 : decode cX7_lastNumber 1 = .ok (.getfield 18, 3) := by decide +kernel
theorem dX7_lastNumber_4 : decode cX7_lastNumber 4 = .ok (.ireturn, 1) := by decide +kernel
theorem dX7_markCount_0 : decode cX7_markCount 0 = .ok (.aload_n 0, 1) := by decide +kernel
theorem dX7_markCount_1 : decode cX7_markCount 1 = .ok (.getfield 22, 3) := by decide +kernel
theorem dX7_markCount_4 : decode cX7_markCount 4 = .ok (.ireturn, 1) := by decide +kernel
theorem dX7_spokeCount_0 : decode cX7_spokeCount 0 = .ok (.aload_n 0, 1) := by decide +kernel
theorem dX7_spokeCount_1 : decode cX7_spokeCount 1 = .ok (.getfield 25, 3) := by decide +kernel
theorem dX7_spokeCount_4 : decode cX7_spokeCount 4 = .ok (.ireturn, 1) := by decide +kernel
theorem dX7_ownerOf_0 : decode cX7_ownerOf 0 = .ok (.iload_n 1, 1) := by decide +kernel
theorem dX7_ownerOf_1 : decode cX7_ownerOf 1 = .ok (.iconst 2, 1) := by decide +kernel
theorem dX7_ownerOf_2 : decode cX7_ownerOf 2 = .ok (.if_icmp .lt 11, 3) := by decide +kernel
theorem dX7_ownerOf_5 : decode cX7_ownerOf 5 = .ok (.iload_n 1, 1) := by decide +kernel
theorem dX7_ownerOf_6 : decode cX7_ownerOf 6 = .ok (.aload_n 0, 1) := by decide +kernel
theorem dX7_ownerOf_7 : decode cX7_ownerOf 7 = .ok (.getfield 18, 3) := by decide +kernel
theorem dX7_ownerOf_10 : decode cX7_ownerOf 10 = .ok (.if_icmp .le 8, 3) := by decide +kernel
theorem dX7_ownerOf_13 : decode cX7_ownerOf 13 = .ok (.bipush (-2), 2) := by decide +kernel
theorem dX7_ownerOf_15 : decode cX7_ownerOf 15 = .ok (.goto 9, 3) := by decide +kernel
theorem dX7_ownerOf_18 : decode cX7_ownerOf 18 = .ok (.aload_n 0, 1) := by decide +kernel
theorem dX7_ownerOf_19 : decode cX7_ownerOf 19 = .ok (.getfield 9, 3) := by decide +kernel
theorem dX7_ownerOf_22 : decode cX7_ownerOf 22 = .ok (.iload_n 1, 1) := by decide +kernel
theorem dX7_ownerOf_23 : decode cX7_ownerOf 23 = .ok (.iaload, 1) := by decide +kernel
theorem dX7_ownerOf_24 : decode cX7_ownerOf 24 = .ok (.ireturn, 1) := by decide +kernel
theorem dX7_isMark_0 : decode cX7_isMark 0 = .ok (.aload_n 0, 1) := by decide +kernel
theorem dX7_isMark_1 : decode cX7_isMark 1 = .ok (.iload_n 1, 1) := by decide +kernel
theorem dX7_isMark_2 : decode cX7_isMark 2 = .ok (.invokevirtual 68, 3) := by decide +kernel
theorem dX7_isMark_5 : decode cX7_isMark 5 = .ok (.ifCond .ne 7, 3) := by decide +kernel
theorem dX7_isMark_8 : decode cX7_isMark 8 = .ok (.iconst 1, 1) := by decide +kernel
theorem dX7_isMark_9 : decode cX7_isMark 9 = .ok (.goto 4, 3) := by decide +kernel
theorem dX7_isMark_12 : decode cX7_isMark 12 = .ok (.iconst 0, 1) := by decide +kernel
theorem dX7_isMark_13 : decode cX7_isMark 13 = .ok (.ireturn, 1) := by decide +kernel
theorem dX7_markAt_0 : decode cX7_markAt 0 = .ok (.iconst 2, 1) := by decide +kernel
theorem dX7_markAt_1 : decode cX7_markAt 1 = .ok (.istore_n 2, 1) := by decide +kernel
theorem dX7_markAt_2 : decode cX7_markAt 2 = .ok (.iload_n 2, 1) := by decide +kernel
theorem dX7_markAt_3 : decode cX7_markAt 3 = .ok (.aload_n 0, 1) := by decide +kernel
theorem dX7_markAt_4 : decode cX7_markAt 4 = .ok (.getfield 18, 3) := by decide +kernel
theorem dX7_markAt_7 : decode cX7_markAt 7 = .ok (.if_icmp .gt 25, 3) := by decide +kernel
theorem dX7_markAt_10 : decode cX7_markAt 10 = .ok (.iload_n 1, 1) := by decide +kernel
theorem dX7_markAt_11 : decode cX7_markAt 11 = .ok (.ifCond .lt 21, 3) := by decide +kernel
theorem dX7_markAt_14 : decode cX7_markAt 14 = .ok (.aload_n 0, 1) := by decide +kernel
theorem dX7_markAt_15 : decode cX7_markAt 15 = .ok (.getfield 15, 3) := by decide +kernel
theorem dX7_markAt_18 : decode cX7_markAt 18 = .ok (.iload_n 2, 1) := by decide +kernel
theorem dX7_markAt_19 : decode cX7_markAt 19 = .ok (.iaload, 1) := by decide +kernel
theorem dX7_markAt_20 : decode cX7_markAt 20 = .ok (.iload_n 1, 1) := by decide +kernel
theorem dX7_markAt_21 : decode cX7_markAt 21 = .ok (.if_icmp .le 5, 3) := by decide +kernel
theorem dX7_markAt_24 : decode cX7_markAt 24 = .ok (.iload_n 2, 1) := by decide +kernel
theorem dX7_markAt_25 : decode cX7_markAt 25 = .ok (.ireturn, 1) := by decide +kernel
theorem dX7_markAt_26 : decode cX7_markAt 26 = .ok (.iinc 2 1, 3) := by decide +kernel
theorem dX7_markAt_29 : decode cX7_markAt 29 = .ok (.goto (-27), 3) := by decide +kernel
theorem dX7_markAt_32 : decode cX7_markAt 32 = .ok (.iconst (-1), 1) := by decide +kernel
theorem dX7_markAt_33 : decode cX7_markAt 33 = .ok (.ireturn, 1) := by decide +kernel
theorem dX7_marksUpTo_0 : decode cX7_marksUpTo 0 = .ok (.iload_n 1, 1) := by decide +kernel
theorem dX7_marksUpTo_1 : decode cX7_marksUpTo 1 = .ok (.iconst 2, 1) := by decide +kernel
theorem dX7_marksUpTo_2 : decode cX7_marksUpTo 2 = .ok (.if_icmp .ge 5, 3) := by decide +kernel
theorem dX7_marksUpTo_5 : decode cX7_marksUpTo 5 = .ok (.iconst 0, 1) := by decide +kernel
theorem dX7_marksUpTo_6 : decode cX7_marksUpTo 6 = .ok (.ireturn, 1) := by decide +kernel
theorem dX7_marksUpTo_7 : decode cX7_marksUpTo 7 = .ok (.iload_n 1, 1) := by decide +kernel
theorem dX7_marksUpTo_8 : decode cX7_marksUpTo 8 = .ok (.aload_n 0, 1) := by decide +kernel
theorem dX7_marksUpTo_9 : decode cX7_marksUpTo 9 = .ok (.getfield 18, 3) := by decide +kernel
theorem dX7_marksUpTo_12 : decode cX7_marksUpTo 12 = .ok (.if_icmp .lt 10, 3) := by decide +kernel
theorem dX7_marksUpTo_15 : decode cX7_marksUpTo 15 = .ok (.aload_n 0, 1) := by decide +kernel
theorem dX7_marksUpTo_16 : decode cX7_marksUpTo 16 = .ok (.getfield 22, 3) := by decide +kernel
theorem dX7_marksUpTo_19 : decode cX7_marksUpTo 19 = .ok (.goto 9, 3) := by decide +kernel
theorem dX7_marksUpTo_22 : decode cX7_marksUpTo 22 = .ok (.aload_n 0, 1) := by decide +kernel
theorem dX7_marksUpTo_23 : decode cX7_marksUpTo 23 = .ok (.getfield 15, 3) := by decide +kernel
theorem dX7_marksUpTo_26 : decode cX7_marksUpTo 26 = .ok (.iload_n 1, 1) := by decide +kernel
theorem dX7_marksUpTo_27 : decode cX7_marksUpTo 27 = .ok (.iaload, 1) := by decide +kernel
theorem dX7_marksUpTo_28 : decode cX7_marksUpTo 28 = .ok (.ireturn, 1) := by decide +kernel
theorem dX7_marksBetween_0 : decode cX7_marksBetween 0 = .ok (.iload_n 1, 1) := by decide +kernel
theorem dX7_marksBetween_1 : decode cX7_marksBetween 1 = .ok (.iconst 2, 1) := by decide +kernel
theorem dX7_marksBetween_2 : decode cX7_marksBetween 2 = .ok (.invokestatic 71, 3) := by decide +kernel
theorem dX7_marksBetween_5 : decode cX7_marksBetween 5 = .ok (.istore_n 3, 1) := by decide +kernel
theorem dX7_marksBetween_6 : decode cX7_marksBetween 6 = .ok (.iload_n 2, 1) := by decide +kernel
theorem dX7_marksBetween_7 : decode cX7_marksBetween 7 = .ok (.iload_n 3, 1) := by decide +kernel
theorem dX7_marksBetween_8 : decode cX7_marksBetween 8 = .ok (.if_icmp .ge 7, 3) := by decide +kernel
theorem dX7_marksBetween_11 : decode cX7_marksBetween 11 = .ok (.iconst 0, 1) := by decide +kernel
theorem dX7_marksBetween_12 : decode cX7_marksBetween 12 = .ok (.goto 16, 3) := by decide +kernel
theorem dX7_marksBetween_15 : decode cX7_marksBetween 15 = .ok (.aload_n 0, 1) := by decide +kernel
theorem dX7_marksBetween_16 : decode cX7_marksBetween 16 = .ok (.iload_n 2, 1) := by decide +kernel
theorem dX7_marksBetween_17 : decode cX7_marksBetween 17 = .ok (.invokevirtual 74, 3) := by decide +kernel
theorem dX7_marksBetween_20 : decode cX7_marksBetween 20 = .ok (.aload_n 0, 1) := by decide +kernel
theorem dX7_marksBetween_21 : decode cX7_marksBetween 21 = .ok (.iload_n 3, 1) := by decide +kernel
theorem dX7_marksBetween_22 : decode cX7_marksBetween 22 = .ok (.iconst 1, 1) := by decide +kernel
theorem dX7_marksBetween_23 : decode cX7_marksBetween 23 = .ok (.isub, 1) := by decide +kernel
theorem dX7_marksBetween_24 : decode cX7_marksBetween 24 = .ok (.invokevirtual 74, 3) := by decide +kernel
theorem dX7_marksBetween_27 : decode cX7_marksBetween 27 = .ok (.isub, 1) := by decide +kernel
theorem dX7_marksBetween_28 : decode cX7_marksBetween 28 = .ok (.ireturn, 1) := by decide +kernel
theorem dX7_markAbove_0 : decode cX7_markAbove 0 = .ok (.iload_n 1, 1) := by decide +kernel
theorem dX7_markAbove_1 : decode cX7_markAbove 1 = .ok (.iconst 1, 1) := by decide +kernel
theorem dX7_markAbove_2 : decode cX7_markAbove 2 = .ok (.invokestatic 71, 3) := by decide +kernel
theorem dX7_markAbove_5 : decode cX7_markAbove 5 = .ok (.istore_n 2, 1) := by decide +kernel
theorem dX7_markAbove_6 : decode cX7_markAbove 6 = .ok (.iload_n 2, 1) := by decide +kernel
theorem dX7_markAbove_7 : decode cX7_markAbove 7 = .ok (.aload_n 0, 1) := by decide +kernel
theorem dX7_markAbove_8 : decode cX7_markAbove 8 = .ok (.getfield 18, 3) := by decide +kernel
theorem dX7_markAbove_11 : decode cX7_markAbove 11 = .ok (.if_icmp .ge 24, 3) := by decide +kernel
theorem dX7_markAbove_14 : decode cX7_markAbove 14 = .ok (.aload_n 0, 1) := by decide +kernel
theorem dX7_markAbove_15 : decode cX7_markAbove 15 = .ok (.getfield 9, 3) := by decide +kernel
theorem dX7_markAbove_18 : decode cX7_markAbove 18 = .ok (.iload_n 2, 1) := by decide +kernel
theorem dX7_markAbove_19 : decode cX7_markAbove 19 = .ok (.iconst 1, 1) := by decide +kernel
theorem dX7_markAbove_20 : decode cX7_markAbove 20 = .ok (.iadd, 1) := by decide +kernel
theorem dX7_markAbove_21 : decode cX7_markAbove 21 = .ok (.iaload, 1) := by decide +kernel
theorem dX7_markAbove_22 : decode cX7_markAbove 22 = .ok (.ifCond .ne 7, 3) := by decide +kernel
theorem dX7_markAbove_25 : decode cX7_markAbove 25 = .ok (.iload_n 2, 1) := by decide +kernel
theorem dX7_markAbove_26 : decode cX7_markAbove 26 = .ok (.iconst 1, 1) := by decide +kernel
theorem dX7_markAbove_27 : decode cX7_markAbove 27 = .ok (.iadd, 1) := by decide +kernel
theorem dX7_markAbove_28 : decode cX7_markAbove 28 = .ok (.ireturn, 1) := by decide +kernel
theorem dX7_markAbove_29 : decode cX7_markAbove 29 = .ok (.iinc 2 1, 3) := by decide +kernel
theorem dX7_markAbove_32 : decode cX7_markAbove 32 = .ok (.goto (-26), 3) := by decide +kernel
theorem dX7_markAbove_35 : decode cX7_markAbove 35 = .ok (.iconst (-1), 1) := by decide +kernel
theorem dX7_markAbove_36 : decode cX7_markAbove 36 = .ok (.ireturn, 1) := by decide +kernel
theorem dX7_markBelow_0 : decode cX7_markBelow 0 = .ok (.iload_n 1, 1) := by decide +kernel
theorem dX7_markBelow_1 : decode cX7_markBelow 1 = .ok (.aload_n 0, 1) := by decide +kernel
theorem dX7_markBelow_2 : decode cX7_markBelow 2 = .ok (.getfield 18, 3) := by decide +kernel
theorem dX7_markBelow_5 : decode cX7_markBelow 5 = .ok (.iconst 1, 1) := by decide +kernel
theorem dX7_markBelow_6 : decode cX7_markBelow 6 = .ok (.iadd, 1) := by decide +kernel
theorem dX7_markBelow_7 : decode cX7_markBelow 7 = .ok (.invokestatic 40, 3) := by decide +kernel
theorem dX7_markBelow_10 : decode cX7_markBelow 10 = .ok (.istore_n 2, 1) := by decide +kernel
theorem dX7_markBelow_11 : decode cX7_markBelow 11 = .ok (.iload_n 2, 1) := by decide +kernel
theorem dX7_markBelow_12 : decode cX7_markBelow 12 = .ok (.iconst 2, 1) := by decide +kernel
theorem dX7_markBelow_13 : decode cX7_markBelow 13 = .ok (.if_icmp .le 24, 3) := by decide +kernel
theorem dX7_markBelow_16 : decode cX7_markBelow 16 = .ok (.aload_n 0, 1) := by decide +kernel
theorem dX7_markBelow_17 : decode cX7_markBelow 17 = .ok (.getfield 9, 3) := by decide +kernel
theorem dX7_markBelow_20 : decode cX7_markBelow 20 = .ok (.iload_n 2, 1) := by decide +kernel
theorem dX7_markBelow_21 : decode cX7_markBelow 21 = .ok (.iconst 1, 1) := by decide +kernel
theorem dX7_markBelow_22 : decode cX7_markBelow 22 = .ok (.isub, 1) := by decide +kernel
theorem dX7_markBelow_23 : decode cX7_markBelow 23 = .ok (.iaload, 1) := by decide +kernel
theorem dX7_markBelow_24 : decode cX7_markBelow 24 = .ok (.ifCond .ne 7, 3) := by decide +kernel
theorem dX7_markBelow_27 : decode cX7_markBelow 27 = .ok (.iload_n 2, 1) := by decide +kernel
theorem dX7_markBelow_28 : decode cX7_markBelow 28 = .ok (.iconst 1, 1) := by decide +kernel
theorem dX7_markBelow_29 : decode cX7_markBelow 29 = .ok (.isub, 1) := by decide +kernel
theorem dX7_markBelow_30 : decode cX7_markBelow 30 = .ok (.ireturn, 1) := by decide +kernel
theorem dX7_markBelow_31 : decode cX7_markBelow 31 = .ok (.iinc 2 (-1), 3) := by decide +kernel
theorem dX7_markBelow_34 : decode cX7_markBelow 34 = .ok (.goto (-23), 3) := by decide +kernel
theorem dX7_markBelow_37 : decode cX7_markBelow 37 = .ok (.iconst (-1), 1) := by decide +kernel
theorem dX7_markBelow_38 : decode cX7_markBelow 38 = .ok (.ireturn, 1) := by decide +kernel
theorem dX7_spokesBetween_0 : decode cX7_spokesBetween 0 = .ok (.iconst 0, 1) := by decide +kernel
theorem dX7_spokesBetween_1 : decode cX7_spokesBetween 1 = .ok (.istore_n 3, 1) := by decide +kernel
theorem dX7_spokesBetween_2 : decode cX7_spokesBetween 2 = .ok (.iload_n 2, 1) := by decide +kernel
theorem dX7_spokesBetween_3 : decode cX7_spokesBetween 3 = .ok (.aload_n 0, 1) := by decide +kernel
theorem dX7_spokesBetween_4 : decode cX7_spokesBetween 4 = .ok (.getfield 18, 3) := by decide +kernel
theorem dX7_spokesBetween_7 : decode cX7_spokesBetween 7 = .ok (.invokestatic 40, 3) := by decide +kernel
theorem dX7_spokesBetween_10 : decode cX7_spokesBetween 10 = .ok (.istore 4, 2) := by decide +kernel
theorem dX7_spokesBetween_12 : decode cX7_spokesBetween 12 = .ok (.iload_n 1, 1) := by decide +kernel
theorem dX7_spokesBetween_13 : decode cX7_spokesBetween 13 = .ok (.iconst 2, 1) := by decide +kernel
theorem dX7_spokesBetween_14 : decode cX7_spokesBetween 14 = .ok (.invokestatic 71, 3) := by decide +kernel
theorem dX7_spokesBetween_17 : decode cX7_spokesBetween 17 = .ok (.istore 5, 2) := by decide +kernel
theorem dX7_spokesBetween_19 : decode cX7_spokesBetween 19 = .ok (.iload 5, 2) := by decide +kernel
theorem dX7_spokesBetween_21 : decode cX7_spokesBetween 21 = .ok (.iload 4, 2) := by decide +kernel
theorem dX7_spokesBetween_23 : decode cX7_spokesBetween 23 = .ok (.if_icmp .gt 23, 3) := by decide +kernel
theorem dX7_spokesBetween_26 : decode cX7_spokesBetween 26 = .ok (.aload_n 0, 1) := by decide +kernel
theorem dX7_spokesBetween_27 : decode cX7_spokesBetween 27 = .ok (.getfield 9, 3) := by decide +kernel
theorem dX7_spokesBetween_30 : decode cX7_spokesBetween 30 = .ok (.iload 5, 2) := by decide +kernel
theorem dX7_spokesBetween_32 : decode cX7_spokesBetween 32 = .ok (.iaload, 1) := by decide +kernel
theorem dX7_spokesBetween_33 : decode cX7_spokesBetween 33 = .ok (.iconst (-1), 1) := by decide +kernel
theorem dX7_spokesBetween_34 : decode cX7_spokesBetween 34 = .ok (.if_icmp .eq 6, 3) := by decide +kernel
theorem dX7_spokesBetween_37 : decode cX7_spokesBetween 37 = .ok (.iinc 3 1, 3) := by decide +kernel
theorem dX7_spokesBetween_40 : decode cX7_spokesBetween 40 = .ok (.iinc 5 1, 3) := by decide +kernel
theorem dX7_spokesBetween_43 : decode cX7_spokesBetween 43 = .ok (.goto (-24), 3) := by decide +kernel
theorem dX7_spokesBetween_46 : decode cX7_spokesBetween 46 = .ok (.iload_n 3, 1) := by decide +kernel
theorem dX7_spokesBetween_47 : decode cX7_spokesBetween 47 = .ok (.ireturn, 1) := by decide +kernel
theorem dX7_countStrikes_0 : decode cX7_countStrikes 0 = .ok (.iconst 0, 1) := by decide +kernel
theorem dX7_countStrikes_1 : decode cX7_countStrikes 1 = .ok (.istore_n 2, 1) := by decide +kernel
theorem dX7_countStrikes_2 : decode cX7_countStrikes 2 = .ok (.iload_n 1, 1) := by decide +kernel
theorem dX7_countStrikes_3 : decode cX7_countStrikes 3 = .ok (.iload_n 1, 1) := by decide +kernel
theorem dX7_countStrikes_4 : decode cX7_countStrikes 4 = .ok (.imul, 1) := by decide +kernel
theorem dX7_countStrikes_5 : decode cX7_countStrikes 5 = .ok (.istore_n 3, 1) := by decide +kernel
theorem dX7_countStrikes_6 : decode cX7_countStrikes 6 = .ok (.iload_n 1, 1) := by decide +kernel
theorem dX7_countStrikes_7 : decode cX7_countStrikes 7 = .ok (.iconst 2, 1) := by decide +kernel
theorem dX7_countStrikes_8 : decode cX7_countStrikes 8 = .ok (.if_icmp .lt 31, 3) := by decide +kernel
theorem dX7_countStrikes_11 : decode cX7_countStrikes 11 = .ok (.iload_n 3, 1) := by decide +kernel
theorem dX7_countStrikes_12 : decode cX7_countStrikes 12 = .ok (.aload_n 0, 1) := by decide +kernel
theorem dX7_countStrikes_13 : decode cX7_countStrikes 13 = .ok (.getfield 18, 3) := by decide +kernel
theorem dX7_countStrikes_16 : decode cX7_countStrikes 16 = .ok (.if_icmp .gt 23, 3) := by decide +kernel
theorem dX7_countStrikes_19 : decode cX7_countStrikes 19 = .ok (.aload_n 0, 1) := by decide +kernel
theorem dX7_countStrikes_20 : decode cX7_countStrikes 20 = .ok (.getfield 9, 3) := by decide +kernel
theorem dX7_countStrikes_23 : decode cX7_countStrikes 23 = .ok (.iload_n 3, 1) := by decide +kernel
theorem dX7_countStrikes_24 : decode cX7_countStrikes 24 = .ok (.iaload, 1) := by decide +kernel
theorem dX7_countStrikes_25 : decode cX7_countStrikes 25 = .ok (.iconst (-1), 1) := by decide +kernel
theorem dX7_countStrikes_26 : decode cX7_countStrikes 26 = .ok (.if_icmp .eq 6, 3) := by decide +kernel
theorem dX7_countStrikes_29 : decode cX7_countStrikes 29 = .ok (.iinc 2 1, 3) := by decide +kernel
theorem dX7_countStrikes_32 : decode cX7_countStrikes 32 = .ok (.iload_n 3, 1) := by decide +kernel
theorem dX7_countStrikes_33 : decode cX7_countStrikes 33 = .ok (.iload_n 1, 1) := by decide +kernel
theorem dX7_countStrikes_34 : decode cX7_countStrikes 34 = .ok (.iadd, 1) := by decide +kernel
theorem dX7_countStrikes_35 : decode cX7_countStrikes 35 = .ok (.istore_n 3, 1) := by decide +kernel
theorem dX7_countStrikes_36 : decode cX7_countStrikes 36 = .ok (.goto (-30), 3) := by decide +kernel
theorem dX7_countStrikes_39 : decode cX7_countStrikes 39 = .ok (.iload_n 2, 1) := by decide +kernel
theorem dX7_countStrikes_40 : decode cX7_countStrikes 40 = .ok (.ireturn, 1) := by decide +kernel
theorem dX7_countOwned_0 : decode cX7_countOwned 0 = .ok (.aload_n 0, 1) := by decide +kernel
theorem dX7_countOwned_1 : decode cX7_countOwned 1 = .ok (.iload_n 1, 1) := by decide +kernel
theorem dX7_countOwned_2 : decode cX7_countOwned 2 = .ok (.iload_n 1, 1) := by decide +kernel
theorem dX7_countOwned_3 : decode cX7_countOwned 3 = .ok (.invokevirtual 77, 3) := by decide +kernel
theorem dX7_countOwned_6 : decode cX7_countOwned 6 = .ok (.ireturn, 1) := by decide +kernel
theorem dX7_countTaken_0 : decode cX7_countTaken 0 = .ok (.aload_n 0, 1) := by decide +kernel
theorem dX7_countTaken_1 : decode cX7_countTaken 1 = .ok (.iload_n 1, 1) := by decide +kernel
theorem dX7_countTaken_2 : decode cX7_countTaken 2 = .ok (.iconst 0, 1) := by decide +kernel
theorem dX7_countTaken_3 : decode cX7_countTaken 3 = .ok (.invokevirtual 77, 3) := by decide +kernel
theorem dX7_countTaken_6 : decode cX7_countTaken 6 = .ok (.ireturn, 1) := by decide +kernel
theorem dX7_countWithOwner_0 : decode cX7_countWithOwner 0 = .ok (.iconst 0, 1) := by decide +kernel
theorem dX7_countWithOwner_1 : decode cX7_countWithOwner 1 = .ok (.istore_n 3, 1) := by decide +kernel
theorem dX7_countWithOwner_2 : decode cX7_countWithOwner 2 = .ok (.iload_n 1, 1) := by decide +kernel
theorem dX7_countWithOwner_3 : decode cX7_countWithOwner 3 = .ok (.iload_n 1, 1) := by decide +kernel
theorem dX7_countWithOwner_4 : decode cX7_countWithOwner 4 = .ok (.imul, 1) := by decide +kernel
theorem dX7_countWithOwner_5 : decode cX7_countWithOwner 5 = .ok (.istore 4, 2) := by decide +kernel
theorem dX7_countWithOwner_7 : decode cX7_countWithOwner 7 = .ok (.iload_n 1, 1) := by decide +kernel
theorem dX7_countWithOwner_8 : decode cX7_countWithOwner 8 = .ok (.iconst 2, 1) := by decide +kernel
theorem dX7_countWithOwner_9 : decode cX7_countWithOwner 9 = .ok (.if_icmp .lt 35, 3) := by decide +kernel
theorem dX7_countWithOwner_12 : decode cX7_countWithOwner 12 = .ok (.iload 4, 2) := by decide +kernel
theorem dX7_countWithOwner_14 : decode cX7_countWithOwner 14 = .ok (.aload_n 0, 1) := by decide +kernel
theorem dX7_countWithOwner_15 : decode cX7_countWithOwner 15 = .ok (.getfield 18, 3) := by decide +kernel
theorem dX7_countWithOwner_18 : decode cX7_countWithOwner 18 = .ok (.if_icmp .gt 26, 3) := by decide +kernel
theorem dX7_countWithOwner_21 : decode cX7_countWithOwner 21 = .ok (.aload_n 0, 1) := by decide +kernel
theorem dX7_countWithOwner_22 : decode cX7_countWithOwner 22 = .ok (.getfield 9, 3) := by decide +kernel
theorem dX7_countWithOwner_25 : decode cX7_countWithOwner 25 = .ok (.iload 4, 2) := by decide +kernel
theorem dX7_countWithOwner_27 : decode cX7_countWithOwner 27 = .ok (.iaload, 1) := by decide +kernel
theorem dX7_countWithOwner_28 : decode cX7_countWithOwner 28 = .ok (.iload_n 2, 1) := by decide +kernel
theorem dX7_countWithOwner_29 : decode cX7_countWithOwner 29 = .ok (.if_icmp .ne 6, 3) := by decide +kernel
theorem dX7_countWithOwner_32 : decode cX7_countWithOwner 32 = .ok (.iinc 3 1, 3) := by decide +kernel
theorem dX7_countWithOwner_35 : decode cX7_countWithOwner 35 = .ok (.iload 4, 2) := by decide +kernel
theorem dX7_countWithOwner_37 : decode cX7_countWithOwner 37 = .ok (.iload_n 1, 1) := by decide +kernel
theorem dX7_countWithOwner_38 : decode cX7_countWithOwner 38 = .ok (.iadd, 1) := by decide +kernel
theorem dX7_countWithOwner_39 : decode cX7_countWithOwner 39 = .ok (.istore 4, 2) := by decide +kernel
theorem dX7_countWithOwner_41 : decode cX7_countWithOwner 41 = .ok (.goto (-34), 3) := by decide +kernel
theorem dX7_countWithOwner_44 : decode cX7_countWithOwner 44 = .ok (.iload_n 3, 1) := by decide +kernel
theorem dX7_countWithOwner_45 : decode cX7_countWithOwner 45 = .ok (.ireturn, 1) := by decide +kernel
theorem dX7_smallestOwned_0 : decode cX7_smallestOwned 0 = .ok (.iload_n 1, 1) := by decide +kernel
theorem dX7_smallestOwned_1 : decode cX7_smallestOwned 1 = .ok (.iload_n 1, 1) := by decide +kernel
theorem dX7_smallestOwned_2 : decode cX7_smallestOwned 2 = .ok (.imul, 1) := by decide +kernel
theorem dX7_smallestOwned_3 : decode cX7_smallestOwned 3 = .ok (.istore_n 2, 1) := by decide +kernel
theorem dX7_smallestOwned_4 : decode cX7_smallestOwned 4 = .ok (.iload_n 1, 1) := by decide +kernel
theorem dX7_smallestOwned_5 : decode cX7_smallestOwned 5 = .ok (.iconst 2, 1) := by decide +kernel
theorem dX7_smallestOwned_6 : decode cX7_smallestOwned 6 = .ok (.if_icmp .lt 30, 3) := by decide +kernel
theorem dX7_smallestOwned_9 : decode cX7_smallestOwned 9 = .ok (.iload_n 2, 1) := by decide +kernel
theorem dX7_smallestOwned_10 : decode cX7_smallestOwned 10 = .ok (.aload_n 0, 1) := by decide +kernel
theorem dX7_smallestOwned_11 : decode cX7_smallestOwned 11 = .ok (.getfield 18, 3) := by decide +kernel
theorem dX7_smallestOwned_14 : decode cX7_smallestOwned 14 = .ok (.if_icmp .gt 22, 3) := by decide +kernel
theorem dX7_smallestOwned_17 : decode cX7_smallestOwned 17 = .ok (.aload_n 0, 1) := by decide +kernel
theorem dX7_smallestOwned_18 : decode cX7_smallestOwned 18 = .ok (.getfield 9, 3) := by decide +kernel
theorem dX7_smallestOwned_21 : decode cX7_smallestOwned 21 = .ok (.iload_n 2, 1) := by decide +kernel
theorem dX7_smallestOwned_22 : decode cX7_smallestOwned 22 = .ok (.iaload, 1) := by decide +kernel
theorem dX7_smallestOwned_23 : decode cX7_smallestOwned 23 = .ok (.iload_n 1, 1) := by decide +kernel
theorem dX7_smallestOwned_24 : decode cX7_smallestOwned 24 = .ok (.if_icmp .ne 5, 3) := by decide +kernel
theorem dX7_smallestOwned_27 : decode cX7_smallestOwned 27 = .ok (.iload_n 2, 1) := by decide +kernel
theorem dX7_smallestOwned_28 : decode cX7_smallestOwned 28 = .ok (.ireturn, 1) := by decide +kernel
theorem dX7_smallestOwned_29 : decode cX7_smallestOwned 29 = .ok (.iload_n 2, 1) := by decide +kernel
theorem dX7_smallestOwned_30 : decode cX7_smallestOwned 30 = .ok (.iload_n 1, 1) := by decide +kernel
theorem dX7_smallestOwned_31 : decode cX7_smallestOwned 31 = .ok (.iadd, 1) := by decide +kernel
theorem dX7_smallestOwned_32 : decode cX7_smallestOwned 32 = .ok (.istore_n 2, 1) := by decide +kernel
theorem dX7_smallestOwned_33 : decode cX7_smallestOwned 33 = .ok (.goto (-29), 3) := by decide +kernel
theorem dX7_smallestOwned_36 : decode cX7_smallestOwned 36 = .ok (.iconst (-1), 1) := by decide +kernel
theorem dX7_smallestOwned_37 : decode cX7_smallestOwned 37 = .ok (.ireturn, 1) := by decide +kernel
theorem dX8_init_0 : decode cX8_init 0 = .ok (.aload_n 0, 1) := by decide +kernel
theorem dX8_init_1 : decode cX8_init 1 = .ok (.invokespecial 3, 3) := by decide +kernel
theorem dX8_init_4 : decode cX8_init 4 = .ok (.aload_n 0, 1) := by decide +kernel
theorem dX8_init_5 : decode cX8_init 5 = .ok (.sipush 600, 3) := by decide +kernel
theorem dX8_init_8 : decode cX8_init 8 = .ok (.newarray .byte, 2) := by decide +kernel
theorem dX8_init_10 : decode cX8_init 10 = .ok (.putfield 9, 3) := by decide +kernel
theorem dX8_init_13 : decode cX8_init 13 = .ok (.aload_n 0, 1) := by decide +kernel
theorem dX8_init_14 : decode cX8_init 14 = .ok (.iconst 0, 1) := by decide +kernel
theorem dX8_init_15 : decode cX8_init 15 = .ok (.putfield 15, 3) := by decide +kernel
theorem dX8_init_18 : decode cX8_init 18 = .ok (.aload_n 0, 1) := by decide +kernel
theorem dX8_init_19 : decode cX8_init 19 = .ok (.iconst 0, 1) := by decide +kernel
theorem dX8_init_20 : decode cX8_init 20 = .ok (.putfield 19, 3) := by decide +kernel
theorem dX8_init_23 : decode cX8_init 23 = .ok (.aload_n 0, 1) := by decide +kernel
theorem dX8_init_24 : decode cX8_init 24 = .ok (.iconst 0, 1) := by decide +kernel
theorem dX8_init_25 : decode cX8_init 25 = .ok (.putfield 22, 3) := by decide +kernel
theorem dX8_init_28 : decode cX8_init 28 = .ok (.aload_n 0, 1) := by decide +kernel
theorem dX8_init_29 : decode cX8_init 29 = .ok (.iconst 0, 1) := by decide +kernel
theorem dX8_init_30 : decode cX8_init 30 = .ok (.putfield 25, 3) := by decide +kernel
theorem dX8_init_33 : decode cX8_init 33 = .ok (.aload_n 0, 1) := by decide +kernel
theorem dX8_init_34 : decode cX8_init 34 = .ok (.iconst 0, 1) := by decide +kernel
theorem dX8_init_35 : decode cX8_init 35 = .ok (.putfield 28, 3) := by decide +kernel
theorem dX8_init_38 : decode cX8_init 38 = .ok (.aload_n 0, 1) := by decide +kernel
theorem dX8_init_39 : decode cX8_init 39 = .ok (.iconst 0, 1) := by decide +kernel
theorem dX8_init_40 : decode cX8_init 40 = .ok (.putfield 31, 3) := by decide +kernel
theorem dX8_init_43 : decode cX8_init 43 = .ok (.return_, 1) := by decide +kernel
theorem dX8_filled_0 : decode cX8_filled 0 = .ok (.aload_n 0, 1) := by decide +kernel
theorem dX8_filled_1 : decode cX8_filled 1 = .ok (.getfield 15, 3) := by decide +kernel
theorem dX8_filled_4 : decode cX8_filled 4 = .ok (.ireturn, 1) := by decide +kernel
theorem dX8_empty_0 : decode cX8_empty 0 = .ok (.aload_n 0, 1) := by decide +kernel
theorem dX8_empty_1 : decode cX8_empty 1 = .ok (.iconst 0, 1) := by decide +kernel
theorem dX8_empty_2 : decode cX8_empty 2 = .ok (.putfield 15, 3) := by decide +kernel
theorem dX8_empty_5 : decode cX8_empty 5 = .ok (.return_, 1) := by decide +kernel
theorem dX8_appendFour_0 : decode cX8_appendFour 0 = .ok (.bipush 24, 2) := by decide +kernel
theorem dX8_appendFour_2 : decode cX8_appendFour 2 = .ok (.istore_n 2, 1) := by decide +kernel
theorem dX8_appendFour_3 : decode cX8_appendFour 3 = .ok (.iload_n 2, 1) := by decide +kernel
theorem dX8_appendFour_4 : decode cX8_appendFour 4 = .ok (.ifCond .lt 44, 3) := by decide +kernel
theorem dX8_appendFour_7 : decode cX8_appendFour 7 = .ok (.aload_n 0, 1) := by decide +kernel
theorem dX8_appendFour_8 : decode cX8_appendFour 8 = .ok (.getfield 15, 3) := by decide +kernel
theorem dX8_appendFour_11 : decode cX8_appendFour 11 = .ok (.aload_n 0, 1) := by decide +kernel
theorem dX8_appendFour_12 : decode cX8_appendFour 12 = .ok (.getfield 9, 3) := by decide +kernel
theorem dX8_appendFour_15 : decode cX8_appendFour 15 = .ok (.arraylength, 1) := by decide +kernel
theorem dX8_appendFour_16 : decode cX8_appendFour 16 = .ok (.if_icmp .ge 26, 3) := by decide +kernel
theorem dX8_appendFour_19 : decode cX8_appendFour 19 = .ok (.aload_n 0, 1) := by decide +kernel
theorem dX8_appendFour_20 : decode cX8_appendFour 20 = .ok (.getfield 9, 3) := by decide +kernel
theorem dX8_appendFour_23 : decode cX8_appendFour 23 = .ok (.aload_n 0, 1) := by decide +kernel
theorem dX8_appendFour_24 : decode cX8_appendFour 24 = .ok (.getfield 15, 3) := by decide +kernel
theorem dX8_appendFour_27 : decode cX8_appendFour 27 = .ok (.iload_n 1, 1) := by decide +kernel
theorem dX8_appendFour_28 : decode cX8_appendFour 28 = .ok (.iload_n 2, 1) := by decide +kernel
theorem dX8_appendFour_29 : decode cX8_appendFour 29 = .ok (.iushr, 1) := by decide +kernel
theorem dX8_appendFour_30 : decode cX8_appendFour 30 = .ok (.i2b, 1) := by decide +kernel
theorem dX8_appendFour_31 : decode cX8_appendFour 31 = .ok (.bastore, 1) := by decide +kernel
theorem dX8_appendFour_32 : decode cX8_appendFour 32 = .ok (.aload_n 0, 1) := by decide +kernel
theorem dX8_appendFour_33 : decode cX8_appendFour 33 = .ok (.dup, 1) := by decide +kernel
theorem dX8_appendFour_34 : decode cX8_appendFour 34 = .ok (.getfield 15, 3) := by decide +kernel
theorem dX8_appendFour_37 : decode cX8_appendFour 37 = .ok (.iconst 1, 1) := by decide +kernel
theorem dX8_appendFour_38 : decode cX8_appendFour 38 = .ok (.iadd, 1) := by decide +kernel
theorem dX8_appendFour_39 : decode cX8_appendFour 39 = .ok (.putfield 15, 3) := by decide +kernel
theorem dX8_appendFour_42 : decode cX8_appendFour 42 = .ok (.iinc 2 (-8), 3) := by decide +kernel
theorem dX8_appendFour_45 : decode cX8_appendFour 45 = .ok (.goto (-42), 3) := by decide +kernel
theorem dX8_appendFour_48 : decode cX8_appendFour 48 = .ok (.return_, 1) := by decide +kernel
theorem dX8_open_0 : decode cX8_open 0 = .ok (.aload_n 0, 1) := by decide +kernel
theorem dX8_open_1 : decode cX8_open 1 = .ok (.iload_n 1, 1) := by decide +kernel
theorem dX8_open_2 : decode cX8_open 2 = .ok (.aload_n 0, 1) := by decide +kernel
theorem dX8_open_3 : decode cX8_open 3 = .ok (.getfield 15, 3) := by decide +kernel
theorem dX8_open_6 : decode cX8_open 6 = .ok (.invokestatic 34, 3) := by decide +kernel
theorem dX8_open_9 : decode cX8_open 9 = .ok (.putfield 19, 3) := by decide +kernel
theorem dX8_open_12 : decode cX8_open 12 = .ok (.aload_n 0, 1) := by decide +kernel
theorem dX8_open_13 : decode cX8_open 13 = .ok (.iconst 0, 1) := by decide +kernel
theorem dX8_open_14 : decode cX8_open 14 = .ok (.putfield 22, 3) := by decide +kernel
theorem dX8_open_17 : decode cX8_open 17 = .ok (.aload_n 0, 1) := by decide +kernel
theorem dX8_open_18 : decode cX8_open 18 = .ok (.invokevirtual 40, 3) := by decide +kernel
theorem dX8_open_21 : decode cX8_open 21 = .ok (.return_, 1) := by decide +kernel
theorem dX8_advance_0 : decode cX8_advance 0 = .ok (.aload_n 0, 1) := by decide +kernel
theorem dX8_advance_1 : decode cX8_advance 1 = .ok (.getfield 22, 3) := by decide +kernel
theorem dX8_advance_4 : decode cX8_advance 4 = .ok (.aload_n 0, 1) := by decide +kernel
theorem dX8_advance_5 : decode cX8_advance 5 = .ok (.getfield 19, 3) := by decide +kernel
theorem dX8_advance_8 : decode cX8_advance 8 = .ok (.if_icmp .ge 30, 3) := by decide +kernel
theorem dX8_advance_11 : decode cX8_advance 11 = .ok (.aload_n 0, 1) := by decide +kernel
theorem dX8_advance_12 : decode cX8_advance 12 = .ok (.aload_n 0, 1) := by decide +kernel
theorem dX8_advance_13 : decode cX8_advance 13 = .ok (.getfield 22, 3) := by decide +kernel
theorem dX8_advance_16 : decode cX8_advance 16 = .ok (.invokevirtual 43, 3) := by decide +kernel
theorem dX8_advance_19 : decode cX8_advance 19 = .ok (.invokestatic 47, 3) := by decide +kernel
theorem dX8_advance_22 : decode cX8_advance 22 = .ok (.ifCond .eq 16, 3) := by decide +kernel
theorem dX8_advance_25 : decode cX8_advance 25 = .ok (.aload_n 0, 1) := by decide +kernel
theorem dX8_advance_26 : decode cX8_advance 26 = .ok (.dup, 1) := by decide +kernel
theorem dX8_advance_27 : decode cX8_advance 27 = .ok (.getfield 22, 3) := by decide +kernel
theorem dX8_advance_30 : decode cX8_advance 30 = .ok (.iconst 1, 1) := by decide +kernel
theorem dX8_advance_31 : decode cX8_advance 31 = .ok (.iadd, 1) := by decide +kernel
theorem dX8_advance_32 : decode cX8_advance 32 = .ok (.putfield 22, 3) := by decide +kernel
theorem dX8_advance_35 : decode cX8_advance 35 = .ok (.goto (-35), 3) := by decide +kernel
theorem dX8_advance_38 : decode cX8_advance 38 = .ok (.aload_n 0, 1) := by decide +kernel
theorem dX8_advance_39 : decode cX8_advance 39 = .ok (.aload_n 0, 1) := by decide +kernel
theorem dX8_advance_40 : decode cX8_advance 40 = .ok (.getfield 22, 3) := by decide +kernel
theorem dX8_advance_43 : decode cX8_advance 43 = .ok (.putfield 28, 3) := by decide +kernel
theorem dX8_advance_46 : decode cX8_advance 46 = .ok (.aload_n 0, 1) := by decide +kernel
theorem dX8_advance_47 : decode cX8_advance 47 = .ok (.iconst 0, 1) := by decide +kernel
theorem dX8_advance_48 : decode cX8_advance 48 = .ok (.putfield 31, 3) := by decide +kernel
theorem dX8_advance_51 : decode cX8_advance 51 = .ok (.aload_n 0, 1) := by decide +kernel
theorem dX8_advance_52 : decode cX8_advance 52 = .ok (.getfield 22, 3) := by decide +kernel
theorem dX8_advance_55 : decode cX8_advance 55 = .ok (.aload_n 0, 1) := by decide +kernel
theorem dX8_advance_56 : decode cX8_advance 56 = .ok (.getfield 19, 3) := by decide +kernel
theorem dX8_advance_59 : decode cX8_advance 59 = .ok (.if_icmp .lt 11, 3) := by decide +kernel
theorem dX8_advance_62 : decode cX8_advance 62 = .ok (.aload_n 0, 1) := by decide +kernel
theorem dX8_advance_63 : decode cX8_advance 63 = .ok (.iconst 0, 1) := by decide +kernel
theorem dX8_advance_64 : decode cX8_advance 64 = .ok (.putfield 25, 3) := by decide +kernel
theorem dX8_advance_67 : decode cX8_advance 67 = .ok (.goto 87, 3) := by decide +kernel
theorem dX8_advance_70 : decode cX8_advance 70 = .ok (.aload_n 0, 1) := by decide +kernel
theorem dX8_advance_71 : decode cX8_advance 71 = .ok (.aload_n 0, 1) := by decide +kernel
theorem dX8_advance_72 : decode cX8_advance 72 = .ok (.getfield 22, 3) := by decide +kernel
theorem dX8_advance_75 : decode cX8_advance 75 = .ok (.invokevirtual 43, 3) := by decide +kernel
theorem dX8_advance_78 : decode cX8_advance 78 = .ok (.invokestatic 51, 3) := by decide +kernel
theorem dX8_advance_81 : decode cX8_advance 81 = .ok (.ifCond .eq 15, 3) := by decide +kernel
theorem dX8_advance_84 : decode cX8_advance 84 = .ok (.aload_n 0, 1) := by decide +kernel
theorem dX8_advance_85 : decode cX8_advance 85 = .ok (.iconst 1, 1) := by decide +kernel
theorem dX8_advance_86 : decode cX8_advance 86 = .ok (.putfield 25, 3) := by decide +kernel
theorem dX8_advance_89 : decode cX8_advance 89 = .ok (.aload_n 0, 1) := by decide +kernel
theorem dX8_advance_90 : decode cX8_advance 90 = .ok (.invokevirtual 54, 3) := by decide +kernel
theorem dX8_advance_93 : decode cX8_advance 93 = .ok (.goto 61, 3) := by decide +kernel
theorem dX8_advance_96 : decode cX8_advance 96 = .ok (.aload_n 0, 1) := by decide +kernel
theorem dX8_advance_97 : decode cX8_advance 97 = .ok (.aload_n 0, 1) := by decide +kernel
theorem dX8_advance_98 : decode cX8_advance 98 = .ok (.getfield 22, 3) := by decide +kernel
theorem dX8_advance_101 : decode cX8_advance 101 = .ok (.invokevirtual 43, 3) := by decide +kernel
theorem dX8_advance_104 : decode cX8_advance 104 = .ok (.invokestatic 57, 3) := by decide +kernel
theorem dX8_advance_107 : decode cX8_advance 107 = .ok (.ifCond .eq 15, 3) := by decide +kernel
theorem dX8_advance_110 : decode cX8_advance 110 = .ok (.aload_n 0, 1) := by decide +kernel
theorem dX8_advance_111 : decode cX8_advance 111 = .ok (.iconst 2, 1) := by decide +kernel
theorem dX8_advance_112 : decode cX8_advance 112 = .ok (.putfield 25, 3) := by decide +kernel
theorem dX8_advance_115 : decode cX8_advance 115 = .ok (.aload_n 0, 1) := by decide +kernel
theorem dX8_advance_116 : decode cX8_advance 116 = .ok (.invokevirtual 60, 3) := by decide +kernel
theorem dX8_advance_119 : decode cX8_advance 119 = .ok (.goto 35, 3) := by decide +kernel
theorem dX8_advance_122 : decode cX8_advance 122 = .ok (.aload_n 0, 1) := by decide +kernel
theorem dX8_advance_123 : decode cX8_advance 123 = .ok (.aload_n 0, 1) := by decide +kernel
theorem dX8_advance_124 : decode cX8_advance 124 = .ok (.aload_n 0, 1) := by decide +kernel
theorem dX8_advance_125 : decode cX8_advance 125 = .ok (.getfield 22, 3) := by decide +kernel
theorem dX8_advance_128 : decode cX8_advance 128 = .ok (.invokevirtual 43, 3) := by decide +kernel
theorem dX8_advance_131 : decode cX8_advance 131 = .ok (.bipush 59, 2) := by decide +kernel
theorem dX8_advance_133 : decode cX8_advance 133 = .ok (.if_icmp .ne 7, 3) := by decide +kernel
theorem dX8_advance_136 : decode cX8_advance 136 = .ok (.iconst 3, 1) := by decide +kernel
theorem dX8_advance_137 : decode cX8_advance 137 = .ok (.goto 4, 3) := by decide +kernel
theorem dX8_advance_140 : decode cX8_advance 140 = .ok (.iconst 4, 1) := by decide +kernel
theorem dX8_advance_141 : decode cX8_advance 141 = .ok (.putfield 25, 3) := by decide +kernel
theorem dX8_advance_144 : decode cX8_advance 144 = .ok (.aload_n 0, 1) := by decide +kernel
theorem dX8_advance_145 : decode cX8_advance 145 = .ok (.dup, 1) := by decide +kernel
theorem dX8_advance_146 : decode cX8_advance 146 = .ok (.getfield 22, 3) := by decide +kernel
theorem dX8_advance_149 : decode cX8_advance 149 = .ok (.iconst 1, 1) := by decide +kernel
theorem dX8_advance_150 : decode cX8_advance 150 = .ok (.iadd, 1) := by decide +kernel
theorem dX8_advance_151 : decode cX8_advance 151 = .ok (.putfield 22, 3) := by decide +kernel
theorem dX8_advance_154 : decode cX8_advance 154 = .ok (.return_, 1) := by decide +kernel
theorem dX8_skipLetters_0 : decode cX8_skipLetters 0 = .ok (.aload_n 0, 1) := by decide +kernel
theorem dX8_skipLetters_1 : decode cX8_skipLetters 1 = .ok (.getfield 22, 3) := by decide +kernel
theorem dX8_skipLetters_4 : decode cX8_skipLetters 4 = .ok (.aload_n 0, 1) := by decide +kernel
theorem dX8_skipLetters_5 : decode cX8_skipLetters 5 = .ok (.getfield 19, 3) := by decide +kernel
theorem dX8_skipLetters_8 : decode cX8_skipLetters 8 = .ok (.if_icmp .ge 30, 3) := by decide +kernel
theorem dX8_skipLetters_11 : decode cX8_skipLetters 11 = .ok (.aload_n 0, 1) := by decide +kernel
theorem dX8_skipLetters_12 : decode cX8_skipLetters 12 = .ok (.aload_n 0, 1) := by decide +kernel
theorem dX8_skipLetters_13 : decode cX8_skipLetters 13 = .ok (.getfield 22, 3) := by decide +kernel
theorem dX8_skipLetters_16 : decode cX8_skipLetters 16 = .ok (.invokevirtual 43, 3) := by decide +kernel
theorem dX8_skipLetters_19 : decode cX8_skipLetters 19 = .ok (.invokestatic 51, 3) := by decide +kernel
theorem dX8_skipLetters_22 : decode cX8_skipLetters 22 = .ok (.ifCond .eq 16, 3) := by decide +kernel
theorem dX8_skipLetters_25 : decode cX8_skipLetters 25 = .ok (.aload_n 0, 1) := by decide +kernel
theorem dX8_skipLetters_26 : decode cX8_skipLetters 26 = .ok (.dup, 1) := by decide +kernel
theorem dX8_skipLetters_27 : decode cX8_skipLetters 27 = .ok (.getfield 22, 3) := by decide +kernel
theorem dX8_skipLetters_30 : decode cX8_skipLetters 30 = .ok (.iconst 1, 1) := by decide +kernel
theorem dX8_skipLetters_31 : decode cX8_skipLetters 31 = .ok (.iadd, 1) := by decide +kernel
theorem dX8_skipLetters_32 : decode cX8_skipLetters 32 = .ok (.putfield 22, 3) := by decide +kernel
theorem dX8_skipLetters_35 : decode cX8_skipLetters 35 = .ok (.goto (-35), 3) := by decide +kernel
theorem dX8_skipLetters_38 : decode cX8_skipLetters 38 = .ok (.return_, 1) := by decide +kernel
theorem dX8_readDigits_0 : decode cX8_readDigits 0 = .ok (.aload_n 0, 1) := by decide +kernel
theorem dX8_readDigits_1 : decode cX8_readDigits 1 = .ok (.getfield 22, 3) := by decide +kernel
theorem dX8_readDigits_4 : decode cX8_readDigits 4 = .ok (.aload_n 0, 1) := by decide +kernel
theorem dX8_readDigits_5 : decode cX8_readDigits 5 = .ok (.getfield 19, 3) := by decide +kernel
theorem dX8_readDigits_8 : decode cX8_readDigits 8 = .ok (.if_icmp .ge 58, 3) := by decide +kernel
theorem dX8_readDigits_11 : decode cX8_readDigits 11 = .ok (.aload_n 0, 1) := by decide +kernel
theorem dX8_readDigits_12 : decode cX8_readDigits 12 = .ok (.aload_n 0, 1) := by decide +kernel
theorem dX8_readDigits_13 : decode cX8_readDigits 13 = .ok (.getfield 22, 3) := by decide +kernel
theorem dX8_readDigits_16 : decode cX8_readDigits 16 = .ok (.invokevirtual 43, 3) := by decide +kernel
theorem dX8_readDigits_19 : decode cX8_readDigits 19 = .ok (.invokestatic 57, 3) := by decide +kernel
theorem dX8_readDigits_22 : decode cX8_readDigits 22 = .ok (.ifCond .eq 44, 3) := by decide +kernel
theorem dX8_readDigits_25 : decode cX8_readDigits 25 = .ok (.aload_n 0, 1) := by decide +kernel
theorem dX8_readDigits_26 : decode cX8_readDigits 26 = .ok (.aload_n 0, 1) := by decide +kernel
theorem dX8_readDigits_27 : decode cX8_readDigits 27 = .ok (.getfield 31, 3) := by decide +kernel
theorem dX8_readDigits_30 : decode cX8_readDigits 30 = .ok (.bipush 10, 2) := by decide +kernel
theorem dX8_readDigits_32 : decode cX8_readDigits 32 = .ok (.imul, 1) := by decide +kernel
theorem dX8_readDigits_33 : decode cX8_readDigits 33 = .ok (.aload_n 0, 1) := by decide +kernel
theorem dX8_readDigits_34 : decode cX8_readDigits 34 = .ok (.aload_n 0, 1) := by decide +kernel
theorem dX8_readDigits_35 : decode cX8_readDigits 35 = .ok (.getfield 22, 3) := by decide +kernel
theorem dX8_readDigits_38 : decode cX8_readDigits 38 = .ok (.invokevirtual 43, 3) := by decide +kernel
theorem dX8_readDigits_41 : decode cX8_readDigits 41 = .ok (.iadd, 1) := by decide +kernel
theorem dX8_readDigits_42 : decode cX8_readDigits 42 = .ok (.bipush 48, 2) := by decide +kernel
theorem dX8_readDigits_44 : decode cX8_readDigits 44 = .ok (.isub, 1) := by decide +kernel
theorem dX8_readDigits_45 : decode cX8_readDigits 45 = .ok (.ldc 63, 2) := by decide +kernel
theorem dX8_readDigits_47 : decode cX8_readDigits 47 = .ok (.invokestatic 34, 3) := by decide +kernel
theorem dX8_readDigits_50 : decode cX8_readDigits 50 = .ok (.putfield 31, 3) := by decide +kernel
theorem dX8_readDigits_53 : decode cX8_readDigits 53 = .ok (.aload_n 0, 1) := by decide +kernel
theorem dX8_readDigits_54 : decode cX8_readDigits 54 = .ok (.dup, 1) := by decide +kernel
theorem dX8_readDigits_55 : decode cX8_readDigits 55 = .ok (.getfield 22, 3) := by decide +kernel
theorem dX8_readDigits_58 : decode cX8_readDigits 58 = .ok (.iconst 1, 1) := by decide +kernel
theorem dX8_readDigits_59 : decode cX8_readDigits 59 = .ok (.iadd, 1) := by decide +kernel
theorem dX8_readDigits_60 : decode cX8_readDigits 60 = .ok (.putfield 22, 3) := by decide +kernel
theorem dX8_readDigits_63 : decode cX8_readDigits 63 = .ok (.goto (-63), 3) := by decide +kernel
theorem dX8_readDigits_66 : decode cX8_readDigits 66 = .ok (.return_, 1) := by decide +kernel
theorem dX8_byteAt_0 : decode cX8_byteAt 0 = .ok (.iload_n 1, 1) := by decide +kernel
theorem dX8_byteAt_1 : decode cX8_byteAt 1 = .ok (.ifCond .lt 12, 3) := by decide +kernel
theorem dX8_byteAt_4 : decode cX8_byteAt 4 = .ok (.iload_n 1, 1) := by decide +kernel
theorem dX8_byteAt_5 : decode cX8_byteAt 5 = .ok (.aload_n 0, 1) := by decide +kernel
theorem dX8_byteAt_6 : decode cX8_byteAt 6 = .ok (.getfield 9, 3) := by decide +kernel
theorem dX8_byteAt_9 : decode cX8_byteAt 9 = .ok (.arraylength, 1) := by decide +kernel
theorem dX8_byteAt_10 : decode cX8_byteAt 10 = .ok (.if_icmp .lt 7, 3) := by decide +kernel
theorem dX8_byteAt_13 : decode cX8_byteAt 13 = .ok (.iconst 0, 1) := by decide +kernel
theorem dX8_byteAt_14 : decode cX8_byteAt 14 = .ok (.goto 13, 3) := by decide +kernel
theorem dX8_byteAt_17 : decode cX8_byteAt 17 = .ok (.aload_n 0, 1) := by decide +kernel
theorem dX8_byteAt_18 : decode cX8_byteAt 18 = .ok (.getfield 9, 3) := by decide +kernel
theorem dX8_byteAt_21 : decode cX8_byteAt 21 = .ok (.iload_n 1, 1) := by decide +kernel
theorem dX8_byteAt_22 : decode cX8_byteAt 22 = .ok (.baload, 1) := by decide +kernel
theorem dX8_byteAt_23 : decode cX8_byteAt 23 = .ok (.sipush 255, 3) := by decide +kernel
theorem dX8_byteAt_26 : decode cX8_byteAt 26 = .ok (.iand, 1) := by decide +kernel
theorem dX8_byteAt_27 : decode cX8_byteAt 27 = .ok (.ireturn, 1) := by decide +kernel
theorem dX8_isBlank_0 : decode cX8_isBlank 0 = .ok (.iload_n 0, 1) := by decide +kernel
theorem dX8_isBlank_1 : decode cX8_isBlank 1 = .ok (.bipush 32, 2) := by decide +kernel
theorem dX8_isBlank_3 : decode cX8_isBlank 3 = .ok (.if_icmp .eq 9, 3) := by decide +kernel
theorem dX8_isBlank_6 : decode cX8_isBlank 6 = .ok (.iload_n 0, 1) := by decide +kernel
theorem dX8_isBlank_7 : decode cX8_isBlank 7 = .ok (.bipush 10, 2) := by decide +kernel
theorem dX8_isBlank_9 : decode cX8_isBlank 9 = .ok (.if_icmp .ne 7, 3) := by decide +kernel
theorem dX8_isBlank_12 : decode cX8_isBlank 12 = .ok (.iconst 1, 1) := by decide +kernel
theorem dX8_isBlank_13 : decode cX8_isBlank 13 = .ok (.goto 4, 3) := by decide +kernel
theorem dX8_isBlank_16 : decode cX8_isBlank 16 = .ok (.iconst 0, 1) := by decide +kernel
theorem dX8_isBlank_17 : decode cX8_isBlank 17 = .ok (.ireturn, 1) := by decide +kernel
theorem dX8_isLetter_0 : decode cX8_isLetter 0 = .ok (.iload_n 0, 1) := by decide +kernel
theorem dX8_isLetter_1 : decode cX8_isLetter 1 = .ok (.bipush 97, 2) := by decide +kernel
theorem dX8_isLetter_3 : decode cX8_isLetter 3 = .ok (.if_icmp .lt 13, 3) := by decide +kernel
theorem dX8_isLetter_6 : decode cX8_isLetter 6 = .ok (.iload_n 0, 1) := by decide +kernel
theorem dX8_isLetter_7 : decode cX8_isLetter 7 = .ok (.bipush 122, 2) := by decide +kernel
theorem dX8_isLetter_9 : decode cX8_isLetter 9 = .ok (.if_icmp .gt 7, 3) := by decide +kernel
theorem dX8_isLetter_12 : decode cX8_isLetter 12 = .ok (.iconst 1, 1) := by decide +kernel
theorem dX8_isLetter_13 : decode cX8_isLetter 13 = .ok (.goto 4, 3) := by decide +kernel
theorem dX8_isLetter_16 : decode cX8_isLetter 16 = .ok (.iconst 0, 1) := by decide +kernel
theorem dX8_isLetter_17 : decode cX8_isLetter 17 = .ok (.ireturn, 1) := by decide +kernel
theorem dX8_isDigit_0 : decode cX8_isDigit 0 = .ok (.iload_n 0, 1) := by decide +kernel
theorem dX8_isDigit_1 : decode cX8_isDigit 1 = .ok (.bipush 48, 2) := by decide +kernel
theorem dX8_isDigit_3 : decode cX8_isDigit 3 = .ok (.if_icmp .lt 13, 3) := by decide +kernel
theorem dX8_isDigit_6 : decode cX8_isDigit 6 = .ok (.iload_n 0, 1) := by decide +kernel
theorem dX8_isDigit_7 : decode cX8_isDigit 7 = .ok (.bipush 57, 2) := by decide +kernel
theorem dX8_isDigit_9 : decode cX8_isDigit 9 = .ok (.if_icmp .gt 7, 3) := by decide +kernel
theorem dX8_isDigit_12 : decode cX8_isDigit 12 = .ok (.iconst 1, 1) := by decide +kernel
theorem dX8_isDigit_13 : decode cX8_isDigit 13 = .ok (.goto 4, 3) := by decide +kernel
theorem dX8_isDigit_16 : decode cX8_isDigit 16 = .ok (.iconst 0, 1) := by decide +kernel
theorem dX8_isDigit_17 : decode cX8_isDigit 17 = .ok (.ireturn, 1) := by decide +kernel
theorem dX8_tokenStart_0 : decode cX8_tokenStart 0 = .ok (.aload_n 0, 1) := by decide +kernel
theorem dX8_tokenStart_1 : decode cX8_tokenStart 1 = .ok (.getfield 28, 3) := by decide +kernel
theorem dX8_tokenStart_4 : decode cX8_tokenStart 4 = .ok (.ireturn, 1) := by decide +kernel
theorem dX8_tokenValue_0 : decode cX8_tokenValue 0 = .ok (.aload_n 0, 1) := by decide +kernel
theorem dX8_tokenValue_1 : decode cX8_tokenValue 1 = .ok (.getfield 31, 3) := by decide +kernel
theorem dX8_tokenValue_4 : decode cX8_tokenValue 4 = .ok (.ireturn, 1) := by decide +kernel
theorem dX8_isEnd_0 : decode cX8_isEnd 0 = .ok (.aload_n 0, 1) := by decide +kernel
theorem dX8_isEnd_1 : decode cX8_isEnd 1 = .ok (.getfield 25, 3) := by decide +kernel
theorem dX8_isEnd_4 : decode cX8_isEnd 4 = .ok (.ifCond .ne 7, 3) := by decide +kernel
theorem dX8_isEnd_7 : decode cX8_isEnd 7 = .ok (.iconst 1, 1) := by decide +kernel
theorem dX8_isEnd_8 : decode cX8_isEnd 8 = .ok (.goto 4, 3) := by decide +kernel
theorem dX8_isEnd_11 : decode cX8_isEnd 11 = .ok (.iconst 0, 1) := by decide +kernel
theorem dX8_isEnd_12 : decode cX8_isEnd 12 = .ok (.ireturn, 1) := by decide +kernel
theorem dX8_isNumber_0 : decode cX8_isNumber 0 = .ok (.aload_n 0, 1) := by decide +kernel
theorem dX8_isNumber_1 : decode cX8_isNumber 1 = .ok (.getfield 25, 3) := by decide +kernel
theorem dX8_isNumber_4 : decode cX8_isNumber 4 = .ok (.iconst 2, 1) := by decide +kernel
theorem dX8_isNumber_5 : decode cX8_isNumber 5 = .ok (.if_icmp .ne 7, 3) := by decide +kernel
theorem dX8_isNumber_8 : decode cX8_isNumber 8 = .ok (.iconst 1, 1) := by decide +kernel
theorem dX8_isNumber_9 : decode cX8_isNumber 9 = .ok (.goto 4, 3) := by decide +kernel
theorem dX8_isNumber_12 : decode cX8_isNumber 12 = .ok (.iconst 0, 1) := by decide +kernel
theorem dX8_isNumber_13 : decode cX8_isNumber 13 = .ok (.ireturn, 1) := by decide +kernel
theorem dX8_isSemicolon_0 : decode cX8_isSemicolon 0 = .ok (.aload_n 0, 1) := by decide +kernel
theorem dX8_isSemicolon_1 : decode cX8_isSemicolon 1 = .ok (.getfield 25, 3) := by decide +kernel
theorem dX8_isSemicolon_4 : decode cX8_isSemicolon 4 = .ok (.iconst 3, 1) := by decide +kernel
theorem dX8_isSemicolon_5 : decode cX8_isSemicolon 5 = .ok (.if_icmp .ne 7, 3) := by decide +kernel
theorem dX8_isSemicolon_8 : decode cX8_isSemicolon 8 = .ok (.iconst 1, 1) := by decide +kernel
theorem dX8_isSemicolon_9 : decode cX8_isSemicolon 9 = .ok (.goto 4, 3) := by decide +kernel
theorem dX8_isSemicolon_12 : decode cX8_isSemicolon 12 = .ok (.iconst 0, 1) := by decide +kernel
theorem dX8_isSemicolon_13 : decode cX8_isSemicolon 13 = .ok (.ireturn, 1) := by decide +kernel
theorem dX8_isWord_0 : decode cX8_isWord 0 = .ok (.aload_n 0, 1) := by decide +kernel
theorem dX8_isWord_1 : decode cX8_isWord 1 = .ok (.getfield 25, 3) := by decide +kernel
theorem dX8_isWord_4 : decode cX8_isWord 4 = .ok (.iconst 1, 1) := by decide +kernel
theorem dX8_isWord_5 : decode cX8_isWord 5 = .ok (.if_icmp .ne 19, 3) := by decide +kernel
theorem dX8_isWord_8 : decode cX8_isWord 8 = .ok (.aload_n 0, 1) := by decide +kernel
theorem dX8_isWord_9 : decode cX8_isWord 9 = .ok (.getfield 22, 3) := by decide +kernel
theorem dX8_isWord_12 : decode cX8_isWord 12 = .ok (.aload_n 0, 1) := by decide +kernel
theorem dX8_isWord_13 : decode cX8_isWord 13 = .ok (.getfield 28, 3) := by decide +kernel
theorem dX8_isWord_16 : decode cX8_isWord 16 = .ok (.isub, 1) := by decide +kernel
theorem dX8_isWord_17 : decode cX8_isWord 17 = .ok (.aload_n 1, 1) := by decide +kernel
theorem dX8_isWord_18 : decode cX8_isWord 18 = .ok (.invokevirtual 64, 3) := by decide +kernel
theorem dX8_isWord_21 : decode cX8_isWord 21 = .ok (.if_icmp .eq 5, 3) := by decide +kernel
theorem dX8_isWord_24 : decode cX8_isWord 24 = .ok (.iconst 0, 1) := by decide +kernel
theorem dX8_isWord_25 : decode cX8_isWord 25 = .ok (.ireturn, 1) := by decide +kernel
theorem dX8_isWord_26 : decode cX8_isWord 26 = .ok (.iconst 0, 1) := by decide +kernel
theorem dX8_isWord_27 : decode cX8_isWord 27 = .ok (.istore_n 2, 1) := by decide +kernel
theorem dX8_isWord_28 : decode cX8_isWord 28 = .ok (.iload_n 2, 1) := by decide +kernel
theorem dX8_isWord_29 : decode cX8_isWord 29 = .ok (.aload_n 1, 1) := by decide +kernel
theorem dX8_isWord_30 : decode cX8_isWord 30 = .ok (.invokevirtual 64, 3) := by decide +kernel
theorem dX8_isWord_33 : decode cX8_isWord 33 = .ok (.if_icmp .ge 29, 3) := by decide +kernel
theorem dX8_isWord_36 : decode cX8_isWord 36 = .ok (.aload_n 0, 1) := by decide +kernel
theorem dX8_isWord_37 : decode cX8_isWord 37 = .ok (.aload_n 0, 1) := by decide +kernel
theorem dX8_isWord_38 : decode cX8_isWord 38 = .ok (.getfield 28, 3) := by decide +kernel
theorem dX8_isWord_41 : decode cX8_isWord 41 = .ok (.iload_n 2, 1) := by decide +kernel
theorem dX8_isWord_42 : decode cX8_isWord 42 = .ok (.iadd, 1) := by decide +kernel
theorem dX8_isWord_43 : decode cX8_isWord 43 = .ok (.invokevirtual 43, 3) := by decide +kernel
theorem dX8_isWord_46 : decode cX8_isWord 46 = .ok (.aload_n 1, 1) := by decide +kernel
theorem dX8_isWord_47 : decode cX8_isWord 47 = .ok (.iload_n 2, 1) := by decide +kernel
theorem dX8_isWord_48 : decode cX8_isWord 48 = .ok (.invokevirtual 70, 3) := by decide +kernel
theorem dX8_isWord_51 : decode cX8_isWord 51 = .ok (.if_icmp .eq 5, 3) := by decide +kernel
theorem dX8_isWord_54 : decode cX8_isWord 54 = .ok (.iconst 0, 1) := by decide +kernel
theorem dX8_isWord_55 : decode cX8_isWord 55 = .ok (.ireturn, 1) := by decide +kernel
theorem dX8_isWord_56 : decode cX8_isWord 56 = .ok (.iinc 2 1, 3) := by decide +kernel
theorem dX8_isWord_59 : decode cX8_isWord 59 = .ok (.goto (-31), 3) := by decide +kernel
theorem dX8_isWord_62 : decode cX8_isWord 62 = .ok (.iconst 1, 1) := by decide +kernel
theorem dX8_isWord_63 : decode cX8_isWord 63 = .ok (.ireturn, 1) := by decide +kernel
theorem dX9_primeAt_0 : decode cX9_primeAt 0 = .ok (.iload_n 0, 1) := by decide +kernel
theorem dX9_primeAt_1 : decode cX9_primeAt 1 = .ok (.ifCond .lt 11, 3) := by decide +kernel
theorem dX9_primeAt_4 : decode cX9_primeAt 4 = .ok (.iload_n 0, 1) := by decide +kernel
theorem dX9_primeAt_5 : decode cX9_primeAt 5 = .ok (.getstatic 9, 3) := by decide +kernel
theorem dX9_primeAt_8 : decode cX9_primeAt 8 = .ok (.arraylength, 1) := by decide +kernel
theorem dX9_primeAt_9 : decode cX9_primeAt 9 = .ok (.if_icmp .lt 7, 3) := by decide +kernel
theorem dX9_primeAt_12 : decode cX9_primeAt 12 = .ok (.iconst 1, 1) := by decide +kernel
theorem dX9_primeAt_13 : decode cX9_primeAt 13 = .ok (.goto 8, 3) := by decide +kernel
theorem dX9_primeAt_16 : decode cX9_primeAt 16 = .ok (.getstatic 9, 3) := by decide +kernel
theorem dX9_primeAt_19 : decode cX9_primeAt 19 = .ok (.iload_n 0, 1) := by decide +kernel
