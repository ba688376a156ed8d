theorem dX10_format_88 : decode cX10_format 88 = .ok (.getfield 69, 3) := by decide +kernel
theorem dX10_format_91 : decode cX10_format 91 = .ok (.iload 5, 2) := by decide +kernel
theorem dX10_format_93 : decode cX10_format 93 = .ok (.invokevirtual 339, 3) := by decide +kernel
theorem dX10_format_96 : decode cX10_format 96 = .ok (.iconst 1, 1) := by decide +kernel
theorem dX10_format_97 : decode cX10_format 97 = .ok (.istore_n 3, 1) := by decide +kernel
theorem dX10_format_98 : decode cX10_format 98 = .ok (.goto 11, 3) := by decide +kernel
theorem dX10_format_101 : decode cX10_format 101 = .ok (.iload 6, 2) := by decide +kernel
theorem dX10_format_103 : decode cX10_format 103 = .ok (.iconst (-1), 1) := by decide +kernel
theorem dX10_format_104 : decode cX10_format 104 = .ok (.if_icmp .eq 5, 3) := by decide +kernel
theorem dX10_format_107 : decode cX10_format 107 = .ok (.iconst 0, 1) := by decide +kernel
theorem dX10_format_108 : decode cX10_format 108 = .ok (.istore_n 3, 1) := by decide +kernel
theorem dX10_format_109 : decode cX10_format 109 = .ok (.iinc 5 1, 3) := by decide +kernel
theorem dX10_format_112 : decode cX10_format 112 = .ok (.goto (-73), 3) := by decide +kernel
theorem dX10_format_115 : decode cX10_format 115 = .ok (.aload_n 0, 1) := by decide +kernel
theorem dX10_format_116 : decode cX10_format 116 = .ok (.getfield 69, 3) := by decide +kernel
theorem dX10_format_119 : decode cX10_format 119 = .ok (.invokevirtual 333, 3) := by decide +kernel
theorem dX10_format_122 : decode cX10_format 122 = .ok (.ireturn, 1) := by decide +kernel
theorem dX10_formattedByte_0 : decode cX10_formattedByte 0 = .ok (.aload_n 0, 1) := by decide +kernel
theorem dX10_formattedByte_1 : decode cX10_formattedByte 1 = .ok (.getfield 69, 3) := by decide +kernel
theorem dX10_formattedByte_4 : decode cX10_formattedByte 4 = .ok (.iload_n 1, 1) := by decide +kernel
theorem dX10_formattedByte_5 : decode cX10_formattedByte 5 = .ok (.invokevirtual 342, 3) := by decide +kernel
theorem dX10_formattedByte_8 : decode cX10_formattedByte 8 = .ok (.ireturn, 1) := by decide +kernel
theorem dX10_undoCount_0 : decode cX10_undoCount 0 = .ok (.aload_n 0, 1) := by decide +kernel
theorem dX10_undoCount_1 : decode cX10_undoCount 1 = .ok (.getfield 32, 3) := by decide +kernel
theorem dX10_undoCount_4 : decode cX10_undoCount 4 = .ok (.invokevirtual 345, 3) := by decide +kernel
theorem dX10_undoCount_7 : decode cX10_undoCount 7 = .ok (.ireturn, 1) := by decide +kernel
theorem dX10_undo_0 : decode cX10_undo 0 = .ok (.aload_n 0, 1) := by decide +kernel
theorem dX10_undo_1 : decode cX10_undo 1 = .ok (.getfield 32, 3) := by decide +kernel
theorem dX10_undo_4 : decode cX10_undo 4 = .ok (.invokevirtual 345, 3) := by decide +kernel
theorem dX10_undo_7 : decode cX10_undo 7 = .ok (.ifCond .ne 5, 3) := by decide +kernel
theorem dX10_undo_10 : decode cX10_undo 10 = .ok (.iconst (-1), 1) := by decide +kernel
theorem dX10_undo_11 : decode cX10_undo 11 = .ok (.ireturn, 1) := by decide +kernel
theorem dX10_undo_12 : decode cX10_undo 12 = .ok (.aload_n 0, 1) := by decide +kernel
theorem dX10_undo_13 : decode cX10_undo 13 = .ok (.getfield 32, 3) := by decide +kernel
theorem dX10_undo_16 : decode cX10_undo 16 = .ok (.aload_n 0, 1) := by decide +kernel
theorem dX10_undo_17 : decode cX10_undo 17 = .ok (.getfield 12, 3) := by decide +kernel
theorem dX10_undo_20 : decode cX10_undo 20 = .ok (.invokevirtual 346, 3) := by decide +kernel
theorem dX10_undo_23 : decode cX10_undo 23 = .ok (.aload_n 0, 1) := by decide +kernel
theorem dX10_undo_24 : decode cX10_undo 24 = .ok (.getfield 73, 3) := by decide +kernel
theorem dX10_undo_27 : decode cX10_undo 27 = .ok (.iconst 2, 1) := by decide +kernel
theorem dX10_undo_28 : decode cX10_undo 28 = .ok (.dup2, 1) := by decide +kernel
theorem dX10_undo_29 : decode cX10_undo 29 = .ok (.iaload, 1) := by decide +kernel
theorem dX10_undo_30 : decode cX10_undo 30 = .ok (.iconst 1, 1) := by decide +kernel
theorem dX10_undo_31 : decode cX10_undo 31 = .ok (.iadd, 1) := by decide +kernel
theorem dX10_undo_32 : decode cX10_undo 32 = .ok (.iastore, 1) := by decide +kernel
theorem dX10_undo_33 : decode cX10_undo 33 = .ok (.aload_n 0, 1) := by decide +kernel
theorem dX10_undo_34 : decode cX10_undo 34 = .ok (.getfield 32, 3) := by decide +kernel
theorem dX10_undo_37 : decode cX10_undo 37 = .ok (.invokevirtual 345, 3) := by decide +kernel
theorem dX10_undo_40 : decode cX10_undo 40 = .ok (.ireturn, 1) := by decide +kernel
theorem dX10_saveSnapshot_0 : decode cX10_saveSnapshot 0 = .ok (.aload_n 0, 1) := by decide +kernel
theorem dX10_saveSnapshot_1 : decode cX10_saveSnapshot 1 = .ok (.getfield 22, 3) := by decide +kernel
theorem dX10_saveSnapshot_4 : decode cX10_saveSnapshot 4 = .ok (.aload_n 0, 1) := by decide +kernel
theorem dX10_saveSnapshot_5 : decode cX10_saveSnapshot 5 = .ok (.getfield 12, 3) := by decide +kernel
theorem dX10_saveSnapshot_8 : decode cX10_saveSnapshot 8 = .ok (.invokevirtual 109, 3) := by decide +kernel
theorem dX10_saveSnapshot_11 : decode cX10_saveSnapshot 11 = .ok (.aload_n 0, 1) := by decide +kernel
theorem dX10_saveSnapshot_12 : decode cX10_saveSnapshot 12 = .ok (.iconst 1, 1) := by decide +kernel
theorem dX10_saveSnapshot_13 : decode cX10_saveSnapshot 13 = .ok (.putfield 25, 3) := by decide +kernel
theorem dX10_saveSnapshot_16 : decode cX10_saveSnapshot 16 = .ok (.return_, 1) := by decide +kernel
theorem dX10_restoreSnapshot_0 : decode cX10_restoreSnapshot 0 = .ok (.aload_n 0, 1) := by decide +kernel
theorem dX10_restoreSnapshot_1 : decode cX10_restoreSnapshot 1 = .ok (.getfield 25, 3) := by decide +kernel
theorem dX10_restoreSnapshot_4 : decode cX10_restoreSnapshot 4 = .ok (.ifCond .ne 5, 3) := by decide +kernel
theorem dX10_restoreSnapshot_7 : decode cX10_restoreSnapshot 7 = .ok (.iconst 0, 1) := by decide +kernel
theorem dX10_restoreSnapshot_8 : decode cX10_restoreSnapshot 8 = .ok (.ireturn, 1) := by decide +kernel
theorem dX10_restoreSnapshot_9 : decode cX10_restoreSnapshot 9 = .ok (.aload_n 0, 1) := by decide +kernel
theorem dX10_restoreSnapshot_10 : decode cX10_restoreSnapshot 10 = .ok (.getfield 12, 3) := by decide +kernel
theorem dX10_restoreSnapshot_13 : decode cX10_restoreSnapshot 13 = .ok (.aload_n 0, 1) := by decide +kernel
theorem dX10_restoreSnapshot_14 : decode cX10_restoreSnapshot 14 = .ok (.getfield 22, 3) := by decide +kernel
theorem dX10_restoreSnapshot_17 : decode cX10_restoreSnapshot 17 = .ok (.invokevirtual 109, 3) := by decide +kernel
theorem dX10_restoreSnapshot_20 : decode cX10_restoreSnapshot 20 = .ok (.aload_n 0, 1) := by decide +kernel
theorem dX10_restoreSnapshot_21 : decode cX10_restoreSnapshot 21 = .ok (.getfield 32, 3) := by decide +kernel
theorem dX10_restoreSnapshot_24 : decode cX10_restoreSnapshot 24 = .ok (.invokevirtual 113, 3) := by decide +kernel
theorem dX10_restoreSnapshot_27 : decode cX10_restoreSnapshot 27 = .ok (.iconst 1, 1) := by decide +kernel
theorem dX10_restoreSnapshot_28 : decode cX10_restoreSnapshot 28 = .ok (.ireturn, 1) := by decide +kernel
theorem dX10_needInRange_0 : decode cX10_needInRange 0 = .ok (.iload_n 0, 1) := by decide +kernel
theorem dX10_needInRange_1 : decode cX10_needInRange 1 = .ok (.iload_n 1, 1) := by decide +kernel
theorem dX10_needInRange_2 : decode cX10_needInRange 2 = .ok (.if_icmp .lt 8, 3) := by decide +kernel
theorem dX10_needInRange_5 : decode cX10_needInRange 5 = .ok (.iload_n 0, 1) := by decide +kernel
theorem dX10_needInRange_6 : decode cX10_needInRange 6 = .ok (.iload_n 2, 1) := by decide +kernel
theorem dX10_needInRange_7 : decode cX10_needInRange 7 = .ok (.if_icmp .le 11, 3) := by decide +kernel
theorem dX10_needInRange_10 : decode cX10_needInRange 10 = .ok (.new 349, 3) := by decide +kernel
theorem dX10_needInRange_13 : decode cX10_needInRange 13 = .ok (.dup, 1) := by decide +kernel
theorem dX10_needInRange_14 : decode cX10_needInRange 14 = .ok (.invokespecial 351, 3) := by decide +kernel
theorem dX10_needInRange_17 : decode cX10_needInRange 17 = .ok (.athrow, 1) := by decide +kernel
theorem dX10_needInRange_18 : decode cX10_needInRange 18 = .ok (.return_, 1) := by decide +kernel
theorem dX10_needStretch_0 : decode cX10_needStretch 0 = .ok (.iload_n 1, 1) := by decide +kernel
theorem dX10_needStretch_1 : decode cX10_needStretch 1 = .ok (.ifCond .lt 14, 3) := by decide +kernel
theorem dX10_needStretch_4 : decode cX10_needStretch 4 = .ok (.iload_n 1, 1) := by decide +kernel
theorem dX10_needStretch_5 : decode cX10_needStretch 5 = .ok (.aload_n 0, 1) := by decide +kernel
theorem dX10_needStretch_6 : decode cX10_needStretch 6 = .ok (.getfield 12, 3) := by decide +kernel
theorem dX10_needStretch_9 : decode cX10_needStretch 9 = .ok (.invokevirtual 122, 3) := by decide +kernel
theorem dX10_needStretch_12 : decode cX10_needStretch 12 = .ok (.if_icmp .lt 11, 3) := by decide +kernel
theorem dX10_needStretch_15 : decode cX10_needStretch 15 = .ok (.new 210, 3) := by decide +kernel
theorem dX10_needStretch_18 : decode cX10_needStretch 18 = .ok (.dup, 1) := by decide +kernel
theorem dX10_needStretch_19 : decode cX10_needStretch 19 = .ok (.invokespecial 212, 3) := by decide +kernel
theorem dX10_needStretch_22 : decode cX10_needStretch 22 = .ok (.athrow, 1) := by decide +kernel
theorem dX10_needStretch_23 : decode cX10_needStretch 23 = .ok (.return_, 1) := by decide +kernel
theorem dX10_needStriker_0 : decode cX10_needStriker 0 = .ok (.iload_n 1, 1) := by decide +kernel
theorem dX10_needStriker_1 : decode cX10_needStriker 1 = .ok (.ifCond .lt 14, 3) := by decide +kernel
theorem dX10_needStriker_4 : decode cX10_needStriker 4 = .ok (.iload_n 1, 1) := by decide +kernel
theorem dX10_needStriker_5 : decode cX10_needStriker 5 = .ok (.aload_n 0, 1) := by decide +kernel
theorem dX10_needStriker_6 : decode cX10_needStriker 6 = .ok (.getfield 12, 3) := by decide +kernel
theorem dX10_needStriker_9 : decode cX10_needStriker 9 = .ok (.invokevirtual 125, 3) := by decide +kernel
theorem dX10_needStriker_12 : decode cX10_needStriker 12 = .ok (.if_icmp .lt 11, 3) := by decide +kernel
theorem dX10_needStriker_15 : decode cX10_needStriker 15 = .ok (.new 210, 3) := by decide +kernel
theorem dX10_needStriker_18 : decode cX10_needStriker 18 = .ok (.dup, 1) := by decide +kernel
theorem dX10_needStriker_19 : decode cX10_needStriker 19 = .ok (.invokespecial 212, 3) := by decide +kernel
theorem dX10_needStriker_22 : decode cX10_needStriker 22 = .ok (.athrow, 1) := by decide +kernel
theorem dX10_needStriker_23 : decode cX10_needStriker 23 = .ok (.return_, 1) := by decide +kernel
theorem dX10_current_0 : decode cX10_current 0 = .ok (.aload_n 0, 1) := by decide +kernel
theorem dX10_current_1 : decode cX10_current 1 = .ok (.getfield 39, 3) := by decide +kernel
theorem dX10_current_4 : decode cX10_current 4 = .ok (.aload_n 0, 1) := by decide +kernel
theorem dX10_current_5 : decode cX10_current 5 = .ok (.getfield 12, 3) := by decide +kernel
theorem dX10_current_8 : decode cX10_current 8 = .ok (.invokevirtual 352, 3) := by decide +kernel
theorem dX10_current_11 : decode cX10_current 11 = .ok (.ifCond .ne 14, 3) := by decide +kernel
theorem dX10_current_14 : decode cX10_current 14 = .ok (.aload_n 0, 1) := by decide +kernel
theorem dX10_current_15 : decode cX10_current 15 = .ok (.getfield 39, 3) := by decide +kernel
theorem dX10_current_18 : decode cX10_current 18 = .ok (.aload_n 0, 1) := by decide +kernel
theorem dX10_current_19 : decode cX10_current 19 = .ok (.getfield 12, 3) := by decide +kernel
theorem dX10_current_22 : decode cX10_current 22 = .ok (.invokevirtual 356, 3) := by decide +kernel
theorem dX10_current_25 : decode cX10_current 25 = .ok (.aload_n 0, 1) := by decide +kernel
theorem dX10_current_26 : decode cX10_current 26 = .ok (.getfield 39, 3) := by decide +kernel
theorem dX10_current_29 : decode cX10_current 29 = .ok (.areturn, 1) := by decide +kernel
theorem dX10_orNone_0 : decode cX10_orNone 0 = .ok (.iload_n 0, 1) := by decide +kernel
theorem dX10_orNone_1 : decode cX10_orNone 1 = .ok (.iload_n 1, 1) := by decide +kernel
theorem dX10_orNone_2 : decode cX10_orNone 2 = .ok (.if_icmp .lt 12, 3) := by decide +kernel
theorem dX10_orNone_5 : decode cX10_orNone 5 = .ok (.iload_n 0, 1) := by decide +kernel
theorem dX10_orNone_6 : decode cX10_orNone 6 = .ok (.iload_n 2, 1) := by decide +kernel
theorem dX10_orNone_7 : decode cX10_orNone 7 = .ok (.if_icmp .gt 7, 3) := by decide +kernel
theorem dX10_orNone_10 : decode cX10_orNone 10 = .ok (.iload_n 0, 1) := by decide +kernel
theorem dX10_orNone_11 : decode cX10_orNone 11 = .ok (.goto 4, 3) := by decide +kernel
theorem dX10_orNone_14 : decode cX10_orNone 14 = .ok (.iconst (-1), 1) := by decide +kernel
theorem dX10_orNone_15 : decode cX10_orNone 15 = .ok (.ireturn, 1) := by decide +kernel
theorem dX10_countIdle_0 : decode cX10_countIdle 0 = .ok (.aload_n 0, 1) := by decide +kernel
theorem dX10_countIdle_1 : decode cX10_countIdle 1 = .ok (.invokevirtual 128, 3) := by decide +kernel
theorem dX10_countIdle_4 : decode cX10_countIdle 4 = .ok (.astore_n 1, 1) := by decide +kernel
theorem dX10_countIdle_5 : decode cX10_countIdle 5 = .ok (.iconst 0, 1) := by decide +kernel
theorem dX10_countIdle_6 : decode cX10_countIdle 6 = .ok (.istore_n 2, 1) := by decide +kernel
theorem dX10_countIdle_7 : decode cX10_countIdle 7 = .ok (.iconst 0, 1) := by decide +kernel
theorem dX10_countIdle_8 : decode cX10_countIdle 8 = .ok (.istore_n 3, 1) := by decide +kernel
theorem dX10_countIdle_9 : decode cX10_countIdle 9 = .ok (.iload_n 3, 1) := by decide +kernel
theorem dX10_countIdle_10 : decode cX10_countIdle 10 = .ok (.aload_n 0, 1) := by decide +kernel
theorem dX10_countIdle_11 : decode cX10_countIdle 11 = .ok (.getfield 12, 3) := by decide +kernel
theorem dX10_countIdle_14 : decode cX10_countIdle 14 = .ok (.invokevirtual 125, 3) := by decide +kernel
theorem dX10_countIdle_17 : decode cX10_countIdle 17 = .ok (.if_icmp .ge 28, 3) := by decide +kernel
theorem dX10_countIdle_20 : decode cX10_countIdle 20 = .ok (.aload_n 1, 1) := by decide +kernel
theorem dX10_countIdle_21 : decode cX10_countIdle 21 = .ok (.aload_n 0, 1) := by decide +kernel
theorem dX10_countIdle_22 : decode cX10_countIdle 22 = .ok (.getfield 12, 3) := by decide +kernel
theorem dX10_countIdle_25 : decode cX10_countIdle 25 = .ok (.iload_n 3, 1) := by decide +kernel
theorem dX10_countIdle_26 : decode cX10_countIdle 26 = .ok (.invokevirtual 182, 3) := by decide +kernel
theorem dX10_countIdle_29 : decode cX10_countIdle 29 = .ok (.invokevirtual 198, 3) := by decide +kernel
theorem dX10_countIdle_32 : decode cX10_countIdle 32 = .ok (.iconst (-1), 1) := by decide +kernel
theorem dX10_countIdle_33 : decode cX10_countIdle 33 = .ok (.if_icmp .ne 6, 3) := by decide +kernel
theorem dX10_countIdle_36 : decode cX10_countIdle 36 = .ok (.iinc 2 1, 3) := by decide +kernel
theorem dX10_countIdle_39 : decode cX10_countIdle 39 = .ok (.iinc 3 1, 3) := by decide +kernel
theorem dX10_countIdle_42 : decode cX10_countIdle 42 = .ok (.goto (-33), 3) := by decide +kernel
theorem dX10_countIdle_45 : decode cX10_countIdle 45 = .ok (.iload_n 2, 1) := by decide +kernel
theorem dX10_countIdle_46 : decode cX10_countIdle 46 = .ok (.ireturn, 1) := by decide +kernel
theorem dX10_nextCommon_0 : decode cX10_nextCommon 0 = .ok (.aload_n 0, 1) := by decide +kernel
theorem dX10_nextCommon_1 : decode cX10_nextCommon 1 = .ok (.invokevirtual 128, 3) := by decide +kernel
theorem dX10_nextCommon_4 : decode cX10_nextCommon 4 = .ok (.astore 4, 2) := by decide +kernel
theorem dX10_nextCommon_6 : decode cX10_nextCommon 6 = .ok (.aload_n 0, 1) := by decide +kernel
theorem dX10_nextCommon_7 : decode cX10_nextCommon 7 = .ok (.getfield 12, 3) := by decide +kernel
theorem dX10_nextCommon_10 : decode cX10_nextCommon 10 = .ok (.iload_n 1, 1) := by decide +kernel
theorem dX10_nextCommon_11 : decode cX10_nextCommon 11 = .ok (.invokevirtual 182, 3) := by decide +kernel
theorem dX10_nextCommon_14 : decode cX10_nextCommon 14 = .ok (.istore 5, 2) := by decide +kernel
theorem dX10_nextCommon_16 : decode cX10_nextCommon 16 = .ok (.iload 5, 2) := by decide +kernel
theorem dX10_nextCommon_18 : decode cX10_nextCommon 18 = .ok (.iload 5, 2) := by decide +kernel
theorem dX10_nextCommon_20 : decode cX10_nextCommon 20 = .ok (.imul, 1) := by decide +kernel
theorem dX10_nextCommon_21 : decode cX10_nextCommon 21 = .ok (.iload_n 3, 1) := by decide +kernel
theorem dX10_nextCommon_22 : decode cX10_nextCommon 22 = .ok (.iload 5, 2) := by decide +kernel
theorem dX10_nextCommon_24 : decode cX10_nextCommon 24 = .ok (.iadd, 1) := by decide +kernel
theorem dX10_nextCommon_25 : decode cX10_nextCommon 25 = .ok (.invokestatic 220, 3) := by decide +kernel
theorem dX10_nextCommon_28 : decode cX10_nextCommon 28 = .ok (.istore 6, 2) := by decide +kernel
theorem dX10_nextCommon_30 : decode cX10_nextCommon 30 = .ok (.iload 5, 2) := by decide +kernel
theorem dX10_nextCommon_32 : decode cX10_nextCommon 32 = .ok (.ifCond .le 53, 3) := by decide +kernel
theorem dX10_nextCommon_35 : decode cX10_nextCommon 35 = .ok (.iload 6, 2) := by decide +kernel
theorem dX10_nextCommon_37 : decode cX10_nextCommon 37 = .ok (.aload 4, 2) := by decide +kernel
theorem dX10_nextCommon_39 : decode cX10_nextCommon 39 = .ok (.invokevirtual 234, 3) := by decide +kernel
theorem dX10_nextCommon_42 : decode cX10_nextCommon 42 = .ok (.if_icmp .gt 43, 3) := by decide +kernel
theorem dX10_nextCommon_45 : decode cX10_nextCommon 45 = .ok (.aload 4, 2) := by decide +kernel
theorem dX10_nextCommon_47 : decode cX10_nextCommon 47 = .ok (.iload 6, 2) := by decide +kernel
theorem dX10_nextCommon_49 : decode cX10_nextCommon 49 = .ok (.invokevirtual 204, 3) := by decide +kernel
theorem dX10_nextCommon_52 : decode cX10_nextCommon 52 = .ok (.iconst (-1), 1) := by decide +kernel
theorem dX10_nextCommon_53 : decode cX10_nextCommon 53 = .ok (.if_icmp .eq 22, 3) := by decide +kernel
theorem dX10_nextCommon_56 : decode cX10_nextCommon 56 = .ok (.aload_n 0, 1) := by decide +kernel
theorem dX10_nextCommon_57 : decode cX10_nextCommon 57 = .ok (.getfield 12, 3) := by decide +kernel
theorem dX10_nextCommon_60 : decode cX10_nextCommon 60 = .ok (.iload 6, 2) := by decide +kernel
theorem dX10_nextCommon_62 : decode cX10_nextCommon 62 = .ok (.iload_n 2, 1) := by decide +kernel
theorem dX10_nextCommon_63 : decode cX10_nextCommon 63 = .ok (.iload_n 2, 1) := by decide +kernel
theorem dX10_nextCommon_64 : decode cX10_nextCommon 64 = .ok (.iconst 1, 1) := by decide +kernel
theorem dX10_nextCommon_65 : decode cX10_nextCommon 65 = .ok (.iadd, 1) := by decide +kernel
theorem dX10_nextCommon_66 : decode cX10_nextCommon 66 = .ok (.invokevirtual 213, 3) := by decide +kernel
theorem dX10_nextCommon_69 : decode cX10_nextCommon 69 = .ok (.ifCond .le 6, 3) := by decide +kernel
theorem dX10_nextCommon_72 : decode cX10_nextCommon 72 = .ok (.iload 6, 2) := by decide +kernel
theorem dX10_nextCommon_74 : decode cX10_nextCommon 74 = .ok (.ireturn, 1) := by decide +kernel
theorem dX10_nextCommon_75 : decode cX10_nextCommon 75 = .ok (.iload 6, 2) := by decide +kernel
theorem dX10_nextCommon_77 : decode cX10_nextCommon 77 = .ok (.iload 5, 2) := by decide +kernel
theorem dX10_nextCommon_79 : decode cX10_nextCommon 79 = .ok (.iadd, 1) := by decide +kernel
theorem dX10_nextCommon_80 : decode cX10_nextCommon 80 = .ok (.istore 6, 2) := by decide +kernel
theorem dX10_nextCommon_82 : decode cX10_nextCommon 82 = .ok (.goto (-52), 3) := by decide +kernel
theorem dX10_nextCommon_85 : decode cX10_nextCommon 85 = .ok (.iconst (-1), 1) := by decide +kernel
theorem dX10_nextCommon_86 : decode cX10_nextCommon 86 = .ok (.ireturn, 1) := by decide +kernel
theorem dX10_nextPart_0 : decode cX10_nextPart 0 = .ok (.aload_n 0, 1) := by decide +kernel
theorem dX10_nextPart_1 : decode cX10_nextPart 1 = .ok (.invokevirtual 128, 3) := by decide +kernel
theorem dX10_nextPart_4 : decode cX10_nextPart 4 = .ok (.astore_n 3, 1) := by decide +kernel
theorem dX10_nextPart_5 : decode cX10_nextPart 5 = .ok (.iconst 2, 1) := by decide +kernel
theorem dX10_nextPart_6 : decode cX10_nextPart 6 = .ok (.iload_n 2, 1) := by decide +kernel
theorem dX10_nextPart_7 : decode cX10_nextPart 7 = .ok (.iconst 1, 1) := by decide +kernel
theorem dX10_nextPart_8 : decode cX10_nextPart 8 = .ok (.iadd, 1) := by decide +kernel
theorem dX10_nextPart_9 : decode cX10_nextPart 9 = .ok (.invokestatic 220, 3) := by decide +kernel
theorem dX10_nextPart_12 : decode cX10_nextPart 12 = .ok (.istore 4, 2) := by decide +kernel
theorem dX10_nextPart_14 : decode cX10_nextPart 14 = .ok (.iload 4, 2) := by decide +kernel
theorem dX10_nextPart_16 : decode cX10_nextPart 16 = .ok (.aload_n 3, 1) := by decide +kernel
theorem dX10_nextPart_17 : decode cX10_nextPart 17 = .ok (.invokevirtual 234, 3) := by decide +kernel
theorem dX10_nextPart_20 : decode cX10_nextPart 20 = .ok (.if_icmp .gt 40, 3) := by decide +kernel
theorem dX10_nextPart_23 : decode cX10_nextPart 23 = .ok (.iconst 2, 1) := by decide +kernel
theorem dX10_nextPart_24 : decode cX10_nextPart 24 = .ok (.iload 4, 2) := by decide +kernel
theorem dX10_nextPart_26 : decode cX10_nextPart 26 = .ok (.imul, 1) := by decide +kernel
theorem dX10_nextPart_27 : decode cX10_nextPart 27 = .ok (.iload_n 1, 1) := by decide +kernel
theorem dX10_nextPart_28 : decode cX10_nextPart 28 = .ok (.if_icmp .gt 32, 3) := by decide +kernel
theorem dX10_nextPart_31 : decode cX10_nextPart 31 = .ok (.aload_n 3, 1) := by decide +kernel
theorem dX10_nextPart_32 : decode cX10_nextPart 32 = .ok (.iload 4, 2) := by decide +kernel
theorem dX10_nextPart_34 : decode cX10_nextPart 34 = .ok (.invokevirtual 235, 3) := by decide +kernel
theorem dX10_nextPart_37 : decode cX10_nextPart 37 = .ok (.ifCond .eq 17, 3) := by decide +kernel
theorem dX10_nextPart_40 : decode cX10_nextPart 40 = .ok (.aload_n 3, 1) := by decide +kernel
theorem dX10_nextPart_41 : decode cX10_nextPart 41 = .ok (.iload_n 1, 1) := by decide +kernel
theorem dX10_nextPart_42 : decode cX10_nextPart 42 = .ok (.iload 4, 2) := by decide +kernel
theorem dX10_nextPart_44 : decode cX10_nextPart 44 = .ok (.isub, 1) := by decide +kernel
theorem dX10_nextPart_45 : decode cX10_nextPart 45 = .ok (.invokevirtual 235, 3) := by decide +kernel
theorem dX10_nextPart_48 : decode cX10_nextPart 48 = .ok (.ifCond .eq 6, 3) := by decide +kernel
theorem dX10_nextPart_51 : decode cX10_nextPart 51 = .ok (.iload 4, 2) := by decide +kernel
theorem dX10_nextPart_53 : decode cX10_nextPart 53 = .ok (.ireturn, 1) := by decide +kernel
theorem dX10_nextPart_54 : decode cX10_nextPart 54 = .ok (.iinc 4 1, 3) := by decide +kernel
theorem dX10_nextPart_57 : decode cX10_nextPart 57 = .ok (.goto (-43), 3) := by decide +kernel
theorem dX10_nextPart_60 : decode cX10_nextPart 60 = .ok (.iconst (-1), 1) := by decide +kernel
theorem dX10_nextPart_61 : decode cX10_nextPart 61 = .ok (.ireturn, 1) := by decide +kernel
theorem dX10_countGiven_0 : decode cX10_countGiven 0 = .ok (.aload_n 0, 1) := by decide +kernel
theorem dX10_countGiven_1 : decode cX10_countGiven 1 = .ok (.getfield 12, 3) := by decide +kernel
theorem dX10_countGiven_4 : decode cX10_countGiven 4 = .ok (.iload_n 2, 1) := by decide +kernel
theorem dX10_countGiven_5 : decode cX10_countGiven 5 = .ok (.invokevirtual 182, 3) := by decide +kernel
theorem dX10_countGiven_8 : decode cX10_countGiven 8 = .ok (.istore_n 3, 1) := by decide +kernel
theorem dX10_countGiven_9 : decode cX10_countGiven 9 = .ok (.iconst 0, 1) := by decide +kernel
theorem dX10_countGiven_10 : decode cX10_countGiven 10 = .ok (.istore 4, 2) := by decide +kernel
theorem dX10_countGiven_12 : decode cX10_countGiven 12 = .ok (.iload_n 3, 1) := by decide +kernel
theorem dX10_countGiven_13 : decode cX10_countGiven 13 = .ok (.iload_n 3, 1) := by decide +kernel
theorem dX10_countGiven_14 : decode cX10_countGiven 14 = .ok (.imul, 1) := by decide +kernel
theorem dX10_countGiven_15 : decode cX10_countGiven 15 = .ok (.istore 5, 2) := by decide +kernel
theorem dX10_countGiven_17 : decode cX10_countGiven 17 = .ok (.iload_n 3, 1) := by decide +kernel
theorem dX10_countGiven_18 : decode cX10_countGiven 18 = .ok (.ifCond .le 56, 3) := by decide +kernel
theorem dX10_countGiven_21 : decode cX10_countGiven 21 = .ok (.iload 5, 2) := by decide +kernel
theorem dX10_countGiven_23 : decode cX10_countGiven 23 = .ok (.aload_n 1, 1) := by decide +kernel
theorem dX10_countGiven_24 : decode cX10_countGiven 24 = .ok (.invokevirtual 234, 3) := by decide +kernel
theorem dX10_countGiven_27 : decode cX10_countGiven 27 = .ok (.if_icmp .gt 47, 3) := by decide +kernel
theorem dX10_countGiven_30 : decode cX10_countGiven 30 = .ok (.aload_n 1, 1) := by decide +kernel
theorem dX10_countGiven_31 : decode cX10_countGiven 31 = .ok (.iload 5, 2) := by decide +kernel
theorem dX10_countGiven_33 : decode cX10_countGiven 33 = .ok (.invokevirtual 204, 3) := by decide +kernel
theorem dX10_countGiven_36 : decode cX10_countGiven 36 = .ok (.iload_n 3, 1) := by decide +kernel
theorem dX10_countGiven_37 : decode cX10_countGiven 37 = .ok (.if_icmp .ne 28, 3) := by decide +kernel
theorem dX10_countGiven_40 : decode cX10_countGiven 40 = .ok (.aload_n 0, 1) := by decide +kernel
theorem dX10_countGiven_41 : decode cX10_countGiven 41 = .ok (.getfield 12, 3) := by decide +kernel
theorem dX10_countGiven_44 : decode cX10_countGiven 44 = .ok (.iload 5, 2) := by decide +kernel
theorem dX10_countGiven_46 : decode cX10_countGiven 46 = .ok (.iload_n 2, 1) := by decide +kernel
theorem dX10_countGiven_47 : decode cX10_countGiven 47 = .ok (.iconst 1, 1) := by decide +kernel
theorem dX10_countGiven_48 : decode cX10_countGiven 48 = .ok (.iadd, 1) := by decide +kernel
theorem dX10_countGiven_49 : decode cX10_countGiven 49 = .ok (.aload_n 0, 1) := by decide +kernel
theorem dX10_countGiven_50 : decode cX10_countGiven 50 = .ok (.getfield 12, 3) := by decide +kernel
theorem dX10_countGiven_53 : decode cX10_countGiven 53 = .ok (.invokevirtual 125, 3) := by decide +kernel
theorem dX10_countGiven_56 : decode cX10_countGiven 56 = .ok (.invokevirtual 213, 3) := by decide +kernel
theorem dX10_countGiven_59 : decode cX10_countGiven 59 = .ok (.ifCond .ne 6, 3) := by decide +kernel
theorem dX10_countGiven_62 : decode cX10_countGiven 62 = .ok (.iinc 4 1, 3) := by decide +kernel
theorem dX10_countGiven_65 : decode cX10_countGiven 65 = .ok (.iload 5, 2) := by decide +kernel
theorem dX10_countGiven_67 : decode cX10_countGiven 67 = .ok (.iload_n 3, 1) := by decide +kernel
theorem dX10_countGiven_68 : decode cX10_countGiven 68 = .ok (.iadd, 1) := by decide +kernel
theorem dX10_countGiven_69 : decode cX10_countGiven 69 = .ok (.istore 5, 2) := by decide +kernel
theorem dX10_countGiven_71 : decode cX10_countGiven 71 = .ok (.goto (-54), 3) := by decide +kernel
theorem dX10_countGiven_74 : decode cX10_countGiven 74 = .ok (.iload 4, 2) := by decide +kernel
theorem dX10_countGiven_76 : decode cX10_countGiven 76 = .ok (.ireturn, 1) := by decide +kernel
theorem dX10_bitsOfShare_0 : decode cX10_bitsOfShare 0 = .ok (.fload_n 0, 1) := by decide +kernel
theorem dX10_bitsOfShare_1 : decode cX10_bitsOfShare 1 = .ok (.fconst 0, 1) := by decide +kernel
theorem dX10_bitsOfShare_2 : decode cX10_bitsOfShare 2 = .ok (.fcmp .g, 1) := by decide +kernel
theorem dX10_bitsOfShare_3 : decode cX10_bitsOfShare 3 = .ok (.ifCond .gt 5, 3) := by decide +kernel
theorem dX10_bitsOfShare_6 : decode cX10_bitsOfShare 6 = .ok (.iconst 0, 1) := by decide +kernel
theorem dX10_bitsOfShare_7 : decode cX10_bitsOfShare 7 = .ok (.ireturn, 1) := by decide +kernel
theorem dX10_bitsOfShare_8 : decode cX10_bitsOfShare 8 = .ok (.bipush 127, 2) := by decide +kernel
theorem dX10_bitsOfShare_10 : decode cX10_bitsOfShare 10 = .ok (.istore_n 1, 1) := by decide +kernel
theorem dX10_bitsOfShare_11 : decode cX10_bitsOfShare 11 = .ok (.fload_n 0, 1) := by decide +kernel
theorem dX10_bitsOfShare_12 : decode cX10_bitsOfShare 12 = .ok (.fstore_n 2, 1) := by decide +kernel
theorem dX10_bitsOfShare_13 : decode cX10_bitsOfShare 13 = .ok (.iconst 0, 1) := by decide +kernel
theorem dX10_bitsOfShare_14 : decode cX10_bitsOfShare 14 = .ok (.istore_n 3, 1) := by decide +kernel
theorem dX10_bitsOfShare_15 : decode cX10_bitsOfShare 15 = .ok (.iload_n 3, 1) := by decide +kernel
theorem dX10_bitsOfShare_16 : decode cX10_bitsOfShare 16 = .ok (.bipush 126, 2) := by decide +kernel
theorem dX10_bitsOfShare_18 : decode cX10_bitsOfShare 18 = .ok (.if_icmp .ge 22, 3) := by decide +kernel
theorem dX10_bitsOfShare_21 : decode cX10_bitsOfShare 21 = .ok (.fload_n 2, 1) := by decide +kernel
theorem dX10_bitsOfShare_22 : decode cX10_bitsOfShare 22 = .ok (.fconst 1, 1) := by decide +kernel
theorem dX10_bitsOfShare_23 : decode cX10_bitsOfShare 23 = .ok (.fcmp .g, 1) := by decide +kernel
theorem dX10_bitsOfShare_24 : decode cX10_bitsOfShare 24 = .ok (.ifCond .ge 16, 3) := by decide +kernel
theorem dX10_bitsOfShare_27 : decode cX10_bitsOfShare 27 = .ok (.fload_n 2, 1) := by decide +kernel
theorem dX10_bitsOfShare_28 : decode cX10_bitsOfShare 28 = .ok (.fconst 2, 1) := by decide +kernel
theorem dX10_bitsOfShare_29 : decode cX10_bitsOfShare 29 = .ok (.fmul, 1) := by decide +kernel
theorem dX10_bitsOfShare_30 : decode cX10_bitsOfShare 30 = .ok (.fstore_n 2, 1) := by decide +kernel
theorem dX10_bitsOfShare_31 : decode cX10_bitsOfShare 31 = .ok (.iinc 1 (-1), 3) := by decide +kernel
theorem dX10_bitsOfShare_34 : decode cX10_bitsOfShare 34 = .ok (.iinc 3 1, 3) := by decide +kernel
theorem dX10_bitsOfShare_37 : decode cX10_bitsOfShare 37 = .ok (.goto (-22), 3) := by decide +kernel
theorem dX10_bitsOfShare_40 : decode cX10_bitsOfShare 40 = .ok (.iload_n 1, 1) := by decide +kernel
theorem dX10_bitsOfShare_41 : decode cX10_bitsOfShare 41 = .ok (.bipush 23, 2) := by decide +kernel
theorem dX10_bitsOfShare_43 : decode cX10_bitsOfShare 43 = .ok (.ishl, 1) := by decide +kernel
theorem dX10_bitsOfShare_44 : decode cX10_bitsOfShare 44 = .ok (.fload_n 2, 1) := by decide +kernel
theorem dX10_bitsOfShare_45 : decode cX10_bitsOfShare 45 = .ok (.ldc_w 359, 3) := by decide +kernel
theorem dX10_bitsOfShare_48 : decode cX10_bitsOfShare 48 = .ok (.fmul, 1) := by decide +kernel
theorem dX10_bitsOfShare_49 : decode cX10_bitsOfShare 49 = .ok (.f2i, 1) := by decide +kernel
theorem dX10_bitsOfShare_50 : decode cX10_bitsOfShare 50 = .ok (.ldc_w 360, 3) := by decide +kernel
theorem dX10_bitsOfShare_53 : decode cX10_bitsOfShare 53 = .ok (.isub, 1) := by decide +kernel
theorem dX10_bitsOfShare_54 : decode cX10_bitsOfShare 54 = .ok (.iadd, 1) := by decide +kernel
theorem dX10_bitsOfShare_55 : decode cX10_bitsOfShare 55 = .ok (.ireturn, 1) := by decide +kernel
theorem dX10_operate_0 : decode cX10_operate 0 = .ok (.aload_n 1, 1) := by decide +kernel
theorem dX10_operate_1 : decode cX10_operate 1 = .ok (.iload_n 2, 1) := by decide +kernel
theorem dX10_operate_2 : decode cX10_operate 2 = .ok (.iload_n 3, 1) := by decide +kernel
theorem dX10_operate_3 : decode cX10_operate 3 = .ok (.invokevirtual 361, 3) := by decide +kernel
theorem dX10_operate_6 : decode cX10_operate 6 = .ok (.ifCond .ne 11, 3) := by decide +kernel
theorem dX10_operate_9 : decode cX10_operate 9 = .ok (.new 349, 3) := by decide +kernel
theorem dX10_operate_12 : decode cX10_operate 12 = .ok (.dup, 1) := by decide +kernel
theorem dX10_operate_13 : decode cX10_operate 13 = .ok (.invokespecial 351, 3) := by decide +kernel
theorem dX10_operate_16 : decode cX10_operate 16 = .ok (.athrow, 1) := by decide +kernel
theorem dX10_operate_17 : decode cX10_operate 17 = .ok (.aload_n 0, 1) := by decide +kernel
theorem dX10_operate_18 : decode cX10_operate 18 = .ok (.getfield 16, 3) := by decide +kernel
theorem dX10_operate_21 : decode cX10_operate 21 = .ok (.aload_n 0, 1) := by decide +kernel
theorem dX10_operate_22 : decode cX10_operate 22 = .ok (.getfield 12, 3) := by decide +kernel
theorem dX10_operate_25 : decode cX10_operate 25 = .ok (.invokevirtual 109, 3) := by decide +kernel
theorem dX10_operate_28 : decode cX10_operate 28 = .ok (.aload_n 0, 1) := by decide +kernel
theorem dX10_operate_29 : decode cX10_operate 29 = .ok (.aload_n 0, 1) := by decide +kernel
theorem dX10_operate_30 : decode cX10_operate 30 = .ok (.aload_n 1, 1) := by decide +kernel
theorem dX10_operate_31 : decode cX10_operate 31 = .ok (.iload_n 2, 1) := by decide +kernel
theorem dX10_operate_32 : decode cX10_operate 32 = .ok (.iload_n 3, 1) := by decide +kernel
theorem dX10_operate_33 : decode cX10_operate 33 = .ok (.invokevirtual 324, 3) := by decide +kernel
theorem dX10_operate_36 : decode cX10_operate 36 = .ok (.invokevirtual 327, 3) := by decide +kernel
theorem dX10_operate_39 : decode cX10_operate 39 = .ok (.istore 4, 2) := by decide +kernel
theorem dX10_operate_41 : decode cX10_operate 41 = .ok (.iload 4, 2) := by decide +kernel
theorem dX10_operate_43 : decode cX10_operate 43 = .ok (.ifCond .lt 14, 3) := by decide +kernel
theorem dX10_operate_46 : decode cX10_operate 46 = .ok (.aload_n 0, 1) := by decide +kernel
theorem dX10_operate_47 : decode cX10_operate 47 = .ok (.getfield 32, 3) := by decide +kernel
theorem dX10_operate_50 : decode cX10_operate 50 = .ok (.aload_n 0, 1) := by decide +kernel
theorem dX10_operate_51 : decode cX10_operate 51 = .ok (.getfield 16, 3) := by decide +kernel
theorem dX10_operate_54 : decode cX10_operate 54 = .ok (.invokevirtual 308, 3) := by decide +kernel
theorem dX10_operate_57 : decode cX10_operate 57 = .ok (.iload 4, 2) := by decide +kernel
theorem dX10_operate_59 : decode cX10_operate 59 = .ok (.ireturn, 1) := by decide +kernel
theorem dX10_counted_0 : decode cX10_counted 0 = .ok (.aload_n 0, 1) := by decide +kernel
theorem dX10_counted_1 : decode cX10_counted 1 = .ok (.getfield 73, 3) := by decide +kernel
theorem dX10_counted_4 : decode cX10_counted 4 = .ok (.iload_n 1, 1) := by decide +kernel
theorem dX10_counted_5 : decode cX10_counted 5 = .ok (.ifCond .ge 7, 3) := by decide +kernel
theorem dX10_counted_8 : decode cX10_counted 8 = .ok (.iconst 1, 1) := by decide +kernel
theorem dX10_counted_9 : decode cX10_counted 9 = .ok (.goto 4, 3) := by decide +kernel
theorem dX10_counted_12 : decode cX10_counted 12 = .ok (.iconst 0, 1) := by decide +kernel
theorem dX10_counted_13 : decode cX10_counted 13 = .ok (.dup2, 1) := by decide +kernel
theorem dX10_counted_14 : decode cX10_counted 14 = .ok (.iaload, 1) := by decide +kernel
theorem dX10_counted_15 : decode cX10_counted 15 = .ok (.iconst 1, 1) := by decide +kernel
theorem dX10_counted_16 : decode cX10_counted 16 = .ok (.iadd, 1) := by decide +kernel
theorem dX10_counted_17 : decode cX10_counted 17 = .ok (.iastore, 1) := by decide +kernel
theorem dX10_counted_18 : decode cX10_counted 18 = .ok (.iload_n 1, 1) := by decide +kernel
theorem dX10_counted_19 : decode cX10_counted 19 = .ok (.ireturn, 1) := by decide +kernel
theorem dX10_carryOut_0 : decode cX10_carryOut 0 = .ok (.getstatic 364, 3) := by decide +kernel
theorem dX10_carryOut_3 : decode cX10_carryOut 3 = .ok (.aload_n 1, 1) := by decide +kernel
theorem dX10_carryOut_4 : decode cX10_carryOut 4 = .ok (.invokevirtual 369, 3) := by decide +kernel
theorem dX10_carryOut_7 : decode cX10_carryOut 7 = .ok (.iaload, 1) := by decide +kernel
theorem dX10_carryOut_8 : decode cX10_carryOut 8 = .ok (.tableswitch 106 1 9 #[52, 58, 63, 69, 76, 82, 88, 94, 100], 52) := by decide +kernel
theorem dX10_carryOut_60 : decode cX10_carryOut 60 = .ok (.aload_n 0, 1) := by decide +kernel
theorem dX10_carryOut_61 : decode cX10_carryOut 61 = .ok (.iload_n 2, 1) := by decide +kernel
theorem dX10_carryOut_62 : decode cX10_carryOut 62 = .ok (.invokevirtual 372, 3) := by decide +kernel
theorem dX10_carryOut_65 : decode cX10_carryOut 65 = .ok (.ireturn, 1) := by decide +kernel
theorem dX10_carryOut_66 : decode cX10_carryOut 66 = .ok (.aload_n 0, 1) := by decide +kernel
theorem dX10_carryOut_67 : decode cX10_carryOut 67 = .ok (.invokevirtual 375, 3) := by decide +kernel
theorem dX10_carryOut_70 : decode cX10_carryOut 70 = .ok (.ireturn, 1) := by decide +kernel
theorem dX10_carryOut_71 : decode cX10_carryOut 71 = .ok (.aload_n 0, 1) := by decide +kernel
theorem dX10_carryOut_72 : decode cX10_carryOut 72 = .ok (.iload_n 2, 1) := by decide +kernel
theorem dX10_carryOut_73 : decode cX10_carryOut 73 = .ok (.invokevirtual 378, 3) := by decide +kernel
theorem dX10_carryOut_76 : decode cX10_carryOut 76 = .ok (.ireturn, 1) := by decide +kernel
theorem dX10_carryOut_77 : decode cX10_carryOut 77 = .ok (.aload_n 0, 1) := by decide +kernel
theorem dX10_carryOut_78 : decode cX10_carryOut 78 = .ok (.iload_n 2, 1) := by decide +kernel
theorem dX10_carryOut_79 : decode cX10_carryOut 79 = .ok (.iload_n 3, 1) := by decide +kernel
theorem dX10_carryOut_80 : decode cX10_carryOut 80 = .ok (.invokevirtual 381, 3) := by decide +kernel
theorem dX10_carryOut_83 : decode cX10_carryOut 83 = .ok (.ireturn, 1) := by decide +kernel
theorem dX10_carryOut_84 : decode cX10_carryOut 84 = .ok (.aload_n 0, 1) := by decide +kernel
theorem dX10_carryOut_85 : decode cX10_carryOut 85 = .ok (.iload_n 2, 1) := by decide +kernel
theorem dX10_carryOut_86 : decode cX10_carryOut 86 = .ok (.invokevirtual 384, 3) := by decide +kernel
theorem dX10_carryOut_89 : decode cX10_carryOut 89 = .ok (.ireturn, 1) := by decide +kernel
theorem dX10_carryOut_90 : decode cX10_carryOut 90 = .ok (.aload_n 0, 1) := by decide +kernel
theorem dX10_carryOut_91 : decode cX10_carryOut 91 = .ok (.iload_n 2, 1) := by decide +kernel
theorem dX10_carryOut_92 : decode cX10_carryOut 92 = .ok (.invokevirtual 387, 3) := by decide +kernel
theorem dX10_carryOut_95 : decode cX10_carryOut 95 = .ok (.ireturn, 1) := by decide +kernel
theorem dX10_carryOut_96 : decode cX10_carryOut 96 = .ok (.aload_n 0, 1) := by decide +kernel
theorem dX10_carryOut_97 : decode cX10_carryOut 97 = .ok (.iload_n 2, 1) := by decide +kernel
theorem dX10_carryOut_98 : decode cX10_carryOut 98 = .ok (.invokevirtual 390, 3) := by decide +kernel
theorem dX10_carryOut_101 : decode cX10_carryOut 101 = .ok (.ireturn, 1) := by decide +kernel
theorem dX10_carryOut_102 : decode cX10_carryOut 102 = .ok (.aload_n 0, 1) := by decide +kernel
theorem dX10_carryOut_103 : decode cX10_carryOut 103 = .ok (.iload_n 2, 1) := by decide +kernel
theorem dX10_carryOut_104 : decode cX10_carryOut 104 = .ok (.invokevirtual 393, 3) := by decide +kernel
theorem dX10_carryOut_107 : decode cX10_carryOut 107 = .ok (.ireturn, 1) := by decide +kernel
theorem dX10_carryOut_108 : decode cX10_carryOut 108 = .ok (.aload_n 0, 1) := by decide +kernel
theorem dX10_carryOut_109 : decode cX10_carryOut 109 = .ok (.iload_n 2, 1) := by decide +kernel
theorem dX10_carryOut_110 : decode cX10_carryOut 110 = .ok (.invokevirtual 396, 3) := by decide +kernel
theorem dX10_carryOut_113 : decode cX10_carryOut 113 = .ok (.ireturn, 1) := by decide +kernel
theorem dX10_carryOut_114 : decode cX10_carryOut 114 = .ok (.aload_n 0, 1) := by decide +kernel
theorem dX10_carryOut_115 : decode cX10_carryOut 115 = .ok (.invokevirtual 399, 3) := by decide +kernel
theorem dX10_carryOut_118 : decode cX10_carryOut 118 = .ok (.ireturn, 1) := by decide +kernel
theorem dX10_layStretch_0 : decode cX10_layStretch 0 = .ok (.aload_n 0, 1) := by decide +kernel
theorem dX10_layStretch_1 : decode cX10_layStretch 1 = .ok (.getfield 12, 3) := by decide +kernel
theorem dX10_layStretch_4 : decode cX10_layStretch 4 = .ok (.invokevirtual 122, 3) := by decide +kernel
theorem dX10_layStretch_7 : decode cX10_layStretch 7 = .ok (.istore_n 2, 1) := by decide +kernel
theorem dX10_layStretch_8 : decode cX10_layStretch 8 = .ok (.iload_n 2, 1) := by decide +kernel
theorem dX10_layStretch_9 : decode cX10_layStretch 9 = .ok (.bipush 12, 2) := by decide +kernel
theorem dX10_layStretch_11 : decode cX10_layStretch 11 = .ok (.if_icmp .lt 6, 3) := by decide +kernel
theorem dX10_layStretch_14 : decode cX10_layStretch 14 = .ok (.bipush (-2), 2) := by decide +kernel
theorem dX10_layStretch_16 : decode cX10_layStretch 16 = .ok (.ireturn, 1) := by decide +kernel
theorem dX10_layStretch_17 : decode cX10_layStretch 17 = .ok (.aload_n 0, 1) := by decide +kernel
theorem dX10_layStretch_18 : decode cX10_layStretch 18 = .ok (.getfield 12, 3) := by decide +kernel
theorem dX10_layStretch_21 : decode cX10_layStretch 21 = .ok (.iload_n 1, 1) := by decide +kernel
theorem dX10_layStretch_22 : decode cX10_layStretch 22 = .ok (.invokevirtual 85, 3) := by decide +kernel
theorem dX10_layStretch_25 : decode cX10_layStretch 25 = .ok (.aload_n 0, 1) := by decide +kernel
theorem dX10_layStretch_26 : decode cX10_layStretch 26 = .ok (.getfield 73, 3) := by decide +kernel
theorem dX10_layStretch_29 : decode cX10_layStretch 29 = .ok (.iconst 3, 1) := by decide +kernel
theorem dX10_layStretch_30 : decode cX10_layStretch 30 = .ok (.dup2, 1) := by decide +kernel
theorem dX10_layStretch_31 : decode cX10_layStretch 31 = .ok (.iaload, 1) := by decide +kernel
theorem dX10_layStretch_32 : decode cX10_layStretch 32 = .ok (.iconst 1, 1) := by decide +kernel
theorem dX10_layStretch_33 : decode cX10_layStretch 33 = .ok (.iadd, 1) := by decide +kernel
theorem dX10_layStretch_34 : decode cX10_layStretch 34 = .ok (.iastore, 1) := by decide +kernel
theorem dX10_layStretch_35 : decode cX10_layStretch 35 = .ok (.aload_n 0, 1) := by decide +kernel
theorem dX10_layStretch_36 : decode cX10_layStretch 36 = .ok (.invokevirtual 128, 3) := by decide +kernel
theorem dX10_layStretch_39 : decode cX10_layStretch 39 = .ok (.aload_n 0, 1) := by decide +kernel
theorem dX10_layStretch_40 : decode cX10_layStretch 40 = .ok (.getfield 12, 3) := by decide +kernel
theorem dX10_layStretch_43 : decode cX10_layStretch 43 = .ok (.iload_n 2, 1) := by decide +kernel
theorem dX10_layStretch_44 : decode cX10_layStretch 44 = .ok (.invokevirtual 157, 3) := by decide +kernel
theorem dX10_layStretch_47 : decode cX10_layStretch 47 = .ok (.aload_n 0, 1) := by decide +kernel
theorem dX10_layStretch_48 : decode cX10_layStretch 48 = .ok (.getfield 12, 3) := by decide +kernel
theorem dX10_layStretch_51 : decode cX10_layStretch 51 = .ok (.iload_n 2, 1) := by decide +kernel
theorem dX10_layStretch_52 : decode cX10_layStretch 52 = .ok (.invokevirtual 160, 3) := by decide +kernel
theorem dX10_layStretch_55 : decode cX10_layStretch 55 = .ok (.invokevirtual 163, 3) := by decide +kernel
theorem dX10_layStretch_58 : decode cX10_layStretch 58 = .ok (.ireturn, 1) := by decide +kernel
theorem dX10_dropStretch_0 : decode cX10_dropStretch 0 = .ok (.aload_n 0, 1) := by decide +kernel
theorem dX10_dropStretch_1 : decode cX10_dropStretch 1 = .ok (.getfield 12, 3) := by decide +kernel
theorem dX10_dropStretch_4 : decode cX10_dropStretch 4 = .ok (.invokevirtual 122, 3) := by decide +kernel
theorem dX10_dropStretch_7 : decode cX10_dropStretch 7 = .ok (.ifCond .ne 6, 3) := by decide +kernel
theorem dX10_dropStretch_10 : decode cX10_dropStretch 10 = .ok (.bipush (-2), 2) := by decide +kernel
theorem dX10_dropStretch_12 : decode cX10_dropStretch 12 = .ok (.ireturn, 1) := by decide +kernel
theorem dX10_dropStretch_13 : decode cX10_dropStretch 13 = .ok (.aload_n 0, 1) := by decide +kernel
theorem dX10_dropStretch_14 : decode cX10_dropStretch 14 = .ok (.getfield 12, 3) := by decide +kernel
theorem dX10_dropStretch_17 : decode cX10_dropStretch 17 = .ok (.invokevirtual 402, 3) := by decide +kernel
theorem dX10_dropStretch_20 : decode cX10_dropStretch 20 = .ok (.aload_n 0, 1) := by decide +kernel
theorem dX10_dropStretch_21 : decode cX10_dropStretch 21 = .ok (.getfield 12, 3) := by decide +kernel
theorem dX10_dropStretch_24 : decode cX10_dropStretch 24 = .ok (.invokevirtual 116, 3) := by decide +kernel
theorem dX10_dropStretch_27 : decode cX10_dropStretch 27 = .ok (.ireturn, 1) := by decide +kernel
theorem dX10_trimStretch_0 : decode cX10_trimStretch 0 = .ok (.aload_n 0, 1) := by decide +kernel
theorem dX10_trimStretch_1 : decode cX10_trimStretch 1 = .ok (.getfield 12, 3) := by decide +kernel
theorem dX10_trimStretch_4 : decode cX10_trimStretch 4 = .ok (.invokevirtual 122, 3) := by decide +kernel
theorem dX10_trimStretch_7 : decode cX10_trimStretch 7 = .ok (.ifCond .ne 6, 3) := by decide +kernel
theorem dX10_trimStretch_10 : decode cX10_trimStretch 10 = .ok (.bipush (-2), 2) := by decide +kernel
theorem dX10_trimStretch_12 : decode cX10_trimStretch 12 = .ok (.ireturn, 1) := by decide +kernel
theorem dX10_trimStretch_13 : decode cX10_trimStretch 13 = .ok (.aload_n 0, 1) := by decide +kernel
theorem dX10_trimStretch_14 : decode cX10_trimStretch 14 = .ok (.getfield 12, 3) := by decide +kernel
theorem dX10_trimStretch_17 : decode cX10_trimStretch 17 = .ok (.invokevirtual 405, 3) := by decide +kernel
theorem dX10_trimStretch_20 : decode cX10_trimStretch 20 = .ok (.iload_n 1, 1) := by decide +kernel
theorem dX10_trimStretch_21 : decode cX10_trimStretch 21 = .ok (.if_icmp .gt 6, 3) := by decide +kernel
theorem dX10_trimStretch_24 : decode cX10_trimStretch 24 = .ok (.bipush (-3), 2) := by decide +kernel
theorem dX10_trimStretch_26 : decode cX10_trimStretch 26 = .ok (.ireturn, 1) := by decide +kernel
theorem dX10_trimStretch_27 : decode cX10_trimStretch 27 = .ok (.aload_n 0, 1) := by decide +kernel
theorem dX10_trimStretch_28 : decode cX10_trimStretch 28 = .ok (.getfield 12, 3) := by decide +kernel
theorem dX10_trimStretch_31 : decode cX10_trimStretch 31 = .ok (.invokevirtual 402, 3) := by decide +kernel
theorem dX10_trimStretch_34 : decode cX10_trimStretch 34 = .ok (.aload_n 0, 1) := by decide +kernel
theorem dX10_trimStretch_35 : decode cX10_trimStretch 35 = .ok (.getfield 12, 3) := by decide +kernel
theorem dX10_trimStretch_38 : decode cX10_trimStretch 38 = .ok (.iload_n 1, 1) := by decide +kernel
theorem dX10_trimStretch_39 : decode cX10_trimStretch 39 = .ok (.invokevirtual 85, 3) := by decide +kernel
theorem dX10_trimStretch_42 : decode cX10_trimStretch 42 = .ok (.aload_n 0, 1) := by decide +kernel
theorem dX10_trimStretch_43 : decode cX10_trimStretch 43 = .ok (.getfield 12, 3) := by decide +kernel
theorem dX10_trimStretch_46 : decode cX10_trimStretch 46 = .ok (.invokevirtual 116, 3) := by decide +kernel
theorem dX10_trimStretch_49 : decode cX10_trimStretch 49 = .ok (.ireturn, 1) := by decide +kernel
theorem dX10_swapStrikers_0 : decode cX10_swapStrikers 0 = .ok (.aload_n 0, 1) := by decide +kernel
theorem dX10_swapStrikers_1 : decode cX10_swapStrikers 1 = .ok (.getfield 12, 3) := by decide +kernel
theorem dX10_swapStrikers_4 : decode cX10_swapStrikers 4 = .ok (.iload_n 1, 1) := by decide +kernel
theorem dX10_swapStrikers_5 : decode cX10_swapStrikers 5 = .ok (.invokevirtual 201, 3) := by decide +kernel
theorem dX10_swapStrikers_8 : decode cX10_swapStrikers 8 = .ok (.istore_n 3, 1) := by decide +kernel
theorem dX10_swapStrikers_9 : decode cX10_swapStrikers 9 = .ok (.aload_n 0, 1) := by decide +kernel
theorem dX10_swapStrikers_10 : decode cX10_swapStrikers 10 = .ok (.getfield 12, 3) := by decide +kernel
theorem dX10_swapStrikers_13 : decode cX10_swapStrikers 13 = .ok (.iload_n 2, 1) := by decide +kernel
theorem dX10_swapStrikers_14 : decode cX10_swapStrikers 14 = .ok (.invokevirtual 201, 3) := by decide +kernel
theorem dX10_swapStrikers_17 : decode cX10_swapStrikers 17 = .ok (.istore 4, 2) := by decide +kernel
theorem dX10_swapStrikers_19 : decode cX10_swapStrikers 19 = .ok (.iload_n 3, 1) := by decide +kernel
theorem dX10_swapStrikers_20 : decode cX10_swapStrikers 20 = .ok (.iconst (-1), 1) := by decide +kernel
theorem dX10_swapStrikers_21 : decode cX10_swapStrikers 21 = .ok (.if_icmp .eq 9, 3) := by decide +kernel
theorem dX10_swapStrikers_24 : decode cX10_swapStrikers 24 = .ok (.iload 4, 2) := by decide +kernel
theorem dX10_swapStrikers_26 : decode cX10_swapStrikers 26 = .ok (.iconst (-1), 1) := by decide +kernel
theorem dX10_swapStrikers_27 : decode cX10_swapStrikers 27 = .ok (.if_icmp .ne 6, 3) := by decide +kernel
theorem dX10_swapStrikers_30 : decode cX10_swapStrikers 30 = .ok (.bipush (-2), 2) := by decide +kernel
theorem dX10_swapStrikers_32 : decode cX10_swapStrikers 32 = .ok (.ireturn, 1) := by decide +kernel
theorem dX10_swapStrikers_33 : decode cX10_swapStrikers 33 = .ok (.aload_n 0, 1) := by decide +kernel
theorem dX10_swapStrikers_34 : decode cX10_swapStrikers 34 = .ok (.invokevirtual 128, 3) := by decide +kernel
theorem dX10_swapStrikers_37 : decode cX10_swapStrikers 37 = .ok (.astore 5, 2) := by decide +kernel
theorem dX10_swapStrikers_39 : decode cX10_swapStrikers 39 = .ok (.aload_n 0, 1) := by decide +kernel
theorem dX10_swapStrikers_40 : decode cX10_swapStrikers 40 = .ok (.getfield 12, 3) := by decide +kernel
theorem dX10_swapStrikers_43 : decode cX10_swapStrikers 43 = .ok (.iload_n 3, 1) := by decide +kernel
theorem dX10_swapStrikers_44 : decode cX10_swapStrikers 44 = .ok (.iload 4, 2) := by decide +kernel
theorem dX10_swapStrikers_46 : decode cX10_swapStrikers 46 = .ok (.invokevirtual 408, 3) := by decide +kernel
theorem dX10_swapStrikers_49 : decode cX10_swapStrikers 49 = .ok (.iconst 0, 1) := by decide +kernel
theorem dX10_swapStrikers_50 : decode cX10_swapStrikers 50 = .ok (.istore 6, 2) := by decide +kernel
theorem dX10_swapStrikers_52 : decode cX10_swapStrikers 52 = .ok (.iconst 2, 1) := by decide +kernel
theorem dX10_swapStrikers_53 : decode cX10_swapStrikers 53 = .ok (.istore 7, 2) := by decide +kernel
theorem dX10_swapStrikers_55 : decode cX10_swapStrikers 55 = .ok (.iload 7, 2) := by decide +kernel
theorem dX10_swapStrikers_57 : decode cX10_swapStrikers 57 = .ok (.aload 5, 2) := by decide +kernel
theorem dX10_swapStrikers_59 : decode cX10_swapStrikers 59 = .ok (.invokevirtual 234, 3) := by decide +kernel
theorem dX10_swapStrikers_62 : decode cX10_swapStrikers 62 = .ok (.if_icmp .gt 40, 3) := by decide +kernel
theorem dX10_swapStrikers_65 : decode cX10_swapStrikers 65 = .ok (.aload 5, 2) := by decide +kernel
theorem dX10_swapStrikers_67 : decode cX10_swapStrikers 67 = .ok (.iload 7, 2) := by decide +kernel
theorem dX10_swapStrikers_69 : decode cX10_swapStrikers 69 = .ok (.invokevirtual 204, 3) := by decide +kernel
theorem dX10_swapStrikers_72 : decode cX10_swapStrikers 72 = .ok (.istore 8, 2) := by decide +kernel
theorem dX10_swapStrikers_74 : decode cX10_swapStrikers 74 = .ok (.iload 8, 2) := by decide +kernel
theorem dX10_swapStrikers_76 : decode cX10_swapStrikers 76 = .ok (.ifCond .le 20, 3) := by decide +kernel
theorem dX10_swapStrikers_79 : decode cX10_swapStrikers 79 = .ok (.aload_n 0, 1) := by decide +kernel
theorem dX10_swapStrikers_80 : decode cX10_swapStrikers 80 = .ok (.getfield 12, 3) := by decide +kernel
theorem dX10_swapStrikers_83 : decode cX10_swapStrikers 83 = .ok (.iload 7, 2) := by decide +kernel
theorem dX10_swapStrikers_85 : decode cX10_swapStrikers 85 = .ok (.invokevirtual 260, 3) := by decide +kernel
theorem dX10_swapStrikers_88 : decode cX10_swapStrikers 88 = .ok (.iload 8, 2) := by decide +kernel
theorem dX10_swapStrikers_90 : decode cX10_swapStrikers 90 = .ok (.if_icmp .eq 6, 3) := by decide +kernel
theorem dX10_swapStrikers_93 : decode cX10_swapStrikers 93 = .ok (.iinc 6 1, 3) := by decide +kernel
theorem dX10_swapStrikers_96 : decode cX10_swapStrikers 96 = .ok (.iinc 7 1, 3) := by decide +kernel
theorem dX10_swapStrikers_99 : decode cX10_swapStrikers 99 = .ok (.goto (-44), 3) := by decide +kernel
theorem dX10_swapStrikers_102 : decode cX10_swapStrikers 102 = .ok (.iload 6, 2) := by decide +kernel
theorem dX10_swapStrikers_104 : decode cX10_swapStrikers 104 = .ok (.ireturn, 1) := by decide +kernel
theorem dX10_addStriker_0 : decode cX10_addStriker 0 = .ok (.aload_n 0, 1) := by decide +kernel
theorem dX10_addStriker_1 : decode cX10_addStriker 1 = .ok (.getfield 12, 3) := by decide +kernel
theorem dX10_addStriker_4 : decode cX10_addStriker 4 = .ok (.iload_n 1, 1) := by decide +kernel
theorem dX10_addStriker_5 : decode cX10_addStriker 5 = .ok (.invokevirtual 201, 3) := by decide +kernel
theorem dX10_addStriker_8 : decode cX10_addStriker 8 = .ok (.iconst (-1), 1) := by decide +kernel
theorem dX10_addStriker_9 : decode cX10_addStriker 9 = .ok (.if_icmp .eq 6, 3) := by decide +kernel
theorem dX10_addStriker_12 : decode cX10_addStriker 12 = .ok (.bipush (-2), 2) := by decide +kernel
theorem dX10_addStriker_14 : decode cX10_addStriker 14 = .ok (.ireturn, 1) := by decide +kernel
theorem dX10_addStriker_15 : decode cX10_addStriker 15 = .ok (.aload_n 0, 1) := by decide +kernel
theorem dX10_addStriker_16 : decode cX10_addStriker 16 = .ok (.getfield 12, 3) := by decide +kernel
theorem dX10_addStriker_19 : decode cX10_addStriker 19 = .ok (.invokevirtual 125, 3) := by decide +kernel
theorem dX10_addStriker_22 : decode cX10_addStriker 22 = .ok (.bipush 30, 2) := by decide +kernel
theorem dX10_addStriker_24 : decode cX10_addStriker 24 = .ok (.if_icmp .lt 6, 3) := by decide +kernel
theorem dX10_addStriker_27 : decode cX10_addStriker 27 = .ok (.bipush (-3), 2) := by decide +kernel
theorem dX10_addStriker_29 : decode cX10_addStriker 29 = .ok (.ireturn, 1) := by decide +kernel
theorem dX10_addStriker_30 : decode cX10_addStriker 30 = .ok (.aload_n 0, 1) := by decide +kernel
theorem dX10_addStriker_31 : decode cX10_addStriker 31 = .ok (.invokevirtual 128, 3) := by decide +kernel
theorem dX10_addStriker_34 : decode cX10_addStriker 34 = .ok (.iload_n 1, 1) := by decide +kernel
theorem dX10_addStriker_35 : decode cX10_addStriker 35 = .ok (.invokevirtual 250, 3) := by decide +kernel
theorem dX10_addStriker_38 : decode cX10_addStriker 38 = .ok (.istore_n 2, 1) := by decide +kernel
theorem dX10_addStriker_39 : decode cX10_addStriker 39 = .ok (.aload_n 0, 1) := by decide +kernel
theorem dX10_addStriker_40 : decode cX10_addStriker 40 = .ok (.getfield 12, 3) := by decide +kernel
theorem dX10_addStriker_43 : decode cX10_addStriker 43 = .ok (.iload_n 1, 1) := by decide +kernel
theorem dX10_addStriker_44 : decode cX10_addStriker 44 = .ok (.invokevirtual 88, 3) := by decide +kernel
theorem dX10_addStriker_47 : decode cX10_addStriker 47 = .ok (.aload_n 0, 1) := by decide +kernel
theorem dX10_addStriker_48 : decode cX10_addStriker 48 = .ok (.getfield 73, 3) := by decide +kernel
theorem dX10_addStriker_51 : decode cX10_addStriker 51 = .ok (.iconst 4, 1) := by decide +kernel
theorem dX10_addStriker_52 : decode cX10_addStriker 52 = .ok (.dup2, 1) := by decide +kernel
theorem dX10_addStriker_53 : decode cX10_addStriker 53 = .ok (.iaload, 1) := by decide +kernel
theorem dX10_addStriker_54 : decode cX10_addStriker 54 = .ok (.iconst 1, 1) := by decide +kernel
theorem dX10_addStriker_55 : decode cX10_addStriker 55 = .ok (.iadd, 1) := by decide +kernel
theorem dX10_addStriker_56 : decode cX10_addStriker 56 = .ok (.iastore, 1) := by decide +kernel
theorem dX10_addStriker_57 : decode cX10_addStriker 57 = .ok (.iload_n 2, 1) := by decide +kernel
theorem dX10_addStriker_58 : decode cX10_addStriker 58 = .ok (.ireturn, 1) := by decide +kernel
theorem dX10_liftStriker_0 : decode cX10_liftStriker 0 = .ok (.aload_n 0, 1) := by decide +kernel
theorem dX10_liftStriker_1 : decode cX10_liftStriker 1 = .ok (.getfield 12, 3) := by decide +kernel
theorem dX10_liftStriker_4 : decode cX10_liftStriker 4 = .ok (.iload_n 1, 1) := by decide +kernel
theorem dX10_liftStriker_5 : decode cX10_liftStriker 5 = .ok (.invokevirtual 201, 3) := by decide +kernel
theorem dX10_liftStriker_8 : decode cX10_liftStriker 8 = .ok (.istore_n 2, 1) := by decide +kernel
theorem dX10_liftStriker_9 : decode cX10_liftStriker 9 = .ok (.iload_n 2, 1) := by decide +kernel
theorem dX10_liftStriker_10 : decode cX10_liftStriker 10 = .ok (.iconst (-1), 1) := by decide +kernel
theorem dX10_liftStriker_11 : decode cX10_liftStriker 11 = .ok (.if_icmp .ne 6, 3) := by decide +kernel
theorem dX10_liftStriker_14 : decode cX10_liftStriker 14 = .ok (.bipush (-2), 2) := by decide +kernel
theorem dX10_liftStriker_16 : decode cX10_liftStriker 16 = .ok (.ireturn, 1) := by decide +kernel
theorem dX10_liftStriker_17 : decode cX10_liftStriker 17 = .ok (.aload_n 0, 1) := by decide +kernel
theorem dX10_liftStriker_18 : decode cX10_liftStriker 18 = .ok (.aload_n 0, 1) := by decide +kernel
theorem dX10_liftStriker_19 : decode cX10_liftStriker 19 = .ok (.invokevirtual 128, 3) := by decide +kernel
theorem dX10_liftStriker_22 : decode cX10_liftStriker 22 = .ok (.iload_n 2, 1) := by decide +kernel
theorem dX10_liftStriker_23 : decode cX10_liftStriker 23 = .ok (.invokevirtual 253, 3) := by decide +kernel
theorem dX10_liftStriker_26 : decode cX10_liftStriker 26 = .ok (.istore_n 3, 1) := by decide +kernel
theorem dX10_liftStriker_27 : decode cX10_liftStriker 27 = .ok (.aload_n 0, 1) := by decide +kernel
theorem dX10_liftStriker_28 : decode cX10_liftStriker 28 = .ok (.getfield 12, 3) := by decide +kernel
theorem dX10_liftStriker_31 : decode cX10_liftStriker 31 = .ok (.iload_n 2, 1) := by decide +kernel
theorem dX10_liftStriker_32 : decode cX10_liftStriker 32 = .ok (.invokevirtual 412, 3) := by decide +kernel
theorem dX10_liftStriker_35 : decode cX10_liftStriker 35 = .ok (.iload_n 3, 1) := by decide +kernel
theorem dX10_liftStriker_36 : decode cX10_liftStriker 36 = .ok (.ireturn, 1) := by decide +kernel
theorem dX10_putFirst_0 : decode cX10_putFirst 0 = .ok (.aload_n 0, 1) := by decide +kernel
theorem dX10_putFirst_1 : decode cX10_putFirst 1 = .ok (.getfield 12, 3) := by decide +kernel
theorem dX10_putFirst_4 : decode cX10_putFirst 4 = .ok (.iload_n 1, 1) := by decide +kernel
theorem dX10_putFirst_5 : decode cX10_putFirst 5 = .ok (.invokevirtual 201, 3) := by decide +kernel
theorem dX10_putFirst_8 : decode cX10_putFirst 8 = .ok (.istore_n 2, 1) := by decide +kernel
theorem dX10_putFirst_9 : decode cX10_putFirst 9 = .ok (.iload_n 2, 1) := by decide +kernel
theorem dX10_putFirst_10 : decode cX10_putFirst 10 = .ok (.iconst (-1), 1) := by decide +kernel
theorem dX10_putFirst_11 : decode cX10_putFirst 11 = .ok (.if_icmp .ne 6, 3) := by decide +kernel
theorem dX10_putFirst_14 : decode cX10_putFirst 14 = .ok (.bipush (-2), 2) := by decide +kernel
theorem dX10_putFirst_16 : decode cX10_putFirst 16 = .ok (.ireturn, 1) := by decide +kernel
theorem dX10_putFirst_17 : decode cX10_putFirst 17 = .ok (.aload_n 0, 1) := by decide +kernel
theorem dX10_putFirst_18 : decode cX10_putFirst 18 = .ok (.getfield 12, 3) := by decide +kernel
theorem dX10_putFirst_21 : decode cX10_putFirst 21 = .ok (.iload_n 2, 1) := by decide +kernel
theorem dX10_putFirst_22 : decode cX10_putFirst 22 = .ok (.invokevirtual 415, 3) := by decide +kernel
theorem dX10_putFirst_25 : decode cX10_putFirst 25 = .ok (.iload_n 2, 1) := by decide +kernel
theorem dX10_putFirst_26 : decode cX10_putFirst 26 = .ok (.ireturn, 1) := by decide +kernel
theorem dX10_changeWheel_0 : decode cX10_changeWheel 0 = .ok (.aload_n 0, 1) := by decide +kernel
theorem dX10_changeWheel_1 : decode cX10_changeWheel 1 = .ok (.getfield 12, 3) := by decide +kernel
theorem dX10_changeWheel_4 : decode cX10_changeWheel 4 = .ok (.invokevirtual 119, 3) := by decide +kernel
theorem dX10_changeWheel_7 : decode cX10_changeWheel 7 = .ok (.istore_n 2, 1) := by decide +kernel
theorem dX10_changeWheel_8 : decode cX10_changeWheel 8 = .ok (.aload_n 0, 1) := by decide +kernel
theorem dX10_changeWheel_9 : decode cX10_changeWheel 9 = .ok (.getfield 12, 3) := by decide +kernel
theorem dX10_changeWheel_12 : decode cX10_changeWheel 12 = .ok (.iload_n 1, 1) := by decide +kernel
theorem dX10_changeWheel_13 : decode cX10_changeWheel 13 = .ok (.invokevirtual 418, 3) := by decide +kernel
theorem dX10_changeWheel_16 : decode cX10_changeWheel 16 = .ok (.iload_n 2, 1) := by decide +kernel
theorem dX10_changeWheel_17 : decode cX10_changeWheel 17 = .ok (.ireturn, 1) := by decide +kernel
theorem dX10_fillUp_0 : decode cX10_fillUp 0 = .ok (.iconst 0, 1) := by decide +kernel
theorem dX10_fillUp_1 : decode cX10_fillUp 1 = .ok (.istore_n 2, 1) := by decide +kernel
theorem dX10_fillUp_2 : decode cX10_fillUp 2 = .ok (.iconst 0, 1) := by decide +kernel
theorem dX10_fillUp_3 : decode cX10_fillUp 3 = .ok (.istore_n 3, 1) := by decide +kernel
theorem dX10_fillUp_4 : decode cX10_fillUp 4 = .ok (.iload_n 3, 1) := by decide +kernel
theorem dX10_fillUp_5 : decode cX10_fillUp 5 = .ok (.iload_n 1, 1) := by decide +kernel
theorem dX10_fillUp_6 : decode cX10_fillUp 6 = .ok (.if_icmp .ge 58, 3) := by decide +kernel
theorem dX10_fillUp_9 : decode cX10_fillUp 9 = .ok (.aload_n 0, 1) := by decide +kernel
theorem dX10_fillUp_10 : decode cX10_fillUp 10 = .ok (.getfield 12, 3) := by decide +kernel
theorem dX10_fillUp_13 : decode cX10_fillUp 13 = .ok (.invokevirtual 125, 3) := by decide +kernel
theorem dX10_fillUp_16 : decode cX10_fillUp 16 = .ok (.bipush 30, 2) := by decide +kernel
theorem dX10_fillUp_18 : decode cX10_fillUp 18 = .ok (.if_icmp .ge 46, 3) := by decide +kernel
theorem dX10_fillUp_21 : decode cX10_fillUp 21 = .ok (.aload_n 0, 1) := by decide +kernel
theorem dX10_fillUp_22 : decode cX10_fillUp 22 = .ok (.getfield 12, 3) := by decide +kernel
theorem dX10_fillUp_25 : decode cX10_fillUp 25 = .ok (.aload_n 0, 1) := by decide +kernel
theorem dX10_fillUp_26 : decode cX10_fillUp 26 = .ok (.getfield 12, 3) := by decide +kernel
theorem dX10_fillUp_29 : decode cX10_fillUp 29 = .ok (.invokevirtual 119, 3) := by decide +kernel
theorem dX10_fillUp_32 : decode cX10_fillUp 32 = .ok (.invokevirtual 244, 3) := by decide +kernel
theorem dX10_fillUp_35 : decode cX10_fillUp 35 = .ok (.istore 4, 2) := by decide +kernel
theorem dX10_fillUp_37 : decode cX10_fillUp 37 = .ok (.iload 4, 2) := by decide +kernel
theorem dX10_fillUp_39 : decode cX10_fillUp 39 = .ok (.iconst (-1), 1) := by decide +kernel
theorem dX10_fillUp_40 : decode cX10_fillUp 40 = .ok (.if_icmp .ne 6, 3) := by decide +kernel
theorem dX10_fillUp_43 : decode cX10_fillUp 43 = .ok (.goto 21, 3) := by decide +kernel
theorem dX10_fillUp_46 : decode cX10_fillUp 46 = .ok (.aload_n 0, 1) := by decide +kernel
theorem dX10_fillUp_47 : decode cX10_fillUp 47 = .ok (.getfield 12, 3) := by decide +kernel
theorem dX10_fillUp_50 : decode cX10_fillUp 50 = .ok (.iload 4, 2) := by decide +kernel
theorem dX10_fillUp_52 : decode cX10_fillUp 52 = .ok (.invokevirtual 88, 3) := by decide +kernel
theorem dX10_fillUp_55 : decode cX10_fillUp 55 = .ok (.iinc 2 1, 3) := by decide +kernel
theorem dX10_fillUp_58 : decode cX10_fillUp 58 = .ok (.iinc 3 1, 3) := by decide +kernel
theorem dX10_fillUp_61 : decode cX10_fillUp 61 = .ok (.goto (-57), 3) := by decide +kernel
theorem dX10_fillUp_64 : decode cX10_fillUp 64 = .ok (.aload_n 0, 1) := by decide +kernel
theorem dX10_fillUp_65 : decode cX10_fillUp 65 = .ok (.getfield 73, 3) := by decide +kernel
theorem dX10_fillUp_68 : decode cX10_fillUp 68 = .ok (.iconst 4, 1) := by decide +kernel
theorem dX10_fillUp_69 : decode cX10_fillUp 69 = .ok (.dup2, 1) := by decide +kernel
theorem dX10_fillUp_70 : decode cX10_fillUp 70 = .ok (.iaload, 1) := by decide +kernel
theorem dX10_fillUp_71 : decode cX10_fillUp 71 = .ok (.iload_n 2, 1) := by decide +kernel
theorem dX10_fillUp_72 : decode cX10_fillUp 72 = .ok (.iadd, 1) := by decide +kernel
theorem dX10_fillUp_73 : decode cX10_fillUp 73 = .ok (.iastore, 1) := by decide +kernel
theorem dX10_fillUp_74 : decode cX10_fillUp 74 = .ok (.iload_n 2, 1) := by decide +kernel
theorem dX10_fillUp_75 : decode cX10_fillUp 75 = .ok (.ireturn, 1) := by decide +kernel
theorem dX10_takeIdleAway_0 : decode cX10_takeIdleAway 0 = .ok (.aload_n 0, 1) := by decide +kernel
theorem dX10_takeIdleAway_1 : decode cX10_takeIdleAway 1 = .ok (.invokevirtual 128, 3) := by decide +kernel
theorem dX10_takeIdleAway_4 : decode cX10_takeIdleAway 4 = .ok (.astore_n 1, 1) := by decide +kernel
theorem dX10_takeIdleAway_5 : decode cX10_takeIdleAway 5 = .ok (.iconst 0, 1) := by decide +kernel
theorem dX10_takeIdleAway_6 : decode cX10_takeIdleAway 6 = .ok (.istore_n 2, 1) := by decide +kernel
theorem dX10_takeIdleAway_7 : decode cX10_takeIdleAway 7 = .ok (.aload_n 0, 1) := by decide +kernel
theorem dX10_takeIdleAway_8 : decode cX10_takeIdleAway 8 = .ok (.getfield 12, 3) := by decide +kernel
theorem dX10_takeIdleAway_11 : decode cX10_takeIdleAway 11 = .ok (.invokevirtual 125, 3) := by decide +kernel
theorem dX10_takeIdleAway_14 : decode cX10_takeIdleAway 14 = .ok (.iconst 1, 1) := by decide +kernel
theorem dX10_takeIdleAway_15 : decode cX10_takeIdleAway 15 = .ok (.isub, 1) := by decide +kernel
theorem dX10_takeIdleAway_16 : decode cX10_takeIdleAway 16 = .ok (.istore_n 3, 1) := by decide +kernel
theorem dX10_takeIdleAway_17 : decode cX10_takeIdleAway 17 = .ok (.iload_n 3, 1) := by decide +kernel
theorem dX10_takeIdleAway_18 : decode cX10_takeIdleAway 18 = .ok (.ifCond .lt 36, 3) := by decide +kernel
theorem dX10_takeIdleAway_21 : decode cX10_takeIdleAway 21 = .ok (.aload_n 1, 1) := by decide +kernel
theorem dX10_takeIdleAway_22 : decode cX10_takeIdleAway 22 = .ok (.aload_n 0, 1) := by decide +kernel
theorem dX10_takeIdleAway_23 : decode cX10_takeIdleAway 23 = .ok (.getfield 12, 3) := by decide +kernel
theorem dX10_takeIdleAway_26 : decode cX10_takeIdleAway 26 = .ok (.iload_n 3, 1) := by decide +kernel
theorem dX10_takeIdleAway_27 : decode cX10_takeIdleAway 27 = .ok (.invokevirtual 182, 3) := by decide +kernel
theorem dX10_takeIdleAway_30 : decode cX10_takeIdleAway 30 = .ok (.invokevirtual 198, 3) := by decide +kernel
theorem dX10_takeIdleAway_33 : decode cX10_takeIdleAway 33 = .ok (.iconst (-1), 1) := by decide +kernel
theorem dX10_takeIdleAway_34 : decode cX10_takeIdleAway 34 = .ok (.if_icmp .ne 14, 3) := by decide +kernel
theorem dX10_takeIdleAway_37 : decode cX10_takeIdleAway 37 = .ok (.aload_n 0, 1) := by decide +kernel
theorem dX10_takeIdleAway_38 : decode cX10_takeIdleAway 38 = .ok (.getfield 12, 3) := by decide +kernel
theorem dX10_takeIdleAway_41 : decode cX10_takeIdleAway 41 = .ok (.iload_n 3, 1) := by decide +kernel
theorem dX10_takeIdleAway_42 : decode cX10_takeIdleAway 42 = .ok (.invokevirtual 412, 3) := by decide +kernel
theorem dX10_takeIdleAway_45 : decode cX10_takeIdleAway 45 = .ok (.iinc 2 1, 3) := by decide +kernel
theorem dX10_takeIdleAway_48 : decode cX10_takeIdleAway 48 = .ok (.iinc 3 (-1), 3) := by decide +kernel
theorem dX10_takeIdleAway_51 : decode cX10_takeIdleAway 51 = .ok (.goto (-34), 3) := by decide +kernel
theorem dX10_takeIdleAway_54 : decode cX10_takeIdleAway 54 = .ok (.iload_n 2, 1) := by decide +kernel
theorem dX10_takeIdleAway_55 : decode cX10_takeIdleAway 55 = .ok (.ireturn, 1) := by decide +kernel
theorem dX10_closeReading_0 : decode cX10_closeReading 0 = .ok (.aload_n 0, 1) := by decide +kernel
theorem dX10_closeReading_1 : decode cX10_closeReading 1 = .ok (.getfield 46, 3) := by decide +kernel
theorem dX10_closeReading_4 : decode cX10_closeReading 4 = .ok (.invokevirtual 421, 3) := by decide +kernel
theorem dX10_closeReading_7 : decode cX10_closeReading 7 = .ok (.aload_n 0, 1) := by decide +kernel
theorem dX10_closeReading_8 : decode cX10_closeReading 8 = .ok (.aload_n 0, 1) := by decide +kernel
theorem dX10_closeReading_9 : decode cX10_closeReading 9 = .ok (.getfield 55, 3) := by decide +kernel
theorem dX10_closeReading_12 : decode cX10_closeReading 12 = .ok (.invokevirtual 424, 3) := by decide +kernel
theorem dX10_closeReading_15 : decode cX10_closeReading 15 = .ok (.putfield 77, 3) := by decide +kernel
theorem dX10_closeReading_18 : decode cX10_closeReading 18 = .ok (.return_, 1) := by decide +kernel
theorem dX11_init_0 : decode cX11_init 0 = .ok (.aload_n 0, 1) := by decide +kernel
theorem dX11_init_1 : decode cX11_init 1 = .ok (.invokespecial 1, 3) := by decide +kernel
theorem dX11_init_4 : decode cX11_init 4 = .ok (.aload_n 0, 1) := by decide +kernel
theorem dX11_init_5 : decode cX11_init 5 = .ok (.bipush 45, 2) := by decide +kernel
theorem dX11_init_7 : decode cX11_init 7 = .ok (.newarray .int, 2) := by decide +kernel
theorem dX11_init_9 : decode cX11_init 9 = .ok (.putfield 9, 3) := by decide +kernel
theorem dX11_init_12 : decode cX11_init 12 = .ok (.aload_n 0, 1) := by decide +kernel
theorem dX11_init_13 : decode cX11_init 13 = .ok (.bipush 45, 2) := by decide +kernel
theorem dX11_init_15 : decode cX11_init 15 = .ok (.newarray .int, 2) := by decide +kernel
theorem dX11_init_17 : decode cX11_init 17 = .ok (.putfield 13, 3) := by decide +kernel
theorem dX11_init_20 : decode cX11_init 20 = .ok (.aload_n 0, 1) := by decide +kernel
theorem dX11_init_21 : decode cX11_init 21 = .ok (.bipush 45, 2) := by decide +kernel
theorem dX11_init_23 : decode cX11_init 23 = .ok (.newarray .int, 2) := by decide +kernel
theorem dX11_init_25 : decode cX11_init 25 = .ok (.putfield 16, 3) := by decide +kernel
theorem dX11_init_28 : decode cX11_init 28 = .ok (.aload_n 0, 1) := by decide +kernel
theorem dX11_init_29 : decode cX11_init 29 = .ok (.bipush 45, 2) := by decide +kernel
theorem dX11_init_31 : decode cX11_init 31 = .ok (.newarray .int, 2) := by decide +kernel
theorem dX11_init_33 : decode cX11_init 33 = .ok (.putfield 19, 3) := by decide +kernel
theorem dX11_init_36 : decode cX11_init 36 = .ok (.aload_n 0, 1) := by decide +kernel
theorem dX11_init_37 : decode cX11_init 37 = .ok (.sipush 360, 3) := by decide +kernel
theorem dX11_init_40 : decode cX11_init 40 = .ok (.newarray .int, 2) := by decide +kernel
theorem dX11_init_42 : decode cX11_init 42 = .ok (.putfield 22, 3) := by decide +kernel
theorem dX11_init_45 : decode cX11_init 45 = .ok (.aload_n 0, 1) := by decide +kernel
theorem dX11_init_46 : decode cX11_init 46 = .ok (.iconst 5, 1) := by decide +kernel
theorem dX11_init_47 : decode cX11_init 47 = .ok (.newarray .int, 2) := by decide +kernel
theorem dX11_init_49 : decode cX11_init 49 = .ok (.putfield 25, 3) := by decide +kernel
theorem dX11_init_52 : decode cX11_init 52 = .ok (.aload_n 0, 1) := by decide +kernel
theorem dX11_init_53 : decode cX11_init 53 = .ok (.iconst 4, 1) := by decide +kernel
theorem dX11_init_54 : decode cX11_init 54 = .ok (.newarray .int, 2) := by decide +kernel
theorem dX11_init_56 : decode cX11_init 56 = .ok (.dup, 1) := by decide +kernel
theorem dX11_init_57 : decode cX11_init 57 = .ok (.iconst 0, 1) := by decide +kernel
theorem dX11_init_58 : decode cX11_init 58 = .ok (.iconst 2, 1) := by decide +kernel
theorem dX11_init_59 : decode cX11_init 59 = .ok (.iastore, 1) := by decide +kernel
theorem dX11_init_60 : decode cX11_init 60 = .ok (.dup, 1) := by decide +kernel
theorem dX11_init_61 : decode cX11_init 61 = .ok (.iconst 1, 1) := by decide +kernel
theorem dX11_init_62 : decode cX11_init 62 = .ok (.iconst 3, 1) := by decide +kernel
theorem dX11_init_63 : decode cX11_init 63 = .ok (.iastore, 1) := by decide +kernel
theorem dX11_init_64 : decode cX11_init 64 = .ok (.dup, 1) := by decide +kernel
theorem dX11_init_65 : decode cX11_init 65 = .ok (.iconst 2, 1) := by decide +kernel
theorem dX11_init_66 : decode cX11_init 66 = .ok (.iconst 5, 1) := by decide +kernel
theorem dX11_init_67 : decode cX11_init 67 = .ok (.iastore, 1) := by decide +kernel
theorem dX11_init_68 : decode cX11_init 68 = .ok (.dup, 1) := by decide +kernel
theorem dX11_init_69 : decode cX11_init 69 = .ok (.iconst 3, 1) := by decide +kernel
theorem dX11_init_70 : decode cX11_init 70 = .ok (.bipush 7, 2) := by decide +kernel
theorem dX11_init_72 : decode cX11_init 72 = .ok (.iastore, 1) := by decide +kernel
theorem dX11_init_73 : decode cX11_init 73 = .ok (.putfield 28, 3) := by decide +kernel
theorem dX11_init_76 : decode cX11_init 76 = .ok (.aload_n 0, 1) := by decide +kernel
theorem dX11_init_77 : decode cX11_init 77 = .ok (.aload_n 0, 1) := by decide +kernel
theorem dX11_init_78 : decode cX11_init 78 = .ok (.getfield 9, 3) := by decide +kernel
theorem dX11_init_81 : decode cX11_init 81 = .ok (.putfield 31, 3) := by decide +kernel
theorem dX11_init_84 : decode cX11_init 84 = .ok (.aload_n 0, 1) := by decide +kernel
theorem dX11_init_85 : decode cX11_init 85 = .ok (.sipush 5300, 3) := by decide +kernel
theorem dX11_init_88 : decode cX11_init 88 = .ok (.newarray .int, 2) := by decide +kernel
theorem dX11_init_90 : decode cX11_init 90 = .ok (.putfield 34, 3) := by decide +kernel
theorem dX11_init_93 : decode cX11_init 93 = .ok (.aload_n 0, 1) := by decide +kernel
theorem dX11_init_94 : decode cX11_init 94 = .ok (.sipush 5300, 3) := by decide +kernel
theorem dX11_init_97 : decode cX11_init 97 = .ok (.newarray .int, 2) := by decide +kernel
theorem dX11_init_99 : decode cX11_init 99 = .ok (.putfield 37, 3) := by decide +kernel
theorem dX11_init_102 : decode cX11_init 102 = .ok (.aload_n 0, 1) := by decide +kernel
theorem dX11_init_103 : decode cX11_init 103 = .ok (.sipush 5300, 3) := by decide +kernel
theorem dX11_init_106 : decode cX11_init 106 = .ok (.newarray .int, 2) := by decide +kernel
theorem dX11_init_108 : decode cX11_init 108 = .ok (.putfield 40, 3) := by decide +kernel
theorem dX11_init_111 : decode cX11_init 111 = .ok (.aload_n 0, 1) := by decide +kernel
theorem dX11_init_112 : decode cX11_init 112 = .ok (.sipush 2200, 3) := by decide +kernel
theorem dX11_init_115 : decode cX11_init 115 = .ok (.newarray .int, 2) := by decide +kernel
theorem dX11_init_117 : decode cX11_init 117 = .ok (.putfield 43, 3) := by decide +kernel
theorem dX11_init_120 : decode cX11_init 120 = .ok (.aload_n 0, 1) := by decide +kernel
theorem dX11_init_121 : decode cX11_init 121 = .ok (.sipush 600, 3) := by decide +kernel
theorem dX11_init_124 : decode cX11_init 124 = .ok (.newarray .int, 2) := by decide +kernel
theorem dX11_init_126 : decode cX11_init 126 = .ok (.putfield 46, 3) := by decide +kernel
theorem dX11_init_129 : decode cX11_init 129 = .ok (.aload_n 0, 1) := by decide +kernel
theorem dX11_init_130 : decode cX11_init 130 = .ok (.iconst (-1), 1) := by decide +kernel
theorem dX11_init_131 : decode cX11_init 131 = .ok (.putfield 49, 3) := by decide +kernel
theorem dX11_init_134 : decode cX11_init 134 = .ok (.aload_n 0, 1) := by decide +kernel
theorem dX11_init_135 : decode cX11_init 135 = .ok (.bipush 60, 2) := by decide +kernel
theorem dX11_init_137 : decode cX11_init 137 = .ok (.newarray .int, 2) := by decide +kernel
theorem dX11_init_139 : decode cX11_init 139 = .ok (.putfield 53, 3) := by decide +kernel
theorem dX11_init_142 : decode cX11_init 142 = .ok (.aload_n 0, 1) := by decide +kernel
theorem dX11_init_143 : decode cX11_init 143 = .ok (.bipush 8, 2) := by decide +kernel
theorem dX11_init_145 : decode cX11_init 145 = .ok (.anewarray 56, 3) := by decide +kernel
theorem dX11_init_148 : decode cX11_init 148 = .ok (.dup, 1) := by decide +kernel
theorem dX11_init_149 : decode cX11_init 149 = .ok (.iconst 0, 1) := by decide +kernel
theorem dX11_init_150 : decode cX11_init 150 = .ok (.ldc 58, 2) := by decide +kernel
theorem dX11_init_152 : decode cX11_init 152 = .ok (.aastore, 1) := by decide +kernel
theorem dX11_init_153 : decode cX11_init 153 = .ok (.dup, 1) := by decide +kernel
theorem dX11_init_154 : decode cX11_init 154 = .ok (.iconst 1, 1) := by decide +kernel
theorem dX11_init_155 : decode cX11_init 155 = .ok (.ldc 60, 2) := by decide +kernel
theorem dX11_init_157 : decode cX11_init 157 = .ok (.aastore, 1) := by decide +kernel
theorem dX11_init_158 : decode cX11_init 158 = .ok (.dup, 1) := by decide +kernel
theorem dX11_init_159 : decode cX11_init 159 = .ok (.iconst 2, 1) := by decide +kernel
theorem dX11_init_160 : decode cX11_init 160 = .ok (.ldc 62, 2) := by decide +kernel
theorem dX11_init_162 : decode cX11_init 162 = .ok (.aastore, 1) := by decide +kernel
theorem dX11_init_163 : decode cX11_init 163 = .ok (.dup, 1) := by decide +kernel
theorem dX11_init_164 : decode cX11_init 164 = .ok (.iconst 3, 1) := by decide +kernel
theorem dX11_init_165 : decode cX11_init 165 = .ok (.ldc 64, 2) := by decide +kernel
theorem dX11_init_167 : decode cX11_init 167 = .ok (.aastore, 1) := by decide +kernel
theorem dX11_init_168 : decode cX11_init 168 = .ok (.dup, 1) := by decide +kernel
theorem dX11_init_169 : decode cX11_init 169 = .ok (.iconst 4, 1) := by decide +kernel
theorem dX11_init_170 : decode cX11_init 170 = .ok (.ldc 66, 2) := by decide +kernel
theorem dX11_init_172 : decode cX11_init 172 = .ok (.aastore, 1) := by decide +kernel
theorem dX11_init_173 : decode cX11_init 173 = .ok (.dup, 1) := by decide +kernel
theorem dX11_init_174 : decode cX11_init 174 = .ok (.iconst 5, 1) := by decide +kernel
theorem dX11_init_175 : decode cX11_init 175 = .ok (.ldc 68, 2) := by decide +kernel
theorem dX11_init_177 : decode cX11_init 177 = .ok (.aastore, 1) := by decide +kernel
theorem dX11_init_178 : decode cX11_init 178 = .ok (.dup, 1) := by decide +kernel
theorem dX11_init_179 : decode cX11_init 179 = .ok (.bipush 6, 2) := by decide +kernel
theorem dX11_init_181 : decode cX11_init 181 = .ok (.ldc 70, 2) := by decide +kernel
theorem dX11_init_183 : decode cX11_init 183 = .ok (.aastore, 1) := by decide +kernel
theorem dX11_init_184 : decode cX11_init 184 = .ok (.dup, 1) := by decide +kernel
theorem dX11_init_185 : decode cX11_init 185 = .ok (.bipush 7, 2) := by decide +kernel
theorem dX11_init_187 : decode cX11_init 187 = .ok (.ldc 72, 2) := by decide +kernel
theorem dX11_init_189 : decode cX11_init 189 = .ok (.aastore, 1) := by decide +kernel
theorem dX11_init_190 : decode cX11_init 190 = .ok (.putfield 74, 3) := by decide +kernel
theorem dX11_init_193 : decode cX11_init 193 = .ok (.aload_n 0, 1) := by decide +kernel
theorem dX11_init_194 : decode cX11_init 194 = .ok (.getfield 31, 3) := by decide +kernel
theorem dX11_init_197 : decode cX11_init 197 = .ok (.iconst 0, 1) := by decide +kernel
theorem dX11_init_198 : decode cX11_init 198 = .ok (.iconst 1, 1) := by decide +kernel
theorem dX11_init_199 : decode cX11_init 199 = .ok (.iastore, 1) := by decide +kernel
theorem dX11_init_200 : decode cX11_init 200 = .ok (.aload_n 0, 1) := by decide +kernel
theorem dX11_init_201 : decode cX11_init 201 = .ok (.getfield 31, 3) := by decide +kernel
theorem dX11_init_204 : decode cX11_init 204 = .ok (.iconst 1, 1) := by decide +kernel
theorem dX11_init_205 : decode cX11_init 205 = .ok (.iconst 1, 1) := by decide +kernel
theorem dX11_init_206 : decode cX11_init 206 = .ok (.iastore, 1) := by decide +kernel
theorem dX11_init_207 : decode cX11_init 207 = .ok (.aload_n 0, 1) := by decide +kernel
theorem dX11_init_208 : decode cX11_init 208 = .ok (.getfield 31, 3) := by decide +kernel
theorem dX11_init_211 : decode cX11_init 211 = .ok (.iconst 2, 1) := by decide +kernel
theorem dX11_init_212 : decode cX11_init 212 = .ok (.bipush 29, 2) := by decide +kernel
theorem dX11_init_214 : decode cX11_init 214 = .ok (.iastore, 1) := by decide +kernel
theorem dX11_init_215 : decode cX11_init 215 = .ok (.aload_n 0, 1) := by decide +kernel
theorem dX11_init_216 : decode cX11_init 216 = .ok (.getfield 31, 3) := by decide +kernel
theorem dX11_init_219 : decode cX11_init 219 = .ok (.bipush 14, 2) := by decide +kernel
theorem dX11_init_221 : decode cX11_init 221 = .ok (.iconst 1, 1) := by decide +kernel
theorem dX11_init_222 : decode cX11_init 222 = .ok (.iastore, 1) := by decide +kernel
theorem dX11_init_223 : decode cX11_init 223 = .ok (.aload_n 0, 1) := by decide +kernel
theorem dX11_init_224 : decode cX11_init 224 = .ok (.getfield 31, 3) := by decide +kernel
theorem dX11_init_227 : decode cX11_init 227 = .ok (.bipush 15, 2) := by decide +kernel
theorem dX11_init_229 : decode cX11_init 229 = .ok (.iconst 3, 1) := by decide +kernel
theorem dX11_init_230 : decode cX11_init 230 = .ok (.iastore, 1) := by decide +kernel
theorem dX11_init_231 : decode cX11_init 231 = .ok (.return_, 1) := by decide +kernel
theorem dX11_thrown_0 : decode cX11_thrown 0 = .ok (.aload_n 0, 1) := by decide +kernel
theorem dX11_thrown_1 : decode cX11_thrown 1 = .ok (.getfield 78, 3) := by decide +kernel
theorem dX11_thrown_4 : decode cX11_thrown 4 = .ok (.ireturn, 1) := by decide +kernel
theorem dX11_raise_0 : decode cX11_raise 0 = .ok (.aload_n 0, 1) := by decide +kernel
theorem dX11_raise_1 : decode cX11_raise 1 = .ok (.iload_n 1, 1) := by decide +kernel
theorem dX11_raise_2 : decode cX11_raise 2 = .ok (.putfield 78, 3) := by decide +kernel
theorem dX11_raise_5 : decode cX11_raise 5 = .ok (.iconst 0, 1) := by decide +kernel
theorem dX11_raise_6 : decode cX11_raise 6 = .ok (.ireturn, 1) := by decide +kernel
theorem dX11_inRange_0 : decode cX11_inRange 0 = .ok (.iload_n 0, 1) := by decide +kernel
theorem dX11_inRange_1 : decode cX11_inRange 1 = .ok (.iload_n 1, 1) := by decide +kernel
theorem dX11_inRange_2 : decode cX11_inRange 2 = .ok (.if_icmp .lt 12, 3) := by decide +kernel
theorem dX11_inRange_5 : decode cX11_inRange 5 = .ok (.iload_n 0, 1) := by decide +kernel
theorem dX11_inRange_6 : decode cX11_inRange 6 = .ok (.iload_n 2, 1) := by decide +kernel
theorem dX11_inRange_7 : decode cX11_inRange 7 = .ok (.if_icmp .gt 7, 3) := by decide +kernel
theorem dX11_inRange_10 : decode cX11_inRange 10 = .ok (.iconst 1, 1) := by decide +kernel
theorem dX11_inRange_11 : decode cX11_inRange 11 = .ok (.goto 4, 3) := by decide +kernel
theorem dX11_inRange_14 : decode cX11_inRange 14 = .ok (.iconst 0, 1) := by decide +kernel
theorem dX11_inRange_15 : decode cX11_inRange 15 = .ok (.ireturn, 1) := by decide +kernel
theorem dX11_lacks_0 : decode cX11_lacks 0 = .ok (.aload_n 0, 1) := by decide +kernel
theorem dX11_lacks_1 : decode cX11_lacks 1 = .ok (.iload_n 1, 1) := by decide +kernel
theorem dX11_lacks_2 : decode cX11_lacks 2 = .ok (.ifCond .eq 7, 3) := by decide +kernel
theorem dX11_lacks_5 : decode cX11_lacks 5 = .ok (.iconst 0, 1) := by decide +kernel
theorem dX11_lacks_6 : decode cX11_lacks 6 = .ok (.goto 4, 3) := by decide +kernel
theorem dX11_lacks_9 : decode cX11_lacks 9 = .ok (.iconst 1, 1) := by decide +kernel
theorem dX11_lacks_10 : decode cX11_lacks 10 = .ok (.putfield 78, 3) := by decide +kernel
theorem dX11_lacks_13 : decode cX11_lacks 13 = .ok (.iload_n 1, 1) := by decide +kernel
theorem dX11_lacks_14 : decode cX11_lacks 14 = .ok (.ifCond .ne 7, 3) := by decide +kernel
theorem dX11_lacks_17 : decode cX11_lacks 17 = .ok (.iconst 1, 1) := by decide +kernel
theorem dX11_lacks_18 : decode cX11_lacks 18 = .ok (.goto 4, 3) := by decide +kernel
theorem dX11_lacks_21 : decode cX11_lacks 21 = .ok (.iconst 0, 1) := by decide +kernel
theorem dX11_lacks_22 : decode cX11_lacks 22 = .ok (.ireturn, 1) := by decide +kernel
theorem dX11_isStretch_0 : decode cX11_isStretch 0 = .ok (.iload_n 1, 1) := by decide +kernel
theorem dX11_isStretch_1 : decode cX11_isStretch 1 = .ok (.iconst 0, 1) := by decide +kernel
theorem dX11_isStretch_2 : decode cX11_isStretch 2 = .ok (.aload_n 0, 1) := by decide +kernel
theorem dX11_isStretch_3 : decode cX11_isStretch 3 = .ok (.getfield 31, 3) := by decide +kernel
theorem dX11_isStretch_6 : decode cX11_isStretch 6 = .ok (.iconst 1, 1) := by decide +kernel
theorem dX11_isStretch_7 : decode cX11_isStretch 7 = .ok (.iaload, 1) := by decide +kernel
theorem dX11_isStretch_8 : decode cX11_isStretch 8 = .ok (.iconst 1, 1) := by decide +kernel
theorem dX11_isStretch_9 : decode cX11_isStretch 9 = .ok (.isub, 1) := by decide +kernel
theorem dX11_isStretch_10 : decode cX11_isStretch 10 = .ok (.invokestatic 81, 3) := by decide +kernel
theorem dX11_isStretch_13 : decode cX11_isStretch 13 = .ok (.ireturn, 1) := by decide +kernel
theorem dX11_isStriker_0 : decode cX11_isStriker 0 = .ok (.iload_n 1, 1) := by decide +kernel
theorem dX11_isStriker_1 : decode cX11_isStriker 1 = .ok (.iconst 0, 1) := by decide +kernel
theorem dX11_isStriker_2 : decode cX11_isStriker 2 = .ok (.aload_n 0, 1) := by decide +kernel
theorem dX11_isStriker_3 : decode cX11_isStriker 3 = .ok (.getfield 31, 3) := by decide +kernel
theorem dX11_isStriker_6 : decode cX11_isStriker 6 = .ok (.bipush 14, 2) := by decide +kernel
theorem dX11_isStriker_8 : decode cX11_isStriker 8 = .ok (.iaload, 1) := by decide +kernel
theorem dX11_isStriker_9 : decode cX11_isStriker 9 = .ok (.iconst 1, 1) := by decide +kernel
theorem dX11_isStriker_10 : decode cX11_isStriker 10 = .ok (.isub, 1) := by decide +kernel
theorem dX11_isStriker_11 : decode cX11_isStriker 11 = .ok (.invokestatic 81, 3) := by decide +kernel
theorem dX11_isStriker_14 : decode cX11_isStriker 14 = .ok (.ireturn, 1) := by decide +kernel
theorem dX11_isD_0 : decode cX11_isD 0 = .ok (.iload_n 0, 1) := by decide +kernel
theorem dX11_isD_1 : decode cX11_isD 1 = .ok (.iconst 2, 1) := by decide +kernel
theorem dX11_isD_2 : decode cX11_isD 2 = .ok (.bipush 120, 2) := by decide +kernel
theorem dX11_isD_4 : decode cX11_isD 4 = .ok (.invokestatic 81, 3) := by decide +kernel
theorem dX11_isD_7 : decode cX11_isD 7 = .ok (.ireturn, 1) := by decide +kernel
theorem dX11_isRoom_0 : decode cX11_isRoom 0 = .ok (.iload_n 0, 1) := by decide +kernel
theorem dX11_isRoom_1 : decode cX11_isRoom 1 = .ok (.iconst 1, 1) := by decide +kernel
theorem dX11_isRoom_2 : decode cX11_isRoom 2 = .ok (.sipush 400, 3) := by decide +kernel
theorem dX11_isRoom_5 : decode cX11_isRoom 5 = .ok (.invokestatic 81, 3) := by decide +kernel
theorem dX11_isRoom_8 : decode cX11_isRoom 8 = .ok (.ireturn, 1) := by decide +kernel
theorem dX11_lastOf_0 : decode cX11_lastOf 0 = .ok (.iconst 1, 1) := by decide +kernel
theorem dX11_lastOf_1 : decode cX11_lastOf 1 = .ok (.istore_n 2, 1) := by decide +kernel
theorem dX11_lastOf_2 : decode cX11_lastOf 2 = .ok (.iconst 0, 1) := by decide +kernel
theorem dX11_lastOf_3 : decode cX11_lastOf 3 = .ok (.istore_n 3, 1) := by decide +kernel
theorem dX11_lastOf_4 : decode cX11_lastOf 4 = .ok (.iload_n 3, 1) := by decide +kernel
theorem dX11_lastOf_5 : decode cX11_lastOf 5 = .ok (.iload_n 1, 1) := by decide +kernel
theorem dX11_lastOf_6 : decode cX11_lastOf 6 = .ok (.if_icmp .ge 20, 3) := by decide +kernel
theorem dX11_lastOf_9 : decode cX11_lastOf 9 = .ok (.iload_n 2, 1) := by decide +kernel
theorem dX11_lastOf_10 : decode cX11_lastOf 10 = .ok (.aload_n 0, 1) := by decide +kernel
theorem dX11_lastOf_11 : decode cX11_lastOf 11 = .ok (.getfield 31, 3) := by decide +kernel
theorem dX11_lastOf_14 : decode cX11_lastOf 14 = .ok (.iconst 2, 1) := by decide +kernel
theorem dX11_lastOf_15 : decode cX11_lastOf 15 = .ok (.iload_n 3, 1) := by decide +kernel
theorem dX11_lastOf_16 : decode cX11_lastOf 16 = .ok (.iadd, 1) := by decide +kernel
theorem dX11_lastOf_17 : decode cX11_lastOf 17 = .ok (.iaload, 1) := by decide +kernel
theorem dX11_lastOf_18 : decode cX11_lastOf 18 = .ok (.iadd, 1) := by decide +kernel
theorem dX11_lastOf_19 : decode cX11_lastOf 19 = .ok (.istore_n 2, 1) := by decide +kernel
theorem dX11_lastOf_20 : decode cX11_lastOf 20 = .ok (.iinc 3 1, 3) := by decide +kernel
theorem dX11_lastOf_23 : decode cX11_lastOf 23 = .ok (.goto (-19), 3) := by decide +kernel
theorem dX11_lastOf_26 : decode cX11_lastOf 26 = .ok (.iload_n 2, 1) := by decide +kernel
theorem dX11_lastOf_27 : decode cX11_lastOf 27 = .ok (.ireturn, 1) := by decide +kernel
theorem dX11_last_0 : decode cX11_last 0 = .ok (.aload_n 0, 1) := by decide +kernel
theorem dX11_last_1 : decode cX11_last 1 = .ok (.aload_n 0, 1) := by decide +kernel
theorem dX11_last_2 : decode cX11_last 2 = .ok (.getfield 31, 3) := by decide +kernel
theorem dX11_last_5 : decode cX11_last 5 = .ok (.iconst 1, 1) := by decide +kernel
theorem dX11_last_6 : decode cX11_last 6 = .ok (.iaload, 1) := by decide +kernel
theorem dX11_last_7 : decode cX11_last 7 = .ok (.invokevirtual 85, 3) := by decide +kernel
theorem dX11_last_10 : decode cX11_last 10 = .ok (.ireturn, 1) := by decide +kernel
theorem dX11_isLaid_0 : decode cX11_isLaid 0 = .ok (.iload_n 1, 1) := by decide +kernel
theorem dX11_isLaid_1 : decode cX11_isLaid 1 = .ok (.iconst 2, 1) := by decide +kernel
theorem dX11_isLaid_2 : decode cX11_isLaid 2 = .ok (.aload_n 0, 1) := by decide +kernel
theorem dX11_isLaid_3 : decode cX11_isLaid 3 = .ok (.invokevirtual 89, 3) := by decide +kernel
theorem dX11_isLaid_6 : decode cX11_isLaid 6 = .ok (.invokestatic 81, 3) := by decide +kernel
theorem dX11_isLaid_9 : decode cX11_isLaid 9 = .ok (.ireturn, 1) := by decide +kernel
theorem dX11_placeOf_0 : decode cX11_placeOf 0 = .ok (.iconst 0, 1) := by decide +kernel
theorem dX11_placeOf_1 : decode cX11_placeOf 1 = .ok (.istore_n 2, 1) := by decide +kernel
theorem dX11_placeOf_2 : decode cX11_placeOf 2 = .ok (.iload_n 2, 1) := by decide +kernel
theorem dX11_placeOf_3 : decode cX11_placeOf 3 = .ok (.aload_n 0, 1) := by decide +kernel
theorem dX11_placeOf_4 : decode cX11_placeOf 4 = .ok (.getfield 31, 3) := by decide +kernel
theorem dX11_placeOf_7 : decode cX11_placeOf 7 = .ok (.bipush 14, 2) := by decide +kernel
theorem dX11_placeOf_9 : decode cX11_placeOf 9 = .ok (.iaload, 1) := by decide +kernel
theorem dX11_placeOf_10 : decode cX11_placeOf 10 = .ok (.if_icmp .ge 24, 3) := by decide +kernel
theorem dX11_placeOf_13 : decode cX11_placeOf 13 = .ok (.aload_n 0, 1) := by decide +kernel
theorem dX11_placeOf_14 : decode cX11_placeOf 14 = .ok (.getfield 31, 3) := by decide +kernel
theorem dX11_placeOf_17 : decode cX11_placeOf 17 = .ok (.bipush 15, 2) := by decide +kernel
theorem dX11_placeOf_19 : decode cX11_placeOf 19 = .ok (.iload_n 2, 1) := by decide +kernel
theorem dX11_placeOf_20 : decode cX11_placeOf 20 = .ok (.iadd, 1) := by decide +kernel
theorem dX11_placeOf_21 : decode cX11_placeOf 21 = .ok (.iaload, 1) := by decide +kernel
theorem dX11_placeOf_22 : decode cX11_placeOf 22 = .ok (.iload_n 1, 1) := by decide +kernel
theorem dX11_placeOf_23 : decode cX11_placeOf 23 = .ok (.if_icmp .ne 5, 3) := by decide +kernel
theorem dX11_placeOf_26 : decode cX11_placeOf 26 = .ok (.iload_n 2, 1) := by decide +kernel
theorem dX11_placeOf_27 : decode cX11_placeOf 27 = .ok (.ireturn, 1) := by decide +kernel
theorem dX11_placeOf_28 : decode cX11_placeOf 28 = .ok (.iinc 2 1, 3) := by decide +kernel
theorem dX11_placeOf_31 : decode cX11_placeOf 31 = .ok (.goto (-29), 3) := by decide +kernel
theorem dX11_placeOf_34 : decode cX11_placeOf 34 = .ok (.iconst (-1), 1) := by decide +kernel
theorem dX11_placeOf_35 : decode cX11_placeOf 35 = .ok (.ireturn, 1) := by decide +kernel
theorem dX11_wheelPrimeOf_0 : decode cX11_wheelPrimeOf 0 = .ok (.iconst 0, 1) := by decide +kernel
theorem dX11_wheelPrimeOf_1 : decode cX11_wheelPrimeOf 1 = .ok (.istore_n 2, 1) := by decide +kernel
theorem dX11_wheelPrimeOf_2 : decode cX11_wheelPrimeOf 2 = .ok (.iload_n 2, 1) := by decide +kernel
theorem dX11_wheelPrimeOf_3 : decode cX11_wheelPrimeOf 3 = .ok (.aload_n 0, 1) := by decide +kernel
theorem dX11_wheelPrimeOf_4 : decode cX11_wheelPrimeOf 4 = .ok (.getfield 31, 3) := by decide +kernel
theorem dX11_wheelPrimeOf_7 : decode cX11_wheelPrimeOf 7 = .ok (.iconst 0, 1) := by decide +kernel
theorem dX11_wheelPrimeOf_8 : decode cX11_wheelPrimeOf 8 = .ok (.iaload, 1) := by decide +kernel
theorem dX11_wheelPrimeOf_9 : decode cX11_wheelPrimeOf 9 = .ok (.if_icmp .ge 37, 3) := by decide +kernel
theorem dX11_wheelPrimeOf_12 : decode cX11_wheelPrimeOf 12 = .ok (.iload_n 1, 1) := by decide +kernel
theorem dX11_wheelPrimeOf_13 : decode cX11_wheelPrimeOf 13 = .ok (.aload_n 0, 1) := by decide +kernel
theorem dX11_wheelPrimeOf_14 : decode cX11_wheelPrimeOf 14 = .ok (.getfield 28, 3) := by decide +kernel
theorem dX11_wheelPrimeOf_17 : decode cX11_wheelPrimeOf 17 = .ok (.iload_n 2, 1) := by decide +kernel
theorem dX11_wheelPrimeOf_18 : decode cX11_wheelPrimeOf 18 = .ok (.iaload, 1) := by decide +kernel
theorem dX11_wheelPrimeOf_19 : decode cX11_wheelPrimeOf 19 = .ok (.irem, 1) := by decide +kernel
theorem dX11_wheelPrimeOf_20 : decode cX11_wheelPrimeOf 20 = .ok (.ifCond .ne 20, 3) := by decide +kernel
theorem dX11_wheelPrimeOf_23 : decode cX11_wheelPrimeOf 23 = .ok (.iload_n 1, 1) := by decide +kernel
theorem dX11_wheelPrimeOf_24 : decode cX11_wheelPrimeOf 24 = .ok (.aload_n 0, 1) := by decide +kernel
theorem dX11_wheelPrimeOf_25 : decode cX11_wheelPrimeOf 25 = .ok (.getfield 28, 3) := by decide +kernel
theorem dX11_wheelPrimeOf_28 : decode cX11_wheelPrimeOf 28 = .ok (.iload_n 2, 1) := by decide +kernel
theorem dX11_wheelPrimeOf_29 : decode cX11_wheelPrimeOf 29 = .ok (.iaload, 1) := by decide +kernel
theorem dX11_wheelPrimeOf_30 : decode cX11_wheelPrimeOf 30 = .ok (.if_icmp .eq 10, 3) := by decide +kernel
theorem dX11_wheelPrimeOf_33 : decode cX11_wheelPrimeOf 33 = .ok (.aload_n 0, 1) := by decide +kernel
theorem dX11_wheelPrimeOf_34 : decode cX11_wheelPrimeOf 34 = .ok (.getfield 28, 3) := by decide +kernel
theorem dX11_wheelPrimeOf_37 : decode cX11_wheelPrimeOf 37 = .ok (.iload_n 2, 1) := by decide +kernel
theorem dX11_wheelPrimeOf_38 : decode cX11_wheelPrimeOf 38 = .ok (.iaload, 1) := by decide +kernel
theorem dX11_wheelPrimeOf_39 : decode cX11_wheelPrimeOf 39 = .ok (.ireturn, 1) := by decide +kernel
theorem dX11_wheelPrimeOf_40 : decode cX11_wheelPrimeOf 40 = .ok (.iinc 2 1, 3) := by decide +kernel
theorem dX11_wheelPrimeOf_43 : decode cX11_wheelPrimeOf 43 = .ok (.goto (-41), 3) := by decide +kernel
theorem dX11_wheelPrimeOf_46 : decode cX11_wheelPrimeOf 46 = .ok (.iconst 0, 1) := by decide +kernel
theorem dX11_wheelPrimeOf_47 : decode cX11_wheelPrimeOf 47 = .ok (.ireturn, 1) := by decide +kernel
theorem dX11_isOnSpoke_0 : decode cX11_isOnSpoke 0 = .ok (.aload_n 0, 1) := by decide +kernel
theorem dX11_isOnSpoke_1 : decode cX11_isOnSpoke 1 = .ok (.iload_n 1, 1) := by decide +kernel
theorem dX11_isOnSpoke_2 : decode cX11_isOnSpoke 2 = .ok (.invokevirtual 93, 3) := by decide +kernel
theorem dX11_isOnSpoke_5 : decode cX11_isOnSpoke 5 = .ok (.ifCond .ne 7, 3) := by decide +kernel
theorem dX11_isOnSpoke_8 : decode cX11_isOnSpoke 8 = .ok (.iconst 1, 1) := by decide +kernel
theorem dX11_isOnSpoke_9 : decode cX11_isOnSpoke 9 = .ok (.goto 4, 3) := by decide +kernel
theorem dX11_isOnSpoke_12 : decode cX11_isOnSpoke 12 = .ok (.iconst 0, 1) := by decide +kernel
theorem dX11_isOnSpoke_13 : decode cX11_isOnSpoke 13 = .ok (.ireturn, 1) := by decide +kernel
theorem dX11_isWheelPrime_0 : decode cX11_isWheelPrime 0 = .ok (.iconst 0, 1) := by decide +kernel
theorem dX11_isWheelPrime_1 : decode cX11_isWheelPrime 1 = .ok (.istore_n 2, 1) := by decide +kernel
theorem dX11_isWheelPrime_2 : decode cX11_isWheelPrime 2 = .ok (.iload_n 2, 1) := by decide +kernel
theorem dX11_isWheelPrime_3 : decode cX11_isWheelPrime 3 = .ok (.aload_n 0, 1) := by decide +kernel
theorem dX11_isWheelPrime_4 : decode cX11_isWheelPrime 4 = .ok (.getfield 31, 3) := by decide +kernel
theorem dX11_isWheelPrime_7 : decode cX11_isWheelPrime 7 = .ok (.iconst 0, 1) := by decide +kernel
theorem dX11_isWheelPrime_8 : decode cX11_isWheelPrime 8 = .ok (.iaload, 1) := by decide +kernel
theorem dX11_isWheelPrime_9 : decode cX11_isWheelPrime 9 = .ok (.if_icmp .ge 21, 3) := by decide +kernel
theorem dX11_isWheelPrime_12 : decode cX11_isWheelPrime 12 = .ok (.aload_n 0, 1) := by decide +kernel
theorem dX11_isWheelPrime_13 : decode cX11_isWheelPrime 13 = .ok (.getfield 28, 3) := by decide +kernel
theorem dX11_isWheelPrime_16 : decode cX11_isWheelPrime 16 = .ok (.iload_n 2, 1) := by decide +kernel
theorem dX11_isWheelPrime_17 : decode cX11_isWheelPrime 17 = .ok (.iaload, 1) := by decide +kernel
theorem dX11_isWheelPrime_18 : decode cX11_isWheelPrime 18 = .ok (.iload_n 1, 1) := by decide +kernel
theorem dX11_isWheelPrime_19 : decode cX11_isWheelPrime 19 = .ok (.if_icmp .ne 5, 3) := by decide +kernel
theorem dX11_isWheelPrime_22 : decode cX11_isWheelPrime 22 = .ok (.iconst 1, 1) := by decide +kernel
theorem dX11_isWheelPrime_23 : decode cX11_isWheelPrime 23 = .ok (.ireturn, 1) := by decide +kernel
theorem dX11_isWheelPrime_24 : decode cX11_isWheelPrime 24 = .ok (.iinc 2 1, 3) := by decide +kernel
theorem dX11_isWheelPrime_27 : decode cX11_isWheelPrime 27 = .ok (.goto (-25), 3) := by decide +kernel
theorem dX11_isWheelPrime_30 : decode cX11_isWheelPrime 30 = .ok (.iconst 0, 1) := by decide +kernel
theorem dX11_isWheelPrime_31 : decode cX11_isWheelPrime 31 = .ok (.ireturn, 1) := by decide +kernel
theorem dX11_strikes_0 : decode cX11_strikes 0 = .ok (.iload_n 2, 1) := by decide +kernel
theorem dX11_strikes_1 : decode cX11_strikes 1 = .ok (.iload_n 1, 1) := by decide +kernel
theorem dX11_strikes_2 : decode cX11_strikes 2 = .ok (.iload_n 1, 1) := by decide +kernel
theorem dX11_strikes_3 : decode cX11_strikes 3 = .ok (.imul, 1) := by decide +kernel
theorem dX11_strikes_4 : decode cX11_strikes 4 = .ok (.if_icmp .lt 21, 3) := by decide +kernel
theorem dX11_strikes_7 : decode cX11_strikes 7 = .ok (.iload_n 2, 1) := by decide +kernel
theorem dX11_strikes_8 : decode cX11_strikes 8 = .ok (.iload_n 1, 1) := by decide +kernel
theorem dX11_strikes_9 : decode cX11_strikes 9 = .ok (.irem, 1) := by decide +kernel
theorem dX11_strikes_10 : decode cX11_strikes 10 = .ok (.ifCond .ne 15, 3) := by decide +kernel
theorem dX11_strikes_13 : decode cX11_strikes 13 = .ok (.aload_n 0, 1) := by decide +kernel
theorem dX11_strikes_14 : decode cX11_strikes 14 = .ok (.iload_n 2, 1) := by decide +kernel
theorem dX11_strikes_15 : decode cX11_strikes 15 = .ok (.invokevirtual 96, 3) := by decide +kernel
theorem dX11_strikes_18 : decode cX11_strikes 18 = .ok (.ifCond .eq 7, 3) := by decide +kernel
theorem dX11_strikes_21 : decode cX11_strikes 21 = .ok (.iconst 1, 1) := by decide +kernel
theorem dX11_strikes_22 : decode cX11_strikes 22 = .ok (.goto 4, 3) := by decide +kernel
theorem dX11_strikes_25 : decode cX11_strikes 25 = .ok (.iconst 0, 1) := by decide +kernel
theorem dX11_strikes_26 : decode cX11_strikes 26 = .ok (.ireturn, 1) := by decide +kernel
theorem dX11_strikeUpTo_0 : decode cX11_strikeUpTo 0 = .ok (.aload_n 0, 1) := by decide +kernel
theorem dX11_strikeUpTo_1 : decode cX11_strikeUpTo 1 = .ok (.iload_n 1, 1) := by decide +kernel
theorem dX11_strikeUpTo_2 : decode cX11_strikeUpTo 2 = .ok (.putfield 100, 3) := by decide +kernel
theorem dX11_strikeUpTo_5 : decode cX11_strikeUpTo 5 = .ok (.iconst 0, 1) := by decide +kernel
theorem dX11_strikeUpTo_6 : decode cX11_strikeUpTo 6 = .ok (.istore_n 2, 1) := by decide +kernel
theorem dX11_strikeUpTo_7 : decode cX11_strikeUpTo 7 = .ok (.iload_n 2, 1) := by decide +kernel
theorem dX11_strikeUpTo_8 : decode cX11_strikeUpTo 8 = .ok (.iload_n 1, 1) := by decide +kernel
theorem dX11_strikeUpTo_9 : decode cX11_strikeUpTo 9 = .ok (.if_icmp .gt 23, 3) := by decide +kernel
theorem dX11_strikeUpTo_12 : decode cX11_strikeUpTo 12 = .ok (.aload_n 0, 1) := by decide +kernel
theorem dX11_strikeUpTo_13 : decode cX11_strikeUpTo 13 = .ok (.getfield 34, 3) := by decide +kernel
theorem dX11_strikeUpTo_16 : decode cX11_strikeUpTo 16 = .ok (.iload_n 2, 1) := by decide +kernel
theorem dX11_strikeUpTo_17 : decode cX11_strikeUpTo 17 = .ok (.iconst (-1), 1) := by decide +kernel
theorem dX11_strikeUpTo_18 : decode cX11_strikeUpTo 18 = .ok (.iastore, 1) := by decide +kernel
theorem dX11_strikeUpTo_19 : decode cX11_strikeUpTo 19 = .ok (.aload_n 0, 1) := by decide +kernel
theorem dX11_strikeUpTo_20 : decode cX11_strikeUpTo 20 = .ok (.getfield 37, 3) := by decide +kernel
theorem dX11_strikeUpTo_23 : decode cX11_strikeUpTo 23 = .ok (.iload_n 2, 1) := by decide +kernel
theorem dX11_strikeUpTo_24 : decode cX11_strikeUpTo 24 = .ok (.iconst 0, 1) := by decide +kernel
theorem dX11_strikeUpTo_25 : decode cX11_strikeUpTo 25 = .ok (.iastore, 1) := by decide +kernel
theorem dX11_strikeUpTo_26 : decode cX11_strikeUpTo 26 = .ok (.iinc 2 1, 3) := by decide +kernel
theorem dX11_strikeUpTo_29 : decode cX11_strikeUpTo 29 = .ok (.goto (-22), 3) := by decide +kernel
theorem dX11_strikeUpTo_32 : decode cX11_strikeUpTo 32 = .ok (.aload_n 0, 1) := by decide +kernel
theorem dX11_strikeUpTo_33 : decode cX11_strikeUpTo 33 = .ok (.getfield 31, 3) := by decide +kernel
theorem dX11_strikeUpTo_36 : decode cX11_strikeUpTo 36 = .ok (.bipush 14, 2) := by decide +kernel
theorem dX11_strikeUpTo_38 : decode cX11_strikeUpTo 38 = .ok (.iaload, 1) := by decide +kernel
theorem dX11_strikeUpTo_39 : decode cX11_strikeUpTo 39 = .ok (.iconst 1, 1) := by decide +kernel
theorem dX11_strikeUpTo_40 : decode cX11_strikeUpTo 40 = .ok (.isub, 1) := by decide +kernel
theorem dX11_strikeUpTo_41 : decode cX11_strikeUpTo 41 = .ok (.istore_n 2, 1) := by decide +kernel
theorem dX11_strikeUpTo_42 : decode cX11_strikeUpTo 42 = .ok (.iload_n 2, 1) := by decide +kernel
theorem dX11_strikeUpTo_43 : decode cX11_strikeUpTo 43 = .ok (.ifCond .lt 67, 3) := by decide +kernel
theorem dX11_strikeUpTo_46 : decode cX11_strikeUpTo 46 = .ok (.aload_n 0, 1) := by decide +kernel
theorem dX11_strikeUpTo_47 : decode cX11_strikeUpTo 47 = .ok (.getfield 31, 3) := by decide +kernel
theorem dX11_strikeUpTo_50 : decode cX11_strikeUpTo 50 = .ok (.bipush 15, 2) := by decide +kernel
theorem dX11_strikeUpTo_52 : decode cX11_strikeUpTo 52 = .ok (.iload_n 2, 1) := by decide +kernel
theorem dX11_strikeUpTo_53 : decode cX11_strikeUpTo 53 = .ok (.iadd, 1) := by decide +kernel
theorem dX11_strikeUpTo_54 : decode cX11_strikeUpTo 54 = .ok (.iaload, 1) := by decide +kernel
theorem dX11_strikeUpTo_55 : decode cX11_strikeUpTo 55 = .ok (.istore_n 3, 1) := by decide +kernel
theorem dX11_strikeUpTo_56 : decode cX11_strikeUpTo 56 = .ok (.iload_n 3, 1) := by decide +kernel
theorem dX11_strikeUpTo_57 : decode cX11_strikeUpTo 57 = .ok (.iload_n 3, 1) := by decide +kernel
theorem dX11_strikeUpTo_58 : decode cX11_strikeUpTo 58 = .ok (.imul, 1) := by decide +kernel
theorem dX11_strikeUpTo_59 : decode cX11_strikeUpTo 59 = .ok (.istore 4, 2) := by decide +kernel
theorem dX11_strikeUpTo_61 : decode cX11_strikeUpTo 61 = .ok (.iload 4, 2) := by decide +kernel
theorem dX11_strikeUpTo_63 : decode cX11_strikeUpTo 63 = .ok (.iload_n 1, 1) := by decide +kernel
theorem dX11_strikeUpTo_64 : decode cX11_strikeUpTo 64 = .ok (.if_icmp .gt 40, 3) := by decide +kernel
theorem dX11_strikeUpTo_67 : decode cX11_strikeUpTo 67 = .ok (.aload_n 0, 1) := by decide +kernel
theorem dX11_strikeUpTo_68 : decode cX11_strikeUpTo 68 = .ok (.iload 4, 2) := by decide +kernel
theorem dX11_strikeUpTo_70 : decode cX11_strikeUpTo 70 = .ok (.invokevirtual 96, 3) := by decide +kernel
theorem dX11_strikeUpTo_73 : decode cX11_strikeUpTo 73 = .ok (.ifCond .eq 22, 3) := by decide +kernel
theorem dX11_strikeUpTo_76 : decode cX11_strikeUpTo 76 = .ok (.aload_n 0, 1) := by decide +kernel
theorem dX11_strikeUpTo_77 : decode cX11_strikeUpTo 77 = .ok (.getfield 34, 3) := by decide +kernel
theorem dX11_strikeUpTo_80 : decode cX11_strikeUpTo 80 = .ok (.iload 4, 2) := by decide +kernel
theorem dX11_strikeUpTo_82 : decode cX11_strikeUpTo 82 = .ok (.iload_n 2, 1) := by decide +kernel
theorem dX11_strikeUpTo_83 : decode cX11_strikeUpTo 83 = .ok (.iastore, 1) := by decide +kernel
theorem dX11_strikeUpTo_84 : decode cX11_strikeUpTo 84 = .ok (.aload_n 0, 1) := by decide +kernel
theorem dX11_strikeUpTo_85 : decode cX11_strikeUpTo 85 = .ok (.getfield 37, 3) := by decide +kernel
theorem dX11_strikeUpTo_88 : decode cX11_strikeUpTo 88 = .ok (.iload 4, 2) := by decide +kernel
theorem dX11_strikeUpTo_90 : decode cX11_strikeUpTo 90 = .ok (.dup2, 1) := by decide +kernel
theorem dX11_strikeUpTo_91 : decode cX11_strikeUpTo 91 = .ok (.iaload, 1) := by decide +kernel
theorem dX11_strikeUpTo_92 : decode cX11_strikeUpTo 92 = .ok (.iconst 1, 1) := by decide +kernel
theorem dX11_strikeUpTo_93 : decode cX11_strikeUpTo 93 = .ok (.iadd, 1) := by decide +kernel
theorem dX11_strikeUpTo_94 : decode cX11_strikeUpTo 94 = .ok (.iastore, 1) := by decide +kernel
theorem dX11_strikeUpTo_95 : decode cX11_strikeUpTo 95 = .ok (.iload 4, 2) := by decide +kernel
theorem dX11_strikeUpTo_97 : decode cX11_strikeUpTo 97 = .ok (.iload_n 3, 1) := by decide +kernel
theorem dX11_strikeUpTo_98 : decode cX11_strikeUpTo 98 = .ok (.iadd, 1) := by decide +kernel
theorem dX11_strikeUpTo_99 : decode cX11_strikeUpTo 99 = .ok (.istore 4, 2) := by decide +kernel
theorem dX11_strikeUpTo_101 : decode cX11_strikeUpTo 101 = .ok (.goto (-40), 3) := by decide +kernel
theorem dX11_strikeUpTo_104 : decode cX11_strikeUpTo 104 = .ok (.iinc 2 (-1), 3) := by decide +kernel
theorem dX11_strikeUpTo_107 : decode cX11_strikeUpTo 107 = .ok (.goto (-65), 3) := by decide +kernel
theorem dX11_strikeUpTo_110 : decode cX11_strikeUpTo 110 = .ok (.return_, 1) := by decide +kernel
theorem dX11_strike_0 : decode cX11_strike 0 = .ok (.aload_n 0, 1) := by decide +kernel
theorem dX11_strike_1 : decode cX11_strike 1 = .ok (.aload_n 0, 1) := by decide +kernel
theorem dX11_strike_2 : decode cX11_strike 2 = .ok (.invokevirtual 89, 3) := by decide +kernel
theorem dX11_strike_5 : decode cX11_strike 5 = .ok (.invokevirtual 103, 3) := by decide +kernel
theorem dX11_strike_8 : decode cX11_strike 8 = .ok (.return_, 1) := by decide +kernel
theorem dX11_isMark_0 : decode cX11_isMark 0 = .ok (.iload_n 1, 1) := by decide +kernel
theorem dX11_isMark_1 : decode cX11_isMark 1 = .ok (.iconst 2, 1) := by decide +kernel
theorem dX11_isMark_2 : decode cX11_isMark 2 = .ok (.aload_n 0, 1) := by decide +kernel
theorem dX11_isMark_3 : decode cX11_isMark 3 = .ok (.getfield 100, 3) := by decide +kernel
theorem dX11_isMark_6 : decode cX11_isMark 6 = .ok (.invokestatic 81, 3) := by decide +kernel
theorem dX11_isMark_9 : decode cX11_isMark 9 = .ok (.ifCond .eq 24, 3) := by decide +kernel
theorem dX11_isMark_12 : decode cX11_isMark 12 = .ok (.aload_n 0, 1) := by decide +kernel
theorem dX11_isMark_13 : decode cX11_isMark 13 = .ok (.getfield 37, 3) := by decide +kernel
theorem dX11_isMark_16 : decode cX11_isMark 16 = .ok (.iload_n 1, 1) := by decide +kernel
theorem dX11_isMark_17 : decode cX11_isMark 17 = .ok (.iaload, 1) := by decide +kernel
theorem dX11_isMark_18 : decode cX11_isMark 18 = .ok (.ifCond .ne 15, 3) := by decide +kernel
theorem dX11_isMark_21 : decode cX11_isMark 21 = .ok (.aload_n 0, 1) := by decide +kernel
theorem dX11_isMark_22 : decode cX11_isMark 22 = .ok (.iload_n 1, 1) := by decide +kernel
theorem dX11_isMark_23 : decode cX11_isMark 23 = .ok (.invokevirtual 96, 3) := by decide +kernel
theorem dX11_isMark_26 : decode cX11_isMark 26 = .ok (.ifCond .eq 7, 3) := by decide +kernel
theorem dX11_isMark_29 : decode cX11_isMark 29 = .ok (.iconst 1, 1) := by decide +kernel
theorem dX11_isMark_30 : decode cX11_isMark 30 = .ok (.goto 4, 3) := by decide +kernel
theorem dX11_isMark_33 : decode cX11_isMark 33 = .ok (.iconst 0, 1) := by decide +kernel
theorem dX11_isMark_34 : decode cX11_isMark 34 = .ok (.ireturn, 1) := by decide +kernel
theorem dX11_marksIn_0 : decode cX11_marksIn 0 = .ok (.iconst 0, 1) := by decide +kernel
theorem dX11_marksIn_1 : decode cX11_marksIn 1 = .ok (.istore_n 3, 1) := by decide +kernel
theorem dX11_marksIn_2 : decode cX11_marksIn 2 = .ok (.iload_n 1, 1) := by decide +kernel
theorem dX11_marksIn_3 : decode cX11_marksIn 3 = .ok (.istore 4, 2) := by decide +kernel
theorem dX11_marksIn_5 : decode cX11_marksIn 5 = .ok (.iload 4, 2) := by decide +kernel
theorem dX11_marksIn_7 : decode cX11_marksIn 7 = .ok (.iload_n 2, 1) := by decide +kernel
theorem dX11_marksIn_8 : decode cX11_marksIn 8 = .ok (.if_icmp .gt 26, 3) := by decide +kernel
theorem dX11_marksIn_11 : decode cX11_marksIn 11 = .ok (.iload_n 3, 1) := by decide +kernel
theorem dX11_marksIn_12 : decode cX11_marksIn 12 = .ok (.aload_n 0, 1) := by decide +kernel
theorem dX11_marksIn_13 : decode cX11_marksIn 13 = .ok (.iload 4, 2) := by decide +kernel
theorem dX11_marksIn_15 : decode cX11_marksIn 15 = .ok (.invokevirtual 107, 3) := by decide +kernel
theorem dX11_marksIn_18 : decode cX11_marksIn 18 = .ok (.ifCond .eq 7, 3) := by decide +kernel
theorem dX11_marksIn_21 : decode cX11_marksIn 21 = .ok (.iconst 1, 1) := by decide +kernel
theorem dX11_marksIn_22 : decode cX11_marksIn 22 = .ok (.goto 4, 3) := by decide +kernel
theorem dX11_marksIn_25 : decode cX11_marksIn 25 = .ok (.iconst 0, 1) := by decide +kernel
theorem dX11_marksIn_26 : decode cX11_marksIn 26 = .ok (.iadd, 1) := by decide +kernel
theorem dX11_marksIn_27 : decode cX11_marksIn 27 = .ok (.istore_n 3, 1) := by decide +kernel
theorem dX11_marksIn_28 : decode cX11_marksIn 28 = .ok (.iinc 4 1, 3) := by decide +kernel
theorem dX11_marksIn_31 : decode cX11_marksIn 31 = .ok (.goto (-26), 3) := by decide +kernel
theorem dX11_marksIn_34 : decode cX11_marksIn 34 = .ok (.iload_n 3, 1) := by decide +kernel
theorem dX11_marksIn_35 : decode cX11_marksIn 35 = .ok (.ireturn, 1) := by decide +kernel
theorem dX11_spokesIn_0 : decode cX11_spokesIn 0 = .ok (.iconst 0, 1) := by decide +kernel
theorem dX11_spokesIn_1 : decode cX11_spokesIn 1 = .ok (.istore_n 3, 1) := by decide +kernel
theorem dX11_spokesIn_2 : decode cX11_spokesIn 2 = .ok (.iload_n 1, 1) := by decide +kernel
theorem dX11_spokesIn_3 : decode cX11_spokesIn 3 = .ok (.istore 4, 2) := by decide +kernel
theorem dX11_spokesIn_5 : decode cX11_spokesIn 5 = .ok (.iload 4, 2) := by decide +kernel
theorem dX11_spokesIn_7 : decode cX11_spokesIn 7 = .ok (.iload_n 2, 1) := by decide +kernel
theorem dX11_spokesIn_8 : decode cX11_spokesIn 8 = .ok (.if_icmp .gt 26, 3) := by decide +kernel
theorem dX11_spokesIn_11 : decode cX11_spokesIn 11 = .ok (.iload_n 3, 1) := by decide +kernel
theorem dX11_spokesIn_12 : decode cX11_spokesIn 12 = .ok (.aload_n 0, 1) := by decide +kernel
theorem dX11_spokesIn_13 : decode cX11_spokesIn 13 = .ok (.iload 4, 2) := by decide +kernel
theorem dX11_spokesIn_15 : decode cX11_spokesIn 15 = .ok (.invokevirtual 96, 3) := by decide +kernel
theorem dX11_spokesIn_18 : decode cX11_spokesIn 18 = .ok (.ifCond .eq 7, 3) := by decide +kernel
theorem dX11_spokesIn_21 : decode cX11_spokesIn 21 = .ok (.iconst 1, 1) := by decide +kernel
theorem dX11_spokesIn_22 : decode cX11_spokesIn 22 = .ok (.goto 4, 3) := by decide +kernel
theorem dX11_spokesIn_25 : decode cX11_spokesIn 25 = .ok (.iconst 0, 1) := by decide +kernel
theorem dX11_spokesIn_26 : decode cX11_spokesIn 26 = .ok (.iadd, 1) := by decide +kernel
theorem dX11_spokesIn_27 : decode cX11_spokesIn 27 = .ok (.istore_n 3, 1) := by decide +kernel
theorem dX11_spokesIn_28 : decode cX11_spokesIn 28 = .ok (.iinc 4 1, 3) := by decide +kernel
theorem dX11_spokesIn_31 : decode cX11_spokesIn 31 = .ok (.goto (-26), 3) := by decide +kernel
theorem dX11_spokesIn_34 : decode cX11_spokesIn 34 = .ok (.iload_n 3, 1) := by decide +kernel
theorem dX11_spokesIn_35 : decode cX11_spokesIn 35 = .ok (.ireturn, 1) := by decide +kernel
theorem dX11_ownedBy_0 : decode cX11_ownedBy 0 = .ok (.iconst 0, 1) := by decide +kernel
theorem dX11_ownedBy_1 : decode cX11_ownedBy 1 = .ok (.istore_n 2, 1) := by decide +kernel
theorem dX11_ownedBy_2 : decode cX11_ownedBy 2 = .ok (.iconst 2, 1) := by decide +kernel
theorem dX11_ownedBy_3 : decode cX11_ownedBy 3 = .ok (.istore_n 3, 1) := by decide +kernel
theorem dX11_ownedBy_4 : decode cX11_ownedBy 4 = .ok (.iload_n 3, 1) := by decide +kernel
theorem dX11_ownedBy_5 : decode cX11_ownedBy 5 = .ok (.aload_n 0, 1) := by decide +kernel
theorem dX11_ownedBy_6 : decode cX11_ownedBy 6 = .ok (.getfield 100, 3) := by decide +kernel
theorem dX11_ownedBy_9 : decode cX11_ownedBy 9 = .ok (.if_icmp .gt 27, 3) := by decide +kernel
theorem dX11_ownedBy_12 : decode cX11_ownedBy 12 = .ok (.iload_n 2, 1) := by decide +kernel
theorem dX11_ownedBy_13 : decode cX11_ownedBy 13 = .ok (.aload_n 0, 1) := by decide +kernel
theorem dX11_ownedBy_14 : decode cX11_ownedBy 14 = .ok (.getfield 34, 3) := by decide +kernel
theorem dX11_ownedBy_17 : decode cX11_ownedBy 17 = .ok (.iload_n 3, 1) := by decide +kernel
theorem dX11_ownedBy_18 : decode cX11_ownedBy 18 = .ok (.iaload, 1) := by decide +kernel
theorem dX11_ownedBy_19 : decode cX11_ownedBy 19 = .ok (.iload_n 1, 1) := by decide +kernel
theorem dX11_ownedBy_20 : decode cX11_ownedBy 20 = .ok (.if_icmp .ne 7, 3) := by decide +kernel
theorem dX11_ownedBy_23 : decode cX11_ownedBy 23 = .ok (.iconst 1, 1) := by decide +kernel
theorem dX11_ownedBy_24 : decode cX11_ownedBy 24 = .ok (.goto 4, 3) := by decide +kernel
theorem dX11_ownedBy_27 : decode cX11_ownedBy 27 = .ok (.iconst 0, 1) := by decide +kernel
theorem dX11_ownedBy_28 : decode cX11_ownedBy 28 = .ok (.iadd, 1) := by decide +kernel
theorem dX11_ownedBy_29 : decode cX11_ownedBy 29 = .ok (.istore_n 2, 1) := by decide +kernel
theorem dX11_ownedBy_30 : decode cX11_ownedBy 30 = .ok (.iinc 3 1, 3) := by decide +kernel
theorem dX11_ownedBy_33 : decode cX11_ownedBy 33 = .ok (.goto (-29), 3) := by decide +kernel
theorem dX11_ownedBy_36 : decode cX11_ownedBy 36 = .ok (.iload_n 2, 1) := by decide +kernel
theorem dX11_ownedBy_37 : decode cX11_ownedBy 37 = .ok (.ireturn, 1) := by decide +kernel
theorem dX11_couldStrike_0 : decode cX11_couldStrike 0 = .ok (.iload_n 1, 1) := by decide +kernel
theorem dX11_couldStrike_1 : decode cX11_couldStrike 1 = .ok (.iload_n 1, 1) := by decide +kernel
theorem dX11_couldStrike_2 : decode cX11_couldStrike 2 = .ok (.imul, 1) := by decide +kernel
theorem dX11_couldStrike_3 : decode cX11_couldStrike 3 = .ok (.aload_n 0, 1) := by decide +kernel
theorem dX11_couldStrike_4 : decode cX11_couldStrike 4 = .ok (.getfield 100, 3) := by decide +kernel
theorem dX11_couldStrike_7 : decode cX11_couldStrike 7 = .ok (.if_icmp .gt 32, 3) := by decide +kernel
theorem dX11_couldStrike_10 : decode cX11_couldStrike 10 = .ok (.aload_n 0, 1) := by decide +kernel
theorem dX11_couldStrike_11 : decode cX11_couldStrike 11 = .ok (.iload_n 1, 1) := by decide +kernel
theorem dX11_couldStrike_12 : decode cX11_couldStrike 12 = .ok (.invokevirtual 107, 3) := by decide +kernel
theorem dX11_couldStrike_15 : decode cX11_couldStrike 15 = .ok (.ifCond .eq 24, 3) := by decide +kernel
theorem dX11_couldStrike_18 : decode cX11_couldStrike 18 = .ok (.aload_n 0, 1) := by decide +kernel
theorem dX11_couldStrike_19 : decode cX11_couldStrike 19 = .ok (.iload_n 1, 1) := by decide +kernel
theorem dX11_couldStrike_20 : decode cX11_couldStrike 20 = .ok (.invokevirtual 110, 3) := by decide +kernel
theorem dX11_couldStrike_23 : decode cX11_couldStrike 23 = .ok (.iconst (-1), 1) := by decide +kernel
theorem dX11_couldStrike_24 : decode cX11_couldStrike 24 = .ok (.if_icmp .ne 15, 3) := by decide +kernel
theorem dX11_couldStrike_27 : decode cX11_couldStrike 27 = .ok (.aload_n 0, 1) := by decide +kernel
theorem dX11_couldStrike_28 : decode cX11_couldStrike 28 = .ok (.iload_n 1, 1) := by decide +kernel
theorem dX11_couldStrike_29 : decode cX11_couldStrike 29 = .ok (.invokevirtual 113, 3) := by decide +kernel
theorem dX11_couldStrike_32 : decode cX11_couldStrike 32 = .ok (.ifCond .ne 7, 3) := by decide +kernel
theorem dX11_couldStrike_35 : decode cX11_couldStrike 35 = .ok (.iconst 1, 1) := by decide +kernel
theorem dX11_couldStrike_36 : decode cX11_couldStrike 36 = .ok (.goto 4, 3) := by decide +kernel
theorem dX11_couldStrike_39 : decode cX11_couldStrike 39 = .ok (.iconst 0, 1) := by decide +kernel
theorem dX11_couldStrike_40 : decode cX11_couldStrike 40 = .ok (.ireturn, 1) := by decide +kernel
theorem dX11_missingFrom_0 : decode cX11_missingFrom 0 = .ok (.iload_n 1, 1) := by decide +kernel
theorem dX11_missingFrom_1 : decode cX11_missingFrom 1 = .ok (.istore_n 2, 1) := by decide +kernel
theorem dX11_missingFrom_2 : decode cX11_missingFrom 2 = .ok (.iload_n 2, 1) := by decide +kernel
theorem dX11_missingFrom_3 : decode cX11_missingFrom 3 = .ok (.iload_n 2, 1) := by decide +kernel
theorem dX11_missingFrom_4 : decode cX11_missingFrom 4 = .ok (.imul, 1) := by decide +kernel
theorem dX11_missingFrom_5 : decode cX11_missingFrom 5 = .ok (.aload_n 0, 1) := by decide +kernel
theorem dX11_missingFrom_6 : decode cX11_missingFrom 6 = .ok (.getfield 100, 3) := by decide +kernel
theorem dX11_missingFrom_9 : decode cX11_missingFrom 9 = .ok (.if_icmp .gt 19, 3) := by decide +kernel
theorem dX11_missingFrom_12 : decode cX11_missingFrom 12 = .ok (.aload_n 0, 1) := by decide +kernel
theorem dX11_missingFrom_13 : decode cX11_missingFrom 13 = .ok (.iload_n 2, 1) := by decide +kernel
theorem dX11_missingFrom_14 : decode cX11_missingFrom 14 = .ok (.invokevirtual 116, 3) := by decide +kernel
theorem dX11_missingFrom_17 : decode cX11_missingFrom 17 = .ok (.ifCond .eq 5, 3) := by decide +kernel
theorem dX11_missingFrom_20 : decode cX11_missingFrom 20 = .ok (.iload_n 2, 1) := by decide +kernel
theorem dX11_missingFrom_21 : decode cX11_missingFrom 21 = .ok (.ireturn, 1) := by decide +kernel
theorem dX11_missingFrom_22 : decode cX11_missingFrom 22 = .ok (.iinc 2 1, 3) := by decide +kernel
theorem dX11_missingFrom_25 : decode cX11_missingFrom 25 = .ok (.goto (-23), 3) := by decide +kernel
theorem dX11_missingFrom_28 : decode cX11_missingFrom 28 = .ok (.iconst (-1), 1) := by decide +kernel
theorem dX11_missingFrom_29 : decode cX11_missingFrom 29 = .ok (.ireturn, 1) := by decide +kernel
theorem dX11_isPrime_0 : decode cX11_isPrime 0 = .ok (.iload_n 0, 1) := by decide +kernel
theorem dX11_isPrime_1 : decode cX11_isPrime 1 = .ok (.iconst 1, 1) := by decide +kernel
theorem dX11_isPrime_2 : decode cX11_isPrime 2 = .ok (.if_icmp .le 7, 3) := by decide +kernel
theorem dX11_isPrime_5 : decode cX11_isPrime 5 = .ok (.iconst 1, 1) := by decide +kernel
theorem dX11_isPrime_6 : decode cX11_isPrime 6 = .ok (.goto 4, 3) := by decide +kernel
theorem dX11_isPrime_9 : decode cX11_isPrime 9 = .ok (.iconst 0, 1) := by decide +kernel
theorem dX11_isPrime_10 : decode cX11_isPrime 10 = .ok (.istore_n 1, 1) := by decide +kernel
theorem dX11_isPrime_11 : decode cX11_isPrime 11 = .ok (.iconst 2, 1) := by decide +kernel
theorem dX11_isPrime_12 : decode cX11_isPrime 12 = .ok (.istore_n 2, 1) := by decide +kernel
theorem dX11_isPrime_13 : decode cX11_isPrime 13 = .ok (.iload_n 2, 1) := by decide +kernel
theorem dX11_isPrime_14 : decode cX11_isPrime 14 = .ok (.iload_n 2, 1) := by decide +kernel
theorem dX11_isPrime_15 : decode cX11_isPrime 15 = .ok (.imul, 1) := by decide +kernel
theorem dX11_isPrime_16 : decode cX11_isPrime 16 = .ok (.iload_n 0, 1) := by decide +kernel
theorem dX11_isPrime_17 : decode cX11_isPrime 17 = .ok (.if_icmp .gt 25, 3) := by decide +kernel
theorem dX11_isPrime_20 : decode cX11_isPrime 20 = .ok (.iload_n 1, 1) := by decide +kernel
theorem dX11_isPrime_21 : decode cX11_isPrime 21 = .ok (.ifCond .eq 21, 3) := by decide +kernel
theorem dX11_isPrime_24 : decode cX11_isPrime 24 = .ok (.iload_n 0, 1) := by decide +kernel
theorem dX11_isPrime_25 : decode cX11_isPrime 25 = .ok (.iload_n 2, 1) := by decide +kernel
theorem dX11_isPrime_26 : decode cX11_isPrime 26 = .ok (.irem, 1) := by decide +kernel
theorem dX11_isPrime_27 : decode cX11_isPrime 27 = .ok (.ifCond .eq 7, 3) := by decide +kernel
theorem dX11_isPrime_30 : decode cX11_isPrime 30 = .ok (.iconst 1, 1) := by decide +kernel
theorem dX11_isPrime_31 : decode cX11_isPrime 31 = .ok (.goto 4, 3) := by decide +kernel
theorem dX11_isPrime_34 : decode cX11_isPrime 34 = .ok (.iconst 0, 1) := by decide +kernel
theorem dX11_isPrime_35 : decode cX11_isPrime 35 = .ok (.istore_n 1, 1) := by decide +kernel
theorem dX11_isPrime_36 : decode cX11_isPrime 36 = .ok (.iinc 2 1, 3) := by decide +kernel
theorem dX11_isPrime_39 : decode cX11_isPrime 39 = .ok (.goto (-26), 3) := by decide +kernel
theorem dX11_isPrime_42 : decode cX11_isPrime 42 = .ok (.iload_n 1, 1) := by decide +kernel
theorem dX11_isPrime_43 : decode cX11_isPrime 43 = .ok (.ireturn, 1) := by decide +kernel
theorem dX11_product_0 : decode cX11_product 0 = .ok (.iconst 1, 1) := by decide +kernel
theorem dX11_product_1 : decode cX11_product 1 = .ok (.istore_n 1, 1) := by decide +kernel
theorem dX11_product_2 : decode cX11_product 2 = .ok (.iconst 0, 1) := by decide +kernel
theorem dX11_product_3 : decode cX11_product 3 = .ok (.istore_n 2, 1) := by decide +kernel
theorem dX11_product_4 : decode cX11_product 4 = .ok (.iload_n 2, 1) := by decide +kernel
theorem dX11_product_5 : decode cX11_product 5 = .ok (.aload_n 0, 1) := by decide +kernel
theorem dX11_product_6 : decode cX11_product 6 = .ok (.getfield 31, 3) := by decide +kernel
theorem dX11_product_9 : decode cX11_product 9 = .ok (.iconst 0, 1) := by decide +kernel
theorem dX11_product_10 : decode cX11_product 10 = .ok (.iaload, 1) := by decide +kernel
theorem dX11_product_11 : decode cX11_product 11 = .ok (.if_icmp .ge 18, 3) := by decide +kernel
theorem dX11_product_14 : decode cX11_product 14 = .ok (.iload_n 1, 1) := by decide +kernel
theorem dX11_product_15 : decode cX11_product 15 = .ok (.aload_n 0, 1) := by decide +kernel
theorem dX11_product_16 : decode cX11_product 16 = .ok (.getfield 28, 3) := by decide +kernel
theorem dX11_product_19 : decode cX11_product 19 = .ok (.iload_n 2, 1) := by decide +kernel
theorem dX11_product_20 : decode cX11_product 20 = .ok (.iaload, 1) := by decide +kernel
theorem dX11_product_21 : decode cX11_product 21 = .ok (.imul, 1) := by decide +kernel
theorem dX11_product_22 : decode cX11_product 22 = .ok (.istore_n 1, 1) := by decide +kernel
theorem dX11_product_23 : decode cX11_product 23 = .ok (.iinc 2 1, 3) := by decide +kernel
theorem dX11_product_26 : decode cX11_product 26 = .ok (.goto (-22), 3) := by decide +kernel
theorem dX11_product_29 : decode cX11_product 29 = .ok (.iload_n 1, 1) := by decide +kernel
theorem dX11_product_30 : decode cX11_product 30 = .ok (.ireturn, 1) := by decide +kernel
theorem dX11_rightOnes_0 : decode cX11_rightOnes 0 = .ok (.iconst 1, 1) := by decide +kernel
theorem dX11_rightOnes_1 : decode cX11_rightOnes 1 = .ok (.istore_n 1, 1) := by decide +kernel
theorem dX11_rightOnes_2 : decode cX11_rightOnes 2 = .ok (.iconst 0, 1) := by decide +kernel
theorem dX11_rightOnes_3 : decode cX11_rightOnes 3 = .ok (.istore_n 2, 1) := by decide +kernel
theorem dX11_rightOnes_4 : decode cX11_rightOnes 4 = .ok (.iload_n 2, 1) := by decide +kernel
theorem dX11_rightOnes_5 : decode cX11_rightOnes 5 = .ok (.aload_n 0, 1) := by decide +kernel
theorem dX11_rightOnes_6 : decode cX11_rightOnes 6 = .ok (.getfield 31, 3) := by decide +kernel
theorem dX11_rightOnes_9 : decode cX11_rightOnes 9 = .ok (.iconst 0, 1) := by decide +kernel
theorem dX11_rightOnes_10 : decode cX11_rightOnes 10 = .ok (.iaload, 1) := by decide +kernel
theorem dX11_rightOnes_11 : decode cX11_rightOnes 11 = .ok (.if_icmp .ge 20, 3) := by decide +kernel
theorem dX11_rightOnes_14 : decode cX11_rightOnes 14 = .ok (.iload_n 1, 1) := by decide +kernel
theorem dX11_rightOnes_15 : decode cX11_rightOnes 15 = .ok (.aload_n 0, 1) := by decide +kernel
theorem dX11_rightOnes_16 : decode cX11_rightOnes 16 = .ok (.getfield 28, 3) := by decide +kernel
theorem dX11_rightOnes_19 : decode cX11_rightOnes 19 = .ok (.iload_n 2, 1) := by decide +kernel
theorem dX11_rightOnes_20 : decode cX11_rightOnes 20 = .ok (.iaload, 1) := by decide +kernel
theorem dX11_rightOnes_21 : decode cX11_rightOnes 21 = .ok (.iconst 1, 1) := by decide +kernel
theorem dX11_rightOnes_22 : decode cX11_rightOnes 22 = .ok (.isub, 1) := by decide +kernel
theorem dX11_rightOnes_23 : decode cX11_rightOnes 23 = .ok (.imul, 1) := by decide +kernel
theorem dX11_rightOnes_24 : decode cX11_rightOnes 24 = .ok (.istore_n 1, 1) := by decide +kernel
theorem dX11_rightOnes_25 : decode cX11_rightOnes 25 = .ok (.iinc 2 1, 3) := by decide +kernel
theorem dX11_rightOnes_28 : decode cX11_rightOnes 28 = .ok (.goto (-24), 3) := by decide +kernel
theorem dX11_rightOnes_31 : decode cX11_rightOnes 31 = .ok (.iload_n 1, 1) := by decide +kernel
theorem dX11_rightOnes_32 : decode cX11_rightOnes 32 = .ok (.ireturn, 1) := by decide +kernel
theorem dX11_countMissing_0 : decode cX11_countMissing 0 = .ok (.iconst 0, 1) := by decide +kernel
theorem dX11_countMissing_1 : decode cX11_countMissing 1 = .ok (.istore_n 1, 1) := by decide +kernel
theorem dX11_countMissing_2 : decode cX11_countMissing 2 = .ok (.aload_n 0, 1) := by decide +kernel
theorem dX11_countMissing_3 : decode cX11_countMissing 3 = .ok (.iconst 2, 1) := by decide +kernel
theorem dX11_countMissing_4 : decode cX11_countMissing 4 = .ok (.invokevirtual 119, 3) := by decide +kernel
theorem dX11_countMissing_7 : decode cX11_countMissing 7 = .ok (.istore_n 2, 1) := by decide +kernel
theorem dX11_countMissing_8 : decode cX11_countMissing 8 = .ok (.iload_n 2, 1) := by decide +kernel
theorem dX11_countMissing_9 : decode cX11_countMissing 9 = .ok (.iconst (-1), 1) := by decide +kernel
theorem dX11_countMissing_10 : decode cX11_countMissing 10 = .ok (.if_icmp .eq 17, 3) := by decide +kernel
theorem dX11_countMissing_13 : decode cX11_countMissing 13 = .ok (.iinc 1 1, 3) := by decide +kernel
theorem dX11_countMissing_16 : decode cX11_countMissing 16 = .ok (.aload_n 0, 1) := by decide +kernel
theorem dX11_countMissing_17 : decode cX11_countMissing 17 = .ok (.iload_n 2, 1) := by decide +kernel
theorem dX11_countMissing_18 : decode cX11_countMissing 18 = .ok (.iconst 1, 1) := by decide +kernel
theorem dX11_countMissing_19 : decode cX11_countMissing 19 = .ok (.iadd, 1) := by decide +kernel
theorem dX11_countMissing_20 : decode cX11_countMissing 20 = .ok (.invokevirtual 119, 3) := by decide +kernel
theorem dX11_countMissing_23 : decode cX11_countMissing 23 = .ok (.istore_n 2, 1) := by decide +kernel
theorem dX11_countMissing_24 : decode cX11_countMissing 24 = .ok (.goto (-16), 3) := by decide +kernel
theorem dX11_countMissing_27 : decode cX11_countMissing 27 = .ok (.iload_n 1, 1) := by decide +kernel
theorem dX11_countMissing_28 : decode cX11_countMissing 28 = .ok (.ireturn, 1) := by decide +kernel
theorem dX11_countIdle_0 : decode cX11_countIdle 0 = .ok (.iconst 0, 1) := by decide +kernel
theorem dX11_countIdle_1 : decode cX11_countIdle 1 = .ok (.istore_n 1, 1) := by decide +kernel
theorem dX11_countIdle_2 : decode cX11_countIdle 2 = .ok (.iconst 0, 1) := by decide +kernel
theorem dX11_countIdle_3 : decode cX11_countIdle 3 = .ok (.istore_n 2, 1) := by decide +kernel
theorem dX11_countIdle_4 : decode cX11_countIdle 4 = .ok (.iload_n 2, 1) := by decide +kernel
theorem dX11_countIdle_5 : decode cX11_countIdle 5 = .ok (.aload_n 0, 1) := by decide +kernel
theorem dX11_countIdle_6 : decode cX11_countIdle 6 = .ok (.getfield 31, 3) := by decide +kernel
theorem dX11_countIdle_9 : decode cX11_countIdle 9 = .ok (.bipush 14, 2) := by decide +kernel
theorem dX11_countIdle_11 : decode cX11_countIdle 11 = .ok (.iaload, 1) := by decide +kernel
theorem dX11_countIdle_12 : decode cX11_countIdle 12 = .ok (.if_icmp .ge 25, 3) := by decide +kernel
theorem dX11_countIdle_15 : decode cX11_countIdle 15 = .ok (.iload_n 1, 1) := by decide +kernel
theorem dX11_countIdle_16 : decode cX11_countIdle 16 = .ok (.aload_n 0, 1) := by decide +kernel
theorem dX11_countIdle_17 : decode cX11_countIdle 17 = .ok (.iload_n 2, 1) := by decide +kernel
theorem dX11_countIdle_18 : decode cX11_countIdle 18 = .ok (.invokevirtual 122, 3) := by decide +kernel
theorem dX11_countIdle_21 : decode cX11_countIdle 21 = .ok (.ifCond .ne 7, 3) := by decide +kernel
theorem dX11_countIdle_24 : decode cX11_countIdle 24 = .ok (.iconst 1, 1) := by decide +kernel
theorem dX11_countIdle_25 : decode cX11_countIdle 25 = .ok (.goto 4, 3) := by decide +kernel
theorem dX11_countIdle_28 : decode cX11_countIdle 28 = .ok (.iconst 0, 1) := by decide +kernel
theorem dX11_countIdle_29 : decode cX11_countIdle 29 = .ok (.iadd, 1) := by decide +kernel
theorem dX11_countIdle_30 : decode cX11_countIdle 30 = .ok (.istore_n 1, 1) := by decide +kernel
theorem dX11_countIdle_31 : decode cX11_countIdle 31 = .ok (.iinc 2 1, 3) := by decide +kernel
theorem dX11_countIdle_34 : decode cX11_countIdle 34 = .ok (.goto (-30), 3) := by decide +kernel
theorem dX11_countIdle_37 : decode cX11_countIdle 37 = .ok (.iload_n 1, 1) := by decide +kernel
theorem dX11_countIdle_38 : decode cX11_countIdle 38 = .ok (.ireturn, 1) := by decide +kernel
theorem dX11_size_0 : decode cX11_size 0 = .ok (.aload_n 0, 1) := by decide +kernel
theorem dX11_size_1 : decode cX11_size 1 = .ok (.iload_n 1, 1) := by decide +kernel
theorem dX11_size_2 : decode cX11_size 2 = .ok (.iconst 0, 1) := by decide +kernel
theorem dX11_size_3 : decode cX11_size 3 = .ok (.bipush 9, 2) := by decide +kernel
theorem dX11_size_5 : decode cX11_size 5 = .ok (.invokestatic 81, 3) := by decide +kernel
theorem dX11_size_8 : decode cX11_size 8 = .ok (.invokevirtual 125, 3) := by decide +kernel
theorem dX11_size_11 : decode cX11_size 11 = .ok (.ifCond .eq 5, 3) := by decide +kernel
theorem dX11_size_14 : decode cX11_size 14 = .ok (.iconst 0, 1) := by decide +kernel
theorem dX11_size_15 : decode cX11_size 15 = .ok (.ireturn, 1) := by decide +kernel
theorem dX11_size_16 : decode cX11_size 16 = .ok (.aload_n 0, 1) := by decide +kernel
theorem dX11_size_17 : decode cX11_size 17 = .ok (.invokevirtual 129, 3) := by decide +kernel
theorem dX11_size_20 : decode cX11_size 20 = .ok (.iload_n 1, 1) := by decide +kernel
theorem dX11_size_21 : decode cX11_size 21 = .ok (.tableswitch 113 0 8 #[51, 58, 65, 70, 78, 88, 98, 103, 108], 51) := by decide +kernel
theorem dX11_size_72 : decode cX11_size 72 = .ok (.aload_n 0, 1) := by decide +kernel
theorem dX11_size_73 : decode cX11_size 73 = .ok (.getfield 31, 3) := by decide +kernel
theorem dX11_size_76 : decode cX11_size 76 = .ok (.iconst 0, 1) := by decide +kernel
theorem dX11_size_77 : decode cX11_size 77 = .ok (.iaload, 1) := by decide +kernel
theorem dX11_size_78 : decode cX11_size 78 = .ok (.ireturn, 1) := by decide +kernel
theorem dX11_size_79 : decode cX11_size 79 = .ok (.aload_n 0, 1) := by decide +kernel
theorem dX11_size_80 : decode cX11_size 80 = .ok (.getfield 31, 3) := by decide +kernel
theorem dX11_size_83 : decode cX11_size 83 = .ok (.iconst 1, 1) := by decide +kernel
theorem dX11_size_84 : decode cX11_size 84 = .ok (.iaload, 1) := by decide +kernel
theorem dX11_size_85 : decode cX11_size 85 = .ok (.ireturn, 1) := by decide +kernel
theorem dX11_size_86 : decode cX11_size 86 = .ok (.aload_n 0, 1) := by decide +kernel
theorem dX11_size_87 : decode cX11_size 87 = .ok (.getfield 100, 3) := by decide +kernel
theorem dX11_size_90 : decode cX11_size 90 = .ok (.ireturn, 1) := by decide +kernel
theorem dX11_size_91 : decode cX11_size 91 = .ok (.aload_n 0, 1) := by decide +kernel
theorem dX11_size_92 : decode cX11_size 92 = .ok (.getfield 31, 3) := by decide +kernel
theorem dX11_size_95 : decode cX11_size 95 = .ok (.bipush 14, 2) := by decide +kernel
theorem dX11_size_97 : decode cX11_size 97 = .ok (.iaload, 1) := by decide +kernel
theorem dX11_size_98 : decode cX11_size 98 = .ok (.ireturn, 1) := by decide +kernel
theorem dX11_size_99 : decode cX11_size 99 = .ok (.aload_n 0, 1) := by decide +kernel
theorem dX11_size_100 : decode cX11_size 100 = .ok (.iconst 2, 1) := by decide +kernel
theorem dX11_size_101 : decode cX11_size 101 = .ok (.aload_n 0, 1) := by decide +kernel
theorem dX11_size_102 : decode cX11_size 102 = .ok (.getfield 100, 3) := by decide +kernel
theorem dX11_size_105 : decode cX11_size 105 = .ok (.invokevirtual 132, 3) := by decide +kernel
theorem dX11_size_108 : decode cX11_size 108 = .ok (.ireturn, 1) := by decide +kernel
theorem dX11_size_109 : decode cX11_size 109 = .ok (.aload_n 0, 1) := by decide +kernel
theorem dX11_size_110 : decode cX11_size 110 = .ok (.iconst 2, 1) := by decide +kernel
theorem dX11_size_111 : decode cX11_size 111 = .ok (.aload_n 0, 1) := by decide +kernel
theorem dX11_size_112 : decode cX11_size 112 = .ok (.getfield 100, 3) := by decide +kernel
theorem dX11_size_115 : decode cX11_size 115 = .ok (.invokevirtual 136, 3) := by decide +kernel
theorem dX11_size_118 : decode cX11_size 118 = .ok (.ireturn, 1) := by decide +kernel
theorem dX11_size_119 : decode cX11_size 119 = .ok (.aload_n 0, 1) := by decide +kernel
theorem dX11_size_120 : decode cX11_size 120 = .ok (.invokevirtual 139, 3) := by decide +kernel
theorem dX11_size_123 : decode cX11_size 123 = .ok (.ireturn, 1) := by decide +kernel
theorem dX11_size_124 : decode cX11_size 124 = .ok (.aload_n 0, 1) := by decide +kernel
theorem dX11_size_125 : decode cX11_size 125 = .ok (.invokevirtual 142, 3) := by decide +kernel
theorem dX11_size_128 : decode cX11_size 128 = .ok (.ireturn, 1) := by decide +kernel
theorem dX11_size_129 : decode cX11_size 129 = .ok (.aload_n 0, 1) := by decide +kernel
theorem dX11_size_130 : decode cX11_size 130 = .ok (.invokevirtual 145, 3) := by decide +kernel
theorem dX11_size_133 : decode cX11_size 133 = .ok (.ireturn, 1) := by decide +kernel
theorem dX11_size_134 : decode cX11_size 134 = .ok (.aload_n 0, 1) := by decide +kernel
theorem dX11_size_135 : decode cX11_size 135 = .ok (.invokevirtual 148, 3) := by decide +kernel
theorem dX11_size_138 : decode cX11_size 138 = .ok (.ireturn, 1) := by decide +kernel
theorem dX11_account_0 : decode cX11_account 0 = .ok (.aload_n 0, 1) := by decide +kernel
theorem dX11_account_1 : decode cX11_account 1 = .ok (.iload_n 1, 1) := by decide +kernel
theorem dX11_account_2 : decode cX11_account 2 = .ok (.iconst 0, 1) := by decide +kernel
theorem dX11_account_3 : decode cX11_account 3 = .ok (.iconst 4, 1) := by decide +kernel
theorem dX11_account_4 : decode cX11_account 4 = .ok (.invokestatic 81, 3) := by decide +kernel
theorem dX11_account_7 : decode cX11_account 7 = .ok (.invokevirtual 125, 3) := by decide +kernel
theorem dX11_account_10 : decode cX11_account 10 = .ok (.ifCond .eq 7, 3) := by decide +kernel
theorem dX11_account_13 : decode cX11_account 13 = .ok (.iconst 0, 1) := by decide +kernel
theorem dX11_account_14 : decode cX11_account 14 = .ok (.goto 9, 3) := by decide +kernel
theorem dX11_account_17 : decode cX11_account 17 = .ok (.aload_n 0, 1) := by decide +kernel
theorem dX11_account_18 : decode cX11_account 18 = .ok (.getfield 25, 3) := by decide +kernel
theorem dX11_account_21 : decode cX11_account 21 = .ok (.iload_n 1, 1) := by decide +kernel
theorem dX11_account_22 : decode cX11_account 22 = .ok (.iaload, 1) := by decide +kernel
theorem dX11_account_23 : decode cX11_account 23 = .ok (.ireturn, 1) := by decide +kernel
theorem dX11_firstMark_0 : decode cX11_firstMark 0 = .ok (.iload_n 1, 1) := by decide +kernel
theorem dX11_firstMark_1 : decode cX11_firstMark 1 = .ok (.istore_n 3, 1) := by decide +kernel
theorem dX11_firstMark_2 : decode cX11_firstMark 2 = .ok (.iload_n 3, 1) := by decide +kernel
theorem dX11_firstMark_3 : decode cX11_firstMark 3 = .ok (.iload_n 2, 1) := by decide +kernel
theorem dX11_firstMark_4 : decode cX11_firstMark 4 = .ok (.if_icmp .gt 19, 3) := by decide +kernel
theorem dX11_firstMark_7 : decode cX11_firstMark 7 = .ok (.aload_n 0, 1) := by decide +kernel
theorem dX11_firstMark_8 : decode cX11_firstMark 8 = .ok (.iload_n 3, 1) := by decide +kernel
theorem dX11_firstMark_9 : decode cX11_firstMark 9 = .ok (.invokevirtual 107, 3) := by decide +kernel
theorem dX11_firstMark_12 : decode cX11_firstMark 12 = .ok (.ifCond .eq 5, 3) := by decide +kernel
theorem dX11_firstMark_15 : decode cX11_firstMark 15 = .ok (.iload_n 3, 1) := by decide +kernel
theorem dX11_firstMark_16 : decode cX11_firstMark 16 = .ok (.ireturn, 1) := by decide +kernel
theorem dX11_firstMark_17 : decode cX11_firstMark 17 = .ok (.iinc 3 1, 3) := by decide +kernel
theorem dX11_firstMark_20 : decode cX11_firstMark 20 = .ok (.goto (-18), 3) := by decide +kernel
theorem dX11_firstMark_23 : decode cX11_firstMark 23 = .ok (.iconst (-1), 1) := by decide +kernel
theorem dX11_firstMark_24 : decode cX11_firstMark 24 = .ok (.ireturn, 1) := by decide +kernel
theorem dX11_lastMark_0 : decode cX11_lastMark 0 = .ok (.iload_n 2, 1) := by decide +kernel
theorem dX11_lastMark_1 : decode cX11_lastMark 1 = .ok (.istore_n 3, 1) := by decide +kernel
theorem dX11_lastMark_2 : decode cX11_lastMark 2 = .ok (.iload_n 3, 1) := by decide +kernel
theorem dX11_lastMark_3 : decode cX11_lastMark 3 = .ok (.iload_n 1, 1) := by decide +kernel
theorem dX11_lastMark_4 : decode cX11_lastMark 4 = .ok (.if_icmp .lt 19, 3) := by decide +kernel
theorem dX11_lastMark_7 : decode cX11_lastMark 7 = .ok (.aload_n 0, 1) := by decide +kernel
theorem dX11_lastMark_8 : decode cX11_lastMark 8 = .ok (.iload_n 3, 1) := by decide +kernel
theorem dX11_lastMark_9 : decode cX11_lastMark 9 = .ok (.invokevirtual 107, 3) := by decide +kernel
theorem dX11_lastMark_12 : decode cX11_lastMark 12 = .ok (.ifCond .eq 5, 3) := by decide +kernel
theorem dX11_lastMark_15 : decode cX11_lastMark 15 = .ok (.iload_n 3, 1) := by decide +kernel
theorem dX11_lastMark_16 : decode cX11_lastMark 16 = .ok (.ireturn, 1) := by decide +kernel
theorem dX11_lastMark_17 : decode cX11_lastMark 17 = .ok (.iinc 3 (-1), 3) := by decide +kernel
theorem dX11_lastMark_20 : decode cX11_lastMark 20 = .ok (.goto (-18), 3) := by decide +kernel
theorem dX11_lastMark_23 : decode cX11_lastMark 23 = .ok (.iconst (-1), 1) := by decide +kernel
theorem dX11_lastMark_24 : decode cX11_lastMark 24 = .ok (.ireturn, 1) := by decide +kernel
theorem dX11_stretch_0 : decode cX11_stretch 0 = .ok (.aload_n 0, 1) := by decide +kernel
theorem dX11_stretch_1 : decode cX11_stretch 1 = .ok (.aload_n 0, 1) := by decide +kernel
theorem dX11_stretch_2 : decode cX11_stretch 2 = .ok (.iload_n 1, 1) := by decide +kernel
theorem dX11_stretch_3 : decode cX11_stretch 3 = .ok (.invokevirtual 151, 3) := by decide +kernel
theorem dX11_stretch_6 : decode cX11_stretch 6 = .ok (.invokevirtual 125, 3) := by decide +kernel
theorem dX11_stretch_9 : decode cX11_stretch 9 = .ok (.ifCond .eq 5, 3) := by decide +kernel
theorem dX11_stretch_12 : decode cX11_stretch 12 = .ok (.iconst 0, 1) := by decide +kernel
theorem dX11_stretch_13 : decode cX11_stretch 13 = .ok (.ireturn, 1) := by decide +kernel
theorem dX11_stretch_14 : decode cX11_stretch 14 = .ok (.aload_n 0, 1) := by decide +kernel
theorem dX11_stretch_15 : decode cX11_stretch 15 = .ok (.iload_n 1, 1) := by decide +kernel
theorem dX11_stretch_16 : decode cX11_stretch 16 = .ok (.invokevirtual 85, 3) := by decide +kernel
theorem dX11_stretch_19 : decode cX11_stretch 19 = .ok (.iconst 1, 1) := by decide +kernel
theorem dX11_stretch_20 : decode cX11_stretch 20 = .ok (.iadd, 1) := by decide +kernel
theorem dX11_stretch_21 : decode cX11_stretch 21 = .ok (.istore_n 3, 1) := by decide +kernel
theorem dX11_stretch_22 : decode cX11_stretch 22 = .ok (.aload_n 0, 1) := by decide +kernel
theorem dX11_stretch_23 : decode cX11_stretch 23 = .ok (.iload_n 1, 1) := by decide +kernel
theorem dX11_stretch_24 : decode cX11_stretch 24 = .ok (.iconst 1, 1) := by decide +kernel
theorem dX11_stretch_25 : decode cX11_stretch 25 = .ok (.iadd, 1) := by decide +kernel
theorem dX11_stretch_26 : decode cX11_stretch 26 = .ok (.invokevirtual 85, 3) := by decide +kernel
theorem dX11_stretch_29 : decode cX11_stretch 29 = .ok (.istore 4, 2) := by decide +kernel
theorem dX11_stretch_31 : decode cX11_stretch 31 = .ok (.aload_n 0, 1) := by decide +kernel
theorem dX11_stretch_32 : decode cX11_stretch 32 = .ok (.invokevirtual 129, 3) := by decide +kernel
theorem dX11_stretch_35 : decode cX11_stretch 35 = .ok (.iload_n 2, 1) := by decide +kernel
theorem dX11_stretch_36 : decode cX11_stretch 36 = .ok (.tableswitch 77 0 5 #[40, 42, 45, 53, 61, 69], 40) := by decide +kernel
theorem dX11_stretch_76 : decode cX11_stretch 76 = .ok (.iload_n 3, 1) := by decide +kernel
theorem dX11_stretch_77 : decode cX11_stretch 77 = .ok (.ireturn, 1) := by decide +kernel
theorem dX11_stretch_78 : decode cX11_stretch 78 = .ok (.iload 4, 2) := by decide +kernel
theorem dX11_stretch_80 : decode cX11_stretch 80 = .ok (.ireturn, 1) := by decide +kernel
theorem dX11_stretch_81 : decode cX11_stretch 81 = .ok (.aload_n 0, 1) := by decide +kernel
theorem dX11_stretch_82 : decode cX11_stretch 82 = .ok (.iload_n 3, 1) := by decide +kernel
theorem dX11_stretch_83 : decode cX11_stretch 83 = .ok (.iload 4, 2) := by decide +kernel
theorem dX11_stretch_85 : decode cX11_stretch 85 = .ok (.invokevirtual 132, 3) := by decide +kernel
theorem dX11_stretch_88 : decode cX11_stretch 88 = .ok (.ireturn, 1) := by decide +kernel
theorem dX11_stretch_89 : decode cX11_stretch 89 = .ok (.aload_n 0, 1) := by decide +kernel
theorem dX11_stretch_90 : decode cX11_stretch 90 = .ok (.iload_n 3, 1) := by decide +kernel
theorem dX11_stretch_91 : decode cX11_stretch 91 = .ok (.iload 4, 2) := by decide +kernel
theorem dX11_stretch_93 : decode cX11_stretch 93 = .ok (.invokevirtual 136, 3) := by decide +kernel
theorem dX11_stretch_96 : decode cX11_stretch 96 = .ok (.ireturn, 1) := by decide +kernel
theorem dX11_stretch_97 : decode cX11_stretch 97 = .ok (.aload_n 0, 1) := by decide +kernel
theorem dX11_stretch_98 : decode cX11_stretch 98 = .ok (.iload_n 3, 1) := by decide +kernel
theorem dX11_stretch_99 : decode cX11_stretch 99 = .ok (.iload 4, 2) := by decide +kernel
theorem dX11_stretch_101 : decode cX11_stretch 101 = .ok (.invokevirtual 154, 3) := by decide +kernel
theorem dX11_stretch_104 : decode cX11_stretch 104 = .ok (.ireturn, 1) := by decide +kernel
theorem dX11_stretch_105 : decode cX11_stretch 105 = .ok (.aload_n 0, 1) := by decide +kernel
theorem dX11_stretch_106 : decode cX11_stretch 106 = .ok (.iload_n 3, 1) := by decide +kernel
theorem dX11_stretch_107 : decode cX11_stretch 107 = .ok (.iload 4, 2) := by decide +kernel
theorem dX11_stretch_109 : decode cX11_stretch 109 = .ok (.invokevirtual 157, 3) := by decide +kernel
theorem dX11_stretch_112 : decode cX11_stretch 112 = .ok (.ireturn, 1) := by decide +kernel
theorem dX11_stretch_113 : decode cX11_stretch 113 = .ok (.aload_n 0, 1) := by decide +kernel
theorem dX11_stretch_114 : decode cX11_stretch 114 = .ok (.iconst 2, 1) := by decide +kernel
theorem dX11_stretch_115 : decode cX11_stretch 115 = .ok (.invokevirtual 160, 3) := by decide +kernel
theorem dX11_stretch_118 : decode cX11_stretch 118 = .ok (.ireturn, 1) := by decide +kernel
theorem dX11_struckBy_0 : decode cX11_struckBy 0 = .ok (.iconst 0, 1) := by decide +kernel
theorem dX11_struckBy_1 : decode cX11_struckBy 1 = .ok (.istore_n 2, 1) := by decide +kernel
theorem dX11_struckBy_2 : decode cX11_struckBy 2 = .ok (.iload_n 1, 1) := by decide +kernel
theorem dX11_struckBy_3 : decode cX11_struckBy 3 = .ok (.iload_n 1, 1) := by decide +kernel
theorem dX11_struckBy_4 : decode cX11_struckBy 4 = .ok (.imul, 1) := by decide +kernel
theorem dX11_struckBy_5 : decode cX11_struckBy 5 = .ok (.istore_n 3, 1) := by decide +kernel
theorem dX11_struckBy_6 : decode cX11_struckBy 6 = .ok (.iload_n 3, 1) := by decide +kernel
theorem dX11_struckBy_7 : decode cX11_struckBy 7 = .ok (.aload_n 0, 1) := by decide +kernel
theorem dX11_struckBy_8 : decode cX11_struckBy 8 = .ok (.getfield 100, 3) := by decide +kernel
theorem dX11_struckBy_11 : decode cX11_struckBy 11 = .ok (.if_icmp .gt 26, 3) := by decide +kernel
theorem dX11_struckBy_14 : decode cX11_struckBy 14 = .ok (.iload_n 2, 1) := by decide +kernel
theorem dX11_struckBy_15 : decode cX11_struckBy 15 = .ok (.aload_n 0, 1) := by decide +kernel
theorem dX11_struckBy_16 : decode cX11_struckBy 16 = .ok (.iload_n 3, 1) := by decide +kernel
theorem dX11_struckBy_17 : decode cX11_struckBy 17 = .ok (.invokevirtual 96, 3) := by decide +kernel
theorem dX11_struckBy_20 : decode cX11_struckBy 20 = .ok (.ifCond .eq 7, 3) := by decide +kernel
theorem dX11_struckBy_23 : decode cX11_struckBy 23 = .ok (.iconst 1, 1) := by decide +kernel
theorem dX11_struckBy_24 : decode cX11_struckBy 24 = .ok (.goto 4, 3) := by decide +kernel
theorem dX11_struckBy_27 : decode cX11_struckBy 27 = .ok (.iconst 0, 1) := by decide +kernel
theorem dX11_struckBy_28 : decode cX11_struckBy 28 = .ok (.iadd, 1) := by decide +kernel
theorem dX11_struckBy_29 : decode cX11_struckBy 29 = .ok (.istore_n 2, 1) := by decide +kernel
theorem dX11_struckBy_30 : decode cX11_struckBy 30 = .ok (.iload_n 3, 1) := by decide +kernel
theorem dX11_struckBy_31 : decode cX11_struckBy 31 = .ok (.iload_n 1, 1) := by decide +kernel
theorem dX11_struckBy_32 : decode cX11_struckBy 32 = .ok (.iadd, 1) := by decide +kernel
theorem dX11_struckBy_33 : decode cX11_struckBy 33 = .ok (.istore_n 3, 1) := by decide +kernel
theorem dX11_struckBy_34 : decode cX11_struckBy 34 = .ok (.goto (-28), 3) := by decide +kernel
theorem dX11_struckBy_37 : decode cX11_struckBy 37 = .ok (.iload_n 2, 1) := by decide +kernel
theorem dX11_struckBy_38 : decode cX11_struckBy 38 = .ok (.ireturn, 1) := by decide +kernel
theorem dX11_nextStruck_0 : decode cX11_nextStruck 0 = .ok (.aload_n 0, 1) := by decide +kernel
theorem dX11_nextStruck_1 : decode cX11_nextStruck 1 = .ok (.iload_n 1, 1) := by decide +kernel
theorem dX11_nextStruck_2 : decode cX11_nextStruck 2 = .ok (.invokevirtual 96, 3) := by decide +kernel
theorem dX11_nextStruck_5 : decode cX11_nextStruck 5 = .ok (.ifCond .eq 11, 3) := by decide +kernel
theorem dX11_nextStruck_8 : decode cX11_nextStruck 8 = .ok (.aload_n 0, 1) := by decide +kernel
theorem dX11_nextStruck_9 : decode cX11_nextStruck 9 = .ok (.iload_n 1, 1) := by decide +kernel
theorem dX11_nextStruck_10 : decode cX11_nextStruck 10 = .ok (.invokevirtual 113, 3) := by decide +kernel
theorem dX11_nextStruck_13 : decode cX11_nextStruck 13 = .ok (.ifCond .eq 5, 3) := by decide +kernel
theorem dX11_nextStruck_16 : decode cX11_nextStruck 16 = .ok (.iconst (-1), 1) := by decide +kernel
theorem dX11_nextStruck_17 : decode cX11_nextStruck 17 = .ok (.ireturn, 1) := by decide +kernel
theorem dX11_nextStruck_18 : decode cX11_nextStruck 18 = .ok (.iload_n 1, 1) := by decide +kernel
theorem dX11_nextStruck_19 : decode cX11_nextStruck 19 = .ok (.iload_n 1, 1) := by decide +kernel
theorem dX11_nextStruck_20 : decode cX11_nextStruck 20 = .ok (.imul, 1) := by decide +kernel
theorem dX11_nextStruck_21 : decode cX11_nextStruck 21 = .ok (.aload_n 0, 1) := by decide +kernel
theorem dX11_nextStruck_22 : decode cX11_nextStruck 22 = .ok (.getfield 100, 3) := by decide +kernel
theorem dX11_nextStruck_25 : decode cX11_nextStruck 25 = .ok (.if_icmp .le 9, 3) := by decide +kernel
theorem dX11_nextStruck_28 : decode cX11_nextStruck 28 = .ok (.iload_n 1, 1) := by decide +kernel
theorem dX11_nextStruck_29 : decode cX11_nextStruck 29 = .ok (.iload_n 1, 1) := by decide +kernel
theorem dX11_nextStruck_30 : decode cX11_nextStruck 30 = .ok (.imul, 1) := by decide +kernel
theorem dX11_nextStruck_31 : decode cX11_nextStruck 31 = .ok (.goto 9, 3) := by decide +kernel
theorem dX11_nextStruck_34 : decode cX11_nextStruck 34 = .ok (.aload_n 0, 1) := by decide +kernel
theorem dX11_nextStruck_35 : decode cX11_nextStruck 35 = .ok (.getfield 100, 3) := by decide +kernel
theorem dX11_nextStruck_38 : decode cX11_nextStruck 38 = .ok (.iconst 1, 1) := by decide +kernel
theorem dX11_nextStruck_39 : decode cX11_nextStruck 39 = .ok (.iadd, 1) := by decide +kernel
theorem dX11_nextStruck_40 : decode cX11_nextStruck 40 = .ok (.istore_n 2, 1) := by decide +kernel
theorem dX11_nextStruck_41 : decode cX11_nextStruck 41 = .ok (.aload_n 0, 1) := by decide +kernel
theorem dX11_nextStruck_42 : decode cX11_nextStruck 42 = .ok (.iload_n 1, 1) := by decide +kernel
theorem dX11_nextStruck_43 : decode cX11_nextStruck 43 = .ok (.iload_n 2, 1) := by decide +kernel
theorem dX11_nextStruck_44 : decode cX11_nextStruck 44 = .ok (.invokevirtual 163, 3) := by decide +kernel
theorem dX11_nextStruck_47 : decode cX11_nextStruck 47 = .ok (.ifCond .ne 9, 3) := by decide +kernel
theorem dX11_nextStruck_50 : decode cX11_nextStruck 50 = .ok (.iinc 2 1, 3) := by decide +kernel
theorem dX11_nextStruck_53 : decode cX11_nextStruck 53 = .ok (.goto (-12), 3) := by decide +kernel
theorem dX11_nextStruck_56 : decode cX11_nextStruck 56 = .ok (.iload_n 2, 1) := by decide +kernel
theorem dX11_nextStruck_57 : decode cX11_nextStruck 57 = .ok (.ireturn, 1) := by decide +kernel
theorem dX11_leastOwned_0 : decode cX11_leastOwned 0 = .ok (.iconst 2, 1) := by decide +kernel
theorem dX11_leastOwned_1 : decode cX11_leastOwned 1 = .ok (.istore_n 2, 1) := by decide +kernel
theorem dX11_leastOwned_2 : decode cX11_leastOwned 2 = .ok (.iload_n 2, 1) := by decide +kernel
theorem dX11_leastOwned_3 : decode cX11_leastOwned 3 = .ok (.aload_n 0, 1) := by decide +kernel
theorem dX11_leastOwned_4 : decode cX11_leastOwned 4 = .ok (.getfield 100, 3) := by decide +kernel
theorem dX11_leastOwned_7 : decode cX11_leastOwned 7 = .ok (.if_icmp .gt 21, 3) := by decide +kernel
theorem dX11_leastOwned_10 : decode cX11_leastOwned 10 = .ok (.aload_n 0, 1) := by decide +kernel
theorem dX11_leastOwned_11 : decode cX11_leastOwned 11 = .ok (.getfield 34, 3) := by decide +kernel
theorem dX11_leastOwned_14 : decode cX11_leastOwned 14 = .ok (.iload_n 2, 1) := by decide +kernel
theorem dX11_leastOwned_15 : decode cX11_leastOwned 15 = .ok (.iaload, 1) := by decide +kernel
theorem dX11_leastOwned_16 : decode cX11_leastOwned 16 = .ok (.iload_n 1, 1) := by decide +kernel
theorem dX11_leastOwned_17 : decode cX11_leastOwned 17 = .ok (.if_icmp .ne 5, 3) := by decide +kernel
theorem dX11_leastOwned_20 : decode cX11_leastOwned 20 = .ok (.iload_n 2, 1) := by decide +kernel
theorem dX11_leastOwned_21 : decode cX11_leastOwned 21 = .ok (.ireturn, 1) := by decide +kernel
theorem dX11_leastOwned_22 : decode cX11_leastOwned 22 = .ok (.iinc 2 1, 3) := by decide +kernel
theorem dX11_leastOwned_25 : decode cX11_leastOwned 25 = .ok (.goto (-23), 3) := by decide +kernel
theorem dX11_leastOwned_28 : decode cX11_leastOwned 28 = .ok (.iconst (-1), 1) := by decide +kernel
theorem dX11_leastOwned_29 : decode cX11_leastOwned 29 = .ok (.ireturn, 1) := by decide +kernel
theorem dX11_striker_0 : decode cX11_striker 0 = .ok (.aload_n 0, 1) := by decide +kernel
theorem dX11_striker_1 : decode cX11_striker 1 = .ok (.aload_n 0, 1) := by decide +kernel
theorem dX11_striker_2 : decode cX11_striker 2 = .ok (.iload_n 1, 1) := by decide +kernel
theorem dX11_striker_3 : decode cX11_striker 3 = .ok (.invokevirtual 167, 3) := by decide +kernel
theorem dX11_striker_6 : decode cX11_striker 6 = .ok (.invokevirtual 125, 3) := by decide +kernel
theorem dX11_striker_9 : decode cX11_striker 9 = .ok (.ifCond .eq 5, 3) := by decide +kernel
theorem dX11_striker_12 : decode cX11_striker 12 = .ok (.iconst 0, 1) := by decide +kernel
theorem dX11_striker_13 : decode cX11_striker 13 = .ok (.ireturn, 1) := by decide +kernel
theorem dX11_striker_14 : decode cX11_striker 14 = .ok (.aload_n 0, 1) := by decide +kernel
theorem dX11_striker_15 : decode cX11_striker 15 = .ok (.getfield 31, 3) := by decide +kernel
theorem dX11_striker_18 : decode cX11_striker 18 = .ok (.bipush 15, 2) := by decide +kernel
theorem dX11_striker_20 : decode cX11_striker 20 = .ok (.iload_n 1, 1) := by decide +kernel
theorem dX11_striker_21 : decode cX11_striker 21 = .ok (.iadd, 1) := by decide +kernel
theorem dX11_striker_22 : decode cX11_striker 22 = .ok (.iaload, 1) := by decide +kernel
theorem dX11_striker_23 : decode cX11_striker 23 = .ok (.istore_n 3, 1) := by decide +kernel
theorem dX11_striker_24 : decode cX11_striker 24 = .ok (.aload_n 0, 1) := by decide +kernel
theorem dX11_striker_25 : decode cX11_striker 25 = .ok (.invokevirtual 129, 3) := by decide +kernel
theorem dX11_striker_28 : decode cX11_striker 28 = .ok (.iload_n 2, 1) := by decide +kernel
theorem dX11_striker_29 : decode cX11_striker 29 = .ok (.tableswitch 78 0 5 #[39, 41, 47, 53, 59, 72], 39) := by decide +kernel
theorem dX11_striker_68 : decode cX11_striker 68 = .ok (.iload_n 3, 1) := by decide +kernel
theorem dX11_striker_69 : decode cX11_striker 69 = .ok (.ireturn, 1) := by decide +kernel
theorem dX11_striker_70 : decode cX11_striker 70 = .ok (.aload_n 0, 1) := by decide +kernel
theorem dX11_striker_71 : decode cX11_striker 71 = .ok (.iload_n 3, 1) := by decide +kernel
theorem dX11_striker_72 : decode cX11_striker 72 = .ok (.invokevirtual 170, 3) := by decide +kernel
theorem dX11_striker_75 : decode cX11_striker 75 = .ok (.ireturn, 1) := by decide +kernel
theorem dX11_striker_76 : decode cX11_striker 76 = .ok (.aload_n 0, 1) := by decide +kernel
theorem dX11_striker_77 : decode cX11_striker 77 = .ok (.iload_n 1, 1) := by decide +kernel
theorem dX11_striker_78 : decode cX11_striker 78 = .ok (.invokevirtual 122, 3) := by decide +kernel
theorem dX11_striker_81 : decode cX11_striker 81 = .ok (.ireturn, 1) := by decide +kernel
theorem dX11_striker_82 : decode cX11_striker 82 = .ok (.aload_n 0, 1) := by decide +kernel
theorem dX11_striker_83 : decode cX11_striker 83 = .ok (.iload_n 3, 1) := by decide +kernel
theorem dX11_striker_84 : decode cX11_striker 84 = .ok (.invokevirtual 173, 3) := by decide +kernel
theorem dX11_striker_87 : decode cX11_striker 87 = .ok (.ireturn, 1) := by decide +kernel
theorem dX11_striker_88 : decode cX11_striker 88 = .ok (.iload_n 3, 1) := by decide +kernel
theorem dX11_striker_89 : decode cX11_striker 89 = .ok (.invokestatic 176, 3) := by decide +kernel
theorem dX11_striker_92 : decode cX11_striker 92 = .ok (.ifCond .eq 7, 3) := by decide +kernel
theorem dX11_striker_95 : decode cX11_striker 95 = .ok (.iconst 1, 1) := by decide +kernel
theorem dX11_striker_96 : decode cX11_striker 96 = .ok (.goto 4, 3) := by decide +kernel
theorem dX11_striker_99 : decode cX11_striker 99 = .ok (.iconst 0, 1) := by decide +kernel
theorem dX11_striker_100 : decode cX11_striker 100 = .ok (.ireturn, 1) := by decide +kernel
theorem dX11_striker_101 : decode cX11_striker 101 = .ok (.aload_n 0, 1) := by decide +kernel
theorem dX11_striker_102 : decode cX11_striker 102 = .ok (.iload_n 1, 1) := by decide +kernel
theorem dX11_striker_103 : decode cX11_striker 103 = .ok (.invokevirtual 179, 3) := by decide +kernel
theorem dX11_striker_106 : decode cX11_striker 106 = .ok (.ireturn, 1) := by decide +kernel
theorem dX11_striker_107 : decode cX11_striker 107 = .ok (.aload_n 0, 1) := by decide +kernel
theorem dX11_striker_108 : decode cX11_striker 108 = .ok (.iconst 2, 1) := by decide +kernel
theorem dX11_striker_109 : decode cX11_striker 109 = .ok (.invokevirtual 160, 3) := by decide +kernel
theorem dX11_striker_112 : decode cX11_striker 112 = .ok (.ireturn, 1) := by decide +kernel
theorem dX11_find_0 : decode cX11_find 0 = .ok (.aload_n 0, 1) := by decide +kernel
theorem dX11_find_1 : decode cX11_find 1 = .ok (.iconst 0, 1) := by decide +kernel
theorem dX11_find_2 : decode cX11_find 2 = .ok (.putfield 78, 3) := by decide +kernel
theorem dX11_find_5 : decode cX11_find 5 = .ok (.aload_n 0, 1) := by decide +kernel
theorem dX11_find_6 : decode cX11_find 6 = .ok (.iload_n 1, 1) := by decide +kernel
theorem dX11_find_7 : decode cX11_find 7 = .ok (.invokevirtual 110, 3) := by decide +kernel
theorem dX11_find_10 : decode cX11_find 10 = .ok (.ireturn, 1) := by decide +kernel
theorem dX11_kindOf_0 : decode cX11_kindOf 0 = .ok (.aload_n 0, 1) := by decide +kernel
theorem dX11_kindOf_1 : decode cX11_kindOf 1 = .ok (.iload_n 1, 1) := by decide +kernel
theorem dX11_kindOf_2 : decode cX11_kindOf 2 = .ok (.invokevirtual 182, 3) := by decide +kernel
theorem dX11_kindOf_5 : decode cX11_kindOf 5 = .ok (.ifCond .ne 5, 3) := by decide +kernel
theorem dX11_kindOf_8 : decode cX11_kindOf 8 = .ok (.iconst 3, 1) := by decide +kernel
theorem dX11_kindOf_9 : decode cX11_kindOf 9 = .ok (.ireturn, 1) := by decide +kernel
theorem dX11_kindOf_10 : decode cX11_kindOf 10 = .ok (.aload_n 0, 1) := by decide +kernel
theorem dX11_kindOf_11 : decode cX11_kindOf 11 = .ok (.iload_n 1, 1) := by decide +kernel
theorem dX11_kindOf_12 : decode cX11_kindOf 12 = .ok (.invokevirtual 96, 3) := by decide +kernel
theorem dX11_kindOf_15 : decode cX11_kindOf 15 = .ok (.ifCond .ne 7, 3) := by decide +kernel
theorem dX11_kindOf_18 : decode cX11_kindOf 18 = .ok (.iconst 1, 1) := by decide +kernel
theorem dX11_kindOf_19 : decode cX11_kindOf 19 = .ok (.goto 17, 3) := by decide +kernel
theorem dX11_kindOf_22 : decode cX11_kindOf 22 = .ok (.aload_n 0, 1) := by decide +kernel
theorem dX11_kindOf_23 : decode cX11_kindOf 23 = .ok (.getfield 37, 3) := by decide +kernel
theorem dX11_kindOf_26 : decode cX11_kindOf 26 = .ok (.iload_n 1, 1) := by decide +kernel
theorem dX11_kindOf_27 : decode cX11_kindOf 27 = .ok (.iaload, 1) := by decide +kernel
theorem dX11_kindOf_28 : decode cX11_kindOf 28 = .ok (.ifCond .le 7, 3) := by decide +kernel
theorem dX11_kindOf_31 : decode cX11_kindOf 31 = .ok (.iconst 2, 1) := by decide +kernel
theorem dX11_kindOf_32 : decode cX11_kindOf 32 = .ok (.goto 4, 3) := by decide +kernel
theorem dX11_kindOf_35 : decode cX11_kindOf 35 = .ok (.iconst 0, 1) := by decide +kernel
theorem dX11_kindOf_36 : decode cX11_kindOf 36 = .ok (.ireturn, 1) := by decide +kernel
theorem dX11_at_0 : decode cX11_at 0 = .ok (.aload_n 0, 1) := by decide +kernel
theorem dX11_at_1 : decode cX11_at 1 = .ok (.iconst 0, 1) := by decide +kernel
theorem dX11_at_2 : decode cX11_at 2 = .ok (.putfield 78, 3) := by decide +kernel
theorem dX11_at_5 : decode cX11_at 5 = .ok (.aload_n 0, 1) := by decide +kernel
theorem dX11_at_6 : decode cX11_at 6 = .ok (.invokevirtual 129, 3) := by decide +kernel
theorem dX11_at_9 : decode cX11_at 9 = .ok (.aload_n 0, 1) := by decide +kernel
theorem dX11_at_10 : decode cX11_at 10 = .ok (.iload_n 1, 1) := by decide +kernel
theorem dX11_at_11 : decode cX11_at 11 = .ok (.invokevirtual 185, 3) := by decide +kernel
theorem dX11_at_14 : decode cX11_at 14 = .ok (.ireturn, 1) := by decide +kernel
theorem dX11_cause_0 : decode cX11_cause 0 = .ok (.aload_n 0, 1) := by decide +kernel
theorem dX11_cause_1 : decode cX11_cause 1 = .ok (.iconst 0, 1) := by decide +kernel
theorem dX11_cause_2 : decode cX11_cause 2 = .ok (.putfield 78, 3) := by decide +kernel
theorem dX11_cause_5 : decode cX11_cause 5 = .ok (.aload_n 0, 1) := by decide +kernel
theorem dX11_cause_6 : decode cX11_cause 6 = .ok (.invokevirtual 129, 3) := by decide +kernel
theorem dX11_cause_9 : decode cX11_cause 9 = .ok (.aload_n 0, 1) := by decide +kernel
