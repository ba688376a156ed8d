theorem dX11_cause_10 : decode cX11_cause 10 = .ok (.iload_n 1, 1) := by decide +kernel
theorem dX11_cause_11 : decode cX11_cause 11 = .ok (.invokevirtual 185, 3) := by decide +kernel
theorem dX11_cause_14 : decode cX11_cause 14 = .ok (.tableswitch 52 1 3 #[26, 32, 47], 26) := by decide +kernel
theorem dX11_cause_40 : decode cX11_cause 40 = .ok (.aload_n 0, 1) := by decide +kernel
theorem dX11_cause_41 : decode cX11_cause 41 = .ok (.iload_n 1, 1) := by decide +kernel
theorem dX11_cause_42 : decode cX11_cause 42 = .ok (.invokevirtual 93, 3) := by decide +kernel
theorem dX11_cause_45 : decode cX11_cause 45 = .ok (.ireturn, 1) := by decide +kernel
theorem dX11_cause_46 : decode cX11_cause 46 = .ok (.aload_n 0, 1) := by decide +kernel
theorem dX11_cause_47 : decode cX11_cause 47 = .ok (.getfield 31, 3) := by decide +kernel
theorem dX11_cause_50 : decode cX11_cause 50 = .ok (.bipush 15, 2) := by decide +kernel
theorem dX11_cause_52 : decode cX11_cause 52 = .ok (.aload_n 0, 1) := by decide +kernel
theorem dX11_cause_53 : decode cX11_cause 53 = .ok (.getfield 34, 3) := by decide +kernel
theorem dX11_cause_56 : decode cX11_cause 56 = .ok (.iload_n 1, 1) := by decide +kernel
theorem dX11_cause_57 : decode cX11_cause 57 = .ok (.iaload, 1) := by decide +kernel
theorem dX11_cause_58 : decode cX11_cause 58 = .ok (.iadd, 1) := by decide +kernel
theorem dX11_cause_59 : decode cX11_cause 59 = .ok (.iaload, 1) := by decide +kernel
theorem dX11_cause_60 : decode cX11_cause 60 = .ok (.ireturn, 1) := by decide +kernel
theorem dX11_cause_61 : decode cX11_cause 61 = .ok (.aload_n 0, 1) := by decide +kernel
theorem dX11_cause_62 : decode cX11_cause 62 = .ok (.getfield 100, 3) := by decide +kernel
theorem dX11_cause_65 : decode cX11_cause 65 = .ok (.ireturn, 1) := by decide +kernel
theorem dX11_cause_66 : decode cX11_cause 66 = .ok (.iconst 0, 1) := by decide +kernel
theorem dX11_cause_67 : decode cX11_cause 67 = .ok (.ireturn, 1) := by decide +kernel
theorem dX11_struck_0 : decode cX11_struck 0 = .ok (.aload_n 0, 1) := by decide +kernel
theorem dX11_struck_1 : decode cX11_struck 1 = .ok (.aload_n 0, 1) := by decide +kernel
theorem dX11_struck_2 : decode cX11_struck 2 = .ok (.iload_n 1, 1) := by decide +kernel
theorem dX11_struck_3 : decode cX11_struck 3 = .ok (.invokevirtual 182, 3) := by decide +kernel
theorem dX11_struck_6 : decode cX11_struck 6 = .ok (.invokevirtual 125, 3) := by decide +kernel
theorem dX11_struck_9 : decode cX11_struck 9 = .ok (.ifCond .eq 5, 3) := by decide +kernel
theorem dX11_struck_12 : decode cX11_struck 12 = .ok (.iconst 0, 1) := by decide +kernel
theorem dX11_struck_13 : decode cX11_struck 13 = .ok (.ireturn, 1) := by decide +kernel
theorem dX11_struck_14 : decode cX11_struck 14 = .ok (.aload_n 0, 1) := by decide +kernel
theorem dX11_struck_15 : decode cX11_struck 15 = .ok (.invokevirtual 129, 3) := by decide +kernel
theorem dX11_struck_18 : decode cX11_struck 18 = .ok (.aload_n 0, 1) := by decide +kernel
theorem dX11_struck_19 : decode cX11_struck 19 = .ok (.getfield 37, 3) := by decide +kernel
theorem dX11_struck_22 : decode cX11_struck 22 = .ok (.iload_n 1, 1) := by decide +kernel
theorem dX11_struck_23 : decode cX11_struck 23 = .ok (.iaload, 1) := by decide +kernel
theorem dX11_struck_24 : decode cX11_struck 24 = .ok (.ireturn, 1) := by decide +kernel
theorem dX11_isCoprime_0 : decode cX11_isCoprime 0 = .ok (.aload_n 0, 1) := by decide +kernel
theorem dX11_isCoprime_1 : decode cX11_isCoprime 1 = .ok (.iload_n 1, 1) := by decide +kernel
theorem dX11_isCoprime_2 : decode cX11_isCoprime 2 = .ok (.invokevirtual 96, 3) := by decide +kernel
theorem dX11_isCoprime_5 : decode cX11_isCoprime 5 = .ok (.ifCond .eq 15, 3) := by decide +kernel
theorem dX11_isCoprime_8 : decode cX11_isCoprime 8 = .ok (.aload_n 0, 1) := by decide +kernel
theorem dX11_isCoprime_9 : decode cX11_isCoprime 9 = .ok (.iload_n 1, 1) := by decide +kernel
theorem dX11_isCoprime_10 : decode cX11_isCoprime 10 = .ok (.invokevirtual 113, 3) := by decide +kernel
theorem dX11_isCoprime_13 : decode cX11_isCoprime 13 = .ok (.ifCond .ne 7, 3) := by decide +kernel
theorem dX11_isCoprime_16 : decode cX11_isCoprime 16 = .ok (.iconst 1, 1) := by decide +kernel
theorem dX11_isCoprime_17 : decode cX11_isCoprime 17 = .ok (.goto 4, 3) := by decide +kernel
theorem dX11_isCoprime_20 : decode cX11_isCoprime 20 = .ok (.iconst 0, 1) := by decide +kernel
theorem dX11_isCoprime_21 : decode cX11_isCoprime 21 = .ok (.ireturn, 1) := by decide +kernel
theorem dX11_spokeAt_0 : decode cX11_spokeAt 0 = .ok (.aload_n 0, 1) := by decide +kernel
theorem dX11_spokeAt_1 : decode cX11_spokeAt 1 = .ok (.iconst 0, 1) := by decide +kernel
theorem dX11_spokeAt_2 : decode cX11_spokeAt 2 = .ok (.putfield 78, 3) := by decide +kernel
theorem dX11_spokeAt_5 : decode cX11_spokeAt 5 = .ok (.iload_n 1, 1) := by decide +kernel
theorem dX11_spokeAt_6 : decode cX11_spokeAt 6 = .ok (.istore_n 2, 1) := by decide +kernel
theorem dX11_spokeAt_7 : decode cX11_spokeAt 7 = .ok (.iconst 1, 1) := by decide +kernel
theorem dX11_spokeAt_8 : decode cX11_spokeAt 8 = .ok (.istore_n 3, 1) := by decide +kernel
theorem dX11_spokeAt_9 : decode cX11_spokeAt 9 = .ok (.iload_n 3, 1) := by decide +kernel
theorem dX11_spokeAt_10 : decode cX11_spokeAt 10 = .ok (.aload_n 0, 1) := by decide +kernel
theorem dX11_spokeAt_11 : decode cX11_spokeAt 11 = .ok (.invokevirtual 139, 3) := by decide +kernel
theorem dX11_spokeAt_14 : decode cX11_spokeAt 14 = .ok (.if_icmp .gt 30, 3) := by decide +kernel
theorem dX11_spokeAt_17 : decode cX11_spokeAt 17 = .ok (.iload_n 2, 1) := by decide +kernel
theorem dX11_spokeAt_18 : decode cX11_spokeAt 18 = .ok (.ifCond .lt 26, 3) := by decide +kernel
theorem dX11_spokeAt_21 : decode cX11_spokeAt 21 = .ok (.aload_n 0, 1) := by decide +kernel
theorem dX11_spokeAt_22 : decode cX11_spokeAt 22 = .ok (.iload_n 3, 1) := by decide +kernel
theorem dX11_spokeAt_23 : decode cX11_spokeAt 23 = .ok (.invokevirtual 188, 3) := by decide +kernel
theorem dX11_spokeAt_26 : decode cX11_spokeAt 26 = .ok (.ifCond .eq 12, 3) := by decide +kernel
theorem dX11_spokeAt_29 : decode cX11_spokeAt 29 = .ok (.iload_n 2, 1) := by decide +kernel
theorem dX11_spokeAt_30 : decode cX11_spokeAt 30 = .ok (.ifCond .ne 5, 3) := by decide +kernel
theorem dX11_spokeAt_33 : decode cX11_spokeAt 33 = .ok (.iload_n 3, 1) := by decide +kernel
theorem dX11_spokeAt_34 : decode cX11_spokeAt 34 = .ok (.ireturn, 1) := by decide +kernel
theorem dX11_spokeAt_35 : decode cX11_spokeAt 35 = .ok (.iinc 2 (-1), 3) := by decide +kernel
theorem dX11_spokeAt_38 : decode cX11_spokeAt 38 = .ok (.iinc 3 1, 3) := by decide +kernel
theorem dX11_spokeAt_41 : decode cX11_spokeAt 41 = .ok (.goto (-32), 3) := by decide +kernel
theorem dX11_spokeAt_44 : decode cX11_spokeAt 44 = .ok (.iconst (-1), 1) := by decide +kernel
theorem dX11_spokeAt_45 : decode cX11_spokeAt 45 = .ok (.ireturn, 1) := by decide +kernel
theorem dX11_spokeOf_0 : decode cX11_spokeOf 0 = .ok (.aload_n 0, 1) := by decide +kernel
theorem dX11_spokeOf_1 : decode cX11_spokeOf 1 = .ok (.iconst 0, 1) := by decide +kernel
theorem dX11_spokeOf_2 : decode cX11_spokeOf 2 = .ok (.putfield 78, 3) := by decide +kernel
theorem dX11_spokeOf_5 : decode cX11_spokeOf 5 = .ok (.aload_n 0, 1) := by decide +kernel
theorem dX11_spokeOf_6 : decode cX11_spokeOf 6 = .ok (.invokevirtual 139, 3) := by decide +kernel
theorem dX11_spokeOf_9 : decode cX11_spokeOf 9 = .ok (.istore_n 2, 1) := by decide +kernel
theorem dX11_spokeOf_10 : decode cX11_spokeOf 10 = .ok (.iload_n 1, 1) := by decide +kernel
theorem dX11_spokeOf_11 : decode cX11_spokeOf 11 = .ok (.iconst 1, 1) := by decide +kernel
theorem dX11_spokeOf_12 : decode cX11_spokeOf 12 = .ok (.if_icmp .ge 7, 3) := by decide +kernel
theorem dX11_spokeOf_15 : decode cX11_spokeOf 15 = .ok (.iconst 0, 1) := by decide +kernel
theorem dX11_spokeOf_16 : decode cX11_spokeOf 16 = .ok (.goto 10, 3) := by decide +kernel
theorem dX11_spokeOf_19 : decode cX11_spokeOf 19 = .ok (.iload_n 1, 1) := by decide +kernel
theorem dX11_spokeOf_20 : decode cX11_spokeOf 20 = .ok (.iconst 1, 1) := by decide +kernel
theorem dX11_spokeOf_21 : decode cX11_spokeOf 21 = .ok (.isub, 1) := by decide +kernel
theorem dX11_spokeOf_22 : decode cX11_spokeOf 22 = .ok (.iload_n 2, 1) := by decide +kernel
theorem dX11_spokeOf_23 : decode cX11_spokeOf 23 = .ok (.irem, 1) := by decide +kernel
theorem dX11_spokeOf_24 : decode cX11_spokeOf 24 = .ok (.iconst 1, 1) := by decide +kernel
theorem dX11_spokeOf_25 : decode cX11_spokeOf 25 = .ok (.iadd, 1) := by decide +kernel
theorem dX11_spokeOf_26 : decode cX11_spokeOf 26 = .ok (.istore_n 3, 1) := by decide +kernel
theorem dX11_spokeOf_27 : decode cX11_spokeOf 27 = .ok (.iload_n 3, 1) := by decide +kernel
theorem dX11_spokeOf_28 : decode cX11_spokeOf 28 = .ok (.ifCond .eq 11, 3) := by decide +kernel
theorem dX11_spokeOf_31 : decode cX11_spokeOf 31 = .ok (.aload_n 0, 1) := by decide +kernel
theorem dX11_spokeOf_32 : decode cX11_spokeOf 32 = .ok (.iload_n 3, 1) := by decide +kernel
theorem dX11_spokeOf_33 : decode cX11_spokeOf 33 = .ok (.invokevirtual 188, 3) := by decide +kernel
theorem dX11_spokeOf_36 : decode cX11_spokeOf 36 = .ok (.ifCond .ne 5, 3) := by decide +kernel
theorem dX11_spokeOf_39 : decode cX11_spokeOf 39 = .ok (.iconst (-1), 1) := by decide +kernel
theorem dX11_spokeOf_40 : decode cX11_spokeOf 40 = .ok (.ireturn, 1) := by decide +kernel
theorem dX11_spokeOf_41 : decode cX11_spokeOf 41 = .ok (.iconst 0, 1) := by decide +kernel
theorem dX11_spokeOf_42 : decode cX11_spokeOf 42 = .ok (.istore 4, 2) := by decide +kernel
theorem dX11_spokeOf_44 : decode cX11_spokeOf 44 = .ok (.iconst 1, 1) := by decide +kernel
theorem dX11_spokeOf_45 : decode cX11_spokeOf 45 = .ok (.istore 5, 2) := by decide +kernel
theorem dX11_spokeOf_47 : decode cX11_spokeOf 47 = .ok (.iload 5, 2) := by decide +kernel
theorem dX11_spokeOf_49 : decode cX11_spokeOf 49 = .ok (.iload_n 3, 1) := by decide +kernel
theorem dX11_spokeOf_50 : decode cX11_spokeOf 50 = .ok (.if_icmp .ge 28, 3) := by decide +kernel
theorem dX11_spokeOf_53 : decode cX11_spokeOf 53 = .ok (.iload 4, 2) := by decide +kernel
theorem dX11_spokeOf_55 : decode cX11_spokeOf 55 = .ok (.aload_n 0, 1) := by decide +kernel
theorem dX11_spokeOf_56 : decode cX11_spokeOf 56 = .ok (.iload 5, 2) := by decide +kernel
theorem dX11_spokeOf_58 : decode cX11_spokeOf 58 = .ok (.invokevirtual 188, 3) := by decide +kernel
theorem dX11_spokeOf_61 : decode cX11_spokeOf 61 = .ok (.ifCond .eq 7, 3) := by decide +kernel
theorem dX11_spokeOf_64 : decode cX11_spokeOf 64 = .ok (.iconst 1, 1) := by decide +kernel
theorem dX11_spokeOf_65 : decode cX11_spokeOf 65 = .ok (.goto 4, 3) := by decide +kernel
theorem dX11_spokeOf_68 : decode cX11_spokeOf 68 = .ok (.iconst 0, 1) := by decide +kernel
theorem dX11_spokeOf_69 : decode cX11_spokeOf 69 = .ok (.iadd, 1) := by decide +kernel
theorem dX11_spokeOf_70 : decode cX11_spokeOf 70 = .ok (.istore 4, 2) := by decide +kernel
theorem dX11_spokeOf_72 : decode cX11_spokeOf 72 = .ok (.iinc 5 1, 3) := by decide +kernel
theorem dX11_spokeOf_75 : decode cX11_spokeOf 75 = .ok (.goto (-28), 3) := by decide +kernel
theorem dX11_spokeOf_78 : decode cX11_spokeOf 78 = .ok (.iload 4, 2) := by decide +kernel
theorem dX11_spokeOf_80 : decode cX11_spokeOf 80 = .ok (.ireturn, 1) := by decide +kernel
theorem dX11_both_0 : decode cX11_both 0 = .ok (.aload_n 0, 1) := by decide +kernel
theorem dX11_both_1 : decode cX11_both 1 = .ok (.aload_n 0, 1) := by decide +kernel
theorem dX11_both_2 : decode cX11_both 2 = .ok (.iload_n 1, 1) := by decide +kernel
theorem dX11_both_3 : decode cX11_both 3 = .ok (.invokevirtual 167, 3) := by decide +kernel
theorem dX11_both_6 : decode cX11_both 6 = .ok (.ifCond .eq 15, 3) := by decide +kernel
theorem dX11_both_9 : decode cX11_both 9 = .ok (.aload_n 0, 1) := by decide +kernel
theorem dX11_both_10 : decode cX11_both 10 = .ok (.iload_n 2, 1) := by decide +kernel
theorem dX11_both_11 : decode cX11_both 11 = .ok (.invokevirtual 167, 3) := by decide +kernel
theorem dX11_both_14 : decode cX11_both 14 = .ok (.ifCond .eq 7, 3) := by decide +kernel
theorem dX11_both_17 : decode cX11_both 17 = .ok (.iconst 1, 1) := by decide +kernel
theorem dX11_both_18 : decode cX11_both 18 = .ok (.goto 4, 3) := by decide +kernel
theorem dX11_both_21 : decode cX11_both 21 = .ok (.iconst 0, 1) := by decide +kernel
theorem dX11_both_22 : decode cX11_both 22 = .ok (.invokevirtual 125, 3) := by decide +kernel
theorem dX11_both_25 : decode cX11_both 25 = .ok (.ifCond .eq 5, 3) := by decide +kernel
theorem dX11_both_28 : decode cX11_both 28 = .ok (.iconst 0, 1) := by decide +kernel
theorem dX11_both_29 : decode cX11_both 29 = .ok (.ireturn, 1) := by decide +kernel
theorem dX11_both_30 : decode cX11_both 30 = .ok (.iconst 0, 1) := by decide +kernel
theorem dX11_both_31 : decode cX11_both 31 = .ok (.istore_n 3, 1) := by decide +kernel
theorem dX11_both_32 : decode cX11_both 32 = .ok (.iconst 2, 1) := by decide +kernel
theorem dX11_both_33 : decode cX11_both 33 = .ok (.istore 4, 2) := by decide +kernel
theorem dX11_both_35 : decode cX11_both 35 = .ok (.iload 4, 2) := by decide +kernel
theorem dX11_both_37 : decode cX11_both 37 = .ok (.aload_n 0, 1) := by decide +kernel
theorem dX11_both_38 : decode cX11_both 38 = .ok (.invokevirtual 89, 3) := by decide +kernel
theorem dX11_both_41 : decode cX11_both 41 = .ok (.if_icmp .gt 53, 3) := by decide +kernel
theorem dX11_both_44 : decode cX11_both 44 = .ok (.iload_n 3, 1) := by decide +kernel
theorem dX11_both_45 : decode cX11_both 45 = .ok (.aload_n 0, 1) := by decide +kernel
theorem dX11_both_46 : decode cX11_both 46 = .ok (.aload_n 0, 1) := by decide +kernel
theorem dX11_both_47 : decode cX11_both 47 = .ok (.getfield 31, 3) := by decide +kernel
theorem dX11_both_50 : decode cX11_both 50 = .ok (.bipush 15, 2) := by decide +kernel
theorem dX11_both_52 : decode cX11_both 52 = .ok (.iload_n 1, 1) := by decide +kernel
theorem dX11_both_53 : decode cX11_both 53 = .ok (.iadd, 1) := by decide +kernel
theorem dX11_both_54 : decode cX11_both 54 = .ok (.iaload, 1) := by decide +kernel
theorem dX11_both_55 : decode cX11_both 55 = .ok (.iload 4, 2) := by decide +kernel
theorem dX11_both_57 : decode cX11_both 57 = .ok (.invokevirtual 163, 3) := by decide +kernel
theorem dX11_both_60 : decode cX11_both 60 = .ok (.ifCond .eq 25, 3) := by decide +kernel
theorem dX11_both_63 : decode cX11_both 63 = .ok (.aload_n 0, 1) := by decide +kernel
theorem dX11_both_64 : decode cX11_both 64 = .ok (.aload_n 0, 1) := by decide +kernel
theorem dX11_both_65 : decode cX11_both 65 = .ok (.getfield 31, 3) := by decide +kernel
theorem dX11_both_68 : decode cX11_both 68 = .ok (.bipush 15, 2) := by decide +kernel
theorem dX11_both_70 : decode cX11_both 70 = .ok (.iload_n 2, 1) := by decide +kernel
theorem dX11_both_71 : decode cX11_both 71 = .ok (.iadd, 1) := by decide +kernel
theorem dX11_both_72 : decode cX11_both 72 = .ok (.iaload, 1) := by decide +kernel
theorem dX11_both_73 : decode cX11_both 73 = .ok (.iload 4, 2) := by decide +kernel
theorem dX11_both_75 : decode cX11_both 75 = .ok (.invokevirtual 163, 3) := by decide +kernel
theorem dX11_both_78 : decode cX11_both 78 = .ok (.ifCond .eq 7, 3) := by decide +kernel
theorem dX11_both_81 : decode cX11_both 81 = .ok (.iconst 1, 1) := by decide +kernel
theorem dX11_both_82 : decode cX11_both 82 = .ok (.goto 4, 3) := by decide +kernel
theorem dX11_both_85 : decode cX11_both 85 = .ok (.iconst 0, 1) := by decide +kernel
theorem dX11_both_86 : decode cX11_both 86 = .ok (.iadd, 1) := by decide +kernel
theorem dX11_both_87 : decode cX11_both 87 = .ok (.istore_n 3, 1) := by decide +kernel
theorem dX11_both_88 : decode cX11_both 88 = .ok (.iinc 4 1, 3) := by decide +kernel
theorem dX11_both_91 : decode cX11_both 91 = .ok (.goto (-56), 3) := by decide +kernel
theorem dX11_both_94 : decode cX11_both 94 = .ok (.iload_n 3, 1) := by decide +kernel
theorem dX11_both_95 : decode cX11_both 95 = .ok (.ireturn, 1) := by decide +kernel
theorem dX11_meet_0 : decode cX11_meet 0 = .ok (.aload_n 0, 1) := by decide +kernel
theorem dX11_meet_1 : decode cX11_meet 1 = .ok (.aload_n 0, 1) := by decide +kernel
theorem dX11_meet_2 : decode cX11_meet 2 = .ok (.iload_n 1, 1) := by decide +kernel
theorem dX11_meet_3 : decode cX11_meet 3 = .ok (.invokevirtual 167, 3) := by decide +kernel
theorem dX11_meet_6 : decode cX11_meet 6 = .ok (.ifCond .eq 15, 3) := by decide +kernel
theorem dX11_meet_9 : decode cX11_meet 9 = .ok (.aload_n 0, 1) := by decide +kernel
theorem dX11_meet_10 : decode cX11_meet 10 = .ok (.iload_n 2, 1) := by decide +kernel
theorem dX11_meet_11 : decode cX11_meet 11 = .ok (.invokevirtual 167, 3) := by decide +kernel
theorem dX11_meet_14 : decode cX11_meet 14 = .ok (.ifCond .eq 7, 3) := by decide +kernel
theorem dX11_meet_17 : decode cX11_meet 17 = .ok (.iconst 1, 1) := by decide +kernel
theorem dX11_meet_18 : decode cX11_meet 18 = .ok (.goto 4, 3) := by decide +kernel
theorem dX11_meet_21 : decode cX11_meet 21 = .ok (.iconst 0, 1) := by decide +kernel
theorem dX11_meet_22 : decode cX11_meet 22 = .ok (.invokevirtual 125, 3) := by decide +kernel
theorem dX11_meet_25 : decode cX11_meet 25 = .ok (.ifCond .eq 5, 3) := by decide +kernel
theorem dX11_meet_28 : decode cX11_meet 28 = .ok (.iconst 0, 1) := by decide +kernel
theorem dX11_meet_29 : decode cX11_meet 29 = .ok (.ireturn, 1) := by decide +kernel
theorem dX11_meet_30 : decode cX11_meet 30 = .ok (.iconst 2, 1) := by decide +kernel
theorem dX11_meet_31 : decode cX11_meet 31 = .ok (.istore_n 3, 1) := by decide +kernel
theorem dX11_meet_32 : decode cX11_meet 32 = .ok (.iload_n 3, 1) := by decide +kernel
theorem dX11_meet_33 : decode cX11_meet 33 = .ok (.aload_n 0, 1) := by decide +kernel
theorem dX11_meet_34 : decode cX11_meet 34 = .ok (.invokevirtual 89, 3) := by decide +kernel
theorem dX11_meet_37 : decode cX11_meet 37 = .ok (.if_icmp .gt 45, 3) := by decide +kernel
theorem dX11_meet_40 : decode cX11_meet 40 = .ok (.aload_n 0, 1) := by decide +kernel
theorem dX11_meet_41 : decode cX11_meet 41 = .ok (.aload_n 0, 1) := by decide +kernel
theorem dX11_meet_42 : decode cX11_meet 42 = .ok (.getfield 31, 3) := by decide +kernel
theorem dX11_meet_45 : decode cX11_meet 45 = .ok (.bipush 15, 2) := by decide +kernel
theorem dX11_meet_47 : decode cX11_meet 47 = .ok (.iload_n 1, 1) := by decide +kernel
theorem dX11_meet_48 : decode cX11_meet 48 = .ok (.iadd, 1) := by decide +kernel
theorem dX11_meet_49 : decode cX11_meet 49 = .ok (.iaload, 1) := by decide +kernel
theorem dX11_meet_50 : decode cX11_meet 50 = .ok (.iload_n 3, 1) := by decide +kernel
theorem dX11_meet_51 : decode cX11_meet 51 = .ok (.invokevirtual 163, 3) := by decide +kernel
theorem dX11_meet_54 : decode cX11_meet 54 = .ok (.ifCond .eq 22, 3) := by decide +kernel
theorem dX11_meet_57 : decode cX11_meet 57 = .ok (.aload_n 0, 1) := by decide +kernel
theorem dX11_meet_58 : decode cX11_meet 58 = .ok (.aload_n 0, 1) := by decide +kernel
theorem dX11_meet_59 : decode cX11_meet 59 = .ok (.getfield 31, 3) := by decide +kernel
theorem dX11_meet_62 : decode cX11_meet 62 = .ok (.bipush 15, 2) := by decide +kernel
theorem dX11_meet_64 : decode cX11_meet 64 = .ok (.iload_n 2, 1) := by decide +kernel
theorem dX11_meet_65 : decode cX11_meet 65 = .ok (.iadd, 1) := by decide +kernel
theorem dX11_meet_66 : decode cX11_meet 66 = .ok (.iaload, 1) := by decide +kernel
theorem dX11_meet_67 : decode cX11_meet 67 = .ok (.iload_n 3, 1) := by decide +kernel
theorem dX11_meet_68 : decode cX11_meet 68 = .ok (.invokevirtual 163, 3) := by decide +kernel
theorem dX11_meet_71 : decode cX11_meet 71 = .ok (.ifCond .eq 5, 3) := by decide +kernel
theorem dX11_meet_74 : decode cX11_meet 74 = .ok (.iload_n 3, 1) := by decide +kernel
theorem dX11_meet_75 : decode cX11_meet 75 = .ok (.ireturn, 1) := by decide +kernel
theorem dX11_meet_76 : decode cX11_meet 76 = .ok (.iinc 3 1, 3) := by decide +kernel
theorem dX11_meet_79 : decode cX11_meet 79 = .ok (.goto (-47), 3) := by decide +kernel
theorem dX11_meet_82 : decode cX11_meet 82 = .ok (.iconst (-1), 1) := by decide +kernel
theorem dX11_meet_83 : decode cX11_meet 83 = .ok (.ireturn, 1) := by decide +kernel
theorem dX11_upTo_0 : decode cX11_upTo 0 = .ok (.aload_n 0, 1) := by decide +kernel
theorem dX11_upTo_1 : decode cX11_upTo 1 = .ok (.iconst 0, 1) := by decide +kernel
theorem dX11_upTo_2 : decode cX11_upTo 2 = .ok (.putfield 78, 3) := by decide +kernel
theorem dX11_upTo_5 : decode cX11_upTo 5 = .ok (.aload_n 0, 1) := by decide +kernel
theorem dX11_upTo_6 : decode cX11_upTo 6 = .ok (.invokevirtual 129, 3) := by decide +kernel
theorem dX11_upTo_9 : decode cX11_upTo 9 = .ok (.aload_n 0, 1) := by decide +kernel
theorem dX11_upTo_10 : decode cX11_upTo 10 = .ok (.iconst 2, 1) := by decide +kernel
theorem dX11_upTo_11 : decode cX11_upTo 11 = .ok (.iload_n 1, 1) := by decide +kernel
theorem dX11_upTo_12 : decode cX11_upTo 12 = .ok (.aload_n 0, 1) := by decide +kernel
theorem dX11_upTo_13 : decode cX11_upTo 13 = .ok (.getfield 100, 3) := by decide +kernel
theorem dX11_upTo_16 : decode cX11_upTo 16 = .ok (.if_icmp .ge 7, 3) := by decide +kernel
theorem dX11_upTo_19 : decode cX11_upTo 19 = .ok (.iload_n 1, 1) := by decide +kernel
theorem dX11_upTo_20 : decode cX11_upTo 20 = .ok (.goto 7, 3) := by decide +kernel
theorem dX11_upTo_23 : decode cX11_upTo 23 = .ok (.aload_n 0, 1) := by decide +kernel
theorem dX11_upTo_24 : decode cX11_upTo 24 = .ok (.getfield 100, 3) := by decide +kernel
theorem dX11_upTo_27 : decode cX11_upTo 27 = .ok (.invokevirtual 132, 3) := by decide +kernel
theorem dX11_upTo_30 : decode cX11_upTo 30 = .ok (.ireturn, 1) := by decide +kernel
theorem dX11_mark_0 : decode cX11_mark 0 = .ok (.aload_n 0, 1) := by decide +kernel
theorem dX11_mark_1 : decode cX11_mark 1 = .ok (.iconst 0, 1) := by decide +kernel
theorem dX11_mark_2 : decode cX11_mark 2 = .ok (.putfield 78, 3) := by decide +kernel
theorem dX11_mark_5 : decode cX11_mark 5 = .ok (.aload_n 0, 1) := by decide +kernel
theorem dX11_mark_6 : decode cX11_mark 6 = .ok (.invokevirtual 129, 3) := by decide +kernel
theorem dX11_mark_9 : decode cX11_mark 9 = .ok (.iload_n 1, 1) := by decide +kernel
theorem dX11_mark_10 : decode cX11_mark 10 = .ok (.istore_n 2, 1) := by decide +kernel
theorem dX11_mark_11 : decode cX11_mark 11 = .ok (.iconst 2, 1) := by decide +kernel
theorem dX11_mark_12 : decode cX11_mark 12 = .ok (.istore_n 3, 1) := by decide +kernel
theorem dX11_mark_13 : decode cX11_mark 13 = .ok (.iload_n 3, 1) := by decide +kernel
theorem dX11_mark_14 : decode cX11_mark 14 = .ok (.aload_n 0, 1) := by decide +kernel
theorem dX11_mark_15 : decode cX11_mark 15 = .ok (.getfield 100, 3) := by decide +kernel
theorem dX11_mark_18 : decode cX11_mark 18 = .ok (.if_icmp .gt 30, 3) := by decide +kernel
theorem dX11_mark_21 : decode cX11_mark 21 = .ok (.iload_n 2, 1) := by decide +kernel
theorem dX11_mark_22 : decode cX11_mark 22 = .ok (.ifCond .lt 26, 3) := by decide +kernel
theorem dX11_mark_25 : decode cX11_mark 25 = .ok (.aload_n 0, 1) := by decide +kernel
theorem dX11_mark_26 : decode cX11_mark 26 = .ok (.iload_n 3, 1) := by decide +kernel
theorem dX11_mark_27 : decode cX11_mark 27 = .ok (.invokevirtual 107, 3) := by decide +kernel
theorem dX11_mark_30 : decode cX11_mark 30 = .ok (.ifCond .eq 12, 3) := by decide +kernel
theorem dX11_mark_33 : decode cX11_mark 33 = .ok (.iload_n 2, 1) := by decide +kernel
theorem dX11_mark_34 : decode cX11_mark 34 = .ok (.ifCond .ne 5, 3) := by decide +kernel
theorem dX11_mark_37 : decode cX11_mark 37 = .ok (.iload_n 3, 1) := by decide +kernel
theorem dX11_mark_38 : decode cX11_mark 38 = .ok (.ireturn, 1) := by decide +kernel
theorem dX11_mark_39 : decode cX11_mark 39 = .ok (.iinc 2 (-1), 3) := by decide +kernel
theorem dX11_mark_42 : decode cX11_mark 42 = .ok (.iinc 3 1, 3) := by decide +kernel
theorem dX11_mark_45 : decode cX11_mark 45 = .ok (.goto (-32), 3) := by decide +kernel
theorem dX11_mark_48 : decode cX11_mark 48 = .ok (.iconst (-1), 1) := by decide +kernel
theorem dX11_mark_49 : decode cX11_mark 49 = .ok (.ireturn, 1) := by decide +kernel
theorem dX11_next_0 : decode cX11_next 0 = .ok (.aload_n 0, 1) := by decide +kernel
theorem dX11_next_1 : decode cX11_next 1 = .ok (.iconst 0, 1) := by decide +kernel
theorem dX11_next_2 : decode cX11_next 2 = .ok (.putfield 78, 3) := by decide +kernel
theorem dX11_next_5 : decode cX11_next 5 = .ok (.aload_n 0, 1) := by decide +kernel
theorem dX11_next_6 : decode cX11_next 6 = .ok (.invokevirtual 129, 3) := by decide +kernel
theorem dX11_next_9 : decode cX11_next 9 = .ok (.iload_n 2, 1) := by decide +kernel
theorem dX11_next_10 : decode cX11_next 10 = .ok (.ifCond .eq 36, 3) := by decide +kernel
theorem dX11_next_13 : decode cX11_next 13 = .ok (.iload_n 1, 1) := by decide +kernel
theorem dX11_next_14 : decode cX11_next 14 = .ok (.iconst 2, 1) := by decide +kernel
theorem dX11_next_15 : decode cX11_next 15 = .ok (.if_icmp .gt 7, 3) := by decide +kernel
theorem dX11_next_18 : decode cX11_next 18 = .ok (.iconst (-1), 1) := by decide +kernel
theorem dX11_next_19 : decode cX11_next 19 = .ok (.goto 26, 3) := by decide +kernel
theorem dX11_next_22 : decode cX11_next 22 = .ok (.aload_n 0, 1) := by decide +kernel
theorem dX11_next_23 : decode cX11_next 23 = .ok (.iconst 2, 1) := by decide +kernel
theorem dX11_next_24 : decode cX11_next 24 = .ok (.iload_n 1, 1) := by decide +kernel
theorem dX11_next_25 : decode cX11_next 25 = .ok (.aload_n 0, 1) := by decide +kernel
theorem dX11_next_26 : decode cX11_next 26 = .ok (.getfield 100, 3) := by decide +kernel
theorem dX11_next_29 : decode cX11_next 29 = .ok (.if_icmp .le 10, 3) := by decide +kernel
theorem dX11_next_32 : decode cX11_next 32 = .ok (.aload_n 0, 1) := by decide +kernel
theorem dX11_next_33 : decode cX11_next 33 = .ok (.getfield 100, 3) := by decide +kernel
theorem dX11_next_36 : decode cX11_next 36 = .ok (.goto 6, 3) := by decide +kernel
theorem dX11_next_39 : decode cX11_next 39 = .ok (.iload_n 1, 1) := by decide +kernel
theorem dX11_next_40 : decode cX11_next 40 = .ok (.iconst 1, 1) := by decide +kernel
theorem dX11_next_41 : decode cX11_next 41 = .ok (.isub, 1) := by decide +kernel
theorem dX11_next_42 : decode cX11_next 42 = .ok (.invokevirtual 157, 3) := by decide +kernel
theorem dX11_next_45 : decode cX11_next 45 = .ok (.ireturn, 1) := by decide +kernel
theorem dX11_next_46 : decode cX11_next 46 = .ok (.iload_n 1, 1) := by decide +kernel
theorem dX11_next_47 : decode cX11_next 47 = .ok (.aload_n 0, 1) := by decide +kernel
theorem dX11_next_48 : decode cX11_next 48 = .ok (.getfield 100, 3) := by decide +kernel
theorem dX11_next_51 : decode cX11_next 51 = .ok (.if_icmp .lt 7, 3) := by decide +kernel
theorem dX11_next_54 : decode cX11_next 54 = .ok (.iconst (-1), 1) := by decide +kernel
theorem dX11_next_55 : decode cX11_next 55 = .ok (.goto 23, 3) := by decide +kernel
theorem dX11_next_58 : decode cX11_next 58 = .ok (.aload_n 0, 1) := by decide +kernel
theorem dX11_next_59 : decode cX11_next 59 = .ok (.iload_n 1, 1) := by decide +kernel
theorem dX11_next_60 : decode cX11_next 60 = .ok (.iconst 2, 1) := by decide +kernel
theorem dX11_next_61 : decode cX11_next 61 = .ok (.if_icmp .ge 7, 3) := by decide +kernel
theorem dX11_next_64 : decode cX11_next 64 = .ok (.iconst 2, 1) := by decide +kernel
theorem dX11_next_65 : decode cX11_next 65 = .ok (.goto 6, 3) := by decide +kernel
theorem dX11_next_68 : decode cX11_next 68 = .ok (.iload_n 1, 1) := by decide +kernel
theorem dX11_next_69 : decode cX11_next 69 = .ok (.iconst 1, 1) := by decide +kernel
theorem dX11_next_70 : decode cX11_next 70 = .ok (.iadd, 1) := by decide +kernel
theorem dX11_next_71 : decode cX11_next 71 = .ok (.aload_n 0, 1) := by decide +kernel
theorem dX11_next_72 : decode cX11_next 72 = .ok (.getfield 100, 3) := by decide +kernel
theorem dX11_next_75 : decode cX11_next 75 = .ok (.invokevirtual 154, 3) := by decide +kernel
theorem dX11_next_78 : decode cX11_next 78 = .ok (.ireturn, 1) := by decide +kernel
theorem dX11_isGap_0 : decode cX11_isGap 0 = .ok (.iload_n 0, 1) := by decide +kernel
theorem dX11_isGap_1 : decode cX11_isGap 1 = .ok (.iconst 1, 1) := by decide +kernel
theorem dX11_isGap_2 : decode cX11_isGap 2 = .ok (.sipush 400, 3) := by decide +kernel
theorem dX11_isGap_5 : decode cX11_isGap 5 = .ok (.invokestatic 81, 3) := by decide +kernel
theorem dX11_isGap_8 : decode cX11_isGap 8 = .ok (.ireturn, 1) := by decide +kernel
theorem dX11_gaps_0 : decode cX11_gaps 0 = .ok (.aload_n 0, 1) := by decide +kernel
theorem dX11_gaps_1 : decode cX11_gaps 1 = .ok (.iload_n 1, 1) := by decide +kernel
theorem dX11_gaps_2 : decode cX11_gaps 2 = .ok (.invokestatic 191, 3) := by decide +kernel
theorem dX11_gaps_5 : decode cX11_gaps 5 = .ok (.invokevirtual 125, 3) := by decide +kernel
theorem dX11_gaps_8 : decode cX11_gaps 8 = .ok (.ifCond .eq 5, 3) := by decide +kernel
theorem dX11_gaps_11 : decode cX11_gaps 11 = .ok (.iconst 0, 1) := by decide +kernel
theorem dX11_gaps_12 : decode cX11_gaps 12 = .ok (.ireturn, 1) := by decide +kernel
theorem dX11_gaps_13 : decode cX11_gaps 13 = .ok (.aload_n 0, 1) := by decide +kernel
theorem dX11_gaps_14 : decode cX11_gaps 14 = .ok (.invokevirtual 129, 3) := by decide +kernel
theorem dX11_gaps_17 : decode cX11_gaps 17 = .ok (.iconst 0, 1) := by decide +kernel
theorem dX11_gaps_18 : decode cX11_gaps 18 = .ok (.istore_n 2, 1) := by decide +kernel
theorem dX11_gaps_19 : decode cX11_gaps 19 = .ok (.iconst (-1), 1) := by decide +kernel
theorem dX11_gaps_20 : decode cX11_gaps 20 = .ok (.istore_n 3, 1) := by decide +kernel
theorem dX11_gaps_21 : decode cX11_gaps 21 = .ok (.iconst 2, 1) := by decide +kernel
theorem dX11_gaps_22 : decode cX11_gaps 22 = .ok (.istore 4, 2) := by decide +kernel
theorem dX11_gaps_24 : decode cX11_gaps 24 = .ok (.iload 4, 2) := by decide +kernel
theorem dX11_gaps_26 : decode cX11_gaps 26 = .ok (.aload_n 0, 1) := by decide +kernel
theorem dX11_gaps_27 : decode cX11_gaps 27 = .ok (.getfield 100, 3) := by decide +kernel
theorem dX11_gaps_30 : decode cX11_gaps 30 = .ok (.if_icmp .gt 42, 3) := by decide +kernel
theorem dX11_gaps_33 : decode cX11_gaps 33 = .ok (.aload_n 0, 1) := by decide +kernel
theorem dX11_gaps_34 : decode cX11_gaps 34 = .ok (.iload 4, 2) := by decide +kernel
theorem dX11_gaps_36 : decode cX11_gaps 36 = .ok (.invokevirtual 107, 3) := by decide +kernel
theorem dX11_gaps_39 : decode cX11_gaps 39 = .ok (.ifCond .eq 27, 3) := by decide +kernel
theorem dX11_gaps_42 : decode cX11_gaps 42 = .ok (.iload_n 2, 1) := by decide +kernel
theorem dX11_gaps_43 : decode cX11_gaps 43 = .ok (.iload_n 3, 1) := by decide +kernel
theorem dX11_gaps_44 : decode cX11_gaps 44 = .ok (.iconst (-1), 1) := by decide +kernel
theorem dX11_gaps_45 : decode cX11_gaps 45 = .ok (.if_icmp .eq 15, 3) := by decide +kernel
theorem dX11_gaps_48 : decode cX11_gaps 48 = .ok (.iload 4, 2) := by decide +kernel
theorem dX11_gaps_50 : decode cX11_gaps 50 = .ok (.iload_n 3, 1) := by decide +kernel
theorem dX11_gaps_51 : decode cX11_gaps 51 = .ok (.isub, 1) := by decide +kernel
theorem dX11_gaps_52 : decode cX11_gaps 52 = .ok (.iload_n 1, 1) := by decide +kernel
theorem dX11_gaps_53 : decode cX11_gaps 53 = .ok (.if_icmp .ne 7, 3) := by decide +kernel
theorem dX11_gaps_56 : decode cX11_gaps 56 = .ok (.iconst 1, 1) := by decide +kernel
theorem dX11_gaps_57 : decode cX11_gaps 57 = .ok (.goto 4, 3) := by decide +kernel
theorem dX11_gaps_60 : decode cX11_gaps 60 = .ok (.iconst 0, 1) := by decide +kernel
theorem dX11_gaps_61 : decode cX11_gaps 61 = .ok (.iadd, 1) := by decide +kernel
theorem dX11_gaps_62 : decode cX11_gaps 62 = .ok (.istore_n 2, 1) := by decide +kernel
theorem dX11_gaps_63 : decode cX11_gaps 63 = .ok (.iload 4, 2) := by decide +kernel
theorem dX11_gaps_65 : decode cX11_gaps 65 = .ok (.istore_n 3, 1) := by decide +kernel
theorem dX11_gaps_66 : decode cX11_gaps 66 = .ok (.iinc 4 1, 3) := by decide +kernel
theorem dX11_gaps_69 : decode cX11_gaps 69 = .ok (.goto (-45), 3) := by decide +kernel
theorem dX11_gaps_72 : decode cX11_gaps 72 = .ok (.iload_n 2, 1) := by decide +kernel
theorem dX11_gaps_73 : decode cX11_gaps 73 = .ok (.ireturn, 1) := by decide +kernel
theorem dX11_greatestGap_0 : decode cX11_greatestGap 0 = .ok (.aload_n 0, 1) := by decide +kernel
theorem dX11_greatestGap_1 : decode cX11_greatestGap 1 = .ok (.invokevirtual 129, 3) := by decide +kernel
theorem dX11_greatestGap_4 : decode cX11_greatestGap 4 = .ok (.iconst 0, 1) := by decide +kernel
theorem dX11_greatestGap_5 : decode cX11_greatestGap 5 = .ok (.istore_n 2, 1) := by decide +kernel
theorem dX11_greatestGap_6 : decode cX11_greatestGap 6 = .ok (.iconst (-1), 1) := by decide +kernel
theorem dX11_greatestGap_7 : decode cX11_greatestGap 7 = .ok (.istore_n 3, 1) := by decide +kernel
theorem dX11_greatestGap_8 : decode cX11_greatestGap 8 = .ok (.iconst (-1), 1) := by decide +kernel
theorem dX11_greatestGap_9 : decode cX11_greatestGap 9 = .ok (.istore 4, 2) := by decide +kernel
theorem dX11_greatestGap_11 : decode cX11_greatestGap 11 = .ok (.iconst 2, 1) := by decide +kernel
theorem dX11_greatestGap_12 : decode cX11_greatestGap 12 = .ok (.istore 5, 2) := by decide +kernel
theorem dX11_greatestGap_14 : decode cX11_greatestGap 14 = .ok (.iload 5, 2) := by decide +kernel
theorem dX11_greatestGap_16 : decode cX11_greatestGap 16 = .ok (.aload_n 0, 1) := by decide +kernel
theorem dX11_greatestGap_17 : decode cX11_greatestGap 17 = .ok (.getfield 100, 3) := by decide +kernel
theorem dX11_greatestGap_20 : decode cX11_greatestGap 20 = .ok (.if_icmp .gt 46, 3) := by decide +kernel
theorem dX11_greatestGap_23 : decode cX11_greatestGap 23 = .ok (.aload_n 0, 1) := by decide +kernel
theorem dX11_greatestGap_24 : decode cX11_greatestGap 24 = .ok (.iload 5, 2) := by decide +kernel
theorem dX11_greatestGap_26 : decode cX11_greatestGap 26 = .ok (.invokevirtual 107, 3) := by decide +kernel
theorem dX11_greatestGap_29 : decode cX11_greatestGap 29 = .ok (.ifCond .eq 31, 3) := by decide +kernel
theorem dX11_greatestGap_32 : decode cX11_greatestGap 32 = .ok (.iload 4, 2) := by decide +kernel
theorem dX11_greatestGap_34 : decode cX11_greatestGap 34 = .ok (.iconst (-1), 1) := by decide +kernel
theorem dX11_greatestGap_35 : decode cX11_greatestGap 35 = .ok (.if_icmp .eq 21, 3) := by decide +kernel
theorem dX11_greatestGap_38 : decode cX11_greatestGap 38 = .ok (.iload 5, 2) := by decide +kernel
theorem dX11_greatestGap_40 : decode cX11_greatestGap 40 = .ok (.iload 4, 2) := by decide +kernel
theorem dX11_greatestGap_42 : decode cX11_greatestGap 42 = .ok (.isub, 1) := by decide +kernel
theorem dX11_greatestGap_43 : decode cX11_greatestGap 43 = .ok (.iload_n 2, 1) := by decide +kernel
theorem dX11_greatestGap_44 : decode cX11_greatestGap 44 = .ok (.if_icmp .le 12, 3) := by decide +kernel
theorem dX11_greatestGap_47 : decode cX11_greatestGap 47 = .ok (.iload 5, 2) := by decide +kernel
theorem dX11_greatestGap_49 : decode cX11_greatestGap 49 = .ok (.iload 4, 2) := by decide +kernel
theorem dX11_greatestGap_51 : decode cX11_greatestGap 51 = .ok (.isub, 1) := by decide +kernel
theorem dX11_greatestGap_52 : decode cX11_greatestGap 52 = .ok (.istore_n 2, 1) := by decide +kernel
theorem dX11_greatestGap_53 : decode cX11_greatestGap 53 = .ok (.iload 4, 2) := by decide +kernel
theorem dX11_greatestGap_55 : decode cX11_greatestGap 55 = .ok (.istore_n 3, 1) := by decide +kernel
theorem dX11_greatestGap_56 : decode cX11_greatestGap 56 = .ok (.iload 5, 2) := by decide +kernel
theorem dX11_greatestGap_58 : decode cX11_greatestGap 58 = .ok (.istore 4, 2) := by decide +kernel
theorem dX11_greatestGap_60 : decode cX11_greatestGap 60 = .ok (.iinc 5 1, 3) := by decide +kernel
theorem dX11_greatestGap_63 : decode cX11_greatestGap 63 = .ok (.goto (-49), 3) := by decide +kernel
theorem dX11_greatestGap_66 : decode cX11_greatestGap 66 = .ok (.iload_n 1, 1) := by decide +kernel
theorem dX11_greatestGap_67 : decode cX11_greatestGap 67 = .ok (.ifCond .eq 7, 3) := by decide +kernel
theorem dX11_greatestGap_70 : decode cX11_greatestGap 70 = .ok (.iload_n 3, 1) := by decide +kernel
theorem dX11_greatestGap_71 : decode cX11_greatestGap 71 = .ok (.goto 4, 3) := by decide +kernel
theorem dX11_greatestGap_74 : decode cX11_greatestGap 74 = .ok (.iload_n 2, 1) := by decide +kernel
theorem dX11_greatestGap_75 : decode cX11_greatestGap 75 = .ok (.ireturn, 1) := by decide +kernel
theorem dX11_widest_0 : decode cX11_widest 0 = .ok (.aload_n 0, 1) := by decide +kernel
theorem dX11_widest_1 : decode cX11_widest 1 = .ok (.iconst 0, 1) := by decide +kernel
theorem dX11_widest_2 : decode cX11_widest 2 = .ok (.putfield 78, 3) := by decide +kernel
theorem dX11_widest_5 : decode cX11_widest 5 = .ok (.aload_n 0, 1) := by decide +kernel
theorem dX11_widest_6 : decode cX11_widest 6 = .ok (.iconst 0, 1) := by decide +kernel
theorem dX11_widest_7 : decode cX11_widest 7 = .ok (.invokevirtual 194, 3) := by decide +kernel
theorem dX11_widest_10 : decode cX11_widest 10 = .ok (.ireturn, 1) := by decide +kernel
theorem dX11_widestAt_0 : decode cX11_widestAt 0 = .ok (.aload_n 0, 1) := by decide +kernel
theorem dX11_widestAt_1 : decode cX11_widestAt 1 = .ok (.iconst 0, 1) := by decide +kernel
theorem dX11_widestAt_2 : decode cX11_widestAt 2 = .ok (.putfield 78, 3) := by decide +kernel
theorem dX11_widestAt_5 : decode cX11_widestAt 5 = .ok (.aload_n 0, 1) := by decide +kernel
theorem dX11_widestAt_6 : decode cX11_widestAt 6 = .ok (.iconst 1, 1) := by decide +kernel
theorem dX11_widestAt_7 : decode cX11_widestAt 7 = .ok (.invokevirtual 194, 3) := by decide +kernel
theorem dX11_widestAt_10 : decode cX11_widestAt 10 = .ok (.ireturn, 1) := by decide +kernel
theorem dX11_twins_0 : decode cX11_twins 0 = .ok (.aload_n 0, 1) := by decide +kernel
theorem dX11_twins_1 : decode cX11_twins 1 = .ok (.iload_n 1, 1) := by decide +kernel
theorem dX11_twins_2 : decode cX11_twins 2 = .ok (.invokestatic 191, 3) := by decide +kernel
theorem dX11_twins_5 : decode cX11_twins 5 = .ok (.invokevirtual 125, 3) := by decide +kernel
theorem dX11_twins_8 : decode cX11_twins 8 = .ok (.ifCond .eq 5, 3) := by decide +kernel
theorem dX11_twins_11 : decode cX11_twins 11 = .ok (.iconst 0, 1) := by decide +kernel
theorem dX11_twins_12 : decode cX11_twins 12 = .ok (.ireturn, 1) := by decide +kernel
theorem dX11_twins_13 : decode cX11_twins 13 = .ok (.aload_n 0, 1) := by decide +kernel
theorem dX11_twins_14 : decode cX11_twins 14 = .ok (.invokevirtual 129, 3) := by decide +kernel
theorem dX11_twins_17 : decode cX11_twins 17 = .ok (.iconst 0, 1) := by decide +kernel
theorem dX11_twins_18 : decode cX11_twins 18 = .ok (.istore_n 2, 1) := by decide +kernel
theorem dX11_twins_19 : decode cX11_twins 19 = .ok (.iconst 2, 1) := by decide +kernel
theorem dX11_twins_20 : decode cX11_twins 20 = .ok (.istore_n 3, 1) := by decide +kernel
theorem dX11_twins_21 : decode cX11_twins 21 = .ok (.iload_n 3, 1) := by decide +kernel
theorem dX11_twins_22 : decode cX11_twins 22 = .ok (.aload_n 0, 1) := by decide +kernel
theorem dX11_twins_23 : decode cX11_twins 23 = .ok (.getfield 100, 3) := by decide +kernel
theorem dX11_twins_26 : decode cX11_twins 26 = .ok (.if_icmp .gt 35, 3) := by decide +kernel
theorem dX11_twins_29 : decode cX11_twins 29 = .ok (.iload_n 2, 1) := by decide +kernel
theorem dX11_twins_30 : decode cX11_twins 30 = .ok (.aload_n 0, 1) := by decide +kernel
theorem dX11_twins_31 : decode cX11_twins 31 = .ok (.iload_n 3, 1) := by decide +kernel
theorem dX11_twins_32 : decode cX11_twins 32 = .ok (.invokevirtual 107, 3) := by decide +kernel
theorem dX11_twins_35 : decode cX11_twins 35 = .ok (.ifCond .eq 17, 3) := by decide +kernel
theorem dX11_twins_38 : decode cX11_twins 38 = .ok (.aload_n 0, 1) := by decide +kernel
theorem dX11_twins_39 : decode cX11_twins 39 = .ok (.iload_n 3, 1) := by decide +kernel
theorem dX11_twins_40 : decode cX11_twins 40 = .ok (.iload_n 1, 1) := by decide +kernel
theorem dX11_twins_41 : decode cX11_twins 41 = .ok (.iadd, 1) := by decide +kernel
theorem dX11_twins_42 : decode cX11_twins 42 = .ok (.invokevirtual 107, 3) := by decide +kernel
theorem dX11_twins_45 : decode cX11_twins 45 = .ok (.ifCond .eq 7, 3) := by decide +kernel
theorem dX11_twins_48 : decode cX11_twins 48 = .ok (.iconst 1, 1) := by decide +kernel
theorem dX11_twins_49 : decode cX11_twins 49 = .ok (.goto 4, 3) := by decide +kernel
theorem dX11_twins_52 : decode cX11_twins 52 = .ok (.iconst 0, 1) := by decide +kernel
theorem dX11_twins_53 : decode cX11_twins 53 = .ok (.iadd, 1) := by decide +kernel
theorem dX11_twins_54 : decode cX11_twins 54 = .ok (.istore_n 2, 1) := by decide +kernel
theorem dX11_twins_55 : decode cX11_twins 55 = .ok (.iinc 3 1, 3) := by decide +kernel
theorem dX11_twins_58 : decode cX11_twins 58 = .ok (.goto (-37), 3) := by decide +kernel
theorem dX11_twins_61 : decode cX11_twins 61 = .ok (.iload_n 2, 1) := by decide +kernel
theorem dX11_twins_62 : decode cX11_twins 62 = .ok (.ireturn, 1) := by decide +kernel
theorem dX11_sumFrom_0 : decode cX11_sumFrom 0 = .ok (.iload_n 1, 1) := by decide +kernel
theorem dX11_sumFrom_1 : decode cX11_sumFrom 1 = .ok (.istore_n 3, 1) := by decide +kernel
theorem dX11_sumFrom_2 : decode cX11_sumFrom 2 = .ok (.iload_n 3, 1) := by decide +kernel
theorem dX11_sumFrom_3 : decode cX11_sumFrom 3 = .ok (.aload_n 0, 1) := by decide +kernel
theorem dX11_sumFrom_4 : decode cX11_sumFrom 4 = .ok (.getfield 100, 3) := by decide +kernel
theorem dX11_sumFrom_7 : decode cX11_sumFrom 7 = .ok (.if_icmp .gt 36, 3) := by decide +kernel
theorem dX11_sumFrom_10 : decode cX11_sumFrom 10 = .ok (.iload_n 3, 1) := by decide +kernel
theorem dX11_sumFrom_11 : decode cX11_sumFrom 11 = .ok (.iload_n 2, 1) := by decide +kernel
theorem dX11_sumFrom_12 : decode cX11_sumFrom 12 = .ok (.iload_n 3, 1) := by decide +kernel
theorem dX11_sumFrom_13 : decode cX11_sumFrom 13 = .ok (.isub, 1) := by decide +kernel
theorem dX11_sumFrom_14 : decode cX11_sumFrom 14 = .ok (.if_icmp .gt 29, 3) := by decide +kernel
theorem dX11_sumFrom_17 : decode cX11_sumFrom 17 = .ok (.aload_n 0, 1) := by decide +kernel
theorem dX11_sumFrom_18 : decode cX11_sumFrom 18 = .ok (.iload_n 3, 1) := by decide +kernel
theorem dX11_sumFrom_19 : decode cX11_sumFrom 19 = .ok (.invokevirtual 107, 3) := by decide +kernel
theorem dX11_sumFrom_22 : decode cX11_sumFrom 22 = .ok (.ifCond .eq 15, 3) := by decide +kernel
theorem dX11_sumFrom_25 : decode cX11_sumFrom 25 = .ok (.aload_n 0, 1) := by decide +kernel
theorem dX11_sumFrom_26 : decode cX11_sumFrom 26 = .ok (.iload_n 2, 1) := by decide +kernel
theorem dX11_sumFrom_27 : decode cX11_sumFrom 27 = .ok (.iload_n 3, 1) := by decide +kernel
theorem dX11_sumFrom_28 : decode cX11_sumFrom 28 = .ok (.isub, 1) := by decide +kernel
theorem dX11_sumFrom_29 : decode cX11_sumFrom 29 = .ok (.invokevirtual 107, 3) := by decide +kernel
theorem dX11_sumFrom_32 : decode cX11_sumFrom 32 = .ok (.ifCond .eq 5, 3) := by decide +kernel
theorem dX11_sumFrom_35 : decode cX11_sumFrom 35 = .ok (.iload_n 3, 1) := by decide +kernel
theorem dX11_sumFrom_36 : decode cX11_sumFrom 36 = .ok (.ireturn, 1) := by decide +kernel
theorem dX11_sumFrom_37 : decode cX11_sumFrom 37 = .ok (.iinc 3 1, 3) := by decide +kernel
theorem dX11_sumFrom_40 : decode cX11_sumFrom 40 = .ok (.goto (-38), 3) := by decide +kernel
theorem dX11_sumFrom_43 : decode cX11_sumFrom 43 = .ok (.iconst (-1), 1) := by decide +kernel
theorem dX11_sumFrom_44 : decode cX11_sumFrom 44 = .ok (.ireturn, 1) := by decide +kernel
theorem dX11_sums_0 : decode cX11_sums 0 = .ok (.aload_n 0, 1) := by decide +kernel
theorem dX11_sums_1 : decode cX11_sums 1 = .ok (.iconst 0, 1) := by decide +kernel
theorem dX11_sums_2 : decode cX11_sums 2 = .ok (.putfield 78, 3) := by decide +kernel
theorem dX11_sums_5 : decode cX11_sums 5 = .ok (.aload_n 0, 1) := by decide +kernel
theorem dX11_sums_6 : decode cX11_sums 6 = .ok (.invokevirtual 129, 3) := by decide +kernel
theorem dX11_sums_9 : decode cX11_sums 9 = .ok (.iconst 0, 1) := by decide +kernel
theorem dX11_sums_10 : decode cX11_sums 10 = .ok (.istore_n 2, 1) := by decide +kernel
theorem dX11_sums_11 : decode cX11_sums 11 = .ok (.aload_n 0, 1) := by decide +kernel
theorem dX11_sums_12 : decode cX11_sums 12 = .ok (.iconst 2, 1) := by decide +kernel
theorem dX11_sums_13 : decode cX11_sums 13 = .ok (.iload_n 1, 1) := by decide +kernel
theorem dX11_sums_14 : decode cX11_sums 14 = .ok (.invokevirtual 198, 3) := by decide +kernel
theorem dX11_sums_17 : decode cX11_sums 17 = .ok (.istore_n 3, 1) := by decide +kernel
theorem dX11_sums_18 : decode cX11_sums 18 = .ok (.iload_n 3, 1) := by decide +kernel
theorem dX11_sums_19 : decode cX11_sums 19 = .ok (.iconst (-1), 1) := by decide +kernel
theorem dX11_sums_20 : decode cX11_sums 20 = .ok (.if_icmp .eq 18, 3) := by decide +kernel
theorem dX11_sums_23 : decode cX11_sums 23 = .ok (.iinc 2 1, 3) := by decide +kernel
theorem dX11_sums_26 : decode cX11_sums 26 = .ok (.aload_n 0, 1) := by decide +kernel
theorem dX11_sums_27 : decode cX11_sums 27 = .ok (.iload_n 3, 1) := by decide +kernel
theorem dX11_sums_28 : decode cX11_sums 28 = .ok (.iconst 1, 1) := by decide +kernel
theorem dX11_sums_29 : decode cX11_sums 29 = .ok (.iadd, 1) := by decide +kernel
theorem dX11_sums_30 : decode cX11_sums 30 = .ok (.iload_n 1, 1) := by decide +kernel
theorem dX11_sums_31 : decode cX11_sums 31 = .ok (.invokevirtual 198, 3) := by decide +kernel
theorem dX11_sums_34 : decode cX11_sums 34 = .ok (.istore_n 3, 1) := by decide +kernel
theorem dX11_sums_35 : decode cX11_sums 35 = .ok (.goto (-17), 3) := by decide +kernel
theorem dX11_sums_38 : decode cX11_sums 38 = .ok (.iload_n 2, 1) := by decide +kernel
theorem dX11_sums_39 : decode cX11_sums 39 = .ok (.ireturn, 1) := by decide +kernel
theorem dX11_leastOf_0 : decode cX11_leastOf 0 = .ok (.aload_n 0, 1) := by decide +kernel
theorem dX11_leastOf_1 : decode cX11_leastOf 1 = .ok (.iconst 0, 1) := by decide +kernel
theorem dX11_leastOf_2 : decode cX11_leastOf 2 = .ok (.putfield 78, 3) := by decide +kernel
theorem dX11_leastOf_5 : decode cX11_leastOf 5 = .ok (.aload_n 0, 1) := by decide +kernel
theorem dX11_leastOf_6 : decode cX11_leastOf 6 = .ok (.invokevirtual 129, 3) := by decide +kernel
theorem dX11_leastOf_9 : decode cX11_leastOf 9 = .ok (.aload_n 0, 1) := by decide +kernel
theorem dX11_leastOf_10 : decode cX11_leastOf 10 = .ok (.iconst 2, 1) := by decide +kernel
theorem dX11_leastOf_11 : decode cX11_leastOf 11 = .ok (.iload_n 1, 1) := by decide +kernel
theorem dX11_leastOf_12 : decode cX11_leastOf 12 = .ok (.invokevirtual 198, 3) := by decide +kernel
theorem dX11_leastOf_15 : decode cX11_leastOf 15 = .ok (.ireturn, 1) := by decide +kernel
theorem dX11_thickest_0 : decode cX11_thickest 0 = .ok (.aload_n 0, 1) := by decide +kernel
theorem dX11_thickest_1 : decode cX11_thickest 1 = .ok (.iload_n 1, 1) := by decide +kernel
theorem dX11_thickest_2 : decode cX11_thickest 2 = .ok (.invokestatic 191, 3) := by decide +kernel
theorem dX11_thickest_5 : decode cX11_thickest 5 = .ok (.invokevirtual 125, 3) := by decide +kernel
theorem dX11_thickest_8 : decode cX11_thickest 8 = .ok (.ifCond .eq 5, 3) := by decide +kernel
theorem dX11_thickest_11 : decode cX11_thickest 11 = .ok (.iconst 0, 1) := by decide +kernel
theorem dX11_thickest_12 : decode cX11_thickest 12 = .ok (.ireturn, 1) := by decide +kernel
theorem dX11_thickest_13 : decode cX11_thickest 13 = .ok (.aload_n 0, 1) := by decide +kernel
theorem dX11_thickest_14 : decode cX11_thickest 14 = .ok (.invokevirtual 129, 3) := by decide +kernel
theorem dX11_thickest_17 : decode cX11_thickest 17 = .ok (.iconst 0, 1) := by decide +kernel
theorem dX11_thickest_18 : decode cX11_thickest 18 = .ok (.istore_n 2, 1) := by decide +kernel
theorem dX11_thickest_19 : decode cX11_thickest 19 = .ok (.iconst 0, 1) := by decide +kernel
theorem dX11_thickest_20 : decode cX11_thickest 20 = .ok (.istore_n 3, 1) := by decide +kernel
theorem dX11_thickest_21 : decode cX11_thickest 21 = .ok (.iconst 2, 1) := by decide +kernel
theorem dX11_thickest_22 : decode cX11_thickest 22 = .ok (.istore 4, 2) := by decide +kernel
theorem dX11_thickest_24 : decode cX11_thickest 24 = .ok (.iload 4, 2) := by decide +kernel
theorem dX11_thickest_26 : decode cX11_thickest 26 = .ok (.aload_n 0, 1) := by decide +kernel
theorem dX11_thickest_27 : decode cX11_thickest 27 = .ok (.getfield 100, 3) := by decide +kernel
theorem dX11_thickest_30 : decode cX11_thickest 30 = .ok (.if_icmp .gt 56, 3) := by decide +kernel
theorem dX11_thickest_33 : decode cX11_thickest 33 = .ok (.iload_n 3, 1) := by decide +kernel
theorem dX11_thickest_34 : decode cX11_thickest 34 = .ok (.aload_n 0, 1) := by decide +kernel
theorem dX11_thickest_35 : decode cX11_thickest 35 = .ok (.iload 4, 2) := by decide +kernel
theorem dX11_thickest_37 : decode cX11_thickest 37 = .ok (.invokevirtual 107, 3) := by decide +kernel
theorem dX11_thickest_40 : decode cX11_thickest 40 = .ok (.ifCond .eq 7, 3) := by decide +kernel
theorem dX11_thickest_43 : decode cX11_thickest 43 = .ok (.iconst 1, 1) := by decide +kernel
theorem dX11_thickest_44 : decode cX11_thickest 44 = .ok (.goto 4, 3) := by decide +kernel
theorem dX11_thickest_47 : decode cX11_thickest 47 = .ok (.iconst 0, 1) := by decide +kernel
theorem dX11_thickest_48 : decode cX11_thickest 48 = .ok (.iadd, 1) := by decide +kernel
theorem dX11_thickest_49 : decode cX11_thickest 49 = .ok (.istore_n 3, 1) := by decide +kernel
theorem dX11_thickest_50 : decode cX11_thickest 50 = .ok (.iload_n 3, 1) := by decide +kernel
theorem dX11_thickest_51 : decode cX11_thickest 51 = .ok (.aload_n 0, 1) := by decide +kernel
theorem dX11_thickest_52 : decode cX11_thickest 52 = .ok (.iload 4, 2) := by decide +kernel
theorem dX11_thickest_54 : decode cX11_thickest 54 = .ok (.iload_n 1, 1) := by decide +kernel
theorem dX11_thickest_55 : decode cX11_thickest 55 = .ok (.isub, 1) := by decide +kernel
theorem dX11_thickest_56 : decode cX11_thickest 56 = .ok (.invokevirtual 107, 3) := by decide +kernel
theorem dX11_thickest_59 : decode cX11_thickest 59 = .ok (.ifCond .eq 7, 3) := by decide +kernel
theorem dX11_thickest_62 : decode cX11_thickest 62 = .ok (.iconst 1, 1) := by decide +kernel
theorem dX11_thickest_63 : decode cX11_thickest 63 = .ok (.goto 4, 3) := by decide +kernel
theorem dX11_thickest_66 : decode cX11_thickest 66 = .ok (.iconst 0, 1) := by decide +kernel
theorem dX11_thickest_67 : decode cX11_thickest 67 = .ok (.isub, 1) := by decide +kernel
theorem dX11_thickest_68 : decode cX11_thickest 68 = .ok (.istore_n 3, 1) := by decide +kernel
theorem dX11_thickest_69 : decode cX11_thickest 69 = .ok (.iload_n 3, 1) := by decide +kernel
theorem dX11_thickest_70 : decode cX11_thickest 70 = .ok (.iload_n 2, 1) := by decide +kernel
theorem dX11_thickest_71 : decode cX11_thickest 71 = .ok (.if_icmp .le 7, 3) := by decide +kernel
theorem dX11_thickest_74 : decode cX11_thickest 74 = .ok (.iload_n 3, 1) := by decide +kernel
theorem dX11_thickest_75 : decode cX11_thickest 75 = .ok (.goto 4, 3) := by decide +kernel
theorem dX11_thickest_78 : decode cX11_thickest 78 = .ok (.iload_n 2, 1) := by decide +kernel
theorem dX11_thickest_79 : decode cX11_thickest 79 = .ok (.istore_n 2, 1) := by decide +kernel
theorem dX11_thickest_80 : decode cX11_thickest 80 = .ok (.iinc 4 1, 3) := by decide +kernel
theorem dX11_thickest_83 : decode cX11_thickest 83 = .ok (.goto (-59), 3) := by decide +kernel
theorem dX11_thickest_86 : decode cX11_thickest 86 = .ok (.iload_n 2, 1) := by decide +kernel
theorem dX11_thickest_87 : decode cX11_thickest 87 = .ok (.ireturn, 1) := by decide +kernel
theorem dX11_between_0 : decode cX11_between 0 = .ok (.aload_n 0, 1) := by decide +kernel
theorem dX11_between_1 : decode cX11_between 1 = .ok (.iconst 0, 1) := by decide +kernel
theorem dX11_between_2 : decode cX11_between 2 = .ok (.putfield 78, 3) := by decide +kernel
theorem dX11_between_5 : decode cX11_between 5 = .ok (.aload_n 0, 1) := by decide +kernel
theorem dX11_between_6 : decode cX11_between 6 = .ok (.invokevirtual 129, 3) := by decide +kernel
theorem dX11_between_9 : decode cX11_between 9 = .ok (.aload_n 0, 1) := by decide +kernel
theorem dX11_between_10 : decode cX11_between 10 = .ok (.iload_n 1, 1) := by decide +kernel
theorem dX11_between_11 : decode cX11_between 11 = .ok (.iconst 2, 1) := by decide +kernel
theorem dX11_between_12 : decode cX11_between 12 = .ok (.if_icmp .le 7, 3) := by decide +kernel
theorem dX11_between_15 : decode cX11_between 15 = .ok (.iload_n 1, 1) := by decide +kernel
theorem dX11_between_16 : decode cX11_between 16 = .ok (.goto 4, 3) := by decide +kernel
theorem dX11_between_19 : decode cX11_between 19 = .ok (.iconst 2, 1) := by decide +kernel
theorem dX11_between_20 : decode cX11_between 20 = .ok (.iload_n 2, 1) := by decide +kernel
theorem dX11_between_21 : decode cX11_between 21 = .ok (.aload_n 0, 1) := by decide +kernel
theorem dX11_between_22 : decode cX11_between 22 = .ok (.getfield 100, 3) := by decide +kernel
theorem dX11_between_25 : decode cX11_between 25 = .ok (.if_icmp .ge 7, 3) := by decide +kernel
theorem dX11_between_28 : decode cX11_between 28 = .ok (.iload_n 2, 1) := by decide +kernel
theorem dX11_between_29 : decode cX11_between 29 = .ok (.goto 7, 3) := by decide +kernel
theorem dX11_between_32 : decode cX11_between 32 = .ok (.aload_n 0, 1) := by decide +kernel
theorem dX11_between_33 : decode cX11_between 33 = .ok (.getfield 100, 3) := by decide +kernel
theorem dX11_between_36 : decode cX11_between 36 = .ok (.invokevirtual 132, 3) := by decide +kernel
theorem dX11_between_39 : decode cX11_between 39 = .ok (.ireturn, 1) := by decide +kernel
theorem dX11_dividing_0 : decode cX11_dividing 0 = .ok (.aload_n 0, 1) := by decide +kernel
theorem dX11_dividing_1 : decode cX11_dividing 1 = .ok (.invokevirtual 129, 3) := by decide +kernel
theorem dX11_dividing_4 : decode cX11_dividing 4 = .ok (.iconst 0, 1) := by decide +kernel
theorem dX11_dividing_5 : decode cX11_dividing 5 = .ok (.istore_n 3, 1) := by decide +kernel
theorem dX11_dividing_6 : decode cX11_dividing 6 = .ok (.iconst 2, 1) := by decide +kernel
theorem dX11_dividing_7 : decode cX11_dividing 7 = .ok (.istore 4, 2) := by decide +kernel
theorem dX11_dividing_9 : decode cX11_dividing 9 = .ok (.iload 4, 2) := by decide +kernel
theorem dX11_dividing_11 : decode cX11_dividing 11 = .ok (.aload_n 0, 1) := by decide +kernel
theorem dX11_dividing_12 : decode cX11_dividing 12 = .ok (.getfield 100, 3) := by decide +kernel
theorem dX11_dividing_15 : decode cX11_dividing 15 = .ok (.if_icmp .gt 41, 3) := by decide +kernel
theorem dX11_dividing_18 : decode cX11_dividing 18 = .ok (.iload 4, 2) := by decide +kernel
theorem dX11_dividing_20 : decode cX11_dividing 20 = .ok (.iload_n 1, 1) := by decide +kernel
theorem dX11_dividing_21 : decode cX11_dividing 21 = .ok (.if_icmp .gt 35, 3) := by decide +kernel
theorem dX11_dividing_24 : decode cX11_dividing 24 = .ok (.aload_n 0, 1) := by decide +kernel
theorem dX11_dividing_25 : decode cX11_dividing 25 = .ok (.iload 4, 2) := by decide +kernel
theorem dX11_dividing_27 : decode cX11_dividing 27 = .ok (.invokevirtual 107, 3) := by decide +kernel
theorem dX11_dividing_30 : decode cX11_dividing 30 = .ok (.ifCond .eq 20, 3) := by decide +kernel
theorem dX11_dividing_33 : decode cX11_dividing 33 = .ok (.iload_n 1, 1) := by decide +kernel
theorem dX11_dividing_34 : decode cX11_dividing 34 = .ok (.iload 4, 2) := by decide +kernel
theorem dX11_dividing_36 : decode cX11_dividing 36 = .ok (.irem, 1) := by decide +kernel
theorem dX11_dividing_37 : decode cX11_dividing 37 = .ok (.ifCond .ne 13, 3) := by decide +kernel
theorem dX11_dividing_40 : decode cX11_dividing 40 = .ok (.iload_n 2, 1) := by decide +kernel
theorem dX11_dividing_41 : decode cX11_dividing 41 = .ok (.ifCond .eq 6, 3) := by decide +kernel
theorem dX11_dividing_44 : decode cX11_dividing 44 = .ok (.iload 4, 2) := by decide +kernel
theorem dX11_dividing_46 : decode cX11_dividing 46 = .ok (.ireturn, 1) := by decide +kernel
theorem dX11_dividing_47 : decode cX11_dividing 47 = .ok (.iinc 3 1, 3) := by decide +kernel
theorem dX11_dividing_50 : decode cX11_dividing 50 = .ok (.iinc 4 1, 3) := by decide +kernel
theorem dX11_dividing_53 : decode cX11_dividing 53 = .ok (.goto (-44), 3) := by decide +kernel
theorem dX11_dividing_56 : decode cX11_dividing 56 = .ok (.iload_n 2, 1) := by decide +kernel
theorem dX11_dividing_57 : decode cX11_dividing 57 = .ok (.ifCond .eq 7, 3) := by decide +kernel
theorem dX11_dividing_60 : decode cX11_dividing 60 = .ok (.iconst (-1), 1) := by decide +kernel
theorem dX11_dividing_61 : decode cX11_dividing 61 = .ok (.goto 4, 3) := by decide +kernel
theorem dX11_dividing_64 : decode cX11_dividing 64 = .ok (.iload_n 3, 1) := by decide +kernel
theorem dX11_dividing_65 : decode cX11_dividing 65 = .ok (.ireturn, 1) := by decide +kernel
theorem dX11_divisor_0 : decode cX11_divisor 0 = .ok (.aload_n 0, 1) := by decide +kernel
theorem dX11_divisor_1 : decode cX11_divisor 1 = .ok (.iconst 0, 1) := by decide +kernel
theorem dX11_divisor_2 : decode cX11_divisor 2 = .ok (.putfield 78, 3) := by decide +kernel
theorem dX11_divisor_5 : decode cX11_divisor 5 = .ok (.aload_n 0, 1) := by decide +kernel
theorem dX11_divisor_6 : decode cX11_divisor 6 = .ok (.iload_n 1, 1) := by decide +kernel
theorem dX11_divisor_7 : decode cX11_divisor 7 = .ok (.iconst 1, 1) := by decide +kernel
theorem dX11_divisor_8 : decode cX11_divisor 8 = .ok (.invokevirtual 201, 3) := by decide +kernel
theorem dX11_divisor_11 : decode cX11_divisor 11 = .ok (.ireturn, 1) := by decide +kernel
theorem dX11_divisors_0 : decode cX11_divisors 0 = .ok (.aload_n 0, 1) := by decide +kernel
theorem dX11_divisors_1 : decode cX11_divisors 1 = .ok (.iconst 0, 1) := by decide +kernel
theorem dX11_divisors_2 : decode cX11_divisors 2 = .ok (.putfield 78, 3) := by decide +kernel
theorem dX11_divisors_5 : decode cX11_divisors 5 = .ok (.aload_n 0, 1) := by decide +kernel
theorem dX11_divisors_6 : decode cX11_divisors 6 = .ok (.iload_n 1, 1) := by decide +kernel
theorem dX11_divisors_7 : decode cX11_divisors 7 = .ok (.iconst 0, 1) := by decide +kernel
theorem dX11_divisors_8 : decode cX11_divisors 8 = .ok (.invokevirtual 201, 3) := by decide +kernel
theorem dX11_divisors_11 : decode cX11_divisors 11 = .ok (.ireturn, 1) := by decide +kernel
theorem dX11_longest_0 : decode cX11_longest 0 = .ok (.aload_n 0, 1) := by decide +kernel
theorem dX11_longest_1 : decode cX11_longest 1 = .ok (.iconst 0, 1) := by decide +kernel
theorem dX11_longest_2 : decode cX11_longest 2 = .ok (.putfield 78, 3) := by decide +kernel
theorem dX11_longest_5 : decode cX11_longest 5 = .ok (.aload_n 0, 1) := by decide +kernel
theorem dX11_longest_6 : decode cX11_longest 6 = .ok (.invokevirtual 129, 3) := by decide +kernel
theorem dX11_longest_9 : decode cX11_longest 9 = .ok (.iconst 0, 1) := by decide +kernel
theorem dX11_longest_10 : decode cX11_longest 10 = .ok (.istore_n 1, 1) := by decide +kernel
theorem dX11_longest_11 : decode cX11_longest 11 = .ok (.iconst 0, 1) := by decide +kernel
theorem dX11_longest_12 : decode cX11_longest 12 = .ok (.istore_n 2, 1) := by decide +kernel
theorem dX11_longest_13 : decode cX11_longest 13 = .ok (.iconst 2, 1) := by decide +kernel
theorem dX11_longest_14 : decode cX11_longest 14 = .ok (.istore_n 3, 1) := by decide +kernel
theorem dX11_longest_15 : decode cX11_longest 15 = .ok (.iload_n 3, 1) := by decide +kernel
theorem dX11_longest_16 : decode cX11_longest 16 = .ok (.aload_n 0, 1) := by decide +kernel
theorem dX11_longest_17 : decode cX11_longest 17 = .ok (.getfield 100, 3) := by decide +kernel
theorem dX11_longest_20 : decode cX11_longest 20 = .ok (.if_icmp .gt 45, 3) := by decide +kernel
theorem dX11_longest_23 : decode cX11_longest 23 = .ok (.aload_n 0, 1) := by decide +kernel
theorem dX11_longest_24 : decode cX11_longest 24 = .ok (.iload_n 3, 1) := by decide +kernel
theorem dX11_longest_25 : decode cX11_longest 25 = .ok (.invokevirtual 96, 3) := by decide +kernel
theorem dX11_longest_28 : decode cX11_longest 28 = .ok (.ifCond .eq 31, 3) := by decide +kernel
theorem dX11_longest_31 : decode cX11_longest 31 = .ok (.aload_n 0, 1) := by decide +kernel
theorem dX11_longest_32 : decode cX11_longest 32 = .ok (.getfield 37, 3) := by decide +kernel
theorem dX11_longest_35 : decode cX11_longest 35 = .ok (.iload_n 3, 1) := by decide +kernel
theorem dX11_longest_36 : decode cX11_longest 36 = .ok (.iaload, 1) := by decide +kernel
theorem dX11_longest_37 : decode cX11_longest 37 = .ok (.ifCond .ne 9, 3) := by decide +kernel
theorem dX11_longest_40 : decode cX11_longest 40 = .ok (.iload_n 2, 1) := by decide +kernel
theorem dX11_longest_41 : decode cX11_longest 41 = .ok (.iconst 1, 1) := by decide +kernel
theorem dX11_longest_42 : decode cX11_longest 42 = .ok (.iadd, 1) := by decide +kernel
theorem dX11_longest_43 : decode cX11_longest 43 = .ok (.goto 4, 3) := by decide +kernel
theorem dX11_longest_46 : decode cX11_longest 46 = .ok (.iconst 0, 1) := by decide +kernel
theorem dX11_longest_47 : decode cX11_longest 47 = .ok (.istore_n 2, 1) := by decide +kernel
theorem dX11_longest_48 : decode cX11_longest 48 = .ok (.iload_n 2, 1) := by decide +kernel
theorem dX11_longest_49 : decode cX11_longest 49 = .ok (.iload_n 1, 1) := by decide +kernel
theorem dX11_longest_50 : decode cX11_longest 50 = .ok (.if_icmp .le 7, 3) := by decide +kernel
theorem dX11_longest_53 : decode cX11_longest 53 = .ok (.iload_n 2, 1) := by decide +kernel
theorem dX11_longest_54 : decode cX11_longest 54 = .ok (.goto 4, 3) := by decide +kernel
theorem dX11_longest_57 : decode cX11_longest 57 = .ok (.iload_n 1, 1) := by decide +kernel
theorem dX11_longest_58 : decode cX11_longest 58 = .ok (.istore_n 1, 1) := by decide +kernel
theorem dX11_longest_59 : decode cX11_longest 59 = .ok (.iinc 3 1, 3) := by decide +kernel
theorem dX11_longest_62 : decode cX11_longest 62 = .ok (.goto (-47), 3) := by decide +kernel
theorem dX11_longest_65 : decode cX11_longest 65 = .ok (.iload_n 1, 1) := by decide +kernel
theorem dX11_longest_66 : decode cX11_longest 66 = .ok (.ireturn, 1) := by decide +kernel
theorem dX11_chain_0 : decode cX11_chain 0 = .ok (.aload_n 0, 1) := by decide +kernel
theorem dX11_chain_1 : decode cX11_chain 1 = .ok (.iconst 0, 1) := by decide +kernel
theorem dX11_chain_2 : decode cX11_chain 2 = .ok (.putfield 78, 3) := by decide +kernel
theorem dX11_chain_5 : decode cX11_chain 5 = .ok (.aload_n 0, 1) := by decide +kernel
theorem dX11_chain_6 : decode cX11_chain 6 = .ok (.invokevirtual 129, 3) := by decide +kernel
theorem dX11_chain_9 : decode cX11_chain 9 = .ok (.iconst 0, 1) := by decide +kernel
theorem dX11_chain_10 : decode cX11_chain 10 = .ok (.istore_n 2, 1) := by decide +kernel
theorem dX11_chain_11 : decode cX11_chain 11 = .ok (.iload_n 1, 1) := by decide +kernel
theorem dX11_chain_12 : decode cX11_chain 12 = .ok (.istore_n 3, 1) := by decide +kernel
theorem dX11_chain_13 : decode cX11_chain 13 = .ok (.aload_n 0, 1) := by decide +kernel
theorem dX11_chain_14 : decode cX11_chain 14 = .ok (.iload_n 3, 1) := by decide +kernel
theorem dX11_chain_15 : decode cX11_chain 15 = .ok (.invokevirtual 107, 3) := by decide +kernel
theorem dX11_chain_18 : decode cX11_chain 18 = .ok (.ifCond .eq 15, 3) := by decide +kernel
theorem dX11_chain_21 : decode cX11_chain 21 = .ok (.iinc 2 1, 3) := by decide +kernel
theorem dX11_chain_24 : decode cX11_chain 24 = .ok (.iconst 2, 1) := by decide +kernel
theorem dX11_chain_25 : decode cX11_chain 25 = .ok (.iload_n 3, 1) := by decide +kernel
theorem dX11_chain_26 : decode cX11_chain 26 = .ok (.imul, 1) := by decide +kernel
theorem dX11_chain_27 : decode cX11_chain 27 = .ok (.iconst 1, 1) := by decide +kernel
theorem dX11_chain_28 : decode cX11_chain 28 = .ok (.iadd, 1) := by decide +kernel
theorem dX11_chain_29 : decode cX11_chain 29 = .ok (.istore_n 3, 1) := by decide +kernel
theorem dX11_chain_30 : decode cX11_chain 30 = .ok (.goto (-17), 3) := by decide +kernel
theorem dX11_chain_33 : decode cX11_chain 33 = .ok (.iload_n 2, 1) := by decide +kernel
theorem dX11_chain_34 : decode cX11_chain 34 = .ok (.ireturn, 1) := by decide +kernel
theorem dX11_turn_0 : decode cX11_turn 0 = .ok (.aload_n 0, 1) := by decide +kernel
theorem dX11_turn_1 : decode cX11_turn 1 = .ok (.iload_n 1, 1) := by decide +kernel
theorem dX11_turn_2 : decode cX11_turn 2 = .ok (.iconst 0, 1) := by decide +kernel
theorem dX11_turn_3 : decode cX11_turn 3 = .ok (.sipush 5000, 3) := by decide +kernel
theorem dX11_turn_6 : decode cX11_turn 6 = .ok (.invokestatic 81, 3) := by decide +kernel
theorem dX11_turn_9 : decode cX11_turn 9 = .ok (.invokevirtual 125, 3) := by decide +kernel
theorem dX11_turn_12 : decode cX11_turn 12 = .ok (.ifCond .eq 5, 3) := by decide +kernel
theorem dX11_turn_15 : decode cX11_turn 15 = .ok (.iconst 0, 1) := by decide +kernel
theorem dX11_turn_16 : decode cX11_turn 16 = .ok (.ireturn, 1) := by decide +kernel
theorem dX11_turn_17 : decode cX11_turn 17 = .ok (.aload_n 0, 1) := by decide +kernel
theorem dX11_turn_18 : decode cX11_turn 18 = .ok (.invokevirtual 129, 3) := by decide +kernel
theorem dX11_turn_21 : decode cX11_turn 21 = .ok (.aload_n 0, 1) := by decide +kernel
theorem dX11_turn_22 : decode cX11_turn 22 = .ok (.invokevirtual 139, 3) := by decide +kernel
theorem dX11_turn_25 : decode cX11_turn 25 = .ok (.iload_n 1, 1) := by decide +kernel
theorem dX11_turn_26 : decode cX11_turn 26 = .ok (.imul, 1) := by decide +kernel
theorem dX11_turn_27 : decode cX11_turn 27 = .ok (.iconst 1, 1) := by decide +kernel
theorem dX11_turn_28 : decode cX11_turn 28 = .ok (.iadd, 1) := by decide +kernel
theorem dX11_turn_29 : decode cX11_turn 29 = .ok (.istore_n 2, 1) := by decide +kernel
theorem dX11_turn_30 : decode cX11_turn 30 = .ok (.aload_n 0, 1) := by decide +kernel
theorem dX11_turn_31 : decode cX11_turn 31 = .ok (.invokevirtual 139, 3) := by decide +kernel
theorem dX11_turn_34 : decode cX11_turn 34 = .ok (.iload_n 1, 1) := by decide +kernel
theorem dX11_turn_35 : decode cX11_turn 35 = .ok (.iconst 1, 1) := by decide +kernel
theorem dX11_turn_36 : decode cX11_turn 36 = .ok (.iadd, 1) := by decide +kernel
theorem dX11_turn_37 : decode cX11_turn 37 = .ok (.imul, 1) := by decide +kernel
theorem dX11_turn_38 : decode cX11_turn 38 = .ok (.istore_n 3, 1) := by decide +kernel
theorem dX11_turn_39 : decode cX11_turn 39 = .ok (.aload_n 0, 1) := by decide +kernel
theorem dX11_turn_40 : decode cX11_turn 40 = .ok (.iload_n 2, 1) := by decide +kernel
theorem dX11_turn_41 : decode cX11_turn 41 = .ok (.iload_n 3, 1) := by decide +kernel
theorem dX11_turn_42 : decode cX11_turn 42 = .ok (.aload_n 0, 1) := by decide +kernel
theorem dX11_turn_43 : decode cX11_turn 43 = .ok (.getfield 100, 3) := by decide +kernel
theorem dX11_turn_46 : decode cX11_turn 46 = .ok (.if_icmp .ge 7, 3) := by decide +kernel
theorem dX11_turn_49 : decode cX11_turn 49 = .ok (.iload_n 3, 1) := by decide +kernel
theorem dX11_turn_50 : decode cX11_turn 50 = .ok (.goto 7, 3) := by decide +kernel
theorem dX11_turn_53 : decode cX11_turn 53 = .ok (.aload_n 0, 1) := by decide +kernel
theorem dX11_turn_54 : decode cX11_turn 54 = .ok (.getfield 100, 3) := by decide +kernel
theorem dX11_turn_57 : decode cX11_turn 57 = .ok (.invokevirtual 132, 3) := by decide +kernel
theorem dX11_turn_60 : decode cX11_turn 60 = .ok (.ireturn, 1) := by decide +kernel
theorem dX11_wrongOnes_0 : decode cX11_wrongOnes 0 = .ok (.iconst 0, 1) := by decide +kernel
theorem dX11_wrongOnes_1 : decode cX11_wrongOnes 1 = .ok (.istore_n 1, 1) := by decide +kernel
theorem dX11_wrongOnes_2 : decode cX11_wrongOnes 2 = .ok (.iconst 2, 1) := by decide +kernel
theorem dX11_wrongOnes_3 : decode cX11_wrongOnes 3 = .ok (.istore_n 2, 1) := by decide +kernel
theorem dX11_wrongOnes_4 : decode cX11_wrongOnes 4 = .ok (.iload_n 2, 1) := by decide +kernel
theorem dX11_wrongOnes_5 : decode cX11_wrongOnes 5 = .ok (.aload_n 0, 1) := by decide +kernel
theorem dX11_wrongOnes_6 : decode cX11_wrongOnes 6 = .ok (.getfield 100, 3) := by decide +kernel
theorem dX11_wrongOnes_9 : decode cX11_wrongOnes 9 = .ok (.if_icmp .gt 32, 3) := by decide +kernel
theorem dX11_wrongOnes_12 : decode cX11_wrongOnes 12 = .ok (.iload_n 1, 1) := by decide +kernel
theorem dX11_wrongOnes_13 : decode cX11_wrongOnes 13 = .ok (.aload_n 0, 1) := by decide +kernel
theorem dX11_wrongOnes_14 : decode cX11_wrongOnes 14 = .ok (.iload_n 2, 1) := by decide +kernel
theorem dX11_wrongOnes_15 : decode cX11_wrongOnes 15 = .ok (.invokevirtual 107, 3) := by decide +kernel
theorem dX11_wrongOnes_18 : decode cX11_wrongOnes 18 = .ok (.ifCond .eq 14, 3) := by decide +kernel
theorem dX11_wrongOnes_21 : decode cX11_wrongOnes 21 = .ok (.iload_n 2, 1) := by decide +kernel
theorem dX11_wrongOnes_22 : decode cX11_wrongOnes 22 = .ok (.invokestatic 176, 3) := by decide +kernel
theorem dX11_wrongOnes_25 : decode cX11_wrongOnes 25 = .ok (.ifCond .ne 7, 3) := by decide +kernel
theorem dX11_wrongOnes_28 : decode cX11_wrongOnes 28 = .ok (.iconst 1, 1) := by decide +kernel
theorem dX11_wrongOnes_29 : decode cX11_wrongOnes 29 = .ok (.goto 4, 3) := by decide +kernel
theorem dX11_wrongOnes_32 : decode cX11_wrongOnes 32 = .ok (.iconst 0, 1) := by decide +kernel
theorem dX11_wrongOnes_33 : decode cX11_wrongOnes 33 = .ok (.iadd, 1) := by decide +kernel
theorem dX11_wrongOnes_34 : decode cX11_wrongOnes 34 = .ok (.istore_n 1, 1) := by decide +kernel
theorem dX11_wrongOnes_35 : decode cX11_wrongOnes 35 = .ok (.iinc 2 1, 3) := by decide +kernel
theorem dX11_wrongOnes_38 : decode cX11_wrongOnes 38 = .ok (.goto (-34), 3) := by decide +kernel
theorem dX11_wrongOnes_41 : decode cX11_wrongOnes 41 = .ok (.iload_n 1, 1) := by decide +kernel
theorem dX11_wrongOnes_42 : decode cX11_wrongOnes 42 = .ok (.ireturn, 1) := by decide +kernel
theorem dX11_wrong_0 : decode cX11_wrong 0 = .ok (.aload_n 0, 1) := by decide +kernel
theorem dX11_wrong_1 : decode cX11_wrong 1 = .ok (.iconst 0, 1) := by decide +kernel
theorem dX11_wrong_2 : decode cX11_wrong 2 = .ok (.putfield 78, 3) := by decide +kernel
theorem dX11_wrong_5 : decode cX11_wrong 5 = .ok (.aload_n 0, 1) := by decide +kernel
theorem dX11_wrong_6 : decode cX11_wrong 6 = .ok (.invokevirtual 129, 3) := by decide +kernel
theorem dX11_wrong_9 : decode cX11_wrong 9 = .ok (.aload_n 0, 1) := by decide +kernel
theorem dX11_wrong_10 : decode cX11_wrong 10 = .ok (.invokevirtual 205, 3) := by decide +kernel
theorem dX11_wrong_13 : decode cX11_wrong 13 = .ok (.ireturn, 1) := by decide +kernel
theorem dX11_firstWrong_0 : decode cX11_firstWrong 0 = .ok (.aload_n 0, 1) := by decide +kernel
theorem dX11_firstWrong_1 : decode cX11_firstWrong 1 = .ok (.iconst 0, 1) := by decide +kernel
theorem dX11_firstWrong_2 : decode cX11_firstWrong 2 = .ok (.putfield 78, 3) := by decide +kernel
theorem dX11_firstWrong_5 : decode cX11_firstWrong 5 = .ok (.aload_n 0, 1) := by decide +kernel
theorem dX11_firstWrong_6 : decode cX11_firstWrong 6 = .ok (.invokevirtual 129, 3) := by decide +kernel
theorem dX11_firstWrong_9 : decode cX11_firstWrong 9 = .ok (.iconst 2, 1) := by decide +kernel
theorem dX11_firstWrong_10 : decode cX11_firstWrong 10 = .ok (.istore_n 1, 1) := by decide +kernel
theorem dX11_firstWrong_11 : decode cX11_firstWrong 11 = .ok (.iload_n 1, 1) := by decide +kernel
theorem dX11_firstWrong_12 : decode cX11_firstWrong 12 = .ok (.aload_n 0, 1) := by decide +kernel
theorem dX11_firstWrong_13 : decode cX11_firstWrong 13 = .ok (.getfield 100, 3) := by decide +kernel
theorem dX11_firstWrong_16 : decode cX11_firstWrong 16 = .ok (.if_icmp .gt 26, 3) := by decide +kernel
theorem dX11_firstWrong_19 : decode cX11_firstWrong 19 = .ok (.aload_n 0, 1) := by decide +kernel
theorem dX11_firstWrong_20 : decode cX11_firstWrong 20 = .ok (.iload_n 1, 1) := by decide +kernel
theorem dX11_firstWrong_21 : decode cX11_firstWrong 21 = .ok (.invokevirtual 107, 3) := by decide +kernel
theorem dX11_firstWrong_24 : decode cX11_firstWrong 24 = .ok (.ifCond .eq 12, 3) := by decide +kernel
theorem dX11_firstWrong_27 : decode cX11_firstWrong 27 = .ok (.iload_n 1, 1) := by decide +kernel
theorem dX11_firstWrong_28 : decode cX11_firstWrong 28 = .ok (.invokestatic 176, 3) := by decide +kernel
theorem dX11_firstWrong_31 : decode cX11_firstWrong 31 = .ok (.ifCond .ne 5, 3) := by decide +kernel
theorem dX11_firstWrong_34 : decode cX11_firstWrong 34 = .ok (.iload_n 1, 1) := by decide +kernel
theorem dX11_firstWrong_35 : decode cX11_firstWrong 35 = .ok (.ireturn, 1) := by decide +kernel
theorem dX11_firstWrong_36 : decode cX11_firstWrong 36 = .ok (.iinc 1 1, 3) := by decide +kernel
theorem dX11_firstWrong_39 : decode cX11_firstWrong 39 = .ok (.goto (-28), 3) := by decide +kernel
theorem dX11_firstWrong_42 : decode cX11_firstWrong 42 = .ok (.iconst (-1), 1) := by decide +kernel
theorem dX11_firstWrong_43 : decode cX11_firstWrong 43 = .ok (.ireturn, 1) := by decide +kernel
theorem dX11_gap_0 : decode cX11_gap 0 = .ok (.aload_n 0, 1) := by decide +kernel
theorem dX11_gap_1 : decode cX11_gap 1 = .ok (.iconst 0, 1) := by decide +kernel
theorem dX11_gap_2 : decode cX11_gap 2 = .ok (.putfield 78, 3) := by decide +kernel
theorem dX11_gap_5 : decode cX11_gap 5 = .ok (.aload_n 0, 1) := by decide +kernel
theorem dX11_gap_6 : decode cX11_gap 6 = .ok (.invokevirtual 129, 3) := by decide +kernel
theorem dX11_gap_9 : decode cX11_gap 9 = .ok (.aload_n 0, 1) := by decide +kernel
theorem dX11_gap_10 : decode cX11_gap 10 = .ok (.iconst 2, 1) := by decide +kernel
theorem dX11_gap_11 : decode cX11_gap 11 = .ok (.invokevirtual 119, 3) := by decide +kernel
theorem dX11_gap_14 : decode cX11_gap 14 = .ok (.iconst (-1), 1) := by decide +kernel
theorem dX11_gap_15 : decode cX11_gap 15 = .ok (.if_icmp .ne 10, 3) := by decide +kernel
theorem dX11_gap_18 : decode cX11_gap 18 = .ok (.aload_n 0, 1) := by decide +kernel
theorem dX11_gap_19 : decode cX11_gap 19 = .ok (.invokevirtual 205, 3) := by decide +kernel
theorem dX11_gap_22 : decode cX11_gap 22 = .ok (.goto 4, 3) := by decide +kernel
theorem dX11_gap_25 : decode cX11_gap 25 = .ok (.iconst 0, 1) := by decide +kernel
theorem dX11_gap_26 : decode cX11_gap 26 = .ok (.istore_n 1, 1) := by decide +kernel
theorem dX11_gap_27 : decode cX11_gap 27 = .ok (.iconst 2, 1) := by decide +kernel
theorem dX11_gap_28 : decode cX11_gap 28 = .ok (.istore_n 2, 1) := by decide +kernel
theorem dX11_gap_29 : decode cX11_gap 29 = .ok (.iload_n 2, 1) := by decide +kernel
theorem dX11_gap_30 : decode cX11_gap 30 = .ok (.aload_n 0, 1) := by decide +kernel
theorem dX11_gap_31 : decode cX11_gap 31 = .ok (.getfield 100, 3) := by decide +kernel
theorem dX11_gap_34 : decode cX11_gap 34 = .ok (.if_icmp .gt 32, 3) := by decide +kernel
theorem dX11_gap_37 : decode cX11_gap 37 = .ok (.iload_n 1, 1) := by decide +kernel
theorem dX11_gap_38 : decode cX11_gap 38 = .ok (.iload_n 2, 1) := by decide +kernel
theorem dX11_gap_39 : decode cX11_gap 39 = .ok (.invokestatic 176, 3) := by decide +kernel
theorem dX11_gap_42 : decode cX11_gap 42 = .ok (.ifCond .eq 15, 3) := by decide +kernel
theorem dX11_gap_45 : decode cX11_gap 45 = .ok (.aload_n 0, 1) := by decide +kernel
theorem dX11_gap_46 : decode cX11_gap 46 = .ok (.iload_n 2, 1) := by decide +kernel
theorem dX11_gap_47 : decode cX11_gap 47 = .ok (.invokevirtual 107, 3) := by decide +kernel
theorem dX11_gap_50 : decode cX11_gap 50 = .ok (.ifCond .ne 7, 3) := by decide +kernel
theorem dX11_gap_53 : decode cX11_gap 53 = .ok (.iconst 1, 1) := by decide +kernel
theorem dX11_gap_54 : decode cX11_gap 54 = .ok (.goto 4, 3) := by decide +kernel
theorem dX11_gap_57 : decode cX11_gap 57 = .ok (.iconst 0, 1) := by decide +kernel
theorem dX11_gap_58 : decode cX11_gap 58 = .ok (.iadd, 1) := by decide +kernel
theorem dX11_gap_59 : decode cX11_gap 59 = .ok (.istore_n 1, 1) := by decide +kernel
theorem dX11_gap_60 : decode cX11_gap 60 = .ok (.iinc 2 1, 3) := by decide +kernel
theorem dX11_gap_63 : decode cX11_gap 63 = .ok (.goto (-34), 3) := by decide +kernel
theorem dX11_gap_66 : decode cX11_gap 66 = .ok (.iload_n 1, 1) := by decide +kernel
theorem dX11_gap_67 : decode cX11_gap 67 = .ok (.ireturn, 1) := by decide +kernel
theorem dX11_missing_0 : decode cX11_missing 0 = .ok (.aload_n 0, 1) := by decide +kernel
theorem dX11_missing_1 : decode cX11_missing 1 = .ok (.iconst 0, 1) := by decide +kernel
theorem dX11_missing_2 : decode cX11_missing 2 = .ok (.putfield 78, 3) := by decide +kernel
theorem dX11_missing_5 : decode cX11_missing 5 = .ok (.aload_n 0, 1) := by decide +kernel
theorem dX11_missing_6 : decode cX11_missing 6 = .ok (.invokevirtual 129, 3) := by decide +kernel
theorem dX11_missing_9 : decode cX11_missing 9 = .ok (.aload_n 0, 1) := by decide +kernel
theorem dX11_missing_10 : decode cX11_missing 10 = .ok (.iconst 2, 1) := by decide +kernel
theorem dX11_missing_11 : decode cX11_missing 11 = .ok (.invokevirtual 119, 3) := by decide +kernel
theorem dX11_missing_14 : decode cX11_missing 14 = .ok (.ireturn, 1) := by decide +kernel
theorem dX11_takenBy_0 : decode cX11_takenBy 0 = .ok (.iconst 0, 1) := by decide +kernel
theorem dX11_takenBy_1 : decode cX11_takenBy 1 = .ok (.istore_n 2, 1) := by decide +kernel
theorem dX11_takenBy_2 : decode cX11_takenBy 2 = .ok (.iload_n 1, 1) := by decide +kernel
theorem dX11_takenBy_3 : decode cX11_takenBy 3 = .ok (.iload_n 1, 1) := by decide +kernel
theorem dX11_takenBy_4 : decode cX11_takenBy 4 = .ok (.imul, 1) := by decide +kernel
theorem dX11_takenBy_5 : decode cX11_takenBy 5 = .ok (.istore_n 3, 1) := by decide +kernel
theorem dX11_takenBy_6 : decode cX11_takenBy 6 = .ok (.iload_n 3, 1) := by decide +kernel
theorem dX11_takenBy_7 : decode cX11_takenBy 7 = .ok (.aload_n 0, 1) := by decide +kernel
theorem dX11_takenBy_8 : decode cX11_takenBy 8 = .ok (.getfield 100, 3) := by decide +kernel
theorem dX11_takenBy_11 : decode cX11_takenBy 11 = .ok (.if_icmp .gt 26, 3) := by decide +kernel
theorem dX11_takenBy_14 : decode cX11_takenBy 14 = .ok (.iload_n 2, 1) := by decide +kernel
theorem dX11_takenBy_15 : decode cX11_takenBy 15 = .ok (.aload_n 0, 1) := by decide +kernel
theorem dX11_takenBy_16 : decode cX11_takenBy 16 = .ok (.iload_n 3, 1) := by decide +kernel
theorem dX11_takenBy_17 : decode cX11_takenBy 17 = .ok (.invokevirtual 107, 3) := by decide +kernel
theorem dX11_takenBy_20 : decode cX11_takenBy 20 = .ok (.ifCond .eq 7, 3) := by decide +kernel
theorem dX11_takenBy_23 : decode cX11_takenBy 23 = .ok (.iconst 1, 1) := by decide +kernel
theorem dX11_takenBy_24 : decode cX11_takenBy 24 = .ok (.goto 4, 3) := by decide +kernel
theorem dX11_takenBy_27 : decode cX11_takenBy 27 = .ok (.iconst 0, 1) := by decide +kernel
theorem dX11_takenBy_28 : decode cX11_takenBy 28 = .ok (.iadd, 1) := by decide +kernel
theorem dX11_takenBy_29 : decode cX11_takenBy 29 = .ok (.istore_n 2, 1) := by decide +kernel
theorem dX11_takenBy_30 : decode cX11_takenBy 30 = .ok (.iload_n 3, 1) := by decide +kernel
theorem dX11_takenBy_31 : decode cX11_takenBy 31 = .ok (.iload_n 1, 1) := by decide +kernel
theorem dX11_takenBy_32 : decode cX11_takenBy 32 = .ok (.iadd, 1) := by decide +kernel
theorem dX11_takenBy_33 : decode cX11_takenBy 33 = .ok (.istore_n 3, 1) := by decide +kernel
theorem dX11_takenBy_34 : decode cX11_takenBy 34 = .ok (.goto (-28), 3) := by decide +kernel
theorem dX11_takenBy_37 : decode cX11_takenBy 37 = .ok (.iload_n 2, 1) := by decide +kernel
theorem dX11_takenBy_38 : decode cX11_takenBy 38 = .ok (.ireturn, 1) := by decide +kernel
theorem dX11_takes_0 : decode cX11_takes 0 = .ok (.aload_n 0, 1) := by decide +kernel
theorem dX11_takes_1 : decode cX11_takes 1 = .ok (.iload_n 1, 1) := by decide +kernel
theorem dX11_takes_2 : decode cX11_takes 2 = .ok (.invokestatic 208, 3) := by decide +kernel
theorem dX11_takes_5 : decode cX11_takes 5 = .ok (.invokevirtual 125, 3) := by decide +kernel
theorem dX11_takes_8 : decode cX11_takes 8 = .ok (.ifCond .eq 5, 3) := by decide +kernel
theorem dX11_takes_11 : decode cX11_takes 11 = .ok (.iconst 0, 1) := by decide +kernel
theorem dX11_takes_12 : decode cX11_takes 12 = .ok (.ireturn, 1) := by decide +kernel
theorem dX11_takes_13 : decode cX11_takes 13 = .ok (.aload_n 0, 1) := by decide +kernel
theorem dX11_takes_14 : decode cX11_takes 14 = .ok (.invokevirtual 129, 3) := by decide +kernel
theorem dX11_takes_17 : decode cX11_takes 17 = .ok (.aload_n 0, 1) := by decide +kernel
theorem dX11_takes_18 : decode cX11_takes 18 = .ok (.iload_n 1, 1) := by decide +kernel
theorem dX11_takes_19 : decode cX11_takes 19 = .ok (.invokevirtual 211, 3) := by decide +kernel
theorem dX11_takes_22 : decode cX11_takes 22 = .ok (.ireturn, 1) := by decide +kernel
theorem dX11_ownedAlone_0 : decode cX11_ownedAlone 0 = .ok (.iconst 0, 1) := by decide +kernel
theorem dX11_ownedAlone_1 : decode cX11_ownedAlone 1 = .ok (.istore_n 2, 1) := by decide +kernel
theorem dX11_ownedAlone_2 : decode cX11_ownedAlone 2 = .ok (.iconst 2, 1) := by decide +kernel
theorem dX11_ownedAlone_3 : decode cX11_ownedAlone 3 = .ok (.istore_n 3, 1) := by decide +kernel
theorem dX11_ownedAlone_4 : decode cX11_ownedAlone 4 = .ok (.iload_n 3, 1) := by decide +kernel
theorem dX11_ownedAlone_5 : decode cX11_ownedAlone 5 = .ok (.aload_n 0, 1) := by decide +kernel
theorem dX11_ownedAlone_6 : decode cX11_ownedAlone 6 = .ok (.getfield 100, 3) := by decide +kernel
theorem dX11_ownedAlone_9 : decode cX11_ownedAlone 9 = .ok (.if_icmp .gt 37, 3) := by decide +kernel
theorem dX11_ownedAlone_12 : decode cX11_ownedAlone 12 = .ok (.iload_n 2, 1) := by decide +kernel
theorem dX11_ownedAlone_13 : decode cX11_ownedAlone 13 = .ok (.aload_n 0, 1) := by decide +kernel
theorem dX11_ownedAlone_14 : decode cX11_ownedAlone 14 = .ok (.getfield 34, 3) := by decide +kernel
theorem dX11_ownedAlone_17 : decode cX11_ownedAlone 17 = .ok (.iload_n 3, 1) := by decide +kernel
theorem dX11_ownedAlone_18 : decode cX11_ownedAlone 18 = .ok (.iaload, 1) := by decide +kernel
theorem dX11_ownedAlone_19 : decode cX11_ownedAlone 19 = .ok (.iload_n 1, 1) := by decide +kernel
theorem dX11_ownedAlone_20 : decode cX11_ownedAlone 20 = .ok (.if_icmp .ne 17, 3) := by decide +kernel
theorem dX11_ownedAlone_23 : decode cX11_ownedAlone 23 = .ok (.aload_n 0, 1) := by decide +kernel
theorem dX11_ownedAlone_24 : decode cX11_ownedAlone 24 = .ok (.getfield 37, 3) := by decide +kernel
theorem dX11_ownedAlone_27 : decode cX11_ownedAlone 27 = .ok (.iload_n 3, 1) := by decide +kernel
theorem dX11_ownedAlone_28 : decode cX11_ownedAlone 28 = .ok (.iaload, 1) := by decide +kernel
theorem dX11_ownedAlone_29 : decode cX11_ownedAlone 29 = .ok (.iconst 1, 1) := by decide +kernel
theorem dX11_ownedAlone_30 : decode cX11_ownedAlone 30 = .ok (.if_icmp .ne 7, 3) := by decide +kernel
theorem dX11_ownedAlone_33 : decode cX11_ownedAlone 33 = .ok (.iconst 1, 1) := by decide +kernel
theorem dX11_ownedAlone_34 : decode cX11_ownedAlone 34 = .ok (.goto 4, 3) := by decide +kernel
theorem dX11_ownedAlone_37 : decode cX11_ownedAlone 37 = .ok (.iconst 0, 1) := by decide +kernel
theorem dX11_ownedAlone_38 : decode cX11_ownedAlone 38 = .ok (.iadd, 1) := by decide +kernel
theorem dX11_ownedAlone_39 : decode cX11_ownedAlone 39 = .ok (.istore_n 2, 1) := by decide +kernel
theorem dX11_ownedAlone_40 : decode cX11_ownedAlone 40 = .ok (.iinc 3 1, 3) := by decide +kernel
theorem dX11_ownedAlone_43 : decode cX11_ownedAlone 43 = .ok (.goto (-39), 3) := by decide +kernel
theorem dX11_ownedAlone_46 : decode cX11_ownedAlone 46 = .ok (.iload_n 2, 1) := by decide +kernel
theorem dX11_ownedAlone_47 : decode cX11_ownedAlone 47 = .ok (.ireturn, 1) := by decide +kernel
theorem dX11_gives_0 : decode cX11_gives 0 = .ok (.aload_n 0, 1) := by decide +kernel
theorem dX11_gives_1 : decode cX11_gives 1 = .ok (.aload_n 0, 1) := by decide +kernel
theorem dX11_gives_2 : decode cX11_gives 2 = .ok (.iload_n 1, 1) := by decide +kernel
theorem dX11_gives_3 : decode cX11_gives 3 = .ok (.invokevirtual 167, 3) := by decide +kernel
theorem dX11_gives_6 : decode cX11_gives 6 = .ok (.invokevirtual 125, 3) := by decide +kernel
theorem dX11_gives_9 : decode cX11_gives 9 = .ok (.ifCond .eq 5, 3) := by decide +kernel
theorem dX11_gives_12 : decode cX11_gives 12 = .ok (.iconst 0, 1) := by decide +kernel
theorem dX11_gives_13 : decode cX11_gives 13 = .ok (.ireturn, 1) := by decide +kernel
theorem dX11_gives_14 : decode cX11_gives 14 = .ok (.aload_n 0, 1) := by decide +kernel
theorem dX11_gives_15 : decode cX11_gives 15 = .ok (.invokevirtual 129, 3) := by decide +kernel
theorem dX11_gives_18 : decode cX11_gives 18 = .ok (.aload_n 0, 1) := by decide +kernel
theorem dX11_gives_19 : decode cX11_gives 19 = .ok (.iload_n 1, 1) := by decide +kernel
theorem dX11_gives_20 : decode cX11_gives 20 = .ok (.invokevirtual 214, 3) := by decide +kernel
theorem dX11_gives_23 : decode cX11_gives 23 = .ok (.ireturn, 1) := by decide +kernel
theorem dX11_best_0 : decode cX11_best 0 = .ok (.aload_n 0, 1) := by decide +kernel
theorem dX11_best_1 : decode cX11_best 1 = .ok (.iconst 0, 1) := by decide +kernel
theorem dX11_best_2 : decode cX11_best 2 = .ok (.putfield 78, 3) := by decide +kernel
theorem dX11_best_5 : decode cX11_best 5 = .ok (.aload_n 0, 1) := by decide +kernel
theorem dX11_best_6 : decode cX11_best 6 = .ok (.invokevirtual 129, 3) := by decide +kernel
theorem dX11_best_9 : decode cX11_best 9 = .ok (.iconst (-1), 1) := by decide +kernel
theorem dX11_best_10 : decode cX11_best 10 = .ok (.istore_n 1, 1) := by decide +kernel
theorem dX11_best_11 : decode cX11_best 11 = .ok (.iconst 0, 1) := by decide +kernel
theorem dX11_best_12 : decode cX11_best 12 = .ok (.istore_n 2, 1) := by decide +kernel
theorem dX11_best_13 : decode cX11_best 13 = .ok (.iconst 2, 1) := by decide +kernel
theorem dX11_best_14 : decode cX11_best 14 = .ok (.istore_n 3, 1) := by decide +kernel
theorem dX11_best_15 : decode cX11_best 15 = .ok (.iload_n 3, 1) := by decide +kernel
theorem dX11_best_16 : decode cX11_best 16 = .ok (.bipush 120, 2) := by decide +kernel
theorem dX11_best_18 : decode cX11_best 18 = .ok (.if_icmp .gt 27, 3) := by decide +kernel
theorem dX11_best_21 : decode cX11_best 21 = .ok (.aload_n 0, 1) := by decide +kernel
theorem dX11_best_22 : decode cX11_best 22 = .ok (.iload_n 3, 1) := by decide +kernel
theorem dX11_best_23 : decode cX11_best 23 = .ok (.invokevirtual 211, 3) := by decide +kernel
theorem dX11_best_26 : decode cX11_best 26 = .ok (.istore 4, 2) := by decide +kernel
theorem dX11_best_28 : decode cX11_best 28 = .ok (.iload 4, 2) := by decide +kernel
theorem dX11_best_30 : decode cX11_best 30 = .ok (.iload_n 2, 1) := by decide +kernel
theorem dX11_best_31 : decode cX11_best 31 = .ok (.if_icmp .le 8, 3) := by decide +kernel
theorem dX11_best_34 : decode cX11_best 34 = .ok (.iload_n 3, 1) := by decide +kernel
theorem dX11_best_35 : decode cX11_best 35 = .ok (.istore_n 1, 1) := by decide +kernel
theorem dX11_best_36 : decode cX11_best 36 = .ok (.iload 4, 2) := by decide +kernel
theorem dX11_best_38 : decode cX11_best 38 = .ok (.istore_n 2, 1) := by decide +kernel
theorem dX11_best_39 : decode cX11_best 39 = .ok (.iinc 3 1, 3) := by decide +kernel
theorem dX11_best_42 : decode cX11_best 42 = .ok (.goto (-27), 3) := by decide +kernel
theorem dX11_best_45 : decode cX11_best 45 = .ok (.iload_n 1, 1) := by decide +kernel
theorem dX11_best_46 : decode cX11_best 46 = .ok (.ireturn, 1) := by decide +kernel
theorem dX11_marksNext_0 : decode cX11_marksNext 0 = .ok (.aload_n 0, 1) := by decide +kernel
theorem dX11_marksNext_1 : decode cX11_marksNext 1 = .ok (.iload_n 1, 1) := by decide +kernel
theorem dX11_marksNext_2 : decode cX11_marksNext 2 = .ok (.invokestatic 217, 3) := by decide +kernel
theorem dX11_marksNext_5 : decode cX11_marksNext 5 = .ok (.invokevirtual 125, 3) := by decide +kernel
theorem dX11_marksNext_8 : decode cX11_marksNext 8 = .ok (.ifCond .eq 5, 3) := by decide +kernel
theorem dX11_marksNext_11 : decode cX11_marksNext 11 = .ok (.iconst 0, 1) := by decide +kernel
theorem dX11_marksNext_12 : decode cX11_marksNext 12 = .ok (.ireturn, 1) := by decide +kernel
theorem dX11_marksNext_13 : decode cX11_marksNext 13 = .ok (.aload_n 0, 1) := by decide +kernel
theorem dX11_marksNext_14 : decode cX11_marksNext 14 = .ok (.invokevirtual 89, 3) := by decide +kernel
theorem dX11_marksNext_17 : decode cX11_marksNext 17 = .ok (.iconst 1, 1) := by decide +kernel
theorem dX11_marksNext_18 : decode cX11_marksNext 18 = .ok (.iadd, 1) := by decide +kernel
theorem dX11_marksNext_19 : decode cX11_marksNext 19 = .ok (.istore_n 2, 1) := by decide +kernel
theorem dX11_marksNext_20 : decode cX11_marksNext 20 = .ok (.aload_n 0, 1) := by decide +kernel
theorem dX11_marksNext_21 : decode cX11_marksNext 21 = .ok (.aload_n 0, 1) := by decide +kernel
theorem dX11_marksNext_22 : decode cX11_marksNext 22 = .ok (.invokevirtual 89, 3) := by decide +kernel
theorem dX11_marksNext_25 : decode cX11_marksNext 25 = .ok (.iload_n 1, 1) := by decide +kernel
theorem dX11_marksNext_26 : decode cX11_marksNext 26 = .ok (.iadd, 1) := by decide +kernel
theorem dX11_marksNext_27 : decode cX11_marksNext 27 = .ok (.invokevirtual 103, 3) := by decide +kernel
theorem dX11_marksNext_30 : decode cX11_marksNext 30 = .ok (.aload_n 0, 1) := by decide +kernel
theorem dX11_marksNext_31 : decode cX11_marksNext 31 = .ok (.iload_n 2, 1) := by decide +kernel
theorem dX11_marksNext_32 : decode cX11_marksNext 32 = .ok (.aload_n 0, 1) := by decide +kernel
theorem dX11_marksNext_33 : decode cX11_marksNext 33 = .ok (.getfield 100, 3) := by decide +kernel
theorem dX11_marksNext_36 : decode cX11_marksNext 36 = .ok (.invokevirtual 132, 3) := by decide +kernel
theorem dX11_marksNext_39 : decode cX11_marksNext 39 = .ok (.ireturn, 1) := by decide +kernel
theorem dX11_leastWheel_0 : decode cX11_leastWheel 0 = .ok (.aload_n 0, 1) := by decide +kernel
theorem dX11_leastWheel_1 : decode cX11_leastWheel 1 = .ok (.iconst 0, 1) := by decide +kernel
theorem dX11_leastWheel_2 : decode cX11_leastWheel 2 = .ok (.putfield 78, 3) := by decide +kernel
theorem dX11_leastWheel_5 : decode cX11_leastWheel 5 = .ok (.aload_n 0, 1) := by decide +kernel
theorem dX11_leastWheel_6 : decode cX11_leastWheel 6 = .ok (.getfield 31, 3) := by decide +kernel
theorem dX11_leastWheel_9 : decode cX11_leastWheel 9 = .ok (.iconst 0, 1) := by decide +kernel
theorem dX11_leastWheel_10 : decode cX11_leastWheel 10 = .ok (.iaload, 1) := by decide +kernel
theorem dX11_leastWheel_11 : decode cX11_leastWheel 11 = .ok (.istore_n 1, 1) := by decide +kernel
theorem dX11_leastWheel_12 : decode cX11_leastWheel 12 = .ok (.iconst (-1), 1) := by decide +kernel
theorem dX11_leastWheel_13 : decode cX11_leastWheel 13 = .ok (.istore_n 2, 1) := by decide +kernel
theorem dX11_leastWheel_14 : decode cX11_leastWheel 14 = .ok (.iconst 0, 1) := by decide +kernel
theorem dX11_leastWheel_15 : decode cX11_leastWheel 15 = .ok (.istore_n 3, 1) := by decide +kernel
theorem dX11_leastWheel_16 : decode cX11_leastWheel 16 = .ok (.iload_n 3, 1) := by decide +kernel
theorem dX11_leastWheel_17 : decode cX11_leastWheel 17 = .ok (.iconst 4, 1) := by decide +kernel
theorem dX11_leastWheel_18 : decode cX11_leastWheel 18 = .ok (.if_icmp .gt 40, 3) := by decide +kernel
theorem dX11_leastWheel_21 : decode cX11_leastWheel 21 = .ok (.iload_n 2, 1) := by decide +kernel
theorem dX11_leastWheel_22 : decode cX11_leastWheel 22 = .ok (.iconst (-1), 1) := by decide +kernel
theorem dX11_leastWheel_23 : decode cX11_leastWheel 23 = .ok (.if_icmp .ne 35, 3) := by decide +kernel
theorem dX11_leastWheel_26 : decode cX11_leastWheel 26 = .ok (.aload_n 0, 1) := by decide +kernel
theorem dX11_leastWheel_27 : decode cX11_leastWheel 27 = .ok (.getfield 31, 3) := by decide +kernel
theorem dX11_leastWheel_30 : decode cX11_leastWheel 30 = .ok (.iconst 0, 1) := by decide +kernel
theorem dX11_leastWheel_31 : decode cX11_leastWheel 31 = .ok (.iload_n 3, 1) := by decide +kernel
theorem dX11_leastWheel_32 : decode cX11_leastWheel 32 = .ok (.iastore, 1) := by decide +kernel
theorem dX11_leastWheel_33 : decode cX11_leastWheel 33 = .ok (.aload_n 0, 1) := by decide +kernel
theorem dX11_leastWheel_34 : decode cX11_leastWheel 34 = .ok (.invokevirtual 129, 3) := by decide +kernel
theorem dX11_leastWheel_37 : decode cX11_leastWheel 37 = .ok (.aload_n 0, 1) := by decide +kernel
theorem dX11_leastWheel_38 : decode cX11_leastWheel 38 = .ok (.iconst 2, 1) := by decide +kernel
theorem dX11_leastWheel_39 : decode cX11_leastWheel 39 = .ok (.invokevirtual 119, 3) := by decide +kernel
theorem dX11_leastWheel_42 : decode cX11_leastWheel 42 = .ok (.iconst (-1), 1) := by decide +kernel
theorem dX11_leastWheel_43 : decode cX11_leastWheel 43 = .ok (.if_icmp .ne 7, 3) := by decide +kernel
theorem dX11_leastWheel_46 : decode cX11_leastWheel 46 = .ok (.iload_n 3, 1) := by decide +kernel
theorem dX11_leastWheel_47 : decode cX11_leastWheel 47 = .ok (.goto 4, 3) := by decide +kernel
theorem dX11_leastWheel_50 : decode cX11_leastWheel 50 = .ok (.iconst (-1), 1) := by decide +kernel
theorem dX11_leastWheel_51 : decode cX11_leastWheel 51 = .ok (.istore_n 2, 1) := by decide +kernel
theorem dX11_leastWheel_52 : decode cX11_leastWheel 52 = .ok (.iinc 3 1, 3) := by decide +kernel
theorem dX11_leastWheel_55 : decode cX11_leastWheel 55 = .ok (.goto (-39), 3) := by decide +kernel
theorem dX11_leastWheel_58 : decode cX11_leastWheel 58 = .ok (.aload_n 0, 1) := by decide +kernel
theorem dX11_leastWheel_59 : decode cX11_leastWheel 59 = .ok (.getfield 31, 3) := by decide +kernel
theorem dX11_leastWheel_62 : decode cX11_leastWheel 62 = .ok (.iconst 0, 1) := by decide +kernel
theorem dX11_leastWheel_63 : decode cX11_leastWheel 63 = .ok (.iload_n 1, 1) := by decide +kernel
theorem dX11_leastWheel_64 : decode cX11_leastWheel 64 = .ok (.iastore, 1) := by decide +kernel
theorem dX11_leastWheel_65 : decode cX11_leastWheel 65 = .ok (.iload_n 2, 1) := by decide +kernel
theorem dX11_leastWheel_66 : decode cX11_leastWheel 66 = .ok (.ireturn, 1) := by decide +kernel
theorem dX11_shareBits_0 : decode cX11_shareBits 0 = .ok (.aload_n 0, 1) := by decide +kernel
theorem dX11_shareBits_1 : decode cX11_shareBits 1 = .ok (.iconst 0, 1) := by decide +kernel
theorem dX11_shareBits_2 : decode cX11_shareBits 2 = .ok (.putfield 78, 3) := by decide +kernel
theorem dX11_shareBits_5 : decode cX11_shareBits 5 = .ok (.aload_n 0, 1) := by decide +kernel
theorem dX11_shareBits_6 : decode cX11_shareBits 6 = .ok (.invokevirtual 129, 3) := by decide +kernel
theorem dX11_shareBits_9 : decode cX11_shareBits 9 = .ok (.aload_n 0, 1) := by decide +kernel
theorem dX11_shareBits_10 : decode cX11_shareBits 10 = .ok (.getfield 100, 3) := by decide +kernel
theorem dX11_shareBits_13 : decode cX11_shareBits 13 = .ok (.iconst 1, 1) := by decide +kernel
theorem dX11_shareBits_14 : decode cX11_shareBits 14 = .ok (.isub, 1) := by decide +kernel
theorem dX11_shareBits_15 : decode cX11_shareBits 15 = .ok (.istore_n 1, 1) := by decide +kernel
theorem dX11_shareBits_16 : decode cX11_shareBits 16 = .ok (.iload_n 1, 1) := by decide +kernel
theorem dX11_shareBits_17 : decode cX11_shareBits 17 = .ok (.ifCond .ne 7, 3) := by decide +kernel
theorem dX11_shareBits_20 : decode cX11_shareBits 20 = .ok (.fconst 0, 1) := by decide +kernel
theorem dX11_shareBits_21 : decode cX11_shareBits 21 = .ok (.goto 16, 3) := by decide +kernel
theorem dX11_shareBits_24 : decode cX11_shareBits 24 = .ok (.aload_n 0, 1) := by decide +kernel
theorem dX11_shareBits_25 : decode cX11_shareBits 25 = .ok (.iconst 2, 1) := by decide +kernel
theorem dX11_shareBits_26 : decode cX11_shareBits 26 = .ok (.aload_n 0, 1) := by decide +kernel
theorem dX11_shareBits_27 : decode cX11_shareBits 27 = .ok (.getfield 100, 3) := by decide +kernel
theorem dX11_shareBits_30 : decode cX11_shareBits 30 = .ok (.invokevirtual 132, 3) := by decide +kernel
theorem dX11_shareBits_33 : decode cX11_shareBits 33 = .ok (.i2f, 1) := by decide +kernel
theorem dX11_shareBits_34 : decode cX11_shareBits 34 = .ok (.iload_n 1, 1) := by decide +kernel
theorem dX11_shareBits_35 : decode cX11_shareBits 35 = .ok (.i2f, 1) := by decide +kernel
theorem dX11_shareBits_36 : decode cX11_shareBits 36 = .ok (.fdiv, 1) := by decide +kernel
theorem dX11_shareBits_37 : decode cX11_shareBits 37 = .ok (.fstore_n 2, 1) := by decide +kernel
theorem dX11_shareBits_38 : decode cX11_shareBits 38 = .ok (.fload_n 2, 1) := by decide +kernel
theorem dX11_shareBits_39 : decode cX11_shareBits 39 = .ok (.invokestatic 220, 3) := by decide +kernel
theorem dX11_shareBits_42 : decode cX11_shareBits 42 = .ok (.ireturn, 1) := by decide +kernel
theorem dX11_useful_0 : decode cX11_useful 0 = .ok (.aload_n 0, 1) := by decide +kernel
theorem dX11_useful_1 : decode cX11_useful 1 = .ok (.iconst 0, 1) := by decide +kernel
theorem dX11_useful_2 : decode cX11_useful 2 = .ok (.putfield 78, 3) := by decide +kernel
theorem dX11_useful_5 : decode cX11_useful 5 = .ok (.aload_n 0, 1) := by decide +kernel
theorem dX11_useful_6 : decode cX11_useful 6 = .ok (.invokevirtual 129, 3) := by decide +kernel
theorem dX11_useful_9 : decode cX11_useful 9 = .ok (.iconst 0, 1) := by decide +kernel
theorem dX11_useful_10 : decode cX11_useful 10 = .ok (.istore_n 1, 1) := by decide +kernel
theorem dX11_useful_11 : decode cX11_useful 11 = .ok (.iconst 0, 1) := by decide +kernel
theorem dX11_useful_12 : decode cX11_useful 12 = .ok (.istore_n 2, 1) := by decide +kernel
theorem dX11_useful_13 : decode cX11_useful 13 = .ok (.iconst 2, 1) := by decide +kernel
theorem dX11_useful_14 : decode cX11_useful 14 = .ok (.istore_n 3, 1) := by decide +kernel
theorem dX11_useful_15 : decode cX11_useful 15 = .ok (.iload_n 3, 1) := by decide +kernel
theorem dX11_useful_16 : decode cX11_useful 16 = .ok (.aload_n 0, 1) := by decide +kernel
theorem dX11_useful_17 : decode cX11_useful 17 = .ok (.getfield 100, 3) := by decide +kernel
theorem dX11_useful_20 : decode cX11_useful 20 = .ok (.if_icmp .gt 35, 3) := by decide +kernel
theorem dX11_useful_23 : decode cX11_useful 23 = .ok (.iload_n 1, 1) := by decide +kernel
theorem dX11_useful_24 : decode cX11_useful 24 = .ok (.aload_n 0, 1) := by decide +kernel
theorem dX11_useful_25 : decode cX11_useful 25 = .ok (.getfield 37, 3) := by decide +kernel
theorem dX11_useful_28 : decode cX11_useful 28 = .ok (.iload_n 3, 1) := by decide +kernel
theorem dX11_useful_29 : decode cX11_useful 29 = .ok (.iaload, 1) := by decide +kernel
theorem dX11_useful_30 : decode cX11_useful 30 = .ok (.ifCond .le 7, 3) := by decide +kernel
theorem dX11_useful_33 : decode cX11_useful 33 = .ok (.iconst 1, 1) := by decide +kernel
theorem dX11_useful_34 : decode cX11_useful 34 = .ok (.goto 4, 3) := by decide +kernel
theorem dX11_useful_37 : decode cX11_useful 37 = .ok (.iconst 0, 1) := by decide +kernel
theorem dX11_useful_38 : decode cX11_useful 38 = .ok (.iadd, 1) := by decide +kernel
theorem dX11_useful_39 : decode cX11_useful 39 = .ok (.istore_n 1, 1) := by decide +kernel
theorem dX11_useful_40 : decode cX11_useful 40 = .ok (.iload_n 2, 1) := by decide +kernel
theorem dX11_useful_41 : decode cX11_useful 41 = .ok (.aload_n 0, 1) := by decide +kernel
theorem dX11_useful_42 : decode cX11_useful 42 = .ok (.getfield 37, 3) := by decide +kernel
theorem dX11_useful_45 : decode cX11_useful 45 = .ok (.iload_n 3, 1) := by decide +kernel
theorem dX11_useful_46 : decode cX11_useful 46 = .ok (.iaload, 1) := by decide +kernel
theorem dX11_useful_47 : decode cX11_useful 47 = .ok (.iadd, 1) := by decide +kernel
theorem dX11_useful_48 : decode cX11_useful 48 = .ok (.istore_n 2, 1) := by decide +kernel
theorem dX11_useful_49 : decode cX11_useful 49 = .ok (.iinc 3 1, 3) := by decide +kernel
theorem dX11_useful_52 : decode cX11_useful 52 = .ok (.goto (-37), 3) := by decide +kernel
theorem dX11_useful_55 : decode cX11_useful 55 = .ok (.iload_n 2, 1) := by decide +kernel
theorem dX11_useful_56 : decode cX11_useful 56 = .ok (.ifCond .ne 7, 3) := by decide +kernel
theorem dX11_useful_59 : decode cX11_useful 59 = .ok (.dconst 1, 1) := by decide +kernel
theorem dX11_useful_60 : decode cX11_useful 60 = .ok (.goto 8, 3) := by decide +kernel
theorem dX11_useful_63 : decode cX11_useful 63 = .ok (.iload_n 1, 1) := by decide +kernel
theorem dX11_useful_64 : decode cX11_useful 64 = .ok (.i2d, 1) := by decide +kernel
theorem dX11_useful_65 : decode cX11_useful 65 = .ok (.iload_n 2, 1) := by decide +kernel
theorem dX11_useful_66 : decode cX11_useful 66 = .ok (.i2d, 1) := by decide +kernel
theorem dX11_useful_67 : decode cX11_useful 67 = .ok (.ddiv, 1) := by decide +kernel
theorem dX11_useful_68 : decode cX11_useful 68 = .ok (.dreturn, 1) := by decide +kernel
theorem dX11_spokeShare_0 : decode cX11_spokeShare 0 = .ok (.aload_n 0, 1) := by decide +kernel
theorem dX11_spokeShare_1 : decode cX11_spokeShare 1 = .ok (.iconst 0, 1) := by decide +kernel
theorem dX11_spokeShare_2 : decode cX11_spokeShare 2 = .ok (.putfield 78, 3) := by decide +kernel
theorem dX11_spokeShare_5 : decode cX11_spokeShare 5 = .ok (.aload_n 0, 1) := by decide +kernel
theorem dX11_spokeShare_6 : decode cX11_spokeShare 6 = .ok (.invokevirtual 89, 3) := by decide +kernel
theorem dX11_spokeShare_9 : decode cX11_spokeShare 9 = .ok (.istore_n 1, 1) := by decide +kernel
theorem dX11_spokeShare_10 : decode cX11_spokeShare 10 = .ok (.iload_n 1, 1) := by decide +kernel
theorem dX11_spokeShare_11 : decode cX11_spokeShare 11 = .ok (.iconst 1, 1) := by decide +kernel
theorem dX11_spokeShare_12 : decode cX11_spokeShare 12 = .ok (.if_icmp .ne 7, 3) := by decide +kernel
theorem dX11_spokeShare_15 : decode cX11_spokeShare 15 = .ok (.fconst 0, 1) := by decide +kernel
theorem dX11_spokeShare_16 : decode cX11_spokeShare 16 = .ok (.goto 15, 3) := by decide +kernel
theorem dX11_spokeShare_19 : decode cX11_spokeShare 19 = .ok (.aload_n 0, 1) := by decide +kernel
theorem dX11_spokeShare_20 : decode cX11_spokeShare 20 = .ok (.iconst 2, 1) := by decide +kernel
theorem dX11_spokeShare_21 : decode cX11_spokeShare 21 = .ok (.iload_n 1, 1) := by decide +kernel
theorem dX11_spokeShare_22 : decode cX11_spokeShare 22 = .ok (.invokevirtual 136, 3) := by decide +kernel
theorem dX11_spokeShare_25 : decode cX11_spokeShare 25 = .ok (.i2f, 1) := by decide +kernel
theorem dX11_spokeShare_26 : decode cX11_spokeShare 26 = .ok (.iload_n 1, 1) := by decide +kernel
theorem dX11_spokeShare_27 : decode cX11_spokeShare 27 = .ok (.iconst 1, 1) := by decide +kernel
theorem dX11_spokeShare_28 : decode cX11_spokeShare 28 = .ok (.isub, 1) := by decide +kernel
theorem dX11_spokeShare_29 : decode cX11_spokeShare 29 = .ok (.i2f, 1) := by decide +kernel
theorem dX11_spokeShare_30 : decode cX11_spokeShare 30 = .ok (.fdiv, 1) := by decide +kernel
theorem dX11_spokeShare_31 : decode cX11_spokeShare 31 = .ok (.freturn, 1) := by decide +kernel
theorem dX11_ends_0 : decode cX11_ends 0 = .ok (.aload_n 0, 1) := by decide +kernel
theorem dX11_ends_1 : decode cX11_ends 1 = .ok (.getfield 25, 3) := by decide +kernel
theorem dX11_ends_4 : decode cX11_ends 4 = .ok (.iload_n 1, 1) := by decide +kernel
theorem dX11_ends_5 : decode cX11_ends 5 = .ok (.ifCond .ge 7, 3) := by decide +kernel
theorem dX11_ends_8 : decode cX11_ends 8 = .ok (.iconst 1, 1) := by decide +kernel
theorem dX11_ends_9 : decode cX11_ends 9 = .ok (.goto 4, 3) := by decide +kernel
theorem dX11_ends_12 : decode cX11_ends 12 = .ok (.iconst 0, 1) := by decide +kernel
theorem dX11_ends_13 : decode cX11_ends 13 = .ok (.dup2, 1) := by decide +kernel
theorem dX11_ends_14 : decode cX11_ends 14 = .ok (.iaload, 1) := by decide +kernel
theorem dX11_ends_15 : decode cX11_ends 15 = .ok (.iconst 1, 1) := by decide +kernel
theorem dX11_ends_16 : decode cX11_ends 16 = .ok (.iadd, 1) := by decide +kernel
theorem dX11_ends_17 : decode cX11_ends 17 = .ok (.iastore, 1) := by decide +kernel
theorem dX11_ends_18 : decode cX11_ends 18 = .ok (.iload_n 1, 1) := by decide +kernel
theorem dX11_ends_19 : decode cX11_ends 19 = .ok (.ireturn, 1) := by decide +kernel
theorem dX11_doLay_0 : decode cX11_doLay 0 = .ok (.aload_n 0, 1) := by decide +kernel
theorem dX11_doLay_1 : decode cX11_doLay 1 = .ok (.getfield 31, 3) := by decide +kernel
theorem dX11_doLay_4 : decode cX11_doLay 4 = .ok (.iconst 1, 1) := by decide +kernel
theorem dX11_doLay_5 : decode cX11_doLay 5 = .ok (.iaload, 1) := by decide +kernel
theorem dX11_doLay_6 : decode cX11_doLay 6 = .ok (.bipush 12, 2) := by decide +kernel
theorem dX11_doLay_8 : decode cX11_doLay 8 = .ok (.if_icmp .ne 10, 3) := by decide +kernel
theorem dX11_doLay_11 : decode cX11_doLay 11 = .ok (.aload_n 0, 1) := by decide +kernel
theorem dX11_doLay_12 : decode cX11_doLay 12 = .ok (.bipush (-2), 2) := by decide +kernel
theorem dX11_doLay_14 : decode cX11_doLay 14 = .ok (.invokevirtual 226, 3) := by decide +kernel
theorem dX11_doLay_17 : decode cX11_doLay 17 = .ok (.ireturn, 1) := by decide +kernel
theorem dX11_doLay_18 : decode cX11_doLay 18 = .ok (.aload_n 0, 1) := by decide +kernel
theorem dX11_doLay_19 : decode cX11_doLay 19 = .ok (.invokevirtual 89, 3) := by decide +kernel
theorem dX11_doLay_22 : decode cX11_doLay 22 = .ok (.iconst 1, 1) := by decide +kernel
theorem dX11_doLay_23 : decode cX11_doLay 23 = .ok (.iadd, 1) := by decide +kernel
theorem dX11_doLay_24 : decode cX11_doLay 24 = .ok (.istore_n 2, 1) := by decide +kernel
theorem dX11_doLay_25 : decode cX11_doLay 25 = .ok (.aload_n 0, 1) := by decide +kernel
theorem dX11_doLay_26 : decode cX11_doLay 26 = .ok (.getfield 31, 3) := by decide +kernel
theorem dX11_doLay_29 : decode cX11_doLay 29 = .ok (.iconst 2, 1) := by decide +kernel
theorem dX11_doLay_30 : decode cX11_doLay 30 = .ok (.aload_n 0, 1) := by decide +kernel
theorem dX11_doLay_31 : decode cX11_doLay 31 = .ok (.getfield 31, 3) := by decide +kernel
theorem dX11_doLay_34 : decode cX11_doLay 34 = .ok (.iconst 1, 1) := by decide +kernel
theorem dX11_doLay_35 : decode cX11_doLay 35 = .ok (.iaload, 1) := by decide +kernel
theorem dX11_doLay_36 : decode cX11_doLay 36 = .ok (.iadd, 1) := by decide +kernel
theorem dX11_doLay_37 : decode cX11_doLay 37 = .ok (.iload_n 1, 1) := by decide +kernel
theorem dX11_doLay_38 : decode cX11_doLay 38 = .ok (.iastore, 1) := by decide +kernel
theorem dX11_doLay_39 : decode cX11_doLay 39 = .ok (.aload_n 0, 1) := by decide +kernel
theorem dX11_doLay_40 : decode cX11_doLay 40 = .ok (.getfield 31, 3) := by decide +kernel
theorem dX11_doLay_43 : decode cX11_doLay 43 = .ok (.iconst 1, 1) := by decide +kernel
theorem dX11_doLay_44 : decode cX11_doLay 44 = .ok (.dup2, 1) := by decide +kernel
theorem dX11_doLay_45 : decode cX11_doLay 45 = .ok (.iaload, 1) := by decide +kernel
theorem dX11_doLay_46 : decode cX11_doLay 46 = .ok (.iconst 1, 1) := by decide +kernel
theorem dX11_doLay_47 : decode cX11_doLay 47 = .ok (.iadd, 1) := by decide +kernel
theorem dX11_doLay_48 : decode cX11_doLay 48 = .ok (.iastore, 1) := by decide +kernel
theorem dX11_doLay_49 : decode cX11_doLay 49 = .ok (.aload_n 0, 1) := by decide +kernel
theorem dX11_doLay_50 : decode cX11_doLay 50 = .ok (.getfield 25, 3) := by decide +kernel
theorem dX11_doLay_53 : decode cX11_doLay 53 = .ok (.iconst 3, 1) := by decide +kernel
theorem dX11_doLay_54 : decode cX11_doLay 54 = .ok (.dup2, 1) := by decide +kernel
theorem dX11_doLay_55 : decode cX11_doLay 55 = .ok (.iaload, 1) := by decide +kernel
theorem dX11_doLay_56 : decode cX11_doLay 56 = .ok (.iconst 1, 1) := by decide +kernel
theorem dX11_doLay_57 : decode cX11_doLay 57 = .ok (.iadd, 1) := by decide +kernel
theorem dX11_doLay_58 : decode cX11_doLay 58 = .ok (.iastore, 1) := by decide +kernel
theorem dX11_doLay_59 : decode cX11_doLay 59 = .ok (.aload_n 0, 1) := by decide +kernel
theorem dX11_doLay_60 : decode cX11_doLay 60 = .ok (.invokevirtual 129, 3) := by decide +kernel
theorem dX11_doLay_63 : decode cX11_doLay 63 = .ok (.aload_n 0, 1) := by decide +kernel
theorem dX11_doLay_64 : decode cX11_doLay 64 = .ok (.aload_n 0, 1) := by decide +kernel
theorem dX11_doLay_65 : decode cX11_doLay 65 = .ok (.iload_n 2, 1) := by decide +kernel
theorem dX11_doLay_66 : decode cX11_doLay 66 = .ok (.aload_n 0, 1) := by decide +kernel
theorem dX11_doLay_67 : decode cX11_doLay 67 = .ok (.getfield 100, 3) := by decide +kernel
theorem dX11_doLay_70 : decode cX11_doLay 70 = .ok (.invokevirtual 132, 3) := by decide +kernel
theorem dX11_doLay_73 : decode cX11_doLay 73 = .ok (.invokevirtual 226, 3) := by decide +kernel
theorem dX11_doLay_76 : decode cX11_doLay 76 = .ok (.ireturn, 1) := by decide +kernel
theorem dX11_doDrop_0 : decode cX11_doDrop 0 = .ok (.aload_n 0, 1) := by decide +kernel
theorem dX11_doDrop_1 : decode cX11_doDrop 1 = .ok (.getfield 31, 3) := by decide +kernel
theorem dX11_doDrop_4 : decode cX11_doDrop 4 = .ok (.iconst 1, 1) := by decide +kernel
theorem dX11_doDrop_5 : decode cX11_doDrop 5 = .ok (.iaload, 1) := by decide +kernel
theorem dX11_doDrop_6 : decode cX11_doDrop 6 = .ok (.ifCond .ne 10, 3) := by decide +kernel
theorem dX11_doDrop_9 : decode cX11_doDrop 9 = .ok (.aload_n 0, 1) := by decide +kernel
theorem dX11_doDrop_10 : decode cX11_doDrop 10 = .ok (.bipush (-2), 2) := by decide +kernel
theorem dX11_doDrop_12 : decode cX11_doDrop 12 = .ok (.invokevirtual 226, 3) := by decide +kernel
theorem dX11_doDrop_15 : decode cX11_doDrop 15 = .ok (.ireturn, 1) := by decide +kernel
theorem dX11_doDrop_16 : decode cX11_doDrop 16 = .ok (.aload_n 0, 1) := by decide +kernel
theorem dX11_doDrop_17 : decode cX11_doDrop 17 = .ok (.getfield 31, 3) := by decide +kernel
theorem dX11_doDrop_20 : decode cX11_doDrop 20 = .ok (.iconst 1, 1) := by decide +kernel
theorem dX11_doDrop_21 : decode cX11_doDrop 21 = .ok (.dup2, 1) := by decide +kernel
theorem dX11_doDrop_22 : decode cX11_doDrop 22 = .ok (.iaload, 1) := by decide +kernel
theorem dX11_doDrop_23 : decode cX11_doDrop 23 = .ok (.iconst 1, 1) := by decide +kernel
theorem dX11_doDrop_24 : decode cX11_doDrop 24 = .ok (.isub, 1) := by decide +kernel
theorem dX11_doDrop_25 : decode cX11_doDrop 25 = .ok (.iastore, 1) := by decide +kernel
theorem dX11_doDrop_26 : decode cX11_doDrop 26 = .ok (.aload_n 0, 1) := by decide +kernel
theorem dX11_doDrop_27 : decode cX11_doDrop 27 = .ok (.aload_n 0, 1) := by decide +kernel
theorem dX11_doDrop_28 : decode cX11_doDrop 28 = .ok (.invokevirtual 89, 3) := by decide +kernel
theorem dX11_doDrop_31 : decode cX11_doDrop 31 = .ok (.invokevirtual 226, 3) := by decide +kernel
theorem dX11_doDrop_34 : decode cX11_doDrop 34 = .ok (.ireturn, 1) := by decide +kernel
theorem dX11_doTrim_0 : decode cX11_doTrim 0 = .ok (.aload_n 0, 1) := by decide +kernel
theorem dX11_doTrim_1 : decode cX11_doTrim 1 = .ok (.getfield 31, 3) := by decide +kernel
theorem dX11_doTrim_4 : decode cX11_doTrim 4 = .ok (.iconst 1, 1) := by decide +kernel
theorem dX11_doTrim_5 : decode cX11_doTrim 5 = .ok (.iaload, 1) := by decide +kernel
theorem dX11_doTrim_6 : decode cX11_doTrim 6 = .ok (.iconst 1, 1) := by decide +kernel
theorem dX11_doTrim_7 : decode cX11_doTrim 7 = .ok (.isub, 1) := by decide +kernel
theorem dX11_doTrim_8 : decode cX11_doTrim 8 = .ok (.istore_n 2, 1) := by decide +kernel
theorem dX11_doTrim_9 : decode cX11_doTrim 9 = .ok (.iload_n 2, 1) := by decide +kernel
theorem dX11_doTrim_10 : decode cX11_doTrim 10 = .ok (.ifCond .lt 15, 3) := by decide +kernel
theorem dX11_doTrim_13 : decode cX11_doTrim 13 = .ok (.aload_n 0, 1) := by decide +kernel
theorem dX11_doTrim_14 : decode cX11_doTrim 14 = .ok (.getfield 31, 3) := by decide +kernel
theorem dX11_doTrim_17 : decode cX11_doTrim 17 = .ok (.iconst 2, 1) := by decide +kernel
theorem dX11_doTrim_18 : decode cX11_doTrim 18 = .ok (.iload_n 2, 1) := by decide +kernel
theorem dX11_doTrim_19 : decode cX11_doTrim 19 = .ok (.iadd, 1) := by decide +kernel
theorem dX11_doTrim_20 : decode cX11_doTrim 20 = .ok (.iaload, 1) := by decide +kernel
theorem dX11_doTrim_21 : decode cX11_doTrim 21 = .ok (.iload_n 1, 1) := by decide +kernel
theorem dX11_doTrim_22 : decode cX11_doTrim 22 = .ok (.if_icmp .gt 19, 3) := by decide +kernel
theorem dX11_doTrim_25 : decode cX11_doTrim 25 = .ok (.aload_n 0, 1) := by decide +kernel
theorem dX11_doTrim_26 : decode cX11_doTrim 26 = .ok (.iload_n 2, 1) := by decide +kernel
theorem dX11_doTrim_27 : decode cX11_doTrim 27 = .ok (.ifCond .ge 8, 3) := by decide +kernel
theorem dX11_doTrim_30 : decode cX11_doTrim 30 = .ok (.bipush (-2), 2) := by decide +kernel
theorem dX11_doTrim_32 : decode cX11_doTrim 32 = .ok (.goto 5, 3) := by decide +kernel
theorem dX11_doTrim_35 : decode cX11_doTrim 35 = .ok (.bipush (-3), 2) := by decide +kernel
theorem dX11_doTrim_37 : decode cX11_doTrim 37 = .ok (.invokevirtual 226, 3) := by decide +kernel
theorem dX11_doTrim_40 : decode cX11_doTrim 40 = .ok (.ireturn, 1) := by decide +kernel
theorem dX11_doTrim_41 : decode cX11_doTrim 41 = .ok (.aload_n 0, 1) := by decide +kernel
theorem dX11_doTrim_42 : decode cX11_doTrim 42 = .ok (.getfield 31, 3) := by decide +kernel
theorem dX11_doTrim_45 : decode cX11_doTrim 45 = .ok (.iconst 2, 1) := by decide +kernel
theorem dX11_doTrim_46 : decode cX11_doTrim 46 = .ok (.iload_n 2, 1) := by decide +kernel
theorem dX11_doTrim_47 : decode cX11_doTrim 47 = .ok (.iadd, 1) := by decide +kernel
theorem dX11_doTrim_48 : decode cX11_doTrim 48 = .ok (.iload_n 1, 1) := by decide +kernel
theorem dX11_doTrim_49 : decode cX11_doTrim 49 = .ok (.iastore, 1) := by decide +kernel
theorem dX11_doTrim_50 : decode cX11_doTrim 50 = .ok (.aload_n 0, 1) := by decide +kernel
theorem dX11_doTrim_51 : decode cX11_doTrim 51 = .ok (.aload_n 0, 1) := by decide +kernel
theorem dX11_doTrim_52 : decode cX11_doTrim 52 = .ok (.invokevirtual 89, 3) := by decide +kernel
theorem dX11_doTrim_55 : decode cX11_doTrim 55 = .ok (.invokevirtual 226, 3) := by decide +kernel
theorem dX11_doTrim_58 : decode cX11_doTrim 58 = .ok (.ireturn, 1) := by decide +kernel
theorem dX11_doSwap_0 : decode cX11_doSwap 0 = .ok (.aload_n 0, 1) := by decide +kernel
theorem dX11_doSwap_1 : decode cX11_doSwap 1 = .ok (.iload_n 1, 1) := by decide +kernel
theorem dX11_doSwap_2 : decode cX11_doSwap 2 = .ok (.invokevirtual 110, 3) := by decide +kernel
theorem dX11_doSwap_5 : decode cX11_doSwap 5 = .ok (.istore_n 3, 1) := by decide +kernel
theorem dX11_doSwap_6 : decode cX11_doSwap 6 = .ok (.aload_n 0, 1) := by decide +kernel
theorem dX11_doSwap_7 : decode cX11_doSwap 7 = .ok (.iload_n 2, 1) := by decide +kernel
theorem dX11_doSwap_8 : decode cX11_doSwap 8 = .ok (.invokevirtual 110, 3) := by decide +kernel
theorem dX11_doSwap_11 : decode cX11_doSwap 11 = .ok (.istore 4, 2) := by decide +kernel
theorem dX11_doSwap_13 : decode cX11_doSwap 13 = .ok (.iload_n 3, 1) := by decide +kernel
theorem dX11_doSwap_14 : decode cX11_doSwap 14 = .ok (.iconst (-1), 1) := by decide +kernel
theorem dX11_doSwap_15 : decode cX11_doSwap 15 = .ok (.if_icmp .eq 9, 3) := by decide +kernel
theorem dX11_doSwap_18 : decode cX11_doSwap 18 = .ok (.iload 4, 2) := by decide +kernel
theorem dX11_doSwap_20 : decode cX11_doSwap 20 = .ok (.iconst (-1), 1) := by decide +kernel
theorem dX11_doSwap_21 : decode cX11_doSwap 21 = .ok (.if_icmp .ne 10, 3) := by decide +kernel
theorem dX11_doSwap_24 : decode cX11_doSwap 24 = .ok (.aload_n 0, 1) := by decide +kernel
theorem dX11_doSwap_25 : decode cX11_doSwap 25 = .ok (.bipush (-2), 2) := by decide +kernel
theorem dX11_doSwap_27 : decode cX11_doSwap 27 = .ok (.invokevirtual 226, 3) := by decide +kernel
theorem dX11_doSwap_30 : decode cX11_doSwap 30 = .ok (.ireturn, 1) := by decide +kernel
theorem dX11_doSwap_31 : decode cX11_doSwap 31 = .ok (.aload_n 0, 1) := by decide +kernel
theorem dX11_doSwap_32 : decode cX11_doSwap 32 = .ok (.invokevirtual 129, 3) := by decide +kernel
theorem dX11_doSwap_35 : decode cX11_doSwap 35 = .ok (.iconst 2, 1) := by decide +kernel
theorem dX11_doSwap_36 : decode cX11_doSwap 36 = .ok (.istore 5, 2) := by decide +kernel
theorem dX11_doSwap_38 : decode cX11_doSwap 38 = .ok (.iload 5, 2) := by decide +kernel
theorem dX11_doSwap_40 : decode cX11_doSwap 40 = .ok (.aload_n 0, 1) := by decide +kernel
theorem dX11_doSwap_41 : decode cX11_doSwap 41 = .ok (.getfield 100, 3) := by decide +kernel
theorem dX11_doSwap_44 : decode cX11_doSwap 44 = .ok (.if_icmp .gt 46, 3) := by decide +kernel
theorem dX11_doSwap_47 : decode cX11_doSwap 47 = .ok (.aload_n 0, 1) := by decide +kernel
theorem dX11_doSwap_48 : decode cX11_doSwap 48 = .ok (.getfield 40, 3) := by decide +kernel
theorem dX11_doSwap_51 : decode cX11_doSwap 51 = .ok (.iload 5, 2) := by decide +kernel
theorem dX11_doSwap_53 : decode cX11_doSwap 53 = .ok (.aload_n 0, 1) := by decide +kernel
theorem dX11_doSwap_54 : decode cX11_doSwap 54 = .ok (.getfield 34, 3) := by decide +kernel
theorem dX11_doSwap_57 : decode cX11_doSwap 57 = .ok (.iload 5, 2) := by decide +kernel
theorem dX11_doSwap_59 : decode cX11_doSwap 59 = .ok (.iaload, 1) := by decide +kernel
theorem dX11_doSwap_60 : decode cX11_doSwap 60 = .ok (.iconst (-1), 1) := by decide +kernel
theorem dX11_doSwap_61 : decode cX11_doSwap 61 = .ok (.if_icmp .ne 7, 3) := by decide +kernel
theorem dX11_doSwap_64 : decode cX11_doSwap 64 = .ok (.iconst (-1), 1) := by decide +kernel
theorem dX11_doSwap_65 : decode cX11_doSwap 65 = .ok (.goto 18, 3) := by decide +kernel
theorem dX11_doSwap_68 : decode cX11_doSwap 68 = .ok (.aload_n 0, 1) := by decide +kernel
theorem dX11_doSwap_69 : decode cX11_doSwap 69 = .ok (.getfield 31, 3) := by decide +kernel
theorem dX11_doSwap_72 : decode cX11_doSwap 72 = .ok (.bipush 15, 2) := by decide +kernel
theorem dX11_doSwap_74 : decode cX11_doSwap 74 = .ok (.aload_n 0, 1) := by decide +kernel
theorem dX11_doSwap_75 : decode cX11_doSwap 75 = .ok (.getfield 34, 3) := by decide +kernel
theorem dX11_doSwap_78 : decode cX11_doSwap 78 = .ok (.iload 5, 2) := by decide +kernel
theorem dX11_doSwap_80 : decode cX11_doSwap 80 = .ok (.iaload, 1) := by decide +kernel
theorem dX11_doSwap_81 : decode cX11_doSwap 81 = .ok (.iadd, 1) := by decide +kernel
theorem dX11_doSwap_82 : decode cX11_doSwap 82 = .ok (.iaload, 1) := by decide +kernel
theorem dX11_doSwap_83 : decode cX11_doSwap 83 = .ok (.iastore, 1) := by decide +kernel
theorem dX11_doSwap_84 : decode cX11_doSwap 84 = .ok (.iinc 5 1, 3) := by decide +kernel
theorem dX11_doSwap_87 : decode cX11_doSwap 87 = .ok (.goto (-49), 3) := by decide +kernel
theorem dX11_doSwap_90 : decode cX11_doSwap 90 = .ok (.aload_n 0, 1) := by decide +kernel
theorem dX11_doSwap_91 : decode cX11_doSwap 91 = .ok (.getfield 31, 3) := by decide +kernel
theorem dX11_doSwap_94 : decode cX11_doSwap 94 = .ok (.bipush 15, 2) := by decide +kernel
theorem dX11_doSwap_96 : decode cX11_doSwap 96 = .ok (.iload_n 3, 1) := by decide +kernel
theorem dX11_doSwap_97 : decode cX11_doSwap 97 = .ok (.iadd, 1) := by decide +kernel
theorem dX11_doSwap_98 : decode cX11_doSwap 98 = .ok (.iload_n 2, 1) := by decide +kernel
theorem dX11_doSwap_99 : decode cX11_doSwap 99 = .ok (.iastore, 1) := by decide +kernel
theorem dX11_doSwap_100 : decode cX11_doSwap 100 = .ok (.aload_n 0, 1) := by decide +kernel
theorem dX11_doSwap_101 : decode cX11_doSwap 101 = .ok (.getfield 31, 3) := by decide +kernel
theorem dX11_doSwap_104 : decode cX11_doSwap 104 = .ok (.bipush 15, 2) := by decide +kernel
theorem dX11_doSwap_106 : decode cX11_doSwap 106 = .ok (.iload 4, 2) := by decide +kernel
theorem dX11_doSwap_108 : decode cX11_doSwap 108 = .ok (.iadd, 1) := by decide +kernel
theorem dX11_doSwap_109 : decode cX11_doSwap 109 = .ok (.iload_n 1, 1) := by decide +kernel
theorem dX11_doSwap_110 : decode cX11_doSwap 110 = .ok (.iastore, 1) := by decide +kernel
theorem dX11_doSwap_111 : decode cX11_doSwap 111 = .ok (.aload_n 0, 1) := by decide +kernel
theorem dX11_doSwap_112 : decode cX11_doSwap 112 = .ok (.invokevirtual 129, 3) := by decide +kernel
theorem dX11_doSwap_115 : decode cX11_doSwap 115 = .ok (.iconst 0, 1) := by decide +kernel
theorem dX11_doSwap_116 : decode cX11_doSwap 116 = .ok (.istore 5, 2) := by decide +kernel
theorem dX11_doSwap_118 : decode cX11_doSwap 118 = .ok (.iconst 2, 1) := by decide +kernel
theorem dX11_doSwap_119 : decode cX11_doSwap 119 = .ok (.istore 6, 2) := by decide +kernel
theorem dX11_doSwap_121 : decode cX11_doSwap 121 = .ok (.iload 6, 2) := by decide +kernel
theorem dX11_doSwap_123 : decode cX11_doSwap 123 = .ok (.aload_n 0, 1) := by decide +kernel
theorem dX11_doSwap_124 : decode cX11_doSwap 124 = .ok (.getfield 100, 3) := by decide +kernel
theorem dX11_doSwap_127 : decode cX11_doSwap 127 = .ok (.if_icmp .gt 55, 3) := by decide +kernel
theorem dX11_doSwap_130 : decode cX11_doSwap 130 = .ok (.iload 5, 2) := by decide +kernel
theorem dX11_doSwap_132 : decode cX11_doSwap 132 = .ok (.aload_n 0, 1) := by decide +kernel
theorem dX11_doSwap_133 : decode cX11_doSwap 133 = .ok (.getfield 34, 3) := by decide +kernel
theorem dX11_doSwap_136 : decode cX11_doSwap 136 = .ok (.iload 6, 2) := by decide +kernel
theorem dX11_doSwap_138 : decode cX11_doSwap 138 = .ok (.iaload, 1) := by decide +kernel
theorem dX11_doSwap_139 : decode cX11_doSwap 139 = .ok (.iconst (-1), 1) := by decide +kernel
theorem dX11_doSwap_140 : decode cX11_doSwap 140 = .ok (.if_icmp .eq 32, 3) := by decide +kernel
theorem dX11_doSwap_143 : decode cX11_doSwap 143 = .ok (.aload_n 0, 1) := by decide +kernel
theorem dX11_doSwap_144 : decode cX11_doSwap 144 = .ok (.getfield 31, 3) := by decide +kernel
theorem dX11_doSwap_147 : decode cX11_doSwap 147 = .ok (.bipush 15, 2) := by decide +kernel
theorem dX11_doSwap_149 : decode cX11_doSwap 149 = .ok (.aload_n 0, 1) := by decide +kernel
theorem dX11_doSwap_150 : decode cX11_doSwap 150 = .ok (.getfield 34, 3) := by decide +kernel
theorem dX11_doSwap_153 : decode cX11_doSwap 153 = .ok (.iload 6, 2) := by decide +kernel
theorem dX11_doSwap_155 : decode cX11_doSwap 155 = .ok (.iaload, 1) := by decide +kernel
theorem dX11_doSwap_156 : decode cX11_doSwap 156 = .ok (.iadd, 1) := by decide +kernel
theorem dX11_doSwap_157 : decode cX11_doSwap 157 = .ok (.iaload, 1) := by decide +kernel
theorem dX11_doSwap_158 : decode cX11_doSwap 158 = .ok (.aload_n 0, 1) := by decide +kernel
theorem dX11_doSwap_159 : decode cX11_doSwap 159 = .ok (.getfield 40, 3) := by decide +kernel
theorem dX11_doSwap_162 : decode cX11_doSwap 162 = .ok (.iload 6, 2) := by decide +kernel
theorem dX11_doSwap_164 : decode cX11_doSwap 164 = .ok (.iaload, 1) := by decide +kernel
theorem dX11_doSwap_165 : decode cX11_doSwap 165 = .ok (.if_icmp .eq 7, 3) := by decide +kernel
theorem dX11_doSwap_168 : decode cX11_doSwap 168 = .ok (.iconst 1, 1) := by decide +kernel
theorem dX11_doSwap_169 : decode cX11_doSwap 169 = .ok (.goto 4, 3) := by decide +kernel
theorem dX11_doSwap_172 : decode cX11_doSwap 172 = .ok (.iconst 0, 1) := by decide +kernel
theorem dX11_doSwap_173 : decode cX11_doSwap 173 = .ok (.iadd, 1) := by decide +kernel
theorem dX11_doSwap_174 : decode cX11_doSwap 174 = .ok (.istore 5, 2) := by decide +kernel
theorem dX11_doSwap_176 : decode cX11_doSwap 176 = .ok (.iinc 6 1, 3) := by decide +kernel
theorem dX11_doSwap_179 : decode cX11_doSwap 179 = .ok (.goto (-58), 3) := by decide +kernel
theorem dX11_doSwap_182 : decode cX11_doSwap 182 = .ok (.aload_n 0, 1) := by decide +kernel
theorem dX11_doSwap_183 : decode cX11_doSwap 183 = .ok (.iload 5, 2) := by decide +kernel
theorem dX11_doSwap_185 : decode cX11_doSwap 185 = .ok (.invokevirtual 226, 3) := by decide +kernel
theorem dX11_doSwap_188 : decode cX11_doSwap 188 = .ok (.ireturn, 1) := by decide +kernel
theorem dX11_newStriker_0 : decode cX11_newStriker 0 = .ok (.aload_n 0, 1) := by decide +kernel
theorem dX11_newStriker_1 : decode cX11_newStriker 1 = .ok (.getfield 31, 3) := by decide +kernel
theorem dX11_newStriker_4 : decode cX11_newStriker 4 = .ok (.bipush 15, 2) := by decide +kernel
theorem dX11_newStriker_6 : decode cX11_newStriker 6 = .ok (.aload_n 0, 1) := by decide +kernel
theorem dX11_newStriker_7 : decode cX11_newStriker 7 = .ok (.getfield 31, 3) := by decide +kernel
theorem dX11_newStriker_10 : decode cX11_newStriker 10 = .ok (.bipush 14, 2) := by decide +kernel
theorem dX11_newStriker_12 : decode cX11_newStriker 12 = .ok (.iaload, 1) := by decide +kernel
theorem dX11_newStriker_13 : decode cX11_newStriker 13 = .ok (.iadd, 1) := by decide +kernel
theorem dX11_newStriker_14 : decode cX11_newStriker 14 = .ok (.iload_n 1, 1) := by decide +kernel
theorem dX11_newStriker_15 : decode cX11_newStriker 15 = .ok (.iastore, 1) := by decide +kernel
theorem dX11_newStriker_16 : decode cX11_newStriker 16 = .ok (.aload_n 0, 1) := by decide +kernel
theorem dX11_newStriker_17 : decode cX11_newStriker 17 = .ok (.getfield 31, 3) := by decide +kernel
theorem dX11_newStriker_20 : decode cX11_newStriker 20 = .ok (.bipush 14, 2) := by decide +kernel
theorem dX11_newStriker_22 : decode cX11_newStriker 22 = .ok (.dup2, 1) := by decide +kernel
theorem dX11_newStriker_23 : decode cX11_newStriker 23 = .ok (.iaload, 1) := by decide +kernel
theorem dX11_newStriker_24 : decode cX11_newStriker 24 = .ok (.iconst 1, 1) := by decide +kernel
theorem dX11_newStriker_25 : decode cX11_newStriker 25 = .ok (.iadd, 1) := by decide +kernel
theorem dX11_newStriker_26 : decode cX11_newStriker 26 = .ok (.iastore, 1) := by decide +kernel
theorem dX11_newStriker_27 : decode cX11_newStriker 27 = .ok (.return_, 1) := by decide +kernel
theorem dX11_doAdd_0 : decode cX11_doAdd 0 = .ok (.aload_n 0, 1) := by decide +kernel
theorem dX11_doAdd_1 : decode cX11_doAdd 1 = .ok (.iload_n 1, 1) := by decide +kernel
theorem dX11_doAdd_2 : decode cX11_doAdd 2 = .ok (.invokevirtual 110, 3) := by decide +kernel
theorem dX11_doAdd_5 : decode cX11_doAdd 5 = .ok (.iconst (-1), 1) := by decide +kernel
theorem dX11_doAdd_6 : decode cX11_doAdd 6 = .ok (.if_icmp .ne 15, 3) := by decide +kernel
theorem dX11_doAdd_9 : decode cX11_doAdd 9 = .ok (.aload_n 0, 1) := by decide +kernel
theorem dX11_doAdd_10 : decode cX11_doAdd 10 = .ok (.getfield 31, 3) := by decide +kernel
theorem dX11_doAdd_13 : decode cX11_doAdd 13 = .ok (.bipush 14, 2) := by decide +kernel
theorem dX11_doAdd_15 : decode cX11_doAdd 15 = .ok (.iaload, 1) := by decide +kernel
theorem dX11_doAdd_16 : decode cX11_doAdd 16 = .ok (.bipush 30, 2) := by decide +kernel
theorem dX11_doAdd_18 : decode cX11_doAdd 18 = .ok (.if_icmp .ne 24, 3) := by decide +kernel
theorem dX11_doAdd_21 : decode cX11_doAdd 21 = .ok (.aload_n 0, 1) := by decide +kernel
theorem dX11_doAdd_22 : decode cX11_doAdd 22 = .ok (.aload_n 0, 1) := by decide +kernel
theorem dX11_doAdd_23 : decode cX11_doAdd 23 = .ok (.iload_n 1, 1) := by decide +kernel
theorem dX11_doAdd_24 : decode cX11_doAdd 24 = .ok (.invokevirtual 110, 3) := by decide +kernel
theorem dX11_doAdd_27 : decode cX11_doAdd 27 = .ok (.iconst (-1), 1) := by decide +kernel
theorem dX11_doAdd_28 : decode cX11_doAdd 28 = .ok (.if_icmp .eq 8, 3) := by decide +kernel
theorem dX11_doAdd_31 : decode cX11_doAdd 31 = .ok (.bipush (-2), 2) := by decide +kernel
theorem dX11_doAdd_33 : decode cX11_doAdd 33 = .ok (.goto 5, 3) := by decide +kernel
theorem dX11_doAdd_36 : decode cX11_doAdd 36 = .ok (.bipush (-3), 2) := by decide +kernel
theorem dX11_doAdd_38 : decode cX11_doAdd 38 = .ok (.invokevirtual 226, 3) := by decide +kernel
theorem dX11_doAdd_41 : decode cX11_doAdd 41 = .ok (.ireturn, 1) := by decide +kernel
theorem dX11_doAdd_42 : decode cX11_doAdd 42 = .ok (.aload_n 0, 1) := by decide +kernel
theorem dX11_doAdd_43 : decode cX11_doAdd 43 = .ok (.iload_n 1, 1) := by decide +kernel
theorem dX11_doAdd_44 : decode cX11_doAdd 44 = .ok (.invokevirtual 229, 3) := by decide +kernel
theorem dX11_doAdd_47 : decode cX11_doAdd 47 = .ok (.aload_n 0, 1) := by decide +kernel
theorem dX11_doAdd_48 : decode cX11_doAdd 48 = .ok (.getfield 25, 3) := by decide +kernel
theorem dX11_doAdd_51 : decode cX11_doAdd 51 = .ok (.iconst 4, 1) := by decide +kernel
theorem dX11_doAdd_52 : decode cX11_doAdd 52 = .ok (.dup2, 1) := by decide +kernel
theorem dX11_doAdd_53 : decode cX11_doAdd 53 = .ok (.iaload, 1) := by decide +kernel
theorem dX11_doAdd_54 : decode cX11_doAdd 54 = .ok (.iconst 1, 1) := by decide +kernel
theorem dX11_doAdd_55 : decode cX11_doAdd 55 = .ok (.iadd, 1) := by decide +kernel
theorem dX11_doAdd_56 : decode cX11_doAdd 56 = .ok (.iastore, 1) := by decide +kernel
theorem dX11_doAdd_57 : decode cX11_doAdd 57 = .ok (.aload_n 0, 1) := by decide +kernel
theorem dX11_doAdd_58 : decode cX11_doAdd 58 = .ok (.invokevirtual 129, 3) := by decide +kernel
theorem dX11_doAdd_61 : decode cX11_doAdd 61 = .ok (.aload_n 0, 1) := by decide +kernel
theorem dX11_doAdd_62 : decode cX11_doAdd 62 = .ok (.aload_n 0, 1) := by decide +kernel
theorem dX11_doAdd_63 : decode cX11_doAdd 63 = .ok (.aload_n 0, 1) := by decide +kernel
theorem dX11_doAdd_64 : decode cX11_doAdd 64 = .ok (.getfield 31, 3) := by decide +kernel
theorem dX11_doAdd_67 : decode cX11_doAdd 67 = .ok (.bipush 14, 2) := by decide +kernel
theorem dX11_doAdd_69 : decode cX11_doAdd 69 = .ok (.iaload, 1) := by decide +kernel
theorem dX11_doAdd_70 : decode cX11_doAdd 70 = .ok (.iconst 1, 1) := by decide +kernel
theorem dX11_doAdd_71 : decode cX11_doAdd 71 = .ok (.isub, 1) := by decide +kernel
theorem dX11_doAdd_72 : decode cX11_doAdd 72 = .ok (.invokevirtual 122, 3) := by decide +kernel
theorem dX11_doAdd_75 : decode cX11_doAdd 75 = .ok (.invokevirtual 226, 3) := by decide +kernel
theorem dX11_doAdd_78 : decode cX11_doAdd 78 = .ok (.ireturn, 1) := by decide +kernel
theorem dX11_removeStriker_0 : decode cX11_removeStriker 0 = .ok (.aload_n 0, 1) := by decide +kernel
theorem dX11_removeStriker_1 : decode cX11_removeStriker 1 = .ok (.getfield 31, 3) := by decide +kernel
theorem dX11_removeStriker_4 : decode cX11_removeStriker 4 = .ok (.bipush 14, 2) := by decide +kernel
theorem dX11_removeStriker_6 : decode cX11_removeStriker 6 = .ok (.dup2, 1) := by decide +kernel
theorem dX11_removeStriker_7 : decode cX11_removeStriker 7 = .ok (.iaload, 1) := by decide +kernel
theorem dX11_removeStriker_8 : decode cX11_removeStriker 8 = .ok (.iconst 1, 1) := by decide +kernel
theorem dX11_removeStriker_9 : decode cX11_removeStriker 9 = .ok (.isub, 1) := by decide +kernel
theorem dX11_removeStriker_10 : decode cX11_removeStriker 10 = .ok (.iastore, 1) := by decide +kernel
theorem dX11_removeStriker_11 : decode cX11_removeStriker 11 = .ok (.iload_n 1, 1) := by decide +kernel
theorem dX11_removeStriker_12 : decode cX11_removeStriker 12 = .ok (.istore_n 2, 1) := by decide +kernel
theorem dX11_removeStriker_13 : decode cX11_removeStriker 13 = .ok (.iload_n 2, 1) := by decide +kernel
theorem dX11_removeStriker_14 : decode cX11_removeStriker 14 = .ok (.aload_n 0, 1) := by decide +kernel
theorem dX11_removeStriker_15 : decode cX11_removeStriker 15 = .ok (.getfield 31, 3) := by decide +kernel
theorem dX11_removeStriker_18 : decode cX11_removeStriker 18 = .ok (.bipush 14, 2) := by decide +kernel
theorem dX11_removeStriker_20 : decode cX11_removeStriker 20 = .ok (.iaload, 1) := by decide +kernel
theorem dX11_removeStriker_21 : decode cX11_removeStriker 21 = .ok (.if_icmp .ge 29, 3) := by decide +kernel
theorem dX11_removeStriker_24 : decode cX11_removeStriker 24 = .ok (.aload_n 0, 1) := by decide +kernel
theorem dX11_removeStriker_25 : decode cX11_removeStriker 25 = .ok (.getfield 31, 3) := by decide +kernel
theorem dX11_removeStriker_28 : decode cX11_removeStriker 28 = .ok (.bipush 15, 2) := by decide +kernel
theorem dX11_removeStriker_30 : decode cX11_removeStriker 30 = .ok (.iload_n 2, 1) := by decide +kernel
theorem dX11_removeStriker_31 : decode cX11_removeStriker 31 = .ok (.iadd, 1) := by decide +kernel
theorem dX11_removeStriker_32 : decode cX11_removeStriker 32 = .ok (.aload_n 0, 1) := by decide +kernel
theorem dX11_removeStriker_33 : decode cX11_removeStriker 33 = .ok (.getfield 31, 3) := by decide +kernel
theorem dX11_removeStriker_36 : decode cX11_removeStriker 36 = .ok (.bipush 15, 2) := by decide +kernel
theorem dX11_removeStriker_38 : decode cX11_removeStriker 38 = .ok (.iload_n 2, 1) := by decide +kernel
theorem dX11_removeStriker_39 : decode cX11_removeStriker 39 = .ok (.iadd, 1) := by decide +kernel
theorem dX11_removeStriker_40 : decode cX11_removeStriker 40 = .ok (.iconst 1, 1) := by decide +kernel
theorem dX11_removeStriker_41 : decode cX11_removeStriker 41 = .ok (.iadd, 1) := by decide +kernel
theorem dX11_removeStriker_42 : decode cX11_removeStriker 42 = .ok (.iaload, 1) := by decide +kernel
theorem dX11_removeStriker_43 : decode cX11_removeStriker 43 = .ok (.iastore, 1) := by decide +kernel
theorem dX11_removeStriker_44 : decode cX11_removeStriker 44 = .ok (.iinc 2 1, 3) := by decide +kernel
theorem dX11_removeStriker_47 : decode cX11_removeStriker 47 = .ok (.goto (-34), 3) := by decide +kernel
theorem dX11_removeStriker_50 : decode cX11_removeStriker 50 = .ok (.return_, 1) := by decide +kernel
theorem dX11_doLift_0 : decode cX11_doLift 0 = .ok (.aload_n 0, 1) := by decide +kernel
theorem dX11_doLift_1 : decode cX11_doLift 1 = .ok (.iload_n 1, 1) := by decide +kernel
theorem dX11_doLift_2 : decode cX11_doLift 2 = .ok (.invokevirtual 110, 3) := by decide +kernel
theorem dX11_doLift_5 : decode cX11_doLift 5 = .ok (.istore_n 2, 1) := by decide +kernel
theorem dX11_doLift_6 : decode cX11_doLift 6 = .ok (.iload_n 2, 1) := by decide +kernel
theorem dX11_doLift_7 : decode cX11_doLift 7 = .ok (.iconst (-1), 1) := by decide +kernel
theorem dX11_doLift_8 : decode cX11_doLift 8 = .ok (.if_icmp .ne 10, 3) := by decide +kernel
theorem dX11_doLift_11 : decode cX11_doLift 11 = .ok (.aload_n 0, 1) := by decide +kernel
theorem dX11_doLift_12 : decode cX11_doLift 12 = .ok (.bipush (-2), 2) := by decide +kernel
theorem dX11_doLift_14 : decode cX11_doLift 14 = .ok (.invokevirtual 226, 3) := by decide +kernel
theorem dX11_doLift_17 : decode cX11_doLift 17 = .ok (.ireturn, 1) := by decide +kernel
theorem dX11_doLift_18 : decode cX11_doLift 18 = .ok (.aload_n 0, 1) := by decide +kernel
theorem dX11_doLift_19 : decode cX11_doLift 19 = .ok (.invokevirtual 129, 3) := by decide +kernel
theorem dX11_doLift_22 : decode cX11_doLift 22 = .ok (.aload_n 0, 1) := by decide +kernel
theorem dX11_doLift_23 : decode cX11_doLift 23 = .ok (.iload_n 2, 1) := by decide +kernel
theorem dX11_doLift_24 : decode cX11_doLift 24 = .ok (.invokevirtual 214, 3) := by decide +kernel
theorem dX11_doLift_27 : decode cX11_doLift 27 = .ok (.istore_n 3, 1) := by decide +kernel
theorem dX11_doLift_28 : decode cX11_doLift 28 = .ok (.aload_n 0, 1) := by decide +kernel
theorem dX11_doLift_29 : decode cX11_doLift 29 = .ok (.iload_n 2, 1) := by decide +kernel
theorem dX11_doLift_30 : decode cX11_doLift 30 = .ok (.invokevirtual 232, 3) := by decide +kernel
theorem dX11_doLift_33 : decode cX11_doLift 33 = .ok (.aload_n 0, 1) := by decide +kernel
theorem dX11_doLift_34 : decode cX11_doLift 34 = .ok (.iload_n 3, 1) := by decide +kernel
theorem dX11_doLift_35 : decode cX11_doLift 35 = .ok (.invokevirtual 226, 3) := by decide +kernel
theorem dX11_doLift_38 : decode cX11_doLift 38 = .ok (.ireturn, 1) := by decide +kernel
theorem dX11_doFirst_0 : decode cX11_doFirst 0 = .ok (.aload_n 0, 1) := by decide +kernel
theorem dX11_doFirst_1 : decode cX11_doFirst 1 = .ok (.iload_n 1, 1) := by decide +kernel
theorem dX11_doFirst_2 : decode cX11_doFirst 2 = .ok (.invokevirtual 110, 3) := by decide +kernel
theorem dX11_doFirst_5 : decode cX11_doFirst 5 = .ok (.istore_n 2, 1) := by decide +kernel
theorem dX11_doFirst_6 : decode cX11_doFirst 6 = .ok (.iload_n 2, 1) := by decide +kernel
theorem dX11_doFirst_7 : decode cX11_doFirst 7 = .ok (.iconst (-1), 1) := by decide +kernel
theorem dX11_doFirst_8 : decode cX11_doFirst 8 = .ok (.if_icmp .ne 10, 3) := by decide +kernel
theorem dX11_doFirst_11 : decode cX11_doFirst 11 = .ok (.aload_n 0, 1) := by decide +kernel
theorem dX11_doFirst_12 : decode cX11_doFirst 12 = .ok (.bipush (-2), 2) := by decide +kernel
theorem dX11_doFirst_14 : decode cX11_doFirst 14 = .ok (.invokevirtual 226, 3) := by decide +kernel
theorem dX11_doFirst_17 : decode cX11_doFirst 17 = .ok (.ireturn, 1) := by decide +kernel
theorem dX11_doFirst_18 : decode cX11_doFirst 18 = .ok (.iload_n 2, 1) := by decide +kernel
theorem dX11_doFirst_19 : decode cX11_doFirst 19 = .ok (.istore_n 3, 1) := by decide +kernel
theorem dX11_doFirst_20 : decode cX11_doFirst 20 = .ok (.iload_n 3, 1) := by decide +kernel
theorem dX11_doFirst_21 : decode cX11_doFirst 21 = .ok (.ifCond .le 29, 3) := by decide +kernel
theorem dX11_doFirst_24 : decode cX11_doFirst 24 = .ok (.aload_n 0, 1) := by decide +kernel
theorem dX11_doFirst_25 : decode cX11_doFirst 25 = .ok (.getfield 31, 3) := by decide +kernel
theorem dX11_doFirst_28 : decode cX11_doFirst 28 = .ok (.bipush 15, 2) := by decide +kernel
theorem dX11_doFirst_30 : decode cX11_doFirst 30 = .ok (.iload_n 3, 1) := by decide +kernel
theorem dX11_doFirst_31 : decode cX11_doFirst 31 = .ok (.iadd, 1) := by decide +kernel
theorem dX11_doFirst_32 : decode cX11_doFirst 32 = .ok (.aload_n 0, 1) := by decide +kernel
theorem dX11_doFirst_33 : decode cX11_doFirst 33 = .ok (.getfield 31, 3) := by decide +kernel
theorem dX11_doFirst_36 : decode cX11_doFirst 36 = .ok (.bipush 15, 2) := by decide +kernel
theorem dX11_doFirst_38 : decode cX11_doFirst 38 = .ok (.iload_n 3, 1) := by decide +kernel
theorem dX11_doFirst_39 : decode cX11_doFirst 39 = .ok (.iadd, 1) := by decide +kernel
theorem dX11_doFirst_40 : decode cX11_doFirst 40 = .ok (.iconst 1, 1) := by decide +kernel
theorem dX11_doFirst_41 : decode cX11_doFirst 41 = .ok (.isub, 1) := by decide +kernel
theorem dX11_doFirst_42 : decode cX11_doFirst 42 = .ok (.iaload, 1) := by decide +kernel
theorem dX11_doFirst_43 : decode cX11_doFirst 43 = .ok (.iastore, 1) := by decide +kernel
theorem dX11_doFirst_44 : decode cX11_doFirst 44 = .ok (.iinc 3 (-1), 3) := by decide +kernel
theorem dX11_doFirst_47 : decode cX11_doFirst 47 = .ok (.goto (-27), 3) := by decide +kernel
theorem dX11_doFirst_50 : decode cX11_doFirst 50 = .ok (.aload_n 0, 1) := by decide +kernel
theorem dX11_doFirst_51 : decode cX11_doFirst 51 = .ok (.getfield 31, 3) := by decide +kernel
theorem dX11_doFirst_54 : decode cX11_doFirst 54 = .ok (.bipush 15, 2) := by decide +kernel
theorem dX11_doFirst_56 : decode cX11_doFirst 56 = .ok (.iload_n 1, 1) := by decide +kernel
theorem dX11_doFirst_57 : decode cX11_doFirst 57 = .ok (.iastore, 1) := by decide +kernel
theorem dX11_doFirst_58 : decode cX11_doFirst 58 = .ok (.aload_n 0, 1) := by decide +kernel
theorem dX11_doFirst_59 : decode cX11_doFirst 59 = .ok (.iload_n 2, 1) := by decide +kernel
theorem dX11_doFirst_60 : decode cX11_doFirst 60 = .ok (.invokevirtual 226, 3) := by decide +kernel
theorem dX11_doFirst_63 : decode cX11_doFirst 63 = .ok (.ireturn, 1) := by decide +kernel
theorem dX11_doWheel_0 : decode cX11_doWheel 0 = .ok (.aload_n 0, 1) := by decide +kernel
theorem dX11_doWheel_1 : decode cX11_doWheel 1 = .ok (.getfield 31, 3) := by decide +kernel
theorem dX11_doWheel_4 : decode cX11_doWheel 4 = .ok (.iconst 0, 1) := by decide +kernel
theorem dX11_doWheel_5 : decode cX11_doWheel 5 = .ok (.iaload, 1) := by decide +kernel
theorem dX11_doWheel_6 : decode cX11_doWheel 6 = .ok (.istore_n 2, 1) := by decide +kernel
theorem dX11_doWheel_7 : decode cX11_doWheel 7 = .ok (.aload_n 0, 1) := by decide +kernel
theorem dX11_doWheel_8 : decode cX11_doWheel 8 = .ok (.getfield 31, 3) := by decide +kernel
theorem dX11_doWheel_11 : decode cX11_doWheel 11 = .ok (.iconst 0, 1) := by decide +kernel
theorem dX11_doWheel_12 : decode cX11_doWheel 12 = .ok (.iload_n 1, 1) := by decide +kernel
theorem dX11_doWheel_13 : decode cX11_doWheel 13 = .ok (.iastore, 1) := by decide +kernel
theorem dX11_doWheel_14 : decode cX11_doWheel 14 = .ok (.aload_n 0, 1) := by decide +kernel
theorem dX11_doWheel_15 : decode cX11_doWheel 15 = .ok (.iload_n 2, 1) := by decide +kernel
theorem dX11_doWheel_16 : decode cX11_doWheel 16 = .ok (.invokevirtual 226, 3) := by decide +kernel
theorem dX11_doWheel_19 : decode cX11_doWheel 19 = .ok (.ireturn, 1) := by decide +kernel
theorem dX11_doFill_0 : decode cX11_doFill 0 = .ok (.iconst 0, 1) := by decide +kernel
theorem dX11_doFill_1 : decode cX11_doFill 1 = .ok (.istore_n 2, 1) := by decide +kernel
theorem dX11_doFill_2 : decode cX11_doFill 2 = .ok (.aload_n 0, 1) := by decide +kernel
theorem dX11_doFill_3 : decode cX11_doFill 3 = .ok (.invokevirtual 129, 3) := by decide +kernel
theorem dX11_doFill_6 : decode cX11_doFill 6 = .ok (.aload_n 0, 1) := by decide +kernel
theorem dX11_doFill_7 : decode cX11_doFill 7 = .ok (.iconst 2, 1) := by decide +kernel
theorem dX11_doFill_8 : decode cX11_doFill 8 = .ok (.invokevirtual 119, 3) := by decide +kernel
theorem dX11_doFill_11 : decode cX11_doFill 11 = .ok (.istore_n 3, 1) := by decide +kernel
theorem dX11_doFill_12 : decode cX11_doFill 12 = .ok (.iload_n 2, 1) := by decide +kernel
theorem dX11_doFill_13 : decode cX11_doFill 13 = .ok (.iload_n 1, 1) := by decide +kernel
theorem dX11_doFill_14 : decode cX11_doFill 14 = .ok (.if_icmp .ge 51, 3) := by decide +kernel
theorem dX11_doFill_17 : decode cX11_doFill 17 = .ok (.iload_n 3, 1) := by decide +kernel
theorem dX11_doFill_18 : decode cX11_doFill 18 = .ok (.iconst (-1), 1) := by decide +kernel
theorem dX11_doFill_19 : decode cX11_doFill 19 = .ok (.if_icmp .eq 46, 3) := by decide +kernel
theorem dX11_doFill_22 : decode cX11_doFill 22 = .ok (.aload_n 0, 1) := by decide +kernel
theorem dX11_doFill_23 : decode cX11_doFill 23 = .ok (.getfield 31, 3) := by decide +kernel
theorem dX11_doFill_26 : decode cX11_doFill 26 = .ok (.bipush 14, 2) := by decide +kernel
theorem dX11_doFill_28 : decode cX11_doFill 28 = .ok (.iaload, 1) := by decide +kernel
theorem dX11_doFill_29 : decode cX11_doFill 29 = .ok (.bipush 30, 2) := by decide +kernel
theorem dX11_doFill_31 : decode cX11_doFill 31 = .ok (.if_icmp .ge 34, 3) := by decide +kernel
theorem dX11_doFill_34 : decode cX11_doFill 34 = .ok (.aload_n 0, 1) := by decide +kernel
theorem dX11_doFill_35 : decode cX11_doFill 35 = .ok (.iload_n 3, 1) := by decide +kernel
theorem dX11_doFill_36 : decode cX11_doFill 36 = .ok (.invokevirtual 229, 3) := by decide +kernel
theorem dX11_doFill_39 : decode cX11_doFill 39 = .ok (.aload_n 0, 1) := by decide +kernel
theorem dX11_doFill_40 : decode cX11_doFill 40 = .ok (.getfield 25, 3) := by decide +kernel
theorem dX11_doFill_43 : decode cX11_doFill 43 = .ok (.iconst 4, 1) := by decide +kernel
theorem dX11_doFill_44 : decode cX11_doFill 44 = .ok (.dup2, 1) := by decide +kernel
theorem dX11_doFill_45 : decode cX11_doFill 45 = .ok (.iaload, 1) := by decide +kernel
theorem dX11_doFill_46 : decode cX11_doFill 46 = .ok (.iconst 1, 1) := by decide +kernel
theorem dX11_doFill_47 : decode cX11_doFill 47 = .ok (.iadd, 1) := by decide +kernel
theorem dX11_doFill_48 : decode cX11_doFill 48 = .ok (.iastore, 1) := by decide +kernel
theorem dX11_doFill_49 : decode cX11_doFill 49 = .ok (.iinc 2 1, 3) := by decide +kernel
theorem dX11_doFill_52 : decode cX11_doFill 52 = .ok (.aload_n 0, 1) := by decide +kernel
theorem dX11_doFill_53 : decode cX11_doFill 53 = .ok (.invokevirtual 129, 3) := by decide +kernel
theorem dX11_doFill_56 : decode cX11_doFill 56 = .ok (.aload_n 0, 1) := by decide +kernel
theorem dX11_doFill_57 : decode cX11_doFill 57 = .ok (.iconst 2, 1) := by decide +kernel
theorem dX11_doFill_58 : decode cX11_doFill 58 = .ok (.invokevirtual 119, 3) := by decide +kernel
theorem dX11_doFill_61 : decode cX11_doFill 61 = .ok (.istore_n 3, 1) := by decide +kernel
theorem dX11_doFill_62 : decode cX11_doFill 62 = .ok (.goto (-50), 3) := by decide +kernel
theorem dX11_doFill_65 : decode cX11_doFill 65 = .ok (.aload_n 0, 1) := by decide +kernel
theorem dX11_doFill_66 : decode cX11_doFill 66 = .ok (.iload_n 2, 1) := by decide +kernel
theorem dX11_doFill_67 : decode cX11_doFill 67 = .ok (.invokevirtual 226, 3) := by decide +kernel
theorem dX11_doFill_70 : decode cX11_doFill 70 = .ok (.ireturn, 1) := by decide +kernel
theorem dX11_doTidy_0 : decode cX11_doTidy 0 = .ok (.iconst 0, 1) := by decide +kernel
theorem dX11_doTidy_1 : decode cX11_doTidy 1 = .ok (.istore_n 1, 1) := by decide +kernel
theorem dX11_doTidy_2 : decode cX11_doTidy 2 = .ok (.iconst 0, 1) := by decide +kernel
theorem dX11_doTidy_3 : decode cX11_doTidy 3 = .ok (.istore_n 2, 1) := by decide +kernel
theorem dX11_doTidy_4 : decode cX11_doTidy 4 = .ok (.iload_n 2, 1) := by decide +kernel
theorem dX11_doTidy_5 : decode cX11_doTidy 5 = .ok (.aload_n 0, 1) := by decide +kernel
theorem dX11_doTidy_6 : decode cX11_doTidy 6 = .ok (.getfield 31, 3) := by decide +kernel
theorem dX11_doTidy_9 : decode cX11_doTidy 9 = .ok (.bipush 14, 2) := by decide +kernel
theorem dX11_doTidy_11 : decode cX11_doTidy 11 = .ok (.iaload, 1) := by decide +kernel
theorem dX11_doTidy_12 : decode cX11_doTidy 12 = .ok (.if_icmp .ge 32, 3) := by decide +kernel
theorem dX11_doTidy_15 : decode cX11_doTidy 15 = .ok (.aload_n 0, 1) := by decide +kernel
theorem dX11_doTidy_16 : decode cX11_doTidy 16 = .ok (.invokevirtual 129, 3) := by decide +kernel
theorem dX11_doTidy_19 : decode cX11_doTidy 19 = .ok (.aload_n 0, 1) := by decide +kernel
theorem dX11_doTidy_20 : decode cX11_doTidy 20 = .ok (.iload_n 2, 1) := by decide +kernel
theorem dX11_doTidy_21 : decode cX11_doTidy 21 = .ok (.invokevirtual 122, 3) := by decide +kernel
theorem dX11_doTidy_24 : decode cX11_doTidy 24 = .ok (.ifCond .ne 14, 3) := by decide +kernel
theorem dX11_doTidy_27 : decode cX11_doTidy 27 = .ok (.aload_n 0, 1) := by decide +kernel
theorem dX11_doTidy_28 : decode cX11_doTidy 28 = .ok (.iload_n 2, 1) := by decide +kernel
theorem dX11_doTidy_29 : decode cX11_doTidy 29 = .ok (.invokevirtual 232, 3) := by decide +kernel
theorem dX11_doTidy_32 : decode cX11_doTidy 32 = .ok (.iinc 1 1, 3) := by decide +kernel
theorem dX11_doTidy_35 : decode cX11_doTidy 35 = .ok (.goto (-31), 3) := by decide +kernel
theorem dX11_doTidy_38 : decode cX11_doTidy 38 = .ok (.iinc 2 1, 3) := by decide +kernel
theorem dX11_doTidy_41 : decode cX11_doTidy 41 = .ok (.goto (-37), 3) := by decide +kernel
theorem dX11_doTidy_44 : decode cX11_doTidy 44 = .ok (.aload_n 0, 1) := by decide +kernel
theorem dX11_doTidy_45 : decode cX11_doTidy 45 = .ok (.iload_n 1, 1) := by decide +kernel
theorem dX11_doTidy_46 : decode cX11_doTidy 46 = .ok (.invokevirtual 226, 3) := by decide +kernel
theorem dX11_doTidy_49 : decode cX11_doTidy 49 = .ok (.ireturn, 1) := by decide +kernel
theorem dX11_copy_0 : decode cX11_copy 0 = .ok (.aload_n 0, 1) := by decide +kernel
theorem dX11_copy_1 : decode cX11_copy 1 = .ok (.bipush 45, 2) := by decide +kernel
theorem dX11_copy_3 : decode cX11_copy 3 = .ok (.iload_n 1, 1) := by decide +kernel
theorem dX11_copy_4 : decode cX11_copy 4 = .ok (.imul, 1) := by decide +kernel
theorem dX11_copy_5 : decode cX11_copy 5 = .ok (.aload_n 2, 1) := by decide +kernel
theorem dX11_copy_6 : decode cX11_copy 6 = .ok (.bipush 45, 2) := by decide +kernel
theorem dX11_copy_8 : decode cX11_copy 8 = .ok (.iload_n 3, 1) := by decide +kernel
theorem dX11_copy_9 : decode cX11_copy 9 = .ok (.imul, 1) := by decide +kernel
theorem dX11_copy_10 : decode cX11_copy 10 = .ok (.bipush 45, 2) := by decide +kernel
theorem dX11_copy_12 : decode cX11_copy 12 = .ok (.invokestatic 235, 3) := by decide +kernel
theorem dX11_copy_15 : decode cX11_copy 15 = .ok (.return_, 1) := by decide +kernel
theorem dX11_keep_0 : decode cX11_keep 0 = .ok (.aload_n 0, 1) := by decide +kernel
theorem dX11_keep_1 : decode cX11_keep 1 = .ok (.getfield 9, 3) := by decide +kernel
theorem dX11_keep_4 : decode cX11_keep 4 = .ok (.iconst 0, 1) := by decide +kernel
theorem dX11_keep_5 : decode cX11_keep 5 = .ok (.aload_n 0, 1) := by decide +kernel
theorem dX11_keep_6 : decode cX11_keep 6 = .ok (.getfield 16, 3) := by decide +kernel
theorem dX11_keep_9 : decode cX11_keep 9 = .ok (.iconst 0, 1) := by decide +kernel
theorem dX11_keep_10 : decode cX11_keep 10 = .ok (.invokestatic 241, 3) := by decide +kernel
theorem dX11_keep_13 : decode cX11_keep 13 = .ok (.return_, 1) := by decide +kernel
theorem dX11_record_0 : decode cX11_record 0 = .ok (.aload_n 0, 1) := by decide +kernel
theorem dX11_record_1 : decode cX11_record 1 = .ok (.getfield 245, 3) := by decide +kernel
theorem dX11_record_4 : decode cX11_record 4 = .ok (.bipush 8, 2) := by decide +kernel
theorem dX11_record_6 : decode cX11_record 6 = .ok (.if_icmp .ne 42, 3) := by decide +kernel
theorem dX11_record_9 : decode cX11_record 9 = .ok (.iconst 1, 1) := by decide +kernel
theorem dX11_record_10 : decode cX11_record 10 = .ok (.istore_n 1, 1) := by decide +kernel
theorem dX11_record_11 : decode cX11_record 11 = .ok (.iload_n 1, 1) := by decide +kernel
theorem dX11_record_12 : decode cX11_record 12 = .ok (.bipush 8, 2) := by decide +kernel
theorem dX11_record_14 : decode cX11_record 14 = .ok (.if_icmp .ge 24, 3) := by decide +kernel
theorem dX11_record_17 : decode cX11_record 17 = .ok (.aload_n 0, 1) := by decide +kernel
theorem dX11_record_18 : decode cX11_record 18 = .ok (.getfield 22, 3) := by decide +kernel
theorem dX11_record_21 : decode cX11_record 21 = .ok (.iload_n 1, 1) := by decide +kernel
theorem dX11_record_22 : decode cX11_record 22 = .ok (.aload_n 0, 1) := by decide +kernel
theorem dX11_record_23 : decode cX11_record 23 = .ok (.getfield 22, 3) := by decide +kernel
theorem dX11_record_26 : decode cX11_record 26 = .ok (.iload_n 1, 1) := by decide +kernel
theorem dX11_record_27 : decode cX11_record 27 = .ok (.iconst 1, 1) := by decide +kernel
theorem dX11_record_28 : decode cX11_record 28 = .ok (.isub, 1) := by decide +kernel
theorem dX11_record_29 : decode cX11_record 29 = .ok (.invokestatic 241, 3) := by decide +kernel
theorem dX11_record_32 : decode cX11_record 32 = .ok (.iinc 1 1, 3) := by decide +kernel
theorem dX11_record_35 : decode cX11_record 35 = .ok (.goto (-24), 3) := by decide +kernel
theorem dX11_record_38 : decode cX11_record 38 = .ok (.aload_n 0, 1) := by decide +kernel
theorem dX11_record_39 : decode cX11_record 39 = .ok (.dup, 1) := by decide +kernel
theorem dX11_record_40 : decode cX11_record 40 = .ok (.getfield 245, 3) := by decide +kernel
theorem dX11_record_43 : decode cX11_record 43 = .ok (.iconst 1, 1) := by decide +kernel
theorem dX11_record_44 : decode cX11_record 44 = .ok (.isub, 1) := by decide +kernel
theorem dX11_record_45 : decode cX11_record 45 = .ok (.putfield 245, 3) := by decide +kernel
theorem dX11_record_48 : decode cX11_record 48 = .ok (.aload_n 0, 1) := by decide +kernel
theorem dX11_record_49 : decode cX11_record 49 = .ok (.getfield 16, 3) := by decide +kernel
theorem dX11_record_52 : decode cX11_record 52 = .ok (.iconst 0, 1) := by decide +kernel
theorem dX11_record_53 : decode cX11_record 53 = .ok (.aload_n 0, 1) := by decide +kernel
theorem dX11_record_54 : decode cX11_record 54 = .ok (.getfield 22, 3) := by decide +kernel
theorem dX11_record_57 : decode cX11_record 57 = .ok (.aload_n 0, 1) := by decide +kernel
theorem dX11_record_58 : decode cX11_record 58 = .ok (.getfield 245, 3) := by decide +kernel
theorem dX11_record_61 : decode cX11_record 61 = .ok (.invokestatic 241, 3) := by decide +kernel
