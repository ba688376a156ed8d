theorem dX8_open_9 : decode cX8_open 9 = .ok (.putfield 19, 3) := by decide +kernel
theorem dX8_open_12 : decode cX8_open 12 = .ok (.aload_n 0, 1) := by decide +kernel
theorem dX8_open_13 : decode cX8_open 13 = .ok (.iconst 0, 1) := by decide +kernel
theorem dX8_open_14 : decode cX8_open 14 = .ok (.putfield 22, 3) := by decide +kernel
theorem dX8_open_17 : decode cX8_open 17 = .ok (.aload_n 0, 1) := by decide +kernel
theorem dX8_open_18 : decode cX8_open 18 = .ok (.invokevirtual 40, 3) := by decide +kernel
theorem dX8_open_21 : decode cX8_open 21 = .ok (.return_, 1) := by decide +kernel
theorem dX8_advance_0 : decode cX8_advance 0 = .ok (.aload_n 0, 1) := by decide +kernel
theorem dX8_advance_1 : decode cX8_advance 1 = .ok (.getfield 22, 3) := by decide +kernel
theorem dX8_advance_4 : decode cX8_advance 4 = .ok (.aload_n 0, 1) := by decide +kernel
theorem dX8_advance_5 : decode cX8_advance 5 = .ok (.getfield 19, 3) := by decide +kernel
theorem dX8_advance_8 : decode cX8_advance 8 = .ok (.if_icmp .ge 30, 3) := by decide +kernel
theorem dX8_advance_11 : decode cX8_advance 11 = .ok (.aload_n 0, 1) := by decide +kernel
theorem dX8_advance_12 : decode cX8_advance 12 = .ok (.aload_n 0, 1) := by decide +kernel
theorem dX8_advance_13 : decode cX8_advance 13 = .ok (.getfield 22, 3) := by decide +kernel
theorem dX8_advance_16 : decode cX8_advance 16 = .ok (.invokevirtual 43, 3) := by decide +kernel
theorem dX8_advance_19 : decode cX8_advance 19 = .ok (.invokestatic 47, 3) := by decide +kernel
theorem dX8_advance_22 : decode cX8_advance 22 = .ok (.ifCond .eq 16, 3) := by decide +kernel
theorem dX8_advance_25 : decode cX8_advance 25 = .ok (.aload_n 0, 1) := by decide +kernel
theorem dX8_advance_26 : decode cX8_advance 26 = .ok (.dup, 1) := by decide +kernel
theorem dX8_advance_27 : decode cX8_advance 27 = .ok (.getfield 22, 3) := by decide +kernel
theorem dX8_advance_30 : decode cX8_advance 30 = .ok (.iconst 1, 1) := by decide +kernel
theorem dX8_advance_31 : decode cX8_advance 31 = .ok (.iadd, 1) := by decide +kernel
theorem dX8_advance_32 : decode cX8_advance 32 = .ok (.putfield 22, 3) := by decide +kernel
theorem dX8_advance_35 : decode cX8_advance 35 = .ok (.goto (-35), 3) := by decide +kernel
theorem dX8_advance_38 : decode cX8_advance 38 = .ok (.aload_n 0, 1) := by decide +kernel
theorem dX8_advance_39 : decode cX8_advance 39 = .ok (.aload_n 0, 1) := by decide +kernel
theorem dX8_advance_40 : decode cX8_advance 40 = .ok (.getfield 22, 3) := by decide +kernel
theorem dX8_advance_43 : decode cX8_advance 43 = .ok (.putfield 28, 3) := by decide +kernel
theorem dX8_advance_46 : decode cX8_advance 46 = .ok (.aload_n 0, 1) := by decide +kernel
theorem dX8_advance_47 : decode cX8_advance 47 = .ok (.iconst 0, 1) := by decide +kernel
theorem dX8_advance_48 : decode cX8_advance 48 = .ok (.putfield 31, 3) := by decide +kernel
theorem dX8_advance_51 : decode cX8_advance 51 = .ok (.aload_n 0, 1) := by decide +kernel
theorem dX8_advance_52 : decode cX8_advance 52 = .ok (.getfield 22, 3) := by decide +kernel
theorem dX8_advance_55 : decode cX8_advance 55 = .ok (.aload_n 0, 1) := by decide +kernel
theorem dX8_advance_56 : decode cX8_advance 56 = .ok (.getfield 19, 3) := by decide +kernel
theorem dX8_advance_59 : decode cX8_advance 59 = .ok (.if_icmp .lt 11, 3) := by decide +kernel
theorem dX8_advance_62 : decode cX8_advance 62 = .ok (.aload_n 0, 1) := by decide +kernel
theorem dX8_advance_63 : decode cX8_advance 63 = .ok (.iconst 0, 1) := by decide +kernel
theorem dX8_advance_64 : decode cX8_advance 64 = .ok (.putfield 25, 3) := by decide +kernel
theorem dX8_advance_67 : decode cX8_advance 67 = .ok (.goto 87, 3) := by decide +kernel
theorem dX8_advance_70 : decode cX8_advance 70 = .ok (.aload_n 0, 1) := by decide +kernel
theorem dX8_advance_71 : decode cX8_advance 71 = .ok (.aload_n 0, 1) := by decide +kernel
theorem dX8_advance_72 : decode cX8_advance 72 = .ok (.getfield 22, 3) := by decide +kernel
theorem dX8_advance_75 : decode cX8_advance 75 = .ok (.invokevirtual 43, 3) := by decide +kernel
theorem dX8_advance_78 : decode cX8_advance 78 = .ok (.invokestatic 51, 3) := by decide +kernel
theorem dX8_advance_81 : decode cX8_advance 81 = .ok (.ifCond .eq 15, 3) := by decide +kernel
theorem dX8_advance_84 : decode cX8_advance 84 = .ok (.aload_n 0, 1) := by decide +kernel
theorem dX8_advance_85 : decode cX8_advance 85 = .ok (.iconst 1, 1) := by decide +kernel
theorem dX8_advance_86 : decode cX8_advance 86 = .ok (.putfield 25, 3) := by decide +kernel
theorem dX8_advance_89 : decode cX8_advance 89 = .ok (.aload_n 0, 1) := by decide +kernel
theorem dX8_advance_90 : decode cX8_advance 90 = .ok (.invokevirtual 54, 3) := by decide +kernel
theorem dX8_advance_93 : decode cX8_advance 93 = .ok (.goto 61, 3) := by decide +kernel
theorem dX8_advance_96 : decode cX8_advance 96 = .ok (.aload_n 0, 1) := by decide +kernel
theorem dX8_advance_97 : decode cX8_advance 97 = .ok (.aload_n 0, 1) := by decide +kernel
theorem dX8_advance_98 : decode cX8_advance 98 = .ok (.getfield 22, 3) := by decide +kernel
theorem dX8_advance_101 : decode cX8_advance 101 = .ok (.invokevirtual 43, 3) := by decide +kernel
theorem dX8_advance_104 : decode cX8_advance 104 = .ok (.invokestatic 57, 3) := by decide +kernel
theorem dX8_advance_107 : decode cX8_advance 107 = .ok (.ifCond .eq 15, 3) := by decide +kernel
theorem dX8_advance_110 : decode cX8_advance 110 = .ok (.aload_n 0, 1) := by decide +kernel
theorem dX8_advance_111 : decode cX8_advance 111 = .ok (.iconst 2, 1) := by decide +kernel
theorem dX8_advance_112 : decode cX8_advance 112 = .ok (.putfield 25, 3) := by decide +kernel
theorem dX8_advance_115 : decode cX8_advance 115 = .ok (.aload_n 0, 1) := by decide +kernel
theorem dX8_advance_116 : decode cX8_advance 116 = .ok (.invokevirtual 60, 3) := by decide +kernel
theorem dX8_advance_119 : decode cX8_advance 119 = .ok (.goto 35, 3) := by decide +kernel
theorem dX8_advance_122 : decode cX8_advance 122 = .ok (.aload_n 0, 1) := by decide +kernel
theorem dX8_advance_123 : decode cX8_advance 123 = .ok (.aload_n 0, 1) := by decide +kernel
theorem dX8_advance_124 : decode cX8_advance 124 = .ok (.aload_n 0, 1) := by decide +kernel
theorem dX8_advance_125 : decode cX8_advance 125 = .ok (.getfield 22, 3) := by decide +kernel
theorem dX8_advance_128 : decode cX8_advance 128 = .ok (.invokevirtual 43, 3) := by decide +kernel
theorem dX8_advance_131 : decode cX8_advance 131 = .ok (.bipush 59, 2) := by decide +kernel
theorem dX8_advance_133 : decode cX8_advance 133 = .ok (.if_icmp .ne 7, 3) := by decide +kernel
theorem dX8_advance_136 : decode cX8_advance 136 = .ok (.iconst 3, 1) := by decide +kernel
theorem dX8_advance_137 : decode cX8_advance 137 = .ok (.goto 4, 3) := by decide +kernel
theorem dX8_advance_140 : decode cX8_advance 140 = .ok (.iconst 4, 1) := by decide +kernel
theorem dX8_advance_141 : decode cX8_advance 141 = .ok (.putfield 25, 3) := by decide +kernel
theorem dX8_advance_144 : decode cX8_advance 144 = .ok (.aload_n 0, 1) := by decide +kernel
theorem dX8_advance_145 : decode cX8_advance 145 = .ok (.dup, 1) := by decide +kernel
theorem dX8_advance_146 : decode cX8_advance 146 = .ok (.getfield 22, 3) := by decide +kernel
theorem dX8_advance_149 : decode cX8_advance 149 = .ok (.iconst 1, 1) := by decide +kernel
theorem dX8_advance_150 : decode cX8_advance 150 = .ok (.iadd, 1) := by decide +kernel
theorem dX8_advance_151 : decode cX8_advance 151 = .ok (.putfield 22, 3) := by decide +kernel
theorem dX8_advance_154 : decode cX8_advance 154 = .ok (.return_, 1) := by decide +kernel
theorem dX8_skipLetters_0 : decode cX8_skipLetters 0 = .ok (.aload_n 0, 1) := by decide +kernel
theorem dX8_skipLetters_1 : decode cX8_skipLetters 1 = .ok (.getfield 22, 3) := by decide +kernel
theorem dX8_skipLetters_4 : decode cX8_skipLetters 4 = .ok (.aload_n 0, 1) := by decide +kernel
theorem dX8_skipLetters_5 : decode cX8_skipLetters 5 = .ok (.getfield 19, 3) := by decide +kernel
theorem dX8_skipLetters_8 : decode cX8_skipLetters 8 = .ok (.if_icmp .ge 30, 3) := by decide +kernel
theorem dX8_skipLetters_11 : decode cX8_skipLetters 11 = .ok (.aload_n 0, 1) := by decide +kernel
theorem dX8_skipLetters_12 : decode cX8_skipLetters 12 = .ok (.aload_n 0, 1) := by decide +kernel
theorem dX8_skipLetters_13 : decode cX8_skipLetters 13 = .ok (.getfield 22, 3) := by decide +kernel
theorem dX8_skipLetters_16 : decode cX8_skipLetters 16 = .ok (.invokevirtual 43, 3) := by decide +kernel
theorem dX8_skipLetters_19 : decode cX8_skipLetters 19 = .ok (.invokestatic 51, 3) := by decide +kernel
theorem dX8_skipLetters_22 : decode cX8_skipLetters 22 = .ok (.ifCond .eq 16, 3) := by decide +kernel
theorem dX8_skipLetters_25 : decode cX8_skipLetters 25 = .ok (.aload_n 0, 1) := by decide +kernel
theorem dX8_skipLetters_26 : decode cX8_skipLetters 26 = .ok (.dup, 1) := by decide +kernel
theorem dX8_skipLetters_27 : decode cX8_skipLetters 27 = .ok (.getfield 22, 3) := by decide +kernel
theorem dX8_skipLetters_30 : decode cX8_skipLetters 30 = .ok (.iconst 1, 1) := by decide +kernel
theorem dX8_skipLetters_31 : decode cX8_skipLetters 31 = .ok (.iadd, 1) := by decide +kernel
theorem dX8_skipLetters_32 : decode cX8_skipLetters 32 = .ok (.putfield 22, 3) := by decide +kernel
theorem dX8_skipLetters_35 : decode cX8_skipLetters 35 = .ok (.goto (-35), 3) := by decide +kernel
theorem dX8_skipLetters_38 : decode cX8_skipLetters 38 = .ok (.return_, 1) := by decide +kernel
theorem dX8_readDigits_0 : decode cX8_readDigits 0 = .ok (.aload_n 0, 1) := by decide +kernel
theorem dX8_readDigits_1 : decode cX8_readDigits 1 = .ok (.getfield 22, 3) := by decide +kernel
theorem dX8_readDigits_4 : decode cX8_readDigits 4 = .ok (.aload_n 0, 1) := by decide +kernel
theorem dX8_readDigits_5 : decode cX8_readDigits 5 = .ok (.getfield 19, 3) := by decide +kernel
theorem dX8_readDigits_8 : decode cX8_readDigits 8 = .ok (.if_icmp .ge 58, 3) := by decide +kernel
theorem dX8_readDigits_11 : decode cX8_readDigits 11 = .ok (.aload_n 0, 1) := by decide +kernel
theorem dX8_readDigits_12 : decode cX8_readDigits 12 = .ok (.aload_n 0, 1) := by decide +kernel
theorem dX8_readDigits_13 : decode cX8_readDigits 13 = .ok (.getfield 22, 3) := by decide +kernel
theorem dX8_readDigits_16 : decode cX8_readDigits 16 = .ok (.invokevirtual 43, 3) := by decide +kernel
theorem dX8_readDigits_19 : decode cX8_readDigits 19 = .ok (.invokestatic 57, 3) := by decide +kernel
theorem dX8_readDigits_22 : decode cX8_readDigits 22 = .ok (.ifCond .eq 44, 3) := by decide +kernel
theorem dX8_readDigits_25 : decode cX8_readDigits 25 = .ok (.aload_n 0, 1) := by decide +kernel
theorem dX8_readDigits_26 : decode cX8_readDigits 26 = .ok (.aload_n 0, 1) := by decide +kernel
theorem dX8_readDigits_27 : decode cX8_readDigits 27 = .ok (.getfield 31, 3) := by decide +kernel
theorem dX8_readDigits_30 : decode cX8_readDigits 30 = .ok (.bipush 10, 2) := by decide +kernel
theorem dX8_readDigits_32 : decode cX8_readDigits 32 = .ok (.imul, 1) := by decide +kernel
theorem dX8_readDigits_33 : decode cX8_readDigits 33 = .ok (.aload_n 0, 1) := by decide +kernel
theorem dX8_readDigits_34 : decode cX8_readDigits 34 = .ok (.aload_n 0, 1) := by decide +kernel
theorem dX8_readDigits_35 : decode cX8_readDigits 35 = .ok (.getfield 22, 3) := by decide +kernel
theorem dX8_readDigits_38 : decode cX8_readDigits 38 = .ok (.invokevirtual 43, 3) := by decide +kernel
theorem dX8_readDigits_41 : decode cX8_readDigits 41 = .ok (.iadd, 1) := by decide +kernel
theorem dX8_readDigits_42 : decode cX8_readDigits 42 = .ok (.bipush 48, 2) := by decide +kernel
theorem dX8_readDigits_44 : decode cX8_readDigits 44 = .ok (.isub, 1) := by decide +kernel
theorem dX8_readDigits_45 : decode cX8_readDigits 45 = .ok (.ldc 63, 2) := by decide +kernel
theorem dX8_readDigits_47 : decode cX8_readDigits 47 = .ok (.invokestatic 34, 3) := by decide +kernel
theorem dX8_readDigits_50 : decode cX8_readDigits 50 = .ok (.putfield 31, 3) := by decide +kernel
theorem dX8_readDigits_53 : decode cX8_readDigits 53 = .ok (.aload_n 0, 1) := by decide +kernel
theorem dX8_readDigits_54 : decode cX8_readDigits 54 = .ok (.dup, 1) := by decide +kernel
theorem dX8_readDigits_55 : decode cX8_readDigits 55 = .ok (.getfield 22, 3) := by decide +kernel
theorem dX8_readDigits_58 : decode cX8_readDigits 58 = .ok (.iconst 1, 1) := by decide +kernel
theorem dX8_readDigits_59 : decode cX8_readDigits 59 = .ok (.iadd, 1) := by decide +kernel
theorem dX8_readDigits_60 : decode cX8_readDigits 60 = .ok (.putfield 22, 3) := by decide +kernel
theorem dX8_readDigits_63 : decode cX8_readDigits 63 = .ok (.goto (-63), 3) := by decide +kernel
theorem dX8_readDigits_66 : decode cX8_readDigits 66 = .ok (.return_, 1) := by decide +kernel
theorem dX8_byteAt_0 : decode cX8_byteAt 0 = .ok (.iload_n 1, 1) := by decide +kernel
theorem dX8_byteAt_1 : decode cX8_byteAt 1 = .ok (.ifCond .lt 12, 3) := by decide +kernel
theorem dX8_byteAt_4 : decode cX8_byteAt 4 = .ok (.iload_n 1, 1) := by decide +kernel
theorem dX8_byteAt_5 : decode cX8_byteAt 5 = .ok (.aload_n 0, 1) := by decide +kernel
theorem dX8_byteAt_6 : decode cX8_byteAt 6 = .ok (.getfield 9, 3) := by decide +kernel
theorem dX8_byteAt_9 : decode cX8_byteAt 9 = .ok (.arraylength, 1) := by decide +kernel
theorem dX8_byteAt_10 : decode cX8_byteAt 10 = .ok (.if_icmp .lt 7, 3) := by decide +kernel
theorem dX8_byteAt_13 : decode cX8_byteAt 13 = .ok (.iconst 0, 1) := by decide +kernel
theorem dX8_byteAt_14 : decode cX8_byteAt 14 = .ok (.goto 13, 3) := by decide +kernel
theorem dX8_byteAt_17 : decode cX8_byteAt 17 = .ok (.aload_n 0, 1) := by decide +kernel
theorem dX8_byteAt_18 : decode cX8_byteAt 18 = .ok (.getfield 9, 3) := by decide +kernel
theorem dX8_byteAt_21 : decode cX8_byteAt 21 = .ok (.iload_n 1, 1) := by decide +kernel
theorem dX8_byteAt_22 : decode cX8_byteAt 22 = .ok (.baload, 1) := by decide +kernel
theorem dX8_byteAt_23 : decode cX8_byteAt 23 = .ok (.sipush 255, 3) := by decide +kernel
theorem dX8_byteAt_26 : decode cX8_byteAt 26 = .ok (.iand, 1) := by decide +kernel
theorem dX8_byteAt_27 : decode cX8_byteAt 27 = .ok (.ireturn, 1) := by decide +kernel
theorem dX8_isBlank_0 : decode cX8_isBlank 0 = .ok (.iload_n 0, 1) := by decide +kernel
theorem dX8_isBlank_1 : decode cX8_isBlank 1 = .ok (.bipush 32, 2) := by decide +kernel
theorem dX8_isBlank_3 : decode cX8_isBlank 3 = .ok (.if_icmp .eq 9, 3) := by decide +kernel
theorem dX8_isBlank_6 : decode cX8_isBlank 6 = .ok (.iload_n 0, 1) := by decide +kernel
theorem dX8_isBlank_7 : decode cX8_isBlank 7 = .ok (.bipush 10, 2) := by decide +kernel
theorem dX8_isBlank_9 : decode cX8_isBlank 9 = .ok (.if_icmp .ne 7, 3) := by decide +kernel
theorem dX8_isBlank_12 : decode cX8_isBlank 12 = .ok (.iconst 1, 1) := by decide +kernel
theorem dX8_isBlank_13 : decode cX8_isBlank 13 = .ok (.goto 4, 3) := by decide +kernel
theorem dX8_isBlank_16 : decode cX8_isBlank 16 = .ok (.iconst 0, 1) := by decide +kernel
theorem dX8_isBlank_17 : decode cX8_isBlank 17 = .ok (.ireturn, 1) := by decide +kernel
theorem dX8_isLetter_0 : decode cX8_isLetter 0 = .ok (.iload_n 0, 1) := by decide +kernel
theorem dX8_isLetter_1 : decode cX8_isLetter 1 = .ok (.bipush 97, 2) := by decide +kernel
theorem dX8_isLetter_3 : decode cX8_isLetter 3 = .ok (.if_icmp .lt 13, 3) := by decide +kernel
theorem dX8_isLetter_6 : decode cX8_isLetter 6 = .ok (.iload_n 0, 1) := by decide +kernel
theorem dX8_isLetter_7 : decode cX8_isLetter 7 = .ok (.bipush 122, 2) := by decide +kernel
theorem dX8_isLetter_9 : decode cX8_isLetter 9 = .ok (.if_icmp .gt 7, 3) := by decide +kernel
theorem dX8_isLetter_12 : decode cX8_isLetter 12 = .ok (.iconst 1, 1) := by decide +kernel
theorem dX8_isLetter_13 : decode cX8_isLetter 13 = .ok (.goto 4, 3) := by decide +kernel
theorem dX8_isLetter_16 : decode cX8_isLetter 16 = .ok (.iconst 0, 1) := by decide +kernel
theorem dX8_isLetter_17 : decode cX8_isLetter 17 = .ok (.ireturn, 1) := by decide +kernel
theorem dX8_isDigit_0 : decode cX8_isDigit 0 = .ok (.iload_n 0, 1) := by decide +kernel
theorem dX8_isDigit_1 : decode cX8_isDigit 1 = .ok (.bipush 48, 2) := by decide +kernel
theorem dX8_isDigit_3 : decode cX8_isDigit 3 = .ok (.if_icmp .lt 13, 3) := by decide +kernel
theorem dX8_isDigit_6 : decode cX8_isDigit 6 = .ok (.iload_n 0, 1) := by decide +kernel
theorem dX8_isDigit_7 : decode cX8_isDigit 7 = .ok (.bipush 57, 2) := by decide +kernel
theorem dX8_isDigit_9 : decode cX8_isDigit 9 = .ok (.if_icmp .gt 7, 3) := by decide +kernel
theorem dX8_isDigit_12 : decode cX8_isDigit 12 = .ok (.iconst 1, 1) := by decide +kernel
theorem dX8_isDigit_13 : decode cX8_isDigit 13 = .ok (.goto 4, 3) := by decide +kernel
theorem dX8_isDigit_16 : decode cX8_isDigit 16 = .ok (.iconst 0, 1) := by decide +kernel
theorem dX8_isDigit_17 : decode cX8_isDigit 17 = .ok (.ireturn, 1) := by decide +kernel
theorem dX8_tokenStart_0 : decode cX8_tokenStart 0 = .ok (.aload_n 0, 1) := by decide +kernel
theorem dX8_tokenStart_1 : decode cX8_tokenStart 1 = .ok (.getfield 28, 3) := by decide +kernel
theorem dX8_tokenStart_4 : decode cX8_tokenStart 4 = .ok (.ireturn, 1) := by decide +kernel
theorem dX8_tokenValue_0 : decode cX8_tokenValue 0 = .ok (.aload_n 0, 1) := by decide +kernel
theorem dX8_tokenValue_1 : decode cX8_tokenValue 1 = .ok (.getfield 31, 3) := by decide +kernel
theorem dX8_tokenValue_4 : decode cX8_tokenValue 4 = .ok (.ireturn, 1) := by decide +kernel
theorem dX8_isEnd_0 : decode cX8_isEnd 0 = .ok (.aload_n 0, 1) := by decide +kernel
theorem dX8_isEnd_1 : decode cX8_isEnd 1 = .ok (.getfield 25, 3) := by decide +kernel
theorem dX8_isEnd_4 : decode cX8_isEnd 4 = .ok (.ifCond .ne 7, 3) := by decide +kernel
theorem dX8_isEnd_7 : decode cX8_isEnd 7 = .ok (.iconst 1, 1) := by decide +kernel
theorem dX8_isEnd_8 : decode cX8_isEnd 8 = .ok (.goto 4, 3) := by decide +kernel
theorem dX8_isEnd_11 : decode cX8_isEnd 11 = .ok (.iconst 0, 1) := by decide +kernel
theorem dX8_isEnd_12 : decode cX8_isEnd 12 = .ok (.ireturn, 1) := by decide +kernel
theorem dX8_isNumber_0 : decode cX8_isNumber 0 = .ok (.aload_n 0, 1) := by decide +kernel
theorem dX8_isNumber_1 : decode cX8_isNumber 1 = .ok (.getfield 25, 3) := by decide +kernel
theorem dX8_isNumber_4 : decode cX8_isNumber 4 = .ok (.iconst 2, 1) := by decide +kernel
theorem dX8_isNumber_5 : decode cX8_isNumber 5 = .ok (.if_icmp .ne 7, 3) := by decide +kernel
theorem dX8_isNumber_8 : decode cX8_isNumber 8 = .ok (.iconst 1, 1) := by decide +kernel
theorem dX8_isNumber_9 : decode cX8_isNumber 9 = .ok (.goto 4, 3) := by decide +kernel
theorem dX8_isNumber_12 : decode cX8_isNumber 12 = .ok (.iconst 0, 1) := by decide +kernel
theorem dX8_isNumber_13 : decode cX8_isNumber 13 = .ok (.ireturn, 1) := by decide +kernel
theorem dX8_isSemicolon_0 : decode cX8_isSemicolon 0 = .ok (.aload_n 0, 1) := by decide +kernel
theorem dX8_isSemicolon_1 : decode cX8_isSemicolon 1 = .ok (.getfield 25, 3) := by decide +kernel
theorem dX8_isSemicolon_4 : decode cX8_isSemicolon 4 = .ok (.iconst 3, 1) := by decide +kernel
theorem dX8_isSemicolon_5 : decode cX8_isSemicolon 5 = .ok (.if_icmp .ne 7, 3) := by decide +kernel
theorem dX8_isSemicolon_8 : decode cX8_isSemicolon 8 = .ok (.iconst 1, 1) := by decide +kernel
theorem dX8_isSemicolon_9 : decode cX8_isSemicolon 9 = .ok (.goto 4, 3) := by decide +kernel
theorem dX8_isSemicolon_12 : decode cX8_isSemicolon 12 = .ok (.iconst 0, 1) := by decide +kernel
theorem dX8_isSemicolon_13 : decode cX8_isSemicolon 13 = .ok (.ireturn, 1) := by decide +kernel
theorem dX8_isWord_0 : decode cX8_isWord 0 = .ok (.aload_n 0, 1) := by decide +kernel
theorem dX8_isWord_1 : decode cX8_isWord 1 = .ok (.getfield 25, 3) := by decide +kernel
theorem dX8_isWord_4 : decode cX8_isWord 4 = .ok (.iconst 1, 1) := by decide +kernel
theorem dX8_isWord_5 : decode cX8_isWord 5 = .ok (.if_icmp .ne 19, 3) := by decide +kernel
theorem dX8_isWord_8 : decode cX8_isWord 8 = .ok (.aload_n 0, 1) := by decide +kernel
theorem dX8_isWord_9 : decode cX8_isWord 9 = .ok (.getfield 22, 3) := by decide +kernel
theorem dX8_isWord_12 : decode cX8_isWord 12 = .ok (.aload_n 0, 1) := by decide +kernel
theorem dX8_isWord_13 : decode cX8_isWord 13 = .ok (.getfield 28, 3) := by decide +kernel
theorem dX8_isWord_16 : decode cX8_isWord 16 = .ok (.isub, 1) := by decide +kernel
theorem dX8_isWord_17 : decode cX8_isWord 17 = .ok (.aload_n 1, 1) := by decide +kernel
theorem dX8_isWord_18 : decode cX8_isWord 18 = .ok (.invokevirtual 64, 3) := by decide +kernel
theorem dX8_isWord_21 : decode cX8_isWord 21 = .ok (.if_icmp .eq 5, 3) := by decide +kernel
theorem dX8_isWord_24 : decode cX8_isWord 24 = .ok (.iconst 0, 1) := by decide +kernel
theorem dX8_isWord_25 : decode cX8_isWord 25 = .ok (.ireturn, 1) := by decide +kernel
theorem dX8_isWord_26 : decode cX8_isWord 26 = .ok (.iconst 0, 1) := by decide +kernel
theorem dX8_isWord_27 : decode cX8_isWord 27 = .ok (.istore_n 2, 1) := by decide +kernel
theorem dX8_isWord_28 : decode cX8_isWord 28 = .ok (.iload_n 2, 1) := by decide +kernel
theorem dX8_isWord_29 : decode cX8_isWord 29 = .ok (.aload_n 1, 1) := by decide +kernel
theorem dX8_isWord_30 : decode cX8_isWord 30 = .ok (.invokevirtual 64, 3) := by decide +kernel
theorem dX8_isWord_33 : decode cX8_isWord 33 = .ok (.if_icmp .ge 29, 3) := by decide +kernel
theorem dX8_isWord_36 : decode cX8_isWord 36 = .ok (.aload_n 0, 1) := by decide +kernel
theorem dX8_isWord_37 : decode cX8_isWord 37 = .ok (.aload_n 0, 1) := by decide +kernel
theorem dX8_isWord_38 : decode cX8_isWord 38 = .ok (.getfield 28, 3) := by decide +kernel
theorem dX8_isWord_41 : decode cX8_isWord 41 = .ok (.iload_n 2, 1) := by decide +kernel
theorem dX8_isWord_42 : decode cX8_isWord 42 = .ok (.iadd, 1) := by decide +kernel
theorem dX8_isWord_43 : decode cX8_isWord 43 = .ok (.invokevirtual 43, 3) := by decide +kernel
theorem dX8_isWord_46 : decode cX8_isWord 46 = .ok (.aload_n 1, 1) := by decide +kernel
theorem dX8_isWord_47 : decode cX8_isWord 47 = .ok (.iload_n 2, 1) := by decide +kernel
theorem dX8_isWord_48 : decode cX8_isWord 48 = .ok (.invokevirtual 70, 3) := by decide +kernel
theorem dX8_isWord_51 : decode cX8_isWord 51 = .ok (.if_icmp .eq 5, 3) := by decide +kernel
theorem dX8_isWord_54 : decode cX8_isWord 54 = .ok (.iconst 0, 1) := by decide +kernel
theorem dX8_isWord_55 : decode cX8_isWord 55 = .ok (.ireturn, 1) := by decide +kernel
theorem dX8_isWord_56 : decode cX8_isWord 56 = .ok (.iinc 2 1, 3) := by decide +kernel
theorem dX8_isWord_59 : decode cX8_isWord 59 = .ok (.goto (-31), 3) := by decide +kernel
theorem dX8_isWord_62 : decode cX8_isWord 62 = .ok (.iconst 1, 1) := by decide +kernel
theorem dX8_isWord_63 : decode cX8_isWord 63 = .ok (.ireturn, 1) := by decide +kernel
theorem dX9_primeAt_0 : decode cX9_primeAt 0 = .ok (.iload_n 0, 1) := by decide +kernel
theorem dX9_primeAt_1 : decode cX9_primeAt 1 = .ok (.ifCond .lt 11, 3) := by decide +kernel
theorem dX9_primeAt_4 : decode cX9_primeAt 4 = .ok (.iload_n 0, 1) := by decide +kernel
theorem dX9_primeAt_5 : decode cX9_primeAt 5 = .ok (.getstatic 9, 3) := by decide +kernel
theorem dX9_primeAt_8 : decode cX9_primeAt 8 = .ok (.arraylength, 1) := by decide +kernel
theorem dX9_primeAt_9 : decode cX9_primeAt 9 = .ok (.if_icmp .lt 7, 3) := by decide +kernel
theorem dX9_primeAt_12 : decode cX9_primeAt 12 = .ok (.iconst 1, 1) := by decide +kernel
theorem dX9_primeAt_13 : decode cX9_primeAt 13 = .ok (.goto 8, 3) := by decide +kernel
theorem dX9_primeAt_16 : decode cX9_primeAt 16 = .ok (.getstatic 9, 3) := by decide +kernel
theorem dX9_primeAt_19 : decode cX9_primeAt 19 = .ok (.iload_n 0, 1) := by decide +kernel
theorem dX9_primeAt_20 : decode cX9_primeAt 20 = .ok (.iaload, 1) := by decide +kernel
theorem dX9_primeAt_21 : decode cX9_primeAt 21 = .ok (.ireturn, 1) := by decide +kernel
theorem dX9_product_0 : decode cX9_product 0 = .ok (.iload_n 0, 1) := by decide +kernel
theorem dX9_product_1 : decode cX9_product 1 = .ok (.ifCond .lt 11, 3) := by decide +kernel
theorem dX9_product_4 : decode cX9_product 4 = .ok (.iload_n 0, 1) := by decide +kernel
theorem dX9_product_5 : decode cX9_product 5 = .ok (.getstatic 15, 3) := by decide +kernel
theorem dX9_product_8 : decode cX9_product 8 = .ok (.arraylength, 1) := by decide +kernel
theorem dX9_product_9 : decode cX9_product 9 = .ok (.if_icmp .lt 7, 3) := by decide +kernel
theorem dX9_product_12 : decode cX9_product 12 = .ok (.iconst 1, 1) := by decide +kernel
theorem dX9_product_13 : decode cX9_product 13 = .ok (.goto 8, 3) := by decide +kernel
theorem dX9_product_16 : decode cX9_product 16 = .ok (.getstatic 15, 3) := by decide +kernel
theorem dX9_product_19 : decode cX9_product 19 = .ok (.iload_n 0, 1) := by decide +kernel
theorem dX9_product_20 : decode cX9_product 20 = .ok (.iaload, 1) := by decide +kernel
theorem dX9_product_21 : decode cX9_product 21 = .ok (.ireturn, 1) := by decide +kernel
theorem dX9_smallestPrimeOf_0 : decode cX9_smallestPrimeOf 0 = .ok (.iconst 0, 1) := by decide +kernel
theorem dX9_smallestPrimeOf_1 : decode cX9_smallestPrimeOf 1 = .ok (.istore_n 2, 1) := by decide +kernel
theorem dX9_smallestPrimeOf_2 : decode cX9_smallestPrimeOf 2 = .ok (.iload_n 2, 1) := by decide +kernel
theorem dX9_smallestPrimeOf_3 : decode cX9_smallestPrimeOf 3 = .ok (.iload_n 1, 1) := by decide +kernel
theorem dX9_smallestPrimeOf_4 : decode cX9_smallestPrimeOf 4 = .ok (.if_icmp .ge 33, 3) := by decide +kernel
theorem dX9_smallestPrimeOf_7 : decode cX9_smallestPrimeOf 7 = .ok (.iload_n 2, 1) := by decide +kernel
theorem dX9_smallestPrimeOf_8 : decode cX9_smallestPrimeOf 8 = .ok (.getstatic 9, 3) := by decide +kernel
theorem dX9_smallestPrimeOf_11 : decode cX9_smallestPrimeOf 11 = .ok (.arraylength, 1) := by decide +kernel
theorem dX9_smallestPrimeOf_12 : decode cX9_smallestPrimeOf 12 = .ok (.if_icmp .ge 25, 3) := by decide +kernel
theorem dX9_smallestPrimeOf_15 : decode cX9_smallestPrimeOf 15 = .ok (.iload_n 0, 1) := by decide +kernel
theorem dX9_smallestPrimeOf_16 : decode cX9_smallestPrimeOf 16 = .ok (.getstatic 9, 3) := by decide +kernel
theorem dX9_smallestPrimeOf_19 : decode cX9_smallestPrimeOf 19 = .ok (.iload_n 2, 1) := by decide +kernel
theorem dX9_smallestPrimeOf_20 : decode cX9_smallestPrimeOf 20 = .ok (.iaload, 1) := by decide +kernel
theorem dX9_smallestPrimeOf_21 : decode cX9_smallestPrimeOf 21 = .ok (.irem, 1) := by decide +kernel
theorem dX9_smallestPrimeOf_22 : decode cX9_smallestPrimeOf 22 = .ok (.ifCond .ne 9, 3) := by decide +kernel
theorem dX9_smallestPrimeOf_25 : decode cX9_smallestPrimeOf 25 = .ok (.getstatic 9, 3) := by decide +kernel
theorem dX9_smallestPrimeOf_28 : decode cX9_smallestPrimeOf 28 = .ok (.iload_n 2, 1) := by decide +kernel
theorem dX9_smallestPrimeOf_29 : decode cX9_smallestPrimeOf 29 = .ok (.iaload, 1) := by decide +kernel
theorem dX9_smallestPrimeOf_30 : decode cX9_smallestPrimeOf 30 = .ok (.ireturn, 1) := by decide +kernel
theorem dX9_smallestPrimeOf_31 : decode cX9_smallestPrimeOf 31 = .ok (.iinc 2 1, 3) := by decide +kernel
theorem dX9_smallestPrimeOf_34 : decode cX9_smallestPrimeOf 34 = .ok (.goto (-32), 3) := by decide +kernel
theorem dX9_smallestPrimeOf_37 : decode cX9_smallestPrimeOf 37 = .ok (.iconst (-1), 1) := by decide +kernel
theorem dX9_smallestPrimeOf_38 : decode cX9_smallestPrimeOf 38 = .ok (.ireturn, 1) := by decide +kernel
theorem dX9_isFree_0 : decode cX9_isFree 0 = .ok (.iload_n 0, 1) := by decide +kernel
theorem dX9_isFree_1 : decode cX9_isFree 1 = .ok (.iload_n 1, 1) := by decide +kernel
theorem dX9_isFree_2 : decode cX9_isFree 2 = .ok (.invokestatic 18, 3) := by decide +kernel
theorem dX9_isFree_5 : decode cX9_isFree 5 = .ok (.iconst (-1), 1) := by decide +kernel
theorem dX9_isFree_6 : decode cX9_isFree 6 = .ok (.if_icmp .ne 7, 3) := by decide +kernel
theorem dX9_isFree_9 : decode cX9_isFree 9 = .ok (.iconst 1, 1) := by decide +kernel
theorem dX9_isFree_10 : decode cX9_isFree 10 = .ok (.goto 4, 3) := by decide +kernel
theorem dX9_isFree_13 : decode cX9_isFree 13 = .ok (.iconst 0, 1) := by decide +kernel
theorem dX9_isFree_14 : decode cX9_isFree 14 = .ok (.ireturn, 1) := by decide +kernel
theorem dX9_isOnSpoke_0 : decode cX9_isOnSpoke 0 = .ok (.iload_n 0, 1) := by decide +kernel
theorem dX9_isOnSpoke_1 : decode cX9_isOnSpoke 1 = .ok (.iload_n 1, 1) := by decide +kernel
theorem dX9_isOnSpoke_2 : decode cX9_isOnSpoke 2 = .ok (.invokestatic 18, 3) := by decide +kernel
theorem dX9_isOnSpoke_5 : decode cX9_isOnSpoke 5 = .ok (.istore_n 2, 1) := by decide +kernel
theorem dX9_isOnSpoke_6 : decode cX9_isOnSpoke 6 = .ok (.iload_n 2, 1) := by decide +kernel
theorem dX9_isOnSpoke_7 : decode cX9_isOnSpoke 7 = .ok (.iconst (-1), 1) := by decide +kernel
theorem dX9_isOnSpoke_8 : decode cX9_isOnSpoke 8 = .ok (.if_icmp .eq 8, 3) := by decide +kernel
theorem dX9_isOnSpoke_11 : decode cX9_isOnSpoke 11 = .ok (.iload_n 2, 1) := by decide +kernel
theorem dX9_isOnSpoke_12 : decode cX9_isOnSpoke 12 = .ok (.iload_n 0, 1) := by decide +kernel
theorem dX9_isOnSpoke_13 : decode cX9_isOnSpoke 13 = .ok (.if_icmp .ne 7, 3) := by decide +kernel
theorem dX9_isOnSpoke_16 : decode cX9_isOnSpoke 16 = .ok (.iconst 1, 1) := by decide +kernel
theorem dX9_isOnSpoke_17 : decode cX9_isOnSpoke 17 = .ok (.goto 4, 3) := by decide +kernel
theorem dX9_isOnSpoke_20 : decode cX9_isOnSpoke 20 = .ok (.iconst 0, 1) := by decide +kernel
theorem dX9_isOnSpoke_21 : decode cX9_isOnSpoke 21 = .ok (.ireturn, 1) := by decide +kernel
theorem dX9_spokesUpTo_0 : decode cX9_spokesUpTo 0 = .ok (.iconst 0, 1) := by decide +kernel
theorem dX9_spokesUpTo_1 : decode cX9_spokesUpTo 1 = .ok (.istore_n 2, 1) := by decide +kernel
theorem dX9_spokesUpTo_2 : decode cX9_spokesUpTo 2 = .ok (.iconst 1, 1) := by decide +kernel
theorem dX9_spokesUpTo_3 : decode cX9_spokesUpTo 3 = .ok (.istore_n 3, 1) := by decide +kernel
theorem dX9_spokesUpTo_4 : decode cX9_spokesUpTo 4 = .ok (.iload_n 3, 1) := by decide +kernel
theorem dX9_spokesUpTo_5 : decode cX9_spokesUpTo 5 = .ok (.iload_n 0, 1) := by decide +kernel
theorem dX9_spokesUpTo_6 : decode cX9_spokesUpTo 6 = .ok (.if_icmp .gt 20, 3) := by decide +kernel
theorem dX9_spokesUpTo_9 : decode cX9_spokesUpTo 9 = .ok (.iload_n 3, 1) := by decide +kernel
theorem dX9_spokesUpTo_10 : decode cX9_spokesUpTo 10 = .ok (.iload_n 1, 1) := by decide +kernel
theorem dX9_spokesUpTo_11 : decode cX9_spokesUpTo 11 = .ok (.invokestatic 22, 3) := by decide +kernel
theorem dX9_spokesUpTo_14 : decode cX9_spokesUpTo 14 = .ok (.ifCond .eq 6, 3) := by decide +kernel
theorem dX9_spokesUpTo_17 : decode cX9_spokesUpTo 17 = .ok (.iinc 2 1, 3) := by decide +kernel
theorem dX9_spokesUpTo_20 : decode cX9_spokesUpTo 20 = .ok (.iinc 3 1, 3) := by decide +kernel
theorem dX9_spokesUpTo_23 : decode cX9_spokesUpTo 23 = .ok (.goto (-19), 3) := by decide +kernel
theorem dX9_spokesUpTo_26 : decode cX9_spokesUpTo 26 = .ok (.iload_n 2, 1) := by decide +kernel
theorem dX9_spokesUpTo_27 : decode cX9_spokesUpTo 27 = .ok (.ireturn, 1) := by decide +kernel
theorem dX9_strikeAbove_0 : decode cX9_strikeAbove 0 = .ok (.iload_n 1, 1) := by decide +kernel
theorem dX9_strikeAbove_1 : decode cX9_strikeAbove 1 = .ok (.iconst 2, 1) := by decide +kernel
theorem dX9_strikeAbove_2 : decode cX9_strikeAbove 2 = .ok (.if_icmp .ge 5, 3) := by decide +kernel
theorem dX9_strikeAbove_5 : decode cX9_strikeAbove 5 = .ok (.iconst (-1), 1) := by decide +kernel
theorem dX9_strikeAbove_6 : decode cX9_strikeAbove 6 = .ok (.ireturn, 1) := by decide +kernel
theorem dX9_strikeAbove_7 : decode cX9_strikeAbove 7 = .ok (.iload_n 1, 1) := by decide +kernel
theorem dX9_strikeAbove_8 : decode cX9_strikeAbove 8 = .ok (.iload_n 1, 1) := by decide +kernel
theorem dX9_strikeAbove_9 : decode cX9_strikeAbove 9 = .ok (.imul, 1) := by decide +kernel
theorem dX9_strikeAbove_10 : decode cX9_strikeAbove 10 = .ok (.iload_n 0, 1) := by decide +kernel
theorem dX9_strikeAbove_11 : decode cX9_strikeAbove 11 = .ok (.iload_n 1, 1) := by decide +kernel
theorem dX9_strikeAbove_12 : decode cX9_strikeAbove 12 = .ok (.idiv, 1) := by decide +kernel
theorem dX9_strikeAbove_13 : decode cX9_strikeAbove 13 = .ok (.iconst 1, 1) := by decide +kernel
theorem dX9_strikeAbove_14 : decode cX9_strikeAbove 14 = .ok (.iadd, 1) := by decide +kernel
theorem dX9_strikeAbove_15 : decode cX9_strikeAbove 15 = .ok (.iload_n 1, 1) := by decide +kernel
theorem dX9_strikeAbove_16 : decode cX9_strikeAbove 16 = .ok (.imul, 1) := by decide +kernel
theorem dX9_strikeAbove_17 : decode cX9_strikeAbove 17 = .ok (.invokestatic 26, 3) := by decide +kernel
theorem dX9_strikeAbove_20 : decode cX9_strikeAbove 20 = .ok (.istore_n 3, 1) := by decide +kernel
theorem dX9_strikeAbove_21 : decode cX9_strikeAbove 21 = .ok (.iload_n 2, 1) := by decide +kernel
theorem dX9_strikeAbove_22 : decode cX9_strikeAbove 22 = .ok (.invokestatic 31, 3) := by decide +kernel
theorem dX9_strikeAbove_25 : decode cX9_strikeAbove 25 = .ok (.istore 4, 2) := by decide +kernel
theorem dX9_strikeAbove_27 : decode cX9_strikeAbove 27 = .ok (.iconst 0, 1) := by decide +kernel
theorem dX9_strikeAbove_28 : decode cX9_strikeAbove 28 = .ok (.istore 5, 2) := by decide +kernel
theorem dX9_strikeAbove_30 : decode cX9_strikeAbove 30 = .ok (.iload 5, 2) := by decide +kernel
theorem dX9_strikeAbove_32 : decode cX9_strikeAbove 32 = .ok (.iload 4, 2) := by decide +kernel
theorem dX9_strikeAbove_34 : decode cX9_strikeAbove 34 = .ok (.if_icmp .ge 23, 3) := by decide +kernel
theorem dX9_strikeAbove_37 : decode cX9_strikeAbove 37 = .ok (.iload_n 3, 1) := by decide +kernel
theorem dX9_strikeAbove_38 : decode cX9_strikeAbove 38 = .ok (.iload_n 2, 1) := by decide +kernel
theorem dX9_strikeAbove_39 : decode cX9_strikeAbove 39 = .ok (.invokestatic 35, 3) := by decide +kernel
theorem dX9_strikeAbove_42 : decode cX9_strikeAbove 42 = .ok (.ifCond .eq 5, 3) := by decide +kernel
theorem dX9_strikeAbove_45 : decode cX9_strikeAbove 45 = .ok (.iload_n 3, 1) := by decide +kernel
theorem dX9_strikeAbove_46 : decode cX9_strikeAbove 46 = .ok (.ireturn, 1) := by decide +kernel
theorem dX9_strikeAbove_47 : decode cX9_strikeAbove 47 = .ok (.iload_n 3, 1) := by decide +kernel
theorem dX9_strikeAbove_48 : decode cX9_strikeAbove 48 = .ok (.iload_n 1, 1) := by decide +kernel
theorem dX9_strikeAbove_49 : decode cX9_strikeAbove 49 = .ok (.iadd, 1) := by decide +kernel
theorem dX9_strikeAbove_50 : decode cX9_strikeAbove 50 = .ok (.istore_n 3, 1) := by decide +kernel
theorem dX9_strikeAbove_51 : decode cX9_strikeAbove 51 = .ok (.iinc 5 1, 3) := by decide +kernel
theorem dX9_strikeAbove_54 : decode cX9_strikeAbove 54 = .ok (.goto (-24), 3) := by decide +kernel
theorem dX9_strikeAbove_57 : decode cX9_strikeAbove 57 = .ok (.iconst (-1), 1) := by decide +kernel
theorem dX9_strikeAbove_58 : decode cX9_strikeAbove 58 = .ok (.ireturn, 1) := by decide +kernel
theorem dX9_isPrime_0 : decode cX9_isPrime 0 = .ok (.iconst 2, 1) := by decide +kernel
theorem dX9_isPrime_1 : decode cX9_isPrime 1 = .ok (.istore_n 1, 1) := by decide +kernel
theorem dX9_isPrime_2 : decode cX9_isPrime 2 = .ok (.iload_n 1, 1) := by decide +kernel
theorem dX9_isPrime_3 : decode cX9_isPrime 3 = .ok (.sipush 4801, 3) := by decide +kernel
theorem dX9_isPrime_6 : decode cX9_isPrime 6 = .ok (.if_icmp .gt 24, 3) := by decide +kernel
theorem dX9_isPrime_9 : decode cX9_isPrime 9 = .ok (.iload_n 1, 1) := by decide +kernel
theorem dX9_isPrime_10 : decode cX9_isPrime 10 = .ok (.iload_n 1, 1) := by decide +kernel
theorem dX9_isPrime_11 : decode cX9_isPrime 11 = .ok (.imul, 1) := by decide +kernel
theorem dX9_isPrime_12 : decode cX9_isPrime 12 = .ok (.iload_n 0, 1) := by decide +kernel
theorem dX9_isPrime_13 : decode cX9_isPrime 13 = .ok (.if_icmp .gt 17, 3) := by decide +kernel
theorem dX9_isPrime_16 : decode cX9_isPrime 16 = .ok (.iload_n 0, 1) := by decide +kernel
theorem dX9_isPrime_17 : decode cX9_isPrime 17 = .ok (.iload_n 1, 1) := by decide +kernel
theorem dX9_isPrime_18 : decode cX9_isPrime 18 = .ok (.irem, 1) := by decide +kernel
theorem dX9_isPrime_19 : decode cX9_isPrime 19 = .ok (.ifCond .ne 5, 3) := by decide +kernel
theorem dX9_isPrime_22 : decode cX9_isPrime 22 = .ok (.iconst 0, 1) := by decide +kernel
theorem dX9_isPrime_23 : decode cX9_isPrime 23 = .ok (.ireturn, 1) := by decide +kernel
theorem dX9_isPrime_24 : decode cX9_isPrime 24 = .ok (.iinc 1 1, 3) := by decide +kernel
theorem dX9_isPrime_27 : decode cX9_isPrime 27 = .ok (.goto (-25), 3) := by decide +kernel
theorem dX9_isPrime_30 : decode cX9_isPrime 30 = .ok (.iload_n 0, 1) := by decide +kernel
theorem dX9_isPrime_31 : decode cX9_isPrime 31 = .ok (.iconst 2, 1) := by decide +kernel
theorem dX9_isPrime_32 : decode cX9_isPrime 32 = .ok (.if_icmp .lt 7, 3) := by decide +kernel
theorem dX9_isPrime_35 : decode cX9_isPrime 35 = .ok (.iconst 1, 1) := by decide +kernel
theorem dX9_isPrime_36 : decode cX9_isPrime 36 = .ok (.goto 4, 3) := by decide +kernel
theorem dX9_isPrime_39 : decode cX9_isPrime 39 = .ok (.iconst 0, 1) := by decide +kernel
theorem dX9_isPrime_40 : decode cX9_isPrime 40 = .ok (.ireturn, 1) := by decide +kernel
theorem dX10_init_0 : decode cX10_init 0 = .ok (.aload_n 0, 1) := by decide +kernel
theorem dX10_init_1 : decode cX10_init 1 = .ok (.invokespecial 3, 3) := by decide +kernel
theorem dX10_init_4 : decode cX10_init 4 = .ok (.aload_n 0, 1) := by decide +kernel
theorem dX10_init_5 : decode cX10_init 5 = .ok (.new 9, 3) := by decide +kernel
theorem dX10_init_8 : decode cX10_init 8 = .ok (.dup, 1) := by decide +kernel
theorem dX10_init_9 : decode cX10_init 9 = .ok (.invokespecial 11, 3) := by decide +kernel
theorem dX10_init_12 : decode cX10_init 12 = .ok (.putfield 12, 3) := by decide +kernel
theorem dX10_init_15 : decode cX10_init 15 = .ok (.aload_n 0, 1) := by decide +kernel
theorem dX10_init_16 : decode cX10_init 16 = .ok (.new 9, 3) := by decide +kernel
theorem dX10_init_19 : decode cX10_init 19 = .ok (.dup, 1) := by decide +kernel
theorem dX10_init_20 : decode cX10_init 20 = .ok (.invokespecial 11, 3) := by decide +kernel
theorem dX10_init_23 : decode cX10_init 23 = .ok (.putfield 16, 3) := by decide +kernel
theorem dX10_init_26 : decode cX10_init 26 = .ok (.aload_n 0, 1) := by decide +kernel
theorem dX10_init_27 : decode cX10_init 27 = .ok (.new 9, 3) := by decide +kernel
theorem dX10_init_30 : decode cX10_init 30 = .ok (.dup, 1) := by decide +kernel
theorem dX10_init_31 : decode cX10_init 31 = .ok (.invokespecial 11, 3) := by decide +kernel
theorem dX10_init_34 : decode cX10_init 34 = .ok (.putfield 19, 3) := by decide +kernel
theorem dX10_init_37 : decode cX10_init 37 = .ok (.aload_n 0, 1) := by decide +kernel
theorem dX10_init_38 : decode cX10_init 38 = .ok (.new 9, 3) := by decide +kernel
theorem dX10_init_41 : decode cX10_init 41 = .ok (.dup, 1) := by decide +kernel
theorem dX10_init_42 : decode cX10_init 42 = .ok (.invokespecial 11, 3) := by decide +kernel
theorem dX10_init_45 : decode cX10_init 45 = .ok (.putfield 22, 3) := by decide +kernel
theorem dX10_init_48 : decode cX10_init 48 = .ok (.aload_n 0, 1) := by decide +kernel
theorem dX10_init_49 : decode cX10_init 49 = .ok (.iconst 0, 1) := by decide +kernel
theorem dX10_init_50 : decode cX10_init 50 = .ok (.putfield 25, 3) := by decide +kernel
theorem dX10_init_53 : decode cX10_init 53 = .ok (.aload_n 0, 1) := by decide +kernel
theorem dX10_init_54 : decode cX10_init 54 = .ok (.new 29, 3) := by decide +kernel
theorem dX10_init_57 : decode cX10_init 57 = .ok (.dup, 1) := by decide +kernel
theorem dX10_init_58 : decode cX10_init 58 = .ok (.invokespecial 31, 3) := by decide +kernel
theorem dX10_init_61 : decode cX10_init 61 = .ok (.putfield 32, 3) := by decide +kernel
theorem dX10_init_64 : decode cX10_init 64 = .ok (.aload_n 0, 1) := by decide +kernel
theorem dX10_init_65 : decode cX10_init 65 = .ok (.new 36, 3) := by decide +kernel
theorem dX10_init_68 : decode cX10_init 68 = .ok (.dup, 1) := by decide +kernel
theorem dX10_init_69 : decode cX10_init 69 = .ok (.invokespecial 38, 3) := by decide +kernel
theorem dX10_init_72 : decode cX10_init 72 = .ok (.putfield 39, 3) := by decide +kernel
theorem dX10_init_75 : decode cX10_init 75 = .ok (.aload_n 0, 1) := by decide +kernel
theorem dX10_init_76 : decode cX10_init 76 = .ok (.new 43, 3) := by decide +kernel
theorem dX10_init_79 : decode cX10_init 79 = .ok (.dup, 1) := by decide +kernel
theorem dX10_init_80 : decode cX10_init 80 = .ok (.invokespecial 45, 3) := by decide +kernel
theorem dX10_init_83 : decode cX10_init 83 = .ok (.putfield 46, 3) := by decide +kernel
theorem dX10_init_86 : decode cX10_init 86 = .ok (.aload_n 0, 1) := by decide +kernel
theorem dX10_init_87 : decode cX10_init 87 = .ok (.new 50, 3) := by decide +kernel
theorem dX10_init_90 : decode cX10_init 90 = .ok (.dup, 1) := by decide +kernel
theorem dX10_init_91 : decode cX10_init 91 = .ok (.aload_n 0, 1) := by decide +kernel
theorem dX10_init_92 : decode cX10_init 92 = .ok (.getfield 46, 3) := by decide +kernel
theorem dX10_init_95 : decode cX10_init 95 = .ok (.invokespecial 52, 3) := by decide +kernel
theorem dX10_init_98 : decode cX10_init 98 = .ok (.putfield 55, 3) := by decide +kernel
theorem dX10_init_101 : decode cX10_init 101 = .ok (.aload_n 0, 1) := by decide +kernel
theorem dX10_init_102 : decode cX10_init 102 = .ok (.new 59, 3) := by decide +kernel
theorem dX10_init_105 : decode cX10_init 105 = .ok (.dup, 1) := by decide +kernel
theorem dX10_init_106 : decode cX10_init 106 = .ok (.invokespecial 61, 3) := by decide +kernel
theorem dX10_init_109 : decode cX10_init 109 = .ok (.putfield 62, 3) := by decide +kernel
theorem dX10_init_112 : decode cX10_init 112 = .ok (.aload_n 0, 1) := by decide +kernel
theorem dX10_init_113 : decode cX10_init 113 = .ok (.new 66, 3) := by decide +kernel
theorem dX10_init_116 : decode cX10_init 116 = .ok (.dup, 1) := by decide +kernel
theorem dX10_init_117 : decode cX10_init 117 = .ok (.invokespecial 68, 3) := by decide +kernel
theorem dX10_init_120 : decode cX10_init 120 = .ok (.putfield 69, 3) := by decide +kernel
theorem dX10_init_123 : decode cX10_init 123 = .ok (.aload_n 0, 1) := by decide +kernel
theorem dX10_init_124 : decode cX10_init 124 = .ok (.iconst 5, 1) := by decide +kernel
theorem dX10_init_125 : decode cX10_init 125 = .ok (.newarray .int, 2) := by decide +kernel
theorem dX10_init_127 : decode cX10_init 127 = .ok (.putfield 73, 3) := by decide +kernel
theorem dX10_init_130 : decode cX10_init 130 = .ok (.aload_n 0, 1) := by decide +kernel
theorem dX10_init_131 : decode cX10_init 131 = .ok (.iconst (-1), 1) := by decide +kernel
theorem dX10_init_132 : decode cX10_init 132 = .ok (.putfield 77, 3) := by decide +kernel
theorem dX10_init_135 : decode cX10_init 135 = .ok (.aload_n 0, 1) := by decide +kernel
theorem dX10_init_136 : decode cX10_init 136 = .ok (.getfield 12, 3) := by decide +kernel
theorem dX10_init_139 : decode cX10_init 139 = .ok (.iconst 1, 1) := by decide +kernel
theorem dX10_init_140 : decode cX10_init 140 = .ok (.invokevirtual 81, 3) := by decide +kernel
theorem dX10_init_143 : decode cX10_init 143 = .ok (.aload_n 0, 1) := by decide +kernel
theorem dX10_init_144 : decode cX10_init 144 = .ok (.getfield 12, 3) := by decide +kernel
theorem dX10_init_147 : decode cX10_init 147 = .ok (.bipush 29, 2) := by decide +kernel
theorem dX10_init_149 : decode cX10_init 149 = .ok (.invokevirtual 85, 3) := by decide +kernel
theorem dX10_init_152 : decode cX10_init 152 = .ok (.aload_n 0, 1) := by decide +kernel
theorem dX10_init_153 : decode cX10_init 153 = .ok (.getfield 12, 3) := by decide +kernel
theorem dX10_init_156 : decode cX10_init 156 = .ok (.iconst 3, 1) := by decide +kernel
theorem dX10_init_157 : decode cX10_init 157 = .ok (.invokevirtual 88, 3) := by decide +kernel
theorem dX10_init_160 : decode cX10_init 160 = .ok (.return_, 1) := by decide +kernel
theorem dX10_feed_0 : decode cX10_feed 0 = .ok (.aload_n 0, 1) := by decide +kernel
theorem dX10_feed_1 : decode cX10_feed 1 = .ok (.getfield 46, 3) := by decide +kernel
theorem dX10_feed_4 : decode cX10_feed 4 = .ok (.invokevirtual 91, 3) := by decide +kernel
theorem dX10_feed_7 : decode cX10_feed 7 = .ok (.bipush 20, 2) := by decide +kernel
theorem dX10_feed_9 : decode cX10_feed 9 = .ok (.iadd, 1) := by decide +kernel
theorem dX10_feed_10 : decode cX10_feed 10 = .ok (.sipush 600, 3) := by decide +kernel
theorem dX10_feed_13 : decode cX10_feed 13 = .ok (.if_icmp .le 5, 3) := by decide +kernel
theorem dX10_feed_16 : decode cX10_feed 16 = .ok (.iconst (-1), 1) := by decide +kernel
theorem dX10_feed_17 : decode cX10_feed 17 = .ok (.ireturn, 1) := by decide +kernel
theorem dX10_feed_18 : decode cX10_feed 18 = .ok (.aload_n 0, 1) := by decide +kernel
theorem dX10_feed_19 : decode cX10_feed 19 = .ok (.getfield 46, 3) := by decide +kernel
theorem dX10_feed_22 : decode cX10_feed 22 = .ok (.iload_n 1, 1) := by decide +kernel
theorem dX10_feed_23 : decode cX10_feed 23 = .ok (.invokevirtual 95, 3) := by decide +kernel
theorem dX10_feed_26 : decode cX10_feed 26 = .ok (.aload_n 0, 1) := by decide +kernel
theorem dX10_feed_27 : decode cX10_feed 27 = .ok (.getfield 46, 3) := by decide +kernel
theorem dX10_feed_30 : decode cX10_feed 30 = .ok (.iload_n 2, 1) := by decide +kernel
theorem dX10_feed_31 : decode cX10_feed 31 = .ok (.invokevirtual 95, 3) := by decide +kernel
theorem dX10_feed_34 : decode cX10_feed 34 = .ok (.aload_n 0, 1) := by decide +kernel
theorem dX10_feed_35 : decode cX10_feed 35 = .ok (.getfield 46, 3) := by decide +kernel
theorem dX10_feed_38 : decode cX10_feed 38 = .ok (.iload_n 3, 1) := by decide +kernel
theorem dX10_feed_39 : decode cX10_feed 39 = .ok (.invokevirtual 95, 3) := by decide +kernel
theorem dX10_feed_42 : decode cX10_feed 42 = .ok (.aload_n 0, 1) := by decide +kernel
theorem dX10_feed_43 : decode cX10_feed 43 = .ok (.getfield 46, 3) := by decide +kernel
theorem dX10_feed_46 : decode cX10_feed 46 = .ok (.iload 4, 2) := by decide +kernel
theorem dX10_feed_48 : decode cX10_feed 48 = .ok (.invokevirtual 95, 3) := by decide +kernel
theorem dX10_feed_51 : decode cX10_feed 51 = .ok (.aload_n 0, 1) := by decide +kernel
theorem dX10_feed_52 : decode cX10_feed 52 = .ok (.getfield 46, 3) := by decide +kernel
theorem dX10_feed_55 : decode cX10_feed 55 = .ok (.iload 5, 2) := by decide +kernel
theorem dX10_feed_57 : decode cX10_feed 57 = .ok (.invokevirtual 95, 3) := by decide +kernel
theorem dX10_feed_60 : decode cX10_feed 60 = .ok (.aload_n 0, 1) := by decide +kernel
theorem dX10_feed_61 : decode cX10_feed 61 = .ok (.getfield 46, 3) := by decide +kernel
theorem dX10_feed_64 : decode cX10_feed 64 = .ok (.invokevirtual 91, 3) := by decide +kernel
theorem dX10_feed_67 : decode cX10_feed 67 = .ok (.ireturn, 1) := by decide +kernel
theorem dX10_load_0 : decode cX10_load 0 = .ok (.iload_n 1, 1) := by decide +kernel
theorem dX10_load_1 : decode cX10_load 1 = .ok (.iconst 0, 1) := by decide +kernel
theorem dX10_load_2 : decode cX10_load 2 = .ok (.aload_n 0, 1) := by decide +kernel
theorem dX10_load_3 : decode cX10_load 3 = .ok (.getfield 46, 3) := by decide +kernel
theorem dX10_load_6 : decode cX10_load 6 = .ok (.invokevirtual 91, 3) := by decide +kernel
theorem dX10_load_9 : decode cX10_load 9 = .ok (.invokestatic 98, 3) := by decide +kernel
theorem dX10_load_12 : decode cX10_load 12 = .ok (.aload_n 0, 1) := by decide +kernel
theorem dX10_load_13 : decode cX10_load 13 = .ok (.getfield 55, 3) := by decide +kernel
theorem dX10_load_16 : decode cX10_load 16 = .ok (.iload_n 1, 1) := by decide +kernel
theorem dX10_load_17 : decode cX10_load 17 = .ok (.aload_n 0, 1) := by decide +kernel
theorem dX10_load_18 : decode cX10_load 18 = .ok (.getfield 19, 3) := by decide +kernel
theorem dX10_load_21 : decode cX10_load 21 = .ok (.invokevirtual 102, 3) := by decide +kernel
theorem dX10_load_24 : decode cX10_load 24 = .ok (.istore_n 2, 1) := by decide +kernel
theorem dX10_load_25 : decode cX10_load 25 = .ok (.aload_n 0, 1) := by decide +kernel
theorem dX10_load_26 : decode cX10_load 26 = .ok (.invokevirtual 106, 3) := by decide +kernel
theorem dX10_load_29 : decode cX10_load 29 = .ok (.iload_n 2, 1) := by decide +kernel
theorem dX10_load_30 : decode cX10_load 30 = .ok (.ifCond .eq 8, 3) := by decide +kernel
theorem dX10_load_33 : decode cX10_load 33 = .ok (.bipush (-10), 2) := by decide +kernel
theorem dX10_load_35 : decode cX10_load 35 = .ok (.iload_n 2, 1) := by decide +kernel
theorem dX10_load_36 : decode cX10_load 36 = .ok (.isub, 1) := by decide +kernel
theorem dX10_load_37 : decode cX10_load 37 = .ok (.ireturn, 1) := by decide +kernel
theorem dX10_load_38 : decode cX10_load 38 = .ok (.aload_n 0, 1) := by decide +kernel
theorem dX10_load_39 : decode cX10_load 39 = .ok (.getfield 12, 3) := by decide +kernel
theorem dX10_load_42 : decode cX10_load 42 = .ok (.aload_n 0, 1) := by decide +kernel
theorem dX10_load_43 : decode cX10_load 43 = .ok (.getfield 19, 3) := by decide +kernel
theorem dX10_load_46 : decode cX10_load 46 = .ok (.invokevirtual 109, 3) := by decide +kernel
theorem dX10_load_49 : decode cX10_load 49 = .ok (.aload_n 0, 1) := by decide +kernel
theorem dX10_load_50 : decode cX10_load 50 = .ok (.getfield 32, 3) := by decide +kernel
theorem dX10_load_53 : decode cX10_load 53 = .ok (.invokevirtual 113, 3) := by decide +kernel
theorem dX10_load_56 : decode cX10_load 56 = .ok (.aload_n 0, 1) := by decide +kernel
theorem dX10_load_57 : decode cX10_load 57 = .ok (.iconst 0, 1) := by decide +kernel
theorem dX10_load_58 : decode cX10_load 58 = .ok (.putfield 25, 3) := by decide +kernel
theorem dX10_load_61 : decode cX10_load 61 = .ok (.aload_n 0, 1) := by decide +kernel
theorem dX10_load_62 : decode cX10_load 62 = .ok (.getfield 12, 3) := by decide +kernel
theorem dX10_load_65 : decode cX10_load 65 = .ok (.invokevirtual 116, 3) := by decide +kernel
theorem dX10_load_68 : decode cX10_load 68 = .ok (.ireturn, 1) := by decide +kernel
theorem dX10_errorPosition_0 : decode cX10_errorPosition 0 = .ok (.aload_n 0, 1) := by decide +kernel
theorem dX10_errorPosition_1 : decode cX10_errorPosition 1 = .ok (.getfield 77, 3) := by decide +kernel
theorem dX10_errorPosition_4 : decode cX10_errorPosition 4 = .ok (.ireturn, 1) := by decide +kernel
theorem dX10_size_0 : decode cX10_size 0 = .ok (.iload_n 1, 1) := by decide +kernel
theorem dX10_size_1 : decode cX10_size 1 = .ok (.iconst 0, 1) := by decide +kernel
theorem dX10_size_2 : decode cX10_size 2 = .ok (.bipush 9, 2) := by decide +kernel
theorem dX10_size_4 : decode cX10_size 4 = .ok (.invokestatic 98, 3) := by decide +kernel
theorem dX10_size_7 : decode cX10_size 7 = .ok (.iload_n 1, 1) := by decide +kernel
theorem dX10_size_8 : decode cX10_size 8 = .ok (.tableswitch 147 0 8 #[52, 60, 68, 76, 84, 92, 100, 111, 132], 52) := by decide +kernel
theorem dX10_size_60 : decode cX10_size 60 = .ok (.aload_n 0, 1) := by decide +kernel
theorem dX10_size_61 : decode cX10_size 61 = .ok (.getfield 12, 3) := by decide +kernel
theorem dX10_size_64 : decode cX10_size 64 = .ok (.invokevirtual 119, 3) := by decide +kernel
theorem dX10_size_67 : decode cX10_size 67 = .ok (.ireturn, 1) := by decide +kernel
theorem dX10_size_68 : decode cX10_size 68 = .ok (.aload_n 0, 1) := by decide +kernel
theorem dX10_size_69 : decode cX10_size 69 = .ok (.getfield 12, 3) := by decide +kernel
theorem dX10_size_72 : decode cX10_size 72 = .ok (.invokevirtual 122, 3) := by decide +kernel
theorem dX10_size_75 : decode cX10_size 75 = .ok (.ireturn, 1) := by decide +kernel
theorem dX10_size_76 : decode cX10_size 76 = .ok (.aload_n 0, 1) := by decide +kernel
theorem dX10_size_77 : decode cX10_size 77 = .ok (.getfield 12, 3) := by decide +kernel
theorem dX10_size_80 : decode cX10_size 80 = .ok (.invokevirtual 116, 3) := by decide +kernel
theorem dX10_size_83 : decode cX10_size 83 = .ok (.ireturn, 1) := by decide +kernel
theorem dX10_size_84 : decode cX10_size 84 = .ok (.aload_n 0, 1) := by decide +kernel
theorem dX10_size_85 : decode cX10_size 85 = .ok (.getfield 12, 3) := by decide +kernel
theorem dX10_size_88 : decode cX10_size 88 = .ok (.invokevirtual 125, 3) := by decide +kernel
theorem dX10_size_91 : decode cX10_size 91 = .ok (.ireturn, 1) := by decide +kernel
theorem dX10_size_92 : decode cX10_size 92 = .ok (.aload_n 0, 1) := by decide +kernel
theorem dX10_size_93 : decode cX10_size 93 = .ok (.invokevirtual 128, 3) := by decide +kernel
theorem dX10_size_96 : decode cX10_size 96 = .ok (.invokevirtual 132, 3) := by decide +kernel
theorem dX10_size_99 : decode cX10_size 99 = .ok (.ireturn, 1) := by decide +kernel
theorem dX10_size_100 : decode cX10_size 100 = .ok (.aload_n 0, 1) := by decide +kernel
theorem dX10_size_101 : decode cX10_size 101 = .ok (.invokevirtual 128, 3) := by decide +kernel
theorem dX10_size_104 : decode cX10_size 104 = .ok (.invokevirtual 135, 3) := by decide +kernel
theorem dX10_size_107 : decode cX10_size 107 = .ok (.ireturn, 1) := by decide +kernel
theorem dX10_size_108 : decode cX10_size 108 = .ok (.aload_n 0, 1) := by decide +kernel
theorem dX10_size_109 : decode cX10_size 109 = .ok (.getfield 12, 3) := by decide +kernel
theorem dX10_size_112 : decode cX10_size 112 = .ok (.invokevirtual 119, 3) := by decide +kernel
theorem dX10_size_115 : decode cX10_size 115 = .ok (.invokestatic 138, 3) := by decide +kernel
theorem dX10_size_118 : decode cX10_size 118 = .ok (.ireturn, 1) := by decide +kernel
theorem dX10_size_119 : decode cX10_size 119 = .ok (.aload_n 0, 1) := by decide +kernel
theorem dX10_size_120 : decode cX10_size 120 = .ok (.getfield 12, 3) := by decide +kernel
theorem dX10_size_123 : decode cX10_size 123 = .ok (.invokevirtual 119, 3) := by decide +kernel
theorem dX10_size_126 : decode cX10_size 126 = .ok (.invokestatic 138, 3) := by decide +kernel
theorem dX10_size_129 : decode cX10_size 129 = .ok (.aload_n 0, 1) := by decide +kernel
theorem dX10_size_130 : decode cX10_size 130 = .ok (.getfield 12, 3) := by decide +kernel
theorem dX10_size_133 : decode cX10_size 133 = .ok (.invokevirtual 119, 3) := by decide +kernel
theorem dX10_size_136 : decode cX10_size 136 = .ok (.invokestatic 144, 3) := by decide +kernel
theorem dX10_size_139 : decode cX10_size 139 = .ok (.ireturn, 1) := by decide +kernel
theorem dX10_size_140 : decode cX10_size 140 = .ok (.aload_n 0, 1) := by decide +kernel
theorem dX10_size_141 : decode cX10_size 141 = .ok (.getfield 12, 3) := by decide +kernel
theorem dX10_size_144 : decode cX10_size 144 = .ok (.aload_n 0, 1) := by decide +kernel
theorem dX10_size_145 : decode cX10_size 145 = .ok (.getfield 12, 3) := by decide +kernel
theorem dX10_size_148 : decode cX10_size 148 = .ok (.invokevirtual 119, 3) := by decide +kernel
theorem dX10_size_151 : decode cX10_size 151 = .ok (.invokevirtual 148, 3) := by decide +kernel
theorem dX10_size_154 : decode cX10_size 154 = .ok (.ireturn, 1) := by decide +kernel
theorem dX10_size_155 : decode cX10_size 155 = .ok (.aload_n 0, 1) := by decide +kernel
theorem dX10_size_156 : decode cX10_size 156 = .ok (.invokevirtual 151, 3) := by decide +kernel
theorem dX10_size_159 : decode cX10_size 159 = .ok (.ireturn, 1) := by decide +kernel
theorem dX10_account_0 : decode cX10_account 0 = .ok (.iload_n 1, 1) := by decide +kernel
theorem dX10_account_1 : decode cX10_account 1 = .ok (.iconst 0, 1) := by decide +kernel
theorem dX10_account_2 : decode cX10_account 2 = .ok (.iconst 4, 1) := by decide +kernel
theorem dX10_account_3 : decode cX10_account 3 = .ok (.invokestatic 98, 3) := by decide +kernel
theorem dX10_account_6 : decode cX10_account 6 = .ok (.aload_n 0, 1) := by decide +kernel
theorem dX10_account_7 : decode cX10_account 7 = .ok (.getfield 73, 3) := by decide +kernel
theorem dX10_account_10 : decode cX10_account 10 = .ok (.iload_n 1, 1) := by decide +kernel
theorem dX10_account_11 : decode cX10_account 11 = .ok (.iaload, 1) := by decide +kernel
theorem dX10_account_12 : decode cX10_account 12 = .ok (.ireturn, 1) := by decide +kernel
theorem dX10_stretch_0 : decode cX10_stretch 0 = .ok (.aload_n 0, 1) := by decide +kernel
theorem dX10_stretch_1 : decode cX10_stretch 1 = .ok (.iload_n 1, 1) := by decide +kernel
theorem dX10_stretch_2 : decode cX10_stretch 2 = .ok (.invokevirtual 154, 3) := by decide +kernel
theorem dX10_stretch_5 : decode cX10_stretch 5 = .ok (.iload_n 2, 1) := by decide +kernel
theorem dX10_stretch_6 : decode cX10_stretch 6 = .ok (.iconst 0, 1) := by decide +kernel
theorem dX10_stretch_7 : decode cX10_stretch 7 = .ok (.iconst 5, 1) := by decide +kernel
theorem dX10_stretch_8 : decode cX10_stretch 8 = .ok (.invokestatic 98, 3) := by decide +kernel
theorem dX10_stretch_11 : decode cX10_stretch 11 = .ok (.aload_n 0, 1) := by decide +kernel
theorem dX10_stretch_12 : decode cX10_stretch 12 = .ok (.getfield 12, 3) := by decide +kernel
theorem dX10_stretch_15 : decode cX10_stretch 15 = .ok (.iload_n 1, 1) := by decide +kernel
theorem dX10_stretch_16 : decode cX10_stretch 16 = .ok (.invokevirtual 157, 3) := by decide +kernel
theorem dX10_stretch_19 : decode cX10_stretch 19 = .ok (.istore_n 3, 1) := by decide +kernel
theorem dX10_stretch_20 : decode cX10_stretch 20 = .ok (.aload_n 0, 1) := by decide +kernel
theorem dX10_stretch_21 : decode cX10_stretch 21 = .ok (.getfield 12, 3) := by decide +kernel
theorem dX10_stretch_24 : decode cX10_stretch 24 = .ok (.iload_n 1, 1) := by decide +kernel
theorem dX10_stretch_25 : decode cX10_stretch 25 = .ok (.invokevirtual 160, 3) := by decide +kernel
theorem dX10_stretch_28 : decode cX10_stretch 28 = .ok (.istore 4, 2) := by decide +kernel
theorem dX10_stretch_30 : decode cX10_stretch 30 = .ok (.iload_n 2, 1) := by decide +kernel
theorem dX10_stretch_31 : decode cX10_stretch 31 = .ok (.tableswitch 77 0 4 #[33, 35, 38, 49, 60], 33) := by decide +kernel
theorem dX10_stretch_64 : decode cX10_stretch 64 = .ok (.iload_n 3, 1) := by decide +kernel
theorem dX10_stretch_65 : decode cX10_stretch 65 = .ok (.ireturn, 1) := by decide +kernel
theorem dX10_stretch_66 : decode cX10_stretch 66 = .ok (.iload 4, 2) := by decide +kernel
theorem dX10_stretch_68 : decode cX10_stretch 68 = .ok (.ireturn, 1) := by decide +kernel
theorem dX10_stretch_69 : decode cX10_stretch 69 = .ok (.aload_n 0, 1) := by decide +kernel
theorem dX10_stretch_70 : decode cX10_stretch 70 = .ok (.invokevirtual 128, 3) := by decide +kernel
theorem dX10_stretch_73 : decode cX10_stretch 73 = .ok (.iload_n 3, 1) := by decide +kernel
theorem dX10_stretch_74 : decode cX10_stretch 74 = .ok (.iload 4, 2) := by decide +kernel
theorem dX10_stretch_76 : decode cX10_stretch 76 = .ok (.invokevirtual 163, 3) := by decide +kernel
theorem dX10_stretch_79 : decode cX10_stretch 79 = .ok (.ireturn, 1) := by decide +kernel
theorem dX10_stretch_80 : decode cX10_stretch 80 = .ok (.aload_n 0, 1) := by decide +kernel
theorem dX10_stretch_81 : decode cX10_stretch 81 = .ok (.invokevirtual 128, 3) := by decide +kernel
theorem dX10_stretch_84 : decode cX10_stretch 84 = .ok (.iload_n 3, 1) := by decide +kernel
theorem dX10_stretch_85 : decode cX10_stretch 85 = .ok (.iload 4, 2) := by decide +kernel
theorem dX10_stretch_87 : decode cX10_stretch 87 = .ok (.invokevirtual 166, 3) := by decide +kernel
theorem dX10_stretch_90 : decode cX10_stretch 90 = .ok (.ireturn, 1) := by decide +kernel
theorem dX10_stretch_91 : decode cX10_stretch 91 = .ok (.aload_n 0, 1) := by decide +kernel
theorem dX10_stretch_92 : decode cX10_stretch 92 = .ok (.invokevirtual 128, 3) := by decide +kernel
theorem dX10_stretch_95 : decode cX10_stretch 95 = .ok (.iload_n 3, 1) := by decide +kernel
theorem dX10_stretch_96 : decode cX10_stretch 96 = .ok (.iconst 1, 1) := by decide +kernel
theorem dX10_stretch_97 : decode cX10_stretch 97 = .ok (.isub, 1) := by decide +kernel
theorem dX10_stretch_98 : decode cX10_stretch 98 = .ok (.invokevirtual 169, 3) := by decide +kernel
theorem dX10_stretch_101 : decode cX10_stretch 101 = .ok (.iload_n 3, 1) := by decide +kernel
theorem dX10_stretch_102 : decode cX10_stretch 102 = .ok (.iload 4, 2) := by decide +kernel
theorem dX10_stretch_104 : decode cX10_stretch 104 = .ok (.invokestatic 172, 3) := by decide +kernel
theorem dX10_stretch_107 : decode cX10_stretch 107 = .ok (.ireturn, 1) := by decide +kernel
theorem dX10_stretch_108 : decode cX10_stretch 108 = .ok (.aload_n 0, 1) := by decide +kernel
theorem dX10_stretch_109 : decode cX10_stretch 109 = .ok (.invokevirtual 128, 3) := by decide +kernel
theorem dX10_stretch_112 : decode cX10_stretch 112 = .ok (.iload 4, 2) := by decide +kernel
theorem dX10_stretch_114 : decode cX10_stretch 114 = .ok (.iconst 1, 1) := by decide +kernel
theorem dX10_stretch_115 : decode cX10_stretch 115 = .ok (.iadd, 1) := by decide +kernel
theorem dX10_stretch_116 : decode cX10_stretch 116 = .ok (.invokevirtual 176, 3) := by decide +kernel
theorem dX10_stretch_119 : decode cX10_stretch 119 = .ok (.iload_n 3, 1) := by decide +kernel
theorem dX10_stretch_120 : decode cX10_stretch 120 = .ok (.iload 4, 2) := by decide +kernel
theorem dX10_stretch_122 : decode cX10_stretch 122 = .ok (.invokestatic 172, 3) := by decide +kernel
theorem dX10_stretch_125 : decode cX10_stretch 125 = .ok (.ireturn, 1) := by decide +kernel
theorem dX10_striker_0 : decode cX10_striker 0 = .ok (.aload_n 0, 1) := by decide +kernel
theorem dX10_striker_1 : decode cX10_striker 1 = .ok (.iload_n 1, 1) := by decide +kernel
theorem dX10_striker_2 : decode cX10_striker 2 = .ok (.invokevirtual 179, 3) := by decide +kernel
theorem dX10_striker_5 : decode cX10_striker 5 = .ok (.iload_n 2, 1) := by decide +kernel
theorem dX10_striker_6 : decode cX10_striker 6 = .ok (.iconst 0, 1) := by decide +kernel
theorem dX10_striker_7 : decode cX10_striker 7 = .ok (.iconst 5, 1) := by decide +kernel
theorem dX10_striker_8 : decode cX10_striker 8 = .ok (.invokestatic 98, 3) := by decide +kernel
theorem dX10_striker_11 : decode cX10_striker 11 = .ok (.aload_n 0, 1) := by decide +kernel
theorem dX10_striker_12 : decode cX10_striker 12 = .ok (.getfield 12, 3) := by decide +kernel
theorem dX10_striker_15 : decode cX10_striker 15 = .ok (.iload_n 1, 1) := by decide +kernel
theorem dX10_striker_16 : decode cX10_striker 16 = .ok (.invokevirtual 182, 3) := by decide +kernel
theorem dX10_striker_19 : decode cX10_striker 19 = .ok (.istore_n 3, 1) := by decide +kernel
theorem dX10_striker_20 : decode cX10_striker 20 = .ok (.iload_n 2, 1) := by decide +kernel
theorem dX10_striker_21 : decode cX10_striker 21 = .ok (.tableswitch 87 0 4 #[35, 37, 46, 55, 74], 35) := by decide +kernel
theorem dX10_striker_56 : decode cX10_striker 56 = .ok (.iload_n 3, 1) := by decide +kernel
theorem dX10_striker_57 : decode cX10_striker 57 = .ok (.ireturn, 1) := by decide +kernel
theorem dX10_striker_58 : decode cX10_striker 58 = .ok (.aload_n 0, 1) := by decide +kernel
theorem dX10_striker_59 : decode cX10_striker 59 = .ok (.invokevirtual 128, 3) := by decide +kernel
theorem dX10_striker_62 : decode cX10_striker 62 = .ok (.iload_n 3, 1) := by decide +kernel
theorem dX10_striker_63 : decode cX10_striker 63 = .ok (.invokevirtual 185, 3) := by decide +kernel
theorem dX10_striker_66 : decode cX10_striker 66 = .ok (.ireturn, 1) := by decide +kernel
theorem dX10_striker_67 : decode cX10_striker 67 = .ok (.aload_n 0, 1) := by decide +kernel
theorem dX10_striker_68 : decode cX10_striker 68 = .ok (.invokevirtual 128, 3) := by decide +kernel
theorem dX10_striker_71 : decode cX10_striker 71 = .ok (.iload_n 3, 1) := by decide +kernel
theorem dX10_striker_72 : decode cX10_striker 72 = .ok (.invokevirtual 188, 3) := by decide +kernel
theorem dX10_striker_75 : decode cX10_striker 75 = .ok (.ireturn, 1) := by decide +kernel
theorem dX10_striker_76 : decode cX10_striker 76 = .ok (.aload_n 0, 1) := by decide +kernel
theorem dX10_striker_77 : decode cX10_striker 77 = .ok (.getfield 12, 3) := by decide +kernel
theorem dX10_striker_80 : decode cX10_striker 80 = .ok (.invokevirtual 116, 3) := by decide +kernel
theorem dX10_striker_83 : decode cX10_striker 83 = .ok (.iload_n 3, 1) := by decide +kernel
theorem dX10_striker_84 : decode cX10_striker 84 = .ok (.aload_n 0, 1) := by decide +kernel
theorem dX10_striker_85 : decode cX10_striker 85 = .ok (.getfield 12, 3) := by decide +kernel
theorem dX10_striker_88 : decode cX10_striker 88 = .ok (.invokevirtual 119, 3) := by decide +kernel
theorem dX10_striker_91 : decode cX10_striker 91 = .ok (.invokestatic 191, 3) := by decide +kernel
theorem dX10_striker_94 : decode cX10_striker 94 = .ok (.ireturn, 1) := by decide +kernel
theorem dX10_striker_95 : decode cX10_striker 95 = .ok (.iload_n 3, 1) := by decide +kernel
theorem dX10_striker_96 : decode cX10_striker 96 = .ok (.invokestatic 194, 3) := by decide +kernel
theorem dX10_striker_99 : decode cX10_striker 99 = .ok (.ifCond .eq 7, 3) := by decide +kernel
theorem dX10_striker_102 : decode cX10_striker 102 = .ok (.iconst 1, 1) := by decide +kernel
theorem dX10_striker_103 : decode cX10_striker 103 = .ok (.goto 4, 3) := by decide +kernel
theorem dX10_striker_106 : decode cX10_striker 106 = .ok (.iconst 0, 1) := by decide +kernel
theorem dX10_striker_107 : decode cX10_striker 107 = .ok (.ireturn, 1) := by decide +kernel
theorem dX10_striker_108 : decode cX10_striker 108 = .ok (.aload_n 0, 1) := by decide +kernel
theorem dX10_striker_109 : decode cX10_striker 109 = .ok (.invokevirtual 128, 3) := by decide +kernel
theorem dX10_striker_112 : decode cX10_striker 112 = .ok (.iload_n 3, 1) := by decide +kernel
theorem dX10_striker_113 : decode cX10_striker 113 = .ok (.invokevirtual 198, 3) := by decide +kernel
theorem dX10_striker_116 : decode cX10_striker 116 = .ok (.ireturn, 1) := by decide +kernel
theorem dX10_find_0 : decode cX10_find 0 = .ok (.aload_n 0, 1) := by decide +kernel
theorem dX10_find_1 : decode cX10_find 1 = .ok (.getfield 12, 3) := by decide +kernel
theorem dX10_find_4 : decode cX10_find 4 = .ok (.iload_n 1, 1) := by decide +kernel
theorem dX10_find_5 : decode cX10_find 5 = .ok (.invokevirtual 201, 3) := by decide +kernel
theorem dX10_find_8 : decode cX10_find 8 = .ok (.ireturn, 1) := by decide +kernel
theorem dX10_at_0 : decode cX10_at 0 = .ok (.aload_n 0, 1) := by decide +kernel
theorem dX10_at_1 : decode cX10_at 1 = .ok (.invokevirtual 128, 3) := by decide +kernel
theorem dX10_at_4 : decode cX10_at 4 = .ok (.iload_n 1, 1) := by decide +kernel
theorem dX10_at_5 : decode cX10_at 5 = .ok (.invokevirtual 204, 3) := by decide +kernel
theorem dX10_at_8 : decode cX10_at 8 = .ok (.istore_n 2, 1) := by decide +kernel
theorem dX10_at_9 : decode cX10_at 9 = .ok (.iload_n 2, 1) := by decide +kernel
theorem dX10_at_10 : decode cX10_at 10 = .ok (.tableswitch 32 (-2) 0 #[26, 28, 30], 26) := by decide +kernel
theorem dX10_at_36 : decode cX10_at 36 = .ok (.iconst 3, 1) := by decide +kernel
theorem dX10_at_37 : decode cX10_at 37 = .ok (.ireturn, 1) := by decide +kernel
theorem dX10_at_38 : decode cX10_at 38 = .ok (.iconst 1, 1) := by decide +kernel
theorem dX10_at_39 : decode cX10_at 39 = .ok (.ireturn, 1) := by decide +kernel
theorem dX10_at_40 : decode cX10_at 40 = .ok (.iconst 0, 1) := by decide +kernel
theorem dX10_at_41 : decode cX10_at 41 = .ok (.ireturn, 1) := by decide +kernel
theorem dX10_at_42 : decode cX10_at 42 = .ok (.iconst 2, 1) := by decide +kernel
theorem dX10_at_43 : decode cX10_at 43 = .ok (.ireturn, 1) := by decide +kernel
theorem dX10_cause_0 : decode cX10_cause 0 = .ok (.aload_n 0, 1) := by decide +kernel
theorem dX10_cause_1 : decode cX10_cause 1 = .ok (.invokevirtual 128, 3) := by decide +kernel
theorem dX10_cause_4 : decode cX10_cause 4 = .ok (.iload_n 1, 1) := by decide +kernel
theorem dX10_cause_5 : decode cX10_cause 5 = .ok (.invokevirtual 204, 3) := by decide +kernel
theorem dX10_cause_8 : decode cX10_cause 8 = .ok (.istore_n 2, 1) := by decide +kernel
theorem dX10_cause_9 : decode cX10_cause 9 = .ok (.iload_n 2, 1) := by decide +kernel
theorem dX10_cause_10 : decode cX10_cause 10 = .ok (.tableswitch 48 (-2) 0 #[26, 34, 46], 26) := by decide +kernel
theorem dX10_cause_36 : decode cX10_cause 36 = .ok (.aload_n 0, 1) := by decide +kernel
theorem dX10_cause_37 : decode cX10_cause 37 = .ok (.getfield 12, 3) := by decide +kernel
theorem dX10_cause_40 : decode cX10_cause 40 = .ok (.invokevirtual 116, 3) := by decide +kernel
theorem dX10_cause_43 : decode cX10_cause 43 = .ok (.ireturn, 1) := by decide +kernel
theorem dX10_cause_44 : decode cX10_cause 44 = .ok (.iload_n 1, 1) := by decide +kernel
theorem dX10_cause_45 : decode cX10_cause 45 = .ok (.aload_n 0, 1) := by decide +kernel
theorem dX10_cause_46 : decode cX10_cause 46 = .ok (.getfield 12, 3) := by decide +kernel
theorem dX10_cause_49 : decode cX10_cause 49 = .ok (.invokevirtual 119, 3) := by decide +kernel
theorem dX10_cause_52 : decode cX10_cause 52 = .ok (.invokestatic 207, 3) := by decide +kernel
theorem dX10_cause_55 : decode cX10_cause 55 = .ok (.ireturn, 1) := by decide +kernel
theorem dX10_cause_56 : decode cX10_cause 56 = .ok (.iconst 0, 1) := by decide +kernel
theorem dX10_cause_57 : decode cX10_cause 57 = .ok (.ireturn, 1) := by decide +kernel
theorem dX10_cause_58 : decode cX10_cause 58 = .ok (.iload_n 2, 1) := by decide +kernel
theorem dX10_cause_59 : decode cX10_cause 59 = .ok (.ireturn, 1) := by decide +kernel
theorem dX10_struck_0 : decode cX10_struck 0 = .ok (.aload_n 0, 1) := by decide +kernel
theorem dX10_struck_1 : decode cX10_struck 1 = .ok (.invokevirtual 128, 3) := by decide +kernel
theorem dX10_struck_4 : decode cX10_struck 4 = .ok (.iload_n 1, 1) := by decide +kernel
theorem dX10_struck_5 : decode cX10_struck 5 = .ok (.invokevirtual 204, 3) := by decide +kernel
theorem dX10_struck_8 : decode cX10_struck 8 = .ok (.istore_n 2, 1) := by decide +kernel
theorem dX10_struck_9 : decode cX10_struck 9 = .ok (.iload_n 2, 1) := by decide +kernel
theorem dX10_struck_10 : decode cX10_struck 10 = .ok (.bipush (-2), 2) := by decide +kernel
theorem dX10_struck_12 : decode cX10_struck 12 = .ok (.if_icmp .ne 11, 3) := by decide +kernel
theorem dX10_struck_15 : decode cX10_struck 15 = .ok (.new 210, 3) := by decide +kernel
theorem dX10_struck_18 : decode cX10_struck 18 = .ok (.dup, 1) := by decide +kernel
theorem dX10_struck_19 : decode cX10_struck 19 = .ok (.invokespecial 212, 3) := by decide +kernel
theorem dX10_struck_22 : decode cX10_struck 22 = .ok (.athrow, 1) := by decide +kernel
theorem dX10_struck_23 : decode cX10_struck 23 = .ok (.iload_n 2, 1) := by decide +kernel
theorem dX10_struck_24 : decode cX10_struck 24 = .ok (.iconst (-1), 1) := by decide +kernel
theorem dX10_struck_25 : decode cX10_struck 25 = .ok (.if_icmp .ne 7, 3) := by decide +kernel
theorem dX10_struck_28 : decode cX10_struck 28 = .ok (.iconst 0, 1) := by decide +kernel
theorem dX10_struck_29 : decode cX10_struck 29 = .ok (.goto 19, 3) := by decide +kernel
theorem dX10_struck_32 : decode cX10_struck 32 = .ok (.aload_n 0, 1) := by decide +kernel
theorem dX10_struck_33 : decode cX10_struck 33 = .ok (.getfield 12, 3) := by decide +kernel
theorem dX10_struck_36 : decode cX10_struck 36 = .ok (.iload_n 1, 1) := by decide +kernel
theorem dX10_struck_37 : decode cX10_struck 37 = .ok (.iconst 0, 1) := by decide +kernel
theorem dX10_struck_38 : decode cX10_struck 38 = .ok (.aload_n 0, 1) := by decide +kernel
theorem dX10_struck_39 : decode cX10_struck 39 = .ok (.getfield 12, 3) := by decide +kernel
theorem dX10_struck_42 : decode cX10_struck 42 = .ok (.invokevirtual 125, 3) := by decide +kernel
theorem dX10_struck_45 : decode cX10_struck 45 = .ok (.invokevirtual 213, 3) := by decide +kernel
theorem dX10_struck_48 : decode cX10_struck 48 = .ok (.ireturn, 1) := by decide +kernel
theorem dX10_spokeAt_0 : decode cX10_spokeAt 0 = .ok (.aload_n 0, 1) := by decide +kernel
theorem dX10_spokeAt_1 : decode cX10_spokeAt 1 = .ok (.getfield 12, 3) := by decide +kernel
theorem dX10_spokeAt_4 : decode cX10_spokeAt 4 = .ok (.invokevirtual 119, 3) := by decide +kernel
theorem dX10_spokeAt_7 : decode cX10_spokeAt 7 = .ok (.istore_n 2, 1) := by decide +kernel
theorem dX10_spokeAt_8 : decode cX10_spokeAt 8 = .ok (.iload_n 2, 1) := by decide +kernel
theorem dX10_spokeAt_9 : decode cX10_spokeAt 9 = .ok (.invokestatic 138, 3) := by decide +kernel
theorem dX10_spokeAt_12 : decode cX10_spokeAt 12 = .ok (.istore_n 3, 1) := by decide +kernel
theorem dX10_spokeAt_13 : decode cX10_spokeAt 13 = .ok (.iload_n 1, 1) := by decide +kernel
theorem dX10_spokeAt_14 : decode cX10_spokeAt 14 = .ok (.istore 4, 2) := by decide +kernel
theorem dX10_spokeAt_16 : decode cX10_spokeAt 16 = .ok (.iconst 1, 1) := by decide +kernel
theorem dX10_spokeAt_17 : decode cX10_spokeAt 17 = .ok (.istore 5, 2) := by decide +kernel
theorem dX10_spokeAt_19 : decode cX10_spokeAt 19 = .ok (.iload 5, 2) := by decide +kernel
theorem dX10_spokeAt_21 : decode cX10_spokeAt 21 = .ok (.iload_n 3, 1) := by decide +kernel
theorem dX10_spokeAt_22 : decode cX10_spokeAt 22 = .ok (.if_icmp .gt 34, 3) := by decide +kernel
theorem dX10_spokeAt_25 : decode cX10_spokeAt 25 = .ok (.iload 4, 2) := by decide +kernel
theorem dX10_spokeAt_27 : decode cX10_spokeAt 27 = .ok (.ifCond .lt 29, 3) := by decide +kernel
theorem dX10_spokeAt_30 : decode cX10_spokeAt 30 = .ok (.iload 5, 2) := by decide +kernel
theorem dX10_spokeAt_32 : decode cX10_spokeAt 32 = .ok (.iload_n 2, 1) := by decide +kernel
theorem dX10_spokeAt_33 : decode cX10_spokeAt 33 = .ok (.invokestatic 216, 3) := by decide +kernel
theorem dX10_spokeAt_36 : decode cX10_spokeAt 36 = .ok (.ifCond .eq 14, 3) := by decide +kernel
theorem dX10_spokeAt_39 : decode cX10_spokeAt 39 = .ok (.iload 4, 2) := by decide +kernel
theorem dX10_spokeAt_41 : decode cX10_spokeAt 41 = .ok (.ifCond .ne 6, 3) := by decide +kernel
theorem dX10_spokeAt_44 : decode cX10_spokeAt 44 = .ok (.iload 5, 2) := by decide +kernel
theorem dX10_spokeAt_46 : decode cX10_spokeAt 46 = .ok (.ireturn, 1) := by decide +kernel
theorem dX10_spokeAt_47 : decode cX10_spokeAt 47 = .ok (.iinc 4 (-1), 3) := by decide +kernel
theorem dX10_spokeAt_50 : decode cX10_spokeAt 50 = .ok (.iinc 5 1, 3) := by decide +kernel
theorem dX10_spokeAt_53 : decode cX10_spokeAt 53 = .ok (.goto (-34), 3) := by decide +kernel
theorem dX10_spokeAt_56 : decode cX10_spokeAt 56 = .ok (.iconst (-1), 1) := by decide +kernel
theorem dX10_spokeAt_57 : decode cX10_spokeAt 57 = .ok (.ireturn, 1) := by decide +kernel
theorem dX10_spokeOf_0 : decode cX10_spokeOf 0 = .ok (.iload_n 1, 1) := by decide +kernel
theorem dX10_spokeOf_1 : decode cX10_spokeOf 1 = .ok (.iconst 1, 1) := by decide +kernel
theorem dX10_spokeOf_2 : decode cX10_spokeOf 2 = .ok (.if_icmp .ge 5, 3) := by decide +kernel
theorem dX10_spokeOf_5 : decode cX10_spokeOf 5 = .ok (.iconst (-1), 1) := by decide +kernel
theorem dX10_spokeOf_6 : decode cX10_spokeOf 6 = .ok (.ireturn, 1) := by decide +kernel
theorem dX10_spokeOf_7 : decode cX10_spokeOf 7 = .ok (.aload_n 0, 1) := by decide +kernel
theorem dX10_spokeOf_8 : decode cX10_spokeOf 8 = .ok (.getfield 12, 3) := by decide +kernel
theorem dX10_spokeOf_11 : decode cX10_spokeOf 11 = .ok (.invokevirtual 119, 3) := by decide +kernel
theorem dX10_spokeOf_14 : decode cX10_spokeOf 14 = .ok (.istore_n 2, 1) := by decide +kernel
theorem dX10_spokeOf_15 : decode cX10_spokeOf 15 = .ok (.iload_n 2, 1) := by decide +kernel
theorem dX10_spokeOf_16 : decode cX10_spokeOf 16 = .ok (.invokestatic 138, 3) := by decide +kernel
theorem dX10_spokeOf_19 : decode cX10_spokeOf 19 = .ok (.iconst 1, 1) := by decide +kernel
theorem dX10_spokeOf_20 : decode cX10_spokeOf 20 = .ok (.invokestatic 220, 3) := by decide +kernel
theorem dX10_spokeOf_23 : decode cX10_spokeOf 23 = .ok (.istore_n 3, 1) := by decide +kernel
theorem dX10_spokeOf_24 : decode cX10_spokeOf 24 = .ok (.iload_n 1, 1) := by decide +kernel
theorem dX10_spokeOf_25 : decode cX10_spokeOf 25 = .ok (.iconst 1, 1) := by decide +kernel
theorem dX10_spokeOf_26 : decode cX10_spokeOf 26 = .ok (.isub, 1) := by decide +kernel
theorem dX10_spokeOf_27 : decode cX10_spokeOf 27 = .ok (.iload_n 3, 1) := by decide +kernel
theorem dX10_spokeOf_28 : decode cX10_spokeOf 28 = .ok (.irem, 1) := by decide +kernel
theorem dX10_spokeOf_29 : decode cX10_spokeOf 29 = .ok (.iconst 1, 1) := by decide +kernel
theorem dX10_spokeOf_30 : decode cX10_spokeOf 30 = .ok (.iadd, 1) := by decide +kernel
theorem dX10_spokeOf_31 : decode cX10_spokeOf 31 = .ok (.istore 4, 2) := by decide +kernel
theorem dX10_spokeOf_33 : decode cX10_spokeOf 33 = .ok (.iload 4, 2) := by decide +kernel
theorem dX10_spokeOf_35 : decode cX10_spokeOf 35 = .ok (.iload_n 2, 1) := by decide +kernel
theorem dX10_spokeOf_36 : decode cX10_spokeOf 36 = .ok (.invokestatic 216, 3) := by decide +kernel
theorem dX10_spokeOf_39 : decode cX10_spokeOf 39 = .ok (.ifCond .eq 14, 3) := by decide +kernel
theorem dX10_spokeOf_42 : decode cX10_spokeOf 42 = .ok (.iload 4, 2) := by decide +kernel
theorem dX10_spokeOf_44 : decode cX10_spokeOf 44 = .ok (.iload_n 2, 1) := by decide +kernel
theorem dX10_spokeOf_45 : decode cX10_spokeOf 45 = .ok (.invokestatic 144, 3) := by decide +kernel
theorem dX10_spokeOf_48 : decode cX10_spokeOf 48 = .ok (.iconst 1, 1) := by decide +kernel
theorem dX10_spokeOf_49 : decode cX10_spokeOf 49 = .ok (.isub, 1) := by decide +kernel
theorem dX10_spokeOf_50 : decode cX10_spokeOf 50 = .ok (.goto 4, 3) := by decide +kernel
theorem dX10_spokeOf_53 : decode cX10_spokeOf 53 = .ok (.iconst (-1), 1) := by decide +kernel
theorem dX10_spokeOf_54 : decode cX10_spokeOf 54 = .ok (.ireturn, 1) := by decide +kernel
theorem dX10_both_0 : decode cX10_both 0 = .ok (.aload_n 0, 1) := by decide +kernel
theorem dX10_both_1 : decode cX10_both 1 = .ok (.iload_n 1, 1) := by decide +kernel
theorem dX10_both_2 : decode cX10_both 2 = .ok (.invokevirtual 179, 3) := by decide +kernel
theorem dX10_both_5 : decode cX10_both 5 = .ok (.aload_n 0, 1) := by decide +kernel
theorem dX10_both_6 : decode cX10_both 6 = .ok (.iload_n 2, 1) := by decide +kernel
theorem dX10_both_7 : decode cX10_both 7 = .ok (.invokevirtual 179, 3) := by decide +kernel
theorem dX10_both_10 : decode cX10_both 10 = .ok (.iconst 0, 1) := by decide +kernel
theorem dX10_both_11 : decode cX10_both 11 = .ok (.istore_n 3, 1) := by decide +kernel
theorem dX10_both_12 : decode cX10_both 12 = .ok (.aload_n 0, 1) := by decide +kernel
theorem dX10_both_13 : decode cX10_both 13 = .ok (.iload_n 1, 1) := by decide +kernel
theorem dX10_both_14 : decode cX10_both 14 = .ok (.iload_n 2, 1) := by decide +kernel
theorem dX10_both_15 : decode cX10_both 15 = .ok (.iconst 0, 1) := by decide +kernel
theorem dX10_both_16 : decode cX10_both 16 = .ok (.invokevirtual 225, 3) := by decide +kernel
theorem dX10_both_19 : decode cX10_both 19 = .ok (.istore 4, 2) := by decide +kernel
theorem dX10_both_21 : decode cX10_both 21 = .ok (.iload 4, 2) := by decide +kernel
theorem dX10_both_23 : decode cX10_both 23 = .ok (.iconst (-1), 1) := by decide +kernel
theorem dX10_both_24 : decode cX10_both 24 = .ok (.if_icmp .eq 26, 3) := by decide +kernel
theorem dX10_both_27 : decode cX10_both 27 = .ok (.iload_n 3, 1) := by decide +kernel
theorem dX10_both_28 : decode cX10_both 28 = .ok (.sipush 4801, 3) := by decide +kernel
theorem dX10_both_31 : decode cX10_both 31 = .ok (.if_icmp .ge 19, 3) := by decide +kernel
theorem dX10_both_34 : decode cX10_both 34 = .ok (.iinc 3 1, 3) := by decide +kernel
theorem dX10_both_37 : decode cX10_both 37 = .ok (.aload_n 0, 1) := by decide +kernel
theorem dX10_both_38 : decode cX10_both 38 = .ok (.iload_n 1, 1) := by decide +kernel
theorem dX10_both_39 : decode cX10_both 39 = .ok (.iload_n 2, 1) := by decide +kernel
theorem dX10_both_40 : decode cX10_both 40 = .ok (.iload 4, 2) := by decide +kernel
theorem dX10_both_42 : decode cX10_both 42 = .ok (.invokevirtual 225, 3) := by decide +kernel
theorem dX10_both_45 : decode cX10_both 45 = .ok (.istore 4, 2) := by decide +kernel
theorem dX10_both_47 : decode cX10_both 47 = .ok (.goto (-26), 3) := by decide +kernel
theorem dX10_both_50 : decode cX10_both 50 = .ok (.iload_n 3, 1) := by decide +kernel
theorem dX10_both_51 : decode cX10_both 51 = .ok (.ireturn, 1) := by decide +kernel
theorem dX10_meet_0 : decode cX10_meet 0 = .ok (.aload_n 0, 1) := by decide +kernel
theorem dX10_meet_1 : decode cX10_meet 1 = .ok (.iload_n 1, 1) := by decide +kernel
theorem dX10_meet_2 : decode cX10_meet 2 = .ok (.invokevirtual 179, 3) := by decide +kernel
theorem dX10_meet_5 : decode cX10_meet 5 = .ok (.aload_n 0, 1) := by decide +kernel
theorem dX10_meet_6 : decode cX10_meet 6 = .ok (.iload_n 2, 1) := by decide +kernel
theorem dX10_meet_7 : decode cX10_meet 7 = .ok (.invokevirtual 179, 3) := by decide +kernel
theorem dX10_meet_10 : decode cX10_meet 10 = .ok (.aload_n 0, 1) := by decide +kernel
theorem dX10_meet_11 : decode cX10_meet 11 = .ok (.iload_n 1, 1) := by decide +kernel
theorem dX10_meet_12 : decode cX10_meet 12 = .ok (.iload_n 2, 1) := by decide +kernel
theorem dX10_meet_13 : decode cX10_meet 13 = .ok (.iconst 0, 1) := by decide +kernel
theorem dX10_meet_14 : decode cX10_meet 14 = .ok (.invokevirtual 225, 3) := by decide +kernel
theorem dX10_meet_17 : decode cX10_meet 17 = .ok (.ireturn, 1) := by decide +kernel
theorem dX10_upTo_0 : decode cX10_upTo 0 = .ok (.aload_n 0, 1) := by decide +kernel
theorem dX10_upTo_1 : decode cX10_upTo 1 = .ok (.invokevirtual 128, 3) := by decide +kernel
theorem dX10_upTo_4 : decode cX10_upTo 4 = .ok (.iload_n 1, 1) := by decide +kernel
theorem dX10_upTo_5 : decode cX10_upTo 5 = .ok (.invokevirtual 228, 3) := by decide +kernel
theorem dX10_upTo_8 : decode cX10_upTo 8 = .ok (.ireturn, 1) := by decide +kernel
theorem dX10_mark_0 : decode cX10_mark 0 = .ok (.aload_n 0, 1) := by decide +kernel
theorem dX10_mark_1 : decode cX10_mark 1 = .ok (.invokevirtual 128, 3) := by decide +kernel
theorem dX10_mark_4 : decode cX10_mark 4 = .ok (.iload_n 1, 1) := by decide +kernel
theorem dX10_mark_5 : decode cX10_mark 5 = .ok (.invokevirtual 231, 3) := by decide +kernel
theorem dX10_mark_8 : decode cX10_mark 8 = .ok (.ireturn, 1) := by decide +kernel
theorem dX10_between_0 : decode cX10_between 0 = .ok (.aload_n 0, 1) := by decide +kernel
theorem dX10_between_1 : decode cX10_between 1 = .ok (.invokevirtual 128, 3) := by decide +kernel
theorem dX10_between_4 : decode cX10_between 4 = .ok (.iload_n 1, 1) := by decide +kernel
theorem dX10_between_5 : decode cX10_between 5 = .ok (.iload_n 2, 1) := by decide +kernel
theorem dX10_between_6 : decode cX10_between 6 = .ok (.invokevirtual 163, 3) := by decide +kernel
theorem dX10_between_9 : decode cX10_between 9 = .ok (.ireturn, 1) := by decide +kernel
theorem dX10_divisor_0 : decode cX10_divisor 0 = .ok (.aload_n 0, 1) := by decide +kernel
theorem dX10_divisor_1 : decode cX10_divisor 1 = .ok (.invokevirtual 128, 3) := by decide +kernel
theorem dX10_divisor_4 : decode cX10_divisor 4 = .ok (.astore_n 2, 1) := by decide +kernel
theorem dX10_divisor_5 : decode cX10_divisor 5 = .ok (.iconst 2, 1) := by decide +kernel
theorem dX10_divisor_6 : decode cX10_divisor 6 = .ok (.istore_n 3, 1) := by decide +kernel
theorem dX10_divisor_7 : decode cX10_divisor 7 = .ok (.iload_n 3, 1) := by decide +kernel
theorem dX10_divisor_8 : decode cX10_divisor 8 = .ok (.aload_n 2, 1) := by decide +kernel
theorem dX10_divisor_9 : decode cX10_divisor 9 = .ok (.invokevirtual 234, 3) := by decide +kernel
theorem dX10_divisor_12 : decode cX10_divisor 12 = .ok (.if_icmp .gt 30, 3) := by decide +kernel
theorem dX10_divisor_15 : decode cX10_divisor 15 = .ok (.iload_n 3, 1) := by decide +kernel
theorem dX10_divisor_16 : decode cX10_divisor 16 = .ok (.iload_n 1, 1) := by decide +kernel
theorem dX10_divisor_17 : decode cX10_divisor 17 = .ok (.if_icmp .gt 25, 3) := by decide +kernel
theorem dX10_divisor_20 : decode cX10_divisor 20 = .ok (.aload_n 2, 1) := by decide +kernel
theorem dX10_divisor_21 : decode cX10_divisor 21 = .ok (.iload_n 3, 1) := by decide +kernel
theorem dX10_divisor_22 : decode cX10_divisor 22 = .ok (.invokevirtual 235, 3) := by decide +kernel
theorem dX10_divisor_25 : decode cX10_divisor 25 = .ok (.ifCond .eq 11, 3) := by decide +kernel
theorem dX10_divisor_28 : decode cX10_divisor 28 = .ok (.iload_n 1, 1) := by decide +kernel
theorem dX10_divisor_29 : decode cX10_divisor 29 = .ok (.iload_n 3, 1) := by decide +kernel
theorem dX10_divisor_30 : decode cX10_divisor 30 = .ok (.irem, 1) := by decide +kernel
theorem dX10_divisor_31 : decode cX10_divisor 31 = .ok (.ifCond .ne 5, 3) := by decide +kernel
theorem dX10_divisor_34 : decode cX10_divisor 34 = .ok (.iload_n 3, 1) := by decide +kernel
theorem dX10_divisor_35 : decode cX10_divisor 35 = .ok (.ireturn, 1) := by decide +kernel
theorem dX10_divisor_36 : decode cX10_divisor 36 = .ok (.iinc 3 1, 3) := by decide +kernel
theorem dX10_divisor_39 : decode cX10_divisor 39 = .ok (.goto (-32), 3) := by decide +kernel
theorem dX10_divisor_42 : decode cX10_divisor 42 = .ok (.iconst (-1), 1) := by decide +kernel
theorem dX10_divisor_43 : decode cX10_divisor 43 = .ok (.ireturn, 1) := by decide +kernel
theorem dX10_divisors_0 : decode cX10_divisors 0 = .ok (.aload_n 0, 1) := by decide +kernel
theorem dX10_divisors_1 : decode cX10_divisors 1 = .ok (.invokevirtual 128, 3) := by decide +kernel
theorem dX10_divisors_4 : decode cX10_divisors 4 = .ok (.astore_n 2, 1) := by decide +kernel
theorem dX10_divisors_5 : decode cX10_divisors 5 = .ok (.iconst 0, 1) := by decide +kernel
theorem dX10_divisors_6 : decode cX10_divisors 6 = .ok (.istore_n 3, 1) := by decide +kernel
theorem dX10_divisors_7 : decode cX10_divisors 7 = .ok (.iconst 2, 1) := by decide +kernel
theorem dX10_divisors_8 : decode cX10_divisors 8 = .ok (.istore 4, 2) := by decide +kernel
theorem dX10_divisors_10 : decode cX10_divisors 10 = .ok (.iload 4, 2) := by decide +kernel
theorem dX10_divisors_12 : decode cX10_divisors 12 = .ok (.aload_n 2, 1) := by decide +kernel
theorem dX10_divisors_13 : decode cX10_divisors 13 = .ok (.invokevirtual 234, 3) := by decide +kernel
theorem dX10_divisors_16 : decode cX10_divisors 16 = .ok (.if_icmp .gt 34, 3) := by decide +kernel
theorem dX10_divisors_19 : decode cX10_divisors 19 = .ok (.iload 4, 2) := by decide +kernel
theorem dX10_divisors_21 : decode cX10_divisors 21 = .ok (.iload_n 1, 1) := by decide +kernel
theorem dX10_divisors_22 : decode cX10_divisors 22 = .ok (.if_icmp .gt 28, 3) := by decide +kernel
theorem dX10_divisors_25 : decode cX10_divisors 25 = .ok (.aload_n 2, 1) := by decide +kernel
theorem dX10_divisors_26 : decode cX10_divisors 26 = .ok (.iload 4, 2) := by decide +kernel
theorem dX10_divisors_28 : decode cX10_divisors 28 = .ok (.invokevirtual 235, 3) := by decide +kernel
theorem dX10_divisors_31 : decode cX10_divisors 31 = .ok (.ifCond .eq 13, 3) := by decide +kernel
theorem dX10_divisors_34 : decode cX10_divisors 34 = .ok (.iload_n 1, 1) := by decide +kernel
theorem dX10_divisors_35 : decode cX10_divisors 35 = .ok (.iload 4, 2) := by decide +kernel
theorem dX10_divisors_37 : decode cX10_divisors 37 = .ok (.irem, 1) := by decide +kernel
theorem dX10_divisors_38 : decode cX10_divisors 38 = .ok (.ifCond .ne 6, 3) := by decide +kernel
theorem dX10_divisors_41 : decode cX10_divisors 41 = .ok (.iinc 3 1, 3) := by decide +kernel
theorem dX10_divisors_44 : decode cX10_divisors 44 = .ok (.iinc 4 1, 3) := by decide +kernel
theorem dX10_divisors_47 : decode cX10_divisors 47 = .ok (.goto (-37), 3) := by decide +kernel
theorem dX10_divisors_50 : decode cX10_divisors 50 = .ok (.iload_n 3, 1) := by decide +kernel
theorem dX10_divisors_51 : decode cX10_divisors 51 = .ok (.ireturn, 1) := by decide +kernel
theorem dX10_longest_0 : decode cX10_longest 0 = .ok (.aload_n 0, 1) := by decide +kernel
theorem dX10_longest_1 : decode cX10_longest 1 = .ok (.invokevirtual 128, 3) := by decide +kernel
theorem dX10_longest_4 : decode cX10_longest 4 = .ok (.astore_n 1, 1) := by decide +kernel
theorem dX10_longest_5 : decode cX10_longest 5 = .ok (.iconst 0, 1) := by decide +kernel
theorem dX10_longest_6 : decode cX10_longest 6 = .ok (.istore_n 2, 1) := by decide +kernel
theorem dX10_longest_7 : decode cX10_longest 7 = .ok (.iconst 0, 1) := by decide +kernel
theorem dX10_longest_8 : decode cX10_longest 8 = .ok (.istore_n 3, 1) := by decide +kernel
theorem dX10_longest_9 : decode cX10_longest 9 = .ok (.iconst 2, 1) := by decide +kernel
theorem dX10_longest_10 : decode cX10_longest 10 = .ok (.istore 4, 2) := by decide +kernel
theorem dX10_longest_12 : decode cX10_longest 12 = .ok (.iload 4, 2) := by decide +kernel
theorem dX10_longest_14 : decode cX10_longest 14 = .ok (.aload_n 1, 1) := by decide +kernel
theorem dX10_longest_15 : decode cX10_longest 15 = .ok (.invokevirtual 234, 3) := by decide +kernel
theorem dX10_longest_18 : decode cX10_longest 18 = .ok (.if_icmp .gt 42, 3) := by decide +kernel
theorem dX10_longest_21 : decode cX10_longest 21 = .ok (.aload_n 1, 1) := by decide +kernel
theorem dX10_longest_22 : decode cX10_longest 22 = .ok (.iload 4, 2) := by decide +kernel
theorem dX10_longest_24 : decode cX10_longest 24 = .ok (.invokevirtual 204, 3) := by decide +kernel
theorem dX10_longest_27 : decode cX10_longest 27 = .ok (.istore 5, 2) := by decide +kernel
theorem dX10_longest_29 : decode cX10_longest 29 = .ok (.iload 5, 2) := by decide +kernel
theorem dX10_longest_31 : decode cX10_longest 31 = .ok (.ifCond .ne 15, 3) := by decide +kernel
theorem dX10_longest_34 : decode cX10_longest 34 = .ok (.iinc 3 1, 3) := by decide +kernel
theorem dX10_longest_37 : decode cX10_longest 37 = .ok (.iload_n 2, 1) := by decide +kernel
theorem dX10_longest_38 : decode cX10_longest 38 = .ok (.iload_n 3, 1) := by decide +kernel
theorem dX10_longest_39 : decode cX10_longest 39 = .ok (.invokestatic 220, 3) := by decide +kernel
theorem dX10_longest_42 : decode cX10_longest 42 = .ok (.istore_n 2, 1) := by decide +kernel
theorem dX10_longest_43 : decode cX10_longest 43 = .ok (.goto 11, 3) := by decide +kernel
theorem dX10_longest_46 : decode cX10_longest 46 = .ok (.iload 5, 2) := by decide +kernel
theorem dX10_longest_48 : decode cX10_longest 48 = .ok (.iconst (-1), 1) := by decide +kernel
theorem dX10_longest_49 : decode cX10_longest 49 = .ok (.if_icmp .eq 5, 3) := by decide +kernel
theorem dX10_longest_52 : decode cX10_longest 52 = .ok (.iconst 0, 1) := by decide +kernel
theorem dX10_longest_53 : decode cX10_longest 53 = .ok (.istore_n 3, 1) := by decide +kernel
theorem dX10_longest_54 : decode cX10_longest 54 = .ok (.iinc 4 1, 3) := by decide +kernel
theorem dX10_longest_57 : decode cX10_longest 57 = .ok (.goto (-45), 3) := by decide +kernel
theorem dX10_longest_60 : decode cX10_longest 60 = .ok (.iload_n 2, 1) := by decide +kernel
theorem dX10_longest_61 : decode cX10_longest 61 = .ok (.ireturn, 1) := by decide +kernel
theorem dX10_chain_0 : decode cX10_chain 0 = .ok (.aload_n 0, 1) := by decide +kernel
theorem dX10_chain_1 : decode cX10_chain 1 = .ok (.invokevirtual 128, 3) := by decide +kernel
theorem dX10_chain_4 : decode cX10_chain 4 = .ok (.astore_n 2, 1) := by decide +kernel
theorem dX10_chain_5 : decode cX10_chain 5 = .ok (.iconst 0, 1) := by decide +kernel
theorem dX10_chain_6 : decode cX10_chain 6 = .ok (.istore_n 3, 1) := by decide +kernel
theorem dX10_chain_7 : decode cX10_chain 7 = .ok (.iload_n 1, 1) := by decide +kernel
theorem dX10_chain_8 : decode cX10_chain 8 = .ok (.istore 4, 2) := by decide +kernel
theorem dX10_chain_10 : decode cX10_chain 10 = .ok (.iload_n 3, 1) := by decide +kernel
theorem dX10_chain_11 : decode cX10_chain 11 = .ok (.sipush 4801, 3) := by decide +kernel
theorem dX10_chain_14 : decode cX10_chain 14 = .ok (.if_icmp .ge 26, 3) := by decide +kernel
theorem dX10_chain_17 : decode cX10_chain 17 = .ok (.aload_n 2, 1) := by decide +kernel
theorem dX10_chain_18 : decode cX10_chain 18 = .ok (.iload 4, 2) := by decide +kernel
theorem dX10_chain_20 : decode cX10_chain 20 = .ok (.invokevirtual 235, 3) := by decide +kernel
theorem dX10_chain_23 : decode cX10_chain 23 = .ok (.ifCond .eq 17, 3) := by decide +kernel
theorem dX10_chain_26 : decode cX10_chain 26 = .ok (.iinc 3 1, 3) := by decide +kernel
theorem dX10_chain_29 : decode cX10_chain 29 = .ok (.iconst 2, 1) := by decide +kernel
theorem dX10_chain_30 : decode cX10_chain 30 = .ok (.iload 4, 2) := by decide +kernel
theorem dX10_chain_32 : decode cX10_chain 32 = .ok (.imul, 1) := by decide +kernel
theorem dX10_chain_33 : decode cX10_chain 33 = .ok (.iconst 1, 1) := by decide +kernel
theorem dX10_chain_34 : decode cX10_chain 34 = .ok (.iadd, 1) := by decide +kernel
theorem dX10_chain_35 : decode cX10_chain 35 = .ok (.istore 4, 2) := by decide +kernel
theorem dX10_chain_37 : decode cX10_chain 37 = .ok (.goto (-27), 3) := by decide +kernel
theorem dX10_chain_40 : decode cX10_chain 40 = .ok (.iload_n 3, 1) := by decide +kernel
theorem dX10_chain_41 : decode cX10_chain 41 = .ok (.ireturn, 1) := by decide +kernel
theorem dX10_turn_0 : decode cX10_turn 0 = .ok (.iload_n 1, 1) := by decide +kernel
theorem dX10_turn_1 : decode cX10_turn 1 = .ok (.iconst 0, 1) := by decide +kernel
theorem dX10_turn_2 : decode cX10_turn 2 = .ok (.sipush 5000, 3) := by decide +kernel
theorem dX10_turn_5 : decode cX10_turn 5 = .ok (.invokestatic 98, 3) := by decide +kernel
theorem dX10_turn_8 : decode cX10_turn 8 = .ok (.aload_n 0, 1) := by decide +kernel
theorem dX10_turn_9 : decode cX10_turn 9 = .ok (.getfield 12, 3) := by decide +kernel
theorem dX10_turn_12 : decode cX10_turn 12 = .ok (.invokevirtual 119, 3) := by decide +kernel
theorem dX10_turn_15 : decode cX10_turn 15 = .ok (.invokestatic 138, 3) := by decide +kernel
theorem dX10_turn_18 : decode cX10_turn 18 = .ok (.istore_n 2, 1) := by decide +kernel
theorem dX10_turn_19 : decode cX10_turn 19 = .ok (.aload_n 0, 1) := by decide +kernel
theorem dX10_turn_20 : decode cX10_turn 20 = .ok (.invokevirtual 128, 3) := by decide +kernel
theorem dX10_turn_23 : decode cX10_turn 23 = .ok (.iload_n 2, 1) := by decide +kernel
theorem dX10_turn_24 : decode cX10_turn 24 = .ok (.iload_n 1, 1) := by decide +kernel
theorem dX10_turn_25 : decode cX10_turn 25 = .ok (.imul, 1) := by decide +kernel
theorem dX10_turn_26 : decode cX10_turn 26 = .ok (.iconst 1, 1) := by decide +kernel
theorem dX10_turn_27 : decode cX10_turn 27 = .ok (.iadd, 1) := by decide +kernel
theorem dX10_turn_28 : decode cX10_turn 28 = .ok (.iload_n 2, 1) := by decide +kernel
theorem dX10_turn_29 : decode cX10_turn 29 = .ok (.iload_n 1, 1) := by decide +kernel
theorem dX10_turn_30 : decode cX10_turn 30 = .ok (.iconst 1, 1) := by decide +kernel
theorem dX10_turn_31 : decode cX10_turn 31 = .ok (.iadd, 1) := by decide +kernel
theorem dX10_turn_32 : decode cX10_turn 32 = .ok (.imul, 1) := by decide +kernel
theorem dX10_turn_33 : decode cX10_turn 33 = .ok (.invokevirtual 163, 3) := by decide +kernel
theorem dX10_turn_36 : decode cX10_turn 36 = .ok (.ireturn, 1) := by decide +kernel
theorem dX10_next_0 : decode cX10_next 0 = .ok (.iload_n 2, 1) := by decide +kernel
theorem dX10_next_1 : decode cX10_next 1 = .ok (.ifCond .eq 14, 3) := by decide +kernel
theorem dX10_next_4 : decode cX10_next 4 = .ok (.aload_n 0, 1) := by decide +kernel
theorem dX10_next_5 : decode cX10_next 5 = .ok (.invokevirtual 128, 3) := by decide +kernel
theorem dX10_next_8 : decode cX10_next 8 = .ok (.iload_n 1, 1) := by decide +kernel
theorem dX10_next_9 : decode cX10_next 9 = .ok (.invokevirtual 176, 3) := by decide +kernel
theorem dX10_next_12 : decode cX10_next 12 = .ok (.goto 11, 3) := by decide +kernel
theorem dX10_next_15 : decode cX10_next 15 = .ok (.aload_n 0, 1) := by decide +kernel
theorem dX10_next_16 : decode cX10_next 16 = .ok (.invokevirtual 128, 3) := by decide +kernel
theorem dX10_next_19 : decode cX10_next 19 = .ok (.iload_n 1, 1) := by decide +kernel
theorem dX10_next_20 : decode cX10_next 20 = .ok (.invokevirtual 169, 3) := by decide +kernel
theorem dX10_next_23 : decode cX10_next 23 = .ok (.ireturn, 1) := by decide +kernel
theorem dX10_gaps_0 : decode cX10_gaps 0 = .ok (.iload_n 1, 1) := by decide +kernel
theorem dX10_gaps_1 : decode cX10_gaps 1 = .ok (.iconst 1, 1) := by decide +kernel
theorem dX10_gaps_2 : decode cX10_gaps 2 = .ok (.sipush 400, 3) := by decide +kernel
theorem dX10_gaps_5 : decode cX10_gaps 5 = .ok (.invokestatic 98, 3) := by decide +kernel
theorem dX10_gaps_8 : decode cX10_gaps 8 = .ok (.aload_n 0, 1) := by decide +kernel
theorem dX10_gaps_9 : decode cX10_gaps 9 = .ok (.invokevirtual 128, 3) := by decide +kernel
theorem dX10_gaps_12 : decode cX10_gaps 12 = .ok (.astore_n 2, 1) := by decide +kernel
theorem dX10_gaps_13 : decode cX10_gaps 13 = .ok (.iconst 0, 1) := by decide +kernel
theorem dX10_gaps_14 : decode cX10_gaps 14 = .ok (.istore_n 3, 1) := by decide +kernel
theorem dX10_gaps_15 : decode cX10_gaps 15 = .ok (.iconst 2, 1) := by decide +kernel
theorem dX10_gaps_16 : decode cX10_gaps 16 = .ok (.istore 4, 2) := by decide +kernel
theorem dX10_gaps_18 : decode cX10_gaps 18 = .ok (.iload 4, 2) := by decide +kernel
theorem dX10_gaps_20 : decode cX10_gaps 20 = .ok (.iload_n 1, 1) := by decide +kernel
theorem dX10_gaps_21 : decode cX10_gaps 21 = .ok (.iadd, 1) := by decide +kernel
theorem dX10_gaps_22 : decode cX10_gaps 22 = .ok (.aload_n 2, 1) := by decide +kernel
theorem dX10_gaps_23 : decode cX10_gaps 23 = .ok (.invokevirtual 234, 3) := by decide +kernel
theorem dX10_gaps_26 : decode cX10_gaps 26 = .ok (.if_icmp .gt 46, 3) := by decide +kernel
theorem dX10_gaps_29 : decode cX10_gaps 29 = .ok (.aload_n 2, 1) := by decide +kernel
theorem dX10_gaps_30 : decode cX10_gaps 30 = .ok (.iload 4, 2) := by decide +kernel
theorem dX10_gaps_32 : decode cX10_gaps 32 = .ok (.invokevirtual 235, 3) := by decide +kernel
theorem dX10_gaps_35 : decode cX10_gaps 35 = .ok (.ifCond .eq 31, 3) := by decide +kernel
theorem dX10_gaps_38 : decode cX10_gaps 38 = .ok (.aload_n 2, 1) := by decide +kernel
theorem dX10_gaps_39 : decode cX10_gaps 39 = .ok (.iload 4, 2) := by decide +kernel
theorem dX10_gaps_41 : decode cX10_gaps 41 = .ok (.iload_n 1, 1) := by decide +kernel
theorem dX10_gaps_42 : decode cX10_gaps 42 = .ok (.iadd, 1) := by decide +kernel
theorem dX10_gaps_43 : decode cX10_gaps 43 = .ok (.invokevirtual 235, 3) := by decide +kernel
theorem dX10_gaps_46 : decode cX10_gaps 46 = .ok (.ifCond .eq 20, 3) := by decide +kernel
theorem dX10_gaps_49 : decode cX10_gaps 49 = .ok (.aload_n 2, 1) := by decide +kernel
theorem dX10_gaps_50 : decode cX10_gaps 50 = .ok (.iload 4, 2) := by decide +kernel
theorem dX10_gaps_52 : decode cX10_gaps 52 = .ok (.iload 4, 2) := by decide +kernel
theorem dX10_gaps_54 : decode cX10_gaps 54 = .ok (.iload_n 1, 1) := by decide +kernel
theorem dX10_gaps_55 : decode cX10_gaps 55 = .ok (.iadd, 1) := by decide +kernel
theorem dX10_gaps_56 : decode cX10_gaps 56 = .ok (.invokevirtual 163, 3) := by decide +kernel
theorem dX10_gaps_59 : decode cX10_gaps 59 = .ok (.iconst 2, 1) := by decide +kernel
theorem dX10_gaps_60 : decode cX10_gaps 60 = .ok (.if_icmp .ne 6, 3) := by decide +kernel
theorem dX10_gaps_63 : decode cX10_gaps 63 = .ok (.iinc 3 1, 3) := by decide +kernel
theorem dX10_gaps_66 : decode cX10_gaps 66 = .ok (.iinc 4 1, 3) := by decide +kernel
theorem dX10_gaps_69 : decode cX10_gaps 69 = .ok (.goto (-51), 3) := by decide +kernel
theorem dX10_gaps_72 : decode cX10_gaps 72 = .ok (.iload_n 3, 1) := by decide +kernel
theorem dX10_gaps_73 : decode cX10_gaps 73 = .ok (.ireturn, 1) := by decide +kernel
theorem dX10_widest_0 : decode cX10_widest 0 = .ok (.aload_n 0, 1) := by decide +kernel
theorem dX10_widest_1 : decode cX10_widest 1 = .ok (.invokevirtual 238, 3) := by decide +kernel
theorem dX10_widest_4 : decode cX10_widest 4 = .ok (.istore_n 1, 1) := by decide +kernel
theorem dX10_widest_5 : decode cX10_widest 5 = .ok (.iload_n 1, 1) := by decide +kernel
theorem dX10_widest_6 : decode cX10_widest 6 = .ok (.iconst (-1), 1) := by decide +kernel
theorem dX10_widest_7 : decode cX10_widest 7 = .ok (.if_icmp .ne 7, 3) := by decide +kernel
theorem dX10_widest_10 : decode cX10_widest 10 = .ok (.iconst 0, 1) := by decide +kernel
theorem dX10_widest_11 : decode cX10_widest 11 = .ok (.goto 13, 3) := by decide +kernel
theorem dX10_widest_14 : decode cX10_widest 14 = .ok (.aload_n 0, 1) := by decide +kernel
theorem dX10_widest_15 : decode cX10_widest 15 = .ok (.invokevirtual 128, 3) := by decide +kernel
theorem dX10_widest_18 : decode cX10_widest 18 = .ok (.iload_n 1, 1) := by decide +kernel
theorem dX10_widest_19 : decode cX10_widest 19 = .ok (.invokevirtual 169, 3) := by decide +kernel
theorem dX10_widest_22 : decode cX10_widest 22 = .ok (.iload_n 1, 1) := by decide +kernel
theorem dX10_widest_23 : decode cX10_widest 23 = .ok (.isub, 1) := by decide +kernel
theorem dX10_widest_24 : decode cX10_widest 24 = .ok (.ireturn, 1) := by decide +kernel
theorem dX10_widestAt_0 : decode cX10_widestAt 0 = .ok (.aload_n 0, 1) := by decide +kernel
theorem dX10_widestAt_1 : decode cX10_widestAt 1 = .ok (.invokevirtual 128, 3) := by decide +kernel
theorem dX10_widestAt_4 : decode cX10_widestAt 4 = .ok (.astore_n 1, 1) := by decide +kernel
theorem dX10_widestAt_5 : decode cX10_widestAt 5 = .ok (.iconst (-1), 1) := by decide +kernel
theorem dX10_widestAt_6 : decode cX10_widestAt 6 = .ok (.istore_n 2, 1) := by decide +kernel
theorem dX10_widestAt_7 : decode cX10_widestAt 7 = .ok (.iconst 0, 1) := by decide +kernel
theorem dX10_widestAt_8 : decode cX10_widestAt 8 = .ok (.istore_n 3, 1) := by decide +kernel
theorem dX10_widestAt_9 : decode cX10_widestAt 9 = .ok (.iconst 2, 1) := by decide +kernel
theorem dX10_widestAt_10 : decode cX10_widestAt 10 = .ok (.istore 4, 2) := by decide +kernel
theorem dX10_widestAt_12 : decode cX10_widestAt 12 = .ok (.iconst 3, 1) := by decide +kernel
theorem dX10_widestAt_13 : decode cX10_widestAt 13 = .ok (.istore 5, 2) := by decide +kernel
theorem dX10_widestAt_15 : decode cX10_widestAt 15 = .ok (.iload 5, 2) := by decide +kernel
theorem dX10_widestAt_17 : decode cX10_widestAt 17 = .ok (.aload_n 1, 1) := by decide +kernel
theorem dX10_widestAt_18 : decode cX10_widestAt 18 = .ok (.invokevirtual 234, 3) := by decide +kernel
theorem dX10_widestAt_21 : decode cX10_widestAt 21 = .ok (.if_icmp .gt 40, 3) := by decide +kernel
theorem dX10_widestAt_24 : decode cX10_widestAt 24 = .ok (.aload_n 1, 1) := by decide +kernel
theorem dX10_widestAt_25 : decode cX10_widestAt 25 = .ok (.iload 5, 2) := by decide +kernel
theorem dX10_widestAt_27 : decode cX10_widestAt 27 = .ok (.invokevirtual 235, 3) := by decide +kernel
theorem dX10_widestAt_30 : decode cX10_widestAt 30 = .ok (.ifCond .eq 25, 3) := by decide +kernel
theorem dX10_widestAt_33 : decode cX10_widestAt 33 = .ok (.iload 5, 2) := by decide +kernel
theorem dX10_widestAt_35 : decode cX10_widestAt 35 = .ok (.iload 4, 2) := by decide +kernel
theorem dX10_widestAt_37 : decode cX10_widestAt 37 = .ok (.isub, 1) := by decide +kernel
theorem dX10_widestAt_38 : decode cX10_widestAt 38 = .ok (.iload_n 3, 1) := by decide +kernel
theorem dX10_widestAt_39 : decode cX10_widestAt 39 = .ok (.if_icmp .le 12, 3) := by decide +kernel
theorem dX10_widestAt_42 : decode cX10_widestAt 42 = .ok (.iload 5, 2) := by decide +kernel
theorem dX10_widestAt_44 : decode cX10_widestAt 44 = .ok (.iload 4, 2) := by decide +kernel
theorem dX10_widestAt_46 : decode cX10_widestAt 46 = .ok (.isub, 1) := by decide +kernel
theorem dX10_widestAt_47 : decode cX10_widestAt 47 = .ok (.istore_n 3, 1) := by decide +kernel
theorem dX10_widestAt_48 : decode cX10_widestAt 48 = .ok (.iload 4, 2) := by decide +kernel
theorem dX10_widestAt_50 : decode cX10_widestAt 50 = .ok (.istore_n 2, 1) := by decide +kernel
theorem dX10_widestAt_51 : decode cX10_widestAt 51 = .ok (.iload 5, 2) := by decide +kernel
theorem dX10_widestAt_53 : decode cX10_widestAt 53 = .ok (.istore 4, 2) := by decide +kernel
theorem dX10_widestAt_55 : decode cX10_widestAt 55 = .ok (.iinc 5 1, 3) := by decide +kernel
theorem dX10_widestAt_58 : decode cX10_widestAt 58 = .ok (.goto (-43), 3) := by decide +kernel
theorem dX10_widestAt_61 : decode cX10_widestAt 61 = .ok (.iload_n 2, 1) := by decide +kernel
theorem dX10_widestAt_62 : decode cX10_widestAt 62 = .ok (.ireturn, 1) := by decide +kernel
theorem dX10_twins_0 : decode cX10_twins 0 = .ok (.iload_n 1, 1) := by decide +kernel
theorem dX10_twins_1 : decode cX10_twins 1 = .ok (.iconst 1, 1) := by decide +kernel
theorem dX10_twins_2 : decode cX10_twins 2 = .ok (.sipush 400, 3) := by decide +kernel
theorem dX10_twins_5 : decode cX10_twins 5 = .ok (.invokestatic 98, 3) := by decide +kernel
theorem dX10_twins_8 : decode cX10_twins 8 = .ok (.aload_n 0, 1) := by decide +kernel
theorem dX10_twins_9 : decode cX10_twins 9 = .ok (.invokevirtual 128, 3) := by decide +kernel
theorem dX10_twins_12 : decode cX10_twins 12 = .ok (.astore_n 2, 1) := by decide +kernel
theorem dX10_twins_13 : decode cX10_twins 13 = .ok (.iconst 0, 1) := by decide +kernel
theorem dX10_twins_14 : decode cX10_twins 14 = .ok (.istore_n 3, 1) := by decide +kernel
theorem dX10_twins_15 : decode cX10_twins 15 = .ok (.iconst 2, 1) := by decide +kernel
theorem dX10_twins_16 : decode cX10_twins 16 = .ok (.istore 4, 2) := by decide +kernel
theorem dX10_twins_18 : decode cX10_twins 18 = .ok (.iload 4, 2) := by decide +kernel
theorem dX10_twins_20 : decode cX10_twins 20 = .ok (.iload_n 1, 1) := by decide +kernel
theorem dX10_twins_21 : decode cX10_twins 21 = .ok (.iadd, 1) := by decide +kernel
theorem dX10_twins_22 : decode cX10_twins 22 = .ok (.aload_n 2, 1) := by decide +kernel
theorem dX10_twins_23 : decode cX10_twins 23 = .ok (.invokevirtual 234, 3) := by decide +kernel
theorem dX10_twins_26 : decode cX10_twins 26 = .ok (.if_icmp .gt 32, 3) := by decide +kernel
theorem dX10_twins_29 : decode cX10_twins 29 = .ok (.aload_n 2, 1) := by decide +kernel
theorem dX10_twins_30 : decode cX10_twins 30 = .ok (.iload 4, 2) := by decide +kernel
theorem dX10_twins_32 : decode cX10_twins 32 = .ok (.invokevirtual 235, 3) := by decide +kernel
theorem dX10_twins_35 : decode cX10_twins 35 = .ok (.ifCond .eq 17, 3) := by decide +kernel
theorem dX10_twins_38 : decode cX10_twins 38 = .ok (.aload_n 2, 1) := by decide +kernel
theorem dX10_twins_39 : decode cX10_twins 39 = .ok (.iload 4, 2) := by decide +kernel
theorem dX10_twins_41 : decode cX10_twins 41 = .ok (.iload_n 1, 1) := by decide +kernel
theorem dX10_twins_42 : decode cX10_twins 42 = .ok (.iadd, 1) := by decide +kernel
theorem dX10_twins_43 : decode cX10_twins 43 = .ok (.invokevirtual 235, 3) := by decide +kernel
theorem dX10_twins_46 : decode cX10_twins 46 = .ok (.ifCond .eq 6, 3) := by decide +kernel
theorem dX10_twins_49 : decode cX10_twins 49 = .ok (.iinc 3 1, 3) := by decide +kernel
theorem dX10_twins_52 : decode cX10_twins 52 = .ok (.iinc 4 1, 3) := by decide +kernel
theorem dX10_twins_55 : decode cX10_twins 55 = .ok (.goto (-37), 3) := by decide +kernel
theorem dX10_twins_58 : decode cX10_twins 58 = .ok (.iload_n 3, 1) := by decide +kernel
theorem dX10_twins_59 : decode cX10_twins 59 = .ok (.ireturn, 1) := by decide +kernel
theorem dX10_sums_0 : decode cX10_sums 0 = .ok (.iconst 0, 1) := by decide +kernel
theorem dX10_sums_1 : decode cX10_sums 1 = .ok (.istore_n 2, 1) := by decide +kernel
theorem dX10_sums_2 : decode cX10_sums 2 = .ok (.aload_n 0, 1) := by decide +kernel
theorem dX10_sums_3 : decode cX10_sums 3 = .ok (.iload_n 1, 1) := by decide +kernel
theorem dX10_sums_4 : decode cX10_sums 4 = .ok (.iconst 0, 1) := by decide +kernel
theorem dX10_sums_5 : decode cX10_sums 5 = .ok (.invokevirtual 241, 3) := by decide +kernel
theorem dX10_sums_8 : decode cX10_sums 8 = .ok (.istore_n 3, 1) := by decide +kernel
theorem dX10_sums_9 : decode cX10_sums 9 = .ok (.iload_n 3, 1) := by decide +kernel
theorem dX10_sums_10 : decode cX10_sums 10 = .ok (.iconst (-1), 1) := by decide +kernel
theorem dX10_sums_11 : decode cX10_sums 11 = .ok (.if_icmp .eq 23, 3) := by decide +kernel
theorem dX10_sums_14 : decode cX10_sums 14 = .ok (.iload_n 2, 1) := by decide +kernel
theorem dX10_sums_15 : decode cX10_sums 15 = .ok (.sipush 4801, 3) := by decide +kernel
theorem dX10_sums_18 : decode cX10_sums 18 = .ok (.if_icmp .ge 16, 3) := by decide +kernel
theorem dX10_sums_21 : decode cX10_sums 21 = .ok (.iinc 2 1, 3) := by decide +kernel
theorem dX10_sums_24 : decode cX10_sums 24 = .ok (.aload_n 0, 1) := by decide +kernel
theorem dX10_sums_25 : decode cX10_sums 25 = .ok (.iload_n 1, 1) := by decide +kernel
theorem dX10_sums_26 : decode cX10_sums 26 = .ok (.iload_n 3, 1) := by decide +kernel
theorem dX10_sums_27 : decode cX10_sums 27 = .ok (.invokevirtual 241, 3) := by decide +kernel
theorem dX10_sums_30 : decode cX10_sums 30 = .ok (.istore_n 3, 1) := by decide +kernel
theorem dX10_sums_31 : decode cX10_sums 31 = .ok (.goto (-22), 3) := by decide +kernel
theorem dX10_sums_34 : decode cX10_sums 34 = .ok (.iload_n 2, 1) := by decide +kernel
theorem dX10_sums_35 : decode cX10_sums 35 = .ok (.ireturn, 1) := by decide +kernel
theorem dX10_leastOf_0 : decode cX10_leastOf 0 = .ok (.aload_n 0, 1) := by decide +kernel
theorem dX10_leastOf_1 : decode cX10_leastOf 1 = .ok (.iload_n 1, 1) := by decide +kernel
theorem dX10_leastOf_2 : decode cX10_leastOf 2 = .ok (.iconst 0, 1) := by decide +kernel
theorem dX10_leastOf_3 : decode cX10_leastOf 3 = .ok (.invokevirtual 241, 3) := by decide +kernel
theorem dX10_leastOf_6 : decode cX10_leastOf 6 = .ok (.ireturn, 1) := by decide +kernel
theorem dX10_thickest_0 : decode cX10_thickest 0 = .ok (.iload_n 1, 1) := by decide +kernel
theorem dX10_thickest_1 : decode cX10_thickest 1 = .ok (.iconst 1, 1) := by decide +kernel
theorem dX10_thickest_2 : decode cX10_thickest 2 = .ok (.sipush 400, 3) := by decide +kernel
theorem dX10_thickest_5 : decode cX10_thickest 5 = .ok (.invokestatic 98, 3) := by decide +kernel
theorem dX10_thickest_8 : decode cX10_thickest 8 = .ok (.aload_n 0, 1) := by decide +kernel
theorem dX10_thickest_9 : decode cX10_thickest 9 = .ok (.invokevirtual 128, 3) := by decide +kernel
theorem dX10_thickest_12 : decode cX10_thickest 12 = .ok (.astore_n 2, 1) := by decide +kernel
theorem dX10_thickest_13 : decode cX10_thickest 13 = .ok (.iconst 0, 1) := by decide +kernel
theorem dX10_thickest_14 : decode cX10_thickest 14 = .ok (.istore_n 3, 1) := by decide +kernel
theorem dX10_thickest_15 : decode cX10_thickest 15 = .ok (.iconst 2, 1) := by decide +kernel
theorem dX10_thickest_16 : decode cX10_thickest 16 = .ok (.istore 4, 2) := by decide +kernel
theorem dX10_thickest_18 : decode cX10_thickest 18 = .ok (.iload 4, 2) := by decide +kernel
theorem dX10_thickest_20 : decode cX10_thickest 20 = .ok (.aload_n 2, 1) := by decide +kernel
theorem dX10_thickest_21 : decode cX10_thickest 21 = .ok (.invokevirtual 234, 3) := by decide +kernel
theorem dX10_thickest_24 : decode cX10_thickest 24 = .ok (.if_icmp .gt 26, 3) := by decide +kernel
theorem dX10_thickest_27 : decode cX10_thickest 27 = .ok (.iload_n 3, 1) := by decide +kernel
theorem dX10_thickest_28 : decode cX10_thickest 28 = .ok (.aload_n 2, 1) := by decide +kernel
theorem dX10_thickest_29 : decode cX10_thickest 29 = .ok (.iload 4, 2) := by decide +kernel
theorem dX10_thickest_31 : decode cX10_thickest 31 = .ok (.iload_n 1, 1) := by decide +kernel
theorem dX10_thickest_32 : decode cX10_thickest 32 = .ok (.isub, 1) := by decide +kernel
theorem dX10_thickest_33 : decode cX10_thickest 33 = .ok (.iconst 1, 1) := by decide +kernel
theorem dX10_thickest_34 : decode cX10_thickest 34 = .ok (.iadd, 1) := by decide +kernel
theorem dX10_thickest_35 : decode cX10_thickest 35 = .ok (.iload 4, 2) := by decide +kernel
theorem dX10_thickest_37 : decode cX10_thickest 37 = .ok (.invokevirtual 163, 3) := by decide +kernel
theorem dX10_thickest_40 : decode cX10_thickest 40 = .ok (.invokestatic 220, 3) := by decide +kernel
theorem dX10_thickest_43 : decode cX10_thickest 43 = .ok (.istore_n 3, 1) := by decide +kernel
theorem dX10_thickest_44 : decode cX10_thickest 44 = .ok (.iinc 4 1, 3) := by decide +kernel
theorem dX10_thickest_47 : decode cX10_thickest 47 = .ok (.goto (-29), 3) := by decide +kernel
theorem dX10_thickest_50 : decode cX10_thickest 50 = .ok (.iload_n 3, 1) := by decide +kernel
theorem dX10_thickest_51 : decode cX10_thickest 51 = .ok (.ireturn, 1) := by decide +kernel
theorem dX10_wrong_0 : decode cX10_wrong 0 = .ok (.aload_n 0, 1) := by decide +kernel
theorem dX10_wrong_1 : decode cX10_wrong 1 = .ok (.invokevirtual 128, 3) := by decide +kernel
theorem dX10_wrong_4 : decode cX10_wrong 4 = .ok (.astore_n 1, 1) := by decide +kernel
theorem dX10_wrong_5 : decode cX10_wrong 5 = .ok (.iconst 0, 1) := by decide +kernel
theorem dX10_wrong_6 : decode cX10_wrong 6 = .ok (.istore_n 2, 1) := by decide +kernel
theorem dX10_wrong_7 : decode cX10_wrong 7 = .ok (.iconst 2, 1) := by decide +kernel
theorem dX10_wrong_8 : decode cX10_wrong 8 = .ok (.istore_n 3, 1) := by decide +kernel
theorem dX10_wrong_9 : decode cX10_wrong 9 = .ok (.iload_n 3, 1) := by decide +kernel
theorem dX10_wrong_10 : decode cX10_wrong 10 = .ok (.aload_n 1, 1) := by decide +kernel
theorem dX10_wrong_11 : decode cX10_wrong 11 = .ok (.invokevirtual 234, 3) := by decide +kernel
theorem dX10_wrong_14 : decode cX10_wrong 14 = .ok (.if_icmp .gt 27, 3) := by decide +kernel
theorem dX10_wrong_17 : decode cX10_wrong 17 = .ok (.aload_n 1, 1) := by decide +kernel
theorem dX10_wrong_18 : decode cX10_wrong 18 = .ok (.iload_n 3, 1) := by decide +kernel
theorem dX10_wrong_19 : decode cX10_wrong 19 = .ok (.invokevirtual 235, 3) := by decide +kernel
theorem dX10_wrong_22 : decode cX10_wrong 22 = .ok (.ifCond .eq 13, 3) := by decide +kernel
theorem dX10_wrong_25 : decode cX10_wrong 25 = .ok (.iload_n 3, 1) := by decide +kernel
theorem dX10_wrong_26 : decode cX10_wrong 26 = .ok (.invokestatic 194, 3) := by decide +kernel
theorem dX10_wrong_29 : decode cX10_wrong 29 = .ok (.ifCond .ne 6, 3) := by decide +kernel
theorem dX10_wrong_32 : decode cX10_wrong 32 = .ok (.iinc 2 1, 3) := by decide +kernel
theorem dX10_wrong_35 : decode cX10_wrong 35 = .ok (.iinc 3 1, 3) := by decide +kernel
theorem dX10_wrong_38 : decode cX10_wrong 38 = .ok (.goto (-29), 3) := by decide +kernel
theorem dX10_wrong_41 : decode cX10_wrong 41 = .ok (.iload_n 2, 1) := by decide +kernel
theorem dX10_wrong_42 : decode cX10_wrong 42 = .ok (.ireturn, 1) := by decide +kernel
theorem dX10_firstWrong_0 : decode cX10_firstWrong 0 = .ok (.aload_n 0, 1) := by decide +kernel
theorem dX10_firstWrong_1 : decode cX10_firstWrong 1 = .ok (.invokevirtual 128, 3) := by decide +kernel
theorem dX10_firstWrong_4 : decode cX10_firstWrong 4 = .ok (.astore_n 1, 1) := by decide +kernel
theorem dX10_firstWrong_5 : decode cX10_firstWrong 5 = .ok (.iconst 2, 1) := by decide +kernel
theorem dX10_firstWrong_6 : decode cX10_firstWrong 6 = .ok (.istore_n 2, 1) := by decide +kernel
theorem dX10_firstWrong_7 : decode cX10_firstWrong 7 = .ok (.iload_n 2, 1) := by decide +kernel
theorem dX10_firstWrong_8 : decode cX10_firstWrong 8 = .ok (.aload_n 1, 1) := by decide +kernel
theorem dX10_firstWrong_9 : decode cX10_firstWrong 9 = .ok (.invokevirtual 234, 3) := by decide +kernel
theorem dX10_firstWrong_12 : decode cX10_firstWrong 12 = .ok (.if_icmp .gt 26, 3) := by decide +kernel
theorem dX10_firstWrong_15 : decode cX10_firstWrong 15 = .ok (.aload_n 1, 1) := by decide +kernel
theorem dX10_firstWrong_16 : decode cX10_firstWrong 16 = .ok (.iload_n 2, 1) := by decide +kernel
theorem dX10_firstWrong_17 : decode cX10_firstWrong 17 = .ok (.invokevirtual 235, 3) := by decide +kernel
theorem dX10_firstWrong_20 : decode cX10_firstWrong 20 = .ok (.ifCond .eq 12, 3) := by decide +kernel
theorem dX10_firstWrong_23 : decode cX10_firstWrong 23 = .ok (.iload_n 2, 1) := by decide +kernel
theorem dX10_firstWrong_24 : decode cX10_firstWrong 24 = .ok (.invokestatic 194, 3) := by decide +kernel
theorem dX10_firstWrong_27 : decode cX10_firstWrong 27 = .ok (.ifCond .ne 5, 3) := by decide +kernel
theorem dX10_firstWrong_30 : decode cX10_firstWrong 30 = .ok (.iload_n 2, 1) := by decide +kernel
theorem dX10_firstWrong_31 : decode cX10_firstWrong 31 = .ok (.ireturn, 1) := by decide +kernel
theorem dX10_firstWrong_32 : decode cX10_firstWrong 32 = .ok (.iinc 2 1, 3) := by decide +kernel
theorem dX10_firstWrong_35 : decode cX10_firstWrong 35 = .ok (.goto (-28), 3) := by decide +kernel
theorem dX10_firstWrong_38 : decode cX10_firstWrong 38 = .ok (.iconst (-1), 1) := by decide +kernel
theorem dX10_firstWrong_39 : decode cX10_firstWrong 39 = .ok (.ireturn, 1) := by decide +kernel
theorem dX10_gap_0 : decode cX10_gap 0 = .ok (.aload_n 0, 1) := by decide +kernel
theorem dX10_gap_1 : decode cX10_gap 1 = .ok (.invokevirtual 128, 3) := by decide +kernel
theorem dX10_gap_4 : decode cX10_gap 4 = .ok (.astore_n 1, 1) := by decide +kernel
theorem dX10_gap_5 : decode cX10_gap 5 = .ok (.iconst 0, 1) := by decide +kernel
theorem dX10_gap_6 : decode cX10_gap 6 = .ok (.istore_n 2, 1) := by decide +kernel
theorem dX10_gap_7 : decode cX10_gap 7 = .ok (.iconst 2, 1) := by decide +kernel
theorem dX10_gap_8 : decode cX10_gap 8 = .ok (.istore_n 3, 1) := by decide +kernel
theorem dX10_gap_9 : decode cX10_gap 9 = .ok (.iload_n 3, 1) := by decide +kernel
theorem dX10_gap_10 : decode cX10_gap 10 = .ok (.aload_n 1, 1) := by decide +kernel
theorem dX10_gap_11 : decode cX10_gap 11 = .ok (.invokevirtual 234, 3) := by decide +kernel
theorem dX10_gap_14 : decode cX10_gap 14 = .ok (.if_icmp .gt 27, 3) := by decide +kernel
theorem dX10_gap_17 : decode cX10_gap 17 = .ok (.aload_n 1, 1) := by decide +kernel
theorem dX10_gap_18 : decode cX10_gap 18 = .ok (.iload_n 3, 1) := by decide +kernel
theorem dX10_gap_19 : decode cX10_gap 19 = .ok (.invokevirtual 235, 3) := by decide +kernel
theorem dX10_gap_22 : decode cX10_gap 22 = .ok (.ifCond .ne 13, 3) := by decide +kernel
theorem dX10_gap_25 : decode cX10_gap 25 = .ok (.iload_n 3, 1) := by decide +kernel
theorem dX10_gap_26 : decode cX10_gap 26 = .ok (.invokestatic 194, 3) := by decide +kernel
theorem dX10_gap_29 : decode cX10_gap 29 = .ok (.ifCond .eq 6, 3) := by decide +kernel
theorem dX10_gap_32 : decode cX10_gap 32 = .ok (.iinc 2 1, 3) := by decide +kernel
theorem dX10_gap_35 : decode cX10_gap 35 = .ok (.iinc 3 1, 3) := by decide +kernel
theorem dX10_gap_38 : decode cX10_gap 38 = .ok (.goto (-29), 3) := by decide +kernel
theorem dX10_gap_41 : decode cX10_gap 41 = .ok (.aload_n 0, 1) := by decide +kernel
theorem dX10_gap_42 : decode cX10_gap 42 = .ok (.getfield 12, 3) := by decide +kernel
theorem dX10_gap_45 : decode cX10_gap 45 = .ok (.aload_n 0, 1) := by decide +kernel
theorem dX10_gap_46 : decode cX10_gap 46 = .ok (.getfield 12, 3) := by decide +kernel
theorem dX10_gap_49 : decode cX10_gap 49 = .ok (.invokevirtual 119, 3) := by decide +kernel
theorem dX10_gap_52 : decode cX10_gap 52 = .ok (.invokevirtual 244, 3) := by decide +kernel
theorem dX10_gap_55 : decode cX10_gap 55 = .ok (.iconst (-1), 1) := by decide +kernel
theorem dX10_gap_56 : decode cX10_gap 56 = .ok (.if_icmp .ne 12, 3) := by decide +kernel
theorem dX10_gap_59 : decode cX10_gap 59 = .ok (.iload_n 2, 1) := by decide +kernel
theorem dX10_gap_60 : decode cX10_gap 60 = .ok (.aload_n 0, 1) := by decide +kernel
theorem dX10_gap_61 : decode cX10_gap 61 = .ok (.invokevirtual 247, 3) := by decide +kernel
theorem dX10_gap_64 : decode cX10_gap 64 = .ok (.iadd, 1) := by decide +kernel
theorem dX10_gap_65 : decode cX10_gap 65 = .ok (.goto 4, 3) := by decide +kernel
theorem dX10_gap_68 : decode cX10_gap 68 = .ok (.iload_n 2, 1) := by decide +kernel
theorem dX10_gap_69 : decode cX10_gap 69 = .ok (.ireturn, 1) := by decide +kernel
theorem dX10_missing_0 : decode cX10_missing 0 = .ok (.aload_n 0, 1) := by decide +kernel
theorem dX10_missing_1 : decode cX10_missing 1 = .ok (.getfield 12, 3) := by decide +kernel
theorem dX10_missing_4 : decode cX10_missing 4 = .ok (.aload_n 0, 1) := by decide +kernel
theorem dX10_missing_5 : decode cX10_missing 5 = .ok (.getfield 12, 3) := by decide +kernel
theorem dX10_missing_8 : decode cX10_missing 8 = .ok (.invokevirtual 119, 3) := by decide +kernel
theorem dX10_missing_11 : decode cX10_missing 11 = .ok (.invokevirtual 244, 3) := by decide +kernel
theorem dX10_missing_14 : decode cX10_missing 14 = .ok (.ireturn, 1) := by decide +kernel
theorem dX10_takes_0 : decode cX10_takes 0 = .ok (.iload_n 1, 1) := by decide +kernel
theorem dX10_takes_1 : decode cX10_takes 1 = .ok (.iconst 2, 1) := by decide +kernel
theorem dX10_takes_2 : decode cX10_takes 2 = .ok (.bipush 120, 2) := by decide +kernel
theorem dX10_takes_4 : decode cX10_takes 4 = .ok (.invokestatic 98, 3) := by decide +kernel
theorem dX10_takes_7 : decode cX10_takes 7 = .ok (.aload_n 0, 1) := by decide +kernel
theorem dX10_takes_8 : decode cX10_takes 8 = .ok (.invokevirtual 128, 3) := by decide +kernel
theorem dX10_takes_11 : decode cX10_takes 11 = .ok (.iload_n 1, 1) := by decide +kernel
theorem dX10_takes_12 : decode cX10_takes 12 = .ok (.invokevirtual 250, 3) := by decide +kernel
theorem dX10_takes_15 : decode cX10_takes 15 = .ok (.ireturn, 1) := by decide +kernel
theorem dX10_gives_0 : decode cX10_gives 0 = .ok (.aload_n 0, 1) := by decide +kernel
theorem dX10_gives_1 : decode cX10_gives 1 = .ok (.iload_n 1, 1) := by decide +kernel
theorem dX10_gives_2 : decode cX10_gives 2 = .ok (.invokevirtual 179, 3) := by decide +kernel
theorem dX10_gives_5 : decode cX10_gives 5 = .ok (.aload_n 0, 1) := by decide +kernel
theorem dX10_gives_6 : decode cX10_gives 6 = .ok (.aload_n 0, 1) := by decide +kernel
theorem dX10_gives_7 : decode cX10_gives 7 = .ok (.invokevirtual 128, 3) := by decide +kernel
theorem dX10_gives_10 : decode cX10_gives 10 = .ok (.iload_n 1, 1) := by decide +kernel
theorem dX10_gives_11 : decode cX10_gives 11 = .ok (.invokevirtual 253, 3) := by decide +kernel
theorem dX10_gives_14 : decode cX10_gives 14 = .ok (.ireturn, 1) := by decide +kernel
theorem dX10_best_0 : decode cX10_best 0 = .ok (.aload_n 0, 1) := by decide +kernel
theorem dX10_best_1 : decode cX10_best 1 = .ok (.invokevirtual 128, 3) := by decide +kernel
theorem dX10_best_4 : decode cX10_best 4 = .ok (.astore_n 1, 1) := by decide +kernel
theorem dX10_best_5 : decode cX10_best 5 = .ok (.iconst (-1), 1) := by decide +kernel
theorem dX10_best_6 : decode cX10_best 6 = .ok (.istore_n 2, 1) := by decide +kernel
theorem dX10_best_7 : decode cX10_best 7 = .ok (.iconst 0, 1) := by decide +kernel
theorem dX10_best_8 : decode cX10_best 8 = .ok (.istore_n 3, 1) := by decide +kernel
theorem dX10_best_9 : decode cX10_best 9 = .ok (.iconst 2, 1) := by decide +kernel
theorem dX10_best_10 : decode cX10_best 10 = .ok (.istore 4, 2) := by decide +kernel
theorem dX10_best_12 : decode cX10_best 12 = .ok (.iload 4, 2) := by decide +kernel
theorem dX10_best_14 : decode cX10_best 14 = .ok (.bipush 120, 2) := by decide +kernel
theorem dX10_best_16 : decode cX10_best 16 = .ok (.if_icmp .gt 29, 3) := by decide +kernel
theorem dX10_best_19 : decode cX10_best 19 = .ok (.aload_n 1, 1) := by decide +kernel
theorem dX10_best_20 : decode cX10_best 20 = .ok (.iload 4, 2) := by decide +kernel
theorem dX10_best_22 : decode cX10_best 22 = .ok (.invokevirtual 250, 3) := by decide +kernel
theorem dX10_best_25 : decode cX10_best 25 = .ok (.istore 5, 2) := by decide +kernel
theorem dX10_best_27 : decode cX10_best 27 = .ok (.iload 5, 2) := by decide +kernel
theorem dX10_best_29 : decode cX10_best 29 = .ok (.iload_n 3, 1) := by decide +kernel
theorem dX10_best_30 : decode cX10_best 30 = .ok (.if_icmp .le 9, 3) := by decide +kernel
theorem dX10_best_33 : decode cX10_best 33 = .ok (.iload 5, 2) := by decide +kernel
theorem dX10_best_35 : decode cX10_best 35 = .ok (.istore_n 3, 1) := by decide +kernel
theorem dX10_best_36 : decode cX10_best 36 = .ok (.iload 4, 2) := by decide +kernel
theorem dX10_best_38 : decode cX10_best 38 = .ok (.istore_n 2, 1) := by decide +kernel
theorem dX10_best_39 : decode cX10_best 39 = .ok (.iinc 4 1, 3) := by decide +kernel
theorem dX10_best_42 : decode cX10_best 42 = .ok (.goto (-30), 3) := by decide +kernel
theorem dX10_best_45 : decode cX10_best 45 = .ok (.iload_n 2, 1) := by decide +kernel
theorem dX10_best_46 : decode cX10_best 46 = .ok (.ireturn, 1) := by decide +kernel
theorem dX10_marksNext_0 : decode cX10_marksNext 0 = .ok (.iload_n 1, 1) := by decide +kernel
theorem dX10_marksNext_1 : decode cX10_marksNext 1 = .ok (.iconst 1, 1) := by decide +kernel
theorem dX10_marksNext_2 : decode cX10_marksNext 2 = .ok (.sipush 400, 3) := by decide +kernel
theorem dX10_marksNext_5 : decode cX10_marksNext 5 = .ok (.invokestatic 98, 3) := by decide +kernel
theorem dX10_marksNext_8 : decode cX10_marksNext 8 = .ok (.aload_n 0, 1) := by decide +kernel
theorem dX10_marksNext_9 : decode cX10_marksNext 9 = .ok (.getfield 12, 3) := by decide +kernel
theorem dX10_marksNext_12 : decode cX10_marksNext 12 = .ok (.invokevirtual 116, 3) := by decide +kernel
theorem dX10_marksNext_15 : decode cX10_marksNext 15 = .ok (.istore_n 2, 1) := by decide +kernel
theorem dX10_marksNext_16 : decode cX10_marksNext 16 = .ok (.iconst 0, 1) := by decide +kernel
theorem dX10_marksNext_17 : decode cX10_marksNext 17 = .ok (.istore_n 3, 1) := by decide +kernel
theorem dX10_marksNext_18 : decode cX10_marksNext 18 = .ok (.iload_n 2, 1) := by decide +kernel
theorem dX10_marksNext_19 : decode cX10_marksNext 19 = .ok (.iconst 1, 1) := by decide +kernel
theorem dX10_marksNext_20 : decode cX10_marksNext 20 = .ok (.iadd, 1) := by decide +kernel
theorem dX10_marksNext_21 : decode cX10_marksNext 21 = .ok (.istore 4, 2) := by decide +kernel
theorem dX10_marksNext_23 : decode cX10_marksNext 23 = .ok (.iload 4, 2) := by decide +kernel
theorem dX10_marksNext_25 : decode cX10_marksNext 25 = .ok (.iload_n 2, 1) := by decide +kernel
theorem dX10_marksNext_26 : decode cX10_marksNext 26 = .ok (.iload_n 1, 1) := by decide +kernel
theorem dX10_marksNext_27 : decode cX10_marksNext 27 = .ok (.iadd, 1) := by decide +kernel
theorem dX10_marksNext_28 : decode cX10_marksNext 28 = .ok (.if_icmp .gt 40, 3) := by decide +kernel
theorem dX10_marksNext_31 : decode cX10_marksNext 31 = .ok (.iload 4, 2) := by decide +kernel
theorem dX10_marksNext_33 : decode cX10_marksNext 33 = .ok (.aload_n 0, 1) := by decide +kernel
theorem dX10_marksNext_34 : decode cX10_marksNext 34 = .ok (.getfield 12, 3) := by decide +kernel
theorem dX10_marksNext_37 : decode cX10_marksNext 37 = .ok (.invokevirtual 119, 3) := by decide +kernel
theorem dX10_marksNext_40 : decode cX10_marksNext 40 = .ok (.invokestatic 257, 3) := by decide +kernel
theorem dX10_marksNext_43 : decode cX10_marksNext 43 = .ok (.ifCond .eq 19, 3) := by decide +kernel
theorem dX10_marksNext_46 : decode cX10_marksNext 46 = .ok (.aload_n 0, 1) := by decide +kernel
theorem dX10_marksNext_47 : decode cX10_marksNext 47 = .ok (.getfield 12, 3) := by decide +kernel
theorem dX10_marksNext_50 : decode cX10_marksNext 50 = .ok (.iload 4, 2) := by decide +kernel
theorem dX10_marksNext_52 : decode cX10_marksNext 52 = .ok (.invokevirtual 260, 3) := by decide +kernel
theorem dX10_marksNext_55 : decode cX10_marksNext 55 = .ok (.iconst (-1), 1) := by decide +kernel
theorem dX10_marksNext_56 : decode cX10_marksNext 56 = .ok (.if_icmp .ne 6, 3) := by decide +kernel
theorem dX10_marksNext_59 : decode cX10_marksNext 59 = .ok (.iinc 3 1, 3) := by decide +kernel
theorem dX10_marksNext_62 : decode cX10_marksNext 62 = .ok (.iinc 4 1, 3) := by decide +kernel
theorem dX10_marksNext_65 : decode cX10_marksNext 65 = .ok (.goto (-42), 3) := by decide +kernel
theorem dX10_marksNext_68 : decode cX10_marksNext 68 = .ok (.iload_n 3, 1) := by decide +kernel
theorem dX10_marksNext_69 : decode cX10_marksNext 69 = .ok (.ireturn, 1) := by decide +kernel
theorem dX10_leastWheel_0 : decode cX10_leastWheel 0 = .ok (.iconst 0, 1) := by decide +kernel
theorem dX10_leastWheel_1 : decode cX10_leastWheel 1 = .ok (.istore_n 1, 1) := by decide +kernel
theorem dX10_leastWheel_2 : decode cX10_leastWheel 2 = .ok (.iload_n 1, 1) := by decide +kernel
theorem dX10_leastWheel_3 : decode cX10_leastWheel 3 = .ok (.iconst 4, 1) := by decide +kernel
theorem dX10_leastWheel_4 : decode cX10_leastWheel 4 = .ok (.if_icmp .gt 23, 3) := by decide +kernel
theorem dX10_leastWheel_7 : decode cX10_leastWheel 7 = .ok (.aload_n 0, 1) := by decide +kernel
theorem dX10_leastWheel_8 : decode cX10_leastWheel 8 = .ok (.getfield 12, 3) := by decide +kernel
theorem dX10_leastWheel_11 : decode cX10_leastWheel 11 = .ok (.iload_n 1, 1) := by decide +kernel
theorem dX10_leastWheel_12 : decode cX10_leastWheel 12 = .ok (.invokevirtual 244, 3) := by decide +kernel
theorem dX10_leastWheel_15 : decode cX10_leastWheel 15 = .ok (.iconst (-1), 1) := by decide +kernel
theorem dX10_leastWheel_16 : decode cX10_leastWheel 16 = .ok (.if_icmp .ne 5, 3) := by decide +kernel
theorem dX10_leastWheel_19 : decode cX10_leastWheel 19 = .ok (.iload_n 1, 1) := by decide +kernel
theorem dX10_leastWheel_20 : decode cX10_leastWheel 20 = .ok (.ireturn, 1) := by decide +kernel
theorem dX10_leastWheel_21 : decode cX10_leastWheel 21 = .ok (.iinc 1 1, 3) := by decide +kernel
theorem dX10_leastWheel_24 : decode cX10_leastWheel 24 = .ok (.goto (-22), 3) := by decide +kernel
theorem dX10_leastWheel_27 : decode cX10_leastWheel 27 = .ok (.iconst (-1), 1) := by decide +kernel
theorem dX10_leastWheel_28 : decode cX10_leastWheel 28 = .ok (.ireturn, 1) := by decide +kernel
theorem dX10_shareBits_0 : decode cX10_shareBits 0 = .ok (.aload_n 0, 1) := by decide +kernel
theorem dX10_shareBits_1 : decode cX10_shareBits 1 = .ok (.getfield 12, 3) := by decide +kernel
theorem dX10_shareBits_4 : decode cX10_shareBits 4 = .ok (.invokevirtual 116, 3) := by decide +kernel
theorem dX10_shareBits_7 : decode cX10_shareBits 7 = .ok (.iconst 1, 1) := by decide +kernel
theorem dX10_shareBits_8 : decode cX10_shareBits 8 = .ok (.isub, 1) := by decide +kernel
theorem dX10_shareBits_9 : decode cX10_shareBits 9 = .ok (.istore_n 1, 1) := by decide +kernel
theorem dX10_shareBits_10 : decode cX10_shareBits 10 = .ok (.iload_n 1, 1) := by decide +kernel
theorem dX10_shareBits_11 : decode cX10_shareBits 11 = .ok (.ifCond .ne 7, 3) := by decide +kernel
theorem dX10_shareBits_14 : decode cX10_shareBits 14 = .ok (.iconst 0, 1) := by decide +kernel
theorem dX10_shareBits_15 : decode cX10_shareBits 15 = .ok (.goto 17, 3) := by decide +kernel
theorem dX10_shareBits_18 : decode cX10_shareBits 18 = .ok (.aload_n 0, 1) := by decide +kernel
theorem dX10_shareBits_19 : decode cX10_shareBits 19 = .ok (.invokevirtual 128, 3) := by decide +kernel
theorem dX10_shareBits_22 : decode cX10_shareBits 22 = .ok (.invokevirtual 132, 3) := by decide +kernel
theorem dX10_shareBits_25 : decode cX10_shareBits 25 = .ok (.i2f, 1) := by decide +kernel
theorem dX10_shareBits_26 : decode cX10_shareBits 26 = .ok (.iload_n 1, 1) := by decide +kernel
theorem dX10_shareBits_27 : decode cX10_shareBits 27 = .ok (.i2f, 1) := by decide +kernel
theorem dX10_shareBits_28 : decode cX10_shareBits 28 = .ok (.fdiv, 1) := by decide +kernel
theorem dX10_shareBits_29 : decode cX10_shareBits 29 = .ok (.invokestatic 263, 3) := by decide +kernel
theorem dX10_shareBits_32 : decode cX10_shareBits 32 = .ok (.ireturn, 1) := by decide +kernel
theorem dX10_useful_0 : decode cX10_useful 0 = .ok (.aload_n 0, 1) := by decide +kernel
theorem dX10_useful_1 : decode cX10_useful 1 = .ok (.invokevirtual 128, 3) := by decide +kernel
theorem dX10_useful_4 : decode cX10_useful 4 = .ok (.astore_n 1, 1) := by decide +kernel
theorem dX10_useful_5 : decode cX10_useful 5 = .ok (.iconst 0, 1) := by decide +kernel
theorem dX10_useful_6 : decode cX10_useful 6 = .ok (.istore_n 2, 1) := by decide +kernel
theorem dX10_useful_7 : decode cX10_useful 7 = .ok (.iconst 0, 1) := by decide +kernel
theorem dX10_useful_8 : decode cX10_useful 8 = .ok (.istore_n 3, 1) := by decide +kernel
theorem dX10_useful_9 : decode cX10_useful 9 = .ok (.iload_n 3, 1) := by decide +kernel
theorem dX10_useful_10 : decode cX10_useful 10 = .ok (.aload_n 0, 1) := by decide +kernel
theorem dX10_useful_11 : decode cX10_useful 11 = .ok (.getfield 12, 3) := by decide +kernel
theorem dX10_useful_14 : decode cX10_useful 14 = .ok (.invokevirtual 125, 3) := by decide +kernel
theorem dX10_useful_17 : decode cX10_useful 17 = .ok (.if_icmp .ge 24, 3) := by decide +kernel
theorem dX10_useful_20 : decode cX10_useful 20 = .ok (.iload_n 2, 1) := by decide +kernel
theorem dX10_useful_21 : decode cX10_useful 21 = .ok (.aload_n 1, 1) := by decide +kernel
theorem dX10_useful_22 : decode cX10_useful 22 = .ok (.aload_n 0, 1) := by decide +kernel
theorem dX10_useful_23 : decode cX10_useful 23 = .ok (.getfield 12, 3) := by decide +kernel
theorem dX10_useful_26 : decode cX10_useful 26 = .ok (.iload_n 3, 1) := by decide +kernel
theorem dX10_useful_27 : decode cX10_useful 27 = .ok (.invokevirtual 182, 3) := by decide +kernel
theorem dX10_useful_30 : decode cX10_useful 30 = .ok (.invokevirtual 185, 3) := by decide +kernel
theorem dX10_useful_33 : decode cX10_useful 33 = .ok (.iadd, 1) := by decide +kernel
theorem dX10_useful_34 : decode cX10_useful 34 = .ok (.istore_n 2, 1) := by decide +kernel
theorem dX10_useful_35 : decode cX10_useful 35 = .ok (.iinc 3 1, 3) := by decide +kernel
theorem dX10_useful_38 : decode cX10_useful 38 = .ok (.goto (-29), 3) := by decide +kernel
theorem dX10_useful_41 : decode cX10_useful 41 = .ok (.iload_n 2, 1) := by decide +kernel
theorem dX10_useful_42 : decode cX10_useful 42 = .ok (.ifCond .ne 7, 3) := by decide +kernel
theorem dX10_useful_45 : decode cX10_useful 45 = .ok (.dconst 1, 1) := by decide +kernel
theorem dX10_useful_46 : decode cX10_useful 46 = .ok (.goto 16, 3) := by decide +kernel
theorem dX10_useful_49 : decode cX10_useful 49 = .ok (.aload_n 1, 1) := by decide +kernel
theorem dX10_useful_50 : decode cX10_useful 50 = .ok (.invokevirtual 135, 3) := by decide +kernel
theorem dX10_useful_53 : decode cX10_useful 53 = .ok (.aload_n 1, 1) := by decide +kernel
theorem dX10_useful_54 : decode cX10_useful 54 = .ok (.invokevirtual 132, 3) := by decide +kernel
theorem dX10_useful_57 : decode cX10_useful 57 = .ok (.isub, 1) := by decide +kernel
theorem dX10_useful_58 : decode cX10_useful 58 = .ok (.i2d, 1) := by decide +kernel
theorem dX10_useful_59 : decode cX10_useful 59 = .ok (.iload_n 2, 1) := by decide +kernel
theorem dX10_useful_60 : decode cX10_useful 60 = .ok (.i2d, 1) := by decide +kernel
theorem dX10_useful_61 : decode cX10_useful 61 = .ok (.ddiv, 1) := by decide +kernel
theorem dX10_useful_62 : decode cX10_useful 62 = .ok (.dreturn, 1) := by decide +kernel
theorem dX10_spokeShare_0 : decode cX10_spokeShare 0 = .ok (.aload_n 0, 1) := by decide +kernel
theorem dX10_spokeShare_1 : decode cX10_spokeShare 1 = .ok (.getfield 12, 3) := by decide +kernel
theorem dX10_spokeShare_4 : decode cX10_spokeShare 4 = .ok (.invokevirtual 116, 3) := by decide +kernel
theorem dX10_spokeShare_7 : decode cX10_spokeShare 7 = .ok (.iconst 1, 1) := by decide +kernel
theorem dX10_spokeShare_8 : decode cX10_spokeShare 8 = .ok (.isub, 1) := by decide +kernel
theorem dX10_spokeShare_9 : decode cX10_spokeShare 9 = .ok (.istore_n 1, 1) := by decide +kernel
theorem dX10_spokeShare_10 : decode cX10_spokeShare 10 = .ok (.iload_n 1, 1) := by decide +kernel
theorem dX10_spokeShare_11 : decode cX10_spokeShare 11 = .ok (.ifCond .ne 7, 3) := by decide +kernel
theorem dX10_spokeShare_14 : decode cX10_spokeShare 14 = .ok (.fconst 0, 1) := by decide +kernel
theorem dX10_spokeShare_15 : decode cX10_spokeShare 15 = .ok (.goto 14, 3) := by decide +kernel
theorem dX10_spokeShare_18 : decode cX10_spokeShare 18 = .ok (.aload_n 0, 1) := by decide +kernel
theorem dX10_spokeShare_19 : decode cX10_spokeShare 19 = .ok (.invokevirtual 128, 3) := by decide +kernel
theorem dX10_spokeShare_22 : decode cX10_spokeShare 22 = .ok (.invokevirtual 135, 3) := by decide +kernel
theorem dX10_spokeShare_25 : decode cX10_spokeShare 25 = .ok (.i2f, 1) := by decide +kernel
theorem dX10_spokeShare_26 : decode cX10_spokeShare 26 = .ok (.iload_n 1, 1) := by decide +kernel
theorem dX10_spokeShare_27 : decode cX10_spokeShare 27 = .ok (.i2f, 1) := by decide +kernel
theorem dX10_spokeShare_28 : decode cX10_spokeShare 28 = .ok (.fdiv, 1) := by decide +kernel
theorem dX10_spokeShare_29 : decode cX10_spokeShare 29 = .ok (.freturn, 1) := by decide +kernel
theorem dX10_lay_0 : decode cX10_lay 0 = .ok (.aload_n 0, 1) := by decide +kernel
theorem dX10_lay_1 : decode cX10_lay 1 = .ok (.getstatic 267, 3) := by decide +kernel
theorem dX10_lay_4 : decode cX10_lay 4 = .ok (.iload_n 1, 1) := by decide +kernel
theorem dX10_lay_5 : decode cX10_lay 5 = .ok (.iconst 0, 1) := by decide +kernel
theorem dX10_lay_6 : decode cX10_lay 6 = .ok (.invokevirtual 273, 3) := by decide +kernel
theorem dX10_lay_9 : decode cX10_lay 9 = .ok (.ireturn, 1) := by decide +kernel
theorem dX10_drop_0 : decode cX10_drop 0 = .ok (.aload_n 0, 1) := by decide +kernel
theorem dX10_drop_1 : decode cX10_drop 1 = .ok (.getstatic 277, 3) := by decide +kernel
theorem dX10_drop_4 : decode cX10_drop 4 = .ok (.iconst 0, 1) := by decide +kernel
theorem dX10_drop_5 : decode cX10_drop 5 = .ok (.iconst 0, 1) := by decide +kernel
theorem dX10_drop_6 : decode cX10_drop 6 = .ok (.invokevirtual 273, 3) := by decide +kernel
theorem dX10_drop_9 : decode cX10_drop 9 = .ok (.ireturn, 1) := by decide +kernel
theorem dX10_trim_0 : decode cX10_trim 0 = .ok (.aload_n 0, 1) := by decide +kernel
theorem dX10_trim_1 : decode cX10_trim 1 = .ok (.getstatic 280, 3) := by decide +kernel
theorem dX10_trim_4 : decode cX10_trim 4 = .ok (.iload_n 1, 1) := by decide +kernel
theorem dX10_trim_5 : decode cX10_trim 5 = .ok (.iconst 0, 1) := by decide +kernel
theorem dX10_trim_6 : decode cX10_trim 6 = .ok (.invokevirtual 273, 3) := by decide +kernel
theorem dX10_trim_9 : decode cX10_trim 9 = .ok (.ireturn, 1) := by decide +kernel
theorem dX10_swap_0 : decode cX10_swap 0 = .ok (.aload_n 0, 1) := by decide +kernel
theorem dX10_swap_1 : decode cX10_swap 1 = .ok (.getstatic 283, 3) := by decide +kernel
theorem dX10_swap_4 : decode cX10_swap 4 = .ok (.iload_n 1, 1) := by decide +kernel
theorem dX10_swap_5 : decode cX10_swap 5 = .ok (.iload_n 2, 1) := by decide +kernel
theorem dX10_swap_6 : decode cX10_swap 6 = .ok (.invokevirtual 273, 3) := by decide +kernel
theorem dX10_swap_9 : decode cX10_swap 9 = .ok (.ireturn, 1) := by decide +kernel
theorem dX10_add_0 : decode cX10_add 0 = .ok (.aload_n 0, 1) := by decide +kernel
theorem dX10_add_1 : decode cX10_add 1 = .ok (.getstatic 286, 3) := by decide +kernel
theorem dX10_add_4 : decode cX10_add 4 = .ok (.iload_n 1, 1) := by decide +kernel
theorem dX10_add_5 : decode cX10_add 5 = .ok (.iconst 0, 1) := by decide +kernel
theorem dX10_add_6 : decode cX10_add 6 = .ok (.invokevirtual 273, 3) := by decide +kernel
theorem dX10_add_9 : decode cX10_add 9 = .ok (.ireturn, 1) := by decide +kernel
theorem dX10_lift_0 : decode cX10_lift 0 = .ok (.aload_n 0, 1) := by decide +kernel
theorem dX10_lift_1 : decode cX10_lift 1 = .ok (.getstatic 289, 3) := by decide +kernel
theorem dX10_lift_4 : decode cX10_lift 4 = .ok (.iload_n 1, 1) := by decide +kernel
theorem dX10_lift_5 : decode cX10_lift 5 = .ok (.iconst 0, 1) := by decide +kernel
theorem dX10_lift_6 : decode cX10_lift 6 = .ok (.invokevirtual 273, 3) := by decide +kernel
theorem dX10_lift_9 : decode cX10_lift 9 = .ok (.ireturn, 1) := by decide +kernel
theorem dX10_first_0 : decode cX10_first 0 = .ok (.aload_n 0, 1) := by decide +kernel
theorem dX10_first_1 : decode cX10_first 1 = .ok (.getstatic 292, 3) := by decide +kernel
theorem dX10_first_4 : decode cX10_first 4 = .ok (.iload_n 1, 1) := by decide +kernel
theorem dX10_first_5 : decode cX10_first 5 = .ok (.iconst 0, 1) := by decide +kernel
theorem dX10_first_6 : decode cX10_first 6 = .ok (.invokevirtual 273, 3) := by decide +kernel
theorem dX10_first_9 : decode cX10_first 9 = .ok (.ireturn, 1) := by decide +kernel
theorem dX10_wheel_0 : decode cX10_wheel 0 = .ok (.aload_n 0, 1) := by decide +kernel
theorem dX10_wheel_1 : decode cX10_wheel 1 = .ok (.getstatic 295, 3) := by decide +kernel
theorem dX10_wheel_4 : decode cX10_wheel 4 = .ok (.iload_n 1, 1) := by decide +kernel
theorem dX10_wheel_5 : decode cX10_wheel 5 = .ok (.iconst 0, 1) := by decide +kernel
theorem dX10_wheel_6 : decode cX10_wheel 6 = .ok (.invokevirtual 273, 3) := by decide +kernel
theorem dX10_wheel_9 : decode cX10_wheel 9 = .ok (.ireturn, 1) := by decide +kernel
theorem dX10_fill_0 : decode cX10_fill 0 = .ok (.aload_n 0, 1) := by decide +kernel
theorem dX10_fill_1 : decode cX10_fill 1 = .ok (.getstatic 298, 3) := by decide +kernel
theorem dX10_fill_4 : decode cX10_fill 4 = .ok (.iload_n 1, 1) := by decide +kernel
theorem dX10_fill_5 : decode cX10_fill 5 = .ok (.iconst 0, 1) := by decide +kernel
theorem dX10_fill_6 : decode cX10_fill 6 = .ok (.invokevirtual 273, 3) := by decide +kernel
theorem dX10_fill_9 : decode cX10_fill 9 = .ok (.ireturn, 1) := by decide +kernel
theorem dX10_tidy_0 : decode cX10_tidy 0 = .ok (.aload_n 0, 1) := by decide +kernel
theorem dX10_tidy_1 : decode cX10_tidy 1 = .ok (.getstatic 301, 3) := by decide +kernel
theorem dX10_tidy_4 : decode cX10_tidy 4 = .ok (.iconst 0, 1) := by decide +kernel
theorem dX10_tidy_5 : decode cX10_tidy 5 = .ok (.iconst 0, 1) := by decide +kernel
theorem dX10_tidy_6 : decode cX10_tidy 6 = .ok (.invokevirtual 273, 3) := by decide +kernel
theorem dX10_tidy_9 : decode cX10_tidy 9 = .ok (.ireturn, 1) := by decide +kernel
theorem dX10_play_0 : decode cX10_play 0 = .ok (.iload_n 1, 1) := by decide +kernel
theorem dX10_play_1 : decode cX10_play 1 = .ok (.iconst 0, 1) := by decide +kernel
theorem dX10_play_2 : decode cX10_play 2 = .ok (.aload_n 0, 1) := by decide +kernel
theorem dX10_play_3 : decode cX10_play 3 = .ok (.getfield 46, 3) := by decide +kernel
theorem dX10_play_6 : decode cX10_play 6 = .ok (.invokevirtual 91, 3) := by decide +kernel
theorem dX10_play_9 : decode cX10_play 9 = .ok (.invokestatic 98, 3) := by decide +kernel
theorem dX10_play_12 : decode cX10_play 12 = .ok (.aload_n 0, 1) := by decide +kernel
theorem dX10_play_13 : decode cX10_play 13 = .ok (.getfield 55, 3) := by decide +kernel
theorem dX10_play_16 : decode cX10_play 16 = .ok (.iload_n 1, 1) := by decide +kernel
theorem dX10_play_17 : decode cX10_play 17 = .ok (.aload_n 0, 1) := by decide +kernel
theorem dX10_play_18 : decode cX10_play 18 = .ok (.getfield 62, 3) := by decide +kernel
theorem dX10_play_21 : decode cX10_play 21 = .ok (.invokevirtual 304, 3) := by decide +kernel
theorem dX10_play_24 : decode cX10_play 24 = .ok (.istore_n 2, 1) := by decide +kernel
theorem dX10_play_25 : decode cX10_play 25 = .ok (.aload_n 0, 1) := by decide +kernel
theorem dX10_play_26 : decode cX10_play 26 = .ok (.invokevirtual 106, 3) := by decide +kernel
theorem dX10_play_29 : decode cX10_play 29 = .ok (.iload_n 2, 1) := by decide +kernel
theorem dX10_play_30 : decode cX10_play 30 = .ok (.ifCond .eq 8, 3) := by decide +kernel
theorem dX10_play_33 : decode cX10_play 33 = .ok (.bipush (-10), 2) := by decide +kernel
theorem dX10_play_35 : decode cX10_play 35 = .ok (.iload_n 2, 1) := by decide +kernel
theorem dX10_play_36 : decode cX10_play 36 = .ok (.isub, 1) := by decide +kernel
theorem dX10_play_37 : decode cX10_play 37 = .ok (.ireturn, 1) := by decide +kernel
theorem dX10_play_38 : decode cX10_play 38 = .ok (.aload_n 0, 1) := by decide +kernel
theorem dX10_play_39 : decode cX10_play 39 = .ok (.getfield 32, 3) := by decide +kernel
theorem dX10_play_42 : decode cX10_play 42 = .ok (.aload_n 0, 1) := by decide +kernel
theorem dX10_play_43 : decode cX10_play 43 = .ok (.getfield 12, 3) := by decide +kernel
theorem dX10_play_46 : decode cX10_play 46 = .ok (.invokevirtual 308, 3) := by decide +kernel
theorem dX10_play_49 : decode cX10_play 49 = .ok (.iconst 0, 1) := by decide +kernel
theorem dX10_play_50 : decode cX10_play 50 = .ok (.istore_n 3, 1) := by decide +kernel
theorem dX10_play_51 : decode cX10_play 51 = .ok (.iconst 0, 1) := by decide +kernel
theorem dX10_play_52 : decode cX10_play 52 = .ok (.istore 4, 2) := by decide +kernel
theorem dX10_play_54 : decode cX10_play 54 = .ok (.iload 4, 2) := by decide +kernel
theorem dX10_play_56 : decode cX10_play 56 = .ok (.aload_n 0, 1) := by decide +kernel
theorem dX10_play_57 : decode cX10_play 57 = .ok (.getfield 62, 3) := by decide +kernel
theorem dX10_play_60 : decode cX10_play 60 = .ok (.invokevirtual 311, 3) := by decide +kernel
theorem dX10_play_63 : decode cX10_play 63 = .ok (.if_icmp .ge 62, 3) := by decide +kernel
theorem dX10_play_66 : decode cX10_play 66 = .ok (.aload_n 0, 1) := by decide +kernel
theorem dX10_play_67 : decode cX10_play 67 = .ok (.getfield 62, 3) := by decide +kernel
theorem dX10_play_70 : decode cX10_play 70 = .ok (.iload 4, 2) := by decide +kernel
theorem dX10_play_72 : decode cX10_play 72 = .ok (.invokevirtual 314, 3) := by decide +kernel
theorem dX10_play_75 : decode cX10_play 75 = .ok (.astore 5, 2) := by decide +kernel
theorem dX10_play_77 : decode cX10_play 77 = .ok (.aload 5, 2) := by decide +kernel
theorem dX10_play_79 : decode cX10_play 79 = .ok (.ifnull 46, 3) := by decide +kernel
theorem dX10_play_82 : decode cX10_play 82 = .ok (.aload_n 0, 1) := by decide +kernel
theorem dX10_play_83 : decode cX10_play 83 = .ok (.aload_n 0, 1) := by decide +kernel
theorem dX10_play_84 : decode cX10_play 84 = .ok (.aload 5, 2) := by decide +kernel
theorem dX10_play_86 : decode cX10_play 86 = .ok (.aload_n 0, 1) := by decide +kernel
theorem dX10_play_87 : decode cX10_play 87 = .ok (.getfield 62, 3) := by decide +kernel
theorem dX10_play_90 : decode cX10_play 90 = .ok (.iload 4, 2) := by decide +kernel
theorem dX10_play_92 : decode cX10_play 92 = .ok (.invokevirtual 318, 3) := by decide +kernel
theorem dX10_play_95 : decode cX10_play 95 = .ok (.aload_n 0, 1) := by decide +kernel
theorem dX10_play_96 : decode cX10_play 96 = .ok (.getfield 62, 3) := by decide +kernel
theorem dX10_play_99 : decode cX10_play 99 = .ok (.iload 4, 2) := by decide +kernel
theorem dX10_play_101 : decode cX10_play 101 = .ok (.invokevirtual 321, 3) := by decide +kernel
theorem dX10_play_104 : decode cX10_play 104 = .ok (.invokevirtual 324, 3) := by decide +kernel
theorem dX10_play_107 : decode cX10_play 107 = .ok (.invokevirtual 327, 3) := by decide +kernel
theorem dX10_play_110 : decode cX10_play 110 = .ok (.ifCond .ge 6, 3) := by decide +kernel
theorem dX10_play_113 : decode cX10_play 113 = .ok (.goto 12, 3) := by decide +kernel
theorem dX10_play_116 : decode cX10_play 116 = .ok (.iinc 3 1, 3) := by decide +kernel
theorem dX10_play_119 : decode cX10_play 119 = .ok (.iinc 4 1, 3) := by decide +kernel
theorem dX10_play_122 : decode cX10_play 122 = .ok (.goto (-68), 3) := by decide +kernel
theorem dX10_play_125 : decode cX10_play 125 = .ok (.iload_n 3, 1) := by decide +kernel
theorem dX10_play_126 : decode cX10_play 126 = .ok (.ireturn, 1) := by decide +kernel
theorem dX10_format_0 : decode cX10_format 0 = .ok (.aload_n 0, 1) := by decide +kernel
theorem dX10_format_1 : decode cX10_format 1 = .ok (.iload_n 1, 1) := by decide +kernel
theorem dX10_format_2 : decode cX10_format 2 = .ok (.invokevirtual 154, 3) := by decide +kernel
theorem dX10_format_5 : decode cX10_format 5 = .ok (.aload_n 0, 1) := by decide +kernel
theorem dX10_format_6 : decode cX10_format 6 = .ok (.invokevirtual 128, 3) := by decide +kernel
theorem dX10_format_9 : decode cX10_format 9 = .ok (.astore_n 2, 1) := by decide +kernel
theorem dX10_format_10 : decode cX10_format 10 = .ok (.aload_n 0, 1) := by decide +kernel
theorem dX10_format_11 : decode cX10_format 11 = .ok (.getfield 69, 3) := by decide +kernel
theorem dX10_format_14 : decode cX10_format 14 = .ok (.invokevirtual 330, 3) := by decide +kernel
theorem dX10_format_17 : decode cX10_format 17 = .ok (.iconst 0, 1) := by decide +kernel
theorem dX10_format_18 : decode cX10_format 18 = .ok (.istore_n 3, 1) := by decide +kernel
theorem dX10_format_19 : decode cX10_format 19 = .ok (.aload_n 0, 1) := by decide +kernel
theorem dX10_format_20 : decode cX10_format 20 = .ok (.getfield 12, 3) := by decide +kernel
theorem dX10_format_23 : decode cX10_format 23 = .ok (.iload_n 1, 1) := by decide +kernel
theorem dX10_format_24 : decode cX10_format 24 = .ok (.invokevirtual 160, 3) := by decide +kernel
theorem dX10_format_27 : decode cX10_format 27 = .ok (.istore 4, 2) := by decide +kernel
theorem dX10_format_29 : decode cX10_format 29 = .ok (.aload_n 0, 1) := by decide +kernel
theorem dX10_format_30 : decode cX10_format 30 = .ok (.getfield 12, 3) := by decide +kernel
theorem dX10_format_33 : decode cX10_format 33 = .ok (.iload_n 1, 1) := by decide +kernel
theorem dX10_format_34 : decode cX10_format 34 = .ok (.invokevirtual 157, 3) := by decide +kernel
theorem dX10_format_37 : decode cX10_format 37 = .ok (.istore 5, 2) := by decide +kernel
theorem dX10_format_39 : decode cX10_format 39 = .ok (.iload 5, 2) := by decide +kernel
theorem dX10_format_41 : decode cX10_format 41 = .ok (.iload 4, 2) := by decide +kernel
theorem dX10_format_43 : decode cX10_format 43 = .ok (.if_icmp .gt 72, 3) := by decide +kernel
theorem dX10_format_46 : decode cX10_format 46 = .ok (.aload_n 2, 1) := by decide +kernel
theorem dX10_format_47 : decode cX10_format 47 = .ok (.iload 5, 2) := by decide +kernel
theorem dX10_format_49 : decode cX10_format 49 = .ok (.invokevirtual 204, 3) := by decide +kernel
theorem dX10_format_52 : decode cX10_format 52 = .ok (.istore 6, 2) := by decide +kernel
theorem dX10_format_54 : decode cX10_format 54 = .ok (.iload 6, 2) := by decide +kernel
theorem dX10_format_56 : decode cX10_format 56 = .ok (.ifCond .ne 45, 3) := by decide +kernel
theorem dX10_format_59 : decode cX10_format 59 = .ok (.aload_n 0, 1) := by decide +kernel
theorem dX10_format_60 : decode cX10_format 60 = .ok (.getfield 69, 3) := by decide +kernel
theorem dX10_format_63 : decode cX10_format 63 = .ok (.invokevirtual 333, 3) := by decide +kernel
theorem dX10_format_66 : decode cX10_format 66 = .ok (.ifCond .le 21, 3) := by decide +kernel
theorem dX10_format_69 : decode cX10_format 69 = .ok (.aload_n 0, 1) := by decide +kernel
theorem dX10_format_70 : decode cX10_format 70 = .ok (.getfield 69, 3) := by decide +kernel
theorem dX10_format_73 : decode cX10_format 73 = .ok (.iload_n 3, 1) := by decide +kernel
theorem dX10_format_74 : decode cX10_format 74 = .ok (.ifCond .eq 8, 3) := by decide +kernel
theorem dX10_format_77 : decode cX10_format 77 = .ok (.bipush 46, 2) := by decide +kernel
theorem dX10_format_79 : decode cX10_format 79 = .ok (.goto 5, 3) := by decide +kernel
theorem dX10_format_82 : decode cX10_format 82 = .ok (.bipush 32, 2) := by decide +kernel
theorem dX10_format_84 : decode cX10_format 84 = .ok (.invokevirtual 336, 3) := by decide +kernel
theorem dX10_format_87 : decode cX10_format 87 = .ok (.aload_n 0, 1) := by decide +kernel
