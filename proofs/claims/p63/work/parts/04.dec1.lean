theorem dX9_primeAt_20 : decode cX9_primeAt 20 = .ok (.iaload, 1) := by decide +kernel
theorem dX9_primeAt_21 : decode cX9_primeAt 21 = .ok (.ireturn, 1) := by decide +kernel
theorem dX9_product_0 : decode cX9_product 0 = .ok (.iload_n 0, 1) := by decide +kernel
theorem dX9_product_1 : decode cX9_product 1 = .ok (.ifCond .lt 11, 3) := by decide +kernel
theorem dX9_product_4 : decode cX9_product 4 = .ok (.iload_n 0, 1) := by decide +kernel
theorem dX9_product_5 : decode cX9_product 5 = .ok (.getstatic 15, 3) := by decide +kernel
theorem dX9_product_8 : decode cX9_product 8 = .ok (.arraylength, 1) := by decide +kernel
theorem dX9_product_9 : decode cX9_product 9 = .ok (.if_icmp .lt 7, 3) := by decide +kernel
theorem dX9_product_12 : decode cX9_product 12 = .ok (.iconst 1, 1) := by decide +kernel
theorem dX9_product_13 : decode cX9_product 13 = .ok (.goto 8, 3) := by decide +kernel
theorem dX9_product_16 : decode cX9_product 16 = .ok (.getstatic 15, 3) := by decide +kernel
theorem dX9_product_19 : decode cX9_product 19 = .ok (.iload_n 0, 1) := by decide +kernel
theorem dX9_product_20 : decode cX9_product 20 = .ok (.iaload, 1) := by decide +kernel
theorem dX9_product_21 : decode cX9_product 21 = .ok (.ireturn, 1) := by decide +kernel
theorem dX9_smallestPrimeOf_0 : decode cX9_smallestPrimeOf 0 = .ok (.iconst 0, 1) := by decide +kernel
theorem dX9_smallestPrimeOf_1 : decode cX9_smallestPrimeOf 1 = .ok (.istore_n 2, 1) := by decide +kernel
theorem dX9_smallestPrimeOf_2 : decode cX9_smallestPrimeOf 2 = .ok (.iload_n 2, 1) := by decide +kernel
theorem dX9_smallestPrimeOf_3 : decode cX9_smallestPrimeOf 3 = .ok (.iload_n 1, 1) := by decide +kernel
theorem dX9_smallestPrimeOf_4 : decode cX9_smallestPrimeOf 4 = .ok (.if_icmp .ge 33, 3) := by decide +kernel
theorem dX9_smallestPrimeOf_7 : decode cX9_smallestPrimeOf 7 = .ok (.iload_n 2, 1) := by decide +kernel
theorem dX9_smallestPrimeOf_8 : decode cX9_smallestPrimeOf 8 = .ok (.getstatic 9, 3) := by decide +kernel
theorem dX9_smallestPrimeOf_11 : decode cX9_smallestPrimeOf 11 = .ok (.arraylength, 1) := by decide +kernel
theorem dX9_smallestPrimeOf_12 : decode cX9_smallestPrimeOf 12 = .ok (.if_icmp .ge 25, 3) := by decide +kernel
theorem dX9_smallestPrimeOf_15 : decode cX9_smallestPrimeOf 15 = .ok (.iload_n 0, 1) := by decide +kernel
theorem dX9_smallestPrimeOf_16 : decode cX9_smallestPrimeOf 16 = .ok (.getstatic 9, 3) := by decide +kernel
theorem dX9_smallestPrimeOf_19 : decode cX9_smallestPrimeOf 19 = .ok (.iload_n 2, 1) := by decide +kernel
theorem dX9_smallestPrimeOf_20 : decode cX9_smallestPrimeOf 20 = .ok (.iaload, 1) := by decide +kernel
theorem dX9_smallestPrimeOf_21 : decode cX9_smallestPrimeOf 21 = .ok (.irem, 1) := by decide +kernel
theorem dX9_smallestPrimeOf_22 : decode cX9_smallestPrimeOf 22 = .ok (.ifCond .ne 9, 3) := by decide +kernel
theorem dX9_smallestPrimeOf_25 : decode cX9_smallestPrimeOf 25 = .ok (.getstatic 9, 3) := by decide +kernel
theorem dX9_smallestPrimeOf_28 : decode cX9_smallestPrimeOf 28 = .ok (.iload_n 2, 1) := by decide +kernel
theorem dX9_smallestPrimeOf_29 : decode cX9_smallestPrimeOf 29 = .ok (.iaload, 1) := by decide +kernel
theorem dX9_smallestPrimeOf_30 : decode cX9_smallestPrimeOf 30 = .ok (.ireturn, 1) := by decide +kernel
theorem dX9_smallestPrimeOf_31 : decode cX9_smallestPrimeOf 31 = .ok (.iinc 2 1, 3) := by decide +kernel
theorem dX9_smallestPrimeOf_34 : decode cX9_smallestPrimeOf 34 = .ok (.goto (-32), 3) := by decide +kernel
theorem dX9_smallestPrimeOf_37 : decode cX9_smallestPrimeOf 37 = .ok (.iconst (-1), 1) := by decide +kernel
theorem dX9_smallestPrimeOf_38 : decode cX9_smallestPrimeOf 38 = .ok (.ireturn, 1) := by decide +kernel
theorem dX9_isFree_0 : decode cX9_isFree 0 = .ok (.iload_n 0, 1) := by decide +kernel
theorem dX9_isFree_1 : decode cX9_isFree 1 = .ok (.iload_n 1, 1) := by decide +kernel
theorem dX9_isFree_2 : decode cX9_isFree 2 = .ok (.invokestatic 18, 3) := by decide +kernel
theorem dX9_isFree_5 : decode cX9_isFree 5 = .ok (.iconst (-1), 1) := by decide +kernel
theorem dX9_isFree_6 : decode cX9_isFree 6 = .ok (.if_icmp .ne 7, 3) := by decide +kernel
theorem dX9_isFree_9 : decode cX9_isFree 9 = .ok (.iconst 1, 1) := by decide +kernel
theorem dX9_isFree_10 : decode cX9_isFree 10 = .ok (.goto 4, 3) := by decide +kernel
theorem dX9_isFree_13 : decode cX9_isFree 13 = .ok (.iconst 0, 1) := by decide +kernel
theorem dX9_isFree_14 : decode cX9_isFree 14 = .ok (.ireturn, 1) := by decide +kernel
theorem dX9_isOnSpoke_0 : decode cX9_isOnSpoke 0 = .ok (.iload_n 0, 1) := by decide +kernel
theorem dX9_isOnSpoke_1 : decode cX9_isOnSpoke 1 = .ok (.iload_n 1, 1) := by decide +kernel
theorem dX9_isOnSpoke_2 : decode cX9_isOnSpoke 2 = .ok (.invokestatic 18, 3) := by decide +kernel
theorem dX9_isOnSpoke_5 : decode cX9_isOnSpoke 5 = .ok (.istore_n 2, 1) := by decide +kernel
theorem dX9_isOnSpoke_6 : decode cX9_isOnSpoke 6 = .ok (.iload_n 2, 1) := by decide +kernel
theorem dX9_isOnSpoke_7 : decode cX9_isOnSpoke 7 = .ok (.iconst (-1), 1) := by decide +kernel
theorem dX9_isOnSpoke_8 : decode cX9_isOnSpoke 8 = .ok (.if_icmp .eq 8, 3) := by decide +kernel
theorem dX9_isOnSpoke_11 : decode cX9_isOnSpoke 11 = .ok (.iload_n 2, 1) := by decide +kernel
theorem dX9_isOnSpoke_12 : decode cX9_isOnSpoke 12 = .ok (.iload_n 0, 1) := by decide +kernel
theorem dX9_isOnSpoke_13 : decode cX9_isOnSpoke 13 = .ok (.if_icmp .ne 7, 3) := by decide +kernel
theorem dX9_isOnSpoke_16 : decode cX9_isOnSpoke 16 = .ok (.iconst 1, 1) := by decide +kernel
theorem dX9_isOnSpoke_17 : decode cX9_isOnSpoke 17 = .ok (.goto 4, 3) := by decide +kernel
theorem dX9_isOnSpoke_20 : decode cX9_isOnSpoke 20 = .ok (.iconst 0, 1) := by decide +kernel
theorem dX9_isOnSpoke_21 : decode cX9_isOnSpoke 21 = .ok (.ireturn, 1) := by decide +kernel
theorem dX9_spokesUpTo_0 : decode cX9_spokesUpTo 0 = .ok (.iconst 0, 1) := by decide +kernel
theorem dX9_spokesUpTo_1 : decode cX9_spokesUpTo 1 = .ok (.istore_n 2, 1) := by decide +kernel
theorem dX9_spokesUpTo_2 : decode cX9_spokesUpTo 2 = .ok (.iconst 1, 1) := by decide +kernel
theorem dX9_spokesUpTo_3 : decode cX9_spokesUpTo 3 = .ok (.istore_n 3, 1) := by decide +kernel
theorem dX9_spokesUpTo_4 : decode cX9_spokesUpTo 4 = .ok (.iload_n 3, 1) := by decide +kernel
theorem dX9_spokesUpTo_5 : decode cX9_spokesUpTo 5 = .ok (.iload_n 0, 1) := by decide +kernel
theorem dX9_spokesUpTo_6 : decode cX9_spokesUpTo 6 = .ok (.if_icmp .gt 20, 3) := by decide +kernel
theorem dX9_spokesUpTo_9 : decode cX9_spokesUpTo 9 = .ok (.iload_n 3, 1) := by decide +kernel
theorem dX9_spokesUpTo_10 : decode cX9_spokesUpTo 10 = .ok (.iload_n 1, 1) := by decide +kernel
theorem dX9_spokesUpTo_11 : decode cX9_spokesUpTo 11 = .ok (.invokestatic 22, 3) := by decide +kernel
theorem dX9_spokesUpTo_14 : decode cX9_spokesUpTo 14 = .ok (.ifCond .eq 6, 3) := by decide +kernel
theorem dX9_spokesUpTo_17 : decode cX9_spokesUpTo 17 = .ok (.iinc 2 1, 3) := by decide +kernel
theorem dX9_spokesUpTo_20 : decode cX9_spokesUpTo 20 = .ok (.iinc 3 1, 3) := by decide +kernel
theorem dX9_spokesUpTo_23 : decode cX9_spokesUpTo 23 = .ok (.goto (-19), 3) := by decide +kernel
theorem dX9_spokesUpTo_26 : decode cX9_spokesUpTo 26 = .ok (.iload_n 2, 1) := by decide +kernel
theorem dX9_spokesUpTo_27 : decode cX9_spokesUpTo 27 = .ok (.ireturn, 1) := by decide +kernel
theorem dX9_strikeAbove_0 : decode cX9_strikeAbove 0 = .ok (.iload_n 1, 1) := by decide +kernel
theorem dX9_strikeAbove_1 : decode cX9_strikeAbove 1 = .ok (.iconst 2, 1) := by decide +kernel
theorem dX9_strikeAbove_2 : decode cX9_strikeAbove 2 = .ok (.if_icmp .ge 5, 3) := by decide +kernel
theorem dX9_strikeAbove_5 : decode cX9_strikeAbove 5 = .ok (.iconst (-1), 1) := by decide +kernel
theorem dX9_strikeAbove_6 : decode cX9_strikeAbove 6 = .ok (.ireturn, 1) := by decide +kernel
theorem dX9_strikeAbove_7 : decode cX9_strikeAbove 7 = .ok (.iload_n 1, 1) := by decide +kernel
theorem dX9_strikeAbove_8 : decode cX9_strikeAbove 8 = .ok (.iload_n 1, 1) := by decide +kernel
theorem dX9_strikeAbove_9 : decode cX9_strikeAbove 9 = .ok (.imul, 1) := by decide +kernel
theorem dX9_strikeAbove_10 : decode cX9_strikeAbove 10 = .ok (.iload_n 0, 1) := by decide +kernel
theorem dX9_strikeAbove_11 : decode cX9_strikeAbove 11 = .ok (.iload_n 1, 1) := by decide +kernel
theorem dX9_strikeAbove_12 : decode cX9_strikeAbove 12 = .ok (.idiv, 1) := by decide +kernel
theorem dX9_strikeAbove_13 : decode cX9_strikeAbove 13 = .ok (.iconst 1, 1) := by decide +kernel
theorem dX9_strikeAbove_14 : decode cX9_strikeAbove 14 = .ok (.iadd, 1) := by decide +kernel
theorem dX9_strikeAbove_15 : decode cX9_strikeAbove 15 = .ok (.iload_n 1, 1) := by decide +kernel
theorem dX9_strikeAbove_16 : decode cX9_strikeAbove 16 = .ok (.imul, 1) := by decide +kernel
theorem dX9_strikeAbove_17 : decode cX9_strikeAbove 17 = .ok (.invokestatic 26, 3) := by decide +kernel
theorem dX9_strikeAbove_20 : decode cX9_strikeAbove 20 = .ok (.istore_n 3, 1) := by decide +kernel
theorem dX9_strikeAbove_21 : decode cX9_strikeAbove 21 = .ok (.iload_n 2, 1) := by decide +kernel
theorem dX9_strikeAbove_22 : decode cX9_strikeAbove 22 = .ok (.invokestatic 31, 3) := by decide +kernel
theorem dX9_strikeAbove_25 : decode cX9_strikeAbove 25 = .ok (.istore 4, 2) := by decide +kernel
theorem dX9_strikeAbove_27 : decode cX9_strikeAbove 27 = .ok (.iconst 0, 1) := by decide +kernel
theorem dX9_strikeAbove_28 : decode cX9_strikeAbove 28 = .ok (.istore 5, 2) := by decide +kernel
theorem dX9_strikeAbove_30 : decode cX9_strikeAbove 30 = .ok (.iload 5, 2) := by decide +kernel
theorem dX9_strikeAbove_32 : decode cX9_strikeAbove 32 = .ok (.iload 4, 2) := by decide +kernel
theorem dX9_strikeAbove_34 : decode cX9_strikeAbove 34 = .ok (.if_icmp .ge 23, 3) := by decide +kernel
theorem dX9_strikeAbove_37 : decode cX9_strikeAbove 37 = .ok (.iload_n 3, 1) := by decide +kernel
theorem dX9_strikeAbove_38 : decode cX9_strikeAbove 38 = .ok (.iload_n 2, 1) := by decide +kernel
theorem dX9_strikeAbove_39 : decode cX9_strikeAbove 39 = .ok (.invokestatic 35, 3) := by decide +kernel
theorem dX9_strikeAbove_42 : decode cX9_strikeAbove 42 = .ok (.ifCond .eq 5, 3) := by decide +kernel
theorem dX9_strikeAbove_45 : decode cX9_strikeAbove 45 = .ok (.iload_n 3, 1) := by decide +kernel
theorem dX9_strikeAbove_46 : decode cX9_strikeAbove 46 = .ok (.ireturn, 1) := by decide +kernel
theorem dX9_strikeAbove_47 : decode cX9_strikeAbove 47 = .ok (.iload_n 3, 1) := by decide +kernel
theorem dX9_strikeAbove_48 : decode cX9_strikeAbove 48 = .ok (.iload_n 1, 1) := by decide +kernel
theorem dX9_strikeAbove_49 : decode cX9_strikeAbove 49 = .ok (.iadd, 1) := by decide +kernel
theorem dX9_strikeAbove_50 : decode cX9_strikeAbove 50 = .ok (.istore_n 3, 1) := by decide +kernel
theorem dX9_strikeAbove_51 : decode cX9_strikeAbove 51 = .ok (.iinc 5 1, 3) := by decide +kernel
theorem dX9_strikeAbove_54 : decode cX9_strikeAbove 54 = .ok (.goto (-24), 3) := by decide +kernel
theorem dX9_strikeAbove_57 : decode cX9_strikeAbove 57 = .ok (.iconst (-1), 1) := by decide +kernel
theorem dX9_strikeAbove_58 : decode cX9_strikeAbove 58 = .ok (.ireturn, 1) := by decide +kernel
theorem dX9_isPrime_0 : decode cX9_isPrime 0 = .ok (.iconst 2, 1) := by decide +kernel
theorem dX9_isPrime_1 : decode cX9_isPrime 1 = .ok (.istore_n 1, 1) := by decide +kernel
theorem dX9_isPrime_2 : decode cX9_isPrime 2 = .ok (.iload_n 1, 1) := by decide +kernel
theorem dX9_isPrime_3 : decode cX9_isPrime 3 = .ok (.sipush 4801, 3) := by decide +kernel
theorem dX9_isPrime_6 : decode cX9_isPrime 6 = .ok (.if_icmp .gt 24, 3) := by decide +kernel
theorem dX9_isPrime_9 : decode cX9_isPrime 9 = .ok (.iload_n 1, 1) := by decide +kernel
theorem dX9_isPrime_10 : decode cX9_isPrime 10 = .ok (.iload_n 1, 1) := by decide +kernel
theorem dX9_isPrime_11 : decode cX9_isPrime 11 = .ok (.imul, 1) := by decide +kernel
theorem dX9_isPrime_12 : decode cX9_isPrime 12 = .ok (.iload_n 0, 1) := by decide +kernel
theorem dX9_isPrime_13 : decode cX9_isPrime 13 = .ok (.if_icmp .gt 17, 3) := by decide +kernel
theorem dX9_isPrime_16 : decode cX9_isPrime 16 = .ok (.iload_n 0, 1) := by decide +kernel
theorem dX9_isPrime_17 : decode cX9_isPrime 17 = .ok (.iload_n 1, 1) := by decide +kernel
theorem dX9_isPrime_18 : decode cX9_isPrime 18 = .ok (.irem, 1) := by decide +kernel
theorem dX9_isPrime_19 : decode cX9_isPrime 19 = .ok (.ifCond .ne 5, 3) := by decide +kernel
theorem dX9_isPrime_22 : decode cX9_isPrime 22 = .ok (.iconst 0, 1) := by decide +kernel
theorem dX9_isPrime_23 : decode cX9_isPrime 23 = .ok (.ireturn, 1) := by decide +kernel
theorem dX9_isPrime_24 : decode cX9_isPrime 24 = .ok (.iinc 1 1, 3) := by decide +kernel
theorem dX9_isPrime_27 : decode cX9_isPrime 27 = .ok (.goto (-25), 3) := by decide +kernel
theorem dX9_isPrime_30 : decode cX9_isPrime 30 = .ok (.iload_n 0, 1) := by decide +kernel
theorem dX9_isPrime_31 : decode cX9_isPrime 31 = .ok (.iconst 2, 1) := by decide +kernel
theorem dX9_isPrime_32 : decode cX9_isPrime 32 = .ok (.if_icmp .lt 7, 3) := by decide +kernel
theorem dX9_isPrime_35 : decode cX9_isPrime 35 = .ok (.iconst 1, 1) := by decide +kernel
theorem dX9_isPrime_36 : decode cX9_isPrime 36 = .ok (.goto 4, 3) := by decide +kernel
theorem dX9_isPrime_39 : decode cX9_isPrime 39 = .ok (.iconst 0, 1) := by decide +kernel
theorem dX9_isPrime_40 : decode cX9_isPrime 40 = .ok (.ireturn, 1) := by decide +kernel
theorem dX10_init_0 : decode cX10_init 0 = .ok (.aload_n 0, 1) := by decide +kernel
theorem dX10_init_1 : decode cX10_init 1 = .ok (.invokespecial 3, 3) := by decide +kernel
theorem dX10_init_4 : decode cX10_init 4 = .ok (.aload_n 0, 1) := by decide +kernel
theorem dX10_init_5 : decode cX10_init 5 = .ok (.new 9, 3) := by decide +kernel
theorem dX10_init_8 : decode cX10_init 8 = .ok (.dup, 1) := by decide +kernel
theorem dX10_init_9 : decode cX10_init 9 = .ok (.invokespecial 11, 3) := by decide +kernel
theorem dX10_init_12 : decode cX10_init 12 = .ok (.putfield 12, 3) := by decide +kernel
theorem dX10_init_15 : decode cX10_init 15 = .ok (.aload_n 0, 1) := by decide +kernel
theorem dX10_init_16 : decode cX10_init 16 = .ok (.new 9, 3) := by decide +kernel
theorem dX10_init_19 : decode cX10_init 19 = .ok (.dup, 1) := by decide +kernel
theorem dX10_init_20 : decode cX10_init 20 = .ok (.invokespecial 11, 3) := by decide +kernel
theorem dX10_init_23 : decode cX10_init 23 = .ok (.putfield 16, 3) := by decide +kernel
theorem dX10_init_26 : decode cX10_init 26 = .ok (.aload_n 0, 1) := by decide +kernel
theorem dX10_init_27 : decode cX10_init 27 = .ok (.new 9, 3) := by decide +kernel
theorem dX10_init_30 : decode cX10_init 30 = .ok (.dup, 1) := by decide +kernel
theorem dX10_init_31 : decode cX10_init 31 = .ok (.invokespecial 11, 3) := by decide +kernel
theorem dX10_init_34 : decode cX10_init 34 = .ok (.putfield 19, 3) := by decide +kernel
theorem dX10_init_37 : decode cX10_init 37 = .ok (.aload_n 0, 1) := by decide +kernel
theorem dX10_init_38 : decode cX10_init 38 = .ok (.new 9, 3) := by decide +kernel
theorem dX10_init_41 : decode cX10_init 41 = .ok (.dup, 1) := by decide +kernel
theorem dX10_init_42 : decode cX10_init 42 = .ok (.invokespecial 11, 3) := by decide +kernel
theorem dX10_init_45 : decode cX10_init 45 = .ok (.putfield 22, 3) := by decide +kernel
theorem dX10_init_48 : decode cX10_init 48 = .ok (.aload_n 0, 1) := by decide +kernel
theorem dX10_init_49 : decode cX10_init 49 = .ok (.iconst 0, 1) := by decide +kernel
theorem dX10_init_50 : decode cX10_init 50 = .ok (.putfield 25, 3) := by decide +kernel
theorem dX10_init_53 : decode cX10_init 53 = .ok (.aload_n 0, 1) := by decide +kernel
theorem dX10_init_54 : decode cX10_init 54 = .ok (.new 29, 3) := by decide +kernel
theorem dX10_init_57 : decode cX10_init 57 = .ok (.dup, 1) := by decide +kernel
theorem dX10_init_58 : decode cX10_init 58 = .ok (.invokespecial 31, 3) := by decide +kernel
theorem dX10_init_61 : decode cX10_init 61 = .ok (.putfield 32, 3) := by decide +kernel
theorem dX10_init_64 : decode cX10_init 64 = .ok (.aload_n 0, 1) := by decide +kernel
theorem dX10_init_65 : decode cX10_init 65 = .ok (.new 36, 3) := by decide +kernel
theorem dX10_init_68 : decode cX10_init 68 = .ok (.dup, 1) := by decide +kernel
theorem dX10_init_69 : decode cX10_init 69 = .ok (.invokespecial 38, 3) := by decide +kernel
theorem dX10_init_72 : decode cX10_init 72 = .ok (.putfield 39, 3) := by decide +kernel
theorem dX10_init_75 : decode cX10_init 75 = .ok (.aload_n 0, 1) := by decide +kernel
theorem dX10_init_76 : decode cX10_init 76 = .ok (.new 43, 3) := by decide +kernel
theorem dX10_init_79 : decode cX10_init 79 = .ok (.dup, 1) := by decide +kernel
theorem dX10_init_80 : decode cX10_init 80 = .ok (.invokespecial 45, 3) := by decide +kernel
theorem dX10_init_83 : decode cX10_init 83 = .ok (.putfield 46, 3) := by decide +kernel
theorem dX10_init_86 : decode cX10_init 86 = .ok (.aload_n 0, 1) := by decide +kernel
theorem dX10_init_87 : decode cX10_init 87 = .ok (.new 50, 3) := by decide +kernel
theorem dX10_init_90 : decode cX10_init 90 = .ok (.dup, 1) := by decide +kernel
theorem dX10_init_91 : decode cX10_init 91 = .ok (.aload_n 0, 1) := by decide +kernel
theorem dX10_init_92 : decode cX10_init 92 = .ok (.getfield 46, 3) := by decide +kernel
theorem dX10_init_95 : decode cX10_init 95 = .ok (.invokespecial 52, 3) := by decide +kernel
theorem dX10_init_98 : decode cX10_init 98 = .ok (.putfield 55, 3) := by decide +kernel
theorem dX10_init_101 : decode cX10_init 101 = .ok (.aload_n 0, 1) := by decide +kernel
theorem dX10_init_102 : decode cX10_init 102 = .ok (.new 59, 3) := by decide +kernel
theorem dX10_init_105 : decode cX10_init 105 = .ok (.dup, 1) := by decide +kernel
theorem dX10_init_106 : decode cX10_init 106 = .ok (.invokespecial 61, 3) := by decide +kernel
theorem dX10_init_109 : decode cX10_init 109 = .ok (.putfield 62, 3) := by decide +kernel
theorem dX10_init_112 : decode cX10_init 112 = .ok (.aload_n 0, 1) := by decide +kernel
theorem dX10_init_113 : decode cX10_init 113 = .ok (.new 66, 3) := by decide +kernel
theorem dX10_init_116 : decode cX10_init 116 = .ok (.dup, 1) := by decide +kernel
theorem dX10_init_117 : decode cX10_init 117 = .ok (.invokespecial 68, 3) := by decide +kernel
theorem dX10_init_120 : decode cX10_init 120 = .ok (.putfield 69, 3) := by decide +kernel
theorem dX10_init_123 : decode cX10_init 123 = .ok (.aload_n 0, 1) := by decide +kernel
theorem dX10_init_124 : decode cX10_init 124 = .ok (.iconst 5, 1) := by decide +kernel
theorem dX10_init_125 : decode cX10_init 125 = .ok (.newarray .int, 2) := by decide +kernel
theorem dX10_init_127 : decode cX10_init 127 = .ok (.putfield 73, 3) := by decide +kernel
theorem dX10_init_130 : decode cX10_init 130 = .ok (.aload_n 0, 1) := by decide +kernel
theorem dX10_init_131 : decode cX10_init 131 = .ok (.iconst (-1), 1) := by decide +kernel
theorem dX10_init_132 : decode cX10_init 132 = .ok (.putfield 77, 3) := by decide +kernel
theorem dX10_init_135 : decode cX10_init 135 = .ok (.aload_n 0, 1) := by decide +kernel
theorem dX10_init_136 : decode cX10_init 136 = .ok (.getfield 12, 3) := by decide +kernel
theorem dX10_init_139 : decode cX10_init 139 = .ok (.iconst 1, 1) := by decide +kernel
theorem dX10_init_140 : decode cX10_init 140 = .ok (.invokevirtual 81, 3) := by decide +kernel
theorem dX10_init_143 : decode cX10_init 143 = .ok (.aload_n 0, 1) := by decide +kernel
theorem dX10_init_144 : decode cX10_init 144 = .ok (.getfield 12, 3) := by decide +kernel
theorem dX10_init_147 : decode cX10_init 147 = .ok (.bipush 29, 2) := by decide +kernel
theorem dX10_init_149 : decode cX10_init 149 = .ok (.invokevirtual 85, 3) := by decide +kernel
theorem dX10_init_152 : decode cX10_init 152 = .ok (.aload_n 0, 1) := by decide +kernel
theorem dX10_init_153 : decode cX10_init 153 = .ok (.getfield 12, 3) := by decide +kernel
theorem dX10_init_156 : decode cX10_init 156 = .ok (.iconst 3, 1) := by decide +kernel
theorem dX10_init_157 : decode cX10_init 157 = .ok (.invokevirtual 88, 3) := by decide +kernel
theorem dX10_init_160 : decode cX10_init 160 = .ok (.return_, 1) := by decide +kernel
theorem dX10_feed_0 : decode cX10_feed 0 = .ok (.aload_n 0, 1) := by decide +kernel
theorem dX10_feed_1 : decode cX10_feed 1 = .ok (.getfield 46, 3) := by decide +kernel
theorem dX10_feed_4 : decode cX10_feed 4 = .ok (.invokevirtual 91, 3) := by decide +kernel
theorem dX10_feed_7 : decode cX10_feed 7 = .ok (.bipush 20, 2) := by decide +kernel
theorem dX10_feed_9 : decode cX10_feed 9 = .ok (.iadd, 1) := by decide +kernel
theorem dX10_feed_10 : decode cX10_feed 10 = .ok (.sipush 600, 3) := by decide +kernel
theorem dX10_feed_13 : decode cX10_feed 13 = .ok (.if_icmp .le 5, 3) := by decide +kernel
theorem dX10_feed_16 : decode cX10_feed 16 = .ok (.iconst (-1), 1) := by decide +kernel
theorem dX10_feed_17 : decode cX10_feed 17 = .ok (.ireturn, 1) := by decide +kernel
theorem dX10_feed_18 : decode cX10_feed 18 = .ok (.aload_n 0, 1) := by decide +kernel
theorem dX10_feed_19 : decode cX10_feed 19 = .ok (.getfield 46, 3) := by decide +kernel
theorem dX10_feed_22 : decode cX10_feed 22 = .ok (.iload_n 1, 1) := by decide +kernel
theorem dX10_feed_23 : decode cX10_feed 23 = .ok (.invokevirtual 95, 3) := by decide +kernel
theorem dX10_feed_26 : decode cX10_feed 26 = .ok (.aload_n 0, 1) := by decide +kernel
theorem dX10_feed_27 : decode cX10_feed 27 = .ok (.getfield 46, 3) := by decide +kernel
theorem dX10_feed_30 : decode cX10_feed 30 = .ok (.iload_n 2, 1) := by decide +kernel
theorem dX10_feed_31 : decode cX10_feed 31 = .ok (.invokevirtual 95, 3) := by decide +kernel
theorem dX10_feed_34 : decode cX10_feed 34 = .ok (.aload_n 0, 1) := by decide +kernel
theorem dX10_feed_35 : decode cX10_feed 35 = .ok (.getfield 46, 3) := by decide +kernel
theorem dX10_feed_38 : decode cX10_feed 38 = .ok (.iload_n 3, 1) := by decide +kernel
theorem dX10_feed_39 : decode cX10_feed 39 = .ok (.invokevirtual 95, 3) := by decide +kernel
theorem dX10_feed_42 : decode cX10_feed 42 = .ok (.aload_n 0, 1) := by decide +kernel
theorem dX10_feed_43 : decode cX10_feed 43 = .ok (.getfield 46, 3) := by decide +kernel
theorem dX10_feed_46 : decode cX10_feed 46 = .ok (.iload 4, 2) := by decide +kernel
theorem dX10_feed_48 : decode cX10_feed 48 = .ok (.invokevirtual 95, 3) := by decide +kernel
theorem dX10_feed_51 : decode cX10_feed 51 = .ok (.aload_n 0, 1) := by decide +kernel
theorem dX10_feed_52 : decode cX10_feed 52 = .ok (.getfield 46, 3) := by decide +kernel
theorem dX10_feed_55 : decode cX10_feed 55 = .ok (.iload 5, 2) := by decide +kernel
theorem dX10_feed_57 : decode cX10_feed 57 = .ok (.invokevirtual 95, 3) := by decide +kernel
theorem dX10_feed_60 : decode cX10_feed 60 = .ok (.aload_n 0, 1) := by decide +kernel
theorem dX10_feed_61 : decode cX10_feed 61 = .ok (.getfield 46, 3) := by decide +kernel
theorem dX10_feed_64 : decode cX10_feed 64 = .ok (.invokevirtual 91, 3) := by decide +kernel
theorem dX10_feed_67 : decode cX10_feed 67 = .ok (.ireturn, 1) := by decide +kernel
theorem dX10_load_0 : decode cX10_load 0 = .ok (.iload_n 1, 1) := by decide +kernel
theorem dX10_load_1 : decode cX10_load 1 = .ok (.iconst 0, 1) := by decide +kernel
theorem dX10_load_2 : decode cX10_load 2 = .ok (.aload_n 0, 1) := by decide +kernel
theorem dX10_load_3 : decode cX10_load 3 = .ok (.getfield 46, 3) := by decide +kernel
theorem dX10_load_6 : decode cX10_load 6 = .ok (.invokevirtual 91, 3) := by decide +kernel
theorem dX10_load_9 : decode cX10_load 9 = .ok (.invokestatic 98, 3) := by decide +kernel
theorem dX10_load_12 : decode cX10_load 12 = .ok (.aload_n 0, 1) := by decide +kernel
theorem dX10_load_13 : decode cX10_load 13 = .ok (.getfield 55, 3) := by decide +kernel
theorem dX10_load_16 : decode cX10_load 16 = .ok (.iload_n 1, 1) := by decide +kernel
theorem dX10_load_17 : decode cX10_load 17 = .ok (.aload_n 0, 1) := by decide +kernel
theorem dX10_load_18 : decode cX10_load 18 = .ok (.getfield 19, 3) := by decide +kernel
theorem dX10_load_21 : decode cX10_load 21 = .ok (.invokevirtual 102, 3) := by decide +kernel
theorem dX10_load_24 : decode cX10_load 24 = .ok (.istore_n 2, 1) := by decide +kernel
theorem dX10_load_25 : decode cX10_load 25 = .ok (.aload_n 0, 1) := by decide +kernel
theorem dX10_load_26 : decode cX10_load 26 = .ok (.invokevirtual 106, 3) := by decide +kernel
theorem dX10_load_29 : decode cX10_load 29 = .ok (.iload_n 2, 1) := by decide +kernel
theorem dX10_load_30 : decode cX10_load 30 = .ok (.ifCond .eq 8, 3) := by decide +kernel
theorem dX10_load_33 : decode cX10_load 33 = .ok (.bipush (-10), 2) := by decide +kernel
theorem dX10_load_35 : decode cX10_load 35 = .ok (.iload_n 2, 1) := by decide +kernel
theorem dX10_load_36 : decode cX10_load 36 = .ok (.isub, 1) := by decide +kernel
theorem dX10_load_37 : decode cX10_load 37 = .ok (.ireturn, 1) := by decide +kernel
theorem dX10_load_38 : decode cX10_load 38 = .ok (.aload_n 0, 1) := by decide +kernel
theorem dX10_load_39 : decode cX10_load 39 = .ok (.getfield 12, 3) := by decide +kernel
theorem dX10_load_42 : decode cX10_load 42 = .ok (.aload_n 0, 1) := by decide +kernel
theorem dX10_load_43 : decode cX10_load 43 = .ok (.getfield 19, 3) := by decide +kernel
theorem dX10_load_46 : decode cX10_load 46 = .ok (.invokevirtual 109, 3) := by decide +kernel
theorem dX10_load_49 : decode cX10_load 49 = .ok (.aload_n 0, 1) := by decide +kernel
theorem dX10_load_50 : decode cX10_load 50 = .ok (.getfield 32, 3) := by decide +kernel
theorem dX10_load_53 : decode cX10_load 53 = .ok (.invokevirtual 113, 3) := by decide +kernel
theorem dX10_load_56 : decode cX10_load 56 = .ok (.aload_n 0, 1) := by decide +kernel
theorem dX10_load_57 : decode cX10_load 57 = .ok (.iconst 0, 1) := by decide +kernel
theorem dX10_load_58 : decode cX10_load 58 = .ok (.putfield 25, 3) := by decide +kernel
theorem dX10_load_61 : decode cX10_load 61 = .ok (.aload_n 0, 1) := by decide +kernel
theorem dX10_load_62 : decode cX10_load 62 = .ok (.getfield 12, 3) := by decide +kernel
theorem dX10_load_65 : decode cX10_load 65 = .ok (.invokevirtual 116, 3) := by decide +kernel
theorem dX10_load_68 : decode cX10_load 68 = .ok (.ireturn, 1) := by decide +kernel
theorem dX10_size_0 : decode cX10_size 0 = .ok (.iload_n 1, 1) := by decide +kernel
theorem dX10_size_1 : decode cX10_size 1 = .ok (.iconst 0, 1) := by decide +kernel
theorem dX10_size_2 : decode cX10_size 2 = .ok (.bipush 9, 2) := by decide +kernel
theorem dX10_size_4 : decode cX10_size 4 = .ok (.invokestatic 98, 3) := by decide +kernel
theorem dX10_size_7 : decode cX10_size 7 = .ok (.iload_n 1, 1) := by decide +kernel
theorem dX10_size_8 : decode cX10_size 8 = .ok (.tableswitch 147 0 8 #[52, 60, 68, 76, 84, 92, 100, 111, 132], 52) := by decide +kernel
theorem dX10_size_60 : decode cX10_size 60 = .ok (.aload_n 0, 1) := by decide +kernel
theorem dX10_size_61 : decode cX10_size 61 = .ok (.getfield 12, 3) := by decide +kernel
theorem dX10_size_64 : decode cX10_size 64 = .ok (.invokevirtual 119, 3) := by decide +kernel
theorem dX10_size_67 : decode cX10_size 67 = .ok (.ireturn, 1) := by decide +kernel
theorem dX10_size_68 : decode cX10_size 68 = .ok (.aload_n 0, 1) := by decide +kernel
theorem dX10_size_69 : decode cX10_size 69 = .ok (.getfield 12, 3) := by decide +kernel
theorem dX10_size_72 : decode cX10_size 72 = .ok (.invokevirtual 122, 3) := by decide +kernel
theorem dX10_size_75 : decode cX10_size 75 = .ok (.ireturn, 1) := by decide +kernel
theorem dX10_size_76 : decode cX10_size 76 = .ok (.aload_n 0, 1) := by decide +kernel
theorem dX10_size_77 : decode cX10_size 77 = .ok (.getfield 12, 3) := by decide +kernel
theorem dX10_size_80 : decode cX10_size 80 = .ok (.invokevirtual 116, 3) := by decide +kernel
theorem dX10_size_83 : decode cX10_size 83 = .ok (.ireturn, 1) := by decide +kernel
theorem dX10_size_84 : decode cX10_size 84 = .ok (.aload_n 0, 1) := by decide +kernel
theorem dX10_size_85 : decode cX10_size 85 = .ok (.getfield 12, 3) := by decide +kernel
theorem dX10_size_88 : decode cX10_size 88 = .ok (.invokevirtual 125, 3) := by decide +kernel
theorem dX10_size_91 : decode cX10_size 91 = .ok (.ireturn, 1) := by decide +kernel
theorem dX10_size_92 : decode cX10_size 92 = .ok (.aload_n 0, 1) := by decide +kernel
theorem dX10_size_93 : decode cX10_size 93 = .ok (.invokevirtual 128, 3) := by decide +kernel
theorem dX10_size_96 : decode cX10_size 96 = .ok (.invokevirtual 132, 3) := by decide +kernel
theorem dX10_size_99 : decode cX10_size 99 = .ok (.ireturn, 1) := by decide +kernel
theorem dX10_size_100 : decode cX10_size 100 = .ok (.aload_n 0, 1) := by decide +kernel
theorem dX10_size_101 : decode cX10_size 101 = .ok (.invokevirtual 128, 3) := by decide +kernel
theorem dX10_size_104 : decode cX10_size 104 = .ok (.invokevirtual 135, 3) := by decide +kernel
theorem dX10_size_107 : decode cX10_size 107 = .ok (.ireturn, 1) := by decide +kernel
theorem dX10_size_108 : decode cX10_size 108 = .ok (.aload_n 0, 1) := by decide +kernel
theorem dX10_size_109 : decode cX10_size 109 = .ok (.getfield 12, 3) := by decide +kernel
theorem dX10_size_112 : decode cX10_size 112 = .ok (.invokevirtual 119, 3) := by decide +kernel
theorem dX10_size_115 : decode cX10_size 115 = .ok (.invokestatic 138, 3) := by decide +kernel
theorem dX10_size_118 : decode cX10_size 118 = .ok (.ireturn, 1) := by decide +kernel
theorem dX10_size_119 : decode cX10_size 119 = .ok (.aload_n 0, 1) := by decide +kernel
theorem dX10_size_120 : decode cX10_size 120 = .ok (.getfield 12, 3) := by decide +kernel
theorem dX10_size_123 : decode cX10_size 123 = .ok (.invokevirtual 119, 3) := by decide +kernel
theorem dX10_size_126 : decode cX10_size 126 = .ok (.invokestatic 138, 3) := by decide +kernel
theorem dX10_size_129 : decode cX10_size 129 = .ok (.aload_n 0, 1) := by decide +kernel
theorem dX10_size_130 : decode cX10_size 130 = .ok (.getfield 12, 3) := by decide +kernel
theorem dX10_size_133 : decode cX10_size 133 = .ok (.invokevirtual 119, 3) := by decide +kernel
theorem dX10_size_136 : decode cX10_size 136 = .ok (.invokestatic 144, 3) := by decide +kernel
theorem dX10_size_139 : decode cX10_size 139 = .ok (.ireturn, 1) := by decide +kernel
theorem dX10_size_140 : decode cX10_size 140 = .ok (.aload_n 0, 1) := by decide +kernel
theorem dX10_size_141 : decode cX10_size 141 = .ok (.getfield 12, 3) := by decide +kernel
theorem dX10_size_144 : decode cX10_size 144 = .ok (.aload_n 0, 1) := by decide +kernel
theorem dX10_size_145 : decode cX10_size 145 = .ok (.getfield 12, 3) := by decide +kernel
theorem dX10_size_148 : decode cX10_size 148 = .ok (.invokevirtual 119, 3) := by decide +kernel
theorem dX10_size_151 : decode cX10_size 151 = .ok (.invokevirtual 148, 3) := by decide +kernel
theorem dX10_size_154 : decode cX10_size 154 = .ok (.ireturn, 1) := by decide +kernel
theorem dX10_size_155 : decode cX10_size 155 = .ok (.aload_n 0, 1) := by decide +kernel
theorem dX10_size_156 : decode cX10_size 156 = .ok (.invokevirtual 151, 3) := by decide +kernel
theorem dX10_size_159 : decode cX10_size 159 = .ok (.ireturn, 1) := by decide +kernel
theorem dX10_stretch_0 : decode cX10_stretch 0 = .ok (.aload_n 0, 1) := by decide +kernel
theorem dX10_stretch_1 : decode cX10_stretch 1 = .ok (.iload_n 1, 1) := by decide +kernel
theorem dX10_stretch_2 : decode cX10_stretch 2 = .ok (.invokevirtual 154, 3) := by decide +kernel
theorem dX10_stretch_5 : decode cX10_stretch 5 = .ok (.iload_n 2, 1) := by decide +kernel
theorem dX10_stretch_6 : decode cX10_stretch 6 = .ok (.iconst 0, 1) := by decide +kernel
theorem dX10_stretch_7 : decode cX10_stretch 7 = .ok (.iconst 5, 1) := by decide +kernel
theorem dX10_stretch_8 : decode cX10_stretch 8 = .ok (.invokestatic 98, 3) := by decide +kernel
theorem dX10_stretch_11 : decode cX10_stretch 11 = .ok (.aload_n 0, 1) := by decide +kernel
theorem dX10_stretch_12 : decode cX10_stretch 12 = .ok (.getfield 12, 3) := by decide +kernel
theorem dX10_stretch_15 : decode cX10_stretch 15 = .ok (.iload_n 1, 1) := by decide +kernel
theorem dX10_stretch_16 : decode cX10_stretch 16 = .ok (.invokevirtual 157, 3) := by decide +kernel
theorem dX10_stretch_19 : decode cX10_stretch 19 = .ok (.istore_n 3, 1) := by decide +kernel
theorem dX10_stretch_20 : decode cX10_stretch 20 = .ok (.aload_n 0, 1) := by decide +kernel
theorem dX10_stretch_21 : decode cX10_stretch 21 = .ok (.getfield 12, 3) := by decide +kernel
theorem dX10_stretch_24 : decode cX10_stretch 24 = .ok (.iload_n 1, 1) := by decide +kernel
theorem dX10_stretch_25 : decode cX10_stretch 25 = .ok (.invokevirtual 160, 3) := by decide +kernel
theorem dX10_stretch_28 : decode cX10_stretch 28 = .ok (.istore 4, 2) := by decide +kernel
theorem dX10_stretch_30 : decode cX10_stretch 30 = .ok (.iload_n 2, 1) := by decide +kernel
theorem dX10_stretch_31 : decode cX10_stretch 31 = .ok (.tableswitch 77 0 4 #[33, 35, 38, 49, 60], 33) := by decide +kernel
theorem dX10_stretch_64 : decode cX10_stretch 64 = .ok (.iload_n 3, 1) := by decide +kernel
theorem dX10_stretch_65 : decode cX10_stretch 65 = .ok (.ireturn, 1) := by decide +kernel
theorem dX10_stretch_66 : decode cX10_stretch 66 = .ok (.iload 4, 2) := by decide +kernel
theorem dX10_stretch_68 : decode cX10_stretch 68 = .ok (.ireturn, 1) := by decide +kernel
theorem dX10_stretch_69 : decode cX10_stretch 69 = .ok (.aload_n 0, 1) := by decide +kernel
theorem dX10_stretch_70 : decode cX10_stretch 70 = .ok (.invokevirtual 128, 3) := by decide +kernel
theorem dX10_stretch_73 : decode cX10_stretch 73 = .ok (.iload_n 3, 1) := by decide +kernel
theorem dX10_stretch_74 : decode cX10_stretch 74 = .ok (.iload 4, 2) := by decide +kernel
theorem dX10_stretch_76 : decode cX10_stretch 76 = .ok (.invokevirtual 163, 3) := by decide +kernel
theorem dX10_stretch_79 : decode cX10_stretch 79 = .ok (.ireturn, 1) := by decide +kernel
theorem dX10_stretch_80 : decode cX10_stretch 80 = .ok (.aload_n 0, 1) := by decide +kernel
theorem dX10_stretch_81 : decode cX10_stretch 81 = .ok (.invokevirtual 128, 3) := by decide +kernel
theorem dX10_stretch_84 : decode cX10_stretch 84 = .ok (.iload_n 3, 1) := by decide +kernel
theorem dX10_stretch_85 : decode cX10_stretch 85 = .ok (.iload 4, 2) := by decide +kernel
theorem dX10_stretch_87 : decode cX10_stretch 87 = .ok (.invokevirtual 166, 3) := by decide +kernel
theorem dX10_stretch_90 : decode cX10_stretch 90 = .ok (.ireturn, 1) := by decide +kernel
theorem dX10_stretch_91 : decode cX10_stretch 91 = .ok (.aload_n 0, 1) := by decide +kernel
theorem dX10_stretch_92 : decode cX10_stretch 92 = .ok (.invokevirtual 128, 3) := by decide +kernel
theorem dX10_stretch_95 : decode cX10_stretch 95 = .ok (.iload_n 3, 1) := by decide +kernel
theorem dX10_stretch_96 : decode cX10_stretch 96 = .ok (.iconst 1, 1) := by decide +kernel
theorem dX10_stretch_97 : decode cX10_stretch 97 = .ok (.isub, 1) := by decide +kernel
theorem dX10_stretch_98 : decode cX10_stretch 98 = .ok (.invokevirtual 169, 3) := by decide +kernel
theorem dX10_stretch_101 : decode cX10_stretch 101 = .ok (.iload_n 3, 1) := by decide +kernel
theorem dX10_stretch_102 : decode cX10_stretch 102 = .ok (.iload 4, 2) := by decide +kernel
theorem dX10_stretch_104 : decode cX10_stretch 104 = .ok (.invokestatic 172, 3) := by decide +kernel
theorem dX10_stretch_107 : decode cX10_stretch 107 = .ok (.ireturn, 1) := by decide +kernel
theorem dX10_stretch_108 : decode cX10_stretch 108 = .ok (.aload_n 0, 1) := by decide +kernel
theorem dX10_stretch_109 : decode cX10_stretch 109 = .ok (.invokevirtual 128, 3) := by decide +kernel
theorem dX10_stretch_112 : decode cX10_stretch 112 = .ok (.iload 4, 2) := by decide +kernel
theorem dX10_stretch_114 : decode cX10_stretch 114 = .ok (.iconst 1, 1) := by decide +kernel
theorem dX10_stretch_115 : decode cX10_stretch 115 = .ok (.iadd, 1) := by decide +kernel
theorem dX10_stretch_116 : decode cX10_stretch 116 = .ok (.invokevirtual 176, 3) := by decide +kernel
theorem dX10_stretch_119 : decode cX10_stretch 119 = .ok (.iload_n 3, 1) := by decide +kernel
theorem dX10_stretch_120 : decode cX10_stretch 120 = .ok (.iload 4, 2) := by decide +kernel
theorem dX10_stretch_122 : decode cX10_stretch 122 = .ok (.invokestatic 172, 3) := by decide +kernel
theorem dX10_stretch_125 : decode cX10_stretch 125 = .ok (.ireturn, 1) := by decide +kernel
theorem dX10_striker_0 : decode cX10_striker 0 = .ok (.aload_n 0, 1) := by decide +kernel
theorem dX10_striker_1 : decode cX10_striker 1 = .ok (.iload_n 1, 1) := by decide +kernel
theorem dX10_striker_2 : decode cX10_striker 2 = .ok (.invokevirtual 179, 3) := by decide +kernel
theorem dX10_striker_5 : decode cX10_striker 5 = .ok (.iload_n 2, 1) := by decide +kernel
theorem dX10_striker_6 : decode cX10_striker 6 = .ok (.iconst 0, 1) := by decide +kernel
theorem dX10_striker_7 : decode cX10_striker 7 = .ok (.iconst 5, 1) := by decide +kernel
theorem dX10_striker_8 : decode cX10_striker 8 = .ok (.invokestatic 98, 3) := by decide +kernel
theorem dX10_striker_11 : decode cX10_striker 11 = .ok (.aload_n 0, 1) := by decide +kernel
theorem dX10_striker_12 : decode cX10_striker 12 = .ok (.getfield 12, 3) := by decide +kernel
theorem dX10_striker_15 : decode cX10_striker 15 = .ok (.iload_n 1, 1) := by decide +kernel
theorem dX10_striker_16 : decode cX10_striker 16 = .ok (.invokevirtual 182, 3) := by decide +kernel
theorem dX10_striker_19 : decode cX10_striker 19 = .ok (.istore_n 3, 1) := by decide +kernel
theorem dX10_striker_20 : decode cX10_striker 20 = .ok (.iload_n 2, 1) := by decide +kernel
theorem dX10_striker_21 : decode cX10_striker 21 = .ok (.tableswitch 87 0 4 #[35, 37, 46, 55, 74], 35) := by decide +kernel
theorem dX10_striker_56 : decode cX10_striker 56 = .ok (.iload_n 3, 1) := by decide +kernel
theorem dX10_striker_57 : decode cX10_striker 57 = .ok (.ireturn, 1) := by decide +kernel
theorem dX10_striker_58 : decode cX10_striker 58 = .ok (.aload_n 0, 1) := by decide +kernel
theorem dX10_striker_59 : decode cX10_striker 59 = .ok (.invokevirtual 128, 3) := by decide +kernel
theorem dX10_striker_62 : decode cX10_striker 62 = .ok (.iload_n 3, 1) := by decide +kernel
theorem dX10_striker_63 : decode cX10_striker 63 = .ok (.invokevirtual 185, 3) := by decide +kernel
theorem dX10_striker_66 : decode cX10_striker 66 = .ok (.ireturn, 1) := by decide +kernel
theorem dX10_striker_67 : decode cX10_striker 67 = .ok (.aload_n 0, 1) := by decide +kernel
theorem dX10_striker_68 : decode cX10_striker 68 = .ok (.invokevirtual 128, 3) := by decide +kernel
theorem dX10_striker_71 : decode cX10_striker 71 = .ok (.iload_n 3, 1) := by decide +kernel
theorem dX10_striker_72 : decode cX10_striker 72 = .ok (.invokevirtual 188, 3) := by decide +kernel
theorem dX10_striker_75 : decode cX10_striker 75 = .ok (.ireturn, 1) := by decide +kernel
theorem dX10_striker_76 : decode cX10_striker 76 = .ok (.aload_n 0, 1) := by decide +kernel
theorem dX10_striker_77 : decode cX10_striker 77 = .ok (.getfield 12, 3) := by decide +kernel
theorem dX10_striker_80 : decode cX10_striker 80 = .ok (.invokevirtual 116, 3) := by decide +kernel
theorem dX10_striker_83 : decode cX10_striker 83 = .ok (.iload_n 3, 1) := by decide +kernel
theorem dX10_striker_84 : decode cX10_striker 84 = .ok (.aload_n 0, 1) := by decide +kernel
theorem dX10_striker_85 : decode cX10_striker 85 = .ok (.getfield 12, 3) := by decide +kernel
theorem dX10_striker_88 : decode cX10_striker 88 = .ok (.invokevirtual 119, 3) := by decide +kernel
theorem dX10_striker_91 : decode cX10_striker 91 = .ok (.invokestatic 191, 3) := by decide +kernel
theorem dX10_striker_94 : decode cX10_striker 94 = .ok (.ireturn, 1) := by decide +kernel
theorem dX10_striker_95 : decode cX10_striker 95 = .ok (.iload_n 3, 1) := by decide +kernel
theorem dX10_striker_96 : decode cX10_striker 96 = .ok (.invokestatic 194, 3) := by decide +kernel
theorem dX10_striker_99 : decode cX10_striker 99 = .ok (.ifCond .eq 7, 3) := by decide +kernel
theorem dX10_striker_102 : decode cX10_striker 102 = .ok (.iconst 1, 1) := by decide +kernel
theorem dX10_striker_103 : decode cX10_striker 103 = .ok (.goto 4, 3) := by decide +kernel
theorem dX10_striker_106 : decode cX10_striker 106 = .ok (.iconst 0, 1) := by decide +kernel
theorem dX10_striker_107 : decode cX10_striker 107 = .ok (.ireturn, 1) := by decide +kernel
theorem dX10_striker_108 : decode cX10_striker 108 = .ok (.aload_n 0, 1) := by decide +kernel
theorem dX10_striker_109 : decode cX10_striker 109 = .ok (.invokevirtual 128, 3) := by decide +kernel
theorem dX10_striker_112 : decode cX10_striker 112 = .ok (.iload_n 3, 1) := by decide +kernel
theorem dX10_striker_113 : decode cX10_striker 113 = .ok (.invokevirtual 198, 3) := by decide +kernel
theorem dX10_striker_116 : decode cX10_striker 116 = .ok (.ireturn, 1) := by decide +kernel
theorem dX10_find_0 : decode cX10_find 0 = .ok (.aload_n 0, 1) := by decide +kernel
theorem dX10_find_1 : decode cX10_find 1 = .ok (.getfield 12, 3) := by decide +kernel
theorem dX10_find_4 : decode cX10_find 4 = .ok (.iload_n 1, 1) := by decide +kernel
theorem dX10_find_5 : decode cX10_find 5 = .ok (.invokevirtual 201, 3) := by decide +kernel
theorem dX10_find_8 : decode cX10_find 8 = .ok (.ireturn, 1) := by decide +kernel
theorem dX10_at_0 : decode cX10_at 0 = .ok (.aload_n 0, 1) := by decide +kernel
theorem dX10_at_1 : decode cX10_at 1 = .ok (.invokevirtual 128, 3) := by decide +kernel
theorem dX10_at_4 : decode cX10_at 4 = .ok (.iload_n 1, 1) := by decide +kernel
theorem dX10_at_5 : decode cX10_at 5 = .ok (.invokevirtual 204, 3) := by decide +kernel
theorem dX10_at_8 : decode cX10_at 8 = .ok (.istore_n 2, 1) := by decide +kernel
theorem dX10_at_9 : decode cX10_at 9 = .ok (.iload_n 2, 1) := by decide +kernel
theorem dX10_at_10 : decode cX10_at 10 = .ok (.tableswitch 32 (-2) 0 #[26, 28, 30], 26) := by decide +kernel
theorem dX10_at_36 : decode cX10_at 36 = .ok (.iconst 3, 1) := by decide +kernel
theorem dX10_at_37 : decode cX10_at 37 = .ok (.ireturn, 1) := by decide +kernel
theorem dX10_at_38 : decode cX10_at 38 = .ok (.iconst 1, 1) := by decide +kernel
theorem dX10_at_39 : decode cX10_at 39 = .ok (.ireturn, 1) := by decide +kernel
theorem dX10_at_40 : decode cX10_at 40 = .ok (.iconst 0, 1) := by decide +kernel
theorem dX10_at_41 : decode cX10_at 41 = .ok (.ireturn, 1) := by decide +kernel
theorem dX10_at_42 : decode cX10_at 42 = .ok (.iconst 2, 1) := by decide +kernel
theorem dX10_at_43 : decode cX10_at 43 = .ok (.ireturn, 1) := by decide +kernel
theorem dX10_cause_0 : decode cX10_cause 0 = .ok (.aload_n 0, 1) := by decide +kernel
theorem dX10_cause_1 : decode cX10_cause 1 = .ok (.invokevirtual 128, 3) := by decide +kernel
theorem dX10_cause_4 : decode cX10_cause 4 = .ok (.iload_n 1, 1) := by decide +kernel
theorem dX10_cause_5 : decode cX10_cause 5 = .ok (.invokevirtual 204, 3) := by decide +kernel
theorem dX10_cause_8 : decode cX10_cause 8 = .ok (.istore_n 2, 1) := by decide +kernel
theorem dX10_cause_9 : decode cX10_cause 9 = .ok (.iload_n 2, 1) := by decide +kernel
theorem dX10_cause_10 : decode cX10_cause 10 = .ok (.tableswitch 48 (-2) 0 #[26, 34, 46], 26) := by decide +kernel
theorem dX10_cause_36 : decode cX10_cause 36 = .ok (.aload_n 0, 1) := by decide +kernel
theorem dX10_cause_37 : decode cX10_cause 37 = .ok (.getfield 12, 3) := by decide +kernel
theorem dX10_cause_40 : decode cX10_cause 40 = .ok (.invokevirtual 116, 3) := by decide +kernel
theorem dX10_cause_43 : decode cX10_cause 43 = .ok (.ireturn, 1) := by decide +kernel
theorem dX10_cause_44 : decode cX10_cause 44 = .ok (.iload_n 1, 1) := by decide +kernel
theorem dX10_cause_45 : decode cX10_cause 45 = .ok (.aload_n 0, 1) := by decide +kernel
theorem dX10_cause_46 : decode cX10_cause 46 = .ok (.getfield 12, 3) := by decide +kernel
theorem dX10_cause_49 : decode cX10_cause 49 = .ok (.invokevirtual 119, 3) := by decide +kernel
theorem dX10_cause_52 : decode cX10_cause 52 = .ok (.invokestatic 207, 3) := by decide +kernel
theorem dX10_cause_55 : decode cX10_cause 55 = .ok (.ireturn, 1) := by decide +kernel
theorem dX10_cause_56 : decode cX10_cause 56 = .ok (.iconst 0, 1) := by decide +kernel
theorem dX10_cause_57 : decode cX10_cause 57 = .ok (.ireturn, 1) := by decide +kernel
theorem dX10_cause_58 : decode cX10_cause 58 = .ok (.iload_n 2, 1) := by decide +kernel
theorem dX10_cause_59 : decode cX10_cause 59 = .ok (.ireturn, 1) := by decide +kernel
theorem dX10_struck_0 : decode cX10_struck 0 = .ok (.aload_n 0, 1) := by decide +kernel
theorem dX10_struck_1 : decode cX10_struck 1 = .ok (.invokevirtual 128, 3) := by decide +kernel
theorem dX10_struck_4 : decode cX10_struck 4 = .ok (.iload_n 1, 1) := by decide +kernel
theorem dX10_struck_5 : decode cX10_struck 5 = .ok (.invokevirtual 204, 3) := by decide +kernel
theorem dX10_struck_8 : decode cX10_struck 8 = .ok (.istore_n 2, 1) := by decide +kernel
theorem dX10_struck_9 : decode cX10_struck 9 = .ok (.iload_n 2, 1) := by decide +kernel
theorem dX10_struck_10 : decode cX10_struck 10 = .ok (.bipush (-2), 2) := by decide +kernel
theorem dX10_struck_12 : decode cX10_struck 12 = .ok (.if_icmp .ne 11, 3) := by decide +kernel
theorem dX10_struck_15 : decode cX10_struck 15 = .ok (.new 210, 3) := by decide +kernel
theorem dX10_struck_18 : decode cX10_struck 18 = .ok (.dup, 1) := by decide +kernel
theorem dX10_struck_19 : decode cX10_struck 19 = .ok (.invokespecial 212, 3) := by decide +kernel
theorem dX10_struck_22 : decode cX10_struck 22 = .ok (.athrow, 1) := by decide +kernel
theorem dX10_struck_23 : decode cX10_struck 23 = .ok (.iload_n 2, 1) := by decide +kernel
theorem dX10_struck_24 : decode cX10_struck 24 = .ok (.iconst (-1), 1) := by decide +kernel
theorem dX10_struck_25 : decode cX10_struck 25 = .ok (.if_icmp .ne 7, 3) := by decide +kernel
theorem dX10_struck_28 : decode cX10_struck 28 = .ok (.iconst 0, 1) := by decide +kernel
theorem dX10_struck_29 : decode cX10_struck 29 = .ok (.goto 19, 3) := by decide +kernel
theorem dX10_struck_32 : decode cX10_struck 32 = .ok (.aload_n 0, 1) := by decide +kernel
theorem dX10_struck_33 : decode cX10_struck 33 = .ok (.getfield 12, 3) := by decide +kernel
theorem dX10_struck_36 : decode cX10_struck 36 = .ok (.iload_n 1, 1) := by decide +kernel
theorem dX10_struck_37 : decode cX10_struck 37 = .ok (.iconst 0, 1) := by decide +kernel
theorem dX10_struck_38 : decode cX10_struck 38 = .ok (.aload_n 0, 1) := by decide +kernel
theorem dX10_struck_39 : decode cX10_struck 39 = .ok (.getfield 12, 3) := by decide +kernel
theorem dX10_struck_42 : decode cX10_struck 42 = .ok (.invokevirtual 125, 3) := by decide +kernel
theorem dX10_struck_45 : decode cX10_struck 45 = .ok (.invokevirtual 213, 3) := by decide +kernel
theorem dX10_struck_48 : decode cX10_struck 48 = .ok (.ireturn, 1) := by decide +kernel
theorem dX10_both_0 : decode cX10_both 0 = .ok (.aload_n 0, 1) := by decide +kernel
theorem dX10_both_1 : decode cX10_both 1 = .ok (.iload_n 1, 1) := by decide +kernel
theorem dX10_both_2 : decode cX10_both 2 = .ok (.invokevirtual 179, 3) := by decide +kernel
theorem dX10_both_5 : decode cX10_both 5 = .ok (.aload_n 0, 1) := by decide +kernel
theorem dX10_both_6 : decode cX10_both 6 = .ok (.iload_n 2, 1) := by decide +kernel
theorem dX10_both_7 : decode cX10_both 7 = .ok (.invokevirtual 179, 3) := by decide +kernel
theorem dX10_both_10 : decode cX10_both 10 = .ok (.iconst 0, 1) := by decide +kernel
theorem dX10_both_11 : decode cX10_both 11 = .ok (.istore_n 3, 1) := by decide +kernel
theorem dX10_both_12 : decode cX10_both 12 = .ok (.aload_n 0, 1) := by decide +kernel
theorem dX10_both_13 : decode cX10_both 13 = .ok (.iload_n 1, 1) := by decide +kernel
theorem dX10_both_14 : decode cX10_both 14 = .ok (.iload_n 2, 1) := by decide +kernel
theorem dX10_both_15 : decode cX10_both 15 = .ok (.iconst 0, 1) := by decide +kernel
theorem dX10_both_16 : decode cX10_both 16 = .ok (.invokevirtual 225, 3) := by decide +kernel
theorem dX10_both_19 : decode cX10_both 19 = .ok (.istore 4, 2) := by decide +kernel
theorem dX10_both_21 : decode cX10_both 21 = .ok (.iload 4, 2) := by decide +kernel
theorem dX10_both_23 : decode cX10_both 23 = .ok (.iconst (-1), 1) := by decide +kernel
theorem dX10_both_24 : decode cX10_both 24 = .ok (.if_icmp .eq 26, 3) := by decide +kernel
theorem dX10_both_27 : decode cX10_both 27 = .ok (.iload_n 3, 1) := by decide +kernel
theorem dX10_both_28 : decode cX10_both 28 = .ok (.sipush 4801, 3) := by decide +kernel
theorem dX10_both_31 : decode cX10_both 31 = .ok (.if_icmp .ge 19, 3) := by decide +kernel
theorem dX10_both_34 : decode cX10_both 34 = .ok (.iinc 3 1, 3) := by decide +kernel
theorem dX10_both_37 : decode cX10_both 37 = .ok (.aload_n 0, 1) := by decide +kernel
theorem dX10_both_38 : decode cX10_both 38 = .ok (.iload_n 1, 1) := by decide +kernel
theorem dX10_both_39 : decode cX10_both 39 = .ok (.iload_n 2, 1) := by decide +kernel
theorem dX10_both_40 : decode cX10_both 40 = .ok (.iload 4, 2) := by decide +kernel
theorem dX10_both_42 : decode cX10_both 42 = .ok (.invokevirtual 225, 3) := by decide +kernel
theorem dX10_both_45 : decode cX10_both 45 = .ok (.istore 4, 2) := by decide +kernel
theorem dX10_both_47 : decode cX10_both 47 = .ok (.goto (-26), 3) := by decide +kernel
theorem dX10_both_50 : decode cX10_both 50 = .ok (.iload_n 3, 1) := by decide +kernel
theorem dX10_both_51 : decode cX10_both 51 = .ok (.ireturn, 1) := by decide +kernel
theorem dX10_upTo_0 : decode cX10_upTo 0 = .ok (.aload_n 0, 1) := by decide +kernel
theorem dX10_upTo_1 : decode cX10_upTo 1 = .ok (.invokevirtual 128, 3) := by decide +kernel
theorem dX10_upTo_4 : decode cX10_upTo 4 = .ok (.iload_n 1, 1) := by decide +kernel
theorem dX10_upTo_5 : decode cX10_upTo 5 = .ok (.invokevirtual 228, 3) := by decide +kernel
theorem dX10_upTo_8 : decode cX10_upTo 8 = .ok (.ireturn, 1) := by decide +kernel
theorem dX10_mark_0 : decode cX10_mark 0 = .ok (.aload_n 0, 1) := by decide +kernel
theorem dX10_mark_1 : decode cX10_mark 1 = .ok (.invokevirtual 128, 3) := by decide +kernel
theorem dX10_mark_4 : decode cX10_mark 4 = .ok (.iload_n 1, 1) := by decide +kernel
theorem dX10_mark_5 : decode cX10_mark 5 = .ok (.invokevirtual 231, 3) := by decide +kernel
theorem dX10_mark_8 : decode cX10_mark 8 = .ok (.ireturn, 1) := by decide +kernel
theorem dX10_between_0 : decode cX10_between 0 = .ok (.aload_n 0, 1) := by decide +kernel
theorem dX10_between_1 : decode cX10_between 1 = .ok (.invokevirtual 128, 3) := by decide +kernel
theorem dX10_between_4 : decode cX10_between 4 = .ok (.iload_n 1, 1) := by decide +kernel
theorem dX10_between_5 : decode cX10_between 5 = .ok (.iload_n 2, 1) := by decide +kernel
theorem dX10_between_6 : decode cX10_between 6 = .ok (.invokevirtual 163, 3) := by decide +kernel
theorem dX10_between_9 : decode cX10_between 9 = .ok (.ireturn, 1) := by decide +kernel
theorem dX10_longest_0 : decode cX10_longest 0 = .ok (.aload_n 0, 1) := by decide +kernel
theorem dX10_longest_1 : decode cX10_longest 1 = .ok (.invokevirtual 128, 3) := by decide +kernel
theorem dX10_longest_4 : decode cX10_longest 4 = .ok (.astore_n 1, 1) := by decide +kernel
theorem dX10_longest_5 : decode cX10_longest 5 = .ok (.iconst 0, 1) := by decide +kernel
theorem dX10_longest_6 : decode cX10_longest 6 = .ok (.istore_n 2, 1) := by decide +kernel
theorem dX10_longest_7 : decode cX10_longest 7 = .ok (.iconst 0, 1) := by decide +kernel
theorem dX10_longest_8 : decode cX10_longest 8 = .ok (.istore_n 3, 1) := by decide +kernel
theorem dX10_longest_9 : decode cX10_longest 9 = .ok (.iconst 2, 1) := by decide +kernel
theorem dX10_longest_10 : decode cX10_longest 10 = .ok (.istore 4, 2) := by decide +kernel
theorem dX10_longest_12 : decode cX10_longest 12 = .ok (.iload 4, 2) := by decide +kernel
theorem dX10_longest_14 : decode cX10_longest 14 = .ok (.aload_n 1, 1) := by decide +kernel
theorem dX10_longest_15 : decode cX10_longest 15 = .ok (.invokevirtual 234, 3) := by decide +kernel
theorem dX10_longest_18 : decode cX10_longest 18 = .ok (.if_icmp .gt 42, 3) := by decide +kernel
theorem dX10_longest_21 : decode cX10_longest 21 = .ok (.aload_n 1, 1) := by decide +kernel
theorem dX10_longest_22 : decode cX10_longest 22 = .ok (.iload 4, 2) := by decide +kernel
theorem dX10_longest_24 : decode cX10_longest 24 = .ok (.invokevirtual 204, 3) := by decide +kernel
theorem dX10_longest_27 : decode cX10_longest 27 = .ok (.istore 5, 2) := by decide +kernel
theorem dX10_longest_29 : decode cX10_longest 29 = .ok (.iload 5, 2) := by decide +kernel
theorem dX10_longest_31 : decode cX10_longest 31 = .ok (.ifCond .ne 15, 3) := by decide +kernel
theorem dX10_longest_34 : decode cX10_longest 34 = .ok (.iinc 3 1, 3) := by decide +kernel
theorem dX10_longest_37 : decode cX10_longest 37 = .ok (.iload_n 2, 1) := by decide +kernel
theorem dX10_longest_38 : decode cX10_longest 38 = .ok (.iload_n 3, 1) := by decide +kernel
theorem dX10_longest_39 : decode cX10_longest 39 = .ok (.invokestatic 220, 3) := by decide +kernel
theorem dX10_longest_42 : decode cX10_longest 42 = .ok (.istore_n 2, 1) := by decide +kernel
theorem dX10_longest_43 : decode cX10_longest 43 = .ok (.goto 11, 3) := by decide +kernel
theorem dX10_longest_46 : decode cX10_longest 46 = .ok (.iload 5, 2) := by decide +kernel
theorem dX10_longest_48 : decode cX10_longest 48 = .ok (.iconst (-1), 1) := by decide +kernel
theorem dX10_longest_49 : decode cX10_longest 49 = .ok (.if_icmp .eq 5, 3) := by decide +kernel
theorem dX10_longest_52 : decode cX10_longest 52 = .ok (.iconst 0, 1) := by decide +kernel
theorem dX10_longest_53 : decode cX10_longest 53 = .ok (.istore_n 3, 1) := by decide +kernel
theorem dX10_longest_54 : decode cX10_longest 54 = .ok (.iinc 4 1, 3) := by decide +kernel
theorem dX10_longest_57 : decode cX10_longest 57 = .ok (.goto (-45), 3) := by decide +kernel
theorem dX10_longest_60 : decode cX10_longest 60 = .ok (.iload_n 2, 1) := by decide +kernel
theorem dX10_longest_61 : decode cX10_longest 61 = .ok (.ireturn, 1) := by decide +kernel
theorem dX10_next_0 : decode cX10_next 0 = .ok (.iload_n 2, 1) := by decide +kernel
theorem dX10_next_1 : decode cX10_next 1 = .ok (.ifCond .eq 14, 3) := by decide +kernel
theorem dX10_next_4 : decode cX10_next 4 = .ok (.aload_n 0, 1) := by decide +kernel
theorem dX10_next_5 : decode cX10_next 5 = .ok (.invokevirtual 128, 3) := by decide +kernel
theorem dX10_next_8 : decode cX10_next 8 = .ok (.iload_n 1, 1) := by decide +kernel
theorem dX10_next_9 : decode cX10_next 9 = .ok (.invokevirtual 176, 3) := by decide +kernel
theorem dX10_next_12 : decode cX10_next 12 = .ok (.goto 11, 3) := by decide +kernel
theorem dX10_next_15 : decode cX10_next 15 = .ok (.aload_n 0, 1) := by decide +kernel
theorem dX10_next_16 : decode cX10_next 16 = .ok (.invokevirtual 128, 3) := by decide +kernel
theorem dX10_next_19 : decode cX10_next 19 = .ok (.iload_n 1, 1) := by decide +kernel
theorem dX10_next_20 : decode cX10_next 20 = .ok (.invokevirtual 169, 3) := by decide +kernel
theorem dX10_next_23 : decode cX10_next 23 = .ok (.ireturn, 1) := by decide +kernel
theorem dX10_gaps_0 : decode cX10_gaps 0 = .ok (.iload_n 1, 1) := by decide +kernel
theorem dX10_gaps_1 : decode cX10_gaps 1 = .ok (.iconst 1, 1) := by decide +kernel
theorem dX10_gaps_2 : decode cX10_gaps 2 = .ok (.sipush 400, 3) := by decide +kernel
theorem dX10_gaps_5 : decode cX10_gaps 5 = .ok (.invokestatic 98, 3) := by decide +kernel
theorem dX10_gaps_8 : decode cX10_gaps 8 = .ok (.aload_n 0, 1) := by decide +kernel
theorem dX10_gaps_9 : decode cX10_gaps 9 = .ok (.invokevirtual 128, 3) := by decide +kernel
theorem dX10_gaps_12 : decode cX10_gaps 12 = .ok (.astore_n 2, 1) := by decide +kernel
theorem dX10_gaps_13 : decode cX10_gaps 13 = .ok (.iconst 0, 1) := by decide +kernel
theorem dX10_gaps_14 : decode cX10_gaps 14 = .ok (.istore_n 3, 1) := by decide +kernel
theorem dX10_gaps_15 : decode cX10_gaps 15 = .ok (.iconst 2, 1) := by decide +kernel
theorem dX10_gaps_16 : decode cX10_gaps 16 = .ok (.istore 4, 2) := by decide +kernel
theorem dX10_gaps_18 : decode cX10_gaps 18 = .ok (.iload 4, 2) := by decide +kernel
theorem dX10_gaps_20 : decode cX10_gaps 20 = .ok (.iload_n 1, 1) := by decide +kernel
theorem dX10_gaps_21 : decode cX10_gaps 21 = .ok (.iadd, 1) := by decide +kernel
theorem dX10_gaps_22 : decode cX10_gaps 22 = .ok (.aload_n 2, 1) := by decide +kernel
theorem dX10_gaps_23 : decode cX10_gaps 23 = .ok (.invokevirtual 234, 3) := by decide +kernel
theorem dX10_gaps_26 : decode cX10_gaps 26 = .ok (.if_icmp .gt 46, 3) := by decide +kernel
theorem dX10_gaps_29 : decode cX10_gaps 29 = .ok (.aload_n 2, 1) := by decide +kernel
theorem dX10_gaps_30 : decode cX10_gaps 30 = .ok (.iload 4, 2) := by decide +kernel
theorem dX10_gaps_32 : decode cX10_gaps 32 = .ok (.invokevirtual 235, 3) := by decide +kernel
theorem dX10_gaps_35 : decode cX10_gaps 35 = .ok (.ifCond .eq 31, 3) := by decide +kernel
theorem dX10_gaps_38 : decode cX10_gaps 38 = .ok (.aload_n 2, 1) := by decide +kernel
theorem dX10_gaps_39 : decode cX10_gaps 39 = .ok (.iload 4, 2) := by decide +kernel
theorem dX10_gaps_41 : decode cX10_gaps 41 = .ok (.iload_n 1, 1) := by decide +kernel
theorem dX10_gaps_42 : decode cX10_gaps 42 = .ok (.iadd, 1) := by decide +kernel
theorem dX10_gaps_43 : decode cX10_gaps 43 = .ok (.invokevirtual 235, 3) := by decide +kernel
theorem dX10_gaps_46 : decode cX10_gaps 46 = .ok (.ifCond .eq 20, 3) := by decide +kernel
theorem dX10_gaps_49 : decode cX10_gaps 49 = .ok (.aload_n 2, 1) := by decide +kernel
theorem dX10_gaps_50 : decode cX10_gaps 50 = .ok (.iload 4, 2) := by decide +kernel
theorem dX10_gaps_52 : decode cX10_gaps 52 = .ok (.iload 4, 2) := by decide +kernel
theorem dX10_gaps_54 : decode cX10_gaps 54 = .ok (.iload_n 1, 1) := by decide +kernel
theorem dX10_gaps_55 : decode cX10_gaps 55 = .ok (.iadd, 1) := by decide +kernel
theorem dX10_gaps_56 : decode cX10_gaps 56 = .ok (.invokevirtual 163, 3) := by decide +kernel
theorem dX10_gaps_59 : decode cX10_gaps 59 = .ok (.iconst 2, 1) := by decide +kernel
theorem dX10_gaps_60 : decode cX10_gaps 60 = .ok (.if_icmp .ne 6, 3) := by decide +kernel
theorem dX10_gaps_63 : decode cX10_gaps 63 = .ok (.iinc 3 1, 3) := by decide +kernel
theorem dX10_gaps_66 : decode cX10_gaps 66 = .ok (.iinc 4 1, 3) := by decide +kernel
theorem dX10_gaps_69 : decode cX10_gaps 69 = .ok (.goto (-51), 3) := by decide +kernel
theorem dX10_gaps_72 : decode cX10_gaps 72 = .ok (.iload_n 3, 1) := by decide +kernel
theorem dX10_gaps_73 : decode cX10_gaps 73 = .ok (.ireturn, 1) := by decide +kernel
theorem dX10_widest_0 : decode cX10_widest 0 = .ok (.aload_n 0, 1) := by decide +kernel
theorem dX10_widest_1 : decode cX10_widest 1 = .ok (.invokevirtual 238, 3) := by decide +kernel
theorem dX10_widest_4 : decode cX10_widest 4 = .ok (.istore_n 1, 1) := by decide +kernel
theorem dX10_widest_5 : decode cX10_widest 5 = .ok (.iload_n 1, 1) := by decide +kernel
theorem dX10_widest_6 : decode cX10_widest 6 = .ok (.iconst (-1), 1) := by decide +kernel
theorem dX10_widest_7 : decode cX10_widest 7 = .ok (.if_icmp .ne 7, 3) := by decide +kernel
theorem dX10_widest_10 : decode cX10_widest 10 = .ok (.iconst 0, 1) := by decide +kernel
theorem dX10_widest_11 : decode cX10_widest 11 = .ok (.goto 13, 3) := by decide +kernel
theorem dX10_widest_14 : decode cX10_widest 14 = .ok (.aload_n 0, 1) := by decide +kernel
theorem dX10_widest_15 : decode cX10_widest 15 = .ok (.invokevirtual 128, 3) := by decide +kernel
theorem dX10_widest_18 : decode cX10_widest 18 = .ok (.iload_n 1, 1) := by decide +kernel
theorem dX10_widest_19 : decode cX10_widest 19 = .ok (.invokevirtual 169, 3) := by decide +kernel
theorem dX10_widest_22 : decode cX10_widest 22 = .ok (.iload_n 1, 1) := by decide +kernel
theorem dX10_widest_23 : decode cX10_widest 23 = .ok (.isub, 1) := by decide +kernel
theorem dX10_widest_24 : decode cX10_widest 24 = .ok (.ireturn, 1) := by decide +kernel
theorem dX10_widestAt_0 : decode cX10_widestAt 0 = .ok (.aload_n 0, 1) := by decide +kernel
theorem dX10_widestAt_1 : decode cX10_widestAt 1 = .ok (.invokevirtual 128, 3) := by decide +kernel
theorem dX10_widestAt_4 : decode cX10_widestAt 4 = .ok (.astore_n 1, 1) := by decide +kernel
theorem dX10_widestAt_5 : decode cX10_widestAt 5 = .ok (.iconst (-1), 1) := by decide +kernel
theorem dX10_widestAt_6 : decode cX10_widestAt 6 = .ok (.istore_n 2, 1) := by decide +kernel
theorem dX10_widestAt_7 : decode cX10_widestAt 7 = .ok (.iconst 0, 1) := by decide +kernel
theorem dX10_widestAt_8 : decode cX10_widestAt 8 = .ok (.istore_n 3, 1) := by decide +kernel
theorem dX10_widestAt_9 : decode cX10_widestAt 9 = .ok (.iconst 2, 1) := by decide +kernel
theorem dX10_widestAt_10 : decode cX10_widestAt 10 = .ok (.istore 4, 2) := by decide +kernel
theorem dX10_widestAt_12 : decode cX10_widestAt 12 = .ok (.iconst 3, 1) := by decide +kernel
theorem dX10_widestAt_13 : decode cX10_widestAt 13 = .ok (.istore 5, 2) := by decide +kernel
theorem dX10_widestAt_15 : decode cX10_widestAt 15 = .ok (.iload 5, 2) := by decide +kernel
theorem dX10_widestAt_17 : decode cX10_widestAt 17 = .ok (.aload_n 1, 1) := by decide +kernel
theorem dX10_widestAt_18 : decode cX10_widestAt 18 = .ok (.invokevirtual 234, 3) := by decide +kernel
theorem dX10_widestAt_21 : decode cX10_widestAt 21 = .ok (.if_icmp .gt 40, 3) := by decide +kernel
theorem dX10_widestAt_24 : decode cX10_widestAt 24 = .ok (.aload_n 1, 1) := by decide +kernel
theorem dX10_widestAt_25 : decode cX10_widestAt 25 = .ok (.iload 5, 2) := by decide +kernel
theorem dX10_widestAt_27 : decode cX10_widestAt 27 = .ok (.invokevirtual 235, 3) := by decide +kernel
theorem dX10_widestAt_30 : decode cX10_widestAt 30 = .ok (.ifCond .eq 25, 3) := by decide +kernel
theorem dX10_widestAt_33 : decode cX10_widestAt 33 = .ok (.iload 5, 2) := by decide +kernel
theorem dX10_widestAt_35 : decode cX10_widestAt 35 = .ok (.iload 4, 2) := by decide +kernel
theorem dX10_widestAt_37 : decode cX10_widestAt 37 = .ok (.isub, 1) := by decide +kernel
theorem dX10_widestAt_38 : decode cX10_widestAt 38 = .ok (.iload_n 3, 1) := by decide +kernel
theorem dX10_widestAt_39 : decode cX10_widestAt 39 = .ok (.if_icmp .le 12, 3) := by decide +kernel
theorem dX10_widestAt_42 : decode cX10_widestAt 42 = .ok (.iload 5, 2) := by decide +kernel
theorem dX10_widestAt_44 : decode cX10_widestAt 44 = .ok (.iload 4, 2) := by decide +kernel
theorem dX10_widestAt_46 : decode cX10_widestAt 46 = .ok (.isub, 1) := by decide +kernel
theorem dX10_widestAt_47 : decode cX10_widestAt 47 = .ok (.istore_n 3, 1) := by decide +kernel
theorem dX10_widestAt_48 : decode cX10_widestAt 48 = .ok (.iload 4, 2) := by decide +kernel
theorem dX10_widestAt_50 : decode cX10_widestAt 50 = .ok (.istore_n 2, 1) := by decide +kernel
theorem dX10_widestAt_51 : decode cX10_widestAt 51 = .ok (.iload 5, 2) := by decide +kernel
theorem dX10_widestAt_53 : decode cX10_widestAt 53 = .ok (.istore 4, 2) := by decide +kernel
theorem dX10_widestAt_55 : decode cX10_widestAt 55 = .ok (.iinc 5 1, 3) := by decide +kernel
theorem dX10_widestAt_58 : decode cX10_widestAt 58 = .ok (.goto (-43), 3) := by decide +kernel
theorem dX10_widestAt_61 : decode cX10_widestAt 61 = .ok (.iload_n 2, 1) := by decide +kernel
theorem dX10_widestAt_62 : decode cX10_widestAt 62 = .ok (.ireturn, 1) := by decide +kernel
theorem dX10_thickest_0 : decode cX10_thickest 0 = .ok (.iload_n 1, 1) := by decide +kernel
theorem dX10_thickest_1 : decode cX10_thickest 1 = .ok (.iconst 1, 1) := by decide +kernel
theorem dX10_thickest_2 : decode cX10_thickest 2 = .ok (.sipush 400, 3) := by decide +kernel
theorem dX10_thickest_5 : decode cX10_thickest 5 = .ok (.invokestatic 98, 3) := by decide +kernel
theorem dX10_thickest_8 : decode cX10_thickest 8 = .ok (.aload_n 0, 1) := by decide +kernel
theorem dX10_thickest_9 : decode cX10_thickest 9 = .ok (.invokevirtual 128, 3) := by decide +kernel
theorem dX10_thickest_12 : decode cX10_thickest 12 = .ok (.astore_n 2, 1) := by decide +kernel
theorem dX10_thickest_13 : decode cX10_thickest 13 = .ok (.iconst 0, 1) := by decide +kernel
theorem dX10_thickest_14 : decode cX10_thickest 14 = .ok (.istore_n 3, 1) := by decide +kernel
theorem dX10_thickest_15 : decode cX10_thickest 15 = .ok (.iconst 2, 1) := by decide +kernel
theorem dX10_thickest_16 : decode cX10_thickest 16 = .ok (.istore 4, 2) := by decide +kernel
theorem dX10_thickest_18 : decode cX10_thickest 18 = .ok (.iload 4, 2) := by decide +kernel
theorem dX10_thickest_20 : decode cX10_thickest 20 = .ok (.aload_n 2, 1) := by decide +kernel
theorem dX10_thickest_21 : decode cX10_thickest 21 = .ok (.invokevirtual 234, 3) := by decide +kernel
theorem dX10_thickest_24 : decode cX10_thickest 24 = .ok (.if_icmp .gt 26, 3) := by decide +kernel
theorem dX10_thickest_27 : decode cX10_thickest 27 = .ok (.iload_n 3, 1) := by decide +kernel
theorem dX10_thickest_28 : decode cX10_thickest 28 = .ok (.aload_n 2, 1) := by decide +kernel
theorem dX10_thickest_29 : decode cX10_thickest 29 = .ok (.iload 4, 2) := by decide +kernel
theorem dX10_thickest_31 : decode cX10_thickest 31 = .ok (.iload_n 1, 1) := by decide +kernel
theorem dX10_thickest_32 : decode cX10_thickest 32 = .ok (.isub, 1) := by decide +kernel
theorem dX10_thickest_33 : decode cX10_thickest 33 = .ok (.iconst 1, 1) := by decide +kernel
theorem dX10_thickest_34 : decode cX10_thickest 34 = .ok (.iadd, 1) := by decide +kernel
theorem dX10_thickest_35 : decode cX10_thickest 35 = .ok (.iload 4, 2) := by decide +kernel
theorem dX10_thickest_37 : decode cX10_thickest 37 = .ok (.invokevirtual 163, 3) := by decide +kernel
theorem dX10_thickest_40 : decode cX10_thickest 40 = .ok (.invokestatic 220, 3) := by decide +kernel
theorem dX10_thickest_43 : decode cX10_thickest 43 = .ok (.istore_n 3, 1) := by decide +kernel
theorem dX10_thickest_44 : decode cX10_thickest 44 = .ok (.iinc 4 1, 3) := by decide +kernel
theorem dX10_thickest_47 : decode cX10_thickest 47 = .ok (.goto (-29), 3) := by decide +kernel
theorem dX10_thickest_50 : decode cX10_thickest 50 = .ok (.iload_n 3, 1) := by decide +kernel
theorem dX10_thickest_51 : decode cX10_thickest 51 = .ok (.ireturn, 1) := by decide +kernel
theorem dX10_wrong_0 : decode cX10_wrong 0 = .ok (.aload_n 0, 1) := by decide +kernel
theorem dX10_wrong_1 : decode cX10_wrong 1 = .ok (.invokevirtual 128, 3) := by decide +kernel
theorem dX10_wrong_4 : decode cX10_wrong 4 = .ok (.astore_n 1, 1) := by decide +kernel
theorem dX10_wrong_5 : decode cX10_wrong 5 = .ok (.iconst 0, 1) := by decide +kernel
theorem dX10_wrong_6 : decode cX10_wrong 6 = .ok (.istore_n 2, 1) := by decide +kernel
theorem dX10_wrong_7 : decode cX10_wrong 7 = .ok (.iconst 2, 1) := by decide +kernel
theorem dX10_wrong_8 : decode cX10_wrong 8 = .ok (.istore_n 3, 1) := by decide +kernel
theorem dX10_wrong_9 : decode cX10_wrong 9 = .ok (.iload_n 3, 1) := by decide +kernel
theorem dX10_wrong_10 : decode cX10_wrong 10 = .ok (.aload_n 1, 1) := by decide +kernel
theorem dX10_wrong_11 : decode cX10_wrong 11 = .ok (.invokevirtual 234, 3) := by decide +kernel
theorem dX10_wrong_14 : decode cX10_wrong 14 = .ok (.if_icmp .gt 27, 3) := by decide +kernel
theorem dX10_wrong_17 : decode cX10_wrong 17 = .ok (.aload_n 1, 1) := by decide +kernel
theorem dX10_wrong_18 : decode cX10_wrong 18 = .ok (.iload_n 3, 1) := by decide +kernel
theorem dX10_wrong_19 : decode cX10_wrong 19 = .ok (.invokevirtual 235, 3) := by decide +kernel
theorem dX10_wrong_22 : decode cX10_wrong 22 = .ok (.ifCond .eq 13, 3) := by decide +kernel
theorem dX10_wrong_25 : decode cX10_wrong 25 = .ok (.iload_n 3, 1) := by decide +kernel
theorem dX10_wrong_26 : decode cX10_wrong 26 = .ok (.invokestatic 194, 3) := by decide +kernel
theorem dX10_wrong_29 : decode cX10_wrong 29 = .ok (.ifCond .ne 6, 3) := by decide +kernel
theorem dX10_wrong_32 : decode cX10_wrong 32 = .ok (.iinc 2 1, 3) := by decide +kernel
theorem dX10_wrong_35 : decode cX10_wrong 35 = .ok (.iinc 3 1, 3) := by decide +kernel
theorem dX10_wrong_38 : decode cX10_wrong 38 = .ok (.goto (-29), 3) := by decide +kernel
theorem dX10_wrong_41 : decode cX10_wrong 41 = .ok (.iload_n 2, 1) := by decide +kernel
theorem dX10_wrong_42 : decode cX10_wrong 42 = .ok (.ireturn, 1) := by decide +kernel
theorem dX10_firstWrong_0 : decode cX10_firstWrong 0 = .ok (.aload_n 0, 1) := by decide +kernel
theorem dX10_firstWrong_1 : decode cX10_firstWrong 1 = .ok (.invokevirtual 128, 3) := by decide +kernel
theorem dX10_firstWrong_4 : decode cX10_firstWrong 4 = .ok (.astore_n 1, 1) := by decide +kernel
theorem dX10_firstWrong_5 : decode cX10_firstWrong 5 = .ok (.iconst 2, 1) := by decide +kernel
theorem dX10_firstWrong_6 : decode cX10_firstWrong 6 = .ok (.istore_n 2, 1) := by decide +kernel
theorem dX10_firstWrong_7 : decode cX10_firstWrong 7 = .ok (.iload_n 2, 1) := by decide +kernel
theorem dX10_firstWrong_8 : decode cX10_firstWrong 8 = .ok (.aload_n 1, 1) := by decide +kernel
theorem dX10_firstWrong_9 : decode cX10_firstWrong 9 = .ok (.invokevirtual 234, 3) := by decide +kernel
theorem dX10_firstWrong_12 : decode cX10_firstWrong 12 = .ok (.if_icmp .gt 26, 3) := by decide +kernel
theorem dX10_firstWrong_15 : decode cX10_firstWrong 15 = .ok (.aload_n 1, 1) := by decide +kernel
theorem dX10_firstWrong_16 : decode cX10_firstWrong 16 = .ok (.iload_n 2, 1) := by decide +kernel
theorem dX10_firstWrong_17 : decode cX10_firstWrong 17 = .ok (.invokevirtual 235, 3) := by decide +kernel
theorem dX10_firstWrong_20 : decode cX10_firstWrong 20 = .ok (.ifCond .eq 12, 3) := by decide +kernel
theorem dX10_firstWrong_23 : decode cX10_firstWrong 23 = .ok (.iload_n 2, 1) := by decide +kernel
theorem dX10_firstWrong_24 : decode cX10_firstWrong 24 = .ok (.invokestatic 194, 3) := by decide +kernel
theorem dX10_firstWrong_27 : decode cX10_firstWrong 27 = .ok (.ifCond .ne 5, 3) := by decide +kernel
theorem dX10_firstWrong_30 : decode cX10_firstWrong 30 = .ok (.iload_n 2, 1) := by decide +kernel
theorem dX10_firstWrong_31 : decode cX10_firstWrong 31 = .ok (.ireturn, 1) := by decide +kernel
theorem dX10_firstWrong_32 : decode cX10_firstWrong 32 = .ok (.iinc 2 1, 3) := by decide +kernel
theorem dX10_firstWrong_35 : decode cX10_firstWrong 35 = .ok (.goto (-28), 3) := by decide +kernel
theorem dX10_firstWrong_38 : decode cX10_firstWrong 38 = .ok (.iconst (-1), 1) := by decide +kernel
theorem dX10_firstWrong_39 : decode cX10_firstWrong 39 = .ok (.ireturn, 1) := by decide +kernel
theorem dX10_gap_0 : decode cX10_gap 0 = .ok (.aload_n 0, 1) := by decide +kernel
theorem dX10_gap_1 : decode cX10_gap 1 = .ok (.invokevirtual 128, 3) := by decide +kernel
theorem dX10_gap_4 : decode cX10_gap 4 = .ok (.astore_n 1, 1) := by decide +kernel
theorem dX10_gap_5 : decode cX10_gap 5 = .ok (.iconst 0, 1) := by decide +kernel
theorem dX10_gap_6 : decode cX10_gap 6 = .ok (.istore_n 2, 1) := by decide +kernel
theorem dX10_gap_7 : decode cX10_gap 7 = .ok (.iconst 2, 1) := by decide +kernel
theorem dX10_gap_8 : decode cX10_gap 8 = .ok (.istore_n 3, 1) := by decide +kernel
theorem dX10_gap_9 : decode cX10_gap 9 = .ok (.iload_n 3, 1) := by decide +kernel
theorem dX10_gap_10 : decode cX10_gap 10 = .ok (.aload_n 1, 1) := by decide +kernel
theorem dX10_gap_11 : decode cX10_gap 11 = .ok (.invokevirtual 234, 3) := by decide +kernel
theorem dX10_gap_14 : decode cX10_gap 14 = .ok (.if_icmp .gt 27, 3) := by decide +kernel
theorem dX10_gap_17 : decode cX10_gap 17 = .ok (.aload_n 1, 1) := by decide +kernel
theorem dX10_gap_18 : decode cX10_gap 18 = .ok (.iload_n 3, 1) := by decide +kernel
theorem dX10_gap_19 : decode cX10_gap 19 = .ok (.invokevirtual 235, 3) := by decide +kernel
theorem dX10_gap_22 : decode cX10_gap 22 = .ok (.ifCond .ne 13, 3) := by decide +kernel
theorem dX10_gap_25 : decode cX10_gap 25 = .ok (.iload_n 3, 1) := by decide +kernel
theorem dX10_gap_26 : decode cX10_gap 26 = .ok (.invokestatic 194, 3) := by decide +kernel
theorem dX10_gap_29 : decode cX10_gap 29 = .ok (.ifCond .eq 6, 3) := by decide +kernel
theorem dX10_gap_32 : decode cX10_gap 32 = .ok (.iinc 2 1, 3) := by decide +kernel
theorem dX10_gap_35 : decode cX10_gap 35 = .ok (.iinc 3 1, 3) := by decide +kernel
theorem dX10_gap_38 : decode cX10_gap 38 = .ok (.goto (-29), 3) := by decide +kernel
theorem dX10_gap_41 : decode cX10_gap 41 = .ok (.aload_n 0, 1) := by decide +kernel
theorem dX10_gap_42 : decode cX10_gap 42 = .ok (.getfield 12, 3) := by decide +kernel
theorem dX10_gap_45 : decode cX10_gap 45 = .ok (.aload_n 0, 1) := by decide +kernel
theorem dX10_gap_46 : decode cX10_gap 46 = .ok (.getfield 12, 3) := by decide +kernel
theorem dX10_gap_49 : decode cX10_gap 49 = .ok (.invokevirtual 119, 3) := by decide +kernel
theorem dX10_gap_52 : decode cX10_gap 52 = .ok (.invokevirtual 244, 3) := by decide +kernel
theorem dX10_gap_55 : decode cX10_gap 55 = .ok (.iconst (-1), 1) := by decide +kernel
theorem dX10_gap_56 : decode cX10_gap 56 = .ok (.if_icmp .ne 12, 3) := by decide +kernel
theorem dX10_gap_59 : decode cX10_gap 59 = .ok (.iload_n 2, 1) := by decide +kernel
theorem dX10_gap_60 : decode cX10_gap 60 = .ok (.aload_n 0, 1) := by decide +kernel
theorem dX10_gap_61 : decode cX10_gap 61 = .ok (.invokevirtual 247, 3) := by decide +kernel
theorem dX10_gap_64 : decode cX10_gap 64 = .ok (.iadd, 1) := by decide +kernel
theorem dX10_gap_65 : decode cX10_gap 65 = .ok (.goto 4, 3) := by decide +kernel
theorem dX10_gap_68 : decode cX10_gap 68 = .ok (.iload_n 2, 1) := by decide +kernel
theorem dX10_gap_69 : decode cX10_gap 69 = .ok (.ireturn, 1) := by decide +kernel
theorem dX10_missing_0 : decode cX10_missing 0 = .ok (.aload_n 0, 1) := by decide +kernel
theorem dX10_missing_1 : decode cX10_missing 1 = .ok (.getfield 12, 3) := by decide +kernel
theorem dX10_missing_4 : decode cX10_missing 4 = .ok (.aload_n 0, 1) := by decide +kernel
theorem dX10_missing_5 : decode cX10_missing 5 = .ok (.getfield 12, 3) := by decide +kernel
theorem dX10_missing_8 : decode cX10_missing 8 = .ok (.invokevirtual 119, 3) := by decide +kernel
theorem dX10_missing_11 : decode cX10_missing 11 = .ok (.invokevirtual 244, 3) := by decide +kernel
theorem dX10_missing_14 : decode cX10_missing 14 = .ok (.ireturn, 1) := by decide +kernel
theorem dX10_takes_0 : decode cX10_takes 0 = .ok (.iload_n 1, 1) := by decide +kernel
theorem dX10_takes_1 : decode cX10_takes 1 = .ok (.iconst 2, 1) := by decide +kernel
theorem dX10_takes_2 : decode cX10_takes 2 = .ok (.bipush 120, 2) := by decide +kernel
theorem dX10_takes_4 : decode cX10_takes 4 = .ok (.invokestatic 98, 3) := by decide +kernel
theorem dX10_takes_7 : decode cX10_takes 7 = .ok (.aload_n 0, 1) := by decide +kernel
theorem dX10_takes_8 : decode cX10_takes 8 = .ok (.invokevirtual 128, 3) := by decide +kernel
theorem dX10_takes_11 : decode cX10_takes 11 = .ok (.iload_n 1, 1) := by decide +kernel
theorem dX10_takes_12 : decode cX10_takes 12 = .ok (.invokevirtual 250, 3) := by decide +kernel
theorem dX10_takes_15 : decode cX10_takes 15 = .ok (.ireturn, 1) := by decide +kernel
theorem dX10_gives_0 : decode cX10_gives 0 = .ok (.aload_n 0, 1) := by decide +kernel
theorem dX10_gives_1 : decode cX10_gives 1 = .ok (.iload_n 1, 1) := by decide +kernel
theorem dX10_gives_2 : decode cX10_gives 2 = .ok (.invokevirtual 179, 3) := by decide +kernel
theorem dX10_gives_5 : decode cX10_gives 5 = .ok (.aload_n 0, 1) := by decide +kernel
theorem dX10_gives_6 : decode cX10_gives 6 = .ok (.aload_n 0, 1) := by decide +kernel
theorem dX10_gives_7 : decode cX10_gives 7 = .ok (.invokevirtual 128, 3) := by decide +kernel
theorem dX10_gives_10 : decode cX10_gives 10 = .ok (.iload_n 1, 1) := by decide +kernel
theorem dX10_gives_11 : decode cX10_gives 11 = .ok (.invokevirtual 253, 3) := by decide +kernel
theorem dX10_gives_14 : decode cX10_gives 14 = .ok (.ireturn, 1) := by decide +kernel
theorem dX10_best_0 : decode cX10_best 0 = .ok (.aload_n 0, 1) := by decide +kernel
theorem dX10_best_1 : decode cX10_best 1 = .ok (.invokevirtual 128, 3) := by decide +kernel
theorem dX10_best_4 : decode cX10_best 4 = .ok (.astore_n 1, 1) := by decide +kernel
theorem dX10_best_5 : decode cX10_best 5 = .ok (.iconst (-1), 1) := by decide +kernel
theorem dX10_best_6 : decode cX10_best 6 = .ok (.istore_n 2, 1) := by decide +kernel
theorem dX10_best_7 : decode cX10_best 7 = .ok (.iconst 0, 1) := by decide +kernel
theorem dX10_best_8 : decode cX10_best 8 = .ok (.istore_n 3, 1) := by decide +kernel
theorem dX10_best_9 : decode cX10_best 9 = .ok (.iconst 2, 1) := by decide +kernel
theorem dX10_best_10 : decode cX10_best 10 = .ok (.istore 4, 2) := by decide +kernel
theorem dX10_best_12 : decode cX10_best 12 = .ok (.iload 4, 2) := by decide +kernel
theorem dX10_best_14 : decode cX10_best 14 = .ok (.bipush 120, 2) := by decide +kernel
theorem dX10_best_16 : decode cX10_best 16 = .ok (.if_icmp .gt 29, 3) := by decide +kernel
theorem dX10_best_19 : decode cX10_best 19 = .ok (.aload_n 1, 1) := by decide +kernel
theorem dX10_best_20 : decode cX10_best 20 = .ok (.iload 4, 2) := by decide +kernel
theorem dX10_best_22 : decode cX10_best 22 = .ok (.invokevirtual 250, 3) := by decide +kernel
theorem dX10_best_25 : decode cX10_best 25 = .ok (.istore 5, 2) := by decide +kernel
theorem dX10_best_27 : decode cX10_best 27 = .ok (.iload 5, 2) := by decide +kernel
theorem dX10_best_29 : decode cX10_best 29 = .ok (.iload_n 3, 1) := by decide +kernel
theorem dX10_best_30 : decode cX10_best 30 = .ok (.if_icmp .le 9, 3) := by decide +kernel
theorem dX10_best_33 : decode cX10_best 33 = .ok (.iload 5, 2) := by decide +kernel
theorem dX10_best_35 : decode cX10_best 35 = .ok (.istore_n 3, 1) := by decide +kernel
theorem dX10_best_36 : decode cX10_best 36 = .ok (.iload 4, 2) := by decide +kernel
theorem dX10_best_38 : decode cX10_best 38 = .ok (.istore_n 2, 1) := by decide +kernel
theorem dX10_best_39 : decode cX10_best 39 = .ok (.iinc 4 1, 3) := by decide +kernel
theorem dX10_best_42 : decode cX10_best 42 = .ok (.goto (-30), 3) := by decide +kernel
theorem dX10_best_45 : decode cX10_best 45 = .ok (.iload_n 2, 1) := by decide +kernel
theorem dX10_best_46 : decode cX10_best 46 = .ok (.ireturn, 1) := by decide +kernel
theorem dX10_marksNext_0 : decode cX10_marksNext 0 = .ok (.iload_n 1, 1) := by decide +kernel
theorem dX10_marksNext_1 : decode cX10_marksNext 1 = .ok (.iconst 1, 1) := by decide +kernel
theorem dX10_marksNext_2 : decode cX10_marksNext 2 = .ok (.sipush 400, 3) := by decide +kernel
theorem dX10_marksNext_5 : decode cX10_marksNext 5 = .ok (.invokestatic 98, 3) := by decide +kernel
theorem dX10_marksNext_8 : decode cX10_marksNext 8 = .ok (.aload_n 0, 1) := by decide +kernel
theorem dX10_marksNext_9 : decode cX10_marksNext 9 = .ok (.getfield 12, 3) := by decide +kernel
theorem dX10_marksNext_12 : decode cX10_marksNext 12 = .ok (.invokevirtual 116, 3) := by decide +kernel
theorem dX10_marksNext_15 : decode cX10_marksNext 15 = .ok (.istore_n 2, 1) := by decide +kernel
theorem dX10_marksNext_16 : decode cX10_marksNext 16 = .ok (.iconst 0, 1) := by decide +kernel
theorem dX10_marksNext_17 : decode cX10_marksNext 17 = .ok (.istore_n 3, 1) := by decide +kernel
theorem dX10_marksNext_18 : decode cX10_marksNext 18 = .ok (.iload_n 2, 1) := by decide +kernel
theorem dX10_marksNext_19 : decode cX10_marksNext 19 = .ok (.iconst 1, 1) := by decide +kernel
theorem dX10_marksNext_20 : decode cX10_marksNext 20 = .ok (.iadd, 1) := by decide +kernel
theorem dX10_marksNext_21 : decode cX10_marksNext 21 = .ok (.istore 4, 2) := by decide +kernel
theorem dX10_marksNext_23 : decode cX10_marksNext 23 = .ok (.iload 4, 2) := by decide +kernel
theorem dX10_marksNext_25 : decode cX10_marksNext 25 = .ok (.iload_n 2, 1) := by decide +kernel
theorem dX10_marksNext_26 : decode cX10_marksNext 26 = .ok (.iload_n 1, 1) := by decide +kernel
theorem dX10_marksNext_27 : decode cX10_marksNext 27 = .ok (.iadd, 1) := by decide +kernel
theorem dX10_marksNext_28 : decode cX10_marksNext 28 = .ok (.if_icmp .gt 40, 3) := by decide +kernel
theorem dX10_marksNext_31 : decode cX10_marksNext 31 = .ok (.iload 4, 2) := by decide +kernel
theorem dX10_marksNext_33 : decode cX10_marksNext 33 = .ok (.aload_n 0, 1) := by decide +kernel
theorem dX10_marksNext_34 : decode cX10_marksNext 34 = .ok (.getfield 12, 3) := by decide +kernel
theorem dX10_marksNext_37 : decode cX10_marksNext 37 = .ok (.invokevirtual 119, 3) := by decide +kernel
theorem dX10_marksNext_40 : decode cX10_marksNext 40 = .ok (.invokestatic 257, 3) := by decide +kernel
theorem dX10_marksNext_43 : decode cX10_marksNext 43 = .ok (.ifCond .eq 19, 3) := by decide +kernel
theorem dX10_marksNext_46 : decode cX10_marksNext 46 = .ok (.aload_n 0, 1) := by decide +kernel
theorem dX10_marksNext_47 : decode cX10_marksNext 47 = .ok (.getfield 12, 3) := by decide +kernel
theorem dX10_marksNext_50 : decode cX10_marksNext 50 = .ok (.iload 4, 2) := by decide +kernel
theorem dX10_marksNext_52 : decode cX10_marksNext 52 = .ok (.invokevirtual 260, 3) := by decide +kernel
theorem dX10_marksNext_55 : decode cX10_marksNext 55 = .ok (.iconst (-1), 1) := by decide +kernel
theorem dX10_marksNext_56 : decode cX10_marksNext 56 = .ok (.if_icmp .ne 6, 3) := by decide +kernel
theorem dX10_marksNext_59 : decode cX10_marksNext 59 = .ok (.iinc 3 1, 3) := by decide +kernel
theorem dX10_marksNext_62 : decode cX10_marksNext 62 = .ok (.iinc 4 1, 3) := by decide +kernel
theorem dX10_marksNext_65 : decode cX10_marksNext 65 = .ok (.goto (-42), 3) := by decide +kernel
theorem dX10_marksNext_68 : decode cX10_marksNext 68 = .ok (.iload_n 3, 1) := by decide +kernel
theorem dX10_marksNext_69 : decode cX10_marksNext 69 = .ok (.ireturn, 1) := by decide +kernel
theorem dX10_lay_0 : decode cX10_lay 0 = .ok (.aload_n 0, 1) := by decide +kernel
theorem dX10_lay_1 : decode cX10_lay 1 = .ok (.getstatic 267, 3) := by decide +kernel
theorem dX10_lay_4 : decode cX10_lay 4 = .ok (.iload_n 1, 1) := by decide +kernel
theorem dX10_lay_5 : decode cX10_lay 5 = .ok (.iconst 0, 1) := by decide +kernel
theorem dX10_lay_6 : decode cX10_lay 6 = .ok (.invokevirtual 273, 3) := by decide +kernel
theorem dX10_lay_9 : decode cX10_lay 9 = .ok (.ireturn, 1) := by decide +kernel
theorem dX10_drop_0 : decode cX10_drop 0 = .ok (.aload_n 0, 1) := by decide +kernel
theorem dX10_drop_1 : decode cX10_drop 1 = .ok (.getstatic 277, 3) := by decide +kernel
theorem dX10_drop_4 : decode cX10_drop 4 = .ok (.iconst 0, 1) := by decide +kernel
theorem dX10_drop_5 : decode cX10_drop 5 = .ok (.iconst 0, 1) := by decide +kernel
theorem dX10_drop_6 : decode cX10_drop 6 = .ok (.invokevirtual 273, 3) := by decide +kernel
theorem dX10_drop_9 : decode cX10_drop 9 = .ok (.ireturn, 1) := by decide +kernel
theorem dX10_swap_0 : decode cX10_swap 0 = .ok (.aload_n 0, 1) := by decide +kernel
theorem dX10_swap_1 : decode cX10_swap 1 = .ok (.getstatic 283, 3) := by decide +kernel
theorem dX10_swap_4 : decode cX10_swap 4 = .ok (.iload_n 1, 1) := by decide +kernel
theorem dX10_swap_5 : decode cX10_swap 5 = .ok (.iload_n 2, 1) := by decide +kernel
theorem dX10_swap_6 : decode cX10_swap 6 = .ok (.invokevirtual 273, 3) := by decide +kernel
theorem dX10_swap_9 : decode cX10_swap 9 = .ok (.ireturn, 1) := by decide +kernel
theorem dX10_add_0 : decode cX10_add 0 = .ok (.aload_n 0, 1) := by decide +kernel
theorem dX10_add_1 : decode cX10_add 1 = .ok (.getstatic 286, 3) := by decide +kernel
theorem dX10_add_4 : decode cX10_add 4 = .ok (.iload_n 1, 1) := by decide +kernel
theorem dX10_add_5 : decode cX10_add 5 = .ok (.iconst 0, 1) := by decide +kernel
theorem dX10_add_6 : decode cX10_add 6 = .ok (.invokevirtual 273, 3) := by decide +kernel
theorem dX10_add_9 : decode cX10_add 9 = .ok (.ireturn, 1) := by decide +kernel
theorem dX10_lift_0 : decode cX10_lift 0 = .ok (.aload_n 0, 1) := by decide +kernel
theorem dX10_lift_1 : decode cX10_lift 1 = .ok (.getstatic 289, 3) := by decide +kernel
theorem dX10_lift_4 : decode cX10_lift 4 = .ok (.iload_n 1, 1) := by decide +kernel
theorem dX10_lift_5 : decode cX10_lift 5 = .ok (.iconst 0, 1) := by decide +kernel
theorem dX10_lift_6 : decode cX10_lift 6 = .ok (.invokevirtual 273, 3) := by decide +kernel
theorem dX10_lift_9 : decode cX10_lift 9 = .ok (.ireturn, 1) := by decide +kernel
theorem dX10_first_0 : decode cX10_first 0 = .ok (.aload_n 0, 1) := by decide +kernel
theorem dX10_first_1 : decode cX10_first 1 = .ok (.getstatic 292, 3) := by decide +kernel
theorem dX10_first_4 : decode cX10_first 4 = .ok (.iload_n 1, 1) := by decide +kernel
theorem dX10_first_5 : decode cX10_first 5 = .ok (.iconst 0, 1) := by decide +kernel
theorem dX10_first_6 : decode cX10_first 6 = .ok (.invokevirtual 273, 3) := by decide +kernel
theorem dX10_first_9 : decode cX10_first 9 = .ok (.ireturn, 1) := by decide +kernel
theorem dX10_wheel_0 : decode cX10_wheel 0 = .ok (.aload_n 0, 1) := by decide +kernel
theorem dX10_wheel_1 : decode cX10_wheel 1 = .ok (.getstatic 295, 3) := by decide +kernel
theorem dX10_wheel_4 : decode cX10_wheel 4 = .ok (.iload_n 1, 1) := by decide +kernel
theorem dX10_wheel_5 : decode cX10_wheel 5 = .ok (.iconst 0, 1) := by decide +kernel
theorem dX10_wheel_6 : decode cX10_wheel 6 = .ok (.invokevirtual 273, 3) := by decide +kernel
theorem dX10_wheel_9 : decode cX10_wheel 9 = .ok (.ireturn, 1) := by decide +kernel
theorem dX10_fill_0 : decode cX10_fill 0 = .ok (.aload_n 0, 1) := by decide +kernel
theorem dX10_fill_1 : decode cX10_fill 1 = .ok (.getstatic 298, 3) := by decide +kernel
theorem dX10_fill_4 : decode cX10_fill 4 = .ok (.iload_n 1, 1) := by decide +kernel
theorem dX10_fill_5 : decode cX10_fill 5 = .ok (.iconst 0, 1) := by decide +kernel
theorem dX10_fill_6 : decode cX10_fill 6 = .ok (.invokevirtual 273, 3) := by decide +kernel
theorem dX10_fill_9 : decode cX10_fill 9 = .ok (.ireturn, 1) := by decide +kernel
theorem dX10_tidy_0 : decode cX10_tidy 0 = .ok (.aload_n 0, 1) := by decide +kernel
theorem dX10_tidy_1 : decode cX10_tidy 1 = .ok (.getstatic 301, 3) := by decide +kernel
theorem dX10_tidy_4 : decode cX10_tidy 4 = .ok (.iconst 0, 1) := by decide +kernel
theorem dX10_tidy_5 : decode cX10_tidy 5 = .ok (.iconst 0, 1) := by decide +kernel
theorem dX10_tidy_6 : decode cX10_tidy 6 = .ok (.invokevirtual 273, 3) := by decide +kernel
theorem dX10_tidy_9 : decode cX10_tidy 9 = .ok (.ireturn, 1) := by decide +kernel
theorem dX10_undoCount_0 : decode cX10_undoCount 0 = .ok (.aload_n 0, 1) := by decide +kernel
theorem dX10_undoCount_1 : decode cX10_undoCount 1 = .ok (.getfield 32, 3) := by decide +kernel
theorem dX10_undoCount_4 : decode cX10_undoCount 4 = .ok (.invokevirtual 345, 3) := by decide +kernel
theorem dX10_undoCount_7 : decode cX10_undoCount 7 = .ok (.ireturn, 1) := by decide +kernel
theorem dX10_undo_0 : decode cX10_undo 0 = .ok (.aload_n 0, 1) := by decide +kernel
theorem dX10_undo_1 : decode cX10_undo 1 = .ok (.getfield 32, 3) := by decide +kernel
theorem dX10_undo_4 : decode cX10_undo 4 = .ok (.invokevirtual 345, 3) := by decide +kernel
theorem dX10_undo_7 : decode cX10_undo 7 = .ok (.ifCond .ne 5, 3) := by decide +kernel
theorem dX10_undo_10 : decode cX10_undo 10 = .ok (.iconst (-1), 1) := by decide +kernel
theorem dX10_undo_11 : decode cX10_undo 11 = .ok (.ireturn, 1) := by decide +kernel
theorem dX10_undo_12 : decode cX10_undo 12 = .ok (.aload_n 0, 1) := by decide +kernel
theorem dX10_undo_13 : decode cX10_undo 13 = .ok (.getfield 32, 3) := by decide +kernel
theorem dX10_undo_16 : decode cX10_undo 16 = .ok (.aload_n 0, 1) := by decide +kernel
theorem dX10_undo_17 : decode cX10_undo 17 = .ok (.getfield 12, 3) := by decide +kernel
theorem dX10_undo_20 : decode cX10_undo 20 = .ok (.invokevirtual 346, 3) := by decide +kernel
theorem dX10_undo_23 : decode cX10_undo 23 = .ok (.aload_n 0, 1) := by decide +kernel
theorem dX10_undo_24 : decode cX10_undo 24 = .ok (.getfield 73, 3) := by decide +kernel
theorem dX10_undo_27 : decode cX10_undo 27 = .ok (.iconst 2, 1) := by decide +kernel
theorem dX10_undo_28 : decode cX10_undo 28 = .ok (.dup2, 1) := by decide +kernel
theorem dX10_undo_29 : decode cX10_undo 29 = .ok (.iaload, 1) := by decide +kernel
theorem dX10_undo_30 : decode cX10_undo 30 = .ok (.iconst 1, 1) := by decide +kernel
theorem dX10_undo_31 : decode cX10_undo 31 = .ok (.iadd, 1) := by decide +kernel
theorem dX10_undo_32 : decode cX10_undo 32 = .ok (.iastore, 1) := by decide +kernel
theorem dX10_undo_33 : decode cX10_undo 33 = .ok (.aload_n 0, 1) := by decide +kernel
theorem dX10_undo_34 : decode cX10_undo 34 = .ok (.getfield 32, 3) := by decide +kernel
theorem dX10_undo_37 : decode cX10_undo 37 = .ok (.invokevirtual 345, 3) := by decide +kernel
theorem dX10_undo_40 : decode cX10_undo 40 = .ok (.ireturn, 1) := by decide +kernel
theorem dX10_saveSnapshot_0 : decode cX10_saveSnapshot 0 = .ok (.aload_n 0, 1) := by decide +kernel
theorem dX10_saveSnapshot_1 : decode cX10_saveSnapshot 1 = .ok (.getfield 22, 3) := by decide +kernel
theorem dX10_saveSnapshot_4 : decode cX10_saveSnapshot 4 = .ok (.aload_n 0, 1) := by decide +kernel
theorem dX10_saveSnapshot_5 : decode cX10_saveSnapshot 5 = .ok (.getfield 12, 3) := by decide +kernel
theorem dX10_saveSnapshot_8 : decode cX10_saveSnapshot 8 = .ok (.invokevirtual 109, 3) := by decide +kernel
theorem dX10_saveSnapshot_11 : decode cX10_saveSnapshot 11 = .ok (.aload_n 0, 1) := by decide +kernel
theorem dX10_saveSnapshot_12 : decode cX10_saveSnapshot 12 = .ok (.iconst 1, 1) := by decide +kernel
theorem dX10_saveSnapshot_13 : decode cX10_saveSnapshot 13 = .ok (.putfield 25, 3) := by decide +kernel
theorem dX10_saveSnapshot_16 : decode cX10_saveSnapshot 16 = .ok (.return_, 1) := by decide +kernel
theorem dX10_restoreSnapshot_0 : decode cX10_restoreSnapshot 0 = .ok (.aload_n 0, 1) := by decide +kernel
theorem dX10_restoreSnapshot_1 : decode cX10_restoreSnapshot 1 = .ok (.getfield 25, 3) := by decide +kernel
theorem dX10_restoreSnapshot_4 : decode cX10_restoreSnapshot 4 = .ok (.ifCond .ne 5, 3) := by decide +kernel
theorem dX10_restoreSnapshot_7 : decode cX10_restoreSnapshot 7 = .ok (.iconst 0, 1) := by decide +kernel
theorem dX10_restoreSnapshot_8 : decode cX10_restoreSnapshot 8 = .ok (.ireturn, 1) := by decide +kernel
theorem dX10_restoreSnapshot_9 : decode cX10_restoreSnapshot 9 = .ok (.aload_n 0, 1) := by decide +kernel
theorem dX10_restoreSnapshot_10 : decode cX10_restoreSnapshot 10 = .ok (.getfield 12, 3) := by decide +kernel
theorem dX10_restoreSnapshot_13 : decode cX10_restoreSnapshot 13 = .ok (.aload_n 0, 1) := by decide +kernel
theorem dX10_restoreSnapshot_14 : decode cX10_restoreSnapshot 14 = .ok (.getfield 22, 3) := by decide +kernel
theorem dX10_restoreSnapshot_17 : decode cX10_restoreSnapshot 17 = .ok (.invokevirtual 109, 3) := by decide +kernel
theorem dX10_restoreSnapshot_20 : decode cX10_restoreSnapshot 20 = .ok (.aload_n 0, 1) := by decide +kernel
theorem dX10_restoreSnapshot_21 : decode cX10_restoreSnapshot 21 = .ok (.getfield 32, 3) := by decide +kernel
theorem dX10_restoreSnapshot_24 : decode cX10_restoreSnapshot 24 = .ok (.invokevirtual 113, 3) := by decide +kernel
theorem dX10_restoreSnapshot_27 : decode cX10_restoreSnapshot 27 = .ok (.iconst 1, 1) := by decide +kernel
theorem dX10_restoreSnapshot_28 : decode cX10_restoreSnapshot 28 = .ok (.ireturn, 1) := by decide +kernel
theorem dX10_needInRange_0 : decode cX10_needInRange 0 = .ok (.iload_n 0, 1) := by decide +kernel
theorem dX10_needInRange_1 : decode cX10_needInRange 1 = .ok (.iload_n 1, 1) := by decide +kernel
theorem dX10_needInRange_2 : decode cX10_needInRange 2 = .ok (.if_icmp .lt 8, 3) := by decide +kernel
theorem dX10_needInRange_5 : decode cX10_needInRange 5 = .ok (.iload_n 0, 1) := by decide +kernel
theorem dX10_needInRange_6 : decode cX10_needInRange 6 = .ok (.iload_n 2, 1) := by decide +kernel
theorem dX10_needInRange_7 : decode cX10_needInRange 7 = .ok (.if_icmp .le 11, 3) := by decide +kernel
theorem dX10_needInRange_10 : decode cX10_needInRange 10 = .ok (.new 349, 3) := by decide +kernel
theorem dX10_needInRange_13 : decode cX10_needInRange 13 = .ok (.dup, 1) := by decide +kernel
theorem dX10_needInRange_14 : decode cX10_needInRange 14 = .ok (.invokespecial 351, 3) := by decide +kernel
theorem dX10_needInRange_17 : decode cX10_needInRange 17 = .ok (.athrow, 1) := by decide +kernel
theorem dX10_needInRange_18 : decode cX10_needInRange 18 = .ok (.return_, 1) := by decide +kernel
theorem dX10_needStretch_0 : decode cX10_needStretch 0 = .ok (.iload_n 1, 1) := by decide +kernel
theorem dX10_needStretch_1 : decode cX10_needStretch 1 = .ok (.ifCond .lt 14, 3) := by decide +kernel
theorem dX10_needStretch_4 : decode cX10_needStretch 4 = .ok (.iload_n 1, 1) := by decide +kernel
theorem dX10_needStretch_5 : decode cX10_needStretch 5 = .ok (.aload_n 0, 1) := by decide +kernel
theorem dX10_needStretch_6 : decode cX10_needStretch 6 = .ok (.getfield 12, 3) := by decide +kernel
theorem dX10_needStretch_9 : decode cX10_needStretch 9 = .ok (.invokevirtual 122, 3) := by decide +kernel
theorem dX10_needStretch_12 : decode cX10_needStretch 12 = .ok (.if_icmp .lt 11, 3) := by decide +kernel
theorem dX10_needStretch_15 : decode cX10_needStretch 15 = .ok (.new 210, 3) := by decide +kernel
theorem dX10_needStretch_18 : decode cX10_needStretch 18 = .ok (.dup, 1) := by decide +kernel
theorem dX10_needStretch_19 : decode cX10_needStretch 19 = .ok (.invokespecial 212, 3) := by decide +kernel
theorem dX10_needStretch_22 : decode cX10_needStretch 22 = .ok (.athrow, 1) := by decide +kernel
theorem dX10_needStretch_23 : decode cX10_needStretch 23 = .ok (.return_, 1) := by decide +kernel
theorem dX10_needStriker_0 : decode cX10_needStriker 0 = .ok (.iload_n 1, 1) := by decide +kernel
theorem dX10_needStriker_1 : decode cX10_needStriker 1 = .ok (.ifCond .lt 14, 3) := by decide +kernel
theorem dX10_needStriker_4 : decode cX10_needStriker 4 = .ok (.iload_n 1, 1) := by decide +kernel
theorem dX10_needStriker_5 : decode cX10_needStriker 5 = .ok (.aload_n 0, 1) := by decide +kernel
theorem dX10_needStriker_6 : decode cX10_needStriker 6 = .ok (.getfield 12, 3) := by decide +kernel
theorem dX10_needStriker_9 : decode cX10_needStriker 9 = .ok (.invokevirtual 125, 3) := by decide +kernel
theorem dX10_needStriker_12 : decode cX10_needStriker 12 = .ok (.if_icmp .lt 11, 3) := by decide +kernel
theorem dX10_needStriker_15 : decode cX10_needStriker 15 = .ok (.new 210, 3) := by decide +kernel
theorem dX10_needStriker_18 : decode cX10_needStriker 18 = .ok (.dup, 1) := by decide +kernel
theorem dX10_needStriker_19 : decode cX10_needStriker 19 = .ok (.invokespecial 212, 3) := by decide +kernel
theorem dX10_needStriker_22 : decode cX10_needStriker 22 = .ok (.athrow, 1) := by decide +kernel
theorem dX10_needStriker_23 : decode cX10_needStriker 23 = .ok (.return_, 1) := by decide +kernel
theorem dX10_current_0 : decode cX10_current 0 = .ok (.aload_n 0, 1) := by decide +kernel
theorem dX10_current_1 : decode cX10_current 1 = .ok (.getfield 39, 3) := by decide +kernel
theorem dX10_current_4 : decode cX10_current 4 = .ok (.aload_n 0, 1) := by decide +kernel
theorem dX10_current_5 : decode cX10_current 5 = .ok (.getfield 12, 3) := by decide +kernel
theorem dX10_current_8 : decode cX10_current 8 = .ok (.invokevirtual 352, 3) := by decide +kernel
theorem dX10_current_11 : decode cX10_current 11 = .ok (.ifCond .ne 14, 3) := by decide +kernel
theorem dX10_current_14 : decode cX10_current 14 = .ok (.aload_n 0, 1) := by decide +kernel
theorem dX10_current_15 : decode cX10_current 15 = .ok (.getfield 39, 3) := by decide +kernel
theorem dX10_current_18 : decode cX10_current 18 = .ok (.aload_n 0, 1) := by decide +kernel
theorem dX10_current_19 : decode cX10_current 19 = .ok (.getfield 12, 3) := by decide +kernel
theorem dX10_current_22 : decode cX10_current 22 = .ok (.invokevirtual 356, 3) := by decide +kernel
theorem dX10_current_25 : decode cX10_current 25 = .ok (.aload_n 0, 1) := by decide +kernel
theorem dX10_current_26 : decode cX10_current 26 = .ok (.getfield 39, 3) := by decide +kernel
theorem dX10_current_29 : decode cX10_current 29 = .ok (.areturn, 1) := by decide +kernel
theorem dX10_orNone_0 : decode cX10_orNone 0 = .ok (.iload_n 0, 1) := by decide +kernel
theorem dX10_orNone_1 : decode cX10_orNone 1 = .ok (.iload_n 1, 1) := by decide +kernel
theorem dX10_orNone_2 : decode cX10_orNone 2 = .ok (.if_icmp .lt 12, 3) := by decide +kernel
theorem dX10_orNone_5 : decode cX10_orNone 5 = .ok (.iload_n 0, 1) := by decide +kernel
theorem dX10_orNone_6 : decode cX10_orNone 6 = .ok (.iload_n 2, 1) := by decide +kernel
theorem dX10_orNone_7 : decode cX10_orNone 7 = .ok (.if_icmp .gt 7, 3) := by decide +kernel
theorem dX10_orNone_10 : decode cX10_orNone 10 = .ok (.iload_n 0, 1) := by decide +kernel
theorem dX10_orNone_11 : decode cX10_orNone 11 = .ok (.goto 4, 3) := by decide +kernel
theorem dX10_orNone_14 : decode cX10_orNone 14 = .ok (.iconst (-1), 1) := by decide +kernel
theorem dX10_orNone_15 : decode cX10_orNone 15 = .ok (.ireturn, 1) := by decide +kernel
theorem dX10_countIdle_0 : decode cX10_countIdle 0 = .ok (.aload_n 0, 1) := by decide +kernel
theorem dX10_countIdle_1 : decode cX10_countIdle 1 = .ok (.invokevirtual 128, 3) := by decide +kernel
theorem dX10_countIdle_4 : decode cX10_countIdle 4 = .ok (.astore_n 1, 1) := by decide +kernel
theorem dX10_countIdle_5 : decode cX10_countIdle 5 = .ok (.iconst 0, 1) := by decide +kernel
theorem dX10_countIdle_6 : decode cX10_countIdle 6 = .ok (.istore_n 2, 1) := by decide +kernel
theorem dX10_countIdle_7 : decode cX10_countIdle 7 = .ok (.iconst 0, 1) := by decide +kernel
theorem dX10_countIdle_8 : decode cX10_countIdle 8 = .ok (.istore_n 3, 1) := by decide +kernel
theorem dX10_countIdle_9 : decode cX10_countIdle 9 = .ok (.iload_n 3, 1) := by decide +kernel
theorem dX10_countIdle_10 : decode cX10_countIdle 10 = .ok (.aload_n 0, 1) := by decide +kernel
theorem dX10_countIdle_11 : decode cX10_countIdle 11 = .ok (.getfield 12, 3) := by decide +kernel
theorem dX10_countIdle_14 : decode cX10_countIdle 14 = .ok (.invokevirtual 125, 3) := by decide +kernel
theorem dX10_countIdle_17 : decode cX10_countIdle 17 = .ok (.if_icmp .ge 28, 3) := by decide +kernel
theorem dX10_countIdle_20 : decode cX10_countIdle 20 = .ok (.aload_n 1, 1) := by decide +kernel
theorem dX10_countIdle_21 : decode cX10_countIdle 21 = .ok (.aload_n 0, 1) := by decide +kernel
theorem dX10_countIdle_22 : decode cX10_countIdle 22 = .ok (.getfield 12, 3) := by decide +kernel
theorem dX10_countIdle_25 : decode cX10_countIdle 25 = .ok (.iload_n 3, 1) := by decide +kernel
theorem dX10_countIdle_26 : decode cX10_countIdle 26 = .ok (.invokevirtual 182, 3) := by decide +kernel
theorem dX10_countIdle_29 : decode cX10_countIdle 29 = .ok (.invokevirtual 198, 3) := by decide +kernel
theorem dX10_countIdle_32 : decode cX10_countIdle 32 = .ok (.iconst (-1), 1) := by decide +kernel
theorem dX10_countIdle_33 : decode cX10_countIdle 33 = .ok (.if_icmp .ne 6, 3) := by decide +kernel
theorem dX10_countIdle_36 : decode cX10_countIdle 36 = .ok (.iinc 2 1, 3) := by decide +kernel
theorem dX10_countIdle_39 : decode cX10_countIdle 39 = .ok (.iinc 3 1, 3) := by decide +kernel
theorem dX10_countIdle_42 : decode cX10_countIdle 42 = .ok (.goto (-33), 3) := by decide +kernel
theorem dX10_countIdle_45 : decode cX10_countIdle 45 = .ok (.iload_n 2, 1) := by decide +kernel
theorem dX10_countIdle_46 : decode cX10_countIdle 46 = .ok (.ireturn, 1) := by decide +kernel
theorem dX10_nextCommon_0 : decode cX10_nextCommon 0 = .ok (.aload_n 0, 1) := by decide +kernel
theorem dX10_nextCommon_1 : decode cX10_nextCommon 1 = .ok (.invokevirtual 128, 3) := by decide +kernel
theorem dX10_nextCommon_4 : decode cX10_nextCommon 4 = .ok (.astore 4, 2) := by decide +kernel
theorem dX10_nextCommon_6 : decode cX10_nextCommon 6 = .ok (.aload_n 0, 1) := by decide +kernel
theorem dX10_nextCommon_7 : decode cX10_nextCommon 7 = .ok (.getfield 12, 3) := by decide +kernel
theorem dX10_nextCommon_10 : decode cX10_nextCommon 10 = .ok (.iload_n 1, 1) := by decide +kernel
theorem dX10_nextCommon_11 : decode cX10_nextCommon 11 = .ok (.invokevirtual 182, 3) := by decide +kernel
theorem dX10_nextCommon_14 : decode cX10_nextCommon 14 = .ok (.istore 5, 2) := by decide +kernel
theorem dX10_nextCommon_16 : decode cX10_nextCommon 16 = .ok (.iload 5, 2) := by decide +kernel
theorem dX10_nextCommon_18 : decode cX10_nextCommon 18 = .ok (.iload 5, 2) := by decide +kernel
theorem dX10_nextCommon_20 : decode cX10_nextCommon 20 = .ok (.imul, 1) := by decide +kernel
theorem dX10_nextCommon_21 : decode cX10_nextCommon 21 = .ok (.iload_n 3, 1) := by decide +kernel
theorem dX10_nextCommon_22 : decode cX10_nextCommon 22 = .ok (.iload 5, 2) := by decide +kernel
theorem dX10_nextCommon_24 : decode cX10_nextCommon 24 = .ok (.iadd, 1) := by decide +kernel
theorem dX10_nextCommon_25 : decode cX10_nextCommon 25 = .ok (.invokestatic 220, 3) := by decide +kernel
theorem dX10_nextCommon_28 : decode cX10_nextCommon 28 = .ok (.istore 6, 2) := by decide +kernel
theorem dX10_nextCommon_30 : decode cX10_nextCommon 30 = .ok (.iload 5, 2) := by decide +kernel
theorem dX10_nextCommon_32 : decode cX10_nextCommon 32 = .ok (.ifCond .le 53, 3) := by decide +kernel
theorem dX10_nextCommon_35 : decode cX10_nextCommon 35 = .ok (.iload 6, 2) := by decide +kernel
theorem dX10_nextCommon_37 : decode cX10_nextCommon 37 = .ok (.aload 4, 2) := by decide +kernel
theorem dX10_nextCommon_39 : decode cX10_nextCommon 39 = .ok (.invokevirtual 234, 3) := by decide +kernel
theorem dX10_nextCommon_42 : decode cX10_nextCommon 42 = .ok (.if_icmp .gt 43, 3) := by decide +kernel
theorem dX10_nextCommon_45 : decode cX10_nextCommon 45 = .ok (.aload 4, 2) := by decide +kernel
theorem dX10_nextCommon_47 : decode cX10_nextCommon 47 = .ok (.iload 6, 2) := by decide +kernel
theorem dX10_nextCommon_49 : decode cX10_nextCommon 49 = .ok (.invokevirtual 204, 3) := by decide +kernel
theorem dX10_nextCommon_52 : decode cX10_nextCommon 52 = .ok (.iconst (-1), 1) := by decide +kernel
theorem dX10_nextCommon_53 : decode cX10_nextCommon 53 = .ok (.if_icmp .eq 22, 3) := by decide +kernel
theorem dX10_nextCommon_56 : decode cX10_nextCommon 56 = .ok (.aload_n 0, 1) := by decide +kernel
theorem dX10_nextCommon_57 : decode cX10_nextCommon 57 = .ok (.getfield 12, 3) := by decide +kernel
theorem dX10_nextCommon_60 : decode cX10_nextCommon 60 = .ok (.iload 6, 2) := by decide +kernel
theorem dX10_nextCommon_62 : decode cX10_nextCommon 62 = .ok (.iload_n 2, 1) := by decide +kernel
theorem dX10_nextCommon_63 : decode cX10_nextCommon 63 = .ok (.iload_n 2, 1) := by decide +kernel
theorem dX10_nextCommon_64 : decode cX10_nextCommon 64 = .ok (.iconst 1, 1) := by decide +kernel
theorem dX10_nextCommon_65 : decode cX10_nextCommon 65 = .ok (.iadd, 1) := by decide +kernel
theorem dX10_nextCommon_66 : decode cX10_nextCommon 66 = .ok (.invokevirtual 213, 3) := by decide +kernel
theorem dX10_nextCommon_69 : decode cX10_nextCommon 69 = .ok (.ifCond .le 6, 3) := by decide +kernel
theorem dX10_nextCommon_72 : decode cX10_nextCommon 72 = .ok (.iload 6, 2) := by decide +kernel
theorem dX10_nextCommon_74 : decode cX10_nextCommon 74 = .ok (.ireturn, 1) := by decide +kernel
theorem dX10_nextCommon_75 : decode cX10_nextCommon 75 = .ok (.iload 6, 2) := by decide +kernel
theorem dX10_nextCommon_77 : decode cX10_nextCommon 77 = .ok (.iload 5, 2) := by decide +kernel
theorem dX10_nextCommon_79 : decode cX10_nextCommon 79 = .ok (.iadd, 1) := by decide +kernel
theorem dX10_nextCommon_80 : decode cX10_nextCommon 80 = .ok (.istore 6, 2) := by decide +kernel
theorem dX10_nextCommon_82 : decode cX10_nextCommon 82 = .ok (.goto (-52), 3) := by decide +kernel
theorem dX10_nextCommon_85 : decode cX10_nextCommon 85 = .ok (.iconst (-1), 1) := by decide +kernel
theorem dX10_nextCommon_86 : decode cX10_nextCommon 86 = .ok (.ireturn, 1) := by decide +kernel
theorem dX10_countGiven_0 : decode cX10_countGiven 0 = .ok (.aload_n 0, 1) := by decide +kernel
theorem dX10_countGiven_1 : decode cX10_countGiven 1 = .ok (.getfield 12, 3) := by decide +kernel
theorem dX10_countGiven_4 : decode cX10_countGiven 4 = .ok (.iload_n 2, 1) := by decide +kernel
theorem dX10_countGiven_5 : decode cX10_countGiven 5 = .ok (.invokevirtual 182, 3) := by decide +kernel
theorem dX10_countGiven_8 : decode cX10_countGiven 8 = .ok (.istore_n 3, 1) := by decide +kernel
theorem dX10_countGiven_9 : decode cX10_countGiven 9 = .ok (.iconst 0, 1) := by decide +kernel
theorem dX10_countGiven_10 : decode cX10_countGiven 10 = .ok (.istore 4, 2) := by decide +kernel
theorem dX10_countGiven_12 : decode cX10_countGiven 12 = .ok (.iload_n 3, 1) := by decide +kernel
theorem dX10_countGiven_13 : decode cX10_countGiven 13 = .ok (.iload_n 3, 1) := by decide +kernel
theorem dX10_countGiven_14 : decode cX10_countGiven 14 = .ok (.imul, 1) := by decide +kernel
theorem dX10_countGiven_15 : decode cX10_countGiven 15 = .ok (.istore 5, 2) := by decide +kernel
theorem dX10_countGiven_17 : decode cX10_countGiven 17 = .ok (.iload_n 3, 1) := by decide +kernel
theorem dX10_countGiven_18 : decode cX10_countGiven 18 = .ok (.ifCond .le 56, 3) := by decide +kernel
theorem dX10_countGiven_21 : decode cX10_countGiven 21 = .ok (.iload 5, 2) := by decide +kernel
theorem dX10_countGiven_23 : decode cX10_countGiven 23 = .ok (.aload_n 1, 1) := by decide +kernel
theorem dX10_countGiven_24 : decode cX10_countGiven 24 = .ok (.invokevirtual 234, 3) := by decide +kernel
theorem dX10_countGiven_27 : decode cX10_countGiven 27 = .ok (.if_icmp .gt 47, 3) := by decide +kernel
theorem dX10_countGiven_30 : decode cX10_countGiven 30 = .ok (.aload_n 1, 1) := by decide +kernel
theorem dX10_countGiven_31 : decode cX10_countGiven 31 = .ok (.iload 5, 2) := by decide +kernel
theorem dX10_countGiven_33 : decode cX10_countGiven 33 = .ok (.invokevirtual 204, 3) := by decide +kernel
theorem dX10_countGiven_36 : decode cX10_countGiven 36 = .ok (.iload_n 3, 1) := by decide +kernel
theorem dX10_countGiven_37 : decode cX10_countGiven 37 = .ok (.if_icmp .ne 28, 3) := by decide +kernel
theorem dX10_countGiven_40 : decode cX10_countGiven 40 = .ok (.aload_n 0, 1) := by decide +kernel
theorem dX10_countGiven_41 : decode cX10_countGiven 41 = .ok (.getfield 12, 3) := by decide +kernel
theorem dX10_countGiven_44 : decode cX10_countGiven 44 = .ok (.iload 5, 2) := by decide +kernel
theorem dX10_countGiven_46 : decode cX10_countGiven 46 = .ok (.iload_n 2, 1) := by decide +kernel
theorem dX10_countGiven_47 : decode cX10_countGiven 47 = .ok (.iconst 1, 1) := by decide +kernel
theorem dX10_countGiven_48 : decode cX10_countGiven 48 = .ok (.iadd, 1) := by decide +kernel
theorem dX10_countGiven_49 : decode cX10_countGiven 49 = .ok (.aload_n 0, 1) := by decide +kernel
theorem dX10_countGiven_50 : decode cX10_countGiven 50 = .ok (.getfield 12, 3) := by decide +kernel
theorem dX10_countGiven_53 : decode cX10_countGiven 53 = .ok (.invokevirtual 125, 3) := by decide +kernel
theorem dX10_countGiven_56 : decode cX10_countGiven 56 = .ok (.invokevirtual 213, 3) := by decide +kernel
theorem dX10_countGiven_59 : decode cX10_countGiven 59 = .ok (.ifCond .ne 6, 3) := by decide +kernel
theorem dX10_countGiven_62 : decode cX10_countGiven 62 = .ok (.iinc 4 1, 3) := by decide +kernel
theorem dX10_countGiven_65 : decode cX10_countGiven 65 = .ok (.iload 5, 2) := by decide +kernel
theorem dX10_countGiven_67 : decode cX10_countGiven 67 = .ok (.iload_n 3, 1) := by decide +kernel
theorem dX10_countGiven_68 : decode cX10_countGiven 68 = .ok (.iadd, 1) := by decide +kernel
theorem dX10_countGiven_69 : decode cX10_countGiven 69 = .ok (.istore 5, 2) := by decide +kernel
theorem dX10_countGiven_71 : decode cX10_countGiven 71 = .ok (.goto (-54), 3) := by decide +kernel
theorem dX10_countGiven_74 : decode cX10_countGiven 74 = .ok (.iload 4, 2) := by decide +kernel
theorem dX10_countGiven_76 : decode cX10_countGiven 76 = .ok (.ireturn, 1) := by decide +kernel
theorem dX10_operate_0 : decode cX10_operate 0 = .ok (.aload_n 1, 1) := by decide +kernel
theorem dX10_operate_1 : decode cX10_operate 1 = .ok (.iload_n 2, 1) := by decide +kernel
theorem dX10_operate_2 : decode cX10_operate 2 = .ok (.iload_n 3, 1) := by decide +kernel
theorem dX10_operate_3 : decode cX10_operate 3 = .ok (.invokevirtual 361, 3) := by decide +kernel
theorem dX10_operate_6 : decode cX10_operate 6 = .ok (.ifCond .ne 11, 3) := by decide +kernel
theorem dX10_operate_9 : decode cX10_operate 9 = .ok (.new 349, 3) := by decide +kernel
theorem dX10_operate_12 : decode cX10_operate 12 = .ok (.dup, 1) := by decide +kernel
theorem dX10_operate_13 : decode cX10_operate 13 = .ok (.invokespecial 351, 3) := by decide +kernel
theorem dX10_operate_16 : decode cX10_operate 16 = .ok (.athrow, 1) := by decide +kernel
theorem dX10_operate_17 : decode cX10_operate 17 = .ok (.aload_n 0, 1) := by decide +kernel
theorem dX10_operate_18 : decode cX10_operate 18 = .ok (.getfield 16, 3) := by decide +kernel
theorem dX10_operate_21 : decode cX10_operate 21 = .ok (.aload_n 0, 1) := by decide +kernel
theorem dX10_operate_22 : decode cX10_operate 22 = .ok (.getfield 12, 3) := by decide +kernel
theorem dX10_operate_25 : decode cX10_operate 25 = .ok (.invokevirtual 109, 3) := by decide +kernel
theorem dX10_operate_28 : decode cX10_operate 28 = .ok (.aload_n 0, 1) := by decide +kernel
theorem dX10_operate_29 : decode cX10_operate 29 = .ok (.aload_n 0, 1) := by decide +kernel
theorem dX10_operate_30 : decode cX10_operate 30 = .ok (.aload_n 1, 1) := by decide +kernel
theorem dX10_operate_31 : decode cX10_operate 31 = .ok (.iload_n 2, 1) := by decide +kernel
theorem dX10_operate_32 : decode cX10_operate 32 = .ok (.iload_n 3, 1) := by decide +kernel
theorem dX10_operate_33 : decode cX10_operate 33 = .ok (.invokevirtual 324, 3) := by decide +kernel
theorem dX10_operate_36 : decode cX10_operate 36 = .ok (.invokevirtual 327, 3) := by decide +kernel
theorem dX10_operate_39 : decode cX10_operate 39 = .ok (.istore 4, 2) := by decide +kernel
theorem dX10_operate_41 : decode cX10_operate 41 = .ok (.iload 4, 2) := by decide +kernel
theorem dX10_operate_43 : decode cX10_operate 43 = .ok (.ifCond .lt 14, 3) := by decide +kernel
theorem dX10_operate_46 : decode cX10_operate 46 = .ok (.aload_n 0, 1) := by decide +kernel
theorem dX10_operate_47 : decode cX10_operate 47 = .ok (.getfield 32, 3) := by decide +kernel
theorem dX10_operate_50 : decode cX10_operate 50 = .ok (.aload_n 0, 1) := by decide +kernel
theorem dX10_operate_51 : decode cX10_operate 51 = .ok (.getfield 16, 3) := by decide +kernel
theorem dX10_operate_54 : decode cX10_operate 54 = .ok (.invokevirtual 308, 3) := by decide +kernel
theorem dX10_operate_57 : decode cX10_operate 57 = .ok (.iload 4, 2) := by decide +kernel
theorem dX10_operate_59 : decode cX10_operate 59 = .ok (.ireturn, 1) := by decide +kernel
theorem dX10_counted_0 : decode cX10_counted 0 = .ok (.aload_n 0, 1) := by decide +kernel
theorem dX10_counted_1 : decode cX10_counted 1 = .ok (.getfield 73, 3) := by decide +kernel
theorem dX10_counted_4 : decode cX10_counted 4 = .ok (.iload_n 1, 1) := by decide +kernel
theorem dX10_counted_5 : decode cX10_counted 5 = .ok (.ifCond .ge 7, 3) := by decide +kernel
theorem dX10_counted_8 : decode cX10_counted 8 = .ok (.iconst 1, 1) := by decide +kernel
theorem dX10_counted_9 : decode cX10_counted 9 = .ok (.goto 4, 3) := by decide +kernel
theorem dX10_counted_12 : decode cX10_counted 12 = .ok (.iconst 0, 1) := by decide +kernel
theorem dX10_counted_13 : decode cX10_counted 13 = .ok (.dup2, 1) := by decide +kernel
theorem dX10_counted_14 : decode cX10_counted 14 = .ok (.iaload, 1) := by decide +kernel
theorem dX10_counted_15 : decode cX10_counted 15 = .ok (.iconst 1, 1) := by decide +kernel
theorem dX10_counted_16 : decode cX10_counted 16 = .ok (.iadd, 1) := by decide +kernel
theorem dX10_counted_17 : decode cX10_counted 17 = .ok (.iastore, 1) := by decide +kernel
theorem dX10_counted_18 : decode cX10_counted 18 = .ok (.iload_n 1, 1) := by decide +kernel
theorem dX10_counted_19 : decode cX10_counted 19 = .ok (.ireturn, 1) := by decide +kernel
theorem dX10_carryOut_0 : decode cX10_carryOut 0 = .ok (.getstatic 364, 3) := by decide +kernel
theorem dX10_carryOut_3 : decode cX10_carryOut 3 = .ok (.aload_n 1, 1) := by decide +kernel
theorem dX10_carryOut_4 : decode cX10_carryOut 4 = .ok (.invokevirtual 369, 3) := by decide +kernel
theorem dX10_carryOut_7 : decode cX10_carryOut 7 = .ok (.iaload, 1) := by decide +kernel
theorem dX10_carryOut_8 : decode cX10_carryOut 8 = .ok (.tableswitch 106 1 9 #[52, 58, 63, 69, 76, 82, 88, 94, 100], 52) := by decide +kernel
theorem dX10_carryOut_60 : decode cX10_carryOut 60 = .ok (.aload_n 0, 1) := by decide +kernel
theorem dX10_carryOut_61 : decode cX10_carryOut 61 = .ok (.iload_n 2, 1) := by decide +kernel
theorem dX10_carryOut_62 : decode cX10_carryOut 62 = .ok (.invokevirtual 372, 3) := by decide +kernel
theorem dX10_carryOut_65 : decode cX10_carryOut 65 = .ok (.ireturn, 1) := by decide +kernel
theorem dX10_carryOut_66 : decode cX10_carryOut 66 = .ok (.aload_n 0, 1) := by decide +kernel
theorem dX10_carryOut_67 : decode cX10_carryOut 67 = .ok (.invokevirtual 375, 3) := by decide +kernel
theorem dX10_carryOut_70 : decode cX10_carryOut 70 = .ok (.ireturn, 1) := by decide +kernel
theorem dX10_carryOut_71 : decode cX10_carryOut 71 = .ok (.aload_n 0, 1) := by decide +kernel
theorem dX10_carryOut_72 : decode cX10_carryOut 72 = .ok (.iload_n 2, 1) := by decide +kernel
theorem dX10_carryOut_73 : decode cX10_carryOut 73 = .ok (.invokevirtual 378, 3) := by decide +kernel
theorem dX10_carryOut_76 : decode cX10_carryOut 76 = .ok (.ireturn, 1) := by decide +kernel
theorem dX10_carryOut_77 : decode cX10_carryOut 77 = .ok (.aload_n 0, 1) := by decide +kernel
theorem dX10_carryOut_78 : decode cX10_carryOut 78 = .ok (.iload_n 2, 1) := by decide +kernel
theorem dX10_carryOut_79 : decode cX10_carryOut 79 = .ok (.iload_n 3, 1) := by decide +kernel
theorem dX10_carryOut_80 : decode cX10_carryOut 80 = .ok (.invokevirtual 381, 3) := by decide +kernel
theorem dX10_carryOut_83 : decode cX10_carryOut 83 = .ok (.ireturn, 1) := by decide +kernel
theorem dX10_carryOut_84 : decode cX10_carryOut 84 = .ok (.aload_n 0, 1) := by decide +kernel
theorem dX10_carryOut_85 : decode cX10_carryOut 85 = .ok (.iload_n 2, 1) := by decide +kernel
theorem dX10_carryOut_86 : decode cX10_carryOut 86 = .ok (.invokevirtual 384, 3) := by decide +kernel
theorem dX10_carryOut_89 : decode cX10_carryOut 89 = .ok (.ireturn, 1) := by decide +kernel
theorem dX10_carryOut_90 : decode cX10_carryOut 90 = .ok (.aload_n 0, 1) := by decide +kernel
theorem dX10_carryOut_91 : decode cX10_carryOut 91 = .ok (.iload_n 2, 1) := by decide +kernel
theorem dX10_carryOut_92 : decode cX10_carryOut 92 = .ok (.invokevirtual 387, 3) := by decide +kernel
theorem dX10_carryOut_95 : decode cX10_carryOut 95 = .ok (.ireturn, 1) := by decide +kernel
theorem dX10_carryOut_96 : decode cX10_carryOut 96 = .ok (.aload_n 0, 1) := by decide +kernel
theorem dX10_carryOut_97 : decode cX10_carryOut 97 = .ok (.iload_n 2, 1) := by decide +kernel
theorem dX10_carryOut_98 : decode cX10_carryOut 98 = .ok (.invokevirtual 390, 3) := by decide +kernel
theorem dX10_carryOut_101 : decode cX10_carryOut 101 = .ok (.ireturn, 1) := by decide +kernel
theorem dX10_carryOut_102 : decode cX10_carryOut 102 = .ok (.aload_n 0, 1) := by decide +kernel
theorem dX10_carryOut_103 : decode cX10_carryOut 103 = .ok (.iload_n 2, 1) := by decide +kernel
theorem dX10_carryOut_104 : decode cX10_carryOut 104 = .ok (.invokevirtual 393, 3) := by decide +kernel
theorem dX10_carryOut_107 : decode cX10_carryOut 107 = .ok (.ireturn, 1) := by decide +kernel
theorem dX10_carryOut_108 : decode cX10_carryOut 108 = .ok (.aload_n 0, 1) := by decide +kernel
theorem dX10_carryOut_109 : decode cX10_carryOut 109 = .ok (.iload_n 2, 1) := by decide +kernel
theorem dX10_carryOut_110 : decode cX10_carryOut 110 = .ok (.invokevirtual 396, 3) := by decide +kernel
theorem dX10_carryOut_113 : decode cX10_carryOut 113 = .ok (.ireturn, 1) := by decide +kernel
theorem dX10_carryOut_114 : decode cX10_carryOut 114 = .ok (.aload_n 0, 1) := by decide +kernel
theorem dX10_carryOut_115 : decode cX10_carryOut 115 = .ok (.invokevirtual 399, 3) := by decide +kernel
theorem dX10_carryOut_118 : decode cX10_carryOut 118 = .ok (.ireturn, 1) := by decide +kernel
theorem dX10_layStretch_0 : decode cX10_layStretch 0 = .ok (.aload_n 0, 1) := by decide +kernel
theorem dX10_layStretch_1 : decode cX10_layStretch 1 = .ok (.getfield 12, 3) := by decide +kernel
theorem dX10_layStretch_4 : decode cX10_layStretch 4 = .ok (.invokevirtual 122, 3) := by decide +kernel
theorem dX10_layStretch_7 : decode cX10_layStretch 7 = .ok (.istore_n 2, 1) := by decide +kernel
theorem dX10_layStretch_8 : decode cX10_layStretch 8 = .ok (.iload_n 2, 1) := by decide +kernel
theorem dX10_layStretch_9 : decode cX10_layStretch 9 = .ok (.bipush 12, 2) := by decide +kernel
theorem dX10_layStretch_11 : decode cX10_layStretch 11 = .ok (.if_icmp .lt 6, 3) := by decide +kernel
theorem dX10_layStretch_14 : decode cX10_layStretch 14 = .ok (.bipush (-2), 2) := by decide +kernel
theorem dX10_layStretch_16 : decode cX10_layStretch 16 = .ok (.ireturn, 1) := by decide +kernel
theorem dX10_layStretch_17 : decode cX10_layStretch 17 = .ok (.aload_n 0, 1) := by decide +kernel
theorem dX10_layStretch_18 : decode cX10_layStretch 18 = .ok (.getfield 12, 3) := by decide +kernel
theorem dX10_layStretch_21 : decode cX10_layStretch 21 = .ok (.iload_n 1, 1) := by decide +kernel
theorem dX10_layStretch_22 : decode cX10_layStretch 22 = .ok (.invokevirtual 85, 3) := by decide +kernel
theorem dX10_layStretch_25 : decode cX10_layStretch 25 = .ok (.aload_n 0, 1) := by decide +kernel
theorem dX10_layStretch_26 : decode cX10_layStretch 26 = .ok (.getfield 73, 3) := by decide +kernel
theorem dX10_layStretch_29 : decode cX10_layStretch 29 = .ok (.iconst 3, 1) := by decide +kernel
theorem dX10_layStretch_30 : decode cX10_layStretch 30 = .ok (.dup2, 1) := by decide +kernel
theorem dX10_layStretch_31 : decode cX10_layStretch 31 = .ok (.iaload, 1) := by decide +kernel
theorem dX10_layStretch_32 : decode cX10_layStretch 32 = .ok (.iconst 1, 1) := by decide +kernel
theorem dX10_layStretch_33 : decode cX10_layStretch 33 = .ok (.iadd, 1) := by decide +kernel
theorem dX10_layStretch_34 : decode cX10_layStretch 34 = .ok (.iastore, 1) := by decide +kernel
theorem dX10_layStretch_35 : decode cX10_layStretch 35 = .ok (.aload_n 0, 1) := by decide +kernel
theorem dX10_layStretch_36 : decode cX10_layStretch 36 = .ok (.invokevirtual 128, 3) := by decide +kernel
theorem dX10_layStretch_39 : decode cX10_layStretch 39 = .ok (.aload_n 0, 1) := by decide +kernel
theorem dX10_layStretch_40 : decode cX10_layStretch 40 = .ok (.getfield 12, 3) := by decide +kernel
theorem dX10_layStretch_43 : decode cX10_layStretch 43 = .ok (.iload_n 2, 1) := by decide +kernel
theorem dX10_layStretch_44 : decode cX10_layStretch 44 = .ok (.invokevirtual 157, 3) := by decide +kernel
theorem dX10_layStretch_47 : decode cX10_layStretch 47 = .ok (.aload_n 0, 1) := by decide +kernel
theorem dX10_layStretch_48 : decode cX10_layStretch 48 = .ok (.getfield 12, 3) := by decide +kernel
theorem dX10_layStretch_51 : decode cX10_layStretch 51 = .ok (.iload_n 2, 1) := by decide +kernel
theorem dX10_layStretch_52 : decode cX10_layStretch 52 = .ok (.invokevirtual 160, 3) := by decide +kernel
theorem dX10_layStretch_55 : decode cX10_layStretch 55 = .ok (.invokevirtual 163, 3) := by decide +kernel
theorem dX10_layStretch_58 : decode cX10_layStretch 58 = .ok (.ireturn, 1) := by decide +kernel
theorem dX10_dropStretch_0 : decode cX10_dropStretch 0 = .ok (.aload_n 0, 1) := by decide +kernel
theorem dX10_dropStretch_1 : decode cX10_dropStretch 1 = .ok (.getfield 12, 3) := by decide +kernel
theorem dX10_dropStretch_4 : decode cX10_dropStretch 4 = .ok (.invokevirtual 122, 3) := by decide +kernel
theorem dX10_dropStretch_7 : decode cX10_dropStretch 7 = .ok (.ifCond .ne 6, 3) := by decide +kernel
theorem dX10_dropStretch_10 : decode cX10_dropStretch 10 = .ok (.bipush (-2), 2) := by decide +kernel
theorem dX10_dropStretch_12 : decode cX10_dropStretch 12 = .ok (.ireturn, 1) := by decide +kernel
theorem dX10_dropStretch_13 : decode cX10_dropStretch 13 = .ok (.aload_n 0, 1) := by decide +kernel
theorem dX10_dropStretch_14 : decode cX10_dropStretch 14 = .ok (.getfield 12, 3) := by decide +kernel
theorem dX10_dropStretch_17 : decode cX10_dropStretch 17 = .ok (.invokevirtual 402, 3) := by decide +kernel
theorem dX10_dropStretch_20 : decode cX10_dropStretch 20 = .ok (.aload_n 0, 1) := by decide +kernel
theorem dX10_dropStretch_21 : decode cX10_dropStretch 21 = .ok (.getfield 12, 3) := by decide +kernel
theorem dX10_dropStretch_24 : decode cX10_dropStretch 24 = .ok (.invokevirtual 116, 3) := by decide +kernel
theorem dX10_dropStretch_27 : decode cX10_dropStretch 27 = .ok (.ireturn, 1) := by decide +kernel
theorem dX10_trimStretch_0 : decode cX10_trimStretch 0 = .ok (.aload_n 0, 1) := by decide +kernel
theorem dX10_trimStretch_1 : decode cX10_trimStretch 1 = .ok (.getfield 12, 3) := by decide +kernel
theorem dX10_trimStretch_4 : decode cX10_trimStretch 4 = .ok (.invokevirtual 122, 3) := by decide +kernel
theorem dX10_trimStretch_7 : decode cX10_trimStretch 7 = .ok (.ifCond .ne 6, 3) := by decide +kernel
theorem dX10_trimStretch_10 : decode cX10_trimStretch 10 = .ok (.bipush (-2), 2) := by decide +kernel
theorem dX10_trimStretch_12 : decode cX10_trimStretch 12 = .ok (.ireturn, 1) := by decide +kernel
theorem dX10_trimStretch_13 : decode cX10_trimStretch 13 = .ok (.aload_n 0, 1) := by decide +kernel
theorem dX10_trimStretch_14 : decode cX10_trimStretch 14 = .ok (.getfield 12, 3) := by decide +kernel
theorem dX10_trimStretch_17 : decode cX10_trimStretch 17 = .ok (.invokevirtual 405, 3) := by decide +kernel
theorem dX10_trimStretch_20 : decode cX10_trimStretch 20 = .ok (.iload_n 1, 1) := by decide +kernel
theorem dX10_trimStretch_21 : decode cX10_trimStretch 21 = .ok (.if_icmp .gt 6, 3) := by decide +kernel
theorem dX10_trimStretch_24 : decode cX10_trimStretch 24 = .ok (.bipush (-3), 2) := by decide +kernel
theorem dX10_trimStretch_26 : decode cX10_trimStretch 26 = .ok (.ireturn, 1) := by decide +kernel
theorem dX10_trimStretch_27 : decode cX10_trimStretch 27 = .ok (.aload_n 0, 1) := by decide +kernel
theorem dX10_trimStretch_28 : decode cX10_trimStretch 28 = .ok (.getfield 12, 3) := by decide +kernel
theorem dX10_trimStretch_31 : decode cX10_trimStretch 31 = .ok (.invokevirtual 402, 3) := by decide +kernel
theorem dX10_trimStretch_34 : decode cX10_trimStretch 34 = .ok (.aload_n 0, 1) := by decide +kernel
theorem dX10_trimStretch_35 : decode cX10_trimStretch 35 = .ok (.getfield 12, 3) := by decide +kernel
theorem dX10_trimStretch_38 : decode cX10_trimStretch 38 = .ok (.iload_n 1, 1) := by decide +kernel
theorem dX10_trimStretch_39 : decode cX10_trimStretch 39 = .ok (.invokevirtual 85, 3) := by decide +kernel
theorem dX10_trimStretch_42 : decode cX10_trimStretch 42 = .ok (.aload_n 0, 1) := by decide +kernel
theorem dX10_trimStretch_43 : decode cX10_trimStretch 43 = .ok (.getfield 12, 3) := by decide +kernel
theorem dX10_trimStretch_46 : decode cX10_trimStretch 46 = .ok (.invokevirtual 116, 3) := by decide +kernel
theorem dX10_trimStretch_49 : decode cX10_trimStretch 49 = .ok (.ireturn, 1) := by decide +kernel
theorem dX10_swapStrikers_0 : decode cX10_swapStrikers 0 = .ok (.aload_n 0, 1) := by decide +kernel
theorem dX10_swapStrikers_1 : decode cX10_swapStrikers 1 = .ok (.getfield 12, 3) := by decide +kernel
theorem dX10_swapStrikers_4 : decode cX10_swapStrikers 4 = .ok (.iload_n 1, 1) := by decide +kernel
theorem dX10_swapStrikers_5 : decode cX10_swapStrikers 5 = .ok (.invokevirtual 201, 3) := by decide +kernel
theorem dX10_swapStrikers_8 : decode cX10_swapStrikers 8 = .ok (.istore_n 3, 1) := by decide +kernel
theorem dX10_swapStrikers_9 : decode cX10_swapStrikers 9 = .ok (.aload_n 0, 1) := by decide +kernel
theorem dX10_swapStrikers_10 : decode cX10_swapStrikers 10 = .ok (.getfield 12, 3) := by decide +kernel
theorem dX10_swapStrikers_13 : decode cX10_swapStrikers 13 = .ok (.iload_n 2, 1) := by decide +kernel
theorem dX10_swapStrikers_14 : decode cX10_swapStrikers 14 = .ok (.invokevirtual 201, 3) := by decide +kernel
theorem dX10_swapStrikers_17 : decode cX10_swapStrikers 17 = .ok (.istore 4, 2) := by decide +kernel
theorem dX10_swapStrikers_19 : decode cX10_swapStrikers 19 = .ok (.iload_n 3, 1) := by decide +kernel
theorem dX10_swapStrikers_20 : decode cX10_swapStrikers 20 = .ok (.iconst (-1), 1) := by decide +kernel
theorem dX10_swapStrikers_21 : decode cX10_swapStrikers 21 = .ok (.if_icmp .eq 9, 3) := by decide +kernel
theorem dX10_swapStrikers_24 : decode cX10_swapStrikers 24 = .ok (.iload 4, 2) := by decide +kernel
theorem dX10_swapStrikers_26 : decode cX10_swapStrikers 26 = .ok (.iconst (-1), 1) := by decide +kernel
theorem dX10_swapStrikers_27 : decode cX10_swapStrikers 27 = .ok (.if_icmp .ne 6, 3) := by decide +kernel
theorem dX10_swapStrikers_30 : decode cX10_swapStrikers 30 = .ok (.bipush (-2), 2) := by decide +kernel
theorem dX10_swapStrikers_32 : decode cX10_swapStrikers 32 = .ok (.ireturn, 1) := by decide +kernel
theorem dX10_swapStrikers_33 : decode cX10_swapStrikers 33 = .ok (.aload_n 0, 1) := by decide +kernel
theorem dX10_swapStrikers_34 : decode cX10_swapStrikers 34 = .ok (.invokevirtual 128, 3) := by decide +kernel
theorem dX10_swapStrikers_37 : decode cX10_swapStrikers 37 = .ok (.astore 5, 2) := by decide +kernel
theorem dX10_swapStrikers_39 : decode cX10_swapStrikers 39 = .ok (.aload_n 0, 1) := by decide +kernel
theorem dX10_swapStrikers_40 : decode cX10_swapStrikers 40 = .ok (.getfield 12, 3) := by decide +kernel
theorem dX10_swapStrikers_43 : decode cX10_swapStrikers 43 = .ok (.iload_n 3, 1) := by decide +kernel
theorem dX10_swapStrikers_44 : decode cX10_swapStrikers 44 = .ok (.iload 4, 2) := by decide +kernel
theorem dX10_swapStrikers_46 : decode cX10_swapStrikers 46 = .ok (.invokevirtual 408, 3) := by decide +kernel
theorem dX10_swapStrikers_49 : decode cX10_swapStrikers 49 = .ok (.iconst 0, 1) := by decide +kernel
theorem dX10_swapStrikers_50 : decode cX10_swapStrikers 50 = .ok (.istore 6, 2) := by decide +kernel
theorem dX10_swapStrikers_52 : decode cX10_swapStrikers 52 = .ok (.iconst 2, 1) := by decide +kernel
theorem dX10_swapStrikers_53 : decode cX10_swapStrikers 53 = .ok (.istore 7, 2) := by decide +kernel
theorem dX10_swapStrikers_55 : decode cX10_swapStrikers 55 = .ok (.iload 7, 2) := by decide +kernel
theorem dX10_swapStrikers_57 : decode cX10_swapStrikers 57 = .ok (.aload 5, 2) := by decide +kernel
theorem dX10_swapStrikers_59 : decode cX10_swapStrikers 59 = .ok (.invokevirtual 234, 3) := by decide +kernel
theorem dX10_swapStrikers_62 : decode cX10_swapStrikers 62 = .ok (.if_icmp .gt 40, 3) := by decide +kernel
theorem dX10_swapStrikers_65 : decode cX10_swapStrikers 65 = .ok (.aload 5, 2) := by decide +kernel
theorem dX10_swapStrikers_67 : decode cX10_swapStrikers 67 = .ok (.iload 7, 2) := by decide +kernel
theorem dX10_swapStrikers_69 : decode cX10_swapStrikers 69 = .ok (.invokevirtual 204, 3) := by decide +kernel
theorem dX10_swapStrikers_72 : decode cX10_swapStrikers 72 = .ok (.istore 8, 2) := by decide +kernel
theorem dX10_swapStrikers_74 : decode cX10_swapStrikers 74 = .ok (.iload 8, 2) := by decide +kernel
theorem dX10_swapStrikers_76 : decode cX10_swapStrikers 76 = .ok (.ifCond .le 20, 3) := by decide +kernel
theorem dX10_swapStrikers_79 : decode cX10_swapStrikers 79 = .ok (.aload_n 0, 1) := by decide +kernel
theorem dX10_swapStrikers_80 : decode cX10_swapStrikers 80 = .ok (.getfield 12, 3) := by decide +kernel
theorem dX10_swapStrikers_83 : decode cX10_swapStrikers 83 = .ok (.iload 7, 2) := by decide +kernel
theorem dX10_swapStrikers_85 : decode cX10_swapStrikers 85 = .ok (.invokevirtual 260, 3) := by decide +kernel
theorem dX10_swapStrikers_88 : decode cX10_swapStrikers 88 = .ok (.iload 8, 2) := by decide +kernel
theorem dX10_swapStrikers_90 : decode cX10_swapStrikers 90 = .ok (.if_icmp .eq 6, 3) := by decide +kernel
theorem dX10_swapStrikers_93 : decode cX10_swapStrikers 93 = .ok (.iinc 6 1, 3) := by decide +kernel
theorem dX10_swapStrikers_96 : decode cX10_swapStrikers 96 = .ok (.iinc 7 1, 3) := by decide +kernel
theorem dX10_swapStrikers_99 : decode cX10_swapStrikers 99 = .ok (.goto (-44), 3) := by decide +kernel
theorem dX10_swapStrikers_102 : decode cX10_swapStrikers 102 = .ok (.iload 6, 2) := by decide +kernel
theorem dX10_swapStrikers_104 : decode cX10_swapStrikers 104 = .ok (.ireturn, 1) := by decide +kernel
theorem dX10_addStriker_0 : decode cX10_addStriker 0 = .ok (.aload_n 0, 1) := by decide +kernel
theorem dX10_addStriker_1 : decode cX10_addStriker 1 = .ok (.getfield 12, 3) := by decide +kernel
theorem dX10_addStriker_4 : decode cX10_addStriker 4 = .ok (.iload_n 1, 1) := by decide +kernel
theorem dX10_addStriker_5 : decode cX10_addStriker 5 = .ok (.invokevirtual 201, 3) := by decide +kernel
theorem dX10_addStriker_8 : decode cX10_addStriker 8 = .ok (.iconst (-1), 1) := by decide +kernel
theorem dX10_addStriker_9 : decode cX10_addStriker 9 = .ok (.if_icmp .eq 6, 3) := by decide +kernel
theorem dX10_addStriker_12 : decode cX10_addStriker 12 = .ok (.bipush (-2), 2) := by decide +kernel
theorem dX10_addStriker_14 : decode cX10_addStriker 14 = .ok (.ireturn, 1) := by decide +kernel
theorem dX10_addStriker_15 : decode cX10_addStriker 15 = .ok (.aload_n 0, 1) := by decide +kernel
theorem dX10_addStriker_16 : decode cX10_addStriker 16 = .ok (.getfield 12, 3) := by decide +kernel
theorem dX10_addStriker_19 : decode cX10_addStriker 19 = .ok (.invokevirtual 125, 3) := by decide +kernel
theorem dX10_addStriker_22 : decode cX10_addStriker 22 = .ok (.bipush 30, 2) := by decide +kernel
theorem dX10_addStriker_24 : decode cX10_addStriker 24 = .ok (.if_icmp .lt 6, 3) := by decide +kernel
theorem dX10_addStriker_27 : decode cX10_addStriker 27 = .ok (.bipush (-3), 2) := by decide +kernel
theorem dX10_addStriker_29 : decode cX10_addStriker 29 = .ok (.ireturn, 1) := by decide +kernel
theorem dX10_addStriker_30 : decode cX10_addStriker 30 = .ok (.aload_n 0, 1) := by decide +kernel
theorem dX10_addStriker_31 : decode cX10_addStriker 31 = .ok (.invokevirtual 128, 3) := by decide +kernel
theorem dX10_addStriker_34 : decode cX10_addStriker 34 = .ok (.iload_n 1, 1) := by decide +kernel
theorem dX10_addStriker_35 : decode cX10_addStriker 35 = .ok (.invokevirtual 250, 3) := by decide +kernel
theorem dX10_addStriker_38 : decode cX10_addStriker 38 = .ok (.istore_n 2, 1) := by decide +kernel
theorem dX10_addStriker_39 : decode cX10_addStriker 39 = .ok (.aload_n 0, 1) := by decide +kernel
theorem dX10_addStriker_40 : decode cX10_addStriker 40 = .ok (.getfield 12, 3) := by decide +kernel
theorem dX10_addStriker_43 : decode cX10_addStriker 43 = .ok (.iload_n 1, 1) := by decide +kernel
theorem dX10_addStriker_44 : decode cX10_addStriker 44 = .ok (.invokevirtual 88, 3) := by decide +kernel
theorem dX10_addStriker_47 : decode cX10_addStriker 47 = .ok (.aload_n 0, 1) := by decide +kernel
theorem dX10_addStriker_48 : decode cX10_addStriker 48 = .ok (.getfield 73, 3) := by decide +kernel
theorem dX10_addStriker_51 : decode cX10_addStriker 51 = .ok (.iconst 4, 1) := by decide +kernel
theorem dX10_addStriker_52 : decode cX10_addStriker 52 = .ok (.dup2, 1) := by decide +kernel
theorem dX10_addStriker_53 : decode cX10_addStriker 53 = .ok (.iaload, 1) := by decide +kernel
theorem dX10_addStriker_54 : decode cX10_addStriker 54 = .ok (.iconst 1, 1) := by decide +kernel
theorem dX10_addStriker_55 : decode cX10_addStriker 55 = .ok (.iadd, 1) := by decide +kernel
theorem dX10_addStriker_56 : decode cX10_addStriker 56 = .ok (.iastore, 1) := by decide +kernel
theorem dX10_addStriker_57 : decode cX10_addStriker 57 = .ok (.iload_n 2, 1) := by decide +kernel
theorem dX10_addStriker_58 : decode cX10_addStriker 58 = .ok (.ireturn, 1) := by decide +kernel
theorem dX10_liftStriker_0 : decode cX10_liftStriker 0 = .ok (.aload_n 0, 1) := by decide +kernel
theorem dX10_liftStriker_1 : decode cX10_liftStriker 1 = .ok (.getfield 12, 3) := by decide +kernel
theorem dX10_liftStriker_4 : decode cX10_liftStriker 4 = .ok (.iload_n 1, 1) := by decide +kernel
theorem dX10_liftStriker_5 : decode cX10_liftStriker 5 = .ok (.invokevirtual 201, 3) := by decide +kernel
theorem dX10_liftStriker_8 : decode cX10_liftStriker 8 = .ok (.istore_n 2, 1) := by decide +kernel
theorem dX10_liftStriker_9 : decode cX10_liftStriker 9 = .ok (.iload_n 2, 1) := by decide +kernel
theorem dX10_liftStriker_10 : decode cX10_liftStriker 10 = .ok (.iconst (-1), 1) := by decide +kernel
theorem dX10_liftStriker_11 : decode cX10_liftStriker 11 = .ok (.if_icmp .ne 6, 3) := by decide +kernel
theorem dX10_liftStriker_14 : decode cX10_liftStriker 14 = .ok (.bipush (-2), 2) := by decide +kernel
theorem dX10_liftStriker_16 : decode cX10_liftStriker 16 = .ok (.ireturn, 1) := by decide +kernel
theorem dX10_liftStriker_17 : decode cX10_liftStriker 17 = .ok (.aload_n 0, 1) := by decide +kernel
theorem dX10_liftStriker_18 : decode cX10_liftStriker 18 = .ok (.aload_n 0, 1) := by decide +kernel
theorem dX10_liftStriker_19 : decode cX10_liftStriker 19 = .ok (.invokevirtual 128, 3) := by decide +kernel
theorem dX10_liftStriker_22 : decode cX10_liftStriker 22 = .ok (.iload_n 2, 1) := by decide +kernel
theorem dX10_liftStriker_23 : decode cX10_liftStriker 23 = .ok (.invokevirtual 253, 3) := by decide +kernel
theorem dX10_liftStriker_26 : decode cX10_liftStriker 26 = .ok (.istore_n 3, 1) := by decide +kernel
theorem dX10_liftStriker_27 : decode cX10_liftStriker 27 = .ok (.aload_n 0, 1) := by decide +kernel
theorem dX10_liftStriker_28 : decode cX10_liftStriker 28 = .ok (.getfield 12, 3) := by decide +kernel
theorem dX10_liftStriker_31 : decode cX10_liftStriker 31 = .ok (.iload_n 2, 1) := by decide +kernel
theorem dX10_liftStriker_32 : decode cX10_liftStriker 32 = .ok (.invokevirtual 412, 3) := by decide +kernel
theorem dX10_liftStriker_35 : decode cX10_liftStriker 35 = .ok (.iload_n 3, 1) := by decide +kernel
theorem dX10_liftStriker_36 : decode cX10_liftStriker 36 = .ok (.ireturn, 1) := by decide +kernel
theorem dX10_putFirst_0 : decode cX10_putFirst 0 = .ok (.aload_n 0, 1) := by decide +kernel
theorem dX10_putFirst_1 : decode cX10_putFirst 1 = .ok (.getfield 12, 3) := by decide +kernel
theorem dX10_putFirst_4 : decode cX10_putFirst 4 = .ok (.iload_n 1, 1) := by decide +kernel
theorem dX10_putFirst_5 : decode cX10_putFirst 5 = .ok (.invokevirtual 201, 3) := by decide +kernel
theorem dX10_putFirst_8 : decode cX10_putFirst 8 = .ok (.istore_n 2, 1) := by decide +kernel
theorem dX10_putFirst_9 : decode cX10_putFirst 9 = .ok (.iload_n 2, 1) := by decide +kernel
theorem dX10_putFirst_10 : decode cX10_putFirst 10 = .ok (.iconst (-1), 1) := by decide +kernel
theorem dX10_putFirst_11 : decode cX10_putFirst 11 = .ok (.if_icmp .ne 6, 3) := by decide +kernel
theorem dX10_putFirst_14 : decode cX10_putFirst 14 = .ok (.bipush (-2), 2) := by decide +kernel
theorem dX10_putFirst_16 : decode cX10_putFirst 16 = .ok (.ireturn, 1) := by decide +kernel
theorem dX10_putFirst_17 : decode cX10_putFirst 17 = .ok (.aload_n 0, 1) := by decide +kernel
theorem dX10_putFirst_18 : decode cX10_putFirst 18 = .ok (.getfield 12, 3) := by decide +kernel
theorem dX10_putFirst_21 : decode cX10_putFirst 21 = .ok (.iload_n 2, 1) := by decide +kernel
theorem dX10_putFirst_22 : decode cX10_putFirst 22 = .ok (.invokevirtual 415, 3) := by decide +kernel
theorem dX10_putFirst_25 : decode cX10_putFirst 25 = .ok (.iload_n 2, 1) := by decide +kernel
theorem dX10_putFirst_26 : decode cX10_putFirst 26 = .ok (.ireturn, 1) := by decide +kernel
theorem dX10_changeWheel_0 : decode cX10_changeWheel 0 = .ok (.aload_n 0, 1) := by decide +kernel
theorem dX10_changeWheel_1 : decode cX10_changeWheel 1 = .ok (.getfield 12, 3) := by decide +kernel
theorem dX10_changeWheel_4 : decode cX10_changeWheel 4 = .ok (.invokevirtual 119, 3) := by decide +kernel
theorem dX10_changeWheel_7 : decode cX10_changeWheel 7 = .ok (.istore_n 2, 1) := by decide +kernel
theorem dX10_changeWheel_8 : decode cX10_changeWheel 8 = .ok (.aload_n 0, 1) := by decide +kernel
theorem dX10_changeWheel_9 : decode cX10_changeWheel 9 = .ok (.getfield 12, 3) := by decide +kernel
theorem dX10_changeWheel_12 : decode cX10_changeWheel 12 = .ok (.iload_n 1, 1) := by decide +kernel
theorem dX10_changeWheel_13 : decode cX10_changeWheel 13 = .ok (.invokevirtual 418, 3) := by decide +kernel
theorem dX10_changeWheel_16 : decode cX10_changeWheel 16 = .ok (.iload_n 2, 1) := by decide +kernel
theorem dX10_changeWheel_17 : decode cX10_changeWheel 17 = .ok (.ireturn, 1) := by decide +kernel
theorem dX10_fillUp_0 : decode cX10_fillUp 0 = .ok (.iconst 0, 1) := by decide +kernel
theorem dX10_fillUp_1 : decode cX10_fillUp 1 = .ok (.istore_n 2, 1) := by decide +kernel
theorem dX10_fillUp_2 : decode cX10_fillUp 2 = .ok (.iconst 0, 1) := by decide +kernel
theorem dX10_fillUp_3 : decode cX10_fillUp 3 = .ok (.istore_n 3, 1) := by decide +kernel
theorem dX10_fillUp_4 : decode cX10_fillUp 4 = .ok (.iload_n 3, 1) := by decide +kernel
theorem dX10_fillUp_5 : decode cX10_fillUp 5 = .ok (.iload_n 1, 1) := by decide +kernel
theorem dX10_fillUp_6 : decode cX10_fillUp 6 = .ok (.if_icmp .ge 58, 3) := by decide +kernel
theorem dX10_fillUp_9 : decode cX10_fillUp 9 = .ok (.aload_n 0, 1) := by decide +kernel
theorem dX10_fillUp_10 : decode cX10_fillUp 10 = .ok (.getfield 12, 3) := by decide +kernel
theorem dX10_fillUp_13 : decode cX10_fillUp 13 = .ok (.invokevirtual 125, 3) := by decide +kernel
theorem dX10_fillUp_16 : decode cX10_fillUp 16 = .ok (.bipush 30, 2) := by decide +kernel
theorem dX10_fillUp_18 : decode cX10_fillUp 18 = .ok (.if_icmp .ge 46, 3) := by decide +kernel
theorem dX10_fillUp_21 : decode cX10_fillUp 21 = .ok (.aload_n 0, 1) := by decide +kernel
theorem dX10_fillUp_22 : decode cX10_fillUp 22 = .ok (.getfield 12, 3) := by decide +kernel
theorem dX10_fillUp_25 : decode cX10_fillUp 25 = .ok (.aload_n 0, 1) := by decide +kernel
theorem dX10_fillUp_26 : decode cX10_fillUp 26 = .ok (.getfield 12, 3) := by decide +kernel
theorem dX10_fillUp_29 : decode cX10_fillUp 29 = .ok (.invokevirtual 119, 3) := by decide +kernel
theorem dX10_fillUp_32 : decode cX10_fillUp 32 = .ok (.invokevirtual 244, 3) := by decide +kernel
theorem dX10_fillUp_35 : decode cX10_fillUp 35 = .ok (.istore 4, 2) := by decide +kernel
theorem dX10_fillUp_37 : decode cX10_fillUp 37 = .ok (.iload 4, 2) := by decide +kernel
theorem dX10_fillUp_39 : decode cX10_fillUp 39 = .ok (.iconst (-1), 1) := by decide +kernel
theorem dX10_fillUp_40 : decode cX10_fillUp 40 = .ok (.if_icmp .ne 6, 3) := by decide +kernel
theorem dX10_fillUp_43 : decode cX10_fillUp 43 = .ok (.goto 21, 3) := by decide +kernel
theorem dX10_fillUp_46 : decode cX10_fillUp 46 = .ok (.aload_n 0, 1) := by decide +kernel
theorem dX10_fillUp_47 : decode cX10_fillUp 47 = .ok (.getfield 12, 3) := by decide +kernel
theorem dX10_fillUp_50 : decode cX10_fillUp 50 = .ok (.iload 4, 2) := by decide +kernel
theorem dX10_fillUp_52 : decode cX10_fillUp 52 = .ok (.invokevirtual 88, 3) := by decide +kernel
theorem dX10_fillUp_55 : decode cX10_fillUp 55 = .ok (.iinc 2 1, 3) := by decide +kernel
theorem dX10_fillUp_58 : decode cX10_fillUp 58 = .ok (.iinc 3 1, 3) := by decide +kernel
theorem dX10_fillUp_61 : decode cX10_fillUp 61 = .ok (.goto (-57), 3) := by decide +kernel
theorem dX10_fillUp_64 : decode cX10_fillUp 64 = .ok (.aload_n 0, 1) := by decide +kernel
theorem dX10_fillUp_65 : decode cX10_fillUp 65 = .ok (.getfield 73, 3) := by decide +kernel
theorem dX10_fillUp_68 : decode cX10_fillUp 68 = .ok (.iconst 4, 1) := by decide +kernel
theorem dX10_fillUp_69 : decode cX10_fillUp 69 = .ok (.dup2, 1) := by decide +kernel
theorem dX10_fillUp_70 : decode cX10_fillUp 70 = .ok (.iaload, 1) := by decide +kernel
theorem dX10_fillUp_71 : decode cX10_fillUp 71 = .ok (.iload_n 2, 1) := by decide +kernel
theorem dX10_fillUp_72 : decode cX10_fillUp 72 = .ok (.iadd, 1) := by decide +kernel
theorem dX10_fillUp_73 : decode cX10_fillUp 73 = .ok (.iastore, 1) := by decide +kernel
theorem dX10_fillUp_74 : decode cX10_fillUp 74 = .ok (.iload_n 2, 1) := by decide +kernel
theorem dX10_fillUp_75 : decode cX10_fillUp 75 = .ok (.ireturn, 1) := by decide +kernel
theorem dX10_takeIdleAway_0 : decode cX10_takeIdleAway 0 = .ok (.aload_n 0, 1) := by decide +kernel
theorem dX10_takeIdleAway_1 : decode cX10_takeIdleAway 1 = .ok (.invokevirtual 128, 3) := by decide +kernel
theorem dX10_takeIdleAway_4 : decode cX10_takeIdleAway 4 = .ok (.astore_n 1, 1) := by decide +kernel
theorem dX10_takeIdleAway_5 : decode cX10_takeIdleAway 5 = .ok (.iconst 0, 1) := by decide +kernel
theorem dX10_takeIdleAway_6 : decode cX10_takeIdleAway 6 = .ok (.istore_n 2, 1) := by decide +kernel
theorem dX10_takeIdleAway_7 : decode cX10_takeIdleAway 7 = .ok (.aload_n 0, 1) := by decide +kernel
theorem dX10_takeIdleAway_8 : decode cX10_takeIdleAway 8 = .ok (.getfield 12, 3) := by decide +kernel
theorem dX10_takeIdleAway_11 : decode cX10_takeIdleAway 11 = .ok (.invokevirtual 125, 3) := by decide +kernel
theorem dX10_takeIdleAway_14 : decode cX10_takeIdleAway 14 = .ok (.iconst 1, 1) := by decide +kernel
theorem dX10_takeIdleAway_15 : decode cX10_takeIdleAway 15 = .ok (.isub, 1) := by decide +kernel
theorem dX10_takeIdleAway_16 : decode cX10_takeIdleAway 16 = .ok (.istore_n 3, 1) := by decide +kernel
theorem dX10_takeIdleAway_17 : decode cX10_takeIdleAway 17 = .ok (.iload_n 3, 1) := by decide +kernel
theorem dX10_takeIdleAway_18 : decode cX10_takeIdleAway 18 = .ok (.ifCond .lt 36, 3) := by decide +kernel
theorem dX10_takeIdleAway_21 : decode cX10_takeIdleAway 21 = .ok (.aload_n 1, 1) := by decide +kernel
theorem dX10_takeIdleAway_22 : decode cX10_takeIdleAway 22 = .ok (.aload_n 0, 1) := by decide +kernel
theorem dX10_takeIdleAway_23 : decode cX10_takeIdleAway 23 = .ok (.getfield 12, 3) := by decide +kernel
theorem dX10_takeIdleAway_26 : decode cX10_takeIdleAway 26 = .ok (.iload_n 3, 1) := by decide +kernel
theorem dX10_takeIdleAway_27 : decode cX10_takeIdleAway 27 = .ok (.invokevirtual 182, 3) := by decide +kernel
theorem dX10_takeIdleAway_30 : decode cX10_takeIdleAway 30 = .ok (.invokevirtual 198, 3) := by decide +kernel
theorem dX10_takeIdleAway_33 : decode cX10_takeIdleAway 33 = .ok (.iconst (-1), 1) := by decide +kernel
theorem dX10_takeIdleAway_34 : decode cX10_takeIdleAway 34 = .ok (.if_icmp .ne 14, 3) := by decide +kernel
theorem dX10_takeIdleAway_37 : decode cX10_takeIdleAway 37 = .ok (.aload_n 0, 1) := by decide +kernel
theorem dX10_takeIdleAway_38 : decode cX10_takeIdleAway 38 = .ok (.getfield 12, 3) := by decide +kernel
theorem dX10_takeIdleAway_41 : decode cX10_takeIdleAway 41 = .ok (.iload_n 3, 1) := by decide +kernel
theorem dX10_takeIdleAway_42 : decode cX10_takeIdleAway 42 = .ok (.invokevirtual 412, 3) := by decide +kernel
theorem dX10_takeIdleAway_45 : decode cX10_takeIdleAway 45 = .ok (.iinc 2 1, 3) := by decide +kernel
theorem dX10_takeIdleAway_48 : decode cX10_takeIdleAway 48 = .ok (.iinc 3 (-1), 3) := by decide +kernel
theorem dX10_takeIdleAway_51 : decode cX10_takeIdleAway 51 = .ok (.goto (-34), 3) := by decide +kernel
theorem dX10_takeIdleAway_54 : decode cX10_takeIdleAway 54 = .ok (.iload_n 2, 1) := by decide +kernel
theorem dX10_takeIdleAway_55 : decode cX10_takeIdleAway 55 = .ok (.ireturn, 1) := by decide +kernel
theorem dX10_closeReading_0 : decode cX10_closeReading 0 = .ok (.aload_n 0, 1) := by decide +kernel
theorem dX10_closeReading_1 : decode cX10_closeReading 1 = .ok (.getfield 46, 3) := by decide +kernel
theorem dX10_closeReading_4 : decode cX10_closeReading 4 = .ok (.invokevirtual 421, 3) := by decide +kernel
theorem dX10_closeReading_7 : decode cX10_closeReading 7 = .ok (.aload_n 0, 1) := by decide +kernel
theorem dX10_closeReading_8 : decode cX10_closeReading 8 = .ok (.aload_n 0, 1) := by decide +kernel
theorem dX10_closeReading_9 : decode cX10_closeReading 9 = .ok (.getfield 55, 3) := by decide +kernel
theorem dX10_closeReading_12 : decode cX10_closeReading 12 = .ok (.invokevirtual 424, 3) := by decide +kernel
theorem dX10_closeReading_15 : decode cX10_closeReading 15 = .ok (.putfield 77, 3) := by decide +kernel
theorem dX10_closeReading_18 : decode cX10_closeReading 18 = .ok (.return_, 1) := by decide +kernel
theorem dJ5_init_a7421_0 : decode cJ5_init_a7421 0 = .ok (.aload_n 0, 1) := by decide +kernel
theorem dJ5_init_a7421_1 : decode cJ5_init_a7421 1 = .ok (.invokespecial 3, 3) := by decide +kernel
theorem dJ5_init_a7421_4 : decode cJ5_init_a7421 4 = .ok (.aload_n 1, 1) := by decide +kernel
theorem dJ5_init_a7421_5 : decode cJ5_init_a7421 5 = .ok (.invokevirtual 32, 3) := by decide +kernel
theorem dJ5_init_a7421_8 : decode cJ5_init_a7421 8 = .ok (.istore_n 2, 1) := by decide +kernel
theorem dJ5_init_a7421_9 : decode cJ5_init_a7421 9 = .ok (.iload_n 2, 1) := by decide +kernel
theorem dJ5_init_a7421_10 : decode cJ5_init_a7421 10 = .ok (.ldc 38, 2) := by decide +kernel
theorem dJ5_init_a7421_12 : decode cJ5_init_a7421 12 = .ok (.if_icmp .ge 10, 3) := by decide +kernel
theorem dJ5_init_a7421_15 : decode cJ5_init_a7421 15 = .ok (.iload_n 2, 1) := by decide +kernel
theorem dJ5_init_a7421_16 : decode cJ5_init_a7421 16 = .ok (.bipush 16, 2) := by decide +kernel
theorem dJ5_init_a7421_18 : decode cJ5_init_a7421 18 = .ok (.iadd, 1) := by decide +kernel
theorem dJ5_init_a7421_19 : decode cJ5_init_a7421 19 = .ok (.goto 5, 3) := by decide +kernel
theorem dJ5_init_a7421_22 : decode cJ5_init_a7421 22 = .ok (.ldc 39, 2) := by decide +kernel
theorem dJ5_init_a7421_24 : decode cJ5_init_a7421 24 = .ok (.istore_n 3, 1) := by decide +kernel
theorem dJ5_init_a7421_25 : decode cJ5_init_a7421 25 = .ok (.aload_n 1, 1) := by decide +kernel
theorem dJ5_init_a7421_26 : decode cJ5_init_a7421 26 = .ok (.invokevirtual 40, 3) := by decide +kernel
theorem dJ5_init_a7421_29 : decode cJ5_init_a7421 29 = .ok (.istore 4, 2) := by decide +kernel
theorem dJ5_init_a7421_31 : decode cJ5_init_a7421 31 = .ok (.aload_n 0, 1) := by decide +kernel
theorem dJ5_init_a7421_32 : decode cJ5_init_a7421 32 = .ok (.iload 4, 2) := by decide +kernel
theorem dJ5_init_a7421_34 : decode cJ5_init_a7421 34 = .ok (.putfield 22, 3) := by decide +kernel
theorem dJ5_init_a7421_37 : decode cJ5_init_a7421 37 = .ok (.aload_n 0, 1) := by decide +kernel
theorem dJ5_init_a7421_38 : decode cJ5_init_a7421 38 = .ok (.iload 4, 2) := by decide +kernel
theorem dJ5_init_a7421_40 : decode cJ5_init_a7421 40 = .ok (.ifCond .ne 9, 3) := by decide +kernel
theorem dJ5_init_a7421_43 : decode cJ5_init_a7421 43 = .ok (.iload_n 3, 1) := by decide +kernel
theorem dJ5_init_a7421_44 : decode cJ5_init_a7421 44 = .ok (.newarray .byte, 2) := by decide +kernel
theorem dJ5_init_a7421_46 : decode cJ5_init_a7421 46 = .ok (.goto 7, 3) := by decide +kernel
theorem dJ5_init_a7421_49 : decode cJ5_init_a7421 49 = .ok (.iload_n 3, 1) := by decide +kernel
theorem dJ5_init_a7421_50 : decode cJ5_init_a7421 50 = .ok (.invokestatic 26, 3) := by decide +kernel
theorem dJ5_init_a7421_53 : decode cJ5_init_a7421 53 = .ok (.putfield 15, 3) := by decide +kernel
theorem dJ5_init_a7421_56 : decode cJ5_init_a7421 56 = .ok (.aload_n 0, 1) := by decide +kernel
theorem dJ5_init_a7421_57 : decode cJ5_init_a7421 57 = .ok (.aload_n 1, 1) := by decide +kernel
theorem dJ5_init_a7421_58 : decode cJ5_init_a7421 58 = .ok (.invokevirtual 43, 3) := by decide +kernel
theorem dJ5_init_a7421_61 : decode cJ5_init_a7421 61 = .ok (.pop, 1) := by decide +kernel
theorem dJ5_init_a7421_62 : decode cJ5_init_a7421 62 = .ok (.return_, 1) := by decide +kernel
theorem dJ5_length_8abf5_0 : decode cJ5_length_8abf5 0 = .ok (.aload_n 0, 1) := by decide +kernel
theorem dJ5_length_8abf5_1 : decode cJ5_length_8abf5 1 = .ok (.getfield 79, 3) := by decide +kernel
theorem dJ5_length_8abf5_4 : decode cJ5_length_8abf5 4 = .ok (.ireturn, 1) := by decide +kernel
theorem dJ5_ensureCapacityInternal_d00df_0 : decode cJ5_ensureCapacityInternal_d00df 0 = .ok (.aload_n 0, 1) := by decide +kernel
theorem dJ5_ensureCapacityInternal_d00df_1 : decode cJ5_ensureCapacityInternal_d00df 1 = .ok (.getfield 15, 3) := by decide +kernel
theorem dJ5_ensureCapacityInternal_d00df_4 : decode cJ5_ensureCapacityInternal_d00df 4 = .ok (.arraylength, 1) := by decide +kernel
theorem dJ5_ensureCapacityInternal_d00df_5 : decode cJ5_ensureCapacityInternal_d00df 5 = .ok (.aload_n 0, 1) := by decide +kernel
theorem dJ5_ensureCapacityInternal_d00df_6 : decode cJ5_ensureCapacityInternal_d00df 6 = .ok (.getfield 22, 3) := by decide +kernel
theorem dJ5_ensureCapacityInternal_d00df_9 : decode cJ5_ensureCapacityInternal_d00df 9 = .ok (.ishr, 1) := by decide +kernel
theorem dJ5_ensureCapacityInternal_d00df_10 : decode cJ5_ensureCapacityInternal_d00df 10 = .ok (.istore_n 2, 1) := by decide +kernel
theorem dJ5_ensureCapacityInternal_d00df_11 : decode cJ5_ensureCapacityInternal_d00df 11 = .ok (.iload_n 1, 1) := by decide +kernel
theorem dJ5_ensureCapacityInternal_d00df_12 : decode cJ5_ensureCapacityInternal_d00df 12 = .ok (.iload_n 2, 1) := by decide +kernel
theorem dJ5_ensureCapacityInternal_d00df_13 : decode cJ5_ensureCapacityInternal_d00df 13 = .ok (.isub, 1) := by decide +kernel
theorem dJ5_ensureCapacityInternal_d00df_14 : decode cJ5_ensureCapacityInternal_d00df 14 = .ok (.ifCond .le 24, 3) := by decide +kernel
theorem dJ5_ensureCapacityInternal_d00df_17 : decode cJ5_ensureCapacityInternal_d00df 17 = .ok (.aload_n 0, 1) := by decide +kernel
theorem dJ5_ensureCapacityInternal_d00df_18 : decode cJ5_ensureCapacityInternal_d00df 18 = .ok (.aload_n 0, 1) := by decide +kernel
theorem dJ5_ensureCapacityInternal_d00df_19 : decode cJ5_ensureCapacityInternal_d00df 19 = .ok (.getfield 15, 3) := by decide +kernel
theorem dJ5_ensureCapacityInternal_d00df_22 : decode cJ5_ensureCapacityInternal_d00df 22 = .ok (.aload_n 0, 1) := by decide +kernel
theorem dJ5_ensureCapacityInternal_d00df_23 : decode cJ5_ensureCapacityInternal_d00df 23 = .ok (.iload_n 1, 1) := by decide +kernel
theorem dJ5_ensureCapacityInternal_d00df_24 : decode cJ5_ensureCapacityInternal_d00df 24 = .ok (.invokevirtual 104, 3) := by decide +kernel
theorem dJ5_ensureCapacityInternal_d00df_27 : decode cJ5_ensureCapacityInternal_d00df 27 = .ok (.aload_n 0, 1) := by decide +kernel
theorem dJ5_ensureCapacityInternal_d00df_28 : decode cJ5_ensureCapacityInternal_d00df 28 = .ok (.getfield 22, 3) := by decide +kernel
theorem dJ5_ensureCapacityInternal_d00df_31 : decode cJ5_ensureCapacityInternal_d00df 31 = .ok (.ishl, 1) := by decide +kernel
theorem dJ5_ensureCapacityInternal_d00df_32 : decode cJ5_ensureCapacityInternal_d00df 32 = .ok (.invokestatic 108, 3) := by decide +kernel
theorem dJ5_ensureCapacityInternal_d00df_35 : decode cJ5_ensureCapacityInternal_d00df 35 = .ok (.putfield 15, 3) := by decide +kernel
theorem dJ5_ensureCapacityInternal_d00df_38 : decode cJ5_ensureCapacityInternal_d00df 38 = .ok (.return_, 1) := by decide +kernel
theorem dJ5_newCapacity_0f7a4_0 : decode cJ5_newCapacity_0f7a4 0 = .ok (.aload_n 0, 1) := by decide +kernel
theorem dJ5_newCapacity_0f7a4_1 : decode cJ5_newCapacity_0f7a4 1 = .ok (.getfield 15, 3) := by decide +kernel
theorem dJ5_newCapacity_0f7a4_4 : decode cJ5_newCapacity_0f7a4 4 = .ok (.arraylength, 1) := by decide +kernel
theorem dJ5_newCapacity_0f7a4_5 : decode cJ5_newCapacity_0f7a4 5 = .ok (.istore_n 2, 1) := by decide +kernel
theorem dJ5_newCapacity_0f7a4_6 : decode cJ5_newCapacity_0f7a4 6 = .ok (.iload_n 1, 1) := by decide +kernel
theorem dJ5_newCapacity_0f7a4_7 : decode cJ5_newCapacity_0f7a4 7 = .ok (.aload_n 0, 1) := by decide +kernel
theorem dJ5_newCapacity_0f7a4_8 : decode cJ5_newCapacity_0f7a4 8 = .ok (.getfield 22, 3) := by decide +kernel
theorem dJ5_newCapacity_0f7a4_11 : decode cJ5_newCapacity_0f7a4 11 = .ok (.ishl, 1) := by decide +kernel
theorem dJ5_newCapacity_0f7a4_12 : decode cJ5_newCapacity_0f7a4 12 = .ok (.istore_n 3, 1) := by decide +kernel
theorem dJ5_newCapacity_0f7a4_13 : decode cJ5_newCapacity_0f7a4 13 = .ok (.iload_n 3, 1) := by decide +kernel
theorem dJ5_newCapacity_0f7a4_14 : decode cJ5_newCapacity_0f7a4 14 = .ok (.iload_n 2, 1) := by decide +kernel
theorem dJ5_newCapacity_0f7a4_15 : decode cJ5_newCapacity_0f7a4 15 = .ok (.isub, 1) := by decide +kernel
theorem dJ5_newCapacity_0f7a4_16 : decode cJ5_newCapacity_0f7a4 16 = .ok (.istore 4, 2) := by decide +kernel
theorem dJ5_newCapacity_0f7a4_18 : decode cJ5_newCapacity_0f7a4 18 = .ok (.iload_n 2, 1) := by decide +kernel
theorem dJ5_newCapacity_0f7a4_19 : decode cJ5_newCapacity_0f7a4 19 = .ok (.iload 4, 2) := by decide +kernel
theorem dJ5_newCapacity_0f7a4_21 : decode cJ5_newCapacity_0f7a4 21 = .ok (.iload_n 2, 1) := by decide +kernel
theorem dJ5_newCapacity_0f7a4_22 : decode cJ5_newCapacity_0f7a4 22 = .ok (.iconst 2, 1) := by decide +kernel
theorem dJ5_newCapacity_0f7a4_23 : decode cJ5_newCapacity_0f7a4 23 = .ok (.aload_n 0, 1) := by decide +kernel
theorem dJ5_newCapacity_0f7a4_24 : decode cJ5_newCapacity_0f7a4 24 = .ok (.getfield 22, 3) := by decide +kernel
theorem dJ5_newCapacity_0f7a4_27 : decode cJ5_newCapacity_0f7a4 27 = .ok (.ishl, 1) := by decide +kernel
theorem dJ5_newCapacity_0f7a4_28 : decode cJ5_newCapacity_0f7a4 28 = .ok (.iadd, 1) := by decide +kernel
theorem dJ5_newCapacity_0f7a4_29 : decode cJ5_newCapacity_0f7a4 29 = .ok (.invokestatic 114, 3) := by decide +kernel
theorem dJ5_newCapacity_0f7a4_32 : decode cJ5_newCapacity_0f7a4 32 = .ok (.istore 5, 2) := by decide +kernel
theorem dJ5_newCapacity_0f7a4_34 : decode cJ5_newCapacity_0f7a4 34 = .ok (.iload 5, 2) := by decide +kernel
theorem dJ5_newCapacity_0f7a4_36 : decode cJ5_newCapacity_0f7a4 36 = .ok (.ldc 39, 2) := by decide +kernel
theorem dJ5_newCapacity_0f7a4_38 : decode cJ5_newCapacity_0f7a4 38 = .ok (.if_icmp .ne 13, 3) := by decide +kernel
theorem dJ5_newCapacity_0f7a4_41 : decode cJ5_newCapacity_0f7a4 41 = .ok (.new 120, 3) := by decide +kernel
theorem dJ5_newCapacity_0f7a4_44 : decode cJ5_newCapacity_0f7a4 44 = .ok (.dup, 1) := by decide +kernel
theorem dJ5_newCapacity_0f7a4_45 : decode cJ5_newCapacity_0f7a4 45 = .ok (.ldc 122, 2) := by decide +kernel
theorem dJ5_newCapacity_0f7a4_47 : decode cJ5_newCapacity_0f7a4 47 = .ok (.invokespecial 124, 3) := by decide +kernel
theorem dJ5_newCapacity_0f7a4_50 : decode cJ5_newCapacity_0f7a4 50 = .ok (.athrow, 1) := by decide +kernel
theorem dJ5_newCapacity_0f7a4_51 : decode cJ5_newCapacity_0f7a4 51 = .ok (.iload 5, 2) := by decide +kernel
theorem dJ5_newCapacity_0f7a4_53 : decode cJ5_newCapacity_0f7a4 53 = .ok (.aload_n 0, 1) := by decide +kernel
theorem dJ5_newCapacity_0f7a4_54 : decode cJ5_newCapacity_0f7a4 54 = .ok (.getfield 22, 3) := by decide +kernel
theorem dJ5_newCapacity_0f7a4_57 : decode cJ5_newCapacity_0f7a4 57 = .ok (.ishr, 1) := by decide +kernel
theorem dJ5_newCapacity_0f7a4_58 : decode cJ5_newCapacity_0f7a4 58 = .ok (.ireturn, 1) := by decide +kernel
theorem dJ5_inflate_da8c8_0 : decode cJ5_inflate_da8c8 0 = .ok (.aload_n 0, 1) := by decide +kernel
theorem dJ5_inflate_da8c8_1 : decode cJ5_inflate_da8c8 1 = .ok (.invokevirtual 83, 3) := by decide +kernel
theorem dJ5_inflate_da8c8_4 : decode cJ5_inflate_da8c8 4 = .ok (.ifCond .ne 4, 3) := by decide +kernel
theorem dJ5_inflate_da8c8_7 : decode cJ5_inflate_da8c8 7 = .ok (.return_, 1) := by decide +kernel
theorem dJ5_inflate_da8c8_8 : decode cJ5_inflate_da8c8 8 = .ok (.aload_n 0, 1) := by decide +kernel
theorem dJ5_inflate_da8c8_9 : decode cJ5_inflate_da8c8 9 = .ok (.getfield 15, 3) := by decide +kernel
theorem dJ5_inflate_da8c8_12 : decode cJ5_inflate_da8c8 12 = .ok (.arraylength, 1) := by decide +kernel
theorem dJ5_inflate_da8c8_13 : decode cJ5_inflate_da8c8 13 = .ok (.invokestatic 26, 3) := by decide +kernel
theorem dJ5_inflate_da8c8_16 : decode cJ5_inflate_da8c8 16 = .ok (.astore_n 1, 1) := by decide +kernel
theorem dJ5_inflate_da8c8_17 : decode cJ5_inflate_da8c8 17 = .ok (.aload_n 0, 1) := by decide +kernel
theorem dJ5_inflate_da8c8_18 : decode cJ5_inflate_da8c8 18 = .ok (.getfield 15, 3) := by decide +kernel
theorem dJ5_inflate_da8c8_21 : decode cJ5_inflate_da8c8 21 = .ok (.iconst 0, 1) := by decide +kernel
theorem dJ5_inflate_da8c8_22 : decode cJ5_inflate_da8c8 22 = .ok (.aload_n 1, 1) := by decide +kernel
theorem dJ5_inflate_da8c8_23 : decode cJ5_inflate_da8c8 23 = .ok (.iconst 0, 1) := by decide +kernel
theorem dJ5_inflate_da8c8_24 : decode cJ5_inflate_da8c8 24 = .ok (.aload_n 0, 1) := by decide +kernel
theorem dJ5_inflate_da8c8_25 : decode cJ5_inflate_da8c8 25 = .ok (.getfield 79, 3) := by decide +kernel
theorem dJ5_inflate_da8c8_28 : decode cJ5_inflate_da8c8 28 = .ok (.invokestatic 125, 3) := by decide +kernel
