theorem dX11_record_64 : decode cX11_record 64 = .ok (.aload_n 0, 1) := by decide +kernel
theorem dX11_record_65 : decode cX11_record 65 = .ok (.dup, 1) := by decide +kernel
theorem dX11_record_66 : decode cX11_record 66 = .ok (.getfield 245, 3) := by decide +kernel
theorem dX11_record_69 : decode cX11_record 69 = .ok (.iconst 1, 1) := by decide +kernel
theorem dX11_record_70 : decode cX11_record 70 = .ok (.iadd, 1) := by decide +kernel
theorem dX11_record_71 : decode cX11_record 71 = .ok (.putfield 245, 3) := by decide +kernel
theorem dX11_record_74 : decode cX11_record 74 = .ok (.return_, 1) := by decide +kernel
theorem dX11_recorded_0 : decode cX11_recorded 0 = .ok (.iload_n 1, 1) := by decide +kernel
theorem dX11_recorded_1 : decode cX11_recorded 1 = .ok (.ifCond .lt 7, 3) := by decide +kernel
theorem dX11_recorded_4 : decode cX11_recorded 4 = .ok (.aload_n 0, 1) := by decide +kernel
theorem dX11_recorded_5 : decode cX11_recorded 5 = .ok (.invokevirtual 248, 3) := by decide +kernel
theorem dX11_recorded_8 : decode cX11_recorded 8 = .ok (.iload_n 1, 1) := by decide +kernel
theorem dX11_recorded_9 : decode cX11_recorded 9 = .ok (.ireturn, 1) := by decide +kernel
theorem dX11_lay_0 : decode cX11_lay 0 = .ok (.aload_n 0, 1) := by decide +kernel
theorem dX11_lay_1 : decode cX11_lay 1 = .ok (.iload_n 1, 1) := by decide +kernel
theorem dX11_lay_2 : decode cX11_lay 2 = .ok (.invokestatic 217, 3) := by decide +kernel
theorem dX11_lay_5 : decode cX11_lay 5 = .ok (.invokevirtual 125, 3) := by decide +kernel
theorem dX11_lay_8 : decode cX11_lay 8 = .ok (.ifCond .eq 5, 3) := by decide +kernel
theorem dX11_lay_11 : decode cX11_lay 11 = .ok (.iconst 0, 1) := by decide +kernel
theorem dX11_lay_12 : decode cX11_lay 12 = .ok (.ireturn, 1) := by decide +kernel
theorem dX11_lay_13 : decode cX11_lay 13 = .ok (.aload_n 0, 1) := by decide +kernel
theorem dX11_lay_14 : decode cX11_lay 14 = .ok (.invokevirtual 251, 3) := by decide +kernel
theorem dX11_lay_17 : decode cX11_lay 17 = .ok (.aload_n 0, 1) := by decide +kernel
theorem dX11_lay_18 : decode cX11_lay 18 = .ok (.aload_n 0, 1) := by decide +kernel
theorem dX11_lay_19 : decode cX11_lay 19 = .ok (.iload_n 1, 1) := by decide +kernel
theorem dX11_lay_20 : decode cX11_lay 20 = .ok (.invokevirtual 254, 3) := by decide +kernel
theorem dX11_lay_23 : decode cX11_lay 23 = .ok (.invokevirtual 257, 3) := by decide +kernel
theorem dX11_lay_26 : decode cX11_lay 26 = .ok (.ireturn, 1) := by decide +kernel
theorem dX11_drop_0 : decode cX11_drop 0 = .ok (.aload_n 0, 1) := by decide +kernel
theorem dX11_drop_1 : decode cX11_drop 1 = .ok (.iconst 0, 1) := by decide +kernel
theorem dX11_drop_2 : decode cX11_drop 2 = .ok (.putfield 78, 3) := by decide +kernel
theorem dX11_drop_5 : decode cX11_drop 5 = .ok (.aload_n 0, 1) := by decide +kernel
theorem dX11_drop_6 : decode cX11_drop 6 = .ok (.invokevirtual 251, 3) := by decide +kernel
theorem dX11_drop_9 : decode cX11_drop 9 = .ok (.aload_n 0, 1) := by decide +kernel
theorem dX11_drop_10 : decode cX11_drop 10 = .ok (.aload_n 0, 1) := by decide +kernel
theorem dX11_drop_11 : decode cX11_drop 11 = .ok (.invokevirtual 260, 3) := by decide +kernel
theorem dX11_drop_14 : decode cX11_drop 14 = .ok (.invokevirtual 257, 3) := by decide +kernel
theorem dX11_drop_17 : decode cX11_drop 17 = .ok (.ireturn, 1) := by decide +kernel
theorem dX11_add_0 : decode cX11_add 0 = .ok (.aload_n 0, 1) := by decide +kernel
theorem dX11_add_1 : decode cX11_add 1 = .ok (.iload_n 1, 1) := by decide +kernel
theorem dX11_add_2 : decode cX11_add 2 = .ok (.invokestatic 208, 3) := by decide +kernel
theorem dX11_add_5 : decode cX11_add 5 = .ok (.invokevirtual 125, 3) := by decide +kernel
theorem dX11_add_8 : decode cX11_add 8 = .ok (.ifCond .eq 5, 3) := by decide +kernel
theorem dX11_add_11 : decode cX11_add 11 = .ok (.iconst 0, 1) := by decide +kernel
theorem dX11_add_12 : decode cX11_add 12 = .ok (.ireturn, 1) := by decide +kernel
theorem dX11_add_13 : decode cX11_add 13 = .ok (.aload_n 0, 1) := by decide +kernel
theorem dX11_add_14 : decode cX11_add 14 = .ok (.invokevirtual 251, 3) := by decide +kernel
theorem dX11_add_17 : decode cX11_add 17 = .ok (.aload_n 0, 1) := by decide +kernel
theorem dX11_add_18 : decode cX11_add 18 = .ok (.aload_n 0, 1) := by decide +kernel
theorem dX11_add_19 : decode cX11_add 19 = .ok (.iload_n 1, 1) := by decide +kernel
theorem dX11_add_20 : decode cX11_add 20 = .ok (.invokevirtual 263, 3) := by decide +kernel
theorem dX11_add_23 : decode cX11_add 23 = .ok (.invokevirtual 257, 3) := by decide +kernel
theorem dX11_add_26 : decode cX11_add 26 = .ok (.ireturn, 1) := by decide +kernel
theorem dX11_lift_0 : decode cX11_lift 0 = .ok (.aload_n 0, 1) := by decide +kernel
theorem dX11_lift_1 : decode cX11_lift 1 = .ok (.iload_n 1, 1) := by decide +kernel
theorem dX11_lift_2 : decode cX11_lift 2 = .ok (.invokestatic 208, 3) := by decide +kernel
theorem dX11_lift_5 : decode cX11_lift 5 = .ok (.invokevirtual 125, 3) := by decide +kernel
theorem dX11_lift_8 : decode cX11_lift 8 = .ok (.ifCond .eq 5, 3) := by decide +kernel
theorem dX11_lift_11 : decode cX11_lift 11 = .ok (.iconst 0, 1) := by decide +kernel
theorem dX11_lift_12 : decode cX11_lift 12 = .ok (.ireturn, 1) := by decide +kernel
theorem dX11_lift_13 : decode cX11_lift 13 = .ok (.aload_n 0, 1) := by decide +kernel
theorem dX11_lift_14 : decode cX11_lift 14 = .ok (.invokevirtual 251, 3) := by decide +kernel
theorem dX11_lift_17 : decode cX11_lift 17 = .ok (.aload_n 0, 1) := by decide +kernel
theorem dX11_lift_18 : decode cX11_lift 18 = .ok (.aload_n 0, 1) := by decide +kernel
theorem dX11_lift_19 : decode cX11_lift 19 = .ok (.iload_n 1, 1) := by decide +kernel
theorem dX11_lift_20 : decode cX11_lift 20 = .ok (.invokevirtual 266, 3) := by decide +kernel
theorem dX11_lift_23 : decode cX11_lift 23 = .ok (.invokevirtual 257, 3) := by decide +kernel
theorem dX11_lift_26 : decode cX11_lift 26 = .ok (.ireturn, 1) := by decide +kernel
theorem dX11_first_0 : decode cX11_first 0 = .ok (.aload_n 0, 1) := by decide +kernel
theorem dX11_first_1 : decode cX11_first 1 = .ok (.iload_n 1, 1) := by decide +kernel
theorem dX11_first_2 : decode cX11_first 2 = .ok (.invokestatic 208, 3) := by decide +kernel
theorem dX11_first_5 : decode cX11_first 5 = .ok (.invokevirtual 125, 3) := by decide +kernel
theorem dX11_first_8 : decode cX11_first 8 = .ok (.ifCond .eq 5, 3) := by decide +kernel
theorem dX11_first_11 : decode cX11_first 11 = .ok (.iconst 0, 1) := by decide +kernel
theorem dX11_first_12 : decode cX11_first 12 = .ok (.ireturn, 1) := by decide +kernel
theorem dX11_first_13 : decode cX11_first 13 = .ok (.aload_n 0, 1) := by decide +kernel
theorem dX11_first_14 : decode cX11_first 14 = .ok (.invokevirtual 251, 3) := by decide +kernel
theorem dX11_first_17 : decode cX11_first 17 = .ok (.aload_n 0, 1) := by decide +kernel
theorem dX11_first_18 : decode cX11_first 18 = .ok (.aload_n 0, 1) := by decide +kernel
theorem dX11_first_19 : decode cX11_first 19 = .ok (.iload_n 1, 1) := by decide +kernel
theorem dX11_first_20 : decode cX11_first 20 = .ok (.invokevirtual 269, 3) := by decide +kernel
theorem dX11_first_23 : decode cX11_first 23 = .ok (.invokevirtual 257, 3) := by decide +kernel
theorem dX11_first_26 : decode cX11_first 26 = .ok (.ireturn, 1) := by decide +kernel
theorem dX11_trim_0 : decode cX11_trim 0 = .ok (.aload_n 0, 1) := by decide +kernel
theorem dX11_trim_1 : decode cX11_trim 1 = .ok (.iload_n 1, 1) := by decide +kernel
theorem dX11_trim_2 : decode cX11_trim 2 = .ok (.iconst 1, 1) := by decide +kernel
theorem dX11_trim_3 : decode cX11_trim 3 = .ok (.sipush 399, 3) := by decide +kernel
theorem dX11_trim_6 : decode cX11_trim 6 = .ok (.invokestatic 81, 3) := by decide +kernel
theorem dX11_trim_9 : decode cX11_trim 9 = .ok (.invokevirtual 125, 3) := by decide +kernel
theorem dX11_trim_12 : decode cX11_trim 12 = .ok (.ifCond .eq 5, 3) := by decide +kernel
theorem dX11_trim_15 : decode cX11_trim 15 = .ok (.iconst 0, 1) := by decide +kernel
theorem dX11_trim_16 : decode cX11_trim 16 = .ok (.ireturn, 1) := by decide +kernel
theorem dX11_trim_17 : decode cX11_trim 17 = .ok (.aload_n 0, 1) := by decide +kernel
theorem dX11_trim_18 : decode cX11_trim 18 = .ok (.invokevirtual 251, 3) := by decide +kernel
theorem dX11_trim_21 : decode cX11_trim 21 = .ok (.aload_n 0, 1) := by decide +kernel
theorem dX11_trim_22 : decode cX11_trim 22 = .ok (.aload_n 0, 1) := by decide +kernel
theorem dX11_trim_23 : decode cX11_trim 23 = .ok (.iload_n 1, 1) := by decide +kernel
theorem dX11_trim_24 : decode cX11_trim 24 = .ok (.invokevirtual 272, 3) := by decide +kernel
theorem dX11_trim_27 : decode cX11_trim 27 = .ok (.invokevirtual 257, 3) := by decide +kernel
theorem dX11_trim_30 : decode cX11_trim 30 = .ok (.ireturn, 1) := by decide +kernel
theorem dX11_swap_0 : decode cX11_swap 0 = .ok (.aload_n 0, 1) := by decide +kernel
theorem dX11_swap_1 : decode cX11_swap 1 = .ok (.iload_n 1, 1) := by decide +kernel
theorem dX11_swap_2 : decode cX11_swap 2 = .ok (.invokestatic 208, 3) := by decide +kernel
theorem dX11_swap_5 : decode cX11_swap 5 = .ok (.ifCond .eq 14, 3) := by decide +kernel
theorem dX11_swap_8 : decode cX11_swap 8 = .ok (.iload_n 2, 1) := by decide +kernel
theorem dX11_swap_9 : decode cX11_swap 9 = .ok (.invokestatic 208, 3) := by decide +kernel
theorem dX11_swap_12 : decode cX11_swap 12 = .ok (.ifCond .eq 7, 3) := by decide +kernel
theorem dX11_swap_15 : decode cX11_swap 15 = .ok (.iconst 1, 1) := by decide +kernel
theorem dX11_swap_16 : decode cX11_swap 16 = .ok (.goto 4, 3) := by decide +kernel
theorem dX11_swap_19 : decode cX11_swap 19 = .ok (.iconst 0, 1) := by decide +kernel
theorem dX11_swap_20 : decode cX11_swap 20 = .ok (.invokevirtual 125, 3) := by decide +kernel
theorem dX11_swap_23 : decode cX11_swap 23 = .ok (.ifCond .eq 5, 3) := by decide +kernel
theorem dX11_swap_26 : decode cX11_swap 26 = .ok (.iconst 0, 1) := by decide +kernel
theorem dX11_swap_27 : decode cX11_swap 27 = .ok (.ireturn, 1) := by decide +kernel
theorem dX11_swap_28 : decode cX11_swap 28 = .ok (.aload_n 0, 1) := by decide +kernel
theorem dX11_swap_29 : decode cX11_swap 29 = .ok (.invokevirtual 251, 3) := by decide +kernel
theorem dX11_swap_32 : decode cX11_swap 32 = .ok (.aload_n 0, 1) := by decide +kernel
theorem dX11_swap_33 : decode cX11_swap 33 = .ok (.aload_n 0, 1) := by decide +kernel
theorem dX11_swap_34 : decode cX11_swap 34 = .ok (.iload_n 1, 1) := by decide +kernel
theorem dX11_swap_35 : decode cX11_swap 35 = .ok (.iload_n 2, 1) := by decide +kernel
theorem dX11_swap_36 : decode cX11_swap 36 = .ok (.invokevirtual 275, 3) := by decide +kernel
theorem dX11_swap_39 : decode cX11_swap 39 = .ok (.invokevirtual 257, 3) := by decide +kernel
theorem dX11_swap_42 : decode cX11_swap 42 = .ok (.ireturn, 1) := by decide +kernel
theorem dX11_wheel_0 : decode cX11_wheel 0 = .ok (.aload_n 0, 1) := by decide +kernel
theorem dX11_wheel_1 : decode cX11_wheel 1 = .ok (.iload_n 1, 1) := by decide +kernel
theorem dX11_wheel_2 : decode cX11_wheel 2 = .ok (.iconst 0, 1) := by decide +kernel
theorem dX11_wheel_3 : decode cX11_wheel 3 = .ok (.iconst 4, 1) := by decide +kernel
theorem dX11_wheel_4 : decode cX11_wheel 4 = .ok (.invokestatic 81, 3) := by decide +kernel
theorem dX11_wheel_7 : decode cX11_wheel 7 = .ok (.invokevirtual 125, 3) := by decide +kernel
theorem dX11_wheel_10 : decode cX11_wheel 10 = .ok (.ifCond .eq 5, 3) := by decide +kernel
theorem dX11_wheel_13 : decode cX11_wheel 13 = .ok (.iconst 0, 1) := by decide +kernel
theorem dX11_wheel_14 : decode cX11_wheel 14 = .ok (.ireturn, 1) := by decide +kernel
theorem dX11_wheel_15 : decode cX11_wheel 15 = .ok (.aload_n 0, 1) := by decide +kernel
theorem dX11_wheel_16 : decode cX11_wheel 16 = .ok (.invokevirtual 251, 3) := by decide +kernel
theorem dX11_wheel_19 : decode cX11_wheel 19 = .ok (.aload_n 0, 1) := by decide +kernel
theorem dX11_wheel_20 : decode cX11_wheel 20 = .ok (.aload_n 0, 1) := by decide +kernel
theorem dX11_wheel_21 : decode cX11_wheel 21 = .ok (.iload_n 1, 1) := by decide +kernel
theorem dX11_wheel_22 : decode cX11_wheel 22 = .ok (.invokevirtual 278, 3) := by decide +kernel
theorem dX11_wheel_25 : decode cX11_wheel 25 = .ok (.invokevirtual 257, 3) := by decide +kernel
theorem dX11_wheel_28 : decode cX11_wheel 28 = .ok (.ireturn, 1) := by decide +kernel
theorem dX11_fill_0 : decode cX11_fill 0 = .ok (.aload_n 0, 1) := by decide +kernel
theorem dX11_fill_1 : decode cX11_fill 1 = .ok (.iload_n 1, 1) := by decide +kernel
theorem dX11_fill_2 : decode cX11_fill 2 = .ok (.iconst 1, 1) := by decide +kernel
theorem dX11_fill_3 : decode cX11_fill 3 = .ok (.bipush 30, 2) := by decide +kernel
theorem dX11_fill_5 : decode cX11_fill 5 = .ok (.invokestatic 81, 3) := by decide +kernel
theorem dX11_fill_8 : decode cX11_fill 8 = .ok (.invokevirtual 125, 3) := by decide +kernel
theorem dX11_fill_11 : decode cX11_fill 11 = .ok (.ifCond .eq 5, 3) := by decide +kernel
theorem dX11_fill_14 : decode cX11_fill 14 = .ok (.iconst 0, 1) := by decide +kernel
theorem dX11_fill_15 : decode cX11_fill 15 = .ok (.ireturn, 1) := by decide +kernel
theorem dX11_fill_16 : decode cX11_fill 16 = .ok (.aload_n 0, 1) := by decide +kernel
theorem dX11_fill_17 : decode cX11_fill 17 = .ok (.invokevirtual 251, 3) := by decide +kernel
theorem dX11_fill_20 : decode cX11_fill 20 = .ok (.aload_n 0, 1) := by decide +kernel
theorem dX11_fill_21 : decode cX11_fill 21 = .ok (.aload_n 0, 1) := by decide +kernel
theorem dX11_fill_22 : decode cX11_fill 22 = .ok (.iload_n 1, 1) := by decide +kernel
theorem dX11_fill_23 : decode cX11_fill 23 = .ok (.invokevirtual 281, 3) := by decide +kernel
theorem dX11_fill_26 : decode cX11_fill 26 = .ok (.invokevirtual 257, 3) := by decide +kernel
theorem dX11_fill_29 : decode cX11_fill 29 = .ok (.ireturn, 1) := by decide +kernel
theorem dX11_tidy_0 : decode cX11_tidy 0 = .ok (.aload_n 0, 1) := by decide +kernel
theorem dX11_tidy_1 : decode cX11_tidy 1 = .ok (.iconst 0, 1) := by decide +kernel
theorem dX11_tidy_2 : decode cX11_tidy 2 = .ok (.putfield 78, 3) := by decide +kernel
theorem dX11_tidy_5 : decode cX11_tidy 5 = .ok (.aload_n 0, 1) := by decide +kernel
theorem dX11_tidy_6 : decode cX11_tidy 6 = .ok (.invokevirtual 251, 3) := by decide +kernel
theorem dX11_tidy_9 : decode cX11_tidy 9 = .ok (.aload_n 0, 1) := by decide +kernel
theorem dX11_tidy_10 : decode cX11_tidy 10 = .ok (.aload_n 0, 1) := by decide +kernel
theorem dX11_tidy_11 : decode cX11_tidy 11 = .ok (.invokevirtual 284, 3) := by decide +kernel
theorem dX11_tidy_14 : decode cX11_tidy 14 = .ok (.invokevirtual 257, 3) := by decide +kernel
theorem dX11_tidy_17 : decode cX11_tidy 17 = .ok (.ireturn, 1) := by decide +kernel
theorem dX11_write_0 : decode cX11_write 0 = .ok (.aload_n 0, 1) := by decide +kernel
theorem dX11_write_1 : decode cX11_write 1 = .ok (.getfield 43, 3) := by decide +kernel
theorem dX11_write_4 : decode cX11_write 4 = .ok (.aload_n 0, 1) := by decide +kernel
theorem dX11_write_5 : decode cX11_write 5 = .ok (.getfield 287, 3) := by decide +kernel
theorem dX11_write_8 : decode cX11_write 8 = .ok (.iload_n 1, 1) := by decide +kernel
theorem dX11_write_9 : decode cX11_write 9 = .ok (.iastore, 1) := by decide +kernel
theorem dX11_write_10 : decode cX11_write 10 = .ok (.aload_n 0, 1) := by decide +kernel
theorem dX11_write_11 : decode cX11_write 11 = .ok (.dup, 1) := by decide +kernel
theorem dX11_write_12 : decode cX11_write 12 = .ok (.getfield 287, 3) := by decide +kernel
theorem dX11_write_15 : decode cX11_write 15 = .ok (.iconst 1, 1) := by decide +kernel
theorem dX11_write_16 : decode cX11_write 16 = .ok (.iadd, 1) := by decide +kernel
theorem dX11_write_17 : decode cX11_write 17 = .ok (.putfield 287, 3) := by decide +kernel
theorem dX11_write_20 : decode cX11_write 20 = .ok (.return_, 1) := by decide +kernel
theorem dX11_writeNumber_0 : decode cX11_writeNumber 0 = .ok (.iconst 1, 1) := by decide +kernel
theorem dX11_writeNumber_1 : decode cX11_writeNumber 1 = .ok (.istore_n 2, 1) := by decide +kernel
theorem dX11_writeNumber_2 : decode cX11_writeNumber 2 = .ok (.iload_n 1, 1) := by decide +kernel
theorem dX11_writeNumber_3 : decode cX11_writeNumber 3 = .ok (.iload_n 2, 1) := by decide +kernel
theorem dX11_writeNumber_4 : decode cX11_writeNumber 4 = .ok (.idiv, 1) := by decide +kernel
theorem dX11_writeNumber_5 : decode cX11_writeNumber 5 = .ok (.bipush 9, 2) := by decide +kernel
theorem dX11_writeNumber_7 : decode cX11_writeNumber 7 = .ok (.if_icmp .le 11, 3) := by decide +kernel
theorem dX11_writeNumber_10 : decode cX11_writeNumber 10 = .ok (.iload_n 2, 1) := by decide +kernel
theorem dX11_writeNumber_11 : decode cX11_writeNumber 11 = .ok (.bipush 10, 2) := by decide +kernel
theorem dX11_writeNumber_13 : decode cX11_writeNumber 13 = .ok (.imul, 1) := by decide +kernel
theorem dX11_writeNumber_14 : decode cX11_writeNumber 14 = .ok (.istore_n 2, 1) := by decide +kernel
theorem dX11_writeNumber_15 : decode cX11_writeNumber 15 = .ok (.goto (-13), 3) := by decide +kernel
theorem dX11_writeNumber_18 : decode cX11_writeNumber 18 = .ok (.iload_n 2, 1) := by decide +kernel
theorem dX11_writeNumber_19 : decode cX11_writeNumber 19 = .ok (.istore_n 3, 1) := by decide +kernel
theorem dX11_writeNumber_20 : decode cX11_writeNumber 20 = .ok (.iload_n 3, 1) := by decide +kernel
theorem dX11_writeNumber_21 : decode cX11_writeNumber 21 = .ok (.ifCond .le 24, 3) := by decide +kernel
theorem dX11_writeNumber_24 : decode cX11_writeNumber 24 = .ok (.aload_n 0, 1) := by decide +kernel
theorem dX11_writeNumber_25 : decode cX11_writeNumber 25 = .ok (.bipush 48, 2) := by decide +kernel
theorem dX11_writeNumber_27 : decode cX11_writeNumber 27 = .ok (.iload_n 1, 1) := by decide +kernel
theorem dX11_writeNumber_28 : decode cX11_writeNumber 28 = .ok (.iload_n 3, 1) := by decide +kernel
theorem dX11_writeNumber_29 : decode cX11_writeNumber 29 = .ok (.idiv, 1) := by decide +kernel
theorem dX11_writeNumber_30 : decode cX11_writeNumber 30 = .ok (.bipush 10, 2) := by decide +kernel
theorem dX11_writeNumber_32 : decode cX11_writeNumber 32 = .ok (.irem, 1) := by decide +kernel
theorem dX11_writeNumber_33 : decode cX11_writeNumber 33 = .ok (.iadd, 1) := by decide +kernel
theorem dX11_writeNumber_34 : decode cX11_writeNumber 34 = .ok (.invokevirtual 290, 3) := by decide +kernel
theorem dX11_writeNumber_37 : decode cX11_writeNumber 37 = .ok (.iload_n 3, 1) := by decide +kernel
theorem dX11_writeNumber_38 : decode cX11_writeNumber 38 = .ok (.bipush 10, 2) := by decide +kernel
theorem dX11_writeNumber_40 : decode cX11_writeNumber 40 = .ok (.idiv, 1) := by decide +kernel
theorem dX11_writeNumber_41 : decode cX11_writeNumber 41 = .ok (.istore_n 3, 1) := by decide +kernel
theorem dX11_writeNumber_42 : decode cX11_writeNumber 42 = .ok (.goto (-22), 3) := by decide +kernel
theorem dX11_writeNumber_45 : decode cX11_writeNumber 45 = .ok (.return_, 1) := by decide +kernel
theorem dX11_format_0 : decode cX11_format 0 = .ok (.aload_n 0, 1) := by decide +kernel
theorem dX11_format_1 : decode cX11_format 1 = .ok (.aload_n 0, 1) := by decide +kernel
theorem dX11_format_2 : decode cX11_format 2 = .ok (.iload_n 1, 1) := by decide +kernel
theorem dX11_format_3 : decode cX11_format 3 = .ok (.invokevirtual 151, 3) := by decide +kernel
theorem dX11_format_6 : decode cX11_format 6 = .ok (.invokevirtual 125, 3) := by decide +kernel
theorem dX11_format_9 : decode cX11_format 9 = .ok (.ifCond .eq 5, 3) := by decide +kernel
theorem dX11_format_12 : decode cX11_format 12 = .ok (.iconst 0, 1) := by decide +kernel
theorem dX11_format_13 : decode cX11_format 13 = .ok (.ireturn, 1) := by decide +kernel
theorem dX11_format_14 : decode cX11_format 14 = .ok (.aload_n 0, 1) := by decide +kernel
theorem dX11_format_15 : decode cX11_format 15 = .ok (.invokevirtual 129, 3) := by decide +kernel
theorem dX11_format_18 : decode cX11_format 18 = .ok (.aload_n 0, 1) := by decide +kernel
theorem dX11_format_19 : decode cX11_format 19 = .ok (.iconst 0, 1) := by decide +kernel
theorem dX11_format_20 : decode cX11_format 20 = .ok (.putfield 287, 3) := by decide +kernel
theorem dX11_format_23 : decode cX11_format 23 = .ok (.iconst 0, 1) := by decide +kernel
theorem dX11_format_24 : decode cX11_format 24 = .ok (.istore_n 2, 1) := by decide +kernel
theorem dX11_format_25 : decode cX11_format 25 = .ok (.aload_n 0, 1) := by decide +kernel
theorem dX11_format_26 : decode cX11_format 26 = .ok (.iload_n 1, 1) := by decide +kernel
theorem dX11_format_27 : decode cX11_format 27 = .ok (.invokevirtual 85, 3) := by decide +kernel
theorem dX11_format_30 : decode cX11_format 30 = .ok (.iconst 1, 1) := by decide +kernel
theorem dX11_format_31 : decode cX11_format 31 = .ok (.iadd, 1) := by decide +kernel
theorem dX11_format_32 : decode cX11_format 32 = .ok (.istore_n 3, 1) := by decide +kernel
theorem dX11_format_33 : decode cX11_format 33 = .ok (.iload_n 3, 1) := by decide +kernel
theorem dX11_format_34 : decode cX11_format 34 = .ok (.aload_n 0, 1) := by decide +kernel
theorem dX11_format_35 : decode cX11_format 35 = .ok (.iload_n 1, 1) := by decide +kernel
theorem dX11_format_36 : decode cX11_format 36 = .ok (.iconst 1, 1) := by decide +kernel
theorem dX11_format_37 : decode cX11_format 37 = .ok (.iadd, 1) := by decide +kernel
theorem dX11_format_38 : decode cX11_format 38 = .ok (.invokevirtual 85, 3) := by decide +kernel
theorem dX11_format_41 : decode cX11_format 41 = .ok (.if_icmp .gt 59, 3) := by decide +kernel
theorem dX11_format_44 : decode cX11_format 44 = .ok (.aload_n 0, 1) := by decide +kernel
theorem dX11_format_45 : decode cX11_format 45 = .ok (.iload_n 3, 1) := by decide +kernel
theorem dX11_format_46 : decode cX11_format 46 = .ok (.invokevirtual 107, 3) := by decide +kernel
theorem dX11_format_49 : decode cX11_format 49 = .ok (.ifCond .eq 35, 3) := by decide +kernel
theorem dX11_format_52 : decode cX11_format 52 = .ok (.aload_n 0, 1) := by decide +kernel
theorem dX11_format_53 : decode cX11_format 53 = .ok (.getfield 287, 3) := by decide +kernel
theorem dX11_format_56 : decode cX11_format 56 = .ok (.ifCond .le 18, 3) := by decide +kernel
theorem dX11_format_59 : decode cX11_format 59 = .ok (.aload_n 0, 1) := by decide +kernel
theorem dX11_format_60 : decode cX11_format 60 = .ok (.iload_n 2, 1) := by decide +kernel
theorem dX11_format_61 : decode cX11_format 61 = .ok (.ifCond .eq 8, 3) := by decide +kernel
theorem dX11_format_64 : decode cX11_format 64 = .ok (.bipush 46, 2) := by decide +kernel
theorem dX11_format_66 : decode cX11_format 66 = .ok (.goto 5, 3) := by decide +kernel
theorem dX11_format_69 : decode cX11_format 69 = .ok (.bipush 32, 2) := by decide +kernel
theorem dX11_format_71 : decode cX11_format 71 = .ok (.invokevirtual 290, 3) := by decide +kernel
theorem dX11_format_74 : decode cX11_format 74 = .ok (.aload_n 0, 1) := by decide +kernel
theorem dX11_format_75 : decode cX11_format 75 = .ok (.iload_n 3, 1) := by decide +kernel
theorem dX11_format_76 : decode cX11_format 76 = .ok (.invokevirtual 293, 3) := by decide +kernel
theorem dX11_format_79 : decode cX11_format 79 = .ok (.iconst 1, 1) := by decide +kernel
theorem dX11_format_80 : decode cX11_format 80 = .ok (.istore_n 2, 1) := by decide +kernel
theorem dX11_format_81 : decode cX11_format 81 = .ok (.goto 13, 3) := by decide +kernel
theorem dX11_format_84 : decode cX11_format 84 = .ok (.aload_n 0, 1) := by decide +kernel
theorem dX11_format_85 : decode cX11_format 85 = .ok (.iload_n 3, 1) := by decide +kernel
theorem dX11_format_86 : decode cX11_format 86 = .ok (.invokevirtual 96, 3) := by decide +kernel
theorem dX11_format_89 : decode cX11_format 89 = .ok (.ifCond .eq 5, 3) := by decide +kernel
theorem dX11_format_92 : decode cX11_format 92 = .ok (.iconst 0, 1) := by decide +kernel
theorem dX11_format_93 : decode cX11_format 93 = .ok (.istore_n 2, 1) := by decide +kernel
theorem dX11_format_94 : decode cX11_format 94 = .ok (.iinc 3 1, 3) := by decide +kernel
theorem dX11_format_97 : decode cX11_format 97 = .ok (.goto (-64), 3) := by decide +kernel
theorem dX11_format_100 : decode cX11_format 100 = .ok (.aload_n 0, 1) := by decide +kernel
theorem dX11_format_101 : decode cX11_format 101 = .ok (.getfield 287, 3) := by decide +kernel
theorem dX11_format_104 : decode cX11_format 104 = .ok (.ireturn, 1) := by decide +kernel
theorem dX11_formattedByte_0 : decode cX11_formattedByte 0 = .ok (.aload_n 0, 1) := by decide +kernel
theorem dX11_formattedByte_1 : decode cX11_formattedByte 1 = .ok (.iconst 0, 1) := by decide +kernel
theorem dX11_formattedByte_2 : decode cX11_formattedByte 2 = .ok (.putfield 78, 3) := by decide +kernel
theorem dX11_formattedByte_5 : decode cX11_formattedByte 5 = .ok (.iload_n 1, 1) := by decide +kernel
theorem dX11_formattedByte_6 : decode cX11_formattedByte 6 = .ok (.iconst 0, 1) := by decide +kernel
theorem dX11_formattedByte_7 : decode cX11_formattedByte 7 = .ok (.aload_n 0, 1) := by decide +kernel
theorem dX11_formattedByte_8 : decode cX11_formattedByte 8 = .ok (.getfield 287, 3) := by decide +kernel
theorem dX11_formattedByte_11 : decode cX11_formattedByte 11 = .ok (.iconst 1, 1) := by decide +kernel
theorem dX11_formattedByte_12 : decode cX11_formattedByte 12 = .ok (.isub, 1) := by decide +kernel
theorem dX11_formattedByte_13 : decode cX11_formattedByte 13 = .ok (.invokestatic 81, 3) := by decide +kernel
theorem dX11_formattedByte_16 : decode cX11_formattedByte 16 = .ok (.ifCond .eq 12, 3) := by decide +kernel
theorem dX11_formattedByte_19 : decode cX11_formattedByte 19 = .ok (.aload_n 0, 1) := by decide +kernel
theorem dX11_formattedByte_20 : decode cX11_formattedByte 20 = .ok (.getfield 43, 3) := by decide +kernel
theorem dX11_formattedByte_23 : decode cX11_formattedByte 23 = .ok (.iload_n 1, 1) := by decide +kernel
theorem dX11_formattedByte_24 : decode cX11_formattedByte 24 = .ok (.iaload, 1) := by decide +kernel
theorem dX11_formattedByte_25 : decode cX11_formattedByte 25 = .ok (.goto 4, 3) := by decide +kernel
theorem dX11_formattedByte_28 : decode cX11_formattedByte 28 = .ok (.iconst (-1), 1) := by decide +kernel
theorem dX11_formattedByte_29 : decode cX11_formattedByte 29 = .ok (.ireturn, 1) := by decide +kernel
theorem dX11_undoCount_0 : decode cX11_undoCount 0 = .ok (.aload_n 0, 1) := by decide +kernel
theorem dX11_undoCount_1 : decode cX11_undoCount 1 = .ok (.iconst 0, 1) := by decide +kernel
theorem dX11_undoCount_2 : decode cX11_undoCount 2 = .ok (.putfield 78, 3) := by decide +kernel
theorem dX11_undoCount_5 : decode cX11_undoCount 5 = .ok (.aload_n 0, 1) := by decide +kernel
theorem dX11_undoCount_6 : decode cX11_undoCount 6 = .ok (.getfield 245, 3) := by decide +kernel
theorem dX11_undoCount_9 : decode cX11_undoCount 9 = .ok (.ireturn, 1) := by decide +kernel
theorem dX11_undo_0 : decode cX11_undo 0 = .ok (.aload_n 0, 1) := by decide +kernel
theorem dX11_undo_1 : decode cX11_undo 1 = .ok (.iconst 0, 1) := by decide +kernel
theorem dX11_undo_2 : decode cX11_undo 2 = .ok (.putfield 78, 3) := by decide +kernel
theorem dX11_undo_5 : decode cX11_undo 5 = .ok (.aload_n 0, 1) := by decide +kernel
theorem dX11_undo_6 : decode cX11_undo 6 = .ok (.getfield 245, 3) := by decide +kernel
theorem dX11_undo_9 : decode cX11_undo 9 = .ok (.ifCond .ne 5, 3) := by decide +kernel
theorem dX11_undo_12 : decode cX11_undo 12 = .ok (.iconst (-1), 1) := by decide +kernel
theorem dX11_undo_13 : decode cX11_undo 13 = .ok (.ireturn, 1) := by decide +kernel
theorem dX11_undo_14 : decode cX11_undo 14 = .ok (.aload_n 0, 1) := by decide +kernel
theorem dX11_undo_15 : decode cX11_undo 15 = .ok (.dup, 1) := by decide +kernel
theorem dX11_undo_16 : decode cX11_undo 16 = .ok (.getfield 245, 3) := by decide +kernel
theorem dX11_undo_19 : decode cX11_undo 19 = .ok (.iconst 1, 1) := by decide +kernel
theorem dX11_undo_20 : decode cX11_undo 20 = .ok (.isub, 1) := by decide +kernel
theorem dX11_undo_21 : decode cX11_undo 21 = .ok (.putfield 245, 3) := by decide +kernel
theorem dX11_undo_24 : decode cX11_undo 24 = .ok (.aload_n 0, 1) := by decide +kernel
theorem dX11_undo_25 : decode cX11_undo 25 = .ok (.getfield 25, 3) := by decide +kernel
theorem dX11_undo_28 : decode cX11_undo 28 = .ok (.iconst 2, 1) := by decide +kernel
theorem dX11_undo_29 : decode cX11_undo 29 = .ok (.dup2, 1) := by decide +kernel
theorem dX11_undo_30 : decode cX11_undo 30 = .ok (.iaload, 1) := by decide +kernel
theorem dX11_undo_31 : decode cX11_undo 31 = .ok (.iconst 1, 1) := by decide +kernel
theorem dX11_undo_32 : decode cX11_undo 32 = .ok (.iadd, 1) := by decide +kernel
theorem dX11_undo_33 : decode cX11_undo 33 = .ok (.iastore, 1) := by decide +kernel
theorem dX11_undo_34 : decode cX11_undo 34 = .ok (.aload_n 0, 1) := by decide +kernel
theorem dX11_undo_35 : decode cX11_undo 35 = .ok (.getfield 22, 3) := by decide +kernel
theorem dX11_undo_38 : decode cX11_undo 38 = .ok (.aload_n 0, 1) := by decide +kernel
theorem dX11_undo_39 : decode cX11_undo 39 = .ok (.getfield 245, 3) := by decide +kernel
theorem dX11_undo_42 : decode cX11_undo 42 = .ok (.aload_n 0, 1) := by decide +kernel
theorem dX11_undo_43 : decode cX11_undo 43 = .ok (.getfield 9, 3) := by decide +kernel
theorem dX11_undo_46 : decode cX11_undo 46 = .ok (.iconst 0, 1) := by decide +kernel
theorem dX11_undo_47 : decode cX11_undo 47 = .ok (.invokestatic 241, 3) := by decide +kernel
theorem dX11_undo_50 : decode cX11_undo 50 = .ok (.aload_n 0, 1) := by decide +kernel
theorem dX11_undo_51 : decode cX11_undo 51 = .ok (.getfield 245, 3) := by decide +kernel
theorem dX11_undo_54 : decode cX11_undo 54 = .ok (.ireturn, 1) := by decide +kernel
theorem dX11_saveSnapshot_0 : decode cX11_saveSnapshot 0 = .ok (.aload_n 0, 1) := by decide +kernel
theorem dX11_saveSnapshot_1 : decode cX11_saveSnapshot 1 = .ok (.iconst 0, 1) := by decide +kernel
theorem dX11_saveSnapshot_2 : decode cX11_saveSnapshot 2 = .ok (.putfield 78, 3) := by decide +kernel
theorem dX11_saveSnapshot_5 : decode cX11_saveSnapshot 5 = .ok (.aload_n 0, 1) := by decide +kernel
theorem dX11_saveSnapshot_6 : decode cX11_saveSnapshot 6 = .ok (.getfield 9, 3) := by decide +kernel
theorem dX11_saveSnapshot_9 : decode cX11_saveSnapshot 9 = .ok (.iconst 0, 1) := by decide +kernel
theorem dX11_saveSnapshot_10 : decode cX11_saveSnapshot 10 = .ok (.aload_n 0, 1) := by decide +kernel
theorem dX11_saveSnapshot_11 : decode cX11_saveSnapshot 11 = .ok (.getfield 19, 3) := by decide +kernel
theorem dX11_saveSnapshot_14 : decode cX11_saveSnapshot 14 = .ok (.iconst 0, 1) := by decide +kernel
theorem dX11_saveSnapshot_15 : decode cX11_saveSnapshot 15 = .ok (.invokestatic 241, 3) := by decide +kernel
theorem dX11_saveSnapshot_18 : decode cX11_saveSnapshot 18 = .ok (.aload_n 0, 1) := by decide +kernel
theorem dX11_saveSnapshot_19 : decode cX11_saveSnapshot 19 = .ok (.iconst 1, 1) := by decide +kernel
theorem dX11_saveSnapshot_20 : decode cX11_saveSnapshot 20 = .ok (.putfield 296, 3) := by decide +kernel
theorem dX11_saveSnapshot_23 : decode cX11_saveSnapshot 23 = .ok (.return_, 1) := by decide +kernel
theorem dX11_restoreSnapshot_0 : decode cX11_restoreSnapshot 0 = .ok (.aload_n 0, 1) := by decide +kernel
theorem dX11_restoreSnapshot_1 : decode cX11_restoreSnapshot 1 = .ok (.iconst 0, 1) := by decide +kernel
theorem dX11_restoreSnapshot_2 : decode cX11_restoreSnapshot 2 = .ok (.putfield 78, 3) := by decide +kernel
theorem dX11_restoreSnapshot_5 : decode cX11_restoreSnapshot 5 = .ok (.aload_n 0, 1) := by decide +kernel
theorem dX11_restoreSnapshot_6 : decode cX11_restoreSnapshot 6 = .ok (.getfield 296, 3) := by decide +kernel
theorem dX11_restoreSnapshot_9 : decode cX11_restoreSnapshot 9 = .ok (.ifCond .ne 5, 3) := by decide +kernel
theorem dX11_restoreSnapshot_12 : decode cX11_restoreSnapshot 12 = .ok (.iconst 0, 1) := by decide +kernel
theorem dX11_restoreSnapshot_13 : decode cX11_restoreSnapshot 13 = .ok (.ireturn, 1) := by decide +kernel
theorem dX11_restoreSnapshot_14 : decode cX11_restoreSnapshot 14 = .ok (.aload_n 0, 1) := by decide +kernel
theorem dX11_restoreSnapshot_15 : decode cX11_restoreSnapshot 15 = .ok (.getfield 19, 3) := by decide +kernel
theorem dX11_restoreSnapshot_18 : decode cX11_restoreSnapshot 18 = .ok (.iconst 0, 1) := by decide +kernel
theorem dX11_restoreSnapshot_19 : decode cX11_restoreSnapshot 19 = .ok (.aload_n 0, 1) := by decide +kernel
theorem dX11_restoreSnapshot_20 : decode cX11_restoreSnapshot 20 = .ok (.getfield 9, 3) := by decide +kernel
theorem dX11_restoreSnapshot_23 : decode cX11_restoreSnapshot 23 = .ok (.iconst 0, 1) := by decide +kernel
theorem dX11_restoreSnapshot_24 : decode cX11_restoreSnapshot 24 = .ok (.invokestatic 241, 3) := by decide +kernel
theorem dX11_restoreSnapshot_27 : decode cX11_restoreSnapshot 27 = .ok (.aload_n 0, 1) := by decide +kernel
theorem dX11_restoreSnapshot_28 : decode cX11_restoreSnapshot 28 = .ok (.iconst 0, 1) := by decide +kernel
theorem dX11_restoreSnapshot_29 : decode cX11_restoreSnapshot 29 = .ok (.putfield 245, 3) := by decide +kernel
theorem dX11_restoreSnapshot_32 : decode cX11_restoreSnapshot 32 = .ok (.iconst 1, 1) := by decide +kernel
theorem dX11_restoreSnapshot_33 : decode cX11_restoreSnapshot 33 = .ok (.ireturn, 1) := by decide +kernel
theorem dX11_feed_0 : decode cX11_feed 0 = .ok (.aload_n 0, 1) := by decide +kernel
theorem dX11_feed_1 : decode cX11_feed 1 = .ok (.iconst 0, 1) := by decide +kernel
theorem dX11_feed_2 : decode cX11_feed 2 = .ok (.putfield 78, 3) := by decide +kernel
theorem dX11_feed_5 : decode cX11_feed 5 = .ok (.aload_n 0, 1) := by decide +kernel
theorem dX11_feed_6 : decode cX11_feed 6 = .ok (.getfield 300, 3) := by decide +kernel
theorem dX11_feed_9 : decode cX11_feed 9 = .ok (.bipush 20, 2) := by decide +kernel
theorem dX11_feed_11 : decode cX11_feed 11 = .ok (.iadd, 1) := by decide +kernel
theorem dX11_feed_12 : decode cX11_feed 12 = .ok (.sipush 600, 3) := by decide +kernel
theorem dX11_feed_15 : decode cX11_feed 15 = .ok (.if_icmp .le 5, 3) := by decide +kernel
theorem dX11_feed_18 : decode cX11_feed 18 = .ok (.iconst (-1), 1) := by decide +kernel
theorem dX11_feed_19 : decode cX11_feed 19 = .ok (.ireturn, 1) := by decide +kernel
theorem dX11_feed_20 : decode cX11_feed 20 = .ok (.iconst 0, 1) := by decide +kernel
theorem dX11_feed_21 : decode cX11_feed 21 = .ok (.istore 6, 2) := by decide +kernel
theorem dX11_feed_23 : decode cX11_feed 23 = .ok (.iload 6, 2) := by decide +kernel
theorem dX11_feed_25 : decode cX11_feed 25 = .ok (.bipush 20, 2) := by decide +kernel
theorem dX11_feed_27 : decode cX11_feed 27 = .ok (.if_icmp .ge 93, 3) := by decide +kernel
theorem dX11_feed_30 : decode cX11_feed 30 = .ok (.iload 6, 2) := by decide +kernel
theorem dX11_feed_32 : decode cX11_feed 32 = .ok (.iconst 4, 1) := by decide +kernel
theorem dX11_feed_33 : decode cX11_feed 33 = .ok (.if_icmp .ge 7, 3) := by decide +kernel
theorem dX11_feed_36 : decode cX11_feed 36 = .ok (.iload_n 1, 1) := by decide +kernel
theorem dX11_feed_37 : decode cX11_feed 37 = .ok (.goto 39, 3) := by decide +kernel
theorem dX11_feed_40 : decode cX11_feed 40 = .ok (.iload 6, 2) := by decide +kernel
theorem dX11_feed_42 : decode cX11_feed 42 = .ok (.bipush 8, 2) := by decide +kernel
theorem dX11_feed_44 : decode cX11_feed 44 = .ok (.if_icmp .ge 7, 3) := by decide +kernel
theorem dX11_feed_47 : decode cX11_feed 47 = .ok (.iload_n 2, 1) := by decide +kernel
theorem dX11_feed_48 : decode cX11_feed 48 = .ok (.goto 28, 3) := by decide +kernel
theorem dX11_feed_51 : decode cX11_feed 51 = .ok (.iload 6, 2) := by decide +kernel
theorem dX11_feed_53 : decode cX11_feed 53 = .ok (.bipush 12, 2) := by decide +kernel
theorem dX11_feed_55 : decode cX11_feed 55 = .ok (.if_icmp .ge 7, 3) := by decide +kernel
theorem dX11_feed_58 : decode cX11_feed 58 = .ok (.iload_n 3, 1) := by decide +kernel
theorem dX11_feed_59 : decode cX11_feed 59 = .ok (.goto 17, 3) := by decide +kernel
theorem dX11_feed_62 : decode cX11_feed 62 = .ok (.iload 6, 2) := by decide +kernel
theorem dX11_feed_64 : decode cX11_feed 64 = .ok (.bipush 16, 2) := by decide +kernel
theorem dX11_feed_66 : decode cX11_feed 66 = .ok (.if_icmp .ge 8, 3) := by decide +kernel
theorem dX11_feed_69 : decode cX11_feed 69 = .ok (.iload 4, 2) := by decide +kernel
theorem dX11_feed_71 : decode cX11_feed 71 = .ok (.goto 5, 3) := by decide +kernel
theorem dX11_feed_74 : decode cX11_feed 74 = .ok (.iload 5, 2) := by decide +kernel
theorem dX11_feed_76 : decode cX11_feed 76 = .ok (.istore 7, 2) := by decide +kernel
theorem dX11_feed_78 : decode cX11_feed 78 = .ok (.aload_n 0, 1) := by decide +kernel
theorem dX11_feed_79 : decode cX11_feed 79 = .ok (.getfield 46, 3) := by decide +kernel
theorem dX11_feed_82 : decode cX11_feed 82 = .ok (.aload_n 0, 1) := by decide +kernel
theorem dX11_feed_83 : decode cX11_feed 83 = .ok (.getfield 300, 3) := by decide +kernel
theorem dX11_feed_86 : decode cX11_feed 86 = .ok (.iload 7, 2) := by decide +kernel
theorem dX11_feed_88 : decode cX11_feed 88 = .ok (.bipush 24, 2) := by decide +kernel
theorem dX11_feed_90 : decode cX11_feed 90 = .ok (.bipush 8, 2) := by decide +kernel
theorem dX11_feed_92 : decode cX11_feed 92 = .ok (.iload 6, 2) := by decide +kernel
theorem dX11_feed_94 : decode cX11_feed 94 = .ok (.iconst 4, 1) := by decide +kernel
theorem dX11_feed_95 : decode cX11_feed 95 = .ok (.irem, 1) := by decide +kernel
theorem dX11_feed_96 : decode cX11_feed 96 = .ok (.imul, 1) := by decide +kernel
theorem dX11_feed_97 : decode cX11_feed 97 = .ok (.isub, 1) := by decide +kernel
theorem dX11_feed_98 : decode cX11_feed 98 = .ok (.ishr, 1) := by decide +kernel
theorem dX11_feed_99 : decode cX11_feed 99 = .ok (.sipush 255, 3) := by decide +kernel
theorem dX11_feed_102 : decode cX11_feed 102 = .ok (.iand, 1) := by decide +kernel
theorem dX11_feed_103 : decode cX11_feed 103 = .ok (.iastore, 1) := by decide +kernel
theorem dX11_feed_104 : decode cX11_feed 104 = .ok (.aload_n 0, 1) := by decide +kernel
theorem dX11_feed_105 : decode cX11_feed 105 = .ok (.dup, 1) := by decide +kernel
theorem dX11_feed_106 : decode cX11_feed 106 = .ok (.getfield 300, 3) := by decide +kernel
theorem dX11_feed_109 : decode cX11_feed 109 = .ok (.iconst 1, 1) := by decide +kernel
theorem dX11_feed_110 : decode cX11_feed 110 = .ok (.iadd, 1) := by decide +kernel
theorem dX11_feed_111 : decode cX11_feed 111 = .ok (.putfield 300, 3) := by decide +kernel
theorem dX11_feed_114 : decode cX11_feed 114 = .ok (.iinc 6 1, 3) := by decide +kernel
theorem dX11_feed_117 : decode cX11_feed 117 = .ok (.goto (-94), 3) := by decide +kernel
theorem dX11_feed_120 : decode cX11_feed 120 = .ok (.aload_n 0, 1) := by decide +kernel
theorem dX11_feed_121 : decode cX11_feed 121 = .ok (.getfield 300, 3) := by decide +kernel
theorem dX11_feed_124 : decode cX11_feed 124 = .ok (.ireturn, 1) := by decide +kernel
theorem dX11_errorPosition_0 : decode cX11_errorPosition 0 = .ok (.aload_n 0, 1) := by decide +kernel
theorem dX11_errorPosition_1 : decode cX11_errorPosition 1 = .ok (.iconst 0, 1) := by decide +kernel
theorem dX11_errorPosition_2 : decode cX11_errorPosition 2 = .ok (.putfield 78, 3) := by decide +kernel
theorem dX11_errorPosition_5 : decode cX11_errorPosition 5 = .ok (.aload_n 0, 1) := by decide +kernel
theorem dX11_errorPosition_6 : decode cX11_errorPosition 6 = .ok (.getfield 49, 3) := by decide +kernel
theorem dX11_errorPosition_9 : decode cX11_errorPosition 9 = .ok (.ireturn, 1) := by decide +kernel
theorem dX11_byteAt_0 : decode cX11_byteAt 0 = .ok (.iload_n 1, 1) := by decide +kernel
theorem dX11_byteAt_1 : decode cX11_byteAt 1 = .ok (.aload_n 0, 1) := by decide +kernel
theorem dX11_byteAt_2 : decode cX11_byteAt 2 = .ok (.getfield 303, 3) := by decide +kernel
theorem dX11_byteAt_5 : decode cX11_byteAt 5 = .ok (.if_icmp .ge 12, 3) := by decide +kernel
theorem dX11_byteAt_8 : decode cX11_byteAt 8 = .ok (.aload_n 0, 1) := by decide +kernel
theorem dX11_byteAt_9 : decode cX11_byteAt 9 = .ok (.getfield 46, 3) := by decide +kernel
theorem dX11_byteAt_12 : decode cX11_byteAt 12 = .ok (.iload_n 1, 1) := by decide +kernel
theorem dX11_byteAt_13 : decode cX11_byteAt 13 = .ok (.iaload, 1) := by decide +kernel
theorem dX11_byteAt_14 : decode cX11_byteAt 14 = .ok (.goto 4, 3) := by decide +kernel
theorem dX11_byteAt_17 : decode cX11_byteAt 17 = .ok (.iconst (-1), 1) := by decide +kernel
theorem dX11_byteAt_18 : decode cX11_byteAt 18 = .ok (.ireturn, 1) := by decide +kernel
theorem dX11_isLetter_0 : decode cX11_isLetter 0 = .ok (.aload_n 0, 1) := by decide +kernel
theorem dX11_isLetter_1 : decode cX11_isLetter 1 = .ok (.iload_n 1, 1) := by decide +kernel
theorem dX11_isLetter_2 : decode cX11_isLetter 2 = .ok (.invokevirtual 306, 3) := by decide +kernel
theorem dX11_isLetter_5 : decode cX11_isLetter 5 = .ok (.bipush 97, 2) := by decide +kernel
theorem dX11_isLetter_7 : decode cX11_isLetter 7 = .ok (.if_icmp .lt 17, 3) := by decide +kernel
theorem dX11_isLetter_10 : decode cX11_isLetter 10 = .ok (.aload_n 0, 1) := by decide +kernel
theorem dX11_isLetter_11 : decode cX11_isLetter 11 = .ok (.iload_n 1, 1) := by decide +kernel
theorem dX11_isLetter_12 : decode cX11_isLetter 12 = .ok (.invokevirtual 306, 3) := by decide +kernel
theorem dX11_isLetter_15 : decode cX11_isLetter 15 = .ok (.bipush 122, 2) := by decide +kernel
theorem dX11_isLetter_17 : decode cX11_isLetter 17 = .ok (.if_icmp .gt 7, 3) := by decide +kernel
theorem dX11_isLetter_20 : decode cX11_isLetter 20 = .ok (.iconst 1, 1) := by decide +kernel
theorem dX11_isLetter_21 : decode cX11_isLetter 21 = .ok (.goto 4, 3) := by decide +kernel
theorem dX11_isLetter_24 : decode cX11_isLetter 24 = .ok (.iconst 0, 1) := by decide +kernel
theorem dX11_isLetter_25 : decode cX11_isLetter 25 = .ok (.ireturn, 1) := by decide +kernel
theorem dX11_isDigit_0 : decode cX11_isDigit 0 = .ok (.aload_n 0, 1) := by decide +kernel
theorem dX11_isDigit_1 : decode cX11_isDigit 1 = .ok (.iload_n 1, 1) := by decide +kernel
theorem dX11_isDigit_2 : decode cX11_isDigit 2 = .ok (.invokevirtual 306, 3) := by decide +kernel
theorem dX11_isDigit_5 : decode cX11_isDigit 5 = .ok (.bipush 48, 2) := by decide +kernel
theorem dX11_isDigit_7 : decode cX11_isDigit 7 = .ok (.if_icmp .lt 17, 3) := by decide +kernel
theorem dX11_isDigit_10 : decode cX11_isDigit 10 = .ok (.aload_n 0, 1) := by decide +kernel
theorem dX11_isDigit_11 : decode cX11_isDigit 11 = .ok (.iload_n 1, 1) := by decide +kernel
theorem dX11_isDigit_12 : decode cX11_isDigit 12 = .ok (.invokevirtual 306, 3) := by decide +kernel
theorem dX11_isDigit_15 : decode cX11_isDigit 15 = .ok (.bipush 57, 2) := by decide +kernel
theorem dX11_isDigit_17 : decode cX11_isDigit 17 = .ok (.if_icmp .gt 7, 3) := by decide +kernel
theorem dX11_isDigit_20 : decode cX11_isDigit 20 = .ok (.iconst 1, 1) := by decide +kernel
theorem dX11_isDigit_21 : decode cX11_isDigit 21 = .ok (.goto 4, 3) := by decide +kernel
theorem dX11_isDigit_24 : decode cX11_isDigit 24 = .ok (.iconst 0, 1) := by decide +kernel
theorem dX11_isDigit_25 : decode cX11_isDigit 25 = .ok (.ireturn, 1) := by decide +kernel
theorem dX11_scan_0 : decode cX11_scan 0 = .ok (.aload_n 0, 1) := by decide +kernel
theorem dX11_scan_1 : decode cX11_scan 1 = .ok (.aload_n 0, 1) := by decide +kernel
theorem dX11_scan_2 : decode cX11_scan 2 = .ok (.getfield 309, 3) := by decide +kernel
theorem dX11_scan_5 : decode cX11_scan 5 = .ok (.invokevirtual 306, 3) := by decide +kernel
theorem dX11_scan_8 : decode cX11_scan 8 = .ok (.bipush 32, 2) := by decide +kernel
theorem dX11_scan_10 : decode cX11_scan 10 = .ok (.if_icmp .eq 16, 3) := by decide +kernel
theorem dX11_scan_13 : decode cX11_scan 13 = .ok (.aload_n 0, 1) := by decide +kernel
theorem dX11_scan_14 : decode cX11_scan 14 = .ok (.aload_n 0, 1) := by decide +kernel
theorem dX11_scan_15 : decode cX11_scan 15 = .ok (.getfield 309, 3) := by decide +kernel
theorem dX11_scan_18 : decode cX11_scan 18 = .ok (.invokevirtual 306, 3) := by decide +kernel
theorem dX11_scan_21 : decode cX11_scan 21 = .ok (.bipush 10, 2) := by decide +kernel
theorem dX11_scan_23 : decode cX11_scan 23 = .ok (.if_icmp .ne 16, 3) := by decide +kernel
theorem dX11_scan_26 : decode cX11_scan 26 = .ok (.aload_n 0, 1) := by decide +kernel
theorem dX11_scan_27 : decode cX11_scan 27 = .ok (.dup, 1) := by decide +kernel
theorem dX11_scan_28 : decode cX11_scan 28 = .ok (.getfield 309, 3) := by decide +kernel
theorem dX11_scan_31 : decode cX11_scan 31 = .ok (.iconst 1, 1) := by decide +kernel
theorem dX11_scan_32 : decode cX11_scan 32 = .ok (.iadd, 1) := by decide +kernel
theorem dX11_scan_33 : decode cX11_scan 33 = .ok (.putfield 309, 3) := by decide +kernel
theorem dX11_scan_36 : decode cX11_scan 36 = .ok (.goto (-36), 3) := by decide +kernel
theorem dX11_scan_39 : decode cX11_scan 39 = .ok (.aload_n 0, 1) := by decide +kernel
theorem dX11_scan_40 : decode cX11_scan 40 = .ok (.aload_n 0, 1) := by decide +kernel
theorem dX11_scan_41 : decode cX11_scan 41 = .ok (.getfield 309, 3) := by decide +kernel
theorem dX11_scan_44 : decode cX11_scan 44 = .ok (.putfield 312, 3) := by decide +kernel
theorem dX11_scan_47 : decode cX11_scan 47 = .ok (.aload_n 0, 1) := by decide +kernel
theorem dX11_scan_48 : decode cX11_scan 48 = .ok (.getfield 309, 3) := by decide +kernel
theorem dX11_scan_51 : decode cX11_scan 51 = .ok (.aload_n 0, 1) := by decide +kernel
theorem dX11_scan_52 : decode cX11_scan 52 = .ok (.getfield 303, 3) := by decide +kernel
theorem dX11_scan_55 : decode cX11_scan 55 = .ok (.if_icmp .lt 11, 3) := by decide +kernel
theorem dX11_scan_58 : decode cX11_scan 58 = .ok (.aload_n 0, 1) := by decide +kernel
theorem dX11_scan_59 : decode cX11_scan 59 = .ok (.iconst 0, 1) := by decide +kernel
theorem dX11_scan_60 : decode cX11_scan 60 = .ok (.putfield 315, 3) := by decide +kernel
theorem dX11_scan_63 : decode cX11_scan 63 = .ok (.goto 104, 3) := by decide +kernel
theorem dX11_scan_66 : decode cX11_scan 66 = .ok (.aload_n 0, 1) := by decide +kernel
theorem dX11_scan_67 : decode cX11_scan 67 = .ok (.aload_n 0, 1) := by decide +kernel
theorem dX11_scan_68 : decode cX11_scan 68 = .ok (.getfield 309, 3) := by decide +kernel
theorem dX11_scan_71 : decode cX11_scan 71 = .ok (.invokevirtual 318, 3) := by decide +kernel
theorem dX11_scan_74 : decode cX11_scan 74 = .ok (.ifCond .eq 35, 3) := by decide +kernel
theorem dX11_scan_77 : decode cX11_scan 77 = .ok (.aload_n 0, 1) := by decide +kernel
theorem dX11_scan_78 : decode cX11_scan 78 = .ok (.aload_n 0, 1) := by decide +kernel
theorem dX11_scan_79 : decode cX11_scan 79 = .ok (.getfield 309, 3) := by decide +kernel
theorem dX11_scan_82 : decode cX11_scan 82 = .ok (.invokevirtual 318, 3) := by decide +kernel
theorem dX11_scan_85 : decode cX11_scan 85 = .ok (.ifCond .eq 16, 3) := by decide +kernel
theorem dX11_scan_88 : decode cX11_scan 88 = .ok (.aload_n 0, 1) := by decide +kernel
theorem dX11_scan_89 : decode cX11_scan 89 = .ok (.dup, 1) := by decide +kernel
theorem dX11_scan_90 : decode cX11_scan 90 = .ok (.getfield 309, 3) := by decide +kernel
theorem dX11_scan_93 : decode cX11_scan 93 = .ok (.iconst 1, 1) := by decide +kernel
theorem dX11_scan_94 : decode cX11_scan 94 = .ok (.iadd, 1) := by decide +kernel
theorem dX11_scan_95 : decode cX11_scan 95 = .ok (.putfield 309, 3) := by decide +kernel
theorem dX11_scan_98 : decode cX11_scan 98 = .ok (.goto (-21), 3) := by decide +kernel
theorem dX11_scan_101 : decode cX11_scan 101 = .ok (.aload_n 0, 1) := by decide +kernel
theorem dX11_scan_102 : decode cX11_scan 102 = .ok (.iconst 1, 1) := by decide +kernel
theorem dX11_scan_103 : decode cX11_scan 103 = .ok (.putfield 315, 3) := by decide +kernel
theorem dX11_scan_106 : decode cX11_scan 106 = .ok (.goto 61, 3) := by decide +kernel
theorem dX11_scan_109 : decode cX11_scan 109 = .ok (.aload_n 0, 1) := by decide +kernel
theorem dX11_scan_110 : decode cX11_scan 110 = .ok (.aload_n 0, 1) := by decide +kernel
theorem dX11_scan_111 : decode cX11_scan 111 = .ok (.getfield 309, 3) := by decide +kernel
theorem dX11_scan_114 : decode cX11_scan 114 = .ok (.invokevirtual 321, 3) := by decide +kernel
theorem dX11_scan_117 : decode cX11_scan 117 = .ok (.ifCond .eq 35, 3) := by decide +kernel
theorem dX11_scan_120 : decode cX11_scan 120 = .ok (.aload_n 0, 1) := by decide +kernel
theorem dX11_scan_121 : decode cX11_scan 121 = .ok (.aload_n 0, 1) := by decide +kernel
theorem dX11_scan_122 : decode cX11_scan 122 = .ok (.getfield 309, 3) := by decide +kernel
theorem dX11_scan_125 : decode cX11_scan 125 = .ok (.invokevirtual 321, 3) := by decide +kernel
theorem dX11_scan_128 : decode cX11_scan 128 = .ok (.ifCond .eq 16, 3) := by decide +kernel
theorem dX11_scan_131 : decode cX11_scan 131 = .ok (.aload_n 0, 1) := by decide +kernel
theorem dX11_scan_132 : decode cX11_scan 132 = .ok (.dup, 1) := by decide +kernel
theorem dX11_scan_133 : decode cX11_scan 133 = .ok (.getfield 309, 3) := by decide +kernel
theorem dX11_scan_136 : decode cX11_scan 136 = .ok (.iconst 1, 1) := by decide +kernel
theorem dX11_scan_137 : decode cX11_scan 137 = .ok (.iadd, 1) := by decide +kernel
theorem dX11_scan_138 : decode cX11_scan 138 = .ok (.putfield 309, 3) := by decide +kernel
theorem dX11_scan_141 : decode cX11_scan 141 = .ok (.goto (-21), 3) := by decide +kernel
theorem dX11_scan_144 : decode cX11_scan 144 = .ok (.aload_n 0, 1) := by decide +kernel
theorem dX11_scan_145 : decode cX11_scan 145 = .ok (.iconst 2, 1) := by decide +kernel
theorem dX11_scan_146 : decode cX11_scan 146 = .ok (.putfield 315, 3) := by decide +kernel
theorem dX11_scan_149 : decode cX11_scan 149 = .ok (.goto 18, 3) := by decide +kernel
theorem dX11_scan_152 : decode cX11_scan 152 = .ok (.aload_n 0, 1) := by decide +kernel
theorem dX11_scan_153 : decode cX11_scan 153 = .ok (.dup, 1) := by decide +kernel
theorem dX11_scan_154 : decode cX11_scan 154 = .ok (.getfield 309, 3) := by decide +kernel
theorem dX11_scan_157 : decode cX11_scan 157 = .ok (.iconst 1, 1) := by decide +kernel
theorem dX11_scan_158 : decode cX11_scan 158 = .ok (.iadd, 1) := by decide +kernel
theorem dX11_scan_159 : decode cX11_scan 159 = .ok (.putfield 309, 3) := by decide +kernel
theorem dX11_scan_162 : decode cX11_scan 162 = .ok (.aload_n 0, 1) := by decide +kernel
theorem dX11_scan_163 : decode cX11_scan 163 = .ok (.iconst 3, 1) := by decide +kernel
theorem dX11_scan_164 : decode cX11_scan 164 = .ok (.putfield 315, 3) := by decide +kernel
theorem dX11_scan_167 : decode cX11_scan 167 = .ok (.return_, 1) := by decide +kernel
theorem dX11_startText_0 : decode cX11_startText 0 = .ok (.aload_n 0, 1) := by decide +kernel
theorem dX11_startText_1 : decode cX11_startText 1 = .ok (.iload_n 1, 1) := by decide +kernel
theorem dX11_startText_2 : decode cX11_startText 2 = .ok (.putfield 303, 3) := by decide +kernel
theorem dX11_startText_5 : decode cX11_startText 5 = .ok (.aload_n 0, 1) := by decide +kernel
theorem dX11_startText_6 : decode cX11_startText 6 = .ok (.iconst 0, 1) := by decide +kernel
theorem dX11_startText_7 : decode cX11_startText 7 = .ok (.putfield 309, 3) := by decide +kernel
theorem dX11_startText_10 : decode cX11_startText 10 = .ok (.aload_n 0, 1) := by decide +kernel
theorem dX11_startText_11 : decode cX11_startText 11 = .ok (.iconst 0, 1) := by decide +kernel
theorem dX11_startText_12 : decode cX11_startText 12 = .ok (.putfield 324, 3) := by decide +kernel
theorem dX11_startText_15 : decode cX11_startText 15 = .ok (.aload_n 0, 1) := by decide +kernel
theorem dX11_startText_16 : decode cX11_startText 16 = .ok (.iconst 0, 1) := by decide +kernel
theorem dX11_startText_17 : decode cX11_startText 17 = .ok (.putfield 327, 3) := by decide +kernel
theorem dX11_startText_20 : decode cX11_startText 20 = .ok (.aload_n 0, 1) := by decide +kernel
theorem dX11_startText_21 : decode cX11_startText 21 = .ok (.invokevirtual 330, 3) := by decide +kernel
theorem dX11_startText_24 : decode cX11_startText 24 = .ok (.return_, 1) := by decide +kernel
theorem dX11_finish_0 : decode cX11_finish 0 = .ok (.aload_n 0, 1) := by decide +kernel
theorem dX11_finish_1 : decode cX11_finish 1 = .ok (.iconst 0, 1) := by decide +kernel
theorem dX11_finish_2 : decode cX11_finish 2 = .ok (.putfield 300, 3) := by decide +kernel
theorem dX11_finish_5 : decode cX11_finish 5 = .ok (.aload_n 0, 1) := by decide +kernel
theorem dX11_finish_6 : decode cX11_finish 6 = .ok (.aload_n 0, 1) := by decide +kernel
theorem dX11_finish_7 : decode cX11_finish 7 = .ok (.getfield 324, 3) := by decide +kernel
theorem dX11_finish_10 : decode cX11_finish 10 = .ok (.ifCond .ne 7, 3) := by decide +kernel
theorem dX11_finish_13 : decode cX11_finish 13 = .ok (.iconst (-1), 1) := by decide +kernel
theorem dX11_finish_14 : decode cX11_finish 14 = .ok (.goto 7, 3) := by decide +kernel
theorem dX11_finish_17 : decode cX11_finish 17 = .ok (.aload_n 0, 1) := by decide +kernel
theorem dX11_finish_18 : decode cX11_finish 18 = .ok (.getfield 333, 3) := by decide +kernel
theorem dX11_finish_21 : decode cX11_finish 21 = .ok (.putfield 49, 3) := by decide +kernel
theorem dX11_finish_24 : decode cX11_finish 24 = .ok (.aload_n 0, 1) := by decide +kernel
theorem dX11_finish_25 : decode cX11_finish 25 = .ok (.getfield 324, 3) := by decide +kernel
theorem dX11_finish_28 : decode cX11_finish 28 = .ok (.ireturn, 1) := by decide +kernel
theorem dX11_check_0 : decode cX11_check 0 = .ok (.iload_n 1, 1) := by decide +kernel
theorem dX11_check_1 : decode cX11_check 1 = .ok (.ifCond .ne 23, 3) := by decide +kernel
theorem dX11_check_4 : decode cX11_check 4 = .ok (.aload_n 0, 1) := by decide +kernel
theorem dX11_check_5 : decode cX11_check 5 = .ok (.getfield 324, 3) := by decide +kernel
theorem dX11_check_8 : decode cX11_check 8 = .ok (.ifCond .ne 16, 3) := by decide +kernel
theorem dX11_check_11 : decode cX11_check 11 = .ok (.aload_n 0, 1) := by decide +kernel
theorem dX11_check_12 : decode cX11_check 12 = .ok (.iload_n 2, 1) := by decide +kernel
theorem dX11_check_13 : decode cX11_check 13 = .ok (.putfield 324, 3) := by decide +kernel
theorem dX11_check_16 : decode cX11_check 16 = .ok (.aload_n 0, 1) := by decide +kernel
theorem dX11_check_17 : decode cX11_check 17 = .ok (.aload_n 0, 1) := by decide +kernel
theorem dX11_check_18 : decode cX11_check 18 = .ok (.getfield 312, 3) := by decide +kernel
theorem dX11_check_21 : decode cX11_check 21 = .ok (.putfield 333, 3) := by decide +kernel
theorem dX11_check_24 : decode cX11_check 24 = .ok (.return_, 1) := by decide +kernel
theorem dX11_advance_0 : decode cX11_advance 0 = .ok (.aload_n 0, 1) := by decide +kernel
theorem dX11_advance_1 : decode cX11_advance 1 = .ok (.getfield 324, 3) := by decide +kernel
theorem dX11_advance_4 : decode cX11_advance 4 = .ok (.ifCond .ne 7, 3) := by decide +kernel
theorem dX11_advance_7 : decode cX11_advance 7 = .ok (.aload_n 0, 1) := by decide +kernel
theorem dX11_advance_8 : decode cX11_advance 8 = .ok (.invokevirtual 330, 3) := by decide +kernel
theorem dX11_advance_11 : decode cX11_advance 11 = .ok (.return_, 1) := by decide +kernel
theorem dX11_isSymbol_0 : decode cX11_isSymbol 0 = .ok (.aload_n 0, 1) := by decide +kernel
theorem dX11_isSymbol_1 : decode cX11_isSymbol 1 = .ok (.getfield 324, 3) := by decide +kernel
theorem dX11_isSymbol_4 : decode cX11_isSymbol 4 = .ok (.ifCond .ne 28, 3) := by decide +kernel
theorem dX11_isSymbol_7 : decode cX11_isSymbol 7 = .ok (.aload_n 0, 1) := by decide +kernel
theorem dX11_isSymbol_8 : decode cX11_isSymbol 8 = .ok (.getfield 315, 3) := by decide +kernel
theorem dX11_isSymbol_11 : decode cX11_isSymbol 11 = .ok (.iconst 3, 1) := by decide +kernel
theorem dX11_isSymbol_12 : decode cX11_isSymbol 12 = .ok (.if_icmp .ne 20, 3) := by decide +kernel
theorem dX11_isSymbol_15 : decode cX11_isSymbol 15 = .ok (.aload_n 0, 1) := by decide +kernel
theorem dX11_isSymbol_16 : decode cX11_isSymbol 16 = .ok (.getfield 46, 3) := by decide +kernel
theorem dX11_isSymbol_19 : decode cX11_isSymbol 19 = .ok (.aload_n 0, 1) := by decide +kernel
theorem dX11_isSymbol_20 : decode cX11_isSymbol 20 = .ok (.getfield 312, 3) := by decide +kernel
theorem dX11_isSymbol_23 : decode cX11_isSymbol 23 = .ok (.iaload, 1) := by decide +kernel
theorem dX11_isSymbol_24 : decode cX11_isSymbol 24 = .ok (.iload_n 1, 1) := by decide +kernel
theorem dX11_isSymbol_25 : decode cX11_isSymbol 25 = .ok (.if_icmp .ne 7, 3) := by decide +kernel
theorem dX11_isSymbol_28 : decode cX11_isSymbol 28 = .ok (.iconst 1, 1) := by decide +kernel
theorem dX11_isSymbol_29 : decode cX11_isSymbol 29 = .ok (.goto 4, 3) := by decide +kernel
theorem dX11_isSymbol_32 : decode cX11_isSymbol 32 = .ok (.iconst 0, 1) := by decide +kernel
theorem dX11_isSymbol_33 : decode cX11_isSymbol 33 = .ok (.ireturn, 1) := by decide +kernel
theorem dX11_isWord_0 : decode cX11_isWord 0 = .ok (.aload_n 0, 1) := by decide +kernel
theorem dX11_isWord_1 : decode cX11_isWord 1 = .ok (.getfield 324, 3) := by decide +kernel
theorem dX11_isWord_4 : decode cX11_isWord 4 = .ok (.ifCond .ne 31, 3) := by decide +kernel
theorem dX11_isWord_7 : decode cX11_isWord 7 = .ok (.aload_n 0, 1) := by decide +kernel
theorem dX11_isWord_8 : decode cX11_isWord 8 = .ok (.getfield 315, 3) := by decide +kernel
theorem dX11_isWord_11 : decode cX11_isWord 11 = .ok (.iconst 1, 1) := by decide +kernel
theorem dX11_isWord_12 : decode cX11_isWord 12 = .ok (.if_icmp .ne 23, 3) := by decide +kernel
theorem dX11_isWord_15 : decode cX11_isWord 15 = .ok (.aload_n 1, 1) := by decide +kernel
theorem dX11_isWord_16 : decode cX11_isWord 16 = .ok (.invokevirtual 336, 3) := by decide +kernel
theorem dX11_isWord_19 : decode cX11_isWord 19 = .ok (.aload_n 0, 1) := by decide +kernel
theorem dX11_isWord_20 : decode cX11_isWord 20 = .ok (.getfield 309, 3) := by decide +kernel
theorem dX11_isWord_23 : decode cX11_isWord 23 = .ok (.aload_n 0, 1) := by decide +kernel
theorem dX11_isWord_24 : decode cX11_isWord 24 = .ok (.getfield 312, 3) := by decide +kernel
theorem dX11_isWord_27 : decode cX11_isWord 27 = .ok (.isub, 1) := by decide +kernel
theorem dX11_isWord_28 : decode cX11_isWord 28 = .ok (.if_icmp .ne 7, 3) := by decide +kernel
theorem dX11_isWord_31 : decode cX11_isWord 31 = .ok (.iconst 1, 1) := by decide +kernel
theorem dX11_isWord_32 : decode cX11_isWord 32 = .ok (.goto 4, 3) := by decide +kernel
theorem dX11_isWord_35 : decode cX11_isWord 35 = .ok (.iconst 0, 1) := by decide +kernel
theorem dX11_isWord_36 : decode cX11_isWord 36 = .ok (.istore_n 2, 1) := by decide +kernel
theorem dX11_isWord_37 : decode cX11_isWord 37 = .ok (.iconst 0, 1) := by decide +kernel
theorem dX11_isWord_38 : decode cX11_isWord 38 = .ok (.istore_n 3, 1) := by decide +kernel
theorem dX11_isWord_39 : decode cX11_isWord 39 = .ok (.iload_n 2, 1) := by decide +kernel
theorem dX11_isWord_40 : decode cX11_isWord 40 = .ok (.ifCond .eq 42, 3) := by decide +kernel
theorem dX11_isWord_43 : decode cX11_isWord 43 = .ok (.iload_n 3, 1) := by decide +kernel
theorem dX11_isWord_44 : decode cX11_isWord 44 = .ok (.aload_n 1, 1) := by decide +kernel
theorem dX11_isWord_45 : decode cX11_isWord 45 = .ok (.invokevirtual 336, 3) := by decide +kernel
theorem dX11_isWord_48 : decode cX11_isWord 48 = .ok (.if_icmp .ge 34, 3) := by decide +kernel
theorem dX11_isWord_51 : decode cX11_isWord 51 = .ok (.aload_n 1, 1) := by decide +kernel
theorem dX11_isWord_52 : decode cX11_isWord 52 = .ok (.iload_n 3, 1) := by decide +kernel
theorem dX11_isWord_53 : decode cX11_isWord 53 = .ok (.invokevirtual 339, 3) := by decide +kernel
theorem dX11_isWord_56 : decode cX11_isWord 56 = .ok (.aload_n 0, 1) := by decide +kernel
theorem dX11_isWord_57 : decode cX11_isWord 57 = .ok (.getfield 46, 3) := by decide +kernel
theorem dX11_isWord_60 : decode cX11_isWord 60 = .ok (.aload_n 0, 1) := by decide +kernel
theorem dX11_isWord_61 : decode cX11_isWord 61 = .ok (.getfield 312, 3) := by decide +kernel
theorem dX11_isWord_64 : decode cX11_isWord 64 = .ok (.iload_n 3, 1) := by decide +kernel
theorem dX11_isWord_65 : decode cX11_isWord 65 = .ok (.iadd, 1) := by decide +kernel
theorem dX11_isWord_66 : decode cX11_isWord 66 = .ok (.iaload, 1) := by decide +kernel
theorem dX11_isWord_67 : decode cX11_isWord 67 = .ok (.if_icmp .ne 7, 3) := by decide +kernel
theorem dX11_isWord_70 : decode cX11_isWord 70 = .ok (.iconst 1, 1) := by decide +kernel
theorem dX11_isWord_71 : decode cX11_isWord 71 = .ok (.goto 4, 3) := by decide +kernel
theorem dX11_isWord_74 : decode cX11_isWord 74 = .ok (.iconst 0, 1) := by decide +kernel
theorem dX11_isWord_75 : decode cX11_isWord 75 = .ok (.istore_n 2, 1) := by decide +kernel
theorem dX11_isWord_76 : decode cX11_isWord 76 = .ok (.iinc 3 1, 3) := by decide +kernel
theorem dX11_isWord_79 : decode cX11_isWord 79 = .ok (.goto (-40), 3) := by decide +kernel
theorem dX11_isWord_82 : decode cX11_isWord 82 = .ok (.iload_n 2, 1) := by decide +kernel
theorem dX11_isWord_83 : decode cX11_isWord 83 = .ok (.ireturn, 1) := by decide +kernel
theorem dX11_expect_0 : decode cX11_expect 0 = .ok (.aload_n 0, 1) := by decide +kernel
theorem dX11_expect_1 : decode cX11_expect 1 = .ok (.aload_n 0, 1) := by decide +kernel
theorem dX11_expect_2 : decode cX11_expect 2 = .ok (.iload_n 1, 1) := by decide +kernel
theorem dX11_expect_3 : decode cX11_expect 3 = .ok (.invokevirtual 347, 3) := by decide +kernel
theorem dX11_expect_6 : decode cX11_expect 6 = .ok (.iconst 1, 1) := by decide +kernel
theorem dX11_expect_7 : decode cX11_expect 7 = .ok (.invokevirtual 350, 3) := by decide +kernel
theorem dX11_expect_10 : decode cX11_expect 10 = .ok (.aload_n 0, 1) := by decide +kernel
theorem dX11_expect_11 : decode cX11_expect 11 = .ok (.invokevirtual 354, 3) := by decide +kernel
theorem dX11_expect_14 : decode cX11_expect 14 = .ok (.return_, 1) := by decide +kernel
theorem dX11_value_0 : decode cX11_value 0 = .ok (.iconst 0, 1) := by decide +kernel
theorem dX11_value_1 : decode cX11_value 1 = .ok (.istore_n 1, 1) := by decide +kernel
theorem dX11_value_2 : decode cX11_value 2 = .ok (.aload_n 0, 1) := by decide +kernel
theorem dX11_value_3 : decode cX11_value 3 = .ok (.getfield 312, 3) := by decide +kernel
theorem dX11_value_6 : decode cX11_value 6 = .ok (.istore_n 2, 1) := by decide +kernel
theorem dX11_value_7 : decode cX11_value 7 = .ok (.iload_n 2, 1) := by decide +kernel
theorem dX11_value_8 : decode cX11_value 8 = .ok (.aload_n 0, 1) := by decide +kernel
theorem dX11_value_9 : decode cX11_value 9 = .ok (.getfield 309, 3) := by decide +kernel
theorem dX11_value_12 : decode cX11_value 12 = .ok (.if_icmp .ge 43, 3) := by decide +kernel
theorem dX11_value_15 : decode cX11_value 15 = .ok (.aload_n 0, 1) := by decide +kernel
theorem dX11_value_16 : decode cX11_value 16 = .ok (.getfield 315, 3) := by decide +kernel
theorem dX11_value_19 : decode cX11_value 19 = .ok (.iconst 2, 1) := by decide +kernel
theorem dX11_value_20 : decode cX11_value 20 = .ok (.if_icmp .ne 35, 3) := by decide +kernel
theorem dX11_value_23 : decode cX11_value 23 = .ok (.iload_n 1, 1) := by decide +kernel
theorem dX11_value_24 : decode cX11_value 24 = .ok (.ldc_w 357, 3) := by decide +kernel
theorem dX11_value_27 : decode cX11_value 27 = .ok (.if_icmp .le 7, 3) := by decide +kernel
theorem dX11_value_30 : decode cX11_value 30 = .ok (.iload_n 1, 1) := by decide +kernel
theorem dX11_value_31 : decode cX11_value 31 = .ok (.goto 17, 3) := by decide +kernel
theorem dX11_value_34 : decode cX11_value 34 = .ok (.bipush 10, 2) := by decide +kernel
theorem dX11_value_36 : decode cX11_value 36 = .ok (.iload_n 1, 1) := by decide +kernel
theorem dX11_value_37 : decode cX11_value 37 = .ok (.imul, 1) := by decide +kernel
theorem dX11_value_38 : decode cX11_value 38 = .ok (.aload_n 0, 1) := by decide +kernel
theorem dX11_value_39 : decode cX11_value 39 = .ok (.getfield 46, 3) := by decide +kernel
theorem dX11_value_42 : decode cX11_value 42 = .ok (.iload_n 2, 1) := by decide +kernel
theorem dX11_value_43 : decode cX11_value 43 = .ok (.iaload, 1) := by decide +kernel
theorem dX11_value_44 : decode cX11_value 44 = .ok (.iadd, 1) := by decide +kernel
theorem dX11_value_45 : decode cX11_value 45 = .ok (.bipush 48, 2) := by decide +kernel
theorem dX11_value_47 : decode cX11_value 47 = .ok (.isub, 1) := by decide +kernel
theorem dX11_value_48 : decode cX11_value 48 = .ok (.istore_n 1, 1) := by decide +kernel
theorem dX11_value_49 : decode cX11_value 49 = .ok (.iinc 2 1, 3) := by decide +kernel
theorem dX11_value_52 : decode cX11_value 52 = .ok (.goto (-45), 3) := by decide +kernel
theorem dX11_value_55 : decode cX11_value 55 = .ok (.iload_n 1, 1) := by decide +kernel
theorem dX11_value_56 : decode cX11_value 56 = .ok (.ireturn, 1) := by decide +kernel
theorem dX11_look_0 : decode cX11_look 0 = .ok (.aload_n 0, 1) := by decide +kernel
theorem dX11_look_1 : decode cX11_look 1 = .ok (.aload_n 0, 1) := by decide +kernel
theorem dX11_look_2 : decode cX11_look 2 = .ok (.getfield 315, 3) := by decide +kernel
theorem dX11_look_5 : decode cX11_look 5 = .ok (.iconst 2, 1) := by decide +kernel
theorem dX11_look_6 : decode cX11_look 6 = .ok (.if_icmp .ne 7, 3) := by decide +kernel
theorem dX11_look_9 : decode cX11_look 9 = .ok (.iconst 1, 1) := by decide +kernel
theorem dX11_look_10 : decode cX11_look 10 = .ok (.goto 4, 3) := by decide +kernel
theorem dX11_look_13 : decode cX11_look 13 = .ok (.iconst 0, 1) := by decide +kernel
theorem dX11_look_14 : decode cX11_look 14 = .ok (.iconst 1, 1) := by decide +kernel
theorem dX11_look_15 : decode cX11_look 15 = .ok (.invokevirtual 350, 3) := by decide +kernel
theorem dX11_look_18 : decode cX11_look 18 = .ok (.aload_n 0, 1) := by decide +kernel
theorem dX11_look_19 : decode cX11_look 19 = .ok (.invokevirtual 358, 3) := by decide +kernel
theorem dX11_look_22 : decode cX11_look 22 = .ok (.istore_n 3, 1) := by decide +kernel
theorem dX11_look_23 : decode cX11_look 23 = .ok (.aload_n 0, 1) := by decide +kernel
theorem dX11_look_24 : decode cX11_look 24 = .ok (.iload_n 3, 1) := by decide +kernel
theorem dX11_look_25 : decode cX11_look 25 = .ok (.iload_n 1, 1) := by decide +kernel
theorem dX11_look_26 : decode cX11_look 26 = .ok (.iload_n 2, 1) := by decide +kernel
theorem dX11_look_27 : decode cX11_look 27 = .ok (.invokestatic 81, 3) := by decide +kernel
theorem dX11_look_30 : decode cX11_look 30 = .ok (.iconst 2, 1) := by decide +kernel
theorem dX11_look_31 : decode cX11_look 31 = .ok (.invokevirtual 350, 3) := by decide +kernel
theorem dX11_look_34 : decode cX11_look 34 = .ok (.aload_n 0, 1) := by decide +kernel
theorem dX11_look_35 : decode cX11_look 35 = .ok (.getfield 324, 3) := by decide +kernel
theorem dX11_look_38 : decode cX11_look 38 = .ok (.ifCond .ne 7, 3) := by decide +kernel
theorem dX11_look_41 : decode cX11_look 41 = .ok (.iload_n 3, 1) := by decide +kernel
theorem dX11_look_42 : decode cX11_look 42 = .ok (.goto 4, 3) := by decide +kernel
theorem dX11_look_45 : decode cX11_look 45 = .ok (.iload_n 1, 1) := by decide +kernel
theorem dX11_look_46 : decode cX11_look 46 = .ok (.ireturn, 1) := by decide +kernel
theorem dX11_readNumber_0 : decode cX11_readNumber 0 = .ok (.aload_n 0, 1) := by decide +kernel
theorem dX11_readNumber_1 : decode cX11_readNumber 1 = .ok (.iload_n 1, 1) := by decide +kernel
theorem dX11_readNumber_2 : decode cX11_readNumber 2 = .ok (.iload_n 2, 1) := by decide +kernel
theorem dX11_readNumber_3 : decode cX11_readNumber 3 = .ok (.invokevirtual 361, 3) := by decide +kernel
theorem dX11_readNumber_6 : decode cX11_readNumber 6 = .ok (.istore_n 3, 1) := by decide +kernel
theorem dX11_readNumber_7 : decode cX11_readNumber 7 = .ok (.aload_n 0, 1) := by decide +kernel
theorem dX11_readNumber_8 : decode cX11_readNumber 8 = .ok (.invokevirtual 354, 3) := by decide +kernel
theorem dX11_readNumber_11 : decode cX11_readNumber 11 = .ok (.iload_n 3, 1) := by decide +kernel
theorem dX11_readNumber_12 : decode cX11_readNumber 12 = .ok (.ireturn, 1) := by decide +kernel
theorem dX11_readStretch_0 : decode cX11_readStretch 0 = .ok (.aload_n 0, 1) := by decide +kernel
theorem dX11_readStretch_1 : decode cX11_readStretch 1 = .ok (.aload_n 0, 1) := by decide +kernel
theorem dX11_readStretch_2 : decode cX11_readStretch 2 = .ok (.getfield 31, 3) := by decide +kernel
theorem dX11_readStretch_5 : decode cX11_readStretch 5 = .ok (.iconst 1, 1) := by decide +kernel
theorem dX11_readStretch_6 : decode cX11_readStretch 6 = .ok (.iaload, 1) := by decide +kernel
theorem dX11_readStretch_7 : decode cX11_readStretch 7 = .ok (.bipush 12, 2) := by decide +kernel
theorem dX11_readStretch_9 : decode cX11_readStretch 9 = .ok (.if_icmp .ge 7, 3) := by decide +kernel
theorem dX11_readStretch_12 : decode cX11_readStretch 12 = .ok (.iconst 1, 1) := by decide +kernel
theorem dX11_readStretch_13 : decode cX11_readStretch 13 = .ok (.goto 4, 3) := by decide +kernel
theorem dX11_readStretch_16 : decode cX11_readStretch 16 = .ok (.iconst 0, 1) := by decide +kernel
theorem dX11_readStretch_17 : decode cX11_readStretch 17 = .ok (.iconst 4, 1) := by decide +kernel
theorem dX11_readStretch_18 : decode cX11_readStretch 18 = .ok (.invokevirtual 350, 3) := by decide +kernel
theorem dX11_readStretch_21 : decode cX11_readStretch 21 = .ok (.aload_n 0, 1) := by decide +kernel
theorem dX11_readStretch_22 : decode cX11_readStretch 22 = .ok (.invokevirtual 354, 3) := by decide +kernel
theorem dX11_readStretch_25 : decode cX11_readStretch 25 = .ok (.aload_n 0, 1) := by decide +kernel
theorem dX11_readStretch_26 : decode cX11_readStretch 26 = .ok (.iconst 1, 1) := by decide +kernel
theorem dX11_readStretch_27 : decode cX11_readStretch 27 = .ok (.sipush 400, 3) := by decide +kernel
theorem dX11_readStretch_30 : decode cX11_readStretch 30 = .ok (.invokevirtual 364, 3) := by decide +kernel
theorem dX11_readStretch_33 : decode cX11_readStretch 33 = .ok (.istore_n 1, 1) := by decide +kernel
theorem dX11_readStretch_34 : decode cX11_readStretch 34 = .ok (.aload_n 0, 1) := by decide +kernel
theorem dX11_readStretch_35 : decode cX11_readStretch 35 = .ok (.bipush 59, 2) := by decide +kernel
theorem dX11_readStretch_37 : decode cX11_readStretch 37 = .ok (.invokevirtual 367, 3) := by decide +kernel
theorem dX11_readStretch_40 : decode cX11_readStretch 40 = .ok (.aload_n 0, 1) := by decide +kernel
theorem dX11_readStretch_41 : decode cX11_readStretch 41 = .ok (.getfield 324, 3) := by decide +kernel
theorem dX11_readStretch_44 : decode cX11_readStretch 44 = .ok (.ifCond .ne 27, 3) := by decide +kernel
theorem dX11_readStretch_47 : decode cX11_readStretch 47 = .ok (.aload_n 0, 1) := by decide +kernel
theorem dX11_readStretch_48 : decode cX11_readStretch 48 = .ok (.getfield 31, 3) := by decide +kernel
theorem dX11_readStretch_51 : decode cX11_readStretch 51 = .ok (.iconst 2, 1) := by decide +kernel
theorem dX11_readStretch_52 : decode cX11_readStretch 52 = .ok (.aload_n 0, 1) := by decide +kernel
theorem dX11_readStretch_53 : decode cX11_readStretch 53 = .ok (.getfield 31, 3) := by decide +kernel
theorem dX11_readStretch_56 : decode cX11_readStretch 56 = .ok (.iconst 1, 1) := by decide +kernel
theorem dX11_readStretch_57 : decode cX11_readStretch 57 = .ok (.iaload, 1) := by decide +kernel
theorem dX11_readStretch_58 : decode cX11_readStretch 58 = .ok (.iadd, 1) := by decide +kernel
theorem dX11_readStretch_59 : decode cX11_readStretch 59 = .ok (.iload_n 1, 1) := by decide +kernel
theorem dX11_readStretch_60 : decode cX11_readStretch 60 = .ok (.iastore, 1) := by decide +kernel
theorem dX11_readStretch_61 : decode cX11_readStretch 61 = .ok (.aload_n 0, 1) := by decide +kernel
theorem dX11_readStretch_62 : decode cX11_readStretch 62 = .ok (.getfield 31, 3) := by decide +kernel
theorem dX11_readStretch_65 : decode cX11_readStretch 65 = .ok (.iconst 1, 1) := by decide +kernel
theorem dX11_readStretch_66 : decode cX11_readStretch 66 = .ok (.dup2, 1) := by decide +kernel
theorem dX11_readStretch_67 : decode cX11_readStretch 67 = .ok (.iaload, 1) := by decide +kernel
theorem dX11_readStretch_68 : decode cX11_readStretch 68 = .ok (.iconst 1, 1) := by decide +kernel
theorem dX11_readStretch_69 : decode cX11_readStretch 69 = .ok (.iadd, 1) := by decide +kernel
theorem dX11_readStretch_70 : decode cX11_readStretch 70 = .ok (.iastore, 1) := by decide +kernel
theorem dX11_readStretch_71 : decode cX11_readStretch 71 = .ok (.return_, 1) := by decide +kernel
theorem dX11_readStriker_0 : decode cX11_readStriker 0 = .ok (.aload_n 0, 1) := by decide +kernel
theorem dX11_readStriker_1 : decode cX11_readStriker 1 = .ok (.aload_n 0, 1) := by decide +kernel
theorem dX11_readStriker_2 : decode cX11_readStriker 2 = .ok (.getfield 31, 3) := by decide +kernel
theorem dX11_readStriker_5 : decode cX11_readStriker 5 = .ok (.bipush 14, 2) := by decide +kernel
theorem dX11_readStriker_7 : decode cX11_readStriker 7 = .ok (.iaload, 1) := by decide +kernel
theorem dX11_readStriker_8 : decode cX11_readStriker 8 = .ok (.bipush 30, 2) := by decide +kernel
theorem dX11_readStriker_10 : decode cX11_readStriker 10 = .ok (.if_icmp .ge 7, 3) := by decide +kernel
theorem dX11_readStriker_13 : decode cX11_readStriker 13 = .ok (.iconst 1, 1) := by decide +kernel
theorem dX11_readStriker_14 : decode cX11_readStriker 14 = .ok (.goto 4, 3) := by decide +kernel
theorem dX11_readStriker_17 : decode cX11_readStriker 17 = .ok (.iconst 0, 1) := by decide +kernel
theorem dX11_readStriker_18 : decode cX11_readStriker 18 = .ok (.iconst 4, 1) := by decide +kernel
theorem dX11_readStriker_19 : decode cX11_readStriker 19 = .ok (.invokevirtual 350, 3) := by decide +kernel
theorem dX11_readStriker_22 : decode cX11_readStriker 22 = .ok (.aload_n 0, 1) := by decide +kernel
theorem dX11_readStriker_23 : decode cX11_readStriker 23 = .ok (.invokevirtual 354, 3) := by decide +kernel
theorem dX11_readStriker_26 : decode cX11_readStriker 26 = .ok (.aload_n 0, 1) := by decide +kernel
theorem dX11_readStriker_27 : decode cX11_readStriker 27 = .ok (.iconst 2, 1) := by decide +kernel
theorem dX11_readStriker_28 : decode cX11_readStriker 28 = .ok (.bipush 120, 2) := by decide +kernel
theorem dX11_readStriker_30 : decode cX11_readStriker 30 = .ok (.invokevirtual 361, 3) := by decide +kernel
theorem dX11_readStriker_33 : decode cX11_readStriker 33 = .ok (.istore_n 1, 1) := by decide +kernel
theorem dX11_readStriker_34 : decode cX11_readStriker 34 = .ok (.aload_n 0, 1) := by decide +kernel
theorem dX11_readStriker_35 : decode cX11_readStriker 35 = .ok (.aload_n 0, 1) := by decide +kernel
theorem dX11_readStriker_36 : decode cX11_readStriker 36 = .ok (.getfield 324, 3) := by decide +kernel
theorem dX11_readStriker_39 : decode cX11_readStriker 39 = .ok (.ifCond .ne 12, 3) := by decide +kernel
theorem dX11_readStriker_42 : decode cX11_readStriker 42 = .ok (.aload_n 0, 1) := by decide +kernel
theorem dX11_readStriker_43 : decode cX11_readStriker 43 = .ok (.iload_n 1, 1) := by decide +kernel
theorem dX11_readStriker_44 : decode cX11_readStriker 44 = .ok (.invokevirtual 110, 3) := by decide +kernel
theorem dX11_readStriker_47 : decode cX11_readStriker 47 = .ok (.iconst (-1), 1) := by decide +kernel
theorem dX11_readStriker_48 : decode cX11_readStriker 48 = .ok (.if_icmp .ne 7, 3) := by decide +kernel
theorem dX11_readStriker_51 : decode cX11_readStriker 51 = .ok (.iconst 1, 1) := by decide +kernel
theorem dX11_readStriker_52 : decode cX11_readStriker 52 = .ok (.goto 4, 3) := by decide +kernel
theorem dX11_readStriker_55 : decode cX11_readStriker 55 = .ok (.iconst 0, 1) := by decide +kernel
theorem dX11_readStriker_56 : decode cX11_readStriker 56 = .ok (.iconst 3, 1) := by decide +kernel
theorem dX11_readStriker_57 : decode cX11_readStriker 57 = .ok (.invokevirtual 350, 3) := by decide +kernel
theorem dX11_readStriker_60 : decode cX11_readStriker 60 = .ok (.aload_n 0, 1) := by decide +kernel
theorem dX11_readStriker_61 : decode cX11_readStriker 61 = .ok (.invokevirtual 354, 3) := by decide +kernel
theorem dX11_readStriker_64 : decode cX11_readStriker 64 = .ok (.aload_n 0, 1) := by decide +kernel
theorem dX11_readStriker_65 : decode cX11_readStriker 65 = .ok (.bipush 59, 2) := by decide +kernel
theorem dX11_readStriker_67 : decode cX11_readStriker 67 = .ok (.invokevirtual 367, 3) := by decide +kernel
theorem dX11_readStriker_70 : decode cX11_readStriker 70 = .ok (.aload_n 0, 1) := by decide +kernel
theorem dX11_readStriker_71 : decode cX11_readStriker 71 = .ok (.getfield 324, 3) := by decide +kernel
theorem dX11_readStriker_74 : decode cX11_readStriker 74 = .ok (.ifCond .ne 8, 3) := by decide +kernel
theorem dX11_readStriker_77 : decode cX11_readStriker 77 = .ok (.aload_n 0, 1) := by decide +kernel
theorem dX11_readStriker_78 : decode cX11_readStriker 78 = .ok (.iload_n 1, 1) := by decide +kernel
theorem dX11_readStriker_79 : decode cX11_readStriker 79 = .ok (.invokevirtual 229, 3) := by decide +kernel
theorem dX11_readStriker_82 : decode cX11_readStriker 82 = .ok (.return_, 1) := by decide +kernel
theorem dX11_readText_0 : decode cX11_readText 0 = .ok (.aload_n 0, 1) := by decide +kernel
theorem dX11_readText_1 : decode cX11_readText 1 = .ok (.aload_n 0, 1) := by decide +kernel
theorem dX11_readText_2 : decode cX11_readText 2 = .ok (.ldc_w 370, 3) := by decide +kernel
theorem dX11_readText_5 : decode cX11_readText 5 = .ok (.invokevirtual 343, 3) := by decide +kernel
theorem dX11_readText_8 : decode cX11_readText 8 = .ok (.iconst 1, 1) := by decide +kernel
theorem dX11_readText_9 : decode cX11_readText 9 = .ok (.invokevirtual 350, 3) := by decide +kernel
theorem dX11_readText_12 : decode cX11_readText 12 = .ok (.aload_n 0, 1) := by decide +kernel
theorem dX11_readText_13 : decode cX11_readText 13 = .ok (.invokevirtual 354, 3) := by decide +kernel
theorem dX11_readText_16 : decode cX11_readText 16 = .ok (.aload_n 0, 1) := by decide +kernel
theorem dX11_readText_17 : decode cX11_readText 17 = .ok (.getfield 31, 3) := by decide +kernel
theorem dX11_readText_20 : decode cX11_readText 20 = .ok (.iconst 0, 1) := by decide +kernel
theorem dX11_readText_21 : decode cX11_readText 21 = .ok (.aload_n 0, 1) := by decide +kernel
theorem dX11_readText_22 : decode cX11_readText 22 = .ok (.iconst 0, 1) := by decide +kernel
theorem dX11_readText_23 : decode cX11_readText 23 = .ok (.iconst 4, 1) := by decide +kernel
theorem dX11_readText_24 : decode cX11_readText 24 = .ok (.invokevirtual 364, 3) := by decide +kernel
theorem dX11_readText_27 : decode cX11_readText 27 = .ok (.iastore, 1) := by decide +kernel
theorem dX11_readText_28 : decode cX11_readText 28 = .ok (.aload_n 0, 1) := by decide +kernel
theorem dX11_readText_29 : decode cX11_readText 29 = .ok (.bipush 59, 2) := by decide +kernel
theorem dX11_readText_31 : decode cX11_readText 31 = .ok (.invokevirtual 367, 3) := by decide +kernel
theorem dX11_readText_34 : decode cX11_readText 34 = .ok (.aload_n 0, 1) := by decide +kernel
theorem dX11_readText_35 : decode cX11_readText 35 = .ok (.ldc_w 372, 3) := by decide +kernel
theorem dX11_readText_38 : decode cX11_readText 38 = .ok (.invokevirtual 343, 3) := by decide +kernel
theorem dX11_readText_41 : decode cX11_readText 41 = .ok (.ifCond .eq 10, 3) := by decide +kernel
theorem dX11_readText_44 : decode cX11_readText 44 = .ok (.aload_n 0, 1) := by decide +kernel
theorem dX11_readText_45 : decode cX11_readText 45 = .ok (.invokevirtual 374, 3) := by decide +kernel
theorem dX11_readText_48 : decode cX11_readText 48 = .ok (.goto (-14), 3) := by decide +kernel
theorem dX11_readText_51 : decode cX11_readText 51 = .ok (.aload_n 0, 1) := by decide +kernel
theorem dX11_readText_52 : decode cX11_readText 52 = .ok (.ldc_w 377, 3) := by decide +kernel
theorem dX11_readText_55 : decode cX11_readText 55 = .ok (.invokevirtual 343, 3) := by decide +kernel
theorem dX11_readText_58 : decode cX11_readText 58 = .ok (.ifCond .eq 10, 3) := by decide +kernel
theorem dX11_readText_61 : decode cX11_readText 61 = .ok (.aload_n 0, 1) := by decide +kernel
theorem dX11_readText_62 : decode cX11_readText 62 = .ok (.invokevirtual 379, 3) := by decide +kernel
theorem dX11_readText_65 : decode cX11_readText 65 = .ok (.goto (-14), 3) := by decide +kernel
theorem dX11_readText_68 : decode cX11_readText 68 = .ok (.aload_n 0, 1) := by decide +kernel
theorem dX11_readText_69 : decode cX11_readText 69 = .ok (.aload_n 0, 1) := by decide +kernel
theorem dX11_readText_70 : decode cX11_readText 70 = .ok (.getfield 324, 3) := by decide +kernel
theorem dX11_readText_73 : decode cX11_readText 73 = .ok (.ifCond .ne 10, 3) := by decide +kernel
theorem dX11_readText_76 : decode cX11_readText 76 = .ok (.aload_n 0, 1) := by decide +kernel
theorem dX11_readText_77 : decode cX11_readText 77 = .ok (.getfield 315, 3) := by decide +kernel
theorem dX11_readText_80 : decode cX11_readText 80 = .ok (.ifCond .ne 7, 3) := by decide +kernel
theorem dX11_readText_83 : decode cX11_readText 83 = .ok (.iconst 1, 1) := by decide +kernel
theorem dX11_readText_84 : decode cX11_readText 84 = .ok (.goto 4, 3) := by decide +kernel
theorem dX11_readText_87 : decode cX11_readText 87 = .ok (.iconst 0, 1) := by decide +kernel
theorem dX11_readText_88 : decode cX11_readText 88 = .ok (.iconst 1, 1) := by decide +kernel
theorem dX11_readText_89 : decode cX11_readText 89 = .ok (.invokevirtual 350, 3) := by decide +kernel
theorem dX11_readText_92 : decode cX11_readText 92 = .ok (.return_, 1) := by decide +kernel
theorem dX11_load_0 : decode cX11_load 0 = .ok (.aload_n 0, 1) := by decide +kernel
theorem dX11_load_1 : decode cX11_load 1 = .ok (.iconst 0, 1) := by decide +kernel
theorem dX11_load_2 : decode cX11_load 2 = .ok (.putfield 78, 3) := by decide +kernel
theorem dX11_load_5 : decode cX11_load 5 = .ok (.iload_n 1, 1) := by decide +kernel
theorem dX11_load_6 : decode cX11_load 6 = .ok (.iconst 0, 1) := by decide +kernel
theorem dX11_load_7 : decode cX11_load 7 = .ok (.aload_n 0, 1) := by decide +kernel
theorem dX11_load_8 : decode cX11_load 8 = .ok (.getfield 300, 3) := by decide +kernel
theorem dX11_load_11 : decode cX11_load 11 = .ok (.invokestatic 81, 3) := by decide +kernel
theorem dX11_load_14 : decode cX11_load 14 = .ok (.ifCond .ne 9, 3) := by decide +kernel
theorem dX11_load_17 : decode cX11_load 17 = .ok (.aload_n 0, 1) := by decide +kernel
theorem dX11_load_18 : decode cX11_load 18 = .ok (.iconst 1, 1) := by decide +kernel
theorem dX11_load_19 : decode cX11_load 19 = .ok (.invokevirtual 160, 3) := by decide +kernel
theorem dX11_load_22 : decode cX11_load 22 = .ok (.ireturn, 1) := by decide +kernel
theorem dX11_load_23 : decode cX11_load 23 = .ok (.aload_n 0, 1) := by decide +kernel
theorem dX11_load_24 : decode cX11_load 24 = .ok (.iload_n 1, 1) := by decide +kernel
theorem dX11_load_25 : decode cX11_load 25 = .ok (.invokevirtual 382, 3) := by decide +kernel
theorem dX11_load_28 : decode cX11_load 28 = .ok (.aload_n 0, 1) := by decide +kernel
theorem dX11_load_29 : decode cX11_load 29 = .ok (.aload_n 0, 1) := by decide +kernel
theorem dX11_load_30 : decode cX11_load 30 = .ok (.getfield 13, 3) := by decide +kernel
theorem dX11_load_33 : decode cX11_load 33 = .ok (.putfield 31, 3) := by decide +kernel
theorem dX11_load_36 : decode cX11_load 36 = .ok (.iconst 0, 1) := by decide +kernel
theorem dX11_load_37 : decode cX11_load 37 = .ok (.istore_n 2, 1) := by decide +kernel
theorem dX11_load_38 : decode cX11_load 38 = .ok (.iload_n 2, 1) := by decide +kernel
theorem dX11_load_39 : decode cX11_load 39 = .ok (.bipush 45, 2) := by decide +kernel
theorem dX11_load_41 : decode cX11_load 41 = .ok (.if_icmp .ge 16, 3) := by decide +kernel
theorem dX11_load_44 : decode cX11_load 44 = .ok (.aload_n 0, 1) := by decide +kernel
theorem dX11_load_45 : decode cX11_load 45 = .ok (.getfield 31, 3) := by decide +kernel
theorem dX11_load_48 : decode cX11_load 48 = .ok (.iload_n 2, 1) := by decide +kernel
theorem dX11_load_49 : decode cX11_load 49 = .ok (.iconst 0, 1) := by decide +kernel
theorem dX11_load_50 : decode cX11_load 50 = .ok (.iastore, 1) := by decide +kernel
theorem dX11_load_51 : decode cX11_load 51 = .ok (.iinc 2 1, 3) := by decide +kernel
theorem dX11_load_54 : decode cX11_load 54 = .ok (.goto (-16), 3) := by decide +kernel
theorem dX11_load_57 : decode cX11_load 57 = .ok (.aload_n 0, 1) := by decide +kernel
theorem dX11_load_58 : decode cX11_load 58 = .ok (.invokevirtual 385, 3) := by decide +kernel
theorem dX11_load_61 : decode cX11_load 61 = .ok (.aload_n 0, 1) := by decide +kernel
theorem dX11_load_62 : decode cX11_load 62 = .ok (.aload_n 0, 1) := by decide +kernel
theorem dX11_load_63 : decode cX11_load 63 = .ok (.getfield 9, 3) := by decide +kernel
theorem dX11_load_66 : decode cX11_load 66 = .ok (.putfield 31, 3) := by decide +kernel
theorem dX11_load_69 : decode cX11_load 69 = .ok (.aload_n 0, 1) := by decide +kernel
theorem dX11_load_70 : decode cX11_load 70 = .ok (.invokevirtual 388, 3) := by decide +kernel
theorem dX11_load_73 : decode cX11_load 73 = .ok (.ifCond .eq 11, 3) := by decide +kernel
theorem dX11_load_76 : decode cX11_load 76 = .ok (.bipush (-10), 2) := by decide +kernel
theorem dX11_load_78 : decode cX11_load 78 = .ok (.aload_n 0, 1) := by decide +kernel
theorem dX11_load_79 : decode cX11_load 79 = .ok (.getfield 324, 3) := by decide +kernel
theorem dX11_load_82 : decode cX11_load 82 = .ok (.isub, 1) := by decide +kernel
theorem dX11_load_83 : decode cX11_load 83 = .ok (.ireturn, 1) := by decide +kernel
theorem dX11_load_84 : decode cX11_load 84 = .ok (.aload_n 0, 1) := by decide +kernel
theorem dX11_load_85 : decode cX11_load 85 = .ok (.getfield 13, 3) := by decide +kernel
theorem dX11_load_88 : decode cX11_load 88 = .ok (.iconst 0, 1) := by decide +kernel
theorem dX11_load_89 : decode cX11_load 89 = .ok (.aload_n 0, 1) := by decide +kernel
theorem dX11_load_90 : decode cX11_load 90 = .ok (.getfield 9, 3) := by decide +kernel
theorem dX11_load_93 : decode cX11_load 93 = .ok (.iconst 0, 1) := by decide +kernel
theorem dX11_load_94 : decode cX11_load 94 = .ok (.invokestatic 241, 3) := by decide +kernel
theorem dX11_load_97 : decode cX11_load 97 = .ok (.aload_n 0, 1) := by decide +kernel
theorem dX11_load_98 : decode cX11_load 98 = .ok (.iconst 0, 1) := by decide +kernel
theorem dX11_load_99 : decode cX11_load 99 = .ok (.putfield 245, 3) := by decide +kernel
theorem dX11_load_102 : decode cX11_load 102 = .ok (.aload_n 0, 1) := by decide +kernel
theorem dX11_load_103 : decode cX11_load 103 = .ok (.iconst 0, 1) := by decide +kernel
theorem dX11_load_104 : decode cX11_load 104 = .ok (.putfield 296, 3) := by decide +kernel
theorem dX11_load_107 : decode cX11_load 107 = .ok (.aload_n 0, 1) := by decide +kernel
theorem dX11_load_108 : decode cX11_load 108 = .ok (.invokevirtual 89, 3) := by decide +kernel
theorem dX11_load_111 : decode cX11_load 111 = .ok (.ireturn, 1) := by decide +kernel
theorem dX11_orderHere_0 : decode cX11_orderHere 0 = .ok (.iconst 0, 1) := by decide +kernel
theorem dX11_orderHere_1 : decode cX11_orderHere 1 = .ok (.istore_n 1, 1) := by decide +kernel
theorem dX11_orderHere_2 : decode cX11_orderHere 2 = .ok (.iload_n 1, 1) := by decide +kernel
theorem dX11_orderHere_3 : decode cX11_orderHere 3 = .ok (.aload_n 0, 1) := by decide +kernel
theorem dX11_orderHere_4 : decode cX11_orderHere 4 = .ok (.getfield 74, 3) := by decide +kernel
theorem dX11_orderHere_7 : decode cX11_orderHere 7 = .ok (.arraylength, 1) := by decide +kernel
theorem dX11_orderHere_8 : decode cX11_orderHere 8 = .ok (.if_icmp .ge 24, 3) := by decide +kernel
theorem dX11_orderHere_11 : decode cX11_orderHere 11 = .ok (.aload_n 0, 1) := by decide +kernel
theorem dX11_orderHere_12 : decode cX11_orderHere 12 = .ok (.aload_n 0, 1) := by decide +kernel
theorem dX11_orderHere_13 : decode cX11_orderHere 13 = .ok (.getfield 74, 3) := by decide +kernel
theorem dX11_orderHere_16 : decode cX11_orderHere 16 = .ok (.iload_n 1, 1) := by decide +kernel
theorem dX11_orderHere_17 : decode cX11_orderHere 17 = .ok (.aaload, 1) := by decide +kernel
theorem dX11_orderHere_18 : decode cX11_orderHere 18 = .ok (.invokevirtual 343, 3) := by decide +kernel
theorem dX11_orderHere_21 : decode cX11_orderHere 21 = .ok (.ifCond .eq 5, 3) := by decide +kernel
theorem dX11_orderHere_24 : decode cX11_orderHere 24 = .ok (.iload_n 1, 1) := by decide +kernel
theorem dX11_orderHere_25 : decode cX11_orderHere 25 = .ok (.ireturn, 1) := by decide +kernel
theorem dX11_orderHere_26 : decode cX11_orderHere 26 = .ok (.iinc 1 1, 3) := by decide +kernel
theorem dX11_orderHere_29 : decode cX11_orderHere 29 = .ok (.goto (-27), 3) := by decide +kernel
theorem dX11_orderHere_32 : decode cX11_orderHere 32 = .ok (.iconst (-1), 1) := by decide +kernel
theorem dX11_orderHere_33 : decode cX11_orderHere 33 = .ok (.ireturn, 1) := by decide +kernel
theorem dX11_readFirst_0 : decode cX11_readFirst 0 = .ok (.iload_n 1, 1) := by decide +kernel
theorem dX11_readFirst_1 : decode cX11_readFirst 1 = .ok (.tableswitch 73 0 7 #[47, 56, 73, 73, 73, 73, 58, 65], 47) := by decide +kernel
theorem dX11_readFirst_48 : decode cX11_readFirst 48 = .ok (.aload_n 0, 1) := by decide +kernel
theorem dX11_readFirst_49 : decode cX11_readFirst 49 = .ok (.iconst 1, 1) := by decide +kernel
theorem dX11_readFirst_50 : decode cX11_readFirst 50 = .ok (.sipush 400, 3) := by decide +kernel
theorem dX11_readFirst_53 : decode cX11_readFirst 53 = .ok (.invokevirtual 364, 3) := by decide +kernel
theorem dX11_readFirst_56 : decode cX11_readFirst 56 = .ok (.ireturn, 1) := by decide +kernel
theorem dX11_readFirst_57 : decode cX11_readFirst 57 = .ok (.iconst 0, 1) := by decide +kernel
theorem dX11_readFirst_58 : decode cX11_readFirst 58 = .ok (.ireturn, 1) := by decide +kernel
theorem dX11_readFirst_59 : decode cX11_readFirst 59 = .ok (.aload_n 0, 1) := by decide +kernel
theorem dX11_readFirst_60 : decode cX11_readFirst 60 = .ok (.iconst 0, 1) := by decide +kernel
theorem dX11_readFirst_61 : decode cX11_readFirst 61 = .ok (.iconst 4, 1) := by decide +kernel
theorem dX11_readFirst_62 : decode cX11_readFirst 62 = .ok (.invokevirtual 364, 3) := by decide +kernel
theorem dX11_readFirst_65 : decode cX11_readFirst 65 = .ok (.ireturn, 1) := by decide +kernel
theorem dX11_readFirst_66 : decode cX11_readFirst 66 = .ok (.aload_n 0, 1) := by decide +kernel
theorem dX11_readFirst_67 : decode cX11_readFirst 67 = .ok (.iconst 1, 1) := by decide +kernel
theorem dX11_readFirst_68 : decode cX11_readFirst 68 = .ok (.bipush 30, 2) := by decide +kernel
theorem dX11_readFirst_70 : decode cX11_readFirst 70 = .ok (.invokevirtual 364, 3) := by decide +kernel
theorem dX11_readFirst_73 : decode cX11_readFirst 73 = .ok (.ireturn, 1) := by decide +kernel
theorem dX11_readFirst_74 : decode cX11_readFirst 74 = .ok (.aload_n 0, 1) := by decide +kernel
theorem dX11_readFirst_75 : decode cX11_readFirst 75 = .ok (.iconst 2, 1) := by decide +kernel
theorem dX11_readFirst_76 : decode cX11_readFirst 76 = .ok (.bipush 120, 2) := by decide +kernel
theorem dX11_readFirst_78 : decode cX11_readFirst 78 = .ok (.invokevirtual 364, 3) := by decide +kernel
theorem dX11_readFirst_81 : decode cX11_readFirst 81 = .ok (.ireturn, 1) := by decide +kernel
theorem dX11_readOrder_0 : decode cX11_readOrder 0 = .ok (.aload_n 0, 1) := by decide +kernel
theorem dX11_readOrder_1 : decode cX11_readOrder 1 = .ok (.invokevirtual 391, 3) := by decide +kernel
theorem dX11_readOrder_4 : decode cX11_readOrder 4 = .ok (.istore_n 1, 1) := by decide +kernel
theorem dX11_readOrder_5 : decode cX11_readOrder 5 = .ok (.aload_n 0, 1) := by decide +kernel
theorem dX11_readOrder_6 : decode cX11_readOrder 6 = .ok (.iload_n 1, 1) := by decide +kernel
theorem dX11_readOrder_7 : decode cX11_readOrder 7 = .ok (.iconst (-1), 1) := by decide +kernel
theorem dX11_readOrder_8 : decode cX11_readOrder 8 = .ok (.if_icmp .eq 7, 3) := by decide +kernel
theorem dX11_readOrder_11 : decode cX11_readOrder 11 = .ok (.iconst 1, 1) := by decide +kernel
theorem dX11_readOrder_12 : decode cX11_readOrder 12 = .ok (.goto 4, 3) := by decide +kernel
theorem dX11_readOrder_15 : decode cX11_readOrder 15 = .ok (.iconst 0, 1) := by decide +kernel
theorem dX11_readOrder_16 : decode cX11_readOrder 16 = .ok (.iconst 1, 1) := by decide +kernel
theorem dX11_readOrder_17 : decode cX11_readOrder 17 = .ok (.invokevirtual 350, 3) := by decide +kernel
theorem dX11_readOrder_20 : decode cX11_readOrder 20 = .ok (.aload_n 0, 1) := by decide +kernel
theorem dX11_readOrder_21 : decode cX11_readOrder 21 = .ok (.aload_n 0, 1) := by decide +kernel
theorem dX11_readOrder_22 : decode cX11_readOrder 22 = .ok (.getfield 324, 3) := by decide +kernel
theorem dX11_readOrder_25 : decode cX11_readOrder 25 = .ok (.ifCond .ne 12, 3) := by decide +kernel
theorem dX11_readOrder_28 : decode cX11_readOrder 28 = .ok (.aload_n 0, 1) := by decide +kernel
theorem dX11_readOrder_29 : decode cX11_readOrder 29 = .ok (.getfield 394, 3) := by decide +kernel
theorem dX11_readOrder_32 : decode cX11_readOrder 32 = .ok (.bipush 20, 2) := by decide +kernel
theorem dX11_readOrder_34 : decode cX11_readOrder 34 = .ok (.if_icmp .ge 7, 3) := by decide +kernel
theorem dX11_readOrder_37 : decode cX11_readOrder 37 = .ok (.iconst 1, 1) := by decide +kernel
theorem dX11_readOrder_38 : decode cX11_readOrder 38 = .ok (.goto 4, 3) := by decide +kernel
theorem dX11_readOrder_41 : decode cX11_readOrder 41 = .ok (.iconst 0, 1) := by decide +kernel
theorem dX11_readOrder_42 : decode cX11_readOrder 42 = .ok (.iconst 4, 1) := by decide +kernel
theorem dX11_readOrder_43 : decode cX11_readOrder 43 = .ok (.invokevirtual 350, 3) := by decide +kernel
theorem dX11_readOrder_46 : decode cX11_readOrder 46 = .ok (.aload_n 0, 1) := by decide +kernel
theorem dX11_readOrder_47 : decode cX11_readOrder 47 = .ok (.invokevirtual 354, 3) := by decide +kernel
theorem dX11_readOrder_50 : decode cX11_readOrder 50 = .ok (.aload_n 0, 1) := by decide +kernel
theorem dX11_readOrder_51 : decode cX11_readOrder 51 = .ok (.getfield 324, 3) := by decide +kernel
theorem dX11_readOrder_54 : decode cX11_readOrder 54 = .ok (.ifCond .eq 4, 3) := by decide +kernel
theorem dX11_readOrder_57 : decode cX11_readOrder 57 = .ok (.return_, 1) := by decide +kernel
theorem dX11_readOrder_58 : decode cX11_readOrder 58 = .ok (.iconst 3, 1) := by decide +kernel
theorem dX11_readOrder_59 : decode cX11_readOrder 59 = .ok (.aload_n 0, 1) := by decide +kernel
theorem dX11_readOrder_60 : decode cX11_readOrder 60 = .ok (.getfield 394, 3) := by decide +kernel
theorem dX11_readOrder_63 : decode cX11_readOrder 63 = .ok (.imul, 1) := by decide +kernel
theorem dX11_readOrder_64 : decode cX11_readOrder 64 = .ok (.istore_n 2, 1) := by decide +kernel
theorem dX11_readOrder_65 : decode cX11_readOrder 65 = .ok (.aload_n 0, 1) := by decide +kernel
theorem dX11_readOrder_66 : decode cX11_readOrder 66 = .ok (.getfield 53, 3) := by decide +kernel
theorem dX11_readOrder_69 : decode cX11_readOrder 69 = .ok (.iload_n 2, 1) := by decide +kernel
theorem dX11_readOrder_70 : decode cX11_readOrder 70 = .ok (.iload_n 1, 1) := by decide +kernel
theorem dX11_readOrder_71 : decode cX11_readOrder 71 = .ok (.iastore, 1) := by decide +kernel
theorem dX11_readOrder_72 : decode cX11_readOrder 72 = .ok (.aload_n 0, 1) := by decide +kernel
theorem dX11_readOrder_73 : decode cX11_readOrder 73 = .ok (.getfield 53, 3) := by decide +kernel
theorem dX11_readOrder_76 : decode cX11_readOrder 76 = .ok (.iload_n 2, 1) := by decide +kernel
theorem dX11_readOrder_77 : decode cX11_readOrder 77 = .ok (.iconst 1, 1) := by decide +kernel
theorem dX11_readOrder_78 : decode cX11_readOrder 78 = .ok (.iadd, 1) := by decide +kernel
theorem dX11_readOrder_79 : decode cX11_readOrder 79 = .ok (.aload_n 0, 1) := by decide +kernel
theorem dX11_readOrder_80 : decode cX11_readOrder 80 = .ok (.iload_n 1, 1) := by decide +kernel
theorem dX11_readOrder_81 : decode cX11_readOrder 81 = .ok (.invokevirtual 397, 3) := by decide +kernel
theorem dX11_readOrder_84 : decode cX11_readOrder 84 = .ok (.iastore, 1) := by decide +kernel
theorem dX11_readOrder_85 : decode cX11_readOrder 85 = .ok (.aload_n 0, 1) := by decide +kernel
theorem dX11_readOrder_86 : decode cX11_readOrder 86 = .ok (.getfield 53, 3) := by decide +kernel
theorem dX11_readOrder_89 : decode cX11_readOrder 89 = .ok (.iload_n 2, 1) := by decide +kernel
theorem dX11_readOrder_90 : decode cX11_readOrder 90 = .ok (.iconst 2, 1) := by decide +kernel
theorem dX11_readOrder_91 : decode cX11_readOrder 91 = .ok (.iadd, 1) := by decide +kernel
theorem dX11_readOrder_92 : decode cX11_readOrder 92 = .ok (.iload_n 1, 1) := by decide +kernel
theorem dX11_readOrder_93 : decode cX11_readOrder 93 = .ok (.iconst 5, 1) := by decide +kernel
theorem dX11_readOrder_94 : decode cX11_readOrder 94 = .ok (.if_icmp .ne 13, 3) := by decide +kernel
theorem dX11_readOrder_97 : decode cX11_readOrder 97 = .ok (.aload_n 0, 1) := by decide +kernel
theorem dX11_readOrder_98 : decode cX11_readOrder 98 = .ok (.iconst 2, 1) := by decide +kernel
theorem dX11_readOrder_99 : decode cX11_readOrder 99 = .ok (.bipush 120, 2) := by decide +kernel
theorem dX11_readOrder_101 : decode cX11_readOrder 101 = .ok (.invokevirtual 364, 3) := by decide +kernel
theorem dX11_readOrder_104 : decode cX11_readOrder 104 = .ok (.goto 4, 3) := by decide +kernel
theorem dX11_readOrder_107 : decode cX11_readOrder 107 = .ok (.iconst 0, 1) := by decide +kernel
theorem dX11_readOrder_108 : decode cX11_readOrder 108 = .ok (.iastore, 1) := by decide +kernel
theorem dX11_readOrder_109 : decode cX11_readOrder 109 = .ok (.aload_n 0, 1) := by decide +kernel
theorem dX11_readOrder_110 : decode cX11_readOrder 110 = .ok (.bipush 59, 2) := by decide +kernel
theorem dX11_readOrder_112 : decode cX11_readOrder 112 = .ok (.invokevirtual 367, 3) := by decide +kernel
theorem dX11_readOrder_115 : decode cX11_readOrder 115 = .ok (.aload_n 0, 1) := by decide +kernel
theorem dX11_readOrder_116 : decode cX11_readOrder 116 = .ok (.dup, 1) := by decide +kernel
theorem dX11_readOrder_117 : decode cX11_readOrder 117 = .ok (.getfield 394, 3) := by decide +kernel
theorem dX11_readOrder_120 : decode cX11_readOrder 120 = .ok (.iconst 1, 1) := by decide +kernel
theorem dX11_readOrder_121 : decode cX11_readOrder 121 = .ok (.iadd, 1) := by decide +kernel
theorem dX11_readOrder_122 : decode cX11_readOrder 122 = .ok (.putfield 394, 3) := by decide +kernel
theorem dX11_readOrder_125 : decode cX11_readOrder 125 = .ok (.return_, 1) := by decide +kernel
theorem dX11_does_0 : decode cX11_does 0 = .ok (.aload_n 0, 1) := by decide +kernel
theorem dX11_does_1 : decode cX11_does 1 = .ok (.getfield 53, 3) := by decide +kernel
theorem dX11_does_4 : decode cX11_does 4 = .ok (.iload_n 1, 1) := by decide +kernel
theorem dX11_does_5 : decode cX11_does 5 = .ok (.iconst 1, 1) := by decide +kernel
theorem dX11_does_6 : decode cX11_does 6 = .ok (.iadd, 1) := by decide +kernel
theorem dX11_does_7 : decode cX11_does 7 = .ok (.iaload, 1) := by decide +kernel
theorem dX11_does_8 : decode cX11_does 8 = .ok (.istore_n 2, 1) := by decide +kernel
theorem dX11_does_9 : decode cX11_does 9 = .ok (.aload_n 0, 1) := by decide +kernel
theorem dX11_does_10 : decode cX11_does 10 = .ok (.getfield 53, 3) := by decide +kernel
theorem dX11_does_13 : decode cX11_does 13 = .ok (.iload_n 1, 1) := by decide +kernel
theorem dX11_does_14 : decode cX11_does 14 = .ok (.iaload, 1) := by decide +kernel
theorem dX11_does_15 : decode cX11_does 15 = .ok (.tableswitch 90 0 6 #[41, 47, 52, 58, 64, 70, 84], 41) := by decide +kernel
theorem dX11_does_56 : decode cX11_does 56 = .ok (.aload_n 0, 1) := by decide +kernel
theorem dX11_does_57 : decode cX11_does 57 = .ok (.iload_n 2, 1) := by decide +kernel
theorem dX11_does_58 : decode cX11_does 58 = .ok (.invokevirtual 254, 3) := by decide +kernel
theorem dX11_does_61 : decode cX11_does 61 = .ok (.ireturn, 1) := by decide +kernel
theorem dX11_does_62 : decode cX11_does 62 = .ok (.aload_n 0, 1) := by decide +kernel
theorem dX11_does_63 : decode cX11_does 63 = .ok (.invokevirtual 260, 3) := by decide +kernel
theorem dX11_does_66 : decode cX11_does 66 = .ok (.ireturn, 1) := by decide +kernel
theorem dX11_does_67 : decode cX11_does 67 = .ok (.aload_n 0, 1) := by decide +kernel
theorem dX11_does_68 : decode cX11_does 68 = .ok (.iload_n 2, 1) := by decide +kernel
theorem dX11_does_69 : decode cX11_does 69 = .ok (.invokevirtual 263, 3) := by decide +kernel
theorem dX11_does_72 : decode cX11_does 72 = .ok (.ireturn, 1) := by decide +kernel
theorem dX11_does_73 : decode cX11_does 73 = .ok (.aload_n 0, 1) := by decide +kernel
theorem dX11_does_74 : decode cX11_does 74 = .ok (.iload_n 2, 1) := by decide +kernel
theorem dX11_does_75 : decode cX11_does 75 = .ok (.invokevirtual 266, 3) := by decide +kernel
theorem dX11_does_78 : decode cX11_does 78 = .ok (.ireturn, 1) := by decide +kernel
theorem dX11_does_79 : decode cX11_does 79 = .ok (.aload_n 0, 1) := by decide +kernel
theorem dX11_does_80 : decode cX11_does 80 = .ok (.iload_n 2, 1) := by decide +kernel
theorem dX11_does_81 : decode cX11_does 81 = .ok (.invokevirtual 269, 3) := by decide +kernel
theorem dX11_does_84 : decode cX11_does 84 = .ok (.ireturn, 1) := by decide +kernel
theorem dX11_does_85 : decode cX11_does 85 = .ok (.aload_n 0, 1) := by decide +kernel
theorem dX11_does_86 : decode cX11_does 86 = .ok (.iload_n 2, 1) := by decide +kernel
theorem dX11_does_87 : decode cX11_does 87 = .ok (.aload_n 0, 1) := by decide +kernel
theorem dX11_does_88 : decode cX11_does 88 = .ok (.getfield 53, 3) := by decide +kernel
theorem dX11_does_91 : decode cX11_does 91 = .ok (.iload_n 1, 1) := by decide +kernel
theorem dX11_does_92 : decode cX11_does 92 = .ok (.iconst 2, 1) := by decide +kernel
theorem dX11_does_93 : decode cX11_does 93 = .ok (.iadd, 1) := by decide +kernel
theorem dX11_does_94 : decode cX11_does 94 = .ok (.iaload, 1) := by decide +kernel
theorem dX11_does_95 : decode cX11_does 95 = .ok (.invokevirtual 275, 3) := by decide +kernel
theorem dX11_does_98 : decode cX11_does 98 = .ok (.ireturn, 1) := by decide +kernel
theorem dX11_does_99 : decode cX11_does 99 = .ok (.aload_n 0, 1) := by decide +kernel
theorem dX11_does_100 : decode cX11_does 100 = .ok (.iload_n 2, 1) := by decide +kernel
theorem dX11_does_101 : decode cX11_does 101 = .ok (.invokevirtual 278, 3) := by decide +kernel
theorem dX11_does_104 : decode cX11_does 104 = .ok (.ireturn, 1) := by decide +kernel
theorem dX11_does_105 : decode cX11_does 105 = .ok (.aload_n 0, 1) := by decide +kernel
theorem dX11_does_106 : decode cX11_does 106 = .ok (.iload_n 2, 1) := by decide +kernel
theorem dX11_does_107 : decode cX11_does 107 = .ok (.invokevirtual 281, 3) := by decide +kernel
theorem dX11_does_110 : decode cX11_does 110 = .ok (.ireturn, 1) := by decide +kernel
theorem dX11_play_0 : decode cX11_play 0 = .ok (.aload_n 0, 1) := by decide +kernel
theorem dX11_play_1 : decode cX11_play 1 = .ok (.iconst 0, 1) := by decide +kernel
theorem dX11_play_2 : decode cX11_play 2 = .ok (.putfield 78, 3) := by decide +kernel
theorem dX11_play_5 : decode cX11_play 5 = .ok (.iload_n 1, 1) := by decide +kernel
theorem dX11_play_6 : decode cX11_play 6 = .ok (.iconst 0, 1) := by decide +kernel
theorem dX11_play_7 : decode cX11_play 7 = .ok (.aload_n 0, 1) := by decide +kernel
theorem dX11_play_8 : decode cX11_play 8 = .ok (.getfield 300, 3) := by decide +kernel
theorem dX11_play_11 : decode cX11_play 11 = .ok (.invokestatic 81, 3) := by decide +kernel
theorem dX11_play_14 : decode cX11_play 14 = .ok (.ifCond .ne 9, 3) := by decide +kernel
theorem dX11_play_17 : decode cX11_play 17 = .ok (.aload_n 0, 1) := by decide +kernel
theorem dX11_play_18 : decode cX11_play 18 = .ok (.iconst 1, 1) := by decide +kernel
theorem dX11_play_19 : decode cX11_play 19 = .ok (.invokevirtual 160, 3) := by decide +kernel
theorem dX11_play_22 : decode cX11_play 22 = .ok (.ireturn, 1) := by decide +kernel
theorem dX11_play_23 : decode cX11_play 23 = .ok (.aload_n 0, 1) := by decide +kernel
theorem dX11_play_24 : decode cX11_play 24 = .ok (.iconst 0, 1) := by decide +kernel
theorem dX11_play_25 : decode cX11_play 25 = .ok (.putfield 394, 3) := by decide +kernel
theorem dX11_play_28 : decode cX11_play 28 = .ok (.aload_n 0, 1) := by decide +kernel
theorem dX11_play_29 : decode cX11_play 29 = .ok (.iload_n 1, 1) := by decide +kernel
theorem dX11_play_30 : decode cX11_play 30 = .ok (.invokevirtual 382, 3) := by decide +kernel
theorem dX11_play_33 : decode cX11_play 33 = .ok (.aload_n 0, 1) := by decide +kernel
theorem dX11_play_34 : decode cX11_play 34 = .ok (.getfield 324, 3) := by decide +kernel
theorem dX11_play_37 : decode cX11_play 37 = .ok (.ifCond .ne 17, 3) := by decide +kernel
theorem dX11_play_40 : decode cX11_play 40 = .ok (.aload_n 0, 1) := by decide +kernel
theorem dX11_play_41 : decode cX11_play 41 = .ok (.getfield 315, 3) := by decide +kernel
theorem dX11_play_44 : decode cX11_play 44 = .ok (.ifCond .eq 10, 3) := by decide +kernel
theorem dX11_play_47 : decode cX11_play 47 = .ok (.aload_n 0, 1) := by decide +kernel
theorem dX11_play_48 : decode cX11_play 48 = .ok (.invokevirtual 400, 3) := by decide +kernel
theorem dX11_play_51 : decode cX11_play 51 = .ok (.goto (-18), 3) := by decide +kernel
theorem dX11_play_54 : decode cX11_play 54 = .ok (.aload_n 0, 1) := by decide +kernel
theorem dX11_play_55 : decode cX11_play 55 = .ok (.invokevirtual 388, 3) := by decide +kernel
theorem dX11_play_58 : decode cX11_play 58 = .ok (.ifCond .eq 11, 3) := by decide +kernel
theorem dX11_play_61 : decode cX11_play 61 = .ok (.bipush (-10), 2) := by decide +kernel
theorem dX11_play_63 : decode cX11_play 63 = .ok (.aload_n 0, 1) := by decide +kernel
theorem dX11_play_64 : decode cX11_play 64 = .ok (.getfield 324, 3) := by decide +kernel
theorem dX11_play_67 : decode cX11_play 67 = .ok (.isub, 1) := by decide +kernel
theorem dX11_play_68 : decode cX11_play 68 = .ok (.ireturn, 1) := by decide +kernel
theorem dX11_play_69 : decode cX11_play 69 = .ok (.aload_n 0, 1) := by decide +kernel
theorem dX11_play_70 : decode cX11_play 70 = .ok (.invokevirtual 251, 3) := by decide +kernel
theorem dX11_play_73 : decode cX11_play 73 = .ok (.aload_n 0, 1) := by decide +kernel
theorem dX11_play_74 : decode cX11_play 74 = .ok (.invokevirtual 248, 3) := by decide +kernel
theorem dX11_play_77 : decode cX11_play 77 = .ok (.iconst 0, 1) := by decide +kernel
theorem dX11_play_78 : decode cX11_play 78 = .ok (.istore_n 2, 1) := by decide +kernel
theorem dX11_play_79 : decode cX11_play 79 = .ok (.iload_n 2, 1) := by decide +kernel
theorem dX11_play_80 : decode cX11_play 80 = .ok (.aload_n 0, 1) := by decide +kernel
theorem dX11_play_81 : decode cX11_play 81 = .ok (.getfield 394, 3) := by decide +kernel
theorem dX11_play_84 : decode cX11_play 84 = .ok (.if_icmp .ge 19, 3) := by decide +kernel
theorem dX11_play_87 : decode cX11_play 87 = .ok (.aload_n 0, 1) := by decide +kernel
theorem dX11_play_88 : decode cX11_play 88 = .ok (.iconst 3, 1) := by decide +kernel
theorem dX11_play_89 : decode cX11_play 89 = .ok (.iload_n 2, 1) := by decide +kernel
theorem dX11_play_90 : decode cX11_play 90 = .ok (.imul, 1) := by decide +kernel
theorem dX11_play_91 : decode cX11_play 91 = .ok (.invokevirtual 403, 3) := by decide +kernel
theorem dX11_play_94 : decode cX11_play 94 = .ok (.ifCond .lt 9, 3) := by decide +kernel
theorem dX11_play_97 : decode cX11_play 97 = .ok (.iinc 2 1, 3) := by decide +kernel
theorem dX11_play_100 : decode cX11_play 100 = .ok (.goto (-21), 3) := by decide +kernel
theorem dX11_play_103 : decode cX11_play 103 = .ok (.iload_n 2, 1) := by decide +kernel
theorem dX11_play_104 : decode cX11_play 104 = .ok (.ireturn, 1) := by decide +kernel
theorem dJx29ce0_ordinal_8abf5_0 : decode cJx29ce0_ordinal_8abf5 0 = .ok (.aload_n 0, 1) := by decide +kernel
theorem dJx29ce0_ordinal_8abf5_1 : decode cJx29ce0_ordinal_8abf5 1 = .ok (.getfield 7, 3) := by decide +kernel
theorem dJx29ce0_ordinal_8abf5_4 : decode cJx29ce0_ordinal_8abf5 4 = .ok (.ireturn, 1) := by decide +kernel
theorem dJxf58ca_isNaN_12338_0 : decode cJxf58ca_isNaN_12338 0 = .ok (.fload_n 0, 1) := by decide +kernel
theorem dJxf58ca_isNaN_12338_1 : decode cJxf58ca_isNaN_12338 1 = .ok (.fload_n 0, 1) := by decide +kernel
theorem dJxf58ca_isNaN_12338_2 : decode cJxf58ca_isNaN_12338 2 = .ok (.fcmp .l, 1) := by decide +kernel
theorem dJxf58ca_isNaN_12338_3 : decode cJxf58ca_isNaN_12338 3 = .ok (.ifCond .eq 7, 3) := by decide +kernel
theorem dJxf58ca_isNaN_12338_6 : decode cJxf58ca_isNaN_12338 6 = .ok (.iconst 1, 1) := by decide +kernel
theorem dJxf58ca_isNaN_12338_7 : decode cJxf58ca_isNaN_12338 7 = .ok (.goto 4, 3) := by decide +kernel
theorem dJxf58ca_isNaN_12338_10 : decode cJxf58ca_isNaN_12338 10 = .ok (.iconst 0, 1) := by decide +kernel
theorem dJxf58ca_isNaN_12338_11 : decode cJxf58ca_isNaN_12338 11 = .ok (.ireturn, 1) := by decide +kernel
theorem dJxf58ca_floatToIntBits_5c35a_0 : decode cJxf58ca_floatToIntBits_5c35a 0 = .ok (.fload_n 0, 1) := by decide +kernel
theorem dJxf58ca_floatToIntBits_5c35a_1 : decode cJxf58ca_floatToIntBits_5c35a 1 = .ok (.invokestatic 59, 3) := by decide +kernel
theorem dJxf58ca_floatToIntBits_5c35a_4 : decode cJxf58ca_floatToIntBits_5c35a 4 = .ok (.ifCond .ne 8, 3) := by decide +kernel
theorem dJxf58ca_floatToIntBits_5c35a_7 : decode cJxf58ca_floatToIntBits_5c35a 7 = .ok (.fload_n 0, 1) := by decide +kernel
theorem dJxf58ca_floatToIntBits_5c35a_8 : decode cJxf58ca_floatToIntBits_5c35a 8 = .ok (.invokestatic 74, 3) := by decide +kernel
theorem dJxf58ca_floatToIntBits_5c35a_11 : decode cJxf58ca_floatToIntBits_5c35a 11 = .ok (.ireturn, 1) := by decide +kernel
theorem dJxf58ca_floatToIntBits_5c35a_12 : decode cJxf58ca_floatToIntBits_5c35a 12 = .ok (.ldc 77, 2) := by decide +kernel
theorem dJxf58ca_floatToIntBits_5c35a_14 : decode cJxf58ca_floatToIntBits_5c35a 14 = .ok (.ireturn, 1) := by decide +kernel
theorem dJ9_max_7cf53_0 : decode cJ9_max_7cf53 0 = .ok (.iload_n 0, 1) := by decide +kernel
theorem dJ9_max_7cf53_1 : decode cJ9_max_7cf53 1 = .ok (.iload_n 1, 1) := by decide +kernel
theorem dJ9_max_7cf53_2 : decode cJ9_max_7cf53 2 = .ok (.if_icmp .lt 7, 3) := by decide +kernel
theorem dJ9_max_7cf53_5 : decode cJ9_max_7cf53 5 = .ok (.iload_n 0, 1) := by decide +kernel
theorem dJ9_max_7cf53_6 : decode cJ9_max_7cf53 6 = .ok (.goto 4, 3) := by decide +kernel
theorem dJ9_max_7cf53_9 : decode cJ9_max_7cf53 9 = .ok (.iload_n 1, 1) := by decide +kernel
theorem dJ9_max_7cf53_10 : decode cJ9_max_7cf53 10 = .ok (.ireturn, 1) := by decide +kernel
theorem dJ9_min_7cf53_0 : decode cJ9_min_7cf53 0 = .ok (.iload_n 0, 1) := by decide +kernel
theorem dJ9_min_7cf53_1 : decode cJ9_min_7cf53 1 = .ok (.iload_n 1, 1) := by decide +kernel
theorem dJ9_min_7cf53_2 : decode cJ9_min_7cf53 2 = .ok (.if_icmp .gt 7, 3) := by decide +kernel
theorem dJ9_min_7cf53_5 : decode cJ9_min_7cf53 5 = .ok (.iload_n 0, 1) := by decide +kernel
theorem dJ9_min_7cf53_6 : decode cJ9_min_7cf53 6 = .ok (.goto 4, 3) := by decide +kernel
theorem dJ9_min_7cf53_9 : decode cJ9_min_7cf53 9 = .ok (.iload_n 1, 1) := by decide +kernel
theorem dJ9_min_7cf53_10 : decode cJ9_min_7cf53 10 = .ok (.ireturn, 1) := by decide +kernel
theorem dJ0_length_8abf5_0 : decode cJ0_length_8abf5 0 = .ok (.aload_n 0, 1) := by decide +kernel
theorem dJ0_length_8abf5_1 : decode cJ0_length_8abf5 1 = .ok (.getfield 9, 3) := by decide +kernel
theorem dJ0_length_8abf5_4 : decode cJ0_length_8abf5 4 = .ok (.arraylength, 1) := by decide +kernel
theorem dJ0_length_8abf5_5 : decode cJ0_length_8abf5 5 = .ok (.aload_n 0, 1) := by decide +kernel
theorem dJ0_length_8abf5_6 : decode cJ0_length_8abf5 6 = .ok (.invokevirtual 335, 3) := by decide +kernel
theorem dJ0_length_8abf5_9 : decode cJ0_length_8abf5 9 = .ok (.ishr, 1) := by decide +kernel
theorem dJ0_length_8abf5_10 : decode cJ0_length_8abf5 10 = .ok (.ireturn, 1) := by decide +kernel
theorem dJ0_charAt_5068e_0 : decode cJ0_charAt_5068e 0 = .ok (.aload_n 0, 1) := by decide +kernel
theorem dJ0_charAt_5068e_1 : decode cJ0_charAt_5068e 1 = .ok (.invokevirtual 492, 3) := by decide +kernel
theorem dJ0_charAt_5068e_4 : decode cJ0_charAt_5068e 4 = .ok (.ifCond .eq 12, 3) := by decide +kernel
theorem dJ0_charAt_5068e_7 : decode cJ0_charAt_5068e 7 = .ok (.aload_n 0, 1) := by decide +kernel
theorem dJ0_charAt_5068e_8 : decode cJ0_charAt_5068e 8 = .ok (.getfield 9, 3) := by decide +kernel
theorem dJ0_charAt_5068e_11 : decode cJ0_charAt_5068e 11 = .ok (.iload_n 1, 1) := by decide +kernel
theorem dJ0_charAt_5068e_12 : decode cJ0_charAt_5068e 12 = .ok (.invokestatic 495, 3) := by decide +kernel
theorem dJ0_charAt_5068e_15 : decode cJ0_charAt_5068e 15 = .ok (.ireturn, 1) := by decide +kernel
theorem dJ0_charAt_5068e_16 : decode cJ0_charAt_5068e 16 = .ok (.aload_n 0, 1) := by decide +kernel
theorem dJ0_charAt_5068e_17 : decode cJ0_charAt_5068e 17 = .ok (.getfield 9, 3) := by decide +kernel
theorem dJ0_charAt_5068e_20 : decode cJ0_charAt_5068e 20 = .ok (.iload_n 1, 1) := by decide +kernel
theorem dJ0_charAt_5068e_21 : decode cJ0_charAt_5068e 21 = .ok (.invokestatic 498, 3) := by decide +kernel
theorem dJ0_charAt_5068e_24 : decode cJ0_charAt_5068e 24 = .ok (.ireturn, 1) := by decide +kernel
theorem dJ0_coder_7d493_0 : decode cJ0_coder_7d493 0 = .ok (.getstatic 38, 3) := by decide +kernel
theorem dJ0_coder_7d493_3 : decode cJ0_coder_7d493 3 = .ok (.ifCond .eq 10, 3) := by decide +kernel
theorem dJ0_coder_7d493_6 : decode cJ0_coder_7d493 6 = .ok (.aload_n 0, 1) := by decide +kernel
theorem dJ0_coder_7d493_7 : decode cJ0_coder_7d493 7 = .ok (.getfield 15, 3) := by decide +kernel
theorem dJ0_coder_7d493_10 : decode cJ0_coder_7d493 10 = .ok (.goto 4, 3) := by decide +kernel
theorem dJ0_coder_7d493_13 : decode cJ0_coder_7d493 13 = .ok (.iconst 1, 1) := by decide +kernel
theorem dJ0_coder_7d493_14 : decode cJ0_coder_7d493 14 = .ok (.ireturn, 1) := by decide +kernel
theorem dJ0_isLatin1_aae02_0 : decode cJ0_isLatin1_aae02 0 = .ok (.getstatic 38, 3) := by decide +kernel
theorem dJ0_isLatin1_aae02_3 : decode cJ0_isLatin1_aae02 3 = .ok (.ifCond .eq 14, 3) := by decide +kernel
theorem dJ0_isLatin1_aae02_6 : decode cJ0_isLatin1_aae02 6 = .ok (.aload_n 0, 1) := by decide +kernel
theorem dJ0_isLatin1_aae02_7 : decode cJ0_isLatin1_aae02 7 = .ok (.getfield 15, 3) := by decide +kernel
theorem dJ0_isLatin1_aae02_10 : decode cJ0_isLatin1_aae02 10 = .ok (.ifCond .ne 7, 3) := by decide +kernel
theorem dJ0_isLatin1_aae02_13 : decode cJ0_isLatin1_aae02 13 = .ok (.iconst 1, 1) := by decide +kernel
theorem dJ0_isLatin1_aae02_14 : decode cJ0_isLatin1_aae02 14 = .ok (.goto 4, 3) := by decide +kernel
theorem dJ0_isLatin1_aae02_17 : decode cJ0_isLatin1_aae02 17 = .ok (.iconst 0, 1) := by decide +kernel
theorem dJ0_isLatin1_aae02_18 : decode cJ0_isLatin1_aae02 18 = .ok (.ireturn, 1) := by decide +kernel
theorem dJ0_checkIndex_df160_0 : decode cJ0_checkIndex_df160 0 = .ok (.iload_n 0, 1) := by decide +kernel
theorem dJ0_checkIndex_df160_1 : decode cJ0_checkIndex_df160 1 = .ok (.iload_n 1, 1) := by decide +kernel
theorem dJ0_checkIndex_df160_2 : decode cJ0_checkIndex_df160 2 = .ok (.getstatic 1053, 3) := by decide +kernel
theorem dJ0_checkIndex_df160_5 : decode cJ0_checkIndex_df160 5 = .ok (.invokestatic 1059, 3) := by decide +kernel
theorem dJ0_checkIndex_df160_8 : decode cJ0_checkIndex_df160 8 = .ok (.pop, 1) := by decide +kernel
theorem dJ0_checkIndex_df160_9 : decode cJ0_checkIndex_df160 9 = .ok (.return_, 1) := by decide +kernel
theorem dJ1_charAt_3b067_0 : decode cJ1_charAt_3b067 0 = .ok (.iload_n 1, 1) := by decide +kernel
theorem dJ1_charAt_3b067_1 : decode cJ1_charAt_3b067 1 = .ok (.aload_n 0, 1) := by decide +kernel
theorem dJ1_charAt_3b067_2 : decode cJ1_charAt_3b067 2 = .ok (.arraylength, 1) := by decide +kernel
theorem dJ1_charAt_3b067_3 : decode cJ1_charAt_3b067 3 = .ok (.invokestatic 9, 3) := by decide +kernel
theorem dJ1_charAt_3b067_6 : decode cJ1_charAt_3b067 6 = .ok (.aload_n 0, 1) := by decide +kernel
theorem dJ1_charAt_3b067_7 : decode cJ1_charAt_3b067 7 = .ok (.iload_n 1, 1) := by decide +kernel
theorem dJ1_charAt_3b067_8 : decode cJ1_charAt_3b067 8 = .ok (.baload, 1) := by decide +kernel
theorem dJ1_charAt_3b067_9 : decode cJ1_charAt_3b067 9 = .ok (.sipush 255, 3) := by decide +kernel
theorem dJ1_charAt_3b067_12 : decode cJ1_charAt_3b067 12 = .ok (.iand, 1) := by decide +kernel
theorem dJ1_charAt_3b067_13 : decode cJ1_charAt_3b067 13 = .ok (.i2c, 1) := by decide +kernel
theorem dJ1_charAt_3b067_14 : decode cJ1_charAt_3b067 14 = .ok (.ireturn, 1) := by decide +kernel
theorem dJ2_getChar_3b067_0 : decode cJ2_getChar_3b067 0 = .ok (.getstatic 44, 3) := by decide +kernel
theorem dJ2_getChar_3b067_3 : decode cJ2_getChar_3b067 3 = .ok (.ifCond .ne 25, 3) := by decide +kernel
theorem dJ2_getChar_3b067_6 : decode cJ2_getChar_3b067 6 = .ok (.iload_n 1, 1) := by decide +kernel
theorem dJ2_getChar_3b067_7 : decode cJ2_getChar_3b067 7 = .ok (.ifCond .lt 11, 3) := by decide +kernel
theorem dJ2_getChar_3b067_10 : decode cJ2_getChar_3b067 10 = .ok (.iload_n 1, 1) := by decide +kernel
theorem dJ2_getChar_3b067_11 : decode cJ2_getChar_3b067 11 = .ok (.aload_n 0, 1) := by decide +kernel
theorem dJ2_getChar_3b067_12 : decode cJ2_getChar_3b067 12 = .ok (.invokestatic 48, 3) := by decide +kernel
theorem dJ2_getChar_3b067_15 : decode cJ2_getChar_3b067 15 = .ok (.if_icmp .lt 13, 3) := by decide +kernel
theorem dJ2_getChar_3b067_18 : decode cJ2_getChar_3b067 18 = .ok (.new 52, 3) := by decide +kernel
theorem dJ2_getChar_3b067_21 : decode cJ2_getChar_3b067 21 = .ok (.dup, 1) := by decide +kernel
theorem dJ2_getChar_3b067_22 : decode cJ2_getChar_3b067 22 = .ok (.ldc 54, 2) := by decide +kernel
theorem dJ2_getChar_3b067_24 : decode cJ2_getChar_3b067 24 = .ok (.invokespecial 56, 3) := by decide +kernel
theorem dJ2_getChar_3b067_27 : decode cJ2_getChar_3b067 27 = .ok (.athrow, 1) := by decide +kernel
theorem dJ2_getChar_3b067_28 : decode cJ2_getChar_3b067 28 = .ok (.iload_n 1, 1) := by decide +kernel
theorem dJ2_getChar_3b067_29 : decode cJ2_getChar_3b067 29 = .ok (.iconst 1, 1) := by decide +kernel
theorem dJ2_getChar_3b067_30 : decode cJ2_getChar_3b067 30 = .ok (.ishl, 1) := by decide +kernel
theorem dJ2_getChar_3b067_31 : decode cJ2_getChar_3b067 31 = .ok (.istore_n 1, 1) := by decide +kernel
theorem dJ2_getChar_3b067_32 : decode cJ2_getChar_3b067 32 = .ok (.aload_n 0, 1) := by decide +kernel
theorem dJ2_getChar_3b067_33 : decode cJ2_getChar_3b067 33 = .ok (.iload_n 1, 1) := by decide +kernel
theorem dJ2_getChar_3b067_34 : decode cJ2_getChar_3b067 34 = .ok (.iinc 1 1, 3) := by decide +kernel
theorem dJ2_getChar_3b067_37 : decode cJ2_getChar_3b067 37 = .ok (.baload, 1) := by decide +kernel
theorem dJ2_getChar_3b067_38 : decode cJ2_getChar_3b067 38 = .ok (.sipush 255, 3) := by decide +kernel
theorem dJ2_getChar_3b067_41 : decode cJ2_getChar_3b067 41 = .ok (.iand, 1) := by decide +kernel
theorem dJ2_getChar_3b067_42 : decode cJ2_getChar_3b067 42 = .ok (.getstatic 59, 3) := by decide +kernel
theorem dJ2_getChar_3b067_45 : decode cJ2_getChar_3b067 45 = .ok (.ishl, 1) := by decide +kernel
theorem dJ2_getChar_3b067_46 : decode cJ2_getChar_3b067 46 = .ok (.aload_n 0, 1) := by decide +kernel
theorem dJ2_getChar_3b067_47 : decode cJ2_getChar_3b067 47 = .ok (.iload_n 1, 1) := by decide +kernel
theorem dJ2_getChar_3b067_48 : decode cJ2_getChar_3b067 48 = .ok (.baload, 1) := by decide +kernel
theorem dJ2_getChar_3b067_49 : decode cJ2_getChar_3b067 49 = .ok (.sipush 255, 3) := by decide +kernel
theorem dJ2_getChar_3b067_52 : decode cJ2_getChar_3b067 52 = .ok (.iand, 1) := by decide +kernel
theorem dJ2_getChar_3b067_53 : decode cJ2_getChar_3b067 53 = .ok (.getstatic 63, 3) := by decide +kernel
theorem dJ2_getChar_3b067_56 : decode cJ2_getChar_3b067 56 = .ok (.ishl, 1) := by decide +kernel
theorem dJ2_getChar_3b067_57 : decode cJ2_getChar_3b067 57 = .ok (.ior, 1) := by decide +kernel
theorem dJ2_getChar_3b067_58 : decode cJ2_getChar_3b067 58 = .ok (.i2c, 1) := by decide +kernel
theorem dJ2_getChar_3b067_59 : decode cJ2_getChar_3b067 59 = .ok (.ireturn, 1) := by decide +kernel
theorem dJ2_length_9d52b_0 : decode cJ2_length_9d52b 0 = .ok (.aload_n 0, 1) := by decide +kernel
theorem dJ2_length_9d52b_1 : decode cJ2_length_9d52b 1 = .ok (.arraylength, 1) := by decide +kernel
theorem dJ2_length_9d52b_2 : decode cJ2_length_9d52b 2 = .ok (.iconst 1, 1) := by decide +kernel
theorem dJ2_length_9d52b_3 : decode cJ2_length_9d52b 3 = .ok (.ishr, 1) := by decide +kernel
theorem dJ2_length_9d52b_4 : decode cJ2_length_9d52b 4 = .ok (.ireturn, 1) := by decide +kernel
theorem dJ2_charAt_3b067_0 : decode cJ2_charAt_3b067 0 = .ok (.iload_n 1, 1) := by decide +kernel
theorem dJ2_charAt_3b067_1 : decode cJ2_charAt_3b067 1 = .ok (.aload_n 0, 1) := by decide +kernel
theorem dJ2_charAt_3b067_2 : decode cJ2_charAt_3b067 2 = .ok (.invokestatic 67, 3) := by decide +kernel
theorem dJ2_charAt_3b067_5 : decode cJ2_charAt_3b067 5 = .ok (.aload_n 0, 1) := by decide +kernel
theorem dJ2_charAt_3b067_6 : decode cJ2_charAt_3b067 6 = .ok (.iload_n 1, 1) := by decide +kernel
theorem dJ2_charAt_3b067_7 : decode cJ2_charAt_3b067 7 = .ok (.invokestatic 71, 3) := by decide +kernel
theorem dJ2_charAt_3b067_10 : decode cJ2_charAt_3b067 10 = .ok (.ireturn, 1) := by decide +kernel
theorem dJ2_checkIndex_2214a_0 : decode cJ2_checkIndex_2214a 0 = .ok (.iload_n 0, 1) := by decide +kernel
theorem dJ2_checkIndex_2214a_1 : decode cJ2_checkIndex_2214a 1 = .ok (.aload_n 1, 1) := by decide +kernel
theorem dJ2_checkIndex_2214a_2 : decode cJ2_checkIndex_2214a 2 = .ok (.invokestatic 48, 3) := by decide +kernel
theorem dJ2_checkIndex_2214a_5 : decode cJ2_checkIndex_2214a 5 = .ok (.invokestatic 414, 3) := by decide +kernel
theorem dJ2_checkIndex_2214a_8 : decode cJ2_checkIndex_2214a 8 = .ok (.return_, 1) := by decide +kernel
theorem dJ3_checkIndex_8e157_0 : decode cJ3_checkIndex_8e157 0 = .ok (.iload_n 0, 1) := by decide +kernel
theorem dJ3_checkIndex_8e157_1 : decode cJ3_checkIndex_8e157 1 = .ok (.ifCond .lt 8, 3) := by decide +kernel
theorem dJ3_checkIndex_8e157_4 : decode cJ3_checkIndex_8e157 4 = .ok (.iload_n 0, 1) := by decide +kernel
theorem dJ3_checkIndex_8e157_5 : decode cJ3_checkIndex_8e157 5 = .ok (.iload_n 1, 1) := by decide +kernel
theorem dJ3_checkIndex_8e157_6 : decode cJ3_checkIndex_8e157 6 = .ok (.if_icmp .lt 10, 3) := by decide +kernel
theorem dJ3_checkIndex_8e157_9 : decode cJ3_checkIndex_8e157 9 = .ok (.aload_n 2, 1) := by decide +kernel
theorem dJ3_checkIndex_8e157_10 : decode cJ3_checkIndex_8e157 10 = .ok (.iload_n 0, 1) := by decide +kernel
theorem dJ3_checkIndex_8e157_11 : decode cJ3_checkIndex_8e157 11 = .ok (.iload_n 1, 1) := by decide +kernel
theorem dJ3_checkIndex_8e157_12 : decode cJ3_checkIndex_8e157 12 = .ok (.invokestatic 95, 3) := by decide +kernel
theorem dJ3_checkIndex_8e157_15 : decode cJ3_checkIndex_8e157 15 = .ok (.athrow, 1) := by decide +kernel
theorem dJ3_checkIndex_8e157_16 : decode cJ3_checkIndex_8e157 16 = .ok (.iload_n 0, 1) := by decide +kernel
theorem dJ3_checkIndex_8e157_17 : decode cJ3_checkIndex_8e157 17 = .ok (.ireturn, 1) := by decide +kernel
theorem dL_load_0 : decode cL_load 0 = .ok (.aload_n 2, 1) := by decide +kernel
theorem dL_load_1 : decode cL_load 1 = .ok (.iconst 0, 1) := by decide +kernel
theorem dL_load_2 : decode cL_load 2 = .ok (.aload_n 0, 1) := by decide +kernel
theorem dL_load_3 : decode cL_load 3 = .ok (.iload_n 1, 1) := by decide +kernel
theorem dL_load_4 : decode cL_load 4 = .ok (.invokevirtual 7, 3) := by decide +kernel
theorem dL_load_7 : decode cL_load 7 = .ok (.i2l, 1) := by decide +kernel
theorem dL_load_8 : decode cL_load 8 = .ok (.lastore, 1) := by decide +kernel
theorem dL_load_9 : decode cL_load 9 = .ok (.goto 6, 3) := by decide +kernel
theorem dL_load_12 : decode cL_load 12 = .ok (.astore_n 3, 1) := by decide +kernel
theorem dL_load_13 : decode cL_load 13 = .ok (.iconst 1, 1) := by decide +kernel
theorem dL_load_14 : decode cL_load 14 = .ok (.ireturn, 1) := by decide +kernel
theorem dL_load_15 : decode cL_load 15 = .ok (.iconst 0, 1) := by decide +kernel
theorem dL_load_16 : decode cL_load 16 = .ok (.ireturn, 1) := by decide +kernel
theorem dL_size_0 : decode cL_size 0 = .ok (.aload_n 2, 1) := by decide +kernel
theorem dL_size_1 : decode cL_size 1 = .ok (.iconst 0, 1) := by decide +kernel
theorem dL_size_2 : decode cL_size 2 = .ok (.aload_n 0, 1) := by decide +kernel
theorem dL_size_3 : decode cL_size 3 = .ok (.iload_n 1, 1) := by decide +kernel
theorem dL_size_4 : decode cL_size 4 = .ok (.invokevirtual 15, 3) := by decide +kernel
theorem dL_size_7 : decode cL_size 7 = .ok (.i2l, 1) := by decide +kernel
theorem dL_size_8 : decode cL_size 8 = .ok (.lastore, 1) := by decide +kernel
theorem dL_size_9 : decode cL_size 9 = .ok (.goto 6, 3) := by decide +kernel
theorem dL_size_12 : decode cL_size 12 = .ok (.astore_n 3, 1) := by decide +kernel
theorem dL_size_13 : decode cL_size 13 = .ok (.iconst 1, 1) := by decide +kernel
theorem dL_size_14 : decode cL_size 14 = .ok (.ireturn, 1) := by decide +kernel
theorem dL_size_15 : decode cL_size 15 = .ok (.iconst 0, 1) := by decide +kernel
theorem dL_size_16 : decode cL_size 16 = .ok (.ireturn, 1) := by decide +kernel
theorem dL_account_0 : decode cL_account 0 = .ok (.aload_n 2, 1) := by decide +kernel
theorem dL_account_1 : decode cL_account 1 = .ok (.iconst 0, 1) := by decide +kernel
theorem dL_account_2 : decode cL_account 2 = .ok (.aload_n 0, 1) := by decide +kernel
theorem dL_account_3 : decode cL_account 3 = .ok (.iload_n 1, 1) := by decide +kernel
theorem dL_account_4 : decode cL_account 4 = .ok (.invokevirtual 18, 3) := by decide +kernel
theorem dL_account_7 : decode cL_account 7 = .ok (.i2l, 1) := by decide +kernel
theorem dL_account_8 : decode cL_account 8 = .ok (.lastore, 1) := by decide +kernel
theorem dL_account_9 : decode cL_account 9 = .ok (.goto 6, 3) := by decide +kernel
theorem dL_account_12 : decode cL_account 12 = .ok (.astore_n 3, 1) := by decide +kernel
theorem dL_account_13 : decode cL_account 13 = .ok (.iconst 1, 1) := by decide +kernel
theorem dL_account_14 : decode cL_account 14 = .ok (.ireturn, 1) := by decide +kernel
theorem dL_account_15 : decode cL_account 15 = .ok (.iconst 0, 1) := by decide +kernel
theorem dL_account_16 : decode cL_account 16 = .ok (.ireturn, 1) := by decide +kernel
theorem dL_stretch_0 : decode cL_stretch 0 = .ok (.aload_n 3, 1) := by decide +kernel
theorem dL_stretch_1 : decode cL_stretch 1 = .ok (.iconst 0, 1) := by decide +kernel
theorem dL_stretch_2 : decode cL_stretch 2 = .ok (.aload_n 0, 1) := by decide +kernel
theorem dL_stretch_3 : decode cL_stretch 3 = .ok (.iload_n 1, 1) := by decide +kernel
theorem dL_stretch_4 : decode cL_stretch 4 = .ok (.iload_n 2, 1) := by decide +kernel
theorem dL_stretch_5 : decode cL_stretch 5 = .ok (.invokevirtual 21, 3) := by decide +kernel
theorem dL_stretch_8 : decode cL_stretch 8 = .ok (.i2l, 1) := by decide +kernel
theorem dL_stretch_9 : decode cL_stretch 9 = .ok (.lastore, 1) := by decide +kernel
theorem dL_stretch_10 : decode cL_stretch 10 = .ok (.goto 11, 3) := by decide +kernel
theorem dL_stretch_13 : decode cL_stretch 13 = .ok (.astore 4, 2) := by decide +kernel
theorem dL_stretch_15 : decode cL_stretch 15 = .ok (.iconst 1, 1) := by decide +kernel
theorem dL_stretch_16 : decode cL_stretch 16 = .ok (.ireturn, 1) := by decide +kernel
theorem dL_stretch_17 : decode cL_stretch 17 = .ok (.astore 4, 2) := by decide +kernel
theorem dL_stretch_19 : decode cL_stretch 19 = .ok (.iconst 2, 1) := by decide +kernel
theorem dL_stretch_20 : decode cL_stretch 20 = .ok (.ireturn, 1) := by decide +kernel
theorem dL_stretch_21 : decode cL_stretch 21 = .ok (.iconst 0, 1) := by decide +kernel
theorem dL_stretch_22 : decode cL_stretch 22 = .ok (.ireturn, 1) := by decide +kernel
theorem dL_striker_0 : decode cL_striker 0 = .ok (.aload_n 3, 1) := by decide +kernel
theorem dL_striker_1 : decode cL_striker 1 = .ok (.iconst 0, 1) := by decide +kernel
theorem dL_striker_2 : decode cL_striker 2 = .ok (.aload_n 0, 1) := by decide +kernel
theorem dL_striker_3 : decode cL_striker 3 = .ok (.iload_n 1, 1) := by decide +kernel
theorem dL_striker_4 : decode cL_striker 4 = .ok (.iload_n 2, 1) := by decide +kernel
theorem dL_striker_5 : decode cL_striker 5 = .ok (.invokevirtual 27, 3) := by decide +kernel
theorem dL_striker_8 : decode cL_striker 8 = .ok (.i2l, 1) := by decide +kernel
theorem dL_striker_9 : decode cL_striker 9 = .ok (.lastore, 1) := by decide +kernel
theorem dL_striker_10 : decode cL_striker 10 = .ok (.goto 11, 3) := by decide +kernel
theorem dL_striker_13 : decode cL_striker 13 = .ok (.astore 4, 2) := by decide +kernel
theorem dL_striker_15 : decode cL_striker 15 = .ok (.iconst 1, 1) := by decide +kernel
theorem dL_striker_16 : decode cL_striker 16 = .ok (.ireturn, 1) := by decide +kernel
theorem dL_striker_17 : decode cL_striker 17 = .ok (.astore 4, 2) := by decide +kernel
theorem dL_striker_19 : decode cL_striker 19 = .ok (.iconst 2, 1) := by decide +kernel
theorem dL_striker_20 : decode cL_striker 20 = .ok (.ireturn, 1) := by decide +kernel
theorem dL_striker_21 : decode cL_striker 21 = .ok (.iconst 0, 1) := by decide +kernel
theorem dL_striker_22 : decode cL_striker 22 = .ok (.ireturn, 1) := by decide +kernel
theorem dL_struck_0 : decode cL_struck 0 = .ok (.aload_n 2, 1) := by decide +kernel
theorem dL_struck_1 : decode cL_struck 1 = .ok (.iconst 0, 1) := by decide +kernel
theorem dL_struck_2 : decode cL_struck 2 = .ok (.aload_n 0, 1) := by decide +kernel
theorem dL_struck_3 : decode cL_struck 3 = .ok (.iload_n 1, 1) := by decide +kernel
theorem dL_struck_4 : decode cL_struck 4 = .ok (.invokevirtual 30, 3) := by decide +kernel
theorem dL_struck_7 : decode cL_struck 7 = .ok (.i2l, 1) := by decide +kernel
theorem dL_struck_8 : decode cL_struck 8 = .ok (.lastore, 1) := by decide +kernel
theorem dL_struck_9 : decode cL_struck 9 = .ok (.goto 6, 3) := by decide +kernel
theorem dL_struck_12 : decode cL_struck 12 = .ok (.astore_n 3, 1) := by decide +kernel
theorem dL_struck_13 : decode cL_struck 13 = .ok (.iconst 1, 1) := by decide +kernel
theorem dL_struck_14 : decode cL_struck 14 = .ok (.ireturn, 1) := by decide +kernel
theorem dL_struck_15 : decode cL_struck 15 = .ok (.iconst 0, 1) := by decide +kernel
theorem dL_struck_16 : decode cL_struck 16 = .ok (.ireturn, 1) := by decide +kernel
theorem dL_both_0 : decode cL_both 0 = .ok (.aload_n 3, 1) := by decide +kernel
theorem dL_both_1 : decode cL_both 1 = .ok (.iconst 0, 1) := by decide +kernel
theorem dL_both_2 : decode cL_both 2 = .ok (.aload_n 0, 1) := by decide +kernel
theorem dL_both_3 : decode cL_both 3 = .ok (.iload_n 1, 1) := by decide +kernel
theorem dL_both_4 : decode cL_both 4 = .ok (.iload_n 2, 1) := by decide +kernel
theorem dL_both_5 : decode cL_both 5 = .ok (.invokevirtual 33, 3) := by decide +kernel
theorem dL_both_8 : decode cL_both 8 = .ok (.i2l, 1) := by decide +kernel
theorem dL_both_9 : decode cL_both 9 = .ok (.lastore, 1) := by decide +kernel
theorem dL_both_10 : decode cL_both 10 = .ok (.goto 7, 3) := by decide +kernel
theorem dL_both_13 : decode cL_both 13 = .ok (.astore 4, 2) := by decide +kernel
theorem dL_both_15 : decode cL_both 15 = .ok (.iconst 1, 1) := by decide +kernel
theorem dL_both_16 : decode cL_both 16 = .ok (.ireturn, 1) := by decide +kernel
theorem dL_both_17 : decode cL_both 17 = .ok (.iconst 0, 1) := by decide +kernel
theorem dL_both_18 : decode cL_both 18 = .ok (.ireturn, 1) := by decide +kernel
theorem dL_meet_0 : decode cL_meet 0 = .ok (.aload_n 3, 1) := by decide +kernel
theorem dL_meet_1 : decode cL_meet 1 = .ok (.iconst 0, 1) := by decide +kernel
theorem dL_meet_2 : decode cL_meet 2 = .ok (.aload_n 0, 1) := by decide +kernel
theorem dL_meet_3 : decode cL_meet 3 = .ok (.iload_n 1, 1) := by decide +kernel
theorem dL_meet_4 : decode cL_meet 4 = .ok (.iload_n 2, 1) := by decide +kernel
theorem dL_meet_5 : decode cL_meet 5 = .ok (.invokevirtual 36, 3) := by decide +kernel
theorem dL_meet_8 : decode cL_meet 8 = .ok (.i2l, 1) := by decide +kernel
theorem dL_meet_9 : decode cL_meet 9 = .ok (.lastore, 1) := by decide +kernel
theorem dL_meet_10 : decode cL_meet 10 = .ok (.goto 7, 3) := by decide +kernel
theorem dL_meet_13 : decode cL_meet 13 = .ok (.astore 4, 2) := by decide +kernel
theorem dL_meet_15 : decode cL_meet 15 = .ok (.iconst 1, 1) := by decide +kernel
theorem dL_meet_16 : decode cL_meet 16 = .ok (.ireturn, 1) := by decide +kernel
theorem dL_meet_17 : decode cL_meet 17 = .ok (.iconst 0, 1) := by decide +kernel
theorem dL_meet_18 : decode cL_meet 18 = .ok (.ireturn, 1) := by decide +kernel
theorem dL_turn_0 : decode cL_turn 0 = .ok (.aload_n 2, 1) := by decide +kernel
theorem dL_turn_1 : decode cL_turn 1 = .ok (.iconst 0, 1) := by decide +kernel
theorem dL_turn_2 : decode cL_turn 2 = .ok (.aload_n 0, 1) := by decide +kernel
theorem dL_turn_3 : decode cL_turn 3 = .ok (.iload_n 1, 1) := by decide +kernel
theorem dL_turn_4 : decode cL_turn 4 = .ok (.invokevirtual 39, 3) := by decide +kernel
theorem dL_turn_7 : decode cL_turn 7 = .ok (.i2l, 1) := by decide +kernel
theorem dL_turn_8 : decode cL_turn 8 = .ok (.lastore, 1) := by decide +kernel
theorem dL_turn_9 : decode cL_turn 9 = .ok (.goto 6, 3) := by decide +kernel
theorem dL_turn_12 : decode cL_turn 12 = .ok (.astore_n 3, 1) := by decide +kernel
theorem dL_turn_13 : decode cL_turn 13 = .ok (.iconst 1, 1) := by decide +kernel
theorem dL_turn_14 : decode cL_turn 14 = .ok (.ireturn, 1) := by decide +kernel
theorem dL_turn_15 : decode cL_turn 15 = .ok (.iconst 0, 1) := by decide +kernel
theorem dL_turn_16 : decode cL_turn 16 = .ok (.ireturn, 1) := by decide +kernel
theorem dL_gaps_0 : decode cL_gaps 0 = .ok (.aload_n 2, 1) := by decide +kernel
theorem dL_gaps_1 : decode cL_gaps 1 = .ok (.iconst 0, 1) := by decide +kernel
theorem dL_gaps_2 : decode cL_gaps 2 = .ok (.aload_n 0, 1) := by decide +kernel
theorem dL_gaps_3 : decode cL_gaps 3 = .ok (.iload_n 1, 1) := by decide +kernel
theorem dL_gaps_4 : decode cL_gaps 4 = .ok (.invokevirtual 42, 3) := by decide +kernel
theorem dL_gaps_7 : decode cL_gaps 7 = .ok (.i2l, 1) := by decide +kernel
theorem dL_gaps_8 : decode cL_gaps 8 = .ok (.lastore, 1) := by decide +kernel
theorem dL_gaps_9 : decode cL_gaps 9 = .ok (.goto 6, 3) := by decide +kernel
theorem dL_gaps_12 : decode cL_gaps 12 = .ok (.astore_n 3, 1) := by decide +kernel
theorem dL_gaps_13 : decode cL_gaps 13 = .ok (.iconst 1, 1) := by decide +kernel
theorem dL_gaps_14 : decode cL_gaps 14 = .ok (.ireturn, 1) := by decide +kernel
theorem dL_gaps_15 : decode cL_gaps 15 = .ok (.iconst 0, 1) := by decide +kernel
theorem dL_gaps_16 : decode cL_gaps 16 = .ok (.ireturn, 1) := by decide +kernel
theorem dL_twins_0 : decode cL_twins 0 = .ok (.aload_n 2, 1) := by decide +kernel
theorem dL_twins_1 : decode cL_twins 1 = .ok (.iconst 0, 1) := by decide +kernel
theorem dL_twins_2 : decode cL_twins 2 = .ok (.aload_n 0, 1) := by decide +kernel
theorem dL_twins_3 : decode cL_twins 3 = .ok (.iload_n 1, 1) := by decide +kernel
theorem dL_twins_4 : decode cL_twins 4 = .ok (.invokevirtual 45, 3) := by decide +kernel
theorem dL_twins_7 : decode cL_twins 7 = .ok (.i2l, 1) := by decide +kernel
theorem dL_twins_8 : decode cL_twins 8 = .ok (.lastore, 1) := by decide +kernel
theorem dL_twins_9 : decode cL_twins 9 = .ok (.goto 6, 3) := by decide +kernel
theorem dL_twins_12 : decode cL_twins 12 = .ok (.astore_n 3, 1) := by decide +kernel
theorem dL_twins_13 : decode cL_twins 13 = .ok (.iconst 1, 1) := by decide +kernel
theorem dL_twins_14 : decode cL_twins 14 = .ok (.ireturn, 1) := by decide +kernel
theorem dL_twins_15 : decode cL_twins 15 = .ok (.iconst 0, 1) := by decide +kernel
theorem dL_twins_16 : decode cL_twins 16 = .ok (.ireturn, 1) := by decide +kernel
theorem dL_thickest_0 : decode cL_thickest 0 = .ok (.aload_n 2, 1) := by decide +kernel
theorem dL_thickest_1 : decode cL_thickest 1 = .ok (.iconst 0, 1) := by decide +kernel
theorem dL_thickest_2 : decode cL_thickest 2 = .ok (.aload_n 0, 1) := by decide +kernel
theorem dL_thickest_3 : decode cL_thickest 3 = .ok (.iload_n 1, 1) := by decide +kernel
theorem dL_thickest_4 : decode cL_thickest 4 = .ok (.invokevirtual 48, 3) := by decide +kernel
theorem dL_thickest_7 : decode cL_thickest 7 = .ok (.i2l, 1) := by decide +kernel
theorem dL_thickest_8 : decode cL_thickest 8 = .ok (.lastore, 1) := by decide +kernel
theorem dL_thickest_9 : decode cL_thickest 9 = .ok (.goto 6, 3) := by decide +kernel
theorem dL_thickest_12 : decode cL_thickest 12 = .ok (.astore_n 3, 1) := by decide +kernel
theorem dL_thickest_13 : decode cL_thickest 13 = .ok (.iconst 1, 1) := by decide +kernel
theorem dL_thickest_14 : decode cL_thickest 14 = .ok (.ireturn, 1) := by decide +kernel
theorem dL_thickest_15 : decode cL_thickest 15 = .ok (.iconst 0, 1) := by decide +kernel
theorem dL_thickest_16 : decode cL_thickest 16 = .ok (.ireturn, 1) := by decide +kernel
theorem dL_takes_0 : decode cL_takes 0 = .ok (.aload_n 2, 1) := by decide +kernel
theorem dL_takes_1 : decode cL_takes 1 = .ok (.iconst 0, 1) := by decide +kernel
theorem dL_takes_2 : decode cL_takes 2 = .ok (.aload_n 0, 1) := by decide +kernel
theorem dL_takes_3 : decode cL_takes 3 = .ok (.iload_n 1, 1) := by decide +kernel
theorem dL_takes_4 : decode cL_takes 4 = .ok (.invokevirtual 51, 3) := by decide +kernel
theorem dL_takes_7 : decode cL_takes 7 = .ok (.i2l, 1) := by decide +kernel
theorem dL_takes_8 : decode cL_takes 8 = .ok (.lastore, 1) := by decide +kernel
theorem dL_takes_9 : decode cL_takes 9 = .ok (.goto 6, 3) := by decide +kernel
theorem dL_takes_12 : decode cL_takes 12 = .ok (.astore_n 3, 1) := by decide +kernel
theorem dL_takes_13 : decode cL_takes 13 = .ok (.iconst 1, 1) := by decide +kernel
theorem dL_takes_14 : decode cL_takes 14 = .ok (.ireturn, 1) := by decide +kernel
theorem dL_takes_15 : decode cL_takes 15 = .ok (.iconst 0, 1) := by decide +kernel
theorem dL_takes_16 : decode cL_takes 16 = .ok (.ireturn, 1) := by decide +kernel
theorem dL_gives_0 : decode cL_gives 0 = .ok (.aload_n 2, 1) := by decide +kernel
theorem dL_gives_1 : decode cL_gives 1 = .ok (.iconst 0, 1) := by decide +kernel
theorem dL_gives_2 : decode cL_gives 2 = .ok (.aload_n 0, 1) := by decide +kernel
theorem dL_gives_3 : decode cL_gives 3 = .ok (.iload_n 1, 1) := by decide +kernel
theorem dL_gives_4 : decode cL_gives 4 = .ok (.invokevirtual 54, 3) := by decide +kernel
theorem dL_gives_7 : decode cL_gives 7 = .ok (.i2l, 1) := by decide +kernel
theorem dL_gives_8 : decode cL_gives 8 = .ok (.lastore, 1) := by decide +kernel
theorem dL_gives_9 : decode cL_gives 9 = .ok (.goto 6, 3) := by decide +kernel
theorem dL_gives_12 : decode cL_gives 12 = .ok (.astore_n 3, 1) := by decide +kernel
theorem dL_gives_13 : decode cL_gives 13 = .ok (.iconst 1, 1) := by decide +kernel
theorem dL_gives_14 : decode cL_gives 14 = .ok (.ireturn, 1) := by decide +kernel
theorem dL_gives_15 : decode cL_gives 15 = .ok (.iconst 0, 1) := by decide +kernel
theorem dL_gives_16 : decode cL_gives 16 = .ok (.ireturn, 1) := by decide +kernel
theorem dL_marksNext_0 : decode cL_marksNext 0 = .ok (.aload_n 2, 1) := by decide +kernel
theorem dL_marksNext_1 : decode cL_marksNext 1 = .ok (.iconst 0, 1) := by decide +kernel
theorem dL_marksNext_2 : decode cL_marksNext 2 = .ok (.aload_n 0, 1) := by decide +kernel
theorem dL_marksNext_3 : decode cL_marksNext 3 = .ok (.iload_n 1, 1) := by decide +kernel
theorem dL_marksNext_4 : decode cL_marksNext 4 = .ok (.invokevirtual 57, 3) := by decide +kernel
theorem dL_marksNext_7 : decode cL_marksNext 7 = .ok (.i2l, 1) := by decide +kernel
theorem dL_marksNext_8 : decode cL_marksNext 8 = .ok (.lastore, 1) := by decide +kernel
theorem dL_marksNext_9 : decode cL_marksNext 9 = .ok (.goto 6, 3) := by decide +kernel
theorem dL_marksNext_12 : decode cL_marksNext 12 = .ok (.astore_n 3, 1) := by decide +kernel
theorem dL_marksNext_13 : decode cL_marksNext 13 = .ok (.iconst 1, 1) := by decide +kernel
theorem dL_marksNext_14 : decode cL_marksNext 14 = .ok (.ireturn, 1) := by decide +kernel
theorem dL_marksNext_15 : decode cL_marksNext 15 = .ok (.iconst 0, 1) := by decide +kernel
theorem dL_marksNext_16 : decode cL_marksNext 16 = .ok (.ireturn, 1) := by decide +kernel
theorem dL_lay_0 : decode cL_lay 0 = .ok (.aload_n 2, 1) := by decide +kernel
theorem dL_lay_1 : decode cL_lay 1 = .ok (.iconst 0, 1) := by decide +kernel
theorem dL_lay_2 : decode cL_lay 2 = .ok (.aload_n 0, 1) := by decide +kernel
theorem dL_lay_3 : decode cL_lay 3 = .ok (.iload_n 1, 1) := by decide +kernel
theorem dL_lay_4 : decode cL_lay 4 = .ok (.invokevirtual 60, 3) := by decide +kernel
theorem dL_lay_7 : decode cL_lay 7 = .ok (.i2l, 1) := by decide +kernel
theorem dL_lay_8 : decode cL_lay 8 = .ok (.lastore, 1) := by decide +kernel
theorem dL_lay_9 : decode cL_lay 9 = .ok (.goto 6, 3) := by decide +kernel
theorem dL_lay_12 : decode cL_lay 12 = .ok (.astore_n 3, 1) := by decide +kernel
theorem dL_lay_13 : decode cL_lay 13 = .ok (.iconst 1, 1) := by decide +kernel
theorem dL_lay_14 : decode cL_lay 14 = .ok (.ireturn, 1) := by decide +kernel
theorem dL_lay_15 : decode cL_lay 15 = .ok (.iconst 0, 1) := by decide +kernel
theorem dL_lay_16 : decode cL_lay 16 = .ok (.ireturn, 1) := by decide +kernel
theorem dL_trim_0 : decode cL_trim 0 = .ok (.aload_n 2, 1) := by decide +kernel
theorem dL_trim_1 : decode cL_trim 1 = .ok (.iconst 0, 1) := by decide +kernel
theorem dL_trim_2 : decode cL_trim 2 = .ok (.aload_n 0, 1) := by decide +kernel
theorem dL_trim_3 : decode cL_trim 3 = .ok (.iload_n 1, 1) := by decide +kernel
theorem dL_trim_4 : decode cL_trim 4 = .ok (.invokevirtual 63, 3) := by decide +kernel
theorem dL_trim_7 : decode cL_trim 7 = .ok (.i2l, 1) := by decide +kernel
theorem dL_trim_8 : decode cL_trim 8 = .ok (.lastore, 1) := by decide +kernel
theorem dL_trim_9 : decode cL_trim 9 = .ok (.goto 6, 3) := by decide +kernel
theorem dL_trim_12 : decode cL_trim 12 = .ok (.astore_n 3, 1) := by decide +kernel
theorem dL_trim_13 : decode cL_trim 13 = .ok (.iconst 1, 1) := by decide +kernel
theorem dL_trim_14 : decode cL_trim 14 = .ok (.ireturn, 1) := by decide +kernel
theorem dL_trim_15 : decode cL_trim 15 = .ok (.iconst 0, 1) := by decide +kernel
theorem dL_trim_16 : decode cL_trim 16 = .ok (.ireturn, 1) := by decide +kernel
theorem dL_swap_0 : decode cL_swap 0 = .ok (.aload_n 3, 1) := by decide +kernel
theorem dL_swap_1 : decode cL_swap 1 = .ok (.iconst 0, 1) := by decide +kernel
theorem dL_swap_2 : decode cL_swap 2 = .ok (.aload_n 0, 1) := by decide +kernel
theorem dL_swap_3 : decode cL_swap 3 = .ok (.iload_n 1, 1) := by decide +kernel
theorem dL_swap_4 : decode cL_swap 4 = .ok (.iload_n 2, 1) := by decide +kernel
theorem dL_swap_5 : decode cL_swap 5 = .ok (.invokevirtual 66, 3) := by decide +kernel
theorem dL_swap_8 : decode cL_swap 8 = .ok (.i2l, 1) := by decide +kernel
theorem dL_swap_9 : decode cL_swap 9 = .ok (.lastore, 1) := by decide +kernel
theorem dL_swap_10 : decode cL_swap 10 = .ok (.goto 7, 3) := by decide +kernel
theorem dL_swap_13 : decode cL_swap 13 = .ok (.astore 4, 2) := by decide +kernel
theorem dL_swap_15 : decode cL_swap 15 = .ok (.iconst 1, 1) := by decide +kernel
theorem dL_swap_16 : decode cL_swap 16 = .ok (.ireturn, 1) := by decide +kernel
theorem dL_swap_17 : decode cL_swap 17 = .ok (.iconst 0, 1) := by decide +kernel
theorem dL_swap_18 : decode cL_swap 18 = .ok (.ireturn, 1) := by decide +kernel
theorem dL_add_0 : decode cL_add 0 = .ok (.aload_n 2, 1) := by decide +kernel
theorem dL_add_1 : decode cL_add 1 = .ok (.iconst 0, 1) := by decide +kernel
theorem dL_add_2 : decode cL_add 2 = .ok (.aload_n 0, 1) := by decide +kernel
theorem dL_add_3 : decode cL_add 3 = .ok (.iload_n 1, 1) := by decide +kernel
theorem dL_add_4 : decode cL_add 4 = .ok (.invokevirtual 69, 3) := by decide +kernel
theorem dL_add_7 : decode cL_add 7 = .ok (.i2l, 1) := by decide +kernel
theorem dL_add_8 : decode cL_add 8 = .ok (.lastore, 1) := by decide +kernel
theorem dL_add_9 : decode cL_add 9 = .ok (.goto 6, 3) := by decide +kernel
theorem dL_add_12 : decode cL_add 12 = .ok (.astore_n 3, 1) := by decide +kernel
theorem dL_add_13 : decode cL_add 13 = .ok (.iconst 1, 1) := by decide +kernel
theorem dL_add_14 : decode cL_add 14 = .ok (.ireturn, 1) := by decide +kernel
theorem dL_add_15 : decode cL_add 15 = .ok (.iconst 0, 1) := by decide +kernel
theorem dL_add_16 : decode cL_add 16 = .ok (.ireturn, 1) := by decide +kernel
theorem dL_lift_0 : decode cL_lift 0 = .ok (.aload_n 2, 1) := by decide +kernel
theorem dL_lift_1 : decode cL_lift 1 = .ok (.iconst 0, 1) := by decide +kernel
theorem dL_lift_2 : decode cL_lift 2 = .ok (.aload_n 0, 1) := by decide +kernel
theorem dL_lift_3 : decode cL_lift 3 = .ok (.iload_n 1, 1) := by decide +kernel
theorem dL_lift_4 : decode cL_lift 4 = .ok (.invokevirtual 72, 3) := by decide +kernel
theorem dL_lift_7 : decode cL_lift 7 = .ok (.i2l, 1) := by decide +kernel
theorem dL_lift_8 : decode cL_lift 8 = .ok (.lastore, 1) := by decide +kernel
theorem dL_lift_9 : decode cL_lift 9 = .ok (.goto 6, 3) := by decide +kernel
theorem dL_lift_12 : decode cL_lift 12 = .ok (.astore_n 3, 1) := by decide +kernel
theorem dL_lift_13 : decode cL_lift 13 = .ok (.iconst 1, 1) := by decide +kernel
theorem dL_lift_14 : decode cL_lift 14 = .ok (.ireturn, 1) := by decide +kernel
theorem dL_lift_15 : decode cL_lift 15 = .ok (.iconst 0, 1) := by decide +kernel
theorem dL_lift_16 : decode cL_lift 16 = .ok (.ireturn, 1) := by decide +kernel
theorem dL_first_0 : decode cL_first 0 = .ok (.aload_n 2, 1) := by decide +kernel
theorem dL_first_1 : decode cL_first 1 = .ok (.iconst 0, 1) := by decide +kernel
theorem dL_first_2 : decode cL_first 2 = .ok (.aload_n 0, 1) := by decide +kernel
theorem dL_first_3 : decode cL_first 3 = .ok (.iload_n 1, 1) := by decide +kernel
theorem dL_first_4 : decode cL_first 4 = .ok (.invokevirtual 75, 3) := by decide +kernel
theorem dL_first_7 : decode cL_first 7 = .ok (.i2l, 1) := by decide +kernel
theorem dL_first_8 : decode cL_first 8 = .ok (.lastore, 1) := by decide +kernel
theorem dL_first_9 : decode cL_first 9 = .ok (.goto 6, 3) := by decide +kernel
theorem dL_first_12 : decode cL_first 12 = .ok (.astore_n 3, 1) := by decide +kernel
theorem dL_first_13 : decode cL_first 13 = .ok (.iconst 1, 1) := by decide +kernel
theorem dL_first_14 : decode cL_first 14 = .ok (.ireturn, 1) := by decide +kernel
theorem dL_first_15 : decode cL_first 15 = .ok (.iconst 0, 1) := by decide +kernel
theorem dL_first_16 : decode cL_first 16 = .ok (.ireturn, 1) := by decide +kernel
theorem dL_wheel_0 : decode cL_wheel 0 = .ok (.aload_n 2, 1) := by decide +kernel
theorem dL_wheel_1 : decode cL_wheel 1 = .ok (.iconst 0, 1) := by decide +kernel
theorem dL_wheel_2 : decode cL_wheel 2 = .ok (.aload_n 0, 1) := by decide +kernel
theorem dL_wheel_3 : decode cL_wheel 3 = .ok (.iload_n 1, 1) := by decide +kernel
theorem dL_wheel_4 : decode cL_wheel 4 = .ok (.invokevirtual 78, 3) := by decide +kernel
theorem dL_wheel_7 : decode cL_wheel 7 = .ok (.i2l, 1) := by decide +kernel
theorem dL_wheel_8 : decode cL_wheel 8 = .ok (.lastore, 1) := by decide +kernel
theorem dL_wheel_9 : decode cL_wheel 9 = .ok (.goto 6, 3) := by decide +kernel
theorem dL_wheel_12 : decode cL_wheel 12 = .ok (.astore_n 3, 1) := by decide +kernel
theorem dL_wheel_13 : decode cL_wheel 13 = .ok (.iconst 1, 1) := by decide +kernel
theorem dL_wheel_14 : decode cL_wheel 14 = .ok (.ireturn, 1) := by decide +kernel
theorem dL_wheel_15 : decode cL_wheel 15 = .ok (.iconst 0, 1) := by decide +kernel
theorem dL_wheel_16 : decode cL_wheel 16 = .ok (.ireturn, 1) := by decide +kernel
theorem dL_fill_0 : decode cL_fill 0 = .ok (.aload_n 2, 1) := by decide +kernel
theorem dL_fill_1 : decode cL_fill 1 = .ok (.iconst 0, 1) := by decide +kernel
theorem dL_fill_2 : decode cL_fill 2 = .ok (.aload_n 0, 1) := by decide +kernel
theorem dL_fill_3 : decode cL_fill 3 = .ok (.iload_n 1, 1) := by decide +kernel
theorem dL_fill_4 : decode cL_fill 4 = .ok (.invokevirtual 81, 3) := by decide +kernel
theorem dL_fill_7 : decode cL_fill 7 = .ok (.i2l, 1) := by decide +kernel
theorem dL_fill_8 : decode cL_fill 8 = .ok (.lastore, 1) := by decide +kernel
theorem dL_fill_9 : decode cL_fill 9 = .ok (.goto 6, 3) := by decide +kernel
theorem dL_fill_12 : decode cL_fill 12 = .ok (.astore_n 3, 1) := by decide +kernel
theorem dL_fill_13 : decode cL_fill 13 = .ok (.iconst 1, 1) := by decide +kernel
theorem dL_fill_14 : decode cL_fill 14 = .ok (.ireturn, 1) := by decide +kernel
theorem dL_fill_15 : decode cL_fill 15 = .ok (.iconst 0, 1) := by decide +kernel
theorem dL_fill_16 : decode cL_fill 16 = .ok (.ireturn, 1) := by decide +kernel
theorem dL_play_0 : decode cL_play 0 = .ok (.aload_n 2, 1) := by decide +kernel
theorem dL_play_1 : decode cL_play 1 = .ok (.iconst 0, 1) := by decide +kernel
theorem dL_play_2 : decode cL_play 2 = .ok (.aload_n 0, 1) := by decide +kernel
theorem dL_play_3 : decode cL_play 3 = .ok (.iload_n 1, 1) := by decide +kernel
theorem dL_play_4 : decode cL_play 4 = .ok (.invokevirtual 84, 3) := by decide +kernel
theorem dL_play_7 : decode cL_play 7 = .ok (.i2l, 1) := by decide +kernel
theorem dL_play_8 : decode cL_play 8 = .ok (.lastore, 1) := by decide +kernel
theorem dL_play_9 : decode cL_play 9 = .ok (.goto 6, 3) := by decide +kernel
theorem dL_play_12 : decode cL_play 12 = .ok (.astore_n 3, 1) := by decide +kernel
theorem dL_play_13 : decode cL_play 13 = .ok (.iconst 1, 1) := by decide +kernel
theorem dL_play_14 : decode cL_play 14 = .ok (.ireturn, 1) := by decide +kernel
theorem dL_play_15 : decode cL_play 15 = .ok (.iconst 0, 1) := by decide +kernel
theorem dL_play_16 : decode cL_play 16 = .ok (.ireturn, 1) := by decide +kernel
theorem dL_format_0 : decode cL_format 0 = .ok (.aload_n 2, 1) := by decide +kernel
theorem dL_format_1 : decode cL_format 1 = .ok (.iconst 0, 1) := by decide +kernel
theorem dL_format_2 : decode cL_format 2 = .ok (.aload_n 0, 1) := by decide +kernel
theorem dL_format_3 : decode cL_format 3 = .ok (.iload_n 1, 1) := by decide +kernel
theorem dL_format_4 : decode cL_format 4 = .ok (.invokevirtual 87, 3) := by decide +kernel
theorem dL_format_7 : decode cL_format 7 = .ok (.i2l, 1) := by decide +kernel
theorem dL_format_8 : decode cL_format 8 = .ok (.lastore, 1) := by decide +kernel
theorem dL_format_9 : decode cL_format 9 = .ok (.goto 6, 3) := by decide +kernel
theorem dL_format_12 : decode cL_format 12 = .ok (.astore_n 3, 1) := by decide +kernel
theorem dL_format_13 : decode cL_format 13 = .ok (.iconst 1, 1) := by decide +kernel
