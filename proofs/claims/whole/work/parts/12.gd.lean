theorem dX10_textOf_0 : decode cX10_textOf 0 = .ok (.iload_n 1, 1) := by decide +kernel
theorem dX10_textOf_1 : decode cX10_textOf 1 = .ok (.ifCond .ne 10, 3) := by decide +kernel
theorem dX10_textOf_4 : decode cX10_textOf 4 = .ok (.aload_n 0, 1) := by decide +kernel
theorem dX10_textOf_5 : decode cX10_textOf 5 = .ok (.getfield 14, 3) := by decide +kernel
theorem dX10_textOf_8 : decode cX10_textOf 8 = .ok (.goto 7, 3) := by decide +kernel
theorem dX10_textOf_11 : decode cX10_textOf 11 = .ok (.aload_n 0, 1) := by decide +kernel
theorem dX10_textOf_12 : decode cX10_textOf 12 = .ok (.getfield 18, 3) := by decide +kernel
theorem dX10_textOf_15 : decode cX10_textOf 15 = .ok (.areturn, 1) := by decide +kernel
theorem dX10_understand_0 : decode cX10_understand 0 = .ok (.iload_n 1, 1) := by decide +kernel
theorem dX10_understand_1 : decode cX10_understand 1 = .ok (.ifCond .ne 25, 3) := by decide +kernel
theorem dX10_understand_4 : decode cX10_understand 4 = .ok (.aload_n 0, 1) := by decide +kernel
theorem dX10_understand_5 : decode cX10_understand 5 = .ok (.getfield 24, 3) := by decide +kernel
theorem dX10_understand_8 : decode cX10_understand 8 = .ok (.aload_n 0, 1) := by decide +kernel
theorem dX10_understand_9 : decode cX10_understand 9 = .ok (.getfield 14, 3) := by decide +kernel
theorem dX10_understand_12 : decode cX10_understand 12 = .ok (.invokevirtual 351, 3) := by decide +kernel
theorem dX10_understand_15 : decode cX10_understand 15 = .ok (.aload_n 0, 1) := by decide +kernel
theorem dX10_understand_16 : decode cX10_understand 16 = .ok (.getfield 52, 3) := by decide +kernel
theorem dX10_understand_19 : decode cX10_understand 19 = .ok (.iconst 0, 1) := by decide +kernel
theorem dX10_understand_20 : decode cX10_understand 20 = .ok (.putfield 114, 3) := by decide +kernel
theorem dX10_understand_23 : decode cX10_understand 23 = .ok (.goto 14, 3) := by decide +kernel
theorem dX10_understand_26 : decode cX10_understand 26 = .ok (.aload_n 0, 1) := by decide +kernel
theorem dX10_understand_27 : decode cX10_understand 27 = .ok (.getfield 31, 3) := by decide +kernel
theorem dX10_understand_30 : decode cX10_understand 30 = .ok (.aload_n 0, 1) := by decide +kernel
theorem dX10_understand_31 : decode cX10_understand 31 = .ok (.getfield 18, 3) := by decide +kernel
theorem dX10_understand_34 : decode cX10_understand 34 = .ok (.invokevirtual 355, 3) := by decide +kernel
theorem dX10_understand_37 : decode cX10_understand 37 = .ok (.aload_n 0, 1) := by decide +kernel
theorem dX10_understand_38 : decode cX10_understand 38 = .ok (.getfield 59, 3) := by decide +kernel
theorem dX10_understand_41 : decode cX10_understand 41 = .ok (.iconst 0, 1) := by decide +kernel
theorem dX10_understand_42 : decode cX10_understand 42 = .ok (.putfield 356, 3) := by decide +kernel
theorem dX10_understand_45 : decode cX10_understand 45 = .ok (.return_, 1) := by decide +kernel
theorem dX10_type_0 : decode cX10_type 0 = .ok (.iload_n 1, 1) := by decide +kernel
theorem dX10_type_1 : decode cX10_type 1 = .ok (.iconst 2, 1) := by decide +kernel
theorem dX10_type_2 : decode cX10_type 2 = .ok (.invokestatic 84, 3) := by decide +kernel
theorem dX10_type_5 : decode cX10_type 5 = .ok (.ifCond .eq 13, 3) := by decide +kernel
theorem dX10_type_8 : decode cX10_type 8 = .ok (.iload_n 2, 1) := by decide +kernel
theorem dX10_type_9 : decode cX10_type 9 = .ok (.sipush 256, 3) := by decide +kernel
theorem dX10_type_12 : decode cX10_type 12 = .ok (.invokestatic 84, 3) := by decide +kernel
theorem dX10_type_15 : decode cX10_type 15 = .ok (.ifCond .ne 6, 3) := by decide +kernel
theorem dX10_type_18 : decode cX10_type 18 = .ok (.bipush (-2), 2) := by decide +kernel
theorem dX10_type_20 : decode cX10_type 20 = .ok (.ireturn, 1) := by decide +kernel
theorem dX10_type_21 : decode cX10_type 21 = .ok (.aload_n 0, 1) := by decide +kernel
theorem dX10_type_22 : decode cX10_type 22 = .ok (.iload_n 1, 1) := by decide +kernel
theorem dX10_type_23 : decode cX10_type 23 = .ok (.invokevirtual 88, 3) := by decide +kernel
theorem dX10_type_26 : decode cX10_type 26 = .ok (.iload_n 2, 1) := by decide +kernel
theorem dX10_type_27 : decode cX10_type 27 = .ok (.invokevirtual 92, 3) := by decide +kernel
theorem dX10_type_30 : decode cX10_type 30 = .ok (.ifCond .ne 6, 3) := by decide +kernel
theorem dX10_type_33 : decode cX10_type 33 = .ok (.bipush (-4), 2) := by decide +kernel
theorem dX10_type_35 : decode cX10_type 35 = .ok (.ireturn, 1) := by decide +kernel
theorem dX10_type_36 : decode cX10_type 36 = .ok (.aload_n 0, 1) := by decide +kernel
theorem dX10_type_37 : decode cX10_type 37 = .ok (.iload_n 1, 1) := by decide +kernel
theorem dX10_type_38 : decode cX10_type 38 = .ok (.invokevirtual 96, 3) := by decide +kernel
theorem dX10_type_41 : decode cX10_type 41 = .ok (.aload_n 0, 1) := by decide +kernel
theorem dX10_type_42 : decode cX10_type 42 = .ok (.iload_n 1, 1) := by decide +kernel
theorem dX10_type_43 : decode cX10_type 43 = .ok (.invokevirtual 88, 3) := by decide +kernel
theorem dX10_type_46 : decode cX10_type 46 = .ok (.getfield 99, 3) := by decide +kernel
theorem dX10_type_49 : decode cX10_type 49 = .ok (.ireturn, 1) := by decide +kernel
theorem dX10_wipe_0 : decode cX10_wipe 0 = .ok (.iload_n 1, 1) := by decide +kernel
theorem dX10_wipe_1 : decode cX10_wipe 1 = .ok (.iconst 2, 1) := by decide +kernel
theorem dX10_wipe_2 : decode cX10_wipe 2 = .ok (.invokestatic 84, 3) := by decide +kernel
theorem dX10_wipe_5 : decode cX10_wipe 5 = .ok (.ifCond .ne 6, 3) := by decide +kernel
theorem dX10_wipe_8 : decode cX10_wipe 8 = .ok (.bipush (-2), 2) := by decide +kernel
theorem dX10_wipe_10 : decode cX10_wipe 10 = .ok (.ireturn, 1) := by decide +kernel
theorem dX10_wipe_11 : decode cX10_wipe 11 = .ok (.aload_n 0, 1) := by decide +kernel
theorem dX10_wipe_12 : decode cX10_wipe 12 = .ok (.iload_n 1, 1) := by decide +kernel
theorem dX10_wipe_13 : decode cX10_wipe 13 = .ok (.invokevirtual 88, 3) := by decide +kernel
theorem dX10_wipe_16 : decode cX10_wipe 16 = .ok (.getfield 99, 3) := by decide +kernel
theorem dX10_wipe_19 : decode cX10_wipe 19 = .ok (.istore_n 2, 1) := by decide +kernel
theorem dX10_wipe_20 : decode cX10_wipe 20 = .ok (.aload_n 0, 1) := by decide +kernel
theorem dX10_wipe_21 : decode cX10_wipe 21 = .ok (.iload_n 1, 1) := by decide +kernel
theorem dX10_wipe_22 : decode cX10_wipe 22 = .ok (.invokevirtual 88, 3) := by decide +kernel
theorem dX10_wipe_25 : decode cX10_wipe 25 = .ok (.iconst 0, 1) := by decide +kernel
theorem dX10_wipe_26 : decode cX10_wipe 26 = .ok (.putfield 99, 3) := by decide +kernel
theorem dX10_wipe_29 : decode cX10_wipe 29 = .ok (.aload_n 0, 1) := by decide +kernel
theorem dX10_wipe_30 : decode cX10_wipe 30 = .ok (.iload_n 1, 1) := by decide +kernel
theorem dX10_wipe_31 : decode cX10_wipe 31 = .ok (.invokevirtual 96, 3) := by decide +kernel
theorem dX10_wipe_34 : decode cX10_wipe 34 = .ok (.iload_n 2, 1) := by decide +kernel
theorem dX10_wipe_35 : decode cX10_wipe 35 = .ok (.ireturn, 1) := by decide +kernel
theorem dX10_fault_0 : decode cX10_fault 0 = .ok (.iload_n 1, 1) := by decide +kernel
theorem dX10_fault_1 : decode cX10_fault 1 = .ok (.iconst 2, 1) := by decide +kernel
theorem dX10_fault_2 : decode cX10_fault 2 = .ok (.invokestatic 84, 3) := by decide +kernel
theorem dX10_fault_5 : decode cX10_fault 5 = .ok (.ifCond .ne 6, 3) := by decide +kernel
theorem dX10_fault_8 : decode cX10_fault 8 = .ok (.bipush (-2), 2) := by decide +kernel
theorem dX10_fault_10 : decode cX10_fault 10 = .ok (.ireturn, 1) := by decide +kernel
theorem dX10_fault_11 : decode cX10_fault 11 = .ok (.iload_n 1, 1) := by decide +kernel
theorem dX10_fault_12 : decode cX10_fault 12 = .ok (.ifCond .ne 13, 3) := by decide +kernel
theorem dX10_fault_15 : decode cX10_fault 15 = .ok (.aload_n 0, 1) := by decide +kernel
theorem dX10_fault_16 : decode cX10_fault 16 = .ok (.getfield 24, 3) := by decide +kernel
theorem dX10_fault_19 : decode cX10_fault 19 = .ok (.getfield 103, 3) := by decide +kernel
theorem dX10_fault_22 : decode cX10_fault 22 = .ok (.goto 10, 3) := by decide +kernel
theorem dX10_fault_25 : decode cX10_fault 25 = .ok (.aload_n 0, 1) := by decide +kernel
theorem dX10_fault_26 : decode cX10_fault 26 = .ok (.getfield 31, 3) := by decide +kernel
theorem dX10_fault_29 : decode cX10_fault 29 = .ok (.getfield 106, 3) := by decide +kernel
theorem dX10_fault_32 : decode cX10_fault 32 = .ok (.ireturn, 1) := by decide +kernel
theorem dX10_motor_0 : decode cX10_motor 0 = .ok (.iload_n 1, 1) := by decide +kernel
theorem dX10_motor_1 : decode cX10_motor 1 = .ok (.bipush 7, 2) := by decide +kernel
theorem dX10_motor_3 : decode cX10_motor 3 = .ok (.invokestatic 84, 3) := by decide +kernel
theorem dX10_motor_6 : decode cX10_motor 6 = .ok (.ifCond .eq 15, 3) := by decide +kernel
theorem dX10_motor_9 : decode cX10_motor 9 = .ok (.aload_n 0, 1) := by decide +kernel
theorem dX10_motor_10 : decode cX10_motor 10 = .ok (.getfield 24, 3) := by decide +kernel
theorem dX10_motor_13 : decode cX10_motor 13 = .ok (.getfield 107, 3) := by decide +kernel
theorem dX10_motor_16 : decode cX10_motor 16 = .ok (.iload_n 1, 1) := by decide +kernel
theorem dX10_motor_17 : decode cX10_motor 17 = .ok (.iaload, 1) := by decide +kernel
theorem dX10_motor_18 : decode cX10_motor 18 = .ok (.goto 5, 3) := by decide +kernel
theorem dX10_motor_21 : decode cX10_motor 21 = .ok (.bipush (-2), 2) := by decide +kernel
theorem dX10_motor_23 : decode cX10_motor 23 = .ok (.ireturn, 1) := by decide +kernel
theorem dX10_ahead_0 : decode cX10_ahead 0 = .ok (.iload_n 1, 1) := by decide +kernel
theorem dX10_ahead_1 : decode cX10_ahead 1 = .ok (.iconst 5, 1) := by decide +kernel
theorem dX10_ahead_2 : decode cX10_ahead 2 = .ok (.invokestatic 84, 3) := by decide +kernel
theorem dX10_ahead_5 : decode cX10_ahead 5 = .ok (.ifCond .eq 12, 3) := by decide +kernel
theorem dX10_ahead_8 : decode cX10_ahead 8 = .ok (.iload_n 2, 1) := by decide +kernel
theorem dX10_ahead_9 : decode cX10_ahead 9 = .ok (.bipush 17, 2) := by decide +kernel
theorem dX10_ahead_11 : decode cX10_ahead 11 = .ok (.invokestatic 84, 3) := by decide +kernel
theorem dX10_ahead_14 : decode cX10_ahead 14 = .ok (.ifCond .ne 6, 3) := by decide +kernel
theorem dX10_ahead_17 : decode cX10_ahead 17 = .ok (.bipush (-2), 2) := by decide +kernel
theorem dX10_ahead_19 : decode cX10_ahead 19 = .ok (.ireturn, 1) := by decide +kernel
theorem dX10_ahead_20 : decode cX10_ahead 20 = .ok (.aload_n 0, 1) := by decide +kernel
theorem dX10_ahead_21 : decode cX10_ahead 21 = .ok (.getfield 38, 3) := by decide +kernel
theorem dX10_ahead_24 : decode cX10_ahead 24 = .ok (.getfield 111, 3) := by decide +kernel
theorem dX10_ahead_27 : decode cX10_ahead 27 = .ok (.iload_n 1, 1) := by decide +kernel
theorem dX10_ahead_28 : decode cX10_ahead 28 = .ok (.iaload, 1) := by decide +kernel
theorem dX10_ahead_29 : decode cX10_ahead 29 = .ok (.istore_n 3, 1) := by decide +kernel
theorem dX10_ahead_30 : decode cX10_ahead 30 = .ok (.aload_n 0, 1) := by decide +kernel
theorem dX10_ahead_31 : decode cX10_ahead 31 = .ok (.getfield 38, 3) := by decide +kernel
theorem dX10_ahead_34 : decode cX10_ahead 34 = .ok (.getfield 111, 3) := by decide +kernel
theorem dX10_ahead_37 : decode cX10_ahead 37 = .ok (.iload_n 1, 1) := by decide +kernel
theorem dX10_ahead_38 : decode cX10_ahead 38 = .ok (.iload_n 2, 1) := by decide +kernel
theorem dX10_ahead_39 : decode cX10_ahead 39 = .ok (.iastore, 1) := by decide +kernel
theorem dX10_ahead_40 : decode cX10_ahead 40 = .ok (.aload_n 0, 1) := by decide +kernel
theorem dX10_ahead_41 : decode cX10_ahead 41 = .ok (.getfield 52, 3) := by decide +kernel
theorem dX10_ahead_44 : decode cX10_ahead 44 = .ok (.iconst 0, 1) := by decide +kernel
theorem dX10_ahead_45 : decode cX10_ahead 45 = .ok (.putfield 114, 3) := by decide +kernel
theorem dX10_ahead_48 : decode cX10_ahead 48 = .ok (.iload_n 3, 1) := by decide +kernel
theorem dX10_ahead_49 : decode cX10_ahead 49 = .ok (.ireturn, 1) := by decide +kernel
theorem dX10_see_0 : decode cX10_see 0 = .ok (.iload_n 1, 1) := by decide +kernel
theorem dX10_see_1 : decode cX10_see 1 = .ok (.bipush 10, 2) := by decide +kernel
theorem dX10_see_3 : decode cX10_see 3 = .ok (.invokestatic 84, 3) := by decide +kernel
theorem dX10_see_6 : decode cX10_see 6 = .ok (.ifCond .eq 12, 3) := by decide +kernel
theorem dX10_see_9 : decode cX10_see 9 = .ok (.iload_n 2, 1) := by decide +kernel
theorem dX10_see_10 : decode cX10_see 10 = .ok (.bipush 7, 2) := by decide +kernel
theorem dX10_see_12 : decode cX10_see 12 = .ok (.invokestatic 84, 3) := by decide +kernel
theorem dX10_see_15 : decode cX10_see 15 = .ok (.ifCond .ne 6, 3) := by decide +kernel
theorem dX10_see_18 : decode cX10_see 18 = .ok (.bipush (-2), 2) := by decide +kernel
theorem dX10_see_20 : decode cX10_see 20 = .ok (.ireturn, 1) := by decide +kernel
theorem dX10_see_21 : decode cX10_see 21 = .ok (.aload_n 0, 1) := by decide +kernel
theorem dX10_see_22 : decode cX10_see 22 = .ok (.getfield 45, 3) := by decide +kernel
theorem dX10_see_25 : decode cX10_see 25 = .ok (.iload_n 1, 1) := by decide +kernel
theorem dX10_see_26 : decode cX10_see 26 = .ok (.iload_n 2, 1) := by decide +kernel
theorem dX10_see_27 : decode cX10_see 27 = .ok (.invokevirtual 118, 3) := by decide +kernel
theorem dX10_see_30 : decode cX10_see 30 = .ok (.ifCond .ne 6, 3) := by decide +kernel
theorem dX10_see_33 : decode cX10_see 33 = .ok (.bipush (-4), 2) := by decide +kernel
theorem dX10_see_35 : decode cX10_see 35 = .ok (.ireturn, 1) := by decide +kernel
theorem dX10_see_36 : decode cX10_see 36 = .ok (.aload_n 0, 1) := by decide +kernel
theorem dX10_see_37 : decode cX10_see 37 = .ok (.getfield 52, 3) := by decide +kernel
theorem dX10_see_40 : decode cX10_see 40 = .ok (.iconst 0, 1) := by decide +kernel
theorem dX10_see_41 : decode cX10_see 41 = .ok (.putfield 114, 3) := by decide +kernel
theorem dX10_see_44 : decode cX10_see 44 = .ok (.aload_n 0, 1) := by decide +kernel
theorem dX10_see_45 : decode cX10_see 45 = .ok (.getfield 45, 3) := by decide +kernel
theorem dX10_see_48 : decode cX10_see 48 = .ok (.getfield 120, 3) := by decide +kernel
theorem dX10_see_51 : decode cX10_see 51 = .ok (.ireturn, 1) := by decide +kernel
theorem dX10_found_0 : decode cX10_found 0 = .ok (.aload_n 0, 1) := by decide +kernel
theorem dX10_found_1 : decode cX10_found 1 = .ok (.iload_n 1, 1) := by decide +kernel
theorem dX10_found_2 : decode cX10_found 2 = .ok (.putfield 266, 3) := by decide +kernel
theorem dX10_found_5 : decode cX10_found 5 = .ok (.bipush (-10), 2) := by decide +kernel
theorem dX10_found_7 : decode cX10_found 7 = .ok (.iload_n 1, 1) := by decide +kernel
theorem dX10_found_8 : decode cX10_found 8 = .ok (.isub, 1) := by decide +kernel
theorem dX10_found_9 : decode cX10_found 9 = .ok (.ireturn, 1) := by decide +kernel
theorem dX10_read_0 : decode cX10_read 0 = .ok (.iload_n 1, 1) := by decide +kernel
theorem dX10_read_1 : decode cX10_read 1 = .ok (.iconst 4, 1) := by decide +kernel
theorem dX10_read_2 : decode cX10_read 2 = .ok (.invokestatic 84, 3) := by decide +kernel
theorem dX10_read_5 : decode cX10_read 5 = .ok (.ifCond .ne 6, 3) := by decide +kernel
theorem dX10_read_8 : decode cX10_read 8 = .ok (.bipush (-2), 2) := by decide +kernel
theorem dX10_read_10 : decode cX10_read 10 = .ok (.ireturn, 1) := by decide +kernel
theorem dX10_read_11 : decode cX10_read 11 = .ok (.aload_n 0, 1) := by decide +kernel
theorem dX10_read_12 : decode cX10_read 12 = .ok (.getfield 79, 3) := by decide +kernel
theorem dX10_read_15 : decode cX10_read 15 = .ok (.iload_n 1, 1) := by decide +kernel
theorem dX10_read_16 : decode cX10_read 16 = .ok (.aaload, 1) := by decide +kernel
theorem dX10_read_17 : decode cX10_read 17 = .ok (.astore_n 2, 1) := by decide +kernel
theorem dX10_read_18 : decode cX10_read 18 = .ok (.aload_n 2, 1) := by decide +kernel
theorem dX10_read_19 : decode cX10_read 19 = .ok (.invokevirtual 121, 3) := by decide +kernel
theorem dX10_read_22 : decode cX10_read 22 = .ok (.ifCond .eq 9, 3) := by decide +kernel
theorem dX10_read_25 : decode cX10_read 25 = .ok (.aload_n 0, 1) := by decide +kernel
theorem dX10_read_26 : decode cX10_read 26 = .ok (.iconst 1, 1) := by decide +kernel
theorem dX10_read_27 : decode cX10_read 27 = .ok (.invokevirtual 125, 3) := by decide +kernel
theorem dX10_read_30 : decode cX10_read 30 = .ok (.ireturn, 1) := by decide +kernel
theorem dX10_read_31 : decode cX10_read 31 = .ok (.iconst 0, 1) := by decide +kernel
theorem dX10_read_32 : decode cX10_read 32 = .ok (.istore_n 3, 1) := by decide +kernel
theorem dX10_read_33 : decode cX10_read 33 = .ok (.iconst 0, 1) := by decide +kernel
theorem dX10_read_34 : decode cX10_read 34 = .ok (.istore 4, 2) := by decide +kernel
theorem dX10_read_36 : decode cX10_read 36 = .ok (.iload 4, 2) := by decide +kernel
theorem dX10_read_38 : decode cX10_read 38 = .ok (.iconst 1, 1) := by decide +kernel
theorem dX10_read_39 : decode cX10_read 39 = .ok (.iadd, 1) := by decide +kernel
theorem dX10_read_40 : decode cX10_read 40 = .ok (.aload_n 2, 1) := by decide +kernel
theorem dX10_read_41 : decode cX10_read 41 = .ok (.getfield 129, 3) := by decide +kernel
theorem dX10_read_44 : decode cX10_read 44 = .ok (.if_icmp .ge 36, 3) := by decide +kernel
theorem dX10_read_47 : decode cX10_read 47 = .ok (.aload_n 0, 1) := by decide +kernel
theorem dX10_read_48 : decode cX10_read 48 = .ok (.aload_n 2, 1) := by decide +kernel
theorem dX10_read_49 : decode cX10_read 49 = .ok (.iload 4, 2) := by decide +kernel
theorem dX10_read_51 : decode cX10_read 51 = .ok (.invokevirtual 130, 3) := by decide +kernel
theorem dX10_read_54 : decode cX10_read 54 = .ok (.aload_n 2, 1) := by decide +kernel
theorem dX10_read_55 : decode cX10_read 55 = .ok (.iload 4, 2) := by decide +kernel
theorem dX10_read_57 : decode cX10_read 57 = .ok (.iconst 1, 1) := by decide +kernel
theorem dX10_read_58 : decode cX10_read 58 = .ok (.iadd, 1) := by decide +kernel
theorem dX10_read_59 : decode cX10_read 59 = .ok (.invokevirtual 130, 3) := by decide +kernel
theorem dX10_read_62 : decode cX10_read 62 = .ok (.invokevirtual 133, 3) := by decide +kernel
theorem dX10_read_65 : decode cX10_read 65 = .ok (.ifCond .ge 6, 3) := by decide +kernel
theorem dX10_read_68 : decode cX10_read 68 = .ok (.goto 12, 3) := by decide +kernel
theorem dX10_read_71 : decode cX10_read 71 = .ok (.iinc 3 1, 3) := by decide +kernel
theorem dX10_read_74 : decode cX10_read 74 = .ok (.iinc 4 2, 3) := by decide +kernel
theorem dX10_read_77 : decode cX10_read 77 = .ok (.goto (-41), 3) := by decide +kernel
theorem dX10_read_80 : decode cX10_read 80 = .ok (.iload_n 3, 1) := by decide +kernel
theorem dX10_read_81 : decode cX10_read 81 = .ok (.ireturn, 1) := by decide +kernel
theorem dX10_back_0 : decode cX10_back 0 = .ok (.aload_n 0, 1) := by decide +kernel
theorem dX10_back_1 : decode cX10_back 1 = .ok (.getfield 45, 3) := by decide +kernel
theorem dX10_back_4 : decode cX10_back 4 = .ok (.getfield 120, 3) := by decide +kernel
theorem dX10_back_7 : decode cX10_back 7 = .ok (.ifCond .gt 6, 3) := by decide +kernel
theorem dX10_back_10 : decode cX10_back 10 = .ok (.bipush (-3), 2) := by decide +kernel
theorem dX10_back_12 : decode cX10_back 12 = .ok (.ireturn, 1) := by decide +kernel
theorem dX10_back_13 : decode cX10_back 13 = .ok (.aload_n 0, 1) := by decide +kernel
theorem dX10_back_14 : decode cX10_back 14 = .ok (.getfield 45, 3) := by decide +kernel
theorem dX10_back_17 : decode cX10_back 17 = .ok (.dup, 1) := by decide +kernel
theorem dX10_back_18 : decode cX10_back 18 = .ok (.getfield 120, 3) := by decide +kernel
theorem dX10_back_21 : decode cX10_back 21 = .ok (.iconst 1, 1) := by decide +kernel
theorem dX10_back_22 : decode cX10_back 22 = .ok (.isub, 1) := by decide +kernel
theorem dX10_back_23 : decode cX10_back 23 = .ok (.putfield 120, 3) := by decide +kernel
theorem dX10_back_26 : decode cX10_back 26 = .ok (.aload_n 0, 1) := by decide +kernel
theorem dX10_back_27 : decode cX10_back 27 = .ok (.getfield 52, 3) := by decide +kernel
theorem dX10_back_30 : decode cX10_back 30 = .ok (.iconst 0, 1) := by decide +kernel
theorem dX10_back_31 : decode cX10_back 31 = .ok (.putfield 114, 3) := by decide +kernel
theorem dX10_back_34 : decode cX10_back 34 = .ok (.aload_n 0, 1) := by decide +kernel
theorem dX10_back_35 : decode cX10_back 35 = .ok (.getfield 45, 3) := by decide +kernel
theorem dX10_back_38 : decode cX10_back 38 = .ok (.getfield 120, 3) := by decide +kernel
theorem dX10_back_41 : decode cX10_back 41 = .ok (.ireturn, 1) := by decide +kernel
theorem dJ6_bitCount_0f7a4_0 : decode cJ6_bitCount_0f7a4 0 = .ok (.iload_n 0, 1) := by decide +kernel
theorem dJ6_bitCount_0f7a4_1 : decode cJ6_bitCount_0f7a4 1 = .ok (.iload_n 0, 1) := by decide +kernel
theorem dJ6_bitCount_0f7a4_2 : decode cJ6_bitCount_0f7a4 2 = .ok (.iconst 1, 1) := by decide +kernel
theorem dJ6_bitCount_0f7a4_3 : decode cJ6_bitCount_0f7a4 3 = .ok (.iushr, 1) := by decide +kernel
theorem dJ6_bitCount_0f7a4_4 : decode cJ6_bitCount_0f7a4 4 = .ok (.ldc_w 265, 3) := by decide +kernel
theorem dJ6_bitCount_0f7a4_7 : decode cJ6_bitCount_0f7a4 7 = .ok (.iand, 1) := by decide +kernel
theorem dJ6_bitCount_0f7a4_8 : decode cJ6_bitCount_0f7a4 8 = .ok (.isub, 1) := by decide +kernel
theorem dJ6_bitCount_0f7a4_9 : decode cJ6_bitCount_0f7a4 9 = .ok (.istore_n 0, 1) := by decide +kernel
theorem dJ6_bitCount_0f7a4_10 : decode cJ6_bitCount_0f7a4 10 = .ok (.iload_n 0, 1) := by decide +kernel
theorem dJ6_bitCount_0f7a4_11 : decode cJ6_bitCount_0f7a4 11 = .ok (.ldc_w 266, 3) := by decide +kernel
theorem dJ6_bitCount_0f7a4_14 : decode cJ6_bitCount_0f7a4 14 = .ok (.iand, 1) := by decide +kernel
theorem dJ6_bitCount_0f7a4_15 : decode cJ6_bitCount_0f7a4 15 = .ok (.iload_n 0, 1) := by decide +kernel
theorem dJ6_bitCount_0f7a4_16 : decode cJ6_bitCount_0f7a4 16 = .ok (.iconst 2, 1) := by decide +kernel
theorem dJ6_bitCount_0f7a4_17 : decode cJ6_bitCount_0f7a4 17 = .ok (.iushr, 1) := by decide +kernel
theorem dJ6_bitCount_0f7a4_18 : decode cJ6_bitCount_0f7a4 18 = .ok (.ldc_w 266, 3) := by decide +kernel
theorem dJ6_bitCount_0f7a4_21 : decode cJ6_bitCount_0f7a4 21 = .ok (.iand, 1) := by decide +kernel
theorem dJ6_bitCount_0f7a4_22 : decode cJ6_bitCount_0f7a4 22 = .ok (.iadd, 1) := by decide +kernel
theorem dJ6_bitCount_0f7a4_23 : decode cJ6_bitCount_0f7a4 23 = .ok (.istore_n 0, 1) := by decide +kernel
theorem dJ6_bitCount_0f7a4_24 : decode cJ6_bitCount_0f7a4 24 = .ok (.iload_n 0, 1) := by decide +kernel
theorem dJ6_bitCount_0f7a4_25 : decode cJ6_bitCount_0f7a4 25 = .ok (.iload_n 0, 1) := by decide +kernel
theorem dJ6_bitCount_0f7a4_26 : decode cJ6_bitCount_0f7a4 26 = .ok (.iconst 4, 1) := by decide +kernel
theorem dJ6_bitCount_0f7a4_27 : decode cJ6_bitCount_0f7a4 27 = .ok (.iushr, 1) := by decide +kernel
theorem dJ6_bitCount_0f7a4_28 : decode cJ6_bitCount_0f7a4 28 = .ok (.iadd, 1) := by decide +kernel
theorem dJ6_bitCount_0f7a4_29 : decode cJ6_bitCount_0f7a4 29 = .ok (.ldc_w 267, 3) := by decide +kernel
theorem dJ6_bitCount_0f7a4_32 : decode cJ6_bitCount_0f7a4 32 = .ok (.iand, 1) := by decide +kernel
theorem dJ6_bitCount_0f7a4_33 : decode cJ6_bitCount_0f7a4 33 = .ok (.istore_n 0, 1) := by decide +kernel
theorem dJ6_bitCount_0f7a4_34 : decode cJ6_bitCount_0f7a4 34 = .ok (.iload_n 0, 1) := by decide +kernel
theorem dJ6_bitCount_0f7a4_35 : decode cJ6_bitCount_0f7a4 35 = .ok (.iload_n 0, 1) := by decide +kernel
theorem dJ6_bitCount_0f7a4_36 : decode cJ6_bitCount_0f7a4 36 = .ok (.bipush 8, 2) := by decide +kernel
theorem dJ6_bitCount_0f7a4_38 : decode cJ6_bitCount_0f7a4 38 = .ok (.iushr, 1) := by decide +kernel
theorem dJ6_bitCount_0f7a4_39 : decode cJ6_bitCount_0f7a4 39 = .ok (.iadd, 1) := by decide +kernel
theorem dJ6_bitCount_0f7a4_40 : decode cJ6_bitCount_0f7a4 40 = .ok (.istore_n 0, 1) := by decide +kernel
theorem dJ6_bitCount_0f7a4_41 : decode cJ6_bitCount_0f7a4 41 = .ok (.iload_n 0, 1) := by decide +kernel
theorem dJ6_bitCount_0f7a4_42 : decode cJ6_bitCount_0f7a4 42 = .ok (.iload_n 0, 1) := by decide +kernel
theorem dJ6_bitCount_0f7a4_43 : decode cJ6_bitCount_0f7a4 43 = .ok (.bipush 16, 2) := by decide +kernel
theorem dJ6_bitCount_0f7a4_45 : decode cJ6_bitCount_0f7a4 45 = .ok (.iushr, 1) := by decide +kernel
theorem dJ6_bitCount_0f7a4_46 : decode cJ6_bitCount_0f7a4 46 = .ok (.iadd, 1) := by decide +kernel
theorem dJ6_bitCount_0f7a4_47 : decode cJ6_bitCount_0f7a4 47 = .ok (.istore_n 0, 1) := by decide +kernel
theorem dJ6_bitCount_0f7a4_48 : decode cJ6_bitCount_0f7a4 48 = .ok (.iload_n 0, 1) := by decide +kernel
theorem dJ6_bitCount_0f7a4_49 : decode cJ6_bitCount_0f7a4 49 = .ok (.bipush 63, 2) := by decide +kernel
theorem dJ6_bitCount_0f7a4_51 : decode cJ6_bitCount_0f7a4 51 = .ok (.iand, 1) := by decide +kernel
theorem dJ6_bitCount_0f7a4_52 : decode cJ6_bitCount_0f7a4 52 = .ok (.ireturn, 1) := by decide +kernel
theorem dX10_known_0 : decode cX10_known 0 = .ok (.aload_n 0, 1) := by decide +kernel
theorem dX10_known_1 : decode cX10_known 1 = .ok (.getfield 52, 3) := by decide +kernel
theorem dX10_known_4 : decode cX10_known 4 = .ok (.getfield 114, 3) := by decide +kernel
theorem dX10_known_7 : decode cX10_known 7 = .ok (.ifCond .ne 22, 3) := by decide +kernel
theorem dX10_known_10 : decode cX10_known 10 = .ok (.aload_n 0, 1) := by decide +kernel
theorem dX10_known_11 : decode cX10_known 11 = .ok (.getfield 52, 3) := by decide +kernel
theorem dX10_known_14 : decode cX10_known 14 = .ok (.aload_n 0, 1) := by decide +kernel
theorem dX10_known_15 : decode cX10_known 15 = .ok (.getfield 24, 3) := by decide +kernel
theorem dX10_known_18 : decode cX10_known 18 = .ok (.aload_n 0, 1) := by decide +kernel
theorem dX10_known_19 : decode cX10_known 19 = .ok (.getfield 45, 3) := by decide +kernel
theorem dX10_known_22 : decode cX10_known 22 = .ok (.aload_n 0, 1) := by decide +kernel
theorem dX10_known_23 : decode cX10_known 23 = .ok (.getfield 38, 3) := by decide +kernel
theorem dX10_known_26 : decode cX10_known 26 = .ok (.invokevirtual 357, 3) := by decide +kernel
theorem dX10_known_29 : decode cX10_known 29 = .ok (.aload_n 0, 1) := by decide +kernel
theorem dX10_known_30 : decode cX10_known 30 = .ok (.getfield 52, 3) := by decide +kernel
theorem dX10_known_33 : decode cX10_known 33 = .ok (.areturn, 1) := by decide +kernel
theorem dX10_left_0 : decode cX10_left 0 = .ok (.aload_n 0, 1) := by decide +kernel
theorem dX10_left_1 : decode cX10_left 1 = .ok (.invokevirtual 137, 3) := by decide +kernel
theorem dX10_left_4 : decode cX10_left 4 = .ok (.getfield 140, 3) := by decide +kernel
theorem dX10_left_7 : decode cX10_left 7 = .ok (.invokestatic 143, 3) := by decide +kernel
theorem dX10_left_10 : decode cX10_left 10 = .ok (.ireturn, 1) := by decide +kernel
theorem dX10_refusal_0 : decode cX10_refusal 0 = .ok (.ldc2_w 363, 3) := by decide +kernel
theorem dX10_refusal_3 : decode cX10_refusal 3 = .ok (.iload_n 0, 1) := by decide +kernel
theorem dX10_refusal_4 : decode cX10_refusal 4 = .ok (.i2l, 1) := by decide +kernel
theorem dX10_refusal_5 : decode cX10_refusal 5 = .ok (.lsub, 1) := by decide +kernel
theorem dX10_refusal_6 : decode cX10_refusal 6 = .ok (.lreturn, 1) := by decide +kernel
theorem dX10_commonDivisor_0 : decode cX10_commonDivisor 0 = .ok (.lload_n 0, 1) := by decide +kernel
theorem dX10_commonDivisor_1 : decode cX10_commonDivisor 1 = .ok (.lstore 4, 2) := by decide +kernel
theorem dX10_commonDivisor_3 : decode cX10_commonDivisor 3 = .ok (.lload_n 2, 1) := by decide +kernel
theorem dX10_commonDivisor_4 : decode cX10_commonDivisor 4 = .ok (.lstore 6, 2) := by decide +kernel
theorem dX10_commonDivisor_6 : decode cX10_commonDivisor 6 = .ok (.iconst 0, 1) := by decide +kernel
theorem dX10_commonDivisor_7 : decode cX10_commonDivisor 7 = .ok (.istore 8, 2) := by decide +kernel
theorem dX10_commonDivisor_9 : decode cX10_commonDivisor 9 = .ok (.iload 8, 2) := by decide +kernel
theorem dX10_commonDivisor_11 : decode cX10_commonDivisor 11 = .ok (.bipush 100, 2) := by decide +kernel
theorem dX10_commonDivisor_13 : decode cX10_commonDivisor 13 = .ok (.if_icmp .ge 31, 3) := by decide +kernel
theorem dX10_commonDivisor_16 : decode cX10_commonDivisor 16 = .ok (.lload 6, 2) := by decide +kernel
theorem dX10_commonDivisor_18 : decode cX10_commonDivisor 18 = .ok (.lconst 0, 1) := by decide +kernel
theorem dX10_commonDivisor_19 : decode cX10_commonDivisor 19 = .ok (.lcmp, 1) := by decide +kernel
theorem dX10_commonDivisor_20 : decode cX10_commonDivisor 20 = .ok (.ifCond .eq 24, 3) := by decide +kernel
theorem dX10_commonDivisor_23 : decode cX10_commonDivisor 23 = .ok (.lload 4, 2) := by decide +kernel
theorem dX10_commonDivisor_25 : decode cX10_commonDivisor 25 = .ok (.lload 6, 2) := by decide +kernel
theorem dX10_commonDivisor_27 : decode cX10_commonDivisor 27 = .ok (.lrem, 1) := by decide +kernel
theorem dX10_commonDivisor_28 : decode cX10_commonDivisor 28 = .ok (.lstore 9, 2) := by decide +kernel
theorem dX10_commonDivisor_30 : decode cX10_commonDivisor 30 = .ok (.lload 6, 2) := by decide +kernel
theorem dX10_commonDivisor_32 : decode cX10_commonDivisor 32 = .ok (.lstore 4, 2) := by decide +kernel
theorem dX10_commonDivisor_34 : decode cX10_commonDivisor 34 = .ok (.lload 9, 2) := by decide +kernel
theorem dX10_commonDivisor_36 : decode cX10_commonDivisor 36 = .ok (.lstore 6, 2) := by decide +kernel
theorem dX10_commonDivisor_38 : decode cX10_commonDivisor 38 = .ok (.iinc 8 1, 3) := by decide +kernel
theorem dX10_commonDivisor_41 : decode cX10_commonDivisor 41 = .ok (.goto (-32), 3) := by decide +kernel
theorem dX10_commonDivisor_44 : decode cX10_commonDivisor 44 = .ok (.lload 4, 2) := by decide +kernel
theorem dX10_commonDivisor_46 : decode cX10_commonDivisor 46 = .ok (.lreturn, 1) := by decide +kernel
theorem dX10_told_0 : decode cX10_told 0 = .ok (.lload_n 0, 1) := by decide +kernel
theorem dX10_told_1 : decode cX10_told 1 = .ok (.lload_n 2, 1) := by decide +kernel
theorem dX10_told_2 : decode cX10_told 2 = .ok (.invokestatic 365, 3) := by decide +kernel
theorem dX10_told_5 : decode cX10_told 5 = .ok (.lstore 5, 2) := by decide +kernel
theorem dX10_told_7 : decode cX10_told 7 = .ok (.lload 5, 2) := by decide +kernel
theorem dX10_told_9 : decode cX10_told 9 = .ok (.lconst 0, 1) := by decide +kernel
theorem dX10_told_10 : decode cX10_told 10 = .ok (.lcmp, 1) := by decide +kernel
theorem dX10_told_11 : decode cX10_told 11 = .ok (.ifCond .ne 7, 3) := by decide +kernel
theorem dX10_told_14 : decode cX10_told 14 = .ok (.iload 4, 2) := by decide +kernel
theorem dX10_told_16 : decode cX10_told 16 = .ok (.i2l, 1) := by decide +kernel
theorem dX10_told_17 : decode cX10_told 17 = .ok (.lreturn, 1) := by decide +kernel
theorem dX10_told_18 : decode cX10_told 18 = .ok (.iload 4, 2) := by decide +kernel
theorem dX10_told_20 : decode cX10_told 20 = .ok (.ifCond .ne 7, 3) := by decide +kernel
theorem dX10_told_23 : decode cX10_told 23 = .ok (.lload_n 0, 1) := by decide +kernel
theorem dX10_told_24 : decode cX10_told 24 = .ok (.goto 4, 3) := by decide +kernel
theorem dX10_told_27 : decode cX10_told 27 = .ok (.lload_n 2, 1) := by decide +kernel
theorem dX10_told_28 : decode cX10_told 28 = .ok (.lload 5, 2) := by decide +kernel
theorem dX10_told_30 : decode cX10_told 30 = .ok (.ldiv, 1) := by decide +kernel
theorem dX10_told_31 : decode cX10_told 31 = .ok (.lreturn, 1) := by decide +kernel
theorem dX10_odds_0 : decode cX10_odds 0 = .ok (.iload_n 1, 1) := by decide +kernel
theorem dX10_odds_1 : decode cX10_odds 1 = .ok (.bipush 32, 2) := by decide +kernel
theorem dX10_odds_3 : decode cX10_odds 3 = .ok (.invokestatic 84, 3) := by decide +kernel
theorem dX10_odds_6 : decode cX10_odds 6 = .ok (.ifCond .eq 11, 3) := by decide +kernel
theorem dX10_odds_9 : decode cX10_odds 9 = .ok (.iload_n 2, 1) := by decide +kernel
theorem dX10_odds_10 : decode cX10_odds 10 = .ok (.iconst 2, 1) := by decide +kernel
theorem dX10_odds_11 : decode cX10_odds 11 = .ok (.invokestatic 84, 3) := by decide +kernel
theorem dX10_odds_14 : decode cX10_odds 14 = .ok (.ifCond .ne 9, 3) := by decide +kernel
theorem dX10_odds_17 : decode cX10_odds 17 = .ok (.bipush (-2), 2) := by decide +kernel
theorem dX10_odds_19 : decode cX10_odds 19 = .ok (.invokestatic 148, 3) := by decide +kernel
theorem dX10_odds_22 : decode cX10_odds 22 = .ok (.lreturn, 1) := by decide +kernel
theorem dX10_odds_23 : decode cX10_odds 23 = .ok (.aload_n 0, 1) := by decide +kernel
theorem dX10_odds_24 : decode cX10_odds 24 = .ok (.invokevirtual 137, 3) := by decide +kernel
theorem dX10_odds_27 : decode cX10_odds 27 = .ok (.astore_n 3, 1) := by decide +kernel
theorem dX10_odds_28 : decode cX10_odds 28 = .ok (.aload_n 3, 1) := by decide +kernel
theorem dX10_odds_29 : decode cX10_odds 29 = .ok (.getfield 152, 3) := by decide +kernel
theorem dX10_odds_32 : decode cX10_odds 32 = .ok (.ifCond .ne 11, 3) := by decide +kernel
theorem dX10_odds_35 : decode cX10_odds 35 = .ok (.bipush (-3), 2) := by decide +kernel
theorem dX10_odds_37 : decode cX10_odds 37 = .ok (.invokestatic 148, 3) := by decide +kernel
theorem dX10_odds_40 : decode cX10_odds 40 = .ok (.goto 19, 3) := by decide +kernel
theorem dX10_odds_43 : decode cX10_odds 43 = .ok (.aload_n 3, 1) := by decide +kernel
theorem dX10_odds_44 : decode cX10_odds 44 = .ok (.getfield 155, 3) := by decide +kernel
theorem dX10_odds_47 : decode cX10_odds 47 = .ok (.iload_n 1, 1) := by decide +kernel
theorem dX10_odds_48 : decode cX10_odds 48 = .ok (.iaload, 1) := by decide +kernel
theorem dX10_odds_49 : decode cX10_odds 49 = .ok (.i2l, 1) := by decide +kernel
theorem dX10_odds_50 : decode cX10_odds 50 = .ok (.aload_n 3, 1) := by decide +kernel
theorem dX10_odds_51 : decode cX10_odds 51 = .ok (.getfield 152, 3) := by decide +kernel
theorem dX10_odds_54 : decode cX10_odds 54 = .ok (.i2l, 1) := by decide +kernel
theorem dX10_odds_55 : decode cX10_odds 55 = .ok (.iload_n 2, 1) := by decide +kernel
theorem dX10_odds_56 : decode cX10_odds 56 = .ok (.invokestatic 158, 3) := by decide +kernel
theorem dX10_odds_59 : decode cX10_odds 59 = .ok (.lreturn, 1) := by decide +kernel
theorem dX10_trouble_0 : decode cX10_trouble 0 = .ok (.iload_n 1, 1) := by decide +kernel
theorem dX10_trouble_1 : decode cX10_trouble 1 = .ok (.iconst 5, 1) := by decide +kernel
theorem dX10_trouble_2 : decode cX10_trouble 2 = .ok (.invokestatic 84, 3) := by decide +kernel
theorem dX10_trouble_5 : decode cX10_trouble 5 = .ok (.ifCond .eq 11, 3) := by decide +kernel
theorem dX10_trouble_8 : decode cX10_trouble 8 = .ok (.iload_n 2, 1) := by decide +kernel
theorem dX10_trouble_9 : decode cX10_trouble 9 = .ok (.iconst 2, 1) := by decide +kernel
theorem dX10_trouble_10 : decode cX10_trouble 10 = .ok (.invokestatic 84, 3) := by decide +kernel
theorem dX10_trouble_13 : decode cX10_trouble 13 = .ok (.ifCond .ne 9, 3) := by decide +kernel
theorem dX10_trouble_16 : decode cX10_trouble 16 = .ok (.bipush (-2), 2) := by decide +kernel
theorem dX10_trouble_18 : decode cX10_trouble 18 = .ok (.invokestatic 148, 3) := by decide +kernel
theorem dX10_trouble_21 : decode cX10_trouble 21 = .ok (.lreturn, 1) := by decide +kernel
theorem dX10_trouble_22 : decode cX10_trouble 22 = .ok (.aload_n 0, 1) := by decide +kernel
theorem dX10_trouble_23 : decode cX10_trouble 23 = .ok (.invokevirtual 137, 3) := by decide +kernel
theorem dX10_trouble_26 : decode cX10_trouble 26 = .ok (.astore_n 3, 1) := by decide +kernel
theorem dX10_trouble_27 : decode cX10_trouble 27 = .ok (.aload_n 3, 1) := by decide +kernel
theorem dX10_trouble_28 : decode cX10_trouble 28 = .ok (.getfield 152, 3) := by decide +kernel
theorem dX10_trouble_31 : decode cX10_trouble 31 = .ok (.ifCond .ne 11, 3) := by decide +kernel
theorem dX10_trouble_34 : decode cX10_trouble 34 = .ok (.bipush (-3), 2) := by decide +kernel
theorem dX10_trouble_36 : decode cX10_trouble 36 = .ok (.invokestatic 148, 3) := by decide +kernel
theorem dX10_trouble_39 : decode cX10_trouble 39 = .ok (.goto 18, 3) := by decide +kernel
theorem dX10_trouble_42 : decode cX10_trouble 42 = .ok (.aload_n 3, 1) := by decide +kernel
theorem dX10_trouble_43 : decode cX10_trouble 43 = .ok (.iload_n 1, 1) := by decide +kernel
theorem dX10_trouble_44 : decode cX10_trouble 44 = .ok (.invokevirtual 162, 3) := by decide +kernel
theorem dX10_trouble_47 : decode cX10_trouble 47 = .ok (.i2l, 1) := by decide +kernel
theorem dX10_trouble_48 : decode cX10_trouble 48 = .ok (.aload_n 3, 1) := by decide +kernel
theorem dX10_trouble_49 : decode cX10_trouble 49 = .ok (.getfield 152, 3) := by decide +kernel
theorem dX10_trouble_52 : decode cX10_trouble 52 = .ok (.i2l, 1) := by decide +kernel
theorem dX10_trouble_53 : decode cX10_trouble 53 = .ok (.iload_n 2, 1) := by decide +kernel
theorem dX10_trouble_54 : decode cX10_trouble 54 = .ok (.invokestatic 158, 3) := by decide +kernel
theorem dX10_trouble_57 : decode cX10_trouble 57 = .ok (.lreturn, 1) := by decide +kernel
theorem dX10_state_0 : decode cX10_state 0 = .ok (.iload_n 1, 1) := by decide +kernel
theorem dX10_state_1 : decode cX10_state 1 = .ok (.bipush 32, 2) := by decide +kernel
theorem dX10_state_3 : decode cX10_state 3 = .ok (.invokestatic 84, 3) := by decide +kernel
theorem dX10_state_6 : decode cX10_state 6 = .ok (.ifCond .eq 12, 3) := by decide +kernel
theorem dX10_state_9 : decode cX10_state 9 = .ok (.iload_n 2, 1) := by decide +kernel
theorem dX10_state_10 : decode cX10_state 10 = .ok (.bipush 8, 2) := by decide +kernel
theorem dX10_state_12 : decode cX10_state 12 = .ok (.invokestatic 84, 3) := by decide +kernel
theorem dX10_state_15 : decode cX10_state 15 = .ok (.ifCond .ne 6, 3) := by decide +kernel
theorem dX10_state_18 : decode cX10_state 18 = .ok (.bipush (-2), 2) := by decide +kernel
theorem dX10_state_20 : decode cX10_state 20 = .ok (.ireturn, 1) := by decide +kernel
theorem dX10_state_21 : decode cX10_state 21 = .ok (.aload_n 0, 1) := by decide +kernel
theorem dX10_state_22 : decode cX10_state 22 = .ok (.invokevirtual 137, 3) := by decide +kernel
theorem dX10_state_25 : decode cX10_state 25 = .ok (.getfield 165, 3) := by decide +kernel
theorem dX10_state_28 : decode cX10_state 28 = .ok (.iload_n 1, 1) := by decide +kernel
theorem dX10_state_29 : decode cX10_state 29 = .ok (.laload, 1) := by decide +kernel
theorem dX10_state_30 : decode cX10_state 30 = .ok (.iload_n 2, 1) := by decide +kernel
theorem dX10_state_31 : decode cX10_state 31 = .ok (.invokestatic 169, 3) := by decide +kernel
theorem dX10_state_34 : decode cX10_state 34 = .ok (.ireturn, 1) := by decide +kernel
theorem dX10_sign_0 : decode cX10_sign 0 = .ok (.iload_n 1, 1) := by decide +kernel
theorem dX10_sign_1 : decode cX10_sign 1 = .ok (.bipush 32, 2) := by decide +kernel
theorem dX10_sign_3 : decode cX10_sign 3 = .ok (.invokestatic 84, 3) := by decide +kernel
theorem dX10_sign_6 : decode cX10_sign 6 = .ok (.ifCond .eq 12, 3) := by decide +kernel
theorem dX10_sign_9 : decode cX10_sign 9 = .ok (.iload_n 2, 1) := by decide +kernel
theorem dX10_sign_10 : decode cX10_sign 10 = .ok (.bipush 10, 2) := by decide +kernel
theorem dX10_sign_12 : decode cX10_sign 12 = .ok (.invokestatic 84, 3) := by decide +kernel
theorem dX10_sign_15 : decode cX10_sign 15 = .ok (.ifCond .ne 6, 3) := by decide +kernel
theorem dX10_sign_18 : decode cX10_sign 18 = .ok (.bipush (-2), 2) := by decide +kernel
theorem dX10_sign_20 : decode cX10_sign 20 = .ok (.ireturn, 1) := by decide +kernel
theorem dX10_sign_21 : decode cX10_sign 21 = .ok (.aload_n 0, 1) := by decide +kernel
theorem dX10_sign_22 : decode cX10_sign 22 = .ok (.getfield 66, 3) := by decide +kernel
theorem dX10_sign_25 : decode cX10_sign 25 = .ok (.aload_n 0, 1) := by decide +kernel
theorem dX10_sign_26 : decode cX10_sign 26 = .ok (.invokevirtual 137, 3) := by decide +kernel
theorem dX10_sign_29 : decode cX10_sign 29 = .ok (.getfield 165, 3) := by decide +kernel
theorem dX10_sign_32 : decode cX10_sign 32 = .ok (.iload_n 1, 1) := by decide +kernel
theorem dX10_sign_33 : decode cX10_sign 33 = .ok (.laload, 1) := by decide +kernel
theorem dX10_sign_34 : decode cX10_sign 34 = .ok (.invokevirtual 173, 3) := by decide +kernel
theorem dX10_sign_37 : decode cX10_sign 37 = .ok (.aload_n 0, 1) := by decide +kernel
theorem dX10_sign_38 : decode cX10_sign 38 = .ok (.getfield 66, 3) := by decide +kernel
theorem dX10_sign_41 : decode cX10_sign 41 = .ok (.aload_n 0, 1) := by decide +kernel
theorem dX10_sign_42 : decode cX10_sign 42 = .ok (.getfield 24, 3) := by decide +kernel
theorem dX10_sign_45 : decode cX10_sign 45 = .ok (.iload_n 2, 1) := by decide +kernel
theorem dX10_sign_46 : decode cX10_sign 46 = .ok (.invokevirtual 177, 3) := by decide +kernel
theorem dX10_sign_49 : decode cX10_sign 49 = .ok (.ireturn, 1) := by decide +kernel
theorem dX10_chance_0 : decode cX10_chance 0 = .ok (.iload_n 1, 1) := by decide +kernel
theorem dX10_chance_1 : decode cX10_chance 1 = .ok (.bipush 10, 2) := by decide +kernel
theorem dX10_chance_3 : decode cX10_chance 3 = .ok (.invokestatic 84, 3) := by decide +kernel
theorem dX10_chance_6 : decode cX10_chance 6 = .ok (.ifCond .eq 20, 3) := by decide +kernel
theorem dX10_chance_9 : decode cX10_chance 9 = .ok (.iload_n 2, 1) := by decide +kernel
theorem dX10_chance_10 : decode cX10_chance 10 = .ok (.bipush 7, 2) := by decide +kernel
theorem dX10_chance_12 : decode cX10_chance 12 = .ok (.invokestatic 84, 3) := by decide +kernel
theorem dX10_chance_15 : decode cX10_chance 15 = .ok (.ifCond .eq 11, 3) := by decide +kernel
theorem dX10_chance_18 : decode cX10_chance 18 = .ok (.iload_n 3, 1) := by decide +kernel
theorem dX10_chance_19 : decode cX10_chance 19 = .ok (.iconst 2, 1) := by decide +kernel
theorem dX10_chance_20 : decode cX10_chance 20 = .ok (.invokestatic 84, 3) := by decide +kernel
theorem dX10_chance_23 : decode cX10_chance 23 = .ok (.ifCond .ne 9, 3) := by decide +kernel
theorem dX10_chance_26 : decode cX10_chance 26 = .ok (.bipush (-2), 2) := by decide +kernel
theorem dX10_chance_28 : decode cX10_chance 28 = .ok (.invokestatic 148, 3) := by decide +kernel
theorem dX10_chance_31 : decode cX10_chance 31 = .ok (.lreturn, 1) := by decide +kernel
theorem dX10_chance_32 : decode cX10_chance 32 = .ok (.aload_n 0, 1) := by decide +kernel
theorem dX10_chance_33 : decode cX10_chance 33 = .ok (.invokevirtual 137, 3) := by decide +kernel
theorem dX10_chance_36 : decode cX10_chance 36 = .ok (.astore 4, 2) := by decide +kernel
theorem dX10_chance_38 : decode cX10_chance 38 = .ok (.aload 4, 2) := by decide +kernel
theorem dX10_chance_40 : decode cX10_chance 40 = .ok (.getfield 152, 3) := by decide +kernel
theorem dX10_chance_43 : decode cX10_chance 43 = .ok (.ifCond .ne 9, 3) := by decide +kernel
theorem dX10_chance_46 : decode cX10_chance 46 = .ok (.bipush (-3), 2) := by decide +kernel
theorem dX10_chance_48 : decode cX10_chance 48 = .ok (.invokestatic 148, 3) := by decide +kernel
theorem dX10_chance_51 : decode cX10_chance 51 = .ok (.lreturn, 1) := by decide +kernel
theorem dX10_chance_52 : decode cX10_chance 52 = .ok (.aload 4, 2) := by decide +kernel
theorem dX10_chance_54 : decode cX10_chance 54 = .ok (.aload_n 0, 1) := by decide +kernel
theorem dX10_chance_55 : decode cX10_chance 55 = .ok (.getfield 24, 3) := by decide +kernel
theorem dX10_chance_58 : decode cX10_chance 58 = .ok (.aload 4, 2) := by decide +kernel
theorem dX10_chance_60 : decode cX10_chance 60 = .ok (.getfield 140, 3) := by decide +kernel
theorem dX10_chance_63 : decode cX10_chance 63 = .ok (.iload_n 1, 1) := by decide +kernel
theorem dX10_chance_64 : decode cX10_chance 64 = .ok (.iconst 0, 1) := by decide +kernel
theorem dX10_chance_65 : decode cX10_chance 65 = .ok (.invokevirtual 181, 3) := by decide +kernel
theorem dX10_chance_68 : decode cX10_chance 68 = .ok (.aload 4, 2) := by decide +kernel
theorem dX10_chance_70 : decode cX10_chance 70 = .ok (.getfield 185, 3) := by decide +kernel
theorem dX10_chance_73 : decode cX10_chance 73 = .ok (.iconst 0, 1) := by decide +kernel
theorem dX10_chance_74 : decode cX10_chance 74 = .ok (.aaload, 1) := by decide +kernel
theorem dX10_chance_75 : decode cX10_chance 75 = .ok (.iload_n 2, 1) := by decide +kernel
theorem dX10_chance_76 : decode cX10_chance 76 = .ok (.iaload, 1) := by decide +kernel
theorem dX10_chance_77 : decode cX10_chance 77 = .ok (.i2l, 1) := by decide +kernel
theorem dX10_chance_78 : decode cX10_chance 78 = .ok (.aload 4, 2) := by decide +kernel
theorem dX10_chance_80 : decode cX10_chance 80 = .ok (.getfield 152, 3) := by decide +kernel
theorem dX10_chance_83 : decode cX10_chance 83 = .ok (.i2l, 1) := by decide +kernel
theorem dX10_chance_84 : decode cX10_chance 84 = .ok (.iload_n 3, 1) := by decide +kernel
theorem dX10_chance_85 : decode cX10_chance 85 = .ok (.invokestatic 158, 3) := by decide +kernel
theorem dX10_chance_88 : decode cX10_chance 88 = .ok (.lreturn, 1) := by decide +kernel
theorem dX10_parts_0 : decode cX10_parts 0 = .ok (.iload_n 1, 1) := by decide +kernel
theorem dX10_parts_1 : decode cX10_parts 1 = .ok (.bipush 10, 2) := by decide +kernel
theorem dX10_parts_3 : decode cX10_parts 3 = .ok (.invokestatic 84, 3) := by decide +kernel
theorem dX10_parts_6 : decode cX10_parts 6 = .ok (.ifCond .ne 6, 3) := by decide +kernel
theorem dX10_parts_9 : decode cX10_parts 9 = .ok (.bipush (-2), 2) := by decide +kernel
theorem dX10_parts_11 : decode cX10_parts 11 = .ok (.ireturn, 1) := by decide +kernel
theorem dX10_parts_12 : decode cX10_parts 12 = .ok (.aload_n 0, 1) := by decide +kernel
theorem dX10_parts_13 : decode cX10_parts 13 = .ok (.invokevirtual 137, 3) := by decide +kernel
theorem dX10_parts_16 : decode cX10_parts 16 = .ok (.astore_n 2, 1) := by decide +kernel
theorem dX10_parts_17 : decode cX10_parts 17 = .ok (.aload_n 2, 1) := by decide +kernel
theorem dX10_parts_18 : decode cX10_parts 18 = .ok (.getfield 152, 3) := by decide +kernel
theorem dX10_parts_21 : decode cX10_parts 21 = .ok (.ifCond .ne 6, 3) := by decide +kernel
theorem dX10_parts_24 : decode cX10_parts 24 = .ok (.bipush (-3), 2) := by decide +kernel
theorem dX10_parts_26 : decode cX10_parts 26 = .ok (.ireturn, 1) := by decide +kernel
theorem dX10_parts_27 : decode cX10_parts 27 = .ok (.aload_n 2, 1) := by decide +kernel
theorem dX10_parts_28 : decode cX10_parts 28 = .ok (.aload_n 0, 1) := by decide +kernel
theorem dX10_parts_29 : decode cX10_parts 29 = .ok (.getfield 24, 3) := by decide +kernel
theorem dX10_parts_32 : decode cX10_parts 32 = .ok (.aload_n 2, 1) := by decide +kernel
theorem dX10_parts_33 : decode cX10_parts 33 = .ok (.getfield 140, 3) := by decide +kernel
theorem dX10_parts_36 : decode cX10_parts 36 = .ok (.iload_n 1, 1) := by decide +kernel
theorem dX10_parts_37 : decode cX10_parts 37 = .ok (.iconst 0, 1) := by decide +kernel
theorem dX10_parts_38 : decode cX10_parts 38 = .ok (.invokevirtual 181, 3) := by decide +kernel
theorem dX10_parts_41 : decode cX10_parts 41 = .ok (.iconst 0, 1) := by decide +kernel
theorem dX10_parts_42 : decode cX10_parts 42 = .ok (.istore_n 3, 1) := by decide +kernel
theorem dX10_parts_43 : decode cX10_parts 43 = .ok (.iconst 0, 1) := by decide +kernel
theorem dX10_parts_44 : decode cX10_parts 44 = .ok (.istore 4, 2) := by decide +kernel
theorem dX10_parts_46 : decode cX10_parts 46 = .ok (.iload 4, 2) := by decide +kernel
theorem dX10_parts_48 : decode cX10_parts 48 = .ok (.bipush 7, 2) := by decide +kernel
theorem dX10_parts_50 : decode cX10_parts 50 = .ok (.if_icmp .ge 29, 3) := by decide +kernel
theorem dX10_parts_53 : decode cX10_parts 53 = .ok (.iload_n 3, 1) := by decide +kernel
theorem dX10_parts_54 : decode cX10_parts 54 = .ok (.aload_n 2, 1) := by decide +kernel
theorem dX10_parts_55 : decode cX10_parts 55 = .ok (.getfield 189, 3) := by decide +kernel
theorem dX10_parts_58 : decode cX10_parts 58 = .ok (.iconst 0, 1) := by decide +kernel
theorem dX10_parts_59 : decode cX10_parts 59 = .ok (.aaload, 1) := by decide +kernel
theorem dX10_parts_60 : decode cX10_parts 60 = .ok (.iload 4, 2) := by decide +kernel
theorem dX10_parts_62 : decode cX10_parts 62 = .ok (.iaload, 1) := by decide +kernel
theorem dX10_parts_63 : decode cX10_parts 63 = .ok (.ifCond .eq 7, 3) := by decide +kernel
theorem dX10_parts_66 : decode cX10_parts 66 = .ok (.iconst 1, 1) := by decide +kernel
theorem dX10_parts_67 : decode cX10_parts 67 = .ok (.goto 4, 3) := by decide +kernel
theorem dX10_parts_70 : decode cX10_parts 70 = .ok (.iconst 0, 1) := by decide +kernel
theorem dX10_parts_71 : decode cX10_parts 71 = .ok (.iadd, 1) := by decide +kernel
theorem dX10_parts_72 : decode cX10_parts 72 = .ok (.istore_n 3, 1) := by decide +kernel
theorem dX10_parts_73 : decode cX10_parts 73 = .ok (.iinc 4 1, 3) := by decide +kernel
theorem dX10_parts_76 : decode cX10_parts 76 = .ok (.goto (-30), 3) := by decide +kernel
theorem dX10_parts_79 : decode cX10_parts 79 = .ok (.iload_n 3, 1) := by decide +kernel
theorem dX10_parts_80 : decode cX10_parts 80 = .ok (.ireturn, 1) := by decide +kernel
theorem dX10_sure_0 : decode cX10_sure 0 = .ok (.iload_n 1, 1) := by decide +kernel
theorem dX10_sure_1 : decode cX10_sure 1 = .ok (.bipush 10, 2) := by decide +kernel
theorem dX10_sure_3 : decode cX10_sure 3 = .ok (.invokestatic 84, 3) := by decide +kernel
theorem dX10_sure_6 : decode cX10_sure 6 = .ok (.ifCond .eq 11, 3) := by decide +kernel
theorem dX10_sure_9 : decode cX10_sure 9 = .ok (.iload_n 2, 1) := by decide +kernel
theorem dX10_sure_10 : decode cX10_sure 10 = .ok (.iconst 2, 1) := by decide +kernel
theorem dX10_sure_11 : decode cX10_sure 11 = .ok (.invokestatic 84, 3) := by decide +kernel
theorem dX10_sure_14 : decode cX10_sure 14 = .ok (.ifCond .ne 9, 3) := by decide +kernel
theorem dX10_sure_17 : decode cX10_sure 17 = .ok (.bipush (-2), 2) := by decide +kernel
theorem dX10_sure_19 : decode cX10_sure 19 = .ok (.invokestatic 148, 3) := by decide +kernel
theorem dX10_sure_22 : decode cX10_sure 22 = .ok (.lreturn, 1) := by decide +kernel
theorem dX10_sure_23 : decode cX10_sure 23 = .ok (.aload_n 0, 1) := by decide +kernel
theorem dX10_sure_24 : decode cX10_sure 24 = .ok (.invokevirtual 137, 3) := by decide +kernel
theorem dX10_sure_27 : decode cX10_sure 27 = .ok (.astore_n 3, 1) := by decide +kernel
theorem dX10_sure_28 : decode cX10_sure 28 = .ok (.aload_n 3, 1) := by decide +kernel
theorem dX10_sure_29 : decode cX10_sure 29 = .ok (.getfield 152, 3) := by decide +kernel
theorem dX10_sure_32 : decode cX10_sure 32 = .ok (.ifCond .ne 9, 3) := by decide +kernel
theorem dX10_sure_35 : decode cX10_sure 35 = .ok (.bipush (-3), 2) := by decide +kernel
theorem dX10_sure_37 : decode cX10_sure 37 = .ok (.invokestatic 148, 3) := by decide +kernel
theorem dX10_sure_40 : decode cX10_sure 40 = .ok (.lreturn, 1) := by decide +kernel
theorem dX10_sure_41 : decode cX10_sure 41 = .ok (.aload_n 3, 1) := by decide +kernel
theorem dX10_sure_42 : decode cX10_sure 42 = .ok (.aload_n 0, 1) := by decide +kernel
theorem dX10_sure_43 : decode cX10_sure 43 = .ok (.getfield 24, 3) := by decide +kernel
theorem dX10_sure_46 : decode cX10_sure 46 = .ok (.aload_n 3, 1) := by decide +kernel
theorem dX10_sure_47 : decode cX10_sure 47 = .ok (.getfield 140, 3) := by decide +kernel
theorem dX10_sure_50 : decode cX10_sure 50 = .ok (.iload_n 1, 1) := by decide +kernel
theorem dX10_sure_51 : decode cX10_sure 51 = .ok (.iconst 0, 1) := by decide +kernel
theorem dX10_sure_52 : decode cX10_sure 52 = .ok (.invokevirtual 181, 3) := by decide +kernel
theorem dX10_sure_55 : decode cX10_sure 55 = .ok (.iconst 0, 1) := by decide +kernel
theorem dX10_sure_56 : decode cX10_sure 56 = .ok (.istore 4, 2) := by decide +kernel
theorem dX10_sure_58 : decode cX10_sure 58 = .ok (.iconst 0, 1) := by decide +kernel
theorem dX10_sure_59 : decode cX10_sure 59 = .ok (.istore 5, 2) := by decide +kernel
theorem dX10_sure_61 : decode cX10_sure 61 = .ok (.iload 5, 2) := by decide +kernel
theorem dX10_sure_63 : decode cX10_sure 63 = .ok (.bipush 7, 2) := by decide +kernel
theorem dX10_sure_65 : decode cX10_sure 65 = .ok (.if_icmp .ge 27, 3) := by decide +kernel
theorem dX10_sure_68 : decode cX10_sure 68 = .ok (.iload 4, 2) := by decide +kernel
theorem dX10_sure_70 : decode cX10_sure 70 = .ok (.aload_n 3, 1) := by decide +kernel
theorem dX10_sure_71 : decode cX10_sure 71 = .ok (.aload_n 3, 1) := by decide +kernel
theorem dX10_sure_72 : decode cX10_sure 72 = .ok (.getfield 189, 3) := by decide +kernel
theorem dX10_sure_75 : decode cX10_sure 75 = .ok (.iconst 0, 1) := by decide +kernel
theorem dX10_sure_76 : decode cX10_sure 76 = .ok (.aaload, 1) := by decide +kernel
theorem dX10_sure_77 : decode cX10_sure 77 = .ok (.iload 5, 2) := by decide +kernel
theorem dX10_sure_79 : decode cX10_sure 79 = .ok (.iaload, 1) := by decide +kernel
theorem dX10_sure_80 : decode cX10_sure 80 = .ok (.invokevirtual 192, 3) := by decide +kernel
theorem dX10_sure_83 : decode cX10_sure 83 = .ok (.iadd, 1) := by decide +kernel
theorem dX10_sure_84 : decode cX10_sure 84 = .ok (.istore 4, 2) := by decide +kernel
theorem dX10_sure_86 : decode cX10_sure 86 = .ok (.iinc 5 1, 3) := by decide +kernel
theorem dX10_sure_89 : decode cX10_sure 89 = .ok (.goto (-28), 3) := by decide +kernel
theorem dX10_sure_92 : decode cX10_sure 92 = .ok (.iload 4, 2) := by decide +kernel
theorem dX10_sure_94 : decode cX10_sure 94 = .ok (.i2l, 1) := by decide +kernel
theorem dX10_sure_95 : decode cX10_sure 95 = .ok (.aload_n 3, 1) := by decide +kernel
theorem dX10_sure_96 : decode cX10_sure 96 = .ok (.getfield 152, 3) := by decide +kernel
theorem dX10_sure_99 : decode cX10_sure 99 = .ok (.i2l, 1) := by decide +kernel
theorem dX10_sure_100 : decode cX10_sure 100 = .ok (.iload_n 2, 1) := by decide +kernel
theorem dX10_sure_101 : decode cX10_sure 101 = .ok (.invokestatic 158, 3) := by decide +kernel
theorem dX10_sure_104 : decode cX10_sure 104 = .ok (.lreturn, 1) := by decide +kernel
theorem dX10_best_0 : decode cX10_best 0 = .ok (.iload_n 1, 1) := by decide +kernel
theorem dX10_best_1 : decode cX10_best 1 = .ok (.iconst 1, 1) := by decide +kernel
theorem dX10_best_2 : decode cX10_best 2 = .ok (.if_icmp .lt 16, 3) := by decide +kernel
theorem dX10_best_5 : decode cX10_best 5 = .ok (.iload_n 1, 1) := by decide +kernel
theorem dX10_best_6 : decode cX10_best 6 = .ok (.iconst 3, 1) := by decide +kernel
theorem dX10_best_7 : decode cX10_best 7 = .ok (.if_icmp .gt 11, 3) := by decide +kernel
theorem dX10_best_10 : decode cX10_best 10 = .ok (.iload_n 2, 1) := by decide +kernel
theorem dX10_best_11 : decode cX10_best 11 = .ok (.iconst 3, 1) := by decide +kernel
theorem dX10_best_12 : decode cX10_best 12 = .ok (.invokestatic 84, 3) := by decide +kernel
theorem dX10_best_15 : decode cX10_best 15 = .ok (.ifCond .ne 9, 3) := by decide +kernel
theorem dX10_best_18 : decode cX10_best 18 = .ok (.bipush (-2), 2) := by decide +kernel
theorem dX10_best_20 : decode cX10_best 20 = .ok (.invokestatic 148, 3) := by decide +kernel
theorem dX10_best_23 : decode cX10_best 23 = .ok (.lreturn, 1) := by decide +kernel
theorem dX10_best_24 : decode cX10_best 24 = .ok (.aload_n 0, 1) := by decide +kernel
theorem dX10_best_25 : decode cX10_best 25 = .ok (.invokevirtual 137, 3) := by decide +kernel
theorem dX10_best_28 : decode cX10_best 28 = .ok (.astore_n 3, 1) := by decide +kernel
theorem dX10_best_29 : decode cX10_best 29 = .ok (.aload_n 3, 1) := by decide +kernel
theorem dX10_best_30 : decode cX10_best 30 = .ok (.getfield 152, 3) := by decide +kernel
theorem dX10_best_33 : decode cX10_best 33 = .ok (.ifCond .ne 9, 3) := by decide +kernel
theorem dX10_best_36 : decode cX10_best 36 = .ok (.bipush (-3), 2) := by decide +kernel
theorem dX10_best_38 : decode cX10_best 38 = .ok (.invokestatic 148, 3) := by decide +kernel
theorem dX10_best_41 : decode cX10_best 41 = .ok (.lreturn, 1) := by decide +kernel
theorem dX10_best_42 : decode cX10_best 42 = .ok (.aload_n 3, 1) := by decide +kernel
theorem dX10_best_43 : decode cX10_best 43 = .ok (.getfield 195, 3) := by decide +kernel
theorem dX10_best_46 : decode cX10_best 46 = .ok (.iload_n 1, 1) := by decide +kernel
theorem dX10_best_47 : decode cX10_best 47 = .ok (.iaload, 1) := by decide +kernel
theorem dX10_best_48 : decode cX10_best 48 = .ok (.iconst (-1), 1) := by decide +kernel
theorem dX10_best_49 : decode cX10_best 49 = .ok (.if_icmp .ne 39, 3) := by decide +kernel
theorem dX10_best_52 : decode cX10_best 52 = .ok (.aload_n 3, 1) := by decide +kernel
theorem dX10_best_53 : decode cX10_best 53 = .ok (.getfield 198, 3) := by decide +kernel
theorem dX10_best_56 : decode cX10_best 56 = .ok (.iload_n 1, 1) := by decide +kernel
theorem dX10_best_57 : decode cX10_best 57 = .ok (.aload_n 3, 1) := by decide +kernel
theorem dX10_best_58 : decode cX10_best 58 = .ok (.aload_n 0, 1) := by decide +kernel
theorem dX10_best_59 : decode cX10_best 59 = .ok (.getfield 24, 3) := by decide +kernel
theorem dX10_best_62 : decode cX10_best 62 = .ok (.aload_n 3, 1) := by decide +kernel
theorem dX10_best_63 : decode cX10_best 63 = .ok (.getfield 140, 3) := by decide +kernel
theorem dX10_best_66 : decode cX10_best 66 = .ok (.aload_n 3, 1) := by decide +kernel
theorem dX10_best_67 : decode cX10_best 67 = .ok (.getfield 152, 3) := by decide +kernel
theorem dX10_best_70 : decode cX10_best 70 = .ok (.iconst 0, 1) := by decide +kernel
theorem dX10_best_71 : decode cX10_best 71 = .ok (.iload_n 1, 1) := by decide +kernel
theorem dX10_best_72 : decode cX10_best 72 = .ok (.invokevirtual 201, 3) := by decide +kernel
theorem dX10_best_75 : decode cX10_best 75 = .ok (.iastore, 1) := by decide +kernel
theorem dX10_best_76 : decode cX10_best 76 = .ok (.aload_n 3, 1) := by decide +kernel
theorem dX10_best_77 : decode cX10_best 77 = .ok (.getfield 195, 3) := by decide +kernel
theorem dX10_best_80 : decode cX10_best 80 = .ok (.iload_n 1, 1) := by decide +kernel
theorem dX10_best_81 : decode cX10_best 81 = .ok (.aload_n 3, 1) := by decide +kernel
theorem dX10_best_82 : decode cX10_best 82 = .ok (.getfield 205, 3) := by decide +kernel
theorem dX10_best_85 : decode cX10_best 85 = .ok (.iconst 0, 1) := by decide +kernel
theorem dX10_best_86 : decode cX10_best 86 = .ok (.iaload, 1) := by decide +kernel
theorem dX10_best_87 : decode cX10_best 87 = .ok (.iastore, 1) := by decide +kernel
theorem dX10_best_88 : decode cX10_best 88 = .ok (.iload_n 2, 1) := by decide +kernel
theorem dX10_best_89 : decode cX10_best 89 = .ok (.iconst 2, 1) := by decide +kernel
theorem dX10_best_90 : decode cX10_best 90 = .ok (.if_icmp .ne 13, 3) := by decide +kernel
theorem dX10_best_93 : decode cX10_best 93 = .ok (.aload_n 3, 1) := by decide +kernel
theorem dX10_best_94 : decode cX10_best 94 = .ok (.getfield 195, 3) := by decide +kernel
theorem dX10_best_97 : decode cX10_best 97 = .ok (.iload_n 1, 1) := by decide +kernel
theorem dX10_best_98 : decode cX10_best 98 = .ok (.iaload, 1) := by decide +kernel
theorem dX10_best_99 : decode cX10_best 99 = .ok (.i2l, 1) := by decide +kernel
theorem dX10_best_100 : decode cX10_best 100 = .ok (.goto 19, 3) := by decide +kernel
theorem dX10_best_103 : decode cX10_best 103 = .ok (.aload_n 3, 1) := by decide +kernel
theorem dX10_best_104 : decode cX10_best 104 = .ok (.getfield 198, 3) := by decide +kernel
theorem dX10_best_107 : decode cX10_best 107 = .ok (.iload_n 1, 1) := by decide +kernel
theorem dX10_best_108 : decode cX10_best 108 = .ok (.iaload, 1) := by decide +kernel
theorem dX10_best_109 : decode cX10_best 109 = .ok (.i2l, 1) := by decide +kernel
theorem dX10_best_110 : decode cX10_best 110 = .ok (.aload_n 3, 1) := by decide +kernel
theorem dX10_best_111 : decode cX10_best 111 = .ok (.getfield 152, 3) := by decide +kernel
theorem dX10_best_114 : decode cX10_best 114 = .ok (.i2l, 1) := by decide +kernel
theorem dX10_best_115 : decode cX10_best 115 = .ok (.iload_n 2, 1) := by decide +kernel
theorem dX10_best_116 : decode cX10_best 116 = .ok (.invokestatic 158, 3) := by decide +kernel
theorem dX10_best_119 : decode cX10_best 119 = .ok (.lreturn, 1) := by decide +kernel
theorem dX10_tried_0 : decode cX10_tried 0 = .ok (.aload_n 0, 1) := by decide +kernel
theorem dX10_tried_1 : decode cX10_tried 1 = .ok (.getfield 59, 3) := by decide +kernel
theorem dX10_tried_4 : decode cX10_tried 4 = .ok (.getfield 356, 3) := by decide +kernel
theorem dX10_tried_7 : decode cX10_tried 7 = .ok (.ifCond .ne 22, 3) := by decide +kernel
theorem dX10_tried_10 : decode cX10_tried 10 = .ok (.aload_n 0, 1) := by decide +kernel
theorem dX10_tried_11 : decode cX10_tried 11 = .ok (.getfield 59, 3) := by decide +kernel
theorem dX10_tried_14 : decode cX10_tried 14 = .ok (.aload_n 0, 1) := by decide +kernel
theorem dX10_tried_15 : decode cX10_tried 15 = .ok (.getfield 24, 3) := by decide +kernel
theorem dX10_tried_18 : decode cX10_tried 18 = .ok (.aload_n 0, 1) := by decide +kernel
theorem dX10_tried_19 : decode cX10_tried 19 = .ok (.getfield 31, 3) := by decide +kernel
theorem dX10_tried_22 : decode cX10_tried 22 = .ok (.aload_n 0, 1) := by decide +kernel
theorem dX10_tried_23 : decode cX10_tried 23 = .ok (.getfield 66, 3) := by decide +kernel
theorem dX10_tried_26 : decode cX10_tried 26 = .ok (.invokevirtual 360, 3) := by decide +kernel
theorem dX10_tried_29 : decode cX10_tried 29 = .ok (.aload_n 0, 1) := by decide +kernel
theorem dX10_tried_30 : decode cX10_tried 30 = .ok (.getfield 59, 3) := by decide +kernel
theorem dX10_tried_33 : decode cX10_tried 33 = .ok (.areturn, 1) := by decide +kernel
theorem dX10_habit_0 : decode cX10_habit 0 = .ok (.iload_n 1, 1) := by decide +kernel
theorem dX10_habit_1 : decode cX10_habit 1 = .ok (.iconst 2, 1) := by decide +kernel
theorem dX10_habit_2 : decode cX10_habit 2 = .ok (.invokestatic 84, 3) := by decide +kernel
theorem dX10_habit_5 : decode cX10_habit 5 = .ok (.ifCond .eq 11, 3) := by decide +kernel
theorem dX10_habit_8 : decode cX10_habit 8 = .ok (.iload_n 2, 1) := by decide +kernel
theorem dX10_habit_9 : decode cX10_habit 9 = .ok (.iconst 2, 1) := by decide +kernel
theorem dX10_habit_10 : decode cX10_habit 10 = .ok (.invokestatic 84, 3) := by decide +kernel
theorem dX10_habit_13 : decode cX10_habit 13 = .ok (.ifCond .ne 9, 3) := by decide +kernel
theorem dX10_habit_16 : decode cX10_habit 16 = .ok (.bipush (-2), 2) := by decide +kernel
theorem dX10_habit_18 : decode cX10_habit 18 = .ok (.invokestatic 148, 3) := by decide +kernel
theorem dX10_habit_21 : decode cX10_habit 21 = .ok (.lreturn, 1) := by decide +kernel
theorem dX10_habit_22 : decode cX10_habit 22 = .ok (.aload_n 0, 1) := by decide +kernel
theorem dX10_habit_23 : decode cX10_habit 23 = .ok (.getfield 31, 3) := by decide +kernel
theorem dX10_habit_26 : decode cX10_habit 26 = .ok (.getfield 106, 3) := by decide +kernel
theorem dX10_habit_29 : decode cX10_habit 29 = .ok (.iconst (-1), 1) := by decide +kernel
theorem dX10_habit_30 : decode cX10_habit 30 = .ok (.if_icmp .eq 9, 3) := by decide +kernel
theorem dX10_habit_33 : decode cX10_habit 33 = .ok (.bipush (-3), 2) := by decide +kernel
theorem dX10_habit_35 : decode cX10_habit 35 = .ok (.invokestatic 148, 3) := by decide +kernel
theorem dX10_habit_38 : decode cX10_habit 38 = .ok (.lreturn, 1) := by decide +kernel
theorem dX10_habit_39 : decode cX10_habit 39 = .ok (.aload_n 0, 1) := by decide +kernel
theorem dX10_habit_40 : decode cX10_habit 40 = .ok (.invokevirtual 208, 3) := by decide +kernel
theorem dX10_habit_43 : decode cX10_habit 43 = .ok (.astore_n 3, 1) := by decide +kernel
theorem dX10_habit_44 : decode cX10_habit 44 = .ok (.iload_n 1, 1) := by decide +kernel
theorem dX10_habit_45 : decode cX10_habit 45 = .ok (.ifCond .ne 15, 3) := by decide +kernel
theorem dX10_habit_48 : decode cX10_habit 48 = .ok (.aload_n 3, 1) := by decide +kernel
theorem dX10_habit_49 : decode cX10_habit 49 = .ok (.aload_n 0, 1) := by decide +kernel
theorem dX10_habit_50 : decode cX10_habit 50 = .ok (.getfield 38, 3) := by decide +kernel
theorem dX10_habit_53 : decode cX10_habit 53 = .ok (.iconst (-1), 1) := by decide +kernel
theorem dX10_habit_54 : decode cX10_habit 54 = .ok (.invokevirtual 212, 3) := by decide +kernel
theorem dX10_habit_57 : decode cX10_habit 57 = .ok (.goto 11, 3) := by decide +kernel
theorem dX10_habit_60 : decode cX10_habit 60 = .ok (.aload_n 3, 1) := by decide +kernel
theorem dX10_habit_61 : decode cX10_habit 61 = .ok (.aload_n 0, 1) := by decide +kernel
theorem dX10_habit_62 : decode cX10_habit 62 = .ok (.getfield 38, 3) := by decide +kernel
theorem dX10_habit_65 : decode cX10_habit 65 = .ok (.invokevirtual 216, 3) := by decide +kernel
theorem dX10_habit_68 : decode cX10_habit 68 = .ok (.ldc2_w 220, 3) := by decide +kernel
theorem dX10_habit_71 : decode cX10_habit 71 = .ok (.iload_n 2, 1) := by decide +kernel
theorem dX10_habit_72 : decode cX10_habit 72 = .ok (.invokestatic 158, 3) := by decide +kernel
theorem dX10_habit_75 : decode cX10_habit 75 = .ok (.lreturn, 1) := by decide +kernel
theorem dX10_has_0 : decode cX10_has 0 = .ok (.iload_n 1, 1) := by decide +kernel
theorem dX10_has_1 : decode cX10_has 1 = .ok (.iconst (-1), 1) := by decide +kernel
theorem dX10_has_2 : decode cX10_has 2 = .ok (.if_icmp .eq 15, 3) := by decide +kernel
theorem dX10_has_5 : decode cX10_has 5 = .ok (.iload_n 1, 1) := by decide +kernel
theorem dX10_has_6 : decode cX10_has 6 = .ok (.bipush 32, 2) := by decide +kernel
theorem dX10_has_8 : decode cX10_has 8 = .ok (.invokestatic 84, 3) := by decide +kernel
theorem dX10_has_11 : decode cX10_has 11 = .ok (.ifCond .ne 6, 3) := by decide +kernel
theorem dX10_has_14 : decode cX10_has 14 = .ok (.bipush (-2), 2) := by decide +kernel
theorem dX10_has_16 : decode cX10_has 16 = .ok (.ireturn, 1) := by decide +kernel
theorem dX10_has_17 : decode cX10_has 17 = .ok (.aload_n 0, 1) := by decide +kernel
theorem dX10_has_18 : decode cX10_has 18 = .ok (.getfield 31, 3) := by decide +kernel
theorem dX10_has_21 : decode cX10_has 21 = .ok (.getfield 106, 3) := by decide +kernel
theorem dX10_has_24 : decode cX10_has 24 = .ok (.iconst (-1), 1) := by decide +kernel
theorem dX10_has_25 : decode cX10_has 25 = .ok (.if_icmp .eq 6, 3) := by decide +kernel
theorem dX10_has_28 : decode cX10_has 28 = .ok (.bipush (-3), 2) := by decide +kernel
theorem dX10_has_30 : decode cX10_has 30 = .ok (.ireturn, 1) := by decide +kernel
theorem dX10_has_31 : decode cX10_has 31 = .ok (.aload_n 0, 1) := by decide +kernel
theorem dX10_has_32 : decode cX10_has 32 = .ok (.invokevirtual 208, 3) := by decide +kernel
theorem dX10_has_35 : decode cX10_has 35 = .ok (.getfield 222, 3) := by decide +kernel
theorem dX10_has_38 : decode cX10_has 38 = .ok (.istore_n 2, 1) := by decide +kernel
theorem dX10_has_39 : decode cX10_has 39 = .ok (.iload_n 1, 1) := by decide +kernel
theorem dX10_has_40 : decode cX10_has 40 = .ok (.iconst (-1), 1) := by decide +kernel
theorem dX10_has_41 : decode cX10_has 41 = .ok (.if_icmp .ne 10, 3) := by decide +kernel
theorem dX10_has_44 : decode cX10_has 44 = .ok (.iload_n 2, 1) := by decide +kernel
theorem dX10_has_45 : decode cX10_has 45 = .ok (.invokestatic 143, 3) := by decide +kernel
theorem dX10_has_48 : decode cX10_has 48 = .ok (.goto 8, 3) := by decide +kernel
theorem dX10_has_51 : decode cX10_has 51 = .ok (.iload_n 2, 1) := by decide +kernel
theorem dX10_has_52 : decode cX10_has 52 = .ok (.iload_n 1, 1) := by decide +kernel
theorem dX10_has_53 : decode cX10_has 53 = .ok (.iushr, 1) := by decide +kernel
theorem dX10_has_54 : decode cX10_has 54 = .ok (.iconst 1, 1) := by decide +kernel
theorem dX10_has_55 : decode cX10_has 55 = .ok (.iand, 1) := by decide +kernel
theorem dX10_has_56 : decode cX10_has 56 = .ok (.ireturn, 1) := by decide +kernel
theorem dX10_work_0 : decode cX10_work 0 = .ok (.iload_n 1, 1) := by decide +kernel
theorem dX10_work_1 : decode cX10_work 1 = .ok (.iconst 3, 1) := by decide +kernel
theorem dX10_work_2 : decode cX10_work 2 = .ok (.invokestatic 84, 3) := by decide +kernel
theorem dX10_work_5 : decode cX10_work 5 = .ok (.ifCond .ne 9, 3) := by decide +kernel
theorem dX10_work_8 : decode cX10_work 8 = .ok (.bipush (-2), 2) := by decide +kernel
theorem dX10_work_10 : decode cX10_work 10 = .ok (.invokestatic 148, 3) := by decide +kernel
theorem dX10_work_13 : decode cX10_work 13 = .ok (.lreturn, 1) := by decide +kernel
theorem dX10_work_14 : decode cX10_work 14 = .ok (.aload_n 0, 1) := by decide +kernel
theorem dX10_work_15 : decode cX10_work 15 = .ok (.getfield 31, 3) := by decide +kernel
theorem dX10_work_18 : decode cX10_work 18 = .ok (.getfield 106, 3) := by decide +kernel
theorem dX10_work_21 : decode cX10_work 21 = .ok (.iconst (-1), 1) := by decide +kernel
theorem dX10_work_22 : decode cX10_work 22 = .ok (.if_icmp .eq 9, 3) := by decide +kernel
theorem dX10_work_25 : decode cX10_work 25 = .ok (.bipush (-3), 2) := by decide +kernel
theorem dX10_work_27 : decode cX10_work 27 = .ok (.invokestatic 148, 3) := by decide +kernel
theorem dX10_work_30 : decode cX10_work 30 = .ok (.lreturn, 1) := by decide +kernel
theorem dX10_work_31 : decode cX10_work 31 = .ok (.aload_n 0, 1) := by decide +kernel
theorem dX10_work_32 : decode cX10_work 32 = .ok (.invokevirtual 208, 3) := by decide +kernel
theorem dX10_work_35 : decode cX10_work 35 = .ok (.astore_n 2, 1) := by decide +kernel
theorem dX10_work_36 : decode cX10_work 36 = .ok (.iconst 0, 1) := by decide +kernel
theorem dX10_work_37 : decode cX10_work 37 = .ok (.istore_n 3, 1) := by decide +kernel
theorem dX10_work_38 : decode cX10_work 38 = .ok (.ldc2_w 225, 3) := by decide +kernel
theorem dX10_work_41 : decode cX10_work 41 = .ok (.lstore 4, 2) := by decide +kernel
theorem dX10_work_43 : decode cX10_work 43 = .ok (.iconst 0, 1) := by decide +kernel
theorem dX10_work_44 : decode cX10_work 44 = .ok (.istore 6, 2) := by decide +kernel
theorem dX10_work_46 : decode cX10_work 46 = .ok (.iload 6, 2) := by decide +kernel
theorem dX10_work_48 : decode cX10_work 48 = .ok (.iconst 5, 1) := by decide +kernel
theorem dX10_work_49 : decode cX10_work 49 = .ok (.if_icmp .ge 36, 3) := by decide +kernel
theorem dX10_work_52 : decode cX10_work 52 = .ok (.aload_n 2, 1) := by decide +kernel
theorem dX10_work_53 : decode cX10_work 53 = .ok (.aload_n 0, 1) := by decide +kernel
theorem dX10_work_54 : decode cX10_work 54 = .ok (.getfield 38, 3) := by decide +kernel
theorem dX10_work_57 : decode cX10_work 57 = .ok (.iload 6, 2) := by decide +kernel
theorem dX10_work_59 : decode cX10_work 59 = .ok (.invokevirtual 212, 3) := by decide +kernel
theorem dX10_work_62 : decode cX10_work 62 = .ok (.lstore 7, 2) := by decide +kernel
theorem dX10_work_64 : decode cX10_work 64 = .ok (.lload 7, 2) := by decide +kernel
theorem dX10_work_66 : decode cX10_work 66 = .ok (.lload 4, 2) := by decide +kernel
theorem dX10_work_68 : decode cX10_work 68 = .ok (.lcmp, 1) := by decide +kernel
theorem dX10_work_69 : decode cX10_work 69 = .ok (.ifCond .le 10, 3) := by decide +kernel
theorem dX10_work_72 : decode cX10_work 72 = .ok (.lload 7, 2) := by decide +kernel
theorem dX10_work_74 : decode cX10_work 74 = .ok (.lstore 4, 2) := by decide +kernel
theorem dX10_work_76 : decode cX10_work 76 = .ok (.iload 6, 2) := by decide +kernel
theorem dX10_work_78 : decode cX10_work 78 = .ok (.istore_n 3, 1) := by decide +kernel
theorem dX10_work_79 : decode cX10_work 79 = .ok (.iinc 6 1, 3) := by decide +kernel
theorem dX10_work_82 : decode cX10_work 82 = .ok (.goto (-36), 3) := by decide +kernel
theorem dX10_work_85 : decode cX10_work 85 = .ok (.iload_n 1, 1) := by decide +kernel
theorem dX10_work_86 : decode cX10_work 86 = .ok (.iconst 2, 1) := by decide +kernel
theorem dX10_work_87 : decode cX10_work 87 = .ok (.if_icmp .ne 8, 3) := by decide +kernel
theorem dX10_work_90 : decode cX10_work 90 = .ok (.iload_n 3, 1) := by decide +kernel
theorem dX10_work_91 : decode cX10_work 91 = .ok (.i2l, 1) := by decide +kernel
theorem dX10_work_92 : decode cX10_work 92 = .ok (.goto 12, 3) := by decide +kernel
theorem dX10_work_95 : decode cX10_work 95 = .ok (.lload 4, 2) := by decide +kernel
theorem dX10_work_97 : decode cX10_work 97 = .ok (.ldc2_w 220, 3) := by decide +kernel
theorem dX10_work_100 : decode cX10_work 100 = .ok (.iload_n 1, 1) := by decide +kernel
theorem dX10_work_101 : decode cX10_work 101 = .ok (.invokestatic 158, 3) := by decide +kernel
theorem dX10_work_104 : decode cX10_work 104 = .ok (.lreturn, 1) := by decide +kernel
theorem dX10_drowned_0 : decode cX10_drowned 0 = .ok (.iload_n 1, 1) := by decide +kernel
theorem dX10_drowned_1 : decode cX10_drowned 1 = .ok (.bipush 32, 2) := by decide +kernel
theorem dX10_drowned_3 : decode cX10_drowned 3 = .ok (.invokestatic 84, 3) := by decide +kernel
theorem dX10_drowned_6 : decode cX10_drowned 6 = .ok (.ifCond .eq 11, 3) := by decide +kernel
theorem dX10_drowned_9 : decode cX10_drowned 9 = .ok (.iload_n 2, 1) := by decide +kernel
theorem dX10_drowned_10 : decode cX10_drowned 10 = .ok (.iconst 4, 1) := by decide +kernel
theorem dX10_drowned_11 : decode cX10_drowned 11 = .ok (.invokestatic 84, 3) := by decide +kernel
theorem dX10_drowned_14 : decode cX10_drowned 14 = .ok (.ifCond .ne 6, 3) := by decide +kernel
theorem dX10_drowned_17 : decode cX10_drowned 17 = .ok (.bipush (-2), 2) := by decide +kernel
theorem dX10_drowned_19 : decode cX10_drowned 19 = .ok (.ireturn, 1) := by decide +kernel
theorem dX10_drowned_20 : decode cX10_drowned 20 = .ok (.aload_n 0, 1) := by decide +kernel
theorem dX10_drowned_21 : decode cX10_drowned 21 = .ok (.getfield 66, 3) := by decide +kernel
theorem dX10_drowned_24 : decode cX10_drowned 24 = .ok (.aload_n 0, 1) := by decide +kernel
theorem dX10_drowned_25 : decode cX10_drowned 25 = .ok (.getfield 24, 3) := by decide +kernel
theorem dX10_drowned_28 : decode cX10_drowned 28 = .ok (.iload_n 1, 1) := by decide +kernel
theorem dX10_drowned_29 : decode cX10_drowned 29 = .ok (.iload_n 2, 1) := by decide +kernel
theorem dX10_drowned_30 : decode cX10_drowned 30 = .ok (.invokevirtual 227, 3) := by decide +kernel
theorem dX10_drowned_33 : decode cX10_drowned 33 = .ok (.ireturn, 1) := by decide +kernel
theorem dX10_isDay_0 : decode cX10_isDay 0 = .ok (.iload_n 0, 1) := by decide +kernel
theorem dX10_isDay_1 : decode cX10_isDay 1 = .ok (.bipush 41, 2) := by decide +kernel
theorem dX10_isDay_3 : decode cX10_isDay 3 = .ok (.invokestatic 84, 3) := by decide +kernel
theorem dX10_isDay_6 : decode cX10_isDay 6 = .ok (.ifCond .eq 16, 3) := by decide +kernel
theorem dX10_isDay_9 : decode cX10_isDay 9 = .ok (.iload_n 1, 1) := by decide +kernel
theorem dX10_isDay_10 : decode cX10_isDay 10 = .ok (.bipush 10, 2) := by decide +kernel
theorem dX10_isDay_12 : decode cX10_isDay 12 = .ok (.invokestatic 84, 3) := by decide +kernel
theorem dX10_isDay_15 : decode cX10_isDay 15 = .ok (.ifCond .eq 7, 3) := by decide +kernel
theorem dX10_isDay_18 : decode cX10_isDay 18 = .ok (.iconst 1, 1) := by decide +kernel
theorem dX10_isDay_19 : decode cX10_isDay 19 = .ok (.goto 4, 3) := by decide +kernel
theorem dX10_isDay_22 : decode cX10_isDay 22 = .ok (.iconst 0, 1) := by decide +kernel
theorem dX10_isDay_23 : decode cX10_isDay 23 = .ok (.ireturn, 1) := by decide +kernel
theorem dX10_morning_0 : decode cX10_morning 0 = .ok (.iload_n 1, 1) := by decide +kernel
theorem dX10_morning_1 : decode cX10_morning 1 = .ok (.iload_n 2, 1) := by decide +kernel
theorem dX10_morning_2 : decode cX10_morning 2 = .ok (.invokestatic 231, 3) := by decide +kernel
theorem dX10_morning_5 : decode cX10_morning 5 = .ok (.ifCond .eq 12, 3) := by decide +kernel
theorem dX10_morning_8 : decode cX10_morning 8 = .ok (.iload_n 3, 1) := by decide +kernel
theorem dX10_morning_9 : decode cX10_morning 9 = .ok (.bipush 31, 2) := by decide +kernel
theorem dX10_morning_11 : decode cX10_morning 11 = .ok (.invokestatic 84, 3) := by decide +kernel
theorem dX10_morning_14 : decode cX10_morning 14 = .ok (.ifCond .ne 6, 3) := by decide +kernel
theorem dX10_morning_17 : decode cX10_morning 17 = .ok (.bipush (-2), 2) := by decide +kernel
theorem dX10_morning_19 : decode cX10_morning 19 = .ok (.ireturn, 1) := by decide +kernel
theorem dX10_morning_20 : decode cX10_morning 20 = .ok (.aload_n 0, 1) := by decide +kernel
theorem dX10_morning_21 : decode cX10_morning 21 = .ok (.getfield 73, 3) := by decide +kernel
theorem dX10_morning_24 : decode cX10_morning 24 = .ok (.iload_n 1, 1) := by decide +kernel
theorem dX10_morning_25 : decode cX10_morning 25 = .ok (.iload_n 2, 1) := by decide +kernel
theorem dX10_morning_26 : decode cX10_morning 26 = .ok (.iload_n 3, 1) := by decide +kernel
theorem dX10_morning_27 : decode cX10_morning 27 = .ok (.invokevirtual 234, 3) := by decide +kernel
theorem dX10_morning_30 : decode cX10_morning 30 = .ok (.ifCond .eq 13, 3) := by decide +kernel
theorem dX10_morning_33 : decode cX10_morning 33 = .ok (.aload_n 0, 1) := by decide +kernel
theorem dX10_morning_34 : decode cX10_morning 34 = .ok (.getfield 73, 3) := by decide +kernel
theorem dX10_morning_37 : decode cX10_morning 37 = .ok (.getfield 237, 3) := by decide +kernel
theorem dX10_morning_40 : decode cX10_morning 40 = .ok (.goto 5, 3) := by decide +kernel
theorem dX10_morning_43 : decode cX10_morning 43 = .ok (.bipush (-4), 2) := by decide +kernel
theorem dX10_morning_45 : decode cX10_morning 45 = .ok (.ireturn, 1) := by decide +kernel
