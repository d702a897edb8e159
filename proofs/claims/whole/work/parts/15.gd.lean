theorem dX11_back_0 : decode cX11_back 0 = .ok (.aload_n 0, 1) := by decide +kernel
theorem dX11_back_1 : decode cX11_back 1 = .ok (.getfield 123, 3) := by decide +kernel
theorem dX11_back_4 : decode cX11_back 4 = .ok (.ifCond .ne 6, 3) := by decide +kernel
theorem dX11_back_7 : decode cX11_back 7 = .ok (.bipush (-3), 2) := by decide +kernel
theorem dX11_back_9 : decode cX11_back 9 = .ok (.ireturn, 1) := by decide +kernel
theorem dX11_back_10 : decode cX11_back 10 = .ok (.aload_n 0, 1) := by decide +kernel
theorem dX11_back_11 : decode cX11_back 11 = .ok (.dup, 1) := by decide +kernel
theorem dX11_back_12 : decode cX11_back 12 = .ok (.getfield 123, 3) := by decide +kernel
theorem dX11_back_15 : decode cX11_back 15 = .ok (.iconst 1, 1) := by decide +kernel
theorem dX11_back_16 : decode cX11_back 16 = .ok (.isub, 1) := by decide +kernel
theorem dX11_back_17 : decode cX11_back 17 = .ok (.putfield 123, 3) := by decide +kernel
theorem dX11_back_20 : decode cX11_back 20 = .ok (.aload_n 0, 1) := by decide +kernel
theorem dX11_back_21 : decode cX11_back 21 = .ok (.getfield 123, 3) := by decide +kernel
theorem dX11_back_24 : decode cX11_back 24 = .ok (.ireturn, 1) := by decide +kernel
theorem dX11_partsOf_0 : decode cX11_partsOf 0 = .ok (.lconst 1, 1) := by decide +kernel
theorem dX11_partsOf_1 : decode cX11_partsOf 1 = .ok (.lstore_n 2, 1) := by decide +kernel
theorem dX11_partsOf_2 : decode cX11_partsOf 2 = .ok (.iconst 0, 1) := by decide +kernel
theorem dX11_partsOf_3 : decode cX11_partsOf 3 = .ok (.istore 4, 2) := by decide +kernel
theorem dX11_partsOf_5 : decode cX11_partsOf 5 = .ok (.iload 4, 2) := by decide +kernel
theorem dX11_partsOf_7 : decode cX11_partsOf 7 = .ok (.iconst 5, 1) := by decide +kernel
theorem dX11_partsOf_8 : decode cX11_partsOf 8 = .ok (.if_icmp .ge 43, 3) := by decide +kernel
theorem dX11_partsOf_11 : decode cX11_partsOf 11 = .ok (.lload_n 2, 1) := by decide +kernel
theorem dX11_partsOf_12 : decode cX11_partsOf 12 = .ok (.iload_n 1, 1) := by decide +kernel
theorem dX11_partsOf_13 : decode cX11_partsOf 13 = .ok (.iload 4, 2) := by decide +kernel
theorem dX11_partsOf_15 : decode cX11_partsOf 15 = .ok (.invokestatic 119, 3) := by decide +kernel
theorem dX11_partsOf_18 : decode cX11_partsOf 18 = .ok (.ifCond .eq 14, 3) := by decide +kernel
theorem dX11_partsOf_21 : decode cX11_partsOf 21 = .ok (.aload_n 0, 1) := by decide +kernel
theorem dX11_partsOf_22 : decode cX11_partsOf 22 = .ok (.getfield 25, 3) := by decide +kernel
theorem dX11_partsOf_25 : decode cX11_partsOf 25 = .ok (.iload 4, 2) := by decide +kernel
theorem dX11_partsOf_27 : decode cX11_partsOf 27 = .ok (.iaload, 1) := by decide +kernel
theorem dX11_partsOf_28 : decode cX11_partsOf 28 = .ok (.i2l, 1) := by decide +kernel
theorem dX11_partsOf_29 : decode cX11_partsOf 29 = .ok (.goto 14, 3) := by decide +kernel
theorem dX11_partsOf_32 : decode cX11_partsOf 32 = .ok (.bipush 16, 2) := by decide +kernel
theorem dX11_partsOf_34 : decode cX11_partsOf 34 = .ok (.aload_n 0, 1) := by decide +kernel
theorem dX11_partsOf_35 : decode cX11_partsOf 35 = .ok (.getfield 25, 3) := by decide +kernel
theorem dX11_partsOf_38 : decode cX11_partsOf 38 = .ok (.iload 4, 2) := by decide +kernel
theorem dX11_partsOf_40 : decode cX11_partsOf 40 = .ok (.iaload, 1) := by decide +kernel
theorem dX11_partsOf_41 : decode cX11_partsOf 41 = .ok (.isub, 1) := by decide +kernel
theorem dX11_partsOf_42 : decode cX11_partsOf 42 = .ok (.i2l, 1) := by decide +kernel
theorem dX11_partsOf_43 : decode cX11_partsOf 43 = .ok (.lmul, 1) := by decide +kernel
theorem dX11_partsOf_44 : decode cX11_partsOf 44 = .ok (.lstore_n 2, 1) := by decide +kernel
theorem dX11_partsOf_45 : decode cX11_partsOf 45 = .ok (.iinc 4 1, 3) := by decide +kernel
theorem dX11_partsOf_48 : decode cX11_partsOf 48 = .ok (.goto (-43), 3) := by decide +kernel
theorem dX11_partsOf_51 : decode cX11_partsOf 51 = .ok (.lload_n 2, 1) := by decide +kernel
theorem dX11_partsOf_52 : decode cX11_partsOf 52 = .ok (.lreturn, 1) := by decide +kernel
theorem dX11_lays_0 : decode cX11_lays 0 = .ok (.aload_n 0, 1) := by decide +kernel
theorem dX11_lays_1 : decode cX11_lays 1 = .ok (.invokevirtual 104, 3) := by decide +kernel
theorem dX11_lays_4 : decode cX11_lays 4 = .ok (.istore_n 1, 1) := by decide +kernel
theorem dX11_lays_5 : decode cX11_lays 5 = .ok (.aload_n 0, 1) := by decide +kernel
theorem dX11_lays_6 : decode cX11_lays 6 = .ok (.lconst 0, 1) := by decide +kernel
theorem dX11_lays_7 : decode cX11_lays 7 = .ok (.putfield 135, 3) := by decide +kernel
theorem dX11_lays_10 : decode cX11_lays 10 = .ok (.iconst 0, 1) := by decide +kernel
theorem dX11_lays_11 : decode cX11_lays 11 = .ok (.istore_n 2, 1) := by decide +kernel
theorem dX11_lays_12 : decode cX11_lays 12 = .ok (.iload_n 2, 1) := by decide +kernel
theorem dX11_lays_13 : decode cX11_lays 13 = .ok (.bipush 32, 2) := by decide +kernel
theorem dX11_lays_15 : decode cX11_lays 15 = .ok (.if_icmp .ge 114, 3) := by decide +kernel
theorem dX11_lays_18 : decode cX11_lays 18 = .ok (.aload_n 0, 1) := by decide +kernel
theorem dX11_lays_19 : decode cX11_lays 19 = .ok (.iconst 0, 1) := by decide +kernel
theorem dX11_lays_20 : decode cX11_lays 20 = .ok (.iload_n 2, 1) := by decide +kernel
theorem dX11_lays_21 : decode cX11_lays 21 = .ok (.invokevirtual 139, 3) := by decide +kernel
theorem dX11_lays_24 : decode cX11_lays 24 = .ok (.iconst 1, 1) := by decide +kernel
theorem dX11_lays_25 : decode cX11_lays 25 = .ok (.istore_n 3, 1) := by decide +kernel
theorem dX11_lays_26 : decode cX11_lays 26 = .ok (.iconst 0, 1) := by decide +kernel
theorem dX11_lays_27 : decode cX11_lays 27 = .ok (.istore 4, 2) := by decide +kernel
theorem dX11_lays_29 : decode cX11_lays 29 = .ok (.iload 4, 2) := by decide +kernel
theorem dX11_lays_31 : decode cX11_lays 31 = .ok (.aload_n 0, 1) := by decide +kernel
theorem dX11_lays_32 : decode cX11_lays 32 = .ok (.getfield 123, 3) := by decide +kernel
theorem dX11_lays_35 : decode cX11_lays 35 = .ok (.if_icmp .ge 54, 3) := by decide +kernel
theorem dX11_lays_38 : decode cX11_lays 38 = .ok (.aload_n 0, 1) := by decide +kernel
theorem dX11_lays_39 : decode cX11_lays 39 = .ok (.iconst 0, 1) := by decide +kernel
theorem dX11_lays_40 : decode cX11_lays 40 = .ok (.iload_n 2, 1) := by decide +kernel
theorem dX11_lays_41 : decode cX11_lays 41 = .ok (.aload_n 0, 1) := by decide +kernel
theorem dX11_lays_42 : decode cX11_lays 42 = .ok (.getfield 28, 3) := by decide +kernel
theorem dX11_lays_45 : decode cX11_lays 45 = .ok (.iload 4, 2) := by decide +kernel
theorem dX11_lays_47 : decode cX11_lays 47 = .ok (.iaload, 1) := by decide +kernel
theorem dX11_lays_48 : decode cX11_lays 48 = .ok (.invokevirtual 143, 3) := by decide +kernel
theorem dX11_lays_51 : decode cX11_lays 51 = .ok (.aload_n 0, 1) := by decide +kernel
theorem dX11_lays_52 : decode cX11_lays 52 = .ok (.getfield 31, 3) := by decide +kernel
theorem dX11_lays_55 : decode cX11_lays 55 = .ok (.iload 4, 2) := by decide +kernel
theorem dX11_lays_57 : decode cX11_lays 57 = .ok (.iaload, 1) := by decide +kernel
theorem dX11_lays_58 : decode cX11_lays 58 = .ok (.if_icmp .ne 7, 3) := by decide +kernel
theorem dX11_lays_61 : decode cX11_lays 61 = .ok (.iconst 1, 1) := by decide +kernel
theorem dX11_lays_62 : decode cX11_lays 62 = .ok (.goto 4, 3) := by decide +kernel
theorem dX11_lays_65 : decode cX11_lays 65 = .ok (.iconst 0, 1) := by decide +kernel
theorem dX11_lays_66 : decode cX11_lays 66 = .ok (.istore 5, 2) := by decide +kernel
theorem dX11_lays_68 : decode cX11_lays 68 = .ok (.iload_n 3, 1) := by decide +kernel
theorem dX11_lays_69 : decode cX11_lays 69 = .ok (.ifCond .eq 12, 3) := by decide +kernel
theorem dX11_lays_72 : decode cX11_lays 72 = .ok (.iload 5, 2) := by decide +kernel
theorem dX11_lays_74 : decode cX11_lays 74 = .ok (.ifCond .eq 7, 3) := by decide +kernel
theorem dX11_lays_77 : decode cX11_lays 77 = .ok (.iconst 1, 1) := by decide +kernel
theorem dX11_lays_78 : decode cX11_lays 78 = .ok (.goto 4, 3) := by decide +kernel
theorem dX11_lays_81 : decode cX11_lays 81 = .ok (.iconst 0, 1) := by decide +kernel
theorem dX11_lays_82 : decode cX11_lays 82 = .ok (.istore_n 3, 1) := by decide +kernel
theorem dX11_lays_83 : decode cX11_lays 83 = .ok (.iinc 4 1, 3) := by decide +kernel
theorem dX11_lays_86 : decode cX11_lays 86 = .ok (.goto (-57), 3) := by decide +kernel
theorem dX11_lays_89 : decode cX11_lays 89 = .ok (.aload_n 0, 1) := by decide +kernel
theorem dX11_lays_90 : decode cX11_lays 90 = .ok (.getfield 34, 3) := by decide +kernel
theorem dX11_lays_93 : decode cX11_lays 93 = .ok (.iload_n 2, 1) := by decide +kernel
theorem dX11_lays_94 : decode cX11_lays 94 = .ok (.iload_n 3, 1) := by decide +kernel
theorem dX11_lays_95 : decode cX11_lays 95 = .ok (.ifCond .eq 11, 3) := by decide +kernel
theorem dX11_lays_98 : decode cX11_lays 98 = .ok (.aload_n 0, 1) := by decide +kernel
theorem dX11_lays_99 : decode cX11_lays 99 = .ok (.iload_n 2, 1) := by decide +kernel
theorem dX11_lays_100 : decode cX11_lays 100 = .ok (.invokevirtual 147, 3) := by decide +kernel
theorem dX11_lays_103 : decode cX11_lays 103 = .ok (.goto 4, 3) := by decide +kernel
theorem dX11_lays_106 : decode cX11_lays 106 = .ok (.lconst 0, 1) := by decide +kernel
theorem dX11_lays_107 : decode cX11_lays 107 = .ok (.lastore, 1) := by decide +kernel
theorem dX11_lays_108 : decode cX11_lays 108 = .ok (.aload_n 0, 1) := by decide +kernel
theorem dX11_lays_109 : decode cX11_lays 109 = .ok (.dup, 1) := by decide +kernel
theorem dX11_lays_110 : decode cX11_lays 110 = .ok (.getfield 135, 3) := by decide +kernel
theorem dX11_lays_113 : decode cX11_lays 113 = .ok (.aload_n 0, 1) := by decide +kernel
theorem dX11_lays_114 : decode cX11_lays 114 = .ok (.getfield 34, 3) := by decide +kernel
theorem dX11_lays_117 : decode cX11_lays 117 = .ok (.iload_n 2, 1) := by decide +kernel
theorem dX11_lays_118 : decode cX11_lays 118 = .ok (.laload, 1) := by decide +kernel
theorem dX11_lays_119 : decode cX11_lays 119 = .ok (.ladd, 1) := by decide +kernel
theorem dX11_lays_120 : decode cX11_lays 120 = .ok (.putfield 135, 3) := by decide +kernel
theorem dX11_lays_123 : decode cX11_lays 123 = .ok (.iinc 2 1, 3) := by decide +kernel
theorem dX11_lays_126 : decode cX11_lays 126 = .ok (.goto (-114), 3) := by decide +kernel
theorem dX11_lays_129 : decode cX11_lays 129 = .ok (.return_, 1) := by decide +kernel
theorem dX11_leftNow_0 : decode cX11_leftNow 0 = .ok (.aload_n 0, 1) := by decide +kernel
theorem dX11_leftNow_1 : decode cX11_leftNow 1 = .ok (.invokevirtual 151, 3) := by decide +kernel
theorem dX11_leftNow_4 : decode cX11_leftNow 4 = .ok (.iconst 0, 1) := by decide +kernel
theorem dX11_leftNow_5 : decode cX11_leftNow 5 = .ok (.istore_n 1, 1) := by decide +kernel
theorem dX11_leftNow_6 : decode cX11_leftNow 6 = .ok (.iconst 0, 1) := by decide +kernel
theorem dX11_leftNow_7 : decode cX11_leftNow 7 = .ok (.istore_n 2, 1) := by decide +kernel
theorem dX11_leftNow_8 : decode cX11_leftNow 8 = .ok (.iload_n 2, 1) := by decide +kernel
theorem dX11_leftNow_9 : decode cX11_leftNow 9 = .ok (.bipush 32, 2) := by decide +kernel
theorem dX11_leftNow_11 : decode cX11_leftNow 11 = .ok (.if_icmp .ge 28, 3) := by decide +kernel
theorem dX11_leftNow_14 : decode cX11_leftNow 14 = .ok (.iload_n 1, 1) := by decide +kernel
theorem dX11_leftNow_15 : decode cX11_leftNow 15 = .ok (.aload_n 0, 1) := by decide +kernel
theorem dX11_leftNow_16 : decode cX11_leftNow 16 = .ok (.getfield 34, 3) := by decide +kernel
theorem dX11_leftNow_19 : decode cX11_leftNow 19 = .ok (.iload_n 2, 1) := by decide +kernel
theorem dX11_leftNow_20 : decode cX11_leftNow 20 = .ok (.laload, 1) := by decide +kernel
theorem dX11_leftNow_21 : decode cX11_leftNow 21 = .ok (.lconst 0, 1) := by decide +kernel
theorem dX11_leftNow_22 : decode cX11_leftNow 22 = .ok (.lcmp, 1) := by decide +kernel
theorem dX11_leftNow_23 : decode cX11_leftNow 23 = .ok (.ifCond .le 7, 3) := by decide +kernel
theorem dX11_leftNow_26 : decode cX11_leftNow 26 = .ok (.iconst 1, 1) := by decide +kernel
theorem dX11_leftNow_27 : decode cX11_leftNow 27 = .ok (.goto 4, 3) := by decide +kernel
theorem dX11_leftNow_30 : decode cX11_leftNow 30 = .ok (.iconst 0, 1) := by decide +kernel
theorem dX11_leftNow_31 : decode cX11_leftNow 31 = .ok (.iadd, 1) := by decide +kernel
theorem dX11_leftNow_32 : decode cX11_leftNow 32 = .ok (.istore_n 1, 1) := by decide +kernel
theorem dX11_leftNow_33 : decode cX11_leftNow 33 = .ok (.iinc 2 1, 3) := by decide +kernel
theorem dX11_leftNow_36 : decode cX11_leftNow 36 = .ok (.goto (-28), 3) := by decide +kernel
theorem dX11_leftNow_39 : decode cX11_leftNow 39 = .ok (.iload_n 1, 1) := by decide +kernel
theorem dX11_leftNow_40 : decode cX11_leftNow 40 = .ok (.ireturn, 1) := by decide +kernel
theorem dX11_left_0 : decode cX11_left 0 = .ok (.aload_n 0, 1) := by decide +kernel
theorem dX11_left_1 : decode cX11_left 1 = .ok (.invokevirtual 154, 3) := by decide +kernel
theorem dX11_left_4 : decode cX11_left 4 = .ok (.ireturn, 1) := by decide +kernel
theorem dX11_isSet_0 : decode cX11_isSet 0 = .ok (.iload_n 0, 1) := by decide +kernel
theorem dX11_isSet_1 : decode cX11_isSet 1 = .ok (.iconst 0, 1) := by decide +kernel
theorem dX11_isSet_2 : decode cX11_isSet 2 = .ok (.bipush 31, 2) := by decide +kernel
theorem dX11_isSet_4 : decode cX11_isSet 4 = .ok (.invokestatic 68, 3) := by decide +kernel
theorem dX11_isSet_7 : decode cX11_isSet 7 = .ok (.ireturn, 1) := by decide +kernel
theorem dX11_odds_0 : decode cX11_odds 0 = .ok (.iload_n 1, 1) := by decide +kernel
theorem dX11_odds_1 : decode cX11_odds 1 = .ok (.invokestatic 157, 3) := by decide +kernel
theorem dX11_odds_4 : decode cX11_odds 4 = .ok (.ifCond .eq 12, 3) := by decide +kernel
theorem dX11_odds_7 : decode cX11_odds 7 = .ok (.iload_n 2, 1) := by decide +kernel
theorem dX11_odds_8 : decode cX11_odds 8 = .ok (.iconst 0, 1) := by decide +kernel
theorem dX11_odds_9 : decode cX11_odds 9 = .ok (.iconst 1, 1) := by decide +kernel
theorem dX11_odds_10 : decode cX11_odds 10 = .ok (.invokestatic 68, 3) := by decide +kernel
theorem dX11_odds_13 : decode cX11_odds 13 = .ok (.ifCond .ne 9, 3) := by decide +kernel
theorem dX11_odds_16 : decode cX11_odds 16 = .ok (.bipush (-2), 2) := by decide +kernel
theorem dX11_odds_18 : decode cX11_odds 18 = .ok (.invokestatic 160, 3) := by decide +kernel
theorem dX11_odds_21 : decode cX11_odds 21 = .ok (.lreturn, 1) := by decide +kernel
theorem dX11_odds_22 : decode cX11_odds 22 = .ok (.aload_n 0, 1) := by decide +kernel
theorem dX11_odds_23 : decode cX11_odds 23 = .ok (.invokevirtual 151, 3) := by decide +kernel
theorem dX11_odds_26 : decode cX11_odds 26 = .ok (.aload_n 0, 1) := by decide +kernel
theorem dX11_odds_27 : decode cX11_odds 27 = .ok (.getfield 135, 3) := by decide +kernel
theorem dX11_odds_30 : decode cX11_odds 30 = .ok (.lconst 0, 1) := by decide +kernel
theorem dX11_odds_31 : decode cX11_odds 31 = .ok (.lcmp, 1) := by decide +kernel
theorem dX11_odds_32 : decode cX11_odds 32 = .ok (.ifCond .ne 11, 3) := by decide +kernel
theorem dX11_odds_35 : decode cX11_odds 35 = .ok (.bipush (-3), 2) := by decide +kernel
theorem dX11_odds_37 : decode cX11_odds 37 = .ok (.invokestatic 160, 3) := by decide +kernel
theorem dX11_odds_40 : decode cX11_odds 40 = .ok (.goto 17, 3) := by decide +kernel
theorem dX11_odds_43 : decode cX11_odds 43 = .ok (.aload_n 0, 1) := by decide +kernel
theorem dX11_odds_44 : decode cX11_odds 44 = .ok (.getfield 34, 3) := by decide +kernel
theorem dX11_odds_47 : decode cX11_odds 47 = .ok (.iload_n 1, 1) := by decide +kernel
theorem dX11_odds_48 : decode cX11_odds 48 = .ok (.laload, 1) := by decide +kernel
theorem dX11_odds_49 : decode cX11_odds 49 = .ok (.aload_n 0, 1) := by decide +kernel
theorem dX11_odds_50 : decode cX11_odds 50 = .ok (.getfield 135, 3) := by decide +kernel
theorem dX11_odds_53 : decode cX11_odds 53 = .ok (.iload_n 2, 1) := by decide +kernel
theorem dX11_odds_54 : decode cX11_odds 54 = .ok (.invokestatic 163, 3) := by decide +kernel
theorem dX11_odds_57 : decode cX11_odds 57 = .ok (.lreturn, 1) := by decide +kernel
theorem dX11_troubleNow_0 : decode cX11_troubleNow 0 = .ok (.aload_n 0, 1) := by decide +kernel
theorem dX11_troubleNow_1 : decode cX11_troubleNow 1 = .ok (.invokevirtual 151, 3) := by decide +kernel
theorem dX11_troubleNow_4 : decode cX11_troubleNow 4 = .ok (.lconst 0, 1) := by decide +kernel
theorem dX11_troubleNow_5 : decode cX11_troubleNow 5 = .ok (.lstore_n 3, 1) := by decide +kernel
theorem dX11_troubleNow_6 : decode cX11_troubleNow 6 = .ok (.iconst 0, 1) := by decide +kernel
theorem dX11_troubleNow_7 : decode cX11_troubleNow 7 = .ok (.istore 5, 2) := by decide +kernel
theorem dX11_troubleNow_9 : decode cX11_troubleNow 9 = .ok (.iload 5, 2) := by decide +kernel
theorem dX11_troubleNow_11 : decode cX11_troubleNow 11 = .ok (.bipush 32, 2) := by decide +kernel
theorem dX11_troubleNow_13 : decode cX11_troubleNow 13 = .ok (.if_icmp .ge 32, 3) := by decide +kernel
theorem dX11_troubleNow_16 : decode cX11_troubleNow 16 = .ok (.lload_n 3, 1) := by decide +kernel
theorem dX11_troubleNow_17 : decode cX11_troubleNow 17 = .ok (.iload 5, 2) := by decide +kernel
theorem dX11_troubleNow_19 : decode cX11_troubleNow 19 = .ok (.iload_n 1, 1) := by decide +kernel
theorem dX11_troubleNow_20 : decode cX11_troubleNow 20 = .ok (.invokestatic 119, 3) := by decide +kernel
theorem dX11_troubleNow_23 : decode cX11_troubleNow 23 = .ok (.ifCond .eq 13, 3) := by decide +kernel
theorem dX11_troubleNow_26 : decode cX11_troubleNow 26 = .ok (.aload_n 0, 1) := by decide +kernel
theorem dX11_troubleNow_27 : decode cX11_troubleNow 27 = .ok (.getfield 34, 3) := by decide +kernel
theorem dX11_troubleNow_30 : decode cX11_troubleNow 30 = .ok (.iload 5, 2) := by decide +kernel
theorem dX11_troubleNow_32 : decode cX11_troubleNow 32 = .ok (.laload, 1) := by decide +kernel
theorem dX11_troubleNow_33 : decode cX11_troubleNow 33 = .ok (.goto 4, 3) := by decide +kernel
theorem dX11_troubleNow_36 : decode cX11_troubleNow 36 = .ok (.lconst 0, 1) := by decide +kernel
theorem dX11_troubleNow_37 : decode cX11_troubleNow 37 = .ok (.ladd, 1) := by decide +kernel
theorem dX11_troubleNow_38 : decode cX11_troubleNow 38 = .ok (.lstore_n 3, 1) := by decide +kernel
theorem dX11_troubleNow_39 : decode cX11_troubleNow 39 = .ok (.iinc 5 1, 3) := by decide +kernel
theorem dX11_troubleNow_42 : decode cX11_troubleNow 42 = .ok (.goto (-33), 3) := by decide +kernel
theorem dX11_troubleNow_45 : decode cX11_troubleNow 45 = .ok (.aload_n 0, 1) := by decide +kernel
theorem dX11_troubleNow_46 : decode cX11_troubleNow 46 = .ok (.getfield 135, 3) := by decide +kernel
theorem dX11_troubleNow_49 : decode cX11_troubleNow 49 = .ok (.lconst 0, 1) := by decide +kernel
theorem dX11_troubleNow_50 : decode cX11_troubleNow 50 = .ok (.lcmp, 1) := by decide +kernel
theorem dX11_troubleNow_51 : decode cX11_troubleNow 51 = .ok (.ifCond .ne 11, 3) := by decide +kernel
theorem dX11_troubleNow_54 : decode cX11_troubleNow 54 = .ok (.bipush (-3), 2) := by decide +kernel
theorem dX11_troubleNow_56 : decode cX11_troubleNow 56 = .ok (.invokestatic 160, 3) := by decide +kernel
theorem dX11_troubleNow_59 : decode cX11_troubleNow 59 = .ok (.goto 12, 3) := by decide +kernel
theorem dX11_troubleNow_62 : decode cX11_troubleNow 62 = .ok (.lload_n 3, 1) := by decide +kernel
theorem dX11_troubleNow_63 : decode cX11_troubleNow 63 = .ok (.aload_n 0, 1) := by decide +kernel
theorem dX11_troubleNow_64 : decode cX11_troubleNow 64 = .ok (.getfield 135, 3) := by decide +kernel
theorem dX11_troubleNow_67 : decode cX11_troubleNow 67 = .ok (.iload_n 2, 1) := by decide +kernel
theorem dX11_troubleNow_68 : decode cX11_troubleNow 68 = .ok (.invokestatic 163, 3) := by decide +kernel
theorem dX11_troubleNow_71 : decode cX11_troubleNow 71 = .ok (.lreturn, 1) := by decide +kernel
theorem dX11_trouble_0 : decode cX11_trouble 0 = .ok (.iload_n 1, 1) := by decide +kernel
theorem dX11_trouble_1 : decode cX11_trouble 1 = .ok (.iconst 0, 1) := by decide +kernel
theorem dX11_trouble_2 : decode cX11_trouble 2 = .ok (.iconst 4, 1) := by decide +kernel
theorem dX11_trouble_3 : decode cX11_trouble 3 = .ok (.invokestatic 68, 3) := by decide +kernel
theorem dX11_trouble_6 : decode cX11_trouble 6 = .ok (.ifCond .eq 21, 3) := by decide +kernel
theorem dX11_trouble_9 : decode cX11_trouble 9 = .ok (.iload_n 2, 1) := by decide +kernel
theorem dX11_trouble_10 : decode cX11_trouble 10 = .ok (.iconst 0, 1) := by decide +kernel
theorem dX11_trouble_11 : decode cX11_trouble 11 = .ok (.iconst 1, 1) := by decide +kernel
theorem dX11_trouble_12 : decode cX11_trouble 12 = .ok (.invokestatic 68, 3) := by decide +kernel
theorem dX11_trouble_15 : decode cX11_trouble 15 = .ok (.ifCond .eq 12, 3) := by decide +kernel
theorem dX11_trouble_18 : decode cX11_trouble 18 = .ok (.aload_n 0, 1) := by decide +kernel
theorem dX11_trouble_19 : decode cX11_trouble 19 = .ok (.iload_n 1, 1) := by decide +kernel
theorem dX11_trouble_20 : decode cX11_trouble 20 = .ok (.iload_n 2, 1) := by decide +kernel
theorem dX11_trouble_21 : decode cX11_trouble 21 = .ok (.invokevirtual 167, 3) := by decide +kernel
theorem dX11_trouble_24 : decode cX11_trouble 24 = .ok (.goto 8, 3) := by decide +kernel
theorem dX11_trouble_27 : decode cX11_trouble 27 = .ok (.bipush (-2), 2) := by decide +kernel
theorem dX11_trouble_29 : decode cX11_trouble 29 = .ok (.invokestatic 160, 3) := by decide +kernel
theorem dX11_trouble_32 : decode cX11_trouble 32 = .ok (.lreturn, 1) := by decide +kernel
theorem dX11_stateNow_0 : decode cX11_stateNow 0 = .ok (.aload_n 0, 1) := by decide +kernel
theorem dX11_stateNow_1 : decode cX11_stateNow 1 = .ok (.invokevirtual 151, 3) := by decide +kernel
theorem dX11_stateNow_4 : decode cX11_stateNow 4 = .ok (.aload_n 0, 1) := by decide +kernel
theorem dX11_stateNow_5 : decode cX11_stateNow 5 = .ok (.getfield 22, 3) := by decide +kernel
theorem dX11_stateNow_8 : decode cX11_stateNow 8 = .ok (.bipush 8, 2) := by decide +kernel
theorem dX11_stateNow_10 : decode cX11_stateNow 10 = .ok (.iload_n 1, 1) := by decide +kernel
theorem dX11_stateNow_11 : decode cX11_stateNow 11 = .ok (.imul, 1) := by decide +kernel
theorem dX11_stateNow_12 : decode cX11_stateNow 12 = .ok (.iload_n 2, 1) := by decide +kernel
theorem dX11_stateNow_13 : decode cX11_stateNow 13 = .ok (.iadd, 1) := by decide +kernel
theorem dX11_stateNow_14 : decode cX11_stateNow 14 = .ok (.iaload, 1) := by decide +kernel
theorem dX11_stateNow_15 : decode cX11_stateNow 15 = .ok (.ireturn, 1) := by decide +kernel
theorem dX11_state_0 : decode cX11_state 0 = .ok (.iload_n 1, 1) := by decide +kernel
theorem dX11_state_1 : decode cX11_state 1 = .ok (.invokestatic 157, 3) := by decide +kernel
theorem dX11_state_4 : decode cX11_state 4 = .ok (.ifCond .eq 22, 3) := by decide +kernel
theorem dX11_state_7 : decode cX11_state 7 = .ok (.iload_n 2, 1) := by decide +kernel
theorem dX11_state_8 : decode cX11_state 8 = .ok (.iconst 0, 1) := by decide +kernel
theorem dX11_state_9 : decode cX11_state 9 = .ok (.bipush 7, 2) := by decide +kernel
theorem dX11_state_11 : decode cX11_state 11 = .ok (.invokestatic 68, 3) := by decide +kernel
theorem dX11_state_14 : decode cX11_state 14 = .ok (.ifCond .eq 12, 3) := by decide +kernel
theorem dX11_state_17 : decode cX11_state 17 = .ok (.aload_n 0, 1) := by decide +kernel
theorem dX11_state_18 : decode cX11_state 18 = .ok (.iload_n 1, 1) := by decide +kernel
theorem dX11_state_19 : decode cX11_state 19 = .ok (.iload_n 2, 1) := by decide +kernel
theorem dX11_state_20 : decode cX11_state 20 = .ok (.invokevirtual 171, 3) := by decide +kernel
theorem dX11_state_23 : decode cX11_state 23 = .ok (.goto 5, 3) := by decide +kernel
theorem dX11_state_26 : decode cX11_state 26 = .ok (.bipush (-2), 2) := by decide +kernel
theorem dX11_state_28 : decode cX11_state 28 = .ok (.ireturn, 1) := by decide +kernel
theorem dX11_sign_0 : decode cX11_sign 0 = .ok (.iload_n 1, 1) := by decide +kernel
theorem dX11_sign_1 : decode cX11_sign 1 = .ok (.invokestatic 157, 3) := by decide +kernel
theorem dX11_sign_4 : decode cX11_sign 4 = .ok (.ifCond .eq 13, 3) := by decide +kernel
theorem dX11_sign_7 : decode cX11_sign 7 = .ok (.iload_n 2, 1) := by decide +kernel
theorem dX11_sign_8 : decode cX11_sign 8 = .ok (.iconst 0, 1) := by decide +kernel
theorem dX11_sign_9 : decode cX11_sign 9 = .ok (.bipush 9, 2) := by decide +kernel
theorem dX11_sign_11 : decode cX11_sign 11 = .ok (.invokestatic 68, 3) := by decide +kernel
theorem dX11_sign_14 : decode cX11_sign 14 = .ok (.ifCond .ne 6, 3) := by decide +kernel
theorem dX11_sign_17 : decode cX11_sign 17 = .ok (.bipush (-2), 2) := by decide +kernel
theorem dX11_sign_19 : decode cX11_sign 19 = .ok (.ireturn, 1) := by decide +kernel
theorem dX11_sign_20 : decode cX11_sign 20 = .ok (.aload_n 0, 1) := by decide +kernel
theorem dX11_sign_21 : decode cX11_sign 21 = .ok (.invokevirtual 151, 3) := by decide +kernel
theorem dX11_sign_24 : decode cX11_sign 24 = .ok (.aload_n 0, 1) := by decide +kernel
theorem dX11_sign_25 : decode cX11_sign 25 = .ok (.iconst 0, 1) := by decide +kernel
theorem dX11_sign_26 : decode cX11_sign 26 = .ok (.iload_n 1, 1) := by decide +kernel
theorem dX11_sign_27 : decode cX11_sign 27 = .ok (.iload_n 2, 1) := by decide +kernel
theorem dX11_sign_28 : decode cX11_sign 28 = .ok (.invokevirtual 143, 3) := by decide +kernel
theorem dX11_sign_31 : decode cX11_sign 31 = .ok (.ireturn, 1) := by decide +kernel
theorem dX11_goesOn_0 : decode cX11_goesOn 0 = .ok (.iconst 0, 1) := by decide +kernel
theorem dX11_goesOn_1 : decode cX11_goesOn 1 = .ok (.istore 4, 2) := by decide +kernel
theorem dX11_goesOn_3 : decode cX11_goesOn 3 = .ok (.iload 4, 2) := by decide +kernel
theorem dX11_goesOn_5 : decode cX11_goesOn 5 = .ok (.bipush 32, 2) := by decide +kernel
theorem dX11_goesOn_7 : decode cX11_goesOn 7 = .ok (.if_icmp .ge 50, 3) := by decide +kernel
theorem dX11_goesOn_10 : decode cX11_goesOn 10 = .ok (.iload_n 2, 1) := by decide +kernel
theorem dX11_goesOn_11 : decode cX11_goesOn 11 = .ok (.iload 4, 2) := by decide +kernel
theorem dX11_goesOn_13 : decode cX11_goesOn 13 = .ok (.invokestatic 119, 3) := by decide +kernel
theorem dX11_goesOn_16 : decode cX11_goesOn 16 = .ok (.ifCond .eq 35, 3) := by decide +kernel
theorem dX11_goesOn_19 : decode cX11_goesOn 19 = .ok (.aload_n 0, 1) := by decide +kernel
theorem dX11_goesOn_20 : decode cX11_goesOn 20 = .ok (.iload_n 1, 1) := by decide +kernel
theorem dX11_goesOn_21 : decode cX11_goesOn 21 = .ok (.iload_n 1, 1) := by decide +kernel
theorem dX11_goesOn_22 : decode cX11_goesOn 22 = .ok (.iconst 1, 1) := by decide +kernel
theorem dX11_goesOn_23 : decode cX11_goesOn 23 = .ok (.iadd, 1) := by decide +kernel
theorem dX11_goesOn_24 : decode cX11_goesOn 24 = .ok (.iload 4, 2) := by decide +kernel
theorem dX11_goesOn_26 : decode cX11_goesOn 26 = .ok (.invokevirtual 174, 3) := by decide +kernel
theorem dX11_goesOn_29 : decode cX11_goesOn 29 = .ok (.aload_n 0, 1) := by decide +kernel
theorem dX11_goesOn_30 : decode cX11_goesOn 30 = .ok (.getfield 38, 3) := by decide +kernel
theorem dX11_goesOn_33 : decode cX11_goesOn 33 = .ok (.bipush 32, 2) := by decide +kernel
theorem dX11_goesOn_35 : decode cX11_goesOn 35 = .ok (.iload_n 1, 1) := by decide +kernel
theorem dX11_goesOn_36 : decode cX11_goesOn 36 = .ok (.imul, 1) := by decide +kernel
theorem dX11_goesOn_37 : decode cX11_goesOn 37 = .ok (.iload 4, 2) := by decide +kernel
theorem dX11_goesOn_39 : decode cX11_goesOn 39 = .ok (.iadd, 1) := by decide +kernel
theorem dX11_goesOn_40 : decode cX11_goesOn 40 = .ok (.aload_n 0, 1) := by decide +kernel
theorem dX11_goesOn_41 : decode cX11_goesOn 41 = .ok (.iload_n 1, 1) := by decide +kernel
theorem dX11_goesOn_42 : decode cX11_goesOn 42 = .ok (.iconst 1, 1) := by decide +kernel
theorem dX11_goesOn_43 : decode cX11_goesOn 43 = .ok (.iadd, 1) := by decide +kernel
theorem dX11_goesOn_44 : decode cX11_goesOn 44 = .ok (.iload 4, 2) := by decide +kernel
theorem dX11_goesOn_46 : decode cX11_goesOn 46 = .ok (.iload_n 3, 1) := by decide +kernel
theorem dX11_goesOn_47 : decode cX11_goesOn 47 = .ok (.invokevirtual 143, 3) := by decide +kernel
theorem dX11_goesOn_50 : decode cX11_goesOn 50 = .ok (.iastore, 1) := by decide +kernel
theorem dX11_goesOn_51 : decode cX11_goesOn 51 = .ok (.iinc 4 1, 3) := by decide +kernel
theorem dX11_goesOn_54 : decode cX11_goesOn 54 = .ok (.goto (-51), 3) := by decide +kernel
theorem dX11_goesOn_57 : decode cX11_goesOn 57 = .ok (.return_, 1) := by decide +kernel
theorem dX11_groupBy_0 : decode cX11_groupBy 0 = .ok (.iconst 0, 1) := by decide +kernel
theorem dX11_groupBy_1 : decode cX11_groupBy 1 = .ok (.istore 4, 2) := by decide +kernel
theorem dX11_groupBy_3 : decode cX11_groupBy 3 = .ok (.iconst 0, 1) := by decide +kernel
theorem dX11_groupBy_4 : decode cX11_groupBy 4 = .ok (.istore 5, 2) := by decide +kernel
theorem dX11_groupBy_6 : decode cX11_groupBy 6 = .ok (.iload 5, 2) := by decide +kernel
theorem dX11_groupBy_8 : decode cX11_groupBy 8 = .ok (.bipush 32, 2) := by decide +kernel
theorem dX11_groupBy_10 : decode cX11_groupBy 10 = .ok (.if_icmp .ge 47, 3) := by decide +kernel
theorem dX11_groupBy_13 : decode cX11_groupBy 13 = .ok (.iload 4, 2) := by decide +kernel
theorem dX11_groupBy_15 : decode cX11_groupBy 15 = .ok (.iload_n 2, 1) := by decide +kernel
theorem dX11_groupBy_16 : decode cX11_groupBy 16 = .ok (.iload 5, 2) := by decide +kernel
theorem dX11_groupBy_18 : decode cX11_groupBy 18 = .ok (.invokestatic 119, 3) := by decide +kernel
theorem dX11_groupBy_21 : decode cX11_groupBy 21 = .ok (.ifCond .eq 26, 3) := by decide +kernel
theorem dX11_groupBy_24 : decode cX11_groupBy 24 = .ok (.aload_n 0, 1) := by decide +kernel
theorem dX11_groupBy_25 : decode cX11_groupBy 25 = .ok (.getfield 38, 3) := by decide +kernel
theorem dX11_groupBy_28 : decode cX11_groupBy 28 = .ok (.bipush 32, 2) := by decide +kernel
theorem dX11_groupBy_30 : decode cX11_groupBy 30 = .ok (.iload_n 1, 1) := by decide +kernel
theorem dX11_groupBy_31 : decode cX11_groupBy 31 = .ok (.imul, 1) := by decide +kernel
theorem dX11_groupBy_32 : decode cX11_groupBy 32 = .ok (.iload 5, 2) := by decide +kernel
theorem dX11_groupBy_34 : decode cX11_groupBy 34 = .ok (.iadd, 1) := by decide +kernel
theorem dX11_groupBy_35 : decode cX11_groupBy 35 = .ok (.iaload, 1) := by decide +kernel
theorem dX11_groupBy_36 : decode cX11_groupBy 36 = .ok (.iload_n 3, 1) := by decide +kernel
theorem dX11_groupBy_37 : decode cX11_groupBy 37 = .ok (.if_icmp .ne 10, 3) := by decide +kernel
theorem dX11_groupBy_40 : decode cX11_groupBy 40 = .ok (.iconst 1, 1) := by decide +kernel
theorem dX11_groupBy_41 : decode cX11_groupBy 41 = .ok (.iload 5, 2) := by decide +kernel
theorem dX11_groupBy_43 : decode cX11_groupBy 43 = .ok (.ishl, 1) := by decide +kernel
theorem dX11_groupBy_44 : decode cX11_groupBy 44 = .ok (.goto 4, 3) := by decide +kernel
theorem dX11_groupBy_47 : decode cX11_groupBy 47 = .ok (.iconst 0, 1) := by decide +kernel
theorem dX11_groupBy_48 : decode cX11_groupBy 48 = .ok (.ior, 1) := by decide +kernel
theorem dX11_groupBy_49 : decode cX11_groupBy 49 = .ok (.istore 4, 2) := by decide +kernel
theorem dX11_groupBy_51 : decode cX11_groupBy 51 = .ok (.iinc 5 1, 3) := by decide +kernel
theorem dX11_groupBy_54 : decode cX11_groupBy 54 = .ok (.goto (-48), 3) := by decide +kernel
theorem dX11_groupBy_57 : decode cX11_groupBy 57 = .ok (.iload 4, 2) := by decide +kernel
theorem dX11_groupBy_59 : decode cX11_groupBy 59 = .ok (.ireturn, 1) := by decide +kernel
theorem dX11_weightOf_0 : decode cX11_weightOf 0 = .ok (.lconst 0, 1) := by decide +kernel
theorem dX11_weightOf_1 : decode cX11_weightOf 1 = .ok (.lstore_n 2, 1) := by decide +kernel
theorem dX11_weightOf_2 : decode cX11_weightOf 2 = .ok (.iconst 0, 1) := by decide +kernel
theorem dX11_weightOf_3 : decode cX11_weightOf 3 = .ok (.istore 4, 2) := by decide +kernel
theorem dX11_weightOf_5 : decode cX11_weightOf 5 = .ok (.iload 4, 2) := by decide +kernel
theorem dX11_weightOf_7 : decode cX11_weightOf 7 = .ok (.bipush 32, 2) := by decide +kernel
theorem dX11_weightOf_9 : decode cX11_weightOf 9 = .ok (.if_icmp .ge 32, 3) := by decide +kernel
theorem dX11_weightOf_12 : decode cX11_weightOf 12 = .ok (.lload_n 2, 1) := by decide +kernel
theorem dX11_weightOf_13 : decode cX11_weightOf 13 = .ok (.iload_n 1, 1) := by decide +kernel
theorem dX11_weightOf_14 : decode cX11_weightOf 14 = .ok (.iload 4, 2) := by decide +kernel
theorem dX11_weightOf_16 : decode cX11_weightOf 16 = .ok (.invokestatic 119, 3) := by decide +kernel
theorem dX11_weightOf_19 : decode cX11_weightOf 19 = .ok (.ifCond .eq 13, 3) := by decide +kernel
theorem dX11_weightOf_22 : decode cX11_weightOf 22 = .ok (.aload_n 0, 1) := by decide +kernel
theorem dX11_weightOf_23 : decode cX11_weightOf 23 = .ok (.getfield 34, 3) := by decide +kernel
theorem dX11_weightOf_26 : decode cX11_weightOf 26 = .ok (.iload 4, 2) := by decide +kernel
theorem dX11_weightOf_28 : decode cX11_weightOf 28 = .ok (.laload, 1) := by decide +kernel
theorem dX11_weightOf_29 : decode cX11_weightOf 29 = .ok (.goto 4, 3) := by decide +kernel
theorem dX11_weightOf_32 : decode cX11_weightOf 32 = .ok (.lconst 0, 1) := by decide +kernel
theorem dX11_weightOf_33 : decode cX11_weightOf 33 = .ok (.ladd, 1) := by decide +kernel
theorem dX11_weightOf_34 : decode cX11_weightOf 34 = .ok (.lstore_n 2, 1) := by decide +kernel
theorem dX11_weightOf_35 : decode cX11_weightOf 35 = .ok (.iinc 4 1, 3) := by decide +kernel
theorem dX11_weightOf_38 : decode cX11_weightOf 38 = .ok (.goto (-33), 3) := by decide +kernel
theorem dX11_weightOf_41 : decode cX11_weightOf 41 = .ok (.lload_n 2, 1) := by decide +kernel
theorem dX11_weightOf_42 : decode cX11_weightOf 42 = .ok (.lreturn, 1) := by decide +kernel
theorem dX11_those_0 : decode cX11_those 0 = .ok (.iconst 0, 1) := by decide +kernel
theorem dX11_those_1 : decode cX11_those 1 = .ok (.istore_n 1, 1) := by decide +kernel
theorem dX11_those_2 : decode cX11_those 2 = .ok (.iconst 0, 1) := by decide +kernel
theorem dX11_those_3 : decode cX11_those 3 = .ok (.istore_n 2, 1) := by decide +kernel
theorem dX11_those_4 : decode cX11_those 4 = .ok (.iload_n 2, 1) := by decide +kernel
theorem dX11_those_5 : decode cX11_those 5 = .ok (.bipush 32, 2) := by decide +kernel
theorem dX11_those_7 : decode cX11_those 7 = .ok (.if_icmp .ge 30, 3) := by decide +kernel
theorem dX11_those_10 : decode cX11_those 10 = .ok (.iload_n 1, 1) := by decide +kernel
theorem dX11_those_11 : decode cX11_those 11 = .ok (.aload_n 0, 1) := by decide +kernel
theorem dX11_those_12 : decode cX11_those 12 = .ok (.getfield 34, 3) := by decide +kernel
theorem dX11_those_15 : decode cX11_those 15 = .ok (.iload_n 2, 1) := by decide +kernel
theorem dX11_those_16 : decode cX11_those 16 = .ok (.laload, 1) := by decide +kernel
theorem dX11_those_17 : decode cX11_those 17 = .ok (.lconst 0, 1) := by decide +kernel
theorem dX11_those_18 : decode cX11_those 18 = .ok (.lcmp, 1) := by decide +kernel
theorem dX11_those_19 : decode cX11_those 19 = .ok (.ifCond .le 9, 3) := by decide +kernel
theorem dX11_those_22 : decode cX11_those 22 = .ok (.iconst 1, 1) := by decide +kernel
theorem dX11_those_23 : decode cX11_those 23 = .ok (.iload_n 2, 1) := by decide +kernel
theorem dX11_those_24 : decode cX11_those 24 = .ok (.ishl, 1) := by decide +kernel
theorem dX11_those_25 : decode cX11_those 25 = .ok (.goto 4, 3) := by decide +kernel
theorem dX11_those_28 : decode cX11_those 28 = .ok (.iconst 0, 1) := by decide +kernel
theorem dX11_those_29 : decode cX11_those 29 = .ok (.ior, 1) := by decide +kernel
theorem dX11_those_30 : decode cX11_those 30 = .ok (.istore_n 1, 1) := by decide +kernel
theorem dX11_those_31 : decode cX11_those 31 = .ok (.iinc 2 1, 3) := by decide +kernel
theorem dX11_those_34 : decode cX11_those 34 = .ok (.goto (-30), 3) := by decide +kernel
theorem dX11_those_37 : decode cX11_those 37 = .ok (.iload_n 1, 1) := by decide +kernel
theorem dX11_those_38 : decode cX11_those 38 = .ok (.ireturn, 1) := by decide +kernel
theorem dX11_chanceNow_0 : decode cX11_chanceNow 0 = .ok (.aload_n 0, 1) := by decide +kernel
theorem dX11_chanceNow_1 : decode cX11_chanceNow 1 = .ok (.invokevirtual 151, 3) := by decide +kernel
theorem dX11_chanceNow_4 : decode cX11_chanceNow 4 = .ok (.aload_n 0, 1) := by decide +kernel
theorem dX11_chanceNow_5 : decode cX11_chanceNow 5 = .ok (.getfield 135, 3) := by decide +kernel
theorem dX11_chanceNow_8 : decode cX11_chanceNow 8 = .ok (.lconst 0, 1) := by decide +kernel
theorem dX11_chanceNow_9 : decode cX11_chanceNow 9 = .ok (.lcmp, 1) := by decide +kernel
theorem dX11_chanceNow_10 : decode cX11_chanceNow 10 = .ok (.ifCond .ne 9, 3) := by decide +kernel
theorem dX11_chanceNow_13 : decode cX11_chanceNow 13 = .ok (.bipush (-3), 2) := by decide +kernel
theorem dX11_chanceNow_15 : decode cX11_chanceNow 15 = .ok (.invokestatic 160, 3) := by decide +kernel
theorem dX11_chanceNow_18 : decode cX11_chanceNow 18 = .ok (.lreturn, 1) := by decide +kernel
theorem dX11_chanceNow_19 : decode cX11_chanceNow 19 = .ok (.aload_n 0, 1) := by decide +kernel
theorem dX11_chanceNow_20 : decode cX11_chanceNow 20 = .ok (.iconst 0, 1) := by decide +kernel
theorem dX11_chanceNow_21 : decode cX11_chanceNow 21 = .ok (.aload_n 0, 1) := by decide +kernel
theorem dX11_chanceNow_22 : decode cX11_chanceNow 22 = .ok (.invokevirtual 178, 3) := by decide +kernel
theorem dX11_chanceNow_25 : decode cX11_chanceNow 25 = .ok (.iload_n 1, 1) := by decide +kernel
theorem dX11_chanceNow_26 : decode cX11_chanceNow 26 = .ok (.invokevirtual 181, 3) := by decide +kernel
theorem dX11_chanceNow_29 : decode cX11_chanceNow 29 = .ok (.aload_n 0, 1) := by decide +kernel
theorem dX11_chanceNow_30 : decode cX11_chanceNow 30 = .ok (.aload_n 0, 1) := by decide +kernel
theorem dX11_chanceNow_31 : decode cX11_chanceNow 31 = .ok (.iconst 0, 1) := by decide +kernel
theorem dX11_chanceNow_32 : decode cX11_chanceNow 32 = .ok (.aload_n 0, 1) := by decide +kernel
theorem dX11_chanceNow_33 : decode cX11_chanceNow 33 = .ok (.invokevirtual 178, 3) := by decide +kernel
theorem dX11_chanceNow_36 : decode cX11_chanceNow 36 = .ok (.iload_n 2, 1) := by decide +kernel
theorem dX11_chanceNow_37 : decode cX11_chanceNow 37 = .ok (.invokevirtual 184, 3) := by decide +kernel
theorem dX11_chanceNow_40 : decode cX11_chanceNow 40 = .ok (.invokevirtual 187, 3) := by decide +kernel
theorem dX11_chanceNow_43 : decode cX11_chanceNow 43 = .ok (.aload_n 0, 1) := by decide +kernel
theorem dX11_chanceNow_44 : decode cX11_chanceNow 44 = .ok (.getfield 135, 3) := by decide +kernel
theorem dX11_chanceNow_47 : decode cX11_chanceNow 47 = .ok (.iload_n 3, 1) := by decide +kernel
theorem dX11_chanceNow_48 : decode cX11_chanceNow 48 = .ok (.invokestatic 163, 3) := by decide +kernel
theorem dX11_chanceNow_51 : decode cX11_chanceNow 51 = .ok (.lreturn, 1) := by decide +kernel
theorem dX11_chance_0 : decode cX11_chance 0 = .ok (.iload_n 1, 1) := by decide +kernel
theorem dX11_chance_1 : decode cX11_chance 1 = .ok (.iconst 0, 1) := by decide +kernel
theorem dX11_chance_2 : decode cX11_chance 2 = .ok (.bipush 9, 2) := by decide +kernel
theorem dX11_chance_4 : decode cX11_chance 4 = .ok (.invokestatic 68, 3) := by decide +kernel
theorem dX11_chance_7 : decode cX11_chance 7 = .ok (.ifCond .eq 32, 3) := by decide +kernel
theorem dX11_chance_10 : decode cX11_chance 10 = .ok (.iload_n 2, 1) := by decide +kernel
theorem dX11_chance_11 : decode cX11_chance 11 = .ok (.iconst 0, 1) := by decide +kernel
theorem dX11_chance_12 : decode cX11_chance 12 = .ok (.bipush 6, 2) := by decide +kernel
theorem dX11_chance_14 : decode cX11_chance 14 = .ok (.invokestatic 68, 3) := by decide +kernel
theorem dX11_chance_17 : decode cX11_chance 17 = .ok (.ifCond .eq 22, 3) := by decide +kernel
theorem dX11_chance_20 : decode cX11_chance 20 = .ok (.iload_n 3, 1) := by decide +kernel
theorem dX11_chance_21 : decode cX11_chance 21 = .ok (.iconst 0, 1) := by decide +kernel
theorem dX11_chance_22 : decode cX11_chance 22 = .ok (.iconst 1, 1) := by decide +kernel
theorem dX11_chance_23 : decode cX11_chance 23 = .ok (.invokestatic 68, 3) := by decide +kernel
theorem dX11_chance_26 : decode cX11_chance 26 = .ok (.ifCond .eq 13, 3) := by decide +kernel
theorem dX11_chance_29 : decode cX11_chance 29 = .ok (.aload_n 0, 1) := by decide +kernel
theorem dX11_chance_30 : decode cX11_chance 30 = .ok (.iload_n 1, 1) := by decide +kernel
theorem dX11_chance_31 : decode cX11_chance 31 = .ok (.iload_n 2, 1) := by decide +kernel
theorem dX11_chance_32 : decode cX11_chance 32 = .ok (.iload_n 3, 1) := by decide +kernel
theorem dX11_chance_33 : decode cX11_chance 33 = .ok (.invokevirtual 190, 3) := by decide +kernel
theorem dX11_chance_36 : decode cX11_chance 36 = .ok (.goto 8, 3) := by decide +kernel
theorem dX11_chance_39 : decode cX11_chance 39 = .ok (.bipush (-2), 2) := by decide +kernel
theorem dX11_chance_41 : decode cX11_chance 41 = .ok (.invokestatic 160, 3) := by decide +kernel
theorem dX11_chance_44 : decode cX11_chance 44 = .ok (.lreturn, 1) := by decide +kernel
theorem dX11_partsNow_0 : decode cX11_partsNow 0 = .ok (.aload_n 0, 1) := by decide +kernel
theorem dX11_partsNow_1 : decode cX11_partsNow 1 = .ok (.invokevirtual 151, 3) := by decide +kernel
theorem dX11_partsNow_4 : decode cX11_partsNow 4 = .ok (.aload_n 0, 1) := by decide +kernel
theorem dX11_partsNow_5 : decode cX11_partsNow 5 = .ok (.getfield 135, 3) := by decide +kernel
theorem dX11_partsNow_8 : decode cX11_partsNow 8 = .ok (.lconst 0, 1) := by decide +kernel
theorem dX11_partsNow_9 : decode cX11_partsNow 9 = .ok (.lcmp, 1) := by decide +kernel
theorem dX11_partsNow_10 : decode cX11_partsNow 10 = .ok (.ifCond .ne 6, 3) := by decide +kernel
theorem dX11_partsNow_13 : decode cX11_partsNow 13 = .ok (.bipush (-3), 2) := by decide +kernel
theorem dX11_partsNow_15 : decode cX11_partsNow 15 = .ok (.ireturn, 1) := by decide +kernel
theorem dX11_partsNow_16 : decode cX11_partsNow 16 = .ok (.aload_n 0, 1) := by decide +kernel
theorem dX11_partsNow_17 : decode cX11_partsNow 17 = .ok (.iconst 0, 1) := by decide +kernel
theorem dX11_partsNow_18 : decode cX11_partsNow 18 = .ok (.aload_n 0, 1) := by decide +kernel
theorem dX11_partsNow_19 : decode cX11_partsNow 19 = .ok (.invokevirtual 178, 3) := by decide +kernel
theorem dX11_partsNow_22 : decode cX11_partsNow 22 = .ok (.iload_n 1, 1) := by decide +kernel
theorem dX11_partsNow_23 : decode cX11_partsNow 23 = .ok (.invokevirtual 181, 3) := by decide +kernel
theorem dX11_partsNow_26 : decode cX11_partsNow 26 = .ok (.iconst 0, 1) := by decide +kernel
theorem dX11_partsNow_27 : decode cX11_partsNow 27 = .ok (.istore_n 2, 1) := by decide +kernel
theorem dX11_partsNow_28 : decode cX11_partsNow 28 = .ok (.iconst 0, 1) := by decide +kernel
theorem dX11_partsNow_29 : decode cX11_partsNow 29 = .ok (.istore_n 3, 1) := by decide +kernel
theorem dX11_partsNow_30 : decode cX11_partsNow 30 = .ok (.iload_n 3, 1) := by decide +kernel
theorem dX11_partsNow_31 : decode cX11_partsNow 31 = .ok (.bipush 7, 2) := by decide +kernel
theorem dX11_partsNow_33 : decode cX11_partsNow 33 = .ok (.if_icmp .ge 30, 3) := by decide +kernel
theorem dX11_partsNow_36 : decode cX11_partsNow 36 = .ok (.iload_n 2, 1) := by decide +kernel
theorem dX11_partsNow_37 : decode cX11_partsNow 37 = .ok (.aload_n 0, 1) := by decide +kernel
theorem dX11_partsNow_38 : decode cX11_partsNow 38 = .ok (.iconst 0, 1) := by decide +kernel
theorem dX11_partsNow_39 : decode cX11_partsNow 39 = .ok (.aload_n 0, 1) := by decide +kernel
theorem dX11_partsNow_40 : decode cX11_partsNow 40 = .ok (.invokevirtual 178, 3) := by decide +kernel
theorem dX11_partsNow_43 : decode cX11_partsNow 43 = .ok (.iload_n 3, 1) := by decide +kernel
theorem dX11_partsNow_44 : decode cX11_partsNow 44 = .ok (.invokevirtual 184, 3) := by decide +kernel
theorem dX11_partsNow_47 : decode cX11_partsNow 47 = .ok (.ifCond .eq 7, 3) := by decide +kernel
theorem dX11_partsNow_50 : decode cX11_partsNow 50 = .ok (.iconst 1, 1) := by decide +kernel
theorem dX11_partsNow_51 : decode cX11_partsNow 51 = .ok (.goto 4, 3) := by decide +kernel
theorem dX11_partsNow_54 : decode cX11_partsNow 54 = .ok (.iconst 0, 1) := by decide +kernel
theorem dX11_partsNow_55 : decode cX11_partsNow 55 = .ok (.iadd, 1) := by decide +kernel
theorem dX11_partsNow_56 : decode cX11_partsNow 56 = .ok (.istore_n 2, 1) := by decide +kernel
theorem dX11_partsNow_57 : decode cX11_partsNow 57 = .ok (.iinc 3 1, 3) := by decide +kernel
theorem dX11_partsNow_60 : decode cX11_partsNow 60 = .ok (.goto (-30), 3) := by decide +kernel
theorem dX11_partsNow_63 : decode cX11_partsNow 63 = .ok (.iload_n 2, 1) := by decide +kernel
theorem dX11_partsNow_64 : decode cX11_partsNow 64 = .ok (.ireturn, 1) := by decide +kernel
theorem dX11_parts_0 : decode cX11_parts 0 = .ok (.iload_n 1, 1) := by decide +kernel
theorem dX11_parts_1 : decode cX11_parts 1 = .ok (.iconst 0, 1) := by decide +kernel
theorem dX11_parts_2 : decode cX11_parts 2 = .ok (.bipush 9, 2) := by decide +kernel
theorem dX11_parts_4 : decode cX11_parts 4 = .ok (.invokestatic 68, 3) := by decide +kernel
theorem dX11_parts_7 : decode cX11_parts 7 = .ok (.ifCond .eq 11, 3) := by decide +kernel
theorem dX11_parts_10 : decode cX11_parts 10 = .ok (.aload_n 0, 1) := by decide +kernel
theorem dX11_parts_11 : decode cX11_parts 11 = .ok (.iload_n 1, 1) := by decide +kernel
theorem dX11_parts_12 : decode cX11_parts 12 = .ok (.invokevirtual 194, 3) := by decide +kernel
theorem dX11_parts_15 : decode cX11_parts 15 = .ok (.goto 5, 3) := by decide +kernel
theorem dX11_parts_18 : decode cX11_parts 18 = .ok (.bipush (-2), 2) := by decide +kernel
theorem dX11_parts_20 : decode cX11_parts 20 = .ok (.ireturn, 1) := by decide +kernel
theorem dX11_sure_0 : decode cX11_sure 0 = .ok (.iload_n 1, 1) := by decide +kernel
theorem dX11_sure_1 : decode cX11_sure 1 = .ok (.iconst 0, 1) := by decide +kernel
theorem dX11_sure_2 : decode cX11_sure 2 = .ok (.bipush 9, 2) := by decide +kernel
theorem dX11_sure_4 : decode cX11_sure 4 = .ok (.invokestatic 68, 3) := by decide +kernel
theorem dX11_sure_7 : decode cX11_sure 7 = .ok (.ifCond .eq 12, 3) := by decide +kernel
theorem dX11_sure_10 : decode cX11_sure 10 = .ok (.iload_n 2, 1) := by decide +kernel
theorem dX11_sure_11 : decode cX11_sure 11 = .ok (.iconst 0, 1) := by decide +kernel
theorem dX11_sure_12 : decode cX11_sure 12 = .ok (.iconst 1, 1) := by decide +kernel
theorem dX11_sure_13 : decode cX11_sure 13 = .ok (.invokestatic 68, 3) := by decide +kernel
theorem dX11_sure_16 : decode cX11_sure 16 = .ok (.ifCond .ne 9, 3) := by decide +kernel
theorem dX11_sure_19 : decode cX11_sure 19 = .ok (.bipush (-2), 2) := by decide +kernel
theorem dX11_sure_21 : decode cX11_sure 21 = .ok (.invokestatic 160, 3) := by decide +kernel
theorem dX11_sure_24 : decode cX11_sure 24 = .ok (.lreturn, 1) := by decide +kernel
theorem dX11_sure_25 : decode cX11_sure 25 = .ok (.aload_n 0, 1) := by decide +kernel
theorem dX11_sure_26 : decode cX11_sure 26 = .ok (.invokevirtual 151, 3) := by decide +kernel
theorem dX11_sure_29 : decode cX11_sure 29 = .ok (.aload_n 0, 1) := by decide +kernel
theorem dX11_sure_30 : decode cX11_sure 30 = .ok (.getfield 135, 3) := by decide +kernel
theorem dX11_sure_33 : decode cX11_sure 33 = .ok (.lconst 0, 1) := by decide +kernel
theorem dX11_sure_34 : decode cX11_sure 34 = .ok (.lcmp, 1) := by decide +kernel
theorem dX11_sure_35 : decode cX11_sure 35 = .ok (.ifCond .ne 9, 3) := by decide +kernel
theorem dX11_sure_38 : decode cX11_sure 38 = .ok (.bipush (-3), 2) := by decide +kernel
theorem dX11_sure_40 : decode cX11_sure 40 = .ok (.invokestatic 160, 3) := by decide +kernel
theorem dX11_sure_43 : decode cX11_sure 43 = .ok (.lreturn, 1) := by decide +kernel
theorem dX11_sure_44 : decode cX11_sure 44 = .ok (.aload_n 0, 1) := by decide +kernel
theorem dX11_sure_45 : decode cX11_sure 45 = .ok (.iconst 0, 1) := by decide +kernel
theorem dX11_sure_46 : decode cX11_sure 46 = .ok (.aload_n 0, 1) := by decide +kernel
theorem dX11_sure_47 : decode cX11_sure 47 = .ok (.invokevirtual 178, 3) := by decide +kernel
theorem dX11_sure_50 : decode cX11_sure 50 = .ok (.iload_n 1, 1) := by decide +kernel
theorem dX11_sure_51 : decode cX11_sure 51 = .ok (.invokevirtual 181, 3) := by decide +kernel
theorem dX11_sure_54 : decode cX11_sure 54 = .ok (.lconst 0, 1) := by decide +kernel
theorem dX11_sure_55 : decode cX11_sure 55 = .ok (.lstore_n 3, 1) := by decide +kernel
theorem dX11_sure_56 : decode cX11_sure 56 = .ok (.iconst 0, 1) := by decide +kernel
theorem dX11_sure_57 : decode cX11_sure 57 = .ok (.istore 5, 2) := by decide +kernel
theorem dX11_sure_59 : decode cX11_sure 59 = .ok (.iload 5, 2) := by decide +kernel
theorem dX11_sure_61 : decode cX11_sure 61 = .ok (.bipush 7, 2) := by decide +kernel
theorem dX11_sure_63 : decode cX11_sure 63 = .ok (.if_icmp .ge 83, 3) := by decide +kernel
theorem dX11_sure_66 : decode cX11_sure 66 = .ok (.aload_n 0, 1) := by decide +kernel
theorem dX11_sure_67 : decode cX11_sure 67 = .ok (.iconst 0, 1) := by decide +kernel
theorem dX11_sure_68 : decode cX11_sure 68 = .ok (.aload_n 0, 1) := by decide +kernel
theorem dX11_sure_69 : decode cX11_sure 69 = .ok (.invokevirtual 178, 3) := by decide +kernel
theorem dX11_sure_72 : decode cX11_sure 72 = .ok (.iload 5, 2) := by decide +kernel
theorem dX11_sure_74 : decode cX11_sure 74 = .ok (.invokevirtual 184, 3) := by decide +kernel
theorem dX11_sure_77 : decode cX11_sure 77 = .ok (.istore 6, 2) := by decide +kernel
theorem dX11_sure_79 : decode cX11_sure 79 = .ok (.lconst 0, 1) := by decide +kernel
theorem dX11_sure_80 : decode cX11_sure 80 = .ok (.lstore 7, 2) := by decide +kernel
theorem dX11_sure_82 : decode cX11_sure 82 = .ok (.iconst 0, 1) := by decide +kernel
theorem dX11_sure_83 : decode cX11_sure 83 = .ok (.istore 9, 2) := by decide +kernel
theorem dX11_sure_85 : decode cX11_sure 85 = .ok (.iload 9, 2) := by decide +kernel
theorem dX11_sure_87 : decode cX11_sure 87 = .ok (.bipush 32, 2) := by decide +kernel
theorem dX11_sure_89 : decode cX11_sure 89 = .ok (.if_icmp .ge 46, 3) := by decide +kernel
theorem dX11_sure_92 : decode cX11_sure 92 = .ok (.iload 6, 2) := by decide +kernel
theorem dX11_sure_94 : decode cX11_sure 94 = .ok (.iload 9, 2) := by decide +kernel
theorem dX11_sure_96 : decode cX11_sure 96 = .ok (.invokestatic 119, 3) := by decide +kernel
theorem dX11_sure_99 : decode cX11_sure 99 = .ok (.ifCond .eq 26, 3) := by decide +kernel
theorem dX11_sure_102 : decode cX11_sure 102 = .ok (.aload_n 0, 1) := by decide +kernel
theorem dX11_sure_103 : decode cX11_sure 103 = .ok (.getfield 34, 3) := by decide +kernel
theorem dX11_sure_106 : decode cX11_sure 106 = .ok (.iload 9, 2) := by decide +kernel
theorem dX11_sure_108 : decode cX11_sure 108 = .ok (.laload, 1) := by decide +kernel
theorem dX11_sure_109 : decode cX11_sure 109 = .ok (.lload 7, 2) := by decide +kernel
theorem dX11_sure_111 : decode cX11_sure 111 = .ok (.lcmp, 1) := by decide +kernel
theorem dX11_sure_112 : decode cX11_sure 112 = .ok (.ifCond .le 13, 3) := by decide +kernel
theorem dX11_sure_115 : decode cX11_sure 115 = .ok (.aload_n 0, 1) := by decide +kernel
theorem dX11_sure_116 : decode cX11_sure 116 = .ok (.getfield 34, 3) := by decide +kernel
theorem dX11_sure_119 : decode cX11_sure 119 = .ok (.iload 9, 2) := by decide +kernel
theorem dX11_sure_121 : decode cX11_sure 121 = .ok (.laload, 1) := by decide +kernel
theorem dX11_sure_122 : decode cX11_sure 122 = .ok (.goto 5, 3) := by decide +kernel
theorem dX11_sure_125 : decode cX11_sure 125 = .ok (.lload 7, 2) := by decide +kernel
theorem dX11_sure_127 : decode cX11_sure 127 = .ok (.lstore 7, 2) := by decide +kernel
theorem dX11_sure_129 : decode cX11_sure 129 = .ok (.iinc 9 1, 3) := by decide +kernel
theorem dX11_sure_132 : decode cX11_sure 132 = .ok (.goto (-47), 3) := by decide +kernel
theorem dX11_sure_135 : decode cX11_sure 135 = .ok (.lload_n 3, 1) := by decide +kernel
theorem dX11_sure_136 : decode cX11_sure 136 = .ok (.lload 7, 2) := by decide +kernel
theorem dX11_sure_138 : decode cX11_sure 138 = .ok (.ladd, 1) := by decide +kernel
theorem dX11_sure_139 : decode cX11_sure 139 = .ok (.lstore_n 3, 1) := by decide +kernel
theorem dX11_sure_140 : decode cX11_sure 140 = .ok (.iinc 5 1, 3) := by decide +kernel
theorem dX11_sure_143 : decode cX11_sure 143 = .ok (.goto (-84), 3) := by decide +kernel
theorem dX11_sure_146 : decode cX11_sure 146 = .ok (.lload_n 3, 1) := by decide +kernel
theorem dX11_sure_147 : decode cX11_sure 147 = .ok (.aload_n 0, 1) := by decide +kernel
theorem dX11_sure_148 : decode cX11_sure 148 = .ok (.getfield 135, 3) := by decide +kernel
theorem dX11_sure_151 : decode cX11_sure 151 = .ok (.iload_n 2, 1) := by decide +kernel
theorem dX11_sure_152 : decode cX11_sure 152 = .ok (.invokestatic 163, 3) := by decide +kernel
theorem dX11_sure_155 : decode cX11_sure 155 = .ok (.lreturn, 1) := by decide +kernel
theorem dX11_inOne_0 : decode cX11_inOne 0 = .ok (.lconst 0, 1) := by decide +kernel
theorem dX11_inOne_1 : decode cX11_inOne 1 = .ok (.lstore_n 3, 1) := by decide +kernel
theorem dX11_inOne_2 : decode cX11_inOne 2 = .ok (.iconst 0, 1) := by decide +kernel
theorem dX11_inOne_3 : decode cX11_inOne 3 = .ok (.istore 5, 2) := by decide +kernel
theorem dX11_inOne_5 : decode cX11_inOne 5 = .ok (.iload 5, 2) := by decide +kernel
theorem dX11_inOne_7 : decode cX11_inOne 7 = .ok (.bipush 10, 2) := by decide +kernel
theorem dX11_inOne_9 : decode cX11_inOne 9 = .ok (.if_icmp .ge 44, 3) := by decide +kernel
theorem dX11_inOne_12 : decode cX11_inOne 12 = .ok (.aload_n 0, 1) := by decide +kernel
theorem dX11_inOne_13 : decode cX11_inOne 13 = .ok (.iload_n 1, 1) := by decide +kernel
theorem dX11_inOne_14 : decode cX11_inOne 14 = .ok (.iload_n 2, 1) := by decide +kernel
theorem dX11_inOne_15 : decode cX11_inOne 15 = .ok (.iload 5, 2) := by decide +kernel
theorem dX11_inOne_17 : decode cX11_inOne 17 = .ok (.invokevirtual 181, 3) := by decide +kernel
theorem dX11_inOne_20 : decode cX11_inOne 20 = .ok (.aload_n 0, 1) := by decide +kernel
theorem dX11_inOne_21 : decode cX11_inOne 21 = .ok (.aload_n 0, 1) := by decide +kernel
theorem dX11_inOne_22 : decode cX11_inOne 22 = .ok (.iload_n 1, 1) := by decide +kernel
theorem dX11_inOne_23 : decode cX11_inOne 23 = .ok (.iload_n 2, 1) := by decide +kernel
theorem dX11_inOne_24 : decode cX11_inOne 24 = .ok (.iconst 2, 1) := by decide +kernel
theorem dX11_inOne_25 : decode cX11_inOne 25 = .ok (.invokevirtual 184, 3) := by decide +kernel
theorem dX11_inOne_28 : decode cX11_inOne 28 = .ok (.invokevirtual 187, 3) := by decide +kernel
theorem dX11_inOne_31 : decode cX11_inOne 31 = .ok (.lstore 6, 2) := by decide +kernel
theorem dX11_inOne_33 : decode cX11_inOne 33 = .ok (.lload 6, 2) := by decide +kernel
theorem dX11_inOne_35 : decode cX11_inOne 35 = .ok (.lload_n 3, 1) := by decide +kernel
theorem dX11_inOne_36 : decode cX11_inOne 36 = .ok (.lcmp, 1) := by decide +kernel
theorem dX11_inOne_37 : decode cX11_inOne 37 = .ok (.ifCond .le 8, 3) := by decide +kernel
theorem dX11_inOne_40 : decode cX11_inOne 40 = .ok (.lload 6, 2) := by decide +kernel
theorem dX11_inOne_42 : decode cX11_inOne 42 = .ok (.goto 4, 3) := by decide +kernel
theorem dX11_inOne_45 : decode cX11_inOne 45 = .ok (.lload_n 3, 1) := by decide +kernel
theorem dX11_inOne_46 : decode cX11_inOne 46 = .ok (.lstore_n 3, 1) := by decide +kernel
theorem dX11_inOne_47 : decode cX11_inOne 47 = .ok (.iinc 5 1, 3) := by decide +kernel
theorem dX11_inOne_50 : decode cX11_inOne 50 = .ok (.goto (-45), 3) := by decide +kernel
theorem dX11_inOne_53 : decode cX11_inOne 53 = .ok (.lload_n 3, 1) := by decide +kernel
theorem dX11_inOne_54 : decode cX11_inOne 54 = .ok (.lreturn, 1) := by decide +kernel
theorem dX11_inTwo_0 : decode cX11_inTwo 0 = .ok (.lconst 0, 1) := by decide +kernel
theorem dX11_inTwo_1 : decode cX11_inTwo 1 = .ok (.lstore_n 3, 1) := by decide +kernel
theorem dX11_inTwo_2 : decode cX11_inTwo 2 = .ok (.iconst 0, 1) := by decide +kernel
theorem dX11_inTwo_3 : decode cX11_inTwo 3 = .ok (.istore 5, 2) := by decide +kernel
theorem dX11_inTwo_5 : decode cX11_inTwo 5 = .ok (.iload 5, 2) := by decide +kernel
theorem dX11_inTwo_7 : decode cX11_inTwo 7 = .ok (.bipush 10, 2) := by decide +kernel
theorem dX11_inTwo_9 : decode cX11_inTwo 9 = .ok (.if_icmp .ge 103, 3) := by decide +kernel
theorem dX11_inTwo_12 : decode cX11_inTwo 12 = .ok (.aload_n 0, 1) := by decide +kernel
theorem dX11_inTwo_13 : decode cX11_inTwo 13 = .ok (.iload_n 1, 1) := by decide +kernel
theorem dX11_inTwo_14 : decode cX11_inTwo 14 = .ok (.iload_n 2, 1) := by decide +kernel
theorem dX11_inTwo_15 : decode cX11_inTwo 15 = .ok (.iload 5, 2) := by decide +kernel
theorem dX11_inTwo_17 : decode cX11_inTwo 17 = .ok (.invokevirtual 181, 3) := by decide +kernel
theorem dX11_inTwo_20 : decode cX11_inTwo 20 = .ok (.aload_n 0, 1) := by decide +kernel
theorem dX11_inTwo_21 : decode cX11_inTwo 21 = .ok (.aload_n 0, 1) := by decide +kernel
theorem dX11_inTwo_22 : decode cX11_inTwo 22 = .ok (.iload_n 1, 1) := by decide +kernel
theorem dX11_inTwo_23 : decode cX11_inTwo 23 = .ok (.iload_n 2, 1) := by decide +kernel
theorem dX11_inTwo_24 : decode cX11_inTwo 24 = .ok (.iconst 2, 1) := by decide +kernel
theorem dX11_inTwo_25 : decode cX11_inTwo 25 = .ok (.invokevirtual 184, 3) := by decide +kernel
theorem dX11_inTwo_28 : decode cX11_inTwo 28 = .ok (.invokevirtual 187, 3) := by decide +kernel
theorem dX11_inTwo_31 : decode cX11_inTwo 31 = .ok (.lstore 6, 2) := by decide +kernel
theorem dX11_inTwo_33 : decode cX11_inTwo 33 = .ok (.iconst 0, 1) := by decide +kernel
theorem dX11_inTwo_34 : decode cX11_inTwo 34 = .ok (.istore 8, 2) := by decide +kernel
theorem dX11_inTwo_36 : decode cX11_inTwo 36 = .ok (.iload 8, 2) := by decide +kernel
theorem dX11_inTwo_38 : decode cX11_inTwo 38 = .ok (.bipush 7, 2) := by decide +kernel
theorem dX11_inTwo_40 : decode cX11_inTwo 40 = .ok (.if_icmp .ge 52, 3) := by decide +kernel
theorem dX11_inTwo_43 : decode cX11_inTwo 43 = .ok (.iload 8, 2) := by decide +kernel
theorem dX11_inTwo_45 : decode cX11_inTwo 45 = .ok (.iconst 2, 1) := by decide +kernel
theorem dX11_inTwo_46 : decode cX11_inTwo 46 = .ok (.if_icmp .ne 7, 3) := by decide +kernel
theorem dX11_inTwo_49 : decode cX11_inTwo 49 = .ok (.iconst 0, 1) := by decide +kernel
theorem dX11_inTwo_50 : decode cX11_inTwo 50 = .ok (.goto 11, 3) := by decide +kernel
theorem dX11_inTwo_53 : decode cX11_inTwo 53 = .ok (.aload_n 0, 1) := by decide +kernel
theorem dX11_inTwo_54 : decode cX11_inTwo 54 = .ok (.iload_n 1, 1) := by decide +kernel
theorem dX11_inTwo_55 : decode cX11_inTwo 55 = .ok (.iload_n 2, 1) := by decide +kernel
theorem dX11_inTwo_56 : decode cX11_inTwo 56 = .ok (.iload 8, 2) := by decide +kernel
theorem dX11_inTwo_58 : decode cX11_inTwo 58 = .ok (.invokevirtual 184, 3) := by decide +kernel
theorem dX11_inTwo_61 : decode cX11_inTwo 61 = .ok (.istore 9, 2) := by decide +kernel
theorem dX11_inTwo_63 : decode cX11_inTwo 63 = .ok (.lload 6, 2) := by decide +kernel
theorem dX11_inTwo_65 : decode cX11_inTwo 65 = .ok (.iload 9, 2) := by decide +kernel
theorem dX11_inTwo_67 : decode cX11_inTwo 67 = .ok (.ifCond .ne 7, 3) := by decide +kernel
theorem dX11_inTwo_70 : decode cX11_inTwo 70 = .ok (.lconst 0, 1) := by decide +kernel
theorem dX11_inTwo_71 : decode cX11_inTwo 71 = .ok (.goto 12, 3) := by decide +kernel
theorem dX11_inTwo_74 : decode cX11_inTwo 74 = .ok (.aload_n 0, 1) := by decide +kernel
theorem dX11_inTwo_75 : decode cX11_inTwo 75 = .ok (.iload_n 1, 1) := by decide +kernel
theorem dX11_inTwo_76 : decode cX11_inTwo 76 = .ok (.iconst 1, 1) := by decide +kernel
theorem dX11_inTwo_77 : decode cX11_inTwo 77 = .ok (.iadd, 1) := by decide +kernel
theorem dX11_inTwo_78 : decode cX11_inTwo 78 = .ok (.iload 9, 2) := by decide +kernel
theorem dX11_inTwo_80 : decode cX11_inTwo 80 = .ok (.invokevirtual 197, 3) := by decide +kernel
theorem dX11_inTwo_83 : decode cX11_inTwo 83 = .ok (.ladd, 1) := by decide +kernel
theorem dX11_inTwo_84 : decode cX11_inTwo 84 = .ok (.lstore 6, 2) := by decide +kernel
theorem dX11_inTwo_86 : decode cX11_inTwo 86 = .ok (.iinc 8 1, 3) := by decide +kernel
theorem dX11_inTwo_89 : decode cX11_inTwo 89 = .ok (.goto (-53), 3) := by decide +kernel
theorem dX11_inTwo_92 : decode cX11_inTwo 92 = .ok (.lload 6, 2) := by decide +kernel
theorem dX11_inTwo_94 : decode cX11_inTwo 94 = .ok (.lload_n 3, 1) := by decide +kernel
theorem dX11_inTwo_95 : decode cX11_inTwo 95 = .ok (.lcmp, 1) := by decide +kernel
theorem dX11_inTwo_96 : decode cX11_inTwo 96 = .ok (.ifCond .le 8, 3) := by decide +kernel
theorem dX11_inTwo_99 : decode cX11_inTwo 99 = .ok (.lload 6, 2) := by decide +kernel
theorem dX11_inTwo_101 : decode cX11_inTwo 101 = .ok (.goto 4, 3) := by decide +kernel
theorem dX11_inTwo_104 : decode cX11_inTwo 104 = .ok (.lload_n 3, 1) := by decide +kernel
theorem dX11_inTwo_105 : decode cX11_inTwo 105 = .ok (.lstore_n 3, 1) := by decide +kernel
theorem dX11_inTwo_106 : decode cX11_inTwo 106 = .ok (.iinc 5 1, 3) := by decide +kernel
theorem dX11_inTwo_109 : decode cX11_inTwo 109 = .ok (.goto (-104), 3) := by decide +kernel
theorem dX11_inTwo_112 : decode cX11_inTwo 112 = .ok (.lload_n 3, 1) := by decide +kernel
theorem dX11_inTwo_113 : decode cX11_inTwo 113 = .ok (.lreturn, 1) := by decide +kernel
theorem dX11_bestNow_0 : decode cX11_bestNow 0 = .ok (.aload_n 0, 1) := by decide +kernel
theorem dX11_bestNow_1 : decode cX11_bestNow 1 = .ok (.invokevirtual 151, 3) := by decide +kernel
theorem dX11_bestNow_4 : decode cX11_bestNow 4 = .ok (.aload_n 0, 1) := by decide +kernel
theorem dX11_bestNow_5 : decode cX11_bestNow 5 = .ok (.getfield 135, 3) := by decide +kernel
theorem dX11_bestNow_8 : decode cX11_bestNow 8 = .ok (.lconst 0, 1) := by decide +kernel
theorem dX11_bestNow_9 : decode cX11_bestNow 9 = .ok (.lcmp, 1) := by decide +kernel
theorem dX11_bestNow_10 : decode cX11_bestNow 10 = .ok (.ifCond .ne 9, 3) := by decide +kernel
theorem dX11_bestNow_13 : decode cX11_bestNow 13 = .ok (.bipush (-3), 2) := by decide +kernel
theorem dX11_bestNow_15 : decode cX11_bestNow 15 = .ok (.invokestatic 160, 3) := by decide +kernel
theorem dX11_bestNow_18 : decode cX11_bestNow 18 = .ok (.lreturn, 1) := by decide +kernel
theorem dX11_bestNow_19 : decode cX11_bestNow 19 = .ok (.aload_n 0, 1) := by decide +kernel
theorem dX11_bestNow_20 : decode cX11_bestNow 20 = .ok (.invokevirtual 178, 3) := by decide +kernel
theorem dX11_bestNow_23 : decode cX11_bestNow 23 = .ok (.istore_n 3, 1) := by decide +kernel
theorem dX11_bestNow_24 : decode cX11_bestNow 24 = .ok (.iconst 1, 1) := by decide +kernel
theorem dX11_bestNow_25 : decode cX11_bestNow 25 = .ok (.istore 4, 2) := by decide +kernel
theorem dX11_bestNow_27 : decode cX11_bestNow 27 = .ok (.iconst 0, 1) := by decide +kernel
theorem dX11_bestNow_28 : decode cX11_bestNow 28 = .ok (.istore 5, 2) := by decide +kernel
theorem dX11_bestNow_30 : decode cX11_bestNow 30 = .ok (.iload 5, 2) := by decide +kernel
theorem dX11_bestNow_32 : decode cX11_bestNow 32 = .ok (.bipush 32, 2) := by decide +kernel
theorem dX11_bestNow_34 : decode cX11_bestNow 34 = .ok (.if_icmp .ge 47, 3) := by decide +kernel
theorem dX11_bestNow_37 : decode cX11_bestNow 37 = .ok (.iload 4, 2) := by decide +kernel
theorem dX11_bestNow_39 : decode cX11_bestNow 39 = .ok (.ifCond .eq 33, 3) := by decide +kernel
theorem dX11_bestNow_42 : decode cX11_bestNow 42 = .ok (.iload_n 3, 1) := by decide +kernel
theorem dX11_bestNow_43 : decode cX11_bestNow 43 = .ok (.iload 5, 2) := by decide +kernel
theorem dX11_bestNow_45 : decode cX11_bestNow 45 = .ok (.invokestatic 119, 3) := by decide +kernel
theorem dX11_bestNow_48 : decode cX11_bestNow 48 = .ok (.ifCond .eq 20, 3) := by decide +kernel
theorem dX11_bestNow_51 : decode cX11_bestNow 51 = .ok (.aload_n 0, 1) := by decide +kernel
theorem dX11_bestNow_52 : decode cX11_bestNow 52 = .ok (.getfield 22, 3) := by decide +kernel
theorem dX11_bestNow_55 : decode cX11_bestNow 55 = .ok (.bipush 8, 2) := by decide +kernel
theorem dX11_bestNow_57 : decode cX11_bestNow 57 = .ok (.iload 5, 2) := by decide +kernel
theorem dX11_bestNow_59 : decode cX11_bestNow 59 = .ok (.imul, 1) := by decide +kernel
theorem dX11_bestNow_60 : decode cX11_bestNow 60 = .ok (.bipush 7, 2) := by decide +kernel
theorem dX11_bestNow_62 : decode cX11_bestNow 62 = .ok (.iadd, 1) := by decide +kernel
theorem dX11_bestNow_63 : decode cX11_bestNow 63 = .ok (.iaload, 1) := by decide +kernel
theorem dX11_bestNow_64 : decode cX11_bestNow 64 = .ok (.iconst 1, 1) := by decide +kernel
theorem dX11_bestNow_65 : decode cX11_bestNow 65 = .ok (.if_icmp .ne 7, 3) := by decide +kernel
theorem dX11_bestNow_68 : decode cX11_bestNow 68 = .ok (.iconst 1, 1) := by decide +kernel
theorem dX11_bestNow_69 : decode cX11_bestNow 69 = .ok (.goto 4, 3) := by decide +kernel
theorem dX11_bestNow_72 : decode cX11_bestNow 72 = .ok (.iconst 0, 1) := by decide +kernel
theorem dX11_bestNow_73 : decode cX11_bestNow 73 = .ok (.istore 4, 2) := by decide +kernel
theorem dX11_bestNow_75 : decode cX11_bestNow 75 = .ok (.iinc 5 1, 3) := by decide +kernel
theorem dX11_bestNow_78 : decode cX11_bestNow 78 = .ok (.goto (-48), 3) := by decide +kernel
theorem dX11_bestNow_81 : decode cX11_bestNow 81 = .ok (.iconst (-1), 1) := by decide +kernel
theorem dX11_bestNow_82 : decode cX11_bestNow 82 = .ok (.istore 5, 2) := by decide +kernel
theorem dX11_bestNow_84 : decode cX11_bestNow 84 = .ok (.lconst 0, 1) := by decide +kernel
theorem dX11_bestNow_85 : decode cX11_bestNow 85 = .ok (.lstore 6, 2) := by decide +kernel
theorem dX11_bestNow_87 : decode cX11_bestNow 87 = .ok (.iconst 0, 1) := by decide +kernel
theorem dX11_bestNow_88 : decode cX11_bestNow 88 = .ok (.istore 8, 2) := by decide +kernel
theorem dX11_bestNow_90 : decode cX11_bestNow 90 = .ok (.iload 8, 2) := by decide +kernel
theorem dX11_bestNow_92 : decode cX11_bestNow 92 = .ok (.bipush 10, 2) := by decide +kernel
theorem dX11_bestNow_94 : decode cX11_bestNow 94 = .ok (.if_icmp .ge 164, 3) := by decide +kernel
theorem dX11_bestNow_97 : decode cX11_bestNow 97 = .ok (.aload_n 0, 1) := by decide +kernel
theorem dX11_bestNow_98 : decode cX11_bestNow 98 = .ok (.iconst 0, 1) := by decide +kernel
theorem dX11_bestNow_99 : decode cX11_bestNow 99 = .ok (.iload_n 3, 1) := by decide +kernel
theorem dX11_bestNow_100 : decode cX11_bestNow 100 = .ok (.iload 8, 2) := by decide +kernel
theorem dX11_bestNow_102 : decode cX11_bestNow 102 = .ok (.invokevirtual 181, 3) := by decide +kernel
theorem dX11_bestNow_105 : decode cX11_bestNow 105 = .ok (.iload 4, 2) := by decide +kernel
theorem dX11_bestNow_107 : decode cX11_bestNow 107 = .ok (.ifCond .eq 10, 3) := by decide +kernel
theorem dX11_bestNow_110 : decode cX11_bestNow 110 = .ok (.aload_n 0, 1) := by decide +kernel
theorem dX11_bestNow_111 : decode cX11_bestNow 111 = .ok (.getfield 135, 3) := by decide +kernel
theorem dX11_bestNow_114 : decode cX11_bestNow 114 = .ok (.goto 14, 3) := by decide +kernel
theorem dX11_bestNow_117 : decode cX11_bestNow 117 = .ok (.aload_n 0, 1) := by decide +kernel
theorem dX11_bestNow_118 : decode cX11_bestNow 118 = .ok (.aload_n 0, 1) := by decide +kernel
theorem dX11_bestNow_119 : decode cX11_bestNow 119 = .ok (.iconst 0, 1) := by decide +kernel
theorem dX11_bestNow_120 : decode cX11_bestNow 120 = .ok (.iload_n 3, 1) := by decide +kernel
theorem dX11_bestNow_121 : decode cX11_bestNow 121 = .ok (.iconst 2, 1) := by decide +kernel
theorem dX11_bestNow_122 : decode cX11_bestNow 122 = .ok (.invokevirtual 184, 3) := by decide +kernel
theorem dX11_bestNow_125 : decode cX11_bestNow 125 = .ok (.invokevirtual 187, 3) := by decide +kernel
theorem dX11_bestNow_128 : decode cX11_bestNow 128 = .ok (.lstore 9, 2) := by decide +kernel
theorem dX11_bestNow_130 : decode cX11_bestNow 130 = .ok (.iconst 0, 1) := by decide +kernel
theorem dX11_bestNow_131 : decode cX11_bestNow 131 = .ok (.istore 11, 2) := by decide +kernel
theorem dX11_bestNow_133 : decode cX11_bestNow 133 = .ok (.iload 11, 2) := by decide +kernel
theorem dX11_bestNow_135 : decode cX11_bestNow 135 = .ok (.bipush 7, 2) := by decide +kernel
theorem dX11_bestNow_137 : decode cX11_bestNow 137 = .ok (.if_icmp .ge 75, 3) := by decide +kernel
theorem dX11_bestNow_140 : decode cX11_bestNow 140 = .ok (.iload_n 1, 1) := by decide +kernel
theorem dX11_bestNow_141 : decode cX11_bestNow 141 = .ok (.iconst 1, 1) := by decide +kernel
theorem dX11_bestNow_142 : decode cX11_bestNow 142 = .ok (.if_icmp .le 70, 3) := by decide +kernel
theorem dX11_bestNow_145 : decode cX11_bestNow 145 = .ok (.iload 4, 2) := by decide +kernel
theorem dX11_bestNow_147 : decode cX11_bestNow 147 = .ok (.ifCond .ne 65, 3) := by decide +kernel
theorem dX11_bestNow_150 : decode cX11_bestNow 150 = .ok (.iload 11, 2) := by decide +kernel
theorem dX11_bestNow_152 : decode cX11_bestNow 152 = .ok (.iconst 2, 1) := by decide +kernel
theorem dX11_bestNow_153 : decode cX11_bestNow 153 = .ok (.if_icmp .ne 7, 3) := by decide +kernel
theorem dX11_bestNow_156 : decode cX11_bestNow 156 = .ok (.iconst 0, 1) := by decide +kernel
theorem dX11_bestNow_157 : decode cX11_bestNow 157 = .ok (.goto 11, 3) := by decide +kernel
theorem dX11_bestNow_160 : decode cX11_bestNow 160 = .ok (.aload_n 0, 1) := by decide +kernel
theorem dX11_bestNow_161 : decode cX11_bestNow 161 = .ok (.iconst 0, 1) := by decide +kernel
theorem dX11_bestNow_162 : decode cX11_bestNow 162 = .ok (.iload_n 3, 1) := by decide +kernel
theorem dX11_bestNow_163 : decode cX11_bestNow 163 = .ok (.iload 11, 2) := by decide +kernel
theorem dX11_bestNow_165 : decode cX11_bestNow 165 = .ok (.invokevirtual 184, 3) := by decide +kernel
theorem dX11_bestNow_168 : decode cX11_bestNow 168 = .ok (.istore 12, 2) := by decide +kernel
theorem dX11_bestNow_170 : decode cX11_bestNow 170 = .ok (.lload 9, 2) := by decide +kernel
theorem dX11_bestNow_172 : decode cX11_bestNow 172 = .ok (.iload 12, 2) := by decide +kernel
theorem dX11_bestNow_174 : decode cX11_bestNow 174 = .ok (.ifCond .ne 7, 3) := by decide +kernel
theorem dX11_bestNow_177 : decode cX11_bestNow 177 = .ok (.lconst 0, 1) := by decide +kernel
theorem dX11_bestNow_178 : decode cX11_bestNow 178 = .ok (.goto 25, 3) := by decide +kernel
theorem dX11_bestNow_181 : decode cX11_bestNow 181 = .ok (.iload_n 1, 1) := by decide +kernel
theorem dX11_bestNow_182 : decode cX11_bestNow 182 = .ok (.iconst 2, 1) := by decide +kernel
theorem dX11_bestNow_183 : decode cX11_bestNow 183 = .ok (.if_icmp .ne 13, 3) := by decide +kernel
theorem dX11_bestNow_186 : decode cX11_bestNow 186 = .ok (.aload_n 0, 1) := by decide +kernel
theorem dX11_bestNow_187 : decode cX11_bestNow 187 = .ok (.iconst 1, 1) := by decide +kernel
theorem dX11_bestNow_188 : decode cX11_bestNow 188 = .ok (.iload 12, 2) := by decide +kernel
theorem dX11_bestNow_190 : decode cX11_bestNow 190 = .ok (.invokevirtual 197, 3) := by decide +kernel
theorem dX11_bestNow_193 : decode cX11_bestNow 193 = .ok (.goto 10, 3) := by decide +kernel
theorem dX11_bestNow_196 : decode cX11_bestNow 196 = .ok (.aload_n 0, 1) := by decide +kernel
theorem dX11_bestNow_197 : decode cX11_bestNow 197 = .ok (.iconst 1, 1) := by decide +kernel
theorem dX11_bestNow_198 : decode cX11_bestNow 198 = .ok (.iload 12, 2) := by decide +kernel
theorem dX11_bestNow_200 : decode cX11_bestNow 200 = .ok (.invokevirtual 200, 3) := by decide +kernel
theorem dX11_bestNow_203 : decode cX11_bestNow 203 = .ok (.ladd, 1) := by decide +kernel
theorem dX11_bestNow_204 : decode cX11_bestNow 204 = .ok (.lstore 9, 2) := by decide +kernel
theorem dX11_bestNow_206 : decode cX11_bestNow 206 = .ok (.iinc 11 1, 3) := by decide +kernel
theorem dX11_bestNow_209 : decode cX11_bestNow 209 = .ok (.goto (-76), 3) := by decide +kernel
theorem dX11_bestNow_212 : decode cX11_bestNow 212 = .ok (.iload 5, 2) := by decide +kernel
theorem dX11_bestNow_214 : decode cX11_bestNow 214 = .ok (.iconst (-1), 1) := by decide +kernel
theorem dX11_bestNow_215 : decode cX11_bestNow 215 = .ok (.if_icmp .eq 11, 3) := by decide +kernel
theorem dX11_bestNow_218 : decode cX11_bestNow 218 = .ok (.lload 9, 2) := by decide +kernel
theorem dX11_bestNow_220 : decode cX11_bestNow 220 = .ok (.lload 6, 2) := by decide +kernel
theorem dX11_bestNow_222 : decode cX11_bestNow 222 = .ok (.lcmp, 1) := by decide +kernel
theorem dX11_bestNow_223 : decode cX11_bestNow 223 = .ok (.ifCond .le 8, 3) := by decide +kernel
theorem dX11_bestNow_226 : decode cX11_bestNow 226 = .ok (.iload 8, 2) := by decide +kernel
theorem dX11_bestNow_228 : decode cX11_bestNow 228 = .ok (.goto 5, 3) := by decide +kernel
theorem dX11_bestNow_231 : decode cX11_bestNow 231 = .ok (.iload 5, 2) := by decide +kernel
theorem dX11_bestNow_233 : decode cX11_bestNow 233 = .ok (.istore 5, 2) := by decide +kernel
theorem dX11_bestNow_235 : decode cX11_bestNow 235 = .ok (.lload 9, 2) := by decide +kernel
theorem dX11_bestNow_237 : decode cX11_bestNow 237 = .ok (.lload 6, 2) := by decide +kernel
theorem dX11_bestNow_239 : decode cX11_bestNow 239 = .ok (.lcmp, 1) := by decide +kernel
theorem dX11_bestNow_240 : decode cX11_bestNow 240 = .ok (.ifCond .le 8, 3) := by decide +kernel
theorem dX11_bestNow_243 : decode cX11_bestNow 243 = .ok (.lload 9, 2) := by decide +kernel
theorem dX11_bestNow_245 : decode cX11_bestNow 245 = .ok (.goto 5, 3) := by decide +kernel
theorem dX11_bestNow_248 : decode cX11_bestNow 248 = .ok (.lload 6, 2) := by decide +kernel
theorem dX11_bestNow_250 : decode cX11_bestNow 250 = .ok (.lstore 6, 2) := by decide +kernel
theorem dX11_bestNow_252 : decode cX11_bestNow 252 = .ok (.iinc 8 1, 3) := by decide +kernel
theorem dX11_bestNow_255 : decode cX11_bestNow 255 = .ok (.goto (-165), 3) := by decide +kernel
theorem dX11_bestNow_258 : decode cX11_bestNow 258 = .ok (.iload_n 2, 1) := by decide +kernel
theorem dX11_bestNow_259 : decode cX11_bestNow 259 = .ok (.iconst 2, 1) := by decide +kernel
theorem dX11_bestNow_260 : decode cX11_bestNow 260 = .ok (.if_icmp .ne 9, 3) := by decide +kernel
theorem dX11_bestNow_263 : decode cX11_bestNow 263 = .ok (.iload 5, 2) := by decide +kernel
theorem dX11_bestNow_265 : decode cX11_bestNow 265 = .ok (.i2l, 1) := by decide +kernel
theorem dX11_bestNow_266 : decode cX11_bestNow 266 = .ok (.goto 13, 3) := by decide +kernel
theorem dX11_bestNow_269 : decode cX11_bestNow 269 = .ok (.lload 6, 2) := by decide +kernel
theorem dX11_bestNow_271 : decode cX11_bestNow 271 = .ok (.aload_n 0, 1) := by decide +kernel
theorem dX11_bestNow_272 : decode cX11_bestNow 272 = .ok (.getfield 135, 3) := by decide +kernel
theorem dX11_bestNow_275 : decode cX11_bestNow 275 = .ok (.iload_n 2, 1) := by decide +kernel
theorem dX11_bestNow_276 : decode cX11_bestNow 276 = .ok (.invokestatic 163, 3) := by decide +kernel
theorem dX11_bestNow_279 : decode cX11_bestNow 279 = .ok (.lreturn, 1) := by decide +kernel
theorem dX11_best_0 : decode cX11_best 0 = .ok (.iload_n 1, 1) := by decide +kernel
theorem dX11_best_1 : decode cX11_best 1 = .ok (.iconst 1, 1) := by decide +kernel
theorem dX11_best_2 : decode cX11_best 2 = .ok (.iconst 3, 1) := by decide +kernel
theorem dX11_best_3 : decode cX11_best 3 = .ok (.invokestatic 68, 3) := by decide +kernel
theorem dX11_best_6 : decode cX11_best 6 = .ok (.ifCond .eq 21, 3) := by decide +kernel
theorem dX11_best_9 : decode cX11_best 9 = .ok (.iload_n 2, 1) := by decide +kernel
theorem dX11_best_10 : decode cX11_best 10 = .ok (.iconst 0, 1) := by decide +kernel
theorem dX11_best_11 : decode cX11_best 11 = .ok (.iconst 2, 1) := by decide +kernel
theorem dX11_best_12 : decode cX11_best 12 = .ok (.invokestatic 68, 3) := by decide +kernel
theorem dX11_best_15 : decode cX11_best 15 = .ok (.ifCond .eq 12, 3) := by decide +kernel
theorem dX11_best_18 : decode cX11_best 18 = .ok (.aload_n 0, 1) := by decide +kernel
theorem dX11_best_19 : decode cX11_best 19 = .ok (.iload_n 1, 1) := by decide +kernel
theorem dX11_best_20 : decode cX11_best 20 = .ok (.iload_n 2, 1) := by decide +kernel
theorem dX11_best_21 : decode cX11_best 21 = .ok (.invokevirtual 203, 3) := by decide +kernel
theorem dX11_best_24 : decode cX11_best 24 = .ok (.goto 8, 3) := by decide +kernel
theorem dX11_best_27 : decode cX11_best 27 = .ok (.bipush (-2), 2) := by decide +kernel
theorem dX11_best_29 : decode cX11_best 29 = .ok (.invokestatic 160, 3) := by decide +kernel
theorem dX11_best_32 : decode cX11_best 32 = .ok (.lreturn, 1) := by decide +kernel
theorem dX11_runsBy_0 : decode cX11_runsBy 0 = .ok (.aload_n 0, 1) := by decide +kernel
theorem dX11_runsBy_1 : decode cX11_runsBy 1 = .ok (.iconst 1, 1) := by decide +kernel
theorem dX11_runsBy_2 : decode cX11_runsBy 2 = .ok (.iload_n 1, 1) := by decide +kernel
theorem dX11_runsBy_3 : decode cX11_runsBy 3 = .ok (.invokevirtual 139, 3) := by decide +kernel
theorem dX11_runsBy_6 : decode cX11_runsBy 6 = .ok (.aload_n 0, 1) := by decide +kernel
theorem dX11_runsBy_7 : decode cX11_runsBy 7 = .ok (.iconst 0, 1) := by decide +kernel
theorem dX11_runsBy_8 : decode cX11_runsBy 8 = .ok (.putfield 206, 3) := by decide +kernel
theorem dX11_runsBy_11 : decode cX11_runsBy 11 = .ok (.iconst 0, 1) := by decide +kernel
theorem dX11_runsBy_12 : decode cX11_runsBy 12 = .ok (.istore_n 2, 1) := by decide +kernel
theorem dX11_runsBy_13 : decode cX11_runsBy 13 = .ok (.iload_n 2, 1) := by decide +kernel
theorem dX11_runsBy_14 : decode cX11_runsBy 14 = .ok (.aload_n 0, 1) := by decide +kernel
theorem dX11_runsBy_15 : decode cX11_runsBy 15 = .ok (.getfield 101, 3) := by decide +kernel
theorem dX11_runsBy_18 : decode cX11_runsBy 18 = .ok (.if_icmp .ge 48, 3) := by decide +kernel
theorem dX11_runsBy_21 : decode cX11_runsBy 21 = .ok (.aload_n 0, 1) := by decide +kernel
theorem dX11_runsBy_22 : decode cX11_runsBy 22 = .ok (.iconst 1, 1) := by decide +kernel
theorem dX11_runsBy_23 : decode cX11_runsBy 23 = .ok (.iload_n 1, 1) := by decide +kernel
theorem dX11_runsBy_24 : decode cX11_runsBy 24 = .ok (.aload_n 0, 1) := by decide +kernel
theorem dX11_runsBy_25 : decode cX11_runsBy 25 = .ok (.getfield 19, 3) := by decide +kernel
theorem dX11_runsBy_28 : decode cX11_runsBy 28 = .ok (.iload_n 2, 1) := by decide +kernel
theorem dX11_runsBy_29 : decode cX11_runsBy 29 = .ok (.iaload, 1) := by decide +kernel
theorem dX11_runsBy_30 : decode cX11_runsBy 30 = .ok (.invokevirtual 143, 3) := by decide +kernel
theorem dX11_runsBy_33 : decode cX11_runsBy 33 = .ok (.istore_n 3, 1) := by decide +kernel
theorem dX11_runsBy_34 : decode cX11_runsBy 34 = .ok (.aload_n 0, 1) := by decide +kernel
theorem dX11_runsBy_35 : decode cX11_runsBy 35 = .ok (.dup, 1) := by decide +kernel
theorem dX11_runsBy_36 : decode cX11_runsBy 36 = .ok (.getfield 206, 3) := by decide +kernel
theorem dX11_runsBy_39 : decode cX11_runsBy 39 = .ok (.iload_n 3, 1) := by decide +kernel
theorem dX11_runsBy_40 : decode cX11_runsBy 40 = .ok (.iconst 4, 1) := by decide +kernel
theorem dX11_runsBy_41 : decode cX11_runsBy 41 = .ok (.if_icmp .ne 7, 3) := by decide +kernel
theorem dX11_runsBy_44 : decode cX11_runsBy 44 = .ok (.iconst 0, 1) := by decide +kernel
theorem dX11_runsBy_45 : decode cX11_runsBy 45 = .ok (.goto 4, 3) := by decide +kernel
theorem dX11_runsBy_48 : decode cX11_runsBy 48 = .ok (.iconst 1, 1) := by decide +kernel
theorem dX11_runsBy_49 : decode cX11_runsBy 49 = .ok (.iadd, 1) := by decide +kernel
theorem dX11_runsBy_50 : decode cX11_runsBy 50 = .ok (.putfield 206, 3) := by decide +kernel
theorem dX11_runsBy_53 : decode cX11_runsBy 53 = .ok (.iload_n 3, 1) := by decide +kernel
theorem dX11_runsBy_54 : decode cX11_runsBy 54 = .ok (.iconst 2, 1) := by decide +kernel
theorem dX11_runsBy_55 : decode cX11_runsBy 55 = .ok (.if_icmp .ne 5, 3) := by decide +kernel
theorem dX11_runsBy_58 : decode cX11_runsBy 58 = .ok (.iconst 1, 1) := by decide +kernel
theorem dX11_runsBy_59 : decode cX11_runsBy 59 = .ok (.ireturn, 1) := by decide +kernel
theorem dX11_runsBy_60 : decode cX11_runsBy 60 = .ok (.iinc 2 1, 3) := by decide +kernel
theorem dX11_runsBy_63 : decode cX11_runsBy 63 = .ok (.goto (-50), 3) := by decide +kernel
theorem dX11_runsBy_66 : decode cX11_runsBy 66 = .ok (.iconst 0, 1) := by decide +kernel
theorem dX11_runsBy_67 : decode cX11_runsBy 67 = .ok (.ireturn, 1) := by decide +kernel
