theorem dX11_habitOf_0 : decode cX11_habitOf 0 = .ok (.aload_n 0, 1) := by decide +kernel
theorem dX11_habitOf_1 : decode cX11_habitOf 1 = .ok (.invokevirtual 107, 3) := by decide +kernel
theorem dX11_habitOf_4 : decode cX11_habitOf 4 = .ok (.iconst (-1), 1) := by decide +kernel
theorem dX11_habitOf_5 : decode cX11_habitOf 5 = .ok (.if_icmp .eq 9, 3) := by decide +kernel
theorem dX11_habitOf_8 : decode cX11_habitOf 8 = .ok (.bipush (-3), 2) := by decide +kernel
theorem dX11_habitOf_10 : decode cX11_habitOf 10 = .ok (.invokestatic 160, 3) := by decide +kernel
theorem dX11_habitOf_13 : decode cX11_habitOf 13 = .ok (.lreturn, 1) := by decide +kernel
theorem dX11_habitOf_14 : decode cX11_habitOf 14 = .ok (.aload_n 0, 1) := by decide +kernel
theorem dX11_habitOf_15 : decode cX11_habitOf 15 = .ok (.invokevirtual 104, 3) := by decide +kernel
theorem dX11_habitOf_18 : decode cX11_habitOf 18 = .ok (.istore_n 3, 1) := by decide +kernel
theorem dX11_habitOf_19 : decode cX11_habitOf 19 = .ok (.lconst 0, 1) := by decide +kernel
theorem dX11_habitOf_20 : decode cX11_habitOf 20 = .ok (.lstore 4, 2) := by decide +kernel
theorem dX11_habitOf_22 : decode cX11_habitOf 22 = .ok (.iconst 0, 1) := by decide +kernel
theorem dX11_habitOf_23 : decode cX11_habitOf 23 = .ok (.istore 6, 2) := by decide +kernel
theorem dX11_habitOf_25 : decode cX11_habitOf 25 = .ok (.iload 6, 2) := by decide +kernel
theorem dX11_habitOf_27 : decode cX11_habitOf 27 = .ok (.bipush 32, 2) := by decide +kernel
theorem dX11_habitOf_29 : decode cX11_habitOf 29 = .ok (.if_icmp .ge 57, 3) := by decide +kernel
theorem dX11_habitOf_32 : decode cX11_habitOf 32 = .ok (.aload_n 0, 1) := by decide +kernel
theorem dX11_habitOf_33 : decode cX11_habitOf 33 = .ok (.iload 6, 2) := by decide +kernel
theorem dX11_habitOf_35 : decode cX11_habitOf 35 = .ok (.invokevirtual 209, 3) := by decide +kernel
theorem dX11_habitOf_38 : decode cX11_habitOf 38 = .ok (.istore 7, 2) := by decide +kernel
theorem dX11_habitOf_40 : decode cX11_habitOf 40 = .ok (.lload 4, 2) := by decide +kernel
theorem dX11_habitOf_42 : decode cX11_habitOf 42 = .ok (.iload_n 1, 1) := by decide +kernel
theorem dX11_habitOf_43 : decode cX11_habitOf 43 = .ok (.iconst 1, 1) := by decide +kernel
theorem dX11_habitOf_44 : decode cX11_habitOf 44 = .ok (.if_icmp .ne 18, 3) := by decide +kernel
theorem dX11_habitOf_47 : decode cX11_habitOf 47 = .ok (.aload_n 0, 1) := by decide +kernel
theorem dX11_habitOf_48 : decode cX11_habitOf 48 = .ok (.iload 6, 2) := by decide +kernel
theorem dX11_habitOf_50 : decode cX11_habitOf 50 = .ok (.invokevirtual 147, 3) := by decide +kernel
theorem dX11_habitOf_53 : decode cX11_habitOf 53 = .ok (.aload_n 0, 1) := by decide +kernel
theorem dX11_habitOf_54 : decode cX11_habitOf 54 = .ok (.getfield 206, 3) := by decide +kernel
theorem dX11_habitOf_57 : decode cX11_habitOf 57 = .ok (.i2l, 1) := by decide +kernel
theorem dX11_habitOf_58 : decode cX11_habitOf 58 = .ok (.lmul, 1) := by decide +kernel
theorem dX11_habitOf_59 : decode cX11_habitOf 59 = .ok (.goto 18, 3) := by decide +kernel
theorem dX11_habitOf_62 : decode cX11_habitOf 62 = .ok (.iload 7, 2) := by decide +kernel
theorem dX11_habitOf_64 : decode cX11_habitOf 64 = .ok (.ifCond .eq 12, 3) := by decide +kernel
theorem dX11_habitOf_67 : decode cX11_habitOf 67 = .ok (.aload_n 0, 1) := by decide +kernel
theorem dX11_habitOf_68 : decode cX11_habitOf 68 = .ok (.iload 6, 2) := by decide +kernel
theorem dX11_habitOf_70 : decode cX11_habitOf 70 = .ok (.invokevirtual 147, 3) := by decide +kernel
theorem dX11_habitOf_73 : decode cX11_habitOf 73 = .ok (.goto 4, 3) := by decide +kernel
theorem dX11_habitOf_76 : decode cX11_habitOf 76 = .ok (.lconst 0, 1) := by decide +kernel
theorem dX11_habitOf_77 : decode cX11_habitOf 77 = .ok (.ladd, 1) := by decide +kernel
theorem dX11_habitOf_78 : decode cX11_habitOf 78 = .ok (.lstore 4, 2) := by decide +kernel
theorem dX11_habitOf_80 : decode cX11_habitOf 80 = .ok (.iinc 6 1, 3) := by decide +kernel
theorem dX11_habitOf_83 : decode cX11_habitOf 83 = .ok (.goto (-58), 3) := by decide +kernel
theorem dX11_habitOf_86 : decode cX11_habitOf 86 = .ok (.lload 4, 2) := by decide +kernel
theorem dX11_habitOf_88 : decode cX11_habitOf 88 = .ok (.ldc2_w 212, 3) := by decide +kernel
theorem dX11_habitOf_91 : decode cX11_habitOf 91 = .ok (.iload_n 2, 1) := by decide +kernel
theorem dX11_habitOf_92 : decode cX11_habitOf 92 = .ok (.invokestatic 163, 3) := by decide +kernel
theorem dX11_habitOf_95 : decode cX11_habitOf 95 = .ok (.lreturn, 1) := by decide +kernel
theorem dX11_habit_0 : decode cX11_habit 0 = .ok (.iload_n 1, 1) := by decide +kernel
theorem dX11_habit_1 : decode cX11_habit 1 = .ok (.iconst 0, 1) := by decide +kernel
theorem dX11_habit_2 : decode cX11_habit 2 = .ok (.iconst 1, 1) := by decide +kernel
theorem dX11_habit_3 : decode cX11_habit 3 = .ok (.invokestatic 68, 3) := by decide +kernel
theorem dX11_habit_6 : decode cX11_habit 6 = .ok (.ifCond .eq 21, 3) := by decide +kernel
theorem dX11_habit_9 : decode cX11_habit 9 = .ok (.iload_n 2, 1) := by decide +kernel
theorem dX11_habit_10 : decode cX11_habit 10 = .ok (.iconst 0, 1) := by decide +kernel
theorem dX11_habit_11 : decode cX11_habit 11 = .ok (.iconst 1, 1) := by decide +kernel
theorem dX11_habit_12 : decode cX11_habit 12 = .ok (.invokestatic 68, 3) := by decide +kernel
theorem dX11_habit_15 : decode cX11_habit 15 = .ok (.ifCond .eq 12, 3) := by decide +kernel
theorem dX11_habit_18 : decode cX11_habit 18 = .ok (.aload_n 0, 1) := by decide +kernel
theorem dX11_habit_19 : decode cX11_habit 19 = .ok (.iload_n 1, 1) := by decide +kernel
theorem dX11_habit_20 : decode cX11_habit 20 = .ok (.iload_n 2, 1) := by decide +kernel
theorem dX11_habit_21 : decode cX11_habit 21 = .ok (.invokevirtual 214, 3) := by decide +kernel
theorem dX11_habit_24 : decode cX11_habit 24 = .ok (.goto 8, 3) := by decide +kernel
theorem dX11_habit_27 : decode cX11_habit 27 = .ok (.bipush (-2), 2) := by decide +kernel
theorem dX11_habit_29 : decode cX11_habit 29 = .ok (.invokestatic 160, 3) := by decide +kernel
theorem dX11_habit_32 : decode cX11_habit 32 = .ok (.lreturn, 1) := by decide +kernel
theorem dX11_hasNow_0 : decode cX11_hasNow 0 = .ok (.aload_n 0, 1) := by decide +kernel
theorem dX11_hasNow_1 : decode cX11_hasNow 1 = .ok (.invokevirtual 107, 3) := by decide +kernel
theorem dX11_hasNow_4 : decode cX11_hasNow 4 = .ok (.iconst (-1), 1) := by decide +kernel
theorem dX11_hasNow_5 : decode cX11_hasNow 5 = .ok (.if_icmp .eq 6, 3) := by decide +kernel
theorem dX11_hasNow_8 : decode cX11_hasNow 8 = .ok (.bipush (-3), 2) := by decide +kernel
theorem dX11_hasNow_10 : decode cX11_hasNow 10 = .ok (.ireturn, 1) := by decide +kernel
theorem dX11_hasNow_11 : decode cX11_hasNow 11 = .ok (.aload_n 0, 1) := by decide +kernel
theorem dX11_hasNow_12 : decode cX11_hasNow 12 = .ok (.invokevirtual 104, 3) := by decide +kernel
theorem dX11_hasNow_15 : decode cX11_hasNow 15 = .ok (.istore_n 2, 1) := by decide +kernel
theorem dX11_hasNow_16 : decode cX11_hasNow 16 = .ok (.iload_n 1, 1) := by decide +kernel
theorem dX11_hasNow_17 : decode cX11_hasNow 17 = .ok (.iconst (-1), 1) := by decide +kernel
theorem dX11_hasNow_18 : decode cX11_hasNow 18 = .ok (.if_icmp .eq 17, 3) := by decide +kernel
theorem dX11_hasNow_21 : decode cX11_hasNow 21 = .ok (.aload_n 0, 1) := by decide +kernel
theorem dX11_hasNow_22 : decode cX11_hasNow 22 = .ok (.iload_n 1, 1) := by decide +kernel
theorem dX11_hasNow_23 : decode cX11_hasNow 23 = .ok (.invokevirtual 209, 3) := by decide +kernel
theorem dX11_hasNow_26 : decode cX11_hasNow 26 = .ok (.ifCond .eq 7, 3) := by decide +kernel
theorem dX11_hasNow_29 : decode cX11_hasNow 29 = .ok (.iconst 1, 1) := by decide +kernel
theorem dX11_hasNow_30 : decode cX11_hasNow 30 = .ok (.goto 4, 3) := by decide +kernel
theorem dX11_hasNow_33 : decode cX11_hasNow 33 = .ok (.iconst 0, 1) := by decide +kernel
theorem dX11_hasNow_34 : decode cX11_hasNow 34 = .ok (.ireturn, 1) := by decide +kernel
theorem dX11_hasNow_35 : decode cX11_hasNow 35 = .ok (.iconst 0, 1) := by decide +kernel
theorem dX11_hasNow_36 : decode cX11_hasNow 36 = .ok (.istore_n 3, 1) := by decide +kernel
theorem dX11_hasNow_37 : decode cX11_hasNow 37 = .ok (.iconst 0, 1) := by decide +kernel
theorem dX11_hasNow_38 : decode cX11_hasNow 38 = .ok (.istore 4, 2) := by decide +kernel
theorem dX11_hasNow_40 : decode cX11_hasNow 40 = .ok (.iload 4, 2) := by decide +kernel
theorem dX11_hasNow_42 : decode cX11_hasNow 42 = .ok (.bipush 32, 2) := by decide +kernel
theorem dX11_hasNow_44 : decode cX11_hasNow 44 = .ok (.if_icmp .ge 26, 3) := by decide +kernel
theorem dX11_hasNow_47 : decode cX11_hasNow 47 = .ok (.iload_n 3, 1) := by decide +kernel
theorem dX11_hasNow_48 : decode cX11_hasNow 48 = .ok (.aload_n 0, 1) := by decide +kernel
theorem dX11_hasNow_49 : decode cX11_hasNow 49 = .ok (.iload 4, 2) := by decide +kernel
theorem dX11_hasNow_51 : decode cX11_hasNow 51 = .ok (.invokevirtual 209, 3) := by decide +kernel
theorem dX11_hasNow_54 : decode cX11_hasNow 54 = .ok (.ifCond .eq 7, 3) := by decide +kernel
theorem dX11_hasNow_57 : decode cX11_hasNow 57 = .ok (.iconst 1, 1) := by decide +kernel
theorem dX11_hasNow_58 : decode cX11_hasNow 58 = .ok (.goto 4, 3) := by decide +kernel
theorem dX11_hasNow_61 : decode cX11_hasNow 61 = .ok (.iconst 0, 1) := by decide +kernel
theorem dX11_hasNow_62 : decode cX11_hasNow 62 = .ok (.iadd, 1) := by decide +kernel
theorem dX11_hasNow_63 : decode cX11_hasNow 63 = .ok (.istore_n 3, 1) := by decide +kernel
theorem dX11_hasNow_64 : decode cX11_hasNow 64 = .ok (.iinc 4 1, 3) := by decide +kernel
theorem dX11_hasNow_67 : decode cX11_hasNow 67 = .ok (.goto (-27), 3) := by decide +kernel
theorem dX11_hasNow_70 : decode cX11_hasNow 70 = .ok (.iload_n 3, 1) := by decide +kernel
theorem dX11_hasNow_71 : decode cX11_hasNow 71 = .ok (.ireturn, 1) := by decide +kernel
theorem dX11_has_0 : decode cX11_has 0 = .ok (.iload_n 1, 1) := by decide +kernel
theorem dX11_has_1 : decode cX11_has 1 = .ok (.iconst (-1), 1) := by decide +kernel
theorem dX11_has_2 : decode cX11_has 2 = .ok (.if_icmp .eq 10, 3) := by decide +kernel
theorem dX11_has_5 : decode cX11_has 5 = .ok (.iload_n 1, 1) := by decide +kernel
theorem dX11_has_6 : decode cX11_has 6 = .ok (.invokestatic 157, 3) := by decide +kernel
theorem dX11_has_9 : decode cX11_has 9 = .ok (.ifCond .eq 11, 3) := by decide +kernel
theorem dX11_has_12 : decode cX11_has 12 = .ok (.aload_n 0, 1) := by decide +kernel
theorem dX11_has_13 : decode cX11_has 13 = .ok (.iload_n 1, 1) := by decide +kernel
theorem dX11_has_14 : decode cX11_has 14 = .ok (.invokevirtual 217, 3) := by decide +kernel
theorem dX11_has_17 : decode cX11_has 17 = .ok (.goto 5, 3) := by decide +kernel
theorem dX11_has_20 : decode cX11_has 20 = .ok (.bipush (-2), 2) := by decide +kernel
theorem dX11_has_22 : decode cX11_has 22 = .ok (.ireturn, 1) := by decide +kernel
theorem dX11_workNow_0 : decode cX11_workNow 0 = .ok (.aload_n 0, 1) := by decide +kernel
theorem dX11_workNow_1 : decode cX11_workNow 1 = .ok (.invokevirtual 107, 3) := by decide +kernel
theorem dX11_workNow_4 : decode cX11_workNow 4 = .ok (.iconst (-1), 1) := by decide +kernel
theorem dX11_workNow_5 : decode cX11_workNow 5 = .ok (.if_icmp .eq 9, 3) := by decide +kernel
theorem dX11_workNow_8 : decode cX11_workNow 8 = .ok (.bipush (-3), 2) := by decide +kernel
theorem dX11_workNow_10 : decode cX11_workNow 10 = .ok (.invokestatic 160, 3) := by decide +kernel
theorem dX11_workNow_13 : decode cX11_workNow 13 = .ok (.lreturn, 1) := by decide +kernel
theorem dX11_workNow_14 : decode cX11_workNow 14 = .ok (.aload_n 0, 1) := by decide +kernel
theorem dX11_workNow_15 : decode cX11_workNow 15 = .ok (.invokevirtual 104, 3) := by decide +kernel
theorem dX11_workNow_18 : decode cX11_workNow 18 = .ok (.istore_n 2, 1) := by decide +kernel
theorem dX11_workNow_19 : decode cX11_workNow 19 = .ok (.iconst (-1), 1) := by decide +kernel
theorem dX11_workNow_20 : decode cX11_workNow 20 = .ok (.istore_n 3, 1) := by decide +kernel
theorem dX11_workNow_21 : decode cX11_workNow 21 = .ok (.lconst 0, 1) := by decide +kernel
theorem dX11_workNow_22 : decode cX11_workNow 22 = .ok (.lstore 4, 2) := by decide +kernel
theorem dX11_workNow_24 : decode cX11_workNow 24 = .ok (.iconst 0, 1) := by decide +kernel
theorem dX11_workNow_25 : decode cX11_workNow 25 = .ok (.istore 6, 2) := by decide +kernel
theorem dX11_workNow_27 : decode cX11_workNow 27 = .ok (.iload 6, 2) := by decide +kernel
theorem dX11_workNow_29 : decode cX11_workNow 29 = .ok (.iconst 5, 1) := by decide +kernel
theorem dX11_workNow_30 : decode cX11_workNow 30 = .ok (.if_icmp .ge 115, 3) := by decide +kernel
theorem dX11_workNow_33 : decode cX11_workNow 33 = .ok (.aload_n 0, 1) := by decide +kernel
theorem dX11_workNow_34 : decode cX11_workNow 34 = .ok (.getfield 25, 3) := by decide +kernel
theorem dX11_workNow_37 : decode cX11_workNow 37 = .ok (.iload 6, 2) := by decide +kernel
theorem dX11_workNow_39 : decode cX11_workNow 39 = .ok (.iaload, 1) := by decide +kernel
theorem dX11_workNow_40 : decode cX11_workNow 40 = .ok (.istore 7, 2) := by decide +kernel
theorem dX11_workNow_42 : decode cX11_workNow 42 = .ok (.aload_n 0, 1) := by decide +kernel
theorem dX11_workNow_43 : decode cX11_workNow 43 = .ok (.getfield 25, 3) := by decide +kernel
theorem dX11_workNow_46 : decode cX11_workNow 46 = .ok (.iload 6, 2) := by decide +kernel
theorem dX11_workNow_48 : decode cX11_workNow 48 = .ok (.iconst 0, 1) := by decide +kernel
theorem dX11_workNow_49 : decode cX11_workNow 49 = .ok (.iastore, 1) := by decide +kernel
theorem dX11_workNow_50 : decode cX11_workNow 50 = .ok (.lconst 0, 1) := by decide +kernel
theorem dX11_workNow_51 : decode cX11_workNow 51 = .ok (.lstore 8, 2) := by decide +kernel
theorem dX11_workNow_53 : decode cX11_workNow 53 = .ok (.iconst 0, 1) := by decide +kernel
theorem dX11_workNow_54 : decode cX11_workNow 54 = .ok (.istore 10, 2) := by decide +kernel
theorem dX11_workNow_56 : decode cX11_workNow 56 = .ok (.iload 10, 2) := by decide +kernel
theorem dX11_workNow_58 : decode cX11_workNow 58 = .ok (.bipush 32, 2) := by decide +kernel
theorem dX11_workNow_60 : decode cX11_workNow 60 = .ok (.if_icmp .ge 33, 3) := by decide +kernel
theorem dX11_workNow_63 : decode cX11_workNow 63 = .ok (.lload 8, 2) := by decide +kernel
theorem dX11_workNow_65 : decode cX11_workNow 65 = .ok (.aload_n 0, 1) := by decide +kernel
theorem dX11_workNow_66 : decode cX11_workNow 66 = .ok (.iload 10, 2) := by decide +kernel
theorem dX11_workNow_68 : decode cX11_workNow 68 = .ok (.invokevirtual 209, 3) := by decide +kernel
theorem dX11_workNow_71 : decode cX11_workNow 71 = .ok (.ifCond .eq 12, 3) := by decide +kernel
theorem dX11_workNow_74 : decode cX11_workNow 74 = .ok (.aload_n 0, 1) := by decide +kernel
theorem dX11_workNow_75 : decode cX11_workNow 75 = .ok (.iload 10, 2) := by decide +kernel
theorem dX11_workNow_77 : decode cX11_workNow 77 = .ok (.invokevirtual 147, 3) := by decide +kernel
theorem dX11_workNow_80 : decode cX11_workNow 80 = .ok (.goto 4, 3) := by decide +kernel
theorem dX11_workNow_83 : decode cX11_workNow 83 = .ok (.lconst 0, 1) := by decide +kernel
theorem dX11_workNow_84 : decode cX11_workNow 84 = .ok (.ladd, 1) := by decide +kernel
theorem dX11_workNow_85 : decode cX11_workNow 85 = .ok (.lstore 8, 2) := by decide +kernel
theorem dX11_workNow_87 : decode cX11_workNow 87 = .ok (.iinc 10 1, 3) := by decide +kernel
theorem dX11_workNow_90 : decode cX11_workNow 90 = .ok (.goto (-34), 3) := by decide +kernel
theorem dX11_workNow_93 : decode cX11_workNow 93 = .ok (.aload_n 0, 1) := by decide +kernel
theorem dX11_workNow_94 : decode cX11_workNow 94 = .ok (.getfield 25, 3) := by decide +kernel
theorem dX11_workNow_97 : decode cX11_workNow 97 = .ok (.iload 6, 2) := by decide +kernel
theorem dX11_workNow_99 : decode cX11_workNow 99 = .ok (.iload 7, 2) := by decide +kernel
theorem dX11_workNow_101 : decode cX11_workNow 101 = .ok (.iastore, 1) := by decide +kernel
theorem dX11_workNow_102 : decode cX11_workNow 102 = .ok (.iload_n 3, 1) := by decide +kernel
theorem dX11_workNow_103 : decode cX11_workNow 103 = .ok (.iconst (-1), 1) := by decide +kernel
theorem dX11_workNow_104 : decode cX11_workNow 104 = .ok (.if_icmp .eq 11, 3) := by decide +kernel
theorem dX11_workNow_107 : decode cX11_workNow 107 = .ok (.lload 8, 2) := by decide +kernel
theorem dX11_workNow_109 : decode cX11_workNow 109 = .ok (.lload 4, 2) := by decide +kernel
theorem dX11_workNow_111 : decode cX11_workNow 111 = .ok (.lcmp, 1) := by decide +kernel
theorem dX11_workNow_112 : decode cX11_workNow 112 = .ok (.ifCond .le 8, 3) := by decide +kernel
theorem dX11_workNow_115 : decode cX11_workNow 115 = .ok (.iload 6, 2) := by decide +kernel
theorem dX11_workNow_117 : decode cX11_workNow 117 = .ok (.goto 4, 3) := by decide +kernel
theorem dX11_workNow_120 : decode cX11_workNow 120 = .ok (.iload_n 3, 1) := by decide +kernel
theorem dX11_workNow_121 : decode cX11_workNow 121 = .ok (.istore_n 3, 1) := by decide +kernel
theorem dX11_workNow_122 : decode cX11_workNow 122 = .ok (.lload 8, 2) := by decide +kernel
theorem dX11_workNow_124 : decode cX11_workNow 124 = .ok (.lload 4, 2) := by decide +kernel
theorem dX11_workNow_126 : decode cX11_workNow 126 = .ok (.lcmp, 1) := by decide +kernel
theorem dX11_workNow_127 : decode cX11_workNow 127 = .ok (.ifCond .le 8, 3) := by decide +kernel
theorem dX11_workNow_130 : decode cX11_workNow 130 = .ok (.lload 8, 2) := by decide +kernel
theorem dX11_workNow_132 : decode cX11_workNow 132 = .ok (.goto 5, 3) := by decide +kernel
theorem dX11_workNow_135 : decode cX11_workNow 135 = .ok (.lload 4, 2) := by decide +kernel
theorem dX11_workNow_137 : decode cX11_workNow 137 = .ok (.lstore 4, 2) := by decide +kernel
theorem dX11_workNow_139 : decode cX11_workNow 139 = .ok (.iinc 6 1, 3) := by decide +kernel
theorem dX11_workNow_142 : decode cX11_workNow 142 = .ok (.goto (-115), 3) := by decide +kernel
theorem dX11_workNow_145 : decode cX11_workNow 145 = .ok (.iload_n 1, 1) := by decide +kernel
theorem dX11_workNow_146 : decode cX11_workNow 146 = .ok (.iconst 2, 1) := by decide +kernel
theorem dX11_workNow_147 : decode cX11_workNow 147 = .ok (.if_icmp .ne 8, 3) := by decide +kernel
theorem dX11_workNow_150 : decode cX11_workNow 150 = .ok (.iload_n 3, 1) := by decide +kernel
theorem dX11_workNow_151 : decode cX11_workNow 151 = .ok (.i2l, 1) := by decide +kernel
theorem dX11_workNow_152 : decode cX11_workNow 152 = .ok (.goto 12, 3) := by decide +kernel
theorem dX11_workNow_155 : decode cX11_workNow 155 = .ok (.lload 4, 2) := by decide +kernel
theorem dX11_workNow_157 : decode cX11_workNow 157 = .ok (.ldc2_w 212, 3) := by decide +kernel
theorem dX11_workNow_160 : decode cX11_workNow 160 = .ok (.iload_n 1, 1) := by decide +kernel
theorem dX11_workNow_161 : decode cX11_workNow 161 = .ok (.invokestatic 163, 3) := by decide +kernel
theorem dX11_workNow_164 : decode cX11_workNow 164 = .ok (.lreturn, 1) := by decide +kernel
theorem dX11_work_0 : decode cX11_work 0 = .ok (.iload_n 1, 1) := by decide +kernel
theorem dX11_work_1 : decode cX11_work 1 = .ok (.iconst 0, 1) := by decide +kernel
theorem dX11_work_2 : decode cX11_work 2 = .ok (.iconst 2, 1) := by decide +kernel
theorem dX11_work_3 : decode cX11_work 3 = .ok (.invokestatic 68, 3) := by decide +kernel
theorem dX11_work_6 : decode cX11_work 6 = .ok (.ifCond .eq 11, 3) := by decide +kernel
theorem dX11_work_9 : decode cX11_work 9 = .ok (.aload_n 0, 1) := by decide +kernel
theorem dX11_work_10 : decode cX11_work 10 = .ok (.iload_n 1, 1) := by decide +kernel
theorem dX11_work_11 : decode cX11_work 11 = .ok (.invokevirtual 220, 3) := by decide +kernel
theorem dX11_work_14 : decode cX11_work 14 = .ok (.goto 8, 3) := by decide +kernel
theorem dX11_work_17 : decode cX11_work 17 = .ok (.bipush (-2), 2) := by decide +kernel
theorem dX11_work_19 : decode cX11_work 19 = .ok (.invokestatic 160, 3) := by decide +kernel
theorem dX11_work_22 : decode cX11_work 22 = .ok (.lreturn, 1) := by decide +kernel
theorem dX11_drownedNow_0 : decode cX11_drownedNow 0 = .ok (.aload_n 0, 1) := by decide +kernel
theorem dX11_drownedNow_1 : decode cX11_drownedNow 1 = .ok (.invokevirtual 104, 3) := by decide +kernel
theorem dX11_drownedNow_4 : decode cX11_drownedNow 4 = .ok (.istore_n 3, 1) := by decide +kernel
theorem dX11_drownedNow_5 : decode cX11_drownedNow 5 = .ok (.aload_n 0, 1) := by decide +kernel
theorem dX11_drownedNow_6 : decode cX11_drownedNow 6 = .ok (.iconst 1, 1) := by decide +kernel
theorem dX11_drownedNow_7 : decode cX11_drownedNow 7 = .ok (.iload_n 1, 1) := by decide +kernel
theorem dX11_drownedNow_8 : decode cX11_drownedNow 8 = .ok (.invokevirtual 139, 3) := by decide +kernel
theorem dX11_drownedNow_11 : decode cX11_drownedNow 11 = .ok (.iconst 1, 1) := by decide +kernel
theorem dX11_drownedNow_12 : decode cX11_drownedNow 12 = .ok (.istore 4, 2) := by decide +kernel
theorem dX11_drownedNow_14 : decode cX11_drownedNow 14 = .ok (.iload 4, 2) := by decide +kernel
theorem dX11_drownedNow_16 : decode cX11_drownedNow 16 = .ok (.sipush 200, 3) := by decide +kernel
theorem dX11_drownedNow_19 : decode cX11_drownedNow 19 = .ok (.if_icmp .ge 55, 3) := by decide +kernel
theorem dX11_drownedNow_22 : decode cX11_drownedNow 22 = .ok (.aload_n 0, 1) := by decide +kernel
theorem dX11_drownedNow_23 : decode cX11_drownedNow 23 = .ok (.iconst 1, 1) := by decide +kernel
theorem dX11_drownedNow_24 : decode cX11_drownedNow 24 = .ok (.iload_n 1, 1) := by decide +kernel
theorem dX11_drownedNow_25 : decode cX11_drownedNow 25 = .ok (.iload_n 2, 1) := by decide +kernel
theorem dX11_drownedNow_26 : decode cX11_drownedNow 26 = .ok (.invokevirtual 143, 3) := by decide +kernel
theorem dX11_drownedNow_29 : decode cX11_drownedNow 29 = .ok (.istore 5, 2) := by decide +kernel
theorem dX11_drownedNow_31 : decode cX11_drownedNow 31 = .ok (.iload 5, 2) := by decide +kernel
theorem dX11_drownedNow_33 : decode cX11_drownedNow 33 = .ok (.iconst 4, 1) := by decide +kernel
theorem dX11_drownedNow_34 : decode cX11_drownedNow 34 = .ok (.if_icmp .eq 9, 3) := by decide +kernel
theorem dX11_drownedNow_37 : decode cX11_drownedNow 37 = .ok (.iload 5, 2) := by decide +kernel
theorem dX11_drownedNow_39 : decode cX11_drownedNow 39 = .ok (.iconst 2, 1) := by decide +kernel
theorem dX11_drownedNow_40 : decode cX11_drownedNow 40 = .ok (.if_icmp .ne 5, 3) := by decide +kernel
theorem dX11_drownedNow_43 : decode cX11_drownedNow 43 = .ok (.iconst (-1), 1) := by decide +kernel
theorem dX11_drownedNow_44 : decode cX11_drownedNow 44 = .ok (.ireturn, 1) := by decide +kernel
theorem dX11_drownedNow_45 : decode cX11_drownedNow 45 = .ok (.aload_n 0, 1) := by decide +kernel
theorem dX11_drownedNow_46 : decode cX11_drownedNow 46 = .ok (.getfield 22, 3) := by decide +kernel
theorem dX11_drownedNow_49 : decode cX11_drownedNow 49 = .ok (.sipush 256, 3) := by decide +kernel
theorem dX11_drownedNow_52 : decode cX11_drownedNow 52 = .ok (.bipush 8, 2) := by decide +kernel
theorem dX11_drownedNow_54 : decode cX11_drownedNow 54 = .ok (.iload_n 1, 1) := by decide +kernel
theorem dX11_drownedNow_55 : decode cX11_drownedNow 55 = .ok (.imul, 1) := by decide +kernel
theorem dX11_drownedNow_56 : decode cX11_drownedNow 56 = .ok (.iadd, 1) := by decide +kernel
theorem dX11_drownedNow_57 : decode cX11_drownedNow 57 = .ok (.iconst 3, 1) := by decide +kernel
theorem dX11_drownedNow_58 : decode cX11_drownedNow 58 = .ok (.iadd, 1) := by decide +kernel
theorem dX11_drownedNow_59 : decode cX11_drownedNow 59 = .ok (.iaload, 1) := by decide +kernel
theorem dX11_drownedNow_60 : decode cX11_drownedNow 60 = .ok (.bipush 6, 2) := by decide +kernel
theorem dX11_drownedNow_62 : decode cX11_drownedNow 62 = .ok (.if_icmp .lt 6, 3) := by decide +kernel
theorem dX11_drownedNow_65 : decode cX11_drownedNow 65 = .ok (.iload 4, 2) := by decide +kernel
theorem dX11_drownedNow_67 : decode cX11_drownedNow 67 = .ok (.ireturn, 1) := by decide +kernel
theorem dX11_drownedNow_68 : decode cX11_drownedNow 68 = .ok (.iinc 4 1, 3) := by decide +kernel
theorem dX11_drownedNow_71 : decode cX11_drownedNow 71 = .ok (.goto (-57), 3) := by decide +kernel
theorem dX11_drownedNow_74 : decode cX11_drownedNow 74 = .ok (.iconst (-1), 1) := by decide +kernel
theorem dX11_drownedNow_75 : decode cX11_drownedNow 75 = .ok (.ireturn, 1) := by decide +kernel
theorem dX11_drowned_0 : decode cX11_drowned 0 = .ok (.iload_n 1, 1) := by decide +kernel
theorem dX11_drowned_1 : decode cX11_drowned 1 = .ok (.invokestatic 157, 3) := by decide +kernel
theorem dX11_drowned_4 : decode cX11_drowned 4 = .ok (.ifCond .eq 21, 3) := by decide +kernel
theorem dX11_drowned_7 : decode cX11_drowned 7 = .ok (.iload_n 2, 1) := by decide +kernel
theorem dX11_drowned_8 : decode cX11_drowned 8 = .ok (.iconst 0, 1) := by decide +kernel
theorem dX11_drowned_9 : decode cX11_drowned 9 = .ok (.iconst 3, 1) := by decide +kernel
theorem dX11_drowned_10 : decode cX11_drowned 10 = .ok (.invokestatic 68, 3) := by decide +kernel
theorem dX11_drowned_13 : decode cX11_drowned 13 = .ok (.ifCond .eq 12, 3) := by decide +kernel
theorem dX11_drowned_16 : decode cX11_drowned 16 = .ok (.aload_n 0, 1) := by decide +kernel
theorem dX11_drowned_17 : decode cX11_drowned 17 = .ok (.iload_n 1, 1) := by decide +kernel
theorem dX11_drowned_18 : decode cX11_drowned 18 = .ok (.iload_n 2, 1) := by decide +kernel
theorem dX11_drowned_19 : decode cX11_drowned 19 = .ok (.invokevirtual 223, 3) := by decide +kernel
theorem dX11_drowned_22 : decode cX11_drowned 22 = .ok (.goto 5, 3) := by decide +kernel
theorem dX11_drowned_25 : decode cX11_drowned 25 = .ok (.bipush (-2), 2) := by decide +kernel
theorem dX11_drowned_27 : decode cX11_drowned 27 = .ok (.ireturn, 1) := by decide +kernel
theorem dX11_morning_0 : decode cX11_morning 0 = .ok (.iload_n 1, 1) := by decide +kernel
theorem dX11_morning_1 : decode cX11_morning 1 = .ok (.iconst 0, 1) := by decide +kernel
theorem dX11_morning_2 : decode cX11_morning 2 = .ok (.bipush 40, 2) := by decide +kernel
theorem dX11_morning_4 : decode cX11_morning 4 = .ok (.invokestatic 68, 3) := by decide +kernel
theorem dX11_morning_7 : decode cX11_morning 7 = .ok (.ifCond .eq 23, 3) := by decide +kernel
theorem dX11_morning_10 : decode cX11_morning 10 = .ok (.iload_n 2, 1) := by decide +kernel
theorem dX11_morning_11 : decode cX11_morning 11 = .ok (.iconst 0, 1) := by decide +kernel
theorem dX11_morning_12 : decode cX11_morning 12 = .ok (.bipush 9, 2) := by decide +kernel
theorem dX11_morning_14 : decode cX11_morning 14 = .ok (.invokestatic 68, 3) := by decide +kernel
theorem dX11_morning_17 : decode cX11_morning 17 = .ok (.ifCond .eq 13, 3) := by decide +kernel
theorem dX11_morning_20 : decode cX11_morning 20 = .ok (.iload_n 3, 1) := by decide +kernel
theorem dX11_morning_21 : decode cX11_morning 21 = .ok (.iconst 0, 1) := by decide +kernel
theorem dX11_morning_22 : decode cX11_morning 22 = .ok (.bipush 30, 2) := by decide +kernel
theorem dX11_morning_24 : decode cX11_morning 24 = .ok (.invokestatic 68, 3) := by decide +kernel
theorem dX11_morning_27 : decode cX11_morning 27 = .ok (.ifCond .ne 6, 3) := by decide +kernel
theorem dX11_morning_30 : decode cX11_morning 30 = .ok (.bipush (-2), 2) := by decide +kernel
theorem dX11_morning_32 : decode cX11_morning 32 = .ok (.ireturn, 1) := by decide +kernel
theorem dX11_morning_33 : decode cX11_morning 33 = .ok (.aload_n 0, 1) := by decide +kernel
theorem dX11_morning_34 : decode cX11_morning 34 = .ok (.getfield 226, 3) := by decide +kernel
theorem dX11_morning_37 : decode cX11_morning 37 = .ok (.bipush 16, 2) := by decide +kernel
theorem dX11_morning_39 : decode cX11_morning 39 = .ok (.if_icmp .ne 6, 3) := by decide +kernel
theorem dX11_morning_42 : decode cX11_morning 42 = .ok (.bipush (-4), 2) := by decide +kernel
theorem dX11_morning_44 : decode cX11_morning 44 = .ok (.ireturn, 1) := by decide +kernel
theorem dX11_morning_45 : decode cX11_morning 45 = .ok (.aload_n 0, 1) := by decide +kernel
theorem dX11_morning_46 : decode cX11_morning 46 = .ok (.getfield 41, 3) := by decide +kernel
theorem dX11_morning_49 : decode cX11_morning 49 = .ok (.aload_n 0, 1) := by decide +kernel
theorem dX11_morning_50 : decode cX11_morning 50 = .ok (.getfield 226, 3) := by decide +kernel
theorem dX11_morning_53 : decode cX11_morning 53 = .ok (.iload_n 1, 1) := by decide +kernel
theorem dX11_morning_54 : decode cX11_morning 54 = .ok (.iastore, 1) := by decide +kernel
theorem dX11_morning_55 : decode cX11_morning 55 = .ok (.aload_n 0, 1) := by decide +kernel
theorem dX11_morning_56 : decode cX11_morning 56 = .ok (.getfield 44, 3) := by decide +kernel
theorem dX11_morning_59 : decode cX11_morning 59 = .ok (.aload_n 0, 1) := by decide +kernel
theorem dX11_morning_60 : decode cX11_morning 60 = .ok (.getfield 226, 3) := by decide +kernel
theorem dX11_morning_63 : decode cX11_morning 63 = .ok (.iload_n 2, 1) := by decide +kernel
theorem dX11_morning_64 : decode cX11_morning 64 = .ok (.iastore, 1) := by decide +kernel
theorem dX11_morning_65 : decode cX11_morning 65 = .ok (.aload_n 0, 1) := by decide +kernel
theorem dX11_morning_66 : decode cX11_morning 66 = .ok (.getfield 47, 3) := by decide +kernel
theorem dX11_morning_69 : decode cX11_morning 69 = .ok (.aload_n 0, 1) := by decide +kernel
theorem dX11_morning_70 : decode cX11_morning 70 = .ok (.getfield 226, 3) := by decide +kernel
theorem dX11_morning_73 : decode cX11_morning 73 = .ok (.iload_n 3, 1) := by decide +kernel
theorem dX11_morning_74 : decode cX11_morning 74 = .ok (.iastore, 1) := by decide +kernel
theorem dX11_morning_75 : decode cX11_morning 75 = .ok (.aload_n 0, 1) := by decide +kernel
theorem dX11_morning_76 : decode cX11_morning 76 = .ok (.dup, 1) := by decide +kernel
theorem dX11_morning_77 : decode cX11_morning 77 = .ok (.getfield 226, 3) := by decide +kernel
theorem dX11_morning_80 : decode cX11_morning 80 = .ok (.iconst 1, 1) := by decide +kernel
theorem dX11_morning_81 : decode cX11_morning 81 = .ok (.iadd, 1) := by decide +kernel
theorem dX11_morning_82 : decode cX11_morning 82 = .ok (.putfield 226, 3) := by decide +kernel
theorem dX11_morning_85 : decode cX11_morning 85 = .ok (.aload_n 0, 1) := by decide +kernel
theorem dX11_morning_86 : decode cX11_morning 86 = .ok (.getfield 226, 3) := by decide +kernel
theorem dX11_morning_89 : decode cX11_morning 89 = .ok (.ireturn, 1) := by decide +kernel
theorem dX11_isLaw_0 : decode cX11_isLaw 0 = .ok (.iload_n 0, 1) := by decide +kernel
theorem dX11_isLaw_1 : decode cX11_isLaw 1 = .ok (.iconst 0, 1) := by decide +kernel
theorem dX11_isLaw_2 : decode cX11_isLaw 2 = .ok (.bipush 9, 2) := by decide +kernel
theorem dX11_isLaw_4 : decode cX11_isLaw 4 = .ok (.invokestatic 68, 3) := by decide +kernel
theorem dX11_isLaw_7 : decode cX11_isLaw 7 = .ok (.ifCond .eq 26, 3) := by decide +kernel
theorem dX11_isLaw_10 : decode cX11_isLaw 10 = .ok (.iload_n 1, 1) := by decide +kernel
theorem dX11_isLaw_11 : decode cX11_isLaw 11 = .ok (.iconst 0, 1) := by decide +kernel
theorem dX11_isLaw_12 : decode cX11_isLaw 12 = .ok (.bipush 9, 2) := by decide +kernel
theorem dX11_isLaw_14 : decode cX11_isLaw 14 = .ok (.invokestatic 68, 3) := by decide +kernel
theorem dX11_isLaw_17 : decode cX11_isLaw 17 = .ok (.ifCond .eq 16, 3) := by decide +kernel
theorem dX11_isLaw_20 : decode cX11_isLaw 20 = .ok (.iload_n 2, 1) := by decide +kernel
theorem dX11_isLaw_21 : decode cX11_isLaw 21 = .ok (.iconst 0, 1) := by decide +kernel
theorem dX11_isLaw_22 : decode cX11_isLaw 22 = .ok (.iconst 3, 1) := by decide +kernel
theorem dX11_isLaw_23 : decode cX11_isLaw 23 = .ok (.invokestatic 68, 3) := by decide +kernel
theorem dX11_isLaw_26 : decode cX11_isLaw 26 = .ok (.ifCond .eq 7, 3) := by decide +kernel
theorem dX11_isLaw_29 : decode cX11_isLaw 29 = .ok (.iconst 1, 1) := by decide +kernel
theorem dX11_isLaw_30 : decode cX11_isLaw 30 = .ok (.goto 4, 3) := by decide +kernel
theorem dX11_isLaw_33 : decode cX11_isLaw 33 = .ok (.iconst 0, 1) := by decide +kernel
theorem dX11_isLaw_34 : decode cX11_isLaw 34 = .ok (.ireturn, 1) := by decide +kernel
theorem dX11_saysOf_0 : decode cX11_saysOf 0 = .ok (.iload_n 0, 1) := by decide +kernel
theorem dX11_saysOf_1 : decode cX11_saysOf 1 = .ok (.iload_n 1, 1) := by decide +kernel
theorem dX11_saysOf_2 : decode cX11_saysOf 2 = .ok (.iload_n 3, 1) := by decide +kernel
theorem dX11_saysOf_3 : decode cX11_saysOf 3 = .ok (.imul, 1) := by decide +kernel
theorem dX11_saysOf_4 : decode cX11_saysOf 4 = .ok (.bipush 10, 2) := by decide +kernel
theorem dX11_saysOf_6 : decode cX11_saysOf 6 = .ok (.idiv, 1) := by decide +kernel
theorem dX11_saysOf_7 : decode cX11_saysOf 7 = .ok (.iadd, 1) := by decide +kernel
theorem dX11_saysOf_8 : decode cX11_saysOf 8 = .ok (.iload_n 2, 1) := by decide +kernel
theorem dX11_saysOf_9 : decode cX11_saysOf 9 = .ok (.iload 4, 2) := by decide +kernel
theorem dX11_saysOf_11 : decode cX11_saysOf 11 = .ok (.imul, 1) := by decide +kernel
theorem dX11_saysOf_12 : decode cX11_saysOf 12 = .ok (.iadd, 1) := by decide +kernel
theorem dX11_saysOf_13 : decode cX11_saysOf 13 = .ok (.ireturn, 1) := by decide +kernel
theorem dX11_says_0 : decode cX11_says 0 = .ok (.iload_n 1, 1) := by decide +kernel
theorem dX11_says_1 : decode cX11_says 1 = .ok (.iload_n 2, 1) := by decide +kernel
theorem dX11_says_2 : decode cX11_says 2 = .ok (.iload_n 3, 1) := by decide +kernel
theorem dX11_says_3 : decode cX11_says 3 = .ok (.invokestatic 229, 3) := by decide +kernel
theorem dX11_says_6 : decode cX11_says 6 = .ok (.ifCond .eq 38, 3) := by decide +kernel
theorem dX11_says_9 : decode cX11_says 9 = .ok (.iload 4, 2) := by decide +kernel
theorem dX11_says_11 : decode cX11_says 11 = .ok (.iconst 0, 1) := by decide +kernel
theorem dX11_says_12 : decode cX11_says 12 = .ok (.bipush 40, 2) := by decide +kernel
theorem dX11_says_14 : decode cX11_says 14 = .ok (.invokestatic 68, 3) := by decide +kernel
theorem dX11_says_17 : decode cX11_says 17 = .ok (.ifCond .eq 27, 3) := by decide +kernel
theorem dX11_says_20 : decode cX11_says 20 = .ok (.iload 5, 2) := by decide +kernel
theorem dX11_says_22 : decode cX11_says 22 = .ok (.iconst 0, 1) := by decide +kernel
theorem dX11_says_23 : decode cX11_says 23 = .ok (.bipush 9, 2) := by decide +kernel
theorem dX11_says_25 : decode cX11_says 25 = .ok (.invokestatic 68, 3) := by decide +kernel
theorem dX11_says_28 : decode cX11_says 28 = .ok (.ifCond .eq 16, 3) := by decide +kernel
theorem dX11_says_31 : decode cX11_says 31 = .ok (.iload_n 1, 1) := by decide +kernel
theorem dX11_says_32 : decode cX11_says 32 = .ok (.iload_n 2, 1) := by decide +kernel
theorem dX11_says_33 : decode cX11_says 33 = .ok (.iload_n 3, 1) := by decide +kernel
theorem dX11_says_34 : decode cX11_says 34 = .ok (.iload 4, 2) := by decide +kernel
theorem dX11_says_36 : decode cX11_says 36 = .ok (.iload 5, 2) := by decide +kernel
theorem dX11_says_38 : decode cX11_says 38 = .ok (.invokestatic 232, 3) := by decide +kernel
theorem dX11_says_41 : decode cX11_says 41 = .ok (.goto 5, 3) := by decide +kernel
theorem dX11_says_44 : decode cX11_says 44 = .ok (.bipush (-2), 2) := by decide +kernel
theorem dX11_says_46 : decode cX11_says 46 = .ok (.ireturn, 1) := by decide +kernel
theorem dX11_missesOf_0 : decode cX11_missesOf 0 = .ok (.iconst 0, 1) := by decide +kernel
theorem dX11_missesOf_1 : decode cX11_missesOf 1 = .ok (.istore 4, 2) := by decide +kernel
theorem dX11_missesOf_3 : decode cX11_missesOf 3 = .ok (.iconst 0, 1) := by decide +kernel
theorem dX11_missesOf_4 : decode cX11_missesOf 4 = .ok (.istore 5, 2) := by decide +kernel
theorem dX11_missesOf_6 : decode cX11_missesOf 6 = .ok (.iload 5, 2) := by decide +kernel
theorem dX11_missesOf_8 : decode cX11_missesOf 8 = .ok (.aload_n 0, 1) := by decide +kernel
theorem dX11_missesOf_9 : decode cX11_missesOf 9 = .ok (.getfield 226, 3) := by decide +kernel
theorem dX11_missesOf_12 : decode cX11_missesOf 12 = .ok (.if_icmp .ge 45, 3) := by decide +kernel
theorem dX11_missesOf_15 : decode cX11_missesOf 15 = .ok (.iload 4, 2) := by decide +kernel
theorem dX11_missesOf_17 : decode cX11_missesOf 17 = .ok (.iload_n 1, 1) := by decide +kernel
theorem dX11_missesOf_18 : decode cX11_missesOf 18 = .ok (.iload_n 2, 1) := by decide +kernel
theorem dX11_missesOf_19 : decode cX11_missesOf 19 = .ok (.iload_n 3, 1) := by decide +kernel
theorem dX11_missesOf_20 : decode cX11_missesOf 20 = .ok (.aload_n 0, 1) := by decide +kernel
theorem dX11_missesOf_21 : decode cX11_missesOf 21 = .ok (.getfield 41, 3) := by decide +kernel
theorem dX11_missesOf_24 : decode cX11_missesOf 24 = .ok (.iload 5, 2) := by decide +kernel
theorem dX11_missesOf_26 : decode cX11_missesOf 26 = .ok (.iaload, 1) := by decide +kernel
theorem dX11_missesOf_27 : decode cX11_missesOf 27 = .ok (.aload_n 0, 1) := by decide +kernel
theorem dX11_missesOf_28 : decode cX11_missesOf 28 = .ok (.getfield 44, 3) := by decide +kernel
theorem dX11_missesOf_31 : decode cX11_missesOf 31 = .ok (.iload 5, 2) := by decide +kernel
theorem dX11_missesOf_33 : decode cX11_missesOf 33 = .ok (.iaload, 1) := by decide +kernel
theorem dX11_missesOf_34 : decode cX11_missesOf 34 = .ok (.invokestatic 232, 3) := by decide +kernel
theorem dX11_missesOf_37 : decode cX11_missesOf 37 = .ok (.aload_n 0, 1) := by decide +kernel
theorem dX11_missesOf_38 : decode cX11_missesOf 38 = .ok (.getfield 47, 3) := by decide +kernel
theorem dX11_missesOf_41 : decode cX11_missesOf 41 = .ok (.iload 5, 2) := by decide +kernel
theorem dX11_missesOf_43 : decode cX11_missesOf 43 = .ok (.iaload, 1) := by decide +kernel
theorem dX11_missesOf_44 : decode cX11_missesOf 44 = .ok (.isub, 1) := by decide +kernel
theorem dX11_missesOf_45 : decode cX11_missesOf 45 = .ok (.invokestatic 236, 3) := by decide +kernel
theorem dX11_missesOf_48 : decode cX11_missesOf 48 = .ok (.iadd, 1) := by decide +kernel
theorem dX11_missesOf_49 : decode cX11_missesOf 49 = .ok (.istore 4, 2) := by decide +kernel
theorem dX11_missesOf_51 : decode cX11_missesOf 51 = .ok (.iinc 5 1, 3) := by decide +kernel
theorem dX11_missesOf_54 : decode cX11_missesOf 54 = .ok (.goto (-48), 3) := by decide +kernel
theorem dX11_missesOf_57 : decode cX11_missesOf 57 = .ok (.iload 4, 2) := by decide +kernel
theorem dX11_missesOf_59 : decode cX11_missesOf 59 = .ok (.ireturn, 1) := by decide +kernel
theorem dX11_misses_0 : decode cX11_misses 0 = .ok (.iload_n 1, 1) := by decide +kernel
theorem dX11_misses_1 : decode cX11_misses 1 = .ok (.iload_n 2, 1) := by decide +kernel
theorem dX11_misses_2 : decode cX11_misses 2 = .ok (.iload_n 3, 1) := by decide +kernel
theorem dX11_misses_3 : decode cX11_misses 3 = .ok (.invokestatic 229, 3) := by decide +kernel
theorem dX11_misses_6 : decode cX11_misses 6 = .ok (.ifCond .eq 13, 3) := by decide +kernel
theorem dX11_misses_9 : decode cX11_misses 9 = .ok (.aload_n 0, 1) := by decide +kernel
theorem dX11_misses_10 : decode cX11_misses 10 = .ok (.iload_n 1, 1) := by decide +kernel
theorem dX11_misses_11 : decode cX11_misses 11 = .ok (.iload_n 2, 1) := by decide +kernel
theorem dX11_misses_12 : decode cX11_misses 12 = .ok (.iload_n 3, 1) := by decide +kernel
theorem dX11_misses_13 : decode cX11_misses 13 = .ok (.invokevirtual 239, 3) := by decide +kernel
theorem dX11_misses_16 : decode cX11_misses 16 = .ok (.goto 5, 3) := by decide +kernel
theorem dX11_misses_19 : decode cX11_misses 19 = .ok (.bipush (-2), 2) := by decide +kernel
theorem dX11_misses_21 : decode cX11_misses 21 = .ok (.ireturn, 1) := by decide +kernel
theorem dX11_fitsNow_0 : decode cX11_fitsNow 0 = .ok (.aload_n 0, 1) := by decide +kernel
theorem dX11_fitsNow_1 : decode cX11_fitsNow 1 = .ok (.getfield 226, 3) := by decide +kernel
theorem dX11_fitsNow_4 : decode cX11_fitsNow 4 = .ok (.ifCond .ne 6, 3) := by decide +kernel
theorem dX11_fitsNow_7 : decode cX11_fitsNow 7 = .ok (.bipush (-3), 2) := by decide +kernel
theorem dX11_fitsNow_9 : decode cX11_fitsNow 9 = .ok (.ireturn, 1) := by decide +kernel
theorem dX11_fitsNow_10 : decode cX11_fitsNow 10 = .ok (.iconst 0, 1) := by decide +kernel
theorem dX11_fitsNow_11 : decode cX11_fitsNow 11 = .ok (.istore_n 2, 1) := by decide +kernel
theorem dX11_fitsNow_12 : decode cX11_fitsNow 12 = .ok (.aload_n 0, 1) := by decide +kernel
theorem dX11_fitsNow_13 : decode cX11_fitsNow 13 = .ok (.iconst 0, 1) := by decide +kernel
theorem dX11_fitsNow_14 : decode cX11_fitsNow 14 = .ok (.iconst 0, 1) := by decide +kernel
theorem dX11_fitsNow_15 : decode cX11_fitsNow 15 = .ok (.iconst 0, 1) := by decide +kernel
theorem dX11_fitsNow_16 : decode cX11_fitsNow 16 = .ok (.invokevirtual 239, 3) := by decide +kernel
theorem dX11_fitsNow_19 : decode cX11_fitsNow 19 = .ok (.istore_n 3, 1) := by decide +kernel
theorem dX11_fitsNow_20 : decode cX11_fitsNow 20 = .ok (.iconst 1, 1) := by decide +kernel
theorem dX11_fitsNow_21 : decode cX11_fitsNow 21 = .ok (.istore 4, 2) := by decide +kernel
theorem dX11_fitsNow_23 : decode cX11_fitsNow 23 = .ok (.iload 4, 2) := by decide +kernel
theorem dX11_fitsNow_25 : decode cX11_fitsNow 25 = .ok (.sipush 400, 3) := by decide +kernel
theorem dX11_fitsNow_28 : decode cX11_fitsNow 28 = .ok (.if_icmp .ge 57, 3) := by decide +kernel
theorem dX11_fitsNow_31 : decode cX11_fitsNow 31 = .ok (.aload_n 0, 1) := by decide +kernel
theorem dX11_fitsNow_32 : decode cX11_fitsNow 32 = .ok (.iload 4, 2) := by decide +kernel
theorem dX11_fitsNow_34 : decode cX11_fitsNow 34 = .ok (.bipush 40, 2) := by decide +kernel
theorem dX11_fitsNow_36 : decode cX11_fitsNow 36 = .ok (.idiv, 1) := by decide +kernel
theorem dX11_fitsNow_37 : decode cX11_fitsNow 37 = .ok (.iload 4, 2) := by decide +kernel
theorem dX11_fitsNow_39 : decode cX11_fitsNow 39 = .ok (.iconst 4, 1) := by decide +kernel
theorem dX11_fitsNow_40 : decode cX11_fitsNow 40 = .ok (.idiv, 1) := by decide +kernel
theorem dX11_fitsNow_41 : decode cX11_fitsNow 41 = .ok (.bipush 10, 2) := by decide +kernel
theorem dX11_fitsNow_43 : decode cX11_fitsNow 43 = .ok (.irem, 1) := by decide +kernel
theorem dX11_fitsNow_44 : decode cX11_fitsNow 44 = .ok (.iload 4, 2) := by decide +kernel
theorem dX11_fitsNow_46 : decode cX11_fitsNow 46 = .ok (.iconst 4, 1) := by decide +kernel
theorem dX11_fitsNow_47 : decode cX11_fitsNow 47 = .ok (.irem, 1) := by decide +kernel
theorem dX11_fitsNow_48 : decode cX11_fitsNow 48 = .ok (.invokevirtual 239, 3) := by decide +kernel
theorem dX11_fitsNow_51 : decode cX11_fitsNow 51 = .ok (.istore 5, 2) := by decide +kernel
theorem dX11_fitsNow_53 : decode cX11_fitsNow 53 = .ok (.iload 5, 2) := by decide +kernel
theorem dX11_fitsNow_55 : decode cX11_fitsNow 55 = .ok (.iload_n 3, 1) := by decide +kernel
theorem dX11_fitsNow_56 : decode cX11_fitsNow 56 = .ok (.if_icmp .ge 8, 3) := by decide +kernel
theorem dX11_fitsNow_59 : decode cX11_fitsNow 59 = .ok (.iload 4, 2) := by decide +kernel
theorem dX11_fitsNow_61 : decode cX11_fitsNow 61 = .ok (.goto 4, 3) := by decide +kernel
theorem dX11_fitsNow_64 : decode cX11_fitsNow 64 = .ok (.iload_n 2, 1) := by decide +kernel
theorem dX11_fitsNow_65 : decode cX11_fitsNow 65 = .ok (.istore_n 2, 1) := by decide +kernel
theorem dX11_fitsNow_66 : decode cX11_fitsNow 66 = .ok (.iload 5, 2) := by decide +kernel
theorem dX11_fitsNow_68 : decode cX11_fitsNow 68 = .ok (.iload_n 3, 1) := by decide +kernel
theorem dX11_fitsNow_69 : decode cX11_fitsNow 69 = .ok (.if_icmp .ge 8, 3) := by decide +kernel
theorem dX11_fitsNow_72 : decode cX11_fitsNow 72 = .ok (.iload 5, 2) := by decide +kernel
theorem dX11_fitsNow_74 : decode cX11_fitsNow 74 = .ok (.goto 4, 3) := by decide +kernel
theorem dX11_fitsNow_77 : decode cX11_fitsNow 77 = .ok (.iload_n 3, 1) := by decide +kernel
theorem dX11_fitsNow_78 : decode cX11_fitsNow 78 = .ok (.istore_n 3, 1) := by decide +kernel
theorem dX11_fitsNow_79 : decode cX11_fitsNow 79 = .ok (.iinc 4 1, 3) := by decide +kernel
theorem dX11_fitsNow_82 : decode cX11_fitsNow 82 = .ok (.goto (-59), 3) := by decide +kernel
theorem dX11_fitsNow_85 : decode cX11_fitsNow 85 = .ok (.iload_n 1, 1) := by decide +kernel
theorem dX11_fitsNow_86 : decode cX11_fitsNow 86 = .ok (.ifCond .ne 10, 3) := by decide +kernel
theorem dX11_fitsNow_89 : decode cX11_fitsNow 89 = .ok (.iload_n 2, 1) := by decide +kernel
theorem dX11_fitsNow_90 : decode cX11_fitsNow 90 = .ok (.bipush 40, 2) := by decide +kernel
theorem dX11_fitsNow_92 : decode cX11_fitsNow 92 = .ok (.idiv, 1) := by decide +kernel
theorem dX11_fitsNow_93 : decode cX11_fitsNow 93 = .ok (.goto 29, 3) := by decide +kernel
theorem dX11_fitsNow_96 : decode cX11_fitsNow 96 = .ok (.iload_n 1, 1) := by decide +kernel
theorem dX11_fitsNow_97 : decode cX11_fitsNow 97 = .ok (.iconst 1, 1) := by decide +kernel
theorem dX11_fitsNow_98 : decode cX11_fitsNow 98 = .ok (.if_icmp .ne 12, 3) := by decide +kernel
theorem dX11_fitsNow_101 : decode cX11_fitsNow 101 = .ok (.iload_n 2, 1) := by decide +kernel
theorem dX11_fitsNow_102 : decode cX11_fitsNow 102 = .ok (.iconst 4, 1) := by decide +kernel
theorem dX11_fitsNow_103 : decode cX11_fitsNow 103 = .ok (.idiv, 1) := by decide +kernel
theorem dX11_fitsNow_104 : decode cX11_fitsNow 104 = .ok (.bipush 10, 2) := by decide +kernel
theorem dX11_fitsNow_106 : decode cX11_fitsNow 106 = .ok (.irem, 1) := by decide +kernel
theorem dX11_fitsNow_107 : decode cX11_fitsNow 107 = .ok (.goto 15, 3) := by decide +kernel
theorem dX11_fitsNow_110 : decode cX11_fitsNow 110 = .ok (.iload_n 1, 1) := by decide +kernel
theorem dX11_fitsNow_111 : decode cX11_fitsNow 111 = .ok (.iconst 2, 1) := by decide +kernel
theorem dX11_fitsNow_112 : decode cX11_fitsNow 112 = .ok (.if_icmp .ne 9, 3) := by decide +kernel
theorem dX11_fitsNow_115 : decode cX11_fitsNow 115 = .ok (.iload_n 2, 1) := by decide +kernel
theorem dX11_fitsNow_116 : decode cX11_fitsNow 116 = .ok (.iconst 4, 1) := by decide +kernel
theorem dX11_fitsNow_117 : decode cX11_fitsNow 117 = .ok (.irem, 1) := by decide +kernel
theorem dX11_fitsNow_118 : decode cX11_fitsNow 118 = .ok (.goto 4, 3) := by decide +kernel
theorem dX11_fitsNow_121 : decode cX11_fitsNow 121 = .ok (.iload_n 3, 1) := by decide +kernel
theorem dX11_fitsNow_122 : decode cX11_fitsNow 122 = .ok (.ireturn, 1) := by decide +kernel
theorem dX11_fits_0 : decode cX11_fits 0 = .ok (.iload_n 1, 1) := by decide +kernel
theorem dX11_fits_1 : decode cX11_fits 1 = .ok (.iconst 0, 1) := by decide +kernel
theorem dX11_fits_2 : decode cX11_fits 2 = .ok (.iconst 3, 1) := by decide +kernel
theorem dX11_fits_3 : decode cX11_fits 3 = .ok (.invokestatic 68, 3) := by decide +kernel
theorem dX11_fits_6 : decode cX11_fits 6 = .ok (.ifCond .eq 11, 3) := by decide +kernel
theorem dX11_fits_9 : decode cX11_fits 9 = .ok (.aload_n 0, 1) := by decide +kernel
theorem dX11_fits_10 : decode cX11_fits 10 = .ok (.iload_n 1, 1) := by decide +kernel
theorem dX11_fits_11 : decode cX11_fits 11 = .ok (.invokevirtual 242, 3) := by decide +kernel
theorem dX11_fits_14 : decode cX11_fits 14 = .ok (.goto 5, 3) := by decide +kernel
theorem dX11_fits_17 : decode cX11_fits 17 = .ok (.bipush (-2), 2) := by decide +kernel
theorem dX11_fits_19 : decode cX11_fits 19 = .ok (.ireturn, 1) := by decide +kernel
theorem dX11_sheet_0 : decode cX11_sheet 0 = .ok (.iload_n 1, 1) := by decide +kernel
theorem dX11_sheet_1 : decode cX11_sheet 1 = .ok (.invokestatic 129, 3) := by decide +kernel
theorem dX11_sheet_4 : decode cX11_sheet 4 = .ok (.ifCond .eq 18, 3) := by decide +kernel
theorem dX11_sheet_7 : decode cX11_sheet 7 = .ok (.iload_n 2, 1) := by decide +kernel
theorem dX11_sheet_8 : decode cX11_sheet 8 = .ok (.iconst 0, 1) := by decide +kernel
theorem dX11_sheet_9 : decode cX11_sheet 9 = .ok (.iconst 2, 1) := by decide +kernel
theorem dX11_sheet_10 : decode cX11_sheet 10 = .ok (.invokestatic 68, 3) := by decide +kernel
theorem dX11_sheet_13 : decode cX11_sheet 13 = .ok (.ifCond .eq 9, 3) := by decide +kernel
theorem dX11_sheet_16 : decode cX11_sheet 16 = .ok (.iload_n 3, 1) := by decide +kernel
theorem dX11_sheet_17 : decode cX11_sheet 17 = .ok (.bipush 48, 2) := by decide +kernel
theorem dX11_sheet_19 : decode cX11_sheet 19 = .ok (.if_icmp .le 6, 3) := by decide +kernel
theorem dX11_sheet_22 : decode cX11_sheet 22 = .ok (.bipush (-2), 2) := by decide +kernel
theorem dX11_sheet_24 : decode cX11_sheet 24 = .ok (.ireturn, 1) := by decide +kernel
theorem dX11_sheet_25 : decode cX11_sheet 25 = .ok (.iload_n 3, 1) := by decide +kernel
theorem dX11_sheet_26 : decode cX11_sheet 26 = .ok (.ifCond .ge 9, 3) := by decide +kernel
theorem dX11_sheet_29 : decode cX11_sheet 29 = .ok (.aload_n 0, 1) := by decide +kernel
theorem dX11_sheet_30 : decode cX11_sheet 30 = .ok (.iconst 5, 1) := by decide +kernel
theorem dX11_sheet_31 : decode cX11_sheet 31 = .ok (.invokevirtual 132, 3) := by decide +kernel
theorem dX11_sheet_34 : decode cX11_sheet 34 = .ok (.ireturn, 1) := by decide +kernel
theorem dX11_sheet_35 : decode cX11_sheet 35 = .ok (.aload_n 0, 1) := by decide +kernel
theorem dX11_sheet_36 : decode cX11_sheet 36 = .ok (.getfield 50, 3) := by decide +kernel
theorem dX11_sheet_39 : decode cX11_sheet 39 = .ok (.iload_n 1, 1) := by decide +kernel
theorem dX11_sheet_40 : decode cX11_sheet 40 = .ok (.iconst 1, 1) := by decide +kernel
theorem dX11_sheet_41 : decode cX11_sheet 41 = .ok (.bastore, 1) := by decide +kernel
theorem dX11_sheet_42 : decode cX11_sheet 42 = .ok (.aload_n 0, 1) := by decide +kernel
theorem dX11_sheet_43 : decode cX11_sheet 43 = .ok (.getfield 54, 3) := by decide +kernel
theorem dX11_sheet_46 : decode cX11_sheet 46 = .ok (.iload_n 1, 1) := by decide +kernel
theorem dX11_sheet_47 : decode cX11_sheet 47 = .ok (.iload_n 2, 1) := by decide +kernel
theorem dX11_sheet_48 : decode cX11_sheet 48 = .ok (.iastore, 1) := by decide +kernel
theorem dX11_sheet_49 : decode cX11_sheet 49 = .ok (.aload_n 0, 1) := by decide +kernel
theorem dX11_sheet_50 : decode cX11_sheet 50 = .ok (.getfield 57, 3) := by decide +kernel
theorem dX11_sheet_53 : decode cX11_sheet 53 = .ok (.iload_n 1, 1) := by decide +kernel
theorem dX11_sheet_54 : decode cX11_sheet 54 = .ok (.iload_n 3, 1) := by decide +kernel
theorem dX11_sheet_55 : decode cX11_sheet 55 = .ok (.iastore, 1) := by decide +kernel
theorem dX11_sheet_56 : decode cX11_sheet 56 = .ok (.iconst 0, 1) := by decide +kernel
theorem dX11_sheet_57 : decode cX11_sheet 57 = .ok (.istore 4, 2) := by decide +kernel
theorem dX11_sheet_59 : decode cX11_sheet 59 = .ok (.iload 4, 2) := by decide +kernel
theorem dX11_sheet_61 : decode cX11_sheet 61 = .ok (.bipush 48, 2) := by decide +kernel
theorem dX11_sheet_63 : decode cX11_sheet 63 = .ok (.if_icmp .ge 22, 3) := by decide +kernel
theorem dX11_sheet_66 : decode cX11_sheet 66 = .ok (.aload_n 0, 1) := by decide +kernel
theorem dX11_sheet_67 : decode cX11_sheet 67 = .ok (.getfield 60, 3) := by decide +kernel
theorem dX11_sheet_70 : decode cX11_sheet 70 = .ok (.bipush 48, 2) := by decide +kernel
theorem dX11_sheet_72 : decode cX11_sheet 72 = .ok (.iload_n 1, 1) := by decide +kernel
theorem dX11_sheet_73 : decode cX11_sheet 73 = .ok (.imul, 1) := by decide +kernel
theorem dX11_sheet_74 : decode cX11_sheet 74 = .ok (.iload 4, 2) := by decide +kernel
theorem dX11_sheet_76 : decode cX11_sheet 76 = .ok (.iadd, 1) := by decide +kernel
theorem dX11_sheet_77 : decode cX11_sheet 77 = .ok (.iconst 0, 1) := by decide +kernel
theorem dX11_sheet_78 : decode cX11_sheet 78 = .ok (.iastore, 1) := by decide +kernel
theorem dX11_sheet_79 : decode cX11_sheet 79 = .ok (.iinc 4 1, 3) := by decide +kernel
theorem dX11_sheet_82 : decode cX11_sheet 82 = .ok (.goto (-23), 3) := by decide +kernel
theorem dX11_sheet_85 : decode cX11_sheet 85 = .ok (.iload_n 3, 1) := by decide +kernel
theorem dX11_sheet_86 : decode cX11_sheet 86 = .ok (.ireturn, 1) := by decide +kernel
theorem dX11_lose_0 : decode cX11_lose 0 = .ok (.iload_n 1, 1) := by decide +kernel
theorem dX11_lose_1 : decode cX11_lose 1 = .ok (.invokestatic 129, 3) := by decide +kernel
theorem dX11_lose_4 : decode cX11_lose 4 = .ok (.ifCond .ne 6, 3) := by decide +kernel
theorem dX11_lose_7 : decode cX11_lose 7 = .ok (.bipush (-2), 2) := by decide +kernel
theorem dX11_lose_9 : decode cX11_lose 9 = .ok (.ireturn, 1) := by decide +kernel
theorem dX11_lose_10 : decode cX11_lose 10 = .ok (.aload_n 0, 1) := by decide +kernel
theorem dX11_lose_11 : decode cX11_lose 11 = .ok (.getfield 50, 3) := by decide +kernel
theorem dX11_lose_14 : decode cX11_lose 14 = .ok (.iload_n 1, 1) := by decide +kernel
theorem dX11_lose_15 : decode cX11_lose 15 = .ok (.baload, 1) := by decide +kernel
theorem dX11_lose_16 : decode cX11_lose 16 = .ok (.ifCond .ne 9, 3) := by decide +kernel
theorem dX11_lose_19 : decode cX11_lose 19 = .ok (.aload_n 0, 1) := by decide +kernel
theorem dX11_lose_20 : decode cX11_lose 20 = .ok (.iconst 1, 1) := by decide +kernel
theorem dX11_lose_21 : decode cX11_lose 21 = .ok (.invokevirtual 132, 3) := by decide +kernel
theorem dX11_lose_24 : decode cX11_lose 24 = .ok (.ireturn, 1) := by decide +kernel
theorem dX11_lose_25 : decode cX11_lose 25 = .ok (.aload_n 0, 1) := by decide +kernel
theorem dX11_lose_26 : decode cX11_lose 26 = .ok (.getfield 50, 3) := by decide +kernel
theorem dX11_lose_29 : decode cX11_lose 29 = .ok (.iload_n 1, 1) := by decide +kernel
theorem dX11_lose_30 : decode cX11_lose 30 = .ok (.iconst 0, 1) := by decide +kernel
theorem dX11_lose_31 : decode cX11_lose 31 = .ok (.bastore, 1) := by decide +kernel
theorem dX11_lose_32 : decode cX11_lose 32 = .ok (.aload_n 0, 1) := by decide +kernel
theorem dX11_lose_33 : decode cX11_lose 33 = .ok (.getfield 57, 3) := by decide +kernel
theorem dX11_lose_36 : decode cX11_lose 36 = .ok (.iload_n 1, 1) := by decide +kernel
theorem dX11_lose_37 : decode cX11_lose 37 = .ok (.iaload, 1) := by decide +kernel
theorem dX11_lose_38 : decode cX11_lose 38 = .ok (.ireturn, 1) := by decide +kernel
theorem dX11_lacks_0 : decode cX11_lacks 0 = .ok (.aload_n 0, 1) := by decide +kernel
theorem dX11_lacks_1 : decode cX11_lacks 1 = .ok (.getfield 50, 3) := by decide +kernel
theorem dX11_lacks_4 : decode cX11_lacks 4 = .ok (.iload_n 1, 1) := by decide +kernel
theorem dX11_lacks_5 : decode cX11_lacks 5 = .ok (.baload, 1) := by decide +kernel
theorem dX11_lacks_6 : decode cX11_lacks 6 = .ok (.ifCond .ne 7, 3) := by decide +kernel
theorem dX11_lacks_9 : decode cX11_lacks 9 = .ok (.iconst 1, 1) := by decide +kernel
theorem dX11_lacks_10 : decode cX11_lacks 10 = .ok (.goto 38, 3) := by decide +kernel
theorem dX11_lacks_13 : decode cX11_lacks 13 = .ok (.aload_n 0, 1) := by decide +kernel
theorem dX11_lacks_14 : decode cX11_lacks 14 = .ok (.getfield 54, 3) := by decide +kernel
theorem dX11_lacks_17 : decode cX11_lacks 17 = .ok (.iload_n 1, 1) := by decide +kernel
theorem dX11_lacks_18 : decode cX11_lacks 18 = .ok (.iaload, 1) := by decide +kernel
theorem dX11_lacks_19 : decode cX11_lacks 19 = .ok (.iload_n 2, 1) := by decide +kernel
theorem dX11_lacks_20 : decode cX11_lacks 20 = .ok (.if_icmp .eq 7, 3) := by decide +kernel
theorem dX11_lacks_23 : decode cX11_lacks 23 = .ok (.iconst 3, 1) := by decide +kernel
theorem dX11_lacks_24 : decode cX11_lacks 24 = .ok (.goto 24, 3) := by decide +kernel
theorem dX11_lacks_27 : decode cX11_lacks 27 = .ok (.iload_n 3, 1) := by decide +kernel
theorem dX11_lacks_28 : decode cX11_lacks 28 = .ok (.iconst 0, 1) := by decide +kernel
theorem dX11_lacks_29 : decode cX11_lacks 29 = .ok (.aload_n 0, 1) := by decide +kernel
theorem dX11_lacks_30 : decode cX11_lacks 30 = .ok (.getfield 57, 3) := by decide +kernel
theorem dX11_lacks_33 : decode cX11_lacks 33 = .ok (.iload_n 1, 1) := by decide +kernel
theorem dX11_lacks_34 : decode cX11_lacks 34 = .ok (.iaload, 1) := by decide +kernel
theorem dX11_lacks_35 : decode cX11_lacks 35 = .ok (.iconst 1, 1) := by decide +kernel
theorem dX11_lacks_36 : decode cX11_lacks 36 = .ok (.isub, 1) := by decide +kernel
theorem dX11_lacks_37 : decode cX11_lacks 37 = .ok (.invokestatic 68, 3) := by decide +kernel
theorem dX11_lacks_40 : decode cX11_lacks 40 = .ok (.ifCond .eq 7, 3) := by decide +kernel
theorem dX11_lacks_43 : decode cX11_lacks 43 = .ok (.iconst 0, 1) := by decide +kernel
theorem dX11_lacks_44 : decode cX11_lacks 44 = .ok (.goto 4, 3) := by decide +kernel
theorem dX11_lacks_47 : decode cX11_lacks 47 = .ok (.iconst 2, 1) := by decide +kernel
theorem dX11_lacks_48 : decode cX11_lacks 48 = .ok (.ireturn, 1) := by decide +kernel
theorem dX11_keep_0 : decode cX11_keep 0 = .ok (.aload_n 0, 1) := by decide +kernel
theorem dX11_keep_1 : decode cX11_keep 1 = .ok (.getfield 60, 3) := by decide +kernel
theorem dX11_keep_4 : decode cX11_keep 4 = .ok (.bipush 48, 2) := by decide +kernel
theorem dX11_keep_6 : decode cX11_keep 6 = .ok (.iload_n 1, 1) := by decide +kernel
theorem dX11_keep_7 : decode cX11_keep 7 = .ok (.imul, 1) := by decide +kernel
theorem dX11_keep_8 : decode cX11_keep 8 = .ok (.iload_n 2, 1) := by decide +kernel
theorem dX11_keep_9 : decode cX11_keep 9 = .ok (.iadd, 1) := by decide +kernel
theorem dX11_keep_10 : decode cX11_keep 10 = .ok (.aload_n 0, 1) := by decide +kernel
theorem dX11_keep_11 : decode cX11_keep 11 = .ok (.getfield 54, 3) := by decide +kernel
theorem dX11_keep_14 : decode cX11_keep 14 = .ok (.iload_n 1, 1) := by decide +kernel
theorem dX11_keep_15 : decode cX11_keep 15 = .ok (.iaload, 1) := by decide +kernel
theorem dX11_keep_16 : decode cX11_keep 16 = .ok (.ifCond .ne 8, 3) := by decide +kernel
theorem dX11_keep_19 : decode cX11_keep 19 = .ok (.iload_n 3, 1) := by decide +kernel
theorem dX11_keep_20 : decode cX11_keep 20 = .ok (.i2b, 1) := by decide +kernel
theorem dX11_keep_21 : decode cX11_keep 21 = .ok (.goto 19, 3) := by decide +kernel
theorem dX11_keep_24 : decode cX11_keep 24 = .ok (.aload_n 0, 1) := by decide +kernel
theorem dX11_keep_25 : decode cX11_keep 25 = .ok (.getfield 54, 3) := by decide +kernel
theorem dX11_keep_28 : decode cX11_keep 28 = .ok (.iload_n 1, 1) := by decide +kernel
theorem dX11_keep_29 : decode cX11_keep 29 = .ok (.iaload, 1) := by decide +kernel
theorem dX11_keep_30 : decode cX11_keep 30 = .ok (.iconst 1, 1) := by decide +kernel
theorem dX11_keep_31 : decode cX11_keep 31 = .ok (.if_icmp .ne 8, 3) := by decide +kernel
theorem dX11_keep_34 : decode cX11_keep 34 = .ok (.iload_n 3, 1) := by decide +kernel
theorem dX11_keep_35 : decode cX11_keep 35 = .ok (.i2s, 1) := by decide +kernel
theorem dX11_keep_36 : decode cX11_keep 36 = .ok (.goto 4, 3) := by decide +kernel
theorem dX11_keep_39 : decode cX11_keep 39 = .ok (.iload_n 3, 1) := by decide +kernel
theorem dX11_keep_40 : decode cX11_keep 40 = .ok (.iastore, 1) := by decide +kernel
theorem dX11_keep_41 : decode cX11_keep 41 = .ok (.return_, 1) := by decide +kernel
theorem dX11_put_0 : decode cX11_put 0 = .ok (.iload_n 1, 1) := by decide +kernel
theorem dX11_put_1 : decode cX11_put 1 = .ok (.invokestatic 129, 3) := by decide +kernel
theorem dX11_put_4 : decode cX11_put 4 = .ok (.ifCond .eq 12, 3) := by decide +kernel
theorem dX11_put_7 : decode cX11_put 7 = .ok (.iload_n 2, 1) := by decide +kernel
theorem dX11_put_8 : decode cX11_put 8 = .ok (.iconst 0, 1) := by decide +kernel
theorem dX11_put_9 : decode cX11_put 9 = .ok (.iconst 2, 1) := by decide +kernel
theorem dX11_put_10 : decode cX11_put 10 = .ok (.invokestatic 68, 3) := by decide +kernel
theorem dX11_put_13 : decode cX11_put 13 = .ok (.ifCond .ne 6, 3) := by decide +kernel
theorem dX11_put_16 : decode cX11_put 16 = .ok (.bipush (-2), 2) := by decide +kernel
theorem dX11_put_18 : decode cX11_put 18 = .ok (.ireturn, 1) := by decide +kernel
theorem dX11_put_19 : decode cX11_put 19 = .ok (.aload_n 0, 1) := by decide +kernel
theorem dX11_put_20 : decode cX11_put 20 = .ok (.iload_n 1, 1) := by decide +kernel
theorem dX11_put_21 : decode cX11_put 21 = .ok (.iload_n 2, 1) := by decide +kernel
theorem dX11_put_22 : decode cX11_put 22 = .ok (.iload_n 3, 1) := by decide +kernel
theorem dX11_put_23 : decode cX11_put 23 = .ok (.invokevirtual 248, 3) := by decide +kernel
theorem dX11_put_26 : decode cX11_put 26 = .ok (.istore 5, 2) := by decide +kernel
theorem dX11_put_28 : decode cX11_put 28 = .ok (.iload 5, 2) := by decide +kernel
theorem dX11_put_30 : decode cX11_put 30 = .ok (.ifCond .le 10, 3) := by decide +kernel
theorem dX11_put_33 : decode cX11_put 33 = .ok (.aload_n 0, 1) := by decide +kernel
theorem dX11_put_34 : decode cX11_put 34 = .ok (.iload 5, 2) := by decide +kernel
theorem dX11_put_36 : decode cX11_put 36 = .ok (.invokevirtual 132, 3) := by decide +kernel
theorem dX11_put_39 : decode cX11_put 39 = .ok (.ireturn, 1) := by decide +kernel
theorem dX11_put_40 : decode cX11_put 40 = .ok (.aload_n 0, 1) := by decide +kernel
theorem dX11_put_41 : decode cX11_put 41 = .ok (.iload_n 1, 1) := by decide +kernel
theorem dX11_put_42 : decode cX11_put 42 = .ok (.iload_n 3, 1) := by decide +kernel
theorem dX11_put_43 : decode cX11_put 43 = .ok (.iload 4, 2) := by decide +kernel
theorem dX11_put_45 : decode cX11_put 45 = .ok (.invokevirtual 251, 3) := by decide +kernel
theorem dX11_put_48 : decode cX11_put 48 = .ok (.iconst 1, 1) := by decide +kernel
theorem dX11_put_49 : decode cX11_put 49 = .ok (.ireturn, 1) := by decide +kernel
theorem dX11_get_0 : decode cX11_get 0 = .ok (.iload_n 1, 1) := by decide +kernel
theorem dX11_get_1 : decode cX11_get 1 = .ok (.invokestatic 129, 3) := by decide +kernel
theorem dX11_get_4 : decode cX11_get 4 = .ok (.ifCond .eq 12, 3) := by decide +kernel
theorem dX11_get_7 : decode cX11_get 7 = .ok (.iload_n 2, 1) := by decide +kernel
theorem dX11_get_8 : decode cX11_get 8 = .ok (.iconst 0, 1) := by decide +kernel
theorem dX11_get_9 : decode cX11_get 9 = .ok (.iconst 2, 1) := by decide +kernel
theorem dX11_get_10 : decode cX11_get 10 = .ok (.invokestatic 68, 3) := by decide +kernel
theorem dX11_get_13 : decode cX11_get 13 = .ok (.ifCond .ne 6, 3) := by decide +kernel
theorem dX11_get_16 : decode cX11_get 16 = .ok (.ldc 254, 2) := by decide +kernel
theorem dX11_get_18 : decode cX11_get 18 = .ok (.ireturn, 1) := by decide +kernel
theorem dX11_get_19 : decode cX11_get 19 = .ok (.aload_n 0, 1) := by decide +kernel
theorem dX11_get_20 : decode cX11_get 20 = .ok (.iload_n 1, 1) := by decide +kernel
theorem dX11_get_21 : decode cX11_get 21 = .ok (.iload_n 2, 1) := by decide +kernel
theorem dX11_get_22 : decode cX11_get 22 = .ok (.iload_n 3, 1) := by decide +kernel
theorem dX11_get_23 : decode cX11_get 23 = .ok (.invokevirtual 248, 3) := by decide +kernel
theorem dX11_get_26 : decode cX11_get 26 = .ok (.istore 4, 2) := by decide +kernel
theorem dX11_get_28 : decode cX11_get 28 = .ok (.iload 4, 2) := by decide +kernel
theorem dX11_get_30 : decode cX11_get 30 = .ok (.ifCond .le 12, 3) := by decide +kernel
theorem dX11_get_33 : decode cX11_get 33 = .ok (.aload_n 0, 1) := by decide +kernel
theorem dX11_get_34 : decode cX11_get 34 = .ok (.iload 4, 2) := by decide +kernel
theorem dX11_get_36 : decode cX11_get 36 = .ok (.putfield 245, 3) := by decide +kernel
theorem dX11_get_39 : decode cX11_get 39 = .ok (.ldc 254, 2) := by decide +kernel
theorem dX11_get_41 : decode cX11_get 41 = .ok (.ireturn, 1) := by decide +kernel
theorem dX11_get_42 : decode cX11_get 42 = .ok (.aload_n 0, 1) := by decide +kernel
theorem dX11_get_43 : decode cX11_get 43 = .ok (.getfield 60, 3) := by decide +kernel
theorem dX11_get_46 : decode cX11_get 46 = .ok (.bipush 48, 2) := by decide +kernel
theorem dX11_get_48 : decode cX11_get 48 = .ok (.iload_n 1, 1) := by decide +kernel
theorem dX11_get_49 : decode cX11_get 49 = .ok (.imul, 1) := by decide +kernel
theorem dX11_get_50 : decode cX11_get 50 = .ok (.iload_n 3, 1) := by decide +kernel
theorem dX11_get_51 : decode cX11_get 51 = .ok (.iadd, 1) := by decide +kernel
theorem dX11_get_52 : decode cX11_get 52 = .ok (.iaload, 1) := by decide +kernel
theorem dX11_get_53 : decode cX11_get 53 = .ok (.ireturn, 1) := by decide +kernel
theorem dX11_copy_0 : decode cX11_copy 0 = .ok (.iload_n 1, 1) := by decide +kernel
theorem dX11_copy_1 : decode cX11_copy 1 = .ok (.invokestatic 129, 3) := by decide +kernel
theorem dX11_copy_4 : decode cX11_copy 4 = .ok (.ifCond .eq 10, 3) := by decide +kernel
theorem dX11_copy_7 : decode cX11_copy 7 = .ok (.iload_n 3, 1) := by decide +kernel
theorem dX11_copy_8 : decode cX11_copy 8 = .ok (.invokestatic 129, 3) := by decide +kernel
theorem dX11_copy_11 : decode cX11_copy 11 = .ok (.ifCond .ne 6, 3) := by decide +kernel
theorem dX11_copy_14 : decode cX11_copy 14 = .ok (.bipush (-2), 2) := by decide +kernel
theorem dX11_copy_16 : decode cX11_copy 16 = .ok (.ireturn, 1) := by decide +kernel
theorem dX11_copy_17 : decode cX11_copy 17 = .ok (.aload_n 0, 1) := by decide +kernel
theorem dX11_copy_18 : decode cX11_copy 18 = .ok (.getfield 50, 3) := by decide +kernel
theorem dX11_copy_21 : decode cX11_copy 21 = .ok (.iload_n 1, 1) := by decide +kernel
theorem dX11_copy_22 : decode cX11_copy 22 = .ok (.baload, 1) := by decide +kernel
theorem dX11_copy_23 : decode cX11_copy 23 = .ok (.ifCond .eq 12, 3) := by decide +kernel
theorem dX11_copy_26 : decode cX11_copy 26 = .ok (.aload_n 0, 1) := by decide +kernel
theorem dX11_copy_27 : decode cX11_copy 27 = .ok (.getfield 50, 3) := by decide +kernel
theorem dX11_copy_30 : decode cX11_copy 30 = .ok (.iload_n 3, 1) := by decide +kernel
theorem dX11_copy_31 : decode cX11_copy 31 = .ok (.baload, 1) := by decide +kernel
theorem dX11_copy_32 : decode cX11_copy 32 = .ok (.ifCond .ne 9, 3) := by decide +kernel
theorem dX11_copy_35 : decode cX11_copy 35 = .ok (.aload_n 0, 1) := by decide +kernel
theorem dX11_copy_36 : decode cX11_copy 36 = .ok (.iconst 1, 1) := by decide +kernel
theorem dX11_copy_37 : decode cX11_copy 37 = .ok (.invokevirtual 132, 3) := by decide +kernel
theorem dX11_copy_40 : decode cX11_copy 40 = .ok (.ireturn, 1) := by decide +kernel
theorem dX11_copy_41 : decode cX11_copy 41 = .ok (.aload_n 0, 1) := by decide +kernel
theorem dX11_copy_42 : decode cX11_copy 42 = .ok (.getfield 54, 3) := by decide +kernel
theorem dX11_copy_45 : decode cX11_copy 45 = .ok (.iload_n 1, 1) := by decide +kernel
theorem dX11_copy_46 : decode cX11_copy 46 = .ok (.iaload, 1) := by decide +kernel
theorem dX11_copy_47 : decode cX11_copy 47 = .ok (.aload_n 0, 1) := by decide +kernel
theorem dX11_copy_48 : decode cX11_copy 48 = .ok (.getfield 54, 3) := by decide +kernel
theorem dX11_copy_51 : decode cX11_copy 51 = .ok (.iload_n 3, 1) := by decide +kernel
theorem dX11_copy_52 : decode cX11_copy 52 = .ok (.iaload, 1) := by decide +kernel
theorem dX11_copy_53 : decode cX11_copy 53 = .ok (.if_icmp .eq 9, 3) := by decide +kernel
theorem dX11_copy_56 : decode cX11_copy 56 = .ok (.aload_n 0, 1) := by decide +kernel
theorem dX11_copy_57 : decode cX11_copy 57 = .ok (.iconst 4, 1) := by decide +kernel
theorem dX11_copy_58 : decode cX11_copy 58 = .ok (.invokevirtual 132, 3) := by decide +kernel
theorem dX11_copy_61 : decode cX11_copy 61 = .ok (.ireturn, 1) := by decide +kernel
theorem dX11_copy_62 : decode cX11_copy 62 = .ok (.iload_n 2, 1) := by decide +kernel
theorem dX11_copy_63 : decode cX11_copy 63 = .ok (.ifCond .lt 48, 3) := by decide +kernel
theorem dX11_copy_66 : decode cX11_copy 66 = .ok (.iload 4, 2) := by decide +kernel
theorem dX11_copy_68 : decode cX11_copy 68 = .ok (.ifCond .lt 43, 3) := by decide +kernel
theorem dX11_copy_71 : decode cX11_copy 71 = .ok (.iload 5, 2) := by decide +kernel
theorem dX11_copy_73 : decode cX11_copy 73 = .ok (.ifCond .lt 38, 3) := by decide +kernel
theorem dX11_copy_76 : decode cX11_copy 76 = .ok (.iload_n 2, 1) := by decide +kernel
theorem dX11_copy_77 : decode cX11_copy 77 = .ok (.i2l, 1) := by decide +kernel
theorem dX11_copy_78 : decode cX11_copy 78 = .ok (.iload 5, 2) := by decide +kernel
theorem dX11_copy_80 : decode cX11_copy 80 = .ok (.i2l, 1) := by decide +kernel
theorem dX11_copy_81 : decode cX11_copy 81 = .ok (.ladd, 1) := by decide +kernel
theorem dX11_copy_82 : decode cX11_copy 82 = .ok (.aload_n 0, 1) := by decide +kernel
theorem dX11_copy_83 : decode cX11_copy 83 = .ok (.getfield 57, 3) := by decide +kernel
theorem dX11_copy_86 : decode cX11_copy 86 = .ok (.iload_n 1, 1) := by decide +kernel
theorem dX11_copy_87 : decode cX11_copy 87 = .ok (.iaload, 1) := by decide +kernel
theorem dX11_copy_88 : decode cX11_copy 88 = .ok (.i2l, 1) := by decide +kernel
theorem dX11_copy_89 : decode cX11_copy 89 = .ok (.lcmp, 1) := by decide +kernel
theorem dX11_copy_90 : decode cX11_copy 90 = .ok (.ifCond .gt 21, 3) := by decide +kernel
theorem dX11_copy_93 : decode cX11_copy 93 = .ok (.iload 4, 2) := by decide +kernel
theorem dX11_copy_95 : decode cX11_copy 95 = .ok (.i2l, 1) := by decide +kernel
theorem dX11_copy_96 : decode cX11_copy 96 = .ok (.iload 5, 2) := by decide +kernel
theorem dX11_copy_98 : decode cX11_copy 98 = .ok (.i2l, 1) := by decide +kernel
theorem dX11_copy_99 : decode cX11_copy 99 = .ok (.ladd, 1) := by decide +kernel
theorem dX11_copy_100 : decode cX11_copy 100 = .ok (.aload_n 0, 1) := by decide +kernel
theorem dX11_copy_101 : decode cX11_copy 101 = .ok (.getfield 57, 3) := by decide +kernel
theorem dX11_copy_104 : decode cX11_copy 104 = .ok (.iload_n 3, 1) := by decide +kernel
theorem dX11_copy_105 : decode cX11_copy 105 = .ok (.iaload, 1) := by decide +kernel
theorem dX11_copy_106 : decode cX11_copy 106 = .ok (.i2l, 1) := by decide +kernel
theorem dX11_copy_107 : decode cX11_copy 107 = .ok (.lcmp, 1) := by decide +kernel
theorem dX11_copy_108 : decode cX11_copy 108 = .ok (.ifCond .le 9, 3) := by decide +kernel
theorem dX11_copy_111 : decode cX11_copy 111 = .ok (.aload_n 0, 1) := by decide +kernel
theorem dX11_copy_112 : decode cX11_copy 112 = .ok (.iconst 2, 1) := by decide +kernel
theorem dX11_copy_113 : decode cX11_copy 113 = .ok (.invokevirtual 132, 3) := by decide +kernel
theorem dX11_copy_116 : decode cX11_copy 116 = .ok (.ireturn, 1) := by decide +kernel
theorem dX11_copy_117 : decode cX11_copy 117 = .ok (.iconst 0, 1) := by decide +kernel
theorem dX11_copy_118 : decode cX11_copy 118 = .ok (.istore 6, 2) := by decide +kernel
theorem dX11_copy_120 : decode cX11_copy 120 = .ok (.iload 6, 2) := by decide +kernel
theorem dX11_copy_122 : decode cX11_copy 122 = .ok (.iload 5, 2) := by decide +kernel
theorem dX11_copy_124 : decode cX11_copy 124 = .ok (.if_icmp .ge 30, 3) := by decide +kernel
theorem dX11_copy_127 : decode cX11_copy 127 = .ok (.aload_n 0, 1) := by decide +kernel
theorem dX11_copy_128 : decode cX11_copy 128 = .ok (.getfield 63, 3) := by decide +kernel
theorem dX11_copy_131 : decode cX11_copy 131 = .ok (.iload 6, 2) := by decide +kernel
theorem dX11_copy_133 : decode cX11_copy 133 = .ok (.aload_n 0, 1) := by decide +kernel
theorem dX11_copy_134 : decode cX11_copy 134 = .ok (.getfield 60, 3) := by decide +kernel
theorem dX11_copy_137 : decode cX11_copy 137 = .ok (.bipush 48, 2) := by decide +kernel
theorem dX11_copy_139 : decode cX11_copy 139 = .ok (.iload_n 1, 1) := by decide +kernel
theorem dX11_copy_140 : decode cX11_copy 140 = .ok (.imul, 1) := by decide +kernel
theorem dX11_copy_141 : decode cX11_copy 141 = .ok (.iload_n 2, 1) := by decide +kernel
theorem dX11_copy_142 : decode cX11_copy 142 = .ok (.iadd, 1) := by decide +kernel
theorem dX11_copy_143 : decode cX11_copy 143 = .ok (.iload 6, 2) := by decide +kernel
theorem dX11_copy_145 : decode cX11_copy 145 = .ok (.iadd, 1) := by decide +kernel
theorem dX11_copy_146 : decode cX11_copy 146 = .ok (.iaload, 1) := by decide +kernel
theorem dX11_copy_147 : decode cX11_copy 147 = .ok (.iastore, 1) := by decide +kernel
theorem dX11_copy_148 : decode cX11_copy 148 = .ok (.iinc 6 1, 3) := by decide +kernel
theorem dX11_copy_151 : decode cX11_copy 151 = .ok (.goto (-31), 3) := by decide +kernel
theorem dX11_copy_154 : decode cX11_copy 154 = .ok (.iconst 0, 1) := by decide +kernel
theorem dX11_copy_155 : decode cX11_copy 155 = .ok (.istore 6, 2) := by decide +kernel
theorem dX11_copy_157 : decode cX11_copy 157 = .ok (.iload 6, 2) := by decide +kernel
theorem dX11_copy_159 : decode cX11_copy 159 = .ok (.iload 5, 2) := by decide +kernel
theorem dX11_copy_161 : decode cX11_copy 161 = .ok (.if_icmp .ge 31, 3) := by decide +kernel
theorem dX11_copy_164 : decode cX11_copy 164 = .ok (.aload_n 0, 1) := by decide +kernel
theorem dX11_copy_165 : decode cX11_copy 165 = .ok (.getfield 60, 3) := by decide +kernel
theorem dX11_copy_168 : decode cX11_copy 168 = .ok (.bipush 48, 2) := by decide +kernel
theorem dX11_copy_170 : decode cX11_copy 170 = .ok (.iload_n 3, 1) := by decide +kernel
theorem dX11_copy_171 : decode cX11_copy 171 = .ok (.imul, 1) := by decide +kernel
theorem dX11_copy_172 : decode cX11_copy 172 = .ok (.iload 4, 2) := by decide +kernel
theorem dX11_copy_174 : decode cX11_copy 174 = .ok (.iadd, 1) := by decide +kernel
theorem dX11_copy_175 : decode cX11_copy 175 = .ok (.iload 6, 2) := by decide +kernel
theorem dX11_copy_177 : decode cX11_copy 177 = .ok (.iadd, 1) := by decide +kernel
theorem dX11_copy_178 : decode cX11_copy 178 = .ok (.aload_n 0, 1) := by decide +kernel
theorem dX11_copy_179 : decode cX11_copy 179 = .ok (.getfield 63, 3) := by decide +kernel
theorem dX11_copy_182 : decode cX11_copy 182 = .ok (.iload 6, 2) := by decide +kernel
theorem dX11_copy_184 : decode cX11_copy 184 = .ok (.iaload, 1) := by decide +kernel
theorem dX11_copy_185 : decode cX11_copy 185 = .ok (.iastore, 1) := by decide +kernel
theorem dX11_copy_186 : decode cX11_copy 186 = .ok (.iinc 6 1, 3) := by decide +kernel
theorem dX11_copy_189 : decode cX11_copy 189 = .ok (.goto (-32), 3) := by decide +kernel
theorem dX11_copy_192 : decode cX11_copy 192 = .ok (.iconst 1, 1) := by decide +kernel
theorem dX11_copy_193 : decode cX11_copy 193 = .ok (.ireturn, 1) := by decide +kernel
theorem dX11_write_0 : decode cX11_write 0 = .ok (.iload_n 1, 1) := by decide +kernel
theorem dX11_write_1 : decode cX11_write 1 = .ok (.invokestatic 157, 3) := by decide +kernel
theorem dX11_write_4 : decode cX11_write 4 = .ok (.ifCond .eq 10, 3) := by decide +kernel
theorem dX11_write_7 : decode cX11_write 7 = .ok (.iload_n 2, 1) := by decide +kernel
theorem dX11_write_8 : decode cX11_write 8 = .ok (.invokestatic 129, 3) := by decide +kernel
theorem dX11_write_11 : decode cX11_write 11 = .ok (.ifCond .ne 6, 3) := by decide +kernel
theorem dX11_write_14 : decode cX11_write 14 = .ok (.bipush (-2), 2) := by decide +kernel
theorem dX11_write_16 : decode cX11_write 16 = .ok (.ireturn, 1) := by decide +kernel
theorem dX11_write_17 : decode cX11_write 17 = .ok (.aload_n 0, 1) := by decide +kernel
theorem dX11_write_18 : decode cX11_write 18 = .ok (.getfield 50, 3) := by decide +kernel
theorem dX11_write_21 : decode cX11_write 21 = .ok (.iload_n 2, 1) := by decide +kernel
theorem dX11_write_22 : decode cX11_write 22 = .ok (.baload, 1) := by decide +kernel
theorem dX11_write_23 : decode cX11_write 23 = .ok (.ifCond .ne 9, 3) := by decide +kernel
theorem dX11_write_26 : decode cX11_write 26 = .ok (.aload_n 0, 1) := by decide +kernel
theorem dX11_write_27 : decode cX11_write 27 = .ok (.iconst 1, 1) := by decide +kernel
theorem dX11_write_28 : decode cX11_write 28 = .ok (.invokevirtual 132, 3) := by decide +kernel
theorem dX11_write_31 : decode cX11_write 31 = .ok (.ireturn, 1) := by decide +kernel
theorem dX11_write_32 : decode cX11_write 32 = .ok (.aload_n 0, 1) := by decide +kernel
theorem dX11_write_33 : decode cX11_write 33 = .ok (.invokevirtual 104, 3) := by decide +kernel
theorem dX11_write_36 : decode cX11_write 36 = .ok (.istore_n 3, 1) := by decide +kernel
theorem dX11_write_37 : decode cX11_write 37 = .ok (.aload_n 0, 1) := by decide +kernel
theorem dX11_write_38 : decode cX11_write 38 = .ok (.iconst 1, 1) := by decide +kernel
theorem dX11_write_39 : decode cX11_write 39 = .ok (.iload_n 1, 1) := by decide +kernel
theorem dX11_write_40 : decode cX11_write 40 = .ok (.invokevirtual 139, 3) := by decide +kernel
theorem dX11_write_43 : decode cX11_write 43 = .ok (.iconst 0, 1) := by decide +kernel
theorem dX11_write_44 : decode cX11_write 44 = .ok (.istore 4, 2) := by decide +kernel
theorem dX11_write_46 : decode cX11_write 46 = .ok (.iload 4, 2) := by decide +kernel
theorem dX11_write_48 : decode cX11_write 48 = .ok (.aload_n 0, 1) := by decide +kernel
theorem dX11_write_49 : decode cX11_write 49 = .ok (.getfield 123, 3) := by decide +kernel
theorem dX11_write_52 : decode cX11_write 52 = .ok (.if_icmp .ge 40, 3) := by decide +kernel
theorem dX11_write_55 : decode cX11_write 55 = .ok (.iload 4, 2) := by decide +kernel
theorem dX11_write_57 : decode cX11_write 57 = .ok (.aload_n 0, 1) := by decide +kernel
theorem dX11_write_58 : decode cX11_write 58 = .ok (.getfield 57, 3) := by decide +kernel
theorem dX11_write_61 : decode cX11_write 61 = .ok (.iload_n 2, 1) := by decide +kernel
theorem dX11_write_62 : decode cX11_write 62 = .ok (.iaload, 1) := by decide +kernel
theorem dX11_write_63 : decode cX11_write 63 = .ok (.if_icmp .ge 29, 3) := by decide +kernel
theorem dX11_write_66 : decode cX11_write 66 = .ok (.aload_n 0, 1) := by decide +kernel
theorem dX11_write_67 : decode cX11_write 67 = .ok (.iload_n 2, 1) := by decide +kernel
theorem dX11_write_68 : decode cX11_write 68 = .ok (.iload 4, 2) := by decide +kernel
theorem dX11_write_70 : decode cX11_write 70 = .ok (.aload_n 0, 1) := by decide +kernel
theorem dX11_write_71 : decode cX11_write 71 = .ok (.iconst 1, 1) := by decide +kernel
theorem dX11_write_72 : decode cX11_write 72 = .ok (.iload_n 1, 1) := by decide +kernel
theorem dX11_write_73 : decode cX11_write 73 = .ok (.aload_n 0, 1) := by decide +kernel
theorem dX11_write_74 : decode cX11_write 74 = .ok (.getfield 28, 3) := by decide +kernel
theorem dX11_write_77 : decode cX11_write 77 = .ok (.iload 4, 2) := by decide +kernel
theorem dX11_write_79 : decode cX11_write 79 = .ok (.iaload, 1) := by decide +kernel
theorem dX11_write_80 : decode cX11_write 80 = .ok (.invokevirtual 143, 3) := by decide +kernel
theorem dX11_write_83 : decode cX11_write 83 = .ok (.invokevirtual 251, 3) := by decide +kernel
theorem dX11_write_86 : decode cX11_write 86 = .ok (.iinc 4 1, 3) := by decide +kernel
theorem dX11_write_89 : decode cX11_write 89 = .ok (.goto (-43), 3) := by decide +kernel
theorem dX11_write_92 : decode cX11_write 92 = .ok (.iload 4, 2) := by decide +kernel
theorem dX11_write_94 : decode cX11_write 94 = .ok (.ireturn, 1) := by decide +kernel
