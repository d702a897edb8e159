theorem dX1_weightRunning_0 : decode cX1_weightRunning 0 = .ok (.iload 4, 2) := by decide +kernel
theorem dX1_weightRunning_2 : decode cX1_weightRunning 2 = .ok (.iconst 3, 1) := by decide +kernel
theorem dX1_weightRunning_3 : decode cX1_weightRunning 3 = .ok (.invokestatic 98, 3) := by decide +kernel
theorem dX1_weightRunning_6 : decode cX1_weightRunning 6 = .ok (.ifCond .ne 5, 3) := by decide +kernel
theorem dX1_weightRunning_9 : decode cX1_weightRunning 9 = .ok (.iconst 0, 1) := by decide +kernel
theorem dX1_weightRunning_10 : decode cX1_weightRunning 10 = .ok (.ireturn, 1) := by decide +kernel
theorem dX1_weightRunning_11 : decode cX1_weightRunning 11 = .ok (.iconst (-1), 1) := by decide +kernel
theorem dX1_weightRunning_12 : decode cX1_weightRunning 12 = .ok (.istore 6, 2) := by decide +kernel
theorem dX1_weightRunning_14 : decode cX1_weightRunning 14 = .ok (.iload 5, 2) := by decide +kernel
theorem dX1_weightRunning_16 : decode cX1_weightRunning 16 = .ok (.iconst 1, 1) := by decide +kernel
theorem dX1_weightRunning_17 : decode cX1_weightRunning 17 = .ok (.if_icmp .gt 7, 3) := by decide +kernel
theorem dX1_weightRunning_20 : decode cX1_weightRunning 20 = .ok (.iconst 4, 1) := by decide +kernel
theorem dX1_weightRunning_21 : decode cX1_weightRunning 21 = .ok (.goto 5, 3) := by decide +kernel
theorem dX1_weightRunning_24 : decode cX1_weightRunning 24 = .ok (.bipush 10, 2) := by decide +kernel
theorem dX1_weightRunning_26 : decode cX1_weightRunning 26 = .ok (.istore 7, 2) := by decide +kernel
theorem dX1_weightRunning_28 : decode cX1_weightRunning 28 = .ok (.iconst 0, 1) := by decide +kernel
theorem dX1_weightRunning_29 : decode cX1_weightRunning 29 = .ok (.istore 8, 2) := by decide +kernel
theorem dX1_weightRunning_31 : decode cX1_weightRunning 31 = .ok (.iload 8, 2) := by decide +kernel
theorem dX1_weightRunning_33 : decode cX1_weightRunning 33 = .ok (.iload 7, 2) := by decide +kernel
theorem dX1_weightRunning_35 : decode cX1_weightRunning 35 = .ok (.if_icmp .ge 131, 3) := by decide +kernel
theorem dX1_weightRunning_38 : decode cX1_weightRunning 38 = .ok (.iload 6, 2) := by decide +kernel
theorem dX1_weightRunning_40 : decode cX1_weightRunning 40 = .ok (.iload_n 3, 1) := by decide +kernel
theorem dX1_weightRunning_41 : decode cX1_weightRunning 41 = .ok (.if_icmp .ge 125, 3) := by decide +kernel
theorem dX1_weightRunning_44 : decode cX1_weightRunning 44 = .ok (.aload_n 0, 1) := by decide +kernel
theorem dX1_weightRunning_45 : decode cX1_weightRunning 45 = .ok (.aload_n 1, 1) := by decide +kernel
theorem dX1_weightRunning_46 : decode cX1_weightRunning 46 = .ok (.iload_n 2, 1) := by decide +kernel
theorem dX1_weightRunning_47 : decode cX1_weightRunning 47 = .ok (.iload 8, 2) := by decide +kernel
theorem dX1_weightRunning_49 : decode cX1_weightRunning 49 = .ok (.iload 4, 2) := by decide +kernel
theorem dX1_weightRunning_51 : decode cX1_weightRunning 51 = .ok (.invokevirtual 106, 3) := by decide +kernel
theorem dX1_weightRunning_54 : decode cX1_weightRunning 54 = .ok (.aload_n 0, 1) := by decide +kernel
theorem dX1_weightRunning_55 : decode cX1_weightRunning 55 = .ok (.getfield 24, 3) := by decide +kernel
theorem dX1_weightRunning_58 : decode cX1_weightRunning 58 = .ok (.iload 4, 2) := by decide +kernel
theorem dX1_weightRunning_60 : decode cX1_weightRunning 60 = .ok (.aaload, 1) := by decide +kernel
theorem dX1_weightRunning_61 : decode cX1_weightRunning 61 = .ok (.iconst 2, 1) := by decide +kernel
theorem dX1_weightRunning_62 : decode cX1_weightRunning 62 = .ok (.iaload, 1) := by decide +kernel
theorem dX1_weightRunning_63 : decode cX1_weightRunning 63 = .ok (.istore 9, 2) := by decide +kernel
theorem dX1_weightRunning_65 : decode cX1_weightRunning 65 = .ok (.iconst 0, 1) := by decide +kernel
theorem dX1_weightRunning_66 : decode cX1_weightRunning 66 = .ok (.istore 10, 2) := by decide +kernel
theorem dX1_weightRunning_68 : decode cX1_weightRunning 68 = .ok (.iload 10, 2) := by decide +kernel
theorem dX1_weightRunning_70 : decode cX1_weightRunning 70 = .ok (.bipush 7, 2) := by decide +kernel
theorem dX1_weightRunning_72 : decode cX1_weightRunning 72 = .ok (.if_icmp .ge 68, 3) := by decide +kernel
theorem dX1_weightRunning_75 : decode cX1_weightRunning 75 = .ok (.iload 5, 2) := by decide +kernel
theorem dX1_weightRunning_77 : decode cX1_weightRunning 77 = .ok (.iconst 1, 1) := by decide +kernel
theorem dX1_weightRunning_78 : decode cX1_weightRunning 78 = .ok (.if_icmp .le 62, 3) := by decide +kernel
theorem dX1_weightRunning_81 : decode cX1_weightRunning 81 = .ok (.aload_n 0, 1) := by decide +kernel
theorem dX1_weightRunning_82 : decode cX1_weightRunning 82 = .ok (.getfield 21, 3) := by decide +kernel
theorem dX1_weightRunning_85 : decode cX1_weightRunning 85 = .ok (.iload 4, 2) := by decide +kernel
theorem dX1_weightRunning_87 : decode cX1_weightRunning 87 = .ok (.aaload, 1) := by decide +kernel
theorem dX1_weightRunning_88 : decode cX1_weightRunning 88 = .ok (.iload 10, 2) := by decide +kernel
theorem dX1_weightRunning_90 : decode cX1_weightRunning 90 = .ok (.iaload, 1) := by decide +kernel
theorem dX1_weightRunning_91 : decode cX1_weightRunning 91 = .ok (.istore 11, 2) := by decide +kernel
theorem dX1_weightRunning_93 : decode cX1_weightRunning 93 = .ok (.iload 10, 2) := by decide +kernel
theorem dX1_weightRunning_95 : decode cX1_weightRunning 95 = .ok (.iconst 2, 1) := by decide +kernel
theorem dX1_weightRunning_96 : decode cX1_weightRunning 96 = .ok (.if_icmp .eq 38, 3) := by decide +kernel
theorem dX1_weightRunning_99 : decode cX1_weightRunning 99 = .ok (.iload 11, 2) := by decide +kernel
theorem dX1_weightRunning_101 : decode cX1_weightRunning 101 = .ok (.ifCond .eq 33, 3) := by decide +kernel
theorem dX1_weightRunning_104 : decode cX1_weightRunning 104 = .ok (.iload 9, 2) := by decide +kernel
theorem dX1_weightRunning_106 : decode cX1_weightRunning 106 = .ok (.aload_n 0, 1) := by decide +kernel
theorem dX1_weightRunning_107 : decode cX1_weightRunning 107 = .ok (.aload_n 1, 1) := by decide +kernel
theorem dX1_weightRunning_108 : decode cX1_weightRunning 108 = .ok (.iload 11, 2) := by decide +kernel
theorem dX1_weightRunning_110 : decode cX1_weightRunning 110 = .ok (.aload_n 0, 1) := by decide +kernel
theorem dX1_weightRunning_111 : decode cX1_weightRunning 111 = .ok (.getfield 24, 3) := by decide +kernel
theorem dX1_weightRunning_114 : decode cX1_weightRunning 114 = .ok (.iload 4, 2) := by decide +kernel
theorem dX1_weightRunning_116 : decode cX1_weightRunning 116 = .ok (.aaload, 1) := by decide +kernel
theorem dX1_weightRunning_117 : decode cX1_weightRunning 117 = .ok (.iload 10, 2) := by decide +kernel
theorem dX1_weightRunning_119 : decode cX1_weightRunning 119 = .ok (.iaload, 1) := by decide +kernel
theorem dX1_weightRunning_120 : decode cX1_weightRunning 120 = .ok (.iload 4, 2) := by decide +kernel
theorem dX1_weightRunning_122 : decode cX1_weightRunning 122 = .ok (.iconst 1, 1) := by decide +kernel
theorem dX1_weightRunning_123 : decode cX1_weightRunning 123 = .ok (.iadd, 1) := by decide +kernel
theorem dX1_weightRunning_124 : decode cX1_weightRunning 124 = .ok (.iload 5, 2) := by decide +kernel
theorem dX1_weightRunning_126 : decode cX1_weightRunning 126 = .ok (.iconst 1, 1) := by decide +kernel
theorem dX1_weightRunning_127 : decode cX1_weightRunning 127 = .ok (.isub, 1) := by decide +kernel
theorem dX1_weightRunning_128 : decode cX1_weightRunning 128 = .ok (.invokevirtual 110, 3) := by decide +kernel
theorem dX1_weightRunning_131 : decode cX1_weightRunning 131 = .ok (.iadd, 1) := by decide +kernel
theorem dX1_weightRunning_132 : decode cX1_weightRunning 132 = .ok (.istore 9, 2) := by decide +kernel
theorem dX1_weightRunning_134 : decode cX1_weightRunning 134 = .ok (.iinc 10 1, 3) := by decide +kernel
theorem dX1_weightRunning_137 : decode cX1_weightRunning 137 = .ok (.goto (-69), 3) := by decide +kernel
theorem dX1_weightRunning_140 : decode cX1_weightRunning 140 = .ok (.iload 9, 2) := by decide +kernel
theorem dX1_weightRunning_142 : decode cX1_weightRunning 142 = .ok (.iload 6, 2) := by decide +kernel
theorem dX1_weightRunning_144 : decode cX1_weightRunning 144 = .ok (.if_icmp .le 16, 3) := by decide +kernel
theorem dX1_weightRunning_147 : decode cX1_weightRunning 147 = .ok (.iload 9, 2) := by decide +kernel
theorem dX1_weightRunning_149 : decode cX1_weightRunning 149 = .ok (.istore 6, 2) := by decide +kernel
theorem dX1_weightRunning_151 : decode cX1_weightRunning 151 = .ok (.aload_n 0, 1) := by decide +kernel
theorem dX1_weightRunning_152 : decode cX1_weightRunning 152 = .ok (.getfield 33, 3) := by decide +kernel
theorem dX1_weightRunning_155 : decode cX1_weightRunning 155 = .ok (.iload 4, 2) := by decide +kernel
theorem dX1_weightRunning_157 : decode cX1_weightRunning 157 = .ok (.iload 8, 2) := by decide +kernel
theorem dX1_weightRunning_159 : decode cX1_weightRunning 159 = .ok (.iastore, 1) := by decide +kernel
theorem dX1_weightRunning_160 : decode cX1_weightRunning 160 = .ok (.iinc 8 1, 3) := by decide +kernel
theorem dX1_weightRunning_163 : decode cX1_weightRunning 163 = .ok (.goto (-132), 3) := by decide +kernel
theorem dX1_weightRunning_166 : decode cX1_weightRunning 166 = .ok (.iload 6, 2) := by decide +kernel
theorem dX1_weightRunning_168 : decode cX1_weightRunning 168 = .ok (.ireturn, 1) := by decide +kernel
theorem dX2_takes_0 : decode cX2_takes 0 = .ok (.aload_n 0, 1) := by decide +kernel
theorem dX2_takes_1 : decode cX2_takes 1 = .ok (.getfield 18, 3) := by decide +kernel
theorem dX2_takes_4 : decode cX2_takes 4 = .ok (.ifCond .lt 12, 3) := by decide +kernel
theorem dX2_takes_7 : decode cX2_takes 7 = .ok (.aload_n 0, 1) := by decide +kernel
theorem dX2_takes_8 : decode cX2_takes 8 = .ok (.getfield 18, 3) := by decide +kernel
theorem dX2_takes_11 : decode cX2_takes 11 = .ok (.bipush 24, 2) := by decide +kernel
theorem dX2_takes_13 : decode cX2_takes 13 = .ok (.if_icmp .lt 5, 3) := by decide +kernel
theorem dX2_takes_16 : decode cX2_takes 16 = .ok (.iconst 0, 1) := by decide +kernel
theorem dX2_takes_17 : decode cX2_takes 17 = .ok (.ireturn, 1) := by decide +kernel
theorem dX2_takes_18 : decode cX2_takes 18 = .ok (.aload_n 0, 1) := by decide +kernel
theorem dX2_takes_19 : decode cX2_takes 19 = .ok (.getfield 9, 3) := by decide +kernel
theorem dX2_takes_22 : decode cX2_takes 22 = .ok (.aload_n 0, 1) := by decide +kernel
theorem dX2_takes_23 : decode cX2_takes 23 = .ok (.getfield 18, 3) := by decide +kernel
theorem dX2_takes_26 : decode cX2_takes 26 = .ok (.iload_n 1, 1) := by decide +kernel
theorem dX2_takes_27 : decode cX2_takes 27 = .ok (.iastore, 1) := by decide +kernel
theorem dX2_takes_28 : decode cX2_takes 28 = .ok (.aload_n 0, 1) := by decide +kernel
theorem dX2_takes_29 : decode cX2_takes 29 = .ok (.getfield 15, 3) := by decide +kernel
theorem dX2_takes_32 : decode cX2_takes 32 = .ok (.aload_n 0, 1) := by decide +kernel
theorem dX2_takes_33 : decode cX2_takes 33 = .ok (.getfield 18, 3) := by decide +kernel
theorem dX2_takes_36 : decode cX2_takes 36 = .ok (.iload_n 2, 1) := by decide +kernel
theorem dX2_takes_37 : decode cX2_takes 37 = .ok (.iastore, 1) := by decide +kernel
theorem dX2_takes_38 : decode cX2_takes 38 = .ok (.aload_n 0, 1) := by decide +kernel
theorem dX2_takes_39 : decode cX2_takes 39 = .ok (.dup, 1) := by decide +kernel
theorem dX2_takes_40 : decode cX2_takes 40 = .ok (.getfield 18, 3) := by decide +kernel
theorem dX2_takes_43 : decode cX2_takes 43 = .ok (.iconst 1, 1) := by decide +kernel
theorem dX2_takes_44 : decode cX2_takes 44 = .ok (.iadd, 1) := by decide +kernel
theorem dX2_takes_45 : decode cX2_takes 45 = .ok (.putfield 18, 3) := by decide +kernel
theorem dX2_takes_48 : decode cX2_takes 48 = .ok (.iconst 1, 1) := by decide +kernel
theorem dX2_takes_49 : decode cX2_takes 49 = .ok (.ireturn, 1) := by decide +kernel
theorem dX3_takes_0 : decode cX3_takes 0 = .ok (.aload_n 0, 1) := by decide +kernel
theorem dX3_takes_1 : decode cX3_takes 1 = .ok (.getfield 24, 3) := by decide +kernel
theorem dX3_takes_4 : decode cX3_takes 4 = .ok (.bipush 16, 2) := by decide +kernel
theorem dX3_takes_6 : decode cX3_takes 6 = .ok (.invokestatic 28, 3) := by decide +kernel
theorem dX3_takes_9 : decode cX3_takes 9 = .ok (.ifCond .ne 5, 3) := by decide +kernel
theorem dX3_takes_12 : decode cX3_takes 12 = .ok (.iconst 0, 1) := by decide +kernel
theorem dX3_takes_13 : decode cX3_takes 13 = .ok (.ireturn, 1) := by decide +kernel
theorem dX3_takes_14 : decode cX3_takes 14 = .ok (.aload_n 0, 1) := by decide +kernel
theorem dX3_takes_15 : decode cX3_takes 15 = .ok (.getfield 9, 3) := by decide +kernel
theorem dX3_takes_18 : decode cX3_takes 18 = .ok (.aload_n 0, 1) := by decide +kernel
theorem dX3_takes_19 : decode cX3_takes 19 = .ok (.getfield 24, 3) := by decide +kernel
theorem dX3_takes_22 : decode cX3_takes 22 = .ok (.iload_n 1, 1) := by decide +kernel
theorem dX3_takes_23 : decode cX3_takes 23 = .ok (.iastore, 1) := by decide +kernel
theorem dX3_takes_24 : decode cX3_takes 24 = .ok (.aload_n 0, 1) := by decide +kernel
theorem dX3_takes_25 : decode cX3_takes 25 = .ok (.getfield 15, 3) := by decide +kernel
theorem dX3_takes_28 : decode cX3_takes 28 = .ok (.aload_n 0, 1) := by decide +kernel
theorem dX3_takes_29 : decode cX3_takes 29 = .ok (.getfield 24, 3) := by decide +kernel
theorem dX3_takes_32 : decode cX3_takes 32 = .ok (.iload_n 2, 1) := by decide +kernel
theorem dX3_takes_33 : decode cX3_takes 33 = .ok (.iastore, 1) := by decide +kernel
theorem dX3_takes_34 : decode cX3_takes 34 = .ok (.aload_n 0, 1) := by decide +kernel
theorem dX3_takes_35 : decode cX3_takes 35 = .ok (.getfield 18, 3) := by decide +kernel
theorem dX3_takes_38 : decode cX3_takes 38 = .ok (.aload_n 0, 1) := by decide +kernel
theorem dX3_takes_39 : decode cX3_takes 39 = .ok (.getfield 24, 3) := by decide +kernel
theorem dX3_takes_42 : decode cX3_takes 42 = .ok (.iload_n 3, 1) := by decide +kernel
theorem dX3_takes_43 : decode cX3_takes 43 = .ok (.iastore, 1) := by decide +kernel
theorem dX3_takes_44 : decode cX3_takes 44 = .ok (.aload_n 0, 1) := by decide +kernel
theorem dX3_takes_45 : decode cX3_takes 45 = .ok (.dup, 1) := by decide +kernel
theorem dX3_takes_46 : decode cX3_takes 46 = .ok (.getfield 24, 3) := by decide +kernel
theorem dX3_takes_49 : decode cX3_takes 49 = .ok (.iconst 1, 1) := by decide +kernel
theorem dX3_takes_50 : decode cX3_takes 50 = .ok (.iadd, 1) := by decide +kernel
theorem dX3_takes_51 : decode cX3_takes 51 = .ok (.putfield 24, 3) := by decide +kernel
theorem dX3_takes_54 : decode cX3_takes 54 = .ok (.aload_n 0, 1) := by decide +kernel
theorem dX3_takes_55 : decode cX3_takes 55 = .ok (.iconst 0, 1) := by decide +kernel
theorem dX3_takes_56 : decode cX3_takes 56 = .ok (.putfield 32, 3) := by decide +kernel
theorem dX3_takes_59 : decode cX3_takes 59 = .ok (.iconst 1, 1) := by decide +kernel
theorem dX3_takes_60 : decode cX3_takes 60 = .ok (.ireturn, 1) := by decide +kernel
theorem dX3_lawSays_0 : decode cX3_lawSays 0 = .ok (.iload_n 0, 1) := by decide +kernel
theorem dX3_lawSays_1 : decode cX3_lawSays 1 = .ok (.iload_n 1, 1) := by decide +kernel
theorem dX3_lawSays_2 : decode cX3_lawSays 2 = .ok (.iload_n 3, 1) := by decide +kernel
theorem dX3_lawSays_3 : decode cX3_lawSays 3 = .ok (.imul, 1) := by decide +kernel
theorem dX3_lawSays_4 : decode cX3_lawSays 4 = .ok (.bipush 10, 2) := by decide +kernel
theorem dX3_lawSays_6 : decode cX3_lawSays 6 = .ok (.idiv, 1) := by decide +kernel
theorem dX3_lawSays_7 : decode cX3_lawSays 7 = .ok (.iadd, 1) := by decide +kernel
theorem dX3_lawSays_8 : decode cX3_lawSays 8 = .ok (.iload_n 2, 1) := by decide +kernel
theorem dX3_lawSays_9 : decode cX3_lawSays 9 = .ok (.iload 4, 2) := by decide +kernel
theorem dX3_lawSays_11 : decode cX3_lawSays 11 = .ok (.imul, 1) := by decide +kernel
theorem dX3_lawSays_12 : decode cX3_lawSays 12 = .ok (.iadd, 1) := by decide +kernel
theorem dX3_lawSays_13 : decode cX3_lawSays 13 = .ok (.ireturn, 1) := by decide +kernel
theorem dJ9_abs_0f7a4_0 : decode cJ9_abs_0f7a4 0 = .ok (.iload_n 0, 1) := by decide +kernel
theorem dJ9_abs_0f7a4_1 : decode cJ9_abs_0f7a4 1 = .ok (.ifCond .ge 8, 3) := by decide +kernel
theorem dJ9_abs_0f7a4_4 : decode cJ9_abs_0f7a4 4 = .ok (.iload_n 0, 1) := by decide +kernel
theorem dJ9_abs_0f7a4_5 : decode cJ9_abs_0f7a4 5 = .ok (.ineg, 1) := by decide +kernel
theorem dJ9_abs_0f7a4_6 : decode cJ9_abs_0f7a4 6 = .ok (.goto 4, 3) := by decide +kernel
theorem dJ9_abs_0f7a4_9 : decode cJ9_abs_0f7a4 9 = .ok (.iload_n 0, 1) := by decide +kernel
theorem dJ9_abs_0f7a4_10 : decode cJ9_abs_0f7a4 10 = .ok (.ireturn, 1) := by decide +kernel
theorem dX3_offBy_0 : decode cX3_offBy 0 = .ok (.iconst 0, 1) := by decide +kernel
theorem dX3_offBy_1 : decode cX3_offBy 1 = .ok (.istore 4, 2) := by decide +kernel
theorem dX3_offBy_3 : decode cX3_offBy 3 = .ok (.iconst 0, 1) := by decide +kernel
theorem dX3_offBy_4 : decode cX3_offBy 4 = .ok (.istore 5, 2) := by decide +kernel
theorem dX3_offBy_6 : decode cX3_offBy 6 = .ok (.iload 5, 2) := by decide +kernel
theorem dX3_offBy_8 : decode cX3_offBy 8 = .ok (.aload_n 0, 1) := by decide +kernel
theorem dX3_offBy_9 : decode cX3_offBy 9 = .ok (.getfield 24, 3) := by decide +kernel
theorem dX3_offBy_12 : decode cX3_offBy 12 = .ok (.if_icmp .ge 52, 3) := by decide +kernel
theorem dX3_offBy_15 : decode cX3_offBy 15 = .ok (.iload 5, 2) := by decide +kernel
theorem dX3_offBy_17 : decode cX3_offBy 17 = .ok (.bipush 16, 2) := by decide +kernel
theorem dX3_offBy_19 : decode cX3_offBy 19 = .ok (.if_icmp .ge 45, 3) := by decide +kernel
theorem dX3_offBy_22 : decode cX3_offBy 22 = .ok (.iload 4, 2) := by decide +kernel
theorem dX3_offBy_24 : decode cX3_offBy 24 = .ok (.iload_n 1, 1) := by decide +kernel
theorem dX3_offBy_25 : decode cX3_offBy 25 = .ok (.iload_n 2, 1) := by decide +kernel
theorem dX3_offBy_26 : decode cX3_offBy 26 = .ok (.iload_n 3, 1) := by decide +kernel
theorem dX3_offBy_27 : decode cX3_offBy 27 = .ok (.aload_n 0, 1) := by decide +kernel
theorem dX3_offBy_28 : decode cX3_offBy 28 = .ok (.getfield 9, 3) := by decide +kernel
theorem dX3_offBy_31 : decode cX3_offBy 31 = .ok (.iload 5, 2) := by decide +kernel
theorem dX3_offBy_33 : decode cX3_offBy 33 = .ok (.iaload, 1) := by decide +kernel
theorem dX3_offBy_34 : decode cX3_offBy 34 = .ok (.aload_n 0, 1) := by decide +kernel
theorem dX3_offBy_35 : decode cX3_offBy 35 = .ok (.getfield 15, 3) := by decide +kernel
theorem dX3_offBy_38 : decode cX3_offBy 38 = .ok (.iload 5, 2) := by decide +kernel
theorem dX3_offBy_40 : decode cX3_offBy 40 = .ok (.iaload, 1) := by decide +kernel
theorem dX3_offBy_41 : decode cX3_offBy 41 = .ok (.invokestatic 36, 3) := by decide +kernel
theorem dX3_offBy_44 : decode cX3_offBy 44 = .ok (.aload_n 0, 1) := by decide +kernel
theorem dX3_offBy_45 : decode cX3_offBy 45 = .ok (.getfield 18, 3) := by decide +kernel
theorem dX3_offBy_48 : decode cX3_offBy 48 = .ok (.iload 5, 2) := by decide +kernel
theorem dX3_offBy_50 : decode cX3_offBy 50 = .ok (.iaload, 1) := by decide +kernel
theorem dX3_offBy_51 : decode cX3_offBy 51 = .ok (.isub, 1) := by decide +kernel
theorem dX3_offBy_52 : decode cX3_offBy 52 = .ok (.invokestatic 40, 3) := by decide +kernel
theorem dX3_offBy_55 : decode cX3_offBy 55 = .ok (.iadd, 1) := by decide +kernel
theorem dX3_offBy_56 : decode cX3_offBy 56 = .ok (.istore 4, 2) := by decide +kernel
theorem dX3_offBy_58 : decode cX3_offBy 58 = .ok (.iinc 5 1, 3) := by decide +kernel
theorem dX3_offBy_61 : decode cX3_offBy 61 = .ok (.goto (-55), 3) := by decide +kernel
theorem dX3_offBy_64 : decode cX3_offBy 64 = .ok (.iload 4, 2) := by decide +kernel
theorem dX3_offBy_66 : decode cX3_offBy 66 = .ok (.ireturn, 1) := by decide +kernel
theorem dX3_turnsTogether_0 : decode cX3_turnsTogether 0 = .ok (.aload_n 0, 1) := by decide +kernel
theorem dX3_turnsTogether_1 : decode cX3_turnsTogether 1 = .ok (.iconst 0, 1) := by decide +kernel
theorem dX3_turnsTogether_2 : decode cX3_turnsTogether 2 = .ok (.iconst 0, 1) := by decide +kernel
theorem dX3_turnsTogether_3 : decode cX3_turnsTogether 3 = .ok (.iconst 0, 1) := by decide +kernel
theorem dX3_turnsTogether_4 : decode cX3_turnsTogether 4 = .ok (.invokevirtual 46, 3) := by decide +kernel
theorem dX3_turnsTogether_7 : decode cX3_turnsTogether 7 = .ok (.ireturn, 1) := by decide +kernel
theorem dX3_takeIfBetter_0 : decode cX3_takeIfBetter 0 = .ok (.aload_n 0, 1) := by decide +kernel
theorem dX3_takeIfBetter_1 : decode cX3_takeIfBetter 1 = .ok (.iload_n 1, 1) := by decide +kernel
theorem dX3_takeIfBetter_2 : decode cX3_takeIfBetter 2 = .ok (.iload_n 2, 1) := by decide +kernel
theorem dX3_takeIfBetter_3 : decode cX3_takeIfBetter 3 = .ok (.iload_n 3, 1) := by decide +kernel
theorem dX3_takeIfBetter_4 : decode cX3_takeIfBetter 4 = .ok (.invokevirtual 46, 3) := by decide +kernel
theorem dX3_takeIfBetter_7 : decode cX3_takeIfBetter 7 = .ok (.istore 4, 2) := by decide +kernel
theorem dX3_takeIfBetter_9 : decode cX3_takeIfBetter 9 = .ok (.iload 4, 2) := by decide +kernel
theorem dX3_takeIfBetter_11 : decode cX3_takeIfBetter 11 = .ok (.aload_n 0, 1) := by decide +kernel
theorem dX3_takeIfBetter_12 : decode cX3_takeIfBetter 12 = .ok (.getfield 21, 3) := by decide +kernel
theorem dX3_takeIfBetter_15 : decode cX3_takeIfBetter 15 = .ok (.iconst 3, 1) := by decide +kernel
theorem dX3_takeIfBetter_16 : decode cX3_takeIfBetter 16 = .ok (.iaload, 1) := by decide +kernel
theorem dX3_takeIfBetter_17 : decode cX3_takeIfBetter 17 = .ok (.if_icmp .ge 32, 3) := by decide +kernel
theorem dX3_takeIfBetter_20 : decode cX3_takeIfBetter 20 = .ok (.aload_n 0, 1) := by decide +kernel
theorem dX3_takeIfBetter_21 : decode cX3_takeIfBetter 21 = .ok (.getfield 21, 3) := by decide +kernel
theorem dX3_takeIfBetter_24 : decode cX3_takeIfBetter 24 = .ok (.iconst 0, 1) := by decide +kernel
theorem dX3_takeIfBetter_25 : decode cX3_takeIfBetter 25 = .ok (.iload_n 1, 1) := by decide +kernel
theorem dX3_takeIfBetter_26 : decode cX3_takeIfBetter 26 = .ok (.iastore, 1) := by decide +kernel
theorem dX3_takeIfBetter_27 : decode cX3_takeIfBetter 27 = .ok (.aload_n 0, 1) := by decide +kernel
theorem dX3_takeIfBetter_28 : decode cX3_takeIfBetter 28 = .ok (.getfield 21, 3) := by decide +kernel
theorem dX3_takeIfBetter_31 : decode cX3_takeIfBetter 31 = .ok (.iconst 1, 1) := by decide +kernel
theorem dX3_takeIfBetter_32 : decode cX3_takeIfBetter 32 = .ok (.iload_n 2, 1) := by decide +kernel
theorem dX3_takeIfBetter_33 : decode cX3_takeIfBetter 33 = .ok (.iastore, 1) := by decide +kernel
theorem dX3_takeIfBetter_34 : decode cX3_takeIfBetter 34 = .ok (.aload_n 0, 1) := by decide +kernel
theorem dX3_takeIfBetter_35 : decode cX3_takeIfBetter 35 = .ok (.getfield 21, 3) := by decide +kernel
theorem dX3_takeIfBetter_38 : decode cX3_takeIfBetter 38 = .ok (.iconst 2, 1) := by decide +kernel
theorem dX3_takeIfBetter_39 : decode cX3_takeIfBetter 39 = .ok (.iload_n 3, 1) := by decide +kernel
theorem dX3_takeIfBetter_40 : decode cX3_takeIfBetter 40 = .ok (.iastore, 1) := by decide +kernel
theorem dX3_takeIfBetter_41 : decode cX3_takeIfBetter 41 = .ok (.aload_n 0, 1) := by decide +kernel
theorem dX3_takeIfBetter_42 : decode cX3_takeIfBetter 42 = .ok (.getfield 21, 3) := by decide +kernel
theorem dX3_takeIfBetter_45 : decode cX3_takeIfBetter 45 = .ok (.iconst 3, 1) := by decide +kernel
theorem dX3_takeIfBetter_46 : decode cX3_takeIfBetter 46 = .ok (.iload 4, 2) := by decide +kernel
theorem dX3_takeIfBetter_48 : decode cX3_takeIfBetter 48 = .ok (.iastore, 1) := by decide +kernel
theorem dX3_takeIfBetter_49 : decode cX3_takeIfBetter 49 = .ok (.return_, 1) := by decide +kernel
theorem dX3_findLaw_0 : decode cX3_findLaw 0 = .ok (.aload_n 0, 1) := by decide +kernel
theorem dX3_findLaw_1 : decode cX3_findLaw 1 = .ok (.getfield 32, 3) := by decide +kernel
theorem dX3_findLaw_4 : decode cX3_findLaw 4 = .ok (.ifCond .eq 4, 3) := by decide +kernel
theorem dX3_findLaw_7 : decode cX3_findLaw 7 = .ok (.return_, 1) := by decide +kernel
theorem dX3_findLaw_8 : decode cX3_findLaw 8 = .ok (.aload_n 0, 1) := by decide +kernel
theorem dX3_findLaw_9 : decode cX3_findLaw 9 = .ok (.getfield 21, 3) := by decide +kernel
theorem dX3_findLaw_12 : decode cX3_findLaw 12 = .ok (.iconst 0, 1) := by decide +kernel
theorem dX3_findLaw_13 : decode cX3_findLaw 13 = .ok (.invokestatic 50, 3) := by decide +kernel
theorem dX3_findLaw_16 : decode cX3_findLaw 16 = .ok (.aload_n 0, 1) := by decide +kernel
theorem dX3_findLaw_17 : decode cX3_findLaw 17 = .ok (.getfield 21, 3) := by decide +kernel
theorem dX3_findLaw_20 : decode cX3_findLaw 20 = .ok (.iconst 3, 1) := by decide +kernel
theorem dX3_findLaw_21 : decode cX3_findLaw 21 = .ok (.aload_n 0, 1) := by decide +kernel
theorem dX3_findLaw_22 : decode cX3_findLaw 22 = .ok (.iconst 0, 1) := by decide +kernel
theorem dX3_findLaw_23 : decode cX3_findLaw 23 = .ok (.iconst 0, 1) := by decide +kernel
theorem dX3_findLaw_24 : decode cX3_findLaw 24 = .ok (.iconst 0, 1) := by decide +kernel
theorem dX3_findLaw_25 : decode cX3_findLaw 25 = .ok (.invokevirtual 46, 3) := by decide +kernel
theorem dX3_findLaw_28 : decode cX3_findLaw 28 = .ok (.iastore, 1) := by decide +kernel
theorem dX3_findLaw_29 : decode cX3_findLaw 29 = .ok (.iconst 0, 1) := by decide +kernel
theorem dX3_findLaw_30 : decode cX3_findLaw 30 = .ok (.istore_n 1, 1) := by decide +kernel
theorem dX3_findLaw_31 : decode cX3_findLaw 31 = .ok (.iload_n 1, 1) := by decide +kernel
theorem dX3_findLaw_32 : decode cX3_findLaw 32 = .ok (.bipush 9, 2) := by decide +kernel
theorem dX3_findLaw_34 : decode cX3_findLaw 34 = .ok (.if_icmp .gt 43, 3) := by decide +kernel
theorem dX3_findLaw_37 : decode cX3_findLaw 37 = .ok (.iconst 0, 1) := by decide +kernel
theorem dX3_findLaw_38 : decode cX3_findLaw 38 = .ok (.istore_n 2, 1) := by decide +kernel
theorem dX3_findLaw_39 : decode cX3_findLaw 39 = .ok (.iload_n 2, 1) := by decide +kernel
theorem dX3_findLaw_40 : decode cX3_findLaw 40 = .ok (.bipush 9, 2) := by decide +kernel
theorem dX3_findLaw_42 : decode cX3_findLaw 42 = .ok (.if_icmp .gt 29, 3) := by decide +kernel
theorem dX3_findLaw_45 : decode cX3_findLaw 45 = .ok (.iconst 0, 1) := by decide +kernel
theorem dX3_findLaw_46 : decode cX3_findLaw 46 = .ok (.istore_n 3, 1) := by decide +kernel
theorem dX3_findLaw_47 : decode cX3_findLaw 47 = .ok (.iload_n 3, 1) := by decide +kernel
theorem dX3_findLaw_48 : decode cX3_findLaw 48 = .ok (.iconst 3, 1) := by decide +kernel
theorem dX3_findLaw_49 : decode cX3_findLaw 49 = .ok (.if_icmp .gt 16, 3) := by decide +kernel
theorem dX3_findLaw_52 : decode cX3_findLaw 52 = .ok (.aload_n 0, 1) := by decide +kernel
theorem dX3_findLaw_53 : decode cX3_findLaw 53 = .ok (.iload_n 1, 1) := by decide +kernel
theorem dX3_findLaw_54 : decode cX3_findLaw 54 = .ok (.iload_n 2, 1) := by decide +kernel
theorem dX3_findLaw_55 : decode cX3_findLaw 55 = .ok (.iload_n 3, 1) := by decide +kernel
theorem dX3_findLaw_56 : decode cX3_findLaw 56 = .ok (.invokevirtual 56, 3) := by decide +kernel
theorem dX3_findLaw_59 : decode cX3_findLaw 59 = .ok (.iinc 3 1, 3) := by decide +kernel
theorem dX3_findLaw_62 : decode cX3_findLaw 62 = .ok (.goto (-15), 3) := by decide +kernel
theorem dX3_findLaw_65 : decode cX3_findLaw 65 = .ok (.iinc 2 1, 3) := by decide +kernel
theorem dX3_findLaw_68 : decode cX3_findLaw 68 = .ok (.goto (-29), 3) := by decide +kernel
theorem dX3_findLaw_71 : decode cX3_findLaw 71 = .ok (.iinc 1 1, 3) := by decide +kernel
theorem dX3_findLaw_74 : decode cX3_findLaw 74 = .ok (.goto (-43), 3) := by decide +kernel
theorem dX3_findLaw_77 : decode cX3_findLaw 77 = .ok (.aload_n 0, 1) := by decide +kernel
theorem dX3_findLaw_78 : decode cX3_findLaw 78 = .ok (.iconst 1, 1) := by decide +kernel
theorem dX3_findLaw_79 : decode cX3_findLaw 79 = .ok (.putfield 32, 3) := by decide +kernel
theorem dX3_findLaw_82 : decode cX3_findLaw 82 = .ok (.return_, 1) := by decide +kernel
theorem dX4_qualityOf_0 : decode cX4_qualityOf 0 = .ok (.iconst 0, 1) := by decide +kernel
theorem dX4_qualityOf_1 : decode cX4_qualityOf 1 = .ok (.istore_n 1, 1) := by decide +kernel
theorem dX4_qualityOf_2 : decode cX4_qualityOf 2 = .ok (.iload_n 1, 1) := by decide +kernel
theorem dX4_qualityOf_3 : decode cX4_qualityOf 3 = .ok (.bipush 7, 2) := by decide +kernel
theorem dX4_qualityOf_5 : decode cX4_qualityOf 5 = .ok (.if_icmp .ge 20, 3) := by decide +kernel
theorem dX4_qualityOf_8 : decode cX4_qualityOf 8 = .ok (.getstatic 47, 3) := by decide +kernel
theorem dX4_qualityOf_11 : decode cX4_qualityOf 11 = .ok (.iload_n 1, 1) := by decide +kernel
theorem dX4_qualityOf_12 : decode cX4_qualityOf 12 = .ok (.caload, 1) := by decide +kernel
theorem dX4_qualityOf_13 : decode cX4_qualityOf 13 = .ok (.iload_n 0, 1) := by decide +kernel
theorem dX4_qualityOf_14 : decode cX4_qualityOf 14 = .ok (.if_icmp .ne 5, 3) := by decide +kernel
theorem dX4_qualityOf_17 : decode cX4_qualityOf 17 = .ok (.iload_n 1, 1) := by decide +kernel
theorem dX4_qualityOf_18 : decode cX4_qualityOf 18 = .ok (.ireturn, 1) := by decide +kernel
theorem dX4_qualityOf_19 : decode cX4_qualityOf 19 = .ok (.iinc 1 1, 3) := by decide +kernel
theorem dX4_qualityOf_22 : decode cX4_qualityOf 22 = .ok (.goto (-20), 3) := by decide +kernel
theorem dX4_qualityOf_25 : decode cX4_qualityOf 25 = .ok (.iconst (-1), 1) := by decide +kernel
theorem dX4_qualityOf_26 : decode cX4_qualityOf 26 = .ok (.ireturn, 1) := by decide +kernel
theorem dX8_byteAt_0 : decode cX8_byteAt 0 = .ok (.iload_n 1, 1) := by decide +kernel
theorem dX8_byteAt_1 : decode cX8_byteAt 1 = .ok (.ifCond .lt 29, 3) := by decide +kernel
theorem dX8_byteAt_4 : decode cX8_byteAt 4 = .ok (.iload_n 1, 1) := by decide +kernel
theorem dX8_byteAt_5 : decode cX8_byteAt 5 = .ok (.aload_n 0, 1) := by decide +kernel
theorem dX8_byteAt_6 : decode cX8_byteAt 6 = .ok (.getfield 21, 3) := by decide +kernel
theorem dX8_byteAt_9 : decode cX8_byteAt 9 = .ok (.if_icmp .ge 21, 3) := by decide +kernel
theorem dX8_byteAt_12 : decode cX8_byteAt 12 = .ok (.iload_n 1, 1) := by decide +kernel
theorem dX8_byteAt_13 : decode cX8_byteAt 13 = .ok (.aload_n 0, 1) := by decide +kernel
theorem dX8_byteAt_14 : decode cX8_byteAt 14 = .ok (.getfield 15, 3) := by decide +kernel
theorem dX8_byteAt_17 : decode cX8_byteAt 17 = .ok (.arraylength, 1) := by decide +kernel
theorem dX8_byteAt_18 : decode cX8_byteAt 18 = .ok (.if_icmp .ge 12, 3) := by decide +kernel
theorem dX8_byteAt_21 : decode cX8_byteAt 21 = .ok (.aload_n 0, 1) := by decide +kernel
theorem dX8_byteAt_22 : decode cX8_byteAt 22 = .ok (.getfield 15, 3) := by decide +kernel
theorem dX8_byteAt_25 : decode cX8_byteAt 25 = .ok (.iload_n 1, 1) := by decide +kernel
theorem dX8_byteAt_26 : decode cX8_byteAt 26 = .ok (.iaload, 1) := by decide +kernel
theorem dX8_byteAt_27 : decode cX8_byteAt 27 = .ok (.goto 4, 3) := by decide +kernel
theorem dX8_byteAt_30 : decode cX8_byteAt 30 = .ok (.iconst (-1), 1) := by decide +kernel
theorem dX8_byteAt_31 : decode cX8_byteAt 31 = .ok (.ireturn, 1) := by decide +kernel
theorem dX8_figureAt_0 : decode cX8_figureAt 0 = .ok (.aload_n 0, 1) := by decide +kernel
theorem dX8_figureAt_1 : decode cX8_figureAt 1 = .ok (.iload_n 1, 1) := by decide +kernel
theorem dX8_figureAt_2 : decode cX8_figureAt 2 = .ok (.invokevirtual 25, 3) := by decide +kernel
theorem dX8_figureAt_5 : decode cX8_figureAt 5 = .ok (.istore_n 2, 1) := by decide +kernel
theorem dX8_figureAt_6 : decode cX8_figureAt 6 = .ok (.iload_n 2, 1) := by decide +kernel
theorem dX8_figureAt_7 : decode cX8_figureAt 7 = .ok (.bipush 48, 2) := by decide +kernel
theorem dX8_figureAt_9 : decode cX8_figureAt 9 = .ok (.if_icmp .lt 16, 3) := by decide +kernel
theorem dX8_figureAt_12 : decode cX8_figureAt 12 = .ok (.iload_n 2, 1) := by decide +kernel
theorem dX8_figureAt_13 : decode cX8_figureAt 13 = .ok (.bipush 57, 2) := by decide +kernel
theorem dX8_figureAt_15 : decode cX8_figureAt 15 = .ok (.if_icmp .gt 10, 3) := by decide +kernel
theorem dX8_figureAt_18 : decode cX8_figureAt 18 = .ok (.iload_n 2, 1) := by decide +kernel
theorem dX8_figureAt_19 : decode cX8_figureAt 19 = .ok (.bipush 48, 2) := by decide +kernel
theorem dX8_figureAt_21 : decode cX8_figureAt 21 = .ok (.isub, 1) := by decide +kernel
theorem dX8_figureAt_22 : decode cX8_figureAt 22 = .ok (.goto 4, 3) := by decide +kernel
theorem dX8_figureAt_25 : decode cX8_figureAt 25 = .ok (.iconst (-1), 1) := by decide +kernel
theorem dX8_figureAt_26 : decode cX8_figureAt 26 = .ok (.ireturn, 1) := by decide +kernel
theorem dX4_faultOf_0 : decode cX4_faultOf 0 = .ok (.iconst 0, 1) := by decide +kernel
theorem dX4_faultOf_1 : decode cX4_faultOf 1 = .ok (.istore_n 2, 1) := by decide +kernel
theorem dX4_faultOf_2 : decode cX4_faultOf 2 = .ok (.iconst 0, 1) := by decide +kernel
theorem dX4_faultOf_3 : decode cX4_faultOf 3 = .ok (.istore_n 3, 1) := by decide +kernel
theorem dX4_faultOf_4 : decode cX4_faultOf 4 = .ok (.iload_n 3, 1) := by decide +kernel
theorem dX4_faultOf_5 : decode cX4_faultOf 5 = .ok (.bipush 60, 2) := by decide +kernel
theorem dX4_faultOf_7 : decode cX4_faultOf 7 = .ok (.if_icmp .ge 142, 3) := by decide +kernel
theorem dX4_faultOf_10 : decode cX4_faultOf 10 = .ok (.aload_n 1, 1) := by decide +kernel
theorem dX4_faultOf_11 : decode cX4_faultOf 11 = .ok (.getfield 29, 3) := by decide +kernel
theorem dX4_faultOf_14 : decode cX4_faultOf 14 = .ok (.ifCond .le 135, 3) := by decide +kernel
theorem dX4_faultOf_17 : decode cX4_faultOf 17 = .ok (.aload_n 1, 1) := by decide +kernel
theorem dX4_faultOf_18 : decode cX4_faultOf 18 = .ok (.iload_n 2, 1) := by decide +kernel
theorem dX4_faultOf_19 : decode cX4_faultOf 19 = .ok (.invokevirtual 34, 3) := by decide +kernel
theorem dX4_faultOf_22 : decode cX4_faultOf 22 = .ok (.invokestatic 38, 3) := by decide +kernel
theorem dX4_faultOf_25 : decode cX4_faultOf 25 = .ok (.istore 4, 2) := by decide +kernel
theorem dX4_faultOf_27 : decode cX4_faultOf 27 = .ok (.iload 4, 2) := by decide +kernel
theorem dX4_faultOf_29 : decode cX4_faultOf 29 = .ok (.iconst (-1), 1) := by decide +kernel
theorem dX4_faultOf_30 : decode cX4_faultOf 30 = .ok (.if_icmp .ne 5, 3) := by decide +kernel
theorem dX4_faultOf_33 : decode cX4_faultOf 33 = .ok (.iload_n 2, 1) := by decide +kernel
theorem dX4_faultOf_34 : decode cX4_faultOf 34 = .ok (.ireturn, 1) := by decide +kernel
theorem dX4_faultOf_35 : decode cX4_faultOf 35 = .ok (.aload_n 1, 1) := by decide +kernel
theorem dX4_faultOf_36 : decode cX4_faultOf 36 = .ok (.iload_n 2, 1) := by decide +kernel
theorem dX4_faultOf_37 : decode cX4_faultOf 37 = .ok (.iconst 1, 1) := by decide +kernel
theorem dX4_faultOf_38 : decode cX4_faultOf 38 = .ok (.iadd, 1) := by decide +kernel
theorem dX4_faultOf_39 : decode cX4_faultOf 39 = .ok (.invokevirtual 41, 3) := by decide +kernel
theorem dX4_faultOf_42 : decode cX4_faultOf 42 = .ok (.istore 5, 2) := by decide +kernel
theorem dX4_faultOf_44 : decode cX4_faultOf 44 = .ok (.aload_n 1, 1) := by decide +kernel
theorem dX4_faultOf_45 : decode cX4_faultOf 45 = .ok (.iload_n 2, 1) := by decide +kernel
theorem dX4_faultOf_46 : decode cX4_faultOf 46 = .ok (.iconst 2, 1) := by decide +kernel
theorem dX4_faultOf_47 : decode cX4_faultOf 47 = .ok (.iadd, 1) := by decide +kernel
theorem dX4_faultOf_48 : decode cX4_faultOf 48 = .ok (.invokevirtual 41, 3) := by decide +kernel
theorem dX4_faultOf_51 : decode cX4_faultOf 51 = .ok (.istore 6, 2) := by decide +kernel
theorem dX4_faultOf_53 : decode cX4_faultOf 53 = .ok (.iload 6, 2) := by decide +kernel
theorem dX4_faultOf_55 : decode cX4_faultOf 55 = .ok (.iconst (-1), 1) := by decide +kernel
theorem dX4_faultOf_56 : decode cX4_faultOf 56 = .ok (.if_icmp .ne 8, 3) := by decide +kernel
theorem dX4_faultOf_59 : decode cX4_faultOf 59 = .ok (.iload 5, 2) := by decide +kernel
theorem dX4_faultOf_61 : decode cX4_faultOf 61 = .ok (.goto 11, 3) := by decide +kernel
theorem dX4_faultOf_64 : decode cX4_faultOf 64 = .ok (.bipush 10, 2) := by decide +kernel
theorem dX4_faultOf_66 : decode cX4_faultOf 66 = .ok (.iload 5, 2) := by decide +kernel
theorem dX4_faultOf_68 : decode cX4_faultOf 68 = .ok (.imul, 1) := by decide +kernel
theorem dX4_faultOf_69 : decode cX4_faultOf 69 = .ok (.iload 6, 2) := by decide +kernel
theorem dX4_faultOf_71 : decode cX4_faultOf 71 = .ok (.iadd, 1) := by decide +kernel
theorem dX4_faultOf_72 : decode cX4_faultOf 72 = .ok (.istore 7, 2) := by decide +kernel
theorem dX4_faultOf_74 : decode cX4_faultOf 74 = .ok (.iload 5, 2) := by decide +kernel
theorem dX4_faultOf_76 : decode cX4_faultOf 76 = .ok (.iconst (-1), 1) := by decide +kernel
theorem dX4_faultOf_77 : decode cX4_faultOf 77 = .ok (.if_icmp .eq 14, 3) := by decide +kernel
theorem dX4_faultOf_80 : decode cX4_faultOf 80 = .ok (.iload 7, 2) := by decide +kernel
theorem dX4_faultOf_82 : decode cX4_faultOf 82 = .ok (.getstatic 44, 3) := by decide +kernel
theorem dX4_faultOf_85 : decode cX4_faultOf 85 = .ok (.iload 4, 2) := by decide +kernel
theorem dX4_faultOf_87 : decode cX4_faultOf 87 = .ok (.iaload, 1) := by decide +kernel
theorem dX4_faultOf_88 : decode cX4_faultOf 88 = .ok (.if_icmp .le 7, 3) := by decide +kernel
theorem dX4_faultOf_91 : decode cX4_faultOf 91 = .ok (.iload_n 2, 1) := by decide +kernel
theorem dX4_faultOf_92 : decode cX4_faultOf 92 = .ok (.iconst 1, 1) := by decide +kernel
theorem dX4_faultOf_93 : decode cX4_faultOf 93 = .ok (.iadd, 1) := by decide +kernel
theorem dX4_faultOf_94 : decode cX4_faultOf 94 = .ok (.ireturn, 1) := by decide +kernel
theorem dX4_faultOf_95 : decode cX4_faultOf 95 = .ok (.aload_n 0, 1) := by decide +kernel
theorem dX4_faultOf_96 : decode cX4_faultOf 96 = .ok (.getfield 9, 3) := by decide +kernel
theorem dX4_faultOf_99 : decode cX4_faultOf 99 = .ok (.iload 4, 2) := by decide +kernel
theorem dX4_faultOf_101 : decode cX4_faultOf 101 = .ok (.iload 7, 2) := by decide +kernel
theorem dX4_faultOf_103 : decode cX4_faultOf 103 = .ok (.iastore, 1) := by decide +kernel
theorem dX4_faultOf_104 : decode cX4_faultOf 104 = .ok (.iload_n 2, 1) := by decide +kernel
theorem dX4_faultOf_105 : decode cX4_faultOf 105 = .ok (.iload 6, 2) := by decide +kernel
theorem dX4_faultOf_107 : decode cX4_faultOf 107 = .ok (.iconst (-1), 1) := by decide +kernel
theorem dX4_faultOf_108 : decode cX4_faultOf 108 = .ok (.if_icmp .ne 7, 3) := by decide +kernel
theorem dX4_faultOf_111 : decode cX4_faultOf 111 = .ok (.iconst 2, 1) := by decide +kernel
theorem dX4_faultOf_112 : decode cX4_faultOf 112 = .ok (.goto 4, 3) := by decide +kernel
theorem dX4_faultOf_115 : decode cX4_faultOf 115 = .ok (.iconst 3, 1) := by decide +kernel
theorem dX4_faultOf_116 : decode cX4_faultOf 116 = .ok (.iadd, 1) := by decide +kernel
theorem dX4_faultOf_117 : decode cX4_faultOf 117 = .ok (.istore_n 2, 1) := by decide +kernel
theorem dX4_faultOf_118 : decode cX4_faultOf 118 = .ok (.iload_n 2, 1) := by decide +kernel
theorem dX4_faultOf_119 : decode cX4_faultOf 119 = .ok (.aload_n 1, 1) := by decide +kernel
theorem dX4_faultOf_120 : decode cX4_faultOf 120 = .ok (.getfield 29, 3) := by decide +kernel
theorem dX4_faultOf_123 : decode cX4_faultOf 123 = .ok (.if_icmp .lt 5, 3) := by decide +kernel
theorem dX4_faultOf_126 : decode cX4_faultOf 126 = .ok (.iconst (-1), 1) := by decide +kernel
theorem dX4_faultOf_127 : decode cX4_faultOf 127 = .ok (.ireturn, 1) := by decide +kernel
theorem dX4_faultOf_128 : decode cX4_faultOf 128 = .ok (.aload_n 1, 1) := by decide +kernel
theorem dX4_faultOf_129 : decode cX4_faultOf 129 = .ok (.iload_n 2, 1) := by decide +kernel
theorem dX4_faultOf_130 : decode cX4_faultOf 130 = .ok (.invokevirtual 34, 3) := by decide +kernel
theorem dX4_faultOf_133 : decode cX4_faultOf 133 = .ok (.bipush 59, 2) := by decide +kernel
theorem dX4_faultOf_135 : decode cX4_faultOf 135 = .ok (.if_icmp .eq 5, 3) := by decide +kernel
theorem dX4_faultOf_138 : decode cX4_faultOf 138 = .ok (.iload_n 2, 1) := by decide +kernel
theorem dX4_faultOf_139 : decode cX4_faultOf 139 = .ok (.ireturn, 1) := by decide +kernel
theorem dX4_faultOf_140 : decode cX4_faultOf 140 = .ok (.iinc 2 1, 3) := by decide +kernel
theorem dX4_faultOf_143 : decode cX4_faultOf 143 = .ok (.iinc 3 1, 3) := by decide +kernel
theorem dX4_faultOf_146 : decode cX4_faultOf 146 = .ok (.goto (-142), 3) := by decide +kernel
theorem dX4_faultOf_149 : decode cX4_faultOf 149 = .ok (.iconst (-1), 1) := by decide +kernel
theorem dX4_faultOf_150 : decode cX4_faultOf 150 = .ok (.ireturn, 1) := by decide +kernel
theorem dX4_reset_0 : decode cX4_reset 0 = .ok (.iconst 0, 1) := by decide +kernel
theorem dX4_reset_1 : decode cX4_reset 1 = .ok (.istore_n 1, 1) := by decide +kernel
theorem dX4_reset_2 : decode cX4_reset 2 = .ok (.iload_n 1, 1) := by decide +kernel
theorem dX4_reset_3 : decode cX4_reset 3 = .ok (.bipush 7, 2) := by decide +kernel
theorem dX4_reset_5 : decode cX4_reset 5 = .ok (.if_icmp .ge 20, 3) := by decide +kernel
theorem dX4_reset_8 : decode cX4_reset 8 = .ok (.aload_n 0, 1) := by decide +kernel
theorem dX4_reset_9 : decode cX4_reset 9 = .ok (.getfield 9, 3) := by decide +kernel
theorem dX4_reset_12 : decode cX4_reset 12 = .ok (.iload_n 1, 1) := by decide +kernel
theorem dX4_reset_13 : decode cX4_reset 13 = .ok (.getstatic 26, 3) := by decide +kernel
theorem dX4_reset_16 : decode cX4_reset 16 = .ok (.iload_n 1, 1) := by decide +kernel
theorem dX4_reset_17 : decode cX4_reset 17 = .ok (.iaload, 1) := by decide +kernel
theorem dX4_reset_18 : decode cX4_reset 18 = .ok (.iastore, 1) := by decide +kernel
theorem dX4_reset_19 : decode cX4_reset 19 = .ok (.iinc 1 1, 3) := by decide +kernel
theorem dX4_reset_22 : decode cX4_reset 22 = .ok (.goto (-20), 3) := by decide +kernel
theorem dX4_reset_25 : decode cX4_reset 25 = .ok (.return_, 1) := by decide +kernel
theorem dX4_learn_0 : decode cX4_learn 0 = .ok (.aload_n 0, 1) := by decide +kernel
theorem dX4_learn_1 : decode cX4_learn 1 = .ok (.invokevirtual 19, 3) := by decide +kernel
theorem dX4_learn_4 : decode cX4_learn 4 = .ok (.aload_n 0, 1) := by decide +kernel
theorem dX4_learn_5 : decode cX4_learn 5 = .ok (.aload_n 0, 1) := by decide +kernel
theorem dX4_learn_6 : decode cX4_learn 6 = .ok (.aload_n 1, 1) := by decide +kernel
theorem dX4_learn_7 : decode cX4_learn 7 = .ok (.invokevirtual 22, 3) := by decide +kernel
theorem dX4_learn_10 : decode cX4_learn 10 = .ok (.putfield 15, 3) := by decide +kernel
theorem dX4_learn_13 : decode cX4_learn 13 = .ok (.aload_n 0, 1) := by decide +kernel
theorem dX4_learn_14 : decode cX4_learn 14 = .ok (.getfield 15, 3) := by decide +kernel
theorem dX4_learn_17 : decode cX4_learn 17 = .ok (.iconst (-1), 1) := by decide +kernel
theorem dX4_learn_18 : decode cX4_learn 18 = .ok (.if_icmp .eq 7, 3) := by decide +kernel
theorem dX4_learn_21 : decode cX4_learn 21 = .ok (.aload_n 0, 1) := by decide +kernel
theorem dX4_learn_22 : decode cX4_learn 22 = .ok (.invokevirtual 19, 3) := by decide +kernel
theorem dX4_learn_25 : decode cX4_learn 25 = .ok (.return_, 1) := by decide +kernel
theorem dX5_add_0 : decode cX5_add 0 = .ok (.iconst 0, 1) := by decide +kernel
theorem dX5_add_1 : decode cX5_add 1 = .ok (.istore_n 3, 1) := by decide +kernel
theorem dX5_add_2 : decode cX5_add 2 = .ok (.iload_n 3, 1) := by decide +kernel
theorem dX5_add_3 : decode cX5_add 3 = .ok (.iload_n 2, 1) := by decide +kernel
theorem dX5_add_4 : decode cX5_add 4 = .ok (.if_icmp .ge 45, 3) := by decide +kernel
theorem dX5_add_7 : decode cX5_add 7 = .ok (.aload_n 0, 1) := by decide +kernel
theorem dX5_add_8 : decode cX5_add 8 = .ok (.getfield 19, 3) := by decide +kernel
theorem dX5_add_11 : decode cX5_add 11 = .ok (.ifCond .lt 38, 3) := by decide +kernel
theorem dX5_add_14 : decode cX5_add 14 = .ok (.aload_n 0, 1) := by decide +kernel
theorem dX5_add_15 : decode cX5_add 15 = .ok (.getfield 19, 3) := by decide +kernel
theorem dX5_add_18 : decode cX5_add 18 = .ok (.bipush 90, 2) := by decide +kernel
theorem dX5_add_20 : decode cX5_add 20 = .ok (.if_icmp .ge 29, 3) := by decide +kernel
theorem dX5_add_23 : decode cX5_add 23 = .ok (.aload_n 0, 1) := by decide +kernel
theorem dX5_add_24 : decode cX5_add 24 = .ok (.getfield 11, 3) := by decide +kernel
theorem dX5_add_27 : decode cX5_add 27 = .ok (.aload_n 0, 1) := by decide +kernel
theorem dX5_add_28 : decode cX5_add 28 = .ok (.getfield 19, 3) := by decide +kernel
theorem dX5_add_31 : decode cX5_add 31 = .ok (.iload_n 1, 1) := by decide +kernel
theorem dX5_add_32 : decode cX5_add 32 = .ok (.iastore, 1) := by decide +kernel
theorem dX5_add_33 : decode cX5_add 33 = .ok (.aload_n 0, 1) := by decide +kernel
theorem dX5_add_34 : decode cX5_add 34 = .ok (.dup, 1) := by decide +kernel
theorem dX5_add_35 : decode cX5_add 35 = .ok (.getfield 19, 3) := by decide +kernel
theorem dX5_add_38 : decode cX5_add 38 = .ok (.iconst 1, 1) := by decide +kernel
theorem dX5_add_39 : decode cX5_add 39 = .ok (.iadd, 1) := by decide +kernel
theorem dX5_add_40 : decode cX5_add 40 = .ok (.putfield 19, 3) := by decide +kernel
theorem dX5_add_43 : decode cX5_add 43 = .ok (.iinc 3 1, 3) := by decide +kernel
theorem dX5_add_46 : decode cX5_add 46 = .ok (.goto (-44), 3) := by decide +kernel
theorem dX5_add_49 : decode cX5_add 49 = .ok (.return_, 1) := by decide +kernel
theorem dX5_faultOf_0 : decode cX5_faultOf 0 = .ok (.iconst 0, 1) := by decide +kernel
theorem dX5_faultOf_1 : decode cX5_faultOf 1 = .ok (.istore_n 2, 1) := by decide +kernel
theorem dX5_faultOf_2 : decode cX5_faultOf 2 = .ok (.iconst 0, 1) := by decide +kernel
theorem dX5_faultOf_3 : decode cX5_faultOf 3 = .ok (.istore_n 3, 1) := by decide +kernel
theorem dX5_faultOf_4 : decode cX5_faultOf 4 = .ok (.iload_n 3, 1) := by decide +kernel
theorem dX5_faultOf_5 : decode cX5_faultOf 5 = .ok (.bipush 40, 2) := by decide +kernel
theorem dX5_faultOf_7 : decode cX5_faultOf 7 = .ok (.if_icmp .ge 102, 3) := by decide +kernel
theorem dX5_faultOf_10 : decode cX5_faultOf 10 = .ok (.aload_n 1, 1) := by decide +kernel
theorem dX5_faultOf_11 : decode cX5_faultOf 11 = .ok (.getfield 26, 3) := by decide +kernel
theorem dX5_faultOf_14 : decode cX5_faultOf 14 = .ok (.ifCond .le 95, 3) := by decide +kernel
theorem dX5_faultOf_17 : decode cX5_faultOf 17 = .ok (.aload_n 1, 1) := by decide +kernel
theorem dX5_faultOf_18 : decode cX5_faultOf 18 = .ok (.iload_n 2, 1) := by decide +kernel
theorem dX5_faultOf_19 : decode cX5_faultOf 19 = .ok (.invokevirtual 29, 3) := by decide +kernel
theorem dX5_faultOf_22 : decode cX5_faultOf 22 = .ok (.istore 4, 2) := by decide +kernel
theorem dX5_faultOf_24 : decode cX5_faultOf 24 = .ok (.iload 4, 2) := by decide +kernel
theorem dX5_faultOf_26 : decode cX5_faultOf 26 = .ok (.iconst (-1), 1) := by decide +kernel
theorem dX5_faultOf_27 : decode cX5_faultOf 27 = .ok (.if_icmp .ne 5, 3) := by decide +kernel
theorem dX5_faultOf_30 : decode cX5_faultOf 30 = .ok (.iload_n 2, 1) := by decide +kernel
theorem dX5_faultOf_31 : decode cX5_faultOf 31 = .ok (.ireturn, 1) := by decide +kernel
theorem dX5_faultOf_32 : decode cX5_faultOf 32 = .ok (.iinc 2 1, 3) := by decide +kernel
theorem dX5_faultOf_35 : decode cX5_faultOf 35 = .ok (.iconst 1, 1) := by decide +kernel
theorem dX5_faultOf_36 : decode cX5_faultOf 36 = .ok (.istore 5, 2) := by decide +kernel
theorem dX5_faultOf_38 : decode cX5_faultOf 38 = .ok (.aload_n 1, 1) := by decide +kernel
theorem dX5_faultOf_39 : decode cX5_faultOf 39 = .ok (.iload_n 2, 1) := by decide +kernel
theorem dX5_faultOf_40 : decode cX5_faultOf 40 = .ok (.invokevirtual 33, 3) := by decide +kernel
theorem dX5_faultOf_43 : decode cX5_faultOf 43 = .ok (.bipush 42, 2) := by decide +kernel
theorem dX5_faultOf_45 : decode cX5_faultOf 45 = .ok (.if_icmp .ne 25, 3) := by decide +kernel
theorem dX5_faultOf_48 : decode cX5_faultOf 48 = .ok (.aload_n 1, 1) := by decide +kernel
theorem dX5_faultOf_49 : decode cX5_faultOf 49 = .ok (.iload_n 2, 1) := by decide +kernel
theorem dX5_faultOf_50 : decode cX5_faultOf 50 = .ok (.iconst 1, 1) := by decide +kernel
theorem dX5_faultOf_51 : decode cX5_faultOf 51 = .ok (.iadd, 1) := by decide +kernel
theorem dX5_faultOf_52 : decode cX5_faultOf 52 = .ok (.invokevirtual 29, 3) := by decide +kernel
theorem dX5_faultOf_55 : decode cX5_faultOf 55 = .ok (.istore 5, 2) := by decide +kernel
theorem dX5_faultOf_57 : decode cX5_faultOf 57 = .ok (.iload 5, 2) := by decide +kernel
theorem dX5_faultOf_59 : decode cX5_faultOf 59 = .ok (.iconst 2, 1) := by decide +kernel
theorem dX5_faultOf_60 : decode cX5_faultOf 60 = .ok (.if_icmp .ge 7, 3) := by decide +kernel
theorem dX5_faultOf_63 : decode cX5_faultOf 63 = .ok (.iload_n 2, 1) := by decide +kernel
theorem dX5_faultOf_64 : decode cX5_faultOf 64 = .ok (.iconst 1, 1) := by decide +kernel
theorem dX5_faultOf_65 : decode cX5_faultOf 65 = .ok (.iadd, 1) := by decide +kernel
theorem dX5_faultOf_66 : decode cX5_faultOf 66 = .ok (.ireturn, 1) := by decide +kernel
theorem dX5_faultOf_67 : decode cX5_faultOf 67 = .ok (.iinc 2 2, 3) := by decide +kernel
theorem dX5_faultOf_70 : decode cX5_faultOf 70 = .ok (.aload_n 0, 1) := by decide +kernel
theorem dX5_faultOf_71 : decode cX5_faultOf 71 = .ok (.iload 4, 2) := by decide +kernel
theorem dX5_faultOf_73 : decode cX5_faultOf 73 = .ok (.iload 5, 2) := by decide +kernel
theorem dX5_faultOf_75 : decode cX5_faultOf 75 = .ok (.invokevirtual 36, 3) := by decide +kernel
theorem dX5_faultOf_78 : decode cX5_faultOf 78 = .ok (.iload_n 2, 1) := by decide +kernel
theorem dX5_faultOf_79 : decode cX5_faultOf 79 = .ok (.aload_n 1, 1) := by decide +kernel
theorem dX5_faultOf_80 : decode cX5_faultOf 80 = .ok (.getfield 26, 3) := by decide +kernel
theorem dX5_faultOf_83 : decode cX5_faultOf 83 = .ok (.if_icmp .lt 5, 3) := by decide +kernel
theorem dX5_faultOf_86 : decode cX5_faultOf 86 = .ok (.iconst (-1), 1) := by decide +kernel
theorem dX5_faultOf_87 : decode cX5_faultOf 87 = .ok (.ireturn, 1) := by decide +kernel
theorem dX5_faultOf_88 : decode cX5_faultOf 88 = .ok (.aload_n 1, 1) := by decide +kernel
theorem dX5_faultOf_89 : decode cX5_faultOf 89 = .ok (.iload_n 2, 1) := by decide +kernel
theorem dX5_faultOf_90 : decode cX5_faultOf 90 = .ok (.invokevirtual 33, 3) := by decide +kernel
theorem dX5_faultOf_93 : decode cX5_faultOf 93 = .ok (.bipush 44, 2) := by decide +kernel
theorem dX5_faultOf_95 : decode cX5_faultOf 95 = .ok (.if_icmp .eq 5, 3) := by decide +kernel
theorem dX5_faultOf_98 : decode cX5_faultOf 98 = .ok (.iload_n 2, 1) := by decide +kernel
theorem dX5_faultOf_99 : decode cX5_faultOf 99 = .ok (.ireturn, 1) := by decide +kernel
theorem dX5_faultOf_100 : decode cX5_faultOf 100 = .ok (.iinc 2 1, 3) := by decide +kernel
theorem dX5_faultOf_103 : decode cX5_faultOf 103 = .ok (.iinc 3 1, 3) := by decide +kernel
theorem dX5_faultOf_106 : decode cX5_faultOf 106 = .ok (.goto (-102), 3) := by decide +kernel
theorem dX5_faultOf_109 : decode cX5_faultOf 109 = .ok (.iconst (-1), 1) := by decide +kernel
theorem dX5_faultOf_110 : decode cX5_faultOf 110 = .ok (.ireturn, 1) := by decide +kernel
theorem dX5_learn_0 : decode cX5_learn 0 = .ok (.aload_n 0, 1) := by decide +kernel
theorem dX5_learn_1 : decode cX5_learn 1 = .ok (.iconst 0, 1) := by decide +kernel
theorem dX5_learn_2 : decode cX5_learn 2 = .ok (.putfield 19, 3) := by decide +kernel
theorem dX5_learn_5 : decode cX5_learn 5 = .ok (.aload_n 0, 1) := by decide +kernel
theorem dX5_learn_6 : decode cX5_learn 6 = .ok (.aload_n 0, 1) := by decide +kernel
theorem dX5_learn_7 : decode cX5_learn 7 = .ok (.aload_n 1, 1) := by decide +kernel
theorem dX5_learn_8 : decode cX5_learn 8 = .ok (.invokevirtual 22, 3) := by decide +kernel
theorem dX5_learn_11 : decode cX5_learn 11 = .ok (.putfield 15, 3) := by decide +kernel
theorem dX5_learn_14 : decode cX5_learn 14 = .ok (.aload_n 0, 1) := by decide +kernel
theorem dX5_learn_15 : decode cX5_learn 15 = .ok (.getfield 15, 3) := by decide +kernel
theorem dX5_learn_18 : decode cX5_learn 18 = .ok (.iconst (-1), 1) := by decide +kernel
theorem dX5_learn_19 : decode cX5_learn 19 = .ok (.if_icmp .eq 8, 3) := by decide +kernel
theorem dX5_learn_22 : decode cX5_learn 22 = .ok (.aload_n 0, 1) := by decide +kernel
theorem dX5_learn_23 : decode cX5_learn 23 = .ok (.iconst 0, 1) := by decide +kernel
theorem dX5_learn_24 : decode cX5_learn 24 = .ok (.putfield 19, 3) := by decide +kernel
theorem dX5_learn_27 : decode cX5_learn 27 = .ok (.return_, 1) := by decide +kernel
theorem dX5_actAt_0 : decode cX5_actAt 0 = .ok (.iload_n 1, 1) := by decide +kernel
theorem dX5_actAt_1 : decode cX5_actAt 1 = .ok (.ifCond .lt 26, 3) := by decide +kernel
theorem dX5_actAt_4 : decode cX5_actAt 4 = .ok (.iload_n 1, 1) := by decide +kernel
theorem dX5_actAt_5 : decode cX5_actAt 5 = .ok (.aload_n 0, 1) := by decide +kernel
theorem dX5_actAt_6 : decode cX5_actAt 6 = .ok (.getfield 19, 3) := by decide +kernel
theorem dX5_actAt_9 : decode cX5_actAt 9 = .ok (.if_icmp .ge 18, 3) := by decide +kernel
theorem dX5_actAt_12 : decode cX5_actAt 12 = .ok (.iload_n 1, 1) := by decide +kernel
theorem dX5_actAt_13 : decode cX5_actAt 13 = .ok (.bipush 90, 2) := by decide +kernel
theorem dX5_actAt_15 : decode cX5_actAt 15 = .ok (.if_icmp .ge 12, 3) := by decide +kernel
theorem dX5_actAt_18 : decode cX5_actAt 18 = .ok (.aload_n 0, 1) := by decide +kernel
theorem dX5_actAt_19 : decode cX5_actAt 19 = .ok (.getfield 11, 3) := by decide +kernel
theorem dX5_actAt_22 : decode cX5_actAt 22 = .ok (.iload_n 1, 1) := by decide +kernel
theorem dX5_actAt_23 : decode cX5_actAt 23 = .ok (.iaload, 1) := by decide +kernel
theorem dX5_actAt_24 : decode cX5_actAt 24 = .ok (.goto 4, 3) := by decide +kernel
theorem dX5_actAt_27 : decode cX5_actAt 27 = .ok (.iconst (-1), 1) := by decide +kernel
theorem dX5_actAt_28 : decode cX5_actAt 28 = .ok (.ireturn, 1) := by decide +kernel
theorem dX6_isLost_0 : decode cX6_isLost 0 = .ok (.aload_n 0, 1) := by decide +kernel
theorem dX6_isLost_1 : decode cX6_isLost 1 = .ok (.getfield 15, 3) := by decide +kernel
theorem dX6_isLost_4 : decode cX6_isLost 4 = .ok (.iconst (-1), 1) := by decide +kernel
theorem dX6_isLost_5 : decode cX6_isLost 5 = .ok (.if_icmp .ne 7, 3) := by decide +kernel
theorem dX6_isLost_8 : decode cX6_isLost 8 = .ok (.iconst 1, 1) := by decide +kernel
theorem dX6_isLost_9 : decode cX6_isLost 9 = .ok (.goto 4, 3) := by decide +kernel
theorem dX6_isLost_12 : decode cX6_isLost 12 = .ok (.iconst 0, 1) := by decide +kernel
theorem dX6_isLost_13 : decode cX6_isLost 13 = .ok (.ireturn, 1) := by decide +kernel
theorem dX6_lay_0 : decode cX6_lay 0 = .ok (.aload_n 0, 1) := by decide +kernel
theorem dX6_lay_1 : decode cX6_lay 1 = .ok (.getfield 9, 3) := by decide +kernel
theorem dX6_lay_4 : decode cX6_lay 4 = .ok (.iconst 0, 1) := by decide +kernel
theorem dX6_lay_5 : decode cX6_lay 5 = .ok (.invokestatic 19, 3) := by decide +kernel
theorem dX6_lay_8 : decode cX6_lay 8 = .ok (.aload_n 0, 1) := by decide +kernel
theorem dX6_lay_9 : decode cX6_lay 9 = .ok (.iload_n 1, 1) := by decide +kernel
theorem dX6_lay_10 : decode cX6_lay 10 = .ok (.putfield 15, 3) := by decide +kernel
theorem dX6_lay_13 : decode cX6_lay 13 = .ok (.aload_n 0, 1) := by decide +kernel
theorem dX6_lay_14 : decode cX6_lay 14 = .ok (.iload_n 2, 1) := by decide +kernel
theorem dX6_lay_15 : decode cX6_lay 15 = .ok (.putfield 25, 3) := by decide +kernel
theorem dX6_lay_18 : decode cX6_lay 18 = .ok (.return_, 1) := by decide +kernel
theorem dX6_wrongWith_0 : decode cX6_wrongWith 0 = .ok (.aload_n 0, 1) := by decide +kernel
theorem dX6_wrongWith_1 : decode cX6_wrongWith 1 = .ok (.invokevirtual 28, 3) := by decide +kernel
theorem dX6_wrongWith_4 : decode cX6_wrongWith 4 = .ok (.ifCond .eq 5, 3) := by decide +kernel
theorem dX6_wrongWith_7 : decode cX6_wrongWith 7 = .ok (.iconst 1, 1) := by decide +kernel
theorem dX6_wrongWith_8 : decode cX6_wrongWith 8 = .ok (.ireturn, 1) := by decide +kernel
theorem dX6_wrongWith_9 : decode cX6_wrongWith 9 = .ok (.aload_n 0, 1) := by decide +kernel
theorem dX6_wrongWith_10 : decode cX6_wrongWith 10 = .ok (.getfield 15, 3) := by decide +kernel
theorem dX6_wrongWith_13 : decode cX6_wrongWith 13 = .ok (.iload_n 1, 1) := by decide +kernel
theorem dX6_wrongWith_14 : decode cX6_wrongWith 14 = .ok (.if_icmp .eq 5, 3) := by decide +kernel
theorem dX6_wrongWith_17 : decode cX6_wrongWith 17 = .ok (.iconst 3, 1) := by decide +kernel
theorem dX6_wrongWith_18 : decode cX6_wrongWith 18 = .ok (.ireturn, 1) := by decide +kernel
theorem dX6_wrongWith_19 : decode cX6_wrongWith 19 = .ok (.iload_n 2, 1) := by decide +kernel
theorem dX6_wrongWith_20 : decode cX6_wrongWith 20 = .ok (.aload_n 0, 1) := by decide +kernel
theorem dX6_wrongWith_21 : decode cX6_wrongWith 21 = .ok (.getfield 25, 3) := by decide +kernel
theorem dX6_wrongWith_24 : decode cX6_wrongWith 24 = .ok (.invokestatic 32, 3) := by decide +kernel
theorem dX6_wrongWith_27 : decode cX6_wrongWith 27 = .ok (.ifCond .eq 7, 3) := by decide +kernel
theorem dX6_wrongWith_30 : decode cX6_wrongWith 30 = .ok (.iconst 0, 1) := by decide +kernel
theorem dX6_wrongWith_31 : decode cX6_wrongWith 31 = .ok (.goto 4, 3) := by decide +kernel
theorem dX6_wrongWith_34 : decode cX6_wrongWith 34 = .ok (.iconst 2, 1) := by decide +kernel
theorem dX6_wrongWith_35 : decode cX6_wrongWith 35 = .ok (.ireturn, 1) := by decide +kernel
theorem dX6_holds_0 : decode cX6_holds 0 = .ok (.iload_n 1, 1) := by decide +kernel
theorem dX6_holds_1 : decode cX6_holds 1 = .ok (.ifCond .lt 29, 3) := by decide +kernel
theorem dX6_holds_4 : decode cX6_holds 4 = .ok (.iload_n 1, 1) := by decide +kernel
theorem dX6_holds_5 : decode cX6_holds 5 = .ok (.aload_n 0, 1) := by decide +kernel
theorem dX6_holds_6 : decode cX6_holds 6 = .ok (.getfield 25, 3) := by decide +kernel
theorem dX6_holds_9 : decode cX6_holds 9 = .ok (.if_icmp .gt 21, 3) := by decide +kernel
theorem dX6_holds_12 : decode cX6_holds 12 = .ok (.iload_n 2, 1) := by decide +kernel
theorem dX6_holds_13 : decode cX6_holds 13 = .ok (.ifCond .lt 17, 3) := by decide +kernel
theorem dX6_holds_16 : decode cX6_holds 16 = .ok (.iload_n 2, 1) := by decide +kernel
theorem dX6_holds_17 : decode cX6_holds 17 = .ok (.aload_n 0, 1) := by decide +kernel
theorem dX6_holds_18 : decode cX6_holds 18 = .ok (.getfield 25, 3) := by decide +kernel
theorem dX6_holds_21 : decode cX6_holds 21 = .ok (.iload_n 1, 1) := by decide +kernel
theorem dX6_holds_22 : decode cX6_holds 22 = .ok (.isub, 1) := by decide +kernel
theorem dX6_holds_23 : decode cX6_holds 23 = .ok (.if_icmp .gt 7, 3) := by decide +kernel
theorem dX6_holds_26 : decode cX6_holds 26 = .ok (.iconst 1, 1) := by decide +kernel
theorem dX6_holds_27 : decode cX6_holds 27 = .ok (.goto 4, 3) := by decide +kernel
theorem dX6_holds_30 : decode cX6_holds 30 = .ok (.iconst 0, 1) := by decide +kernel
theorem dX6_holds_31 : decode cX6_holds 31 = .ok (.ireturn, 1) := by decide +kernel
theorem dX6_itemAt_0 : decode cX6_itemAt 0 = .ok (.iload_n 1, 1) := by decide +kernel
theorem dX6_itemAt_1 : decode cX6_itemAt 1 = .ok (.aload_n 0, 1) := by decide +kernel
theorem dX6_itemAt_2 : decode cX6_itemAt 2 = .ok (.getfield 25, 3) := by decide +kernel
theorem dX6_itemAt_5 : decode cX6_itemAt 5 = .ok (.invokestatic 32, 3) := by decide +kernel
theorem dX6_itemAt_8 : decode cX6_itemAt 8 = .ok (.ifCond .eq 18, 3) := by decide +kernel
theorem dX6_itemAt_11 : decode cX6_itemAt 11 = .ok (.iload_n 1, 1) := by decide +kernel
theorem dX6_itemAt_12 : decode cX6_itemAt 12 = .ok (.bipush 48, 2) := by decide +kernel
theorem dX6_itemAt_14 : decode cX6_itemAt 14 = .ok (.if_icmp .ge 12, 3) := by decide +kernel
theorem dX6_itemAt_17 : decode cX6_itemAt 17 = .ok (.aload_n 0, 1) := by decide +kernel
theorem dX6_itemAt_18 : decode cX6_itemAt 18 = .ok (.getfield 9, 3) := by decide +kernel
theorem dX6_itemAt_21 : decode cX6_itemAt 21 = .ok (.iload_n 1, 1) := by decide +kernel
theorem dX6_itemAt_22 : decode cX6_itemAt 22 = .ok (.iaload, 1) := by decide +kernel
theorem dX6_itemAt_23 : decode cX6_itemAt 23 = .ok (.goto 4, 3) := by decide +kernel
theorem dX6_itemAt_26 : decode cX6_itemAt 26 = .ok (.iconst 0, 1) := by decide +kernel
theorem dX6_itemAt_27 : decode cX6_itemAt 27 = .ok (.ireturn, 1) := by decide +kernel
theorem dX6_keep_0 : decode cX6_keep 0 = .ok (.iload_n 1, 1) := by decide +kernel
theorem dX6_keep_1 : decode cX6_keep 1 = .ok (.aload_n 0, 1) := by decide +kernel
theorem dX6_keep_2 : decode cX6_keep 2 = .ok (.getfield 25, 3) := by decide +kernel
theorem dX6_keep_5 : decode cX6_keep 5 = .ok (.invokestatic 32, 3) := by decide +kernel
theorem dX6_keep_8 : decode cX6_keep 8 = .ok (.ifCond .eq 41, 3) := by decide +kernel
theorem dX6_keep_11 : decode cX6_keep 11 = .ok (.iload_n 1, 1) := by decide +kernel
theorem dX6_keep_12 : decode cX6_keep 12 = .ok (.bipush 48, 2) := by decide +kernel
theorem dX6_keep_14 : decode cX6_keep 14 = .ok (.if_icmp .ge 35, 3) := by decide +kernel
theorem dX6_keep_17 : decode cX6_keep 17 = .ok (.aload_n 0, 1) := by decide +kernel
theorem dX6_keep_18 : decode cX6_keep 18 = .ok (.getfield 9, 3) := by decide +kernel
theorem dX6_keep_21 : decode cX6_keep 21 = .ok (.iload_n 1, 1) := by decide +kernel
theorem dX6_keep_22 : decode cX6_keep 22 = .ok (.aload_n 0, 1) := by decide +kernel
theorem dX6_keep_23 : decode cX6_keep 23 = .ok (.getfield 15, 3) := by decide +kernel
theorem dX6_keep_26 : decode cX6_keep 26 = .ok (.ifCond .ne 8, 3) := by decide +kernel
theorem dX6_keep_29 : decode cX6_keep 29 = .ok (.iload_n 2, 1) := by decide +kernel
theorem dX6_keep_30 : decode cX6_keep 30 = .ok (.i2b, 1) := by decide +kernel
theorem dX6_keep_31 : decode cX6_keep 31 = .ok (.goto 17, 3) := by decide +kernel
theorem dX6_keep_34 : decode cX6_keep 34 = .ok (.aload_n 0, 1) := by decide +kernel
theorem dX6_keep_35 : decode cX6_keep 35 = .ok (.getfield 15, 3) := by decide +kernel
theorem dX6_keep_38 : decode cX6_keep 38 = .ok (.iconst 1, 1) := by decide +kernel
theorem dX6_keep_39 : decode cX6_keep 39 = .ok (.if_icmp .ne 8, 3) := by decide +kernel
theorem dX6_keep_42 : decode cX6_keep 42 = .ok (.iload_n 2, 1) := by decide +kernel
theorem dX6_keep_43 : decode cX6_keep 43 = .ok (.i2s, 1) := by decide +kernel
theorem dX6_keep_44 : decode cX6_keep 44 = .ok (.goto 4, 3) := by decide +kernel
theorem dX6_keep_47 : decode cX6_keep 47 = .ok (.iload_n 2, 1) := by decide +kernel
theorem dX6_keep_48 : decode cX6_keep 48 = .ok (.iastore, 1) := by decide +kernel
theorem dX6_keep_49 : decode cX6_keep 49 = .ok (.return_, 1) := by decide +kernel
theorem dX7_turnsToDrown_0 : decode cX7_turnsToDrown 0 = .ok (.aload_n 0, 1) := by decide +kernel
theorem dX7_turnsToDrown_1 : decode cX7_turnsToDrown 1 = .ok (.aload_n 1, 1) := by decide +kernel
theorem dX7_turnsToDrown_2 : decode cX7_turnsToDrown 2 = .ok (.iload_n 2, 1) := by decide +kernel
theorem dX7_turnsToDrown_3 : decode cX7_turnsToDrown 3 = .ok (.invokevirtual 77, 3) := by decide +kernel
theorem dX7_turnsToDrown_6 : decode cX7_turnsToDrown 6 = .ok (.iconst 1, 1) := by decide +kernel
theorem dX7_turnsToDrown_7 : decode cX7_turnsToDrown 7 = .ok (.istore 4, 2) := by decide +kernel
theorem dX7_turnsToDrown_9 : decode cX7_turnsToDrown 9 = .ok (.iload 4, 2) := by decide +kernel
theorem dX7_turnsToDrown_11 : decode cX7_turnsToDrown 11 = .ok (.bipush 100, 2) := by decide +kernel
theorem dX7_turnsToDrown_13 : decode cX7_turnsToDrown 13 = .ok (.if_icmp .gt 43, 3) := by decide +kernel
theorem dX7_turnsToDrown_16 : decode cX7_turnsToDrown 16 = .ok (.aload_n 0, 1) := by decide +kernel
theorem dX7_turnsToDrown_17 : decode cX7_turnsToDrown 17 = .ok (.aload_n 1, 1) := by decide +kernel
theorem dX7_turnsToDrown_18 : decode cX7_turnsToDrown 18 = .ok (.iload_n 3, 1) := by decide +kernel
theorem dX7_turnsToDrown_19 : decode cX7_turnsToDrown 19 = .ok (.invokevirtual 81, 3) := by decide +kernel
theorem dX7_turnsToDrown_22 : decode cX7_turnsToDrown 22 = .ok (.istore 5, 2) := by decide +kernel
theorem dX7_turnsToDrown_24 : decode cX7_turnsToDrown 24 = .ok (.iload 5, 2) := by decide +kernel
theorem dX7_turnsToDrown_26 : decode cX7_turnsToDrown 26 = .ok (.iconst 2, 1) := by decide +kernel
theorem dX7_turnsToDrown_27 : decode cX7_turnsToDrown 27 = .ok (.if_icmp .eq 9, 3) := by decide +kernel
theorem dX7_turnsToDrown_30 : decode cX7_turnsToDrown 30 = .ok (.iload 5, 2) := by decide +kernel
theorem dX7_turnsToDrown_32 : decode cX7_turnsToDrown 32 = .ok (.iconst 4, 1) := by decide +kernel
theorem dX7_turnsToDrown_33 : decode cX7_turnsToDrown 33 = .ok (.if_icmp .ne 5, 3) := by decide +kernel
theorem dX7_turnsToDrown_36 : decode cX7_turnsToDrown 36 = .ok (.iconst (-1), 1) := by decide +kernel
theorem dX7_turnsToDrown_37 : decode cX7_turnsToDrown 37 = .ok (.ireturn, 1) := by decide +kernel
theorem dX7_turnsToDrown_38 : decode cX7_turnsToDrown 38 = .ok (.aload_n 0, 1) := by decide +kernel
theorem dX7_turnsToDrown_39 : decode cX7_turnsToDrown 39 = .ok (.getfield 27, 3) := by decide +kernel
theorem dX7_turnsToDrown_42 : decode cX7_turnsToDrown 42 = .ok (.bipush 6, 2) := by decide +kernel
theorem dX7_turnsToDrown_44 : decode cX7_turnsToDrown 44 = .ok (.if_icmp .lt 6, 3) := by decide +kernel
theorem dX7_turnsToDrown_47 : decode cX7_turnsToDrown 47 = .ok (.iload 4, 2) := by decide +kernel
theorem dX7_turnsToDrown_49 : decode cX7_turnsToDrown 49 = .ok (.ireturn, 1) := by decide +kernel
theorem dX7_turnsToDrown_50 : decode cX7_turnsToDrown 50 = .ok (.iinc 4 1, 3) := by decide +kernel
theorem dX7_turnsToDrown_53 : decode cX7_turnsToDrown 53 = .ok (.goto (-44), 3) := by decide +kernel
theorem dX7_turnsToDrown_56 : decode cX7_turnsToDrown 56 = .ok (.iconst (-1), 1) := by decide +kernel
theorem dX7_turnsToDrown_57 : decode cX7_turnsToDrown 57 = .ok (.ireturn, 1) := by decide +kernel
theorem dX8_takes_0 : decode cX8_takes 0 = .ok (.aload_n 0, 1) := by decide +kernel
theorem dX8_takes_1 : decode cX8_takes 1 = .ok (.getfield 21, 3) := by decide +kernel
theorem dX8_takes_4 : decode cX8_takes 4 = .ok (.ifCond .lt 15, 3) := by decide +kernel
theorem dX8_takes_7 : decode cX8_takes 7 = .ok (.aload_n 0, 1) := by decide +kernel
theorem dX8_takes_8 : decode cX8_takes 8 = .ok (.getfield 21, 3) := by decide +kernel
theorem dX8_takes_11 : decode cX8_takes 11 = .ok (.aload_n 0, 1) := by decide +kernel
theorem dX8_takes_12 : decode cX8_takes 12 = .ok (.getfield 15, 3) := by decide +kernel
theorem dX8_takes_15 : decode cX8_takes 15 = .ok (.arraylength, 1) := by decide +kernel
theorem dX8_takes_16 : decode cX8_takes 16 = .ok (.if_icmp .lt 5, 3) := by decide +kernel
theorem dX8_takes_19 : decode cX8_takes 19 = .ok (.iconst 0, 1) := by decide +kernel
theorem dX8_takes_20 : decode cX8_takes 20 = .ok (.ireturn, 1) := by decide +kernel
theorem dX8_takes_21 : decode cX8_takes 21 = .ok (.aload_n 0, 1) := by decide +kernel
theorem dX8_takes_22 : decode cX8_takes 22 = .ok (.getfield 15, 3) := by decide +kernel
theorem dX8_takes_25 : decode cX8_takes 25 = .ok (.aload_n 0, 1) := by decide +kernel
theorem dX8_takes_26 : decode cX8_takes 26 = .ok (.getfield 21, 3) := by decide +kernel
theorem dX8_takes_29 : decode cX8_takes 29 = .ok (.iload_n 1, 1) := by decide +kernel
theorem dX8_takes_30 : decode cX8_takes 30 = .ok (.iastore, 1) := by decide +kernel
theorem dX8_takes_31 : decode cX8_takes 31 = .ok (.aload_n 0, 1) := by decide +kernel
theorem dX8_takes_32 : decode cX8_takes 32 = .ok (.dup, 1) := by decide +kernel
theorem dX8_takes_33 : decode cX8_takes 33 = .ok (.getfield 21, 3) := by decide +kernel
theorem dX8_takes_36 : decode cX8_takes 36 = .ok (.iconst 1, 1) := by decide +kernel
theorem dX8_takes_37 : decode cX8_takes 37 = .ok (.iadd, 1) := by decide +kernel
theorem dX8_takes_38 : decode cX8_takes 38 = .ok (.putfield 21, 3) := by decide +kernel
theorem dX8_takes_41 : decode cX8_takes 41 = .ok (.iconst 1, 1) := by decide +kernel
theorem dX8_takes_42 : decode cX8_takes 42 = .ok (.ireturn, 1) := by decide +kernel
theorem dX9_learn_0 : decode cX9_learn 0 = .ok (.aload_n 0, 1) := by decide +kernel
theorem dX9_learn_1 : decode cX9_learn 1 = .ok (.iconst 0, 1) := by decide +kernel
theorem dX9_learn_2 : decode cX9_learn 2 = .ok (.putfield 15, 3) := by decide +kernel
theorem dX9_learn_5 : decode cX9_learn 5 = .ok (.iconst 0, 1) := by decide +kernel
theorem dX9_learn_6 : decode cX9_learn 6 = .ok (.istore 4, 2) := by decide +kernel
theorem dX9_learn_8 : decode cX9_learn 8 = .ok (.iload 4, 2) := by decide +kernel
theorem dX9_learn_10 : decode cX9_learn 10 = .ok (.bipush 32, 2) := by decide +kernel
theorem dX9_learn_12 : decode cX9_learn 12 = .ok (.if_icmp .ge 103, 3) := by decide +kernel
theorem dX9_learn_15 : decode cX9_learn 15 = .ok (.aload_n 3, 1) := by decide +kernel
theorem dX9_learn_16 : decode cX9_learn 16 = .ok (.aload_n 1, 1) := by decide +kernel
theorem dX9_learn_17 : decode cX9_learn 17 = .ok (.iload 4, 2) := by decide +kernel
theorem dX9_learn_19 : decode cX9_learn 19 = .ok (.invokevirtual 19, 3) := by decide +kernel
theorem dX9_learn_22 : decode cX9_learn 22 = .ok (.aload_n 0, 1) := by decide +kernel
theorem dX9_learn_23 : decode cX9_learn 23 = .ok (.getfield 9, 3) := by decide +kernel
theorem dX9_learn_26 : decode cX9_learn 26 = .ok (.iload 4, 2) := by decide +kernel
theorem dX9_learn_28 : decode cX9_learn 28 = .ok (.iconst 0, 1) := by decide +kernel
theorem dX9_learn_29 : decode cX9_learn 29 = .ok (.iastore, 1) := by decide +kernel
theorem dX9_learn_30 : decode cX9_learn 30 = .ok (.iconst 0, 1) := by decide +kernel
theorem dX9_learn_31 : decode cX9_learn 31 = .ok (.istore 5, 2) := by decide +kernel
theorem dX9_learn_33 : decode cX9_learn 33 = .ok (.iload 5, 2) := by decide +kernel
theorem dX9_learn_35 : decode cX9_learn 35 = .ok (.aload_n 2, 1) := by decide +kernel
theorem dX9_learn_36 : decode cX9_learn 36 = .ok (.getfield 25, 3) := by decide +kernel
theorem dX9_learn_39 : decode cX9_learn 39 = .ok (.if_icmp .ge 46, 3) := by decide +kernel
theorem dX9_learn_42 : decode cX9_learn 42 = .ok (.iload 5, 2) := by decide +kernel
theorem dX9_learn_44 : decode cX9_learn 44 = .ok (.bipush 90, 2) := by decide +kernel
theorem dX9_learn_46 : decode cX9_learn 46 = .ok (.if_icmp .ge 39, 3) := by decide +kernel
theorem dX9_learn_49 : decode cX9_learn 49 = .ok (.aload_n 0, 1) := by decide +kernel
theorem dX9_learn_50 : decode cX9_learn 50 = .ok (.getfield 9, 3) := by decide +kernel
theorem dX9_learn_53 : decode cX9_learn 53 = .ok (.iload 4, 2) := by decide +kernel
theorem dX9_learn_55 : decode cX9_learn 55 = .ok (.dup2, 1) := by decide +kernel
theorem dX9_learn_56 : decode cX9_learn 56 = .ok (.iaload, 1) := by decide +kernel
theorem dX9_learn_57 : decode cX9_learn 57 = .ok (.aload_n 3, 1) := by decide +kernel
theorem dX9_learn_58 : decode cX9_learn 58 = .ok (.aload_n 1, 1) := by decide +kernel
theorem dX9_learn_59 : decode cX9_learn 59 = .ok (.aload_n 2, 1) := by decide +kernel
theorem dX9_learn_60 : decode cX9_learn 60 = .ok (.iload 5, 2) := by decide +kernel
theorem dX9_learn_62 : decode cX9_learn 62 = .ok (.invokevirtual 30, 3) := by decide +kernel
theorem dX9_learn_65 : decode cX9_learn 65 = .ok (.invokevirtual 34, 3) := by decide +kernel
theorem dX9_learn_68 : decode cX9_learn 68 = .ok (.iconst 4, 1) := by decide +kernel
theorem dX9_learn_69 : decode cX9_learn 69 = .ok (.if_icmp .ne 7, 3) := by decide +kernel
theorem dX9_learn_72 : decode cX9_learn 72 = .ok (.iconst 0, 1) := by decide +kernel
theorem dX9_learn_73 : decode cX9_learn 73 = .ok (.goto 4, 3) := by decide +kernel
theorem dX9_learn_76 : decode cX9_learn 76 = .ok (.iconst 1, 1) := by decide +kernel
theorem dX9_learn_77 : decode cX9_learn 77 = .ok (.iadd, 1) := by decide +kernel
theorem dX9_learn_78 : decode cX9_learn 78 = .ok (.iastore, 1) := by decide +kernel
theorem dX9_learn_79 : decode cX9_learn 79 = .ok (.iinc 5 1, 3) := by decide +kernel
theorem dX9_learn_82 : decode cX9_learn 82 = .ok (.goto (-49), 3) := by decide +kernel
theorem dX9_learn_85 : decode cX9_learn 85 = .ok (.aload_n 0, 1) := by decide +kernel
theorem dX9_learn_86 : decode cX9_learn 86 = .ok (.dup, 1) := by decide +kernel
theorem dX9_learn_87 : decode cX9_learn 87 = .ok (.getfield 15, 3) := by decide +kernel
theorem dX9_learn_90 : decode cX9_learn 90 = .ok (.aload_n 3, 1) := by decide +kernel
theorem dX9_learn_91 : decode cX9_learn 91 = .ok (.getfield 38, 3) := by decide +kernel
theorem dX9_learn_94 : decode cX9_learn 94 = .ok (.ifCond .eq 10, 3) := by decide +kernel
theorem dX9_learn_97 : decode cX9_learn 97 = .ok (.iconst 1, 1) := by decide +kernel
theorem dX9_learn_98 : decode cX9_learn 98 = .ok (.iload 4, 2) := by decide +kernel
theorem dX9_learn_100 : decode cX9_learn 100 = .ok (.ishl, 1) := by decide +kernel
theorem dX9_learn_101 : decode cX9_learn 101 = .ok (.goto 4, 3) := by decide +kernel
theorem dX9_learn_104 : decode cX9_learn 104 = .ok (.iconst 0, 1) := by decide +kernel
theorem dX9_learn_105 : decode cX9_learn 105 = .ok (.ior, 1) := by decide +kernel
theorem dX9_learn_106 : decode cX9_learn 106 = .ok (.putfield 15, 3) := by decide +kernel
theorem dX9_learn_109 : decode cX9_learn 109 = .ok (.iinc 4 1, 3) := by decide +kernel
theorem dX9_learn_112 : decode cX9_learn 112 = .ok (.goto (-104), 3) := by decide +kernel
theorem dX9_learn_115 : decode cX9_learn 115 = .ok (.aload_n 0, 1) := by decide +kernel
theorem dX9_learn_116 : decode cX9_learn 116 = .ok (.iconst 1, 1) := by decide +kernel
theorem dX9_learn_117 : decode cX9_learn 117 = .ok (.putfield 42, 3) := by decide +kernel
theorem dX9_learn_120 : decode cX9_learn 120 = .ok (.return_, 1) := by decide +kernel
theorem dX9_weightHaving_0 : decode cX9_weightHaving 0 = .ok (.lconst 0, 1) := by decide +kernel
theorem dX9_weightHaving_1 : decode cX9_weightHaving 1 = .ok (.lstore_n 3, 1) := by decide +kernel
theorem dX9_weightHaving_2 : decode cX9_weightHaving 2 = .ok (.iconst 0, 1) := by decide +kernel
theorem dX9_weightHaving_3 : decode cX9_weightHaving 3 = .ok (.istore 5, 2) := by decide +kernel
theorem dX9_weightHaving_5 : decode cX9_weightHaving 5 = .ok (.iload 5, 2) := by decide +kernel
theorem dX9_weightHaving_7 : decode cX9_weightHaving 7 = .ok (.bipush 32, 2) := by decide +kernel
theorem dX9_weightHaving_9 : decode cX9_weightHaving 9 = .ok (.if_icmp .ge 30, 3) := by decide +kernel
theorem dX9_weightHaving_12 : decode cX9_weightHaving 12 = .ok (.lload_n 3, 1) := by decide +kernel
theorem dX9_weightHaving_13 : decode cX9_weightHaving 13 = .ok (.aload_n 0, 1) := by decide +kernel
theorem dX9_weightHaving_14 : decode cX9_weightHaving 14 = .ok (.getfield 15, 3) := by decide +kernel
theorem dX9_weightHaving_17 : decode cX9_weightHaving 17 = .ok (.iload 5, 2) := by decide +kernel
theorem dX9_weightHaving_19 : decode cX9_weightHaving 19 = .ok (.iushr, 1) := by decide +kernel
theorem dX9_weightHaving_20 : decode cX9_weightHaving 20 = .ok (.iconst 1, 1) := by decide +kernel
theorem dX9_weightHaving_21 : decode cX9_weightHaving 21 = .ok (.iand, 1) := by decide +kernel
theorem dX9_weightHaving_22 : decode cX9_weightHaving 22 = .ok (.aload_n 1, 1) := by decide +kernel
theorem dX9_weightHaving_23 : decode cX9_weightHaving 23 = .ok (.iload 5, 2) := by decide +kernel
theorem dX9_weightHaving_25 : decode cX9_weightHaving 25 = .ok (.iload_n 2, 1) := by decide +kernel
theorem dX9_weightHaving_26 : decode cX9_weightHaving 26 = .ok (.invokevirtual 45, 3) := by decide +kernel
theorem dX9_weightHaving_29 : decode cX9_weightHaving 29 = .ok (.imul, 1) := by decide +kernel
theorem dX9_weightHaving_30 : decode cX9_weightHaving 30 = .ok (.i2l, 1) := by decide +kernel
theorem dX9_weightHaving_31 : decode cX9_weightHaving 31 = .ok (.ladd, 1) := by decide +kernel
theorem dX9_weightHaving_32 : decode cX9_weightHaving 32 = .ok (.lstore_n 3, 1) := by decide +kernel
theorem dX9_weightHaving_33 : decode cX9_weightHaving 33 = .ok (.iinc 5 1, 3) := by decide +kernel
theorem dX9_weightHaving_36 : decode cX9_weightHaving 36 = .ok (.goto (-31), 3) := by decide +kernel
theorem dX9_weightHaving_39 : decode cX9_weightHaving 39 = .ok (.lload_n 3, 1) := by decide +kernel
theorem dX9_weightHaving_40 : decode cX9_weightHaving 40 = .ok (.lreturn, 1) := by decide +kernel
theorem dX9_actsDone_0 : decode cX9_actsDone 0 = .ok (.lconst 0, 1) := by decide +kernel
theorem dX9_actsDone_1 : decode cX9_actsDone 1 = .ok (.lstore_n 2, 1) := by decide +kernel
theorem dX9_actsDone_2 : decode cX9_actsDone 2 = .ok (.iconst 0, 1) := by decide +kernel
theorem dX9_actsDone_3 : decode cX9_actsDone 3 = .ok (.istore 4, 2) := by decide +kernel
theorem dX9_actsDone_5 : decode cX9_actsDone 5 = .ok (.iload 4, 2) := by decide +kernel
theorem dX9_actsDone_7 : decode cX9_actsDone 7 = .ok (.bipush 32, 2) := by decide +kernel
theorem dX9_actsDone_9 : decode cX9_actsDone 9 = .ok (.if_icmp .ge 29, 3) := by decide +kernel
theorem dX9_actsDone_12 : decode cX9_actsDone 12 = .ok (.lload_n 2, 1) := by decide +kernel
theorem dX9_actsDone_13 : decode cX9_actsDone 13 = .ok (.aload_n 0, 1) := by decide +kernel
theorem dX9_actsDone_14 : decode cX9_actsDone 14 = .ok (.getfield 9, 3) := by decide +kernel
theorem dX9_actsDone_17 : decode cX9_actsDone 17 = .ok (.iload 4, 2) := by decide +kernel
theorem dX9_actsDone_19 : decode cX9_actsDone 19 = .ok (.iaload, 1) := by decide +kernel
theorem dX9_actsDone_20 : decode cX9_actsDone 20 = .ok (.i2l, 1) := by decide +kernel
theorem dX9_actsDone_21 : decode cX9_actsDone 21 = .ok (.aload_n 1, 1) := by decide +kernel
theorem dX9_actsDone_22 : decode cX9_actsDone 22 = .ok (.iload 4, 2) := by decide +kernel
theorem dX9_actsDone_24 : decode cX9_actsDone 24 = .ok (.iconst (-1), 1) := by decide +kernel
theorem dX9_actsDone_25 : decode cX9_actsDone 25 = .ok (.invokevirtual 45, 3) := by decide +kernel
theorem dX9_actsDone_28 : decode cX9_actsDone 28 = .ok (.i2l, 1) := by decide +kernel
theorem dX9_actsDone_29 : decode cX9_actsDone 29 = .ok (.lmul, 1) := by decide +kernel
theorem dX9_actsDone_30 : decode cX9_actsDone 30 = .ok (.ladd, 1) := by decide +kernel
theorem dX9_actsDone_31 : decode cX9_actsDone 31 = .ok (.lstore_n 2, 1) := by decide +kernel
theorem dX9_actsDone_32 : decode cX9_actsDone 32 = .ok (.iinc 4 1, 3) := by decide +kernel
theorem dX9_actsDone_35 : decode cX9_actsDone 35 = .ok (.goto (-30), 3) := by decide +kernel
theorem dX9_actsDone_38 : decode cX9_actsDone 38 = .ok (.lload_n 2, 1) := by decide +kernel
theorem dX9_actsDone_39 : decode cX9_actsDone 39 = .ok (.lreturn, 1) := by decide +kernel
