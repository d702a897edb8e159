theorem dX0_weightOf_0 : decode cX0_weightOf 0 = .ok (.iconst 1, 1) := by decide +kernel
theorem dX0_weightOf_1 : decode cX0_weightOf 1 = .ok (.istore_n 3, 1) := by decide +kernel
theorem dX0_weightOf_2 : decode cX0_weightOf 2 = .ok (.iconst 0, 1) := by decide +kernel
theorem dX0_weightOf_3 : decode cX0_weightOf 3 = .ok (.istore 4, 2) := by decide +kernel
theorem dX0_weightOf_5 : decode cX0_weightOf 5 = .ok (.iload 4, 2) := by decide +kernel
theorem dX0_weightOf_7 : decode cX0_weightOf 7 = .ok (.iconst 5, 1) := by decide +kernel
theorem dX0_weightOf_8 : decode cX0_weightOf 8 = .ok (.if_icmp .ge 51, 3) := by decide +kernel
theorem dX0_weightOf_11 : decode cX0_weightOf 11 = .ok (.iload 4, 2) := by decide +kernel
theorem dX0_weightOf_13 : decode cX0_weightOf 13 = .ok (.iload_n 2, 1) := by decide +kernel
theorem dX0_weightOf_14 : decode cX0_weightOf 14 = .ok (.if_icmp .ne 7, 3) := by decide +kernel
theorem dX0_weightOf_17 : decode cX0_weightOf 17 = .ok (.iconst 0, 1) := by decide +kernel
theorem dX0_weightOf_18 : decode cX0_weightOf 18 = .ok (.goto 10, 3) := by decide +kernel
theorem dX0_weightOf_21 : decode cX0_weightOf 21 = .ok (.aload_n 0, 1) := by decide +kernel
theorem dX0_weightOf_22 : decode cX0_weightOf 22 = .ok (.getfield 9, 3) := by decide +kernel
theorem dX0_weightOf_25 : decode cX0_weightOf 25 = .ok (.iload 4, 2) := by decide +kernel
theorem dX0_weightOf_27 : decode cX0_weightOf 27 = .ok (.iaload, 1) := by decide +kernel
theorem dX0_weightOf_28 : decode cX0_weightOf 28 = .ok (.istore 5, 2) := by decide +kernel
theorem dX0_weightOf_30 : decode cX0_weightOf 30 = .ok (.iload_n 3, 1) := by decide +kernel
theorem dX0_weightOf_31 : decode cX0_weightOf 31 = .ok (.iload_n 1, 1) := by decide +kernel
theorem dX0_weightOf_32 : decode cX0_weightOf 32 = .ok (.iload 4, 2) := by decide +kernel
theorem dX0_weightOf_34 : decode cX0_weightOf 34 = .ok (.iushr, 1) := by decide +kernel
theorem dX0_weightOf_35 : decode cX0_weightOf 35 = .ok (.iconst 1, 1) := by decide +kernel
theorem dX0_weightOf_36 : decode cX0_weightOf 36 = .ok (.iand, 1) := by decide +kernel
theorem dX0_weightOf_37 : decode cX0_weightOf 37 = .ok (.iconst 1, 1) := by decide +kernel
theorem dX0_weightOf_38 : decode cX0_weightOf 38 = .ok (.if_icmp .ne 8, 3) := by decide +kernel
theorem dX0_weightOf_41 : decode cX0_weightOf 41 = .ok (.iload 5, 2) := by decide +kernel
theorem dX0_weightOf_43 : decode cX0_weightOf 43 = .ok (.goto 8, 3) := by decide +kernel
theorem dX0_weightOf_46 : decode cX0_weightOf 46 = .ok (.bipush 16, 2) := by decide +kernel
theorem dX0_weightOf_48 : decode cX0_weightOf 48 = .ok (.iload 5, 2) := by decide +kernel
theorem dX0_weightOf_50 : decode cX0_weightOf 50 = .ok (.isub, 1) := by decide +kernel
theorem dX0_weightOf_51 : decode cX0_weightOf 51 = .ok (.imul, 1) := by decide +kernel
theorem dX0_weightOf_52 : decode cX0_weightOf 52 = .ok (.istore_n 3, 1) := by decide +kernel
theorem dX0_weightOf_53 : decode cX0_weightOf 53 = .ok (.iinc 4 1, 3) := by decide +kernel
theorem dX0_weightOf_56 : decode cX0_weightOf 56 = .ok (.goto (-51), 3) := by decide +kernel
theorem dX0_weightOf_59 : decode cX0_weightOf 59 = .ok (.iload_n 3, 1) := by decide +kernel
theorem dX0_weightOf_60 : decode cX0_weightOf 60 = .ok (.ireturn, 1) := by decide +kernel
theorem dX0_together_0 : decode cX0_together 0 = .ok (.iconst 0, 1) := by decide +kernel
theorem dX0_together_1 : decode cX0_together 1 = .ok (.istore_n 1, 1) := by decide +kernel
theorem dX0_together_2 : decode cX0_together 2 = .ok (.iconst 0, 1) := by decide +kernel
theorem dX0_together_3 : decode cX0_together 3 = .ok (.istore_n 2, 1) := by decide +kernel
theorem dX0_together_4 : decode cX0_together 4 = .ok (.iload_n 2, 1) := by decide +kernel
theorem dX0_together_5 : decode cX0_together 5 = .ok (.iconst 5, 1) := by decide +kernel
theorem dX0_together_6 : decode cX0_together 6 = .ok (.if_icmp .ge 18, 3) := by decide +kernel
theorem dX0_together_9 : decode cX0_together 9 = .ok (.iload_n 1, 1) := by decide +kernel
theorem dX0_together_10 : decode cX0_together 10 = .ok (.aload_n 0, 1) := by decide +kernel
theorem dX0_together_11 : decode cX0_together 11 = .ok (.getfield 9, 3) := by decide +kernel
theorem dX0_together_14 : decode cX0_together 14 = .ok (.iload_n 2, 1) := by decide +kernel
theorem dX0_together_15 : decode cX0_together 15 = .ok (.iaload, 1) := by decide +kernel
theorem dX0_together_16 : decode cX0_together 16 = .ok (.iadd, 1) := by decide +kernel
theorem dX0_together_17 : decode cX0_together 17 = .ok (.istore_n 1, 1) := by decide +kernel
theorem dX0_together_18 : decode cX0_together 18 = .ok (.iinc 2 1, 3) := by decide +kernel
theorem dX0_together_21 : decode cX0_together 21 = .ok (.goto (-17), 3) := by decide +kernel
theorem dX0_together_24 : decode cX0_together 24 = .ok (.iload_n 1, 1) := by decide +kernel
theorem dX0_together_25 : decode cX0_together 25 = .ok (.ireturn, 1) := by decide +kernel
theorem dJ7_fill_53178_0 : decode cJ7_fill_53178 0 = .ok (.iconst 0, 1) := by decide +kernel
theorem dJ7_fill_53178_1 : decode cJ7_fill_53178 1 = .ok (.istore_n 2, 1) := by decide +kernel
theorem dJ7_fill_53178_2 : decode cJ7_fill_53178 2 = .ok (.aload_n 0, 1) := by decide +kernel
theorem dJ7_fill_53178_3 : decode cJ7_fill_53178 3 = .ok (.arraylength, 1) := by decide +kernel
theorem dJ7_fill_53178_4 : decode cJ7_fill_53178 4 = .ok (.istore_n 3, 1) := by decide +kernel
theorem dJ7_fill_53178_5 : decode cJ7_fill_53178 5 = .ok (.iload_n 2, 1) := by decide +kernel
theorem dJ7_fill_53178_6 : decode cJ7_fill_53178 6 = .ok (.iload_n 3, 1) := by decide +kernel
theorem dJ7_fill_53178_7 : decode cJ7_fill_53178 7 = .ok (.if_icmp .ge 13, 3) := by decide +kernel
theorem dJ7_fill_53178_10 : decode cJ7_fill_53178 10 = .ok (.aload_n 0, 1) := by decide +kernel
theorem dJ7_fill_53178_11 : decode cJ7_fill_53178 11 = .ok (.iload_n 2, 1) := by decide +kernel
theorem dJ7_fill_53178_12 : decode cJ7_fill_53178 12 = .ok (.iload_n 1, 1) := by decide +kernel
theorem dJ7_fill_53178_13 : decode cJ7_fill_53178 13 = .ok (.iastore, 1) := by decide +kernel
theorem dJ7_fill_53178_14 : decode cJ7_fill_53178 14 = .ok (.iinc 2 1, 3) := by decide +kernel
theorem dJ7_fill_53178_17 : decode cJ7_fill_53178 17 = .ok (.goto (-12), 3) := by decide +kernel
theorem dJ7_fill_53178_20 : decode cJ7_fill_53178 20 = .ok (.return_, 1) := by decide +kernel
theorem dX10_isBelow_0 : decode cX10_isBelow 0 = .ok (.iload_n 0, 1) := by decide +kernel
theorem dX10_isBelow_1 : decode cX10_isBelow 1 = .ok (.ifCond .lt 12, 3) := by decide +kernel
theorem dX10_isBelow_4 : decode cX10_isBelow 4 = .ok (.iload_n 0, 1) := by decide +kernel
theorem dX10_isBelow_5 : decode cX10_isBelow 5 = .ok (.iload_n 1, 1) := by decide +kernel
theorem dX10_isBelow_6 : decode cX10_isBelow 6 = .ok (.if_icmp .ge 7, 3) := by decide +kernel
theorem dX10_isBelow_9 : decode cX10_isBelow 9 = .ok (.iconst 1, 1) := by decide +kernel
theorem dX10_isBelow_10 : decode cX10_isBelow 10 = .ok (.goto 4, 3) := by decide +kernel
theorem dX10_isBelow_13 : decode cX10_isBelow 13 = .ok (.iconst 0, 1) := by decide +kernel
theorem dX10_isBelow_14 : decode cX10_isBelow 14 = .ok (.ireturn, 1) := by decide +kernel
theorem dX2_actAt_0 : decode cX2_actAt 0 = .ok (.iload_n 1, 1) := by decide +kernel
theorem dX2_actAt_1 : decode cX2_actAt 1 = .ok (.bipush 24, 2) := by decide +kernel
theorem dX2_actAt_3 : decode cX2_actAt 3 = .ok (.invokestatic 22, 3) := by decide +kernel
theorem dX2_actAt_6 : decode cX2_actAt 6 = .ok (.ifCond .eq 12, 3) := by decide +kernel
theorem dX2_actAt_9 : decode cX2_actAt 9 = .ok (.aload_n 0, 1) := by decide +kernel
theorem dX2_actAt_10 : decode cX2_actAt 10 = .ok (.getfield 9, 3) := by decide +kernel
theorem dX2_actAt_13 : decode cX2_actAt 13 = .ok (.iload_n 1, 1) := by decide +kernel
theorem dX2_actAt_14 : decode cX2_actAt 14 = .ok (.iaload, 1) := by decide +kernel
theorem dX2_actAt_15 : decode cX2_actAt 15 = .ok (.goto 4, 3) := by decide +kernel
theorem dX2_actAt_18 : decode cX2_actAt 18 = .ok (.iconst (-1), 1) := by decide +kernel
theorem dX2_actAt_19 : decode cX2_actAt 19 = .ok (.ireturn, 1) := by decide +kernel
theorem dX2_signAt_0 : decode cX2_signAt 0 = .ok (.iload_n 1, 1) := by decide +kernel
theorem dX2_signAt_1 : decode cX2_signAt 1 = .ok (.bipush 24, 2) := by decide +kernel
theorem dX2_signAt_3 : decode cX2_signAt 3 = .ok (.invokestatic 22, 3) := by decide +kernel
theorem dX2_signAt_6 : decode cX2_signAt 6 = .ok (.ifCond .eq 12, 3) := by decide +kernel
theorem dX2_signAt_9 : decode cX2_signAt 9 = .ok (.aload_n 0, 1) := by decide +kernel
theorem dX2_signAt_10 : decode cX2_signAt 10 = .ok (.getfield 15, 3) := by decide +kernel
theorem dX2_signAt_13 : decode cX2_signAt 13 = .ok (.iload_n 1, 1) := by decide +kernel
theorem dX2_signAt_14 : decode cX2_signAt 14 = .ok (.iaload, 1) := by decide +kernel
theorem dX2_signAt_15 : decode cX2_signAt 15 = .ok (.goto 4, 3) := by decide +kernel
theorem dX2_signAt_18 : decode cX2_signAt 18 = .ok (.iconst (-1), 1) := by decide +kernel
theorem dX2_signAt_19 : decode cX2_signAt 19 = .ok (.ireturn, 1) := by decide +kernel
theorem dX7_begin_0 : decode cX7_begin 0 = .ok (.aload_n 0, 1) := by decide +kernel
theorem dX7_begin_1 : decode cX7_begin 1 = .ok (.aload_n 1, 1) := by decide +kernel
theorem dX7_begin_2 : decode cX7_begin 2 = .ok (.getfield 9, 3) := by decide +kernel
theorem dX7_begin_5 : decode cX7_begin 5 = .ok (.iconst 5, 1) := by decide +kernel
theorem dX7_begin_6 : decode cX7_begin 6 = .ok (.iaload, 1) := by decide +kernel
theorem dX7_begin_7 : decode cX7_begin 7 = .ok (.putfield 15, 3) := by decide +kernel
theorem dX7_begin_10 : decode cX7_begin 10 = .ok (.aload_n 0, 1) := by decide +kernel
theorem dX7_begin_11 : decode cX7_begin 11 = .ok (.aload_n 1, 1) := by decide +kernel
theorem dX7_begin_12 : decode cX7_begin 12 = .ok (.getfield 9, 3) := by decide +kernel
theorem dX7_begin_15 : decode cX7_begin 15 = .ok (.bipush 6, 2) := by decide +kernel
theorem dX7_begin_17 : decode cX7_begin 17 = .ok (.iaload, 1) := by decide +kernel
theorem dX7_begin_18 : decode cX7_begin 18 = .ok (.putfield 21, 3) := by decide +kernel
theorem dX7_begin_21 : decode cX7_begin 21 = .ok (.aload_n 0, 1) := by decide +kernel
theorem dX7_begin_22 : decode cX7_begin 22 = .ok (.iconst 0, 1) := by decide +kernel
theorem dX7_begin_23 : decode cX7_begin 23 = .ok (.putfield 24, 3) := by decide +kernel
theorem dX7_begin_26 : decode cX7_begin 26 = .ok (.aload_n 0, 1) := by decide +kernel
theorem dX7_begin_27 : decode cX7_begin 27 = .ok (.iconst 0, 1) := by decide +kernel
theorem dX7_begin_28 : decode cX7_begin 28 = .ok (.putfield 27, 3) := by decide +kernel
theorem dX7_begin_31 : decode cX7_begin 31 = .ok (.aload_n 0, 1) := by decide +kernel
theorem dX7_begin_32 : decode cX7_begin 32 = .ok (.iconst 0, 1) := by decide +kernel
theorem dX7_begin_33 : decode cX7_begin 33 = .ok (.putfield 30, 3) := by decide +kernel
theorem dX7_begin_36 : decode cX7_begin 36 = .ok (.aload_n 0, 1) := by decide +kernel
theorem dX7_begin_37 : decode cX7_begin 37 = .ok (.iconst 0, 1) := by decide +kernel
theorem dX7_begin_38 : decode cX7_begin 38 = .ok (.putfield 33, 3) := by decide +kernel
theorem dX7_begin_41 : decode cX7_begin 41 = .ok (.aload_n 0, 1) := by decide +kernel
theorem dX7_begin_42 : decode cX7_begin 42 = .ok (.iload_n 2, 1) := by decide +kernel
theorem dX7_begin_43 : decode cX7_begin 43 = .ok (.putfield 36, 3) := by decide +kernel
theorem dX7_begin_46 : decode cX7_begin 46 = .ok (.aload_n 0, 1) := by decide +kernel
theorem dX7_begin_47 : decode cX7_begin 47 = .ok (.iconst 0, 1) := by decide +kernel
theorem dX7_begin_48 : decode cX7_begin 48 = .ok (.putfield 39, 3) := by decide +kernel
theorem dX7_begin_51 : decode cX7_begin 51 = .ok (.return_, 1) := by decide +kernel
theorem dJ9_max_7cf53_0 : decode cJ9_max_7cf53 0 = .ok (.iload_n 0, 1) := by decide +kernel
theorem dJ9_max_7cf53_1 : decode cJ9_max_7cf53 1 = .ok (.iload_n 1, 1) := by decide +kernel
theorem dJ9_max_7cf53_2 : decode cJ9_max_7cf53 2 = .ok (.if_icmp .lt 7, 3) := by decide +kernel
theorem dJ9_max_7cf53_5 : decode cJ9_max_7cf53 5 = .ok (.iload_n 0, 1) := by decide +kernel
theorem dJ9_max_7cf53_6 : decode cJ9_max_7cf53 6 = .ok (.goto 4, 3) := by decide +kernel
theorem dJ9_max_7cf53_9 : decode cJ9_max_7cf53 9 = .ok (.iload_n 1, 1) := by decide +kernel
theorem dJ9_max_7cf53_10 : decode cJ9_max_7cf53 10 = .ok (.ireturn, 1) := by decide +kernel
theorem dJ9_min_7cf53_0 : decode cJ9_min_7cf53 0 = .ok (.iload_n 0, 1) := by decide +kernel
theorem dJ9_min_7cf53_1 : decode cJ9_min_7cf53 1 = .ok (.iload_n 1, 1) := by decide +kernel
theorem dJ9_min_7cf53_2 : decode cJ9_min_7cf53 2 = .ok (.if_icmp .gt 7, 3) := by decide +kernel
theorem dJ9_min_7cf53_5 : decode cJ9_min_7cf53 5 = .ok (.iload_n 0, 1) := by decide +kernel
theorem dJ9_min_7cf53_6 : decode cJ9_min_7cf53 6 = .ok (.goto 4, 3) := by decide +kernel
theorem dJ9_min_7cf53_9 : decode cJ9_min_7cf53 9 = .ok (.iload_n 1, 1) := by decide +kernel
theorem dJ9_min_7cf53_10 : decode cJ9_min_7cf53 10 = .ok (.ireturn, 1) := by decide +kernel
theorem dX7_dry_0 : decode cX7_dry 0 = .ok (.aload_n 0, 1) := by decide +kernel
theorem dX7_dry_1 : decode cX7_dry 1 = .ok (.getfield 27, 3) := by decide +kernel
theorem dX7_dry_4 : decode cX7_dry 4 = .ok (.ifCond .le 7, 3) := by decide +kernel
theorem dX7_dry_7 : decode cX7_dry 7 = .ok (.iconst 5, 1) := by decide +kernel
theorem dX7_dry_8 : decode cX7_dry 8 = .ok (.goto 5, 3) := by decide +kernel
theorem dX7_dry_11 : decode cX7_dry 11 = .ok (.bipush 6, 2) := by decide +kernel
theorem dX7_dry_13 : decode cX7_dry 13 = .ok (.istore_n 1, 1) := by decide +kernel
theorem dX7_dry_14 : decode cX7_dry 14 = .ok (.aload_n 0, 1) := by decide +kernel
theorem dX7_dry_15 : decode cX7_dry 15 = .ok (.iconst 0, 1) := by decide +kernel
theorem dX7_dry_16 : decode cX7_dry 16 = .ok (.putfield 27, 3) := by decide +kernel
theorem dX7_dry_19 : decode cX7_dry 19 = .ok (.iload_n 1, 1) := by decide +kernel
theorem dX7_dry_20 : decode cX7_dry 20 = .ok (.ireturn, 1) := by decide +kernel
theorem dX7_tend_0 : decode cX7_tend 0 = .ok (.iload_n 2, 1) := by decide +kernel
theorem dX7_tend_1 : decode cX7_tend 1 = .ok (.tableswitch 144 4 9 #[39, 88, 93, 111, 118, 131], 39) := by decide +kernel
theorem dX7_tend_40 : decode cX7_tend 40 = .ok (.aload_n 0, 1) := by decide +kernel
theorem dX7_tend_41 : decode cX7_tend 41 = .ok (.iconst 0, 1) := by decide +kernel
theorem dX7_tend_42 : decode cX7_tend 42 = .ok (.aload_n 0, 1) := by decide +kernel
theorem dX7_tend_43 : decode cX7_tend 43 = .ok (.getfield 27, 3) := by decide +kernel
theorem dX7_tend_46 : decode cX7_tend 46 = .ok (.iconst 4, 1) := by decide +kernel
theorem dX7_tend_47 : decode cX7_tend 47 = .ok (.isub, 1) := by decide +kernel
theorem dX7_tend_48 : decode cX7_tend 48 = .ok (.invokestatic 64, 3) := by decide +kernel
theorem dX7_tend_51 : decode cX7_tend 51 = .ok (.putfield 27, 3) := by decide +kernel
theorem dX7_tend_54 : decode cX7_tend 54 = .ok (.aload_n 0, 1) := by decide +kernel
theorem dX7_tend_55 : decode cX7_tend 55 = .ok (.iconst 0, 1) := by decide +kernel
theorem dX7_tend_56 : decode cX7_tend 56 = .ok (.aload_n 0, 1) := by decide +kernel
theorem dX7_tend_57 : decode cX7_tend 57 = .ok (.getfield 30, 3) := by decide +kernel
theorem dX7_tend_60 : decode cX7_tend 60 = .ok (.iconst 1, 1) := by decide +kernel
theorem dX7_tend_61 : decode cX7_tend 61 = .ok (.isub, 1) := by decide +kernel
theorem dX7_tend_62 : decode cX7_tend 62 = .ok (.invokestatic 64, 3) := by decide +kernel
theorem dX7_tend_65 : decode cX7_tend 65 = .ok (.putfield 30, 3) := by decide +kernel
theorem dX7_tend_68 : decode cX7_tend 68 = .ok (.aload_n 0, 1) := by decide +kernel
theorem dX7_tend_69 : decode cX7_tend 69 = .ok (.aload_n 1, 1) := by decide +kernel
theorem dX7_tend_70 : decode cX7_tend 70 = .ok (.getfield 9, 3) := by decide +kernel
theorem dX7_tend_73 : decode cX7_tend 73 = .ok (.iconst 5, 1) := by decide +kernel
theorem dX7_tend_74 : decode cX7_tend 74 = .ok (.iaload, 1) := by decide +kernel
theorem dX7_tend_75 : decode cX7_tend 75 = .ok (.aload_n 0, 1) := by decide +kernel
theorem dX7_tend_76 : decode cX7_tend 76 = .ok (.getfield 15, 3) := by decide +kernel
theorem dX7_tend_79 : decode cX7_tend 79 = .ok (.iconst 1, 1) := by decide +kernel
theorem dX7_tend_80 : decode cX7_tend 80 = .ok (.iadd, 1) := by decide +kernel
theorem dX7_tend_81 : decode cX7_tend 81 = .ok (.invokestatic 70, 3) := by decide +kernel
theorem dX7_tend_84 : decode cX7_tend 84 = .ok (.putfield 15, 3) := by decide +kernel
theorem dX7_tend_87 : decode cX7_tend 87 = .ok (.iconst 0, 1) := by decide +kernel
theorem dX7_tend_88 : decode cX7_tend 88 = .ok (.ireturn, 1) := by decide +kernel
theorem dX7_tend_89 : decode cX7_tend 89 = .ok (.aload_n 0, 1) := by decide +kernel
theorem dX7_tend_90 : decode cX7_tend 90 = .ok (.invokevirtual 73, 3) := by decide +kernel
theorem dX7_tend_93 : decode cX7_tend 93 = .ok (.ireturn, 1) := by decide +kernel
theorem dX7_tend_94 : decode cX7_tend 94 = .ok (.aload_n 0, 1) := by decide +kernel
theorem dX7_tend_95 : decode cX7_tend 95 = .ok (.bipush 20, 2) := by decide +kernel
theorem dX7_tend_97 : decode cX7_tend 97 = .ok (.aload_n 0, 1) := by decide +kernel
theorem dX7_tend_98 : decode cX7_tend 98 = .ok (.getfield 30, 3) := by decide +kernel
theorem dX7_tend_101 : decode cX7_tend 101 = .ok (.bipush 6, 2) := by decide +kernel
theorem dX7_tend_103 : decode cX7_tend 103 = .ok (.iadd, 1) := by decide +kernel
theorem dX7_tend_104 : decode cX7_tend 104 = .ok (.invokestatic 70, 3) := by decide +kernel
theorem dX7_tend_107 : decode cX7_tend 107 = .ok (.putfield 30, 3) := by decide +kernel
theorem dX7_tend_110 : decode cX7_tend 110 = .ok (.iconst 0, 1) := by decide +kernel
theorem dX7_tend_111 : decode cX7_tend 111 = .ok (.ireturn, 1) := by decide +kernel
theorem dX7_tend_112 : decode cX7_tend 112 = .ok (.aload_n 0, 1) := by decide +kernel
theorem dX7_tend_113 : decode cX7_tend 113 = .ok (.iconst 5, 1) := by decide +kernel
theorem dX7_tend_114 : decode cX7_tend 114 = .ok (.putfield 33, 3) := by decide +kernel
theorem dX7_tend_117 : decode cX7_tend 117 = .ok (.iconst 0, 1) := by decide +kernel
theorem dX7_tend_118 : decode cX7_tend 118 = .ok (.ireturn, 1) := by decide +kernel
theorem dX7_tend_119 : decode cX7_tend 119 = .ok (.aload_n 0, 1) := by decide +kernel
theorem dX7_tend_120 : decode cX7_tend 120 = .ok (.dup, 1) := by decide +kernel
theorem dX7_tend_121 : decode cX7_tend 121 = .ok (.getfield 36, 3) := by decide +kernel
theorem dX7_tend_124 : decode cX7_tend 124 = .ok (.bipush (-3), 2) := by decide +kernel
theorem dX7_tend_126 : decode cX7_tend 126 = .ok (.iand, 1) := by decide +kernel
theorem dX7_tend_127 : decode cX7_tend 127 = .ok (.putfield 36, 3) := by decide +kernel
theorem dX7_tend_130 : decode cX7_tend 130 = .ok (.iconst 0, 1) := by decide +kernel
theorem dX7_tend_131 : decode cX7_tend 131 = .ok (.ireturn, 1) := by decide +kernel
theorem dX7_tend_132 : decode cX7_tend 132 = .ok (.aload_n 0, 1) := by decide +kernel
theorem dX7_tend_133 : decode cX7_tend 133 = .ok (.dup, 1) := by decide +kernel
theorem dX7_tend_134 : decode cX7_tend 134 = .ok (.getfield 36, 3) := by decide +kernel
theorem dX7_tend_137 : decode cX7_tend 137 = .ok (.bipush (-9), 2) := by decide +kernel
theorem dX7_tend_139 : decode cX7_tend 139 = .ok (.iand, 1) := by decide +kernel
theorem dX7_tend_140 : decode cX7_tend 140 = .ok (.putfield 36, 3) := by decide +kernel
theorem dX7_tend_143 : decode cX7_tend 143 = .ok (.iconst 0, 1) := by decide +kernel
theorem dX7_tend_144 : decode cX7_tend 144 = .ok (.ireturn, 1) := by decide +kernel
theorem dX7_tend_145 : decode cX7_tend 145 = .ok (.iconst 4, 1) := by decide +kernel
theorem dX7_tend_146 : decode cX7_tend 146 = .ok (.ireturn, 1) := by decide +kernel
theorem dX7_signOf_0 : decode cX7_signOf 0 = .ok (.aload_n 1, 1) := by decide +kernel
theorem dX7_signOf_1 : decode cX7_signOf 1 = .ok (.getfield 9, 3) := by decide +kernel
theorem dX7_signOf_4 : decode cX7_signOf 4 = .ok (.iconst 1, 1) := by decide +kernel
theorem dX7_signOf_5 : decode cX7_signOf 5 = .ok (.iaload, 1) := by decide +kernel
theorem dX7_signOf_6 : decode cX7_signOf 6 = .ok (.aload_n 0, 1) := by decide +kernel
theorem dX7_signOf_7 : decode cX7_signOf 7 = .ok (.getfield 15, 3) := by decide +kernel
theorem dX7_signOf_10 : decode cX7_signOf 10 = .ok (.bipush 8, 2) := by decide +kernel
theorem dX7_signOf_12 : decode cX7_signOf 12 = .ok (.idiv, 1) := by decide +kernel
theorem dX7_signOf_13 : decode cX7_signOf 13 = .ok (.iadd, 1) := by decide +kernel
theorem dX7_signOf_14 : decode cX7_signOf 14 = .ok (.aload_n 0, 1) := by decide +kernel
theorem dX7_signOf_15 : decode cX7_signOf 15 = .ok (.getfield 27, 3) := by decide +kernel
theorem dX7_signOf_18 : decode cX7_signOf 18 = .ok (.iconst 3, 1) := by decide +kernel
theorem dX7_signOf_19 : decode cX7_signOf 19 = .ok (.idiv, 1) := by decide +kernel
theorem dX7_signOf_20 : decode cX7_signOf 20 = .ok (.isub, 1) := by decide +kernel
theorem dX7_signOf_21 : decode cX7_signOf 21 = .ok (.istore_n 3, 1) := by decide +kernel
theorem dX7_signOf_22 : decode cX7_signOf 22 = .ok (.aload_n 1, 1) := by decide +kernel
theorem dX7_signOf_23 : decode cX7_signOf 23 = .ok (.getfield 9, 3) := by decide +kernel
theorem dX7_signOf_26 : decode cX7_signOf 26 = .ok (.iconst 0, 1) := by decide +kernel
theorem dX7_signOf_27 : decode cX7_signOf 27 = .ok (.iaload, 1) := by decide +kernel
theorem dX7_signOf_28 : decode cX7_signOf 28 = .ok (.aload_n 0, 1) := by decide +kernel
theorem dX7_signOf_29 : decode cX7_signOf 29 = .ok (.getfield 30, 3) := by decide +kernel
theorem dX7_signOf_32 : decode cX7_signOf 32 = .ok (.bipush 6, 2) := by decide +kernel
theorem dX7_signOf_34 : decode cX7_signOf 34 = .ok (.idiv, 1) := by decide +kernel
theorem dX7_signOf_35 : decode cX7_signOf 35 = .ok (.iadd, 1) := by decide +kernel
theorem dX7_signOf_36 : decode cX7_signOf 36 = .ok (.istore 4, 2) := by decide +kernel
theorem dX7_signOf_38 : decode cX7_signOf 38 = .ok (.aload_n 1, 1) := by decide +kernel
theorem dX7_signOf_39 : decode cX7_signOf 39 = .ok (.getfield 9, 3) := by decide +kernel
theorem dX7_signOf_42 : decode cX7_signOf 42 = .ok (.iconst 2, 1) := by decide +kernel
theorem dX7_signOf_43 : decode cX7_signOf 43 = .ok (.iaload, 1) := by decide +kernel
theorem dX7_signOf_44 : decode cX7_signOf 44 = .ok (.istore 5, 2) := by decide +kernel
theorem dX7_signOf_46 : decode cX7_signOf 46 = .ok (.iload_n 3, 1) := by decide +kernel
theorem dX7_signOf_47 : decode cX7_signOf 47 = .ok (.aload_n 0, 1) := by decide +kernel
theorem dX7_signOf_48 : decode cX7_signOf 48 = .ok (.getfield 36, 3) := by decide +kernel
theorem dX7_signOf_51 : decode cX7_signOf 51 = .ok (.iconst 2, 1) := by decide +kernel
theorem dX7_signOf_52 : decode cX7_signOf 52 = .ok (.iand, 1) := by decide +kernel
theorem dX7_signOf_53 : decode cX7_signOf 53 = .ok (.ifCond .eq 7, 3) := by decide +kernel
theorem dX7_signOf_56 : decode cX7_signOf 56 = .ok (.iconst 5, 1) := by decide +kernel
theorem dX7_signOf_57 : decode cX7_signOf 57 = .ok (.goto 4, 3) := by decide +kernel
theorem dX7_signOf_60 : decode cX7_signOf 60 = .ok (.iconst 0, 1) := by decide +kernel
theorem dX7_signOf_61 : decode cX7_signOf 61 = .ok (.isub, 1) := by decide +kernel
theorem dX7_signOf_62 : decode cX7_signOf 62 = .ok (.istore_n 3, 1) := by decide +kernel
theorem dX7_signOf_63 : decode cX7_signOf 63 = .ok (.iload 4, 2) := by decide +kernel
theorem dX7_signOf_65 : decode cX7_signOf 65 = .ok (.aload_n 0, 1) := by decide +kernel
theorem dX7_signOf_66 : decode cX7_signOf 66 = .ok (.getfield 36, 3) := by decide +kernel
theorem dX7_signOf_69 : decode cX7_signOf 69 = .ok (.iconst 1, 1) := by decide +kernel
theorem dX7_signOf_70 : decode cX7_signOf 70 = .ok (.iand, 1) := by decide +kernel
theorem dX7_signOf_71 : decode cX7_signOf 71 = .ok (.ifCond .eq 7, 3) := by decide +kernel
theorem dX7_signOf_74 : decode cX7_signOf 74 = .ok (.iconst 4, 1) := by decide +kernel
theorem dX7_signOf_75 : decode cX7_signOf 75 = .ok (.goto 4, 3) := by decide +kernel
theorem dX7_signOf_78 : decode cX7_signOf 78 = .ok (.iconst 0, 1) := by decide +kernel
theorem dX7_signOf_79 : decode cX7_signOf 79 = .ok (.isub, 1) := by decide +kernel
theorem dX7_signOf_80 : decode cX7_signOf 80 = .ok (.istore 4, 2) := by decide +kernel
theorem dX7_signOf_82 : decode cX7_signOf 82 = .ok (.iload 5, 2) := by decide +kernel
theorem dX7_signOf_84 : decode cX7_signOf 84 = .ok (.aload_n 0, 1) := by decide +kernel
theorem dX7_signOf_85 : decode cX7_signOf 85 = .ok (.getfield 36, 3) := by decide +kernel
theorem dX7_signOf_88 : decode cX7_signOf 88 = .ok (.bipush 8, 2) := by decide +kernel
theorem dX7_signOf_90 : decode cX7_signOf 90 = .ok (.iand, 1) := by decide +kernel
theorem dX7_signOf_91 : decode cX7_signOf 91 = .ok (.ifCond .eq 8, 3) := by decide +kernel
theorem dX7_signOf_94 : decode cX7_signOf 94 = .ok (.bipush 6, 2) := by decide +kernel
theorem dX7_signOf_96 : decode cX7_signOf 96 = .ok (.goto 4, 3) := by decide +kernel
theorem dX7_signOf_99 : decode cX7_signOf 99 = .ok (.iconst 0, 1) := by decide +kernel
theorem dX7_signOf_100 : decode cX7_signOf 100 = .ok (.isub, 1) := by decide +kernel
theorem dX7_signOf_101 : decode cX7_signOf 101 = .ok (.istore 5, 2) := by decide +kernel
theorem dX7_signOf_103 : decode cX7_signOf 103 = .ok (.iload_n 2, 1) := by decide +kernel
theorem dX7_signOf_104 : decode cX7_signOf 104 = .ok (.iconst 4, 1) := by decide +kernel
theorem dX7_signOf_105 : decode cX7_signOf 105 = .ok (.if_icmp .lt 44, 3) := by decide +kernel
theorem dX7_signOf_108 : decode cX7_signOf 108 = .ok (.iload_n 2, 1) := by decide +kernel
theorem dX7_signOf_109 : decode cX7_signOf 109 = .ok (.bipush 9, 2) := by decide +kernel
theorem dX7_signOf_111 : decode cX7_signOf 111 = .ok (.if_icmp .gt 38, 3) := by decide +kernel
theorem dX7_signOf_114 : decode cX7_signOf 114 = .ok (.iload_n 3, 1) := by decide +kernel
theorem dX7_signOf_115 : decode cX7_signOf 115 = .ok (.iconst 4, 1) := by decide +kernel
theorem dX7_signOf_116 : decode cX7_signOf 116 = .ok (.if_icmp .lt 33, 3) := by decide +kernel
theorem dX7_signOf_119 : decode cX7_signOf 119 = .ok (.iload 4, 2) := by decide +kernel
theorem dX7_signOf_121 : decode cX7_signOf 121 = .ok (.iconst 5, 1) := by decide +kernel
theorem dX7_signOf_122 : decode cX7_signOf 122 = .ok (.if_icmp .lt 27, 3) := by decide +kernel
theorem dX7_signOf_125 : decode cX7_signOf 125 = .ok (.iload 5, 2) := by decide +kernel
theorem dX7_signOf_127 : decode cX7_signOf 127 = .ok (.bipush 13, 2) := by decide +kernel
theorem dX7_signOf_129 : decode cX7_signOf 129 = .ok (.if_icmp .le 7, 3) := by decide +kernel
theorem dX7_signOf_132 : decode cX7_signOf 132 = .ok (.iconst 3, 1) := by decide +kernel
theorem dX7_signOf_133 : decode cX7_signOf 133 = .ok (.goto 15, 3) := by decide +kernel
theorem dX7_signOf_136 : decode cX7_signOf 136 = .ok (.iload 5, 2) := by decide +kernel
theorem dX7_signOf_138 : decode cX7_signOf 138 = .ok (.bipush 7, 2) := by decide +kernel
theorem dX7_signOf_140 : decode cX7_signOf 140 = .ok (.if_icmp .ge 7, 3) := by decide +kernel
theorem dX7_signOf_143 : decode cX7_signOf 143 = .ok (.iconst 1, 1) := by decide +kernel
theorem dX7_signOf_144 : decode cX7_signOf 144 = .ok (.goto 4, 3) := by decide +kernel
theorem dX7_signOf_147 : decode cX7_signOf 147 = .ok (.iconst 2, 1) := by decide +kernel
theorem dX7_signOf_148 : decode cX7_signOf 148 = .ok (.ireturn, 1) := by decide +kernel
theorem dX7_signOf_149 : decode cX7_signOf 149 = .ok (.iload_n 2, 1) := by decide +kernel
theorem dX7_signOf_150 : decode cX7_signOf 150 = .ok (.iconst 3, 1) := by decide +kernel
theorem dX7_signOf_151 : decode cX7_signOf 151 = .ok (.if_icmp .lt 24, 3) := by decide +kernel
theorem dX7_signOf_154 : decode cX7_signOf 154 = .ok (.iload_n 2, 1) := by decide +kernel
theorem dX7_signOf_155 : decode cX7_signOf 155 = .ok (.bipush 10, 2) := by decide +kernel
theorem dX7_signOf_157 : decode cX7_signOf 157 = .ok (.if_icmp .gt 18, 3) := by decide +kernel
theorem dX7_signOf_160 : decode cX7_signOf 160 = .ok (.iload_n 3, 1) := by decide +kernel
theorem dX7_signOf_161 : decode cX7_signOf 161 = .ok (.iconst 3, 1) := by decide +kernel
theorem dX7_signOf_162 : decode cX7_signOf 162 = .ok (.if_icmp .lt 13, 3) := by decide +kernel
theorem dX7_signOf_165 : decode cX7_signOf 165 = .ok (.iload 4, 2) := by decide +kernel
theorem dX7_signOf_167 : decode cX7_signOf 167 = .ok (.iconst 4, 1) := by decide +kernel
theorem dX7_signOf_168 : decode cX7_signOf 168 = .ok (.if_icmp .lt 7, 3) := by decide +kernel
theorem dX7_signOf_171 : decode cX7_signOf 171 = .ok (.iconst 1, 1) := by decide +kernel
theorem dX7_signOf_172 : decode cX7_signOf 172 = .ok (.goto 4, 3) := by decide +kernel
theorem dX7_signOf_175 : decode cX7_signOf 175 = .ok (.iconst 0, 1) := by decide +kernel
theorem dX7_signOf_176 : decode cX7_signOf 176 = .ok (.ireturn, 1) := by decide +kernel
theorem dX7_turn_0 : decode cX7_turn 0 = .ok (.aload_n 0, 1) := by decide +kernel
theorem dX7_turn_1 : decode cX7_turn 1 = .ok (.getfield 36, 3) := by decide +kernel
theorem dX7_turn_4 : decode cX7_turn 4 = .ok (.iconst 4, 1) := by decide +kernel
theorem dX7_turn_5 : decode cX7_turn 5 = .ok (.iand, 1) := by decide +kernel
theorem dX7_turn_6 : decode cX7_turn 6 = .ok (.ifCond .eq 7, 3) := by decide +kernel
theorem dX7_turn_9 : decode cX7_turn 9 = .ok (.iconst 1, 1) := by decide +kernel
theorem dX7_turn_10 : decode cX7_turn 10 = .ok (.goto 4, 3) := by decide +kernel
theorem dX7_turn_13 : decode cX7_turn 13 = .ok (.iconst 0, 1) := by decide +kernel
theorem dX7_turn_14 : decode cX7_turn 14 = .ok (.istore_n 3, 1) := by decide +kernel
theorem dX7_turn_15 : decode cX7_turn 15 = .ok (.aload_n 0, 1) := by decide +kernel
theorem dX7_turn_16 : decode cX7_turn 16 = .ok (.getfield 36, 3) := by decide +kernel
theorem dX7_turn_19 : decode cX7_turn 19 = .ok (.bipush 16, 2) := by decide +kernel
theorem dX7_turn_21 : decode cX7_turn 21 = .ok (.iand, 1) := by decide +kernel
theorem dX7_turn_22 : decode cX7_turn 22 = .ok (.ifCond .eq 16, 3) := by decide +kernel
theorem dX7_turn_25 : decode cX7_turn 25 = .ok (.aload_n 0, 1) := by decide +kernel
theorem dX7_turn_26 : decode cX7_turn 26 = .ok (.getfield 30, 3) := by decide +kernel
theorem dX7_turn_29 : decode cX7_turn 29 = .ok (.bipush 6, 2) := by decide +kernel
theorem dX7_turn_31 : decode cX7_turn 31 = .ok (.if_icmp .ge 7, 3) := by decide +kernel
theorem dX7_turn_34 : decode cX7_turn 34 = .ok (.iconst 1, 1) := by decide +kernel
theorem dX7_turn_35 : decode cX7_turn 35 = .ok (.goto 4, 3) := by decide +kernel
theorem dX7_turn_38 : decode cX7_turn 38 = .ok (.iconst 0, 1) := by decide +kernel
theorem dX7_turn_39 : decode cX7_turn 39 = .ok (.istore 4, 2) := by decide +kernel
theorem dX7_turn_41 : decode cX7_turn 41 = .ok (.iload_n 3, 1) := by decide +kernel
theorem dX7_turn_42 : decode cX7_turn 42 = .ok (.ifCond .ne 8, 3) := by decide +kernel
theorem dX7_turn_45 : decode cX7_turn 45 = .ok (.iload 4, 2) := by decide +kernel
theorem dX7_turn_47 : decode cX7_turn 47 = .ok (.ifCond .eq 7, 3) := by decide +kernel
theorem dX7_turn_50 : decode cX7_turn 50 = .ok (.iconst 0, 1) := by decide +kernel
theorem dX7_turn_51 : decode cX7_turn 51 = .ok (.goto 13, 3) := by decide +kernel
theorem dX7_turn_54 : decode cX7_turn 54 = .ok (.aload_n 1, 1) := by decide +kernel
theorem dX7_turn_55 : decode cX7_turn 55 = .ok (.getfield 9, 3) := by decide +kernel
theorem dX7_turn_58 : decode cX7_turn 58 = .ok (.iconst 3, 1) := by decide +kernel
theorem dX7_turn_59 : decode cX7_turn 59 = .ok (.iaload, 1) := by decide +kernel
theorem dX7_turn_60 : decode cX7_turn 60 = .ok (.iconst 2, 1) := by decide +kernel
theorem dX7_turn_61 : decode cX7_turn 61 = .ok (.iload_n 2, 1) := by decide +kernel
theorem dX7_turn_62 : decode cX7_turn 62 = .ok (.imul, 1) := by decide +kernel
theorem dX7_turn_63 : decode cX7_turn 63 = .ok (.iadd, 1) := by decide +kernel
theorem dX7_turn_64 : decode cX7_turn 64 = .ok (.istore 5, 2) := by decide +kernel
theorem dX7_turn_66 : decode cX7_turn 66 = .ok (.iload 5, 2) := by decide +kernel
theorem dX7_turn_68 : decode cX7_turn 68 = .ok (.aload_n 1, 1) := by decide +kernel
theorem dX7_turn_69 : decode cX7_turn 69 = .ok (.getfield 9, 3) := by decide +kernel
theorem dX7_turn_72 : decode cX7_turn 72 = .ok (.iconst 4, 1) := by decide +kernel
theorem dX7_turn_73 : decode cX7_turn 73 = .ok (.iaload, 1) := by decide +kernel
theorem dX7_turn_74 : decode cX7_turn 74 = .ok (.imul, 1) := by decide +kernel
theorem dX7_turn_75 : decode cX7_turn 75 = .ok (.bipush 10, 2) := by decide +kernel
theorem dX7_turn_77 : decode cX7_turn 77 = .ok (.idiv, 1) := by decide +kernel
theorem dX7_turn_78 : decode cX7_turn 78 = .ok (.istore 6, 2) := by decide +kernel
theorem dX7_turn_80 : decode cX7_turn 80 = .ok (.aload_n 0, 1) := by decide +kernel
theorem dX7_turn_81 : decode cX7_turn 81 = .ok (.getfield 24, 3) := by decide +kernel
theorem dX7_turn_84 : decode cX7_turn 84 = .ok (.iconst 4, 1) := by decide +kernel
theorem dX7_turn_85 : decode cX7_turn 85 = .ok (.idiv, 1) := by decide +kernel
theorem dX7_turn_86 : decode cX7_turn 86 = .ok (.istore 7, 2) := by decide +kernel
theorem dX7_turn_88 : decode cX7_turn 88 = .ok (.iload 5, 2) := by decide +kernel
theorem dX7_turn_90 : decode cX7_turn 90 = .ok (.iload 7, 2) := by decide +kernel
theorem dX7_turn_92 : decode cX7_turn 92 = .ok (.iadd, 1) := by decide +kernel
theorem dX7_turn_93 : decode cX7_turn 93 = .ok (.aload_n 0, 1) := by decide +kernel
theorem dX7_turn_94 : decode cX7_turn 94 = .ok (.getfield 33, 3) := by decide +kernel
theorem dX7_turn_97 : decode cX7_turn 97 = .ok (.iadd, 1) := by decide +kernel
theorem dX7_turn_98 : decode cX7_turn 98 = .ok (.iload 6, 2) := by decide +kernel
theorem dX7_turn_100 : decode cX7_turn 100 = .ok (.isub, 1) := by decide +kernel
theorem dX7_turn_101 : decode cX7_turn 101 = .ok (.istore 8, 2) := by decide +kernel
theorem dX7_turn_103 : decode cX7_turn 103 = .ok (.aload_n 0, 1) := by decide +kernel
theorem dX7_turn_104 : decode cX7_turn 104 = .ok (.dup, 1) := by decide +kernel
theorem dX7_turn_105 : decode cX7_turn 105 = .ok (.getfield 24, 3) := by decide +kernel
theorem dX7_turn_108 : decode cX7_turn 108 = .ok (.iload 6, 2) := by decide +kernel
theorem dX7_turn_110 : decode cX7_turn 110 = .ok (.iload 7, 2) := by decide +kernel
theorem dX7_turn_112 : decode cX7_turn 112 = .ok (.isub, 1) := by decide +kernel
theorem dX7_turn_113 : decode cX7_turn 113 = .ok (.iadd, 1) := by decide +kernel
theorem dX7_turn_114 : decode cX7_turn 114 = .ok (.putfield 24, 3) := by decide +kernel
theorem dX7_turn_117 : decode cX7_turn 117 = .ok (.aload_n 0, 1) := by decide +kernel
theorem dX7_turn_118 : decode cX7_turn 118 = .ok (.iconst 0, 1) := by decide +kernel
theorem dX7_turn_119 : decode cX7_turn 119 = .ok (.putfield 33, 3) := by decide +kernel
theorem dX7_turn_122 : decode cX7_turn 122 = .ok (.aload_n 0, 1) := by decide +kernel
theorem dX7_turn_123 : decode cX7_turn 123 = .ok (.aload_n 1, 1) := by decide +kernel
theorem dX7_turn_124 : decode cX7_turn 124 = .ok (.iload 8, 2) := by decide +kernel
theorem dX7_turn_126 : decode cX7_turn 126 = .ok (.invokevirtual 61, 3) := by decide +kernel
theorem dX7_turn_129 : decode cX7_turn 129 = .ok (.istore 9, 2) := by decide +kernel
theorem dX7_turn_131 : decode cX7_turn 131 = .ok (.iload 9, 2) := by decide +kernel
theorem dX7_turn_133 : decode cX7_turn 133 = .ok (.iconst 2, 1) := by decide +kernel
theorem dX7_turn_134 : decode cX7_turn 134 = .ok (.if_icmp .ne 11, 3) := by decide +kernel
theorem dX7_turn_137 : decode cX7_turn 137 = .ok (.aload_n 0, 1) := by decide +kernel
theorem dX7_turn_138 : decode cX7_turn 138 = .ok (.iconst 1, 1) := by decide +kernel
theorem dX7_turn_139 : decode cX7_turn 139 = .ok (.putfield 39, 3) := by decide +kernel
theorem dX7_turn_142 : decode cX7_turn 142 = .ok (.iload 9, 2) := by decide +kernel
theorem dX7_turn_144 : decode cX7_turn 144 = .ok (.ireturn, 1) := by decide +kernel
theorem dX7_turn_145 : decode cX7_turn 145 = .ok (.aload_n 0, 1) := by decide +kernel
theorem dX7_turn_146 : decode cX7_turn 146 = .ok (.bipush 99, 2) := by decide +kernel
theorem dX7_turn_148 : decode cX7_turn 148 = .ok (.aload_n 0, 1) := by decide +kernel
theorem dX7_turn_149 : decode cX7_turn 149 = .ok (.getfield 27, 3) := by decide +kernel
theorem dX7_turn_152 : decode cX7_turn 152 = .ok (.iconst 0, 1) := by decide +kernel
theorem dX7_turn_153 : decode cX7_turn 153 = .ok (.iload 8, 2) := by decide +kernel
theorem dX7_turn_155 : decode cX7_turn 155 = .ok (.bipush 9, 2) := by decide +kernel
theorem dX7_turn_157 : decode cX7_turn 157 = .ok (.isub, 1) := by decide +kernel
theorem dX7_turn_158 : decode cX7_turn 158 = .ok (.invokestatic 64, 3) := by decide +kernel
theorem dX7_turn_161 : decode cX7_turn 161 = .ok (.iadd, 1) := by decide +kernel
theorem dX7_turn_162 : decode cX7_turn 162 = .ok (.invokestatic 70, 3) := by decide +kernel
theorem dX7_turn_165 : decode cX7_turn 165 = .ok (.putfield 27, 3) := by decide +kernel
theorem dX7_turn_168 : decode cX7_turn 168 = .ok (.aload_n 0, 1) := by decide +kernel
theorem dX7_turn_169 : decode cX7_turn 169 = .ok (.bipush 20, 2) := by decide +kernel
theorem dX7_turn_171 : decode cX7_turn 171 = .ok (.aload_n 0, 1) := by decide +kernel
theorem dX7_turn_172 : decode cX7_turn 172 = .ok (.getfield 30, 3) := by decide +kernel
theorem dX7_turn_175 : decode cX7_turn 175 = .ok (.iload 9, 2) := by decide +kernel
theorem dX7_turn_177 : decode cX7_turn 177 = .ok (.ifCond .ne 7, 3) := by decide +kernel
theorem dX7_turn_180 : decode cX7_turn 180 = .ok (.iconst 1, 1) := by decide +kernel
theorem dX7_turn_181 : decode cX7_turn 181 = .ok (.goto 4, 3) := by decide +kernel
theorem dX7_turn_184 : decode cX7_turn 184 = .ok (.iconst 2, 1) := by decide +kernel
theorem dX7_turn_185 : decode cX7_turn 185 = .ok (.iadd, 1) := by decide +kernel
theorem dX7_turn_186 : decode cX7_turn 186 = .ok (.invokestatic 70, 3) := by decide +kernel
theorem dX7_turn_189 : decode cX7_turn 189 = .ok (.putfield 30, 3) := by decide +kernel
theorem dX7_turn_192 : decode cX7_turn 192 = .ok (.iload 9, 2) := by decide +kernel
theorem dX7_turn_194 : decode cX7_turn 194 = .ok (.ireturn, 1) := by decide +kernel
theorem dX7_does_0 : decode cX7_does 0 = .ok (.aload_n 0, 1) := by decide +kernel
theorem dX7_does_1 : decode cX7_does 1 = .ok (.getfield 39, 3) := by decide +kernel
theorem dX7_does_4 : decode cX7_does 4 = .ok (.ifCond .ne 12, 3) := by decide +kernel
theorem dX7_does_7 : decode cX7_does 7 = .ok (.iload_n 2, 1) := by decide +kernel
theorem dX7_does_8 : decode cX7_does 8 = .ok (.bipush 10, 2) := by decide +kernel
theorem dX7_does_10 : decode cX7_does 10 = .ok (.invokestatic 47, 3) := by decide +kernel
theorem dX7_does_13 : decode cX7_does 13 = .ok (.ifCond .ne 5, 3) := by decide +kernel
theorem dX7_does_16 : decode cX7_does 16 = .ok (.iconst 4, 1) := by decide +kernel
theorem dX7_does_17 : decode cX7_does 17 = .ok (.ireturn, 1) := by decide +kernel
theorem dX7_does_18 : decode cX7_does 18 = .ok (.iload_n 2, 1) := by decide +kernel
theorem dX7_does_19 : decode cX7_does 19 = .ok (.iconst 4, 1) := by decide +kernel
theorem dX7_does_20 : decode cX7_does 20 = .ok (.if_icmp .ge 16, 3) := by decide +kernel
theorem dX7_does_23 : decode cX7_does 23 = .ok (.iconst 1, 1) := by decide +kernel
theorem dX7_does_24 : decode cX7_does 24 = .ok (.aload_n 1, 1) := by decide +kernel
theorem dX7_does_25 : decode cX7_does 25 = .ok (.getfield 9, 3) := by decide +kernel
theorem dX7_does_28 : decode cX7_does 28 = .ok (.iconst 4, 1) := by decide +kernel
theorem dX7_does_29 : decode cX7_does 29 = .ok (.iaload, 1) := by decide +kernel
theorem dX7_does_30 : decode cX7_does 30 = .ok (.iconst 5, 1) := by decide +kernel
theorem dX7_does_31 : decode cX7_does 31 = .ok (.idiv, 1) := by decide +kernel
theorem dX7_does_32 : decode cX7_does 32 = .ok (.iadd, 1) := by decide +kernel
theorem dX7_does_33 : decode cX7_does 33 = .ok (.goto 4, 3) := by decide +kernel
theorem dX7_does_36 : decode cX7_does 36 = .ok (.iconst 0, 1) := by decide +kernel
theorem dX7_does_37 : decode cX7_does 37 = .ok (.istore_n 3, 1) := by decide +kernel
theorem dX7_does_38 : decode cX7_does 38 = .ok (.aload_n 0, 1) := by decide +kernel
theorem dX7_does_39 : decode cX7_does 39 = .ok (.getfield 15, 3) := by decide +kernel
theorem dX7_does_42 : decode cX7_does 42 = .ok (.iload_n 3, 1) := by decide +kernel
theorem dX7_does_43 : decode cX7_does 43 = .ok (.if_icmp .lt 15, 3) := by decide +kernel
theorem dX7_does_46 : decode cX7_does 46 = .ok (.aload_n 0, 1) := by decide +kernel
theorem dX7_does_47 : decode cX7_does 47 = .ok (.getfield 21, 3) := by decide +kernel
theorem dX7_does_50 : decode cX7_does 50 = .ok (.getstatic 51, 3) := by decide +kernel
theorem dX7_does_53 : decode cX7_does 53 = .ok (.iload_n 2, 1) := by decide +kernel
theorem dX7_does_54 : decode cX7_does 54 = .ok (.iaload, 1) := by decide +kernel
theorem dX7_does_55 : decode cX7_does 55 = .ok (.if_icmp .ge 5, 3) := by decide +kernel
theorem dX7_does_58 : decode cX7_does 58 = .ok (.iconst 4, 1) := by decide +kernel
theorem dX7_does_59 : decode cX7_does 59 = .ok (.ireturn, 1) := by decide +kernel
theorem dX7_does_60 : decode cX7_does 60 = .ok (.aload_n 0, 1) := by decide +kernel
theorem dX7_does_61 : decode cX7_does 61 = .ok (.dup, 1) := by decide +kernel
theorem dX7_does_62 : decode cX7_does 62 = .ok (.getfield 15, 3) := by decide +kernel
theorem dX7_does_65 : decode cX7_does 65 = .ok (.iload_n 3, 1) := by decide +kernel
theorem dX7_does_66 : decode cX7_does 66 = .ok (.isub, 1) := by decide +kernel
theorem dX7_does_67 : decode cX7_does 67 = .ok (.putfield 15, 3) := by decide +kernel
theorem dX7_does_70 : decode cX7_does 70 = .ok (.aload_n 0, 1) := by decide +kernel
theorem dX7_does_71 : decode cX7_does 71 = .ok (.dup, 1) := by decide +kernel
theorem dX7_does_72 : decode cX7_does 72 = .ok (.getfield 21, 3) := by decide +kernel
theorem dX7_does_75 : decode cX7_does 75 = .ok (.getstatic 51, 3) := by decide +kernel
theorem dX7_does_78 : decode cX7_does 78 = .ok (.iload_n 2, 1) := by decide +kernel
theorem dX7_does_79 : decode cX7_does 79 = .ok (.iaload, 1) := by decide +kernel
theorem dX7_does_80 : decode cX7_does 80 = .ok (.isub, 1) := by decide +kernel
theorem dX7_does_81 : decode cX7_does 81 = .ok (.putfield 21, 3) := by decide +kernel
theorem dX7_does_84 : decode cX7_does 84 = .ok (.iload_n 2, 1) := by decide +kernel
theorem dX7_does_85 : decode cX7_does 85 = .ok (.iconst 4, 1) := by decide +kernel
theorem dX7_does_86 : decode cX7_does 86 = .ok (.if_icmp .ge 12, 3) := by decide +kernel
theorem dX7_does_89 : decode cX7_does 89 = .ok (.aload_n 0, 1) := by decide +kernel
theorem dX7_does_90 : decode cX7_does 90 = .ok (.aload_n 1, 1) := by decide +kernel
theorem dX7_does_91 : decode cX7_does 91 = .ok (.iload_n 2, 1) := by decide +kernel
theorem dX7_does_92 : decode cX7_does 92 = .ok (.invokevirtual 54, 3) := by decide +kernel
theorem dX7_does_95 : decode cX7_does 95 = .ok (.goto 9, 3) := by decide +kernel
theorem dX7_does_98 : decode cX7_does 98 = .ok (.aload_n 0, 1) := by decide +kernel
theorem dX7_does_99 : decode cX7_does 99 = .ok (.aload_n 1, 1) := by decide +kernel
theorem dX7_does_100 : decode cX7_does 100 = .ok (.iload_n 2, 1) := by decide +kernel
theorem dX7_does_101 : decode cX7_does 101 = .ok (.invokevirtual 58, 3) := by decide +kernel
theorem dX7_does_104 : decode cX7_does 104 = .ok (.ireturn, 1) := by decide +kernel
theorem dX7_pack_0 : decode cX7_pack 0 = .ok (.aload_n 0, 1) := by decide +kernel
theorem dX7_pack_1 : decode cX7_pack 1 = .ok (.getfield 39, 3) := by decide +kernel
theorem dX7_pack_4 : decode cX7_pack 4 = .ok (.ifCond .eq 7, 3) := by decide +kernel
theorem dX7_pack_7 : decode cX7_pack 7 = .ok (.lconst 1, 1) := by decide +kernel
theorem dX7_pack_8 : decode cX7_pack 8 = .ok (.goto 4, 3) := by decide +kernel
theorem dX7_pack_11 : decode cX7_pack 11 = .ok (.lconst 0, 1) := by decide +kernel
theorem dX7_pack_12 : decode cX7_pack 12 = .ok (.lstore_n 1, 1) := by decide +kernel
theorem dX7_pack_13 : decode cX7_pack 13 = .ok (.lload_n 1, 1) := by decide +kernel
theorem dX7_pack_14 : decode cX7_pack 14 = .ok (.bipush 8, 2) := by decide +kernel
theorem dX7_pack_16 : decode cX7_pack 16 = .ok (.lshl, 1) := by decide +kernel
theorem dX7_pack_17 : decode cX7_pack 17 = .ok (.aload_n 0, 1) := by decide +kernel
theorem dX7_pack_18 : decode cX7_pack 18 = .ok (.getfield 36, 3) := by decide +kernel
theorem dX7_pack_21 : decode cX7_pack 21 = .ok (.i2l, 1) := by decide +kernel
theorem dX7_pack_22 : decode cX7_pack 22 = .ok (.lor, 1) := by decide +kernel
theorem dX7_pack_23 : decode cX7_pack 23 = .ok (.lstore_n 1, 1) := by decide +kernel
theorem dX7_pack_24 : decode cX7_pack 24 = .ok (.lload_n 1, 1) := by decide +kernel
theorem dX7_pack_25 : decode cX7_pack 25 = .ok (.bipush 8, 2) := by decide +kernel
theorem dX7_pack_27 : decode cX7_pack 27 = .ok (.lshl, 1) := by decide +kernel
theorem dX7_pack_28 : decode cX7_pack 28 = .ok (.aload_n 0, 1) := by decide +kernel
theorem dX7_pack_29 : decode cX7_pack 29 = .ok (.getfield 33, 3) := by decide +kernel
theorem dX7_pack_32 : decode cX7_pack 32 = .ok (.i2l, 1) := by decide +kernel
theorem dX7_pack_33 : decode cX7_pack 33 = .ok (.lor, 1) := by decide +kernel
theorem dX7_pack_34 : decode cX7_pack 34 = .ok (.lstore_n 1, 1) := by decide +kernel
theorem dX7_pack_35 : decode cX7_pack 35 = .ok (.lload_n 1, 1) := by decide +kernel
theorem dX7_pack_36 : decode cX7_pack 36 = .ok (.bipush 8, 2) := by decide +kernel
theorem dX7_pack_38 : decode cX7_pack 38 = .ok (.lshl, 1) := by decide +kernel
theorem dX7_pack_39 : decode cX7_pack 39 = .ok (.aload_n 0, 1) := by decide +kernel
theorem dX7_pack_40 : decode cX7_pack 40 = .ok (.getfield 30, 3) := by decide +kernel
theorem dX7_pack_43 : decode cX7_pack 43 = .ok (.i2l, 1) := by decide +kernel
theorem dX7_pack_44 : decode cX7_pack 44 = .ok (.lor, 1) := by decide +kernel
theorem dX7_pack_45 : decode cX7_pack 45 = .ok (.lstore_n 1, 1) := by decide +kernel
theorem dX7_pack_46 : decode cX7_pack 46 = .ok (.lload_n 1, 1) := by decide +kernel
theorem dX7_pack_47 : decode cX7_pack 47 = .ok (.bipush 8, 2) := by decide +kernel
theorem dX7_pack_49 : decode cX7_pack 49 = .ok (.lshl, 1) := by decide +kernel
theorem dX7_pack_50 : decode cX7_pack 50 = .ok (.aload_n 0, 1) := by decide +kernel
theorem dX7_pack_51 : decode cX7_pack 51 = .ok (.getfield 27, 3) := by decide +kernel
theorem dX7_pack_54 : decode cX7_pack 54 = .ok (.i2l, 1) := by decide +kernel
theorem dX7_pack_55 : decode cX7_pack 55 = .ok (.lor, 1) := by decide +kernel
theorem dX7_pack_56 : decode cX7_pack 56 = .ok (.lstore_n 1, 1) := by decide +kernel
theorem dX7_pack_57 : decode cX7_pack 57 = .ok (.lload_n 1, 1) := by decide +kernel
theorem dX7_pack_58 : decode cX7_pack 58 = .ok (.bipush 8, 2) := by decide +kernel
theorem dX7_pack_60 : decode cX7_pack 60 = .ok (.lshl, 1) := by decide +kernel
theorem dX7_pack_61 : decode cX7_pack 61 = .ok (.aload_n 0, 1) := by decide +kernel
theorem dX7_pack_62 : decode cX7_pack 62 = .ok (.getfield 24, 3) := by decide +kernel
theorem dX7_pack_65 : decode cX7_pack 65 = .ok (.i2l, 1) := by decide +kernel
theorem dX7_pack_66 : decode cX7_pack 66 = .ok (.lor, 1) := by decide +kernel
theorem dX7_pack_67 : decode cX7_pack 67 = .ok (.lstore_n 1, 1) := by decide +kernel
theorem dX7_pack_68 : decode cX7_pack 68 = .ok (.lload_n 1, 1) := by decide +kernel
theorem dX7_pack_69 : decode cX7_pack 69 = .ok (.bipush 8, 2) := by decide +kernel
theorem dX7_pack_71 : decode cX7_pack 71 = .ok (.lshl, 1) := by decide +kernel
theorem dX7_pack_72 : decode cX7_pack 72 = .ok (.aload_n 0, 1) := by decide +kernel
theorem dX7_pack_73 : decode cX7_pack 73 = .ok (.getfield 21, 3) := by decide +kernel
theorem dX7_pack_76 : decode cX7_pack 76 = .ok (.i2l, 1) := by decide +kernel
theorem dX7_pack_77 : decode cX7_pack 77 = .ok (.lor, 1) := by decide +kernel
theorem dX7_pack_78 : decode cX7_pack 78 = .ok (.lstore_n 1, 1) := by decide +kernel
theorem dX7_pack_79 : decode cX7_pack 79 = .ok (.lload_n 1, 1) := by decide +kernel
theorem dX7_pack_80 : decode cX7_pack 80 = .ok (.bipush 8, 2) := by decide +kernel
theorem dX7_pack_82 : decode cX7_pack 82 = .ok (.lshl, 1) := by decide +kernel
theorem dX7_pack_83 : decode cX7_pack 83 = .ok (.aload_n 0, 1) := by decide +kernel
theorem dX7_pack_84 : decode cX7_pack 84 = .ok (.getfield 15, 3) := by decide +kernel
theorem dX7_pack_87 : decode cX7_pack 87 = .ok (.i2l, 1) := by decide +kernel
theorem dX7_pack_88 : decode cX7_pack 88 = .ok (.lor, 1) := by decide +kernel
theorem dX7_pack_89 : decode cX7_pack 89 = .ok (.lreturn, 1) := by decide +kernel
theorem dX1_learn_0 : decode cX1_learn 0 = .ok (.aload_n 0, 1) := by decide +kernel
theorem dX1_learn_1 : decode cX1_learn 1 = .ok (.iconst 0, 1) := by decide +kernel
theorem dX1_learn_2 : decode cX1_learn 2 = .ok (.putfield 43, 3) := by decide +kernel
theorem dX1_learn_5 : decode cX1_learn 5 = .ok (.aload_n 0, 1) := by decide +kernel
theorem dX1_learn_6 : decode cX1_learn 6 = .ok (.iconst 0, 1) := by decide +kernel
theorem dX1_learn_7 : decode cX1_learn 7 = .ok (.putfield 47, 3) := by decide +kernel
theorem dX1_learn_10 : decode cX1_learn 10 = .ok (.iconst 0, 1) := by decide +kernel
theorem dX1_learn_11 : decode cX1_learn 11 = .ok (.istore 4, 2) := by decide +kernel
theorem dX1_learn_13 : decode cX1_learn 13 = .ok (.iconst 0, 1) := by decide +kernel
theorem dX1_learn_14 : decode cX1_learn 14 = .ok (.istore 5, 2) := by decide +kernel
theorem dX1_learn_16 : decode cX1_learn 16 = .ok (.iload 5, 2) := by decide +kernel
theorem dX1_learn_18 : decode cX1_learn 18 = .ok (.bipush 32, 2) := by decide +kernel
theorem dX1_learn_20 : decode cX1_learn 20 = .ok (.if_icmp .ge 190, 3) := by decide +kernel
theorem dX1_learn_23 : decode cX1_learn 23 = .ok (.iconst 1, 1) := by decide +kernel
theorem dX1_learn_24 : decode cX1_learn 24 = .ok (.istore 6, 2) := by decide +kernel
theorem dX1_learn_26 : decode cX1_learn 26 = .ok (.aload_n 0, 1) := by decide +kernel
theorem dX1_learn_27 : decode cX1_learn 27 = .ok (.getfield 39, 3) := by decide +kernel
theorem dX1_learn_30 : decode cX1_learn 30 = .ok (.aload_n 1, 1) := by decide +kernel
theorem dX1_learn_31 : decode cX1_learn 31 = .ok (.iload 5, 2) := by decide +kernel
theorem dX1_learn_33 : decode cX1_learn 33 = .ok (.invokevirtual 50, 3) := by decide +kernel
theorem dX1_learn_36 : decode cX1_learn 36 = .ok (.iconst 0, 1) := by decide +kernel
theorem dX1_learn_37 : decode cX1_learn 37 = .ok (.istore 7, 2) := by decide +kernel
theorem dX1_learn_39 : decode cX1_learn 39 = .ok (.iload 7, 2) := by decide +kernel
theorem dX1_learn_41 : decode cX1_learn 41 = .ok (.aload_n 2, 1) := by decide +kernel
theorem dX1_learn_42 : decode cX1_learn 42 = .ok (.getfield 54, 3) := by decide +kernel
theorem dX1_learn_45 : decode cX1_learn 45 = .ok (.if_icmp .ge 49, 3) := by decide +kernel
theorem dX1_learn_48 : decode cX1_learn 48 = .ok (.iload 7, 2) := by decide +kernel
theorem dX1_learn_50 : decode cX1_learn 50 = .ok (.bipush 24, 2) := by decide +kernel
theorem dX1_learn_52 : decode cX1_learn 52 = .ok (.if_icmp .ge 42, 3) := by decide +kernel
theorem dX1_learn_55 : decode cX1_learn 55 = .ok (.iload 6, 2) := by decide +kernel
theorem dX1_learn_57 : decode cX1_learn 57 = .ok (.aload_n 0, 1) := by decide +kernel
theorem dX1_learn_58 : decode cX1_learn 58 = .ok (.getfield 39, 3) := by decide +kernel
theorem dX1_learn_61 : decode cX1_learn 61 = .ok (.aload_n 1, 1) := by decide +kernel
theorem dX1_learn_62 : decode cX1_learn 62 = .ok (.aload_n 2, 1) := by decide +kernel
theorem dX1_learn_63 : decode cX1_learn 63 = .ok (.iload 7, 2) := by decide +kernel
theorem dX1_learn_65 : decode cX1_learn 65 = .ok (.invokevirtual 59, 3) := by decide +kernel
theorem dX1_learn_68 : decode cX1_learn 68 = .ok (.invokevirtual 63, 3) := by decide +kernel
theorem dX1_learn_71 : decode cX1_learn 71 = .ok (.aload_n 2, 1) := by decide +kernel
theorem dX1_learn_72 : decode cX1_learn 72 = .ok (.iload 7, 2) := by decide +kernel
theorem dX1_learn_74 : decode cX1_learn 74 = .ok (.invokevirtual 67, 3) := by decide +kernel
theorem dX1_learn_77 : decode cX1_learn 77 = .ok (.if_icmp .ne 7, 3) := by decide +kernel
theorem dX1_learn_80 : decode cX1_learn 80 = .ok (.iconst 1, 1) := by decide +kernel
theorem dX1_learn_81 : decode cX1_learn 81 = .ok (.goto 4, 3) := by decide +kernel
theorem dX1_learn_84 : decode cX1_learn 84 = .ok (.iconst 0, 1) := by decide +kernel
theorem dX1_learn_85 : decode cX1_learn 85 = .ok (.iand, 1) := by decide +kernel
theorem dX1_learn_86 : decode cX1_learn 86 = .ok (.istore 6, 2) := by decide +kernel
theorem dX1_learn_88 : decode cX1_learn 88 = .ok (.iinc 7 1, 3) := by decide +kernel
theorem dX1_learn_91 : decode cX1_learn 91 = .ok (.goto (-52), 3) := by decide +kernel
theorem dX1_learn_94 : decode cX1_learn 94 = .ok (.aload_n 0, 1) := by decide +kernel
theorem dX1_learn_95 : decode cX1_learn 95 = .ok (.getfield 9, 3) := by decide +kernel
theorem dX1_learn_98 : decode cX1_learn 98 = .ok (.iload 5, 2) := by decide +kernel
theorem dX1_learn_100 : decode cX1_learn 100 = .ok (.aload_n 0, 1) := by decide +kernel
theorem dX1_learn_101 : decode cX1_learn 101 = .ok (.getfield 39, 3) := by decide +kernel
theorem dX1_learn_104 : decode cX1_learn 104 = .ok (.invokevirtual 70, 3) := by decide +kernel
theorem dX1_learn_107 : decode cX1_learn 107 = .ok (.lastore, 1) := by decide +kernel
theorem dX1_learn_108 : decode cX1_learn 108 = .ok (.aload_n 0, 1) := by decide +kernel
theorem dX1_learn_109 : decode cX1_learn 109 = .ok (.getfield 15, 3) := by decide +kernel
theorem dX1_learn_112 : decode cX1_learn 112 = .ok (.iload 5, 2) := by decide +kernel
theorem dX1_learn_114 : decode cX1_learn 114 = .ok (.iload 6, 2) := by decide +kernel
theorem dX1_learn_116 : decode cX1_learn 116 = .ok (.ifCond .eq 13, 3) := by decide +kernel
theorem dX1_learn_119 : decode cX1_learn 119 = .ok (.aload_n 3, 1) := by decide +kernel
theorem dX1_learn_120 : decode cX1_learn 120 = .ok (.iload 5, 2) := by decide +kernel
theorem dX1_learn_122 : decode cX1_learn 122 = .ok (.iconst (-1), 1) := by decide +kernel
theorem dX1_learn_123 : decode cX1_learn 123 = .ok (.invokevirtual 74, 3) := by decide +kernel
theorem dX1_learn_126 : decode cX1_learn 126 = .ok (.goto 4, 3) := by decide +kernel
theorem dX1_learn_129 : decode cX1_learn 129 = .ok (.iconst 0, 1) := by decide +kernel
theorem dX1_learn_130 : decode cX1_learn 130 = .ok (.iastore, 1) := by decide +kernel
theorem dX1_learn_131 : decode cX1_learn 131 = .ok (.aload_n 0, 1) := by decide +kernel
theorem dX1_learn_132 : decode cX1_learn 132 = .ok (.dup, 1) := by decide +kernel
theorem dX1_learn_133 : decode cX1_learn 133 = .ok (.getfield 47, 3) := by decide +kernel
theorem dX1_learn_136 : decode cX1_learn 136 = .ok (.aload_n 0, 1) := by decide +kernel
theorem dX1_learn_137 : decode cX1_learn 137 = .ok (.getfield 15, 3) := by decide +kernel
theorem dX1_learn_140 : decode cX1_learn 140 = .ok (.iload 5, 2) := by decide +kernel
theorem dX1_learn_142 : decode cX1_learn 142 = .ok (.iaload, 1) := by decide +kernel
theorem dX1_learn_143 : decode cX1_learn 143 = .ok (.iadd, 1) := by decide +kernel
theorem dX1_learn_144 : decode cX1_learn 144 = .ok (.putfield 47, 3) := by decide +kernel
theorem dX1_learn_147 : decode cX1_learn 147 = .ok (.aload_n 0, 1) := by decide +kernel
theorem dX1_learn_148 : decode cX1_learn 148 = .ok (.dup, 1) := by decide +kernel
theorem dX1_learn_149 : decode cX1_learn 149 = .ok (.getfield 43, 3) := by decide +kernel
theorem dX1_learn_152 : decode cX1_learn 152 = .ok (.aload_n 0, 1) := by decide +kernel
theorem dX1_learn_153 : decode cX1_learn 153 = .ok (.getfield 15, 3) := by decide +kernel
theorem dX1_learn_156 : decode cX1_learn 156 = .ok (.iload 5, 2) := by decide +kernel
theorem dX1_learn_158 : decode cX1_learn 158 = .ok (.iaload, 1) := by decide +kernel
theorem dX1_learn_159 : decode cX1_learn 159 = .ok (.ifCond .le 10, 3) := by decide +kernel
theorem dX1_learn_162 : decode cX1_learn 162 = .ok (.iconst 1, 1) := by decide +kernel
theorem dX1_learn_163 : decode cX1_learn 163 = .ok (.iload 5, 2) := by decide +kernel
theorem dX1_learn_165 : decode cX1_learn 165 = .ok (.ishl, 1) := by decide +kernel
theorem dX1_learn_166 : decode cX1_learn 166 = .ok (.goto 4, 3) := by decide +kernel
theorem dX1_learn_169 : decode cX1_learn 169 = .ok (.iconst 0, 1) := by decide +kernel
theorem dX1_learn_170 : decode cX1_learn 170 = .ok (.ior, 1) := by decide +kernel
theorem dX1_learn_171 : decode cX1_learn 171 = .ok (.putfield 43, 3) := by decide +kernel
theorem dX1_learn_174 : decode cX1_learn 174 = .ok (.iload 4, 2) := by decide +kernel
theorem dX1_learn_176 : decode cX1_learn 176 = .ok (.aload_n 0, 1) := by decide +kernel
theorem dX1_learn_177 : decode cX1_learn 177 = .ok (.getfield 15, 3) := by decide +kernel
theorem dX1_learn_180 : decode cX1_learn 180 = .ok (.iload 5, 2) := by decide +kernel
theorem dX1_learn_182 : decode cX1_learn 182 = .ok (.iaload, 1) := by decide +kernel
theorem dX1_learn_183 : decode cX1_learn 183 = .ok (.ifCond .le 17, 3) := by decide +kernel
theorem dX1_learn_186 : decode cX1_learn 186 = .ok (.aload_n 0, 1) := by decide +kernel
theorem dX1_learn_187 : decode cX1_learn 187 = .ok (.getfield 39, 3) := by decide +kernel
theorem dX1_learn_190 : decode cX1_learn 190 = .ok (.getfield 80, 3) := by decide +kernel
theorem dX1_learn_193 : decode cX1_learn 193 = .ok (.ifCond .eq 7, 3) := by decide +kernel
theorem dX1_learn_196 : decode cX1_learn 196 = .ok (.iconst 1, 1) := by decide +kernel
theorem dX1_learn_197 : decode cX1_learn 197 = .ok (.goto 4, 3) := by decide +kernel
theorem dX1_learn_200 : decode cX1_learn 200 = .ok (.iconst 0, 1) := by decide +kernel
theorem dX1_learn_201 : decode cX1_learn 201 = .ok (.ior, 1) := by decide +kernel
theorem dX1_learn_202 : decode cX1_learn 202 = .ok (.istore 4, 2) := by decide +kernel
theorem dX1_learn_204 : decode cX1_learn 204 = .ok (.iinc 5 1, 3) := by decide +kernel
theorem dX1_learn_207 : decode cX1_learn 207 = .ok (.goto (-191), 3) := by decide +kernel
theorem dX1_learn_210 : decode cX1_learn 210 = .ok (.aload_n 0, 1) := by decide +kernel
theorem dX1_learn_211 : decode cX1_learn 211 = .ok (.getfield 27, 3) := by decide +kernel
theorem dX1_learn_214 : decode cX1_learn 214 = .ok (.iload 4, 2) := by decide +kernel
theorem dX1_learn_216 : decode cX1_learn 216 = .ok (.ifCond .eq 7, 3) := by decide +kernel
theorem dX1_learn_219 : decode cX1_learn 219 = .ok (.iconst 0, 1) := by decide +kernel
theorem dX1_learn_220 : decode cX1_learn 220 = .ok (.goto 4, 3) := by decide +kernel
theorem dX1_learn_223 : decode cX1_learn 223 = .ok (.iconst (-1), 1) := by decide +kernel
theorem dX1_learn_224 : decode cX1_learn 224 = .ok (.invokestatic 84, 3) := by decide +kernel
theorem dX1_learn_227 : decode cX1_learn 227 = .ok (.aload_n 0, 1) := by decide +kernel
theorem dX1_learn_228 : decode cX1_learn 228 = .ok (.getfield 30, 3) := by decide +kernel
theorem dX1_learn_231 : decode cX1_learn 231 = .ok (.aload_n 0, 1) := by decide +kernel
theorem dX1_learn_232 : decode cX1_learn 232 = .ok (.getfield 47, 3) := by decide +kernel
theorem dX1_learn_235 : decode cX1_learn 235 = .ok (.invokestatic 84, 3) := by decide +kernel
theorem dX1_learn_238 : decode cX1_learn 238 = .ok (.aload_n 0, 1) := by decide +kernel
theorem dX1_learn_239 : decode cX1_learn 239 = .ok (.iconst 1, 1) := by decide +kernel
theorem dX1_learn_240 : decode cX1_learn 240 = .ok (.putfield 90, 3) := by decide +kernel
theorem dX1_learn_243 : decode cX1_learn 243 = .ok (.return_, 1) := by decide +kernel
theorem dX1_weightWith_0 : decode cX1_weightWith 0 = .ok (.iconst 0, 1) := by decide +kernel
theorem dX1_weightWith_1 : decode cX1_weightWith 1 = .ok (.istore_n 2, 1) := by decide +kernel
theorem dX1_weightWith_2 : decode cX1_weightWith 2 = .ok (.iconst 0, 1) := by decide +kernel
theorem dX1_weightWith_3 : decode cX1_weightWith 3 = .ok (.istore_n 3, 1) := by decide +kernel
theorem dX1_weightWith_4 : decode cX1_weightWith 4 = .ok (.iload_n 3, 1) := by decide +kernel
theorem dX1_weightWith_5 : decode cX1_weightWith 5 = .ok (.bipush 32, 2) := by decide +kernel
theorem dX1_weightWith_7 : decode cX1_weightWith 7 = .ok (.if_icmp .ge 24, 3) := by decide +kernel
theorem dX1_weightWith_10 : decode cX1_weightWith 10 = .ok (.iload_n 2, 1) := by decide +kernel
theorem dX1_weightWith_11 : decode cX1_weightWith 11 = .ok (.iload_n 3, 1) := by decide +kernel
theorem dX1_weightWith_12 : decode cX1_weightWith 12 = .ok (.iload_n 1, 1) := by decide +kernel
theorem dX1_weightWith_13 : decode cX1_weightWith 13 = .ok (.iushr, 1) := by decide +kernel
theorem dX1_weightWith_14 : decode cX1_weightWith 14 = .ok (.iconst 1, 1) := by decide +kernel
theorem dX1_weightWith_15 : decode cX1_weightWith 15 = .ok (.iand, 1) := by decide +kernel
theorem dX1_weightWith_16 : decode cX1_weightWith 16 = .ok (.aload_n 0, 1) := by decide +kernel
theorem dX1_weightWith_17 : decode cX1_weightWith 17 = .ok (.getfield 15, 3) := by decide +kernel
theorem dX1_weightWith_20 : decode cX1_weightWith 20 = .ok (.iload_n 3, 1) := by decide +kernel
theorem dX1_weightWith_21 : decode cX1_weightWith 21 = .ok (.iaload, 1) := by decide +kernel
theorem dX1_weightWith_22 : decode cX1_weightWith 22 = .ok (.imul, 1) := by decide +kernel
theorem dX1_weightWith_23 : decode cX1_weightWith 23 = .ok (.iadd, 1) := by decide +kernel
theorem dX1_weightWith_24 : decode cX1_weightWith 24 = .ok (.istore_n 2, 1) := by decide +kernel
theorem dX1_weightWith_25 : decode cX1_weightWith 25 = .ok (.iinc 3 1, 3) := by decide +kernel
theorem dX1_weightWith_28 : decode cX1_weightWith 28 = .ok (.goto (-24), 3) := by decide +kernel
theorem dX1_weightWith_31 : decode cX1_weightWith 31 = .ok (.iload_n 2, 1) := by decide +kernel
theorem dX1_weightWith_32 : decode cX1_weightWith 32 = .ok (.ireturn, 1) := by decide +kernel
theorem dX1_heaviestOf_0 : decode cX1_heaviestOf 0 = .ok (.iconst 0, 1) := by decide +kernel
theorem dX1_heaviestOf_1 : decode cX1_heaviestOf 1 = .ok (.istore_n 2, 1) := by decide +kernel
theorem dX1_heaviestOf_2 : decode cX1_heaviestOf 2 = .ok (.iconst 0, 1) := by decide +kernel
theorem dX1_heaviestOf_3 : decode cX1_heaviestOf 3 = .ok (.istore_n 3, 1) := by decide +kernel
theorem dX1_heaviestOf_4 : decode cX1_heaviestOf 4 = .ok (.iload_n 3, 1) := by decide +kernel
theorem dX1_heaviestOf_5 : decode cX1_heaviestOf 5 = .ok (.bipush 32, 2) := by decide +kernel
theorem dX1_heaviestOf_7 : decode cX1_heaviestOf 7 = .ok (.if_icmp .ge 26, 3) := by decide +kernel
theorem dX1_heaviestOf_10 : decode cX1_heaviestOf 10 = .ok (.iload_n 2, 1) := by decide +kernel
theorem dX1_heaviestOf_11 : decode cX1_heaviestOf 11 = .ok (.iload_n 1, 1) := by decide +kernel
theorem dX1_heaviestOf_12 : decode cX1_heaviestOf 12 = .ok (.iload_n 3, 1) := by decide +kernel
theorem dX1_heaviestOf_13 : decode cX1_heaviestOf 13 = .ok (.iushr, 1) := by decide +kernel
theorem dX1_heaviestOf_14 : decode cX1_heaviestOf 14 = .ok (.iconst 1, 1) := by decide +kernel
theorem dX1_heaviestOf_15 : decode cX1_heaviestOf 15 = .ok (.iand, 1) := by decide +kernel
theorem dX1_heaviestOf_16 : decode cX1_heaviestOf 16 = .ok (.aload_n 0, 1) := by decide +kernel
theorem dX1_heaviestOf_17 : decode cX1_heaviestOf 17 = .ok (.getfield 15, 3) := by decide +kernel
theorem dX1_heaviestOf_20 : decode cX1_heaviestOf 20 = .ok (.iload_n 3, 1) := by decide +kernel
theorem dX1_heaviestOf_21 : decode cX1_heaviestOf 21 = .ok (.iaload, 1) := by decide +kernel
theorem dX1_heaviestOf_22 : decode cX1_heaviestOf 22 = .ok (.imul, 1) := by decide +kernel
theorem dX1_heaviestOf_23 : decode cX1_heaviestOf 23 = .ok (.invokestatic 93, 3) := by decide +kernel
theorem dX1_heaviestOf_26 : decode cX1_heaviestOf 26 = .ok (.istore_n 2, 1) := by decide +kernel
theorem dX1_heaviestOf_27 : decode cX1_heaviestOf 27 = .ok (.iinc 3 1, 3) := by decide +kernel
theorem dX1_heaviestOf_30 : decode cX1_heaviestOf 30 = .ok (.goto (-26), 3) := by decide +kernel
theorem dX1_heaviestOf_33 : decode cX1_heaviestOf 33 = .ok (.iload_n 2, 1) := by decide +kernel
theorem dX1_heaviestOf_34 : decode cX1_heaviestOf 34 = .ok (.ireturn, 1) := by decide +kernel
theorem dX7_partOf_0 : decode cX7_partOf 0 = .ok (.lload_n 0, 1) := by decide +kernel
theorem dX7_partOf_1 : decode cX7_partOf 1 = .ok (.bipush 8, 2) := by decide +kernel
theorem dX7_partOf_3 : decode cX7_partOf 3 = .ok (.iload_n 2, 1) := by decide +kernel
theorem dX7_partOf_4 : decode cX7_partOf 4 = .ok (.imul, 1) := by decide +kernel
theorem dX7_partOf_5 : decode cX7_partOf 5 = .ok (.lushr, 1) := by decide +kernel
theorem dX7_partOf_6 : decode cX7_partOf 6 = .ok (.l2i, 1) := by decide +kernel
theorem dX7_partOf_7 : decode cX7_partOf 7 = .ok (.sipush 255, 3) := by decide +kernel
theorem dX7_partOf_10 : decode cX7_partOf 10 = .ok (.iand, 1) := by decide +kernel
theorem dX7_partOf_11 : decode cX7_partOf 11 = .ok (.ireturn, 1) := by decide +kernel
theorem dX7_unpack_0 : decode cX7_unpack 0 = .ok (.aload_n 0, 1) := by decide +kernel
theorem dX7_unpack_1 : decode cX7_unpack 1 = .ok (.lload_n 1, 1) := by decide +kernel
theorem dX7_unpack_2 : decode cX7_unpack 2 = .ok (.iconst 0, 1) := by decide +kernel
theorem dX7_unpack_3 : decode cX7_unpack 3 = .ok (.invokestatic 43, 3) := by decide +kernel
theorem dX7_unpack_6 : decode cX7_unpack 6 = .ok (.putfield 15, 3) := by decide +kernel
theorem dX7_unpack_9 : decode cX7_unpack 9 = .ok (.aload_n 0, 1) := by decide +kernel
theorem dX7_unpack_10 : decode cX7_unpack 10 = .ok (.lload_n 1, 1) := by decide +kernel
theorem dX7_unpack_11 : decode cX7_unpack 11 = .ok (.iconst 1, 1) := by decide +kernel
theorem dX7_unpack_12 : decode cX7_unpack 12 = .ok (.invokestatic 43, 3) := by decide +kernel
theorem dX7_unpack_15 : decode cX7_unpack 15 = .ok (.putfield 21, 3) := by decide +kernel
theorem dX7_unpack_18 : decode cX7_unpack 18 = .ok (.aload_n 0, 1) := by decide +kernel
theorem dX7_unpack_19 : decode cX7_unpack 19 = .ok (.lload_n 1, 1) := by decide +kernel
theorem dX7_unpack_20 : decode cX7_unpack 20 = .ok (.iconst 2, 1) := by decide +kernel
theorem dX7_unpack_21 : decode cX7_unpack 21 = .ok (.invokestatic 43, 3) := by decide +kernel
theorem dX7_unpack_24 : decode cX7_unpack 24 = .ok (.putfield 24, 3) := by decide +kernel
theorem dX7_unpack_27 : decode cX7_unpack 27 = .ok (.aload_n 0, 1) := by decide +kernel
theorem dX7_unpack_28 : decode cX7_unpack 28 = .ok (.lload_n 1, 1) := by decide +kernel
theorem dX7_unpack_29 : decode cX7_unpack 29 = .ok (.iconst 3, 1) := by decide +kernel
theorem dX7_unpack_30 : decode cX7_unpack 30 = .ok (.invokestatic 43, 3) := by decide +kernel
theorem dX7_unpack_33 : decode cX7_unpack 33 = .ok (.putfield 27, 3) := by decide +kernel
theorem dX7_unpack_36 : decode cX7_unpack 36 = .ok (.aload_n 0, 1) := by decide +kernel
theorem dX7_unpack_37 : decode cX7_unpack 37 = .ok (.lload_n 1, 1) := by decide +kernel
theorem dX7_unpack_38 : decode cX7_unpack 38 = .ok (.iconst 4, 1) := by decide +kernel
theorem dX7_unpack_39 : decode cX7_unpack 39 = .ok (.invokestatic 43, 3) := by decide +kernel
theorem dX7_unpack_42 : decode cX7_unpack 42 = .ok (.putfield 30, 3) := by decide +kernel
theorem dX7_unpack_45 : decode cX7_unpack 45 = .ok (.aload_n 0, 1) := by decide +kernel
theorem dX7_unpack_46 : decode cX7_unpack 46 = .ok (.lload_n 1, 1) := by decide +kernel
theorem dX7_unpack_47 : decode cX7_unpack 47 = .ok (.iconst 5, 1) := by decide +kernel
theorem dX7_unpack_48 : decode cX7_unpack 48 = .ok (.invokestatic 43, 3) := by decide +kernel
theorem dX7_unpack_51 : decode cX7_unpack 51 = .ok (.putfield 33, 3) := by decide +kernel
theorem dX7_unpack_54 : decode cX7_unpack 54 = .ok (.aload_n 0, 1) := by decide +kernel
theorem dX7_unpack_55 : decode cX7_unpack 55 = .ok (.lload_n 1, 1) := by decide +kernel
theorem dX7_unpack_56 : decode cX7_unpack 56 = .ok (.bipush 6, 2) := by decide +kernel
theorem dX7_unpack_58 : decode cX7_unpack 58 = .ok (.invokestatic 43, 3) := by decide +kernel
theorem dX7_unpack_61 : decode cX7_unpack 61 = .ok (.putfield 36, 3) := by decide +kernel
theorem dX7_unpack_64 : decode cX7_unpack 64 = .ok (.aload_n 0, 1) := by decide +kernel
theorem dX7_unpack_65 : decode cX7_unpack 65 = .ok (.lload_n 1, 1) := by decide +kernel
theorem dX7_unpack_66 : decode cX7_unpack 66 = .ok (.bipush 7, 2) := by decide +kernel
theorem dX7_unpack_68 : decode cX7_unpack 68 = .ok (.invokestatic 43, 3) := by decide +kernel
theorem dX7_unpack_71 : decode cX7_unpack 71 = .ok (.iconst 1, 1) := by decide +kernel
theorem dX7_unpack_72 : decode cX7_unpack 72 = .ok (.if_icmp .ne 7, 3) := by decide +kernel
theorem dX7_unpack_75 : decode cX7_unpack 75 = .ok (.iconst 1, 1) := by decide +kernel
theorem dX7_unpack_76 : decode cX7_unpack 76 = .ok (.goto 4, 3) := by decide +kernel
theorem dX7_unpack_79 : decode cX7_unpack 79 = .ok (.iconst 0, 1) := by decide +kernel
theorem dX7_unpack_80 : decode cX7_unpack 80 = .ok (.putfield 39, 3) := by decide +kernel
theorem dX7_unpack_83 : decode cX7_unpack 83 = .ok (.return_, 1) := by decide +kernel
theorem dX1_part_0 : decode cX1_part 0 = .ok (.iload 4, 2) := by decide +kernel
theorem dX1_part_2 : decode cX1_part 2 = .ok (.iconst 3, 1) := by decide +kernel
theorem dX1_part_3 : decode cX1_part 3 = .ok (.invokestatic 98, 3) := by decide +kernel
theorem dX1_part_6 : decode cX1_part 6 = .ok (.ifCond .ne 4, 3) := by decide +kernel
theorem dX1_part_9 : decode cX1_part 9 = .ok (.return_, 1) := by decide +kernel
theorem dX1_part_10 : decode cX1_part 10 = .ok (.aload_n 0, 1) := by decide +kernel
theorem dX1_part_11 : decode cX1_part 11 = .ok (.getfield 21, 3) := by decide +kernel
theorem dX1_part_14 : decode cX1_part 14 = .ok (.iload 4, 2) := by decide +kernel
theorem dX1_part_16 : decode cX1_part 16 = .ok (.aaload, 1) := by decide +kernel
theorem dX1_part_17 : decode cX1_part 17 = .ok (.iconst 0, 1) := by decide +kernel
theorem dX1_part_18 : decode cX1_part 18 = .ok (.invokestatic 84, 3) := by decide +kernel
theorem dX1_part_21 : decode cX1_part 21 = .ok (.aload_n 0, 1) := by decide +kernel
theorem dX1_part_22 : decode cX1_part 22 = .ok (.getfield 24, 3) := by decide +kernel
theorem dX1_part_25 : decode cX1_part 25 = .ok (.iload 4, 2) := by decide +kernel
theorem dX1_part_27 : decode cX1_part 27 = .ok (.aaload, 1) := by decide +kernel
theorem dX1_part_28 : decode cX1_part 28 = .ok (.iconst 0, 1) := by decide +kernel
theorem dX1_part_29 : decode cX1_part 29 = .ok (.invokestatic 84, 3) := by decide +kernel
theorem dX1_part_32 : decode cX1_part 32 = .ok (.iconst 0, 1) := by decide +kernel
theorem dX1_part_33 : decode cX1_part 33 = .ok (.istore 5, 2) := by decide +kernel
theorem dX1_part_35 : decode cX1_part 35 = .ok (.iload 5, 2) := by decide +kernel
theorem dX1_part_37 : decode cX1_part 37 = .ok (.bipush 32, 2) := by decide +kernel
theorem dX1_part_39 : decode cX1_part 39 = .ok (.if_icmp .ge 128, 3) := by decide +kernel
theorem dX1_part_42 : decode cX1_part 42 = .ok (.iload_n 2, 1) := by decide +kernel
theorem dX1_part_43 : decode cX1_part 43 = .ok (.iload 5, 2) := by decide +kernel
theorem dX1_part_45 : decode cX1_part 45 = .ok (.iushr, 1) := by decide +kernel
theorem dX1_part_46 : decode cX1_part 46 = .ok (.ifCond .eq 121, 3) := by decide +kernel
theorem dX1_part_49 : decode cX1_part 49 = .ok (.iload_n 2, 1) := by decide +kernel
theorem dX1_part_50 : decode cX1_part 50 = .ok (.iload 5, 2) := by decide +kernel
theorem dX1_part_52 : decode cX1_part 52 = .ok (.iushr, 1) := by decide +kernel
theorem dX1_part_53 : decode cX1_part 53 = .ok (.iconst 1, 1) := by decide +kernel
theorem dX1_part_54 : decode cX1_part 54 = .ok (.iand, 1) := by decide +kernel
theorem dX1_part_55 : decode cX1_part 55 = .ok (.ifCond .ne 6, 3) := by decide +kernel
theorem dX1_part_58 : decode cX1_part 58 = .ok (.goto 103, 3) := by decide +kernel
theorem dX1_part_61 : decode cX1_part 61 = .ok (.aload_n 0, 1) := by decide +kernel
theorem dX1_part_62 : decode cX1_part 62 = .ok (.getfield 39, 3) := by decide +kernel
theorem dX1_part_65 : decode cX1_part 65 = .ok (.aload_n 0, 1) := by decide +kernel
theorem dX1_part_66 : decode cX1_part 66 = .ok (.getfield 9, 3) := by decide +kernel
theorem dX1_part_69 : decode cX1_part 69 = .ok (.iload 4, 2) := by decide +kernel
theorem dX1_part_71 : decode cX1_part 71 = .ok (.bipush 32, 2) := by decide +kernel
theorem dX1_part_73 : decode cX1_part 73 = .ok (.imul, 1) := by decide +kernel
theorem dX1_part_74 : decode cX1_part 74 = .ok (.iload 5, 2) := by decide +kernel
theorem dX1_part_76 : decode cX1_part 76 = .ok (.iadd, 1) := by decide +kernel
theorem dX1_part_77 : decode cX1_part 77 = .ok (.laload, 1) := by decide +kernel
theorem dX1_part_78 : decode cX1_part 78 = .ok (.invokevirtual 102, 3) := by decide +kernel
theorem dX1_part_81 : decode cX1_part 81 = .ok (.aload_n 0, 1) := by decide +kernel
theorem dX1_part_82 : decode cX1_part 82 = .ok (.getfield 39, 3) := by decide +kernel
theorem dX1_part_85 : decode cX1_part 85 = .ok (.aload_n 1, 1) := by decide +kernel
theorem dX1_part_86 : decode cX1_part 86 = .ok (.iload_n 3, 1) := by decide +kernel
theorem dX1_part_87 : decode cX1_part 87 = .ok (.invokevirtual 63, 3) := by decide +kernel
theorem dX1_part_90 : decode cX1_part 90 = .ok (.istore 6, 2) := by decide +kernel
theorem dX1_part_92 : decode cX1_part 92 = .ok (.aload_n 0, 1) := by decide +kernel
theorem dX1_part_93 : decode cX1_part 93 = .ok (.getfield 9, 3) := by decide +kernel
theorem dX1_part_96 : decode cX1_part 96 = .ok (.iload 4, 2) := by decide +kernel
theorem dX1_part_98 : decode cX1_part 98 = .ok (.iconst 1, 1) := by decide +kernel
theorem dX1_part_99 : decode cX1_part 99 = .ok (.iadd, 1) := by decide +kernel
theorem dX1_part_100 : decode cX1_part 100 = .ok (.bipush 32, 2) := by decide +kernel
theorem dX1_part_102 : decode cX1_part 102 = .ok (.imul, 1) := by decide +kernel
theorem dX1_part_103 : decode cX1_part 103 = .ok (.iload 5, 2) := by decide +kernel
theorem dX1_part_105 : decode cX1_part 105 = .ok (.iadd, 1) := by decide +kernel
theorem dX1_part_106 : decode cX1_part 106 = .ok (.aload_n 0, 1) := by decide +kernel
theorem dX1_part_107 : decode cX1_part 107 = .ok (.getfield 39, 3) := by decide +kernel
theorem dX1_part_110 : decode cX1_part 110 = .ok (.invokevirtual 70, 3) := by decide +kernel
theorem dX1_part_113 : decode cX1_part 113 = .ok (.lastore, 1) := by decide +kernel
theorem dX1_part_114 : decode cX1_part 114 = .ok (.iload 6, 2) := by decide +kernel
theorem dX1_part_116 : decode cX1_part 116 = .ok (.bipush 7, 2) := by decide +kernel
theorem dX1_part_118 : decode cX1_part 118 = .ok (.invokestatic 98, 3) := by decide +kernel
theorem dX1_part_121 : decode cX1_part 121 = .ok (.ifCond .eq 40, 3) := by decide +kernel
theorem dX1_part_124 : decode cX1_part 124 = .ok (.aload_n 0, 1) := by decide +kernel
theorem dX1_part_125 : decode cX1_part 125 = .ok (.getfield 21, 3) := by decide +kernel
theorem dX1_part_128 : decode cX1_part 128 = .ok (.iload 4, 2) := by decide +kernel
theorem dX1_part_130 : decode cX1_part 130 = .ok (.aaload, 1) := by decide +kernel
theorem dX1_part_131 : decode cX1_part 131 = .ok (.iload 6, 2) := by decide +kernel
theorem dX1_part_133 : decode cX1_part 133 = .ok (.dup2, 1) := by decide +kernel
theorem dX1_part_134 : decode cX1_part 134 = .ok (.iaload, 1) := by decide +kernel
theorem dX1_part_135 : decode cX1_part 135 = .ok (.iconst 1, 1) := by decide +kernel
theorem dX1_part_136 : decode cX1_part 136 = .ok (.iload 5, 2) := by decide +kernel
theorem dX1_part_138 : decode cX1_part 138 = .ok (.ishl, 1) := by decide +kernel
theorem dX1_part_139 : decode cX1_part 139 = .ok (.ior, 1) := by decide +kernel
theorem dX1_part_140 : decode cX1_part 140 = .ok (.iastore, 1) := by decide +kernel
theorem dX1_part_141 : decode cX1_part 141 = .ok (.aload_n 0, 1) := by decide +kernel
theorem dX1_part_142 : decode cX1_part 142 = .ok (.getfield 24, 3) := by decide +kernel
theorem dX1_part_145 : decode cX1_part 145 = .ok (.iload 4, 2) := by decide +kernel
theorem dX1_part_147 : decode cX1_part 147 = .ok (.aaload, 1) := by decide +kernel
theorem dX1_part_148 : decode cX1_part 148 = .ok (.iload 6, 2) := by decide +kernel
theorem dX1_part_150 : decode cX1_part 150 = .ok (.dup2, 1) := by decide +kernel
theorem dX1_part_151 : decode cX1_part 151 = .ok (.iaload, 1) := by decide +kernel
theorem dX1_part_152 : decode cX1_part 152 = .ok (.aload_n 0, 1) := by decide +kernel
theorem dX1_part_153 : decode cX1_part 153 = .ok (.getfield 15, 3) := by decide +kernel
theorem dX1_part_156 : decode cX1_part 156 = .ok (.iload 5, 2) := by decide +kernel
theorem dX1_part_158 : decode cX1_part 158 = .ok (.iaload, 1) := by decide +kernel
theorem dX1_part_159 : decode cX1_part 159 = .ok (.iadd, 1) := by decide +kernel
theorem dX1_part_160 : decode cX1_part 160 = .ok (.iastore, 1) := by decide +kernel
theorem dX1_part_161 : decode cX1_part 161 = .ok (.iinc 5 1, 3) := by decide +kernel
theorem dX1_part_164 : decode cX1_part 164 = .ok (.goto (-129), 3) := by decide +kernel
theorem dX1_part_167 : decode cX1_part 167 = .ok (.return_, 1) := by decide +kernel
