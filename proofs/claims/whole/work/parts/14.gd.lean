theorem dX11_motorNow_0 : decode cX11_motorNow 0 = .ok (.aload_n 0, 1) := by decide +kernel
theorem dX11_motorNow_1 : decode cX11_motorNow 1 = .ok (.invokevirtual 97, 3) := by decide +kernel
theorem dX11_motorNow_4 : decode cX11_motorNow 4 = .ok (.istore_n 1, 1) := by decide +kernel
theorem dX11_motorNow_5 : decode cX11_motorNow 5 = .ok (.iload_n 1, 1) := by decide +kernel
theorem dX11_motorNow_6 : decode cX11_motorNow 6 = .ok (.iconst (-1), 1) := by decide +kernel
theorem dX11_motorNow_7 : decode cX11_motorNow 7 = .ok (.if_icmp .eq 7, 3) := by decide +kernel
theorem dX11_motorNow_10 : decode cX11_motorNow 10 = .ok (.aload_n 0, 1) := by decide +kernel
theorem dX11_motorNow_11 : decode cX11_motorNow 11 = .ok (.invokevirtual 76, 3) := by decide +kernel
theorem dX11_motorNow_14 : decode cX11_motorNow 14 = .ok (.iload_n 1, 1) := by decide +kernel
theorem dX11_motorNow_15 : decode cX11_motorNow 15 = .ok (.ireturn, 1) := by decide +kernel
theorem dX11_habitNow_0 : decode cX11_habitNow 0 = .ok (.aload_n 0, 1) := by decide +kernel
theorem dX11_habitNow_1 : decode cX11_habitNow 1 = .ok (.iconst 0, 1) := by decide +kernel
theorem dX11_habitNow_2 : decode cX11_habitNow 2 = .ok (.putfield 101, 3) := by decide +kernel
theorem dX11_habitNow_5 : decode cX11_habitNow 5 = .ok (.iconst 0, 1) := by decide +kernel
theorem dX11_habitNow_6 : decode cX11_habitNow 6 = .ok (.istore_n 1, 1) := by decide +kernel
theorem dX11_habitNow_7 : decode cX11_habitNow 7 = .ok (.iload_n 1, 1) := by decide +kernel
theorem dX11_habitNow_8 : decode cX11_habitNow 8 = .ok (.aload_n 0, 1) := by decide +kernel
theorem dX11_habitNow_9 : decode cX11_habitNow 9 = .ok (.getfield 13, 3) := by decide +kernel
theorem dX11_habitNow_12 : decode cX11_habitNow 12 = .ok (.iconst 1, 1) := by decide +kernel
theorem dX11_habitNow_13 : decode cX11_habitNow 13 = .ok (.iaload, 1) := by decide +kernel
theorem dX11_habitNow_14 : decode cX11_habitNow 14 = .ok (.if_icmp .lt 7, 3) := by decide +kernel
theorem dX11_habitNow_17 : decode cX11_habitNow 17 = .ok (.iload_n 1, 1) := by decide +kernel
theorem dX11_habitNow_18 : decode cX11_habitNow 18 = .ok (.ifCond .le 150, 3) := by decide +kernel
theorem dX11_habitNow_21 : decode cX11_habitNow 21 = .ok (.aload_n 0, 1) := by decide +kernel
theorem dX11_habitNow_22 : decode cX11_habitNow 22 = .ok (.iconst 1, 1) := by decide +kernel
theorem dX11_habitNow_23 : decode cX11_habitNow 23 = .ok (.iload_n 1, 1) := by decide +kernel
theorem dX11_habitNow_24 : decode cX11_habitNow 24 = .ok (.invokevirtual 83, 3) := by decide +kernel
theorem dX11_habitNow_27 : decode cX11_habitNow 27 = .ok (.bipush 48, 2) := by decide +kernel
theorem dX11_habitNow_29 : decode cX11_habitNow 29 = .ok (.isub, 1) := by decide +kernel
theorem dX11_habitNow_30 : decode cX11_habitNow 30 = .ok (.istore_n 2, 1) := by decide +kernel
theorem dX11_habitNow_31 : decode cX11_habitNow 31 = .ok (.iload_n 2, 1) := by decide +kernel
theorem dX11_habitNow_32 : decode cX11_habitNow 32 = .ok (.iconst 0, 1) := by decide +kernel
theorem dX11_habitNow_33 : decode cX11_habitNow 33 = .ok (.bipush 9, 2) := by decide +kernel
theorem dX11_habitNow_35 : decode cX11_habitNow 35 = .ok (.invokestatic 68, 3) := by decide +kernel
theorem dX11_habitNow_38 : decode cX11_habitNow 38 = .ok (.ifCond .ne 10, 3) := by decide +kernel
theorem dX11_habitNow_41 : decode cX11_habitNow 41 = .ok (.aload_n 0, 1) := by decide +kernel
theorem dX11_habitNow_42 : decode cX11_habitNow 42 = .ok (.iconst 0, 1) := by decide +kernel
theorem dX11_habitNow_43 : decode cX11_habitNow 43 = .ok (.putfield 101, 3) := by decide +kernel
theorem dX11_habitNow_46 : decode cX11_habitNow 46 = .ok (.iload_n 1, 1) := by decide +kernel
theorem dX11_habitNow_47 : decode cX11_habitNow 47 = .ok (.ireturn, 1) := by decide +kernel
theorem dX11_habitNow_48 : decode cX11_habitNow 48 = .ok (.iinc 1 1, 3) := by decide +kernel
theorem dX11_habitNow_51 : decode cX11_habitNow 51 = .ok (.iconst 1, 1) := by decide +kernel
theorem dX11_habitNow_52 : decode cX11_habitNow 52 = .ok (.istore_n 3, 1) := by decide +kernel
theorem dX11_habitNow_53 : decode cX11_habitNow 53 = .ok (.aload_n 0, 1) := by decide +kernel
theorem dX11_habitNow_54 : decode cX11_habitNow 54 = .ok (.iconst 1, 1) := by decide +kernel
theorem dX11_habitNow_55 : decode cX11_habitNow 55 = .ok (.iload_n 1, 1) := by decide +kernel
theorem dX11_habitNow_56 : decode cX11_habitNow 56 = .ok (.invokevirtual 83, 3) := by decide +kernel
theorem dX11_habitNow_59 : decode cX11_habitNow 59 = .ok (.bipush 42, 2) := by decide +kernel
theorem dX11_habitNow_61 : decode cX11_habitNow 61 = .ok (.if_icmp .ne 36, 3) := by decide +kernel
theorem dX11_habitNow_64 : decode cX11_habitNow 64 = .ok (.iinc 1 1, 3) := by decide +kernel
theorem dX11_habitNow_67 : decode cX11_habitNow 67 = .ok (.aload_n 0, 1) := by decide +kernel
theorem dX11_habitNow_68 : decode cX11_habitNow 68 = .ok (.iconst 1, 1) := by decide +kernel
theorem dX11_habitNow_69 : decode cX11_habitNow 69 = .ok (.iload_n 1, 1) := by decide +kernel
theorem dX11_habitNow_70 : decode cX11_habitNow 70 = .ok (.invokevirtual 83, 3) := by decide +kernel
theorem dX11_habitNow_73 : decode cX11_habitNow 73 = .ok (.bipush 48, 2) := by decide +kernel
theorem dX11_habitNow_75 : decode cX11_habitNow 75 = .ok (.isub, 1) := by decide +kernel
theorem dX11_habitNow_76 : decode cX11_habitNow 76 = .ok (.istore_n 3, 1) := by decide +kernel
theorem dX11_habitNow_77 : decode cX11_habitNow 77 = .ok (.iload_n 3, 1) := by decide +kernel
theorem dX11_habitNow_78 : decode cX11_habitNow 78 = .ok (.iconst 2, 1) := by decide +kernel
theorem dX11_habitNow_79 : decode cX11_habitNow 79 = .ok (.bipush 9, 2) := by decide +kernel
theorem dX11_habitNow_81 : decode cX11_habitNow 81 = .ok (.invokestatic 68, 3) := by decide +kernel
theorem dX11_habitNow_84 : decode cX11_habitNow 84 = .ok (.ifCond .ne 10, 3) := by decide +kernel
theorem dX11_habitNow_87 : decode cX11_habitNow 87 = .ok (.aload_n 0, 1) := by decide +kernel
theorem dX11_habitNow_88 : decode cX11_habitNow 88 = .ok (.iconst 0, 1) := by decide +kernel
theorem dX11_habitNow_89 : decode cX11_habitNow 89 = .ok (.putfield 101, 3) := by decide +kernel
theorem dX11_habitNow_92 : decode cX11_habitNow 92 = .ok (.iload_n 1, 1) := by decide +kernel
theorem dX11_habitNow_93 : decode cX11_habitNow 93 = .ok (.ireturn, 1) := by decide +kernel
theorem dX11_habitNow_94 : decode cX11_habitNow 94 = .ok (.iinc 1 1, 3) := by decide +kernel
theorem dX11_habitNow_97 : decode cX11_habitNow 97 = .ok (.iconst 0, 1) := by decide +kernel
theorem dX11_habitNow_98 : decode cX11_habitNow 98 = .ok (.istore 4, 2) := by decide +kernel
theorem dX11_habitNow_100 : decode cX11_habitNow 100 = .ok (.iload 4, 2) := by decide +kernel
theorem dX11_habitNow_102 : decode cX11_habitNow 102 = .ok (.iload_n 3, 1) := by decide +kernel
theorem dX11_habitNow_103 : decode cX11_habitNow 103 = .ok (.if_icmp .ge 29, 3) := by decide +kernel
theorem dX11_habitNow_106 : decode cX11_habitNow 106 = .ok (.aload_n 0, 1) := by decide +kernel
theorem dX11_habitNow_107 : decode cX11_habitNow 107 = .ok (.getfield 19, 3) := by decide +kernel
theorem dX11_habitNow_110 : decode cX11_habitNow 110 = .ok (.aload_n 0, 1) := by decide +kernel
theorem dX11_habitNow_111 : decode cX11_habitNow 111 = .ok (.getfield 101, 3) := by decide +kernel
theorem dX11_habitNow_114 : decode cX11_habitNow 114 = .ok (.iload_n 2, 1) := by decide +kernel
theorem dX11_habitNow_115 : decode cX11_habitNow 115 = .ok (.iastore, 1) := by decide +kernel
theorem dX11_habitNow_116 : decode cX11_habitNow 116 = .ok (.aload_n 0, 1) := by decide +kernel
theorem dX11_habitNow_117 : decode cX11_habitNow 117 = .ok (.dup, 1) := by decide +kernel
theorem dX11_habitNow_118 : decode cX11_habitNow 118 = .ok (.getfield 101, 3) := by decide +kernel
theorem dX11_habitNow_121 : decode cX11_habitNow 121 = .ok (.iconst 1, 1) := by decide +kernel
theorem dX11_habitNow_122 : decode cX11_habitNow 122 = .ok (.iadd, 1) := by decide +kernel
theorem dX11_habitNow_123 : decode cX11_habitNow 123 = .ok (.putfield 101, 3) := by decide +kernel
theorem dX11_habitNow_126 : decode cX11_habitNow 126 = .ok (.iinc 4 1, 3) := by decide +kernel
theorem dX11_habitNow_129 : decode cX11_habitNow 129 = .ok (.goto (-29), 3) := by decide +kernel
theorem dX11_habitNow_132 : decode cX11_habitNow 132 = .ok (.iload_n 1, 1) := by decide +kernel
theorem dX11_habitNow_133 : decode cX11_habitNow 133 = .ok (.aload_n 0, 1) := by decide +kernel
theorem dX11_habitNow_134 : decode cX11_habitNow 134 = .ok (.getfield 13, 3) := by decide +kernel
theorem dX11_habitNow_137 : decode cX11_habitNow 137 = .ok (.iconst 1, 1) := by decide +kernel
theorem dX11_habitNow_138 : decode cX11_habitNow 138 = .ok (.iaload, 1) := by decide +kernel
theorem dX11_habitNow_139 : decode cX11_habitNow 139 = .ok (.if_icmp .ne 5, 3) := by decide +kernel
theorem dX11_habitNow_142 : decode cX11_habitNow 142 = .ok (.iconst (-1), 1) := by decide +kernel
theorem dX11_habitNow_143 : decode cX11_habitNow 143 = .ok (.ireturn, 1) := by decide +kernel
theorem dX11_habitNow_144 : decode cX11_habitNow 144 = .ok (.aload_n 0, 1) := by decide +kernel
theorem dX11_habitNow_145 : decode cX11_habitNow 145 = .ok (.iconst 1, 1) := by decide +kernel
theorem dX11_habitNow_146 : decode cX11_habitNow 146 = .ok (.iload_n 1, 1) := by decide +kernel
theorem dX11_habitNow_147 : decode cX11_habitNow 147 = .ok (.invokevirtual 83, 3) := by decide +kernel
theorem dX11_habitNow_150 : decode cX11_habitNow 150 = .ok (.bipush 44, 2) := by decide +kernel
theorem dX11_habitNow_152 : decode cX11_habitNow 152 = .ok (.if_icmp .eq 10, 3) := by decide +kernel
theorem dX11_habitNow_155 : decode cX11_habitNow 155 = .ok (.aload_n 0, 1) := by decide +kernel
theorem dX11_habitNow_156 : decode cX11_habitNow 156 = .ok (.iconst 0, 1) := by decide +kernel
theorem dX11_habitNow_157 : decode cX11_habitNow 157 = .ok (.putfield 101, 3) := by decide +kernel
theorem dX11_habitNow_160 : decode cX11_habitNow 160 = .ok (.iload_n 1, 1) := by decide +kernel
theorem dX11_habitNow_161 : decode cX11_habitNow 161 = .ok (.ireturn, 1) := by decide +kernel
theorem dX11_habitNow_162 : decode cX11_habitNow 162 = .ok (.iinc 1 1, 3) := by decide +kernel
theorem dX11_habitNow_165 : decode cX11_habitNow 165 = .ok (.goto (-158), 3) := by decide +kernel
theorem dX11_habitNow_168 : decode cX11_habitNow 168 = .ok (.iconst (-1), 1) := by decide +kernel
theorem dX11_habitNow_169 : decode cX11_habitNow 169 = .ok (.ireturn, 1) := by decide +kernel
theorem dX11_fault_0 : decode cX11_fault 0 = .ok (.iload_n 1, 1) := by decide +kernel
theorem dX11_fault_1 : decode cX11_fault 1 = .ok (.ifCond .ne 10, 3) := by decide +kernel
theorem dX11_fault_4 : decode cX11_fault 4 = .ok (.aload_n 0, 1) := by decide +kernel
theorem dX11_fault_5 : decode cX11_fault 5 = .ok (.invokevirtual 104, 3) := by decide +kernel
theorem dX11_fault_8 : decode cX11_fault 8 = .ok (.goto 17, 3) := by decide +kernel
theorem dX11_fault_11 : decode cX11_fault 11 = .ok (.iload_n 1, 1) := by decide +kernel
theorem dX11_fault_12 : decode cX11_fault 12 = .ok (.iconst 1, 1) := by decide +kernel
theorem dX11_fault_13 : decode cX11_fault 13 = .ok (.if_icmp .ne 10, 3) := by decide +kernel
theorem dX11_fault_16 : decode cX11_fault 16 = .ok (.aload_n 0, 1) := by decide +kernel
theorem dX11_fault_17 : decode cX11_fault 17 = .ok (.invokevirtual 107, 3) := by decide +kernel
theorem dX11_fault_20 : decode cX11_fault 20 = .ok (.goto 5, 3) := by decide +kernel
theorem dX11_fault_23 : decode cX11_fault 23 = .ok (.bipush (-2), 2) := by decide +kernel
theorem dX11_fault_25 : decode cX11_fault 25 = .ok (.ireturn, 1) := by decide +kernel
theorem dX11_motorOf_0 : decode cX11_motorOf 0 = .ok (.aload_n 0, 1) := by decide +kernel
theorem dX11_motorOf_1 : decode cX11_motorOf 1 = .ok (.invokevirtual 104, 3) := by decide +kernel
theorem dX11_motorOf_4 : decode cX11_motorOf 4 = .ok (.istore_n 2, 1) := by decide +kernel
theorem dX11_motorOf_5 : decode cX11_motorOf 5 = .ok (.aload_n 0, 1) := by decide +kernel
theorem dX11_motorOf_6 : decode cX11_motorOf 6 = .ok (.getfield 16, 3) := by decide +kernel
theorem dX11_motorOf_9 : decode cX11_motorOf 9 = .ok (.iload_n 1, 1) := by decide +kernel
theorem dX11_motorOf_10 : decode cX11_motorOf 10 = .ok (.iaload, 1) := by decide +kernel
theorem dX11_motorOf_11 : decode cX11_motorOf 11 = .ok (.ireturn, 1) := by decide +kernel
theorem dX11_motor_0 : decode cX11_motor 0 = .ok (.iload_n 1, 1) := by decide +kernel
theorem dX11_motor_1 : decode cX11_motor 1 = .ok (.iconst 0, 1) := by decide +kernel
theorem dX11_motor_2 : decode cX11_motor 2 = .ok (.bipush 6, 2) := by decide +kernel
theorem dX11_motor_4 : decode cX11_motor 4 = .ok (.invokestatic 68, 3) := by decide +kernel
theorem dX11_motor_7 : decode cX11_motor 7 = .ok (.ifCond .eq 11, 3) := by decide +kernel
theorem dX11_motor_10 : decode cX11_motor 10 = .ok (.aload_n 0, 1) := by decide +kernel
theorem dX11_motor_11 : decode cX11_motor 11 = .ok (.iload_n 1, 1) := by decide +kernel
theorem dX11_motor_12 : decode cX11_motor 12 = .ok (.invokevirtual 110, 3) := by decide +kernel
theorem dX11_motor_15 : decode cX11_motor 15 = .ok (.goto 5, 3) := by decide +kernel
theorem dX11_motor_18 : decode cX11_motor 18 = .ok (.bipush (-2), 2) := by decide +kernel
theorem dX11_motor_20 : decode cX11_motor 20 = .ok (.ireturn, 1) := by decide +kernel
theorem dX11_begins_0 : decode cX11_begins 0 = .ok (.sipush 256, 3) := by decide +kernel
theorem dX11_begins_3 : decode cX11_begins 3 = .ok (.iload_n 1, 1) := by decide +kernel
theorem dX11_begins_4 : decode cX11_begins 4 = .ok (.imul, 1) := by decide +kernel
theorem dX11_begins_5 : decode cX11_begins 5 = .ok (.bipush 8, 2) := by decide +kernel
theorem dX11_begins_7 : decode cX11_begins 7 = .ok (.iload_n 2, 1) := by decide +kernel
theorem dX11_begins_8 : decode cX11_begins 8 = .ok (.imul, 1) := by decide +kernel
theorem dX11_begins_9 : decode cX11_begins 9 = .ok (.iadd, 1) := by decide +kernel
theorem dX11_begins_10 : decode cX11_begins 10 = .ok (.istore_n 3, 1) := by decide +kernel
theorem dX11_begins_11 : decode cX11_begins 11 = .ok (.aload_n 0, 1) := by decide +kernel
theorem dX11_begins_12 : decode cX11_begins 12 = .ok (.getfield 22, 3) := by decide +kernel
theorem dX11_begins_15 : decode cX11_begins 15 = .ok (.iload_n 3, 1) := by decide +kernel
theorem dX11_begins_16 : decode cX11_begins 16 = .ok (.aload_n 0, 1) := by decide +kernel
theorem dX11_begins_17 : decode cX11_begins 17 = .ok (.getfield 16, 3) := by decide +kernel
theorem dX11_begins_20 : decode cX11_begins 20 = .ok (.iconst 5, 1) := by decide +kernel
theorem dX11_begins_21 : decode cX11_begins 21 = .ok (.iaload, 1) := by decide +kernel
theorem dX11_begins_22 : decode cX11_begins 22 = .ok (.iastore, 1) := by decide +kernel
theorem dX11_begins_23 : decode cX11_begins 23 = .ok (.aload_n 0, 1) := by decide +kernel
theorem dX11_begins_24 : decode cX11_begins 24 = .ok (.getfield 22, 3) := by decide +kernel
theorem dX11_begins_27 : decode cX11_begins 27 = .ok (.iload_n 3, 1) := by decide +kernel
theorem dX11_begins_28 : decode cX11_begins 28 = .ok (.iconst 1, 1) := by decide +kernel
theorem dX11_begins_29 : decode cX11_begins 29 = .ok (.iadd, 1) := by decide +kernel
theorem dX11_begins_30 : decode cX11_begins 30 = .ok (.aload_n 0, 1) := by decide +kernel
theorem dX11_begins_31 : decode cX11_begins 31 = .ok (.getfield 16, 3) := by decide +kernel
theorem dX11_begins_34 : decode cX11_begins 34 = .ok (.bipush 6, 2) := by decide +kernel
theorem dX11_begins_36 : decode cX11_begins 36 = .ok (.iaload, 1) := by decide +kernel
theorem dX11_begins_37 : decode cX11_begins 37 = .ok (.iastore, 1) := by decide +kernel
theorem dX11_begins_38 : decode cX11_begins 38 = .ok (.iconst 2, 1) := by decide +kernel
theorem dX11_begins_39 : decode cX11_begins 39 = .ok (.istore 4, 2) := by decide +kernel
theorem dX11_begins_41 : decode cX11_begins 41 = .ok (.iload 4, 2) := by decide +kernel
theorem dX11_begins_43 : decode cX11_begins 43 = .ok (.bipush 8, 2) := by decide +kernel
theorem dX11_begins_45 : decode cX11_begins 45 = .ok (.if_icmp .ge 19, 3) := by decide +kernel
theorem dX11_begins_48 : decode cX11_begins 48 = .ok (.aload_n 0, 1) := by decide +kernel
theorem dX11_begins_49 : decode cX11_begins 49 = .ok (.getfield 22, 3) := by decide +kernel
theorem dX11_begins_52 : decode cX11_begins 52 = .ok (.iload_n 3, 1) := by decide +kernel
theorem dX11_begins_53 : decode cX11_begins 53 = .ok (.iload 4, 2) := by decide +kernel
theorem dX11_begins_55 : decode cX11_begins 55 = .ok (.iadd, 1) := by decide +kernel
theorem dX11_begins_56 : decode cX11_begins 56 = .ok (.iconst 0, 1) := by decide +kernel
theorem dX11_begins_57 : decode cX11_begins 57 = .ok (.iastore, 1) := by decide +kernel
theorem dX11_begins_58 : decode cX11_begins 58 = .ok (.iinc 4 1, 3) := by decide +kernel
theorem dX11_begins_61 : decode cX11_begins 61 = .ok (.goto (-20), 3) := by decide +kernel
theorem dX11_begins_64 : decode cX11_begins 64 = .ok (.aload_n 0, 1) := by decide +kernel
theorem dX11_begins_65 : decode cX11_begins 65 = .ok (.getfield 22, 3) := by decide +kernel
theorem dX11_begins_68 : decode cX11_begins 68 = .ok (.iload_n 3, 1) := by decide +kernel
theorem dX11_begins_69 : decode cX11_begins 69 = .ok (.bipush 6, 2) := by decide +kernel
theorem dX11_begins_71 : decode cX11_begins 71 = .ok (.iadd, 1) := by decide +kernel
theorem dX11_begins_72 : decode cX11_begins 72 = .ok (.iload_n 2, 1) := by decide +kernel
theorem dX11_begins_73 : decode cX11_begins 73 = .ok (.iastore, 1) := by decide +kernel
theorem dX11_begins_74 : decode cX11_begins 74 = .ok (.return_, 1) := by decide +kernel
theorem dX11_moves_0 : decode cX11_moves 0 = .ok (.iconst 0, 1) := by decide +kernel
theorem dX11_moves_1 : decode cX11_moves 1 = .ok (.istore 4, 2) := by decide +kernel
theorem dX11_moves_3 : decode cX11_moves 3 = .ok (.iload 4, 2) := by decide +kernel
theorem dX11_moves_5 : decode cX11_moves 5 = .ok (.bipush 8, 2) := by decide +kernel
theorem dX11_moves_7 : decode cX11_moves 7 = .ok (.if_icmp .ge 45, 3) := by decide +kernel
theorem dX11_moves_10 : decode cX11_moves 10 = .ok (.aload_n 0, 1) := by decide +kernel
theorem dX11_moves_11 : decode cX11_moves 11 = .ok (.getfield 22, 3) := by decide +kernel
theorem dX11_moves_14 : decode cX11_moves 14 = .ok (.sipush 256, 3) := by decide +kernel
theorem dX11_moves_17 : decode cX11_moves 17 = .ok (.iload_n 2, 1) := by decide +kernel
theorem dX11_moves_18 : decode cX11_moves 18 = .ok (.imul, 1) := by decide +kernel
theorem dX11_moves_19 : decode cX11_moves 19 = .ok (.bipush 8, 2) := by decide +kernel
theorem dX11_moves_21 : decode cX11_moves 21 = .ok (.iload_n 3, 1) := by decide +kernel
theorem dX11_moves_22 : decode cX11_moves 22 = .ok (.imul, 1) := by decide +kernel
theorem dX11_moves_23 : decode cX11_moves 23 = .ok (.iadd, 1) := by decide +kernel
theorem dX11_moves_24 : decode cX11_moves 24 = .ok (.iload 4, 2) := by decide +kernel
theorem dX11_moves_26 : decode cX11_moves 26 = .ok (.iadd, 1) := by decide +kernel
theorem dX11_moves_27 : decode cX11_moves 27 = .ok (.aload_n 0, 1) := by decide +kernel
theorem dX11_moves_28 : decode cX11_moves 28 = .ok (.getfield 22, 3) := by decide +kernel
theorem dX11_moves_31 : decode cX11_moves 31 = .ok (.sipush 256, 3) := by decide +kernel
theorem dX11_moves_34 : decode cX11_moves 34 = .ok (.iload_n 1, 1) := by decide +kernel
theorem dX11_moves_35 : decode cX11_moves 35 = .ok (.imul, 1) := by decide +kernel
theorem dX11_moves_36 : decode cX11_moves 36 = .ok (.bipush 8, 2) := by decide +kernel
theorem dX11_moves_38 : decode cX11_moves 38 = .ok (.iload_n 3, 1) := by decide +kernel
theorem dX11_moves_39 : decode cX11_moves 39 = .ok (.imul, 1) := by decide +kernel
theorem dX11_moves_40 : decode cX11_moves 40 = .ok (.iadd, 1) := by decide +kernel
theorem dX11_moves_41 : decode cX11_moves 41 = .ok (.iload 4, 2) := by decide +kernel
theorem dX11_moves_43 : decode cX11_moves 43 = .ok (.iadd, 1) := by decide +kernel
theorem dX11_moves_44 : decode cX11_moves 44 = .ok (.iaload, 1) := by decide +kernel
theorem dX11_moves_45 : decode cX11_moves 45 = .ok (.iastore, 1) := by decide +kernel
theorem dX11_moves_46 : decode cX11_moves 46 = .ok (.iinc 4 1, 3) := by decide +kernel
theorem dX11_moves_49 : decode cX11_moves 49 = .ok (.goto (-46), 3) := by decide +kernel
theorem dX11_moves_52 : decode cX11_moves 52 = .ok (.return_, 1) := by decide +kernel
theorem dX11_lightFor_0 : decode cX11_lightFor 0 = .ok (.iload_n 0, 1) := by decide +kernel
theorem dX11_lightFor_1 : decode cX11_lightFor 1 = .ok (.iconst 4, 1) := by decide +kernel
theorem dX11_lightFor_2 : decode cX11_lightFor 2 = .ok (.if_icmp .ge 7, 3) := by decide +kernel
theorem dX11_lightFor_5 : decode cX11_lightFor 5 = .ok (.iconst 1, 1) := by decide +kernel
theorem dX11_lightFor_6 : decode cX11_lightFor 6 = .ok (.goto 57, 3) := by decide +kernel
theorem dX11_lightFor_9 : decode cX11_lightFor 9 = .ok (.iload_n 0, 1) := by decide +kernel
theorem dX11_lightFor_10 : decode cX11_lightFor 10 = .ok (.iconst 4, 1) := by decide +kernel
theorem dX11_lightFor_11 : decode cX11_lightFor 11 = .ok (.if_icmp .ne 8, 3) := by decide +kernel
theorem dX11_lightFor_14 : decode cX11_lightFor 14 = .ok (.bipush 10, 2) := by decide +kernel
theorem dX11_lightFor_16 : decode cX11_lightFor 16 = .ok (.goto 47, 3) := by decide +kernel
theorem dX11_lightFor_19 : decode cX11_lightFor 19 = .ok (.iload_n 0, 1) := by decide +kernel
theorem dX11_lightFor_20 : decode cX11_lightFor 20 = .ok (.iconst 5, 1) := by decide +kernel
theorem dX11_lightFor_21 : decode cX11_lightFor 21 = .ok (.if_icmp .ne 8, 3) := by decide +kernel
theorem dX11_lightFor_24 : decode cX11_lightFor 24 = .ok (.bipush 8, 2) := by decide +kernel
theorem dX11_lightFor_26 : decode cX11_lightFor 26 = .ok (.goto 37, 3) := by decide +kernel
theorem dX11_lightFor_29 : decode cX11_lightFor 29 = .ok (.iload_n 0, 1) := by decide +kernel
theorem dX11_lightFor_30 : decode cX11_lightFor 30 = .ok (.bipush 6, 2) := by decide +kernel
theorem dX11_lightFor_32 : decode cX11_lightFor 32 = .ok (.if_icmp .ne 8, 3) := by decide +kernel
theorem dX11_lightFor_35 : decode cX11_lightFor 35 = .ok (.bipush 6, 2) := by decide +kernel
theorem dX11_lightFor_37 : decode cX11_lightFor 37 = .ok (.goto 26, 3) := by decide +kernel
theorem dX11_lightFor_40 : decode cX11_lightFor 40 = .ok (.iload_n 0, 1) := by decide +kernel
theorem dX11_lightFor_41 : decode cX11_lightFor 41 = .ok (.bipush 7, 2) := by decide +kernel
theorem dX11_lightFor_43 : decode cX11_lightFor 43 = .ok (.if_icmp .ne 7, 3) := by decide +kernel
theorem dX11_lightFor_46 : decode cX11_lightFor 46 = .ok (.iconst 2, 1) := by decide +kernel
theorem dX11_lightFor_47 : decode cX11_lightFor 47 = .ok (.goto 16, 3) := by decide +kernel
theorem dX11_lightFor_50 : decode cX11_lightFor 50 = .ok (.iload_n 0, 1) := by decide +kernel
theorem dX11_lightFor_51 : decode cX11_lightFor 51 = .ok (.bipush 8, 2) := by decide +kernel
theorem dX11_lightFor_53 : decode cX11_lightFor 53 = .ok (.if_icmp .ne 8, 3) := by decide +kernel
theorem dX11_lightFor_56 : decode cX11_lightFor 56 = .ok (.bipush 12, 2) := by decide +kernel
theorem dX11_lightFor_58 : decode cX11_lightFor 58 = .ok (.goto 5, 3) := by decide +kernel
theorem dX11_lightFor_61 : decode cX11_lightFor 61 = .ok (.bipush 15, 2) := by decide +kernel
theorem dX11_lightFor_63 : decode cX11_lightFor 63 = .ok (.ireturn, 1) := by decide +kernel
theorem dX11_turns_0 : decode cX11_turns 0 = .ok (.aload_n 0, 1) := by decide +kernel
theorem dX11_turns_1 : decode cX11_turns 1 = .ok (.getfield 22, 3) := by decide +kernel
theorem dX11_turns_4 : decode cX11_turns 4 = .ok (.iload_n 1, 1) := by decide +kernel
theorem dX11_turns_5 : decode cX11_turns 5 = .ok (.bipush 6, 2) := by decide +kernel
theorem dX11_turns_7 : decode cX11_turns 7 = .ok (.iadd, 1) := by decide +kernel
theorem dX11_turns_8 : decode cX11_turns 8 = .ok (.iaload, 1) := by decide +kernel
theorem dX11_turns_9 : decode cX11_turns 9 = .ok (.istore_n 3, 1) := by decide +kernel
theorem dX11_turns_10 : decode cX11_turns 10 = .ok (.iload_n 3, 1) := by decide +kernel
theorem dX11_turns_11 : decode cX11_turns 11 = .ok (.iconst 2, 1) := by decide +kernel
theorem dX11_turns_12 : decode cX11_turns 12 = .ok (.invokestatic 119, 3) := by decide +kernel
theorem dX11_turns_15 : decode cX11_turns 15 = .ok (.ifCond .ne 24, 3) := by decide +kernel
theorem dX11_turns_18 : decode cX11_turns 18 = .ok (.iload_n 3, 1) := by decide +kernel
theorem dX11_turns_19 : decode cX11_turns 19 = .ok (.iconst 4, 1) := by decide +kernel
theorem dX11_turns_20 : decode cX11_turns 20 = .ok (.invokestatic 119, 3) := by decide +kernel
theorem dX11_turns_23 : decode cX11_turns 23 = .ok (.ifCond .eq 20, 3) := by decide +kernel
theorem dX11_turns_26 : decode cX11_turns 26 = .ok (.aload_n 0, 1) := by decide +kernel
theorem dX11_turns_27 : decode cX11_turns 27 = .ok (.getfield 22, 3) := by decide +kernel
theorem dX11_turns_30 : decode cX11_turns 30 = .ok (.iload_n 1, 1) := by decide +kernel
theorem dX11_turns_31 : decode cX11_turns 31 = .ok (.iconst 4, 1) := by decide +kernel
theorem dX11_turns_32 : decode cX11_turns 32 = .ok (.iadd, 1) := by decide +kernel
theorem dX11_turns_33 : decode cX11_turns 33 = .ok (.iaload, 1) := by decide +kernel
theorem dX11_turns_34 : decode cX11_turns 34 = .ok (.bipush 6, 2) := by decide +kernel
theorem dX11_turns_36 : decode cX11_turns 36 = .ok (.if_icmp .ge 7, 3) := by decide +kernel
theorem dX11_turns_39 : decode cX11_turns 39 = .ok (.iconst 1, 1) := by decide +kernel
theorem dX11_turns_40 : decode cX11_turns 40 = .ok (.goto 4, 3) := by decide +kernel
theorem dX11_turns_43 : decode cX11_turns 43 = .ok (.iconst 0, 1) := by decide +kernel
theorem dX11_turns_44 : decode cX11_turns 44 = .ok (.istore 4, 2) := by decide +kernel
theorem dX11_turns_46 : decode cX11_turns 46 = .ok (.iload 4, 2) := by decide +kernel
theorem dX11_turns_48 : decode cX11_turns 48 = .ok (.ifCond .eq 7, 3) := by decide +kernel
theorem dX11_turns_51 : decode cX11_turns 51 = .ok (.iconst 0, 1) := by decide +kernel
theorem dX11_turns_52 : decode cX11_turns 52 = .ok (.goto 13, 3) := by decide +kernel
theorem dX11_turns_55 : decode cX11_turns 55 = .ok (.aload_n 0, 1) := by decide +kernel
theorem dX11_turns_56 : decode cX11_turns 56 = .ok (.getfield 16, 3) := by decide +kernel
theorem dX11_turns_59 : decode cX11_turns 59 = .ok (.iconst 3, 1) := by decide +kernel
theorem dX11_turns_60 : decode cX11_turns 60 = .ok (.iaload, 1) := by decide +kernel
theorem dX11_turns_61 : decode cX11_turns 61 = .ok (.iconst 2, 1) := by decide +kernel
theorem dX11_turns_62 : decode cX11_turns 62 = .ok (.iload_n 2, 1) := by decide +kernel
theorem dX11_turns_63 : decode cX11_turns 63 = .ok (.imul, 1) := by decide +kernel
theorem dX11_turns_64 : decode cX11_turns 64 = .ok (.iadd, 1) := by decide +kernel
theorem dX11_turns_65 : decode cX11_turns 65 = .ok (.istore 5, 2) := by decide +kernel
theorem dX11_turns_67 : decode cX11_turns 67 = .ok (.iload 5, 2) := by decide +kernel
theorem dX11_turns_69 : decode cX11_turns 69 = .ok (.aload_n 0, 1) := by decide +kernel
theorem dX11_turns_70 : decode cX11_turns 70 = .ok (.getfield 16, 3) := by decide +kernel
theorem dX11_turns_73 : decode cX11_turns 73 = .ok (.iconst 4, 1) := by decide +kernel
theorem dX11_turns_74 : decode cX11_turns 74 = .ok (.iaload, 1) := by decide +kernel
theorem dX11_turns_75 : decode cX11_turns 75 = .ok (.imul, 1) := by decide +kernel
theorem dX11_turns_76 : decode cX11_turns 76 = .ok (.bipush 10, 2) := by decide +kernel
theorem dX11_turns_78 : decode cX11_turns 78 = .ok (.idiv, 1) := by decide +kernel
theorem dX11_turns_79 : decode cX11_turns 79 = .ok (.istore 6, 2) := by decide +kernel
theorem dX11_turns_81 : decode cX11_turns 81 = .ok (.aload_n 0, 1) := by decide +kernel
theorem dX11_turns_82 : decode cX11_turns 82 = .ok (.getfield 22, 3) := by decide +kernel
theorem dX11_turns_85 : decode cX11_turns 85 = .ok (.iload_n 1, 1) := by decide +kernel
theorem dX11_turns_86 : decode cX11_turns 86 = .ok (.iconst 2, 1) := by decide +kernel
theorem dX11_turns_87 : decode cX11_turns 87 = .ok (.iadd, 1) := by decide +kernel
theorem dX11_turns_88 : decode cX11_turns 88 = .ok (.iaload, 1) := by decide +kernel
theorem dX11_turns_89 : decode cX11_turns 89 = .ok (.iconst 4, 1) := by decide +kernel
theorem dX11_turns_90 : decode cX11_turns 90 = .ok (.idiv, 1) := by decide +kernel
theorem dX11_turns_91 : decode cX11_turns 91 = .ok (.istore 7, 2) := by decide +kernel
theorem dX11_turns_93 : decode cX11_turns 93 = .ok (.iload 5, 2) := by decide +kernel
theorem dX11_turns_95 : decode cX11_turns 95 = .ok (.iload 6, 2) := by decide +kernel
theorem dX11_turns_97 : decode cX11_turns 97 = .ok (.isub, 1) := by decide +kernel
theorem dX11_turns_98 : decode cX11_turns 98 = .ok (.iload 7, 2) := by decide +kernel
theorem dX11_turns_100 : decode cX11_turns 100 = .ok (.iadd, 1) := by decide +kernel
theorem dX11_turns_101 : decode cX11_turns 101 = .ok (.aload_n 0, 1) := by decide +kernel
theorem dX11_turns_102 : decode cX11_turns 102 = .ok (.getfield 22, 3) := by decide +kernel
theorem dX11_turns_105 : decode cX11_turns 105 = .ok (.iload_n 1, 1) := by decide +kernel
theorem dX11_turns_106 : decode cX11_turns 106 = .ok (.iconst 5, 1) := by decide +kernel
theorem dX11_turns_107 : decode cX11_turns 107 = .ok (.iadd, 1) := by decide +kernel
theorem dX11_turns_108 : decode cX11_turns 108 = .ok (.iaload, 1) := by decide +kernel
theorem dX11_turns_109 : decode cX11_turns 109 = .ok (.iadd, 1) := by decide +kernel
theorem dX11_turns_110 : decode cX11_turns 110 = .ok (.istore 8, 2) := by decide +kernel
theorem dX11_turns_112 : decode cX11_turns 112 = .ok (.aload_n 0, 1) := by decide +kernel
theorem dX11_turns_113 : decode cX11_turns 113 = .ok (.getfield 22, 3) := by decide +kernel
theorem dX11_turns_116 : decode cX11_turns 116 = .ok (.iload_n 1, 1) := by decide +kernel
theorem dX11_turns_117 : decode cX11_turns 117 = .ok (.iconst 2, 1) := by decide +kernel
theorem dX11_turns_118 : decode cX11_turns 118 = .ok (.iadd, 1) := by decide +kernel
theorem dX11_turns_119 : decode cX11_turns 119 = .ok (.dup2, 1) := by decide +kernel
theorem dX11_turns_120 : decode cX11_turns 120 = .ok (.iaload, 1) := by decide +kernel
theorem dX11_turns_121 : decode cX11_turns 121 = .ok (.iload 6, 2) := by decide +kernel
theorem dX11_turns_123 : decode cX11_turns 123 = .ok (.iload 7, 2) := by decide +kernel
theorem dX11_turns_125 : decode cX11_turns 125 = .ok (.isub, 1) := by decide +kernel
theorem dX11_turns_126 : decode cX11_turns 126 = .ok (.iadd, 1) := by decide +kernel
theorem dX11_turns_127 : decode cX11_turns 127 = .ok (.iastore, 1) := by decide +kernel
theorem dX11_turns_128 : decode cX11_turns 128 = .ok (.aload_n 0, 1) := by decide +kernel
theorem dX11_turns_129 : decode cX11_turns 129 = .ok (.getfield 22, 3) := by decide +kernel
theorem dX11_turns_132 : decode cX11_turns 132 = .ok (.iload_n 1, 1) := by decide +kernel
theorem dX11_turns_133 : decode cX11_turns 133 = .ok (.iconst 5, 1) := by decide +kernel
theorem dX11_turns_134 : decode cX11_turns 134 = .ok (.iadd, 1) := by decide +kernel
theorem dX11_turns_135 : decode cX11_turns 135 = .ok (.iconst 0, 1) := by decide +kernel
theorem dX11_turns_136 : decode cX11_turns 136 = .ok (.iastore, 1) := by decide +kernel
theorem dX11_turns_137 : decode cX11_turns 137 = .ok (.aload_n 0, 1) := by decide +kernel
theorem dX11_turns_138 : decode cX11_turns 138 = .ok (.getfield 16, 3) := by decide +kernel
theorem dX11_turns_141 : decode cX11_turns 141 = .ok (.iconst 1, 1) := by decide +kernel
theorem dX11_turns_142 : decode cX11_turns 142 = .ok (.iaload, 1) := by decide +kernel
theorem dX11_turns_143 : decode cX11_turns 143 = .ok (.iload_n 3, 1) := by decide +kernel
theorem dX11_turns_144 : decode cX11_turns 144 = .ok (.iconst 1, 1) := by decide +kernel
theorem dX11_turns_145 : decode cX11_turns 145 = .ok (.invokestatic 119, 3) := by decide +kernel
theorem dX11_turns_148 : decode cX11_turns 148 = .ok (.ifCond .eq 7, 3) := by decide +kernel
theorem dX11_turns_151 : decode cX11_turns 151 = .ok (.iconst 5, 1) := by decide +kernel
theorem dX11_turns_152 : decode cX11_turns 152 = .ok (.goto 4, 3) := by decide +kernel
theorem dX11_turns_155 : decode cX11_turns 155 = .ok (.iconst 0, 1) := by decide +kernel
theorem dX11_turns_156 : decode cX11_turns 156 = .ok (.isub, 1) := by decide +kernel
theorem dX11_turns_157 : decode cX11_turns 157 = .ok (.aload_n 0, 1) := by decide +kernel
theorem dX11_turns_158 : decode cX11_turns 158 = .ok (.getfield 22, 3) := by decide +kernel
theorem dX11_turns_161 : decode cX11_turns 161 = .ok (.iload_n 1, 1) := by decide +kernel
theorem dX11_turns_162 : decode cX11_turns 162 = .ok (.iaload, 1) := by decide +kernel
theorem dX11_turns_163 : decode cX11_turns 163 = .ok (.bipush 8, 2) := by decide +kernel
theorem dX11_turns_165 : decode cX11_turns 165 = .ok (.idiv, 1) := by decide +kernel
theorem dX11_turns_166 : decode cX11_turns 166 = .ok (.iadd, 1) := by decide +kernel
theorem dX11_turns_167 : decode cX11_turns 167 = .ok (.aload_n 0, 1) := by decide +kernel
theorem dX11_turns_168 : decode cX11_turns 168 = .ok (.getfield 22, 3) := by decide +kernel
theorem dX11_turns_171 : decode cX11_turns 171 = .ok (.iload_n 1, 1) := by decide +kernel
theorem dX11_turns_172 : decode cX11_turns 172 = .ok (.iconst 3, 1) := by decide +kernel
theorem dX11_turns_173 : decode cX11_turns 173 = .ok (.iadd, 1) := by decide +kernel
theorem dX11_turns_174 : decode cX11_turns 174 = .ok (.iaload, 1) := by decide +kernel
theorem dX11_turns_175 : decode cX11_turns 175 = .ok (.iconst 3, 1) := by decide +kernel
theorem dX11_turns_176 : decode cX11_turns 176 = .ok (.idiv, 1) := by decide +kernel
theorem dX11_turns_177 : decode cX11_turns 177 = .ok (.isub, 1) := by decide +kernel
theorem dX11_turns_178 : decode cX11_turns 178 = .ok (.istore 9, 2) := by decide +kernel
theorem dX11_turns_180 : decode cX11_turns 180 = .ok (.aload_n 0, 1) := by decide +kernel
theorem dX11_turns_181 : decode cX11_turns 181 = .ok (.getfield 16, 3) := by decide +kernel
theorem dX11_turns_184 : decode cX11_turns 184 = .ok (.iconst 0, 1) := by decide +kernel
theorem dX11_turns_185 : decode cX11_turns 185 = .ok (.iaload, 1) := by decide +kernel
theorem dX11_turns_186 : decode cX11_turns 186 = .ok (.iload_n 3, 1) := by decide +kernel
theorem dX11_turns_187 : decode cX11_turns 187 = .ok (.iconst 0, 1) := by decide +kernel
theorem dX11_turns_188 : decode cX11_turns 188 = .ok (.invokestatic 119, 3) := by decide +kernel
theorem dX11_turns_191 : decode cX11_turns 191 = .ok (.ifCond .eq 7, 3) := by decide +kernel
theorem dX11_turns_194 : decode cX11_turns 194 = .ok (.iconst 4, 1) := by decide +kernel
theorem dX11_turns_195 : decode cX11_turns 195 = .ok (.goto 4, 3) := by decide +kernel
theorem dX11_turns_198 : decode cX11_turns 198 = .ok (.iconst 0, 1) := by decide +kernel
theorem dX11_turns_199 : decode cX11_turns 199 = .ok (.isub, 1) := by decide +kernel
theorem dX11_turns_200 : decode cX11_turns 200 = .ok (.aload_n 0, 1) := by decide +kernel
theorem dX11_turns_201 : decode cX11_turns 201 = .ok (.getfield 22, 3) := by decide +kernel
theorem dX11_turns_204 : decode cX11_turns 204 = .ok (.iload_n 1, 1) := by decide +kernel
theorem dX11_turns_205 : decode cX11_turns 205 = .ok (.iconst 4, 1) := by decide +kernel
theorem dX11_turns_206 : decode cX11_turns 206 = .ok (.iadd, 1) := by decide +kernel
theorem dX11_turns_207 : decode cX11_turns 207 = .ok (.iaload, 1) := by decide +kernel
theorem dX11_turns_208 : decode cX11_turns 208 = .ok (.bipush 6, 2) := by decide +kernel
theorem dX11_turns_210 : decode cX11_turns 210 = .ok (.idiv, 1) := by decide +kernel
theorem dX11_turns_211 : decode cX11_turns 211 = .ok (.iadd, 1) := by decide +kernel
theorem dX11_turns_212 : decode cX11_turns 212 = .ok (.istore 10, 2) := by decide +kernel
theorem dX11_turns_214 : decode cX11_turns 214 = .ok (.aload_n 0, 1) := by decide +kernel
theorem dX11_turns_215 : decode cX11_turns 215 = .ok (.getfield 16, 3) := by decide +kernel
theorem dX11_turns_218 : decode cX11_turns 218 = .ok (.iconst 2, 1) := by decide +kernel
theorem dX11_turns_219 : decode cX11_turns 219 = .ok (.iaload, 1) := by decide +kernel
theorem dX11_turns_220 : decode cX11_turns 220 = .ok (.iload_n 3, 1) := by decide +kernel
theorem dX11_turns_221 : decode cX11_turns 221 = .ok (.iconst 3, 1) := by decide +kernel
theorem dX11_turns_222 : decode cX11_turns 222 = .ok (.invokestatic 119, 3) := by decide +kernel
theorem dX11_turns_225 : decode cX11_turns 225 = .ok (.ifCond .eq 8, 3) := by decide +kernel
theorem dX11_turns_228 : decode cX11_turns 228 = .ok (.bipush 6, 2) := by decide +kernel
theorem dX11_turns_230 : decode cX11_turns 230 = .ok (.goto 4, 3) := by decide +kernel
theorem dX11_turns_233 : decode cX11_turns 233 = .ok (.iconst 0, 1) := by decide +kernel
theorem dX11_turns_234 : decode cX11_turns 234 = .ok (.isub, 1) := by decide +kernel
theorem dX11_turns_235 : decode cX11_turns 235 = .ok (.istore 11, 2) := by decide +kernel
theorem dX11_turns_237 : decode cX11_turns 237 = .ok (.iconst 0, 1) := by decide +kernel
theorem dX11_turns_238 : decode cX11_turns 238 = .ok (.istore 12, 2) := by decide +kernel
theorem dX11_turns_240 : decode cX11_turns 240 = .ok (.iload 8, 2) := by decide +kernel
theorem dX11_turns_242 : decode cX11_turns 242 = .ok (.iconst 4, 1) := by decide +kernel
theorem dX11_turns_243 : decode cX11_turns 243 = .ok (.bipush 9, 2) := by decide +kernel
theorem dX11_turns_245 : decode cX11_turns 245 = .ok (.invokestatic 68, 3) := by decide +kernel
theorem dX11_turns_248 : decode cX11_turns 248 = .ok (.ifCond .eq 43, 3) := by decide +kernel
theorem dX11_turns_251 : decode cX11_turns 251 = .ok (.iload 9, 2) := by decide +kernel
theorem dX11_turns_253 : decode cX11_turns 253 = .ok (.iconst 4, 1) := by decide +kernel
theorem dX11_turns_254 : decode cX11_turns 254 = .ok (.if_icmp .lt 37, 3) := by decide +kernel
theorem dX11_turns_257 : decode cX11_turns 257 = .ok (.iload 10, 2) := by decide +kernel
theorem dX11_turns_259 : decode cX11_turns 259 = .ok (.iconst 5, 1) := by decide +kernel
theorem dX11_turns_260 : decode cX11_turns 260 = .ok (.if_icmp .lt 31, 3) := by decide +kernel
theorem dX11_turns_263 : decode cX11_turns 263 = .ok (.iload 11, 2) := by decide +kernel
theorem dX11_turns_265 : decode cX11_turns 265 = .ok (.bipush 13, 2) := by decide +kernel
theorem dX11_turns_267 : decode cX11_turns 267 = .ok (.if_icmp .le 7, 3) := by decide +kernel
theorem dX11_turns_270 : decode cX11_turns 270 = .ok (.iconst 3, 1) := by decide +kernel
theorem dX11_turns_271 : decode cX11_turns 271 = .ok (.goto 15, 3) := by decide +kernel
theorem dX11_turns_274 : decode cX11_turns 274 = .ok (.iload 11, 2) := by decide +kernel
theorem dX11_turns_276 : decode cX11_turns 276 = .ok (.bipush 7, 2) := by decide +kernel
theorem dX11_turns_278 : decode cX11_turns 278 = .ok (.if_icmp .ge 7, 3) := by decide +kernel
theorem dX11_turns_281 : decode cX11_turns 281 = .ok (.iconst 1, 1) := by decide +kernel
theorem dX11_turns_282 : decode cX11_turns 282 = .ok (.goto 4, 3) := by decide +kernel
theorem dX11_turns_285 : decode cX11_turns 285 = .ok (.iconst 2, 1) := by decide +kernel
theorem dX11_turns_286 : decode cX11_turns 286 = .ok (.istore 12, 2) := by decide +kernel
theorem dX11_turns_288 : decode cX11_turns 288 = .ok (.goto 29, 3) := by decide +kernel
theorem dX11_turns_291 : decode cX11_turns 291 = .ok (.iload 8, 2) := by decide +kernel
theorem dX11_turns_293 : decode cX11_turns 293 = .ok (.iconst 3, 1) := by decide +kernel
theorem dX11_turns_294 : decode cX11_turns 294 = .ok (.bipush 10, 2) := by decide +kernel
theorem dX11_turns_296 : decode cX11_turns 296 = .ok (.invokestatic 68, 3) := by decide +kernel
theorem dX11_turns_299 : decode cX11_turns 299 = .ok (.ifCond .eq 18, 3) := by decide +kernel
theorem dX11_turns_302 : decode cX11_turns 302 = .ok (.iload 9, 2) := by decide +kernel
theorem dX11_turns_304 : decode cX11_turns 304 = .ok (.iconst 3, 1) := by decide +kernel
theorem dX11_turns_305 : decode cX11_turns 305 = .ok (.if_icmp .lt 12, 3) := by decide +kernel
theorem dX11_turns_308 : decode cX11_turns 308 = .ok (.iload 10, 2) := by decide +kernel
theorem dX11_turns_310 : decode cX11_turns 310 = .ok (.iconst 4, 1) := by decide +kernel
theorem dX11_turns_311 : decode cX11_turns 311 = .ok (.if_icmp .lt 6, 3) := by decide +kernel
theorem dX11_turns_314 : decode cX11_turns 314 = .ok (.iconst 1, 1) := by decide +kernel
theorem dX11_turns_315 : decode cX11_turns 315 = .ok (.istore 12, 2) := by decide +kernel
theorem dX11_turns_317 : decode cX11_turns 317 = .ok (.iload 12, 2) := by decide +kernel
theorem dX11_turns_319 : decode cX11_turns 319 = .ok (.iconst 2, 1) := by decide +kernel
theorem dX11_turns_320 : decode cX11_turns 320 = .ok (.if_icmp .ne 15, 3) := by decide +kernel
theorem dX11_turns_323 : decode cX11_turns 323 = .ok (.aload_n 0, 1) := by decide +kernel
theorem dX11_turns_324 : decode cX11_turns 324 = .ok (.getfield 22, 3) := by decide +kernel
theorem dX11_turns_327 : decode cX11_turns 327 = .ok (.iload_n 1, 1) := by decide +kernel
theorem dX11_turns_328 : decode cX11_turns 328 = .ok (.bipush 7, 2) := by decide +kernel
theorem dX11_turns_330 : decode cX11_turns 330 = .ok (.iadd, 1) := by decide +kernel
theorem dX11_turns_331 : decode cX11_turns 331 = .ok (.iconst 1, 1) := by decide +kernel
theorem dX11_turns_332 : decode cX11_turns 332 = .ok (.iastore, 1) := by decide +kernel
theorem dX11_turns_333 : decode cX11_turns 333 = .ok (.iconst 2, 1) := by decide +kernel
theorem dX11_turns_334 : decode cX11_turns 334 = .ok (.ireturn, 1) := by decide +kernel
theorem dX11_turns_335 : decode cX11_turns 335 = .ok (.aload_n 0, 1) := by decide +kernel
theorem dX11_turns_336 : decode cX11_turns 336 = .ok (.getfield 22, 3) := by decide +kernel
theorem dX11_turns_339 : decode cX11_turns 339 = .ok (.iload_n 1, 1) := by decide +kernel
theorem dX11_turns_340 : decode cX11_turns 340 = .ok (.iconst 3, 1) := by decide +kernel
theorem dX11_turns_341 : decode cX11_turns 341 = .ok (.iadd, 1) := by decide +kernel
theorem dX11_turns_342 : decode cX11_turns 342 = .ok (.iaload, 1) := by decide +kernel
theorem dX11_turns_343 : decode cX11_turns 343 = .ok (.iload 8, 2) := by decide +kernel
theorem dX11_turns_345 : decode cX11_turns 345 = .ok (.bipush 9, 2) := by decide +kernel
theorem dX11_turns_347 : decode cX11_turns 347 = .ok (.if_icmp .le 11, 3) := by decide +kernel
theorem dX11_turns_350 : decode cX11_turns 350 = .ok (.iload 8, 2) := by decide +kernel
theorem dX11_turns_352 : decode cX11_turns 352 = .ok (.bipush 9, 2) := by decide +kernel
theorem dX11_turns_354 : decode cX11_turns 354 = .ok (.isub, 1) := by decide +kernel
theorem dX11_turns_355 : decode cX11_turns 355 = .ok (.goto 4, 3) := by decide +kernel
theorem dX11_turns_358 : decode cX11_turns 358 = .ok (.iconst 0, 1) := by decide +kernel
theorem dX11_turns_359 : decode cX11_turns 359 = .ok (.iadd, 1) := by decide +kernel
theorem dX11_turns_360 : decode cX11_turns 360 = .ok (.istore 13, 2) := by decide +kernel
theorem dX11_turns_362 : decode cX11_turns 362 = .ok (.aload_n 0, 1) := by decide +kernel
theorem dX11_turns_363 : decode cX11_turns 363 = .ok (.getfield 22, 3) := by decide +kernel
theorem dX11_turns_366 : decode cX11_turns 366 = .ok (.iload_n 1, 1) := by decide +kernel
theorem dX11_turns_367 : decode cX11_turns 367 = .ok (.iconst 3, 1) := by decide +kernel
theorem dX11_turns_368 : decode cX11_turns 368 = .ok (.iadd, 1) := by decide +kernel
theorem dX11_turns_369 : decode cX11_turns 369 = .ok (.iload 13, 2) := by decide +kernel
theorem dX11_turns_371 : decode cX11_turns 371 = .ok (.bipush 99, 2) := by decide +kernel
theorem dX11_turns_373 : decode cX11_turns 373 = .ok (.if_icmp .le 8, 3) := by decide +kernel
theorem dX11_turns_376 : decode cX11_turns 376 = .ok (.bipush 99, 2) := by decide +kernel
theorem dX11_turns_378 : decode cX11_turns 378 = .ok (.goto 5, 3) := by decide +kernel
theorem dX11_turns_381 : decode cX11_turns 381 = .ok (.iload 13, 2) := by decide +kernel
theorem dX11_turns_383 : decode cX11_turns 383 = .ok (.iastore, 1) := by decide +kernel
theorem dX11_turns_384 : decode cX11_turns 384 = .ok (.aload_n 0, 1) := by decide +kernel
theorem dX11_turns_385 : decode cX11_turns 385 = .ok (.getfield 22, 3) := by decide +kernel
theorem dX11_turns_388 : decode cX11_turns 388 = .ok (.iload_n 1, 1) := by decide +kernel
theorem dX11_turns_389 : decode cX11_turns 389 = .ok (.iconst 4, 1) := by decide +kernel
theorem dX11_turns_390 : decode cX11_turns 390 = .ok (.iadd, 1) := by decide +kernel
theorem dX11_turns_391 : decode cX11_turns 391 = .ok (.iaload, 1) := by decide +kernel
theorem dX11_turns_392 : decode cX11_turns 392 = .ok (.iload 12, 2) := by decide +kernel
theorem dX11_turns_394 : decode cX11_turns 394 = .ok (.ifCond .ne 7, 3) := by decide +kernel
theorem dX11_turns_397 : decode cX11_turns 397 = .ok (.iconst 1, 1) := by decide +kernel
theorem dX11_turns_398 : decode cX11_turns 398 = .ok (.goto 4, 3) := by decide +kernel
theorem dX11_turns_401 : decode cX11_turns 401 = .ok (.iconst 2, 1) := by decide +kernel
theorem dX11_turns_402 : decode cX11_turns 402 = .ok (.iadd, 1) := by decide +kernel
theorem dX11_turns_403 : decode cX11_turns 403 = .ok (.istore 14, 2) := by decide +kernel
theorem dX11_turns_405 : decode cX11_turns 405 = .ok (.aload_n 0, 1) := by decide +kernel
theorem dX11_turns_406 : decode cX11_turns 406 = .ok (.getfield 22, 3) := by decide +kernel
theorem dX11_turns_409 : decode cX11_turns 409 = .ok (.iload_n 1, 1) := by decide +kernel
theorem dX11_turns_410 : decode cX11_turns 410 = .ok (.iconst 4, 1) := by decide +kernel
theorem dX11_turns_411 : decode cX11_turns 411 = .ok (.iadd, 1) := by decide +kernel
theorem dX11_turns_412 : decode cX11_turns 412 = .ok (.iload 14, 2) := by decide +kernel
theorem dX11_turns_414 : decode cX11_turns 414 = .ok (.bipush 20, 2) := by decide +kernel
theorem dX11_turns_416 : decode cX11_turns 416 = .ok (.if_icmp .le 8, 3) := by decide +kernel
theorem dX11_turns_419 : decode cX11_turns 419 = .ok (.bipush 20, 2) := by decide +kernel
theorem dX11_turns_421 : decode cX11_turns 421 = .ok (.goto 5, 3) := by decide +kernel
theorem dX11_turns_424 : decode cX11_turns 424 = .ok (.iload 14, 2) := by decide +kernel
theorem dX11_turns_426 : decode cX11_turns 426 = .ok (.iastore, 1) := by decide +kernel
theorem dX11_turns_427 : decode cX11_turns 427 = .ok (.iload 12, 2) := by decide +kernel
theorem dX11_turns_429 : decode cX11_turns 429 = .ok (.ireturn, 1) := by decide +kernel
theorem dX11_does_0 : decode cX11_does 0 = .ok (.sipush 256, 3) := by decide +kernel
theorem dX11_does_3 : decode cX11_does 3 = .ok (.iload_n 1, 1) := by decide +kernel
theorem dX11_does_4 : decode cX11_does 4 = .ok (.imul, 1) := by decide +kernel
theorem dX11_does_5 : decode cX11_does 5 = .ok (.bipush 8, 2) := by decide +kernel
theorem dX11_does_7 : decode cX11_does 7 = .ok (.iload_n 2, 1) := by decide +kernel
theorem dX11_does_8 : decode cX11_does 8 = .ok (.imul, 1) := by decide +kernel
theorem dX11_does_9 : decode cX11_does 9 = .ok (.iadd, 1) := by decide +kernel
theorem dX11_does_10 : decode cX11_does 10 = .ok (.istore 4, 2) := by decide +kernel
theorem dX11_does_12 : decode cX11_does 12 = .ok (.iload_n 3, 1) := by decide +kernel
theorem dX11_does_13 : decode cX11_does 13 = .ok (.iconst 4, 1) := by decide +kernel
theorem dX11_does_14 : decode cX11_does 14 = .ok (.if_icmp .ge 16, 3) := by decide +kernel
theorem dX11_does_17 : decode cX11_does 17 = .ok (.iconst 1, 1) := by decide +kernel
theorem dX11_does_18 : decode cX11_does 18 = .ok (.aload_n 0, 1) := by decide +kernel
theorem dX11_does_19 : decode cX11_does 19 = .ok (.getfield 16, 3) := by decide +kernel
theorem dX11_does_22 : decode cX11_does 22 = .ok (.iconst 4, 1) := by decide +kernel
theorem dX11_does_23 : decode cX11_does 23 = .ok (.iaload, 1) := by decide +kernel
theorem dX11_does_24 : decode cX11_does 24 = .ok (.iconst 5, 1) := by decide +kernel
theorem dX11_does_25 : decode cX11_does 25 = .ok (.idiv, 1) := by decide +kernel
theorem dX11_does_26 : decode cX11_does 26 = .ok (.iadd, 1) := by decide +kernel
theorem dX11_does_27 : decode cX11_does 27 = .ok (.goto 4, 3) := by decide +kernel
theorem dX11_does_30 : decode cX11_does 30 = .ok (.iconst 0, 1) := by decide +kernel
theorem dX11_does_31 : decode cX11_does 31 = .ok (.istore 5, 2) := by decide +kernel
theorem dX11_does_33 : decode cX11_does 33 = .ok (.aload_n 0, 1) := by decide +kernel
theorem dX11_does_34 : decode cX11_does 34 = .ok (.getfield 22, 3) := by decide +kernel
theorem dX11_does_37 : decode cX11_does 37 = .ok (.iload 4, 2) := by decide +kernel
theorem dX11_does_39 : decode cX11_does 39 = .ok (.bipush 7, 2) := by decide +kernel
theorem dX11_does_41 : decode cX11_does 41 = .ok (.iadd, 1) := by decide +kernel
theorem dX11_does_42 : decode cX11_does 42 = .ok (.iaload, 1) := by decide +kernel
theorem dX11_does_43 : decode cX11_does 43 = .ok (.iconst 1, 1) := by decide +kernel
theorem dX11_does_44 : decode cX11_does 44 = .ok (.if_icmp .eq 31, 3) := by decide +kernel
theorem dX11_does_47 : decode cX11_does 47 = .ok (.aload_n 0, 1) := by decide +kernel
theorem dX11_does_48 : decode cX11_does 48 = .ok (.getfield 22, 3) := by decide +kernel
theorem dX11_does_51 : decode cX11_does 51 = .ok (.iload 4, 2) := by decide +kernel
theorem dX11_does_53 : decode cX11_does 53 = .ok (.iconst 1, 1) := by decide +kernel
theorem dX11_does_54 : decode cX11_does 54 = .ok (.iadd, 1) := by decide +kernel
theorem dX11_does_55 : decode cX11_does 55 = .ok (.iaload, 1) := by decide +kernel
theorem dX11_does_56 : decode cX11_does 56 = .ok (.iload_n 3, 1) := by decide +kernel
theorem dX11_does_57 : decode cX11_does 57 = .ok (.invokestatic 113, 3) := by decide +kernel
theorem dX11_does_60 : decode cX11_does 60 = .ok (.if_icmp .lt 15, 3) := by decide +kernel
theorem dX11_does_63 : decode cX11_does 63 = .ok (.aload_n 0, 1) := by decide +kernel
theorem dX11_does_64 : decode cX11_does 64 = .ok (.getfield 22, 3) := by decide +kernel
theorem dX11_does_67 : decode cX11_does 67 = .ok (.iload 4, 2) := by decide +kernel
theorem dX11_does_69 : decode cX11_does 69 = .ok (.iaload, 1) := by decide +kernel
theorem dX11_does_70 : decode cX11_does 70 = .ok (.iload 5, 2) := by decide +kernel
theorem dX11_does_72 : decode cX11_does 72 = .ok (.if_icmp .ge 5, 3) := by decide +kernel
theorem dX11_does_75 : decode cX11_does 75 = .ok (.iconst 4, 1) := by decide +kernel
theorem dX11_does_76 : decode cX11_does 76 = .ok (.ireturn, 1) := by decide +kernel
theorem dX11_does_77 : decode cX11_does 77 = .ok (.aload_n 0, 1) := by decide +kernel
theorem dX11_does_78 : decode cX11_does 78 = .ok (.getfield 22, 3) := by decide +kernel
theorem dX11_does_81 : decode cX11_does 81 = .ok (.iload 4, 2) := by decide +kernel
theorem dX11_does_83 : decode cX11_does 83 = .ok (.iconst 1, 1) := by decide +kernel
theorem dX11_does_84 : decode cX11_does 84 = .ok (.iadd, 1) := by decide +kernel
theorem dX11_does_85 : decode cX11_does 85 = .ok (.dup2, 1) := by decide +kernel
theorem dX11_does_86 : decode cX11_does 86 = .ok (.iaload, 1) := by decide +kernel
theorem dX11_does_87 : decode cX11_does 87 = .ok (.iload_n 3, 1) := by decide +kernel
theorem dX11_does_88 : decode cX11_does 88 = .ok (.invokestatic 113, 3) := by decide +kernel
theorem dX11_does_91 : decode cX11_does 91 = .ok (.isub, 1) := by decide +kernel
theorem dX11_does_92 : decode cX11_does 92 = .ok (.iastore, 1) := by decide +kernel
theorem dX11_does_93 : decode cX11_does 93 = .ok (.iload_n 3, 1) := by decide +kernel
theorem dX11_does_94 : decode cX11_does 94 = .ok (.tableswitch 277 4 9 #[38, 156, 189, 231, 243, 260], 38) := by decide +kernel
theorem dX11_does_132 : decode cX11_does 132 = .ok (.aload_n 0, 1) := by decide +kernel
theorem dX11_does_133 : decode cX11_does 133 = .ok (.getfield 22, 3) := by decide +kernel
theorem dX11_does_136 : decode cX11_does 136 = .ok (.iload 4, 2) := by decide +kernel
theorem dX11_does_138 : decode cX11_does 138 = .ok (.iconst 3, 1) := by decide +kernel
theorem dX11_does_139 : decode cX11_does 139 = .ok (.iadd, 1) := by decide +kernel
theorem dX11_does_140 : decode cX11_does 140 = .ok (.aload_n 0, 1) := by decide +kernel
theorem dX11_does_141 : decode cX11_does 141 = .ok (.getfield 22, 3) := by decide +kernel
theorem dX11_does_144 : decode cX11_does 144 = .ok (.iload 4, 2) := by decide +kernel
theorem dX11_does_146 : decode cX11_does 146 = .ok (.iconst 3, 1) := by decide +kernel
theorem dX11_does_147 : decode cX11_does 147 = .ok (.iadd, 1) := by decide +kernel
theorem dX11_does_148 : decode cX11_does 148 = .ok (.iaload, 1) := by decide +kernel
theorem dX11_does_149 : decode cX11_does 149 = .ok (.iconst 4, 1) := by decide +kernel
theorem dX11_does_150 : decode cX11_does 150 = .ok (.if_icmp .le 17, 3) := by decide +kernel
theorem dX11_does_153 : decode cX11_does 153 = .ok (.aload_n 0, 1) := by decide +kernel
theorem dX11_does_154 : decode cX11_does 154 = .ok (.getfield 22, 3) := by decide +kernel
theorem dX11_does_157 : decode cX11_does 157 = .ok (.iload 4, 2) := by decide +kernel
theorem dX11_does_159 : decode cX11_does 159 = .ok (.iconst 3, 1) := by decide +kernel
theorem dX11_does_160 : decode cX11_does 160 = .ok (.iadd, 1) := by decide +kernel
theorem dX11_does_161 : decode cX11_does 161 = .ok (.iaload, 1) := by decide +kernel
theorem dX11_does_162 : decode cX11_does 162 = .ok (.iconst 4, 1) := by decide +kernel
theorem dX11_does_163 : decode cX11_does 163 = .ok (.isub, 1) := by decide +kernel
theorem dX11_does_164 : decode cX11_does 164 = .ok (.goto 4, 3) := by decide +kernel
theorem dX11_does_167 : decode cX11_does 167 = .ok (.iconst 0, 1) := by decide +kernel
theorem dX11_does_168 : decode cX11_does 168 = .ok (.iastore, 1) := by decide +kernel
theorem dX11_does_169 : decode cX11_does 169 = .ok (.aload_n 0, 1) := by decide +kernel
theorem dX11_does_170 : decode cX11_does 170 = .ok (.getfield 22, 3) := by decide +kernel
theorem dX11_does_173 : decode cX11_does 173 = .ok (.iload 4, 2) := by decide +kernel
theorem dX11_does_175 : decode cX11_does 175 = .ok (.iconst 4, 1) := by decide +kernel
theorem dX11_does_176 : decode cX11_does 176 = .ok (.iadd, 1) := by decide +kernel
theorem dX11_does_177 : decode cX11_does 177 = .ok (.aload_n 0, 1) := by decide +kernel
theorem dX11_does_178 : decode cX11_does 178 = .ok (.getfield 22, 3) := by decide +kernel
theorem dX11_does_181 : decode cX11_does 181 = .ok (.iload 4, 2) := by decide +kernel
theorem dX11_does_183 : decode cX11_does 183 = .ok (.iconst 4, 1) := by decide +kernel
theorem dX11_does_184 : decode cX11_does 184 = .ok (.iadd, 1) := by decide +kernel
theorem dX11_does_185 : decode cX11_does 185 = .ok (.iaload, 1) := by decide +kernel
theorem dX11_does_186 : decode cX11_does 186 = .ok (.iconst 1, 1) := by decide +kernel
theorem dX11_does_187 : decode cX11_does 187 = .ok (.if_icmp .le 17, 3) := by decide +kernel
theorem dX11_does_190 : decode cX11_does 190 = .ok (.aload_n 0, 1) := by decide +kernel
theorem dX11_does_191 : decode cX11_does 191 = .ok (.getfield 22, 3) := by decide +kernel
theorem dX11_does_194 : decode cX11_does 194 = .ok (.iload 4, 2) := by decide +kernel
theorem dX11_does_196 : decode cX11_does 196 = .ok (.iconst 4, 1) := by decide +kernel
theorem dX11_does_197 : decode cX11_does 197 = .ok (.iadd, 1) := by decide +kernel
theorem dX11_does_198 : decode cX11_does 198 = .ok (.iaload, 1) := by decide +kernel
theorem dX11_does_199 : decode cX11_does 199 = .ok (.iconst 1, 1) := by decide +kernel
theorem dX11_does_200 : decode cX11_does 200 = .ok (.isub, 1) := by decide +kernel
theorem dX11_does_201 : decode cX11_does 201 = .ok (.goto 4, 3) := by decide +kernel
theorem dX11_does_204 : decode cX11_does 204 = .ok (.iconst 0, 1) := by decide +kernel
theorem dX11_does_205 : decode cX11_does 205 = .ok (.iastore, 1) := by decide +kernel
theorem dX11_does_206 : decode cX11_does 206 = .ok (.aload_n 0, 1) := by decide +kernel
theorem dX11_does_207 : decode cX11_does 207 = .ok (.getfield 22, 3) := by decide +kernel
theorem dX11_does_210 : decode cX11_does 210 = .ok (.iload 4, 2) := by decide +kernel
theorem dX11_does_212 : decode cX11_does 212 = .ok (.aload_n 0, 1) := by decide +kernel
theorem dX11_does_213 : decode cX11_does 213 = .ok (.getfield 22, 3) := by decide +kernel
theorem dX11_does_216 : decode cX11_does 216 = .ok (.iload 4, 2) := by decide +kernel
theorem dX11_does_218 : decode cX11_does 218 = .ok (.iaload, 1) := by decide +kernel
theorem dX11_does_219 : decode cX11_does 219 = .ok (.aload_n 0, 1) := by decide +kernel
theorem dX11_does_220 : decode cX11_does 220 = .ok (.getfield 16, 3) := by decide +kernel
theorem dX11_does_223 : decode cX11_does 223 = .ok (.iconst 5, 1) := by decide +kernel
theorem dX11_does_224 : decode cX11_does 224 = .ok (.iaload, 1) := by decide +kernel
theorem dX11_does_225 : decode cX11_does 225 = .ok (.if_icmp .ge 15, 3) := by decide +kernel
theorem dX11_does_228 : decode cX11_does 228 = .ok (.aload_n 0, 1) := by decide +kernel
theorem dX11_does_229 : decode cX11_does 229 = .ok (.getfield 22, 3) := by decide +kernel
theorem dX11_does_232 : decode cX11_does 232 = .ok (.iload 4, 2) := by decide +kernel
theorem dX11_does_234 : decode cX11_does 234 = .ok (.iaload, 1) := by decide +kernel
theorem dX11_does_235 : decode cX11_does 235 = .ok (.iconst 1, 1) := by decide +kernel
theorem dX11_does_236 : decode cX11_does 236 = .ok (.iadd, 1) := by decide +kernel
theorem dX11_does_237 : decode cX11_does 237 = .ok (.goto 10, 3) := by decide +kernel
theorem dX11_does_240 : decode cX11_does 240 = .ok (.aload_n 0, 1) := by decide +kernel
theorem dX11_does_241 : decode cX11_does 241 = .ok (.getfield 22, 3) := by decide +kernel
theorem dX11_does_244 : decode cX11_does 244 = .ok (.iload 4, 2) := by decide +kernel
theorem dX11_does_246 : decode cX11_does 246 = .ok (.iaload, 1) := by decide +kernel
theorem dX11_does_247 : decode cX11_does 247 = .ok (.iastore, 1) := by decide +kernel
theorem dX11_does_248 : decode cX11_does 248 = .ok (.iconst 0, 1) := by decide +kernel
theorem dX11_does_249 : decode cX11_does 249 = .ok (.ireturn, 1) := by decide +kernel
theorem dX11_does_250 : decode cX11_does 250 = .ok (.aload_n 0, 1) := by decide +kernel
theorem dX11_does_251 : decode cX11_does 251 = .ok (.getfield 22, 3) := by decide +kernel
theorem dX11_does_254 : decode cX11_does 254 = .ok (.iload 4, 2) := by decide +kernel
theorem dX11_does_256 : decode cX11_does 256 = .ok (.iconst 3, 1) := by decide +kernel
theorem dX11_does_257 : decode cX11_does 257 = .ok (.iadd, 1) := by decide +kernel
theorem dX11_does_258 : decode cX11_does 258 = .ok (.iaload, 1) := by decide +kernel
theorem dX11_does_259 : decode cX11_does 259 = .ok (.ifCond .le 7, 3) := by decide +kernel
theorem dX11_does_262 : decode cX11_does 262 = .ok (.iconst 5, 1) := by decide +kernel
theorem dX11_does_263 : decode cX11_does 263 = .ok (.goto 5, 3) := by decide +kernel
theorem dX11_does_266 : decode cX11_does 266 = .ok (.bipush 6, 2) := by decide +kernel
theorem dX11_does_268 : decode cX11_does 268 = .ok (.istore 6, 2) := by decide +kernel
theorem dX11_does_270 : decode cX11_does 270 = .ok (.aload_n 0, 1) := by decide +kernel
theorem dX11_does_271 : decode cX11_does 271 = .ok (.getfield 22, 3) := by decide +kernel
theorem dX11_does_274 : decode cX11_does 274 = .ok (.iload 4, 2) := by decide +kernel
theorem dX11_does_276 : decode cX11_does 276 = .ok (.iconst 3, 1) := by decide +kernel
theorem dX11_does_277 : decode cX11_does 277 = .ok (.iadd, 1) := by decide +kernel
theorem dX11_does_278 : decode cX11_does 278 = .ok (.iconst 0, 1) := by decide +kernel
theorem dX11_does_279 : decode cX11_does 279 = .ok (.iastore, 1) := by decide +kernel
theorem dX11_does_280 : decode cX11_does 280 = .ok (.iload 6, 2) := by decide +kernel
theorem dX11_does_282 : decode cX11_does 282 = .ok (.ireturn, 1) := by decide +kernel
theorem dX11_does_283 : decode cX11_does 283 = .ok (.aload_n 0, 1) := by decide +kernel
theorem dX11_does_284 : decode cX11_does 284 = .ok (.getfield 22, 3) := by decide +kernel
theorem dX11_does_287 : decode cX11_does 287 = .ok (.iload 4, 2) := by decide +kernel
theorem dX11_does_289 : decode cX11_does 289 = .ok (.iconst 4, 1) := by decide +kernel
theorem dX11_does_290 : decode cX11_does 290 = .ok (.iadd, 1) := by decide +kernel
theorem dX11_does_291 : decode cX11_does 291 = .ok (.aload_n 0, 1) := by decide +kernel
theorem dX11_does_292 : decode cX11_does 292 = .ok (.getfield 22, 3) := by decide +kernel
theorem dX11_does_295 : decode cX11_does 295 = .ok (.iload 4, 2) := by decide +kernel
theorem dX11_does_297 : decode cX11_does 297 = .ok (.iconst 4, 1) := by decide +kernel
theorem dX11_does_298 : decode cX11_does 298 = .ok (.iadd, 1) := by decide +kernel
theorem dX11_does_299 : decode cX11_does 299 = .ok (.iaload, 1) := by decide +kernel
theorem dX11_does_300 : decode cX11_does 300 = .ok (.bipush 14, 2) := by decide +kernel
theorem dX11_does_302 : decode cX11_does 302 = .ok (.if_icmp .le 8, 3) := by decide +kernel
theorem dX11_does_305 : decode cX11_does 305 = .ok (.bipush 20, 2) := by decide +kernel
theorem dX11_does_307 : decode cX11_does 307 = .ok (.goto 15, 3) := by decide +kernel
theorem dX11_does_310 : decode cX11_does 310 = .ok (.aload_n 0, 1) := by decide +kernel
theorem dX11_does_311 : decode cX11_does 311 = .ok (.getfield 22, 3) := by decide +kernel
theorem dX11_does_314 : decode cX11_does 314 = .ok (.iload 4, 2) := by decide +kernel
theorem dX11_does_316 : decode cX11_does 316 = .ok (.iconst 4, 1) := by decide +kernel
theorem dX11_does_317 : decode cX11_does 317 = .ok (.iadd, 1) := by decide +kernel
theorem dX11_does_318 : decode cX11_does 318 = .ok (.iaload, 1) := by decide +kernel
theorem dX11_does_319 : decode cX11_does 319 = .ok (.bipush 6, 2) := by decide +kernel
theorem dX11_does_321 : decode cX11_does 321 = .ok (.iadd, 1) := by decide +kernel
theorem dX11_does_322 : decode cX11_does 322 = .ok (.iastore, 1) := by decide +kernel
theorem dX11_does_323 : decode cX11_does 323 = .ok (.iconst 0, 1) := by decide +kernel
theorem dX11_does_324 : decode cX11_does 324 = .ok (.ireturn, 1) := by decide +kernel
theorem dX11_does_325 : decode cX11_does 325 = .ok (.aload_n 0, 1) := by decide +kernel
theorem dX11_does_326 : decode cX11_does 326 = .ok (.getfield 22, 3) := by decide +kernel
theorem dX11_does_329 : decode cX11_does 329 = .ok (.iload 4, 2) := by decide +kernel
theorem dX11_does_331 : decode cX11_does 331 = .ok (.iconst 5, 1) := by decide +kernel
theorem dX11_does_332 : decode cX11_does 332 = .ok (.iadd, 1) := by decide +kernel
theorem dX11_does_333 : decode cX11_does 333 = .ok (.iconst 5, 1) := by decide +kernel
theorem dX11_does_334 : decode cX11_does 334 = .ok (.iastore, 1) := by decide +kernel
theorem dX11_does_335 : decode cX11_does 335 = .ok (.iconst 0, 1) := by decide +kernel
theorem dX11_does_336 : decode cX11_does 336 = .ok (.ireturn, 1) := by decide +kernel
theorem dX11_does_337 : decode cX11_does 337 = .ok (.aload_n 0, 1) := by decide +kernel
theorem dX11_does_338 : decode cX11_does 338 = .ok (.getfield 22, 3) := by decide +kernel
theorem dX11_does_341 : decode cX11_does 341 = .ok (.iload 4, 2) := by decide +kernel
theorem dX11_does_343 : decode cX11_does 343 = .ok (.bipush 6, 2) := by decide +kernel
theorem dX11_does_345 : decode cX11_does 345 = .ok (.iadd, 1) := by decide +kernel
theorem dX11_does_346 : decode cX11_does 346 = .ok (.dup2, 1) := by decide +kernel
theorem dX11_does_347 : decode cX11_does 347 = .ok (.iaload, 1) := by decide +kernel
theorem dX11_does_348 : decode cX11_does 348 = .ok (.bipush 29, 2) := by decide +kernel
theorem dX11_does_350 : decode cX11_does 350 = .ok (.iand, 1) := by decide +kernel
theorem dX11_does_351 : decode cX11_does 351 = .ok (.iastore, 1) := by decide +kernel
theorem dX11_does_352 : decode cX11_does 352 = .ok (.iconst 0, 1) := by decide +kernel
theorem dX11_does_353 : decode cX11_does 353 = .ok (.ireturn, 1) := by decide +kernel
theorem dX11_does_354 : decode cX11_does 354 = .ok (.aload_n 0, 1) := by decide +kernel
theorem dX11_does_355 : decode cX11_does 355 = .ok (.getfield 22, 3) := by decide +kernel
theorem dX11_does_358 : decode cX11_does 358 = .ok (.iload 4, 2) := by decide +kernel
theorem dX11_does_360 : decode cX11_does 360 = .ok (.bipush 6, 2) := by decide +kernel
theorem dX11_does_362 : decode cX11_does 362 = .ok (.iadd, 1) := by decide +kernel
theorem dX11_does_363 : decode cX11_does 363 = .ok (.dup2, 1) := by decide +kernel
theorem dX11_does_364 : decode cX11_does 364 = .ok (.iaload, 1) := by decide +kernel
theorem dX11_does_365 : decode cX11_does 365 = .ok (.bipush 23, 2) := by decide +kernel
theorem dX11_does_367 : decode cX11_does 367 = .ok (.iand, 1) := by decide +kernel
theorem dX11_does_368 : decode cX11_does 368 = .ok (.iastore, 1) := by decide +kernel
theorem dX11_does_369 : decode cX11_does 369 = .ok (.iconst 0, 1) := by decide +kernel
theorem dX11_does_370 : decode cX11_does 370 = .ok (.ireturn, 1) := by decide +kernel
theorem dX11_does_371 : decode cX11_does 371 = .ok (.aload_n 0, 1) := by decide +kernel
theorem dX11_does_372 : decode cX11_does 372 = .ok (.getfield 22, 3) := by decide +kernel
theorem dX11_does_375 : decode cX11_does 375 = .ok (.iload 4, 2) := by decide +kernel
theorem dX11_does_377 : decode cX11_does 377 = .ok (.dup2, 1) := by decide +kernel
theorem dX11_does_378 : decode cX11_does 378 = .ok (.iaload, 1) := by decide +kernel
theorem dX11_does_379 : decode cX11_does 379 = .ok (.iload 5, 2) := by decide +kernel
theorem dX11_does_381 : decode cX11_does 381 = .ok (.isub, 1) := by decide +kernel
theorem dX11_does_382 : decode cX11_does 382 = .ok (.iastore, 1) := by decide +kernel
theorem dX11_does_383 : decode cX11_does 383 = .ok (.aload_n 0, 1) := by decide +kernel
theorem dX11_does_384 : decode cX11_does 384 = .ok (.iload 4, 2) := by decide +kernel
theorem dX11_does_386 : decode cX11_does 386 = .ok (.iload_n 3, 1) := by decide +kernel
theorem dX11_does_387 : decode cX11_does 387 = .ok (.invokevirtual 116, 3) := by decide +kernel
theorem dX11_does_390 : decode cX11_does 390 = .ok (.ireturn, 1) := by decide +kernel
theorem dX11_ahead_0 : decode cX11_ahead 0 = .ok (.iload_n 1, 1) := by decide +kernel
theorem dX11_ahead_1 : decode cX11_ahead 1 = .ok (.iconst 0, 1) := by decide +kernel
theorem dX11_ahead_2 : decode cX11_ahead 2 = .ok (.iconst 4, 1) := by decide +kernel
theorem dX11_ahead_3 : decode cX11_ahead 3 = .ok (.invokestatic 68, 3) := by decide +kernel
theorem dX11_ahead_6 : decode cX11_ahead 6 = .ok (.ifCond .eq 13, 3) := by decide +kernel
theorem dX11_ahead_9 : decode cX11_ahead 9 = .ok (.iload_n 2, 1) := by decide +kernel
theorem dX11_ahead_10 : decode cX11_ahead 10 = .ok (.iconst 0, 1) := by decide +kernel
theorem dX11_ahead_11 : decode cX11_ahead 11 = .ok (.bipush 16, 2) := by decide +kernel
theorem dX11_ahead_13 : decode cX11_ahead 13 = .ok (.invokestatic 68, 3) := by decide +kernel
theorem dX11_ahead_16 : decode cX11_ahead 16 = .ok (.ifCond .ne 6, 3) := by decide +kernel
theorem dX11_ahead_19 : decode cX11_ahead 19 = .ok (.bipush (-2), 2) := by decide +kernel
theorem dX11_ahead_21 : decode cX11_ahead 21 = .ok (.ireturn, 1) := by decide +kernel
theorem dX11_ahead_22 : decode cX11_ahead 22 = .ok (.aload_n 0, 1) := by decide +kernel
theorem dX11_ahead_23 : decode cX11_ahead 23 = .ok (.getfield 25, 3) := by decide +kernel
theorem dX11_ahead_26 : decode cX11_ahead 26 = .ok (.iload_n 1, 1) := by decide +kernel
theorem dX11_ahead_27 : decode cX11_ahead 27 = .ok (.iaload, 1) := by decide +kernel
theorem dX11_ahead_28 : decode cX11_ahead 28 = .ok (.istore_n 3, 1) := by decide +kernel
theorem dX11_ahead_29 : decode cX11_ahead 29 = .ok (.aload_n 0, 1) := by decide +kernel
theorem dX11_ahead_30 : decode cX11_ahead 30 = .ok (.getfield 25, 3) := by decide +kernel
theorem dX11_ahead_33 : decode cX11_ahead 33 = .ok (.iload_n 1, 1) := by decide +kernel
theorem dX11_ahead_34 : decode cX11_ahead 34 = .ok (.iload_n 2, 1) := by decide +kernel
theorem dX11_ahead_35 : decode cX11_ahead 35 = .ok (.iastore, 1) := by decide +kernel
theorem dX11_ahead_36 : decode cX11_ahead 36 = .ok (.iload_n 3, 1) := by decide +kernel
theorem dX11_ahead_37 : decode cX11_ahead 37 = .ok (.ireturn, 1) := by decide +kernel
theorem dX11_more_0 : decode cX11_more 0 = .ok (.iload_n 1, 1) := by decide +kernel
theorem dX11_more_1 : decode cX11_more 1 = .ok (.iconst 0, 1) := by decide +kernel
theorem dX11_more_2 : decode cX11_more 2 = .ok (.bipush 9, 2) := by decide +kernel
theorem dX11_more_4 : decode cX11_more 4 = .ok (.invokestatic 68, 3) := by decide +kernel
theorem dX11_more_7 : decode cX11_more 7 = .ok (.ifCond .eq 13, 3) := by decide +kernel
theorem dX11_more_10 : decode cX11_more 10 = .ok (.iload_n 2, 1) := by decide +kernel
theorem dX11_more_11 : decode cX11_more 11 = .ok (.iconst 0, 1) := by decide +kernel
theorem dX11_more_12 : decode cX11_more 12 = .ok (.bipush 6, 2) := by decide +kernel
theorem dX11_more_14 : decode cX11_more 14 = .ok (.invokestatic 68, 3) := by decide +kernel
theorem dX11_more_17 : decode cX11_more 17 = .ok (.ifCond .ne 6, 3) := by decide +kernel
theorem dX11_more_20 : decode cX11_more 20 = .ok (.bipush (-2), 2) := by decide +kernel
theorem dX11_more_22 : decode cX11_more 22 = .ok (.ireturn, 1) := by decide +kernel
theorem dX11_more_23 : decode cX11_more 23 = .ok (.aload_n 0, 1) := by decide +kernel
theorem dX11_more_24 : decode cX11_more 24 = .ok (.getfield 123, 3) := by decide +kernel
theorem dX11_more_27 : decode cX11_more 27 = .ok (.bipush 24, 2) := by decide +kernel
theorem dX11_more_29 : decode cX11_more 29 = .ok (.if_icmp .ne 6, 3) := by decide +kernel
theorem dX11_more_32 : decode cX11_more 32 = .ok (.bipush (-4), 2) := by decide +kernel
theorem dX11_more_34 : decode cX11_more 34 = .ok (.ireturn, 1) := by decide +kernel
theorem dX11_more_35 : decode cX11_more 35 = .ok (.aload_n 0, 1) := by decide +kernel
theorem dX11_more_36 : decode cX11_more 36 = .ok (.getfield 28, 3) := by decide +kernel
theorem dX11_more_39 : decode cX11_more 39 = .ok (.aload_n 0, 1) := by decide +kernel
theorem dX11_more_40 : decode cX11_more 40 = .ok (.getfield 123, 3) := by decide +kernel
theorem dX11_more_43 : decode cX11_more 43 = .ok (.iload_n 1, 1) := by decide +kernel
theorem dX11_more_44 : decode cX11_more 44 = .ok (.iastore, 1) := by decide +kernel
theorem dX11_more_45 : decode cX11_more 45 = .ok (.aload_n 0, 1) := by decide +kernel
theorem dX11_more_46 : decode cX11_more 46 = .ok (.getfield 31, 3) := by decide +kernel
theorem dX11_more_49 : decode cX11_more 49 = .ok (.aload_n 0, 1) := by decide +kernel
theorem dX11_more_50 : decode cX11_more 50 = .ok (.getfield 123, 3) := by decide +kernel
theorem dX11_more_53 : decode cX11_more 53 = .ok (.iload_n 2, 1) := by decide +kernel
theorem dX11_more_54 : decode cX11_more 54 = .ok (.iastore, 1) := by decide +kernel
theorem dX11_more_55 : decode cX11_more 55 = .ok (.aload_n 0, 1) := by decide +kernel
theorem dX11_more_56 : decode cX11_more 56 = .ok (.dup, 1) := by decide +kernel
theorem dX11_more_57 : decode cX11_more 57 = .ok (.getfield 123, 3) := by decide +kernel
theorem dX11_more_60 : decode cX11_more 60 = .ok (.iconst 1, 1) := by decide +kernel
theorem dX11_more_61 : decode cX11_more 61 = .ok (.iadd, 1) := by decide +kernel
theorem dX11_more_62 : decode cX11_more 62 = .ok (.putfield 123, 3) := by decide +kernel
theorem dX11_more_65 : decode cX11_more 65 = .ok (.aload_n 0, 1) := by decide +kernel
theorem dX11_more_66 : decode cX11_more 66 = .ok (.getfield 123, 3) := by decide +kernel
theorem dX11_more_69 : decode cX11_more 69 = .ok (.ireturn, 1) := by decide +kernel
theorem dX11_see_0 : decode cX11_see 0 = .ok (.aload_n 0, 1) := by decide +kernel
theorem dX11_see_1 : decode cX11_see 1 = .ok (.iload_n 1, 1) := by decide +kernel
theorem dX11_see_2 : decode cX11_see 2 = .ok (.iload_n 2, 1) := by decide +kernel
theorem dX11_see_3 : decode cX11_see 3 = .ok (.invokevirtual 126, 3) := by decide +kernel
theorem dX11_see_6 : decode cX11_see 6 = .ok (.ireturn, 1) := by decide +kernel
theorem dX11_isSheet_0 : decode cX11_isSheet 0 = .ok (.iload_n 0, 1) := by decide +kernel
theorem dX11_isSheet_1 : decode cX11_isSheet 1 = .ok (.iconst 0, 1) := by decide +kernel
theorem dX11_isSheet_2 : decode cX11_isSheet 2 = .ok (.iconst 3, 1) := by decide +kernel
theorem dX11_isSheet_3 : decode cX11_isSheet 3 = .ok (.invokestatic 68, 3) := by decide +kernel
theorem dX11_isSheet_6 : decode cX11_isSheet 6 = .ok (.ireturn, 1) := by decide +kernel
theorem dX11_meets_0 : decode cX11_meets 0 = .ok (.aload_n 0, 1) := by decide +kernel
theorem dX11_meets_1 : decode cX11_meets 1 = .ok (.iload_n 1, 1) := by decide +kernel
theorem dX11_meets_2 : decode cX11_meets 2 = .ok (.putfield 245, 3) := by decide +kernel
theorem dX11_meets_5 : decode cX11_meets 5 = .ok (.bipush (-10), 2) := by decide +kernel
theorem dX11_meets_7 : decode cX11_meets 7 = .ok (.iload_n 1, 1) := by decide +kernel
theorem dX11_meets_8 : decode cX11_meets 8 = .ok (.isub, 1) := by decide +kernel
theorem dX11_meets_9 : decode cX11_meets 9 = .ok (.ireturn, 1) := by decide +kernel
theorem dX11_read_0 : decode cX11_read 0 = .ok (.iload_n 1, 1) := by decide +kernel
theorem dX11_read_1 : decode cX11_read 1 = .ok (.invokestatic 129, 3) := by decide +kernel
theorem dX11_read_4 : decode cX11_read 4 = .ok (.ifCond .ne 6, 3) := by decide +kernel
theorem dX11_read_7 : decode cX11_read 7 = .ok (.bipush (-2), 2) := by decide +kernel
theorem dX11_read_9 : decode cX11_read 9 = .ok (.ireturn, 1) := by decide +kernel
theorem dX11_read_10 : decode cX11_read 10 = .ok (.aload_n 0, 1) := by decide +kernel
theorem dX11_read_11 : decode cX11_read 11 = .ok (.getfield 50, 3) := by decide +kernel
theorem dX11_read_14 : decode cX11_read 14 = .ok (.iload_n 1, 1) := by decide +kernel
theorem dX11_read_15 : decode cX11_read 15 = .ok (.baload, 1) := by decide +kernel
theorem dX11_read_16 : decode cX11_read 16 = .ok (.ifCond .ne 9, 3) := by decide +kernel
theorem dX11_read_19 : decode cX11_read 19 = .ok (.aload_n 0, 1) := by decide +kernel
theorem dX11_read_20 : decode cX11_read 20 = .ok (.iconst 1, 1) := by decide +kernel
theorem dX11_read_21 : decode cX11_read 21 = .ok (.invokevirtual 132, 3) := by decide +kernel
theorem dX11_read_24 : decode cX11_read 24 = .ok (.ireturn, 1) := by decide +kernel
theorem dX11_read_25 : decode cX11_read 25 = .ok (.iconst 0, 1) := by decide +kernel
theorem dX11_read_26 : decode cX11_read 26 = .ok (.istore_n 2, 1) := by decide +kernel
theorem dX11_read_27 : decode cX11_read 27 = .ok (.iconst 2, 1) := by decide +kernel
theorem dX11_read_28 : decode cX11_read 28 = .ok (.iload_n 2, 1) := by decide +kernel
theorem dX11_read_29 : decode cX11_read 29 = .ok (.imul, 1) := by decide +kernel
theorem dX11_read_30 : decode cX11_read 30 = .ok (.iconst 1, 1) := by decide +kernel
theorem dX11_read_31 : decode cX11_read 31 = .ok (.iadd, 1) := by decide +kernel
theorem dX11_read_32 : decode cX11_read 32 = .ok (.aload_n 0, 1) := by decide +kernel
theorem dX11_read_33 : decode cX11_read 33 = .ok (.getfield 57, 3) := by decide +kernel
theorem dX11_read_36 : decode cX11_read 36 = .ok (.iload_n 1, 1) := by decide +kernel
theorem dX11_read_37 : decode cX11_read 37 = .ok (.iaload, 1) := by decide +kernel
theorem dX11_read_38 : decode cX11_read 38 = .ok (.if_icmp .ge 46, 3) := by decide +kernel
theorem dX11_read_41 : decode cX11_read 41 = .ok (.aload_n 0, 1) := by decide +kernel
theorem dX11_read_42 : decode cX11_read 42 = .ok (.aload_n 0, 1) := by decide +kernel
theorem dX11_read_43 : decode cX11_read 43 = .ok (.getfield 60, 3) := by decide +kernel
theorem dX11_read_46 : decode cX11_read 46 = .ok (.bipush 48, 2) := by decide +kernel
theorem dX11_read_48 : decode cX11_read 48 = .ok (.iload_n 1, 1) := by decide +kernel
theorem dX11_read_49 : decode cX11_read 49 = .ok (.imul, 1) := by decide +kernel
theorem dX11_read_50 : decode cX11_read 50 = .ok (.iconst 2, 1) := by decide +kernel
theorem dX11_read_51 : decode cX11_read 51 = .ok (.iload_n 2, 1) := by decide +kernel
theorem dX11_read_52 : decode cX11_read 52 = .ok (.imul, 1) := by decide +kernel
theorem dX11_read_53 : decode cX11_read 53 = .ok (.iadd, 1) := by decide +kernel
theorem dX11_read_54 : decode cX11_read 54 = .ok (.iaload, 1) := by decide +kernel
theorem dX11_read_55 : decode cX11_read 55 = .ok (.aload_n 0, 1) := by decide +kernel
theorem dX11_read_56 : decode cX11_read 56 = .ok (.getfield 60, 3) := by decide +kernel
theorem dX11_read_59 : decode cX11_read 59 = .ok (.bipush 48, 2) := by decide +kernel
theorem dX11_read_61 : decode cX11_read 61 = .ok (.iload_n 1, 1) := by decide +kernel
theorem dX11_read_62 : decode cX11_read 62 = .ok (.imul, 1) := by decide +kernel
theorem dX11_read_63 : decode cX11_read 63 = .ok (.iconst 2, 1) := by decide +kernel
theorem dX11_read_64 : decode cX11_read 64 = .ok (.iload_n 2, 1) := by decide +kernel
theorem dX11_read_65 : decode cX11_read 65 = .ok (.imul, 1) := by decide +kernel
theorem dX11_read_66 : decode cX11_read 66 = .ok (.iadd, 1) := by decide +kernel
theorem dX11_read_67 : decode cX11_read 67 = .ok (.iconst 1, 1) := by decide +kernel
theorem dX11_read_68 : decode cX11_read 68 = .ok (.iadd, 1) := by decide +kernel
theorem dX11_read_69 : decode cX11_read 69 = .ok (.iaload, 1) := by decide +kernel
theorem dX11_read_70 : decode cX11_read 70 = .ok (.invokevirtual 126, 3) := by decide +kernel
theorem dX11_read_73 : decode cX11_read 73 = .ok (.ifCond .ge 5, 3) := by decide +kernel
theorem dX11_read_76 : decode cX11_read 76 = .ok (.iload_n 2, 1) := by decide +kernel
theorem dX11_read_77 : decode cX11_read 77 = .ok (.ireturn, 1) := by decide +kernel
theorem dX11_read_78 : decode cX11_read 78 = .ok (.iinc 2 1, 3) := by decide +kernel
theorem dX11_read_81 : decode cX11_read 81 = .ok (.goto (-54), 3) := by decide +kernel
theorem dX11_read_84 : decode cX11_read 84 = .ok (.iload_n 2, 1) := by decide +kernel
theorem dX11_read_85 : decode cX11_read 85 = .ok (.ireturn, 1) := by decide +kernel
