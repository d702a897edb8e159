theorem dX11_sumOf_0 : decode cX11_sumOf 0 = .ok (.iconst 0, 1) := by decide +kernel
theorem dX11_sumOf_1 : decode cX11_sumOf 1 = .ok (.istore_n 2, 1) := by decide +kernel
theorem dX11_sumOf_2 : decode cX11_sumOf 2 = .ok (.iconst 0, 1) := by decide +kernel
theorem dX11_sumOf_3 : decode cX11_sumOf 3 = .ok (.istore_n 3, 1) := by decide +kernel
theorem dX11_sumOf_4 : decode cX11_sumOf 4 = .ok (.iload_n 3, 1) := by decide +kernel
theorem dX11_sumOf_5 : decode cX11_sumOf 5 = .ok (.iconst 5, 1) := by decide +kernel
theorem dX11_sumOf_6 : decode cX11_sumOf 6 = .ok (.if_icmp .ge 23, 3) := by decide +kernel
theorem dX11_sumOf_9 : decode cX11_sumOf 9 = .ok (.iload_n 1, 1) := by decide +kernel
theorem dX11_sumOf_10 : decode cX11_sumOf 10 = .ok (.iconst 5, 1) := by decide +kernel
theorem dX11_sumOf_11 : decode cX11_sumOf 11 = .ok (.if_icmp .ne 18, 3) := by decide +kernel
theorem dX11_sumOf_14 : decode cX11_sumOf 14 = .ok (.iload_n 2, 1) := by decide +kernel
theorem dX11_sumOf_15 : decode cX11_sumOf 15 = .ok (.aload_n 0, 1) := by decide +kernel
theorem dX11_sumOf_16 : decode cX11_sumOf 16 = .ok (.getfield 25, 3) := by decide +kernel
theorem dX11_sumOf_19 : decode cX11_sumOf 19 = .ok (.iload_n 3, 1) := by decide +kernel
theorem dX11_sumOf_20 : decode cX11_sumOf 20 = .ok (.iaload, 1) := by decide +kernel
theorem dX11_sumOf_21 : decode cX11_sumOf 21 = .ok (.iadd, 1) := by decide +kernel
theorem dX11_sumOf_22 : decode cX11_sumOf 22 = .ok (.istore_n 2, 1) := by decide +kernel
theorem dX11_sumOf_23 : decode cX11_sumOf 23 = .ok (.iinc 3 1, 3) := by decide +kernel
theorem dX11_sumOf_26 : decode cX11_sumOf 26 = .ok (.goto (-22), 3) := by decide +kernel
theorem dX11_sumOf_29 : decode cX11_sumOf 29 = .ok (.iconst 0, 1) := by decide +kernel
theorem dX11_sumOf_30 : decode cX11_sumOf 30 = .ok (.istore_n 3, 1) := by decide +kernel
theorem dX11_sumOf_31 : decode cX11_sumOf 31 = .ok (.iload_n 3, 1) := by decide +kernel
theorem dX11_sumOf_32 : decode cX11_sumOf 32 = .ok (.aload_n 0, 1) := by decide +kernel
theorem dX11_sumOf_33 : decode cX11_sumOf 33 = .ok (.getfield 226, 3) := by decide +kernel
theorem dX11_sumOf_36 : decode cX11_sumOf 36 = .ok (.if_icmp .ge 24, 3) := by decide +kernel
theorem dX11_sumOf_39 : decode cX11_sumOf 39 = .ok (.iload_n 1, 1) := by decide +kernel
theorem dX11_sumOf_40 : decode cX11_sumOf 40 = .ok (.bipush 7, 2) := by decide +kernel
theorem dX11_sumOf_42 : decode cX11_sumOf 42 = .ok (.if_icmp .ne 18, 3) := by decide +kernel
theorem dX11_sumOf_45 : decode cX11_sumOf 45 = .ok (.iload_n 2, 1) := by decide +kernel
theorem dX11_sumOf_46 : decode cX11_sumOf 46 = .ok (.aload_n 0, 1) := by decide +kernel
theorem dX11_sumOf_47 : decode cX11_sumOf 47 = .ok (.getfield 47, 3) := by decide +kernel
theorem dX11_sumOf_50 : decode cX11_sumOf 50 = .ok (.iload_n 3, 1) := by decide +kernel
theorem dX11_sumOf_51 : decode cX11_sumOf 51 = .ok (.iaload, 1) := by decide +kernel
theorem dX11_sumOf_52 : decode cX11_sumOf 52 = .ok (.iadd, 1) := by decide +kernel
theorem dX11_sumOf_53 : decode cX11_sumOf 53 = .ok (.istore_n 2, 1) := by decide +kernel
theorem dX11_sumOf_54 : decode cX11_sumOf 54 = .ok (.iinc 3 1, 3) := by decide +kernel
theorem dX11_sumOf_57 : decode cX11_sumOf 57 = .ok (.goto (-26), 3) := by decide +kernel
theorem dX11_sumOf_60 : decode cX11_sumOf 60 = .ok (.iload_n 2, 1) := by decide +kernel
theorem dX11_sumOf_61 : decode cX11_sumOf 61 = .ok (.ireturn, 1) := by decide +kernel
theorem dX11_actsOfHabit_0 : decode cX11_actsOfHabit 0 = .ok (.aload_n 0, 1) := by decide +kernel
theorem dX11_actsOfHabit_1 : decode cX11_actsOfHabit 1 = .ok (.invokevirtual 107, 3) := by decide +kernel
theorem dX11_actsOfHabit_4 : decode cX11_actsOfHabit 4 = .ok (.iconst (-1), 1) := by decide +kernel
theorem dX11_actsOfHabit_5 : decode cX11_actsOfHabit 5 = .ok (.if_icmp .ne 10, 3) := by decide +kernel
theorem dX11_actsOfHabit_8 : decode cX11_actsOfHabit 8 = .ok (.aload_n 0, 1) := by decide +kernel
theorem dX11_actsOfHabit_9 : decode cX11_actsOfHabit 9 = .ok (.getfield 101, 3) := by decide +kernel
theorem dX11_actsOfHabit_12 : decode cX11_actsOfHabit 12 = .ok (.goto 4, 3) := by decide +kernel
theorem dX11_actsOfHabit_15 : decode cX11_actsOfHabit 15 = .ok (.iconst 0, 1) := by decide +kernel
theorem dX11_actsOfHabit_16 : decode cX11_actsOfHabit 16 = .ok (.ireturn, 1) := by decide +kernel
theorem dX11_count_0 : decode cX11_count 0 = .ok (.iload_n 1, 1) := by decide +kernel
theorem dX11_count_1 : decode cX11_count 1 = .ok (.tableswitch 89 0 8 #[51, 51, 58, 63, 68, 73, 79, 73, 84], 51) := by decide +kernel
theorem dX11_count_52 : decode cX11_count 52 = .ok (.aload_n 0, 1) := by decide +kernel
theorem dX11_count_53 : decode cX11_count 53 = .ok (.getfield 13, 3) := by decide +kernel
theorem dX11_count_56 : decode cX11_count 56 = .ok (.iload_n 1, 1) := by decide +kernel
theorem dX11_count_57 : decode cX11_count 57 = .ok (.iaload, 1) := by decide +kernel
theorem dX11_count_58 : decode cX11_count 58 = .ok (.ireturn, 1) := by decide +kernel
theorem dX11_count_59 : decode cX11_count 59 = .ok (.aload_n 0, 1) := by decide +kernel
theorem dX11_count_60 : decode cX11_count 60 = .ok (.getfield 123, 3) := by decide +kernel
theorem dX11_count_63 : decode cX11_count 63 = .ok (.ireturn, 1) := by decide +kernel
theorem dX11_count_64 : decode cX11_count 64 = .ok (.aload_n 0, 1) := by decide +kernel
theorem dX11_count_65 : decode cX11_count 65 = .ok (.invokevirtual 154, 3) := by decide +kernel
theorem dX11_count_68 : decode cX11_count 68 = .ok (.ireturn, 1) := by decide +kernel
theorem dX11_count_69 : decode cX11_count 69 = .ok (.aload_n 0, 1) := by decide +kernel
theorem dX11_count_70 : decode cX11_count 70 = .ok (.getfield 226, 3) := by decide +kernel
theorem dX11_count_73 : decode cX11_count 73 = .ok (.ireturn, 1) := by decide +kernel
theorem dX11_count_74 : decode cX11_count 74 = .ok (.aload_n 0, 1) := by decide +kernel
theorem dX11_count_75 : decode cX11_count 75 = .ok (.iload_n 1, 1) := by decide +kernel
theorem dX11_count_76 : decode cX11_count 76 = .ok (.invokevirtual 255, 3) := by decide +kernel
theorem dX11_count_79 : decode cX11_count 79 = .ok (.ireturn, 1) := by decide +kernel
theorem dX11_count_80 : decode cX11_count 80 = .ok (.aload_n 0, 1) := by decide +kernel
theorem dX11_count_81 : decode cX11_count 81 = .ok (.invokevirtual 258, 3) := by decide +kernel
theorem dX11_count_84 : decode cX11_count 84 = .ok (.ireturn, 1) := by decide +kernel
theorem dX11_count_85 : decode cX11_count 85 = .ok (.aload_n 0, 1) := by decide +kernel
theorem dX11_count_86 : decode cX11_count 86 = .ok (.getfield 245, 3) := by decide +kernel
theorem dX11_count_89 : decode cX11_count 89 = .ok (.ireturn, 1) := by decide +kernel
theorem dX11_count_90 : decode cX11_count 90 = .ok (.bipush (-2), 2) := by decide +kernel
theorem dX11_count_92 : decode cX11_count 92 = .ok (.ireturn, 1) := by decide +kernel
theorem dX11_digest_0 : decode cX11_digest 0 = .ok (.ldc2_w 261, 3) := by decide +kernel
theorem dX11_digest_3 : decode cX11_digest 3 = .ok (.lstore_n 1, 1) := by decide +kernel
theorem dX11_digest_4 : decode cX11_digest 4 = .ok (.iconst 0, 1) := by decide +kernel
theorem dX11_digest_5 : decode cX11_digest 5 = .ok (.istore_n 3, 1) := by decide +kernel
theorem dX11_digest_6 : decode cX11_digest 6 = .ok (.iload_n 3, 1) := by decide +kernel
theorem dX11_digest_7 : decode cX11_digest 7 = .ok (.bipush 8, 2) := by decide +kernel
theorem dX11_digest_9 : decode cX11_digest 9 = .ok (.if_icmp .ge 22, 3) := by decide +kernel
theorem dX11_digest_12 : decode cX11_digest 12 = .ok (.ldc2_w 263, 3) := by decide +kernel
theorem dX11_digest_15 : decode cX11_digest 15 = .ok (.lload_n 1, 1) := by decide +kernel
theorem dX11_digest_16 : decode cX11_digest 16 = .ok (.lmul, 1) := by decide +kernel
theorem dX11_digest_17 : decode cX11_digest 17 = .ok (.aload_n 0, 1) := by decide +kernel
theorem dX11_digest_18 : decode cX11_digest 18 = .ok (.iload_n 3, 1) := by decide +kernel
theorem dX11_digest_19 : decode cX11_digest 19 = .ok (.invokevirtual 265, 3) := by decide +kernel
theorem dX11_digest_22 : decode cX11_digest 22 = .ok (.i2l, 1) := by decide +kernel
theorem dX11_digest_23 : decode cX11_digest 23 = .ok (.ladd, 1) := by decide +kernel
theorem dX11_digest_24 : decode cX11_digest 24 = .ok (.lstore_n 1, 1) := by decide +kernel
theorem dX11_digest_25 : decode cX11_digest 25 = .ok (.iinc 3 1, 3) := by decide +kernel
theorem dX11_digest_28 : decode cX11_digest 28 = .ok (.goto (-22), 3) := by decide +kernel
theorem dX11_digest_31 : decode cX11_digest 31 = .ok (.ldc2_w 263, 3) := by decide +kernel
theorem dX11_digest_34 : decode cX11_digest 34 = .ok (.lload_n 1, 1) := by decide +kernel
theorem dX11_digest_35 : decode cX11_digest 35 = .ok (.lmul, 1) := by decide +kernel
theorem dX11_digest_36 : decode cX11_digest 36 = .ok (.aload_n 0, 1) := by decide +kernel
theorem dX11_digest_37 : decode cX11_digest 37 = .ok (.invokevirtual 104, 3) := by decide +kernel
theorem dX11_digest_40 : decode cX11_digest 40 = .ok (.i2l, 1) := by decide +kernel
theorem dX11_digest_41 : decode cX11_digest 41 = .ok (.ladd, 1) := by decide +kernel
theorem dX11_digest_42 : decode cX11_digest 42 = .ok (.lstore_n 1, 1) := by decide +kernel
theorem dX11_digest_43 : decode cX11_digest 43 = .ok (.ldc2_w 263, 3) := by decide +kernel
theorem dX11_digest_46 : decode cX11_digest 46 = .ok (.lload_n 1, 1) := by decide +kernel
theorem dX11_digest_47 : decode cX11_digest 47 = .ok (.lmul, 1) := by decide +kernel
theorem dX11_digest_48 : decode cX11_digest 48 = .ok (.aload_n 0, 1) := by decide +kernel
theorem dX11_digest_49 : decode cX11_digest 49 = .ok (.invokevirtual 107, 3) := by decide +kernel
theorem dX11_digest_52 : decode cX11_digest 52 = .ok (.i2l, 1) := by decide +kernel
theorem dX11_digest_53 : decode cX11_digest 53 = .ok (.ladd, 1) := by decide +kernel
theorem dX11_digest_54 : decode cX11_digest 54 = .ok (.lstore_n 1, 1) := by decide +kernel
theorem dX11_digest_55 : decode cX11_digest 55 = .ok (.iconst 0, 1) := by decide +kernel
theorem dX11_digest_56 : decode cX11_digest 56 = .ok (.istore_n 3, 1) := by decide +kernel
theorem dX11_digest_57 : decode cX11_digest 57 = .ok (.iload_n 3, 1) := by decide +kernel
theorem dX11_digest_58 : decode cX11_digest 58 = .ok (.bipush 7, 2) := by decide +kernel
theorem dX11_digest_60 : decode cX11_digest 60 = .ok (.if_icmp .ge 22, 3) := by decide +kernel
theorem dX11_digest_63 : decode cX11_digest 63 = .ok (.ldc2_w 263, 3) := by decide +kernel
theorem dX11_digest_66 : decode cX11_digest 66 = .ok (.lload_n 1, 1) := by decide +kernel
theorem dX11_digest_67 : decode cX11_digest 67 = .ok (.lmul, 1) := by decide +kernel
theorem dX11_digest_68 : decode cX11_digest 68 = .ok (.aload_n 0, 1) := by decide +kernel
theorem dX11_digest_69 : decode cX11_digest 69 = .ok (.iload_n 3, 1) := by decide +kernel
theorem dX11_digest_70 : decode cX11_digest 70 = .ok (.invokevirtual 110, 3) := by decide +kernel
theorem dX11_digest_73 : decode cX11_digest 73 = .ok (.i2l, 1) := by decide +kernel
theorem dX11_digest_74 : decode cX11_digest 74 = .ok (.ladd, 1) := by decide +kernel
theorem dX11_digest_75 : decode cX11_digest 75 = .ok (.lstore_n 1, 1) := by decide +kernel
theorem dX11_digest_76 : decode cX11_digest 76 = .ok (.iinc 3 1, 3) := by decide +kernel
theorem dX11_digest_79 : decode cX11_digest 79 = .ok (.goto (-22), 3) := by decide +kernel
theorem dX11_digest_82 : decode cX11_digest 82 = .ok (.iconst 0, 1) := by decide +kernel
theorem dX11_digest_83 : decode cX11_digest 83 = .ok (.istore_n 3, 1) := by decide +kernel
theorem dX11_digest_84 : decode cX11_digest 84 = .ok (.iload_n 3, 1) := by decide +kernel
theorem dX11_digest_85 : decode cX11_digest 85 = .ok (.iconst 5, 1) := by decide +kernel
theorem dX11_digest_86 : decode cX11_digest 86 = .ok (.if_icmp .ge 35, 3) := by decide +kernel
theorem dX11_digest_89 : decode cX11_digest 89 = .ok (.ldc2_w 263, 3) := by decide +kernel
theorem dX11_digest_92 : decode cX11_digest 92 = .ok (.lload_n 1, 1) := by decide +kernel
theorem dX11_digest_93 : decode cX11_digest 93 = .ok (.lmul, 1) := by decide +kernel
theorem dX11_digest_94 : decode cX11_digest 94 = .ok (.aload_n 0, 1) := by decide +kernel
theorem dX11_digest_95 : decode cX11_digest 95 = .ok (.iload_n 3, 1) := by decide +kernel
theorem dX11_digest_96 : decode cX11_digest 96 = .ok (.iconst 0, 1) := by decide +kernel
theorem dX11_digest_97 : decode cX11_digest 97 = .ok (.invokevirtual 167, 3) := by decide +kernel
theorem dX11_digest_100 : decode cX11_digest 100 = .ok (.ladd, 1) := by decide +kernel
theorem dX11_digest_101 : decode cX11_digest 101 = .ok (.lstore_n 1, 1) := by decide +kernel
theorem dX11_digest_102 : decode cX11_digest 102 = .ok (.ldc2_w 263, 3) := by decide +kernel
theorem dX11_digest_105 : decode cX11_digest 105 = .ok (.lload_n 1, 1) := by decide +kernel
theorem dX11_digest_106 : decode cX11_digest 106 = .ok (.lmul, 1) := by decide +kernel
theorem dX11_digest_107 : decode cX11_digest 107 = .ok (.aload_n 0, 1) := by decide +kernel
theorem dX11_digest_108 : decode cX11_digest 108 = .ok (.iload_n 3, 1) := by decide +kernel
theorem dX11_digest_109 : decode cX11_digest 109 = .ok (.iconst 1, 1) := by decide +kernel
theorem dX11_digest_110 : decode cX11_digest 110 = .ok (.invokevirtual 167, 3) := by decide +kernel
theorem dX11_digest_113 : decode cX11_digest 113 = .ok (.ladd, 1) := by decide +kernel
theorem dX11_digest_114 : decode cX11_digest 114 = .ok (.lstore_n 1, 1) := by decide +kernel
theorem dX11_digest_115 : decode cX11_digest 115 = .ok (.iinc 3 1, 3) := by decide +kernel
theorem dX11_digest_118 : decode cX11_digest 118 = .ok (.goto (-34), 3) := by decide +kernel
theorem dX11_digest_121 : decode cX11_digest 121 = .ok (.iconst 0, 1) := by decide +kernel
theorem dX11_digest_122 : decode cX11_digest 122 = .ok (.istore_n 3, 1) := by decide +kernel
theorem dX11_digest_123 : decode cX11_digest 123 = .ok (.iload_n 3, 1) := by decide +kernel
theorem dX11_digest_124 : decode cX11_digest 124 = .ok (.bipush 10, 2) := by decide +kernel
theorem dX11_digest_126 : decode cX11_digest 126 = .ok (.if_icmp .ge 37, 3) := by decide +kernel
theorem dX11_digest_129 : decode cX11_digest 129 = .ok (.ldc2_w 263, 3) := by decide +kernel
theorem dX11_digest_132 : decode cX11_digest 132 = .ok (.lload_n 1, 1) := by decide +kernel
theorem dX11_digest_133 : decode cX11_digest 133 = .ok (.lmul, 1) := by decide +kernel
theorem dX11_digest_134 : decode cX11_digest 134 = .ok (.aload_n 0, 1) := by decide +kernel
theorem dX11_digest_135 : decode cX11_digest 135 = .ok (.iload_n 3, 1) := by decide +kernel
theorem dX11_digest_136 : decode cX11_digest 136 = .ok (.iconst 2, 1) := by decide +kernel
theorem dX11_digest_137 : decode cX11_digest 137 = .ok (.iconst 0, 1) := by decide +kernel
theorem dX11_digest_138 : decode cX11_digest 138 = .ok (.invokevirtual 190, 3) := by decide +kernel
theorem dX11_digest_141 : decode cX11_digest 141 = .ok (.ladd, 1) := by decide +kernel
theorem dX11_digest_142 : decode cX11_digest 142 = .ok (.lstore_n 1, 1) := by decide +kernel
theorem dX11_digest_143 : decode cX11_digest 143 = .ok (.ldc2_w 263, 3) := by decide +kernel
theorem dX11_digest_146 : decode cX11_digest 146 = .ok (.lload_n 1, 1) := by decide +kernel
theorem dX11_digest_147 : decode cX11_digest 147 = .ok (.lmul, 1) := by decide +kernel
theorem dX11_digest_148 : decode cX11_digest 148 = .ok (.aload_n 0, 1) := by decide +kernel
theorem dX11_digest_149 : decode cX11_digest 149 = .ok (.iload_n 3, 1) := by decide +kernel
theorem dX11_digest_150 : decode cX11_digest 150 = .ok (.iconst 2, 1) := by decide +kernel
theorem dX11_digest_151 : decode cX11_digest 151 = .ok (.iconst 1, 1) := by decide +kernel
theorem dX11_digest_152 : decode cX11_digest 152 = .ok (.invokevirtual 190, 3) := by decide +kernel
theorem dX11_digest_155 : decode cX11_digest 155 = .ok (.ladd, 1) := by decide +kernel
theorem dX11_digest_156 : decode cX11_digest 156 = .ok (.lstore_n 1, 1) := by decide +kernel
theorem dX11_digest_157 : decode cX11_digest 157 = .ok (.iinc 3 1, 3) := by decide +kernel
theorem dX11_digest_160 : decode cX11_digest 160 = .ok (.goto (-37), 3) := by decide +kernel
theorem dX11_digest_163 : decode cX11_digest 163 = .ok (.iconst 0, 1) := by decide +kernel
theorem dX11_digest_164 : decode cX11_digest 164 = .ok (.istore_n 3, 1) := by decide +kernel
theorem dX11_digest_165 : decode cX11_digest 165 = .ok (.iload_n 3, 1) := by decide +kernel
theorem dX11_digest_166 : decode cX11_digest 166 = .ok (.bipush 10, 2) := by decide +kernel
theorem dX11_digest_168 : decode cX11_digest 168 = .ok (.if_icmp .ge 22, 3) := by decide +kernel
theorem dX11_digest_171 : decode cX11_digest 171 = .ok (.ldc2_w 263, 3) := by decide +kernel
theorem dX11_digest_174 : decode cX11_digest 174 = .ok (.lload_n 1, 1) := by decide +kernel
theorem dX11_digest_175 : decode cX11_digest 175 = .ok (.lmul, 1) := by decide +kernel
theorem dX11_digest_176 : decode cX11_digest 176 = .ok (.aload_n 0, 1) := by decide +kernel
theorem dX11_digest_177 : decode cX11_digest 177 = .ok (.iload_n 3, 1) := by decide +kernel
theorem dX11_digest_178 : decode cX11_digest 178 = .ok (.invokevirtual 194, 3) := by decide +kernel
theorem dX11_digest_181 : decode cX11_digest 181 = .ok (.i2l, 1) := by decide +kernel
theorem dX11_digest_182 : decode cX11_digest 182 = .ok (.ladd, 1) := by decide +kernel
theorem dX11_digest_183 : decode cX11_digest 183 = .ok (.lstore_n 1, 1) := by decide +kernel
theorem dX11_digest_184 : decode cX11_digest 184 = .ok (.iinc 3 1, 3) := by decide +kernel
theorem dX11_digest_187 : decode cX11_digest 187 = .ok (.goto (-22), 3) := by decide +kernel
theorem dX11_digest_190 : decode cX11_digest 190 = .ok (.iconst 0, 1) := by decide +kernel
theorem dX11_digest_191 : decode cX11_digest 191 = .ok (.istore_n 3, 1) := by decide +kernel
theorem dX11_digest_192 : decode cX11_digest 192 = .ok (.iload_n 3, 1) := by decide +kernel
theorem dX11_digest_193 : decode cX11_digest 193 = .ok (.iconst 3, 1) := by decide +kernel
theorem dX11_digest_194 : decode cX11_digest 194 = .ok (.if_icmp .ge 22, 3) := by decide +kernel
theorem dX11_digest_197 : decode cX11_digest 197 = .ok (.ldc2_w 263, 3) := by decide +kernel
theorem dX11_digest_200 : decode cX11_digest 200 = .ok (.lload_n 1, 1) := by decide +kernel
theorem dX11_digest_201 : decode cX11_digest 201 = .ok (.lmul, 1) := by decide +kernel
theorem dX11_digest_202 : decode cX11_digest 202 = .ok (.aload_n 0, 1) := by decide +kernel
theorem dX11_digest_203 : decode cX11_digest 203 = .ok (.iconst 2, 1) := by decide +kernel
theorem dX11_digest_204 : decode cX11_digest 204 = .ok (.iload_n 3, 1) := by decide +kernel
theorem dX11_digest_205 : decode cX11_digest 205 = .ok (.invokevirtual 203, 3) := by decide +kernel
theorem dX11_digest_208 : decode cX11_digest 208 = .ok (.ladd, 1) := by decide +kernel
theorem dX11_digest_209 : decode cX11_digest 209 = .ok (.lstore_n 1, 1) := by decide +kernel
theorem dX11_digest_210 : decode cX11_digest 210 = .ok (.iinc 3 1, 3) := by decide +kernel
theorem dX11_digest_213 : decode cX11_digest 213 = .ok (.goto (-21), 3) := by decide +kernel
theorem dX11_digest_216 : decode cX11_digest 216 = .ok (.iconst 0, 1) := by decide +kernel
theorem dX11_digest_217 : decode cX11_digest 217 = .ok (.istore_n 3, 1) := by decide +kernel
theorem dX11_digest_218 : decode cX11_digest 218 = .ok (.iload_n 3, 1) := by decide +kernel
theorem dX11_digest_219 : decode cX11_digest 219 = .ok (.iconst 2, 1) := by decide +kernel
theorem dX11_digest_220 : decode cX11_digest 220 = .ok (.if_icmp .ge 35, 3) := by decide +kernel
theorem dX11_digest_223 : decode cX11_digest 223 = .ok (.ldc2_w 263, 3) := by decide +kernel
theorem dX11_digest_226 : decode cX11_digest 226 = .ok (.lload_n 1, 1) := by decide +kernel
theorem dX11_digest_227 : decode cX11_digest 227 = .ok (.lmul, 1) := by decide +kernel
theorem dX11_digest_228 : decode cX11_digest 228 = .ok (.aload_n 0, 1) := by decide +kernel
theorem dX11_digest_229 : decode cX11_digest 229 = .ok (.iload_n 3, 1) := by decide +kernel
theorem dX11_digest_230 : decode cX11_digest 230 = .ok (.iconst 0, 1) := by decide +kernel
theorem dX11_digest_231 : decode cX11_digest 231 = .ok (.invokevirtual 214, 3) := by decide +kernel
theorem dX11_digest_234 : decode cX11_digest 234 = .ok (.ladd, 1) := by decide +kernel
theorem dX11_digest_235 : decode cX11_digest 235 = .ok (.lstore_n 1, 1) := by decide +kernel
theorem dX11_digest_236 : decode cX11_digest 236 = .ok (.ldc2_w 263, 3) := by decide +kernel
theorem dX11_digest_239 : decode cX11_digest 239 = .ok (.lload_n 1, 1) := by decide +kernel
theorem dX11_digest_240 : decode cX11_digest 240 = .ok (.lmul, 1) := by decide +kernel
theorem dX11_digest_241 : decode cX11_digest 241 = .ok (.aload_n 0, 1) := by decide +kernel
theorem dX11_digest_242 : decode cX11_digest 242 = .ok (.iload_n 3, 1) := by decide +kernel
theorem dX11_digest_243 : decode cX11_digest 243 = .ok (.iconst 1, 1) := by decide +kernel
theorem dX11_digest_244 : decode cX11_digest 244 = .ok (.invokevirtual 214, 3) := by decide +kernel
theorem dX11_digest_247 : decode cX11_digest 247 = .ok (.ladd, 1) := by decide +kernel
theorem dX11_digest_248 : decode cX11_digest 248 = .ok (.lstore_n 1, 1) := by decide +kernel
theorem dX11_digest_249 : decode cX11_digest 249 = .ok (.iinc 3 1, 3) := by decide +kernel
theorem dX11_digest_252 : decode cX11_digest 252 = .ok (.goto (-34), 3) := by decide +kernel
theorem dX11_digest_255 : decode cX11_digest 255 = .ok (.ldc2_w 263, 3) := by decide +kernel
theorem dX11_digest_258 : decode cX11_digest 258 = .ok (.lload_n 1, 1) := by decide +kernel
theorem dX11_digest_259 : decode cX11_digest 259 = .ok (.lmul, 1) := by decide +kernel
theorem dX11_digest_260 : decode cX11_digest 260 = .ok (.aload_n 0, 1) := by decide +kernel
theorem dX11_digest_261 : decode cX11_digest 261 = .ok (.iconst (-1), 1) := by decide +kernel
theorem dX11_digest_262 : decode cX11_digest 262 = .ok (.invokevirtual 217, 3) := by decide +kernel
theorem dX11_digest_265 : decode cX11_digest 265 = .ok (.i2l, 1) := by decide +kernel
theorem dX11_digest_266 : decode cX11_digest 266 = .ok (.ladd, 1) := by decide +kernel
theorem dX11_digest_267 : decode cX11_digest 267 = .ok (.lstore_n 1, 1) := by decide +kernel
theorem dX11_digest_268 : decode cX11_digest 268 = .ok (.ldc2_w 263, 3) := by decide +kernel
theorem dX11_digest_271 : decode cX11_digest 271 = .ok (.lload_n 1, 1) := by decide +kernel
theorem dX11_digest_272 : decode cX11_digest 272 = .ok (.lmul, 1) := by decide +kernel
theorem dX11_digest_273 : decode cX11_digest 273 = .ok (.aload_n 0, 1) := by decide +kernel
theorem dX11_digest_274 : decode cX11_digest 274 = .ok (.iconst 2, 1) := by decide +kernel
theorem dX11_digest_275 : decode cX11_digest 275 = .ok (.invokevirtual 220, 3) := by decide +kernel
theorem dX11_digest_278 : decode cX11_digest 278 = .ok (.ladd, 1) := by decide +kernel
theorem dX11_digest_279 : decode cX11_digest 279 = .ok (.lstore_n 1, 1) := by decide +kernel
theorem dX11_digest_280 : decode cX11_digest 280 = .ok (.iconst 0, 1) := by decide +kernel
theorem dX11_digest_281 : decode cX11_digest 281 = .ok (.istore_n 3, 1) := by decide +kernel
theorem dX11_digest_282 : decode cX11_digest 282 = .ok (.iload_n 3, 1) := by decide +kernel
theorem dX11_digest_283 : decode cX11_digest 283 = .ok (.iconst 3, 1) := by decide +kernel
theorem dX11_digest_284 : decode cX11_digest 284 = .ok (.if_icmp .ge 58, 3) := by decide +kernel
theorem dX11_digest_287 : decode cX11_digest 287 = .ok (.iconst 0, 1) := by decide +kernel
theorem dX11_digest_288 : decode cX11_digest 288 = .ok (.istore 4, 2) := by decide +kernel
theorem dX11_digest_290 : decode cX11_digest 290 = .ok (.iload 4, 2) := by decide +kernel
theorem dX11_digest_292 : decode cX11_digest 292 = .ok (.bipush 8, 2) := by decide +kernel
theorem dX11_digest_294 : decode cX11_digest 294 = .ok (.if_icmp .ge 42, 3) := by decide +kernel
theorem dX11_digest_297 : decode cX11_digest 297 = .ok (.ldc2_w 263, 3) := by decide +kernel
theorem dX11_digest_300 : decode cX11_digest 300 = .ok (.lload_n 1, 1) := by decide +kernel
theorem dX11_digest_301 : decode cX11_digest 301 = .ok (.lmul, 1) := by decide +kernel
theorem dX11_digest_302 : decode cX11_digest 302 = .ok (.aload_n 0, 1) := by decide +kernel
theorem dX11_digest_303 : decode cX11_digest 303 = .ok (.iload_n 3, 1) := by decide +kernel
theorem dX11_digest_304 : decode cX11_digest 304 = .ok (.ifCond .ne 7, 3) := by decide +kernel
theorem dX11_digest_307 : decode cX11_digest 307 = .ok (.iconst 0, 1) := by decide +kernel
theorem dX11_digest_308 : decode cX11_digest 308 = .ok (.goto 14, 3) := by decide +kernel
theorem dX11_digest_311 : decode cX11_digest 311 = .ok (.iload_n 3, 1) := by decide +kernel
theorem dX11_digest_312 : decode cX11_digest 312 = .ok (.iconst 1, 1) := by decide +kernel
theorem dX11_digest_313 : decode cX11_digest 313 = .ok (.if_icmp .ne 7, 3) := by decide +kernel
theorem dX11_digest_316 : decode cX11_digest 316 = .ok (.iconst 3, 1) := by decide +kernel
theorem dX11_digest_317 : decode cX11_digest 317 = .ok (.goto 5, 3) := by decide +kernel
theorem dX11_digest_320 : decode cX11_digest 320 = .ok (.bipush 31, 2) := by decide +kernel
theorem dX11_digest_322 : decode cX11_digest 322 = .ok (.iload 4, 2) := by decide +kernel
theorem dX11_digest_324 : decode cX11_digest 324 = .ok (.invokevirtual 171, 3) := by decide +kernel
theorem dX11_digest_327 : decode cX11_digest 327 = .ok (.i2l, 1) := by decide +kernel
theorem dX11_digest_328 : decode cX11_digest 328 = .ok (.ladd, 1) := by decide +kernel
theorem dX11_digest_329 : decode cX11_digest 329 = .ok (.lstore_n 1, 1) := by decide +kernel
theorem dX11_digest_330 : decode cX11_digest 330 = .ok (.iinc 4 1, 3) := by decide +kernel
theorem dX11_digest_333 : decode cX11_digest 333 = .ok (.goto (-43), 3) := by decide +kernel
theorem dX11_digest_336 : decode cX11_digest 336 = .ok (.iinc 3 1, 3) := by decide +kernel
theorem dX11_digest_339 : decode cX11_digest 339 = .ok (.goto (-57), 3) := by decide +kernel
theorem dX11_digest_342 : decode cX11_digest 342 = .ok (.ldc2_w 263, 3) := by decide +kernel
theorem dX11_digest_345 : decode cX11_digest 345 = .ok (.lload_n 1, 1) := by decide +kernel
theorem dX11_digest_346 : decode cX11_digest 346 = .ok (.lmul, 1) := by decide +kernel
theorem dX11_digest_347 : decode cX11_digest 347 = .ok (.aload_n 0, 1) := by decide +kernel
theorem dX11_digest_348 : decode cX11_digest 348 = .ok (.iconst 0, 1) := by decide +kernel
theorem dX11_digest_349 : decode cX11_digest 349 = .ok (.iconst 3, 1) := by decide +kernel
theorem dX11_digest_350 : decode cX11_digest 350 = .ok (.invokevirtual 223, 3) := by decide +kernel
theorem dX11_digest_353 : decode cX11_digest 353 = .ok (.i2l, 1) := by decide +kernel
theorem dX11_digest_354 : decode cX11_digest 354 = .ok (.ladd, 1) := by decide +kernel
theorem dX11_digest_355 : decode cX11_digest 355 = .ok (.lstore_n 1, 1) := by decide +kernel
theorem dX11_digest_356 : decode cX11_digest 356 = .ok (.iconst 0, 1) := by decide +kernel
theorem dX11_digest_357 : decode cX11_digest 357 = .ok (.istore_n 3, 1) := by decide +kernel
theorem dX11_digest_358 : decode cX11_digest 358 = .ok (.iload_n 3, 1) := by decide +kernel
theorem dX11_digest_359 : decode cX11_digest 359 = .ok (.iconst 4, 1) := by decide +kernel
theorem dX11_digest_360 : decode cX11_digest 360 = .ok (.if_icmp .ge 22, 3) := by decide +kernel
theorem dX11_digest_363 : decode cX11_digest 363 = .ok (.ldc2_w 263, 3) := by decide +kernel
theorem dX11_digest_366 : decode cX11_digest 366 = .ok (.lload_n 1, 1) := by decide +kernel
theorem dX11_digest_367 : decode cX11_digest 367 = .ok (.lmul, 1) := by decide +kernel
theorem dX11_digest_368 : decode cX11_digest 368 = .ok (.aload_n 0, 1) := by decide +kernel
theorem dX11_digest_369 : decode cX11_digest 369 = .ok (.iload_n 3, 1) := by decide +kernel
theorem dX11_digest_370 : decode cX11_digest 370 = .ok (.invokevirtual 242, 3) := by decide +kernel
theorem dX11_digest_373 : decode cX11_digest 373 = .ok (.i2l, 1) := by decide +kernel
theorem dX11_digest_374 : decode cX11_digest 374 = .ok (.ladd, 1) := by decide +kernel
theorem dX11_digest_375 : decode cX11_digest 375 = .ok (.lstore_n 1, 1) := by decide +kernel
theorem dX11_digest_376 : decode cX11_digest 376 = .ok (.iinc 3 1, 3) := by decide +kernel
theorem dX11_digest_379 : decode cX11_digest 379 = .ok (.goto (-21), 3) := by decide +kernel
theorem dX11_digest_382 : decode cX11_digest 382 = .ok (.lload_n 1, 1) := by decide +kernel
theorem dX11_digest_383 : decode cX11_digest 383 = .ok (.lreturn, 1) := by decide +kernel
