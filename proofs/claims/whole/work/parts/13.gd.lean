theorem dX10_isLaw_0 : decode cX10_isLaw 0 = .ok (.iload_n 0, 1) := by decide +kernel
theorem dX10_isLaw_1 : decode cX10_isLaw 1 = .ok (.bipush 10, 2) := by decide +kernel
theorem dX10_isLaw_3 : decode cX10_isLaw 3 = .ok (.invokestatic 84, 3) := by decide +kernel
theorem dX10_isLaw_6 : decode cX10_isLaw 6 = .ok (.ifCond .eq 24, 3) := by decide +kernel
theorem dX10_isLaw_9 : decode cX10_isLaw 9 = .ok (.iload_n 1, 1) := by decide +kernel
theorem dX10_isLaw_10 : decode cX10_isLaw 10 = .ok (.bipush 10, 2) := by decide +kernel
theorem dX10_isLaw_12 : decode cX10_isLaw 12 = .ok (.invokestatic 84, 3) := by decide +kernel
theorem dX10_isLaw_15 : decode cX10_isLaw 15 = .ok (.ifCond .eq 15, 3) := by decide +kernel
theorem dX10_isLaw_18 : decode cX10_isLaw 18 = .ok (.iload_n 2, 1) := by decide +kernel
theorem dX10_isLaw_19 : decode cX10_isLaw 19 = .ok (.iconst 4, 1) := by decide +kernel
theorem dX10_isLaw_20 : decode cX10_isLaw 20 = .ok (.invokestatic 84, 3) := by decide +kernel
theorem dX10_isLaw_23 : decode cX10_isLaw 23 = .ok (.ifCond .eq 7, 3) := by decide +kernel
theorem dX10_isLaw_26 : decode cX10_isLaw 26 = .ok (.iconst 1, 1) := by decide +kernel
theorem dX10_isLaw_27 : decode cX10_isLaw 27 = .ok (.goto 4, 3) := by decide +kernel
theorem dX10_isLaw_30 : decode cX10_isLaw 30 = .ok (.iconst 0, 1) := by decide +kernel
theorem dX10_isLaw_31 : decode cX10_isLaw 31 = .ok (.ireturn, 1) := by decide +kernel
theorem dX10_says_0 : decode cX10_says 0 = .ok (.iload_n 1, 1) := by decide +kernel
theorem dX10_says_1 : decode cX10_says 1 = .ok (.iload_n 2, 1) := by decide +kernel
theorem dX10_says_2 : decode cX10_says 2 = .ok (.iload_n 3, 1) := by decide +kernel
theorem dX10_says_3 : decode cX10_says 3 = .ok (.invokestatic 238, 3) := by decide +kernel
theorem dX10_says_6 : decode cX10_says 6 = .ok (.ifCond .eq 26, 3) := by decide +kernel
theorem dX10_says_9 : decode cX10_says 9 = .ok (.iload 4, 2) := by decide +kernel
theorem dX10_says_11 : decode cX10_says 11 = .ok (.iload 5, 2) := by decide +kernel
theorem dX10_says_13 : decode cX10_says 13 = .ok (.invokestatic 231, 3) := by decide +kernel
theorem dX10_says_16 : decode cX10_says 16 = .ok (.ifCond .eq 16, 3) := by decide +kernel
theorem dX10_says_19 : decode cX10_says 19 = .ok (.iload_n 1, 1) := by decide +kernel
theorem dX10_says_20 : decode cX10_says 20 = .ok (.iload_n 2, 1) := by decide +kernel
theorem dX10_says_21 : decode cX10_says 21 = .ok (.iload_n 3, 1) := by decide +kernel
theorem dX10_says_22 : decode cX10_says 22 = .ok (.iload 4, 2) := by decide +kernel
theorem dX10_says_24 : decode cX10_says 24 = .ok (.iload 5, 2) := by decide +kernel
theorem dX10_says_26 : decode cX10_says 26 = .ok (.invokestatic 241, 3) := by decide +kernel
theorem dX10_says_29 : decode cX10_says 29 = .ok (.goto 5, 3) := by decide +kernel
theorem dX10_says_32 : decode cX10_says 32 = .ok (.bipush (-2), 2) := by decide +kernel
theorem dX10_says_34 : decode cX10_says 34 = .ok (.ireturn, 1) := by decide +kernel
theorem dX10_misses_0 : decode cX10_misses 0 = .ok (.iload_n 1, 1) := by decide +kernel
theorem dX10_misses_1 : decode cX10_misses 1 = .ok (.iload_n 2, 1) := by decide +kernel
theorem dX10_misses_2 : decode cX10_misses 2 = .ok (.iload_n 3, 1) := by decide +kernel
theorem dX10_misses_3 : decode cX10_misses 3 = .ok (.invokestatic 238, 3) := by decide +kernel
theorem dX10_misses_6 : decode cX10_misses 6 = .ok (.ifCond .eq 16, 3) := by decide +kernel
theorem dX10_misses_9 : decode cX10_misses 9 = .ok (.aload_n 0, 1) := by decide +kernel
theorem dX10_misses_10 : decode cX10_misses 10 = .ok (.getfield 73, 3) := by decide +kernel
theorem dX10_misses_13 : decode cX10_misses 13 = .ok (.iload_n 1, 1) := by decide +kernel
theorem dX10_misses_14 : decode cX10_misses 14 = .ok (.iload_n 2, 1) := by decide +kernel
theorem dX10_misses_15 : decode cX10_misses 15 = .ok (.iload_n 3, 1) := by decide +kernel
theorem dX10_misses_16 : decode cX10_misses 16 = .ok (.invokevirtual 245, 3) := by decide +kernel
theorem dX10_misses_19 : decode cX10_misses 19 = .ok (.goto 5, 3) := by decide +kernel
theorem dX10_misses_22 : decode cX10_misses 22 = .ok (.bipush (-2), 2) := by decide +kernel
theorem dX10_misses_24 : decode cX10_misses 24 = .ok (.ireturn, 1) := by decide +kernel
theorem dX10_fits_0 : decode cX10_fits 0 = .ok (.iload_n 1, 1) := by decide +kernel
theorem dX10_fits_1 : decode cX10_fits 1 = .ok (.iconst 4, 1) := by decide +kernel
theorem dX10_fits_2 : decode cX10_fits 2 = .ok (.invokestatic 84, 3) := by decide +kernel
theorem dX10_fits_5 : decode cX10_fits 5 = .ok (.ifCond .ne 6, 3) := by decide +kernel
theorem dX10_fits_8 : decode cX10_fits 8 = .ok (.bipush (-2), 2) := by decide +kernel
theorem dX10_fits_10 : decode cX10_fits 10 = .ok (.ireturn, 1) := by decide +kernel
theorem dX10_fits_11 : decode cX10_fits 11 = .ok (.aload_n 0, 1) := by decide +kernel
theorem dX10_fits_12 : decode cX10_fits 12 = .ok (.getfield 73, 3) := by decide +kernel
theorem dX10_fits_15 : decode cX10_fits 15 = .ok (.getfield 237, 3) := by decide +kernel
theorem dX10_fits_18 : decode cX10_fits 18 = .ok (.ifCond .gt 6, 3) := by decide +kernel
theorem dX10_fits_21 : decode cX10_fits 21 = .ok (.bipush (-3), 2) := by decide +kernel
theorem dX10_fits_23 : decode cX10_fits 23 = .ok (.ireturn, 1) := by decide +kernel
theorem dX10_fits_24 : decode cX10_fits 24 = .ok (.aload_n 0, 1) := by decide +kernel
theorem dX10_fits_25 : decode cX10_fits 25 = .ok (.getfield 73, 3) := by decide +kernel
theorem dX10_fits_28 : decode cX10_fits 28 = .ok (.invokevirtual 249, 3) := by decide +kernel
theorem dX10_fits_31 : decode cX10_fits 31 = .ok (.aload_n 0, 1) := by decide +kernel
theorem dX10_fits_32 : decode cX10_fits 32 = .ok (.getfield 73, 3) := by decide +kernel
theorem dX10_fits_35 : decode cX10_fits 35 = .ok (.getfield 252, 3) := by decide +kernel
theorem dX10_fits_38 : decode cX10_fits 38 = .ok (.iload_n 1, 1) := by decide +kernel
theorem dX10_fits_39 : decode cX10_fits 39 = .ok (.iaload, 1) := by decide +kernel
theorem dX10_fits_40 : decode cX10_fits 40 = .ok (.ireturn, 1) := by decide +kernel
theorem dX10_sheet_0 : decode cX10_sheet 0 = .ok (.iload_n 1, 1) := by decide +kernel
theorem dX10_sheet_1 : decode cX10_sheet 1 = .ok (.iconst 4, 1) := by decide +kernel
theorem dX10_sheet_2 : decode cX10_sheet 2 = .ok (.invokestatic 84, 3) := by decide +kernel
theorem dX10_sheet_5 : decode cX10_sheet 5 = .ok (.ifCond .eq 17, 3) := by decide +kernel
theorem dX10_sheet_8 : decode cX10_sheet 8 = .ok (.iload_n 2, 1) := by decide +kernel
theorem dX10_sheet_9 : decode cX10_sheet 9 = .ok (.iconst 3, 1) := by decide +kernel
theorem dX10_sheet_10 : decode cX10_sheet 10 = .ok (.invokestatic 84, 3) := by decide +kernel
theorem dX10_sheet_13 : decode cX10_sheet 13 = .ok (.ifCond .eq 9, 3) := by decide +kernel
theorem dX10_sheet_16 : decode cX10_sheet 16 = .ok (.iload_n 3, 1) := by decide +kernel
theorem dX10_sheet_17 : decode cX10_sheet 17 = .ok (.bipush 48, 2) := by decide +kernel
theorem dX10_sheet_19 : decode cX10_sheet 19 = .ok (.if_icmp .le 6, 3) := by decide +kernel
theorem dX10_sheet_22 : decode cX10_sheet 22 = .ok (.bipush (-2), 2) := by decide +kernel
theorem dX10_sheet_24 : decode cX10_sheet 24 = .ok (.ireturn, 1) := by decide +kernel
theorem dX10_sheet_25 : decode cX10_sheet 25 = .ok (.iload_n 3, 1) := by decide +kernel
theorem dX10_sheet_26 : decode cX10_sheet 26 = .ok (.ifCond .ge 9, 3) := by decide +kernel
theorem dX10_sheet_29 : decode cX10_sheet 29 = .ok (.aload_n 0, 1) := by decide +kernel
theorem dX10_sheet_30 : decode cX10_sheet 30 = .ok (.iconst 5, 1) := by decide +kernel
theorem dX10_sheet_31 : decode cX10_sheet 31 = .ok (.invokevirtual 125, 3) := by decide +kernel
theorem dX10_sheet_34 : decode cX10_sheet 34 = .ok (.ireturn, 1) := by decide +kernel
theorem dX10_sheet_35 : decode cX10_sheet 35 = .ok (.aload_n 0, 1) := by decide +kernel
theorem dX10_sheet_36 : decode cX10_sheet 36 = .ok (.getfield 79, 3) := by decide +kernel
theorem dX10_sheet_39 : decode cX10_sheet 39 = .ok (.iload_n 1, 1) := by decide +kernel
theorem dX10_sheet_40 : decode cX10_sheet 40 = .ok (.aaload, 1) := by decide +kernel
theorem dX10_sheet_41 : decode cX10_sheet 41 = .ok (.iload_n 2, 1) := by decide +kernel
theorem dX10_sheet_42 : decode cX10_sheet 42 = .ok (.iload_n 3, 1) := by decide +kernel
theorem dX10_sheet_43 : decode cX10_sheet 43 = .ok (.invokevirtual 255, 3) := by decide +kernel
theorem dX10_sheet_46 : decode cX10_sheet 46 = .ok (.iload_n 3, 1) := by decide +kernel
theorem dX10_sheet_47 : decode cX10_sheet 47 = .ok (.ireturn, 1) := by decide +kernel
theorem dX10_lose_0 : decode cX10_lose 0 = .ok (.iload_n 1, 1) := by decide +kernel
theorem dX10_lose_1 : decode cX10_lose 1 = .ok (.iconst 4, 1) := by decide +kernel
theorem dX10_lose_2 : decode cX10_lose 2 = .ok (.invokestatic 84, 3) := by decide +kernel
theorem dX10_lose_5 : decode cX10_lose 5 = .ok (.ifCond .ne 6, 3) := by decide +kernel
theorem dX10_lose_8 : decode cX10_lose 8 = .ok (.bipush (-2), 2) := by decide +kernel
theorem dX10_lose_10 : decode cX10_lose 10 = .ok (.ireturn, 1) := by decide +kernel
theorem dX10_lose_11 : decode cX10_lose 11 = .ok (.aload_n 0, 1) := by decide +kernel
theorem dX10_lose_12 : decode cX10_lose 12 = .ok (.getfield 79, 3) := by decide +kernel
theorem dX10_lose_15 : decode cX10_lose 15 = .ok (.iload_n 1, 1) := by decide +kernel
theorem dX10_lose_16 : decode cX10_lose 16 = .ok (.aaload, 1) := by decide +kernel
theorem dX10_lose_17 : decode cX10_lose 17 = .ok (.invokevirtual 121, 3) := by decide +kernel
theorem dX10_lose_20 : decode cX10_lose 20 = .ok (.ifCond .eq 9, 3) := by decide +kernel
theorem dX10_lose_23 : decode cX10_lose 23 = .ok (.aload_n 0, 1) := by decide +kernel
theorem dX10_lose_24 : decode cX10_lose 24 = .ok (.iconst 1, 1) := by decide +kernel
theorem dX10_lose_25 : decode cX10_lose 25 = .ok (.invokevirtual 125, 3) := by decide +kernel
theorem dX10_lose_28 : decode cX10_lose 28 = .ok (.ireturn, 1) := by decide +kernel
theorem dX10_lose_29 : decode cX10_lose 29 = .ok (.aload_n 0, 1) := by decide +kernel
theorem dX10_lose_30 : decode cX10_lose 30 = .ok (.getfield 79, 3) := by decide +kernel
theorem dX10_lose_33 : decode cX10_lose 33 = .ok (.iload_n 1, 1) := by decide +kernel
theorem dX10_lose_34 : decode cX10_lose 34 = .ok (.aaload, 1) := by decide +kernel
theorem dX10_lose_35 : decode cX10_lose 35 = .ok (.getfield 129, 3) := by decide +kernel
theorem dX10_lose_38 : decode cX10_lose 38 = .ok (.istore_n 2, 1) := by decide +kernel
theorem dX10_lose_39 : decode cX10_lose 39 = .ok (.aload_n 0, 1) := by decide +kernel
theorem dX10_lose_40 : decode cX10_lose 40 = .ok (.getfield 79, 3) := by decide +kernel
theorem dX10_lose_43 : decode cX10_lose 43 = .ok (.iload_n 1, 1) := by decide +kernel
theorem dX10_lose_44 : decode cX10_lose 44 = .ok (.aaload, 1) := by decide +kernel
theorem dX10_lose_45 : decode cX10_lose 45 = .ok (.iconst (-1), 1) := by decide +kernel
theorem dX10_lose_46 : decode cX10_lose 46 = .ok (.iconst 0, 1) := by decide +kernel
theorem dX10_lose_47 : decode cX10_lose 47 = .ok (.invokevirtual 255, 3) := by decide +kernel
theorem dX10_lose_50 : decode cX10_lose 50 = .ok (.iload_n 2, 1) := by decide +kernel
theorem dX10_lose_51 : decode cX10_lose 51 = .ok (.ireturn, 1) := by decide +kernel
theorem dX10_put_0 : decode cX10_put 0 = .ok (.iload_n 1, 1) := by decide +kernel
theorem dX10_put_1 : decode cX10_put 1 = .ok (.iconst 4, 1) := by decide +kernel
theorem dX10_put_2 : decode cX10_put 2 = .ok (.invokestatic 84, 3) := by decide +kernel
theorem dX10_put_5 : decode cX10_put 5 = .ok (.ifCond .eq 11, 3) := by decide +kernel
theorem dX10_put_8 : decode cX10_put 8 = .ok (.iload_n 2, 1) := by decide +kernel
theorem dX10_put_9 : decode cX10_put 9 = .ok (.iconst 3, 1) := by decide +kernel
theorem dX10_put_10 : decode cX10_put 10 = .ok (.invokestatic 84, 3) := by decide +kernel
theorem dX10_put_13 : decode cX10_put 13 = .ok (.ifCond .ne 6, 3) := by decide +kernel
theorem dX10_put_16 : decode cX10_put 16 = .ok (.bipush (-2), 2) := by decide +kernel
theorem dX10_put_18 : decode cX10_put 18 = .ok (.ireturn, 1) := by decide +kernel
theorem dX10_put_19 : decode cX10_put 19 = .ok (.aload_n 0, 1) := by decide +kernel
theorem dX10_put_20 : decode cX10_put 20 = .ok (.getfield 79, 3) := by decide +kernel
theorem dX10_put_23 : decode cX10_put 23 = .ok (.iload_n 1, 1) := by decide +kernel
theorem dX10_put_24 : decode cX10_put 24 = .ok (.aaload, 1) := by decide +kernel
theorem dX10_put_25 : decode cX10_put 25 = .ok (.iload_n 2, 1) := by decide +kernel
theorem dX10_put_26 : decode cX10_put 26 = .ok (.iload_n 3, 1) := by decide +kernel
theorem dX10_put_27 : decode cX10_put 27 = .ok (.invokevirtual 259, 3) := by decide +kernel
theorem dX10_put_30 : decode cX10_put 30 = .ok (.istore 5, 2) := by decide +kernel
theorem dX10_put_32 : decode cX10_put 32 = .ok (.iload 5, 2) := by decide +kernel
theorem dX10_put_34 : decode cX10_put 34 = .ok (.ifCond .eq 10, 3) := by decide +kernel
theorem dX10_put_37 : decode cX10_put 37 = .ok (.aload_n 0, 1) := by decide +kernel
theorem dX10_put_38 : decode cX10_put 38 = .ok (.iload 5, 2) := by decide +kernel
theorem dX10_put_40 : decode cX10_put 40 = .ok (.invokevirtual 125, 3) := by decide +kernel
theorem dX10_put_43 : decode cX10_put 43 = .ok (.ireturn, 1) := by decide +kernel
theorem dX10_put_44 : decode cX10_put 44 = .ok (.aload_n 0, 1) := by decide +kernel
theorem dX10_put_45 : decode cX10_put 45 = .ok (.getfield 79, 3) := by decide +kernel
theorem dX10_put_48 : decode cX10_put 48 = .ok (.iload_n 1, 1) := by decide +kernel
theorem dX10_put_49 : decode cX10_put 49 = .ok (.aaload, 1) := by decide +kernel
theorem dX10_put_50 : decode cX10_put 50 = .ok (.iload_n 3, 1) := by decide +kernel
theorem dX10_put_51 : decode cX10_put 51 = .ok (.iload 4, 2) := by decide +kernel
theorem dX10_put_53 : decode cX10_put 53 = .ok (.invokevirtual 262, 3) := by decide +kernel
theorem dX10_put_56 : decode cX10_put 56 = .ok (.iconst 1, 1) := by decide +kernel
theorem dX10_put_57 : decode cX10_put 57 = .ok (.ireturn, 1) := by decide +kernel
theorem dX10_get_0 : decode cX10_get 0 = .ok (.iload_n 1, 1) := by decide +kernel
theorem dX10_get_1 : decode cX10_get 1 = .ok (.iconst 4, 1) := by decide +kernel
theorem dX10_get_2 : decode cX10_get 2 = .ok (.invokestatic 84, 3) := by decide +kernel
theorem dX10_get_5 : decode cX10_get 5 = .ok (.ifCond .eq 11, 3) := by decide +kernel
theorem dX10_get_8 : decode cX10_get 8 = .ok (.iload_n 2, 1) := by decide +kernel
theorem dX10_get_9 : decode cX10_get 9 = .ok (.iconst 3, 1) := by decide +kernel
theorem dX10_get_10 : decode cX10_get 10 = .ok (.invokestatic 84, 3) := by decide +kernel
theorem dX10_get_13 : decode cX10_get 13 = .ok (.ifCond .ne 7, 3) := by decide +kernel
theorem dX10_get_16 : decode cX10_get 16 = .ok (.ldc_w 265, 3) := by decide +kernel
theorem dX10_get_19 : decode cX10_get 19 = .ok (.ireturn, 1) := by decide +kernel
theorem dX10_get_20 : decode cX10_get 20 = .ok (.aload_n 0, 1) := by decide +kernel
theorem dX10_get_21 : decode cX10_get 21 = .ok (.getfield 79, 3) := by decide +kernel
theorem dX10_get_24 : decode cX10_get 24 = .ok (.iload_n 1, 1) := by decide +kernel
theorem dX10_get_25 : decode cX10_get 25 = .ok (.aaload, 1) := by decide +kernel
theorem dX10_get_26 : decode cX10_get 26 = .ok (.iload_n 2, 1) := by decide +kernel
theorem dX10_get_27 : decode cX10_get 27 = .ok (.iload_n 3, 1) := by decide +kernel
theorem dX10_get_28 : decode cX10_get 28 = .ok (.invokevirtual 259, 3) := by decide +kernel
theorem dX10_get_31 : decode cX10_get 31 = .ok (.istore 4, 2) := by decide +kernel
theorem dX10_get_33 : decode cX10_get 33 = .ok (.iload 4, 2) := by decide +kernel
theorem dX10_get_35 : decode cX10_get 35 = .ok (.ifCond .eq 13, 3) := by decide +kernel
theorem dX10_get_38 : decode cX10_get 38 = .ok (.aload_n 0, 1) := by decide +kernel
theorem dX10_get_39 : decode cX10_get 39 = .ok (.iload 4, 2) := by decide +kernel
theorem dX10_get_41 : decode cX10_get 41 = .ok (.putfield 266, 3) := by decide +kernel
theorem dX10_get_44 : decode cX10_get 44 = .ok (.ldc_w 265, 3) := by decide +kernel
theorem dX10_get_47 : decode cX10_get 47 = .ok (.ireturn, 1) := by decide +kernel
theorem dX10_get_48 : decode cX10_get 48 = .ok (.aload_n 0, 1) := by decide +kernel
theorem dX10_get_49 : decode cX10_get 49 = .ok (.getfield 79, 3) := by decide +kernel
theorem dX10_get_52 : decode cX10_get 52 = .ok (.iload_n 1, 1) := by decide +kernel
theorem dX10_get_53 : decode cX10_get 53 = .ok (.aaload, 1) := by decide +kernel
theorem dX10_get_54 : decode cX10_get 54 = .ok (.iload_n 3, 1) := by decide +kernel
theorem dX10_get_55 : decode cX10_get 55 = .ok (.invokevirtual 130, 3) := by decide +kernel
theorem dX10_get_58 : decode cX10_get 58 = .ok (.ireturn, 1) := by decide +kernel
theorem dX10_copy_0 : decode cX10_copy 0 = .ok (.iload_n 1, 1) := by decide +kernel
theorem dX10_copy_1 : decode cX10_copy 1 = .ok (.iconst 4, 1) := by decide +kernel
theorem dX10_copy_2 : decode cX10_copy 2 = .ok (.invokestatic 84, 3) := by decide +kernel
theorem dX10_copy_5 : decode cX10_copy 5 = .ok (.ifCond .eq 11, 3) := by decide +kernel
theorem dX10_copy_8 : decode cX10_copy 8 = .ok (.iload_n 3, 1) := by decide +kernel
theorem dX10_copy_9 : decode cX10_copy 9 = .ok (.iconst 4, 1) := by decide +kernel
theorem dX10_copy_10 : decode cX10_copy 10 = .ok (.invokestatic 84, 3) := by decide +kernel
theorem dX10_copy_13 : decode cX10_copy 13 = .ok (.ifCond .ne 6, 3) := by decide +kernel
theorem dX10_copy_16 : decode cX10_copy 16 = .ok (.bipush (-2), 2) := by decide +kernel
theorem dX10_copy_18 : decode cX10_copy 18 = .ok (.ireturn, 1) := by decide +kernel
theorem dX10_copy_19 : decode cX10_copy 19 = .ok (.aload_n 0, 1) := by decide +kernel
theorem dX10_copy_20 : decode cX10_copy 20 = .ok (.getfield 79, 3) := by decide +kernel
theorem dX10_copy_23 : decode cX10_copy 23 = .ok (.iload_n 1, 1) := by decide +kernel
theorem dX10_copy_24 : decode cX10_copy 24 = .ok (.aaload, 1) := by decide +kernel
theorem dX10_copy_25 : decode cX10_copy 25 = .ok (.astore 6, 2) := by decide +kernel
theorem dX10_copy_27 : decode cX10_copy 27 = .ok (.aload_n 0, 1) := by decide +kernel
theorem dX10_copy_28 : decode cX10_copy 28 = .ok (.getfield 79, 3) := by decide +kernel
theorem dX10_copy_31 : decode cX10_copy 31 = .ok (.iload_n 3, 1) := by decide +kernel
theorem dX10_copy_32 : decode cX10_copy 32 = .ok (.aaload, 1) := by decide +kernel
theorem dX10_copy_33 : decode cX10_copy 33 = .ok (.astore 7, 2) := by decide +kernel
theorem dX10_copy_35 : decode cX10_copy 35 = .ok (.aload 6, 2) := by decide +kernel
theorem dX10_copy_37 : decode cX10_copy 37 = .ok (.invokevirtual 121, 3) := by decide +kernel
theorem dX10_copy_40 : decode cX10_copy 40 = .ok (.ifCond .ne 11, 3) := by decide +kernel
theorem dX10_copy_43 : decode cX10_copy 43 = .ok (.aload 7, 2) := by decide +kernel
theorem dX10_copy_45 : decode cX10_copy 45 = .ok (.invokevirtual 121, 3) := by decide +kernel
theorem dX10_copy_48 : decode cX10_copy 48 = .ok (.ifCond .eq 9, 3) := by decide +kernel
theorem dX10_copy_51 : decode cX10_copy 51 = .ok (.aload_n 0, 1) := by decide +kernel
theorem dX10_copy_52 : decode cX10_copy 52 = .ok (.iconst 1, 1) := by decide +kernel
theorem dX10_copy_53 : decode cX10_copy 53 = .ok (.invokevirtual 125, 3) := by decide +kernel
theorem dX10_copy_56 : decode cX10_copy 56 = .ok (.ireturn, 1) := by decide +kernel
theorem dX10_copy_57 : decode cX10_copy 57 = .ok (.aload 6, 2) := by decide +kernel
theorem dX10_copy_59 : decode cX10_copy 59 = .ok (.getfield 269, 3) := by decide +kernel
theorem dX10_copy_62 : decode cX10_copy 62 = .ok (.aload 7, 2) := by decide +kernel
theorem dX10_copy_64 : decode cX10_copy 64 = .ok (.getfield 269, 3) := by decide +kernel
theorem dX10_copy_67 : decode cX10_copy 67 = .ok (.if_icmp .eq 9, 3) := by decide +kernel
theorem dX10_copy_70 : decode cX10_copy 70 = .ok (.aload_n 0, 1) := by decide +kernel
theorem dX10_copy_71 : decode cX10_copy 71 = .ok (.iconst 4, 1) := by decide +kernel
theorem dX10_copy_72 : decode cX10_copy 72 = .ok (.invokevirtual 125, 3) := by decide +kernel
theorem dX10_copy_75 : decode cX10_copy 75 = .ok (.ireturn, 1) := by decide +kernel
theorem dX10_copy_76 : decode cX10_copy 76 = .ok (.aload 6, 2) := by decide +kernel
theorem dX10_copy_78 : decode cX10_copy 78 = .ok (.iload_n 2, 1) := by decide +kernel
theorem dX10_copy_79 : decode cX10_copy 79 = .ok (.iload 5, 2) := by decide +kernel
theorem dX10_copy_81 : decode cX10_copy 81 = .ok (.invokevirtual 272, 3) := by decide +kernel
theorem dX10_copy_84 : decode cX10_copy 84 = .ok (.ifCond .eq 15, 3) := by decide +kernel
theorem dX10_copy_87 : decode cX10_copy 87 = .ok (.aload 7, 2) := by decide +kernel
theorem dX10_copy_89 : decode cX10_copy 89 = .ok (.iload 4, 2) := by decide +kernel
theorem dX10_copy_91 : decode cX10_copy 91 = .ok (.iload 5, 2) := by decide +kernel
theorem dX10_copy_93 : decode cX10_copy 93 = .ok (.invokevirtual 272, 3) := by decide +kernel
theorem dX10_copy_96 : decode cX10_copy 96 = .ok (.ifCond .ne 9, 3) := by decide +kernel
theorem dX10_copy_99 : decode cX10_copy 99 = .ok (.aload_n 0, 1) := by decide +kernel
theorem dX10_copy_100 : decode cX10_copy 100 = .ok (.iconst 2, 1) := by decide +kernel
theorem dX10_copy_101 : decode cX10_copy 101 = .ok (.invokevirtual 125, 3) := by decide +kernel
theorem dX10_copy_104 : decode cX10_copy 104 = .ok (.ireturn, 1) := by decide +kernel
theorem dX10_copy_105 : decode cX10_copy 105 = .ok (.aload 6, 2) := by decide +kernel
theorem dX10_copy_107 : decode cX10_copy 107 = .ok (.getfield 275, 3) := by decide +kernel
theorem dX10_copy_110 : decode cX10_copy 110 = .ok (.iload_n 2, 1) := by decide +kernel
theorem dX10_copy_111 : decode cX10_copy 111 = .ok (.aload 7, 2) := by decide +kernel
theorem dX10_copy_113 : decode cX10_copy 113 = .ok (.getfield 275, 3) := by decide +kernel
theorem dX10_copy_116 : decode cX10_copy 116 = .ok (.iload 4, 2) := by decide +kernel
theorem dX10_copy_118 : decode cX10_copy 118 = .ok (.iload 5, 2) := by decide +kernel
theorem dX10_copy_120 : decode cX10_copy 120 = .ok (.invokestatic 278, 3) := by decide +kernel
theorem dX10_copy_123 : decode cX10_copy 123 = .ok (.iconst 1, 1) := by decide +kernel
theorem dX10_copy_124 : decode cX10_copy 124 = .ok (.ireturn, 1) := by decide +kernel
theorem dX10_write_0 : decode cX10_write 0 = .ok (.iload_n 1, 1) := by decide +kernel
theorem dX10_write_1 : decode cX10_write 1 = .ok (.bipush 32, 2) := by decide +kernel
theorem dX10_write_3 : decode cX10_write 3 = .ok (.invokestatic 84, 3) := by decide +kernel
theorem dX10_write_6 : decode cX10_write 6 = .ok (.ifCond .eq 11, 3) := by decide +kernel
theorem dX10_write_9 : decode cX10_write 9 = .ok (.iload_n 2, 1) := by decide +kernel
theorem dX10_write_10 : decode cX10_write 10 = .ok (.iconst 4, 1) := by decide +kernel
theorem dX10_write_11 : decode cX10_write 11 = .ok (.invokestatic 84, 3) := by decide +kernel
theorem dX10_write_14 : decode cX10_write 14 = .ok (.ifCond .ne 6, 3) := by decide +kernel
theorem dX10_write_17 : decode cX10_write 17 = .ok (.bipush (-2), 2) := by decide +kernel
theorem dX10_write_19 : decode cX10_write 19 = .ok (.ireturn, 1) := by decide +kernel
theorem dX10_write_20 : decode cX10_write 20 = .ok (.aload_n 0, 1) := by decide +kernel
theorem dX10_write_21 : decode cX10_write 21 = .ok (.getfield 79, 3) := by decide +kernel
theorem dX10_write_24 : decode cX10_write 24 = .ok (.iload_n 2, 1) := by decide +kernel
theorem dX10_write_25 : decode cX10_write 25 = .ok (.aaload, 1) := by decide +kernel
theorem dX10_write_26 : decode cX10_write 26 = .ok (.astore_n 3, 1) := by decide +kernel
theorem dX10_write_27 : decode cX10_write 27 = .ok (.aload_n 3, 1) := by decide +kernel
theorem dX10_write_28 : decode cX10_write 28 = .ok (.invokevirtual 121, 3) := by decide +kernel
theorem dX10_write_31 : decode cX10_write 31 = .ok (.ifCond .eq 9, 3) := by decide +kernel
theorem dX10_write_34 : decode cX10_write 34 = .ok (.aload_n 0, 1) := by decide +kernel
theorem dX10_write_35 : decode cX10_write 35 = .ok (.iconst 1, 1) := by decide +kernel
theorem dX10_write_36 : decode cX10_write 36 = .ok (.invokevirtual 125, 3) := by decide +kernel
theorem dX10_write_39 : decode cX10_write 39 = .ok (.ireturn, 1) := by decide +kernel
theorem dX10_write_40 : decode cX10_write 40 = .ok (.aload_n 3, 1) := by decide +kernel
theorem dX10_write_41 : decode cX10_write 41 = .ok (.getfield 129, 3) := by decide +kernel
theorem dX10_write_44 : decode cX10_write 44 = .ok (.aload_n 0, 1) := by decide +kernel
theorem dX10_write_45 : decode cX10_write 45 = .ok (.getfield 45, 3) := by decide +kernel
theorem dX10_write_48 : decode cX10_write 48 = .ok (.getfield 120, 3) := by decide +kernel
theorem dX10_write_51 : decode cX10_write 51 = .ok (.invokestatic 284, 3) := by decide +kernel
theorem dX10_write_54 : decode cX10_write 54 = .ok (.istore 4, 2) := by decide +kernel
theorem dX10_write_56 : decode cX10_write 56 = .ok (.aload_n 0, 1) := by decide +kernel
theorem dX10_write_57 : decode cX10_write 57 = .ok (.getfield 66, 3) := by decide +kernel
theorem dX10_write_60 : decode cX10_write 60 = .ok (.aload_n 0, 1) := by decide +kernel
theorem dX10_write_61 : decode cX10_write 61 = .ok (.getfield 24, 3) := by decide +kernel
theorem dX10_write_64 : decode cX10_write 64 = .ok (.iload_n 1, 1) := by decide +kernel
theorem dX10_write_65 : decode cX10_write 65 = .ok (.invokevirtual 289, 3) := by decide +kernel
theorem dX10_write_68 : decode cX10_write 68 = .ok (.iconst 0, 1) := by decide +kernel
theorem dX10_write_69 : decode cX10_write 69 = .ok (.istore 5, 2) := by decide +kernel
theorem dX10_write_71 : decode cX10_write 71 = .ok (.iload 5, 2) := by decide +kernel
theorem dX10_write_73 : decode cX10_write 73 = .ok (.iload 4, 2) := by decide +kernel
theorem dX10_write_75 : decode cX10_write 75 = .ok (.if_icmp .ge 35, 3) := by decide +kernel
theorem dX10_write_78 : decode cX10_write 78 = .ok (.aload_n 3, 1) := by decide +kernel
theorem dX10_write_79 : decode cX10_write 79 = .ok (.iload 5, 2) := by decide +kernel
theorem dX10_write_81 : decode cX10_write 81 = .ok (.aload_n 0, 1) := by decide +kernel
theorem dX10_write_82 : decode cX10_write 82 = .ok (.getfield 66, 3) := by decide +kernel
theorem dX10_write_85 : decode cX10_write 85 = .ok (.aload_n 0, 1) := by decide +kernel
theorem dX10_write_86 : decode cX10_write 86 = .ok (.getfield 24, 3) := by decide +kernel
theorem dX10_write_89 : decode cX10_write 89 = .ok (.aload_n 0, 1) := by decide +kernel
theorem dX10_write_90 : decode cX10_write 90 = .ok (.getfield 45, 3) := by decide +kernel
theorem dX10_write_93 : decode cX10_write 93 = .ok (.iload 5, 2) := by decide +kernel
theorem dX10_write_95 : decode cX10_write 95 = .ok (.invokevirtual 293, 3) := by decide +kernel
theorem dX10_write_98 : decode cX10_write 98 = .ok (.invokevirtual 177, 3) := by decide +kernel
theorem dX10_write_101 : decode cX10_write 101 = .ok (.invokevirtual 262, 3) := by decide +kernel
theorem dX10_write_104 : decode cX10_write 104 = .ok (.iinc 5 1, 3) := by decide +kernel
theorem dX10_write_107 : decode cX10_write 107 = .ok (.goto (-36), 3) := by decide +kernel
theorem dX10_write_110 : decode cX10_write 110 = .ok (.iload 4, 2) := by decide +kernel
theorem dX10_write_112 : decode cX10_write 112 = .ok (.ireturn, 1) := by decide +kernel
theorem dX10_count_0 : decode cX10_count 0 = .ok (.iload_n 1, 1) := by decide +kernel
theorem dX10_count_1 : decode cX10_count 1 = .ok (.tableswitch 123 0 8 #[51, 59, 67, 75, 86, 94, 102, 110, 118], 51) := by decide +kernel
theorem dX10_count_52 : decode cX10_count 52 = .ok (.aload_n 0, 1) := by decide +kernel
theorem dX10_count_53 : decode cX10_count 53 = .ok (.getfield 14, 3) := by decide +kernel
theorem dX10_count_56 : decode cX10_count 56 = .ok (.getfield 99, 3) := by decide +kernel
theorem dX10_count_59 : decode cX10_count 59 = .ok (.ireturn, 1) := by decide +kernel
theorem dX10_count_60 : decode cX10_count 60 = .ok (.aload_n 0, 1) := by decide +kernel
theorem dX10_count_61 : decode cX10_count 61 = .ok (.getfield 18, 3) := by decide +kernel
theorem dX10_count_64 : decode cX10_count 64 = .ok (.getfield 99, 3) := by decide +kernel
theorem dX10_count_67 : decode cX10_count 67 = .ok (.ireturn, 1) := by decide +kernel
theorem dX10_count_68 : decode cX10_count 68 = .ok (.aload_n 0, 1) := by decide +kernel
theorem dX10_count_69 : decode cX10_count 69 = .ok (.getfield 45, 3) := by decide +kernel
theorem dX10_count_72 : decode cX10_count 72 = .ok (.getfield 120, 3) := by decide +kernel
theorem dX10_count_75 : decode cX10_count 75 = .ok (.ireturn, 1) := by decide +kernel
theorem dX10_count_76 : decode cX10_count 76 = .ok (.aload_n 0, 1) := by decide +kernel
theorem dX10_count_77 : decode cX10_count 77 = .ok (.invokevirtual 137, 3) := by decide +kernel
theorem dX10_count_80 : decode cX10_count 80 = .ok (.getfield 140, 3) := by decide +kernel
theorem dX10_count_83 : decode cX10_count 83 = .ok (.invokestatic 143, 3) := by decide +kernel
theorem dX10_count_86 : decode cX10_count 86 = .ok (.ireturn, 1) := by decide +kernel
theorem dX10_count_87 : decode cX10_count 87 = .ok (.aload_n 0, 1) := by decide +kernel
theorem dX10_count_88 : decode cX10_count 88 = .ok (.getfield 73, 3) := by decide +kernel
theorem dX10_count_91 : decode cX10_count 91 = .ok (.getfield 237, 3) := by decide +kernel
theorem dX10_count_94 : decode cX10_count 94 = .ok (.ireturn, 1) := by decide +kernel
theorem dX10_count_95 : decode cX10_count 95 = .ok (.aload_n 0, 1) := by decide +kernel
theorem dX10_count_96 : decode cX10_count 96 = .ok (.getfield 38, 3) := by decide +kernel
theorem dX10_count_99 : decode cX10_count 99 = .ok (.invokevirtual 296, 3) := by decide +kernel
theorem dX10_count_102 : decode cX10_count 102 = .ok (.ireturn, 1) := by decide +kernel
theorem dX10_count_103 : decode cX10_count 103 = .ok (.aload_n 0, 1) := by decide +kernel
theorem dX10_count_104 : decode cX10_count 104 = .ok (.getfield 31, 3) := by decide +kernel
theorem dX10_count_107 : decode cX10_count 107 = .ok (.getfield 300, 3) := by decide +kernel
theorem dX10_count_110 : decode cX10_count 110 = .ok (.ireturn, 1) := by decide +kernel
theorem dX10_count_111 : decode cX10_count 111 = .ok (.aload_n 0, 1) := by decide +kernel
theorem dX10_count_112 : decode cX10_count 112 = .ok (.getfield 73, 3) := by decide +kernel
theorem dX10_count_115 : decode cX10_count 115 = .ok (.invokevirtual 301, 3) := by decide +kernel
theorem dX10_count_118 : decode cX10_count 118 = .ok (.ireturn, 1) := by decide +kernel
theorem dX10_count_119 : decode cX10_count 119 = .ok (.aload_n 0, 1) := by decide +kernel
theorem dX10_count_120 : decode cX10_count 120 = .ok (.getfield 266, 3) := by decide +kernel
theorem dX10_count_123 : decode cX10_count 123 = .ok (.ireturn, 1) := by decide +kernel
theorem dX10_count_124 : decode cX10_count 124 = .ok (.bipush (-2), 2) := by decide +kernel
theorem dX10_count_126 : decode cX10_count 126 = .ok (.ireturn, 1) := by decide +kernel
theorem dX10_digest_0 : decode cX10_digest 0 = .ok (.ldc2_w 304, 3) := by decide +kernel
theorem dX10_digest_3 : decode cX10_digest 3 = .ok (.lstore_n 1, 1) := by decide +kernel
theorem dX10_digest_4 : decode cX10_digest 4 = .ok (.iconst 0, 1) := by decide +kernel
theorem dX10_digest_5 : decode cX10_digest 5 = .ok (.istore_n 3, 1) := by decide +kernel
theorem dX10_digest_6 : decode cX10_digest 6 = .ok (.iload_n 3, 1) := by decide +kernel
theorem dX10_digest_7 : decode cX10_digest 7 = .ok (.bipush 8, 2) := by decide +kernel
theorem dX10_digest_9 : decode cX10_digest 9 = .ok (.if_icmp .ge 22, 3) := by decide +kernel
theorem dX10_digest_12 : decode cX10_digest 12 = .ok (.ldc2_w 306, 3) := by decide +kernel
theorem dX10_digest_15 : decode cX10_digest 15 = .ok (.lload_n 1, 1) := by decide +kernel
theorem dX10_digest_16 : decode cX10_digest 16 = .ok (.lmul, 1) := by decide +kernel
theorem dX10_digest_17 : decode cX10_digest 17 = .ok (.aload_n 0, 1) := by decide +kernel
theorem dX10_digest_18 : decode cX10_digest 18 = .ok (.iload_n 3, 1) := by decide +kernel
theorem dX10_digest_19 : decode cX10_digest 19 = .ok (.invokevirtual 308, 3) := by decide +kernel
theorem dX10_digest_22 : decode cX10_digest 22 = .ok (.i2l, 1) := by decide +kernel
theorem dX10_digest_23 : decode cX10_digest 23 = .ok (.ladd, 1) := by decide +kernel
theorem dX10_digest_24 : decode cX10_digest 24 = .ok (.lstore_n 1, 1) := by decide +kernel
theorem dX10_digest_25 : decode cX10_digest 25 = .ok (.iinc 3 1, 3) := by decide +kernel
theorem dX10_digest_28 : decode cX10_digest 28 = .ok (.goto (-22), 3) := by decide +kernel
theorem dX10_digest_31 : decode cX10_digest 31 = .ok (.ldc2_w 306, 3) := by decide +kernel
theorem dX10_digest_34 : decode cX10_digest 34 = .ok (.ldc2_w 306, 3) := by decide +kernel
theorem dX10_digest_37 : decode cX10_digest 37 = .ok (.lload_n 1, 1) := by decide +kernel
theorem dX10_digest_38 : decode cX10_digest 38 = .ok (.lmul, 1) := by decide +kernel
theorem dX10_digest_39 : decode cX10_digest 39 = .ok (.aload_n 0, 1) := by decide +kernel
theorem dX10_digest_40 : decode cX10_digest 40 = .ok (.iconst 0, 1) := by decide +kernel
theorem dX10_digest_41 : decode cX10_digest 41 = .ok (.invokevirtual 311, 3) := by decide +kernel
theorem dX10_digest_44 : decode cX10_digest 44 = .ok (.i2l, 1) := by decide +kernel
theorem dX10_digest_45 : decode cX10_digest 45 = .ok (.ladd, 1) := by decide +kernel
theorem dX10_digest_46 : decode cX10_digest 46 = .ok (.lmul, 1) := by decide +kernel
theorem dX10_digest_47 : decode cX10_digest 47 = .ok (.aload_n 0, 1) := by decide +kernel
theorem dX10_digest_48 : decode cX10_digest 48 = .ok (.iconst 1, 1) := by decide +kernel
theorem dX10_digest_49 : decode cX10_digest 49 = .ok (.invokevirtual 311, 3) := by decide +kernel
theorem dX10_digest_52 : decode cX10_digest 52 = .ok (.i2l, 1) := by decide +kernel
theorem dX10_digest_53 : decode cX10_digest 53 = .ok (.ladd, 1) := by decide +kernel
theorem dX10_digest_54 : decode cX10_digest 54 = .ok (.lstore_n 1, 1) := by decide +kernel
theorem dX10_digest_55 : decode cX10_digest 55 = .ok (.iconst 0, 1) := by decide +kernel
theorem dX10_digest_56 : decode cX10_digest 56 = .ok (.istore_n 3, 1) := by decide +kernel
theorem dX10_digest_57 : decode cX10_digest 57 = .ok (.iload_n 3, 1) := by decide +kernel
theorem dX10_digest_58 : decode cX10_digest 58 = .ok (.bipush 7, 2) := by decide +kernel
theorem dX10_digest_60 : decode cX10_digest 60 = .ok (.if_icmp .ge 22, 3) := by decide +kernel
theorem dX10_digest_63 : decode cX10_digest 63 = .ok (.ldc2_w 306, 3) := by decide +kernel
theorem dX10_digest_66 : decode cX10_digest 66 = .ok (.lload_n 1, 1) := by decide +kernel
theorem dX10_digest_67 : decode cX10_digest 67 = .ok (.lmul, 1) := by decide +kernel
theorem dX10_digest_68 : decode cX10_digest 68 = .ok (.aload_n 0, 1) := by decide +kernel
theorem dX10_digest_69 : decode cX10_digest 69 = .ok (.iload_n 3, 1) := by decide +kernel
theorem dX10_digest_70 : decode cX10_digest 70 = .ok (.invokevirtual 313, 3) := by decide +kernel
theorem dX10_digest_73 : decode cX10_digest 73 = .ok (.i2l, 1) := by decide +kernel
theorem dX10_digest_74 : decode cX10_digest 74 = .ok (.ladd, 1) := by decide +kernel
theorem dX10_digest_75 : decode cX10_digest 75 = .ok (.lstore_n 1, 1) := by decide +kernel
theorem dX10_digest_76 : decode cX10_digest 76 = .ok (.iinc 3 1, 3) := by decide +kernel
theorem dX10_digest_79 : decode cX10_digest 79 = .ok (.goto (-22), 3) := by decide +kernel
theorem dX10_digest_82 : decode cX10_digest 82 = .ok (.iconst 0, 1) := by decide +kernel
theorem dX10_digest_83 : decode cX10_digest 83 = .ok (.istore_n 3, 1) := by decide +kernel
theorem dX10_digest_84 : decode cX10_digest 84 = .ok (.iload_n 3, 1) := by decide +kernel
theorem dX10_digest_85 : decode cX10_digest 85 = .ok (.iconst 5, 1) := by decide +kernel
theorem dX10_digest_86 : decode cX10_digest 86 = .ok (.if_icmp .ge 33, 3) := by decide +kernel
theorem dX10_digest_89 : decode cX10_digest 89 = .ok (.ldc2_w 306, 3) := by decide +kernel
theorem dX10_digest_92 : decode cX10_digest 92 = .ok (.ldc2_w 306, 3) := by decide +kernel
theorem dX10_digest_95 : decode cX10_digest 95 = .ok (.lload_n 1, 1) := by decide +kernel
theorem dX10_digest_96 : decode cX10_digest 96 = .ok (.lmul, 1) := by decide +kernel
theorem dX10_digest_97 : decode cX10_digest 97 = .ok (.aload_n 0, 1) := by decide +kernel
theorem dX10_digest_98 : decode cX10_digest 98 = .ok (.iload_n 3, 1) := by decide +kernel
theorem dX10_digest_99 : decode cX10_digest 99 = .ok (.iconst 0, 1) := by decide +kernel
theorem dX10_digest_100 : decode cX10_digest 100 = .ok (.invokevirtual 316, 3) := by decide +kernel
theorem dX10_digest_103 : decode cX10_digest 103 = .ok (.ladd, 1) := by decide +kernel
theorem dX10_digest_104 : decode cX10_digest 104 = .ok (.lmul, 1) := by decide +kernel
theorem dX10_digest_105 : decode cX10_digest 105 = .ok (.aload_n 0, 1) := by decide +kernel
theorem dX10_digest_106 : decode cX10_digest 106 = .ok (.iload_n 3, 1) := by decide +kernel
theorem dX10_digest_107 : decode cX10_digest 107 = .ok (.iconst 1, 1) := by decide +kernel
theorem dX10_digest_108 : decode cX10_digest 108 = .ok (.invokevirtual 316, 3) := by decide +kernel
theorem dX10_digest_111 : decode cX10_digest 111 = .ok (.ladd, 1) := by decide +kernel
theorem dX10_digest_112 : decode cX10_digest 112 = .ok (.lstore_n 1, 1) := by decide +kernel
theorem dX10_digest_113 : decode cX10_digest 113 = .ok (.iinc 3 1, 3) := by decide +kernel
theorem dX10_digest_116 : decode cX10_digest 116 = .ok (.goto (-32), 3) := by decide +kernel
theorem dX10_digest_119 : decode cX10_digest 119 = .ok (.iconst 0, 1) := by decide +kernel
theorem dX10_digest_120 : decode cX10_digest 120 = .ok (.istore_n 3, 1) := by decide +kernel
theorem dX10_digest_121 : decode cX10_digest 121 = .ok (.iload_n 3, 1) := by decide +kernel
theorem dX10_digest_122 : decode cX10_digest 122 = .ok (.bipush 10, 2) := by decide +kernel
theorem dX10_digest_124 : decode cX10_digest 124 = .ok (.if_icmp .ge 35, 3) := by decide +kernel
theorem dX10_digest_127 : decode cX10_digest 127 = .ok (.ldc2_w 306, 3) := by decide +kernel
theorem dX10_digest_130 : decode cX10_digest 130 = .ok (.ldc2_w 306, 3) := by decide +kernel
theorem dX10_digest_133 : decode cX10_digest 133 = .ok (.lload_n 1, 1) := by decide +kernel
theorem dX10_digest_134 : decode cX10_digest 134 = .ok (.lmul, 1) := by decide +kernel
theorem dX10_digest_135 : decode cX10_digest 135 = .ok (.aload_n 0, 1) := by decide +kernel
theorem dX10_digest_136 : decode cX10_digest 136 = .ok (.iload_n 3, 1) := by decide +kernel
theorem dX10_digest_137 : decode cX10_digest 137 = .ok (.iconst 2, 1) := by decide +kernel
theorem dX10_digest_138 : decode cX10_digest 138 = .ok (.iconst 0, 1) := by decide +kernel
theorem dX10_digest_139 : decode cX10_digest 139 = .ok (.invokevirtual 320, 3) := by decide +kernel
theorem dX10_digest_142 : decode cX10_digest 142 = .ok (.ladd, 1) := by decide +kernel
theorem dX10_digest_143 : decode cX10_digest 143 = .ok (.lmul, 1) := by decide +kernel
theorem dX10_digest_144 : decode cX10_digest 144 = .ok (.aload_n 0, 1) := by decide +kernel
theorem dX10_digest_145 : decode cX10_digest 145 = .ok (.iload_n 3, 1) := by decide +kernel
theorem dX10_digest_146 : decode cX10_digest 146 = .ok (.iconst 2, 1) := by decide +kernel
theorem dX10_digest_147 : decode cX10_digest 147 = .ok (.iconst 1, 1) := by decide +kernel
theorem dX10_digest_148 : decode cX10_digest 148 = .ok (.invokevirtual 320, 3) := by decide +kernel
theorem dX10_digest_151 : decode cX10_digest 151 = .ok (.ladd, 1) := by decide +kernel
theorem dX10_digest_152 : decode cX10_digest 152 = .ok (.lstore_n 1, 1) := by decide +kernel
theorem dX10_digest_153 : decode cX10_digest 153 = .ok (.iinc 3 1, 3) := by decide +kernel
theorem dX10_digest_156 : decode cX10_digest 156 = .ok (.goto (-35), 3) := by decide +kernel
theorem dX10_digest_159 : decode cX10_digest 159 = .ok (.iconst 0, 1) := by decide +kernel
theorem dX10_digest_160 : decode cX10_digest 160 = .ok (.istore_n 3, 1) := by decide +kernel
theorem dX10_digest_161 : decode cX10_digest 161 = .ok (.iload_n 3, 1) := by decide +kernel
theorem dX10_digest_162 : decode cX10_digest 162 = .ok (.bipush 10, 2) := by decide +kernel
theorem dX10_digest_164 : decode cX10_digest 164 = .ok (.if_icmp .ge 22, 3) := by decide +kernel
theorem dX10_digest_167 : decode cX10_digest 167 = .ok (.ldc2_w 306, 3) := by decide +kernel
theorem dX10_digest_170 : decode cX10_digest 170 = .ok (.lload_n 1, 1) := by decide +kernel
theorem dX10_digest_171 : decode cX10_digest 171 = .ok (.lmul, 1) := by decide +kernel
theorem dX10_digest_172 : decode cX10_digest 172 = .ok (.aload_n 0, 1) := by decide +kernel
theorem dX10_digest_173 : decode cX10_digest 173 = .ok (.iload_n 3, 1) := by decide +kernel
theorem dX10_digest_174 : decode cX10_digest 174 = .ok (.invokevirtual 324, 3) := by decide +kernel
theorem dX10_digest_177 : decode cX10_digest 177 = .ok (.i2l, 1) := by decide +kernel
theorem dX10_digest_178 : decode cX10_digest 178 = .ok (.ladd, 1) := by decide +kernel
theorem dX10_digest_179 : decode cX10_digest 179 = .ok (.lstore_n 1, 1) := by decide +kernel
theorem dX10_digest_180 : decode cX10_digest 180 = .ok (.iinc 3 1, 3) := by decide +kernel
theorem dX10_digest_183 : decode cX10_digest 183 = .ok (.goto (-22), 3) := by decide +kernel
theorem dX10_digest_186 : decode cX10_digest 186 = .ok (.iconst 0, 1) := by decide +kernel
theorem dX10_digest_187 : decode cX10_digest 187 = .ok (.istore_n 3, 1) := by decide +kernel
theorem dX10_digest_188 : decode cX10_digest 188 = .ok (.iload_n 3, 1) := by decide +kernel
theorem dX10_digest_189 : decode cX10_digest 189 = .ok (.iconst 3, 1) := by decide +kernel
theorem dX10_digest_190 : decode cX10_digest 190 = .ok (.if_icmp .ge 22, 3) := by decide +kernel
theorem dX10_digest_193 : decode cX10_digest 193 = .ok (.ldc2_w 306, 3) := by decide +kernel
theorem dX10_digest_196 : decode cX10_digest 196 = .ok (.lload_n 1, 1) := by decide +kernel
theorem dX10_digest_197 : decode cX10_digest 197 = .ok (.lmul, 1) := by decide +kernel
theorem dX10_digest_198 : decode cX10_digest 198 = .ok (.aload_n 0, 1) := by decide +kernel
theorem dX10_digest_199 : decode cX10_digest 199 = .ok (.iconst 2, 1) := by decide +kernel
theorem dX10_digest_200 : decode cX10_digest 200 = .ok (.iload_n 3, 1) := by decide +kernel
theorem dX10_digest_201 : decode cX10_digest 201 = .ok (.invokevirtual 327, 3) := by decide +kernel
theorem dX10_digest_204 : decode cX10_digest 204 = .ok (.ladd, 1) := by decide +kernel
theorem dX10_digest_205 : decode cX10_digest 205 = .ok (.lstore_n 1, 1) := by decide +kernel
theorem dX10_digest_206 : decode cX10_digest 206 = .ok (.iinc 3 1, 3) := by decide +kernel
theorem dX10_digest_209 : decode cX10_digest 209 = .ok (.goto (-21), 3) := by decide +kernel
theorem dX10_digest_212 : decode cX10_digest 212 = .ok (.iconst 0, 1) := by decide +kernel
theorem dX10_digest_213 : decode cX10_digest 213 = .ok (.istore_n 3, 1) := by decide +kernel
theorem dX10_digest_214 : decode cX10_digest 214 = .ok (.iload_n 3, 1) := by decide +kernel
theorem dX10_digest_215 : decode cX10_digest 215 = .ok (.iconst 2, 1) := by decide +kernel
theorem dX10_digest_216 : decode cX10_digest 216 = .ok (.if_icmp .ge 33, 3) := by decide +kernel
theorem dX10_digest_219 : decode cX10_digest 219 = .ok (.ldc2_w 306, 3) := by decide +kernel
theorem dX10_digest_222 : decode cX10_digest 222 = .ok (.ldc2_w 306, 3) := by decide +kernel
theorem dX10_digest_225 : decode cX10_digest 225 = .ok (.lload_n 1, 1) := by decide +kernel
theorem dX10_digest_226 : decode cX10_digest 226 = .ok (.lmul, 1) := by decide +kernel
theorem dX10_digest_227 : decode cX10_digest 227 = .ok (.aload_n 0, 1) := by decide +kernel
theorem dX10_digest_228 : decode cX10_digest 228 = .ok (.iload_n 3, 1) := by decide +kernel
theorem dX10_digest_229 : decode cX10_digest 229 = .ok (.iconst 0, 1) := by decide +kernel
theorem dX10_digest_230 : decode cX10_digest 230 = .ok (.invokevirtual 330, 3) := by decide +kernel
theorem dX10_digest_233 : decode cX10_digest 233 = .ok (.ladd, 1) := by decide +kernel
theorem dX10_digest_234 : decode cX10_digest 234 = .ok (.lmul, 1) := by decide +kernel
theorem dX10_digest_235 : decode cX10_digest 235 = .ok (.aload_n 0, 1) := by decide +kernel
theorem dX10_digest_236 : decode cX10_digest 236 = .ok (.iload_n 3, 1) := by decide +kernel
theorem dX10_digest_237 : decode cX10_digest 237 = .ok (.iconst 1, 1) := by decide +kernel
theorem dX10_digest_238 : decode cX10_digest 238 = .ok (.invokevirtual 330, 3) := by decide +kernel
theorem dX10_digest_241 : decode cX10_digest 241 = .ok (.ladd, 1) := by decide +kernel
theorem dX10_digest_242 : decode cX10_digest 242 = .ok (.lstore_n 1, 1) := by decide +kernel
theorem dX10_digest_243 : decode cX10_digest 243 = .ok (.iinc 3 1, 3) := by decide +kernel
theorem dX10_digest_246 : decode cX10_digest 246 = .ok (.goto (-32), 3) := by decide +kernel
theorem dX10_digest_249 : decode cX10_digest 249 = .ok (.ldc2_w 306, 3) := by decide +kernel
theorem dX10_digest_252 : decode cX10_digest 252 = .ok (.ldc2_w 306, 3) := by decide +kernel
theorem dX10_digest_255 : decode cX10_digest 255 = .ok (.lload_n 1, 1) := by decide +kernel
theorem dX10_digest_256 : decode cX10_digest 256 = .ok (.lmul, 1) := by decide +kernel
theorem dX10_digest_257 : decode cX10_digest 257 = .ok (.aload_n 0, 1) := by decide +kernel
theorem dX10_digest_258 : decode cX10_digest 258 = .ok (.iconst (-1), 1) := by decide +kernel
theorem dX10_digest_259 : decode cX10_digest 259 = .ok (.invokevirtual 333, 3) := by decide +kernel
theorem dX10_digest_262 : decode cX10_digest 262 = .ok (.i2l, 1) := by decide +kernel
theorem dX10_digest_263 : decode cX10_digest 263 = .ok (.ladd, 1) := by decide +kernel
theorem dX10_digest_264 : decode cX10_digest 264 = .ok (.lmul, 1) := by decide +kernel
theorem dX10_digest_265 : decode cX10_digest 265 = .ok (.aload_n 0, 1) := by decide +kernel
theorem dX10_digest_266 : decode cX10_digest 266 = .ok (.iconst 2, 1) := by decide +kernel
theorem dX10_digest_267 : decode cX10_digest 267 = .ok (.invokevirtual 336, 3) := by decide +kernel
theorem dX10_digest_270 : decode cX10_digest 270 = .ok (.ladd, 1) := by decide +kernel
theorem dX10_digest_271 : decode cX10_digest 271 = .ok (.lstore_n 1, 1) := by decide +kernel
theorem dX10_digest_272 : decode cX10_digest 272 = .ok (.iconst 0, 1) := by decide +kernel
theorem dX10_digest_273 : decode cX10_digest 273 = .ok (.istore_n 3, 1) := by decide +kernel
theorem dX10_digest_274 : decode cX10_digest 274 = .ok (.iload_n 3, 1) := by decide +kernel
theorem dX10_digest_275 : decode cX10_digest 275 = .ok (.getstatic 339, 3) := by decide +kernel
theorem dX10_digest_278 : decode cX10_digest 278 = .ok (.arraylength, 1) := by decide +kernel
theorem dX10_digest_279 : decode cX10_digest 279 = .ok (.if_icmp .ge 44, 3) := by decide +kernel
theorem dX10_digest_282 : decode cX10_digest 282 = .ok (.iconst 0, 1) := by decide +kernel
theorem dX10_digest_283 : decode cX10_digest 283 = .ok (.istore 4, 2) := by decide +kernel
theorem dX10_digest_285 : decode cX10_digest 285 = .ok (.iload 4, 2) := by decide +kernel
theorem dX10_digest_287 : decode cX10_digest 287 = .ok (.bipush 8, 2) := by decide +kernel
theorem dX10_digest_289 : decode cX10_digest 289 = .ok (.if_icmp .ge 28, 3) := by decide +kernel
theorem dX10_digest_292 : decode cX10_digest 292 = .ok (.ldc2_w 306, 3) := by decide +kernel
theorem dX10_digest_295 : decode cX10_digest 295 = .ok (.lload_n 1, 1) := by decide +kernel
theorem dX10_digest_296 : decode cX10_digest 296 = .ok (.lmul, 1) := by decide +kernel
theorem dX10_digest_297 : decode cX10_digest 297 = .ok (.aload_n 0, 1) := by decide +kernel
theorem dX10_digest_298 : decode cX10_digest 298 = .ok (.getstatic 339, 3) := by decide +kernel
theorem dX10_digest_301 : decode cX10_digest 301 = .ok (.iload_n 3, 1) := by decide +kernel
theorem dX10_digest_302 : decode cX10_digest 302 = .ok (.iaload, 1) := by decide +kernel
theorem dX10_digest_303 : decode cX10_digest 303 = .ok (.iload 4, 2) := by decide +kernel
theorem dX10_digest_305 : decode cX10_digest 305 = .ok (.invokevirtual 342, 3) := by decide +kernel
theorem dX10_digest_308 : decode cX10_digest 308 = .ok (.i2l, 1) := by decide +kernel
theorem dX10_digest_309 : decode cX10_digest 309 = .ok (.ladd, 1) := by decide +kernel
theorem dX10_digest_310 : decode cX10_digest 310 = .ok (.lstore_n 1, 1) := by decide +kernel
theorem dX10_digest_311 : decode cX10_digest 311 = .ok (.iinc 4 1, 3) := by decide +kernel
theorem dX10_digest_314 : decode cX10_digest 314 = .ok (.goto (-29), 3) := by decide +kernel
theorem dX10_digest_317 : decode cX10_digest 317 = .ok (.iinc 3 1, 3) := by decide +kernel
theorem dX10_digest_320 : decode cX10_digest 320 = .ok (.goto (-46), 3) := by decide +kernel
theorem dX10_digest_323 : decode cX10_digest 323 = .ok (.ldc2_w 306, 3) := by decide +kernel
theorem dX10_digest_326 : decode cX10_digest 326 = .ok (.lload_n 1, 1) := by decide +kernel
theorem dX10_digest_327 : decode cX10_digest 327 = .ok (.lmul, 1) := by decide +kernel
theorem dX10_digest_328 : decode cX10_digest 328 = .ok (.aload_n 0, 1) := by decide +kernel
theorem dX10_digest_329 : decode cX10_digest 329 = .ok (.iconst 0, 1) := by decide +kernel
theorem dX10_digest_330 : decode cX10_digest 330 = .ok (.iconst 3, 1) := by decide +kernel
theorem dX10_digest_331 : decode cX10_digest 331 = .ok (.invokevirtual 345, 3) := by decide +kernel
theorem dX10_digest_334 : decode cX10_digest 334 = .ok (.i2l, 1) := by decide +kernel
theorem dX10_digest_335 : decode cX10_digest 335 = .ok (.ladd, 1) := by decide +kernel
theorem dX10_digest_336 : decode cX10_digest 336 = .ok (.lstore_n 1, 1) := by decide +kernel
theorem dX10_digest_337 : decode cX10_digest 337 = .ok (.iconst 0, 1) := by decide +kernel
theorem dX10_digest_338 : decode cX10_digest 338 = .ok (.istore_n 3, 1) := by decide +kernel
theorem dX10_digest_339 : decode cX10_digest 339 = .ok (.iload_n 3, 1) := by decide +kernel
theorem dX10_digest_340 : decode cX10_digest 340 = .ok (.iconst 4, 1) := by decide +kernel
theorem dX10_digest_341 : decode cX10_digest 341 = .ok (.if_icmp .ge 22, 3) := by decide +kernel
theorem dX10_digest_344 : decode cX10_digest 344 = .ok (.ldc2_w 306, 3) := by decide +kernel
theorem dX10_digest_347 : decode cX10_digest 347 = .ok (.lload_n 1, 1) := by decide +kernel
theorem dX10_digest_348 : decode cX10_digest 348 = .ok (.lmul, 1) := by decide +kernel
theorem dX10_digest_349 : decode cX10_digest 349 = .ok (.aload_n 0, 1) := by decide +kernel
theorem dX10_digest_350 : decode cX10_digest 350 = .ok (.iload_n 3, 1) := by decide +kernel
theorem dX10_digest_351 : decode cX10_digest 351 = .ok (.invokevirtual 348, 3) := by decide +kernel
theorem dX10_digest_354 : decode cX10_digest 354 = .ok (.i2l, 1) := by decide +kernel
theorem dX10_digest_355 : decode cX10_digest 355 = .ok (.ladd, 1) := by decide +kernel
theorem dX10_digest_356 : decode cX10_digest 356 = .ok (.lstore_n 1, 1) := by decide +kernel
theorem dX10_digest_357 : decode cX10_digest 357 = .ok (.iinc 3 1, 3) := by decide +kernel
theorem dX10_digest_360 : decode cX10_digest 360 = .ok (.goto (-21), 3) := by decide +kernel
theorem dX10_digest_363 : decode cX10_digest 363 = .ok (.lload_n 1, 1) := by decide +kernel
theorem dX10_digest_364 : decode cX10_digest 364 = .ok (.lreturn, 1) := by decide +kernel
theorem dX11_in_0 : decode cX11_in 0 = .ok (.iload_n 0, 1) := by decide +kernel
theorem dX11_in_1 : decode cX11_in 1 = .ok (.iload_n 1, 1) := by decide +kernel
theorem dX11_in_2 : decode cX11_in 2 = .ok (.if_icmp .lt 12, 3) := by decide +kernel
theorem dX11_in_5 : decode cX11_in 5 = .ok (.iload_n 0, 1) := by decide +kernel
theorem dX11_in_6 : decode cX11_in 6 = .ok (.iload_n 2, 1) := by decide +kernel
theorem dX11_in_7 : decode cX11_in 7 = .ok (.if_icmp .gt 7, 3) := by decide +kernel
theorem dX11_in_10 : decode cX11_in 10 = .ok (.iconst 1, 1) := by decide +kernel
theorem dX11_in_11 : decode cX11_in 11 = .ok (.goto 4, 3) := by decide +kernel
theorem dX11_in_14 : decode cX11_in 14 = .ok (.iconst 0, 1) := by decide +kernel
theorem dX11_in_15 : decode cX11_in 15 = .ok (.ireturn, 1) := by decide +kernel
theorem dX11_isIn_0 : decode cX11_isIn 0 = .ok (.iload_n 0, 1) := by decide +kernel
theorem dX11_isIn_1 : decode cX11_isIn 1 = .ok (.iload_n 1, 1) := by decide +kernel
theorem dX11_isIn_2 : decode cX11_isIn 2 = .ok (.ishr, 1) := by decide +kernel
theorem dX11_isIn_3 : decode cX11_isIn 3 = .ok (.iconst 1, 1) := by decide +kernel
theorem dX11_isIn_4 : decode cX11_isIn 4 = .ok (.iand, 1) := by decide +kernel
theorem dX11_isIn_5 : decode cX11_isIn 5 = .ok (.iconst 1, 1) := by decide +kernel
theorem dX11_isIn_6 : decode cX11_isIn 6 = .ok (.if_icmp .ne 7, 3) := by decide +kernel
theorem dX11_isIn_9 : decode cX11_isIn 9 = .ok (.iconst 1, 1) := by decide +kernel
theorem dX11_isIn_10 : decode cX11_isIn 10 = .ok (.goto 4, 3) := by decide +kernel
theorem dX11_isIn_13 : decode cX11_isIn 13 = .ok (.iconst 0, 1) := by decide +kernel
theorem dX11_isIn_14 : decode cX11_isIn 14 = .ok (.ireturn, 1) := by decide +kernel
theorem dX11_amount_0 : decode cX11_amount 0 = .ok (.iload_n 0, 1) := by decide +kernel
theorem dX11_amount_1 : decode cX11_amount 1 = .ok (.ifCond .ge 8, 3) := by decide +kernel
theorem dX11_amount_4 : decode cX11_amount 4 = .ok (.iload_n 0, 1) := by decide +kernel
theorem dX11_amount_5 : decode cX11_amount 5 = .ok (.ineg, 1) := by decide +kernel
theorem dX11_amount_6 : decode cX11_amount 6 = .ok (.goto 4, 3) := by decide +kernel
theorem dX11_amount_9 : decode cX11_amount 9 = .ok (.iload_n 0, 1) := by decide +kernel
theorem dX11_amount_10 : decode cX11_amount 10 = .ok (.ireturn, 1) := by decide +kernel
theorem dX11_no_0 : decode cX11_no 0 = .ok (.ldc2_w 66, 3) := by decide +kernel
theorem dX11_no_3 : decode cX11_no 3 = .ok (.iload_n 0, 1) := by decide +kernel
theorem dX11_no_4 : decode cX11_no 4 = .ok (.i2l, 1) := by decide +kernel
theorem dX11_no_5 : decode cX11_no 5 = .ok (.lsub, 1) := by decide +kernel
theorem dX11_no_6 : decode cX11_no 6 = .ok (.lreturn, 1) := by decide +kernel
theorem dX11_lowest_0 : decode cX11_lowest 0 = .ok (.lload_n 0, 1) := by decide +kernel
theorem dX11_lowest_1 : decode cX11_lowest 1 = .ok (.lstore 5, 2) := by decide +kernel
theorem dX11_lowest_3 : decode cX11_lowest 3 = .ok (.lload_n 2, 1) := by decide +kernel
theorem dX11_lowest_4 : decode cX11_lowest 4 = .ok (.lstore 7, 2) := by decide +kernel
theorem dX11_lowest_6 : decode cX11_lowest 6 = .ok (.lload 7, 2) := by decide +kernel
theorem dX11_lowest_8 : decode cX11_lowest 8 = .ok (.lconst 0, 1) := by decide +kernel
theorem dX11_lowest_9 : decode cX11_lowest 9 = .ok (.lcmp, 1) := by decide +kernel
theorem dX11_lowest_10 : decode cX11_lowest 10 = .ok (.ifCond .eq 21, 3) := by decide +kernel
theorem dX11_lowest_13 : decode cX11_lowest 13 = .ok (.lload 5, 2) := by decide +kernel
theorem dX11_lowest_15 : decode cX11_lowest 15 = .ok (.lload 7, 2) := by decide +kernel
theorem dX11_lowest_17 : decode cX11_lowest 17 = .ok (.lrem, 1) := by decide +kernel
theorem dX11_lowest_18 : decode cX11_lowest 18 = .ok (.lstore 9, 2) := by decide +kernel
theorem dX11_lowest_20 : decode cX11_lowest 20 = .ok (.lload 7, 2) := by decide +kernel
theorem dX11_lowest_22 : decode cX11_lowest 22 = .ok (.lstore 5, 2) := by decide +kernel
theorem dX11_lowest_24 : decode cX11_lowest 24 = .ok (.lload 9, 2) := by decide +kernel
theorem dX11_lowest_26 : decode cX11_lowest 26 = .ok (.lstore 7, 2) := by decide +kernel
theorem dX11_lowest_28 : decode cX11_lowest 28 = .ok (.goto (-22), 3) := by decide +kernel
theorem dX11_lowest_31 : decode cX11_lowest 31 = .ok (.iload 4, 2) := by decide +kernel
theorem dX11_lowest_33 : decode cX11_lowest 33 = .ok (.ifCond .ne 10, 3) := by decide +kernel
theorem dX11_lowest_36 : decode cX11_lowest 36 = .ok (.lload_n 0, 1) := by decide +kernel
theorem dX11_lowest_37 : decode cX11_lowest 37 = .ok (.lload 5, 2) := by decide +kernel
theorem dX11_lowest_39 : decode cX11_lowest 39 = .ok (.ldiv, 1) := by decide +kernel
theorem dX11_lowest_40 : decode cX11_lowest 40 = .ok (.goto 7, 3) := by decide +kernel
theorem dX11_lowest_43 : decode cX11_lowest 43 = .ok (.lload_n 2, 1) := by decide +kernel
theorem dX11_lowest_44 : decode cX11_lowest 44 = .ok (.lload 5, 2) := by decide +kernel
theorem dX11_lowest_46 : decode cX11_lowest 46 = .ok (.ldiv, 1) := by decide +kernel
theorem dX11_lowest_47 : decode cX11_lowest 47 = .ok (.lreturn, 1) := by decide +kernel
theorem dX11_isText_0 : decode cX11_isText 0 = .ok (.iload_n 0, 1) := by decide +kernel
theorem dX11_isText_1 : decode cX11_isText 1 = .ok (.iconst 0, 1) := by decide +kernel
theorem dX11_isText_2 : decode cX11_isText 2 = .ok (.iconst 1, 1) := by decide +kernel
theorem dX11_isText_3 : decode cX11_isText 3 = .ok (.invokestatic 68, 3) := by decide +kernel
theorem dX11_isText_6 : decode cX11_isText 6 = .ok (.ireturn, 1) := by decide +kernel
theorem dX11_type_0 : decode cX11_type 0 = .ok (.iload_n 1, 1) := by decide +kernel
theorem dX11_type_1 : decode cX11_type 1 = .ok (.invokestatic 72, 3) := by decide +kernel
theorem dX11_type_4 : decode cX11_type 4 = .ok (.ifCond .eq 14, 3) := by decide +kernel
theorem dX11_type_7 : decode cX11_type 7 = .ok (.iload_n 2, 1) := by decide +kernel
theorem dX11_type_8 : decode cX11_type 8 = .ok (.iconst 0, 1) := by decide +kernel
theorem dX11_type_9 : decode cX11_type 9 = .ok (.sipush 255, 3) := by decide +kernel
theorem dX11_type_12 : decode cX11_type 12 = .ok (.invokestatic 68, 3) := by decide +kernel
theorem dX11_type_15 : decode cX11_type 15 = .ok (.ifCond .ne 6, 3) := by decide +kernel
theorem dX11_type_18 : decode cX11_type 18 = .ok (.bipush (-2), 2) := by decide +kernel
theorem dX11_type_20 : decode cX11_type 20 = .ok (.ireturn, 1) := by decide +kernel
theorem dX11_type_21 : decode cX11_type 21 = .ok (.aload_n 0, 1) := by decide +kernel
theorem dX11_type_22 : decode cX11_type 22 = .ok (.getfield 13, 3) := by decide +kernel
theorem dX11_type_25 : decode cX11_type 25 = .ok (.iload_n 1, 1) := by decide +kernel
theorem dX11_type_26 : decode cX11_type 26 = .ok (.iaload, 1) := by decide +kernel
theorem dX11_type_27 : decode cX11_type 27 = .ok (.iload_n 1, 1) := by decide +kernel
theorem dX11_type_28 : decode cX11_type 28 = .ok (.ifCond .ne 8, 3) := by decide +kernel
theorem dX11_type_31 : decode cX11_type 31 = .ok (.bipush 60, 2) := by decide +kernel
theorem dX11_type_33 : decode cX11_type 33 = .ok (.goto 5, 3) := by decide +kernel
theorem dX11_type_36 : decode cX11_type 36 = .ok (.bipush 40, 2) := by decide +kernel
theorem dX11_type_38 : decode cX11_type 38 = .ok (.if_icmp .ne 6, 3) := by decide +kernel
theorem dX11_type_41 : decode cX11_type 41 = .ok (.bipush (-4), 2) := by decide +kernel
theorem dX11_type_43 : decode cX11_type 43 = .ok (.ireturn, 1) := by decide +kernel
theorem dX11_type_44 : decode cX11_type 44 = .ok (.aload_n 0, 1) := by decide +kernel
theorem dX11_type_45 : decode cX11_type 45 = .ok (.getfield 7, 3) := by decide +kernel
theorem dX11_type_48 : decode cX11_type 48 = .ok (.bipush 60, 2) := by decide +kernel
theorem dX11_type_50 : decode cX11_type 50 = .ok (.iload_n 1, 1) := by decide +kernel
theorem dX11_type_51 : decode cX11_type 51 = .ok (.imul, 1) := by decide +kernel
theorem dX11_type_52 : decode cX11_type 52 = .ok (.aload_n 0, 1) := by decide +kernel
theorem dX11_type_53 : decode cX11_type 53 = .ok (.getfield 13, 3) := by decide +kernel
theorem dX11_type_56 : decode cX11_type 56 = .ok (.iload_n 1, 1) := by decide +kernel
theorem dX11_type_57 : decode cX11_type 57 = .ok (.iaload, 1) := by decide +kernel
theorem dX11_type_58 : decode cX11_type 58 = .ok (.iadd, 1) := by decide +kernel
theorem dX11_type_59 : decode cX11_type 59 = .ok (.iload_n 2, 1) := by decide +kernel
theorem dX11_type_60 : decode cX11_type 60 = .ok (.iastore, 1) := by decide +kernel
theorem dX11_type_61 : decode cX11_type 61 = .ok (.aload_n 0, 1) := by decide +kernel
theorem dX11_type_62 : decode cX11_type 62 = .ok (.getfield 13, 3) := by decide +kernel
theorem dX11_type_65 : decode cX11_type 65 = .ok (.iload_n 1, 1) := by decide +kernel
theorem dX11_type_66 : decode cX11_type 66 = .ok (.dup2, 1) := by decide +kernel
theorem dX11_type_67 : decode cX11_type 67 = .ok (.iaload, 1) := by decide +kernel
theorem dX11_type_68 : decode cX11_type 68 = .ok (.iconst 1, 1) := by decide +kernel
theorem dX11_type_69 : decode cX11_type 69 = .ok (.iadd, 1) := by decide +kernel
theorem dX11_type_70 : decode cX11_type 70 = .ok (.iastore, 1) := by decide +kernel
theorem dX11_type_71 : decode cX11_type 71 = .ok (.aload_n 0, 1) := by decide +kernel
theorem dX11_type_72 : decode cX11_type 72 = .ok (.getfield 13, 3) := by decide +kernel
theorem dX11_type_75 : decode cX11_type 75 = .ok (.iload_n 1, 1) := by decide +kernel
theorem dX11_type_76 : decode cX11_type 76 = .ok (.iaload, 1) := by decide +kernel
theorem dX11_type_77 : decode cX11_type 77 = .ok (.ireturn, 1) := by decide +kernel
theorem dX11_wipe_0 : decode cX11_wipe 0 = .ok (.iload_n 1, 1) := by decide +kernel
theorem dX11_wipe_1 : decode cX11_wipe 1 = .ok (.invokestatic 72, 3) := by decide +kernel
theorem dX11_wipe_4 : decode cX11_wipe 4 = .ok (.ifCond .ne 6, 3) := by decide +kernel
theorem dX11_wipe_7 : decode cX11_wipe 7 = .ok (.bipush (-2), 2) := by decide +kernel
theorem dX11_wipe_9 : decode cX11_wipe 9 = .ok (.ireturn, 1) := by decide +kernel
theorem dX11_wipe_10 : decode cX11_wipe 10 = .ok (.aload_n 0, 1) := by decide +kernel
theorem dX11_wipe_11 : decode cX11_wipe 11 = .ok (.getfield 13, 3) := by decide +kernel
theorem dX11_wipe_14 : decode cX11_wipe 14 = .ok (.iload_n 1, 1) := by decide +kernel
theorem dX11_wipe_15 : decode cX11_wipe 15 = .ok (.iaload, 1) := by decide +kernel
theorem dX11_wipe_16 : decode cX11_wipe 16 = .ok (.istore_n 2, 1) := by decide +kernel
theorem dX11_wipe_17 : decode cX11_wipe 17 = .ok (.aload_n 0, 1) := by decide +kernel
theorem dX11_wipe_18 : decode cX11_wipe 18 = .ok (.getfield 13, 3) := by decide +kernel
theorem dX11_wipe_21 : decode cX11_wipe 21 = .ok (.iload_n 1, 1) := by decide +kernel
theorem dX11_wipe_22 : decode cX11_wipe 22 = .ok (.iconst 0, 1) := by decide +kernel
theorem dX11_wipe_23 : decode cX11_wipe 23 = .ok (.iastore, 1) := by decide +kernel
theorem dX11_wipe_24 : decode cX11_wipe 24 = .ok (.iload_n 2, 1) := by decide +kernel
theorem dX11_wipe_25 : decode cX11_wipe 25 = .ok (.ireturn, 1) := by decide +kernel
theorem dX11_byteAt_0 : decode cX11_byteAt 0 = .ok (.iload_n 2, 1) := by decide +kernel
theorem dX11_byteAt_1 : decode cX11_byteAt 1 = .ok (.aload_n 0, 1) := by decide +kernel
theorem dX11_byteAt_2 : decode cX11_byteAt 2 = .ok (.getfield 13, 3) := by decide +kernel
theorem dX11_byteAt_5 : decode cX11_byteAt 5 = .ok (.iload_n 1, 1) := by decide +kernel
theorem dX11_byteAt_6 : decode cX11_byteAt 6 = .ok (.iaload, 1) := by decide +kernel
theorem dX11_byteAt_7 : decode cX11_byteAt 7 = .ok (.if_icmp .ge 17, 3) := by decide +kernel
theorem dX11_byteAt_10 : decode cX11_byteAt 10 = .ok (.aload_n 0, 1) := by decide +kernel
theorem dX11_byteAt_11 : decode cX11_byteAt 11 = .ok (.getfield 7, 3) := by decide +kernel
theorem dX11_byteAt_14 : decode cX11_byteAt 14 = .ok (.bipush 60, 2) := by decide +kernel
theorem dX11_byteAt_16 : decode cX11_byteAt 16 = .ok (.iload_n 1, 1) := by decide +kernel
theorem dX11_byteAt_17 : decode cX11_byteAt 17 = .ok (.imul, 1) := by decide +kernel
theorem dX11_byteAt_18 : decode cX11_byteAt 18 = .ok (.iload_n 2, 1) := by decide +kernel
theorem dX11_byteAt_19 : decode cX11_byteAt 19 = .ok (.iadd, 1) := by decide +kernel
theorem dX11_byteAt_20 : decode cX11_byteAt 20 = .ok (.iaload, 1) := by decide +kernel
theorem dX11_byteAt_21 : decode cX11_byteAt 21 = .ok (.goto 4, 3) := by decide +kernel
theorem dX11_byteAt_24 : decode cX11_byteAt 24 = .ok (.iconst (-1), 1) := by decide +kernel
theorem dX11_byteAt_25 : decode cX11_byteAt 25 = .ok (.ireturn, 1) := by decide +kernel
theorem dX11_isFigure_0 : decode cX11_isFigure 0 = .ok (.iload_n 0, 1) := by decide +kernel
theorem dX11_isFigure_1 : decode cX11_isFigure 1 = .ok (.bipush 48, 2) := by decide +kernel
theorem dX11_isFigure_3 : decode cX11_isFigure 3 = .ok (.if_icmp .lt 13, 3) := by decide +kernel
theorem dX11_isFigure_6 : decode cX11_isFigure 6 = .ok (.iload_n 0, 1) := by decide +kernel
theorem dX11_isFigure_7 : decode cX11_isFigure 7 = .ok (.bipush 57, 2) := by decide +kernel
theorem dX11_isFigure_9 : decode cX11_isFigure 9 = .ok (.if_icmp .gt 7, 3) := by decide +kernel
theorem dX11_isFigure_12 : decode cX11_isFigure 12 = .ok (.iconst 1, 1) := by decide +kernel
theorem dX11_isFigure_13 : decode cX11_isFigure 13 = .ok (.goto 4, 3) := by decide +kernel
theorem dX11_isFigure_16 : decode cX11_isFigure 16 = .ok (.iconst 0, 1) := by decide +kernel
theorem dX11_isFigure_17 : decode cX11_isFigure 17 = .ok (.ireturn, 1) := by decide +kernel
theorem dX11_plain_0 : decode cX11_plain 0 = .ok (.aload_n 0, 1) := by decide +kernel
theorem dX11_plain_1 : decode cX11_plain 1 = .ok (.getfield 16, 3) := by decide +kernel
theorem dX11_plain_4 : decode cX11_plain 4 = .ok (.iconst 0, 1) := by decide +kernel
theorem dX11_plain_5 : decode cX11_plain 5 = .ok (.bipush 7, 2) := by decide +kernel
theorem dX11_plain_7 : decode cX11_plain 7 = .ok (.iastore, 1) := by decide +kernel
theorem dX11_plain_8 : decode cX11_plain 8 = .ok (.aload_n 0, 1) := by decide +kernel
theorem dX11_plain_9 : decode cX11_plain 9 = .ok (.getfield 16, 3) := by decide +kernel
theorem dX11_plain_12 : decode cX11_plain 12 = .ok (.iconst 1, 1) := by decide +kernel
theorem dX11_plain_13 : decode cX11_plain 13 = .ok (.bipush 6, 2) := by decide +kernel
theorem dX11_plain_15 : decode cX11_plain 15 = .ok (.iastore, 1) := by decide +kernel
theorem dX11_plain_16 : decode cX11_plain 16 = .ok (.aload_n 0, 1) := by decide +kernel
theorem dX11_plain_17 : decode cX11_plain 17 = .ok (.getfield 16, 3) := by decide +kernel
theorem dX11_plain_20 : decode cX11_plain 20 = .ok (.iconst 2, 1) := by decide +kernel
theorem dX11_plain_21 : decode cX11_plain 21 = .ok (.bipush 10, 2) := by decide +kernel
theorem dX11_plain_23 : decode cX11_plain 23 = .ok (.iastore, 1) := by decide +kernel
theorem dX11_plain_24 : decode cX11_plain 24 = .ok (.aload_n 0, 1) := by decide +kernel
theorem dX11_plain_25 : decode cX11_plain 25 = .ok (.getfield 16, 3) := by decide +kernel
theorem dX11_plain_28 : decode cX11_plain 28 = .ok (.iconst 3, 1) := by decide +kernel
theorem dX11_plain_29 : decode cX11_plain 29 = .ok (.iconst 4, 1) := by decide +kernel
theorem dX11_plain_30 : decode cX11_plain 30 = .ok (.iastore, 1) := by decide +kernel
theorem dX11_plain_31 : decode cX11_plain 31 = .ok (.aload_n 0, 1) := by decide +kernel
theorem dX11_plain_32 : decode cX11_plain 32 = .ok (.getfield 16, 3) := by decide +kernel
theorem dX11_plain_35 : decode cX11_plain 35 = .ok (.iconst 4, 1) := by decide +kernel
theorem dX11_plain_36 : decode cX11_plain 36 = .ok (.iconst 4, 1) := by decide +kernel
theorem dX11_plain_37 : decode cX11_plain 37 = .ok (.iastore, 1) := by decide +kernel
theorem dX11_plain_38 : decode cX11_plain 38 = .ok (.aload_n 0, 1) := by decide +kernel
theorem dX11_plain_39 : decode cX11_plain 39 = .ok (.getfield 16, 3) := by decide +kernel
theorem dX11_plain_42 : decode cX11_plain 42 = .ok (.iconst 5, 1) := by decide +kernel
theorem dX11_plain_43 : decode cX11_plain 43 = .ok (.bipush 12, 2) := by decide +kernel
theorem dX11_plain_45 : decode cX11_plain 45 = .ok (.iastore, 1) := by decide +kernel
theorem dX11_plain_46 : decode cX11_plain 46 = .ok (.aload_n 0, 1) := by decide +kernel
theorem dX11_plain_47 : decode cX11_plain 47 = .ok (.getfield 16, 3) := by decide +kernel
theorem dX11_plain_50 : decode cX11_plain 50 = .ok (.bipush 6, 2) := by decide +kernel
theorem dX11_plain_52 : decode cX11_plain 52 = .ok (.bipush 60, 2) := by decide +kernel
theorem dX11_plain_54 : decode cX11_plain 54 = .ok (.iastore, 1) := by decide +kernel
theorem dX11_plain_55 : decode cX11_plain 55 = .ok (.return_, 1) := by decide +kernel
theorem dX11_letterOf_0 : decode cX11_letterOf 0 = .ok (.iload_n 0, 1) := by decide +kernel
theorem dX11_letterOf_1 : decode cX11_letterOf 1 = .ok (.bipush 112, 2) := by decide +kernel
theorem dX11_letterOf_3 : decode cX11_letterOf 3 = .ok (.if_icmp .ne 7, 3) := by decide +kernel
theorem dX11_letterOf_6 : decode cX11_letterOf 6 = .ok (.iconst 0, 1) := by decide +kernel
theorem dX11_letterOf_7 : decode cX11_letterOf 7 = .ok (.goto 65, 3) := by decide +kernel
theorem dX11_letterOf_10 : decode cX11_letterOf 10 = .ok (.iload_n 0, 1) := by decide +kernel
theorem dX11_letterOf_11 : decode cX11_letterOf 11 = .ok (.bipush 115, 2) := by decide +kernel
theorem dX11_letterOf_13 : decode cX11_letterOf 13 = .ok (.if_icmp .ne 7, 3) := by decide +kernel
theorem dX11_letterOf_16 : decode cX11_letterOf 16 = .ok (.iconst 1, 1) := by decide +kernel
theorem dX11_letterOf_17 : decode cX11_letterOf 17 = .ok (.goto 55, 3) := by decide +kernel
theorem dX11_letterOf_20 : decode cX11_letterOf 20 = .ok (.iload_n 0, 1) := by decide +kernel
theorem dX11_letterOf_21 : decode cX11_letterOf 21 = .ok (.bipush 116, 2) := by decide +kernel
theorem dX11_letterOf_23 : decode cX11_letterOf 23 = .ok (.if_icmp .ne 7, 3) := by decide +kernel
theorem dX11_letterOf_26 : decode cX11_letterOf 26 = .ok (.iconst 2, 1) := by decide +kernel
theorem dX11_letterOf_27 : decode cX11_letterOf 27 = .ok (.goto 45, 3) := by decide +kernel
theorem dX11_letterOf_30 : decode cX11_letterOf 30 = .ok (.iload_n 0, 1) := by decide +kernel
theorem dX11_letterOf_31 : decode cX11_letterOf 31 = .ok (.bipush 100, 2) := by decide +kernel
theorem dX11_letterOf_33 : decode cX11_letterOf 33 = .ok (.if_icmp .ne 7, 3) := by decide +kernel
theorem dX11_letterOf_36 : decode cX11_letterOf 36 = .ok (.iconst 3, 1) := by decide +kernel
theorem dX11_letterOf_37 : decode cX11_letterOf 37 = .ok (.goto 35, 3) := by decide +kernel
theorem dX11_letterOf_40 : decode cX11_letterOf 40 = .ok (.iload_n 0, 1) := by decide +kernel
theorem dX11_letterOf_41 : decode cX11_letterOf 41 = .ok (.bipush 99, 2) := by decide +kernel
theorem dX11_letterOf_43 : decode cX11_letterOf 43 = .ok (.if_icmp .ne 7, 3) := by decide +kernel
theorem dX11_letterOf_46 : decode cX11_letterOf 46 = .ok (.iconst 4, 1) := by decide +kernel
theorem dX11_letterOf_47 : decode cX11_letterOf 47 = .ok (.goto 25, 3) := by decide +kernel
theorem dX11_letterOf_50 : decode cX11_letterOf 50 = .ok (.iload_n 0, 1) := by decide +kernel
theorem dX11_letterOf_51 : decode cX11_letterOf 51 = .ok (.bipush 98, 2) := by decide +kernel
theorem dX11_letterOf_53 : decode cX11_letterOf 53 = .ok (.if_icmp .ne 7, 3) := by decide +kernel
theorem dX11_letterOf_56 : decode cX11_letterOf 56 = .ok (.iconst 5, 1) := by decide +kernel
theorem dX11_letterOf_57 : decode cX11_letterOf 57 = .ok (.goto 15, 3) := by decide +kernel
theorem dX11_letterOf_60 : decode cX11_letterOf 60 = .ok (.iload_n 0, 1) := by decide +kernel
theorem dX11_letterOf_61 : decode cX11_letterOf 61 = .ok (.bipush 109, 2) := by decide +kernel
theorem dX11_letterOf_63 : decode cX11_letterOf 63 = .ok (.if_icmp .ne 8, 3) := by decide +kernel
theorem dX11_letterOf_66 : decode cX11_letterOf 66 = .ok (.bipush 6, 2) := by decide +kernel
theorem dX11_letterOf_68 : decode cX11_letterOf 68 = .ok (.goto 4, 3) := by decide +kernel
theorem dX11_letterOf_71 : decode cX11_letterOf 71 = .ok (.iconst (-1), 1) := by decide +kernel
theorem dX11_letterOf_72 : decode cX11_letterOf 72 = .ok (.ireturn, 1) := by decide +kernel
theorem dX11_mostOf_0 : decode cX11_mostOf 0 = .ok (.iload_n 0, 1) := by decide +kernel
theorem dX11_mostOf_1 : decode cX11_mostOf 1 = .ok (.iconst 2, 1) := by decide +kernel
theorem dX11_mostOf_2 : decode cX11_mostOf 2 = .ok (.if_icmp .ne 8, 3) := by decide +kernel
theorem dX11_mostOf_5 : decode cX11_mostOf 5 = .ok (.bipush 20, 2) := by decide +kernel
theorem dX11_mostOf_7 : decode cX11_mostOf 7 = .ok (.goto 26, 3) := by decide +kernel
theorem dX11_mostOf_10 : decode cX11_mostOf 10 = .ok (.iload_n 0, 1) := by decide +kernel
theorem dX11_mostOf_11 : decode cX11_mostOf 11 = .ok (.iconst 5, 1) := by decide +kernel
theorem dX11_mostOf_12 : decode cX11_mostOf 12 = .ok (.if_icmp .ne 8, 3) := by decide +kernel
theorem dX11_mostOf_15 : decode cX11_mostOf 15 = .ok (.bipush 30, 2) := by decide +kernel
theorem dX11_mostOf_17 : decode cX11_mostOf 17 = .ok (.goto 16, 3) := by decide +kernel
theorem dX11_mostOf_20 : decode cX11_mostOf 20 = .ok (.iload_n 0, 1) := by decide +kernel
theorem dX11_mostOf_21 : decode cX11_mostOf 21 = .ok (.bipush 6, 2) := by decide +kernel
theorem dX11_mostOf_23 : decode cX11_mostOf 23 = .ok (.if_icmp .ne 8, 3) := by decide +kernel
theorem dX11_mostOf_26 : decode cX11_mostOf 26 = .ok (.bipush 99, 2) := by decide +kernel
theorem dX11_mostOf_28 : decode cX11_mostOf 28 = .ok (.goto 5, 3) := by decide +kernel
theorem dX11_mostOf_31 : decode cX11_mostOf 31 = .ok (.bipush 9, 2) := by decide +kernel
theorem dX11_mostOf_33 : decode cX11_mostOf 33 = .ok (.ireturn, 1) := by decide +kernel
theorem dX11_motorFault_0 : decode cX11_motorFault 0 = .ok (.aload_n 0, 1) := by decide +kernel
theorem dX11_motorFault_1 : decode cX11_motorFault 1 = .ok (.invokevirtual 76, 3) := by decide +kernel
theorem dX11_motorFault_4 : decode cX11_motorFault 4 = .ok (.aload_n 0, 1) := by decide +kernel
theorem dX11_motorFault_5 : decode cX11_motorFault 5 = .ok (.iconst 0, 1) := by decide +kernel
theorem dX11_motorFault_6 : decode cX11_motorFault 6 = .ok (.putfield 79, 3) := by decide +kernel
theorem dX11_motorFault_9 : decode cX11_motorFault 9 = .ok (.aload_n 0, 1) := by decide +kernel
theorem dX11_motorFault_10 : decode cX11_motorFault 10 = .ok (.getfield 79, 3) := by decide +kernel
theorem dX11_motorFault_13 : decode cX11_motorFault 13 = .ok (.aload_n 0, 1) := by decide +kernel
theorem dX11_motorFault_14 : decode cX11_motorFault 14 = .ok (.getfield 13, 3) := by decide +kernel
theorem dX11_motorFault_17 : decode cX11_motorFault 17 = .ok (.iconst 0, 1) := by decide +kernel
theorem dX11_motorFault_18 : decode cX11_motorFault 18 = .ok (.iaload, 1) := by decide +kernel
theorem dX11_motorFault_19 : decode cX11_motorFault 19 = .ok (.if_icmp .lt 10, 3) := by decide +kernel
theorem dX11_motorFault_22 : decode cX11_motorFault 22 = .ok (.aload_n 0, 1) := by decide +kernel
theorem dX11_motorFault_23 : decode cX11_motorFault 23 = .ok (.getfield 79, 3) := by decide +kernel
theorem dX11_motorFault_26 : decode cX11_motorFault 26 = .ok (.ifCond .le 171, 3) := by decide +kernel
theorem dX11_motorFault_29 : decode cX11_motorFault 29 = .ok (.aload_n 0, 1) := by decide +kernel
theorem dX11_motorFault_30 : decode cX11_motorFault 30 = .ok (.iconst 0, 1) := by decide +kernel
theorem dX11_motorFault_31 : decode cX11_motorFault 31 = .ok (.aload_n 0, 1) := by decide +kernel
theorem dX11_motorFault_32 : decode cX11_motorFault 32 = .ok (.getfield 79, 3) := by decide +kernel
theorem dX11_motorFault_35 : decode cX11_motorFault 35 = .ok (.invokevirtual 83, 3) := by decide +kernel
theorem dX11_motorFault_38 : decode cX11_motorFault 38 = .ok (.invokestatic 87, 3) := by decide +kernel
theorem dX11_motorFault_41 : decode cX11_motorFault 41 = .ok (.istore_n 1, 1) := by decide +kernel
theorem dX11_motorFault_42 : decode cX11_motorFault 42 = .ok (.iload_n 1, 1) := by decide +kernel
theorem dX11_motorFault_43 : decode cX11_motorFault 43 = .ok (.iconst (-1), 1) := by decide +kernel
theorem dX11_motorFault_44 : decode cX11_motorFault 44 = .ok (.if_icmp .ne 8, 3) := by decide +kernel
theorem dX11_motorFault_47 : decode cX11_motorFault 47 = .ok (.aload_n 0, 1) := by decide +kernel
theorem dX11_motorFault_48 : decode cX11_motorFault 48 = .ok (.getfield 79, 3) := by decide +kernel
theorem dX11_motorFault_51 : decode cX11_motorFault 51 = .ok (.ireturn, 1) := by decide +kernel
theorem dX11_motorFault_52 : decode cX11_motorFault 52 = .ok (.aload_n 0, 1) := by decide +kernel
theorem dX11_motorFault_53 : decode cX11_motorFault 53 = .ok (.dup, 1) := by decide +kernel
theorem dX11_motorFault_54 : decode cX11_motorFault 54 = .ok (.getfield 79, 3) := by decide +kernel
theorem dX11_motorFault_57 : decode cX11_motorFault 57 = .ok (.iconst 1, 1) := by decide +kernel
theorem dX11_motorFault_58 : decode cX11_motorFault 58 = .ok (.iadd, 1) := by decide +kernel
theorem dX11_motorFault_59 : decode cX11_motorFault 59 = .ok (.putfield 79, 3) := by decide +kernel
theorem dX11_motorFault_62 : decode cX11_motorFault 62 = .ok (.aload_n 0, 1) := by decide +kernel
theorem dX11_motorFault_63 : decode cX11_motorFault 63 = .ok (.getfield 79, 3) := by decide +kernel
theorem dX11_motorFault_66 : decode cX11_motorFault 66 = .ok (.istore_n 2, 1) := by decide +kernel
theorem dX11_motorFault_67 : decode cX11_motorFault 67 = .ok (.iconst 0, 1) := by decide +kernel
theorem dX11_motorFault_68 : decode cX11_motorFault 68 = .ok (.istore_n 3, 1) := by decide +kernel
theorem dX11_motorFault_69 : decode cX11_motorFault 69 = .ok (.aload_n 0, 1) := by decide +kernel
theorem dX11_motorFault_70 : decode cX11_motorFault 70 = .ok (.getfield 79, 3) := by decide +kernel
theorem dX11_motorFault_73 : decode cX11_motorFault 73 = .ok (.iload_n 2, 1) := by decide +kernel
theorem dX11_motorFault_74 : decode cX11_motorFault 74 = .ok (.iconst 2, 1) := by decide +kernel
theorem dX11_motorFault_75 : decode cX11_motorFault 75 = .ok (.iadd, 1) := by decide +kernel
theorem dX11_motorFault_76 : decode cX11_motorFault 76 = .ok (.if_icmp .ge 49, 3) := by decide +kernel
theorem dX11_motorFault_79 : decode cX11_motorFault 79 = .ok (.aload_n 0, 1) := by decide +kernel
theorem dX11_motorFault_80 : decode cX11_motorFault 80 = .ok (.iconst 0, 1) := by decide +kernel
theorem dX11_motorFault_81 : decode cX11_motorFault 81 = .ok (.aload_n 0, 1) := by decide +kernel
theorem dX11_motorFault_82 : decode cX11_motorFault 82 = .ok (.getfield 79, 3) := by decide +kernel
theorem dX11_motorFault_85 : decode cX11_motorFault 85 = .ok (.invokevirtual 83, 3) := by decide +kernel
theorem dX11_motorFault_88 : decode cX11_motorFault 88 = .ok (.invokestatic 91, 3) := by decide +kernel
theorem dX11_motorFault_91 : decode cX11_motorFault 91 = .ok (.ifCond .eq 34, 3) := by decide +kernel
theorem dX11_motorFault_94 : decode cX11_motorFault 94 = .ok (.bipush 10, 2) := by decide +kernel
theorem dX11_motorFault_96 : decode cX11_motorFault 96 = .ok (.iload_n 3, 1) := by decide +kernel
theorem dX11_motorFault_97 : decode cX11_motorFault 97 = .ok (.imul, 1) := by decide +kernel
theorem dX11_motorFault_98 : decode cX11_motorFault 98 = .ok (.aload_n 0, 1) := by decide +kernel
theorem dX11_motorFault_99 : decode cX11_motorFault 99 = .ok (.iconst 0, 1) := by decide +kernel
theorem dX11_motorFault_100 : decode cX11_motorFault 100 = .ok (.aload_n 0, 1) := by decide +kernel
theorem dX11_motorFault_101 : decode cX11_motorFault 101 = .ok (.getfield 79, 3) := by decide +kernel
theorem dX11_motorFault_104 : decode cX11_motorFault 104 = .ok (.invokevirtual 83, 3) := by decide +kernel
theorem dX11_motorFault_107 : decode cX11_motorFault 107 = .ok (.iadd, 1) := by decide +kernel
theorem dX11_motorFault_108 : decode cX11_motorFault 108 = .ok (.bipush 48, 2) := by decide +kernel
theorem dX11_motorFault_110 : decode cX11_motorFault 110 = .ok (.isub, 1) := by decide +kernel
theorem dX11_motorFault_111 : decode cX11_motorFault 111 = .ok (.istore_n 3, 1) := by decide +kernel
theorem dX11_motorFault_112 : decode cX11_motorFault 112 = .ok (.aload_n 0, 1) := by decide +kernel
theorem dX11_motorFault_113 : decode cX11_motorFault 113 = .ok (.dup, 1) := by decide +kernel
theorem dX11_motorFault_114 : decode cX11_motorFault 114 = .ok (.getfield 79, 3) := by decide +kernel
theorem dX11_motorFault_117 : decode cX11_motorFault 117 = .ok (.iconst 1, 1) := by decide +kernel
theorem dX11_motorFault_118 : decode cX11_motorFault 118 = .ok (.iadd, 1) := by decide +kernel
theorem dX11_motorFault_119 : decode cX11_motorFault 119 = .ok (.putfield 79, 3) := by decide +kernel
theorem dX11_motorFault_122 : decode cX11_motorFault 122 = .ok (.goto (-53), 3) := by decide +kernel
theorem dX11_motorFault_125 : decode cX11_motorFault 125 = .ok (.aload_n 0, 1) := by decide +kernel
theorem dX11_motorFault_126 : decode cX11_motorFault 126 = .ok (.getfield 79, 3) := by decide +kernel
theorem dX11_motorFault_129 : decode cX11_motorFault 129 = .ok (.iload_n 2, 1) := by decide +kernel
theorem dX11_motorFault_130 : decode cX11_motorFault 130 = .ok (.if_icmp .eq 11, 3) := by decide +kernel
theorem dX11_motorFault_133 : decode cX11_motorFault 133 = .ok (.iload_n 3, 1) := by decide +kernel
theorem dX11_motorFault_134 : decode cX11_motorFault 134 = .ok (.iload_n 1, 1) := by decide +kernel
theorem dX11_motorFault_135 : decode cX11_motorFault 135 = .ok (.invokestatic 94, 3) := by decide +kernel
theorem dX11_motorFault_138 : decode cX11_motorFault 138 = .ok (.if_icmp .le 5, 3) := by decide +kernel
theorem dX11_motorFault_141 : decode cX11_motorFault 141 = .ok (.iload_n 2, 1) := by decide +kernel
theorem dX11_motorFault_142 : decode cX11_motorFault 142 = .ok (.ireturn, 1) := by decide +kernel
theorem dX11_motorFault_143 : decode cX11_motorFault 143 = .ok (.aload_n 0, 1) := by decide +kernel
theorem dX11_motorFault_144 : decode cX11_motorFault 144 = .ok (.getfield 16, 3) := by decide +kernel
theorem dX11_motorFault_147 : decode cX11_motorFault 147 = .ok (.iload_n 1, 1) := by decide +kernel
theorem dX11_motorFault_148 : decode cX11_motorFault 148 = .ok (.iload_n 3, 1) := by decide +kernel
theorem dX11_motorFault_149 : decode cX11_motorFault 149 = .ok (.iastore, 1) := by decide +kernel
theorem dX11_motorFault_150 : decode cX11_motorFault 150 = .ok (.aload_n 0, 1) := by decide +kernel
theorem dX11_motorFault_151 : decode cX11_motorFault 151 = .ok (.getfield 79, 3) := by decide +kernel
theorem dX11_motorFault_154 : decode cX11_motorFault 154 = .ok (.aload_n 0, 1) := by decide +kernel
theorem dX11_motorFault_155 : decode cX11_motorFault 155 = .ok (.getfield 13, 3) := by decide +kernel
theorem dX11_motorFault_158 : decode cX11_motorFault 158 = .ok (.iconst 0, 1) := by decide +kernel
theorem dX11_motorFault_159 : decode cX11_motorFault 159 = .ok (.iaload, 1) := by decide +kernel
theorem dX11_motorFault_160 : decode cX11_motorFault 160 = .ok (.if_icmp .ne 5, 3) := by decide +kernel
theorem dX11_motorFault_163 : decode cX11_motorFault 163 = .ok (.iconst (-1), 1) := by decide +kernel
theorem dX11_motorFault_164 : decode cX11_motorFault 164 = .ok (.ireturn, 1) := by decide +kernel
theorem dX11_motorFault_165 : decode cX11_motorFault 165 = .ok (.aload_n 0, 1) := by decide +kernel
theorem dX11_motorFault_166 : decode cX11_motorFault 166 = .ok (.iconst 0, 1) := by decide +kernel
theorem dX11_motorFault_167 : decode cX11_motorFault 167 = .ok (.aload_n 0, 1) := by decide +kernel
theorem dX11_motorFault_168 : decode cX11_motorFault 168 = .ok (.getfield 79, 3) := by decide +kernel
theorem dX11_motorFault_171 : decode cX11_motorFault 171 = .ok (.invokevirtual 83, 3) := by decide +kernel
theorem dX11_motorFault_174 : decode cX11_motorFault 174 = .ok (.bipush 59, 2) := by decide +kernel
theorem dX11_motorFault_176 : decode cX11_motorFault 176 = .ok (.if_icmp .eq 8, 3) := by decide +kernel
theorem dX11_motorFault_179 : decode cX11_motorFault 179 = .ok (.aload_n 0, 1) := by decide +kernel
theorem dX11_motorFault_180 : decode cX11_motorFault 180 = .ok (.getfield 79, 3) := by decide +kernel
theorem dX11_motorFault_183 : decode cX11_motorFault 183 = .ok (.ireturn, 1) := by decide +kernel
theorem dX11_motorFault_184 : decode cX11_motorFault 184 = .ok (.aload_n 0, 1) := by decide +kernel
theorem dX11_motorFault_185 : decode cX11_motorFault 185 = .ok (.dup, 1) := by decide +kernel
theorem dX11_motorFault_186 : decode cX11_motorFault 186 = .ok (.getfield 79, 3) := by decide +kernel
theorem dX11_motorFault_189 : decode cX11_motorFault 189 = .ok (.iconst 1, 1) := by decide +kernel
theorem dX11_motorFault_190 : decode cX11_motorFault 190 = .ok (.iadd, 1) := by decide +kernel
theorem dX11_motorFault_191 : decode cX11_motorFault 191 = .ok (.putfield 79, 3) := by decide +kernel
theorem dX11_motorFault_194 : decode cX11_motorFault 194 = .ok (.goto (-185), 3) := by decide +kernel
theorem dX11_motorFault_197 : decode cX11_motorFault 197 = .ok (.iconst (-1), 1) := by decide +kernel
theorem dX11_motorFault_198 : decode cX11_motorFault 198 = .ok (.ireturn, 1) := by decide +kernel
