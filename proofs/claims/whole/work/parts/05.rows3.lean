theorem dX9_isIn_6 : decode cX9_isIn 6 = .ok (.iload_n 2, 1) := by decide +kernel
theorem dX9_isIn_7 : decode cX9_isIn 7 = .ok (.if_icmp .gt 7, 3) := by decide +kernel
theorem dX9_isIn_10 : decode cX9_isIn 10 = .ok (.iconst 1, 1) := by decide +kernel
theorem dX9_isIn_11 : decode cX9_isIn 11 = .ok (.goto 4, 3) := by decide +kernel
theorem dX9_isIn_14 : decode cX9_isIn 14 = .ok (.iconst 0, 1) := by decide +kernel
theorem dX9_isIn_15 : decode cX9_isIn 15 = .ok (.ireturn, 1) := by decide +kernel
theorem dX9_isOf_0 : decode cX9_isOf 0 = .ok (.iload_n 1, 1) := by decide +kernel
theorem dX9_isOf_1 : decode cX9_isOf 1 = .ok (.iload_n 0, 1) := by decide +kernel
theorem dX9_isOf_2 : decode cX9_isOf 2 = .ok (.ishr, 1) := by decide +kernel
theorem dX9_isOf_3 : decode cX9_isOf 3 = .ok (.iconst 1, 1) := by decide +kernel
theorem dX9_isOf_4 : decode cX9_isOf 4 = .ok (.iand, 1) := by decide +kernel
theorem dX9_isOf_5 : decode cX9_isOf 5 = .ok (.ifCond .eq 7, 3) := by decide +kernel
theorem dX9_isOf_8 : decode cX9_isOf 8 = .ok (.iconst 1, 1) := by decide +kernel
theorem dX9_isOf_9 : decode cX9_isOf 9 = .ok (.goto 4, 3) := by decide +kernel
theorem dX9_isOf_12 : decode cX9_isOf 12 = .ok (.iconst 0, 1) := by decide +kernel
theorem dX9_isOf_13 : decode cX9_isOf 13 = .ok (.ireturn, 1) := by decide +kernel
set_option maxRecDepth 20000 in
theorem ggX9_isKm_X9_isIn : GoodIn wsX9_isKm wsX9_isIn := goodIn_r _ [4] (by decide +kernel) (by decide +kernel)
set_option maxRecDepth 20000 in
theorem gX9_isKm_X9_isIn : GoodIn wsX9_isKm (va_wsS RX9 62 yX9_isIn wsX9_isIn) := goodIn_app (goodIn_of _ (by decide +kernel)) ggX9_isKm_X9_isIn
theorem dX9_isKm_0 : decode cX9_isKm 0 = .ok (.iload_n 0, 1) := by decide +kernel
theorem dX9_isKm_1 : decode cX9_isKm 1 = .ok (.iconst 0, 1) := by decide +kernel
theorem dX9_isKm_2 : decode cX9_isKm 2 = .ok (.bipush 69, 2) := by decide +kernel
theorem dX9_isKm_4 : decode cX9_isKm 4 = .ok (.invokestatic 62, 3) := by decide +kernel
theorem dX9_isKm_7 : decode cX9_isKm 7 = .ok (.ireturn, 1) := by decide +kernel
theorem dX9_isUnder_0 : decode cX9_isUnder 0 = .ok (.iload_n 0, 1) := by decide +kernel
theorem dX9_isUnder_1 : decode cX9_isUnder 1 = .ok (.istore_n 2, 1) := by decide +kernel
theorem dX9_isUnder_2 : decode cX9_isUnder 2 = .ok (.iconst 0, 1) := by decide +kernel
theorem dX9_isUnder_3 : decode cX9_isUnder 3 = .ok (.istore_n 3, 1) := by decide +kernel
theorem dX9_isUnder_4 : decode cX9_isUnder 4 = .ok (.iload_n 3, 1) := by decide +kernel
theorem dX9_isUnder_5 : decode cX9_isUnder 5 = .ok (.bipush 7, 2) := by decide +kernel
theorem dX9_isUnder_7 : decode cX9_isUnder 7 = .ok (.if_icmp .ge 27, 3) := by decide +kernel
theorem dX9_isUnder_10 : decode cX9_isUnder 10 = .ok (.iload_n 2, 1) := by decide +kernel
theorem dX9_isUnder_11 : decode cX9_isUnder 11 = .ok (.iconst (-1), 1) := by decide +kernel
theorem dX9_isUnder_12 : decode cX9_isUnder 12 = .ok (.if_icmp .eq 22, 3) := by decide +kernel
theorem dX9_isUnder_15 : decode cX9_isUnder 15 = .ok (.iload_n 2, 1) := by decide +kernel
theorem dX9_isUnder_16 : decode cX9_isUnder 16 = .ok (.iload_n 1, 1) := by decide +kernel
theorem dX9_isUnder_17 : decode cX9_isUnder 17 = .ok (.if_icmp .ne 5, 3) := by decide +kernel
theorem dX9_isUnder_20 : decode cX9_isUnder 20 = .ok (.iconst 1, 1) := by decide +kernel
theorem dX9_isUnder_21 : decode cX9_isUnder 21 = .ok (.ireturn, 1) := by decide +kernel
theorem dX9_isUnder_22 : decode cX9_isUnder 22 = .ok (.getstatic 300, 3) := by decide +kernel
theorem dX9_isUnder_25 : decode cX9_isUnder 25 = .ok (.iload_n 2, 1) := by decide +kernel
theorem dX9_isUnder_26 : decode cX9_isUnder 26 = .ok (.iaload, 1) := by decide +kernel
theorem dX9_isUnder_27 : decode cX9_isUnder 27 = .ok (.istore_n 2, 1) := by decide +kernel
theorem dX9_isUnder_28 : decode cX9_isUnder 28 = .ok (.iinc 3 1, 3) := by decide +kernel
theorem dX9_isUnder_31 : decode cX9_isUnder 31 = .ok (.goto (-27), 3) := by decide +kernel
theorem dX9_isUnder_34 : decode cX9_isUnder 34 = .ok (.iconst 0, 1) := by decide +kernel
theorem dX9_isUnder_35 : decode cX9_isUnder 35 = .ok (.ireturn, 1) := by decide +kernel
theorem dX9_held_0 : decode cX9_held 0 = .ok (.iconst 0, 1) := by decide +kernel
theorem dX9_held_1 : decode cX9_held 1 = .ok (.iload_n 0, 1) := by decide +kernel
theorem dX9_held_2 : decode cX9_held 2 = .ok (.iload_n 1, 1) := by decide +kernel
theorem dX9_held_3 : decode cX9_held 3 = .ok (.invokestatic 303, 3) := by decide +kernel
theorem dX9_held_6 : decode cX9_held 6 = .ok (.invokestatic 308, 3) := by decide +kernel
theorem dX9_held_9 : decode cX9_held 9 = .ok (.ireturn, 1) := by decide +kernel
theorem dX9_columnsFrom_0 : decode cX9_columnsFrom 0 = .ok (.iconst 1, 1) := by decide +kernel
theorem dX9_columnsFrom_1 : decode cX9_columnsFrom 1 = .ok (.iload_n 1, 1) := by decide +kernel
theorem dX9_columnsFrom_2 : decode cX9_columnsFrom 2 = .ok (.ishl, 1) := by decide +kernel
theorem dX9_columnsFrom_3 : decode cX9_columnsFrom 3 = .ok (.iconst 1, 1) := by decide +kernel
theorem dX9_columnsFrom_4 : decode cX9_columnsFrom 4 = .ok (.isub, 1) := by decide +kernel
theorem dX9_columnsFrom_5 : decode cX9_columnsFrom 5 = .ok (.iload_n 0, 1) := by decide +kernel
theorem dX9_columnsFrom_6 : decode cX9_columnsFrom 6 = .ok (.ishl, 1) := by decide +kernel
theorem dX9_columnsFrom_7 : decode cX9_columnsFrom 7 = .ok (.ireturn, 1) := by decide +kernel
set_option maxRecDepth 20000 in
theorem ggX9_freeEnd_X9_columnsFrom : GoodIn wsX9_freeEnd wsX9_columnsFrom := goodIn_r _ [5] (by decide +kernel) (by decide +kernel)
set_option maxRecDepth 20000 in
theorem gX9_freeEnd_X9_columnsFrom : GoodIn wsX9_freeEnd (va_wsS RX9 74 yX9_columnsFrom wsX9_columnsFrom) := goodIn_app (goodIn_of _ (by decide +kernel)) ggX9_freeEnd_X9_columnsFrom
theorem dX9_freeEnd_0 : decode cX9_freeEnd 0 = .ok (.iload_n 1, 1) := by decide +kernel
theorem dX9_freeEnd_1 : decode cX9_freeEnd 1 = .ok (.istore_n 3, 1) := by decide +kernel
theorem dX9_freeEnd_2 : decode cX9_freeEnd 2 = .ok (.iload_n 3, 1) := by decide +kernel
theorem dX9_freeEnd_3 : decode cX9_freeEnd 3 = .ok (.iload_n 2, 1) := by decide +kernel
theorem dX9_freeEnd_4 : decode cX9_freeEnd 4 = .ok (.iadd, 1) := by decide +kernel
theorem dX9_freeEnd_5 : decode cX9_freeEnd 5 = .ok (.bipush 12, 2) := by decide +kernel
theorem dX9_freeEnd_7 : decode cX9_freeEnd 7 = .ok (.if_icmp .gt 23, 3) := by decide +kernel
theorem dX9_freeEnd_10 : decode cX9_freeEnd 10 = .ok (.iload_n 0, 1) := by decide +kernel
theorem dX9_freeEnd_11 : decode cX9_freeEnd 11 = .ok (.iload_n 3, 1) := by decide +kernel
theorem dX9_freeEnd_12 : decode cX9_freeEnd 12 = .ok (.iload_n 2, 1) := by decide +kernel
theorem dX9_freeEnd_13 : decode cX9_freeEnd 13 = .ok (.invokestatic 74, 3) := by decide +kernel
theorem dX9_freeEnd_16 : decode cX9_freeEnd 16 = .ok (.iand, 1) := by decide +kernel
theorem dX9_freeEnd_17 : decode cX9_freeEnd 17 = .ok (.ifCond .ne 7, 3) := by decide +kernel
theorem dX9_freeEnd_20 : decode cX9_freeEnd 20 = .ok (.iload_n 3, 1) := by decide +kernel
theorem dX9_freeEnd_21 : decode cX9_freeEnd 21 = .ok (.iload_n 2, 1) := by decide +kernel
theorem dX9_freeEnd_22 : decode cX9_freeEnd 22 = .ok (.iadd, 1) := by decide +kernel
theorem dX9_freeEnd_23 : decode cX9_freeEnd 23 = .ok (.ireturn, 1) := by decide +kernel
theorem dX9_freeEnd_24 : decode cX9_freeEnd 24 = .ok (.iinc 3 1, 3) := by decide +kernel
theorem dX9_freeEnd_27 : decode cX9_freeEnd 27 = .ok (.goto (-25), 3) := by decide +kernel
theorem dX9_freeEnd_30 : decode cX9_freeEnd 30 = .ok (.ldc_w 311, 3) := by decide +kernel
theorem dX9_freeEnd_33 : decode cX9_freeEnd 33 = .ok (.ireturn, 1) := by decide +kernel
set_option maxRecDepth 20000 in
theorem ggX9_longestFree_X9_freeEnd : GoodIn wsX9_longestFree wsX9_freeEnd := goodIn_r _ [5, 1, 6, 7, 4, 8] (by decide +kernel) (by decide +kernel)
set_option maxRecDepth 20000 in
theorem gX9_longestFree_X9_freeEnd : GoodIn wsX9_longestFree (va_wsS RX9 202 yX9_freeEnd wsX9_freeEnd) := goodIn_app (goodIn_of _ (by decide +kernel)) ggX9_longestFree_X9_freeEnd
theorem dX9_longestFree_0 : decode cX9_longestFree 0 = .ok (.bipush 12, 2) := by decide +kernel
theorem dX9_longestFree_2 : decode cX9_longestFree 2 = .ok (.istore_n 1, 1) := by decide +kernel
theorem dX9_longestFree_3 : decode cX9_longestFree 3 = .ok (.iload_n 1, 1) := by decide +kernel
theorem dX9_longestFree_4 : decode cX9_longestFree 4 = .ok (.ifCond .le 23, 3) := by decide +kernel
theorem dX9_longestFree_7 : decode cX9_longestFree 7 = .ok (.iload_n 0, 1) := by decide +kernel
theorem dX9_longestFree_8 : decode cX9_longestFree 8 = .ok (.iconst 0, 1) := by decide +kernel
theorem dX9_longestFree_9 : decode cX9_longestFree 9 = .ok (.iload_n 1, 1) := by decide +kernel
theorem dX9_longestFree_10 : decode cX9_longestFree 10 = .ok (.invokestatic 202, 3) := by decide +kernel
theorem dX9_longestFree_13 : decode cX9_longestFree 13 = .ok (.ldc_w 311, 3) := by decide +kernel
theorem dX9_longestFree_16 : decode cX9_longestFree 16 = .ok (.if_icmp .eq 5, 3) := by decide +kernel
theorem dX9_longestFree_19 : decode cX9_longestFree 19 = .ok (.iload_n 1, 1) := by decide +kernel
theorem dX9_longestFree_20 : decode cX9_longestFree 20 = .ok (.ireturn, 1) := by decide +kernel
theorem dX9_longestFree_21 : decode cX9_longestFree 21 = .ok (.iinc 1 (-1), 3) := by decide +kernel
theorem dX9_longestFree_24 : decode cX9_longestFree 24 = .ok (.goto (-21), 3) := by decide +kernel
theorem dX9_longestFree_27 : decode cX9_longestFree 27 = .ok (.iconst 0, 1) := by decide +kernel
theorem dX9_longestFree_28 : decode cX9_longestFree 28 = .ok (.ireturn, 1) := by decide +kernel
theorem dX9_isSet_0 : decode cX9_isSet 0 = .ok (.iconst 0, 1) := by decide +kernel
theorem dX9_isSet_1 : decode cX9_isSet 1 = .ok (.istore_n 2, 1) := by decide +kernel
theorem dX9_isSet_2 : decode cX9_isSet 2 = .ok (.iload_n 2, 1) := by decide +kernel
theorem dX9_isSet_3 : decode cX9_isSet 3 = .ok (.aload_n 0, 1) := by decide +kernel
theorem dX9_isSet_4 : decode cX9_isSet 4 = .ok (.getfield 155, 3) := by decide +kernel
theorem dX9_isSet_7 : decode cX9_isSet 7 = .ok (.if_icmp .ge 25, 3) := by decide +kernel
theorem dX9_isSet_10 : decode cX9_isSet 10 = .ok (.aload_n 0, 1) := by decide +kernel
theorem dX9_isSet_11 : decode cX9_isSet 11 = .ok (.getfield 235, 3) := by decide +kernel
theorem dX9_isSet_14 : decode cX9_isSet 14 = .ok (.iload_n 2, 1) := by decide +kernel
theorem dX9_isSet_15 : decode cX9_isSet 15 = .ok (.iaload, 1) := by decide +kernel
theorem dX9_isSet_16 : decode cX9_isSet 16 = .ok (.iload_n 1, 1) := by decide +kernel
theorem dX9_isSet_17 : decode cX9_isSet 17 = .ok (.iload_n 2, 1) := by decide +kernel
theorem dX9_isSet_18 : decode cX9_isSet 18 = .ok (.ishr, 1) := by decide +kernel
theorem dX9_isSet_19 : decode cX9_isSet 19 = .ok (.iconst 1, 1) := by decide +kernel
theorem dX9_isSet_20 : decode cX9_isSet 20 = .ok (.iand, 1) := by decide +kernel
theorem dX9_isSet_21 : decode cX9_isSet 21 = .ok (.if_icmp .eq 5, 3) := by decide +kernel
theorem dX9_isSet_24 : decode cX9_isSet 24 = .ok (.iconst 0, 1) := by decide +kernel
theorem dX9_isSet_25 : decode cX9_isSet 25 = .ok (.ireturn, 1) := by decide +kernel
theorem dX9_isSet_26 : decode cX9_isSet 26 = .ok (.iinc 2 1, 3) := by decide +kernel
theorem dX9_isSet_29 : decode cX9_isSet 29 = .ok (.goto (-27), 3) := by decide +kernel
theorem dX9_isSet_32 : decode cX9_isSet 32 = .ok (.iconst 1, 1) := by decide +kernel
theorem dX9_isSet_33 : decode cX9_isSet 33 = .ok (.ireturn, 1) := by decide +kernel
theorem dX9_sharedDivisor_0 : decode cX9_sharedDivisor 0 = .ok (.lload_n 0, 1) := by decide +kernel
theorem dX9_sharedDivisor_1 : decode cX9_sharedDivisor 1 = .ok (.lstore 4, 2) := by decide +kernel
theorem dX9_sharedDivisor_3 : decode cX9_sharedDivisor 3 = .ok (.lload_n 2, 1) := by decide +kernel
theorem dX9_sharedDivisor_4 : decode cX9_sharedDivisor 4 = .ok (.lstore 6, 2) := by decide +kernel
theorem dX9_sharedDivisor_6 : decode cX9_sharedDivisor 6 = .ok (.iconst 0, 1) := by decide +kernel
theorem dX9_sharedDivisor_7 : decode cX9_sharedDivisor 7 = .ok (.istore 8, 2) := by decide +kernel
theorem dX9_sharedDivisor_9 : decode cX9_sharedDivisor 9 = .ok (.iload 8, 2) := by decide +kernel
theorem dX9_sharedDivisor_11 : decode cX9_sharedDivisor 11 = .ok (.sipush 1000, 3) := by decide +kernel
theorem dX9_sharedDivisor_14 : decode cX9_sharedDivisor 14 = .ok (.if_icmp .ge 31, 3) := by decide +kernel
theorem dX9_sharedDivisor_17 : decode cX9_sharedDivisor 17 = .ok (.lload 6, 2) := by decide +kernel
theorem dX9_sharedDivisor_19 : decode cX9_sharedDivisor 19 = .ok (.lconst 0, 1) := by decide +kernel
theorem dX9_sharedDivisor_20 : decode cX9_sharedDivisor 20 = .ok (.lcmp, 1) := by decide +kernel
theorem dX9_sharedDivisor_21 : decode cX9_sharedDivisor 21 = .ok (.ifCond .eq 24, 3) := by decide +kernel
theorem dX9_sharedDivisor_24 : decode cX9_sharedDivisor 24 = .ok (.lload 4, 2) := by decide +kernel
theorem dX9_sharedDivisor_26 : decode cX9_sharedDivisor 26 = .ok (.lload 6, 2) := by decide +kernel
theorem dX9_sharedDivisor_28 : decode cX9_sharedDivisor 28 = .ok (.lrem, 1) := by decide +kernel
theorem dX9_sharedDivisor_29 : decode cX9_sharedDivisor 29 = .ok (.lstore 9, 2) := by decide +kernel
theorem dX9_sharedDivisor_31 : decode cX9_sharedDivisor 31 = .ok (.lload 6, 2) := by decide +kernel
theorem dX9_sharedDivisor_33 : decode cX9_sharedDivisor 33 = .ok (.lstore 4, 2) := by decide +kernel
theorem dX9_sharedDivisor_35 : decode cX9_sharedDivisor 35 = .ok (.lload 9, 2) := by decide +kernel
theorem dX9_sharedDivisor_37 : decode cX9_sharedDivisor 37 = .ok (.lstore 6, 2) := by decide +kernel
theorem dX9_sharedDivisor_39 : decode cX9_sharedDivisor 39 = .ok (.iinc 8 1, 3) := by decide +kernel
theorem dX9_sharedDivisor_42 : decode cX9_sharedDivisor 42 = .ok (.goto (-33), 3) := by decide +kernel
theorem dX9_sharedDivisor_45 : decode cX9_sharedDivisor 45 = .ok (.lload 4, 2) := by decide +kernel
theorem dX9_sharedDivisor_47 : decode cX9_sharedDivisor 47 = .ok (.lreturn, 1) := by decide +kernel
theorem dX10_init_0 : decode cX10_init 0 = .ok (.aload_n 0, 1) := by decide +kernel
theorem dX10_init_1 : decode cX10_init 1 = .ok (.invokespecial 3, 3) := by decide +kernel
theorem dX10_init_4 : decode cX10_init 4 = .ok (.aload_n 0, 1) := by decide +kernel
theorem dX10_init_5 : decode cX10_init 5 = .ok (.sipush 408, 3) := by decide +kernel
theorem dX10_init_8 : decode cX10_init 8 = .ok (.newarray .int, 2) := by decide +kernel
theorem dX10_init_10 : decode cX10_init 10 = .ok (.putfield 9, 3) := by decide +kernel
theorem dX10_init_13 : decode cX10_init 13 = .ok (.aload_n 0, 1) := by decide +kernel
theorem dX10_init_14 : decode cX10_init 14 = .ok (.sipush 408, 3) := by decide +kernel
theorem dX10_init_17 : decode cX10_init 17 = .ok (.newarray .int, 2) := by decide +kernel
theorem dX10_init_19 : decode cX10_init 19 = .ok (.putfield 13, 3) := by decide +kernel
theorem dX10_init_22 : decode cX10_init 22 = .ok (.aload_n 0, 1) := by decide +kernel
theorem dX10_init_23 : decode cX10_init 23 = .ok (.sipush 408, 3) := by decide +kernel
theorem dX10_init_26 : decode cX10_init 26 = .ok (.newarray .int, 2) := by decide +kernel
theorem dX10_init_28 : decode cX10_init 28 = .ok (.putfield 16, 3) := by decide +kernel
theorem dX10_init_31 : decode cX10_init 31 = .ok (.aload_n 0, 1) := by decide +kernel
theorem dX10_init_32 : decode cX10_init 32 = .ok (.bipush 7, 2) := by decide +kernel
theorem dX10_init_34 : decode cX10_init 34 = .ok (.newarray .int, 2) := by decide +kernel
theorem dX10_init_36 : decode cX10_init 36 = .ok (.putfield 19, 3) := by decide +kernel
theorem dX10_init_39 : decode cX10_init 39 = .ok (.aload_n 0, 1) := by decide +kernel
theorem dX10_init_40 : decode cX10_init 40 = .ok (.iconst 4, 1) := by decide +kernel
theorem dX10_init_41 : decode cX10_init 41 = .ok (.newarray .int, 2) := by decide +kernel
theorem dX10_init_43 : decode cX10_init 43 = .ok (.putfield 22, 3) := by decide +kernel
theorem dX10_init_46 : decode cX10_init 46 = .ok (.aload_n 0, 1) := by decide +kernel
theorem dX10_init_47 : decode cX10_init 47 = .ok (.iconst 4, 1) := by decide +kernel
theorem dX10_init_48 : decode cX10_init 48 = .ok (.newarray .int, 2) := by decide +kernel
theorem dX10_init_50 : decode cX10_init 50 = .ok (.putfield 25, 3) := by decide +kernel
theorem dX10_init_53 : decode cX10_init 53 = .ok (.aload_n 0, 1) := by decide +kernel
theorem dX10_init_54 : decode cX10_init 54 = .ok (.bipush 96, 2) := by decide +kernel
theorem dX10_init_56 : decode cX10_init 56 = .ok (.newarray .int, 2) := by decide +kernel
theorem dX10_init_58 : decode cX10_init 58 = .ok (.putfield 28, 3) := by decide +kernel
theorem dX10_init_61 : decode cX10_init 61 = .ok (.aload_n 0, 1) := by decide +kernel
theorem dX10_init_62 : decode cX10_init 62 = .ok (.bipush 60, 2) := by decide +kernel
theorem dX10_init_64 : decode cX10_init 64 = .ok (.newarray .int, 2) := by decide +kernel
theorem dX10_init_66 : decode cX10_init 66 = .ok (.putfield 31, 3) := by decide +kernel
theorem dX10_init_69 : decode cX10_init 69 = .ok (.aload_n 0, 1) := by decide +kernel
theorem dX10_init_70 : decode cX10_init 70 = .ok (.bipush 60, 2) := by decide +kernel
theorem dX10_init_72 : decode cX10_init 72 = .ok (.newarray .int, 2) := by decide +kernel
theorem dX10_init_74 : decode cX10_init 74 = .ok (.putfield 34, 3) := by decide +kernel
theorem dX10_init_77 : decode cX10_init 77 = .ok (.aload_n 0, 1) := by decide +kernel
theorem dX10_init_78 : decode cX10_init 78 = .ok (.iconst 3, 1) := by decide +kernel
theorem dX10_init_79 : decode cX10_init 79 = .ok (.newarray .int, 2) := by decide +kernel
theorem dX10_init_81 : decode cX10_init 81 = .ok (.putfield 37, 3) := by decide +kernel
theorem dX10_init_84 : decode cX10_init 84 = .ok (.aload_n 0, 1) := by decide +kernel
theorem dX10_init_85 : decode cX10_init 85 = .ok (.bipush 60, 2) := by decide +kernel
theorem dX10_init_87 : decode cX10_init 87 = .ok (.newarray .int, 2) := by decide +kernel
theorem dX10_init_89 : decode cX10_init 89 = .ok (.putfield 40, 3) := by decide +kernel
theorem dX10_init_92 : decode cX10_init 92 = .ok (.aload_n 0, 1) := by decide +kernel
theorem dX10_init_93 : decode cX10_init 93 = .ok (.bipush 12, 2) := by decide +kernel
theorem dX10_init_95 : decode cX10_init 95 = .ok (.newarray .int, 2) := by decide +kernel
theorem dX10_init_97 : decode cX10_init 97 = .ok (.putfield 43, 3) := by decide +kernel
theorem dX10_init_100 : decode cX10_init 100 = .ok (.aload_n 0, 1) := by decide +kernel
theorem dX10_init_101 : decode cX10_init 101 = .ok (.bipush 30, 2) := by decide +kernel
theorem dX10_init_103 : decode cX10_init 103 = .ok (.newarray .int, 2) := by decide +kernel
theorem dX10_init_105 : decode cX10_init 105 = .ok (.putfield 46, 3) := by decide +kernel
theorem dX10_init_108 : decode cX10_init 108 = .ok (.aload_n 0, 1) := by decide +kernel
theorem dX10_init_109 : decode cX10_init 109 = .ok (.getfield 9, 3) := by decide +kernel
theorem dX10_init_112 : decode cX10_init 112 = .ok (.iconst 1, 1) := by decide +kernel
theorem dX10_init_113 : decode cX10_init 113 = .ok (.iconst 1, 1) := by decide +kernel
theorem dX10_init_114 : decode cX10_init 114 = .ok (.iastore, 1) := by decide +kernel
theorem dX10_init_115 : decode cX10_init 115 = .ok (.iconst 0, 1) := by decide +kernel
theorem dX10_init_116 : decode cX10_init 116 = .ok (.istore_n 1, 1) := by decide +kernel
theorem dX10_init_117 : decode cX10_init 117 = .ok (.iload_n 1, 1) := by decide +kernel
theorem dX10_init_118 : decode cX10_init 118 = .ok (.iconst 5, 1) := by decide +kernel
theorem dX10_init_119 : decode cX10_init 119 = .ok (.if_icmp .ge 20, 3) := by decide +kernel
theorem dX10_init_122 : decode cX10_init 122 = .ok (.aload_n 0, 1) := by decide +kernel
theorem dX10_init_123 : decode cX10_init 123 = .ok (.getfield 9, 3) := by decide +kernel
theorem dX10_init_126 : decode cX10_init 126 = .ok (.bipush 7, 2) := by decide +kernel
theorem dX10_init_128 : decode cX10_init 128 = .ok (.iload_n 1, 1) := by decide +kernel
theorem dX10_init_129 : decode cX10_init 129 = .ok (.iadd, 1) := by decide +kernel
theorem dX10_init_130 : decode cX10_init 130 = .ok (.bipush 40, 2) := by decide +kernel
theorem dX10_init_132 : decode cX10_init 132 = .ok (.iastore, 1) := by decide +kernel
theorem dX10_init_133 : decode cX10_init 133 = .ok (.iinc 1 1, 3) := by decide +kernel
theorem dX10_init_136 : decode cX10_init 136 = .ok (.goto (-19), 3) := by decide +kernel
theorem dX10_init_139 : decode cX10_init 139 = .ok (.return_, 1) := by decide +kernel
theorem dX10_error_0 : decode cX10_error 0 = .ok (.aload_n 0, 1) := by decide +kernel
theorem dX10_error_1 : decode cX10_error 1 = .ok (.getfield 19, 3) := by decide +kernel
theorem dX10_error_4 : decode cX10_error 4 = .ok (.ldc 49, 2) := by decide +kernel
theorem dX10_error_6 : decode cX10_error 6 = .ok (.iload_n 1, 1) := by decide +kernel
theorem dX10_error_7 : decode cX10_error 7 = .ok (.isub, 1) := by decide +kernel
theorem dX10_error_8 : decode cX10_error 8 = .ok (.dup2, 1) := by decide +kernel
theorem dX10_error_9 : decode cX10_error 9 = .ok (.iaload, 1) := by decide +kernel
theorem dX10_error_10 : decode cX10_error 10 = .ok (.iconst 1, 1) := by decide +kernel
theorem dX10_error_11 : decode cX10_error 11 = .ok (.iadd, 1) := by decide +kernel
theorem dX10_error_12 : decode cX10_error 12 = .ok (.iastore, 1) := by decide +kernel
theorem dX10_error_13 : decode cX10_error 13 = .ok (.iload_n 1, 1) := by decide +kernel
theorem dX10_error_14 : decode cX10_error 14 = .ok (.ireturn, 1) := by decide +kernel
theorem dX10_in_0 : decode cX10_in 0 = .ok (.iload_n 0, 1) := by decide +kernel
theorem dX10_in_1 : decode cX10_in 1 = .ok (.iload_n 1, 1) := by decide +kernel
theorem dX10_in_2 : decode cX10_in 2 = .ok (.if_icmp .lt 12, 3) := by decide +kernel
theorem dX10_in_5 : decode cX10_in 5 = .ok (.iload_n 0, 1) := by decide +kernel
theorem dX10_in_6 : decode cX10_in 6 = .ok (.iload_n 2, 1) := by decide +kernel
theorem dX10_in_7 : decode cX10_in 7 = .ok (.if_icmp .gt 7, 3) := by decide +kernel
theorem dX10_in_10 : decode cX10_in 10 = .ok (.iconst 1, 1) := by decide +kernel
theorem dX10_in_11 : decode cX10_in 11 = .ok (.goto 4, 3) := by decide +kernel
theorem dX10_in_14 : decode cX10_in 14 = .ok (.iconst 0, 1) := by decide +kernel
theorem dX10_in_15 : decode cX10_in 15 = .ok (.ireturn, 1) := by decide +kernel
theorem dX10_held_0 : decode cX10_held 0 = .ok (.iload_n 0, 1) := by decide +kernel
theorem dX10_held_1 : decode cX10_held 1 = .ok (.iload_n 1, 1) := by decide +kernel
theorem dX10_held_2 : decode cX10_held 2 = .ok (.if_icmp .ge 7, 3) := by decide +kernel
theorem dX10_held_5 : decode cX10_held 5 = .ok (.iload_n 1, 1) := by decide +kernel
theorem dX10_held_6 : decode cX10_held 6 = .ok (.goto 13, 3) := by decide +kernel
theorem dX10_held_9 : decode cX10_held 9 = .ok (.iload_n 0, 1) := by decide +kernel
theorem dX10_held_10 : decode cX10_held 10 = .ok (.iload_n 2, 1) := by decide +kernel
theorem dX10_held_11 : decode cX10_held 11 = .ok (.if_icmp .le 7, 3) := by decide +kernel
theorem dX10_held_14 : decode cX10_held 14 = .ok (.iload_n 2, 1) := by decide +kernel
theorem dX10_held_15 : decode cX10_held 15 = .ok (.goto 4, 3) := by decide +kernel
theorem dX10_held_18 : decode cX10_held 18 = .ok (.iload_n 0, 1) := by decide +kernel
theorem dX10_held_19 : decode cX10_held 19 = .ok (.ireturn, 1) := by decide +kernel
theorem dX10_copyAll_0 : decode cX10_copyAll 0 = .ok (.iconst 0, 1) := by decide +kernel
theorem dX10_copyAll_1 : decode cX10_copyAll 1 = .ok (.istore_n 2, 1) := by decide +kernel
theorem dX10_copyAll_2 : decode cX10_copyAll 2 = .ok (.iload_n 2, 1) := by decide +kernel
theorem dX10_copyAll_3 : decode cX10_copyAll 3 = .ok (.sipush 408, 3) := by decide +kernel
theorem dX10_copyAll_6 : decode cX10_copyAll 6 = .ok (.if_icmp .ge 15, 3) := by decide +kernel
theorem dX10_copyAll_9 : decode cX10_copyAll 9 = .ok (.aload_n 1, 1) := by decide +kernel
theorem dX10_copyAll_10 : decode cX10_copyAll 10 = .ok (.iload_n 2, 1) := by decide +kernel
theorem dX10_copyAll_11 : decode cX10_copyAll 11 = .ok (.aload_n 0, 1) := by decide +kernel
theorem dX10_copyAll_12 : decode cX10_copyAll 12 = .ok (.iload_n 2, 1) := by decide +kernel
theorem dX10_copyAll_13 : decode cX10_copyAll 13 = .ok (.iaload, 1) := by decide +kernel
theorem dX10_copyAll_14 : decode cX10_copyAll 14 = .ok (.iastore, 1) := by decide +kernel
theorem dX10_copyAll_15 : decode cX10_copyAll 15 = .ok (.iinc 2 1, 3) := by decide +kernel
theorem dX10_copyAll_18 : decode cX10_copyAll 18 = .ok (.goto (-16), 3) := by decide +kernel
theorem dX10_copyAll_21 : decode cX10_copyAll 21 = .ok (.return_, 1) := by decide +kernel
set_option maxRecDepth 20000 in
theorem ggX10_thinks_X10_copyAll : GoodIn wsX10_thinks wsX10_copyAll := goodIn_r _ [6] (by decide +kernel) (by decide +kernel)
set_option maxRecDepth 20000 in
theorem gX10_thinks_X10_copyAll : GoodIn wsX10_thinks (va_wsS RX10 50 yX10_copyAll wsX10_copyAll) := goodIn_app (goodIn_of _ (by decide +kernel)) ggX10_thinks_X10_copyAll
theorem dX10_thinks_0 : decode cX10_thinks 0 = .ok (.aload_n 0, 1) := by decide +kernel
theorem dX10_thinks_1 : decode cX10_thinks 1 = .ok (.getfield 9, 3) := by decide +kernel
theorem dX10_thinks_4 : decode cX10_thinks 4 = .ok (.aload_n 0, 1) := by decide +kernel
theorem dX10_thinks_5 : decode cX10_thinks 5 = .ok (.getfield 16, 3) := by decide +kernel
theorem dX10_thinks_8 : decode cX10_thinks 8 = .ok (.invokestatic 50, 3) := by decide +kernel
theorem dX10_thinks_11 : decode cX10_thinks 11 = .ok (.return_, 1) := by decide +kernel
set_option maxRecDepth 20000 in
theorem ggX10_putsBack_X10_copyAll : GoodIn wsX10_putsBack wsX10_copyAll := goodIn_r _ [6] (by decide +kernel) (by decide +kernel)
set_option maxRecDepth 20000 in
theorem gX10_putsBack_X10_copyAll : GoodIn wsX10_putsBack (va_wsS RX10 50 yX10_copyAll wsX10_copyAll) := goodIn_app (goodIn_of _ (by decide +kernel)) ggX10_putsBack_X10_copyAll
theorem dX10_putsBack_0 : decode cX10_putsBack 0 = .ok (.aload_n 0, 1) := by decide +kernel
theorem dX10_putsBack_1 : decode cX10_putsBack 1 = .ok (.getfield 16, 3) := by decide +kernel
theorem dX10_putsBack_4 : decode cX10_putsBack 4 = .ok (.aload_n 0, 1) := by decide +kernel
theorem dX10_putsBack_5 : decode cX10_putsBack 5 = .ok (.getfield 9, 3) := by decide +kernel
theorem dX10_putsBack_8 : decode cX10_putsBack 8 = .ok (.invokestatic 50, 3) := by decide +kernel
theorem dX10_putsBack_11 : decode cX10_putsBack 11 = .ok (.return_, 1) := by decide +kernel
theorem dX10_bits_0 : decode cX10_bits 0 = .ok (.iconst 0, 1) := by decide +kernel
theorem dX10_bits_1 : decode cX10_bits 1 = .ok (.istore_n 1, 1) := by decide +kernel
theorem dX10_bits_2 : decode cX10_bits 2 = .ok (.iload_n 0, 1) := by decide +kernel
theorem dX10_bits_3 : decode cX10_bits 3 = .ok (.istore_n 2, 1) := by decide +kernel
theorem dX10_bits_4 : decode cX10_bits 4 = .ok (.iload_n 2, 1) := by decide +kernel
theorem dX10_bits_5 : decode cX10_bits 5 = .ok (.ifCond .eq 15, 3) := by decide +kernel
theorem dX10_bits_8 : decode cX10_bits 8 = .ok (.iinc 1 1, 3) := by decide +kernel
theorem dX10_bits_11 : decode cX10_bits 11 = .ok (.iload_n 2, 1) := by decide +kernel
theorem dX10_bits_12 : decode cX10_bits 12 = .ok (.iload_n 2, 1) := by decide +kernel
theorem dX10_bits_13 : decode cX10_bits 13 = .ok (.iconst 1, 1) := by decide +kernel
theorem dX10_bits_14 : decode cX10_bits 14 = .ok (.isub, 1) := by decide +kernel
theorem dX10_bits_15 : decode cX10_bits 15 = .ok (.iand, 1) := by decide +kernel
theorem dX10_bits_16 : decode cX10_bits 16 = .ok (.istore_n 2, 1) := by decide +kernel
theorem dX10_bits_17 : decode cX10_bits 17 = .ok (.goto (-13), 3) := by decide +kernel
theorem dX10_bits_20 : decode cX10_bits 20 = .ok (.iload_n 1, 1) := by decide +kernel
theorem dX10_bits_21 : decode cX10_bits 21 = .ok (.ireturn, 1) := by decide +kernel
set_option maxRecDepth 20000 in
theorem ggX10_isLine_X10_in : GoodIn wsX10_isLine wsX10_in := goodIn_r _ [5] (by decide +kernel) (by decide +kernel)
set_option maxRecDepth 20000 in
theorem gX10_isLine_X10_in : GoodIn wsX10_isLine (va_wsS RX10 54 yX10_in wsX10_in) := goodIn_app (goodIn_of _ (by decide +kernel)) ggX10_isLine_X10_in
theorem dX10_isLine_0 : decode cX10_isLine 0 = .ok (.iload_n 1, 1) := by decide +kernel
theorem dX10_isLine_1 : decode cX10_isLine 1 = .ok (.iconst 0, 1) := by decide +kernel
theorem dX10_isLine_2 : decode cX10_isLine 2 = .ok (.aload_n 0, 1) := by decide +kernel
theorem dX10_isLine_3 : decode cX10_isLine 3 = .ok (.getfield 9, 3) := by decide +kernel
theorem dX10_isLine_6 : decode cX10_isLine 6 = .ok (.iconst 2, 1) := by decide +kernel
theorem dX10_isLine_7 : decode cX10_isLine 7 = .ok (.iaload, 1) := by decide +kernel
theorem dX10_isLine_8 : decode cX10_isLine 8 = .ok (.iconst 1, 1) := by decide +kernel
theorem dX10_isLine_9 : decode cX10_isLine 9 = .ok (.isub, 1) := by decide +kernel
theorem dX10_isLine_10 : decode cX10_isLine 10 = .ok (.invokestatic 54, 3) := by decide +kernel
theorem dX10_isLine_13 : decode cX10_isLine 13 = .ok (.ireturn, 1) := by decide +kernel
theorem dX10_becomes_0 : decode cX10_becomes 0 = .ok (.aload_n 0, 1) := by decide +kernel
theorem dX10_becomes_1 : decode cX10_becomes 1 = .ok (.getfield 9, 3) := by decide +kernel
theorem dX10_becomes_4 : decode cX10_becomes 4 = .ok (.iload_n 1, 1) := by decide +kernel
theorem dX10_becomes_5 : decode cX10_becomes 5 = .ok (.iaload, 1) := by decide +kernel
theorem dX10_becomes_6 : decode cX10_becomes 6 = .ok (.istore_n 3, 1) := by decide +kernel
theorem dX10_becomes_7 : decode cX10_becomes 7 = .ok (.aload_n 0, 1) := by decide +kernel
theorem dX10_becomes_8 : decode cX10_becomes 8 = .ok (.getfield 9, 3) := by decide +kernel
theorem dX10_becomes_11 : decode cX10_becomes 11 = .ok (.iload_n 1, 1) := by decide +kernel
theorem dX10_becomes_12 : decode cX10_becomes 12 = .ok (.iload_n 2, 1) := by decide +kernel
theorem dX10_becomes_13 : decode cX10_becomes 13 = .ok (.iastore, 1) := by decide +kernel
theorem dX10_becomes_14 : decode cX10_becomes 14 = .ok (.iload_n 3, 1) := by decide +kernel
theorem dX10_becomes_15 : decode cX10_becomes 15 = .ok (.ireturn, 1) := by decide +kernel
theorem dX10_it_0 : decode cX10_it 0 = .ok (.aload_n 0, 1) := by decide +kernel
theorem dX10_it_1 : decode cX10_it 1 = .ok (.getfield 9, 3) := by decide +kernel
theorem dX10_it_4 : decode cX10_it 4 = .ok (.bipush 12, 2) := by decide +kernel
theorem dX10_it_6 : decode cX10_it 6 = .ok (.bipush 7, 2) := by decide +kernel
theorem dX10_it_8 : decode cX10_it 8 = .ok (.iload_n 1, 1) := by decide +kernel
theorem dX10_it_9 : decode cX10_it 9 = .ok (.imul, 1) := by decide +kernel
theorem dX10_it_10 : decode cX10_it 10 = .ok (.iadd, 1) := by decide +kernel
theorem dX10_it_11 : decode cX10_it 11 = .ok (.iload_n 2, 1) := by decide +kernel
theorem dX10_it_12 : decode cX10_it 12 = .ok (.iadd, 1) := by decide +kernel
theorem dX10_it_13 : decode cX10_it 13 = .ok (.iaload, 1) := by decide +kernel
theorem dX10_it_14 : decode cX10_it 14 = .ok (.ireturn, 1) := by decide +kernel
theorem dX10_lets_0 : decode cX10_lets 0 = .ok (.aload_n 0, 1) := by decide +kernel
theorem dX10_lets_1 : decode cX10_lets 1 = .ok (.getfield 9, 3) := by decide +kernel
theorem dX10_lets_4 : decode cX10_lets 4 = .ok (.bipush 12, 2) := by decide +kernel
theorem dX10_lets_6 : decode cX10_lets 6 = .ok (.bipush 7, 2) := by decide +kernel
theorem dX10_lets_8 : decode cX10_lets 8 = .ok (.iload_n 1, 1) := by decide +kernel
theorem dX10_lets_9 : decode cX10_lets 9 = .ok (.imul, 1) := by decide +kernel
theorem dX10_lets_10 : decode cX10_lets 10 = .ok (.iadd, 1) := by decide +kernel
theorem dX10_lets_11 : decode cX10_lets 11 = .ok (.iload_n 2, 1) := by decide +kernel
theorem dX10_lets_12 : decode cX10_lets 12 = .ok (.iadd, 1) := by decide +kernel
theorem dX10_lets_13 : decode cX10_lets 13 = .ok (.iload_n 3, 1) := by decide +kernel
theorem dX10_lets_14 : decode cX10_lets 14 = .ok (.iastore, 1) := by decide +kernel
theorem dX10_lets_15 : decode cX10_lets 15 = .ok (.return_, 1) := by decide +kernel
set_option maxRecDepth 20000 in
theorem ggX10_mayGo_X10_it : GoodIn wsX10_mayGo wsX10_it := goodIn_r _ [6, 1, 7, 8, 9, 10, 11, 12, 13, 14, 15, 16, 17, 18, 19, 20, 21, 22, 23, 24, 25, 26, 27] (by decide +kernel) (by decide +kernel)
set_option maxRecDepth 20000 in
theorem gX10_mayGo_X10_it : GoodIn wsX10_mayGo (wsV RX10 58 RX10 yX10_it wsX10_it) := goodIn_app (goodIn_of _ (by decide +kernel)) ggX10_mayGo_X10_it
theorem dX10_mayGo_0 : decode cX10_mayGo 0 = .ok (.aload_n 0, 1) := by decide +kernel
theorem dX10_mayGo_1 : decode cX10_mayGo 1 = .ok (.iload_n 1, 1) := by decide +kernel
theorem dX10_mayGo_2 : decode cX10_mayGo 2 = .ok (.iconst 1, 1) := by decide +kernel
theorem dX10_mayGo_3 : decode cX10_mayGo 3 = .ok (.invokevirtual 58, 3) := by decide +kernel
theorem dX10_mayGo_6 : decode cX10_mayGo 6 = .ok (.istore_n 2, 1) := by decide +kernel
theorem dX10_mayGo_7 : decode cX10_mayGo 7 = .ok (.aload_n 0, 1) := by decide +kernel
theorem dX10_mayGo_8 : decode cX10_mayGo 8 = .ok (.getfield 9, 3) := by decide +kernel
theorem dX10_mayGo_11 : decode cX10_mayGo 11 = .ok (.iconst 0, 1) := by decide +kernel
theorem dX10_mayGo_12 : decode cX10_mayGo 12 = .ok (.iaload, 1) := by decide +kernel
theorem dX10_mayGo_13 : decode cX10_mayGo 13 = .ok (.aload_n 0, 1) := by decide +kernel
theorem dX10_mayGo_14 : decode cX10_mayGo 14 = .ok (.iload_n 1, 1) := by decide +kernel
theorem dX10_mayGo_15 : decode cX10_mayGo 15 = .ok (.iconst 4, 1) := by decide +kernel
theorem dX10_mayGo_16 : decode cX10_mayGo 16 = .ok (.invokevirtual 58, 3) := by decide +kernel
theorem dX10_mayGo_19 : decode cX10_mayGo 19 = .ok (.isub, 1) := by decide +kernel
theorem dX10_mayGo_20 : decode cX10_mayGo 20 = .ok (.istore_n 3, 1) := by decide +kernel
theorem dX10_mayGo_21 : decode cX10_mayGo 21 = .ok (.aload_n 0, 1) := by decide +kernel
theorem dX10_mayGo_22 : decode cX10_mayGo 22 = .ok (.iload_n 1, 1) := by decide +kernel
theorem dX10_mayGo_23 : decode cX10_mayGo 23 = .ok (.bipush 6, 2) := by decide +kernel
theorem dX10_mayGo_25 : decode cX10_mayGo 25 = .ok (.invokevirtual 58, 3) := by decide +kernel
theorem dX10_mayGo_28 : decode cX10_mayGo 28 = .ok (.iconst 1, 1) := by decide +kernel
theorem dX10_mayGo_29 : decode cX10_mayGo 29 = .ok (.if_icmp .ne 5, 3) := by decide +kernel
theorem dX10_mayGo_32 : decode cX10_mayGo 32 = .ok (.iconst 0, 1) := by decide +kernel
theorem dX10_mayGo_33 : decode cX10_mayGo 33 = .ok (.ireturn, 1) := by decide +kernel
theorem dX10_mayGo_34 : decode cX10_mayGo 34 = .ok (.aload_n 0, 1) := by decide +kernel
theorem dX10_mayGo_35 : decode cX10_mayGo 35 = .ok (.iload_n 1, 1) := by decide +kernel
theorem dX10_mayGo_36 : decode cX10_mayGo 36 = .ok (.iconst 0, 1) := by decide +kernel
theorem dX10_mayGo_37 : decode cX10_mayGo 37 = .ok (.invokevirtual 58, 3) := by decide +kernel
theorem dX10_mayGo_40 : decode cX10_mayGo 40 = .ok (.tableswitch 125 1 6 #[40, 60, 125, 71, 87, 103], 40) := by decide +kernel
theorem dX10_mayGo_80 : decode cX10_mayGo 80 = .ok (.iload_n 3, 1) := by decide +kernel
theorem dX10_mayGo_81 : decode cX10_mayGo 81 = .ok (.bipush 7, 2) := by decide +kernel
theorem dX10_mayGo_83 : decode cX10_mayGo 83 = .ok (.if_icmp .lt 15, 3) := by decide +kernel
theorem dX10_mayGo_86 : decode cX10_mayGo 86 = .ok (.iload_n 3, 1) := by decide +kernel
theorem dX10_mayGo_87 : decode cX10_mayGo 87 = .ok (.bipush 7, 2) := by decide +kernel
theorem dX10_mayGo_89 : decode cX10_mayGo 89 = .ok (.iload_n 2, 1) := by decide +kernel
theorem dX10_mayGo_90 : decode cX10_mayGo 90 = .ok (.imul, 1) := by decide +kernel
theorem dX10_mayGo_91 : decode cX10_mayGo 91 = .ok (.if_icmp .lt 7, 3) := by decide +kernel
theorem dX10_mayGo_94 : decode cX10_mayGo 94 = .ok (.iconst 1, 1) := by decide +kernel
theorem dX10_mayGo_95 : decode cX10_mayGo 95 = .ok (.goto 4, 3) := by decide +kernel
theorem dX10_mayGo_98 : decode cX10_mayGo 98 = .ok (.iconst 0, 1) := by decide +kernel
theorem dX10_mayGo_99 : decode cX10_mayGo 99 = .ok (.ireturn, 1) := by decide +kernel
theorem dX10_mayGo_100 : decode cX10_mayGo 100 = .ok (.iload_n 3, 1) := by decide +kernel
theorem dX10_mayGo_101 : decode cX10_mayGo 101 = .ok (.iconst 1, 1) := by decide +kernel
theorem dX10_mayGo_102 : decode cX10_mayGo 102 = .ok (.if_icmp .lt 7, 3) := by decide +kernel
theorem dX10_mayGo_105 : decode cX10_mayGo 105 = .ok (.iconst 1, 1) := by decide +kernel
theorem dX10_mayGo_106 : decode cX10_mayGo 106 = .ok (.goto 4, 3) := by decide +kernel
theorem dX10_mayGo_109 : decode cX10_mayGo 109 = .ok (.iconst 0, 1) := by decide +kernel
theorem dX10_mayGo_110 : decode cX10_mayGo 110 = .ok (.ireturn, 1) := by decide +kernel
theorem dX10_mayGo_111 : decode cX10_mayGo 111 = .ok (.iload_n 2, 1) := by decide +kernel
theorem dX10_mayGo_112 : decode cX10_mayGo 112 = .ok (.ifCond .ne 13, 3) := by decide +kernel
theorem dX10_mayGo_115 : decode cX10_mayGo 115 = .ok (.iload_n 3, 1) := by decide +kernel
theorem dX10_mayGo_116 : decode cX10_mayGo 116 = .ok (.bipush 7, 2) := by decide +kernel
theorem dX10_mayGo_118 : decode cX10_mayGo 118 = .ok (.if_icmp .lt 7, 3) := by decide +kernel
theorem dX10_mayGo_121 : decode cX10_mayGo 121 = .ok (.iconst 1, 1) := by decide +kernel
theorem dX10_mayGo_122 : decode cX10_mayGo 122 = .ok (.goto 4, 3) := by decide +kernel
theorem dX10_mayGo_125 : decode cX10_mayGo 125 = .ok (.iconst 0, 1) := by decide +kernel
theorem dX10_mayGo_126 : decode cX10_mayGo 126 = .ok (.ireturn, 1) := by decide +kernel
theorem dX10_mayGo_127 : decode cX10_mayGo 127 = .ok (.iload_n 3, 1) := by decide +kernel
theorem dX10_mayGo_128 : decode cX10_mayGo 128 = .ok (.iconst 1, 1) := by decide +kernel
theorem dX10_mayGo_129 : decode cX10_mayGo 129 = .ok (.if_icmp .lt 12, 3) := by decide +kernel
theorem dX10_mayGo_132 : decode cX10_mayGo 132 = .ok (.iload_n 3, 1) := by decide +kernel
theorem dX10_mayGo_133 : decode cX10_mayGo 133 = .ok (.iload_n 2, 1) := by decide +kernel
theorem dX10_mayGo_134 : decode cX10_mayGo 134 = .ok (.if_icmp .lt 7, 3) := by decide +kernel
theorem dX10_mayGo_137 : decode cX10_mayGo 137 = .ok (.iconst 1, 1) := by decide +kernel
theorem dX10_mayGo_138 : decode cX10_mayGo 138 = .ok (.goto 4, 3) := by decide +kernel
theorem dX10_mayGo_141 : decode cX10_mayGo 141 = .ok (.iconst 0, 1) := by decide +kernel
theorem dX10_mayGo_142 : decode cX10_mayGo 142 = .ok (.ireturn, 1) := by decide +kernel
theorem dX10_mayGo_143 : decode cX10_mayGo 143 = .ok (.iload_n 3, 1) := by decide +kernel
theorem dX10_mayGo_144 : decode cX10_mayGo 144 = .ok (.bipush 7, 2) := by decide +kernel
theorem dX10_mayGo_146 : decode cX10_mayGo 146 = .ok (.if_icmp .lt 17, 3) := by decide +kernel
theorem dX10_mayGo_149 : decode cX10_mayGo 149 = .ok (.aload_n 0, 1) := by decide +kernel
theorem dX10_mayGo_150 : decode cX10_mayGo 150 = .ok (.getfield 9, 3) := by decide +kernel
theorem dX10_mayGo_153 : decode cX10_mayGo 153 = .ok (.iconst 3, 1) := by decide +kernel
theorem dX10_mayGo_154 : decode cX10_mayGo 154 = .ok (.iaload, 1) := by decide +kernel
theorem dX10_mayGo_155 : decode cX10_mayGo 155 = .ok (.iconst 1, 1) := by decide +kernel
theorem dX10_mayGo_156 : decode cX10_mayGo 156 = .ok (.if_icmp .ne 7, 3) := by decide +kernel
theorem dX10_mayGo_159 : decode cX10_mayGo 159 = .ok (.iconst 1, 1) := by decide +kernel
theorem dX10_mayGo_160 : decode cX10_mayGo 160 = .ok (.goto 4, 3) := by decide +kernel
theorem dX10_mayGo_163 : decode cX10_mayGo 163 = .ok (.iconst 0, 1) := by decide +kernel
theorem dX10_mayGo_164 : decode cX10_mayGo 164 = .ok (.ireturn, 1) := by decide +kernel
theorem dX10_mayGo_165 : decode cX10_mayGo 165 = .ok (.iload_n 3, 1) := by decide +kernel
theorem dX10_mayGo_166 : decode cX10_mayGo 166 = .ok (.bipush 7, 2) := by decide +kernel
theorem dX10_mayGo_168 : decode cX10_mayGo 168 = .ok (.if_icmp .lt 7, 3) := by decide +kernel
theorem dX10_mayGo_171 : decode cX10_mayGo 171 = .ok (.iconst 1, 1) := by decide +kernel
theorem dX10_mayGo_172 : decode cX10_mayGo 172 = .ok (.goto 4, 3) := by decide +kernel
theorem dX10_mayGo_175 : decode cX10_mayGo 175 = .ok (.iconst 0, 1) := by decide +kernel
theorem dX10_mayGo_176 : decode cX10_mayGo 176 = .ok (.ireturn, 1) := by decide +kernel
set_option maxRecDepth 20000 in
theorem ggX10_backOf_X10_it : GoodIn wsX10_backOf wsX10_it := goodIn_r _ [6, 1, 10, 11, 12, 13, 14, 15, 16, 17, 18, 19, 20, 21, 22, 23, 24, 25, 26, 27, 28, 29, 30] (by decide +kernel) (by decide +kernel)
set_option maxRecDepth 20000 in
theorem gX10_backOf_X10_it : GoodIn wsX10_backOf (wsV RX10 58 RX10 yX10_it wsX10_it) := goodIn_app (goodIn_of _ (by decide +kernel)) ggX10_backOf_X10_it
set_option maxRecDepth 20000 in
theorem ggX10_backOf_X10_held : GoodIn wsX10_backOf wsX10_held := goodIn_r _ [9] (by decide +kernel) (by decide +kernel)
set_option maxRecDepth 20000 in
theorem gX10_backOf_X10_held : GoodIn wsX10_backOf (va_wsS RX10 62 yX10_held wsX10_held) := goodIn_app (goodIn_of _ (by decide +kernel)) ggX10_backOf_X10_held
theorem dX10_backOf_0 : decode cX10_backOf 0 = .ok (.aload_n 0, 1) := by decide +kernel
theorem dX10_backOf_1 : decode cX10_backOf 1 = .ok (.iload_n 1, 1) := by decide +kernel
theorem dX10_backOf_2 : decode cX10_backOf 2 = .ok (.iconst 1, 1) := by decide +kernel
theorem dX10_backOf_3 : decode cX10_backOf 3 = .ok (.invokevirtual 58, 3) := by decide +kernel
theorem dX10_backOf_6 : decode cX10_backOf 6 = .ok (.istore_n 2, 1) := by decide +kernel
theorem dX10_backOf_7 : decode cX10_backOf 7 = .ok (.bipush 50, 2) := by decide +kernel
theorem dX10_backOf_9 : decode cX10_backOf 9 = .ok (.iconst 5, 1) := by decide +kernel
theorem dX10_backOf_10 : decode cX10_backOf 10 = .ok (.aload_n 0, 1) := by decide +kernel
theorem dX10_backOf_11 : decode cX10_backOf 11 = .ok (.getfield 9, 3) := by decide +kernel
theorem dX10_backOf_14 : decode cX10_backOf 14 = .ok (.iconst 0, 1) := by decide +kernel
theorem dX10_backOf_15 : decode cX10_backOf 15 = .ok (.iaload, 1) := by decide +kernel
theorem dX10_backOf_16 : decode cX10_backOf 16 = .ok (.aload_n 0, 1) := by decide +kernel
theorem dX10_backOf_17 : decode cX10_backOf 17 = .ok (.iload_n 1, 1) := by decide +kernel
theorem dX10_backOf_18 : decode cX10_backOf 18 = .ok (.iconst 4, 1) := by decide +kernel
theorem dX10_backOf_19 : decode cX10_backOf 19 = .ok (.invokevirtual 58, 3) := by decide +kernel
theorem dX10_backOf_22 : decode cX10_backOf 22 = .ok (.isub, 1) := by decide +kernel
theorem dX10_backOf_23 : decode cX10_backOf 23 = .ok (.imul, 1) := by decide +kernel
theorem dX10_backOf_24 : decode cX10_backOf 24 = .ok (.isub, 1) := by decide +kernel
theorem dX10_backOf_25 : decode cX10_backOf 25 = .ok (.iconst 0, 1) := by decide +kernel
theorem dX10_backOf_26 : decode cX10_backOf 26 = .ok (.bipush 50, 2) := by decide +kernel
theorem dX10_backOf_28 : decode cX10_backOf 28 = .ok (.invokestatic 62, 3) := by decide +kernel
theorem dX10_backOf_31 : decode cX10_backOf 31 = .ok (.iload_n 2, 1) := by decide +kernel
theorem dX10_backOf_32 : decode cX10_backOf 32 = .ok (.iadd, 1) := by decide +kernel
theorem dX10_backOf_33 : decode cX10_backOf 33 = .ok (.istore_n 3, 1) := by decide +kernel
theorem dX10_backOf_34 : decode cX10_backOf 34 = .ok (.aload_n 0, 1) := by decide +kernel
theorem dX10_backOf_35 : decode cX10_backOf 35 = .ok (.iload_n 1, 1) := by decide +kernel
theorem dX10_backOf_36 : decode cX10_backOf 36 = .ok (.iconst 0, 1) := by decide +kernel
theorem dX10_backOf_37 : decode cX10_backOf 37 = .ok (.invokevirtual 58, 3) := by decide +kernel
theorem dX10_backOf_40 : decode cX10_backOf 40 = .ok (.tableswitch 113 1 6 #[40, 51, 55, 80, 91, 103], 40) := by decide +kernel
theorem dX10_backOf_80 : decode cX10_backOf 80 = .ok (.iload_n 3, 1) := by decide +kernel
theorem dX10_backOf_81 : decode cX10_backOf 81 = .ok (.bipush 20, 2) := by decide +kernel
theorem dX10_backOf_83 : decode cX10_backOf 83 = .ok (.iadd, 1) := by decide +kernel
theorem dX10_backOf_84 : decode cX10_backOf 84 = .ok (.iconst 0, 1) := by decide +kernel
theorem dX10_backOf_85 : decode cX10_backOf 85 = .ok (.bipush 100, 2) := by decide +kernel
theorem dX10_backOf_87 : decode cX10_backOf 87 = .ok (.invokestatic 62, 3) := by decide +kernel
theorem dX10_backOf_90 : decode cX10_backOf 90 = .ok (.ireturn, 1) := by decide +kernel
theorem dX10_backOf_91 : decode cX10_backOf 91 = .ok (.iload_n 3, 1) := by decide +kernel
theorem dX10_backOf_92 : decode cX10_backOf 92 = .ok (.iconst 2, 1) := by decide +kernel
theorem dX10_backOf_93 : decode cX10_backOf 93 = .ok (.idiv, 1) := by decide +kernel
theorem dX10_backOf_94 : decode cX10_backOf 94 = .ok (.ireturn, 1) := by decide +kernel
theorem dX10_backOf_95 : decode cX10_backOf 95 = .ok (.aload_n 0, 1) := by decide +kernel
theorem dX10_backOf_96 : decode cX10_backOf 96 = .ok (.iload_n 1, 1) := by decide +kernel
theorem dX10_backOf_97 : decode cX10_backOf 97 = .ok (.iconst 5, 1) := by decide +kernel
theorem dX10_backOf_98 : decode cX10_backOf 98 = .ok (.invokevirtual 58, 3) := by decide +kernel
theorem dX10_backOf_101 : decode cX10_backOf 101 = .ok (.iconst 1, 1) := by decide +kernel
theorem dX10_backOf_102 : decode cX10_backOf 102 = .ok (.if_icmp .ne 10, 3) := by decide +kernel
theorem dX10_backOf_105 : decode cX10_backOf 105 = .ok (.iload_n 3, 1) := by decide +kernel
theorem dX10_backOf_106 : decode cX10_backOf 106 = .ok (.bipush 20, 2) := by decide +kernel
theorem dX10_backOf_108 : decode cX10_backOf 108 = .ok (.iadd, 1) := by decide +kernel
theorem dX10_backOf_109 : decode cX10_backOf 109 = .ok (.goto 4, 3) := by decide +kernel
theorem dX10_backOf_112 : decode cX10_backOf 112 = .ok (.iload_n 3, 1) := by decide +kernel
theorem dX10_backOf_113 : decode cX10_backOf 113 = .ok (.iconst 0, 1) := by decide +kernel
theorem dX10_backOf_114 : decode cX10_backOf 114 = .ok (.bipush 100, 2) := by decide +kernel
theorem dX10_backOf_116 : decode cX10_backOf 116 = .ok (.invokestatic 62, 3) := by decide +kernel
theorem dX10_backOf_119 : decode cX10_backOf 119 = .ok (.ireturn, 1) := by decide +kernel
theorem dX10_backOf_120 : decode cX10_backOf 120 = .ok (.iload_n 3, 1) := by decide +kernel
theorem dX10_backOf_121 : decode cX10_backOf 121 = .ok (.bipush 40, 2) := by decide +kernel
theorem dX10_backOf_123 : decode cX10_backOf 123 = .ok (.iadd, 1) := by decide +kernel
theorem dX10_backOf_124 : decode cX10_backOf 124 = .ok (.iconst 0, 1) := by decide +kernel
theorem dX10_backOf_125 : decode cX10_backOf 125 = .ok (.bipush 100, 2) := by decide +kernel
theorem dX10_backOf_127 : decode cX10_backOf 127 = .ok (.invokestatic 62, 3) := by decide +kernel
theorem dX10_backOf_130 : decode cX10_backOf 130 = .ok (.ireturn, 1) := by decide +kernel
theorem dX10_backOf_131 : decode cX10_backOf 131 = .ok (.iload_n 3, 1) := by decide +kernel
theorem dX10_backOf_132 : decode cX10_backOf 132 = .ok (.iconst 2, 1) := by decide +kernel
theorem dX10_backOf_133 : decode cX10_backOf 133 = .ok (.idiv, 1) := by decide +kernel
theorem dX10_backOf_134 : decode cX10_backOf 134 = .ok (.iload_n 2, 1) := by decide +kernel
theorem dX10_backOf_135 : decode cX10_backOf 135 = .ok (.isub, 1) := by decide +kernel
theorem dX10_backOf_136 : decode cX10_backOf 136 = .ok (.iconst 0, 1) := by decide +kernel
theorem dX10_backOf_137 : decode cX10_backOf 137 = .ok (.bipush 100, 2) := by decide +kernel
theorem dX10_backOf_139 : decode cX10_backOf 139 = .ok (.invokestatic 62, 3) := by decide +kernel
theorem dX10_backOf_142 : decode cX10_backOf 142 = .ok (.ireturn, 1) := by decide +kernel
theorem dX10_backOf_143 : decode cX10_backOf 143 = .ok (.iload_n 3, 1) := by decide +kernel
theorem dX10_backOf_144 : decode cX10_backOf 144 = .ok (.iconst 5, 1) := by decide +kernel
theorem dX10_backOf_145 : decode cX10_backOf 145 = .ok (.iadd, 1) := by decide +kernel
theorem dX10_backOf_146 : decode cX10_backOf 146 = .ok (.iconst 0, 1) := by decide +kernel
theorem dX10_backOf_147 : decode cX10_backOf 147 = .ok (.bipush 100, 2) := by decide +kernel
theorem dX10_backOf_149 : decode cX10_backOf 149 = .ok (.invokestatic 62, 3) := by decide +kernel
theorem dX10_backOf_152 : decode cX10_backOf 152 = .ok (.ireturn, 1) := by decide +kernel
theorem dX10_backOf_153 : decode cX10_backOf 153 = .ok (.iload_n 3, 1) := by decide +kernel
theorem dX10_backOf_154 : decode cX10_backOf 154 = .ok (.ireturn, 1) := by decide +kernel
set_option maxRecDepth 20000 in
theorem ggX10_lossOf_X10_backOf : GoodIn wsX10_lossOf wsX10_backOf := goodIn_r _ [5, 6, 7, 8, 9, 4, 10, 11, 12, 13, 27, 28, 29, 30, 31, 32, 33, 34, 35, 36, 37, 38, 39, 40, 41, 42, 43, 44, 45, 46, 47] (by decide +kernel) (by decide +kernel)
set_option maxRecDepth 20000 in
theorem gX10_lossOf_X10_backOf : GoodIn wsX10_lossOf (wsV RX10 66 RX10 yX10_backOf wsX10_backOf) := goodIn_app (goodIn_of _ (by decide +kernel)) ggX10_lossOf_X10_backOf
set_option maxRecDepth 20000 in
theorem ggX10_lossOf_X10_it : GoodIn wsX10_lossOf wsX10_it := goodIn_r _ [10, 6, 27, 28, 29, 30, 31, 32, 33, 34, 35, 36, 37, 38, 39, 40, 41, 42, 43, 44, 45, 46, 47] (by decide +kernel) (by decide +kernel)
set_option maxRecDepth 20000 in
theorem gX10_lossOf_X10_it : GoodIn wsX10_lossOf (wsV RX10 58 RX10 yX10_it wsX10_it) := goodIn_app (goodIn_of _ (by decide +kernel)) ggX10_lossOf_X10_it
set_option maxRecDepth 20000 in
theorem ggX10_lossOf_X10_gives : GoodIn wsX10_lossOf wsX10_gives := goodIn_r _ [17, 18, 6, 19, 20, 21, 4, 22, 23, 24, 25, 26, 11, 12, 13, 27, 28, 29, 30, 31, 32, 33, 34, 35, 36, 37, 38, 39, 40, 41, 42, 43, 44, 45, 46, 47] (by decide +kernel) (by decide +kernel)
set_option maxRecDepth 20000 in
theorem gX10_lossOf_X10_gives : GoodIn wsX10_lossOf (wsV RX10 70 RX10 yX10_gives wsX10_gives) := goodIn_app (goodIn_of _ (by decide +kernel)) ggX10_lossOf_X10_gives
theorem dX10_lossOf_0 : decode cX10_lossOf 0 = .ok (.aload_n 0, 1) := by decide +kernel
theorem dX10_lossOf_1 : decode cX10_lossOf 1 = .ok (.iconst 0, 1) := by decide +kernel
theorem dX10_lossOf_2 : decode cX10_lossOf 2 = .ok (.aload_n 0, 1) := by decide +kernel
theorem dX10_lossOf_3 : decode cX10_lossOf 3 = .ok (.iload_n 1, 1) := by decide +kernel
theorem dX10_lossOf_4 : decode cX10_lossOf 4 = .ok (.invokevirtual 66, 3) := by decide +kernel
theorem dX10_lossOf_7 : decode cX10_lossOf 7 = .ok (.aload_n 0, 1) := by decide +kernel
theorem dX10_lossOf_8 : decode cX10_lossOf 8 = .ok (.iload_n 1, 1) := by decide +kernel
theorem dX10_lossOf_9 : decode cX10_lossOf 9 = .ok (.iconst 1, 1) := by decide +kernel
theorem dX10_lossOf_10 : decode cX10_lossOf 10 = .ok (.invokevirtual 58, 3) := by decide +kernel
theorem dX10_lossOf_13 : decode cX10_lossOf 13 = .ok (.aload_n 0, 1) := by decide +kernel
theorem dX10_lossOf_14 : decode cX10_lossOf 14 = .ok (.iload_n 1, 1) := by decide +kernel
theorem dX10_lossOf_15 : decode cX10_lossOf 15 = .ok (.iconst 5, 1) := by decide +kernel
theorem dX10_lossOf_16 : decode cX10_lossOf 16 = .ok (.invokevirtual 58, 3) := by decide +kernel
theorem dX10_lossOf_19 : decode cX10_lossOf 19 = .ok (.invokevirtual 70, 3) := by decide +kernel
theorem dX10_lossOf_22 : decode cX10_lossOf 22 = .ok (.ireturn, 1) := by decide +kernel
set_option maxRecDepth 20000 in
theorem ggX10_takenBy_X10_it : GoodIn wsX10_takenBy wsX10_it := goodIn_r _ [6, 1, 7, 8, 9, 10, 11, 12, 13, 14, 15, 16, 17, 18, 19, 20, 21, 22, 23, 24, 25, 26, 27] (by decide +kernel) (by decide +kernel)
set_option maxRecDepth 20000 in
theorem gX10_takenBy_X10_it : GoodIn wsX10_takenBy (wsV RX10 58 RX10 yX10_it wsX10_it) := goodIn_app (goodIn_of _ (by decide +kernel)) ggX10_takenBy_X10_it
theorem dX10_takenBy_0 : decode cX10_takenBy 0 = .ok (.iconst 0, 1) := by decide +kernel
theorem dX10_takenBy_1 : decode cX10_takenBy 1 = .ok (.istore_n 2, 1) := by decide +kernel
theorem dX10_takenBy_2 : decode cX10_takenBy 2 = .ok (.iconst 0, 1) := by decide +kernel
theorem dX10_takenBy_3 : decode cX10_takenBy 3 = .ok (.istore_n 3, 1) := by decide +kernel
theorem dX10_takenBy_4 : decode cX10_takenBy 4 = .ok (.iload_n 3, 1) := by decide +kernel
theorem dX10_takenBy_5 : decode cX10_takenBy 5 = .ok (.aload_n 0, 1) := by decide +kernel
theorem dX10_takenBy_6 : decode cX10_takenBy 6 = .ok (.getfield 9, 3) := by decide +kernel
theorem dX10_takenBy_9 : decode cX10_takenBy 9 = .ok (.iconst 2, 1) := by decide +kernel
theorem dX10_takenBy_10 : decode cX10_takenBy 10 = .ok (.iaload, 1) := by decide +kernel
theorem dX10_takenBy_11 : decode cX10_takenBy 11 = .ok (.if_icmp .ge 58, 3) := by decide +kernel
theorem dX10_takenBy_14 : decode cX10_takenBy 14 = .ok (.aload_n 0, 1) := by decide +kernel
theorem dX10_takenBy_15 : decode cX10_takenBy 15 = .ok (.iload_n 3, 1) := by decide +kernel
theorem dX10_takenBy_16 : decode cX10_takenBy 16 = .ok (.bipush 6, 2) := by decide +kernel
theorem dX10_takenBy_18 : decode cX10_takenBy 18 = .ok (.invokevirtual 58, 3) := by decide +kernel
theorem dX10_takenBy_21 : decode cX10_takenBy 21 = .ok (.ifCond .ne 21, 3) := by decide +kernel
theorem dX10_takenBy_24 : decode cX10_takenBy 24 = .ok (.iload_n 1, 1) := by decide +kernel
theorem dX10_takenBy_25 : decode cX10_takenBy 25 = .ok (.ifCond .lt 13, 3) := by decide +kernel
theorem dX10_takenBy_28 : decode cX10_takenBy 28 = .ok (.aload_n 0, 1) := by decide +kernel
theorem dX10_takenBy_29 : decode cX10_takenBy 29 = .ok (.iload_n 3, 1) := by decide +kernel
theorem dX10_takenBy_30 : decode cX10_takenBy 30 = .ok (.iconst 3, 1) := by decide +kernel
theorem dX10_takenBy_31 : decode cX10_takenBy 31 = .ok (.invokevirtual 58, 3) := by decide +kernel
theorem dX10_takenBy_34 : decode cX10_takenBy 34 = .ok (.iload_n 1, 1) := by decide +kernel
theorem dX10_takenBy_35 : decode cX10_takenBy 35 = .ok (.if_icmp .ne 7, 3) := by decide +kernel
theorem dX10_takenBy_38 : decode cX10_takenBy 38 = .ok (.iconst 1, 1) := by decide +kernel
theorem dX10_takenBy_39 : decode cX10_takenBy 39 = .ok (.goto 4, 3) := by decide +kernel
theorem dX10_takenBy_42 : decode cX10_takenBy 42 = .ok (.iconst 0, 1) := by decide +kernel
theorem dX10_takenBy_43 : decode cX10_takenBy 43 = .ok (.istore 4, 2) := by decide +kernel
theorem dX10_takenBy_45 : decode cX10_takenBy 45 = .ok (.iload_n 2, 1) := by decide +kernel
theorem dX10_takenBy_46 : decode cX10_takenBy 46 = .ok (.iload 4, 2) := by decide +kernel
theorem dX10_takenBy_48 : decode cX10_takenBy 48 = .ok (.ifCond .eq 12, 3) := by decide +kernel
theorem dX10_takenBy_51 : decode cX10_takenBy 51 = .ok (.aload_n 0, 1) := by decide +kernel
theorem dX10_takenBy_52 : decode cX10_takenBy 52 = .ok (.iload_n 3, 1) := by decide +kernel
theorem dX10_takenBy_53 : decode cX10_takenBy 53 = .ok (.iconst 2, 1) := by decide +kernel
theorem dX10_takenBy_54 : decode cX10_takenBy 54 = .ok (.invokevirtual 58, 3) := by decide +kernel
theorem dX10_takenBy_57 : decode cX10_takenBy 57 = .ok (.goto 4, 3) := by decide +kernel
theorem dX10_takenBy_60 : decode cX10_takenBy 60 = .ok (.iconst 0, 1) := by decide +kernel
theorem dX10_takenBy_61 : decode cX10_takenBy 61 = .ok (.ior, 1) := by decide +kernel
theorem dX10_takenBy_62 : decode cX10_takenBy 62 = .ok (.istore_n 2, 1) := by decide +kernel
theorem dX10_takenBy_63 : decode cX10_takenBy 63 = .ok (.iinc 3 1, 3) := by decide +kernel
theorem dX10_takenBy_66 : decode cX10_takenBy 66 = .ok (.goto (-62), 3) := by decide +kernel
theorem dX10_takenBy_69 : decode cX10_takenBy 69 = .ok (.iload_n 2, 1) := by decide +kernel
theorem dX10_takenBy_70 : decode cX10_takenBy 70 = .ok (.ireturn, 1) := by decide +kernel
set_option maxRecDepth 20000 in
theorem ggX10_isWiped_X10_lossOf : GoodIn wsX10_isWiped wsX10_lossOf := goodIn_r _ [7, 8, 9, 10, 6, 11, 1, 12, 13, 14, 15, 16, 17, 18, 19, 20, 21, 22, 23, 24, 25, 26, 27, 28, 29, 30, 31, 36, 37, 38, 39, 40, 41, 42, 43, 44, 45, 46, 47, 48, 49, 50, 51, 52, 53, 54, 55, 56] (by decide +kernel) (by decide +kernel)
set_option maxRecDepth 20000 in
theorem gX10_isWiped_X10_lossOf : GoodIn wsX10_isWiped (wsV RX10 74 RX10 yX10_lossOf wsX10_lossOf) := goodIn_app (goodIn_of _ (by decide +kernel)) ggX10_isWiped_X10_lossOf
set_option maxRecDepth 20000 in
theorem ggX10_isWiped_X10_held : GoodIn wsX10_isWiped wsX10_held := goodIn_r _ [18] (by decide +kernel) (by decide +kernel)
set_option maxRecDepth 20000 in
theorem gX10_isWiped_X10_held : GoodIn wsX10_isWiped (va_wsS RX10 62 yX10_held wsX10_held) := goodIn_app (goodIn_of _ (by decide +kernel)) ggX10_isWiped_X10_held
set_option maxRecDepth 20000 in
theorem ggX10_isWiped_X10_lets : GoodIn wsX10_isWiped wsX10_lets := goodIn_r _ [35, 1, 36, 37, 38, 39, 40, 41, 42, 43, 44, 45, 46, 47, 48, 49, 50, 51, 52, 53, 54, 55, 56] (by decide +kernel) (by decide +kernel)
set_option maxRecDepth 20000 in
theorem gX10_isWiped_X10_lets : GoodIn wsX10_isWiped (wsV RX10 78 RX10 yX10_lets wsX10_lets) := goodIn_app (goodIn_of _ (by decide +kernel)) ggX10_isWiped_X10_lets
theorem dX10_isWiped_0 : decode cX10_isWiped 0 = .ok (.aload_n 0, 1) := by decide +kernel
theorem dX10_isWiped_1 : decode cX10_isWiped 1 = .ok (.getfield 9, 3) := by decide +kernel
theorem dX10_isWiped_4 : decode cX10_isWiped 4 = .ok (.iconst 4, 1) := by decide +kernel
theorem dX10_isWiped_5 : decode cX10_isWiped 5 = .ok (.aload_n 0, 1) := by decide +kernel
theorem dX10_isWiped_6 : decode cX10_isWiped 6 = .ok (.getfield 9, 3) := by decide +kernel
theorem dX10_isWiped_9 : decode cX10_isWiped 9 = .ok (.iconst 4, 1) := by decide +kernel
theorem dX10_isWiped_10 : decode cX10_isWiped 10 = .ok (.iaload, 1) := by decide +kernel
theorem dX10_isWiped_11 : decode cX10_isWiped 11 = .ok (.aload_n 0, 1) := by decide +kernel
theorem dX10_isWiped_12 : decode cX10_isWiped 12 = .ok (.iload_n 1, 1) := by decide +kernel
theorem dX10_isWiped_13 : decode cX10_isWiped 13 = .ok (.invokevirtual 74, 3) := by decide +kernel
theorem dX10_isWiped_16 : decode cX10_isWiped 16 = .ok (.iadd, 1) := by decide +kernel
theorem dX10_isWiped_17 : decode cX10_isWiped 17 = .ok (.iconst 0, 1) := by decide +kernel
theorem dX10_isWiped_18 : decode cX10_isWiped 18 = .ok (.ldc 77, 2) := by decide +kernel
theorem dX10_isWiped_20 : decode cX10_isWiped 20 = .ok (.invokestatic 62, 3) := by decide +kernel
theorem dX10_isWiped_23 : decode cX10_isWiped 23 = .ok (.iastore, 1) := by decide +kernel
theorem dX10_isWiped_24 : decode cX10_isWiped 24 = .ok (.aload_n 0, 1) := by decide +kernel
theorem dX10_isWiped_25 : decode cX10_isWiped 25 = .ok (.iload_n 1, 1) := by decide +kernel
theorem dX10_isWiped_26 : decode cX10_isWiped 26 = .ok (.bipush 6, 2) := by decide +kernel
theorem dX10_isWiped_28 : decode cX10_isWiped 28 = .ok (.iconst 1, 1) := by decide +kernel
theorem dX10_isWiped_29 : decode cX10_isWiped 29 = .ok (.invokevirtual 78, 3) := by decide +kernel
theorem dX10_isWiped_32 : decode cX10_isWiped 32 = .ok (.return_, 1) := by decide +kernel
set_option maxRecDepth 20000 in
theorem ggX10_isKm_X10_in : GoodIn wsX10_isKm wsX10_in := goodIn_r _ [4] (by decide +kernel) (by decide +kernel)
set_option maxRecDepth 20000 in
theorem gX10_isKm_X10_in : GoodIn wsX10_isKm (va_wsS RX10 54 yX10_in wsX10_in) := goodIn_app (goodIn_of _ (by decide +kernel)) ggX10_isKm_X10_in
theorem dX10_isKm_0 : decode cX10_isKm 0 = .ok (.iload_n 0, 1) := by decide +kernel
theorem dX10_isKm_1 : decode cX10_isKm 1 = .ok (.iconst 0, 1) := by decide +kernel
theorem dX10_isKm_2 : decode cX10_isKm 2 = .ok (.bipush 69, 2) := by decide +kernel
theorem dX10_isKm_4 : decode cX10_isKm 4 = .ok (.invokestatic 54, 3) := by decide +kernel
theorem dX10_isKm_7 : decode cX10_isKm 7 = .ok (.ireturn, 1) := by decide +kernel
theorem dX10_window_0 : decode cX10_window 0 = .ok (.iconst 1, 1) := by decide +kernel
theorem dX10_window_1 : decode cX10_window 1 = .ok (.iload_n 1, 1) := by decide +kernel
theorem dX10_window_2 : decode cX10_window 2 = .ok (.ishl, 1) := by decide +kernel
theorem dX10_window_3 : decode cX10_window 3 = .ok (.iconst 1, 1) := by decide +kernel
theorem dX10_window_4 : decode cX10_window 4 = .ok (.isub, 1) := by decide +kernel
theorem dX10_window_5 : decode cX10_window 5 = .ok (.iload_n 0, 1) := by decide +kernel
theorem dX10_window_6 : decode cX10_window 6 = .ok (.ishl, 1) := by decide +kernel
theorem dX10_window_7 : decode cX10_window 7 = .ok (.ireturn, 1) := by decide +kernel
set_option maxRecDepth 20000 in
theorem ggX10_comes_X10_lets : GoodIn wsX10_comes wsX10_lets := goodIn_r _ [6, 1, 7, 8, 9, 10, 11, 12, 13, 14, 15, 16, 17, 18, 19, 20, 21, 22, 23, 24, 25, 26, 27] (by decide +kernel) (by decide +kernel)
set_option maxRecDepth 20000 in
theorem gX10_comes_X10_lets : GoodIn wsX10_comes (wsV RX10 78 RX10 yX10_lets wsX10_lets) := goodIn_app (goodIn_of _ (by decide +kernel)) ggX10_comes_X10_lets
theorem dX10_comes_0 : decode cX10_comes 0 = .ok (.aload_n 0, 1) := by decide +kernel
theorem dX10_comes_1 : decode cX10_comes 1 = .ok (.getfield 9, 3) := by decide +kernel
theorem dX10_comes_4 : decode cX10_comes 4 = .ok (.iconst 2, 1) := by decide +kernel
theorem dX10_comes_5 : decode cX10_comes 5 = .ok (.iaload, 1) := by decide +kernel
theorem dX10_comes_6 : decode cX10_comes 6 = .ok (.istore 4, 2) := by decide +kernel
theorem dX10_comes_8 : decode cX10_comes 8 = .ok (.aload_n 0, 1) := by decide +kernel
theorem dX10_comes_9 : decode cX10_comes 9 = .ok (.getfield 9, 3) := by decide +kernel
theorem dX10_comes_12 : decode cX10_comes 12 = .ok (.iconst 2, 1) := by decide +kernel
theorem dX10_comes_13 : decode cX10_comes 13 = .ok (.dup2, 1) := by decide +kernel
theorem dX10_comes_14 : decode cX10_comes 14 = .ok (.iaload, 1) := by decide +kernel
theorem dX10_comes_15 : decode cX10_comes 15 = .ok (.iconst 1, 1) := by decide +kernel
theorem dX10_comes_16 : decode cX10_comes 16 = .ok (.iadd, 1) := by decide +kernel
theorem dX10_comes_17 : decode cX10_comes 17 = .ok (.iastore, 1) := by decide +kernel
theorem dX10_comes_18 : decode cX10_comes 18 = .ok (.aload_n 0, 1) := by decide +kernel
theorem dX10_comes_19 : decode cX10_comes 19 = .ok (.iload 4, 2) := by decide +kernel
theorem dX10_comes_21 : decode cX10_comes 21 = .ok (.iconst 0, 1) := by decide +kernel
theorem dX10_comes_22 : decode cX10_comes 22 = .ok (.iload_n 1, 1) := by decide +kernel
theorem dX10_comes_23 : decode cX10_comes 23 = .ok (.bipush 10, 2) := by decide +kernel
theorem dX10_comes_25 : decode cX10_comes 25 = .ok (.idiv, 1) := by decide +kernel
theorem dX10_comes_26 : decode cX10_comes 26 = .ok (.invokevirtual 78, 3) := by decide +kernel
theorem dX10_comes_29 : decode cX10_comes 29 = .ok (.aload_n 0, 1) := by decide +kernel
theorem dX10_comes_30 : decode cX10_comes 30 = .ok (.iload 4, 2) := by decide +kernel
theorem dX10_comes_32 : decode cX10_comes 32 = .ok (.iconst 1, 1) := by decide +kernel
theorem dX10_comes_33 : decode cX10_comes 33 = .ok (.iload_n 1, 1) := by decide +kernel
theorem dX10_comes_34 : decode cX10_comes 34 = .ok (.bipush 10, 2) := by decide +kernel
theorem dX10_comes_36 : decode cX10_comes 36 = .ok (.irem, 1) := by decide +kernel
theorem dX10_comes_37 : decode cX10_comes 37 = .ok (.invokevirtual 78, 3) := by decide +kernel
theorem dX10_comes_40 : decode cX10_comes 40 = .ok (.aload_n 0, 1) := by decide +kernel
theorem dX10_comes_41 : decode cX10_comes 41 = .ok (.iload 4, 2) := by decide +kernel
theorem dX10_comes_43 : decode cX10_comes 43 = .ok (.iconst 2, 1) := by decide +kernel
theorem dX10_comes_44 : decode cX10_comes 44 = .ok (.iload_n 2, 1) := by decide +kernel
theorem dX10_comes_45 : decode cX10_comes 45 = .ok (.invokevirtual 78, 3) := by decide +kernel
theorem dX10_comes_48 : decode cX10_comes 48 = .ok (.aload_n 0, 1) := by decide +kernel
theorem dX10_comes_49 : decode cX10_comes 49 = .ok (.iload 4, 2) := by decide +kernel
theorem dX10_comes_51 : decode cX10_comes 51 = .ok (.iconst 3, 1) := by decide +kernel
theorem dX10_comes_52 : decode cX10_comes 52 = .ok (.iload_n 3, 1) := by decide +kernel
theorem dX10_comes_53 : decode cX10_comes 53 = .ok (.invokevirtual 78, 3) := by decide +kernel
theorem dX10_comes_56 : decode cX10_comes 56 = .ok (.aload_n 0, 1) := by decide +kernel
theorem dX10_comes_57 : decode cX10_comes 57 = .ok (.iload 4, 2) := by decide +kernel
theorem dX10_comes_59 : decode cX10_comes 59 = .ok (.iconst 4, 1) := by decide +kernel
theorem dX10_comes_60 : decode cX10_comes 60 = .ok (.aload_n 0, 1) := by decide +kernel
theorem dX10_comes_61 : decode cX10_comes 61 = .ok (.getfield 9, 3) := by decide +kernel
theorem dX10_comes_64 : decode cX10_comes 64 = .ok (.iconst 0, 1) := by decide +kernel
theorem dX10_comes_65 : decode cX10_comes 65 = .ok (.iaload, 1) := by decide +kernel
theorem dX10_comes_66 : decode cX10_comes 66 = .ok (.invokevirtual 78, 3) := by decide +kernel
theorem dX10_comes_69 : decode cX10_comes 69 = .ok (.aload_n 0, 1) := by decide +kernel
theorem dX10_comes_70 : decode cX10_comes 70 = .ok (.iload 4, 2) := by decide +kernel
theorem dX10_comes_72 : decode cX10_comes 72 = .ok (.iconst 5, 1) := by decide +kernel
theorem dX10_comes_73 : decode cX10_comes 73 = .ok (.iconst 0, 1) := by decide +kernel
theorem dX10_comes_74 : decode cX10_comes 74 = .ok (.invokevirtual 78, 3) := by decide +kernel
theorem dX10_comes_77 : decode cX10_comes 77 = .ok (.aload_n 0, 1) := by decide +kernel
theorem dX10_comes_78 : decode cX10_comes 78 = .ok (.iload 4, 2) := by decide +kernel
theorem dX10_comes_80 : decode cX10_comes 80 = .ok (.bipush 6, 2) := by decide +kernel
theorem dX10_comes_82 : decode cX10_comes 82 = .ok (.iconst 0, 1) := by decide +kernel
theorem dX10_comes_83 : decode cX10_comes 83 = .ok (.invokevirtual 78, 3) := by decide +kernel
theorem dX10_comes_86 : decode cX10_comes 86 = .ok (.iload 4, 2) := by decide +kernel
theorem dX10_comes_88 : decode cX10_comes 88 = .ok (.ireturn, 1) := by decide +kernel
set_option maxRecDepth 20000 in
theorem ggX10_write_X10_isKm : GoodIn wsX10_write wsX10_isKm := goodIn_r _ [8, 9, 10, 7, 11] (by decide +kernel) (by decide +kernel)
set_option maxRecDepth 20000 in
theorem gX10_write_X10_isKm : GoodIn wsX10_write (va_wsS RX10 82 yX10_isKm wsX10_isKm) := goodIn_app (goodIn_of _ (by decide +kernel)) ggX10_write_X10_isKm
set_option maxRecDepth 20000 in
theorem ggX10_write_X10_in : GoodIn wsX10_write wsX10_in := goodIn_r _ [11] (by decide +kernel) (by decide +kernel)
set_option maxRecDepth 20000 in
theorem gX10_write_X10_in : GoodIn wsX10_write (va_wsS RX10 54 yX10_in wsX10_in) := goodIn_app (goodIn_of _ (by decide +kernel)) ggX10_write_X10_in
set_option maxRecDepth 20000 in
theorem ggX10_write_X10_error : GoodIn wsX10_write wsX10_error := goodIn_r _ [15, 16, 17, 37, 38, 39, 40, 41, 42, 43, 44, 45, 46, 47, 48, 49, 50, 51, 52, 53, 54, 55, 56, 57] (by decide +kernel) (by decide +kernel)
set_option maxRecDepth 20000 in
theorem gX10_write_X10_error : GoodIn wsX10_write (wsV RX10 87 RX10 yX10_error wsX10_error) := goodIn_app (goodIn_of _ (by decide +kernel)) ggX10_write_X10_error
set_option maxRecDepth 20000 in
theorem ggX10_write_X10_window : GoodIn wsX10_write wsX10_window := goodIn_r _ [20] (by decide +kernel) (by decide +kernel)
set_option maxRecDepth 20000 in
theorem gX10_write_X10_window : GoodIn wsX10_write (va_wsS RX10 91 yX10_window wsX10_window) := goodIn_app (goodIn_of _ (by decide +kernel)) ggX10_write_X10_window
set_option maxRecDepth 20000 in
theorem ggX10_write_X10_takenBy : GoodIn wsX10_write wsX10_takenBy := goodIn_r _ [24, 2, 25, 26, 27, 7, 28, 37, 38, 39, 40, 41, 42, 43, 44, 45, 46, 47, 48, 49, 50, 51, 52, 53, 54, 55, 56, 57] (by decide +kernel) (by decide +kernel)
set_option maxRecDepth 20000 in
theorem gX10_write_X10_takenBy : GoodIn wsX10_write (wsV RX10 94 RX10 yX10_takenBy wsX10_takenBy) := goodIn_app (goodIn_of _ (by decide +kernel)) ggX10_write_X10_takenBy
set_option maxRecDepth 20000 in
theorem ggX10_write_X10_comes : GoodIn wsX10_write wsX10_comes := goodIn_r _ [32, 2, 33, 34, 35, 7, 36, 37, 38, 39, 40, 41, 42, 43, 44, 45, 46, 47, 48, 49, 50, 51, 52, 53, 54, 55, 56, 57] (by decide +kernel) (by decide +kernel)
set_option maxRecDepth 20000 in
theorem gX10_write_X10_comes : GoodIn wsX10_write (wsV RX10 98 RX10 yX10_comes wsX10_comes) := goodIn_app (goodIn_of _ (by decide +kernel)) ggX10_write_X10_comes
theorem dX10_write_0 : decode cX10_write 0 = .ok (.iload_n 1, 1) := by decide +kernel
theorem dX10_write_1 : decode cX10_write 1 = .ok (.invokestatic 82, 3) := by decide +kernel
theorem dX10_write_4 : decode cX10_write 4 = .ok (.ifCond .eq 36, 3) := by decide +kernel
theorem dX10_write_7 : decode cX10_write 7 = .ok (.iload_n 2, 1) := by decide +kernel
theorem dX10_write_8 : decode cX10_write 8 = .ok (.iconst 1, 1) := by decide +kernel
theorem dX10_write_9 : decode cX10_write 9 = .ok (.sipush 1199, 3) := by decide +kernel
theorem dX10_write_12 : decode cX10_write 12 = .ok (.invokestatic 54, 3) := by decide +kernel
theorem dX10_write_15 : decode cX10_write 15 = .ok (.ifCond .eq 25, 3) := by decide +kernel
theorem dX10_write_18 : decode cX10_write 18 = .ok (.iload_n 2, 1) := by decide +kernel
theorem dX10_write_19 : decode cX10_write 19 = .ok (.bipush 100, 2) := by decide +kernel
theorem dX10_write_21 : decode cX10_write 21 = .ok (.irem, 1) := by decide +kernel
theorem dX10_write_22 : decode cX10_write 22 = .ok (.iconst 1, 1) := by decide +kernel
theorem dX10_write_23 : decode cX10_write 23 = .ok (.bipush 12, 2) := by decide +kernel
theorem dX10_write_25 : decode cX10_write 25 = .ok (.iload_n 2, 1) := by decide +kernel
theorem dX10_write_26 : decode cX10_write 26 = .ok (.bipush 100, 2) := by decide +kernel
theorem dX10_write_28 : decode cX10_write 28 = .ok (.idiv, 1) := by decide +kernel
theorem dX10_write_29 : decode cX10_write 29 = .ok (.isub, 1) := by decide +kernel
theorem dX10_write_30 : decode cX10_write 30 = .ok (.invokestatic 54, 3) := by decide +kernel
theorem dX10_write_33 : decode cX10_write 33 = .ok (.ifCond .eq 7, 3) := by decide +kernel
theorem dX10_write_36 : decode cX10_write 36 = .ok (.iconst 1, 1) := by decide +kernel
theorem dX10_write_37 : decode cX10_write 37 = .ok (.goto 4, 3) := by decide +kernel
theorem dX10_write_40 : decode cX10_write 40 = .ok (.iconst 0, 1) := by decide +kernel
theorem dX10_write_41 : decode cX10_write 41 = .ok (.istore 5, 2) := by decide +kernel
theorem dX10_write_43 : decode cX10_write 43 = .ok (.iload 5, 2) := by decide +kernel
theorem dX10_write_45 : decode cX10_write 45 = .ok (.ifCond .eq 22, 3) := by decide +kernel
theorem dX10_write_48 : decode cX10_write 48 = .ok (.iload_n 3, 1) := by decide +kernel
theorem dX10_write_49 : decode cX10_write 49 = .ok (.iconst 0, 1) := by decide +kernel
theorem dX10_write_50 : decode cX10_write 50 = .ok (.iconst 5, 1) := by decide +kernel
theorem dX10_write_51 : decode cX10_write 51 = .ok (.invokestatic 54, 3) := by decide +kernel
theorem dX10_write_54 : decode cX10_write 54 = .ok (.ifCond .eq 13, 3) := by decide +kernel
theorem dX10_write_57 : decode cX10_write 57 = .ok (.iload 4, 2) := by decide +kernel
theorem dX10_write_59 : decode cX10_write 59 = .ok (.iconst 0, 1) := by decide +kernel
theorem dX10_write_60 : decode cX10_write 60 = .ok (.iconst 4, 1) := by decide +kernel
theorem dX10_write_61 : decode cX10_write 61 = .ok (.invokestatic 54, 3) := by decide +kernel
theorem dX10_write_64 : decode cX10_write 64 = .ok (.ifCond .ne 10, 3) := by decide +kernel
theorem dX10_write_67 : decode cX10_write 67 = .ok (.aload_n 0, 1) := by decide +kernel
theorem dX10_write_68 : decode cX10_write 68 = .ok (.ldc 86, 2) := by decide +kernel
theorem dX10_write_70 : decode cX10_write 70 = .ok (.invokevirtual 87, 3) := by decide +kernel
theorem dX10_write_73 : decode cX10_write 73 = .ok (.ireturn, 1) := by decide +kernel
theorem dX10_write_74 : decode cX10_write 74 = .ok (.aload_n 0, 1) := by decide +kernel
theorem dX10_write_75 : decode cX10_write 75 = .ok (.getfield 9, 3) := by decide +kernel
theorem dX10_write_78 : decode cX10_write 78 = .ok (.iconst 2, 1) := by decide +kernel
theorem dX10_write_79 : decode cX10_write 79 = .ok (.iaload, 1) := by decide +kernel
theorem dX10_write_80 : decode cX10_write 80 = .ok (.bipush 10, 2) := by decide +kernel
theorem dX10_write_82 : decode cX10_write 82 = .ok (.if_icmp .ne 10, 3) := by decide +kernel
theorem dX10_write_85 : decode cX10_write 85 = .ok (.aload_n 0, 1) := by decide +kernel
theorem dX10_write_86 : decode cX10_write 86 = .ok (.ldc 90, 2) := by decide +kernel
theorem dX10_write_88 : decode cX10_write 88 = .ok (.invokevirtual 87, 3) := by decide +kernel
theorem dX10_write_91 : decode cX10_write 91 = .ok (.ireturn, 1) := by decide +kernel
theorem dX10_write_92 : decode cX10_write 92 = .ok (.iload_n 2, 1) := by decide +kernel
theorem dX10_write_93 : decode cX10_write 93 = .ok (.bipush 100, 2) := by decide +kernel
theorem dX10_write_95 : decode cX10_write 95 = .ok (.irem, 1) := by decide +kernel
theorem dX10_write_96 : decode cX10_write 96 = .ok (.istore 6, 2) := by decide +kernel
theorem dX10_write_98 : decode cX10_write 98 = .ok (.iload_n 2, 1) := by decide +kernel
theorem dX10_write_99 : decode cX10_write 99 = .ok (.bipush 100, 2) := by decide +kernel
theorem dX10_write_101 : decode cX10_write 101 = .ok (.idiv, 1) := by decide +kernel
theorem dX10_write_102 : decode cX10_write 102 = .ok (.iload 6, 2) := by decide +kernel
theorem dX10_write_104 : decode cX10_write 104 = .ok (.invokestatic 91, 3) := by decide +kernel
theorem dX10_write_107 : decode cX10_write 107 = .ok (.istore 7, 2) := by decide +kernel
theorem dX10_write_109 : decode cX10_write 109 = .ok (.iload 7, 2) := by decide +kernel
theorem dX10_write_111 : decode cX10_write 111 = .ok (.aload_n 0, 1) := by decide +kernel
theorem dX10_write_112 : decode cX10_write 112 = .ok (.iconst (-1), 1) := by decide +kernel
theorem dX10_write_113 : decode cX10_write 113 = .ok (.invokevirtual 94, 3) := by decide +kernel
theorem dX10_write_116 : decode cX10_write 116 = .ok (.iand, 1) := by decide +kernel
theorem dX10_write_117 : decode cX10_write 117 = .ok (.ifCond .ne 18, 3) := by decide +kernel
theorem dX10_write_120 : decode cX10_write 120 = .ok (.aload_n 0, 1) := by decide +kernel
theorem dX10_write_121 : decode cX10_write 121 = .ok (.getfield 9, 3) := by decide +kernel
theorem dX10_write_124 : decode cX10_write 124 = .ok (.bipush 7, 2) := by decide +kernel
theorem dX10_write_126 : decode cX10_write 126 = .ok (.iload 4, 2) := by decide +kernel
theorem dX10_write_128 : decode cX10_write 128 = .ok (.iadd, 1) := by decide +kernel
theorem dX10_write_129 : decode cX10_write 129 = .ok (.iaload, 1) := by decide +kernel
theorem dX10_write_130 : decode cX10_write 130 = .ok (.iload 6, 2) := by decide +kernel
theorem dX10_write_132 : decode cX10_write 132 = .ok (.if_icmp .ge 10, 3) := by decide +kernel
theorem dX10_write_135 : decode cX10_write 135 = .ok (.aload_n 0, 1) := by decide +kernel
theorem dX10_write_136 : decode cX10_write 136 = .ok (.ldc 97, 2) := by decide +kernel
theorem dX10_write_138 : decode cX10_write 138 = .ok (.invokevirtual 87, 3) := by decide +kernel
theorem dX10_write_141 : decode cX10_write 141 = .ok (.ireturn, 1) := by decide +kernel
theorem dX10_write_142 : decode cX10_write 142 = .ok (.aload_n 0, 1) := by decide +kernel
theorem dX10_write_143 : decode cX10_write 143 = .ok (.getfield 9, 3) := by decide +kernel
theorem dX10_write_146 : decode cX10_write 146 = .ok (.bipush 7, 2) := by decide +kernel
theorem dX10_write_148 : decode cX10_write 148 = .ok (.iload 4, 2) := by decide +kernel
theorem dX10_write_150 : decode cX10_write 150 = .ok (.iadd, 1) := by decide +kernel
theorem dX10_write_151 : decode cX10_write 151 = .ok (.dup2, 1) := by decide +kernel
theorem dX10_write_152 : decode cX10_write 152 = .ok (.iaload, 1) := by decide +kernel
theorem dX10_write_153 : decode cX10_write 153 = .ok (.iload 6, 2) := by decide +kernel
theorem dX10_write_155 : decode cX10_write 155 = .ok (.isub, 1) := by decide +kernel
theorem dX10_write_156 : decode cX10_write 156 = .ok (.iastore, 1) := by decide +kernel
theorem dX10_write_157 : decode cX10_write 157 = .ok (.aload_n 0, 1) := by decide +kernel
theorem dX10_write_158 : decode cX10_write 158 = .ok (.iload_n 1, 1) := by decide +kernel
theorem dX10_write_159 : decode cX10_write 159 = .ok (.iload 7, 2) := by decide +kernel
theorem dX10_write_161 : decode cX10_write 161 = .ok (.iload_n 3, 1) := by decide +kernel
theorem dX10_write_162 : decode cX10_write 162 = .ok (.invokevirtual 98, 3) := by decide +kernel
theorem dX10_write_165 : decode cX10_write 165 = .ok (.ireturn, 1) := by decide +kernel
set_option maxRecDepth 20000 in
theorem ggX10_lineIs_X10_isLine : GoodIn wsX10_lineIs wsX10_isLine := goodIn_r _ [6, 7, 8, 9, 5, 10, 49, 50, 51, 52, 53, 54, 55, 56, 57, 58, 59, 60, 61, 62, 63, 64, 65, 66, 67, 68, 69] (by decide +kernel) (by decide +kernel)
set_option maxRecDepth 20000 in
theorem gX10_lineIs_X10_isLine : GoodIn wsX10_lineIs (wsV RX10 101 RX10 yX10_isLine wsX10_isLine) := goodIn_app (goodIn_of _ (by decide +kernel)) ggX10_lineIs_X10_isLine
set_option maxRecDepth 20000 in
theorem ggX10_lineIs_X10_in : GoodIn wsX10_lineIs wsX10_in := goodIn_r _ [10] (by decide +kernel) (by decide +kernel)
set_option maxRecDepth 20000 in
theorem gX10_lineIs_X10_in : GoodIn wsX10_lineIs (va_wsS RX10 54 yX10_in wsX10_in) := goodIn_app (goodIn_of _ (by decide +kernel)) ggX10_lineIs_X10_in
set_option maxRecDepth 20000 in
theorem ggX10_lineIs_X10_error : GoodIn wsX10_lineIs wsX10_error := goodIn_r _ [14, 15, 16, 49, 50, 51, 52, 53, 54, 55, 56, 57, 58, 59, 60, 61, 62, 63, 64, 65, 66, 67, 68, 69] (by decide +kernel) (by decide +kernel)
set_option maxRecDepth 20000 in
theorem gX10_lineIs_X10_error : GoodIn wsX10_lineIs (wsV RX10 87 RX10 yX10_error wsX10_error) := goodIn_app (goodIn_of _ (by decide +kernel)) ggX10_lineIs_X10_error
set_option maxRecDepth 20000 in
theorem ggX10_lineIs_X10_it : GoodIn wsX10_lineIs wsX10_it := goodIn_r _ [20, 7, 49, 50, 51, 52, 53, 54, 55, 56, 57, 58, 59, 60, 61, 62, 63, 64, 65, 66, 67, 68, 69] (by decide +kernel) (by decide +kernel)
set_option maxRecDepth 20000 in
theorem gX10_lineIs_X10_it : GoodIn wsX10_lineIs (wsV RX10 58 RX10 yX10_it wsX10_it) := goodIn_app (goodIn_of _ (by decide +kernel)) ggX10_lineIs_X10_it
set_option maxRecDepth 20000 in
theorem ggX10_lineIs_X10_mayGo : GoodIn wsX10_lineIs wsX10_mayGo := goodIn_r _ [24, 7, 17, 18, 19, 5, 20, 49, 50, 51, 52, 53, 54, 55, 56, 57, 58, 59, 60, 61, 62, 63, 64, 65, 66, 67, 68, 69] (by decide +kernel) (by decide +kernel)
set_option maxRecDepth 20000 in
theorem gX10_lineIs_X10_mayGo : GoodIn wsX10_lineIs (wsV RX10 104 RX10 yX10_mayGo wsX10_mayGo) := goodIn_app (goodIn_of _ (by decide +kernel)) ggX10_lineIs_X10_mayGo
set_option maxRecDepth 20000 in
theorem ggX10_lineIs_X10_backOf : GoodIn wsX10_lineIs wsX10_backOf := goodIn_r _ [28, 7, 17, 18, 19, 5, 20, 29, 30, 31, 49, 50, 51, 52, 53, 54, 55, 56, 57, 58, 59, 60, 61, 62, 63, 64, 65, 66, 67, 68, 69] (by decide +kernel) (by decide +kernel)
set_option maxRecDepth 20000 in
theorem gX10_lineIs_X10_backOf : GoodIn wsX10_lineIs (wsV RX10 66 RX10 yX10_backOf wsX10_backOf) := goodIn_app (goodIn_of _ (by decide +kernel)) ggX10_lineIs_X10_backOf
set_option maxRecDepth 20000 in
theorem ggX10_lineIs_X10_lossOf : GoodIn wsX10_lineIs wsX10_lossOf := goodIn_r _ [35, 25, 26, 27, 5, 28, 7, 17, 18, 19, 20, 29, 30, 31, 36, 37, 38, 39, 40, 41, 42, 43, 44, 45, 46, 47, 48, 49, 50, 51, 52, 53, 54, 55, 56, 57, 58, 59, 60, 61, 62, 63, 64, 65, 66, 67, 68, 69] (by decide +kernel) (by decide +kernel)
set_option maxRecDepth 20000 in
theorem gX10_lineIs_X10_lossOf : GoodIn wsX10_lineIs (wsV RX10 74 RX10 yX10_lossOf wsX10_lossOf) := goodIn_app (goodIn_of _ (by decide +kernel)) ggX10_lineIs_X10_lossOf
theorem dX10_lineIs_0 : decode cX10_lineIs 0 = .ok (.aload_n 0, 1) := by decide +kernel
theorem dX10_lineIs_1 : decode cX10_lineIs 1 = .ok (.iload_n 1, 1) := by decide +kernel
theorem dX10_lineIs_2 : decode cX10_lineIs 2 = .ok (.invokevirtual 101, 3) := by decide +kernel
theorem dX10_lineIs_5 : decode cX10_lineIs 5 = .ok (.ifCond .eq 13, 3) := by decide +kernel
theorem dX10_lineIs_8 : decode cX10_lineIs 8 = .ok (.iload_n 2, 1) := by decide +kernel
theorem dX10_lineIs_9 : decode cX10_lineIs 9 = .ok (.iconst 0, 1) := by decide +kernel
theorem dX10_lineIs_10 : decode cX10_lineIs 10 = .ok (.bipush 9, 2) := by decide +kernel
theorem dX10_lineIs_12 : decode cX10_lineIs 12 = .ok (.invokestatic 54, 3) := by decide +kernel
theorem dX10_lineIs_15 : decode cX10_lineIs 15 = .ok (.ifCond .ne 10, 3) := by decide +kernel
theorem dX10_lineIs_18 : decode cX10_lineIs 18 = .ok (.aload_n 0, 1) := by decide +kernel
theorem dX10_lineIs_19 : decode cX10_lineIs 19 = .ok (.ldc 86, 2) := by decide +kernel
theorem dX10_lineIs_21 : decode cX10_lineIs 21 = .ok (.invokevirtual 87, 3) := by decide +kernel
theorem dX10_lineIs_24 : decode cX10_lineIs 24 = .ok (.ireturn, 1) := by decide +kernel
theorem dX10_lineIs_25 : decode cX10_lineIs 25 = .ok (.iload_n 2, 1) := by decide +kernel
theorem dX10_lineIs_26 : decode cX10_lineIs 26 = .ok (.bipush 7, 2) := by decide +kernel
theorem dX10_lineIs_28 : decode cX10_lineIs 28 = .ok (.if_icmp .ge 10, 3) := by decide +kernel
theorem dX10_lineIs_31 : decode cX10_lineIs 31 = .ok (.aload_n 0, 1) := by decide +kernel
theorem dX10_lineIs_32 : decode cX10_lineIs 32 = .ok (.iload_n 1, 1) := by decide +kernel
theorem dX10_lineIs_33 : decode cX10_lineIs 33 = .ok (.iload_n 2, 1) := by decide +kernel
theorem dX10_lineIs_34 : decode cX10_lineIs 34 = .ok (.invokevirtual 58, 3) := by decide +kernel
theorem dX10_lineIs_37 : decode cX10_lineIs 37 = .ok (.ireturn, 1) := by decide +kernel
theorem dX10_lineIs_38 : decode cX10_lineIs 38 = .ok (.iload_n 2, 1) := by decide +kernel
theorem dX10_lineIs_39 : decode cX10_lineIs 39 = .ok (.bipush 7, 2) := by decide +kernel
theorem dX10_lineIs_41 : decode cX10_lineIs 41 = .ok (.if_icmp .ne 19, 3) := by decide +kernel
theorem dX10_lineIs_44 : decode cX10_lineIs 44 = .ok (.aload_n 0, 1) := by decide +kernel
theorem dX10_lineIs_45 : decode cX10_lineIs 45 = .ok (.iload_n 1, 1) := by decide +kernel
theorem dX10_lineIs_46 : decode cX10_lineIs 46 = .ok (.invokevirtual 104, 3) := by decide +kernel
theorem dX10_lineIs_49 : decode cX10_lineIs 49 = .ok (.ifCond .eq 7, 3) := by decide +kernel
theorem dX10_lineIs_52 : decode cX10_lineIs 52 = .ok (.iconst 1, 1) := by decide +kernel
theorem dX10_lineIs_53 : decode cX10_lineIs 53 = .ok (.goto 26, 3) := by decide +kernel
theorem dX10_lineIs_56 : decode cX10_lineIs 56 = .ok (.iconst 0, 1) := by decide +kernel
theorem dX10_lineIs_57 : decode cX10_lineIs 57 = .ok (.goto 22, 3) := by decide +kernel
theorem dX10_lineIs_60 : decode cX10_lineIs 60 = .ok (.iload_n 2, 1) := by decide +kernel
theorem dX10_lineIs_61 : decode cX10_lineIs 61 = .ok (.bipush 8, 2) := by decide +kernel
theorem dX10_lineIs_63 : decode cX10_lineIs 63 = .ok (.if_icmp .ne 11, 3) := by decide +kernel
theorem dX10_lineIs_66 : decode cX10_lineIs 66 = .ok (.aload_n 0, 1) := by decide +kernel
theorem dX10_lineIs_67 : decode cX10_lineIs 67 = .ok (.iload_n 1, 1) := by decide +kernel
theorem dX10_lineIs_68 : decode cX10_lineIs 68 = .ok (.invokevirtual 66, 3) := by decide +kernel
theorem dX10_lineIs_71 : decode cX10_lineIs 71 = .ok (.goto 8, 3) := by decide +kernel
theorem dX10_lineIs_74 : decode cX10_lineIs 74 = .ok (.aload_n 0, 1) := by decide +kernel
theorem dX10_lineIs_75 : decode cX10_lineIs 75 = .ok (.iload_n 1, 1) := by decide +kernel
theorem dX10_lineIs_76 : decode cX10_lineIs 76 = .ok (.invokevirtual 74, 3) := by decide +kernel
theorem dX10_lineIs_79 : decode cX10_lineIs 79 = .ok (.ireturn, 1) := by decide +kernel
set_option maxRecDepth 20000 in
theorem ggX10_become_X10_isLine : GoodIn wsX10_become wsX10_isLine := goodIn_r _ [6, 7, 8, 9, 5, 10, 28, 29, 30, 31, 32, 33, 34, 35, 36, 37, 38, 39, 40, 41, 42, 43, 44, 45, 46, 47, 48] (by decide +kernel) (by decide +kernel)
set_option maxRecDepth 20000 in
theorem gX10_become_X10_isLine : GoodIn wsX10_become (wsV RX10 101 RX10 yX10_isLine wsX10_isLine) := goodIn_app (goodIn_of _ (by decide +kernel)) ggX10_become_X10_isLine
set_option maxRecDepth 20000 in
theorem ggX10_become_X10_isKm : GoodIn wsX10_become wsX10_isKm := goodIn_r _ [13, 8, 9, 5, 10] (by decide +kernel) (by decide +kernel)
set_option maxRecDepth 20000 in
theorem gX10_become_X10_isKm : GoodIn wsX10_become (va_wsS RX10 82 yX10_isKm wsX10_isKm) := goodIn_app (goodIn_of _ (by decide +kernel)) ggX10_become_X10_isKm
set_option maxRecDepth 20000 in
theorem ggX10_become_X10_error : GoodIn wsX10_become wsX10_error := goodIn_r _ [17, 18, 19, 28, 29, 30, 31, 32, 33, 34, 35, 36, 37, 38, 39, 40, 41, 42, 43, 44, 45, 46, 47, 48] (by decide +kernel) (by decide +kernel)
set_option maxRecDepth 20000 in
theorem gX10_become_X10_error : GoodIn wsX10_become (wsV RX10 87 RX10 yX10_error wsX10_error) := goodIn_app (goodIn_of _ (by decide +kernel)) ggX10_become_X10_error
set_option maxRecDepth 20000 in
theorem ggX10_become_X10_lets : GoodIn wsX10_become wsX10_lets := goodIn_r _ [23, 7, 28, 29, 30, 31, 32, 33, 34, 35, 36, 37, 38, 39, 40, 41, 42, 43, 44, 45, 46, 47, 48] (by decide +kernel) (by decide +kernel)
set_option maxRecDepth 20000 in
theorem gX10_become_X10_lets : GoodIn wsX10_become (wsV RX10 78 RX10 yX10_lets wsX10_lets) := goodIn_app (goodIn_of _ (by decide +kernel)) ggX10_become_X10_lets
set_option maxRecDepth 20000 in
theorem ggX10_become_X10_becomes : GoodIn wsX10_become wsX10_becomes := goodIn_r _ [27, 7, 28, 29, 30, 31, 32, 33, 34, 35, 36, 37, 38, 39, 40, 41, 42, 43, 44, 45, 46, 47, 48] (by decide +kernel) (by decide +kernel)
set_option maxRecDepth 20000 in
theorem gX10_become_X10_becomes : GoodIn wsX10_become (wsV RX10 107 RX10 yX10_becomes wsX10_becomes) := goodIn_app (goodIn_of _ (by decide +kernel)) ggX10_become_X10_becomes
theorem dX10_become_0 : decode cX10_become 0 = .ok (.aload_n 0, 1) := by decide +kernel
theorem dX10_become_1 : decode cX10_become 1 = .ok (.iload_n 1, 1) := by decide +kernel
theorem dX10_become_2 : decode cX10_become 2 = .ok (.invokevirtual 101, 3) := by decide +kernel
theorem dX10_become_5 : decode cX10_become 5 = .ok (.ifCond .eq 10, 3) := by decide +kernel
theorem dX10_become_8 : decode cX10_become 8 = .ok (.iload_n 2, 1) := by decide +kernel
theorem dX10_become_9 : decode cX10_become 9 = .ok (.invokestatic 82, 3) := by decide +kernel
theorem dX10_become_12 : decode cX10_become 12 = .ok (.ifCond .ne 10, 3) := by decide +kernel
theorem dX10_become_15 : decode cX10_become 15 = .ok (.aload_n 0, 1) := by decide +kernel
theorem dX10_become_16 : decode cX10_become 16 = .ok (.ldc 86, 2) := by decide +kernel
theorem dX10_become_18 : decode cX10_become 18 = .ok (.invokevirtual 87, 3) := by decide +kernel
theorem dX10_become_21 : decode cX10_become 21 = .ok (.ireturn, 1) := by decide +kernel
theorem dX10_become_22 : decode cX10_become 22 = .ok (.aload_n 0, 1) := by decide +kernel
theorem dX10_become_23 : decode cX10_become 23 = .ok (.iload_n 1, 1) := by decide +kernel
theorem dX10_become_24 : decode cX10_become 24 = .ok (.iconst 1, 1) := by decide +kernel
theorem dX10_become_25 : decode cX10_become 25 = .ok (.iload_n 2, 1) := by decide +kernel
theorem dX10_become_26 : decode cX10_become 26 = .ok (.bipush 10, 2) := by decide +kernel
theorem dX10_become_28 : decode cX10_become 28 = .ok (.irem, 1) := by decide +kernel
theorem dX10_become_29 : decode cX10_become 29 = .ok (.invokevirtual 78, 3) := by decide +kernel
theorem dX10_become_32 : decode cX10_become 32 = .ok (.aload_n 0, 1) := by decide +kernel
theorem dX10_become_33 : decode cX10_become 33 = .ok (.bipush 12, 2) := by decide +kernel
theorem dX10_become_35 : decode cX10_become 35 = .ok (.bipush 7, 2) := by decide +kernel
theorem dX10_become_37 : decode cX10_become 37 = .ok (.iload_n 1, 1) := by decide +kernel
theorem dX10_become_38 : decode cX10_become 38 = .ok (.imul, 1) := by decide +kernel
theorem dX10_become_39 : decode cX10_become 39 = .ok (.iadd, 1) := by decide +kernel
theorem dX10_become_40 : decode cX10_become 40 = .ok (.iload_n 2, 1) := by decide +kernel
theorem dX10_become_41 : decode cX10_become 41 = .ok (.bipush 10, 2) := by decide +kernel
theorem dX10_become_43 : decode cX10_become 43 = .ok (.idiv, 1) := by decide +kernel
theorem dX10_become_44 : decode cX10_become 44 = .ok (.invokevirtual 107, 3) := by decide +kernel
theorem dX10_become_47 : decode cX10_become 47 = .ok (.ireturn, 1) := by decide +kernel
set_option maxRecDepth 20000 in
theorem ggX10_as_X10_isLine : GoodIn wsX10_as wsX10_isLine := goodIn_r _ [7, 8, 9, 10, 6, 11, 22, 23, 24, 25, 26, 27, 28, 29, 30, 31, 32, 33, 34, 35, 36, 37, 38, 39, 40, 41, 42] (by decide +kernel) (by decide +kernel)
set_option maxRecDepth 20000 in
theorem gX10_as_X10_isLine : GoodIn wsX10_as (wsV RX10 101 RX10 yX10_isLine wsX10_isLine) := goodIn_app (goodIn_of _ (by decide +kernel)) ggX10_as_X10_isLine
set_option maxRecDepth 20000 in
theorem ggX10_as_X10_in : GoodIn wsX10_as wsX10_in := goodIn_r _ [11] (by decide +kernel) (by decide +kernel)
set_option maxRecDepth 20000 in
theorem gX10_as_X10_in : GoodIn wsX10_as (va_wsS RX10 54 yX10_in wsX10_in) := goodIn_app (goodIn_of _ (by decide +kernel)) ggX10_as_X10_in
set_option maxRecDepth 20000 in
theorem ggX10_as_X10_error : GoodIn wsX10_as wsX10_error := goodIn_r _ [15, 16, 17, 22, 23, 24, 25, 26, 27, 28, 29, 30, 31, 32, 33, 34, 35, 36, 37, 38, 39, 40, 41, 42] (by decide +kernel) (by decide +kernel)
set_option maxRecDepth 20000 in
theorem gX10_as_X10_error : GoodIn wsX10_as (wsV RX10 87 RX10 yX10_error wsX10_error) := goodIn_app (goodIn_of _ (by decide +kernel)) ggX10_as_X10_error
set_option maxRecDepth 20000 in
theorem ggX10_as_X10_it : GoodIn wsX10_as wsX10_it := goodIn_r _ [21, 8, 22, 23, 24, 25, 26, 27, 28, 29, 30, 31, 32, 33, 34, 35, 36, 37, 38, 39, 40, 41, 42] (by decide +kernel) (by decide +kernel)
set_option maxRecDepth 20000 in
theorem gX10_as_X10_it : GoodIn wsX10_as (wsV RX10 58 RX10 yX10_it wsX10_it) := goodIn_app (goodIn_of _ (by decide +kernel)) ggX10_as_X10_it
theorem dX10_as_0 : decode cX10_as 0 = .ok (.aload_n 0, 1) := by decide +kernel
theorem dX10_as_1 : decode cX10_as 1 = .ok (.iload_n 1, 1) := by decide +kernel
theorem dX10_as_2 : decode cX10_as 2 = .ok (.invokevirtual 101, 3) := by decide +kernel
theorem dX10_as_5 : decode cX10_as 5 = .ok (.ifCond .eq 13, 3) := by decide +kernel
theorem dX10_as_8 : decode cX10_as 8 = .ok (.iload_n 2, 1) := by decide +kernel
theorem dX10_as_9 : decode cX10_as 9 = .ok (.iconst 0, 1) := by decide +kernel
theorem dX10_as_10 : decode cX10_as 10 = .ok (.bipush 6, 2) := by decide +kernel
theorem dX10_as_12 : decode cX10_as 12 = .ok (.invokestatic 54, 3) := by decide +kernel
theorem dX10_as_15 : decode cX10_as 15 = .ok (.ifCond .ne 10, 3) := by decide +kernel
theorem dX10_as_18 : decode cX10_as 18 = .ok (.aload_n 0, 1) := by decide +kernel
theorem dX10_as_19 : decode cX10_as 19 = .ok (.ldc 86, 2) := by decide +kernel
theorem dX10_as_21 : decode cX10_as 21 = .ok (.invokevirtual 87, 3) := by decide +kernel
theorem dX10_as_24 : decode cX10_as 24 = .ok (.ireturn, 1) := by decide +kernel
theorem dX10_as_25 : decode cX10_as 25 = .ok (.aload_n 0, 1) := by decide +kernel
theorem dX10_as_26 : decode cX10_as 26 = .ok (.iload_n 1, 1) := by decide +kernel
theorem dX10_as_27 : decode cX10_as 27 = .ok (.iconst 0, 1) := by decide +kernel
theorem dX10_as_28 : decode cX10_as 28 = .ok (.invokevirtual 58, 3) := by decide +kernel
theorem dX10_as_31 : decode cX10_as 31 = .ok (.istore_n 3, 1) := by decide +kernel
theorem dX10_as_32 : decode cX10_as 32 = .ok (.iload_n 2, 1) := by decide +kernel
theorem dX10_as_33 : decode cX10_as 33 = .ok (.ifCond .eq 28, 3) := by decide +kernel
theorem dX10_as_36 : decode cX10_as 36 = .ok (.iload_n 2, 1) := by decide +kernel
theorem dX10_as_37 : decode cX10_as 37 = .ok (.iload_n 3, 1) := by decide +kernel
theorem dX10_as_38 : decode cX10_as 38 = .ok (.if_icmp .eq 23, 3) := by decide +kernel
theorem dX10_as_41 : decode cX10_as 41 = .ok (.iload_n 2, 1) := by decide +kernel
theorem dX10_as_42 : decode cX10_as 42 = .ok (.iconst 1, 1) := by decide +kernel
theorem dX10_as_43 : decode cX10_as 43 = .ok (.if_icmp .ne 8, 3) := by decide +kernel
theorem dX10_as_46 : decode cX10_as 46 = .ok (.iload_n 3, 1) := by decide +kernel
theorem dX10_as_47 : decode cX10_as 47 = .ok (.iconst 4, 1) := by decide +kernel
theorem dX10_as_48 : decode cX10_as 48 = .ok (.if_icmp .eq 13, 3) := by decide +kernel
theorem dX10_as_51 : decode cX10_as 51 = .ok (.iload_n 2, 1) := by decide +kernel
theorem dX10_as_52 : decode cX10_as 52 = .ok (.iconst 2, 1) := by decide +kernel
theorem dX10_as_53 : decode cX10_as 53 = .ok (.if_icmp .ne 12, 3) := by decide +kernel
theorem dX10_as_56 : decode cX10_as 56 = .ok (.iload_n 3, 1) := by decide +kernel
theorem dX10_as_57 : decode cX10_as 57 = .ok (.iconst 5, 1) := by decide +kernel
theorem dX10_as_58 : decode cX10_as 58 = .ok (.if_icmp .ne 7, 3) := by decide +kernel
theorem dX10_as_61 : decode cX10_as 61 = .ok (.iconst 1, 1) := by decide +kernel
theorem dX10_as_62 : decode cX10_as 62 = .ok (.goto 4, 3) := by decide +kernel
theorem dX10_as_65 : decode cX10_as 65 = .ok (.iconst 0, 1) := by decide +kernel
theorem dX10_as_66 : decode cX10_as 66 = .ok (.istore 4, 2) := by decide +kernel
theorem dX10_as_68 : decode cX10_as 68 = .ok (.iload 4, 2) := by decide +kernel
theorem dX10_as_70 : decode cX10_as 70 = .ok (.ifCond .eq 12, 3) := by decide +kernel
theorem dX10_as_73 : decode cX10_as 73 = .ok (.aload_n 0, 1) := by decide +kernel
theorem dX10_as_74 : decode cX10_as 74 = .ok (.iload_n 1, 1) := by decide +kernel
theorem dX10_as_75 : decode cX10_as 75 = .ok (.iconst 1, 1) := by decide +kernel
theorem dX10_as_76 : decode cX10_as 76 = .ok (.invokevirtual 58, 3) := by decide +kernel
theorem dX10_as_79 : decode cX10_as 79 = .ok (.goto 9, 3) := by decide +kernel
theorem dX10_as_82 : decode cX10_as 82 = .ok (.aload_n 0, 1) := by decide +kernel
theorem dX10_as_83 : decode cX10_as 83 = .ok (.ldc 110, 2) := by decide +kernel
theorem dX10_as_85 : decode cX10_as 85 = .ok (.invokevirtual 87, 3) := by decide +kernel
theorem dX10_as_88 : decode cX10_as 88 = .ok (.ireturn, 1) := by decide +kernel
set_option maxRecDepth 20000 in
theorem ggX10_photo_X10_isLine : GoodIn wsX10_photo wsX10_isLine := goodIn_r _ [6, 7, 8, 9, 5, 10, 21, 22, 23, 24, 25, 26, 27, 28, 29, 30, 31, 32, 33, 34, 35, 36, 37, 38, 39, 40, 41] (by decide +kernel) (by decide +kernel)
set_option maxRecDepth 20000 in
theorem gX10_photo_X10_isLine : GoodIn wsX10_photo (wsV RX10 101 RX10 yX10_isLine wsX10_isLine) := goodIn_app (goodIn_of _ (by decide +kernel)) ggX10_photo_X10_isLine
set_option maxRecDepth 20000 in
theorem ggX10_photo_X10_in : GoodIn wsX10_photo wsX10_in := goodIn_r _ [10] (by decide +kernel) (by decide +kernel)
set_option maxRecDepth 20000 in
theorem gX10_photo_X10_in : GoodIn wsX10_photo (va_wsS RX10 54 yX10_in wsX10_in) := goodIn_app (goodIn_of _ (by decide +kernel)) ggX10_photo_X10_in
set_option maxRecDepth 20000 in
theorem ggX10_photo_X10_becomes : GoodIn wsX10_photo wsX10_becomes := goodIn_r _ [14, 7, 21, 22, 23, 24, 25, 26, 27, 28, 29, 30, 31, 32, 33, 34, 35, 36, 37, 38, 39, 40, 41] (by decide +kernel) (by decide +kernel)
set_option maxRecDepth 20000 in
theorem gX10_photo_X10_becomes : GoodIn wsX10_photo (wsV RX10 107 RX10 yX10_becomes wsX10_becomes) := goodIn_app (goodIn_of _ (by decide +kernel)) ggX10_photo_X10_becomes
set_option maxRecDepth 20000 in
theorem ggX10_photo_X10_error : GoodIn wsX10_photo wsX10_error := goodIn_r _ [18, 19, 20, 21, 22, 23, 24, 25, 26, 27, 28, 29, 30, 31, 32, 33, 34, 35, 36, 37, 38, 39, 40, 41] (by decide +kernel) (by decide +kernel)
set_option maxRecDepth 20000 in
theorem gX10_photo_X10_error : GoodIn wsX10_photo (wsV RX10 87 RX10 yX10_error wsX10_error) := goodIn_app (goodIn_of _ (by decide +kernel)) ggX10_photo_X10_error
theorem dX10_photo_0 : decode cX10_photo 0 = .ok (.aload_n 0, 1) := by decide +kernel
theorem dX10_photo_1 : decode cX10_photo 1 = .ok (.iload_n 1, 1) := by decide +kernel
theorem dX10_photo_2 : decode cX10_photo 2 = .ok (.invokevirtual 101, 3) := by decide +kernel
theorem dX10_photo_5 : decode cX10_photo 5 = .ok (.ifCond .eq 29, 3) := by decide +kernel
theorem dX10_photo_8 : decode cX10_photo 8 = .ok (.iload_n 2, 1) := by decide +kernel
theorem dX10_photo_9 : decode cX10_photo 9 = .ok (.iconst 0, 1) := by decide +kernel
theorem dX10_photo_10 : decode cX10_photo 10 = .ok (.iconst 1, 1) := by decide +kernel
theorem dX10_photo_11 : decode cX10_photo 11 = .ok (.invokestatic 54, 3) := by decide +kernel
theorem dX10_photo_14 : decode cX10_photo 14 = .ok (.ifCond .eq 20, 3) := by decide +kernel
theorem dX10_photo_17 : decode cX10_photo 17 = .ok (.aload_n 0, 1) := by decide +kernel
theorem dX10_photo_18 : decode cX10_photo 18 = .ok (.bipush 12, 2) := by decide +kernel
theorem dX10_photo_20 : decode cX10_photo 20 = .ok (.bipush 7, 2) := by decide +kernel
theorem dX10_photo_22 : decode cX10_photo 22 = .ok (.iload_n 1, 1) := by decide +kernel
theorem dX10_photo_23 : decode cX10_photo 23 = .ok (.imul, 1) := by decide +kernel
theorem dX10_photo_24 : decode cX10_photo 24 = .ok (.iadd, 1) := by decide +kernel
theorem dX10_photo_25 : decode cX10_photo 25 = .ok (.iconst 5, 1) := by decide +kernel
theorem dX10_photo_26 : decode cX10_photo 26 = .ok (.iadd, 1) := by decide +kernel
theorem dX10_photo_27 : decode cX10_photo 27 = .ok (.iload_n 2, 1) := by decide +kernel
theorem dX10_photo_28 : decode cX10_photo 28 = .ok (.invokevirtual 107, 3) := by decide +kernel
theorem dX10_photo_31 : decode cX10_photo 31 = .ok (.goto 9, 3) := by decide +kernel
theorem dX10_photo_34 : decode cX10_photo 34 = .ok (.aload_n 0, 1) := by decide +kernel
theorem dX10_photo_35 : decode cX10_photo 35 = .ok (.ldc 86, 2) := by decide +kernel
theorem dX10_photo_37 : decode cX10_photo 37 = .ok (.invokevirtual 87, 3) := by decide +kernel
theorem dX10_photo_40 : decode cX10_photo 40 = .ok (.ireturn, 1) := by decide +kernel
set_option maxRecDepth 20000 in
theorem ggX10_wipe_X10_isLine : GoodIn wsX10_wipe wsX10_isLine := goodIn_r _ [7, 8, 9, 10, 6, 11, 59, 60, 61, 62, 63, 64, 65, 66, 67, 68, 69, 70, 71, 72, 73, 74, 75, 76, 77, 78, 79] (by decide +kernel) (by decide +kernel)
set_option maxRecDepth 20000 in
theorem gX10_wipe_X10_isLine : GoodIn wsX10_wipe (wsV RX10 101 RX10 yX10_isLine wsX10_isLine) := goodIn_app (goodIn_of _ (by decide +kernel)) ggX10_wipe_X10_isLine
set_option maxRecDepth 20000 in
theorem ggX10_wipe_X10_error : GoodIn wsX10_wipe wsX10_error := goodIn_r _ [15, 16, 17, 59, 60, 61, 62, 63, 64, 65, 66, 67, 68, 69, 70, 71, 72, 73, 74, 75, 76, 77, 78, 79] (by decide +kernel) (by decide +kernel)
set_option maxRecDepth 20000 in
theorem gX10_wipe_X10_error : GoodIn wsX10_wipe (wsV RX10 87 RX10 yX10_error wsX10_error) := goodIn_app (goodIn_of _ (by decide +kernel)) ggX10_wipe_X10_error
set_option maxRecDepth 20000 in
theorem ggX10_wipe_X10_mayGo : GoodIn wsX10_wipe wsX10_mayGo := goodIn_r _ [21, 8, 22, 23, 24, 6, 25, 59, 60, 61, 62, 63, 64, 65, 66, 67, 68, 69, 70, 71, 72, 73, 74, 75, 76, 77, 78, 79] (by decide +kernel) (by decide +kernel)
set_option maxRecDepth 20000 in
theorem gX10_wipe_X10_mayGo : GoodIn wsX10_wipe (wsV RX10 104 RX10 yX10_mayGo wsX10_mayGo) := goodIn_app (goodIn_of _ (by decide +kernel)) ggX10_wipe_X10_mayGo
set_option maxRecDepth 20000 in
theorem ggX10_wipe_X10_lossOf : GoodIn wsX10_wipe wsX10_lossOf := goodIn_r _ [29, 30, 31, 32, 6, 33, 8, 22, 23, 24, 25, 34, 35, 36, 37, 38, 39, 40, 41, 42, 43, 44, 45, 46, 47, 48, 49, 59, 60, 61, 62, 63, 64, 65, 66, 67, 68, 69, 70, 71, 72, 73, 74, 75, 76, 77, 78, 79] (by decide +kernel) (by decide +kernel)
set_option maxRecDepth 20000 in
theorem gX10_wipe_X10_lossOf : GoodIn wsX10_wipe (wsV RX10 74 RX10 yX10_lossOf wsX10_lossOf) := goodIn_app (goodIn_of _ (by decide +kernel)) ggX10_wipe_X10_lossOf
set_option maxRecDepth 20000 in
theorem ggX10_wipe_X10_isWiped : GoodIn wsX10_wipe wsX10_isWiped := goodIn_r _ [53, 8, 54, 26, 27, 28, 6, 29, 30, 31, 32, 33, 22, 23, 24, 25, 34, 35, 36, 37, 38, 39, 40, 41, 42, 43, 44, 45, 46, 47, 48, 49, 55, 56, 57, 58, 59, 60, 61, 62, 63, 64, 65, 66, 67, 68, 69, 70, 71, 72, 73, 74, 75, 76, 77, 78, 79] (by decide +kernel) (by decide +kernel)
set_option maxRecDepth 20000 in
theorem gX10_wipe_X10_isWiped : GoodIn wsX10_wipe (wsV RX10 111 RX10 yX10_isWiped wsX10_isWiped) := goodIn_app (goodIn_of _ (by decide +kernel)) ggX10_wipe_X10_isWiped
theorem dX10_wipe_0 : decode cX10_wipe 0 = .ok (.aload_n 0, 1) := by decide +kernel
theorem dX10_wipe_1 : decode cX10_wipe 1 = .ok (.iload_n 1, 1) := by decide +kernel
theorem dX10_wipe_2 : decode cX10_wipe 2 = .ok (.invokevirtual 101, 3) := by decide +kernel
theorem dX10_wipe_5 : decode cX10_wipe 5 = .ok (.ifCond .ne 10, 3) := by decide +kernel
theorem dX10_wipe_8 : decode cX10_wipe 8 = .ok (.aload_n 0, 1) := by decide +kernel
theorem dX10_wipe_9 : decode cX10_wipe 9 = .ok (.ldc 86, 2) := by decide +kernel
theorem dX10_wipe_11 : decode cX10_wipe 11 = .ok (.invokevirtual 87, 3) := by decide +kernel
theorem dX10_wipe_14 : decode cX10_wipe 14 = .ok (.ireturn, 1) := by decide +kernel
theorem dX10_wipe_15 : decode cX10_wipe 15 = .ok (.aload_n 0, 1) := by decide +kernel
theorem dX10_wipe_16 : decode cX10_wipe 16 = .ok (.iload_n 1, 1) := by decide +kernel
theorem dX10_wipe_17 : decode cX10_wipe 17 = .ok (.invokevirtual 104, 3) := by decide +kernel
theorem dX10_wipe_20 : decode cX10_wipe 20 = .ok (.ifCond .ne 10, 3) := by decide +kernel
theorem dX10_wipe_23 : decode cX10_wipe 23 = .ok (.aload_n 0, 1) := by decide +kernel
theorem dX10_wipe_24 : decode cX10_wipe 24 = .ok (.ldc 97, 2) := by decide +kernel
theorem dX10_wipe_26 : decode cX10_wipe 26 = .ok (.invokevirtual 87, 3) := by decide +kernel
theorem dX10_wipe_29 : decode cX10_wipe 29 = .ok (.ireturn, 1) := by decide +kernel
theorem dX10_wipe_30 : decode cX10_wipe 30 = .ok (.aload_n 0, 1) := by decide +kernel
theorem dX10_wipe_31 : decode cX10_wipe 31 = .ok (.iload_n 1, 1) := by decide +kernel
theorem dX10_wipe_32 : decode cX10_wipe 32 = .ok (.invokevirtual 74, 3) := by decide +kernel
theorem dX10_wipe_35 : decode cX10_wipe 35 = .ok (.istore_n 2, 1) := by decide +kernel
theorem dX10_wipe_36 : decode cX10_wipe 36 = .ok (.aload_n 0, 1) := by decide +kernel
theorem dX10_wipe_37 : decode cX10_wipe 37 = .ok (.iload_n 1, 1) := by decide +kernel
theorem dX10_wipe_38 : decode cX10_wipe 38 = .ok (.invokevirtual 111, 3) := by decide +kernel
theorem dX10_wipe_41 : decode cX10_wipe 41 = .ok (.iload_n 2, 1) := by decide +kernel
theorem dX10_wipe_42 : decode cX10_wipe 42 = .ok (.ireturn, 1) := by decide +kernel
set_option maxRecDepth 20000 in
theorem ggX10_pen_X10_in : GoodIn wsX10_pen wsX10_in := goodIn_r _ [5] (by decide +kernel) (by decide +kernel)
set_option maxRecDepth 20000 in
theorem gX10_pen_X10_in : GoodIn wsX10_pen (va_wsS RX10 54 yX10_in wsX10_in) := goodIn_app (goodIn_of _ (by decide +kernel)) ggX10_pen_X10_in
set_option maxRecDepth 20000 in
theorem ggX10_pen_X10_becomes : GoodIn wsX10_pen wsX10_becomes := goodIn_r _ [9, 10, 17, 18, 19, 20, 21, 22, 23, 24, 25, 26, 27, 28, 29, 30, 31, 32, 33, 34, 35, 36, 37] (by decide +kernel) (by decide +kernel)
set_option maxRecDepth 20000 in
theorem gX10_pen_X10_becomes : GoodIn wsX10_pen (wsV RX10 107 RX10 yX10_becomes wsX10_becomes) := goodIn_app (goodIn_of _ (by decide +kernel)) ggX10_pen_X10_becomes
set_option maxRecDepth 20000 in
theorem ggX10_pen_X10_error : GoodIn wsX10_pen wsX10_error := goodIn_r _ [14, 15, 16, 17, 18, 19, 20, 21, 22, 23, 24, 25, 26, 27, 28, 29, 30, 31, 32, 33, 34, 35, 36, 37] (by decide +kernel) (by decide +kernel)
set_option maxRecDepth 20000 in
theorem gX10_pen_X10_error : GoodIn wsX10_pen (wsV RX10 87 RX10 yX10_error wsX10_error) := goodIn_app (goodIn_of _ (by decide +kernel)) ggX10_pen_X10_error
theorem dX10_pen_0 : decode cX10_pen 0 = .ok (.iload_n 1, 1) := by decide +kernel
theorem dX10_pen_1 : decode cX10_pen 1 = .ok (.iconst 0, 1) := by decide +kernel
theorem dX10_pen_2 : decode cX10_pen 2 = .ok (.iconst 4, 1) := by decide +kernel
theorem dX10_pen_3 : decode cX10_pen 3 = .ok (.invokestatic 54, 3) := by decide +kernel
theorem dX10_pen_6 : decode cX10_pen 6 = .ok (.ifCond .eq 25, 3) := by decide +kernel
theorem dX10_pen_9 : decode cX10_pen 9 = .ok (.iload_n 2, 1) := by decide +kernel
theorem dX10_pen_10 : decode cX10_pen 10 = .ok (.iconst 0, 1) := by decide +kernel
theorem dX10_pen_11 : decode cX10_pen 11 = .ok (.bipush 99, 2) := by decide +kernel
theorem dX10_pen_13 : decode cX10_pen 13 = .ok (.invokestatic 54, 3) := by decide +kernel
theorem dX10_pen_16 : decode cX10_pen 16 = .ok (.ifCond .eq 15, 3) := by decide +kernel
theorem dX10_pen_19 : decode cX10_pen 19 = .ok (.aload_n 0, 1) := by decide +kernel
theorem dX10_pen_20 : decode cX10_pen 20 = .ok (.bipush 7, 2) := by decide +kernel
theorem dX10_pen_22 : decode cX10_pen 22 = .ok (.iload_n 1, 1) := by decide +kernel
theorem dX10_pen_23 : decode cX10_pen 23 = .ok (.iadd, 1) := by decide +kernel
theorem dX10_pen_24 : decode cX10_pen 24 = .ok (.iload_n 2, 1) := by decide +kernel
theorem dX10_pen_25 : decode cX10_pen 25 = .ok (.invokevirtual 107, 3) := by decide +kernel
theorem dX10_pen_28 : decode cX10_pen 28 = .ok (.goto 9, 3) := by decide +kernel
theorem dX10_pen_31 : decode cX10_pen 31 = .ok (.aload_n 0, 1) := by decide +kernel
theorem dX10_pen_32 : decode cX10_pen 32 = .ok (.ldc 86, 2) := by decide +kernel
theorem dX10_pen_34 : decode cX10_pen 34 = .ok (.invokevirtual 87, 3) := by decide +kernel
theorem dX10_pen_37 : decode cX10_pen 37 = .ok (.ireturn, 1) := by decide +kernel
set_option maxRecDepth 20000 in
theorem ggX10_spirit_X10_in : GoodIn wsX10_spirit wsX10_in := goodIn_r _ [5] (by decide +kernel) (by decide +kernel)
set_option maxRecDepth 20000 in
theorem gX10_spirit_X10_in : GoodIn wsX10_spirit (va_wsS RX10 54 yX10_in wsX10_in) := goodIn_app (goodIn_of _ (by decide +kernel)) ggX10_spirit_X10_in
set_option maxRecDepth 20000 in
theorem ggX10_spirit_X10_becomes : GoodIn wsX10_spirit wsX10_becomes := goodIn_r _ [9, 10, 17, 18, 19, 20, 21, 22, 23, 24, 25, 26, 27, 28, 29, 30, 31, 32, 33, 34, 35, 36, 37] (by decide +kernel) (by decide +kernel)
set_option maxRecDepth 20000 in
theorem gX10_spirit_X10_becomes : GoodIn wsX10_spirit (wsV RX10 107 RX10 yX10_becomes wsX10_becomes) := goodIn_app (goodIn_of _ (by decide +kernel)) ggX10_spirit_X10_becomes
set_option maxRecDepth 20000 in
theorem ggX10_spirit_X10_error : GoodIn wsX10_spirit wsX10_error := goodIn_r _ [14, 15, 16, 17, 18, 19, 20, 21, 22, 23, 24, 25, 26, 27, 28, 29, 30, 31, 32, 33, 34, 35, 36, 37] (by decide +kernel) (by decide +kernel)
set_option maxRecDepth 20000 in
theorem gX10_spirit_X10_error : GoodIn wsX10_spirit (wsV RX10 87 RX10 yX10_error wsX10_error) := goodIn_app (goodIn_of _ (by decide +kernel)) ggX10_spirit_X10_error
theorem dX10_spirit_0 : decode cX10_spirit 0 = .ok (.iload_n 1, 1) := by decide +kernel
theorem dX10_spirit_1 : decode cX10_spirit 1 = .ok (.iconst 0, 1) := by decide +kernel
theorem dX10_spirit_2 : decode cX10_spirit 2 = .ok (.iconst 1, 1) := by decide +kernel
theorem dX10_spirit_3 : decode cX10_spirit 3 = .ok (.invokestatic 54, 3) := by decide +kernel
theorem dX10_spirit_6 : decode cX10_spirit 6 = .ok (.ifCond .eq 12, 3) := by decide +kernel
theorem dX10_spirit_9 : decode cX10_spirit 9 = .ok (.aload_n 0, 1) := by decide +kernel
theorem dX10_spirit_10 : decode cX10_spirit 10 = .ok (.iconst 3, 1) := by decide +kernel
theorem dX10_spirit_11 : decode cX10_spirit 11 = .ok (.iload_n 1, 1) := by decide +kernel
theorem dX10_spirit_12 : decode cX10_spirit 12 = .ok (.invokevirtual 107, 3) := by decide +kernel
theorem dX10_spirit_15 : decode cX10_spirit 15 = .ok (.goto 9, 3) := by decide +kernel
theorem dX10_spirit_18 : decode cX10_spirit 18 = .ok (.aload_n 0, 1) := by decide +kernel
theorem dX10_spirit_19 : decode cX10_spirit 19 = .ok (.ldc 86, 2) := by decide +kernel
theorem dX10_spirit_21 : decode cX10_spirit 21 = .ok (.invokevirtual 87, 3) := by decide +kernel
theorem dX10_spirit_24 : decode cX10_spirit 24 = .ok (.ireturn, 1) := by decide +kernel
set_option maxRecDepth 20000 in
theorem ggX10_feed_X10_in : GoodIn wsX10_feed wsX10_in := goodIn_r _ [8] (by decide +kernel) (by decide +kernel)
set_option maxRecDepth 20000 in
theorem gX10_feed_X10_in : GoodIn wsX10_feed (va_wsS RX10 54 yX10_in wsX10_in) := goodIn_app (goodIn_of _ (by decide +kernel)) ggX10_feed_X10_in
set_option maxRecDepth 20000 in
theorem ggX10_feed_X10_error : GoodIn wsX10_feed wsX10_error := goodIn_r _ [12, 13, 14, 15, 16, 17, 18, 19, 20, 21, 22, 23, 24, 25, 26, 27, 28, 29, 30, 31, 32, 33, 34, 35] (by decide +kernel) (by decide +kernel)
set_option maxRecDepth 20000 in
theorem gX10_feed_X10_error : GoodIn wsX10_feed (wsV RX10 87 RX10 yX10_error wsX10_error) := goodIn_app (goodIn_of _ (by decide +kernel)) ggX10_feed_X10_error
theorem dX10_feed_0 : decode cX10_feed 0 = .ok (.iload_n 3, 1) := by decide +kernel
theorem dX10_feed_1 : decode cX10_feed 1 = .ok (.iconst 1, 1) := by decide +kernel
theorem dX10_feed_2 : decode cX10_feed 2 = .ok (.bipush 8, 2) := by decide +kernel
theorem dX10_feed_4 : decode cX10_feed 4 = .ok (.invokestatic 54, 3) := by decide +kernel
theorem dX10_feed_7 : decode cX10_feed 7 = .ok (.ifCond .ne 10, 3) := by decide +kernel
theorem dX10_feed_10 : decode cX10_feed 10 = .ok (.aload_n 0, 1) := by decide +kernel
theorem dX10_feed_11 : decode cX10_feed 11 = .ok (.ldc 86, 2) := by decide +kernel
theorem dX10_feed_13 : decode cX10_feed 13 = .ok (.invokevirtual 87, 3) := by decide +kernel
theorem dX10_feed_16 : decode cX10_feed 16 = .ok (.ireturn, 1) := by decide +kernel
theorem dX10_feed_17 : decode cX10_feed 17 = .ok (.aload_n 0, 1) := by decide +kernel
theorem dX10_feed_18 : decode cX10_feed 18 = .ok (.getfield 9, 3) := by decide +kernel
theorem dX10_feed_21 : decode cX10_feed 21 = .ok (.iconst 5, 1) := by decide +kernel
theorem dX10_feed_22 : decode cX10_feed 22 = .ok (.iaload, 1) := by decide +kernel
theorem dX10_feed_23 : decode cX10_feed 23 = .ok (.iload_n 3, 1) := by decide +kernel
theorem dX10_feed_24 : decode cX10_feed 24 = .ok (.iadd, 1) := by decide +kernel
theorem dX10_feed_25 : decode cX10_feed 25 = .ok (.bipush 60, 2) := by decide +kernel
theorem dX10_feed_27 : decode cX10_feed 27 = .ok (.if_icmp .le 10, 3) := by decide +kernel
theorem dX10_feed_30 : decode cX10_feed 30 = .ok (.aload_n 0, 1) := by decide +kernel
theorem dX10_feed_31 : decode cX10_feed 31 = .ok (.ldc 90, 2) := by decide +kernel
theorem dX10_feed_33 : decode cX10_feed 33 = .ok (.invokevirtual 87, 3) := by decide +kernel
theorem dX10_feed_36 : decode cX10_feed 36 = .ok (.ireturn, 1) := by decide +kernel
theorem dX10_feed_37 : decode cX10_feed 37 = .ok (.iconst 0, 1) := by decide +kernel
theorem dX10_feed_38 : decode cX10_feed 38 = .ok (.istore 4, 2) := by decide +kernel
theorem dX10_feed_40 : decode cX10_feed 40 = .ok (.iload 4, 2) := by decide +kernel
theorem dX10_feed_42 : decode cX10_feed 42 = .ok (.iload_n 3, 1) := by decide +kernel
theorem dX10_feed_43 : decode cX10_feed 43 = .ok (.if_icmp .ge 45, 3) := by decide +kernel
theorem dX10_feed_46 : decode cX10_feed 46 = .ok (.aload_n 0, 1) := by decide +kernel
theorem dX10_feed_47 : decode cX10_feed 47 = .ok (.getfield 9, 3) := by decide +kernel
theorem dX10_feed_50 : decode cX10_feed 50 = .ok (.bipush 82, 2) := by decide +kernel
theorem dX10_feed_52 : decode cX10_feed 52 = .ok (.aload_n 0, 1) := by decide +kernel
theorem dX10_feed_53 : decode cX10_feed 53 = .ok (.getfield 9, 3) := by decide +kernel
theorem dX10_feed_56 : decode cX10_feed 56 = .ok (.iconst 5, 1) := by decide +kernel
theorem dX10_feed_57 : decode cX10_feed 57 = .ok (.iaload, 1) := by decide +kernel
theorem dX10_feed_58 : decode cX10_feed 58 = .ok (.iadd, 1) := by decide +kernel
theorem dX10_feed_59 : decode cX10_feed 59 = .ok (.lload_n 1, 1) := by decide +kernel
theorem dX10_feed_60 : decode cX10_feed 60 = .ok (.bipush 8, 2) := by decide +kernel
theorem dX10_feed_62 : decode cX10_feed 62 = .ok (.iload 4, 2) := by decide +kernel
theorem dX10_feed_64 : decode cX10_feed 64 = .ok (.imul, 1) := by decide +kernel
theorem dX10_feed_65 : decode cX10_feed 65 = .ok (.lshr, 1) := by decide +kernel
theorem dX10_feed_66 : decode cX10_feed 66 = .ok (.ldc2_w 115, 3) := by decide +kernel
theorem dX10_feed_69 : decode cX10_feed 69 = .ok (.land, 1) := by decide +kernel
theorem dX10_feed_70 : decode cX10_feed 70 = .ok (.l2i, 1) := by decide +kernel
theorem dX10_feed_71 : decode cX10_feed 71 = .ok (.iastore, 1) := by decide +kernel
theorem dX10_feed_72 : decode cX10_feed 72 = .ok (.aload_n 0, 1) := by decide +kernel
theorem dX10_feed_73 : decode cX10_feed 73 = .ok (.getfield 9, 3) := by decide +kernel
theorem dX10_feed_76 : decode cX10_feed 76 = .ok (.iconst 5, 1) := by decide +kernel
theorem dX10_feed_77 : decode cX10_feed 77 = .ok (.dup2, 1) := by decide +kernel
theorem dX10_feed_78 : decode cX10_feed 78 = .ok (.iaload, 1) := by decide +kernel
theorem dX10_feed_79 : decode cX10_feed 79 = .ok (.iconst 1, 1) := by decide +kernel
theorem dX10_feed_80 : decode cX10_feed 80 = .ok (.iadd, 1) := by decide +kernel
theorem dX10_feed_81 : decode cX10_feed 81 = .ok (.iastore, 1) := by decide +kernel
theorem dX10_feed_82 : decode cX10_feed 82 = .ok (.iinc 4 1, 3) := by decide +kernel
theorem dX10_feed_85 : decode cX10_feed 85 = .ok (.goto (-45), 3) := by decide +kernel
theorem dX10_feed_88 : decode cX10_feed 88 = .ok (.aload_n 0, 1) := by decide +kernel
theorem dX10_feed_89 : decode cX10_feed 89 = .ok (.getfield 9, 3) := by decide +kernel
theorem dX10_feed_92 : decode cX10_feed 92 = .ok (.iconst 5, 1) := by decide +kernel
theorem dX10_feed_93 : decode cX10_feed 93 = .ok (.iaload, 1) := by decide +kernel
theorem dX10_feed_94 : decode cX10_feed 94 = .ok (.ireturn, 1) := by decide +kernel
theorem dX10_look_0 : decode cX10_look 0 = .ok (.aload_n 0, 1) := by decide +kernel
theorem dX10_look_1 : decode cX10_look 1 = .ok (.getfield 117, 3) := by decide +kernel
theorem dX10_look_4 : decode cX10_look 4 = .ok (.aload_n 0, 1) := by decide +kernel
theorem dX10_look_5 : decode cX10_look 5 = .ok (.getfield 9, 3) := by decide +kernel
theorem dX10_look_8 : decode cX10_look 8 = .ok (.iconst 5, 1) := by decide +kernel
theorem dX10_look_9 : decode cX10_look 9 = .ok (.iaload, 1) := by decide +kernel
theorem dX10_look_10 : decode cX10_look 10 = .ok (.if_icmp .ge 18, 3) := by decide +kernel
theorem dX10_look_13 : decode cX10_look 13 = .ok (.aload_n 0, 1) := by decide +kernel
theorem dX10_look_14 : decode cX10_look 14 = .ok (.getfield 9, 3) := by decide +kernel
theorem dX10_look_17 : decode cX10_look 17 = .ok (.bipush 82, 2) := by decide +kernel
theorem dX10_look_19 : decode cX10_look 19 = .ok (.aload_n 0, 1) := by decide +kernel
theorem dX10_look_20 : decode cX10_look 20 = .ok (.getfield 117, 3) := by decide +kernel
theorem dX10_look_23 : decode cX10_look 23 = .ok (.iadd, 1) := by decide +kernel
theorem dX10_look_24 : decode cX10_look 24 = .ok (.iaload, 1) := by decide +kernel
theorem dX10_look_25 : decode cX10_look 25 = .ok (.goto 4, 3) := by decide +kernel
theorem dX10_look_28 : decode cX10_look 28 = .ok (.iconst (-1), 1) := by decide +kernel
theorem dX10_look_29 : decode cX10_look 29 = .ok (.ireturn, 1) := by decide +kernel
theorem dX10_step_0 : decode cX10_step 0 = .ok (.aload_n 0, 1) := by decide +kernel
theorem dX10_step_1 : decode cX10_step 1 = .ok (.getfield 121, 3) := by decide +kernel
theorem dX10_step_4 : decode cX10_step 4 = .ok (.aload_n 0, 1) := by decide +kernel
theorem dX10_step_5 : decode cX10_step 5 = .ok (.getfield 31, 3) := by decide +kernel
theorem dX10_step_8 : decode cX10_step 8 = .ok (.arraylength, 1) := by decide +kernel
theorem dX10_step_9 : decode cX10_step 9 = .ok (.if_icmp .ge 33, 3) := by decide +kernel
theorem dX10_step_12 : decode cX10_step 12 = .ok (.aload_n 0, 1) := by decide +kernel
theorem dX10_step_13 : decode cX10_step 13 = .ok (.getfield 31, 3) := by decide +kernel
theorem dX10_step_16 : decode cX10_step 16 = .ok (.aload_n 0, 1) := by decide +kernel
theorem dX10_step_17 : decode cX10_step 17 = .ok (.getfield 121, 3) := by decide +kernel
theorem dX10_step_20 : decode cX10_step 20 = .ok (.iload_n 1, 1) := by decide +kernel
theorem dX10_step_21 : decode cX10_step 21 = .ok (.iastore, 1) := by decide +kernel
theorem dX10_step_22 : decode cX10_step 22 = .ok (.aload_n 0, 1) := by decide +kernel
theorem dX10_step_23 : decode cX10_step 23 = .ok (.getfield 34, 3) := by decide +kernel
theorem dX10_step_26 : decode cX10_step 26 = .ok (.aload_n 0, 1) := by decide +kernel
theorem dX10_step_27 : decode cX10_step 27 = .ok (.getfield 121, 3) := by decide +kernel
theorem dX10_step_30 : decode cX10_step 30 = .ok (.iload_n 2, 1) := by decide +kernel
theorem dX10_step_31 : decode cX10_step 31 = .ok (.iastore, 1) := by decide +kernel
theorem dX10_step_32 : decode cX10_step 32 = .ok (.aload_n 0, 1) := by decide +kernel
theorem dX10_step_33 : decode cX10_step 33 = .ok (.dup, 1) := by decide +kernel
theorem dX10_step_34 : decode cX10_step 34 = .ok (.getfield 121, 3) := by decide +kernel
theorem dX10_step_37 : decode cX10_step 37 = .ok (.iconst 1, 1) := by decide +kernel
theorem dX10_step_38 : decode cX10_step 38 = .ok (.iadd, 1) := by decide +kernel
theorem dX10_step_39 : decode cX10_step 39 = .ok (.putfield 121, 3) := by decide +kernel
theorem dX10_step_42 : decode cX10_step 42 = .ok (.return_, 1) := by decide +kernel
theorem dX10_nameOf_0 : decode cX10_nameOf 0 = .ok (.iload_n 1, 1) := by decide +kernel
theorem dX10_nameOf_1 : decode cX10_nameOf 1 = .ok (.lookupswitch 126 #[(98, 59), (100, 92), (102, 92), (109, 59), (112, 59), (119, 92)], 59) := by decide +kernel
theorem dX10_nameOf_60 : decode cX10_nameOf 60 = .ok (.aload_n 0, 1) := by decide +kernel
theorem dX10_nameOf_61 : decode cX10_nameOf 61 = .ok (.getfield 124, 3) := by decide +kernel
theorem dX10_nameOf_64 : decode cX10_nameOf 64 = .ok (.ifCond .eq 7, 3) := by decide +kernel
theorem dX10_nameOf_67 : decode cX10_nameOf 67 = .ok (.iconst (-1), 1) := by decide +kernel
theorem dX10_nameOf_68 : decode cX10_nameOf 68 = .ok (.goto 24, 3) := by decide +kernel
theorem dX10_nameOf_71 : decode cX10_nameOf 71 = .ok (.iload_n 1, 1) := by decide +kernel
theorem dX10_nameOf_72 : decode cX10_nameOf 72 = .ok (.bipush 98, 2) := by decide +kernel
theorem dX10_nameOf_74 : decode cX10_nameOf 74 = .ok (.if_icmp .ne 7, 3) := by decide +kernel
theorem dX10_nameOf_77 : decode cX10_nameOf 77 = .ok (.iconst 0, 1) := by decide +kernel
theorem dX10_nameOf_78 : decode cX10_nameOf 78 = .ok (.goto 14, 3) := by decide +kernel
theorem dX10_nameOf_81 : decode cX10_nameOf 81 = .ok (.iload_n 1, 1) := by decide +kernel
theorem dX10_nameOf_82 : decode cX10_nameOf 82 = .ok (.bipush 109, 2) := by decide +kernel
theorem dX10_nameOf_84 : decode cX10_nameOf 84 = .ok (.if_icmp .ne 7, 3) := by decide +kernel
theorem dX10_nameOf_87 : decode cX10_nameOf 87 = .ok (.iconst 1, 1) := by decide +kernel
theorem dX10_nameOf_88 : decode cX10_nameOf 88 = .ok (.goto 4, 3) := by decide +kernel
theorem dX10_nameOf_91 : decode cX10_nameOf 91 = .ok (.iconst 2, 1) := by decide +kernel
theorem dX10_nameOf_92 : decode cX10_nameOf 92 = .ok (.ireturn, 1) := by decide +kernel
theorem dX10_nameOf_93 : decode cX10_nameOf 93 = .ok (.aload_n 0, 1) := by decide +kernel
theorem dX10_nameOf_94 : decode cX10_nameOf 94 = .ok (.getfield 124, 3) := by decide +kernel
theorem dX10_nameOf_97 : decode cX10_nameOf 97 = .ok (.iconst 1, 1) := by decide +kernel
theorem dX10_nameOf_98 : decode cX10_nameOf 98 = .ok (.if_icmp .eq 7, 3) := by decide +kernel
theorem dX10_nameOf_101 : decode cX10_nameOf 101 = .ok (.iconst (-1), 1) := by decide +kernel
theorem dX10_nameOf_102 : decode cX10_nameOf 102 = .ok (.goto 24, 3) := by decide +kernel
theorem dX10_nameOf_105 : decode cX10_nameOf 105 = .ok (.iload_n 1, 1) := by decide +kernel
theorem dX10_nameOf_106 : decode cX10_nameOf 106 = .ok (.bipush 102, 2) := by decide +kernel
theorem dX10_nameOf_108 : decode cX10_nameOf 108 = .ok (.if_icmp .ne 7, 3) := by decide +kernel
theorem dX10_nameOf_111 : decode cX10_nameOf 111 = .ok (.iconst 0, 1) := by decide +kernel
theorem dX10_nameOf_112 : decode cX10_nameOf 112 = .ok (.goto 14, 3) := by decide +kernel
theorem dX10_nameOf_115 : decode cX10_nameOf 115 = .ok (.iload_n 1, 1) := by decide +kernel
theorem dX10_nameOf_116 : decode cX10_nameOf 116 = .ok (.bipush 100, 2) := by decide +kernel
theorem dX10_nameOf_118 : decode cX10_nameOf 118 = .ok (.if_icmp .ne 7, 3) := by decide +kernel
theorem dX10_nameOf_121 : decode cX10_nameOf 121 = .ok (.iconst 1, 1) := by decide +kernel
theorem dX10_nameOf_122 : decode cX10_nameOf 122 = .ok (.goto 4, 3) := by decide +kernel
theorem dX10_nameOf_125 : decode cX10_nameOf 125 = .ok (.iconst 2, 1) := by decide +kernel
theorem dX10_nameOf_126 : decode cX10_nameOf 126 = .ok (.ireturn, 1) := by decide +kernel
theorem dX10_nameOf_127 : decode cX10_nameOf 127 = .ok (.iconst (-1), 1) := by decide +kernel
theorem dX10_nameOf_128 : decode cX10_nameOf 128 = .ok (.ireturn, 1) := by decide +kernel
set_option maxRecDepth 20000 in
theorem ggX10_number_X10_look : GoodIn wsX10_number wsX10_look := goodIn_r _ [7, 1, 8, 19, 20, 21, 22, 23, 24, 25, 26, 27, 28, 29, 30, 31, 32, 33, 34, 35, 36, 37, 38, 39] (by decide +kernel) (by decide +kernel)
set_option maxRecDepth 20000 in
theorem gX10_number_X10_look : GoodIn wsX10_number (wsV RX10 127 RX10 yX10_look wsX10_look) := goodIn_app (goodIn_of _ (by decide +kernel)) ggX10_number_X10_look
set_option maxRecDepth 20000 in
theorem ggX10_number_X10_in : GoodIn wsX10_number wsX10_in := goodIn_r _ [11] (by decide +kernel) (by decide +kernel)
set_option maxRecDepth 20000 in
theorem gX10_number_X10_in : GoodIn wsX10_number (va_wsS RX10 54 yX10_in wsX10_in) := goodIn_app (goodIn_of _ (by decide +kernel)) ggX10_number_X10_in
set_option maxRecDepth 20000 in
theorem ggX10_number_X10_step : GoodIn wsX10_number wsX10_step := goodIn_r _ [15, 16, 17, 18, 19, 20, 21, 22, 23, 24, 25, 26, 27, 28, 29, 30, 31, 32, 33, 34, 35, 36, 37, 38, 39] (by decide +kernel) (by decide +kernel)
set_option maxRecDepth 20000 in
theorem gX10_number_X10_step : GoodIn wsX10_number (wsV RX10 135 RX10 yX10_step wsX10_step) := goodIn_app (goodIn_of _ (by decide +kernel)) ggX10_number_X10_step
theorem dX10_number_0 : decode cX10_number 0 = .ok (.iconst 0, 1) := by decide +kernel
theorem dX10_number_1 : decode cX10_number 1 = .ok (.istore_n 1, 1) := by decide +kernel
theorem dX10_number_2 : decode cX10_number 2 = .ok (.iconst 0, 1) := by decide +kernel
theorem dX10_number_3 : decode cX10_number 3 = .ok (.istore_n 2, 1) := by decide +kernel
theorem dX10_number_4 : decode cX10_number 4 = .ok (.iload_n 2, 1) := by decide +kernel
theorem dX10_number_5 : decode cX10_number 5 = .ok (.iconst 4, 1) := by decide +kernel
theorem dX10_number_6 : decode cX10_number 6 = .ok (.if_icmp .ge 46, 3) := by decide +kernel
theorem dX10_number_9 : decode cX10_number 9 = .ok (.aload_n 0, 1) := by decide +kernel
theorem dX10_number_10 : decode cX10_number 10 = .ok (.invokevirtual 127, 3) := by decide +kernel
theorem dX10_number_13 : decode cX10_number 13 = .ok (.bipush 48, 2) := by decide +kernel
theorem dX10_number_15 : decode cX10_number 15 = .ok (.bipush 57, 2) := by decide +kernel
theorem dX10_number_17 : decode cX10_number 17 = .ok (.invokestatic 54, 3) := by decide +kernel
theorem dX10_number_20 : decode cX10_number 20 = .ok (.ifCond .eq 32, 3) := by decide +kernel
theorem dX10_number_23 : decode cX10_number 23 = .ok (.bipush 10, 2) := by decide +kernel
theorem dX10_number_25 : decode cX10_number 25 = .ok (.iload_n 1, 1) := by decide +kernel
theorem dX10_number_26 : decode cX10_number 26 = .ok (.imul, 1) := by decide +kernel
theorem dX10_number_27 : decode cX10_number 27 = .ok (.aload_n 0, 1) := by decide +kernel
theorem dX10_number_28 : decode cX10_number 28 = .ok (.invokevirtual 127, 3) := by decide +kernel
theorem dX10_number_31 : decode cX10_number 31 = .ok (.iadd, 1) := by decide +kernel
theorem dX10_number_32 : decode cX10_number 32 = .ok (.bipush 48, 2) := by decide +kernel
theorem dX10_number_34 : decode cX10_number 34 = .ok (.isub, 1) := by decide +kernel
theorem dX10_number_35 : decode cX10_number 35 = .ok (.istore_n 1, 1) := by decide +kernel
theorem dX10_number_36 : decode cX10_number 36 = .ok (.aload_n 0, 1) := by decide +kernel
theorem dX10_number_37 : decode cX10_number 37 = .ok (.dup, 1) := by decide +kernel
theorem dX10_number_38 : decode cX10_number 38 = .ok (.getfield 117, 3) := by decide +kernel
theorem dX10_number_41 : decode cX10_number 41 = .ok (.iconst 1, 1) := by decide +kernel
theorem dX10_number_42 : decode cX10_number 42 = .ok (.iadd, 1) := by decide +kernel
theorem dX10_number_43 : decode cX10_number 43 = .ok (.putfield 117, 3) := by decide +kernel
theorem dX10_number_46 : decode cX10_number 46 = .ok (.iinc 2 1, 3) := by decide +kernel
theorem dX10_number_49 : decode cX10_number 49 = .ok (.goto (-45), 3) := by decide +kernel
theorem dX10_number_52 : decode cX10_number 52 = .ok (.aload_n 0, 1) := by decide +kernel
theorem dX10_number_53 : decode cX10_number 53 = .ok (.iload_n 2, 1) := by decide +kernel
theorem dX10_number_54 : decode cX10_number 54 = .ok (.ifCond .ne 7, 3) := by decide +kernel
theorem dX10_number_57 : decode cX10_number 57 = .ok (.iconst 1, 1) := by decide +kernel
theorem dX10_number_58 : decode cX10_number 58 = .ok (.goto 4, 3) := by decide +kernel
theorem dX10_number_61 : decode cX10_number 61 = .ok (.iconst 0, 1) := by decide +kernel
theorem dX10_number_62 : decode cX10_number 62 = .ok (.putfield 131, 3) := by decide +kernel
theorem dX10_number_65 : decode cX10_number 65 = .ok (.aload_n 0, 1) := by decide +kernel
theorem dX10_number_66 : decode cX10_number 66 = .ok (.iconst 1, 1) := by decide +kernel
theorem dX10_number_67 : decode cX10_number 67 = .ok (.iload_n 1, 1) := by decide +kernel
theorem dX10_number_68 : decode cX10_number 68 = .ok (.invokevirtual 135, 3) := by decide +kernel
theorem dX10_number_71 : decode cX10_number 71 = .ok (.return_, 1) := by decide +kernel
set_option maxRecDepth 20000 in
theorem ggX10_opens_X10_one : GoodIn wsX10_opens wsX10_one := goodIn_r _ [35, 3, 18, 19, 20, 7, 21, 22, 36, 37, 38, 39, 40, 8, 9, 10, 11, 12, 13, 14, 41, 42, 43, 44, 45, 46, 47, 2, 48, 49, 50, 23, 24, 25, 26, 27, 28, 29, 30, 31, 32, 33, 34, 0, 1, 4, 5, 6, 15, 16, 17, 51, 52, 53, 54, 55, 56, 57, 58, 59, 60, 61, 62, 63, 64, 65, 66, 67, 68, 69, 70, 71, 72, 73, 74, 75, 76] (by decide +kernel) (by decide +kernel)
set_option maxRecDepth 20000 in
theorem gX10_opens_X10_one : GoodIn wsX10_opens (wsV RX10 142 RX10 yX10_one wsX10_one) := goodIn_app (goodIn_of _ (by decide +kernel)) ggX10_opens_X10_one
set_option maxRecDepth 20000 in
theorem ggX10_opens_X10_step : GoodIn wsX10_opens wsX10_step := goodIn_r _ [11, 12, 13, 14, 56, 57, 58, 59, 60, 61, 62, 63, 64, 65, 66, 67, 68, 69, 70, 71, 72, 73, 74, 75, 76] (by decide +kernel) (by decide +kernel)
set_option maxRecDepth 20000 in
theorem gX10_opens_X10_step : GoodIn wsX10_opens (wsV RX10 135 RX10 yX10_step wsX10_step) := goodIn_app (goodIn_of _ (by decide +kernel)) ggX10_opens_X10_step
set_option maxRecDepth 20000 in
theorem ggX10_opens_X10_any : GoodIn wsX10_opens wsX10_any := goodIn_r _ [27, 2, 3, 28, 29, 30, 7, 18, 19, 20, 21, 22, 8, 9, 10, 11, 12, 13, 14, 23, 24, 25, 26, 31, 32, 33, 34, 35, 36, 37, 38, 39, 40, 41, 42, 43, 44, 45, 46, 47, 48, 49, 50, 0, 1, 4, 5, 6, 15, 16, 17, 51, 52, 53, 54, 55, 56, 57, 58, 59, 60, 61, 62, 63, 64, 65, 66, 67, 68, 69, 70, 71, 72, 73, 74, 75, 76] (by decide +kernel) (by decide +kernel)
set_option maxRecDepth 20000 in
theorem gX10_opens_X10_any : GoodIn wsX10_opens (wsV RX10 145 RX10 yX10_any wsX10_any) := goodIn_app (goodIn_of _ (by decide +kernel)) ggX10_opens_X10_any
set_option maxRecDepth 20000 in
theorem ggX10_opens_X10_look : GoodIn wsX10_opens wsX10_look := goodIn_r _ [21, 3, 22, 56, 57, 58, 59, 60, 61, 62, 63, 64, 65, 66, 67, 68, 69, 70, 71, 72, 73, 74, 75, 76] (by decide +kernel) (by decide +kernel)
set_option maxRecDepth 20000 in
theorem gX10_opens_X10_look : GoodIn wsX10_opens (wsV RX10 127 RX10 yX10_look wsX10_look) := goodIn_app (goodIn_of _ (by decide +kernel)) ggX10_opens_X10_look
theorem dX10_opens_0 : decode cX10_opens 0 = .ok (.aload_n 0, 1) := by decide +kernel
theorem dX10_opens_1 : decode cX10_opens 1 = .ok (.getfield 139, 3) := by decide +kernel
theorem dX10_opens_4 : decode cX10_opens 4 = .ok (.iconst 5, 1) := by decide +kernel
theorem dX10_opens_5 : decode cX10_opens 5 = .ok (.if_icmp .ne 9, 3) := by decide +kernel
theorem dX10_opens_8 : decode cX10_opens 8 = .ok (.aload_n 0, 1) := by decide +kernel
theorem dX10_opens_9 : decode cX10_opens 9 = .ok (.iconst 1, 1) := by decide +kernel
theorem dX10_opens_10 : decode cX10_opens 10 = .ok (.putfield 131, 3) := by decide +kernel
theorem dX10_opens_13 : decode cX10_opens 13 = .ok (.return_, 1) := by decide +kernel
theorem dX10_opens_14 : decode cX10_opens 14 = .ok (.aload_n 0, 1) := by decide +kernel
theorem dX10_opens_15 : decode cX10_opens 15 = .ok (.dup, 1) := by decide +kernel
theorem dX10_opens_16 : decode cX10_opens 16 = .ok (.getfield 139, 3) := by decide +kernel
theorem dX10_opens_19 : decode cX10_opens 19 = .ok (.iconst 1, 1) := by decide +kernel
theorem dX10_opens_20 : decode cX10_opens 20 = .ok (.iadd, 1) := by decide +kernel
theorem dX10_opens_21 : decode cX10_opens 21 = .ok (.putfield 139, 3) := by decide +kernel
theorem dX10_opens_24 : decode cX10_opens 24 = .ok (.aload_n 0, 1) := by decide +kernel
theorem dX10_opens_25 : decode cX10_opens 25 = .ok (.dup, 1) := by decide +kernel
theorem dX10_opens_26 : decode cX10_opens 26 = .ok (.getfield 117, 3) := by decide +kernel
theorem dX10_opens_29 : decode cX10_opens 29 = .ok (.iconst 1, 1) := by decide +kernel
theorem dX10_opens_30 : decode cX10_opens 30 = .ok (.iadd, 1) := by decide +kernel
theorem dX10_opens_31 : decode cX10_opens 31 = .ok (.putfield 117, 3) := by decide +kernel
theorem dX10_opens_34 : decode cX10_opens 34 = .ok (.iload_n 1, 1) := by decide +kernel
theorem dX10_opens_35 : decode cX10_opens 35 = .ok (.bipush 33, 2) := by decide +kernel
theorem dX10_opens_37 : decode cX10_opens 37 = .ok (.if_icmp .ne 16, 3) := by decide +kernel
theorem dX10_opens_40 : decode cX10_opens 40 = .ok (.aload_n 0, 1) := by decide +kernel
theorem dX10_opens_41 : decode cX10_opens 41 = .ok (.invokevirtual 142, 3) := by decide +kernel
theorem dX10_opens_44 : decode cX10_opens 44 = .ok (.aload_n 0, 1) := by decide +kernel
theorem dX10_opens_45 : decode cX10_opens 45 = .ok (.iconst 3, 1) := by decide +kernel
theorem dX10_opens_46 : decode cX10_opens 46 = .ok (.iconst 0, 1) := by decide +kernel
theorem dX10_opens_47 : decode cX10_opens 47 = .ok (.invokevirtual 135, 3) := by decide +kernel
theorem dX10_opens_50 : decode cX10_opens 50 = .ok (.goto 53, 3) := by decide +kernel
theorem dX10_opens_53 : decode cX10_opens 53 = .ok (.aload_n 0, 1) := by decide +kernel
theorem dX10_opens_54 : decode cX10_opens 54 = .ok (.invokevirtual 145, 3) := by decide +kernel
theorem dX10_opens_57 : decode cX10_opens 57 = .ok (.aload_n 0, 1) := by decide +kernel
theorem dX10_opens_58 : decode cX10_opens 58 = .ok (.aload_n 0, 1) := by decide +kernel
theorem dX10_opens_59 : decode cX10_opens 59 = .ok (.getfield 131, 3) := by decide +kernel
theorem dX10_opens_62 : decode cX10_opens 62 = .ok (.ifCond .ne 12, 3) := by decide +kernel
theorem dX10_opens_65 : decode cX10_opens 65 = .ok (.aload_n 0, 1) := by decide +kernel
theorem dX10_opens_66 : decode cX10_opens 66 = .ok (.invokevirtual 127, 3) := by decide +kernel
theorem dX10_opens_69 : decode cX10_opens 69 = .ok (.bipush 41, 2) := by decide +kernel
theorem dX10_opens_71 : decode cX10_opens 71 = .ok (.if_icmp .eq 7, 3) := by decide +kernel
theorem dX10_opens_74 : decode cX10_opens 74 = .ok (.iconst 1, 1) := by decide +kernel
theorem dX10_opens_75 : decode cX10_opens 75 = .ok (.goto 4, 3) := by decide +kernel
theorem dX10_opens_78 : decode cX10_opens 78 = .ok (.iconst 0, 1) := by decide +kernel
theorem dX10_opens_79 : decode cX10_opens 79 = .ok (.putfield 131, 3) := by decide +kernel
theorem dX10_opens_82 : decode cX10_opens 82 = .ok (.aload_n 0, 1) := by decide +kernel
theorem dX10_opens_83 : decode cX10_opens 83 = .ok (.dup, 1) := by decide +kernel
theorem dX10_opens_84 : decode cX10_opens 84 = .ok (.getfield 117, 3) := by decide +kernel
theorem dX10_opens_87 : decode cX10_opens 87 = .ok (.aload_n 0, 1) := by decide +kernel
theorem dX10_opens_88 : decode cX10_opens 88 = .ok (.getfield 131, 3) := by decide +kernel
theorem dX10_opens_91 : decode cX10_opens 91 = .ok (.ifCond .eq 7, 3) := by decide +kernel
theorem dX10_opens_94 : decode cX10_opens 94 = .ok (.iconst 0, 1) := by decide +kernel
theorem dX10_opens_95 : decode cX10_opens 95 = .ok (.goto 4, 3) := by decide +kernel
theorem dX10_opens_98 : decode cX10_opens 98 = .ok (.iconst 1, 1) := by decide +kernel
theorem dX10_opens_99 : decode cX10_opens 99 = .ok (.iadd, 1) := by decide +kernel
theorem dX10_opens_100 : decode cX10_opens 100 = .ok (.putfield 117, 3) := by decide +kernel
theorem dX10_opens_103 : decode cX10_opens 103 = .ok (.aload_n 0, 1) := by decide +kernel
theorem dX10_opens_104 : decode cX10_opens 104 = .ok (.dup, 1) := by decide +kernel
theorem dX10_opens_105 : decode cX10_opens 105 = .ok (.getfield 139, 3) := by decide +kernel
theorem dX10_opens_108 : decode cX10_opens 108 = .ok (.iconst 1, 1) := by decide +kernel
theorem dX10_opens_109 : decode cX10_opens 109 = .ok (.isub, 1) := by decide +kernel
theorem dX10_opens_110 : decode cX10_opens 110 = .ok (.putfield 139, 3) := by decide +kernel
theorem dX10_opens_113 : decode cX10_opens 113 = .ok (.return_, 1) := by decide +kernel
set_option maxRecDepth 20000 in
theorem ggX10_one_X10_look : GoodIn wsX10_one wsX10_look := goodIn_r _ [6, 1, 7, 56, 57, 58, 59, 60, 61, 62, 63, 64, 65, 66, 67, 68, 69, 70, 71, 72, 73, 74, 75, 76] (by decide +kernel) (by decide +kernel)
set_option maxRecDepth 20000 in
theorem gX10_one_X10_look : GoodIn wsX10_one (wsV RX10 127 RX10 yX10_look wsX10_look) := goodIn_app (goodIn_of _ (by decide +kernel)) ggX10_one_X10_look
set_option maxRecDepth 20000 in
theorem ggX10_one_X10_nameOf : GoodIn wsX10_one wsX10_nameOf := goodIn_r _ [11, 12, 56, 57, 58, 59, 60, 61, 62, 63, 64, 65, 66, 67, 68, 69, 70, 71, 72, 73, 74, 75, 76] (by decide +kernel) (by decide +kernel)
set_option maxRecDepth 20000 in
theorem gX10_one_X10_nameOf : GoodIn wsX10_one (wsV RX10 148 RX10 yX10_nameOf wsX10_nameOf) := goodIn_app (goodIn_of _ (by decide +kernel)) ggX10_one_X10_nameOf
set_option maxRecDepth 20000 in
theorem ggX10_one_X10_step : GoodIn wsX10_one wsX10_step := goodIn_r _ [16, 17, 18, 19, 56, 57, 58, 59, 60, 61, 62, 63, 64, 65, 66, 67, 68, 69, 70, 71, 72, 73, 74, 75, 76] (by decide +kernel) (by decide +kernel)
set_option maxRecDepth 20000 in
theorem gX10_one_X10_step : GoodIn wsX10_one (wsV RX10 135 RX10 yX10_step wsX10_step) := goodIn_app (goodIn_of _ (by decide +kernel)) ggX10_one_X10_step
set_option maxRecDepth 20000 in
theorem ggX10_one_X10_opens : GoodIn wsX10_one wsX10_opens := goodIn_r _ [43, 44, 27, 1, 45, 46, 47, 5, 13, 14, 15, 16, 17, 18, 19, 48, 49, 50, 2, 3, 4, 6, 7, 31, 32, 33, 34, 35, 36, 37, 38, 39, 40, 41, 42, 0, 8, 9, 10, 11, 12, 20, 21, 22, 23, 24, 25, 26, 28, 29, 30, 51, 52, 53, 54, 55, 56, 57, 58, 59, 60, 61, 62, 63, 64, 65, 66, 67, 68, 69, 70, 71, 72, 73, 74, 75, 76] (by decide +kernel) (by decide +kernel)
set_option maxRecDepth 20000 in
theorem gX10_one_X10_opens : GoodIn wsX10_one (wsV RX10 151 RX10 yX10_opens wsX10_opens) := goodIn_app (goodIn_of _ (by decide +kernel)) ggX10_one_X10_opens
set_option maxRecDepth 20000 in
theorem ggX10_one_X10_number : GoodIn wsX10_one wsX10_number := goodIn_r _ [26, 1, 27, 2, 3, 4, 5, 6, 7, 28, 29, 30, 13, 14, 15, 16, 17, 18, 19, 56, 57, 58, 59, 60, 61, 62, 63, 64, 65, 66, 67, 68, 69, 70, 71, 72, 73, 74, 75, 76] (by decide +kernel) (by decide +kernel)
set_option maxRecDepth 20000 in
theorem gX10_one_X10_number : GoodIn wsX10_one (wsV RX10 154 RX10 yX10_number wsX10_number) := goodIn_app (goodIn_of _ (by decide +kernel)) ggX10_one_X10_number
theorem dX10_one_0 : decode cX10_one 0 = .ok (.aload_n 0, 1) := by decide +kernel
theorem dX10_one_1 : decode cX10_one 1 = .ok (.invokevirtual 127, 3) := by decide +kernel
theorem dX10_one_4 : decode cX10_one 4 = .ok (.istore_n 1, 1) := by decide +kernel
theorem dX10_one_5 : decode cX10_one 5 = .ok (.aload_n 0, 1) := by decide +kernel
theorem dX10_one_6 : decode cX10_one 6 = .ok (.iload_n 1, 1) := by decide +kernel
theorem dX10_one_7 : decode cX10_one 7 = .ok (.invokevirtual 148, 3) := by decide +kernel
theorem dX10_one_10 : decode cX10_one 10 = .ok (.istore_n 2, 1) := by decide +kernel
theorem dX10_one_11 : decode cX10_one 11 = .ok (.iload_n 2, 1) := by decide +kernel
theorem dX10_one_12 : decode cX10_one 12 = .ok (.ifCond .lt 22, 3) := by decide +kernel
theorem dX10_one_15 : decode cX10_one 15 = .ok (.aload_n 0, 1) := by decide +kernel
theorem dX10_one_16 : decode cX10_one 16 = .ok (.dup, 1) := by decide +kernel
theorem dX10_one_17 : decode cX10_one 17 = .ok (.getfield 117, 3) := by decide +kernel
theorem dX10_one_20 : decode cX10_one 20 = .ok (.iconst 1, 1) := by decide +kernel
theorem dX10_one_21 : decode cX10_one 21 = .ok (.iadd, 1) := by decide +kernel
theorem dX10_one_22 : decode cX10_one 22 = .ok (.putfield 117, 3) := by decide +kernel
theorem dX10_one_25 : decode cX10_one 25 = .ok (.aload_n 0, 1) := by decide +kernel
theorem dX10_one_26 : decode cX10_one 26 = .ok (.iconst 2, 1) := by decide +kernel
theorem dX10_one_27 : decode cX10_one 27 = .ok (.iload_n 2, 1) := by decide +kernel
theorem dX10_one_28 : decode cX10_one 28 = .ok (.invokevirtual 135, 3) := by decide +kernel
theorem dX10_one_31 : decode cX10_one 31 = .ok (.goto 27, 3) := by decide +kernel
theorem dX10_one_34 : decode cX10_one 34 = .ok (.iload_n 1, 1) := by decide +kernel
theorem dX10_one_35 : decode cX10_one 35 = .ok (.bipush 33, 2) := by decide +kernel
theorem dX10_one_37 : decode cX10_one 37 = .ok (.if_icmp .eq 9, 3) := by decide +kernel
theorem dX10_one_40 : decode cX10_one 40 = .ok (.iload_n 1, 1) := by decide +kernel
theorem dX10_one_41 : decode cX10_one 41 = .ok (.bipush 40, 2) := by decide +kernel
theorem dX10_one_43 : decode cX10_one 43 = .ok (.if_icmp .ne 11, 3) := by decide +kernel
theorem dX10_one_46 : decode cX10_one 46 = .ok (.aload_n 0, 1) := by decide +kernel
theorem dX10_one_47 : decode cX10_one 47 = .ok (.iload_n 1, 1) := by decide +kernel
theorem dX10_one_48 : decode cX10_one 48 = .ok (.invokevirtual 151, 3) := by decide +kernel
theorem dX10_one_51 : decode cX10_one 51 = .ok (.goto 7, 3) := by decide +kernel
theorem dX10_one_54 : decode cX10_one 54 = .ok (.aload_n 0, 1) := by decide +kernel
theorem dX10_one_55 : decode cX10_one 55 = .ok (.invokevirtual 154, 3) := by decide +kernel
theorem dX10_one_58 : decode cX10_one 58 = .ok (.return_, 1) := by decide +kernel
set_option maxRecDepth 20000 in
theorem ggX10_times_X10_one : GoodIn wsX10_times wsX10_one := goodIn_r _ [31, 2, 7, 8, 9, 6, 10, 11, 32, 33, 34, 35, 36, 12, 13, 14, 15, 16, 17, 18, 37, 38, 39, 40, 41, 42, 43, 1, 44, 45, 46, 19, 20, 21, 22, 23, 24, 25, 26, 27, 28, 29, 30, 47, 48, 3, 4, 5, 49, 50, 51, 52, 53, 54, 55, 0, 56, 57, 58, 59, 60, 61, 62, 63, 64, 65, 66, 67, 68, 69, 70, 71, 72, 73, 74, 75, 76] (by decide +kernel) (by decide +kernel)
set_option maxRecDepth 20000 in
theorem gX10_times_X10_one : GoodIn wsX10_times (wsV RX10 142 RX10 yX10_one wsX10_one) := goodIn_app (goodIn_of _ (by decide +kernel)) ggX10_times_X10_one
set_option maxRecDepth 20000 in
theorem ggX10_times_X10_look : GoodIn wsX10_times wsX10_look := goodIn_r _ [10, 2, 11, 56, 57, 58, 59, 60, 61, 62, 63, 64, 65, 66, 67, 68, 69, 70, 71, 72, 73, 74, 75, 76] (by decide +kernel) (by decide +kernel)
set_option maxRecDepth 20000 in
theorem gX10_times_X10_look : GoodIn wsX10_times (wsV RX10 127 RX10 yX10_look wsX10_look) := goodIn_app (goodIn_of _ (by decide +kernel)) ggX10_times_X10_look
set_option maxRecDepth 20000 in
theorem ggX10_times_X10_step : GoodIn wsX10_times wsX10_step := goodIn_r _ [15, 16, 17, 18, 56, 57, 58, 59, 60, 61, 62, 63, 64, 65, 66, 67, 68, 69, 70, 71, 72, 73, 74, 75, 76] (by decide +kernel) (by decide +kernel)
set_option maxRecDepth 20000 in
theorem gX10_times_X10_step : GoodIn wsX10_times (wsV RX10 135 RX10 yX10_step wsX10_step) := goodIn_app (goodIn_of _ (by decide +kernel)) ggX10_times_X10_step
theorem dX10_times_0 : decode cX10_times 0 = .ok (.aload_n 0, 1) := by decide +kernel
theorem dX10_times_1 : decode cX10_times 1 = .ok (.invokevirtual 142, 3) := by decide +kernel
theorem dX10_times_4 : decode cX10_times 4 = .ok (.aload_n 0, 1) := by decide +kernel
theorem dX10_times_5 : decode cX10_times 5 = .ok (.getfield 131, 3) := by decide +kernel
theorem dX10_times_8 : decode cX10_times 8 = .ok (.ifCond .ne 58, 3) := by decide +kernel
theorem dX10_times_11 : decode cX10_times 11 = .ok (.aload_n 0, 1) := by decide +kernel
theorem dX10_times_12 : decode cX10_times 12 = .ok (.invokevirtual 127, 3) := by decide +kernel
theorem dX10_times_15 : decode cX10_times 15 = .ok (.bipush 42, 2) := by decide +kernel
theorem dX10_times_17 : decode cX10_times 17 = .ok (.if_icmp .eq 21, 3) := by decide +kernel
theorem dX10_times_20 : decode cX10_times 20 = .ok (.aload_n 0, 1) := by decide +kernel
theorem dX10_times_21 : decode cX10_times 21 = .ok (.invokevirtual 127, 3) := by decide +kernel
theorem dX10_times_24 : decode cX10_times 24 = .ok (.bipush 47, 2) := by decide +kernel
theorem dX10_times_26 : decode cX10_times 26 = .ok (.if_icmp .eq 12, 3) := by decide +kernel
theorem dX10_times_29 : decode cX10_times 29 = .ok (.aload_n 0, 1) := by decide +kernel
theorem dX10_times_30 : decode cX10_times 30 = .ok (.invokevirtual 127, 3) := by decide +kernel
theorem dX10_times_33 : decode cX10_times 33 = .ok (.bipush 37, 2) := by decide +kernel
theorem dX10_times_35 : decode cX10_times 35 = .ok (.if_icmp .ne 31, 3) := by decide +kernel
theorem dX10_times_38 : decode cX10_times 38 = .ok (.aload_n 0, 1) := by decide +kernel
theorem dX10_times_39 : decode cX10_times 39 = .ok (.invokevirtual 127, 3) := by decide +kernel
theorem dX10_times_42 : decode cX10_times 42 = .ok (.istore_n 1, 1) := by decide +kernel
theorem dX10_times_43 : decode cX10_times 43 = .ok (.aload_n 0, 1) := by decide +kernel
theorem dX10_times_44 : decode cX10_times 44 = .ok (.dup, 1) := by decide +kernel
theorem dX10_times_45 : decode cX10_times 45 = .ok (.getfield 117, 3) := by decide +kernel
theorem dX10_times_48 : decode cX10_times 48 = .ok (.iconst 1, 1) := by decide +kernel
theorem dX10_times_49 : decode cX10_times 49 = .ok (.iadd, 1) := by decide +kernel
theorem dX10_times_50 : decode cX10_times 50 = .ok (.putfield 117, 3) := by decide +kernel
theorem dX10_times_53 : decode cX10_times 53 = .ok (.aload_n 0, 1) := by decide +kernel
theorem dX10_times_54 : decode cX10_times 54 = .ok (.invokevirtual 142, 3) := by decide +kernel
theorem dX10_times_57 : decode cX10_times 57 = .ok (.aload_n 0, 1) := by decide +kernel
theorem dX10_times_58 : decode cX10_times 58 = .ok (.iload_n 1, 1) := by decide +kernel
theorem dX10_times_59 : decode cX10_times 59 = .ok (.iconst 0, 1) := by decide +kernel
theorem dX10_times_60 : decode cX10_times 60 = .ok (.invokevirtual 135, 3) := by decide +kernel
theorem dX10_times_63 : decode cX10_times 63 = .ok (.goto (-59), 3) := by decide +kernel
theorem dX10_times_66 : decode cX10_times 66 = .ok (.return_, 1) := by decide +kernel
set_option maxRecDepth 20000 in
theorem ggX10_sum_X10_times : GoodIn wsX10_sum wsX10_times := goodIn_r _ [55, 1, 2, 49, 50, 51, 6, 7, 8, 9, 10, 11, 12, 13, 14, 15, 16, 17, 18, 19, 20, 21, 22, 23, 24, 25, 26, 27, 28, 29, 30, 31, 32, 33, 34, 35, 36, 37, 38, 39, 40, 41, 42, 43, 44, 45, 46, 47, 48, 52, 53, 54, 0, 3, 4, 5, 56, 57, 58, 59, 60, 61, 62, 63, 64, 65, 66, 67, 68, 69, 70, 71, 72, 73, 74, 75, 76] (by decide +kernel) (by decide +kernel)
set_option maxRecDepth 20000 in
theorem gX10_sum_X10_times : GoodIn wsX10_sum (wsV RX10 157 RX10 yX10_times wsX10_times) := goodIn_app (goodIn_of _ (by decide +kernel)) ggX10_sum_X10_times
set_option maxRecDepth 20000 in
theorem ggX10_sum_X10_look : GoodIn wsX10_sum wsX10_look := goodIn_r _ [10, 2, 11, 56, 57, 58, 59, 60, 61, 62, 63, 64, 65, 66, 67, 68, 69, 70, 71, 72, 73, 74, 75, 76] (by decide +kernel) (by decide +kernel)
set_option maxRecDepth 20000 in
theorem gX10_sum_X10_look : GoodIn wsX10_sum (wsV RX10 127 RX10 yX10_look wsX10_look) := goodIn_app (goodIn_of _ (by decide +kernel)) ggX10_sum_X10_look
set_option maxRecDepth 20000 in
theorem ggX10_sum_X10_step : GoodIn wsX10_sum wsX10_step := goodIn_r _ [15, 16, 17, 18, 56, 57, 58, 59, 60, 61, 62, 63, 64, 65, 66, 67, 68, 69, 70, 71, 72, 73, 74, 75, 76] (by decide +kernel) (by decide +kernel)
set_option maxRecDepth 20000 in
theorem gX10_sum_X10_step : GoodIn wsX10_sum (wsV RX10 135 RX10 yX10_step wsX10_step) := goodIn_app (goodIn_of _ (by decide +kernel)) ggX10_sum_X10_step
theorem dX10_sum_0 : decode cX10_sum 0 = .ok (.aload_n 0, 1) := by decide +kernel
theorem dX10_sum_1 : decode cX10_sum 1 = .ok (.invokevirtual 157, 3) := by decide +kernel
theorem dX10_sum_4 : decode cX10_sum 4 = .ok (.aload_n 0, 1) := by decide +kernel
theorem dX10_sum_5 : decode cX10_sum 5 = .ok (.getfield 131, 3) := by decide +kernel
theorem dX10_sum_8 : decode cX10_sum 8 = .ok (.ifCond .ne 49, 3) := by decide +kernel
theorem dX10_sum_11 : decode cX10_sum 11 = .ok (.aload_n 0, 1) := by decide +kernel
theorem dX10_sum_12 : decode cX10_sum 12 = .ok (.invokevirtual 127, 3) := by decide +kernel
theorem dX10_sum_15 : decode cX10_sum 15 = .ok (.bipush 43, 2) := by decide +kernel
theorem dX10_sum_17 : decode cX10_sum 17 = .ok (.if_icmp .eq 12, 3) := by decide +kernel
theorem dX10_sum_20 : decode cX10_sum 20 = .ok (.aload_n 0, 1) := by decide +kernel
theorem dX10_sum_21 : decode cX10_sum 21 = .ok (.invokevirtual 127, 3) := by decide +kernel
theorem dX10_sum_24 : decode cX10_sum 24 = .ok (.bipush 45, 2) := by decide +kernel
theorem dX10_sum_26 : decode cX10_sum 26 = .ok (.if_icmp .ne 31, 3) := by decide +kernel
theorem dX10_sum_29 : decode cX10_sum 29 = .ok (.aload_n 0, 1) := by decide +kernel
theorem dX10_sum_30 : decode cX10_sum 30 = .ok (.invokevirtual 127, 3) := by decide +kernel
theorem dX10_sum_33 : decode cX10_sum 33 = .ok (.istore_n 1, 1) := by decide +kernel
theorem dX10_sum_34 : decode cX10_sum 34 = .ok (.aload_n 0, 1) := by decide +kernel
theorem dX10_sum_35 : decode cX10_sum 35 = .ok (.dup, 1) := by decide +kernel
theorem dX10_sum_36 : decode cX10_sum 36 = .ok (.getfield 117, 3) := by decide +kernel
theorem dX10_sum_39 : decode cX10_sum 39 = .ok (.iconst 1, 1) := by decide +kernel
theorem dX10_sum_40 : decode cX10_sum 40 = .ok (.iadd, 1) := by decide +kernel
theorem dX10_sum_41 : decode cX10_sum 41 = .ok (.putfield 117, 3) := by decide +kernel
theorem dX10_sum_44 : decode cX10_sum 44 = .ok (.aload_n 0, 1) := by decide +kernel
theorem dX10_sum_45 : decode cX10_sum 45 = .ok (.invokevirtual 157, 3) := by decide +kernel
theorem dX10_sum_48 : decode cX10_sum 48 = .ok (.aload_n 0, 1) := by decide +kernel
theorem dX10_sum_49 : decode cX10_sum 49 = .ok (.iload_n 1, 1) := by decide +kernel
theorem dX10_sum_50 : decode cX10_sum 50 = .ok (.iconst 0, 1) := by decide +kernel
theorem dX10_sum_51 : decode cX10_sum 51 = .ok (.invokevirtual 135, 3) := by decide +kernel
theorem dX10_sum_54 : decode cX10_sum 54 = .ok (.goto (-50), 3) := by decide +kernel
theorem dX10_sum_57 : decode cX10_sum 57 = .ok (.return_, 1) := by decide +kernel
set_option maxRecDepth 20000 in
theorem ggX10_compares_X10_sum : GoodIn wsX10_compares wsX10_sum := goodIn_r _ [51, 1, 2, 52, 53, 54, 6, 7, 8, 9, 10, 11, 12, 13, 14, 15, 16, 17, 18, 19, 20, 21, 22, 23, 24, 25, 26, 0, 3, 4, 5, 27, 28, 29, 30, 31, 32, 33, 34, 35, 36, 37, 38, 39, 40, 41, 42, 43, 44, 45, 46, 47, 48, 49, 50, 55, 56, 57, 58, 59, 60, 61, 62, 63, 64, 65, 66, 67, 68, 69, 70, 71, 72, 73, 74, 75, 76] (by decide +kernel) (by decide +kernel)
set_option maxRecDepth 20000 in
theorem gX10_compares_X10_sum : GoodIn wsX10_compares (wsV RX10 160 RX10 yX10_sum wsX10_sum) := goodIn_app (goodIn_of _ (by decide +kernel)) ggX10_compares_X10_sum
set_option maxRecDepth 20000 in
theorem ggX10_compares_X10_look : GoodIn wsX10_compares wsX10_look := goodIn_r _ [10, 2, 11, 56, 57, 58, 59, 60, 61, 62, 63, 64, 65, 66, 67, 68, 69, 70, 71, 72, 73, 74, 75, 76] (by decide +kernel) (by decide +kernel)
set_option maxRecDepth 20000 in
theorem gX10_compares_X10_look : GoodIn wsX10_compares (wsV RX10 127 RX10 yX10_look wsX10_look) := goodIn_app (goodIn_of _ (by decide +kernel)) ggX10_compares_X10_look
set_option maxRecDepth 20000 in
theorem ggX10_compares_X10_step : GoodIn wsX10_compares wsX10_step := goodIn_r _ [15, 16, 17, 18, 56, 57, 58, 59, 60, 61, 62, 63, 64, 65, 66, 67, 68, 69, 70, 71, 72, 73, 74, 75, 76] (by decide +kernel) (by decide +kernel)
set_option maxRecDepth 20000 in
theorem gX10_compares_X10_step : GoodIn wsX10_compares (wsV RX10 135 RX10 yX10_step wsX10_step) := goodIn_app (goodIn_of _ (by decide +kernel)) ggX10_compares_X10_step
theorem dX10_compares_0 : decode cX10_compares 0 = .ok (.aload_n 0, 1) := by decide +kernel
theorem dX10_compares_1 : decode cX10_compares 1 = .ok (.invokevirtual 160, 3) := by decide +kernel
theorem dX10_compares_4 : decode cX10_compares 4 = .ok (.aload_n 0, 1) := by decide +kernel
theorem dX10_compares_5 : decode cX10_compares 5 = .ok (.invokevirtual 127, 3) := by decide +kernel
theorem dX10_compares_8 : decode cX10_compares 8 = .ok (.istore_n 1, 1) := by decide +kernel
theorem dX10_compares_9 : decode cX10_compares 9 = .ok (.aload_n 0, 1) := by decide +kernel
theorem dX10_compares_10 : decode cX10_compares 10 = .ok (.getfield 131, 3) := by decide +kernel
theorem dX10_compares_13 : decode cX10_compares 13 = .ok (.ifCond .ne 41, 3) := by decide +kernel
theorem dX10_compares_16 : decode cX10_compares 16 = .ok (.iload_n 1, 1) := by decide +kernel
theorem dX10_compares_17 : decode cX10_compares 17 = .ok (.bipush 60, 2) := by decide +kernel
theorem dX10_compares_19 : decode cX10_compares 19 = .ok (.if_icmp .eq 15, 3) := by decide +kernel
theorem dX10_compares_22 : decode cX10_compares 22 = .ok (.iload_n 1, 1) := by decide +kernel
theorem dX10_compares_23 : decode cX10_compares 23 = .ok (.bipush 61, 2) := by decide +kernel
theorem dX10_compares_25 : decode cX10_compares 25 = .ok (.if_icmp .eq 9, 3) := by decide +kernel
theorem dX10_compares_28 : decode cX10_compares 28 = .ok (.iload_n 1, 1) := by decide +kernel
theorem dX10_compares_29 : decode cX10_compares 29 = .ok (.bipush 62, 2) := by decide +kernel
theorem dX10_compares_31 : decode cX10_compares 31 = .ok (.if_icmp .ne 23, 3) := by decide +kernel
theorem dX10_compares_34 : decode cX10_compares 34 = .ok (.aload_n 0, 1) := by decide +kernel
theorem dX10_compares_35 : decode cX10_compares 35 = .ok (.dup, 1) := by decide +kernel
theorem dX10_compares_36 : decode cX10_compares 36 = .ok (.getfield 117, 3) := by decide +kernel
theorem dX10_compares_39 : decode cX10_compares 39 = .ok (.iconst 1, 1) := by decide +kernel
theorem dX10_compares_40 : decode cX10_compares 40 = .ok (.iadd, 1) := by decide +kernel
theorem dX10_compares_41 : decode cX10_compares 41 = .ok (.putfield 117, 3) := by decide +kernel
theorem dX10_compares_44 : decode cX10_compares 44 = .ok (.aload_n 0, 1) := by decide +kernel
theorem dX10_compares_45 : decode cX10_compares 45 = .ok (.invokevirtual 160, 3) := by decide +kernel
theorem dX10_compares_48 : decode cX10_compares 48 = .ok (.aload_n 0, 1) := by decide +kernel
theorem dX10_compares_49 : decode cX10_compares 49 = .ok (.iload_n 1, 1) := by decide +kernel
theorem dX10_compares_50 : decode cX10_compares 50 = .ok (.iconst 0, 1) := by decide +kernel
theorem dX10_compares_51 : decode cX10_compares 51 = .ok (.invokevirtual 135, 3) := by decide +kernel
theorem dX10_compares_54 : decode cX10_compares 54 = .ok (.return_, 1) := by decide +kernel
set_option maxRecDepth 20000 in
theorem ggX10_all_X10_compares : GoodIn wsX10_all wsX10_compares := goodIn_r _ [23, 1, 2, 24, 25, 26, 6, 7, 8, 9, 10, 11, 12, 13, 14, 15, 16, 17, 18, 0, 3, 4, 5, 19, 20, 21, 22, 27, 28, 29, 30, 31, 32, 33, 34, 35, 36, 37, 38, 39, 40, 41, 42, 43, 44, 45, 46, 47, 48, 49, 50, 51, 52, 53, 54, 55, 56, 57, 58, 59, 60, 61, 62, 63, 64, 65, 66, 67, 68, 69, 70, 71, 72, 73, 74, 75, 76] (by decide +kernel) (by decide +kernel)
set_option maxRecDepth 20000 in
theorem gX10_all_X10_compares : GoodIn wsX10_all (wsV RX10 163 RX10 yX10_compares wsX10_compares) := goodIn_app (goodIn_of _ (by decide +kernel)) ggX10_all_X10_compares
set_option maxRecDepth 20000 in
theorem ggX10_all_X10_look : GoodIn wsX10_all wsX10_look := goodIn_r _ [10, 2, 11, 56, 57, 58, 59, 60, 61, 62, 63, 64, 65, 66, 67, 68, 69, 70, 71, 72, 73, 74, 75, 76] (by decide +kernel) (by decide +kernel)
set_option maxRecDepth 20000 in
theorem gX10_all_X10_look : GoodIn wsX10_all (wsV RX10 127 RX10 yX10_look wsX10_look) := goodIn_app (goodIn_of _ (by decide +kernel)) ggX10_all_X10_look
set_option maxRecDepth 20000 in
theorem ggX10_all_X10_step : GoodIn wsX10_all wsX10_step := goodIn_r _ [15, 16, 17, 18, 56, 57, 58, 59, 60, 61, 62, 63, 64, 65, 66, 67, 68, 69, 70, 71, 72, 73, 74, 75, 76] (by decide +kernel) (by decide +kernel)
set_option maxRecDepth 20000 in
theorem gX10_all_X10_step : GoodIn wsX10_all (wsV RX10 135 RX10 yX10_step wsX10_step) := goodIn_app (goodIn_of _ (by decide +kernel)) ggX10_all_X10_step
theorem dX10_all_0 : decode cX10_all 0 = .ok (.aload_n 0, 1) := by decide +kernel
theorem dX10_all_1 : decode cX10_all 1 = .ok (.invokevirtual 163, 3) := by decide +kernel
theorem dX10_all_4 : decode cX10_all 4 = .ok (.aload_n 0, 1) := by decide +kernel
theorem dX10_all_5 : decode cX10_all 5 = .ok (.getfield 131, 3) := by decide +kernel
theorem dX10_all_8 : decode cX10_all 8 = .ok (.ifCond .ne 36, 3) := by decide +kernel
theorem dX10_all_11 : decode cX10_all 11 = .ok (.aload_n 0, 1) := by decide +kernel
theorem dX10_all_12 : decode cX10_all 12 = .ok (.invokevirtual 127, 3) := by decide +kernel
theorem dX10_all_15 : decode cX10_all 15 = .ok (.bipush 38, 2) := by decide +kernel
theorem dX10_all_17 : decode cX10_all 17 = .ok (.if_icmp .ne 27, 3) := by decide +kernel
theorem dX10_all_20 : decode cX10_all 20 = .ok (.aload_n 0, 1) := by decide +kernel
theorem dX10_all_21 : decode cX10_all 21 = .ok (.dup, 1) := by decide +kernel
theorem dX10_all_22 : decode cX10_all 22 = .ok (.getfield 117, 3) := by decide +kernel
theorem dX10_all_25 : decode cX10_all 25 = .ok (.iconst 1, 1) := by decide +kernel
theorem dX10_all_26 : decode cX10_all 26 = .ok (.iadd, 1) := by decide +kernel
theorem dX10_all_27 : decode cX10_all 27 = .ok (.putfield 117, 3) := by decide +kernel
theorem dX10_all_30 : decode cX10_all 30 = .ok (.aload_n 0, 1) := by decide +kernel
theorem dX10_all_31 : decode cX10_all 31 = .ok (.invokevirtual 163, 3) := by decide +kernel
theorem dX10_all_34 : decode cX10_all 34 = .ok (.aload_n 0, 1) := by decide +kernel
theorem dX10_all_35 : decode cX10_all 35 = .ok (.bipush 38, 2) := by decide +kernel
theorem dX10_all_37 : decode cX10_all 37 = .ok (.iconst 0, 1) := by decide +kernel
theorem dX10_all_38 : decode cX10_all 38 = .ok (.invokevirtual 135, 3) := by decide +kernel
theorem dX10_all_41 : decode cX10_all 41 = .ok (.goto (-37), 3) := by decide +kernel
theorem dX10_all_44 : decode cX10_all 44 = .ok (.return_, 1) := by decide +kernel
set_option maxRecDepth 20000 in
theorem ggX10_any_X10_all : GoodIn wsX10_any wsX10_all := goodIn_r _ [19, 1, 2, 20, 21, 22, 6, 7, 8, 9, 10, 11, 12, 13, 14, 15, 16, 17, 18, 0, 3, 4, 5, 23, 24, 25, 26, 27, 28, 29, 30, 31, 32, 33, 34, 35, 36, 37, 38, 39, 40, 41, 42, 43, 44, 45, 46, 47, 48, 49, 50, 51, 52, 53, 54, 55, 56, 57, 58, 59, 60, 61, 62, 63, 64, 65, 66, 67, 68, 69, 70, 71, 72, 73, 74, 75, 76] (by decide +kernel) (by decide +kernel)
set_option maxRecDepth 20000 in
theorem gX10_any_X10_all : GoodIn wsX10_any (wsV RX10 166 RX10 yX10_all wsX10_all) := goodIn_app (goodIn_of _ (by decide +kernel)) ggX10_any_X10_all
set_option maxRecDepth 20000 in
theorem ggX10_any_X10_look : GoodIn wsX10_any wsX10_look := goodIn_r _ [10, 2, 11, 56, 57, 58, 59, 60, 61, 62, 63, 64, 65, 66, 67, 68, 69, 70, 71, 72, 73, 74, 75, 76] (by decide +kernel) (by decide +kernel)
set_option maxRecDepth 20000 in
theorem gX10_any_X10_look : GoodIn wsX10_any (wsV RX10 127 RX10 yX10_look wsX10_look) := goodIn_app (goodIn_of _ (by decide +kernel)) ggX10_any_X10_look
set_option maxRecDepth 20000 in
theorem ggX10_any_X10_step : GoodIn wsX10_any wsX10_step := goodIn_r _ [15, 16, 17, 18, 56, 57, 58, 59, 60, 61, 62, 63, 64, 65, 66, 67, 68, 69, 70, 71, 72, 73, 74, 75, 76] (by decide +kernel) (by decide +kernel)
set_option maxRecDepth 20000 in
theorem gX10_any_X10_step : GoodIn wsX10_any (wsV RX10 135 RX10 yX10_step wsX10_step) := goodIn_app (goodIn_of _ (by decide +kernel)) ggX10_any_X10_step
theorem dX10_any_0 : decode cX10_any 0 = .ok (.aload_n 0, 1) := by decide +kernel
theorem dX10_any_1 : decode cX10_any 1 = .ok (.invokevirtual 166, 3) := by decide +kernel
theorem dX10_any_4 : decode cX10_any 4 = .ok (.aload_n 0, 1) := by decide +kernel
theorem dX10_any_5 : decode cX10_any 5 = .ok (.getfield 131, 3) := by decide +kernel
theorem dX10_any_8 : decode cX10_any 8 = .ok (.ifCond .ne 36, 3) := by decide +kernel
theorem dX10_any_11 : decode cX10_any 11 = .ok (.aload_n 0, 1) := by decide +kernel
theorem dX10_any_12 : decode cX10_any 12 = .ok (.invokevirtual 127, 3) := by decide +kernel
theorem dX10_any_15 : decode cX10_any 15 = .ok (.bipush 124, 2) := by decide +kernel
theorem dX10_any_17 : decode cX10_any 17 = .ok (.if_icmp .ne 27, 3) := by decide +kernel
theorem dX10_any_20 : decode cX10_any 20 = .ok (.aload_n 0, 1) := by decide +kernel
theorem dX10_any_21 : decode cX10_any 21 = .ok (.dup, 1) := by decide +kernel
theorem dX10_any_22 : decode cX10_any 22 = .ok (.getfield 117, 3) := by decide +kernel
theorem dX10_any_25 : decode cX10_any 25 = .ok (.iconst 1, 1) := by decide +kernel
theorem dX10_any_26 : decode cX10_any 26 = .ok (.iadd, 1) := by decide +kernel
theorem dX10_any_27 : decode cX10_any 27 = .ok (.putfield 117, 3) := by decide +kernel
theorem dX10_any_30 : decode cX10_any 30 = .ok (.aload_n 0, 1) := by decide +kernel
theorem dX10_any_31 : decode cX10_any 31 = .ok (.invokevirtual 166, 3) := by decide +kernel
theorem dX10_any_34 : decode cX10_any 34 = .ok (.aload_n 0, 1) := by decide +kernel
theorem dX10_any_35 : decode cX10_any 35 = .ok (.bipush 124, 2) := by decide +kernel
theorem dX10_any_37 : decode cX10_any 37 = .ok (.iconst 0, 1) := by decide +kernel
theorem dX10_any_38 : decode cX10_any 38 = .ok (.invokevirtual 135, 3) := by decide +kernel
theorem dX10_any_41 : decode cX10_any 41 = .ok (.goto (-37), 3) := by decide +kernel
theorem dX10_any_44 : decode cX10_any 44 = .ok (.return_, 1) := by decide +kernel
set_option maxRecDepth 20000 in
theorem ggX10_text_X10_in : GoodIn wsX10_text wsX10_in := goodIn_r _ [13] (by decide +kernel) (by decide +kernel)
set_option maxRecDepth 20000 in
theorem gX10_text_X10_in : GoodIn wsX10_text (va_wsS RX10 54 yX10_in wsX10_in) := goodIn_app (goodIn_of _ (by decide +kernel)) ggX10_text_X10_in
set_option maxRecDepth 20000 in
theorem ggX10_text_X10_error : GoodIn wsX10_text wsX10_error := goodIn_r _ [17, 18, 19, 64, 65, 66, 67, 68, 69, 70, 71, 72, 73, 74, 75, 76, 77, 78, 79, 80, 81, 82, 83, 84] (by decide +kernel) (by decide +kernel)
set_option maxRecDepth 20000 in
theorem gX10_text_X10_error : GoodIn wsX10_text (wsV RX10 87 RX10 yX10_error wsX10_error) := goodIn_app (goodIn_of _ (by decide +kernel)) ggX10_text_X10_error
set_option maxRecDepth 20000 in
theorem ggX10_text_X10_any : GoodIn wsX10_text wsX10_any := goodIn_r _ [23, 6, 4, 24, 25, 26, 12, 27, 28, 29, 30, 7, 31, 32, 33, 34, 3, 8, 9, 35, 36, 37, 38, 39, 40, 41, 42, 43, 44, 45, 46, 47, 2, 48, 49, 50, 51, 52, 53, 54, 10, 11, 13, 55, 5, 56, 57, 58, 20, 21, 22, 59, 60, 61, 62, 63, 64, 65, 66, 67, 68, 69, 70, 71, 72, 73, 74, 75, 76, 77, 78, 79, 80, 81, 82, 83, 84] (by decide +kernel) (by decide +kernel)
set_option maxRecDepth 20000 in
theorem gX10_text_X10_any : GoodIn wsX10_text (wsV RX10 145 RX10 yX10_any wsX10_any) := goodIn_app (goodIn_of _ (by decide +kernel)) ggX10_text_X10_any
theorem dX10_text_0 : decode cX10_text 0 = .ok (.iload_n 1, 1) := by decide +kernel
theorem dX10_text_1 : decode cX10_text 1 = .ok (.iconst 0, 1) := by decide +kernel
theorem dX10_text_2 : decode cX10_text 2 = .ok (.iconst 1, 1) := by decide +kernel
theorem dX10_text_3 : decode cX10_text 3 = .ok (.invokestatic 54, 3) := by decide +kernel
theorem dX10_text_6 : decode cX10_text 6 = .ok (.ifCond .ne 10, 3) := by decide +kernel
theorem dX10_text_9 : decode cX10_text 9 = .ok (.aload_n 0, 1) := by decide +kernel
theorem dX10_text_10 : decode cX10_text 10 = .ok (.ldc 86, 2) := by decide +kernel
theorem dX10_text_12 : decode cX10_text 12 = .ok (.invokevirtual 87, 3) := by decide +kernel
theorem dX10_text_15 : decode cX10_text 15 = .ok (.ireturn, 1) := by decide +kernel
theorem dX10_text_16 : decode cX10_text 16 = .ok (.aload_n 0, 1) := by decide +kernel
theorem dX10_text_17 : decode cX10_text 17 = .ok (.iload_n 1, 1) := by decide +kernel
theorem dX10_text_18 : decode cX10_text 18 = .ok (.putfield 124, 3) := by decide +kernel
theorem dX10_text_21 : decode cX10_text 21 = .ok (.aload_n 0, 1) := by decide +kernel
theorem dX10_text_22 : decode cX10_text 22 = .ok (.iconst 0, 1) := by decide +kernel
theorem dX10_text_23 : decode cX10_text 23 = .ok (.putfield 121, 3) := by decide +kernel
theorem dX10_text_26 : decode cX10_text 26 = .ok (.aload_n 0, 1) := by decide +kernel
theorem dX10_text_27 : decode cX10_text 27 = .ok (.iconst 0, 1) := by decide +kernel
theorem dX10_text_28 : decode cX10_text 28 = .ok (.putfield 117, 3) := by decide +kernel
theorem dX10_text_31 : decode cX10_text 31 = .ok (.aload_n 0, 1) := by decide +kernel
theorem dX10_text_32 : decode cX10_text 32 = .ok (.iconst 0, 1) := by decide +kernel
theorem dX10_text_33 : decode cX10_text 33 = .ok (.putfield 139, 3) := by decide +kernel
theorem dX10_text_36 : decode cX10_text 36 = .ok (.aload_n 0, 1) := by decide +kernel
theorem dX10_text_37 : decode cX10_text 37 = .ok (.iconst 0, 1) := by decide +kernel
theorem dX10_text_38 : decode cX10_text 38 = .ok (.putfield 131, 3) := by decide +kernel
theorem dX10_text_41 : decode cX10_text 41 = .ok (.aload_n 0, 1) := by decide +kernel
theorem dX10_text_42 : decode cX10_text 42 = .ok (.invokevirtual 145, 3) := by decide +kernel
theorem dX10_text_45 : decode cX10_text 45 = .ok (.aload_n 0, 1) := by decide +kernel
theorem dX10_text_46 : decode cX10_text 46 = .ok (.aload_n 0, 1) := by decide +kernel
theorem dX10_text_47 : decode cX10_text 47 = .ok (.getfield 131, 3) := by decide +kernel
theorem dX10_text_50 : decode cX10_text 50 = .ok (.ifCond .ne 16, 3) := by decide +kernel
theorem dX10_text_53 : decode cX10_text 53 = .ok (.aload_n 0, 1) := by decide +kernel
theorem dX10_text_54 : decode cX10_text 54 = .ok (.getfield 117, 3) := by decide +kernel
theorem dX10_text_57 : decode cX10_text 57 = .ok (.aload_n 0, 1) := by decide +kernel
theorem dX10_text_58 : decode cX10_text 58 = .ok (.getfield 9, 3) := by decide +kernel
theorem dX10_text_61 : decode cX10_text 61 = .ok (.iconst 5, 1) := by decide +kernel
theorem dX10_text_62 : decode cX10_text 62 = .ok (.iaload, 1) := by decide +kernel
theorem dX10_text_63 : decode cX10_text 63 = .ok (.if_icmp .ge 7, 3) := by decide +kernel
theorem dX10_text_66 : decode cX10_text 66 = .ok (.iconst 1, 1) := by decide +kernel
theorem dX10_text_67 : decode cX10_text 67 = .ok (.goto 4, 3) := by decide +kernel
theorem dX10_text_70 : decode cX10_text 70 = .ok (.iconst 0, 1) := by decide +kernel
theorem dX10_text_71 : decode cX10_text 71 = .ok (.putfield 131, 3) := by decide +kernel
theorem dX10_text_74 : decode cX10_text 74 = .ok (.aload_n 0, 1) := by decide +kernel
theorem dX10_text_75 : decode cX10_text 75 = .ok (.getfield 9, 3) := by decide +kernel
theorem dX10_text_78 : decode cX10_text 78 = .ok (.iconst 5, 1) := by decide +kernel
theorem dX10_text_79 : decode cX10_text 79 = .ok (.iconst 0, 1) := by decide +kernel
theorem dX10_text_80 : decode cX10_text 80 = .ok (.iastore, 1) := by decide +kernel
theorem dX10_text_81 : decode cX10_text 81 = .ok (.aload_n 0, 1) := by decide +kernel
theorem dX10_text_82 : decode cX10_text 82 = .ok (.getfield 131, 3) := by decide +kernel
theorem dX10_text_85 : decode cX10_text 85 = .ok (.ifCond .eq 11, 3) := by decide +kernel
theorem dX10_text_88 : decode cX10_text 88 = .ok (.bipush (-10), 2) := by decide +kernel
theorem dX10_text_90 : decode cX10_text 90 = .ok (.aload_n 0, 1) := by decide +kernel
theorem dX10_text_91 : decode cX10_text 91 = .ok (.getfield 117, 3) := by decide +kernel
theorem dX10_text_94 : decode cX10_text 94 = .ok (.isub, 1) := by decide +kernel
theorem dX10_text_95 : decode cX10_text 95 = .ok (.ireturn, 1) := by decide +kernel
theorem dX10_text_96 : decode cX10_text 96 = .ok (.sipush 166, 3) := by decide +kernel
theorem dX10_text_99 : decode cX10_text 99 = .ok (.bipush 121, 2) := by decide +kernel
theorem dX10_text_101 : decode cX10_text 101 = .ok (.iload_n 1, 1) := by decide +kernel
theorem dX10_text_102 : decode cX10_text 102 = .ok (.imul, 1) := by decide +kernel
theorem dX10_text_103 : decode cX10_text 103 = .ok (.iadd, 1) := by decide +kernel
theorem dX10_text_104 : decode cX10_text 104 = .ok (.istore_n 2, 1) := by decide +kernel
theorem dX10_text_105 : decode cX10_text 105 = .ok (.aload_n 0, 1) := by decide +kernel
theorem dX10_text_106 : decode cX10_text 106 = .ok (.getfield 9, 3) := by decide +kernel
theorem dX10_text_109 : decode cX10_text 109 = .ok (.iload_n 2, 1) := by decide +kernel
theorem dX10_text_110 : decode cX10_text 110 = .ok (.aload_n 0, 1) := by decide +kernel
theorem dX10_text_111 : decode cX10_text 111 = .ok (.getfield 121, 3) := by decide +kernel
theorem dX10_text_114 : decode cX10_text 114 = .ok (.iastore, 1) := by decide +kernel
theorem dX10_text_115 : decode cX10_text 115 = .ok (.iconst 0, 1) := by decide +kernel
theorem dX10_text_116 : decode cX10_text 116 = .ok (.istore_n 3, 1) := by decide +kernel
theorem dX10_text_117 : decode cX10_text 117 = .ok (.iload_n 3, 1) := by decide +kernel
theorem dX10_text_118 : decode cX10_text 118 = .ok (.aload_n 0, 1) := by decide +kernel
theorem dX10_text_119 : decode cX10_text 119 = .ok (.getfield 121, 3) := by decide +kernel
theorem dX10_text_122 : decode cX10_text 122 = .ok (.if_icmp .ge 42, 3) := by decide +kernel
theorem dX10_text_125 : decode cX10_text 125 = .ok (.aload_n 0, 1) := by decide +kernel
theorem dX10_text_126 : decode cX10_text 126 = .ok (.getfield 9, 3) := by decide +kernel
theorem dX10_text_129 : decode cX10_text 129 = .ok (.iload_n 2, 1) := by decide +kernel
theorem dX10_text_130 : decode cX10_text 130 = .ok (.iconst 1, 1) := by decide +kernel
theorem dX10_text_131 : decode cX10_text 131 = .ok (.iadd, 1) := by decide +kernel
theorem dX10_text_132 : decode cX10_text 132 = .ok (.iload_n 3, 1) := by decide +kernel
theorem dX10_text_133 : decode cX10_text 133 = .ok (.iadd, 1) := by decide +kernel
theorem dX10_text_134 : decode cX10_text 134 = .ok (.aload_n 0, 1) := by decide +kernel
theorem dX10_text_135 : decode cX10_text 135 = .ok (.getfield 31, 3) := by decide +kernel
theorem dX10_text_138 : decode cX10_text 138 = .ok (.iload_n 3, 1) := by decide +kernel
theorem dX10_text_139 : decode cX10_text 139 = .ok (.iaload, 1) := by decide +kernel
theorem dX10_text_140 : decode cX10_text 140 = .ok (.iastore, 1) := by decide +kernel
theorem dX10_text_141 : decode cX10_text 141 = .ok (.aload_n 0, 1) := by decide +kernel
theorem dX10_text_142 : decode cX10_text 142 = .ok (.getfield 9, 3) := by decide +kernel
theorem dX10_text_145 : decode cX10_text 145 = .ok (.iload_n 2, 1) := by decide +kernel
theorem dX10_text_146 : decode cX10_text 146 = .ok (.bipush 61, 2) := by decide +kernel
theorem dX10_text_148 : decode cX10_text 148 = .ok (.iadd, 1) := by decide +kernel
theorem dX10_text_149 : decode cX10_text 149 = .ok (.iload_n 3, 1) := by decide +kernel
theorem dX10_text_150 : decode cX10_text 150 = .ok (.iadd, 1) := by decide +kernel
theorem dX10_text_151 : decode cX10_text 151 = .ok (.aload_n 0, 1) := by decide +kernel
theorem dX10_text_152 : decode cX10_text 152 = .ok (.getfield 34, 3) := by decide +kernel
theorem dX10_text_155 : decode cX10_text 155 = .ok (.iload_n 3, 1) := by decide +kernel
theorem dX10_text_156 : decode cX10_text 156 = .ok (.iaload, 1) := by decide +kernel
theorem dX10_text_157 : decode cX10_text 157 = .ok (.iastore, 1) := by decide +kernel
theorem dX10_text_158 : decode cX10_text 158 = .ok (.iinc 3 1, 3) := by decide +kernel
theorem dX10_text_161 : decode cX10_text 161 = .ok (.goto (-44), 3) := by decide +kernel
theorem dX10_text_164 : decode cX10_text 164 = .ok (.iconst 1, 1) := by decide +kernel
theorem dX10_text_165 : decode cX10_text 165 = .ok (.ireturn, 1) := by decide +kernel
set_option maxRecDepth 20000 in
theorem ggX10_untell_X10_in : GoodIn wsX10_untell wsX10_in := goodIn_r _ [5] (by decide +kernel) (by decide +kernel)
set_option maxRecDepth 20000 in
theorem gX10_untell_X10_in : GoodIn wsX10_untell (va_wsS RX10 54 yX10_in wsX10_in) := goodIn_app (goodIn_of _ (by decide +kernel)) ggX10_untell_X10_in
set_option maxRecDepth 20000 in
theorem ggX10_untell_X10_error : GoodIn wsX10_untell wsX10_error := goodIn_r _ [9, 10, 11, 17, 18, 19, 20, 21, 22, 23, 24, 25, 26, 27, 28, 29, 30, 31, 32, 33, 34, 35, 36, 37] (by decide +kernel) (by decide +kernel)
set_option maxRecDepth 20000 in
theorem gX10_untell_X10_error : GoodIn wsX10_untell (wsV RX10 87 RX10 yX10_error wsX10_error) := goodIn_app (goodIn_of _ (by decide +kernel)) ggX10_untell_X10_error
set_option maxRecDepth 20000 in
theorem ggX10_untell_X10_becomes : GoodIn wsX10_untell wsX10_becomes := goodIn_r _ [15, 16, 17, 18, 19, 20, 21, 22, 23, 24, 25, 26, 27, 28, 29, 30, 31, 32, 33, 34, 35, 36, 37] (by decide +kernel) (by decide +kernel)
set_option maxRecDepth 20000 in
theorem gX10_untell_X10_becomes : GoodIn wsX10_untell (wsV RX10 107 RX10 yX10_becomes wsX10_becomes) := goodIn_app (goodIn_of _ (by decide +kernel)) ggX10_untell_X10_becomes
theorem dX10_untell_0 : decode cX10_untell 0 = .ok (.iload_n 1, 1) := by decide +kernel
theorem dX10_untell_1 : decode cX10_untell 1 = .ok (.iconst 0, 1) := by decide +kernel
theorem dX10_untell_2 : decode cX10_untell 2 = .ok (.iconst 1, 1) := by decide +kernel
theorem dX10_untell_3 : decode cX10_untell 3 = .ok (.invokestatic 54, 3) := by decide +kernel
theorem dX10_untell_6 : decode cX10_untell 6 = .ok (.ifCond .ne 10, 3) := by decide +kernel
theorem dX10_untell_9 : decode cX10_untell 9 = .ok (.aload_n 0, 1) := by decide +kernel
theorem dX10_untell_10 : decode cX10_untell 10 = .ok (.ldc 86, 2) := by decide +kernel
theorem dX10_untell_12 : decode cX10_untell 12 = .ok (.invokevirtual 87, 3) := by decide +kernel
theorem dX10_untell_15 : decode cX10_untell 15 = .ok (.ireturn, 1) := by decide +kernel
theorem dX10_untell_16 : decode cX10_untell 16 = .ok (.aload_n 0, 1) := by decide +kernel
theorem dX10_untell_17 : decode cX10_untell 17 = .ok (.sipush 166, 3) := by decide +kernel
theorem dX10_untell_20 : decode cX10_untell 20 = .ok (.bipush 121, 2) := by decide +kernel
theorem dX10_untell_22 : decode cX10_untell 22 = .ok (.iload_n 1, 1) := by decide +kernel
theorem dX10_untell_23 : decode cX10_untell 23 = .ok (.imul, 1) := by decide +kernel
theorem dX10_untell_24 : decode cX10_untell 24 = .ok (.iadd, 1) := by decide +kernel
theorem dX10_untell_25 : decode cX10_untell 25 = .ok (.iconst 0, 1) := by decide +kernel
theorem dX10_untell_26 : decode cX10_untell 26 = .ok (.invokevirtual 107, 3) := by decide +kernel
theorem dX10_untell_29 : decode cX10_untell 29 = .ok (.ifCond .le 7, 3) := by decide +kernel
theorem dX10_untell_32 : decode cX10_untell 32 = .ok (.iconst 1, 1) := by decide +kernel
theorem dX10_untell_33 : decode cX10_untell 33 = .ok (.goto 4, 3) := by decide +kernel
theorem dX10_untell_36 : decode cX10_untell 36 = .ok (.iconst 0, 1) := by decide +kernel
theorem dX10_untell_37 : decode cX10_untell 37 = .ok (.ireturn, 1) := by decide +kernel
theorem dX10_twoOf_0 : decode cX10_twoOf 0 = .ok (.iload_n 0, 1) := by decide +kernel
theorem dX10_twoOf_1 : decode cX10_twoOf 1 = .ok (.tableswitch 202 37 62 #[143, 188, 202, 202, 202, 127, 119, 202, 123, 202, 131, 202, 202, 202, 202, 202, 202, 202, 202, 202, 202, 202, 202, 155, 166, 177], 119) := by decide +kernel
theorem dX10_twoOf_120 : decode cX10_twoOf 120 = .ok (.iload_n 1, 1) := by decide +kernel
theorem dX10_twoOf_121 : decode cX10_twoOf 121 = .ok (.iload_n 2, 1) := by decide +kernel
theorem dX10_twoOf_122 : decode cX10_twoOf 122 = .ok (.iadd, 1) := by decide +kernel
theorem dX10_twoOf_123 : decode cX10_twoOf 123 = .ok (.ireturn, 1) := by decide +kernel
theorem dX10_twoOf_124 : decode cX10_twoOf 124 = .ok (.iload_n 1, 1) := by decide +kernel
theorem dX10_twoOf_125 : decode cX10_twoOf 125 = .ok (.iload_n 2, 1) := by decide +kernel
theorem dX10_twoOf_126 : decode cX10_twoOf 126 = .ok (.isub, 1) := by decide +kernel
theorem dX10_twoOf_127 : decode cX10_twoOf 127 = .ok (.ireturn, 1) := by decide +kernel
theorem dX10_twoOf_128 : decode cX10_twoOf 128 = .ok (.iload_n 1, 1) := by decide +kernel
theorem dX10_twoOf_129 : decode cX10_twoOf 129 = .ok (.iload_n 2, 1) := by decide +kernel
theorem dX10_twoOf_130 : decode cX10_twoOf 130 = .ok (.imul, 1) := by decide +kernel
theorem dX10_twoOf_131 : decode cX10_twoOf 131 = .ok (.ireturn, 1) := by decide +kernel
theorem dX10_twoOf_132 : decode cX10_twoOf 132 = .ok (.iload_n 2, 1) := by decide +kernel
theorem dX10_twoOf_133 : decode cX10_twoOf 133 = .ok (.ifCond .ne 7, 3) := by decide +kernel
theorem dX10_twoOf_136 : decode cX10_twoOf 136 = .ok (.iconst 0, 1) := by decide +kernel
theorem dX10_twoOf_137 : decode cX10_twoOf 137 = .ok (.goto 6, 3) := by decide +kernel
theorem dX10_twoOf_140 : decode cX10_twoOf 140 = .ok (.iload_n 1, 1) := by decide +kernel
theorem dX10_twoOf_141 : decode cX10_twoOf 141 = .ok (.iload_n 2, 1) := by decide +kernel
theorem dX10_twoOf_142 : decode cX10_twoOf 142 = .ok (.idiv, 1) := by decide +kernel
theorem dX10_twoOf_143 : decode cX10_twoOf 143 = .ok (.ireturn, 1) := by decide +kernel
theorem dX10_twoOf_144 : decode cX10_twoOf 144 = .ok (.iload_n 2, 1) := by decide +kernel
theorem dX10_twoOf_145 : decode cX10_twoOf 145 = .ok (.ifCond .ne 7, 3) := by decide +kernel
theorem dX10_twoOf_148 : decode cX10_twoOf 148 = .ok (.iconst 0, 1) := by decide +kernel
theorem dX10_twoOf_149 : decode cX10_twoOf 149 = .ok (.goto 6, 3) := by decide +kernel
theorem dX10_twoOf_152 : decode cX10_twoOf 152 = .ok (.iload_n 1, 1) := by decide +kernel
theorem dX10_twoOf_153 : decode cX10_twoOf 153 = .ok (.iload_n 2, 1) := by decide +kernel
theorem dX10_twoOf_154 : decode cX10_twoOf 154 = .ok (.irem, 1) := by decide +kernel
theorem dX10_twoOf_155 : decode cX10_twoOf 155 = .ok (.ireturn, 1) := by decide +kernel
theorem dX10_twoOf_156 : decode cX10_twoOf 156 = .ok (.iload_n 1, 1) := by decide +kernel
theorem dX10_twoOf_157 : decode cX10_twoOf 157 = .ok (.iload_n 2, 1) := by decide +kernel
theorem dX10_twoOf_158 : decode cX10_twoOf 158 = .ok (.if_icmp .ge 7, 3) := by decide +kernel
theorem dX10_twoOf_161 : decode cX10_twoOf 161 = .ok (.iconst 1, 1) := by decide +kernel
theorem dX10_twoOf_162 : decode cX10_twoOf 162 = .ok (.goto 4, 3) := by decide +kernel
theorem dX10_twoOf_165 : decode cX10_twoOf 165 = .ok (.iconst 0, 1) := by decide +kernel
theorem dX10_twoOf_166 : decode cX10_twoOf 166 = .ok (.ireturn, 1) := by decide +kernel
theorem dX10_twoOf_167 : decode cX10_twoOf 167 = .ok (.iload_n 1, 1) := by decide +kernel
theorem dX10_twoOf_168 : decode cX10_twoOf 168 = .ok (.iload_n 2, 1) := by decide +kernel
theorem dX10_twoOf_169 : decode cX10_twoOf 169 = .ok (.if_icmp .ne 7, 3) := by decide +kernel
theorem dX10_twoOf_172 : decode cX10_twoOf 172 = .ok (.iconst 1, 1) := by decide +kernel
theorem dX10_twoOf_173 : decode cX10_twoOf 173 = .ok (.goto 4, 3) := by decide +kernel
theorem dX10_twoOf_176 : decode cX10_twoOf 176 = .ok (.iconst 0, 1) := by decide +kernel
theorem dX10_twoOf_177 : decode cX10_twoOf 177 = .ok (.ireturn, 1) := by decide +kernel
theorem dX10_twoOf_178 : decode cX10_twoOf 178 = .ok (.iload_n 1, 1) := by decide +kernel
theorem dX10_twoOf_179 : decode cX10_twoOf 179 = .ok (.iload_n 2, 1) := by decide +kernel
theorem dX10_twoOf_180 : decode cX10_twoOf 180 = .ok (.if_icmp .le 7, 3) := by decide +kernel
theorem dX10_twoOf_183 : decode cX10_twoOf 183 = .ok (.iconst 1, 1) := by decide +kernel
theorem dX10_twoOf_184 : decode cX10_twoOf 184 = .ok (.goto 4, 3) := by decide +kernel
theorem dX10_twoOf_187 : decode cX10_twoOf 187 = .ok (.iconst 0, 1) := by decide +kernel
theorem dX10_twoOf_188 : decode cX10_twoOf 188 = .ok (.ireturn, 1) := by decide +kernel
theorem dX10_twoOf_189 : decode cX10_twoOf 189 = .ok (.iload_n 1, 1) := by decide +kernel
theorem dX10_twoOf_190 : decode cX10_twoOf 190 = .ok (.ifCond .eq 11, 3) := by decide +kernel
theorem dX10_twoOf_193 : decode cX10_twoOf 193 = .ok (.iload_n 2, 1) := by decide +kernel
theorem dX10_twoOf_194 : decode cX10_twoOf 194 = .ok (.ifCond .eq 7, 3) := by decide +kernel
theorem dX10_twoOf_197 : decode cX10_twoOf 197 = .ok (.iconst 1, 1) := by decide +kernel
theorem dX10_twoOf_198 : decode cX10_twoOf 198 = .ok (.goto 4, 3) := by decide +kernel
theorem dX10_twoOf_201 : decode cX10_twoOf 201 = .ok (.iconst 0, 1) := by decide +kernel
theorem dX10_twoOf_202 : decode cX10_twoOf 202 = .ok (.ireturn, 1) := by decide +kernel
theorem dX10_twoOf_203 : decode cX10_twoOf 203 = .ok (.iload_n 1, 1) := by decide +kernel
theorem dX10_twoOf_204 : decode cX10_twoOf 204 = .ok (.ifCond .ne 7, 3) := by decide +kernel
theorem dX10_twoOf_207 : decode cX10_twoOf 207 = .ok (.iload_n 2, 1) := by decide +kernel
theorem dX10_twoOf_208 : decode cX10_twoOf 208 = .ok (.ifCond .eq 7, 3) := by decide +kernel
theorem dX10_twoOf_211 : decode cX10_twoOf 211 = .ok (.iconst 1, 1) := by decide +kernel
theorem dX10_twoOf_212 : decode cX10_twoOf 212 = .ok (.goto 4, 3) := by decide +kernel
theorem dX10_twoOf_215 : decode cX10_twoOf 215 = .ok (.iconst 0, 1) := by decide +kernel
theorem dX10_twoOf_216 : decode cX10_twoOf 216 = .ok (.ireturn, 1) := by decide +kernel
set_option maxRecDepth 20000 in
theorem ggX10_works_X10_twoOf : GoodIn wsX10_works wsX10_twoOf := goodIn_r _ [7] (by decide +kernel) (by decide +kernel)
set_option maxRecDepth 20000 in
theorem gX10_works_X10_twoOf : GoodIn wsX10_works (va_wsS RX10 169 yX10_twoOf wsX10_twoOf) := goodIn_app (goodIn_of _ (by decide +kernel)) ggX10_works_X10_twoOf
theorem dX10_works_0 : decode cX10_works 0 = .ok (.iconst 0, 1) := by decide +kernel
theorem dX10_works_1 : decode cX10_works 1 = .ok (.istore_n 2, 1) := by decide +kernel
theorem dX10_works_2 : decode cX10_works 2 = .ok (.iconst 0, 1) := by decide +kernel
theorem dX10_works_3 : decode cX10_works 3 = .ok (.istore_n 3, 1) := by decide +kernel
theorem dX10_works_4 : decode cX10_works 4 = .ok (.iload_n 3, 1) := by decide +kernel
theorem dX10_works_5 : decode cX10_works 5 = .ok (.aload_n 0, 1) := by decide +kernel
theorem dX10_works_6 : decode cX10_works 6 = .ok (.getfield 9, 3) := by decide +kernel
theorem dX10_works_9 : decode cX10_works 9 = .ok (.iload_n 1, 1) := by decide +kernel
theorem dX10_works_10 : decode cX10_works 10 = .ok (.iaload, 1) := by decide +kernel
theorem dX10_works_11 : decode cX10_works 11 = .ok (.if_icmp .ge 144, 3) := by decide +kernel
theorem dX10_works_14 : decode cX10_works 14 = .ok (.aload_n 0, 1) := by decide +kernel
theorem dX10_works_15 : decode cX10_works 15 = .ok (.getfield 9, 3) := by decide +kernel
theorem dX10_works_18 : decode cX10_works 18 = .ok (.iload_n 1, 1) := by decide +kernel
theorem dX10_works_19 : decode cX10_works 19 = .ok (.iconst 1, 1) := by decide +kernel
theorem dX10_works_20 : decode cX10_works 20 = .ok (.iadd, 1) := by decide +kernel
theorem dX10_works_21 : decode cX10_works 21 = .ok (.iload_n 3, 1) := by decide +kernel
theorem dX10_works_22 : decode cX10_works 22 = .ok (.iadd, 1) := by decide +kernel
theorem dX10_works_23 : decode cX10_works 23 = .ok (.iaload, 1) := by decide +kernel
theorem dX10_works_24 : decode cX10_works 24 = .ok (.istore 4, 2) := by decide +kernel
theorem dX10_works_26 : decode cX10_works 26 = .ok (.iload 4, 2) := by decide +kernel
theorem dX10_works_28 : decode cX10_works 28 = .ok (.iconst 1, 1) := by decide +kernel
theorem dX10_works_29 : decode cX10_works 29 = .ok (.if_icmp .eq 9, 3) := by decide +kernel
theorem dX10_works_32 : decode cX10_works 32 = .ok (.iload 4, 2) := by decide +kernel
theorem dX10_works_34 : decode cX10_works 34 = .ok (.iconst 2, 1) := by decide +kernel
theorem dX10_works_35 : decode cX10_works 35 = .ok (.if_icmp .ne 51, 3) := by decide +kernel
theorem dX10_works_38 : decode cX10_works 38 = .ok (.aload_n 0, 1) := by decide +kernel
theorem dX10_works_39 : decode cX10_works 39 = .ok (.getfield 40, 3) := by decide +kernel
theorem dX10_works_42 : decode cX10_works 42 = .ok (.iload_n 2, 1) := by decide +kernel
theorem dX10_works_43 : decode cX10_works 43 = .ok (.iload 4, 2) := by decide +kernel
theorem dX10_works_45 : decode cX10_works 45 = .ok (.iconst 1, 1) := by decide +kernel
theorem dX10_works_46 : decode cX10_works 46 = .ok (.if_icmp .ne 17, 3) := by decide +kernel
theorem dX10_works_49 : decode cX10_works 49 = .ok (.aload_n 0, 1) := by decide +kernel
theorem dX10_works_50 : decode cX10_works 50 = .ok (.getfield 9, 3) := by decide +kernel
theorem dX10_works_53 : decode cX10_works 53 = .ok (.iload_n 1, 1) := by decide +kernel
theorem dX10_works_54 : decode cX10_works 54 = .ok (.bipush 61, 2) := by decide +kernel
theorem dX10_works_56 : decode cX10_works 56 = .ok (.iadd, 1) := by decide +kernel
theorem dX10_works_57 : decode cX10_works 57 = .ok (.iload_n 3, 1) := by decide +kernel
theorem dX10_works_58 : decode cX10_works 58 = .ok (.iadd, 1) := by decide +kernel
theorem dX10_works_59 : decode cX10_works 59 = .ok (.iaload, 1) := by decide +kernel
theorem dX10_works_60 : decode cX10_works 60 = .ok (.goto 19, 3) := by decide +kernel
theorem dX10_works_63 : decode cX10_works 63 = .ok (.aload_n 0, 1) := by decide +kernel
theorem dX10_works_64 : decode cX10_works 64 = .ok (.getfield 37, 3) := by decide +kernel
theorem dX10_works_67 : decode cX10_works 67 = .ok (.aload_n 0, 1) := by decide +kernel
theorem dX10_works_68 : decode cX10_works 68 = .ok (.getfield 9, 3) := by decide +kernel
theorem dX10_works_71 : decode cX10_works 71 = .ok (.iload_n 1, 1) := by decide +kernel
theorem dX10_works_72 : decode cX10_works 72 = .ok (.bipush 61, 2) := by decide +kernel
theorem dX10_works_74 : decode cX10_works 74 = .ok (.iadd, 1) := by decide +kernel
theorem dX10_works_75 : decode cX10_works 75 = .ok (.iload_n 3, 1) := by decide +kernel
theorem dX10_works_76 : decode cX10_works 76 = .ok (.iadd, 1) := by decide +kernel
theorem dX10_works_77 : decode cX10_works 77 = .ok (.iaload, 1) := by decide +kernel
theorem dX10_works_78 : decode cX10_works 78 = .ok (.iaload, 1) := by decide +kernel
theorem dX10_works_79 : decode cX10_works 79 = .ok (.iastore, 1) := by decide +kernel
theorem dX10_works_80 : decode cX10_works 80 = .ok (.iinc 2 1, 3) := by decide +kernel
theorem dX10_works_83 : decode cX10_works 83 = .ok (.goto 66, 3) := by decide +kernel
theorem dX10_works_86 : decode cX10_works 86 = .ok (.iload 4, 2) := by decide +kernel
theorem dX10_works_88 : decode cX10_works 88 = .ok (.iconst 3, 1) := by decide +kernel
theorem dX10_works_89 : decode cX10_works 89 = .ok (.if_icmp .ne 30, 3) := by decide +kernel
theorem dX10_works_92 : decode cX10_works 92 = .ok (.aload_n 0, 1) := by decide +kernel
theorem dX10_works_93 : decode cX10_works 93 = .ok (.getfield 40, 3) := by decide +kernel
theorem dX10_works_96 : decode cX10_works 96 = .ok (.iload_n 2, 1) := by decide +kernel
theorem dX10_works_97 : decode cX10_works 97 = .ok (.iconst 1, 1) := by decide +kernel
theorem dX10_works_98 : decode cX10_works 98 = .ok (.isub, 1) := by decide +kernel
theorem dX10_works_99 : decode cX10_works 99 = .ok (.aload_n 0, 1) := by decide +kernel
theorem dX10_works_100 : decode cX10_works 100 = .ok (.getfield 40, 3) := by decide +kernel
theorem dX10_works_103 : decode cX10_works 103 = .ok (.iload_n 2, 1) := by decide +kernel
theorem dX10_works_104 : decode cX10_works 104 = .ok (.iconst 1, 1) := by decide +kernel
theorem dX10_works_105 : decode cX10_works 105 = .ok (.isub, 1) := by decide +kernel
theorem dX10_works_106 : decode cX10_works 106 = .ok (.iaload, 1) := by decide +kernel
theorem dX10_works_107 : decode cX10_works 107 = .ok (.ifCond .ne 7, 3) := by decide +kernel
theorem dX10_works_110 : decode cX10_works 110 = .ok (.iconst 1, 1) := by decide +kernel
theorem dX10_works_111 : decode cX10_works 111 = .ok (.goto 4, 3) := by decide +kernel
theorem dX10_works_114 : decode cX10_works 114 = .ok (.iconst 0, 1) := by decide +kernel
theorem dX10_works_115 : decode cX10_works 115 = .ok (.iastore, 1) := by decide +kernel
theorem dX10_works_116 : decode cX10_works 116 = .ok (.goto 33, 3) := by decide +kernel
theorem dX10_works_119 : decode cX10_works 119 = .ok (.iinc 2 (-1), 3) := by decide +kernel
theorem dX10_works_122 : decode cX10_works 122 = .ok (.aload_n 0, 1) := by decide +kernel
theorem dX10_works_123 : decode cX10_works 123 = .ok (.getfield 40, 3) := by decide +kernel
theorem dX10_works_126 : decode cX10_works 126 = .ok (.iload_n 2, 1) := by decide +kernel
theorem dX10_works_127 : decode cX10_works 127 = .ok (.iconst 1, 1) := by decide +kernel
theorem dX10_works_128 : decode cX10_works 128 = .ok (.isub, 1) := by decide +kernel
theorem dX10_works_129 : decode cX10_works 129 = .ok (.iload 4, 2) := by decide +kernel
