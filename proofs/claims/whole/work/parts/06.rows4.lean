theorem dX10_works_131 : decode cX10_works 131 = .ok (.aload_n 0, 1) := by decide +kernel
theorem dX10_works_132 : decode cX10_works 132 = .ok (.getfield 40, 3) := by decide +kernel
theorem dX10_works_135 : decode cX10_works 135 = .ok (.iload_n 2, 1) := by decide +kernel
theorem dX10_works_136 : decode cX10_works 136 = .ok (.iconst 1, 1) := by decide +kernel
theorem dX10_works_137 : decode cX10_works 137 = .ok (.isub, 1) := by decide +kernel
theorem dX10_works_138 : decode cX10_works 138 = .ok (.iaload, 1) := by decide +kernel
theorem dX10_works_139 : decode cX10_works 139 = .ok (.aload_n 0, 1) := by decide +kernel
theorem dX10_works_140 : decode cX10_works 140 = .ok (.getfield 40, 3) := by decide +kernel
theorem dX10_works_143 : decode cX10_works 143 = .ok (.iload_n 2, 1) := by decide +kernel
theorem dX10_works_144 : decode cX10_works 144 = .ok (.iaload, 1) := by decide +kernel
theorem dX10_works_145 : decode cX10_works 145 = .ok (.invokestatic 169, 3) := by decide +kernel
theorem dX10_works_148 : decode cX10_works 148 = .ok (.iastore, 1) := by decide +kernel
theorem dX10_works_149 : decode cX10_works 149 = .ok (.iinc 3 1, 3) := by decide +kernel
theorem dX10_works_152 : decode cX10_works 152 = .ok (.goto (-148), 3) := by decide +kernel
theorem dX10_works_155 : decode cX10_works 155 = .ok (.aload_n 0, 1) := by decide +kernel
theorem dX10_works_156 : decode cX10_works 156 = .ok (.getfield 40, 3) := by decide +kernel
theorem dX10_works_159 : decode cX10_works 159 = .ok (.iconst 0, 1) := by decide +kernel
theorem dX10_works_160 : decode cX10_works 160 = .ok (.iaload, 1) := by decide +kernel
theorem dX10_works_161 : decode cX10_works 161 = .ok (.ireturn, 1) := by decide +kernel
set_option maxRecDepth 20000 in
theorem ggX10_gives_X10_works : GoodIn wsX10_gives wsX10_works := goodIn_r _ [7, 2, 8, 1, 9, 10, 6, 11, 15, 16, 17, 18, 19, 20, 21, 22, 23, 24, 25, 26, 27, 28, 29, 30, 31, 32, 33, 34, 35] (by decide +kernel) (by decide +kernel)
set_option maxRecDepth 20000 in
theorem gX10_gives_X10_works : GoodIn wsX10_gives (wsV RX10 172 RX10 yX10_works wsX10_works) := goodIn_app (goodIn_of _ (by decide +kernel)) ggX10_gives_X10_works
set_option maxRecDepth 20000 in
theorem ggX10_gives_X10_held : GoodIn wsX10_gives wsX10_held := goodIn_r _ [14] (by decide +kernel) (by decide +kernel)
set_option maxRecDepth 20000 in
theorem gX10_gives_X10_held : GoodIn wsX10_gives (va_wsS RX10 62 yX10_held wsX10_held) := goodIn_app (goodIn_of _ (by decide +kernel)) ggX10_gives_X10_held
theorem dX10_gives_0 : decode cX10_gives 0 = .ok (.sipush 166, 3) := by decide +kernel
theorem dX10_gives_3 : decode cX10_gives 3 = .ok (.bipush 121, 2) := by decide +kernel
theorem dX10_gives_5 : decode cX10_gives 5 = .ok (.iload_n 1, 1) := by decide +kernel
theorem dX10_gives_6 : decode cX10_gives 6 = .ok (.imul, 1) := by decide +kernel
theorem dX10_gives_7 : decode cX10_gives 7 = .ok (.iadd, 1) := by decide +kernel
theorem dX10_gives_8 : decode cX10_gives 8 = .ok (.istore 5, 2) := by decide +kernel
theorem dX10_gives_10 : decode cX10_gives 10 = .ok (.aload_n 0, 1) := by decide +kernel
theorem dX10_gives_11 : decode cX10_gives 11 = .ok (.getfield 37, 3) := by decide +kernel
theorem dX10_gives_14 : decode cX10_gives 14 = .ok (.iconst 0, 1) := by decide +kernel
theorem dX10_gives_15 : decode cX10_gives 15 = .ok (.iload_n 2, 1) := by decide +kernel
theorem dX10_gives_16 : decode cX10_gives 16 = .ok (.iastore, 1) := by decide +kernel
theorem dX10_gives_17 : decode cX10_gives 17 = .ok (.aload_n 0, 1) := by decide +kernel
theorem dX10_gives_18 : decode cX10_gives 18 = .ok (.getfield 37, 3) := by decide +kernel
theorem dX10_gives_21 : decode cX10_gives 21 = .ok (.iconst 1, 1) := by decide +kernel
theorem dX10_gives_22 : decode cX10_gives 22 = .ok (.iload_n 3, 1) := by decide +kernel
theorem dX10_gives_23 : decode cX10_gives 23 = .ok (.iastore, 1) := by decide +kernel
theorem dX10_gives_24 : decode cX10_gives 24 = .ok (.aload_n 0, 1) := by decide +kernel
theorem dX10_gives_25 : decode cX10_gives 25 = .ok (.getfield 37, 3) := by decide +kernel
theorem dX10_gives_28 : decode cX10_gives 28 = .ok (.iconst 2, 1) := by decide +kernel
theorem dX10_gives_29 : decode cX10_gives 29 = .ok (.iload 4, 2) := by decide +kernel
theorem dX10_gives_31 : decode cX10_gives 31 = .ok (.iastore, 1) := by decide +kernel
theorem dX10_gives_32 : decode cX10_gives 32 = .ok (.iload_n 1, 1) := by decide +kernel
theorem dX10_gives_33 : decode cX10_gives 33 = .ok (.iconst 1, 1) := by decide +kernel
theorem dX10_gives_34 : decode cX10_gives 34 = .ok (.if_icmp .ne 10, 3) := by decide +kernel
theorem dX10_gives_37 : decode cX10_gives 37 = .ok (.bipush 10, 2) := by decide +kernel
theorem dX10_gives_39 : decode cX10_gives 39 = .ok (.iload_n 2, 1) := by decide +kernel
theorem dX10_gives_40 : decode cX10_gives 40 = .ok (.imul, 1) := by decide +kernel
theorem dX10_gives_41 : decode cX10_gives 41 = .ok (.goto 16, 3) := by decide +kernel
theorem dX10_gives_44 : decode cX10_gives 44 = .ok (.iload 4, 2) := by decide +kernel
theorem dX10_gives_46 : decode cX10_gives 46 = .ok (.iconst 1, 1) := by decide +kernel
theorem dX10_gives_47 : decode cX10_gives 47 = .ok (.if_icmp .ne 9, 3) := by decide +kernel
theorem dX10_gives_50 : decode cX10_gives 50 = .ok (.iload_n 2, 1) := by decide +kernel
theorem dX10_gives_51 : decode cX10_gives 51 = .ok (.iconst 2, 1) := by decide +kernel
theorem dX10_gives_52 : decode cX10_gives 52 = .ok (.idiv, 1) := by decide +kernel
theorem dX10_gives_53 : decode cX10_gives 53 = .ok (.goto 4, 3) := by decide +kernel
theorem dX10_gives_56 : decode cX10_gives 56 = .ok (.iload_n 2, 1) := by decide +kernel
theorem dX10_gives_57 : decode cX10_gives 57 = .ok (.istore 6, 2) := by decide +kernel
theorem dX10_gives_59 : decode cX10_gives 59 = .ok (.aload_n 0, 1) := by decide +kernel
theorem dX10_gives_60 : decode cX10_gives 60 = .ok (.getfield 9, 3) := by decide +kernel
theorem dX10_gives_63 : decode cX10_gives 63 = .ok (.iload 5, 2) := by decide +kernel
theorem dX10_gives_65 : decode cX10_gives 65 = .ok (.iaload, 1) := by decide +kernel
theorem dX10_gives_66 : decode cX10_gives 66 = .ok (.ifCond .le 12, 3) := by decide +kernel
theorem dX10_gives_69 : decode cX10_gives 69 = .ok (.aload_n 0, 1) := by decide +kernel
theorem dX10_gives_70 : decode cX10_gives 70 = .ok (.iload 5, 2) := by decide +kernel
theorem dX10_gives_72 : decode cX10_gives 72 = .ok (.invokevirtual 172, 3) := by decide +kernel
theorem dX10_gives_75 : decode cX10_gives 75 = .ok (.goto 5, 3) := by decide +kernel
theorem dX10_gives_78 : decode cX10_gives 78 = .ok (.iload 6, 2) := by decide +kernel
theorem dX10_gives_80 : decode cX10_gives 80 = .ok (.iconst 0, 1) := by decide +kernel
theorem dX10_gives_81 : decode cX10_gives 81 = .ok (.sipush 999, 3) := by decide +kernel
theorem dX10_gives_84 : decode cX10_gives 84 = .ok (.invokestatic 62, 3) := by decide +kernel
theorem dX10_gives_87 : decode cX10_gives 87 = .ok (.ireturn, 1) := by decide +kernel
set_option maxRecDepth 20000 in
theorem ggX10_law_X10_in : GoodIn wsX10_law wsX10_in := goodIn_r _ [5] (by decide +kernel) (by decide +kernel)
set_option maxRecDepth 20000 in
theorem gX10_law_X10_in : GoodIn wsX10_law (va_wsS RX10 54 yX10_in wsX10_in) := goodIn_app (goodIn_of _ (by decide +kernel)) ggX10_law_X10_in
set_option maxRecDepth 20000 in
theorem ggX10_law_X10_gives : GoodIn wsX10_law wsX10_gives := goodIn_r _ [9, 10, 11, 12, 13, 14, 4, 15, 16, 17, 18, 19, 20, 21, 22, 29, 30, 31, 32, 33, 34, 35, 36, 37, 38, 39, 40, 41, 42, 43, 44, 45, 46, 47, 48, 49] (by decide +kernel) (by decide +kernel)
set_option maxRecDepth 20000 in
theorem gX10_law_X10_gives : GoodIn wsX10_law (wsV RX10 70 RX10 yX10_gives wsX10_gives) := goodIn_app (goodIn_of _ (by decide +kernel)) ggX10_law_X10_gives
set_option maxRecDepth 20000 in
theorem ggX10_law_X10_error : GoodIn wsX10_law wsX10_error := goodIn_r _ [26, 27, 28, 29, 30, 31, 32, 33, 34, 35, 36, 37, 38, 39, 40, 41, 42, 43, 44, 45, 46, 47, 48, 49] (by decide +kernel) (by decide +kernel)
set_option maxRecDepth 20000 in
theorem gX10_law_X10_error : GoodIn wsX10_law (wsV RX10 87 RX10 yX10_error wsX10_error) := goodIn_app (goodIn_of _ (by decide +kernel)) ggX10_law_X10_error
theorem dX10_law_0 : decode cX10_law 0 = .ok (.iload_n 1, 1) := by decide +kernel
theorem dX10_law_1 : decode cX10_law 1 = .ok (.iconst 0, 1) := by decide +kernel
theorem dX10_law_2 : decode cX10_law 2 = .ok (.iconst 1, 1) := by decide +kernel
theorem dX10_law_3 : decode cX10_law 3 = .ok (.invokestatic 54, 3) := by decide +kernel
theorem dX10_law_6 : decode cX10_law 6 = .ok (.ifCond .eq 15, 3) := by decide +kernel
theorem dX10_law_9 : decode cX10_law 9 = .ok (.aload_n 0, 1) := by decide +kernel
theorem dX10_law_10 : decode cX10_law 10 = .ok (.iload_n 1, 1) := by decide +kernel
theorem dX10_law_11 : decode cX10_law 11 = .ok (.iload_n 2, 1) := by decide +kernel
theorem dX10_law_12 : decode cX10_law 12 = .ok (.iload_n 3, 1) := by decide +kernel
theorem dX10_law_13 : decode cX10_law 13 = .ok (.iload 4, 2) := by decide +kernel
theorem dX10_law_15 : decode cX10_law 15 = .ok (.invokevirtual 70, 3) := by decide +kernel
theorem dX10_law_18 : decode cX10_law 18 = .ok (.goto 9, 3) := by decide +kernel
theorem dX10_law_21 : decode cX10_law 21 = .ok (.aload_n 0, 1) := by decide +kernel
theorem dX10_law_22 : decode cX10_law 22 = .ok (.ldc 86, 2) := by decide +kernel
theorem dX10_law_24 : decode cX10_law 24 = .ok (.invokevirtual 87, 3) := by decide +kernel
theorem dX10_law_27 : decode cX10_law 27 = .ok (.ireturn, 1) := by decide +kernel
theorem dX10_goes_0 : decode cX10_goes 0 = .ok (.iconst 0, 1) := by decide +kernel
theorem dX10_goes_1 : decode cX10_goes 1 = .ok (.istore_n 1, 1) := by decide +kernel
theorem dX10_goes_2 : decode cX10_goes 2 = .ok (.iload_n 1, 1) := by decide +kernel
theorem dX10_goes_3 : decode cX10_goes 3 = .ok (.iconst 5, 1) := by decide +kernel
theorem dX10_goes_4 : decode cX10_goes 4 = .ok (.if_icmp .ge 61, 3) := by decide +kernel
theorem dX10_goes_7 : decode cX10_goes 7 = .ok (.aload_n 0, 1) := by decide +kernel
theorem dX10_goes_8 : decode cX10_goes 8 = .ok (.getfield 9, 3) := by decide +kernel
theorem dX10_goes_11 : decode cX10_goes 11 = .ok (.iconst 0, 1) := by decide +kernel
theorem dX10_goes_12 : decode cX10_goes 12 = .ok (.iaload, 1) := by decide +kernel
theorem dX10_goes_13 : decode cX10_goes 13 = .ok (.iload_n 1, 1) := by decide +kernel
theorem dX10_goes_14 : decode cX10_goes 14 = .ok (.iconst 2, 1) := by decide +kernel
theorem dX10_goes_15 : decode cX10_goes 15 = .ok (.iadd, 1) := by decide +kernel
theorem dX10_goes_16 : decode cX10_goes 16 = .ok (.irem, 1) := by decide +kernel
theorem dX10_goes_17 : decode cX10_goes 17 = .ok (.ifCond .ne 19, 3) := by decide +kernel
theorem dX10_goes_20 : decode cX10_goes 20 = .ok (.aload_n 0, 1) := by decide +kernel
theorem dX10_goes_21 : decode cX10_goes 21 = .ok (.getfield 9, 3) := by decide +kernel
theorem dX10_goes_24 : decode cX10_goes 24 = .ok (.bipush 7, 2) := by decide +kernel
theorem dX10_goes_26 : decode cX10_goes 26 = .ok (.iload_n 1, 1) := by decide +kernel
theorem dX10_goes_27 : decode cX10_goes 27 = .ok (.iadd, 1) := by decide +kernel
theorem dX10_goes_28 : decode cX10_goes 28 = .ok (.iaload, 1) := by decide +kernel
theorem dX10_goes_29 : decode cX10_goes 29 = .ok (.ifCond .le 7, 3) := by decide +kernel
theorem dX10_goes_32 : decode cX10_goes 32 = .ok (.iconst 1, 1) := by decide +kernel
theorem dX10_goes_33 : decode cX10_goes 33 = .ok (.goto 4, 3) := by decide +kernel
theorem dX10_goes_36 : decode cX10_goes 36 = .ok (.iconst 0, 1) := by decide +kernel
theorem dX10_goes_37 : decode cX10_goes 37 = .ok (.istore_n 2, 1) := by decide +kernel
theorem dX10_goes_38 : decode cX10_goes 38 = .ok (.aload_n 0, 1) := by decide +kernel
theorem dX10_goes_39 : decode cX10_goes 39 = .ok (.getfield 9, 3) := by decide +kernel
theorem dX10_goes_42 : decode cX10_goes 42 = .ok (.bipush 7, 2) := by decide +kernel
theorem dX10_goes_44 : decode cX10_goes 44 = .ok (.iload_n 1, 1) := by decide +kernel
theorem dX10_goes_45 : decode cX10_goes 45 = .ok (.iadd, 1) := by decide +kernel
theorem dX10_goes_46 : decode cX10_goes 46 = .ok (.dup2, 1) := by decide +kernel
theorem dX10_goes_47 : decode cX10_goes 47 = .ok (.iaload, 1) := by decide +kernel
theorem dX10_goes_48 : decode cX10_goes 48 = .ok (.iload_n 2, 1) := by decide +kernel
theorem dX10_goes_49 : decode cX10_goes 49 = .ok (.ifCond .eq 7, 3) := by decide +kernel
theorem dX10_goes_52 : decode cX10_goes 52 = .ok (.iconst 1, 1) := by decide +kernel
theorem dX10_goes_53 : decode cX10_goes 53 = .ok (.goto 4, 3) := by decide +kernel
theorem dX10_goes_56 : decode cX10_goes 56 = .ok (.iconst 0, 1) := by decide +kernel
theorem dX10_goes_57 : decode cX10_goes 57 = .ok (.isub, 1) := by decide +kernel
theorem dX10_goes_58 : decode cX10_goes 58 = .ok (.iastore, 1) := by decide +kernel
theorem dX10_goes_59 : decode cX10_goes 59 = .ok (.iinc 1 1, 3) := by decide +kernel
theorem dX10_goes_62 : decode cX10_goes 62 = .ok (.goto (-60), 3) := by decide +kernel
theorem dX10_goes_65 : decode cX10_goes 65 = .ok (.aload_n 0, 1) := by decide +kernel
theorem dX10_goes_66 : decode cX10_goes 66 = .ok (.getfield 9, 3) := by decide +kernel
theorem dX10_goes_69 : decode cX10_goes 69 = .ok (.iconst 0, 1) := by decide +kernel
theorem dX10_goes_70 : decode cX10_goes 70 = .ok (.dup2, 1) := by decide +kernel
theorem dX10_goes_71 : decode cX10_goes 71 = .ok (.iaload, 1) := by decide +kernel
theorem dX10_goes_72 : decode cX10_goes 72 = .ok (.iconst 1, 1) := by decide +kernel
theorem dX10_goes_73 : decode cX10_goes 73 = .ok (.iadd, 1) := by decide +kernel
theorem dX10_goes_74 : decode cX10_goes 74 = .ok (.iastore, 1) := by decide +kernel
theorem dX10_goes_75 : decode cX10_goes 75 = .ok (.return_, 1) := by decide +kernel
set_option maxRecDepth 20000 in
theorem ggX10_days_X10_in : GoodIn wsX10_days wsX10_in := goodIn_r _ [7] (by decide +kernel) (by decide +kernel)
set_option maxRecDepth 20000 in
theorem gX10_days_X10_in : GoodIn wsX10_days (va_wsS RX10 54 yX10_in wsX10_in) := goodIn_app (goodIn_of _ (by decide +kernel)) ggX10_days_X10_in
set_option maxRecDepth 20000 in
theorem ggX10_days_X10_error : GoodIn wsX10_days wsX10_error := goodIn_r _ [11, 12, 13, 18, 19, 20, 21, 22, 23, 24, 25, 26, 27, 28, 29, 30, 31, 32, 33, 34, 35, 36, 37, 38] (by decide +kernel) (by decide +kernel)
set_option maxRecDepth 20000 in
theorem gX10_days_X10_error : GoodIn wsX10_days (wsV RX10 87 RX10 yX10_error wsX10_error) := goodIn_app (goodIn_of _ (by decide +kernel)) ggX10_days_X10_error
set_option maxRecDepth 20000 in
theorem ggX10_days_X10_goes : GoodIn wsX10_days wsX10_goes := goodIn_r _ [17, 2, 18, 19, 20, 21, 22, 23, 24, 25, 26, 27, 28, 29, 30, 31, 32, 33, 34, 35, 36, 37, 38] (by decide +kernel) (by decide +kernel)
set_option maxRecDepth 20000 in
theorem gX10_days_X10_goes : GoodIn wsX10_days (wsV RX10 175 RX10 yX10_goes wsX10_goes) := goodIn_app (goodIn_of _ (by decide +kernel)) ggX10_days_X10_goes
theorem dX10_days_0 : decode cX10_days 0 = .ok (.iload_n 1, 1) := by decide +kernel
theorem dX10_days_1 : decode cX10_days 1 = .ok (.iconst 1, 1) := by decide +kernel
theorem dX10_days_2 : decode cX10_days 2 = .ok (.bipush 90, 2) := by decide +kernel
theorem dX10_days_4 : decode cX10_days 4 = .ok (.invokestatic 54, 3) := by decide +kernel
theorem dX10_days_7 : decode cX10_days 7 = .ok (.ifCond .ne 10, 3) := by decide +kernel
theorem dX10_days_10 : decode cX10_days 10 = .ok (.aload_n 0, 1) := by decide +kernel
theorem dX10_days_11 : decode cX10_days 11 = .ok (.ldc 86, 2) := by decide +kernel
theorem dX10_days_13 : decode cX10_days 13 = .ok (.invokevirtual 87, 3) := by decide +kernel
theorem dX10_days_16 : decode cX10_days 16 = .ok (.ireturn, 1) := by decide +kernel
theorem dX10_days_17 : decode cX10_days 17 = .ok (.aload_n 0, 1) := by decide +kernel
theorem dX10_days_18 : decode cX10_days 18 = .ok (.getfield 9, 3) := by decide +kernel
theorem dX10_days_21 : decode cX10_days 21 = .ok (.iconst 0, 1) := by decide +kernel
theorem dX10_days_22 : decode cX10_days 22 = .ok (.iaload, 1) := by decide +kernel
theorem dX10_days_23 : decode cX10_days 23 = .ok (.iload_n 1, 1) := by decide +kernel
theorem dX10_days_24 : decode cX10_days 24 = .ok (.iadd, 1) := by decide +kernel
theorem dX10_days_25 : decode cX10_days 25 = .ok (.sipush 9999, 3) := by decide +kernel
theorem dX10_days_28 : decode cX10_days 28 = .ok (.if_icmp .le 10, 3) := by decide +kernel
theorem dX10_days_31 : decode cX10_days 31 = .ok (.aload_n 0, 1) := by decide +kernel
theorem dX10_days_32 : decode cX10_days 32 = .ok (.ldc 97, 2) := by decide +kernel
theorem dX10_days_34 : decode cX10_days 34 = .ok (.invokevirtual 87, 3) := by decide +kernel
theorem dX10_days_37 : decode cX10_days 37 = .ok (.ireturn, 1) := by decide +kernel
theorem dX10_days_38 : decode cX10_days 38 = .ok (.iconst 0, 1) := by decide +kernel
theorem dX10_days_39 : decode cX10_days 39 = .ok (.istore_n 2, 1) := by decide +kernel
theorem dX10_days_40 : decode cX10_days 40 = .ok (.iload_n 2, 1) := by decide +kernel
theorem dX10_days_41 : decode cX10_days 41 = .ok (.iload_n 1, 1) := by decide +kernel
theorem dX10_days_42 : decode cX10_days 42 = .ok (.if_icmp .ge 13, 3) := by decide +kernel
theorem dX10_days_45 : decode cX10_days 45 = .ok (.aload_n 0, 1) := by decide +kernel
theorem dX10_days_46 : decode cX10_days 46 = .ok (.invokevirtual 175, 3) := by decide +kernel
theorem dX10_days_49 : decode cX10_days 49 = .ok (.iinc 2 1, 3) := by decide +kernel
theorem dX10_days_52 : decode cX10_days 52 = .ok (.goto (-12), 3) := by decide +kernel
theorem dX10_days_55 : decode cX10_days 55 = .ok (.aload_n 0, 1) := by decide +kernel
theorem dX10_days_56 : decode cX10_days 56 = .ok (.getfield 9, 3) := by decide +kernel
theorem dX10_days_59 : decode cX10_days 59 = .ok (.iconst 0, 1) := by decide +kernel
theorem dX10_days_60 : decode cX10_days 60 = .ok (.iaload, 1) := by decide +kernel
theorem dX10_days_61 : decode cX10_days 61 = .ok (.ireturn, 1) := by decide +kernel
theorem dX10_draw_0 : decode cX10_draw 0 = .ok (.aload_n 0, 1) := by decide +kernel
theorem dX10_draw_1 : decode cX10_draw 1 = .ok (.getfield 9, 3) := by decide +kernel
theorem dX10_draw_4 : decode cX10_draw 4 = .ok (.iconst 1, 1) := by decide +kernel
theorem dX10_draw_5 : decode cX10_draw 5 = .ok (.aload_n 0, 1) := by decide +kernel
theorem dX10_draw_6 : decode cX10_draw 6 = .ok (.getfield 9, 3) := by decide +kernel
theorem dX10_draw_9 : decode cX10_draw 9 = .ok (.iconst 1, 1) := by decide +kernel
theorem dX10_draw_10 : decode cX10_draw 10 = .ok (.iaload, 1) := by decide +kernel
theorem dX10_draw_11 : decode cX10_draw 11 = .ok (.ldc 178, 2) := by decide +kernel
theorem dX10_draw_13 : decode cX10_draw 13 = .ok (.imul, 1) := by decide +kernel
theorem dX10_draw_14 : decode cX10_draw 14 = .ok (.sipush 12345, 3) := by decide +kernel
theorem dX10_draw_17 : decode cX10_draw 17 = .ok (.iadd, 1) := by decide +kernel
theorem dX10_draw_18 : decode cX10_draw 18 = .ok (.iastore, 1) := by decide +kernel
theorem dX10_draw_19 : decode cX10_draw 19 = .ok (.aload_n 0, 1) := by decide +kernel
theorem dX10_draw_20 : decode cX10_draw 20 = .ok (.getfield 9, 3) := by decide +kernel
theorem dX10_draw_23 : decode cX10_draw 23 = .ok (.iconst 1, 1) := by decide +kernel
theorem dX10_draw_24 : decode cX10_draw 24 = .ok (.iaload, 1) := by decide +kernel
theorem dX10_draw_25 : decode cX10_draw 25 = .ok (.bipush 8, 2) := by decide +kernel
theorem dX10_draw_27 : decode cX10_draw 27 = .ok (.iushr, 1) := by decide +kernel
theorem dX10_draw_28 : decode cX10_draw 28 = .ok (.ireturn, 1) := by decide +kernel
set_option maxRecDepth 20000 in
theorem ggX10_drawn_X10_draw : GoodIn wsX10_drawn wsX10_draw := goodIn_r _ [6, 1, 7, 61, 62, 63, 64, 65, 66, 67, 68, 69, 70, 71, 72, 73, 74, 75, 76, 77, 78, 79, 80, 81] (by decide +kernel) (by decide +kernel)
set_option maxRecDepth 20000 in
theorem gX10_drawn_X10_draw : GoodIn wsX10_drawn (wsV RX10 179 RX10 yX10_draw wsX10_draw) := goodIn_app (goodIn_of _ (by decide +kernel)) ggX10_drawn_X10_draw
set_option maxRecDepth 20000 in
theorem ggX10_drawn_X10_mayGo : GoodIn wsX10_drawn wsX10_mayGo := goodIn_r _ [11, 1, 12, 13, 14, 5, 15, 61, 62, 63, 64, 65, 66, 67, 68, 69, 70, 71, 72, 73, 74, 75, 76, 77, 78, 79, 80, 81] (by decide +kernel) (by decide +kernel)
set_option maxRecDepth 20000 in
theorem gX10_drawn_X10_mayGo : GoodIn wsX10_drawn (wsV RX10 104 RX10 yX10_mayGo wsX10_mayGo) := goodIn_app (goodIn_of _ (by decide +kernel)) ggX10_drawn_X10_mayGo
set_option maxRecDepth 20000 in
theorem ggX10_drawn_X10_isWiped : GoodIn wsX10_drawn wsX10_isWiped := goodIn_r _ [19, 1, 20, 21, 22, 23, 5, 24, 25, 26, 27, 28, 12, 13, 14, 15, 29, 30, 31, 32, 33, 34, 35, 36, 37, 38, 39, 40, 41, 42, 43, 44, 45, 46, 47, 48, 61, 62, 63, 64, 65, 66, 67, 68, 69, 70, 71, 72, 73, 74, 75, 76, 77, 78, 79, 80, 81] (by decide +kernel) (by decide +kernel)
set_option maxRecDepth 20000 in
theorem gX10_drawn_X10_isWiped : GoodIn wsX10_drawn (wsV RX10 111 RX10 yX10_isWiped wsX10_isWiped) := goodIn_app (goodIn_of _ (by decide +kernel)) ggX10_drawn_X10_isWiped
set_option maxRecDepth 20000 in
theorem ggX10_drawn_X10_takenBy : GoodIn wsX10_drawn wsX10_takenBy := goodIn_r _ [52, 1, 12, 13, 14, 5, 15, 61, 62, 63, 64, 65, 66, 67, 68, 69, 70, 71, 72, 73, 74, 75, 76, 77, 78, 79, 80, 81] (by decide +kernel) (by decide +kernel)
set_option maxRecDepth 20000 in
theorem gX10_drawn_X10_takenBy : GoodIn wsX10_drawn (wsV RX10 94 RX10 yX10_takenBy wsX10_takenBy) := goodIn_app (goodIn_of _ (by decide +kernel)) ggX10_drawn_X10_takenBy
set_option maxRecDepth 20000 in
theorem ggX10_drawn_X10_comes : GoodIn wsX10_drawn wsX10_comes := goodIn_r _ [56, 1, 45, 46, 47, 5, 48, 61, 62, 63, 64, 65, 66, 67, 68, 69, 70, 71, 72, 73, 74, 75, 76, 77, 78, 79, 80, 81] (by decide +kernel) (by decide +kernel)
set_option maxRecDepth 20000 in
theorem gX10_drawn_X10_comes : GoodIn wsX10_drawn (wsV RX10 98 RX10 yX10_comes wsX10_comes) := goodIn_app (goodIn_of _ (by decide +kernel)) ggX10_drawn_X10_comes
set_option maxRecDepth 20000 in
theorem ggX10_drawn_X10_goes : GoodIn wsX10_drawn wsX10_goes := goodIn_r _ [60, 1, 61, 62, 63, 64, 65, 66, 67, 68, 69, 70, 71, 72, 73, 74, 75, 76, 77, 78, 79, 80, 81] (by decide +kernel) (by decide +kernel)
set_option maxRecDepth 20000 in
theorem gX10_drawn_X10_goes : GoodIn wsX10_drawn (wsV RX10 175 RX10 yX10_goes wsX10_goes) := goodIn_app (goodIn_of _ (by decide +kernel)) ggX10_drawn_X10_goes
theorem dX10_drawn_0 : decode cX10_drawn 0 = .ok (.iconst 0, 1) := by decide +kernel
theorem dX10_drawn_1 : decode cX10_drawn 1 = .ok (.istore_n 1, 1) := by decide +kernel
theorem dX10_drawn_2 : decode cX10_drawn 2 = .ok (.aload_n 0, 1) := by decide +kernel
theorem dX10_drawn_3 : decode cX10_drawn 3 = .ok (.getfield 9, 3) := by decide +kernel
theorem dX10_drawn_6 : decode cX10_drawn 6 = .ok (.iconst 2, 1) := by decide +kernel
theorem dX10_drawn_7 : decode cX10_drawn 7 = .ok (.iaload, 1) := by decide +kernel
theorem dX10_drawn_8 : decode cX10_drawn 8 = .ok (.ifCond .le 30, 3) := by decide +kernel
theorem dX10_drawn_11 : decode cX10_drawn 11 = .ok (.aload_n 0, 1) := by decide +kernel
theorem dX10_drawn_12 : decode cX10_drawn 12 = .ok (.invokevirtual 179, 3) := by decide +kernel
theorem dX10_drawn_15 : decode cX10_drawn 15 = .ok (.aload_n 0, 1) := by decide +kernel
theorem dX10_drawn_16 : decode cX10_drawn 16 = .ok (.getfield 9, 3) := by decide +kernel
theorem dX10_drawn_19 : decode cX10_drawn 19 = .ok (.iconst 2, 1) := by decide +kernel
theorem dX10_drawn_20 : decode cX10_drawn 20 = .ok (.iaload, 1) := by decide +kernel
theorem dX10_drawn_21 : decode cX10_drawn 21 = .ok (.irem, 1) := by decide +kernel
theorem dX10_drawn_22 : decode cX10_drawn 22 = .ok (.istore_n 2, 1) := by decide +kernel
theorem dX10_drawn_23 : decode cX10_drawn 23 = .ok (.aload_n 0, 1) := by decide +kernel
theorem dX10_drawn_24 : decode cX10_drawn 24 = .ok (.iload_n 2, 1) := by decide +kernel
theorem dX10_drawn_25 : decode cX10_drawn 25 = .ok (.invokevirtual 104, 3) := by decide +kernel
theorem dX10_drawn_28 : decode cX10_drawn 28 = .ok (.ifCond .eq 10, 3) := by decide +kernel
theorem dX10_drawn_31 : decode cX10_drawn 31 = .ok (.aload_n 0, 1) := by decide +kernel
theorem dX10_drawn_32 : decode cX10_drawn 32 = .ok (.iload_n 2, 1) := by decide +kernel
theorem dX10_drawn_33 : decode cX10_drawn 33 = .ok (.invokevirtual 111, 3) := by decide +kernel
theorem dX10_drawn_36 : decode cX10_drawn 36 = .ok (.iconst 1, 1) := by decide +kernel
theorem dX10_drawn_37 : decode cX10_drawn 37 = .ok (.istore_n 1, 1) := by decide +kernel
theorem dX10_drawn_38 : decode cX10_drawn 38 = .ok (.iconst 1, 1) := by decide +kernel
theorem dX10_drawn_39 : decode cX10_drawn 39 = .ok (.aload_n 0, 1) := by decide +kernel
theorem dX10_drawn_40 : decode cX10_drawn 40 = .ok (.invokevirtual 179, 3) := by decide +kernel
theorem dX10_drawn_43 : decode cX10_drawn 43 = .ok (.bipush 12, 2) := by decide +kernel
theorem dX10_drawn_45 : decode cX10_drawn 45 = .ok (.irem, 1) := by decide +kernel
theorem dX10_drawn_46 : decode cX10_drawn 46 = .ok (.ishl, 1) := by decide +kernel
theorem dX10_drawn_47 : decode cX10_drawn 47 = .ok (.istore_n 2, 1) := by decide +kernel
theorem dX10_drawn_48 : decode cX10_drawn 48 = .ok (.iload_n 2, 1) := by decide +kernel
theorem dX10_drawn_49 : decode cX10_drawn 49 = .ok (.aload_n 0, 1) := by decide +kernel
theorem dX10_drawn_50 : decode cX10_drawn 50 = .ok (.iconst (-1), 1) := by decide +kernel
theorem dX10_drawn_51 : decode cX10_drawn 51 = .ok (.invokevirtual 94, 3) := by decide +kernel
theorem dX10_drawn_54 : decode cX10_drawn 54 = .ok (.iand, 1) := by decide +kernel
theorem dX10_drawn_55 : decode cX10_drawn 55 = .ok (.ifCond .ne 40, 3) := by decide +kernel
theorem dX10_drawn_58 : decode cX10_drawn 58 = .ok (.aload_n 0, 1) := by decide +kernel
theorem dX10_drawn_59 : decode cX10_drawn 59 = .ok (.getfield 9, 3) := by decide +kernel
theorem dX10_drawn_62 : decode cX10_drawn 62 = .ok (.iconst 2, 1) := by decide +kernel
theorem dX10_drawn_63 : decode cX10_drawn 63 = .ok (.iaload, 1) := by decide +kernel
theorem dX10_drawn_64 : decode cX10_drawn 64 = .ok (.bipush 10, 2) := by decide +kernel
theorem dX10_drawn_66 : decode cX10_drawn 66 = .ok (.if_icmp .ge 29, 3) := by decide +kernel
theorem dX10_drawn_69 : decode cX10_drawn 69 = .ok (.aload_n 0, 1) := by decide +kernel
theorem dX10_drawn_70 : decode cX10_drawn 70 = .ok (.invokevirtual 179, 3) := by decide +kernel
theorem dX10_drawn_73 : decode cX10_drawn 73 = .ok (.bipush 7, 2) := by decide +kernel
theorem dX10_drawn_75 : decode cX10_drawn 75 = .ok (.irem, 1) := by decide +kernel
theorem dX10_drawn_76 : decode cX10_drawn 76 = .ok (.istore_n 3, 1) := by decide +kernel
theorem dX10_drawn_77 : decode cX10_drawn 77 = .ok (.aload_n 0, 1) := by decide +kernel
theorem dX10_drawn_78 : decode cX10_drawn 78 = .ok (.bipush 10, 2) := by decide +kernel
theorem dX10_drawn_80 : decode cX10_drawn 80 = .ok (.iload_n 3, 1) := by decide +kernel
theorem dX10_drawn_81 : decode cX10_drawn 81 = .ok (.imul, 1) := by decide +kernel
theorem dX10_drawn_82 : decode cX10_drawn 82 = .ok (.iload_n 2, 1) := by decide +kernel
theorem dX10_drawn_83 : decode cX10_drawn 83 = .ok (.aload_n 0, 1) := by decide +kernel
theorem dX10_drawn_84 : decode cX10_drawn 84 = .ok (.invokevirtual 179, 3) := by decide +kernel
theorem dX10_drawn_87 : decode cX10_drawn 87 = .ok (.bipush 6, 2) := by decide +kernel
theorem dX10_drawn_89 : decode cX10_drawn 89 = .ok (.irem, 1) := by decide +kernel
theorem dX10_drawn_90 : decode cX10_drawn 90 = .ok (.invokevirtual 98, 3) := by decide +kernel
theorem dX10_drawn_93 : decode cX10_drawn 93 = .ok (.istore 4, 2) := by decide +kernel
theorem dX10_drawn_95 : decode cX10_drawn 95 = .ok (.aload_n 0, 1) := by decide +kernel
theorem dX10_drawn_96 : decode cX10_drawn 96 = .ok (.invokevirtual 175, 3) := by decide +kernel
theorem dX10_drawn_99 : decode cX10_drawn 99 = .ok (.iload_n 1, 1) := by decide +kernel
theorem dX10_drawn_100 : decode cX10_drawn 100 = .ok (.ireturn, 1) := by decide +kernel
set_option maxRecDepth 20000 in
theorem ggX10_loose_X10_in : GoodIn wsX10_loose wsX10_in := goodIn_r _ [7] (by decide +kernel) (by decide +kernel)
set_option maxRecDepth 20000 in
theorem gX10_loose_X10_in : GoodIn wsX10_loose (va_wsS RX10 54 yX10_in wsX10_in) := goodIn_app (goodIn_of _ (by decide +kernel)) ggX10_loose_X10_in
set_option maxRecDepth 20000 in
theorem ggX10_loose_X10_error : GoodIn wsX10_loose wsX10_error := goodIn_r _ [11, 12, 13, 76, 77, 78, 79, 80, 81, 82, 83, 84, 85, 86, 87, 88, 89, 90, 91, 92, 93, 94, 95, 96] (by decide +kernel) (by decide +kernel)
set_option maxRecDepth 20000 in
theorem gX10_loose_X10_error : GoodIn wsX10_loose (wsV RX10 87 RX10 yX10_error wsX10_error) := goodIn_app (goodIn_of _ (by decide +kernel)) ggX10_loose_X10_error
set_option maxRecDepth 20000 in
theorem ggX10_loose_X10_drawn : GoodIn wsX10_loose wsX10_drawn := goodIn_r _ [17, 2, 18, 19, 20, 6, 21, 22, 23, 24, 25, 26, 27, 28, 29, 30, 31, 32, 33, 34, 35, 36, 37, 38, 39, 40, 41, 42, 43, 44, 45, 46, 47, 48, 49, 50, 51, 52, 53, 54, 55, 56, 57, 58, 59, 60, 61, 62, 63, 64, 65, 66, 67, 68, 69, 70, 71, 72, 73, 74, 75, 76, 77, 78, 79, 80, 81, 82, 83, 84, 85, 86, 87, 88, 89, 90, 91, 92, 93, 94, 95, 96] (by decide +kernel) (by decide +kernel)
set_option maxRecDepth 20000 in
theorem gX10_loose_X10_drawn : GoodIn wsX10_loose (wsV RX10 182 RX10 yX10_drawn wsX10_drawn) := goodIn_app (goodIn_of _ (by decide +kernel)) ggX10_loose_X10_drawn
theorem dX10_loose_0 : decode cX10_loose 0 = .ok (.iload_n 1, 1) := by decide +kernel
theorem dX10_loose_1 : decode cX10_loose 1 = .ok (.iconst 1, 1) := by decide +kernel
theorem dX10_loose_2 : decode cX10_loose 2 = .ok (.bipush 30, 2) := by decide +kernel
theorem dX10_loose_4 : decode cX10_loose 4 = .ok (.invokestatic 54, 3) := by decide +kernel
theorem dX10_loose_7 : decode cX10_loose 7 = .ok (.ifCond .ne 10, 3) := by decide +kernel
theorem dX10_loose_10 : decode cX10_loose 10 = .ok (.aload_n 0, 1) := by decide +kernel
theorem dX10_loose_11 : decode cX10_loose 11 = .ok (.ldc 86, 2) := by decide +kernel
theorem dX10_loose_13 : decode cX10_loose 13 = .ok (.invokevirtual 87, 3) := by decide +kernel
theorem dX10_loose_16 : decode cX10_loose 16 = .ok (.ireturn, 1) := by decide +kernel
theorem dX10_loose_17 : decode cX10_loose 17 = .ok (.aload_n 0, 1) := by decide +kernel
theorem dX10_loose_18 : decode cX10_loose 18 = .ok (.getfield 9, 3) := by decide +kernel
theorem dX10_loose_21 : decode cX10_loose 21 = .ok (.iconst 0, 1) := by decide +kernel
theorem dX10_loose_22 : decode cX10_loose 22 = .ok (.iaload, 1) := by decide +kernel
theorem dX10_loose_23 : decode cX10_loose 23 = .ok (.iload_n 1, 1) := by decide +kernel
theorem dX10_loose_24 : decode cX10_loose 24 = .ok (.iadd, 1) := by decide +kernel
theorem dX10_loose_25 : decode cX10_loose 25 = .ok (.sipush 9999, 3) := by decide +kernel
theorem dX10_loose_28 : decode cX10_loose 28 = .ok (.if_icmp .le 10, 3) := by decide +kernel
theorem dX10_loose_31 : decode cX10_loose 31 = .ok (.aload_n 0, 1) := by decide +kernel
theorem dX10_loose_32 : decode cX10_loose 32 = .ok (.ldc 97, 2) := by decide +kernel
theorem dX10_loose_34 : decode cX10_loose 34 = .ok (.invokevirtual 87, 3) := by decide +kernel
theorem dX10_loose_37 : decode cX10_loose 37 = .ok (.ireturn, 1) := by decide +kernel
theorem dX10_loose_38 : decode cX10_loose 38 = .ok (.iconst 0, 1) := by decide +kernel
theorem dX10_loose_39 : decode cX10_loose 39 = .ok (.istore_n 2, 1) := by decide +kernel
theorem dX10_loose_40 : decode cX10_loose 40 = .ok (.iconst 0, 1) := by decide +kernel
theorem dX10_loose_41 : decode cX10_loose 41 = .ok (.istore_n 3, 1) := by decide +kernel
theorem dX10_loose_42 : decode cX10_loose 42 = .ok (.iload_n 3, 1) := by decide +kernel
theorem dX10_loose_43 : decode cX10_loose 43 = .ok (.iload_n 1, 1) := by decide +kernel
theorem dX10_loose_44 : decode cX10_loose 44 = .ok (.if_icmp .ge 16, 3) := by decide +kernel
theorem dX10_loose_47 : decode cX10_loose 47 = .ok (.iload_n 2, 1) := by decide +kernel
theorem dX10_loose_48 : decode cX10_loose 48 = .ok (.aload_n 0, 1) := by decide +kernel
theorem dX10_loose_49 : decode cX10_loose 49 = .ok (.invokevirtual 182, 3) := by decide +kernel
theorem dX10_loose_52 : decode cX10_loose 52 = .ok (.iadd, 1) := by decide +kernel
theorem dX10_loose_53 : decode cX10_loose 53 = .ok (.istore_n 2, 1) := by decide +kernel
theorem dX10_loose_54 : decode cX10_loose 54 = .ok (.iinc 3 1, 3) := by decide +kernel
theorem dX10_loose_57 : decode cX10_loose 57 = .ok (.goto (-15), 3) := by decide +kernel
theorem dX10_loose_60 : decode cX10_loose 60 = .ok (.iload_n 2, 1) := by decide +kernel
theorem dX10_loose_61 : decode cX10_loose 61 = .ok (.ireturn, 1) := by decide +kernel
set_option maxRecDepth 20000 in
theorem ggX10_seed_X10_becomes : GoodIn wsX10_seed wsX10_becomes := goodIn_r _ [5, 6, 7, 8, 9, 10, 11, 12, 13, 14, 15, 16, 17, 18, 19, 20, 21, 22, 23, 24, 25, 26, 27] (by decide +kernel) (by decide +kernel)
set_option maxRecDepth 20000 in
theorem gX10_seed_X10_becomes : GoodIn wsX10_seed (wsV RX10 107 RX10 yX10_becomes wsX10_becomes) := goodIn_app (goodIn_of _ (by decide +kernel)) ggX10_seed_X10_becomes
theorem dX10_seed_0 : decode cX10_seed 0 = .ok (.aload_n 0, 1) := by decide +kernel
theorem dX10_seed_1 : decode cX10_seed 1 = .ok (.iconst 1, 1) := by decide +kernel
theorem dX10_seed_2 : decode cX10_seed 2 = .ok (.iload_n 1, 1) := by decide +kernel
theorem dX10_seed_3 : decode cX10_seed 3 = .ok (.invokevirtual 107, 3) := by decide +kernel
theorem dX10_seed_6 : decode cX10_seed 6 = .ok (.ireturn, 1) := by decide +kernel
theorem dX10_runOf_0 : decode cX10_runOf 0 = .ok (.iconst 0, 1) := by decide +kernel
theorem dX10_runOf_1 : decode cX10_runOf 1 = .ok (.istore_n 3, 1) := by decide +kernel
theorem dX10_runOf_2 : decode cX10_runOf 2 = .ok (.iconst (-1), 1) := by decide +kernel
theorem dX10_runOf_3 : decode cX10_runOf 3 = .ok (.istore 4, 2) := by decide +kernel
theorem dX10_runOf_5 : decode cX10_runOf 5 = .ok (.iconst 0, 1) := by decide +kernel
theorem dX10_runOf_6 : decode cX10_runOf 6 = .ok (.istore 5, 2) := by decide +kernel
theorem dX10_runOf_8 : decode cX10_runOf 8 = .ok (.iconst 0, 1) := by decide +kernel
theorem dX10_runOf_9 : decode cX10_runOf 9 = .ok (.istore 6, 2) := by decide +kernel
theorem dX10_runOf_11 : decode cX10_runOf 11 = .ok (.iload 6, 2) := by decide +kernel
theorem dX10_runOf_13 : decode cX10_runOf 13 = .ok (.bipush 12, 2) := by decide +kernel
theorem dX10_runOf_15 : decode cX10_runOf 15 = .ok (.if_icmp .ge 62, 3) := by decide +kernel
theorem dX10_runOf_18 : decode cX10_runOf 18 = .ok (.iload_n 1, 1) := by decide +kernel
theorem dX10_runOf_19 : decode cX10_runOf 19 = .ok (.iload 6, 2) := by decide +kernel
theorem dX10_runOf_21 : decode cX10_runOf 21 = .ok (.ishr, 1) := by decide +kernel
theorem dX10_runOf_22 : decode cX10_runOf 22 = .ok (.iconst 1, 1) := by decide +kernel
theorem dX10_runOf_23 : decode cX10_runOf 23 = .ok (.iand, 1) := by decide +kernel
theorem dX10_runOf_24 : decode cX10_runOf 24 = .ok (.iconst 1, 1) := by decide +kernel
theorem dX10_runOf_25 : decode cX10_runOf 25 = .ok (.if_icmp .ne 7, 3) := by decide +kernel
theorem dX10_runOf_28 : decode cX10_runOf 28 = .ok (.iconst 0, 1) := by decide +kernel
theorem dX10_runOf_29 : decode cX10_runOf 29 = .ok (.goto 7, 3) := by decide +kernel
theorem dX10_runOf_32 : decode cX10_runOf 32 = .ok (.iload 5, 2) := by decide +kernel
theorem dX10_runOf_34 : decode cX10_runOf 34 = .ok (.iconst 1, 1) := by decide +kernel
theorem dX10_runOf_35 : decode cX10_runOf 35 = .ok (.iadd, 1) := by decide +kernel
theorem dX10_runOf_36 : decode cX10_runOf 36 = .ok (.istore 5, 2) := by decide +kernel
theorem dX10_runOf_38 : decode cX10_runOf 38 = .ok (.iload 5, 2) := by decide +kernel
theorem dX10_runOf_40 : decode cX10_runOf 40 = .ok (.iload_n 3, 1) := by decide +kernel
theorem dX10_runOf_41 : decode cX10_runOf 41 = .ok (.if_icmp .le 13, 3) := by decide +kernel
theorem dX10_runOf_44 : decode cX10_runOf 44 = .ok (.iload 6, 2) := by decide +kernel
theorem dX10_runOf_46 : decode cX10_runOf 46 = .ok (.iconst 1, 1) := by decide +kernel
theorem dX10_runOf_47 : decode cX10_runOf 47 = .ok (.iadd, 1) := by decide +kernel
theorem dX10_runOf_48 : decode cX10_runOf 48 = .ok (.iload 5, 2) := by decide +kernel
theorem dX10_runOf_50 : decode cX10_runOf 50 = .ok (.isub, 1) := by decide +kernel
theorem dX10_runOf_51 : decode cX10_runOf 51 = .ok (.goto 5, 3) := by decide +kernel
theorem dX10_runOf_54 : decode cX10_runOf 54 = .ok (.iload 4, 2) := by decide +kernel
theorem dX10_runOf_56 : decode cX10_runOf 56 = .ok (.istore 4, 2) := by decide +kernel
theorem dX10_runOf_58 : decode cX10_runOf 58 = .ok (.iload 5, 2) := by decide +kernel
theorem dX10_runOf_60 : decode cX10_runOf 60 = .ok (.iload_n 3, 1) := by decide +kernel
theorem dX10_runOf_61 : decode cX10_runOf 61 = .ok (.if_icmp .le 8, 3) := by decide +kernel
theorem dX10_runOf_64 : decode cX10_runOf 64 = .ok (.iload 5, 2) := by decide +kernel
theorem dX10_runOf_66 : decode cX10_runOf 66 = .ok (.goto 4, 3) := by decide +kernel
theorem dX10_runOf_69 : decode cX10_runOf 69 = .ok (.iload_n 3, 1) := by decide +kernel
theorem dX10_runOf_70 : decode cX10_runOf 70 = .ok (.istore_n 3, 1) := by decide +kernel
theorem dX10_runOf_71 : decode cX10_runOf 71 = .ok (.iinc 6 1, 3) := by decide +kernel
theorem dX10_runOf_74 : decode cX10_runOf 74 = .ok (.goto (-63), 3) := by decide +kernel
theorem dX10_runOf_77 : decode cX10_runOf 77 = .ok (.iload_n 2, 1) := by decide +kernel
theorem dX10_runOf_78 : decode cX10_runOf 78 = .ok (.iconst 2, 1) := by decide +kernel
theorem dX10_runOf_79 : decode cX10_runOf 79 = .ok (.if_icmp .ne 7, 3) := by decide +kernel
theorem dX10_runOf_82 : decode cX10_runOf 82 = .ok (.iload_n 3, 1) := by decide +kernel
theorem dX10_runOf_83 : decode cX10_runOf 83 = .ok (.goto 5, 3) := by decide +kernel
theorem dX10_runOf_86 : decode cX10_runOf 86 = .ok (.iload 4, 2) := by decide +kernel
theorem dX10_runOf_88 : decode cX10_runOf 88 = .ok (.ireturn, 1) := by decide +kernel
set_option maxRecDepth 20000 in
theorem ggX10_free_X10_in : GoodIn wsX10_free wsX10_in := goodIn_r _ [6] (by decide +kernel) (by decide +kernel)
set_option maxRecDepth 20000 in
theorem gX10_free_X10_in : GoodIn wsX10_free (va_wsS RX10 54 yX10_in wsX10_in) := goodIn_app (goodIn_of _ (by decide +kernel)) ggX10_free_X10_in
set_option maxRecDepth 20000 in
theorem ggX10_free_X10_error : GoodIn wsX10_free wsX10_error := goodIn_r _ [10, 11, 12, 29, 30, 31, 32, 33, 34, 35, 36, 37, 38, 39, 40, 41, 42, 43, 44, 45, 46, 47, 48, 49] (by decide +kernel) (by decide +kernel)
set_option maxRecDepth 20000 in
theorem gX10_free_X10_error : GoodIn wsX10_free (wsV RX10 87 RX10 yX10_error wsX10_error) := goodIn_app (goodIn_of _ (by decide +kernel)) ggX10_free_X10_error
set_option maxRecDepth 20000 in
theorem ggX10_free_X10_takenBy : GoodIn wsX10_free wsX10_takenBy := goodIn_r _ [16, 17, 18, 19, 20, 5, 21, 29, 30, 31, 32, 33, 34, 35, 36, 37, 38, 39, 40, 41, 42, 43, 44, 45, 46, 47, 48, 49] (by decide +kernel) (by decide +kernel)
set_option maxRecDepth 20000 in
theorem gX10_free_X10_takenBy : GoodIn wsX10_free (wsV RX10 94 RX10 yX10_takenBy wsX10_takenBy) := goodIn_app (goodIn_of _ (by decide +kernel)) ggX10_free_X10_takenBy
set_option maxRecDepth 20000 in
theorem ggX10_free_X10_bits : GoodIn wsX10_free wsX10_bits := goodIn_r _ [24] (by decide +kernel) (by decide +kernel)
set_option maxRecDepth 20000 in
theorem gX10_free_X10_bits : GoodIn wsX10_free (va_wsS RX10 185 yX10_bits wsX10_bits) := goodIn_app (goodIn_of _ (by decide +kernel)) ggX10_free_X10_bits
set_option maxRecDepth 20000 in
theorem ggX10_free_X10_runOf : GoodIn wsX10_free wsX10_runOf := goodIn_r _ [28] (by decide +kernel) (by decide +kernel)
set_option maxRecDepth 20000 in
theorem gX10_free_X10_runOf : GoodIn wsX10_free (wsV RX10 188 RX10 yX10_runOf wsX10_runOf) := goodIn_app (goodIn_of _ (by decide +kernel)) ggX10_free_X10_runOf
theorem dX10_free_0 : decode cX10_free 0 = .ok (.iload_n 1, 1) := by decide +kernel
theorem dX10_free_1 : decode cX10_free 1 = .ok (.iconst 0, 1) := by decide +kernel
theorem dX10_free_2 : decode cX10_free 2 = .ok (.iconst 3, 1) := by decide +kernel
theorem dX10_free_3 : decode cX10_free 3 = .ok (.invokestatic 54, 3) := by decide +kernel
theorem dX10_free_6 : decode cX10_free 6 = .ok (.ifCond .ne 10, 3) := by decide +kernel
theorem dX10_free_9 : decode cX10_free 9 = .ok (.aload_n 0, 1) := by decide +kernel
theorem dX10_free_10 : decode cX10_free 10 = .ok (.ldc 86, 2) := by decide +kernel
theorem dX10_free_12 : decode cX10_free 12 = .ok (.invokevirtual 87, 3) := by decide +kernel
theorem dX10_free_15 : decode cX10_free 15 = .ok (.ireturn, 1) := by decide +kernel
theorem dX10_free_16 : decode cX10_free 16 = .ok (.aload_n 0, 1) := by decide +kernel
theorem dX10_free_17 : decode cX10_free 17 = .ok (.iconst (-1), 1) := by decide +kernel
theorem dX10_free_18 : decode cX10_free 18 = .ok (.invokevirtual 94, 3) := by decide +kernel
theorem dX10_free_21 : decode cX10_free 21 = .ok (.istore_n 2, 1) := by decide +kernel
theorem dX10_free_22 : decode cX10_free 22 = .ok (.iload_n 1, 1) := by decide +kernel
theorem dX10_free_23 : decode cX10_free 23 = .ok (.iconst 2, 1) := by decide +kernel
theorem dX10_free_24 : decode cX10_free 24 = .ok (.if_icmp .ge 19, 3) := by decide +kernel
theorem dX10_free_27 : decode cX10_free 27 = .ok (.iload_n 1, 1) := by decide +kernel
theorem dX10_free_28 : decode cX10_free 28 = .ok (.ifCond .ne 7, 3) := by decide +kernel
theorem dX10_free_31 : decode cX10_free 31 = .ok (.iload_n 2, 1) := by decide +kernel
theorem dX10_free_32 : decode cX10_free 32 = .ok (.goto 10, 3) := by decide +kernel
theorem dX10_free_35 : decode cX10_free 35 = .ok (.bipush 12, 2) := by decide +kernel
theorem dX10_free_37 : decode cX10_free 37 = .ok (.iload_n 2, 1) := by decide +kernel
theorem dX10_free_38 : decode cX10_free 38 = .ok (.invokestatic 185, 3) := by decide +kernel
theorem dX10_free_41 : decode cX10_free 41 = .ok (.isub, 1) := by decide +kernel
theorem dX10_free_42 : decode cX10_free 42 = .ok (.ireturn, 1) := by decide +kernel
theorem dX10_free_43 : decode cX10_free 43 = .ok (.aload_n 0, 1) := by decide +kernel
theorem dX10_free_44 : decode cX10_free 44 = .ok (.iload_n 2, 1) := by decide +kernel
theorem dX10_free_45 : decode cX10_free 45 = .ok (.iload_n 1, 1) := by decide +kernel
theorem dX10_free_46 : decode cX10_free 46 = .ok (.invokevirtual 188, 3) := by decide +kernel
theorem dX10_free_49 : decode cX10_free 49 = .ok (.istore_n 3, 1) := by decide +kernel
theorem dX10_free_50 : decode cX10_free 50 = .ok (.iload_n 3, 1) := by decide +kernel
theorem dX10_free_51 : decode cX10_free 51 = .ok (.ifCond .ge 12, 3) := by decide +kernel
theorem dX10_free_54 : decode cX10_free 54 = .ok (.aload_n 0, 1) := by decide +kernel
theorem dX10_free_55 : decode cX10_free 55 = .ok (.ldc 191, 2) := by decide +kernel
theorem dX10_free_57 : decode cX10_free 57 = .ok (.invokevirtual 87, 3) := by decide +kernel
theorem dX10_free_60 : decode cX10_free 60 = .ok (.goto 4, 3) := by decide +kernel
theorem dX10_free_63 : decode cX10_free 63 = .ok (.iload_n 3, 1) := by decide +kernel
theorem dX10_free_64 : decode cX10_free 64 = .ok (.ireturn, 1) := by decide +kernel
set_option maxRecDepth 20000 in
theorem ggX10_of_X10_in : GoodIn wsX10_of wsX10_in := goodIn_r _ [5] (by decide +kernel) (by decide +kernel)
set_option maxRecDepth 20000 in
theorem gX10_of_X10_in : GoodIn wsX10_of (va_wsS RX10 54 yX10_in wsX10_in) := goodIn_app (goodIn_of _ (by decide +kernel)) ggX10_of_X10_in
set_option maxRecDepth 20000 in
theorem ggX10_of_X10_takenBy : GoodIn wsX10_of wsX10_takenBy := goodIn_r _ [9, 10, 11, 12, 13, 4, 14, 24, 25, 26, 27, 28, 29, 30, 31, 32, 33, 34, 35, 36, 37, 38, 39, 40, 41, 42, 43, 44] (by decide +kernel) (by decide +kernel)
set_option maxRecDepth 20000 in
theorem gX10_of_X10_takenBy : GoodIn wsX10_of (wsV RX10 94 RX10 yX10_takenBy wsX10_takenBy) := goodIn_app (goodIn_of _ (by decide +kernel)) ggX10_of_X10_takenBy
set_option maxRecDepth 20000 in
theorem ggX10_of_X10_bits : GoodIn wsX10_of wsX10_bits := goodIn_r _ [17] (by decide +kernel) (by decide +kernel)
set_option maxRecDepth 20000 in
theorem gX10_of_X10_bits : GoodIn wsX10_of (va_wsS RX10 185 yX10_bits wsX10_bits) := goodIn_app (goodIn_of _ (by decide +kernel)) ggX10_of_X10_bits
set_option maxRecDepth 20000 in
theorem ggX10_of_X10_error : GoodIn wsX10_of wsX10_error := goodIn_r _ [21, 22, 23, 24, 25, 26, 27, 28, 29, 30, 31, 32, 33, 34, 35, 36, 37, 38, 39, 40, 41, 42, 43, 44] (by decide +kernel) (by decide +kernel)
set_option maxRecDepth 20000 in
theorem gX10_of_X10_error : GoodIn wsX10_of (wsV RX10 87 RX10 yX10_error wsX10_error) := goodIn_app (goodIn_of _ (by decide +kernel)) ggX10_of_X10_error
theorem dX10_of_0 : decode cX10_of 0 = .ok (.iload_n 1, 1) := by decide +kernel
theorem dX10_of_1 : decode cX10_of 1 = .ok (.iconst 0, 1) := by decide +kernel
theorem dX10_of_2 : decode cX10_of 2 = .ok (.iconst 5, 1) := by decide +kernel
theorem dX10_of_3 : decode cX10_of 3 = .ok (.invokestatic 54, 3) := by decide +kernel
theorem dX10_of_6 : decode cX10_of 6 = .ok (.ifCond .eq 14, 3) := by decide +kernel
theorem dX10_of_9 : decode cX10_of 9 = .ok (.aload_n 0, 1) := by decide +kernel
theorem dX10_of_10 : decode cX10_of 10 = .ok (.iload_n 1, 1) := by decide +kernel
theorem dX10_of_11 : decode cX10_of 11 = .ok (.invokevirtual 94, 3) := by decide +kernel
theorem dX10_of_14 : decode cX10_of 14 = .ok (.invokestatic 185, 3) := by decide +kernel
theorem dX10_of_17 : decode cX10_of 17 = .ok (.goto 9, 3) := by decide +kernel
theorem dX10_of_20 : decode cX10_of 20 = .ok (.aload_n 0, 1) := by decide +kernel
theorem dX10_of_21 : decode cX10_of 21 = .ok (.ldc 86, 2) := by decide +kernel
theorem dX10_of_23 : decode cX10_of 23 = .ok (.invokevirtual 87, 3) := by decide +kernel
theorem dX10_of_26 : decode cX10_of 26 = .ok (.ireturn, 1) := by decide +kernel
set_option maxRecDepth 20000 in
theorem ggX10_linesOn_X10_it : GoodIn wsX10_linesOn wsX10_it := goodIn_r _ [6, 1, 7, 8, 9, 10, 11, 12, 13, 14, 15, 16, 17, 18, 19, 20, 21, 22, 23, 24, 25, 26, 27] (by decide +kernel) (by decide +kernel)
set_option maxRecDepth 20000 in
theorem gX10_linesOn_X10_it : GoodIn wsX10_linesOn (wsV RX10 58 RX10 yX10_it wsX10_it) := goodIn_app (goodIn_of _ (by decide +kernel)) ggX10_linesOn_X10_it
theorem dX10_linesOn_0 : decode cX10_linesOn 0 = .ok (.iconst 0, 1) := by decide +kernel
theorem dX10_linesOn_1 : decode cX10_linesOn 1 = .ok (.istore_n 2, 1) := by decide +kernel
theorem dX10_linesOn_2 : decode cX10_linesOn 2 = .ok (.iconst 0, 1) := by decide +kernel
theorem dX10_linesOn_3 : decode cX10_linesOn 3 = .ok (.istore_n 3, 1) := by decide +kernel
theorem dX10_linesOn_4 : decode cX10_linesOn 4 = .ok (.iload_n 3, 1) := by decide +kernel
theorem dX10_linesOn_5 : decode cX10_linesOn 5 = .ok (.aload_n 0, 1) := by decide +kernel
theorem dX10_linesOn_6 : decode cX10_linesOn 6 = .ok (.getfield 9, 3) := by decide +kernel
theorem dX10_linesOn_9 : decode cX10_linesOn 9 = .ok (.iconst 2, 1) := by decide +kernel
theorem dX10_linesOn_10 : decode cX10_linesOn 10 = .ok (.iaload, 1) := by decide +kernel
theorem dX10_linesOn_11 : decode cX10_linesOn 11 = .ok (.if_icmp .ge 40, 3) := by decide +kernel
theorem dX10_linesOn_14 : decode cX10_linesOn 14 = .ok (.iload_n 2, 1) := by decide +kernel
theorem dX10_linesOn_15 : decode cX10_linesOn 15 = .ok (.aload_n 0, 1) := by decide +kernel
theorem dX10_linesOn_16 : decode cX10_linesOn 16 = .ok (.iload_n 3, 1) := by decide +kernel
theorem dX10_linesOn_17 : decode cX10_linesOn 17 = .ok (.bipush 6, 2) := by decide +kernel
theorem dX10_linesOn_19 : decode cX10_linesOn 19 = .ok (.invokevirtual 58, 3) := by decide +kernel
theorem dX10_linesOn_22 : decode cX10_linesOn 22 = .ok (.ifCond .ne 20, 3) := by decide +kernel
theorem dX10_linesOn_25 : decode cX10_linesOn 25 = .ok (.aload_n 0, 1) := by decide +kernel
theorem dX10_linesOn_26 : decode cX10_linesOn 26 = .ok (.iload_n 3, 1) := by decide +kernel
theorem dX10_linesOn_27 : decode cX10_linesOn 27 = .ok (.iconst 2, 1) := by decide +kernel
theorem dX10_linesOn_28 : decode cX10_linesOn 28 = .ok (.invokevirtual 58, 3) := by decide +kernel
theorem dX10_linesOn_31 : decode cX10_linesOn 31 = .ok (.iload_n 1, 1) := by decide +kernel
theorem dX10_linesOn_32 : decode cX10_linesOn 32 = .ok (.iand, 1) := by decide +kernel
theorem dX10_linesOn_33 : decode cX10_linesOn 33 = .ok (.ifCond .eq 9, 3) := by decide +kernel
theorem dX10_linesOn_36 : decode cX10_linesOn 36 = .ok (.iconst 1, 1) := by decide +kernel
theorem dX10_linesOn_37 : decode cX10_linesOn 37 = .ok (.iload_n 3, 1) := by decide +kernel
theorem dX10_linesOn_38 : decode cX10_linesOn 38 = .ok (.ishl, 1) := by decide +kernel
theorem dX10_linesOn_39 : decode cX10_linesOn 39 = .ok (.goto 4, 3) := by decide +kernel
theorem dX10_linesOn_42 : decode cX10_linesOn 42 = .ok (.iconst 0, 1) := by decide +kernel
theorem dX10_linesOn_43 : decode cX10_linesOn 43 = .ok (.ior, 1) := by decide +kernel
theorem dX10_linesOn_44 : decode cX10_linesOn 44 = .ok (.istore_n 2, 1) := by decide +kernel
theorem dX10_linesOn_45 : decode cX10_linesOn 45 = .ok (.iinc 3 1, 3) := by decide +kernel
theorem dX10_linesOn_48 : decode cX10_linesOn 48 = .ok (.goto (-44), 3) := by decide +kernel
theorem dX10_linesOn_51 : decode cX10_linesOn 51 = .ok (.iload_n 2, 1) := by decide +kernel
theorem dX10_linesOn_52 : decode cX10_linesOn 52 = .ok (.ireturn, 1) := by decide +kernel
set_option maxRecDepth 20000 in
theorem ggX10_lossOn_X10_linesOn : GoodIn wsX10_lossOn wsX10_linesOn := goodIn_r _ [6, 1, 7, 8, 9, 5, 10, 39, 40, 41, 42, 43, 44, 45, 46, 47, 48, 49, 50, 51, 52, 53, 54, 55, 56, 57, 58, 59] (by decide +kernel) (by decide +kernel)
set_option maxRecDepth 20000 in
theorem gX10_lossOn_X10_linesOn : GoodIn wsX10_lossOn (wsV RX10 192 RX10 yX10_linesOn wsX10_linesOn) := goodIn_app (goodIn_of _ (by decide +kernel)) ggX10_lossOn_X10_linesOn
set_option maxRecDepth 20000 in
theorem ggX10_lossOn_X10_mayGo : GoodIn wsX10_lossOn wsX10_mayGo := goodIn_r _ [14, 1, 7, 8, 9, 5, 10, 39, 40, 41, 42, 43, 44, 45, 46, 47, 48, 49, 50, 51, 52, 53, 54, 55, 56, 57, 58, 59] (by decide +kernel) (by decide +kernel)
set_option maxRecDepth 20000 in
theorem gX10_lossOn_X10_mayGo : GoodIn wsX10_lossOn (wsV RX10 104 RX10 yX10_mayGo wsX10_mayGo) := goodIn_app (goodIn_of _ (by decide +kernel)) ggX10_lossOn_X10_mayGo
set_option maxRecDepth 20000 in
theorem ggX10_lossOn_X10_lossOf : GoodIn wsX10_lossOn wsX10_lossOf := goodIn_r _ [18, 19, 20, 21, 5, 22, 1, 7, 8, 9, 10, 23, 24, 25, 26, 27, 28, 29, 30, 31, 32, 33, 34, 35, 36, 37, 38, 39, 40, 41, 42, 43, 44, 45, 46, 47, 48, 49, 50, 51, 52, 53, 54, 55, 56, 57, 58, 59] (by decide +kernel) (by decide +kernel)
set_option maxRecDepth 20000 in
theorem gX10_lossOn_X10_lossOf : GoodIn wsX10_lossOn (wsV RX10 74 RX10 yX10_lossOf wsX10_lossOf) := goodIn_app (goodIn_of _ (by decide +kernel)) ggX10_lossOn_X10_lossOf
theorem dX10_lossOn_0 : decode cX10_lossOn 0 = .ok (.aload_n 0, 1) := by decide +kernel
theorem dX10_lossOn_1 : decode cX10_lossOn 1 = .ok (.iload_n 1, 1) := by decide +kernel
theorem dX10_lossOn_2 : decode cX10_lossOn 2 = .ok (.invokevirtual 192, 3) := by decide +kernel
theorem dX10_lossOn_5 : decode cX10_lossOn 5 = .ok (.istore_n 2, 1) := by decide +kernel
theorem dX10_lossOn_6 : decode cX10_lossOn 6 = .ok (.iconst 0, 1) := by decide +kernel
theorem dX10_lossOn_7 : decode cX10_lossOn 7 = .ok (.istore_n 3, 1) := by decide +kernel
theorem dX10_lossOn_8 : decode cX10_lossOn 8 = .ok (.iconst 0, 1) := by decide +kernel
theorem dX10_lossOn_9 : decode cX10_lossOn 9 = .ok (.istore 4, 2) := by decide +kernel
theorem dX10_lossOn_11 : decode cX10_lossOn 11 = .ok (.iload 4, 2) := by decide +kernel
theorem dX10_lossOn_13 : decode cX10_lossOn 13 = .ok (.aload_n 0, 1) := by decide +kernel
theorem dX10_lossOn_14 : decode cX10_lossOn 14 = .ok (.getfield 9, 3) := by decide +kernel
theorem dX10_lossOn_17 : decode cX10_lossOn 17 = .ok (.iconst 2, 1) := by decide +kernel
theorem dX10_lossOn_18 : decode cX10_lossOn 18 = .ok (.iaload, 1) := by decide +kernel
theorem dX10_lossOn_19 : decode cX10_lossOn 19 = .ok (.if_icmp .ge 39, 3) := by decide +kernel
theorem dX10_lossOn_22 : decode cX10_lossOn 22 = .ok (.iload_n 2, 1) := by decide +kernel
theorem dX10_lossOn_23 : decode cX10_lossOn 23 = .ok (.iload 4, 2) := by decide +kernel
theorem dX10_lossOn_25 : decode cX10_lossOn 25 = .ok (.ishr, 1) := by decide +kernel
theorem dX10_lossOn_26 : decode cX10_lossOn 26 = .ok (.iconst 1, 1) := by decide +kernel
theorem dX10_lossOn_27 : decode cX10_lossOn 27 = .ok (.iand, 1) := by decide +kernel
theorem dX10_lossOn_28 : decode cX10_lossOn 28 = .ok (.iconst 1, 1) := by decide +kernel
theorem dX10_lossOn_29 : decode cX10_lossOn 29 = .ok (.if_icmp .ne 23, 3) := by decide +kernel
theorem dX10_lossOn_32 : decode cX10_lossOn 32 = .ok (.aload_n 0, 1) := by decide +kernel
theorem dX10_lossOn_33 : decode cX10_lossOn 33 = .ok (.iload 4, 2) := by decide +kernel
theorem dX10_lossOn_35 : decode cX10_lossOn 35 = .ok (.invokevirtual 104, 3) := by decide +kernel
theorem dX10_lossOn_38 : decode cX10_lossOn 38 = .ok (.ifCond .ne 5, 3) := by decide +kernel
theorem dX10_lossOn_41 : decode cX10_lossOn 41 = .ok (.iconst (-1), 1) := by decide +kernel
theorem dX10_lossOn_42 : decode cX10_lossOn 42 = .ok (.ireturn, 1) := by decide +kernel
theorem dX10_lossOn_43 : decode cX10_lossOn 43 = .ok (.iload_n 3, 1) := by decide +kernel
theorem dX10_lossOn_44 : decode cX10_lossOn 44 = .ok (.aload_n 0, 1) := by decide +kernel
theorem dX10_lossOn_45 : decode cX10_lossOn 45 = .ok (.iload 4, 2) := by decide +kernel
theorem dX10_lossOn_47 : decode cX10_lossOn 47 = .ok (.invokevirtual 74, 3) := by decide +kernel
theorem dX10_lossOn_50 : decode cX10_lossOn 50 = .ok (.iadd, 1) := by decide +kernel
theorem dX10_lossOn_51 : decode cX10_lossOn 51 = .ok (.istore_n 3, 1) := by decide +kernel
theorem dX10_lossOn_52 : decode cX10_lossOn 52 = .ok (.iinc 4 1, 3) := by decide +kernel
theorem dX10_lossOn_55 : decode cX10_lossOn 55 = .ok (.goto (-44), 3) := by decide +kernel
theorem dX10_lossOn_58 : decode cX10_lossOn 58 = .ok (.iload_n 3, 1) := by decide +kernel
theorem dX10_lossOn_59 : decode cX10_lossOn 59 = .ok (.ireturn, 1) := by decide +kernel
set_option maxRecDepth 20000 in
theorem ggX10_roomAt_X10_window : GoodIn wsX10_roomAt wsX10_window := goodIn_r _ [4] (by decide +kernel) (by decide +kernel)
set_option maxRecDepth 20000 in
theorem gX10_roomAt_X10_window : GoodIn wsX10_roomAt (va_wsS RX10 91 yX10_window wsX10_window) := goodIn_app (goodIn_of _ (by decide +kernel)) ggX10_roomAt_X10_window
set_option maxRecDepth 20000 in
theorem ggX10_roomAt_X10_lossOn : GoodIn wsX10_roomAt wsX10_lossOn := goodIn_r _ [8, 9, 10, 11, 12, 3, 13, 14, 15, 16, 17, 18, 19, 20, 21, 22, 23, 24, 25, 26, 27, 28, 29, 30, 31, 32, 33, 34, 35, 36, 37, 38, 39, 40, 41, 42, 43, 44, 45, 46, 47, 48, 49, 50, 51, 52, 53, 54, 55, 56, 57, 58, 59, 60, 61, 62, 63, 64, 65, 66] (by decide +kernel) (by decide +kernel)
set_option maxRecDepth 20000 in
theorem gX10_roomAt_X10_lossOn : GoodIn wsX10_roomAt (wsV RX10 195 RX10 yX10_lossOn wsX10_lossOn) := goodIn_app (goodIn_of _ (by decide +kernel)) ggX10_roomAt_X10_lossOn
theorem dX10_roomAt_0 : decode cX10_roomAt 0 = .ok (.iconst (-1), 1) := by decide +kernel
theorem dX10_roomAt_1 : decode cX10_roomAt 1 = .ok (.istore_n 2, 1) := by decide +kernel
theorem dX10_roomAt_2 : decode cX10_roomAt 2 = .ok (.iconst 0, 1) := by decide +kernel
theorem dX10_roomAt_3 : decode cX10_roomAt 3 = .ok (.istore_n 3, 1) := by decide +kernel
theorem dX10_roomAt_4 : decode cX10_roomAt 4 = .ok (.iconst 0, 1) := by decide +kernel
theorem dX10_roomAt_5 : decode cX10_roomAt 5 = .ok (.istore 4, 2) := by decide +kernel
theorem dX10_roomAt_7 : decode cX10_roomAt 7 = .ok (.iload 4, 2) := by decide +kernel
theorem dX10_roomAt_9 : decode cX10_roomAt 9 = .ok (.iload_n 1, 1) := by decide +kernel
theorem dX10_roomAt_10 : decode cX10_roomAt 10 = .ok (.iadd, 1) := by decide +kernel
theorem dX10_roomAt_11 : decode cX10_roomAt 11 = .ok (.bipush 12, 2) := by decide +kernel
theorem dX10_roomAt_13 : decode cX10_roomAt 13 = .ok (.if_icmp .gt 67, 3) := by decide +kernel
theorem dX10_roomAt_16 : decode cX10_roomAt 16 = .ok (.aload_n 0, 1) := by decide +kernel
theorem dX10_roomAt_17 : decode cX10_roomAt 17 = .ok (.iload 4, 2) := by decide +kernel
theorem dX10_roomAt_19 : decode cX10_roomAt 19 = .ok (.iload_n 1, 1) := by decide +kernel
theorem dX10_roomAt_20 : decode cX10_roomAt 20 = .ok (.invokestatic 91, 3) := by decide +kernel
theorem dX10_roomAt_23 : decode cX10_roomAt 23 = .ok (.invokevirtual 195, 3) := by decide +kernel
theorem dX10_roomAt_26 : decode cX10_roomAt 26 = .ok (.istore 5, 2) := by decide +kernel
theorem dX10_roomAt_28 : decode cX10_roomAt 28 = .ok (.iload 5, 2) := by decide +kernel
theorem dX10_roomAt_30 : decode cX10_roomAt 30 = .ok (.ifCond .lt 17, 3) := by decide +kernel
theorem dX10_roomAt_33 : decode cX10_roomAt 33 = .ok (.iload_n 2, 1) := by decide +kernel
theorem dX10_roomAt_34 : decode cX10_roomAt 34 = .ok (.ifCond .lt 9, 3) := by decide +kernel
theorem dX10_roomAt_37 : decode cX10_roomAt 37 = .ok (.iload 5, 2) := by decide +kernel
theorem dX10_roomAt_39 : decode cX10_roomAt 39 = .ok (.iload_n 3, 1) := by decide +kernel
theorem dX10_roomAt_40 : decode cX10_roomAt 40 = .ok (.if_icmp .ge 7, 3) := by decide +kernel
theorem dX10_roomAt_43 : decode cX10_roomAt 43 = .ok (.iconst 1, 1) := by decide +kernel
theorem dX10_roomAt_44 : decode cX10_roomAt 44 = .ok (.goto 4, 3) := by decide +kernel
theorem dX10_roomAt_47 : decode cX10_roomAt 47 = .ok (.iconst 0, 1) := by decide +kernel
theorem dX10_roomAt_48 : decode cX10_roomAt 48 = .ok (.istore 6, 2) := by decide +kernel
theorem dX10_roomAt_50 : decode cX10_roomAt 50 = .ok (.iload 6, 2) := by decide +kernel
theorem dX10_roomAt_52 : decode cX10_roomAt 52 = .ok (.ifCond .eq 8, 3) := by decide +kernel
theorem dX10_roomAt_55 : decode cX10_roomAt 55 = .ok (.iload 4, 2) := by decide +kernel
theorem dX10_roomAt_57 : decode cX10_roomAt 57 = .ok (.goto 4, 3) := by decide +kernel
theorem dX10_roomAt_60 : decode cX10_roomAt 60 = .ok (.iload_n 2, 1) := by decide +kernel
theorem dX10_roomAt_61 : decode cX10_roomAt 61 = .ok (.istore_n 2, 1) := by decide +kernel
theorem dX10_roomAt_62 : decode cX10_roomAt 62 = .ok (.iload 6, 2) := by decide +kernel
theorem dX10_roomAt_64 : decode cX10_roomAt 64 = .ok (.ifCond .eq 8, 3) := by decide +kernel
theorem dX10_roomAt_67 : decode cX10_roomAt 67 = .ok (.iload 5, 2) := by decide +kernel
theorem dX10_roomAt_69 : decode cX10_roomAt 69 = .ok (.goto 4, 3) := by decide +kernel
theorem dX10_roomAt_72 : decode cX10_roomAt 72 = .ok (.iload_n 3, 1) := by decide +kernel
theorem dX10_roomAt_73 : decode cX10_roomAt 73 = .ok (.istore_n 3, 1) := by decide +kernel
theorem dX10_roomAt_74 : decode cX10_roomAt 74 = .ok (.iinc 4 1, 3) := by decide +kernel
theorem dX10_roomAt_77 : decode cX10_roomAt 77 = .ok (.goto (-70), 3) := by decide +kernel
theorem dX10_roomAt_80 : decode cX10_roomAt 80 = .ok (.iload_n 2, 1) := by decide +kernel
theorem dX10_roomAt_81 : decode cX10_roomAt 81 = .ok (.ireturn, 1) := by decide +kernel
set_option maxRecDepth 20000 in
theorem ggX10_room_X10_in : GoodIn wsX10_room wsX10_in := goodIn_r _ [7] (by decide +kernel) (by decide +kernel)
set_option maxRecDepth 20000 in
theorem gX10_room_X10_in : GoodIn wsX10_room (va_wsS RX10 54 yX10_in wsX10_in) := goodIn_app (goodIn_of _ (by decide +kernel)) ggX10_room_X10_in
set_option maxRecDepth 20000 in
theorem ggX10_room_X10_error : GoodIn wsX10_room wsX10_error := goodIn_r _ [11, 12, 13, 64, 65, 66, 67, 68, 69, 70, 71, 72, 73, 74, 75, 76, 77, 78, 79, 80, 81, 82, 83, 84] (by decide +kernel) (by decide +kernel)
set_option maxRecDepth 20000 in
theorem gX10_room_X10_error : GoodIn wsX10_room (wsV RX10 87 RX10 yX10_error wsX10_error) := goodIn_app (goodIn_of _ (by decide +kernel)) ggX10_room_X10_error
set_option maxRecDepth 20000 in
theorem ggX10_room_X10_roomAt : GoodIn wsX10_room wsX10_roomAt := goodIn_r _ [17, 18, 19, 6, 20, 21, 22, 23, 24, 3, 25, 26, 27, 28, 29, 30, 31, 32, 33, 34, 35, 36, 37, 38, 39, 40, 41, 42, 43, 44, 45, 46, 47, 48, 49, 50, 51, 52, 53, 54, 55, 56, 57, 58, 59, 60, 64, 65, 66, 67, 68, 69, 70, 71, 72, 73, 74, 75, 76, 77, 78, 79, 80, 81, 82, 83, 84] (by decide +kernel) (by decide +kernel)
set_option maxRecDepth 20000 in
theorem gX10_room_X10_roomAt : GoodIn wsX10_room (wsV RX10 198 RX10 yX10_roomAt wsX10_roomAt) := goodIn_app (goodIn_of _ (by decide +kernel)) ggX10_room_X10_roomAt
set_option maxRecDepth 20000 in
theorem ggX10_room_X10_window : GoodIn wsX10_room wsX10_window := goodIn_r _ [20] (by decide +kernel) (by decide +kernel)
set_option maxRecDepth 20000 in
theorem gX10_room_X10_window : GoodIn wsX10_room (va_wsS RX10 91 yX10_window wsX10_window) := goodIn_app (goodIn_of _ (by decide +kernel)) ggX10_room_X10_window
set_option maxRecDepth 20000 in
theorem ggX10_room_X10_linesOn : GoodIn wsX10_room wsX10_linesOn := goodIn_r _ [28, 3, 29, 30, 31, 6, 32, 64, 65, 66, 67, 68, 69, 70, 71, 72, 73, 74, 75, 76, 77, 78, 79, 80, 81, 82, 83, 84] (by decide +kernel) (by decide +kernel)
set_option maxRecDepth 20000 in
theorem gX10_room_X10_linesOn : GoodIn wsX10_room (wsV RX10 192 RX10 yX10_linesOn wsX10_linesOn) := goodIn_app (goodIn_of _ (by decide +kernel)) ggX10_room_X10_linesOn
set_option maxRecDepth 20000 in
theorem ggX10_room_X10_lossOn : GoodIn wsX10_room wsX10_lossOn := goodIn_r _ [24, 3, 25, 26, 27, 6, 28, 29, 30, 31, 32, 33, 34, 35, 36, 37, 38, 39, 40, 41, 42, 43, 44, 45, 46, 47, 48, 49, 50, 51, 52, 53, 54, 55, 56, 57, 58, 59, 60, 64, 65, 66, 67, 68, 69, 70, 71, 72, 73, 74, 75, 76, 77, 78, 79, 80, 81, 82, 83, 84] (by decide +kernel) (by decide +kernel)
set_option maxRecDepth 20000 in
theorem gX10_room_X10_lossOn : GoodIn wsX10_room (wsV RX10 195 RX10 yX10_lossOn wsX10_lossOn) := goodIn_app (goodIn_of _ (by decide +kernel)) ggX10_room_X10_lossOn
set_option maxRecDepth 20000 in
theorem ggX10_room_X10_bits : GoodIn wsX10_room wsX10_bits := goodIn_r _ [63] (by decide +kernel) (by decide +kernel)
set_option maxRecDepth 20000 in
theorem gX10_room_X10_bits : GoodIn wsX10_room (va_wsS RX10 185 yX10_bits wsX10_bits) := goodIn_app (goodIn_of _ (by decide +kernel)) ggX10_room_X10_bits
set_option maxRecDepth 20000 in
theorem ggX10_room_X10_gives : GoodIn wsX10_room wsX10_gives := goodIn_r _ [51, 52, 3, 53, 54, 55, 6, 56, 57, 58, 59, 60, 45, 46, 47, 64, 65, 66, 67, 68, 69, 70, 71, 72, 73, 74, 75, 76, 77, 78, 79, 80, 81, 82, 83, 84] (by decide +kernel) (by decide +kernel)
set_option maxRecDepth 20000 in
theorem gX10_room_X10_gives : GoodIn wsX10_room (wsV RX10 70 RX10 yX10_gives wsX10_gives) := goodIn_app (goodIn_of _ (by decide +kernel)) ggX10_room_X10_gives
theorem dX10_room_0 : decode cX10_room 0 = .ok (.iload_n 1, 1) := by decide +kernel
theorem dX10_room_1 : decode cX10_room 1 = .ok (.iconst 1, 1) := by decide +kernel
theorem dX10_room_2 : decode cX10_room 2 = .ok (.bipush 12, 2) := by decide +kernel
theorem dX10_room_4 : decode cX10_room 4 = .ok (.invokestatic 54, 3) := by decide +kernel
theorem dX10_room_7 : decode cX10_room 7 = .ok (.ifCond .eq 12, 3) := by decide +kernel
theorem dX10_room_10 : decode cX10_room 10 = .ok (.iload_n 2, 1) := by decide +kernel
theorem dX10_room_11 : decode cX10_room 11 = .ok (.iconst 0, 1) := by decide +kernel
theorem dX10_room_12 : decode cX10_room 12 = .ok (.iconst 3, 1) := by decide +kernel
theorem dX10_room_13 : decode cX10_room 13 = .ok (.invokestatic 54, 3) := by decide +kernel
theorem dX10_room_16 : decode cX10_room 16 = .ok (.ifCond .ne 10, 3) := by decide +kernel
theorem dX10_room_19 : decode cX10_room 19 = .ok (.aload_n 0, 1) := by decide +kernel
theorem dX10_room_20 : decode cX10_room 20 = .ok (.ldc 86, 2) := by decide +kernel
theorem dX10_room_22 : decode cX10_room 22 = .ok (.invokevirtual 87, 3) := by decide +kernel
theorem dX10_room_25 : decode cX10_room 25 = .ok (.ireturn, 1) := by decide +kernel
theorem dX10_room_26 : decode cX10_room 26 = .ok (.aload_n 0, 1) := by decide +kernel
theorem dX10_room_27 : decode cX10_room 27 = .ok (.iload_n 1, 1) := by decide +kernel
theorem dX10_room_28 : decode cX10_room 28 = .ok (.invokevirtual 198, 3) := by decide +kernel
theorem dX10_room_31 : decode cX10_room 31 = .ok (.istore_n 3, 1) := by decide +kernel
theorem dX10_room_32 : decode cX10_room 32 = .ok (.iload_n 3, 1) := by decide +kernel
theorem dX10_room_33 : decode cX10_room 33 = .ok (.ifCond .ge 10, 3) := by decide +kernel
theorem dX10_room_36 : decode cX10_room 36 = .ok (.aload_n 0, 1) := by decide +kernel
theorem dX10_room_37 : decode cX10_room 37 = .ok (.ldc 191, 2) := by decide +kernel
theorem dX10_room_39 : decode cX10_room 39 = .ok (.invokevirtual 87, 3) := by decide +kernel
theorem dX10_room_42 : decode cX10_room 42 = .ok (.ireturn, 1) := by decide +kernel
theorem dX10_room_43 : decode cX10_room 43 = .ok (.iload_n 3, 1) := by decide +kernel
theorem dX10_room_44 : decode cX10_room 44 = .ok (.iload_n 1, 1) := by decide +kernel
theorem dX10_room_45 : decode cX10_room 45 = .ok (.invokestatic 91, 3) := by decide +kernel
theorem dX10_room_48 : decode cX10_room 48 = .ok (.istore 4, 2) := by decide +kernel
theorem dX10_room_50 : decode cX10_room 50 = .ok (.aload_n 0, 1) := by decide +kernel
theorem dX10_room_51 : decode cX10_room 51 = .ok (.iload 4, 2) := by decide +kernel
theorem dX10_room_53 : decode cX10_room 53 = .ok (.invokevirtual 192, 3) := by decide +kernel
theorem dX10_room_56 : decode cX10_room 56 = .ok (.istore 5, 2) := by decide +kernel
theorem dX10_room_58 : decode cX10_room 58 = .ok (.iload_n 2, 1) := by decide +kernel
theorem dX10_room_59 : decode cX10_room 59 = .ok (.ifCond .ne 12, 3) := by decide +kernel
theorem dX10_room_62 : decode cX10_room 62 = .ok (.aload_n 0, 1) := by decide +kernel
theorem dX10_room_63 : decode cX10_room 63 = .ok (.iload 4, 2) := by decide +kernel
theorem dX10_room_65 : decode cX10_room 65 = .ok (.invokevirtual 195, 3) := by decide +kernel
theorem dX10_room_68 : decode cX10_room 68 = .ok (.goto 42, 3) := by decide +kernel
theorem dX10_room_71 : decode cX10_room 71 = .ok (.iload_n 2, 1) := by decide +kernel
theorem dX10_room_72 : decode cX10_room 72 = .ok (.iconst 1, 1) := by decide +kernel
theorem dX10_room_73 : decode cX10_room 73 = .ok (.if_icmp .ne 7, 3) := by decide +kernel
theorem dX10_room_76 : decode cX10_room 76 = .ok (.iload_n 3, 1) := by decide +kernel
theorem dX10_room_77 : decode cX10_room 77 = .ok (.goto 33, 3) := by decide +kernel
theorem dX10_room_80 : decode cX10_room 80 = .ok (.iload_n 2, 1) := by decide +kernel
theorem dX10_room_81 : decode cX10_room 81 = .ok (.iconst 2, 1) := by decide +kernel
theorem dX10_room_82 : decode cX10_room 82 = .ok (.if_icmp .ne 8, 3) := by decide +kernel
theorem dX10_room_85 : decode cX10_room 85 = .ok (.iload 5, 2) := by decide +kernel
theorem dX10_room_87 : decode cX10_room 87 = .ok (.goto 23, 3) := by decide +kernel
theorem dX10_room_90 : decode cX10_room 90 = .ok (.aload_n 0, 1) := by decide +kernel
theorem dX10_room_91 : decode cX10_room 91 = .ok (.iconst 1, 1) := by decide +kernel
theorem dX10_room_92 : decode cX10_room 92 = .ok (.iload_n 1, 1) := by decide +kernel
theorem dX10_room_93 : decode cX10_room 93 = .ok (.aload_n 0, 1) := by decide +kernel
theorem dX10_room_94 : decode cX10_room 94 = .ok (.getfield 9, 3) := by decide +kernel
theorem dX10_room_97 : decode cX10_room 97 = .ok (.iconst 0, 1) := by decide +kernel
theorem dX10_room_98 : decode cX10_room 98 = .ok (.iaload, 1) := by decide +kernel
theorem dX10_room_99 : decode cX10_room 99 = .ok (.bipush 7, 2) := by decide +kernel
theorem dX10_room_101 : decode cX10_room 101 = .ok (.irem, 1) := by decide +kernel
theorem dX10_room_102 : decode cX10_room 102 = .ok (.iload 5, 2) := by decide +kernel
theorem dX10_room_104 : decode cX10_room 104 = .ok (.invokestatic 185, 3) := by decide +kernel
theorem dX10_room_107 : decode cX10_room 107 = .ok (.invokevirtual 70, 3) := by decide +kernel
theorem dX10_room_110 : decode cX10_room 110 = .ok (.ireturn, 1) := by decide +kernel
set_option maxRecDepth 20000 in
theorem ggX10_when_X10_in : GoodIn wsX10_when wsX10_in := goodIn_r _ [7] (by decide +kernel) (by decide +kernel)
set_option maxRecDepth 20000 in
theorem gX10_when_X10_in : GoodIn wsX10_when (va_wsS RX10 54 yX10_in wsX10_in) := goodIn_app (goodIn_of _ (by decide +kernel)) ggX10_when_X10_in
set_option maxRecDepth 20000 in
theorem ggX10_when_X10_error : GoodIn wsX10_when wsX10_error := goodIn_r _ [11, 12, 13, 61, 62, 63, 64, 65, 66, 67, 68, 69, 70, 71, 72, 73, 74, 75, 76, 77, 78, 79, 80, 81] (by decide +kernel) (by decide +kernel)
set_option maxRecDepth 20000 in
theorem gX10_when_X10_error : GoodIn wsX10_when (wsV RX10 87 RX10 yX10_error wsX10_error) := goodIn_app (goodIn_of _ (by decide +kernel)) ggX10_when_X10_error
set_option maxRecDepth 20000 in
theorem ggX10_when_X10_roomAt : GoodIn wsX10_when wsX10_roomAt := goodIn_r _ [17, 18, 19, 6, 20, 21, 22, 23, 24, 2, 25, 26, 27, 28, 29, 30, 31, 32, 33, 34, 35, 36, 37, 38, 39, 40, 41, 42, 43, 44, 45, 46, 47, 48, 49, 50, 51, 52, 53, 54, 55, 56, 57, 58, 59, 60, 61, 62, 63, 64, 65, 66, 67, 68, 69, 70, 71, 72, 73, 74, 75, 76, 77, 78, 79, 80, 81] (by decide +kernel) (by decide +kernel)
set_option maxRecDepth 20000 in
theorem gX10_when_X10_roomAt : GoodIn wsX10_when (wsV RX10 198 RX10 yX10_roomAt wsX10_roomAt) := goodIn_app (goodIn_of _ (by decide +kernel)) ggX10_when_X10_roomAt
theorem dX10_when_0 : decode cX10_when 0 = .ok (.iload_n 1, 1) := by decide +kernel
theorem dX10_when_1 : decode cX10_when 1 = .ok (.iconst 1, 1) := by decide +kernel
theorem dX10_when_2 : decode cX10_when 2 = .ok (.bipush 12, 2) := by decide +kernel
theorem dX10_when_4 : decode cX10_when 4 = .ok (.invokestatic 54, 3) := by decide +kernel
theorem dX10_when_7 : decode cX10_when 7 = .ok (.ifCond .eq 12, 3) := by decide +kernel
theorem dX10_when_10 : decode cX10_when 10 = .ok (.iload_n 2, 1) := by decide +kernel
theorem dX10_when_11 : decode cX10_when 11 = .ok (.iconst 0, 1) := by decide +kernel
theorem dX10_when_12 : decode cX10_when 12 = .ok (.iconst 1, 1) := by decide +kernel
theorem dX10_when_13 : decode cX10_when 13 = .ok (.invokestatic 54, 3) := by decide +kernel
theorem dX10_when_16 : decode cX10_when 16 = .ok (.ifCond .ne 10, 3) := by decide +kernel
theorem dX10_when_19 : decode cX10_when 19 = .ok (.aload_n 0, 1) := by decide +kernel
theorem dX10_when_20 : decode cX10_when 20 = .ok (.ldc 86, 2) := by decide +kernel
theorem dX10_when_22 : decode cX10_when 22 = .ok (.invokevirtual 87, 3) := by decide +kernel
theorem dX10_when_25 : decode cX10_when 25 = .ok (.ireturn, 1) := by decide +kernel
theorem dX10_when_26 : decode cX10_when 26 = .ok (.aload_n 0, 1) := by decide +kernel
theorem dX10_when_27 : decode cX10_when 27 = .ok (.getfield 9, 3) := by decide +kernel
theorem dX10_when_30 : decode cX10_when 30 = .ok (.iconst 0, 1) := by decide +kernel
theorem dX10_when_31 : decode cX10_when 31 = .ok (.iaload, 1) := by decide +kernel
theorem dX10_when_32 : decode cX10_when 32 = .ok (.istore_n 3, 1) := by decide +kernel
theorem dX10_when_33 : decode cX10_when 33 = .ok (.iconst 0, 1) := by decide +kernel
theorem dX10_when_34 : decode cX10_when 34 = .ok (.istore 4, 2) := by decide +kernel
theorem dX10_when_36 : decode cX10_when 36 = .ok (.aload_n 0, 1) := by decide +kernel
theorem dX10_when_37 : decode cX10_when 37 = .ok (.iload_n 1, 1) := by decide +kernel
theorem dX10_when_38 : decode cX10_when 38 = .ok (.invokevirtual 198, 3) := by decide +kernel
theorem dX10_when_41 : decode cX10_when 41 = .ok (.istore 5, 2) := by decide +kernel
theorem dX10_when_43 : decode cX10_when 43 = .ok (.iload 5, 2) := by decide +kernel
theorem dX10_when_45 : decode cX10_when 45 = .ok (.ifCond .ge 33, 3) := by decide +kernel
theorem dX10_when_48 : decode cX10_when 48 = .ok (.iload 4, 2) := by decide +kernel
theorem dX10_when_50 : decode cX10_when 50 = .ok (.bipush 90, 2) := by decide +kernel
theorem dX10_when_52 : decode cX10_when 52 = .ok (.if_icmp .ge 26, 3) := by decide +kernel
theorem dX10_when_55 : decode cX10_when 55 = .ok (.aload_n 0, 1) := by decide +kernel
theorem dX10_when_56 : decode cX10_when 56 = .ok (.getfield 9, 3) := by decide +kernel
theorem dX10_when_59 : decode cX10_when 59 = .ok (.iconst 0, 1) := by decide +kernel
theorem dX10_when_60 : decode cX10_when 60 = .ok (.dup2, 1) := by decide +kernel
theorem dX10_when_61 : decode cX10_when 61 = .ok (.iaload, 1) := by decide +kernel
theorem dX10_when_62 : decode cX10_when 62 = .ok (.iconst 1, 1) := by decide +kernel
theorem dX10_when_63 : decode cX10_when 63 = .ok (.iadd, 1) := by decide +kernel
theorem dX10_when_64 : decode cX10_when 64 = .ok (.iastore, 1) := by decide +kernel
theorem dX10_when_65 : decode cX10_when 65 = .ok (.iinc 4 1, 3) := by decide +kernel
theorem dX10_when_68 : decode cX10_when 68 = .ok (.aload_n 0, 1) := by decide +kernel
theorem dX10_when_69 : decode cX10_when 69 = .ok (.iload_n 1, 1) := by decide +kernel
theorem dX10_when_70 : decode cX10_when 70 = .ok (.invokevirtual 198, 3) := by decide +kernel
theorem dX10_when_73 : decode cX10_when 73 = .ok (.istore 5, 2) := by decide +kernel
theorem dX10_when_75 : decode cX10_when 75 = .ok (.goto (-32), 3) := by decide +kernel
theorem dX10_when_78 : decode cX10_when 78 = .ok (.aload_n 0, 1) := by decide +kernel
theorem dX10_when_79 : decode cX10_when 79 = .ok (.getfield 9, 3) := by decide +kernel
theorem dX10_when_82 : decode cX10_when 82 = .ok (.iconst 0, 1) := by decide +kernel
theorem dX10_when_83 : decode cX10_when 83 = .ok (.iload_n 3, 1) := by decide +kernel
theorem dX10_when_84 : decode cX10_when 84 = .ok (.iastore, 1) := by decide +kernel
theorem dX10_when_85 : decode cX10_when 85 = .ok (.iload 5, 2) := by decide +kernel
theorem dX10_when_87 : decode cX10_when 87 = .ok (.ifCond .ge 12, 3) := by decide +kernel
theorem dX10_when_90 : decode cX10_when 90 = .ok (.aload_n 0, 1) := by decide +kernel
theorem dX10_when_91 : decode cX10_when 91 = .ok (.ldc 191, 2) := by decide +kernel
theorem dX10_when_93 : decode cX10_when 93 = .ok (.invokevirtual 87, 3) := by decide +kernel
theorem dX10_when_96 : decode cX10_when 96 = .ok (.goto 14, 3) := by decide +kernel
theorem dX10_when_99 : decode cX10_when 99 = .ok (.iload_n 2, 1) := by decide +kernel
theorem dX10_when_100 : decode cX10_when 100 = .ok (.ifCond .ne 8, 3) := by decide +kernel
theorem dX10_when_103 : decode cX10_when 103 = .ok (.iload 4, 2) := by decide +kernel
theorem dX10_when_105 : decode cX10_when 105 = .ok (.goto 5, 3) := by decide +kernel
theorem dX10_when_108 : decode cX10_when 108 = .ok (.iload 5, 2) := by decide +kernel
theorem dX10_when_110 : decode cX10_when 110 = .ok (.ireturn, 1) := by decide +kernel
set_option maxRecDepth 20000 in
theorem ggX10_clearsDay_X10_mayGo : GoodIn wsX10_clearsDay wsX10_mayGo := goodIn_r _ [6, 1, 7, 8, 9, 5, 10, 15, 16, 17, 18, 19, 20, 21, 22, 23, 24, 25, 26, 27, 28, 29, 30, 31, 32, 33, 34, 35] (by decide +kernel) (by decide +kernel)
set_option maxRecDepth 20000 in
theorem gX10_clearsDay_X10_mayGo : GoodIn wsX10_clearsDay (wsV RX10 104 RX10 yX10_mayGo wsX10_mayGo) := goodIn_app (goodIn_of _ (by decide +kernel)) ggX10_clearsDay_X10_mayGo
set_option maxRecDepth 20000 in
theorem ggX10_clearsDay_X10_lets : GoodIn wsX10_clearsDay wsX10_lets := goodIn_r _ [14, 1, 15, 16, 17, 18, 19, 20, 21, 22, 23, 24, 25, 26, 27, 28, 29, 30, 31, 32, 33, 34, 35] (by decide +kernel) (by decide +kernel)
set_option maxRecDepth 20000 in
theorem gX10_clearsDay_X10_lets : GoodIn wsX10_clearsDay (wsV RX10 78 RX10 yX10_lets wsX10_lets) := goodIn_app (goodIn_of _ (by decide +kernel)) ggX10_clearsDay_X10_lets
theorem dX10_clearsDay_0 : decode cX10_clearsDay 0 = .ok (.iconst 0, 1) := by decide +kernel
theorem dX10_clearsDay_1 : decode cX10_clearsDay 1 = .ok (.istore_n 1, 1) := by decide +kernel
theorem dX10_clearsDay_2 : decode cX10_clearsDay 2 = .ok (.iload_n 1, 1) := by decide +kernel
theorem dX10_clearsDay_3 : decode cX10_clearsDay 3 = .ok (.aload_n 0, 1) := by decide +kernel
theorem dX10_clearsDay_4 : decode cX10_clearsDay 4 = .ok (.getfield 9, 3) := by decide +kernel
theorem dX10_clearsDay_7 : decode cX10_clearsDay 7 = .ok (.iconst 2, 1) := by decide +kernel
theorem dX10_clearsDay_8 : decode cX10_clearsDay 8 = .ok (.iaload, 1) := by decide +kernel
theorem dX10_clearsDay_9 : decode cX10_clearsDay 9 = .ok (.if_icmp .ge 25, 3) := by decide +kernel
theorem dX10_clearsDay_12 : decode cX10_clearsDay 12 = .ok (.aload_n 0, 1) := by decide +kernel
theorem dX10_clearsDay_13 : decode cX10_clearsDay 13 = .ok (.iload_n 1, 1) := by decide +kernel
theorem dX10_clearsDay_14 : decode cX10_clearsDay 14 = .ok (.invokevirtual 104, 3) := by decide +kernel
theorem dX10_clearsDay_17 : decode cX10_clearsDay 17 = .ok (.ifCond .eq 11, 3) := by decide +kernel
theorem dX10_clearsDay_20 : decode cX10_clearsDay 20 = .ok (.aload_n 0, 1) := by decide +kernel
theorem dX10_clearsDay_21 : decode cX10_clearsDay 21 = .ok (.iload_n 1, 1) := by decide +kernel
theorem dX10_clearsDay_22 : decode cX10_clearsDay 22 = .ok (.bipush 6, 2) := by decide +kernel
theorem dX10_clearsDay_24 : decode cX10_clearsDay 24 = .ok (.iconst 1, 1) := by decide +kernel
theorem dX10_clearsDay_25 : decode cX10_clearsDay 25 = .ok (.invokevirtual 78, 3) := by decide +kernel
theorem dX10_clearsDay_28 : decode cX10_clearsDay 28 = .ok (.iinc 1 1, 3) := by decide +kernel
theorem dX10_clearsDay_31 : decode cX10_clearsDay 31 = .ok (.goto (-29), 3) := by decide +kernel
theorem dX10_clearsDay_34 : decode cX10_clearsDay 34 = .ok (.aload_n 0, 1) := by decide +kernel
theorem dX10_clearsDay_35 : decode cX10_clearsDay 35 = .ok (.getfield 9, 3) := by decide +kernel
theorem dX10_clearsDay_38 : decode cX10_clearsDay 38 = .ok (.iconst 0, 1) := by decide +kernel
theorem dX10_clearsDay_39 : decode cX10_clearsDay 39 = .ok (.dup2, 1) := by decide +kernel
theorem dX10_clearsDay_40 : decode cX10_clearsDay 40 = .ok (.iaload, 1) := by decide +kernel
theorem dX10_clearsDay_41 : decode cX10_clearsDay 41 = .ok (.iconst 1, 1) := by decide +kernel
theorem dX10_clearsDay_42 : decode cX10_clearsDay 42 = .ok (.iadd, 1) := by decide +kernel
theorem dX10_clearsDay_43 : decode cX10_clearsDay 43 = .ok (.iastore, 1) := by decide +kernel
theorem dX10_clearsDay_44 : decode cX10_clearsDay 44 = .ok (.return_, 1) := by decide +kernel
set_option maxRecDepth 20000 in
theorem ggX10_clears_X10_in : GoodIn wsX10_clears wsX10_in := goodIn_r _ [5] (by decide +kernel) (by decide +kernel)
set_option maxRecDepth 20000 in
theorem gX10_clears_X10_in : GoodIn wsX10_clears (va_wsS RX10 54 yX10_in wsX10_in) := goodIn_app (goodIn_of _ (by decide +kernel)) ggX10_clears_X10_in
set_option maxRecDepth 20000 in
theorem ggX10_clears_X10_error : GoodIn wsX10_clears wsX10_error := goodIn_r _ [9, 10, 11, 45, 46, 47, 48, 49, 50, 51, 52, 53, 54, 55, 56, 57, 58, 59, 60, 61, 62, 63, 64, 65] (by decide +kernel) (by decide +kernel)
set_option maxRecDepth 20000 in
theorem gX10_clears_X10_error : GoodIn wsX10_clears (wsV RX10 87 RX10 yX10_error wsX10_error) := goodIn_app (goodIn_of _ (by decide +kernel)) ggX10_clears_X10_error
set_option maxRecDepth 20000 in
theorem ggX10_clears_X10_thinks : GoodIn wsX10_clears wsX10_thinks := goodIn_r _ [15, 16, 17, 18, 19, 4, 20, 45, 46, 47, 48, 49, 50, 51, 52, 53, 54, 55, 56, 57, 58, 59, 60, 61, 62, 63, 64, 65] (by decide +kernel) (by decide +kernel)
set_option maxRecDepth 20000 in
theorem gX10_clears_X10_thinks : GoodIn wsX10_clears (wsV RX10 201 RX10 yX10_thinks wsX10_thinks) := goodIn_app (goodIn_of _ (by decide +kernel)) ggX10_clears_X10_thinks
set_option maxRecDepth 20000 in
theorem ggX10_clears_X10_clearsDay : GoodIn wsX10_clears wsX10_clearsDay := goodIn_r _ [24, 16, 25, 26, 27, 4, 28, 29, 30, 31, 32, 33, 34, 35, 36, 45, 46, 47, 48, 49, 50, 51, 52, 53, 54, 55, 56, 57, 58, 59, 60, 61, 62, 63, 64, 65] (by decide +kernel) (by decide +kernel)
set_option maxRecDepth 20000 in
theorem gX10_clears_X10_clearsDay : GoodIn wsX10_clears (wsV RX10 204 RX10 yX10_clearsDay wsX10_clearsDay) := goodIn_app (goodIn_of _ (by decide +kernel)) ggX10_clears_X10_clearsDay
set_option maxRecDepth 20000 in
theorem ggX10_clears_X10_takenBy : GoodIn wsX10_clears wsX10_takenBy := goodIn_r _ [40, 16, 29, 30, 31, 4, 32, 45, 46, 47, 48, 49, 50, 51, 52, 53, 54, 55, 56, 57, 58, 59, 60, 61, 62, 63, 64, 65] (by decide +kernel) (by decide +kernel)
set_option maxRecDepth 20000 in
theorem gX10_clears_X10_takenBy : GoodIn wsX10_clears (wsV RX10 94 RX10 yX10_takenBy wsX10_takenBy) := goodIn_app (goodIn_of _ (by decide +kernel)) ggX10_clears_X10_takenBy
set_option maxRecDepth 20000 in
theorem ggX10_clears_X10_putsBack : GoodIn wsX10_clears wsX10_putsBack := goodIn_r _ [44, 17, 16, 18, 19, 4, 20, 45, 46, 47, 48, 49, 50, 51, 52, 53, 54, 55, 56, 57, 58, 59, 60, 61, 62, 63, 64, 65] (by decide +kernel) (by decide +kernel)
set_option maxRecDepth 20000 in
theorem gX10_clears_X10_putsBack : GoodIn wsX10_clears (wsV RX10 207 RX10 yX10_putsBack wsX10_putsBack) := goodIn_app (goodIn_of _ (by decide +kernel)) ggX10_clears_X10_putsBack
theorem dX10_clears_0 : decode cX10_clears 0 = .ok (.iload_n 1, 1) := by decide +kernel
theorem dX10_clears_1 : decode cX10_clears 1 = .ok (.iconst 0, 1) := by decide +kernel
theorem dX10_clears_2 : decode cX10_clears 2 = .ok (.bipush 90, 2) := by decide +kernel
theorem dX10_clears_4 : decode cX10_clears 4 = .ok (.invokestatic 54, 3) := by decide +kernel
theorem dX10_clears_7 : decode cX10_clears 7 = .ok (.ifCond .ne 10, 3) := by decide +kernel
theorem dX10_clears_10 : decode cX10_clears 10 = .ok (.aload_n 0, 1) := by decide +kernel
theorem dX10_clears_11 : decode cX10_clears 11 = .ok (.ldc 86, 2) := by decide +kernel
theorem dX10_clears_13 : decode cX10_clears 13 = .ok (.invokevirtual 87, 3) := by decide +kernel
theorem dX10_clears_16 : decode cX10_clears 16 = .ok (.ireturn, 1) := by decide +kernel
theorem dX10_clears_17 : decode cX10_clears 17 = .ok (.aload_n 0, 1) := by decide +kernel
theorem dX10_clears_18 : decode cX10_clears 18 = .ok (.invokevirtual 201, 3) := by decide +kernel
theorem dX10_clears_21 : decode cX10_clears 21 = .ok (.iconst 0, 1) := by decide +kernel
theorem dX10_clears_22 : decode cX10_clears 22 = .ok (.istore_n 2, 1) := by decide +kernel
theorem dX10_clears_23 : decode cX10_clears 23 = .ok (.iload_n 2, 1) := by decide +kernel
theorem dX10_clears_24 : decode cX10_clears 24 = .ok (.iload_n 1, 1) := by decide +kernel
theorem dX10_clears_25 : decode cX10_clears 25 = .ok (.if_icmp .ge 13, 3) := by decide +kernel
theorem dX10_clears_28 : decode cX10_clears 28 = .ok (.aload_n 0, 1) := by decide +kernel
theorem dX10_clears_29 : decode cX10_clears 29 = .ok (.invokevirtual 204, 3) := by decide +kernel
theorem dX10_clears_32 : decode cX10_clears 32 = .ok (.iinc 2 1, 3) := by decide +kernel
theorem dX10_clears_35 : decode cX10_clears 35 = .ok (.goto (-12), 3) := by decide +kernel
theorem dX10_clears_38 : decode cX10_clears 38 = .ok (.aload_n 0, 1) := by decide +kernel
theorem dX10_clears_39 : decode cX10_clears 39 = .ok (.iconst (-1), 1) := by decide +kernel
theorem dX10_clears_40 : decode cX10_clears 40 = .ok (.invokevirtual 94, 3) := by decide +kernel
theorem dX10_clears_43 : decode cX10_clears 43 = .ok (.istore_n 2, 1) := by decide +kernel
theorem dX10_clears_44 : decode cX10_clears 44 = .ok (.aload_n 0, 1) := by decide +kernel
theorem dX10_clears_45 : decode cX10_clears 45 = .ok (.invokevirtual 207, 3) := by decide +kernel
theorem dX10_clears_48 : decode cX10_clears 48 = .ok (.iload_n 2, 1) := by decide +kernel
theorem dX10_clears_49 : decode cX10_clears 49 = .ok (.ireturn, 1) := by decide +kernel
set_option maxRecDepth 20000 in
theorem ggX10_partsFrom_X10_partsFrom : GoodIn wsX10_partsFrom wsX10_partsFrom := goodIn_r _ [0, 1, 2, 3, 4, 5, 6, 7, 8, 9, 10, 11, 12, 13, 14, 15, 16, 17, 18, 19, 20, 21, 22, 23, 24, 25, 26, 27, 28] (by decide +kernel) (by decide +kernel)
set_option maxRecDepth 20000 in
theorem gX10_partsFrom_X10_partsFrom : GoodIn wsX10_partsFrom (wsV RX10 210 RX10 yX10_partsFrom wsX10_partsFrom) := goodIn_app (goodIn_of _ (by decide +kernel)) ggX10_partsFrom_X10_partsFrom
theorem dX10_partsFrom_0 : decode cX10_partsFrom 0 = .ok (.iload_n 2, 1) := by decide +kernel
theorem dX10_partsFrom_1 : decode cX10_partsFrom 1 = .ok (.aload_n 0, 1) := by decide +kernel
theorem dX10_partsFrom_2 : decode cX10_partsFrom 2 = .ok (.getfield 25, 3) := by decide +kernel
theorem dX10_partsFrom_5 : decode cX10_partsFrom 5 = .ok (.iload_n 1, 1) := by decide +kernel
theorem dX10_partsFrom_6 : decode cX10_partsFrom 6 = .ok (.iaload, 1) := by decide +kernel
theorem dX10_partsFrom_7 : decode cX10_partsFrom 7 = .ok (.if_icmp .ne 5, 3) := by decide +kernel
theorem dX10_partsFrom_10 : decode cX10_partsFrom 10 = .ok (.iconst 0, 1) := by decide +kernel
theorem dX10_partsFrom_11 : decode cX10_partsFrom 11 = .ok (.ireturn, 1) := by decide +kernel
theorem dX10_partsFrom_12 : decode cX10_partsFrom 12 = .ok (.aload_n 0, 1) := by decide +kernel
theorem dX10_partsFrom_13 : decode cX10_partsFrom 13 = .ok (.getfield 28, 3) := by decide +kernel
theorem dX10_partsFrom_16 : decode cX10_partsFrom 16 = .ok (.bipush 24, 2) := by decide +kernel
theorem dX10_partsFrom_18 : decode cX10_partsFrom 18 = .ok (.iload_n 1, 1) := by decide +kernel
theorem dX10_partsFrom_19 : decode cX10_partsFrom 19 = .ok (.imul, 1) := by decide +kernel
theorem dX10_partsFrom_20 : decode cX10_partsFrom 20 = .ok (.iload_n 2, 1) := by decide +kernel
theorem dX10_partsFrom_21 : decode cX10_partsFrom 21 = .ok (.iadd, 1) := by decide +kernel
theorem dX10_partsFrom_22 : decode cX10_partsFrom 22 = .ok (.iaload, 1) := by decide +kernel
theorem dX10_partsFrom_23 : decode cX10_partsFrom 23 = .ok (.istore_n 3, 1) := by decide +kernel
theorem dX10_partsFrom_24 : decode cX10_partsFrom 24 = .ok (.aload_n 0, 1) := by decide +kernel
theorem dX10_partsFrom_25 : decode cX10_partsFrom 25 = .ok (.iload_n 1, 1) := by decide +kernel
theorem dX10_partsFrom_26 : decode cX10_partsFrom 26 = .ok (.iload_n 2, 1) := by decide +kernel
theorem dX10_partsFrom_27 : decode cX10_partsFrom 27 = .ok (.iconst 1, 1) := by decide +kernel
theorem dX10_partsFrom_28 : decode cX10_partsFrom 28 = .ok (.iadd, 1) := by decide +kernel
theorem dX10_partsFrom_29 : decode cX10_partsFrom 29 = .ok (.invokevirtual 210, 3) := by decide +kernel
theorem dX10_partsFrom_32 : decode cX10_partsFrom 32 = .ok (.istore 4, 2) := by decide +kernel
theorem dX10_partsFrom_34 : decode cX10_partsFrom 34 = .ok (.iconst 0, 1) := by decide +kernel
theorem dX10_partsFrom_35 : decode cX10_partsFrom 35 = .ok (.istore 5, 2) := by decide +kernel
theorem dX10_partsFrom_37 : decode cX10_partsFrom 37 = .ok (.iload 5, 2) := by decide +kernel
theorem dX10_partsFrom_39 : decode cX10_partsFrom 39 = .ok (.bipush 12, 2) := by decide +kernel
theorem dX10_partsFrom_41 : decode cX10_partsFrom 41 = .ok (.if_icmp .ge 70, 3) := by decide +kernel
theorem dX10_partsFrom_44 : decode cX10_partsFrom 44 = .ok (.aload_n 0, 1) := by decide +kernel
theorem dX10_partsFrom_45 : decode cX10_partsFrom 45 = .ok (.getfield 43, 3) := by decide +kernel
theorem dX10_partsFrom_48 : decode cX10_partsFrom 48 = .ok (.iload 5, 2) := by decide +kernel
theorem dX10_partsFrom_50 : decode cX10_partsFrom 50 = .ok (.iaload, 1) := by decide +kernel
theorem dX10_partsFrom_51 : decode cX10_partsFrom 51 = .ok (.iload_n 3, 1) := by decide +kernel
theorem dX10_partsFrom_52 : decode cX10_partsFrom 52 = .ok (.if_icmp .lt 53, 3) := by decide +kernel
theorem dX10_partsFrom_55 : decode cX10_partsFrom 55 = .ok (.aload_n 0, 1) := by decide +kernel
theorem dX10_partsFrom_56 : decode cX10_partsFrom 56 = .ok (.getfield 43, 3) := by decide +kernel
theorem dX10_partsFrom_59 : decode cX10_partsFrom 59 = .ok (.iload 5, 2) := by decide +kernel
theorem dX10_partsFrom_61 : decode cX10_partsFrom 61 = .ok (.dup2, 1) := by decide +kernel
theorem dX10_partsFrom_62 : decode cX10_partsFrom 62 = .ok (.iaload, 1) := by decide +kernel
theorem dX10_partsFrom_63 : decode cX10_partsFrom 63 = .ok (.iload_n 3, 1) := by decide +kernel
theorem dX10_partsFrom_64 : decode cX10_partsFrom 64 = .ok (.isub, 1) := by decide +kernel
theorem dX10_partsFrom_65 : decode cX10_partsFrom 65 = .ok (.iastore, 1) := by decide +kernel
theorem dX10_partsFrom_66 : decode cX10_partsFrom 66 = .ok (.iconst 1, 1) := by decide +kernel
theorem dX10_partsFrom_67 : decode cX10_partsFrom 67 = .ok (.aload_n 0, 1) := by decide +kernel
theorem dX10_partsFrom_68 : decode cX10_partsFrom 68 = .ok (.iload_n 1, 1) := by decide +kernel
theorem dX10_partsFrom_69 : decode cX10_partsFrom 69 = .ok (.iload_n 2, 1) := by decide +kernel
theorem dX10_partsFrom_70 : decode cX10_partsFrom 70 = .ok (.iconst 1, 1) := by decide +kernel
theorem dX10_partsFrom_71 : decode cX10_partsFrom 71 = .ok (.iadd, 1) := by decide +kernel
theorem dX10_partsFrom_72 : decode cX10_partsFrom 72 = .ok (.invokevirtual 210, 3) := by decide +kernel
theorem dX10_partsFrom_75 : decode cX10_partsFrom 75 = .ok (.iadd, 1) := by decide +kernel
theorem dX10_partsFrom_76 : decode cX10_partsFrom 76 = .ok (.istore 6, 2) := by decide +kernel
theorem dX10_partsFrom_78 : decode cX10_partsFrom 78 = .ok (.aload_n 0, 1) := by decide +kernel
theorem dX10_partsFrom_79 : decode cX10_partsFrom 79 = .ok (.getfield 43, 3) := by decide +kernel
theorem dX10_partsFrom_82 : decode cX10_partsFrom 82 = .ok (.iload 5, 2) := by decide +kernel
theorem dX10_partsFrom_84 : decode cX10_partsFrom 84 = .ok (.dup2, 1) := by decide +kernel
theorem dX10_partsFrom_85 : decode cX10_partsFrom 85 = .ok (.iaload, 1) := by decide +kernel
theorem dX10_partsFrom_86 : decode cX10_partsFrom 86 = .ok (.iload_n 3, 1) := by decide +kernel
theorem dX10_partsFrom_87 : decode cX10_partsFrom 87 = .ok (.iadd, 1) := by decide +kernel
theorem dX10_partsFrom_88 : decode cX10_partsFrom 88 = .ok (.iastore, 1) := by decide +kernel
theorem dX10_partsFrom_89 : decode cX10_partsFrom 89 = .ok (.iload 6, 2) := by decide +kernel
theorem dX10_partsFrom_91 : decode cX10_partsFrom 91 = .ok (.iload 4, 2) := by decide +kernel
theorem dX10_partsFrom_93 : decode cX10_partsFrom 93 = .ok (.if_icmp .le 8, 3) := by decide +kernel
theorem dX10_partsFrom_96 : decode cX10_partsFrom 96 = .ok (.iload 6, 2) := by decide +kernel
theorem dX10_partsFrom_98 : decode cX10_partsFrom 98 = .ok (.goto 5, 3) := by decide +kernel
theorem dX10_partsFrom_101 : decode cX10_partsFrom 101 = .ok (.iload 4, 2) := by decide +kernel
theorem dX10_partsFrom_103 : decode cX10_partsFrom 103 = .ok (.istore 4, 2) := by decide +kernel
theorem dX10_partsFrom_105 : decode cX10_partsFrom 105 = .ok (.iinc 5 1, 3) := by decide +kernel
theorem dX10_partsFrom_108 : decode cX10_partsFrom 108 = .ok (.goto (-71), 3) := by decide +kernel
theorem dX10_partsFrom_111 : decode cX10_partsFrom 111 = .ok (.iload 4, 2) := by decide +kernel
theorem dX10_partsFrom_113 : decode cX10_partsFrom 113 = .ok (.ireturn, 1) := by decide +kernel
set_option maxRecDepth 20000 in
theorem ggX10_parts_X10_notThere : GoodIn wsX10_parts wsX10_notThere := goodIn_r _ [10, 11, 12, 2, 13, 14, 9, 15, 16, 17, 18, 38, 39, 40, 41, 42, 43, 44, 45, 46, 47, 48, 49, 50, 51, 52, 53, 54, 55, 56, 57, 58] (by decide +kernel) (by decide +kernel)
set_option maxRecDepth 20000 in
theorem gX10_parts_X10_notThere : GoodIn wsX10_parts (wsV RX10 213 RX10 yX10_notThere wsX10_notThere) := goodIn_app (goodIn_of _ (by decide +kernel)) ggX10_parts_X10_notThere
set_option maxRecDepth 20000 in
theorem ggX10_parts_X10_error : GoodIn wsX10_parts wsX10_error := goodIn_r _ [22, 23, 24, 38, 39, 40, 41, 42, 43, 44, 45, 46, 47, 48, 49, 50, 51, 52, 53, 54, 55, 56, 57, 58] (by decide +kernel) (by decide +kernel)
set_option maxRecDepth 20000 in
theorem gX10_parts_X10_error : GoodIn wsX10_parts (wsV RX10 87 RX10 yX10_error wsX10_error) := goodIn_app (goodIn_of _ (by decide +kernel)) ggX10_parts_X10_error
set_option maxRecDepth 20000 in
theorem ggX10_parts_X10_in : GoodIn wsX10_parts wsX10_in := goodIn_r _ [18] (by decide +kernel) (by decide +kernel)
set_option maxRecDepth 20000 in
theorem gX10_parts_X10_in : GoodIn wsX10_parts (va_wsS RX10 54 yX10_in wsX10_in) := goodIn_app (goodIn_of _ (by decide +kernel)) ggX10_parts_X10_in
set_option maxRecDepth 20000 in
theorem ggX10_parts_X10_takenBy : GoodIn wsX10_parts wsX10_takenBy := goodIn_r _ [28, 29, 30, 31, 32, 9, 33, 38, 39, 40, 41, 42, 43, 44, 45, 46, 47, 48, 49, 50, 51, 52, 53, 54, 55, 56, 57, 58] (by decide +kernel) (by decide +kernel)
set_option maxRecDepth 20000 in
theorem gX10_parts_X10_takenBy : GoodIn wsX10_parts (wsV RX10 94 RX10 yX10_takenBy wsX10_takenBy) := goodIn_app (goodIn_of _ (by decide +kernel)) ggX10_parts_X10_takenBy
set_option maxRecDepth 20000 in
theorem ggX10_parts_X10_partsFrom : GoodIn wsX10_parts wsX10_partsFrom := goodIn_r _ [37, 1, 3, 5, 34, 35, 36, 9, 38, 39, 40, 41, 42, 43, 44, 45, 46, 47, 48, 49, 50, 51, 52, 53, 54, 55, 56, 57, 58] (by decide +kernel) (by decide +kernel)
set_option maxRecDepth 20000 in
theorem gX10_parts_X10_partsFrom : GoodIn wsX10_parts (wsV RX10 210 RX10 yX10_partsFrom wsX10_partsFrom) := goodIn_app (goodIn_of _ (by decide +kernel)) ggX10_parts_X10_partsFrom
theorem dX10_parts_0 : decode cX10_parts 0 = .ok (.aload_n 0, 1) := by decide +kernel
theorem dX10_parts_1 : decode cX10_parts 1 = .ok (.iload_n 1, 1) := by decide +kernel
theorem dX10_parts_2 : decode cX10_parts 2 = .ok (.invokevirtual 213, 3) := by decide +kernel
theorem dX10_parts_5 : decode cX10_parts 5 = .ok (.istore_n 2, 1) := by decide +kernel
theorem dX10_parts_6 : decode cX10_parts 6 = .ok (.iload_n 2, 1) := by decide +kernel
theorem dX10_parts_7 : decode cX10_parts 7 = .ok (.ifCond .eq 9, 3) := by decide +kernel
theorem dX10_parts_10 : decode cX10_parts 10 = .ok (.aload_n 0, 1) := by decide +kernel
theorem dX10_parts_11 : decode cX10_parts 11 = .ok (.iload_n 2, 1) := by decide +kernel
theorem dX10_parts_12 : decode cX10_parts 12 = .ok (.invokevirtual 87, 3) := by decide +kernel
theorem dX10_parts_15 : decode cX10_parts 15 = .ok (.ireturn, 1) := by decide +kernel
theorem dX10_parts_16 : decode cX10_parts 16 = .ok (.aload_n 0, 1) := by decide +kernel
theorem dX10_parts_17 : decode cX10_parts 17 = .ok (.getfield 25, 3) := by decide +kernel
theorem dX10_parts_20 : decode cX10_parts 20 = .ok (.iload_n 1, 1) := by decide +kernel
theorem dX10_parts_21 : decode cX10_parts 21 = .ok (.iaload, 1) := by decide +kernel
theorem dX10_parts_22 : decode cX10_parts 22 = .ok (.bipush 6, 2) := by decide +kernel
theorem dX10_parts_24 : decode cX10_parts 24 = .ok (.if_icmp .le 10, 3) := by decide +kernel
theorem dX10_parts_27 : decode cX10_parts 27 = .ok (.aload_n 0, 1) := by decide +kernel
theorem dX10_parts_28 : decode cX10_parts 28 = .ok (.ldc 191, 2) := by decide +kernel
theorem dX10_parts_30 : decode cX10_parts 30 = .ok (.invokevirtual 87, 3) := by decide +kernel
theorem dX10_parts_33 : decode cX10_parts 33 = .ok (.ireturn, 1) := by decide +kernel
theorem dX10_parts_34 : decode cX10_parts 34 = .ok (.iconst 0, 1) := by decide +kernel
theorem dX10_parts_35 : decode cX10_parts 35 = .ok (.istore_n 3, 1) := by decide +kernel
theorem dX10_parts_36 : decode cX10_parts 36 = .ok (.iload_n 3, 1) := by decide +kernel
theorem dX10_parts_37 : decode cX10_parts 37 = .ok (.aload_n 0, 1) := by decide +kernel
theorem dX10_parts_38 : decode cX10_parts 38 = .ok (.getfield 25, 3) := by decide +kernel
theorem dX10_parts_41 : decode cX10_parts 41 = .ok (.iload_n 1, 1) := by decide +kernel
theorem dX10_parts_42 : decode cX10_parts 42 = .ok (.iaload, 1) := by decide +kernel
theorem dX10_parts_43 : decode cX10_parts 43 = .ok (.if_icmp .ge 36, 3) := by decide +kernel
theorem dX10_parts_46 : decode cX10_parts 46 = .ok (.aload_n 0, 1) := by decide +kernel
theorem dX10_parts_47 : decode cX10_parts 47 = .ok (.getfield 28, 3) := by decide +kernel
theorem dX10_parts_50 : decode cX10_parts 50 = .ok (.bipush 24, 2) := by decide +kernel
theorem dX10_parts_52 : decode cX10_parts 52 = .ok (.iload_n 1, 1) := by decide +kernel
theorem dX10_parts_53 : decode cX10_parts 53 = .ok (.imul, 1) := by decide +kernel
theorem dX10_parts_54 : decode cX10_parts 54 = .ok (.iload_n 3, 1) := by decide +kernel
theorem dX10_parts_55 : decode cX10_parts 55 = .ok (.iadd, 1) := by decide +kernel
theorem dX10_parts_56 : decode cX10_parts 56 = .ok (.iaload, 1) := by decide +kernel
theorem dX10_parts_57 : decode cX10_parts 57 = .ok (.iconst 1, 1) := by decide +kernel
theorem dX10_parts_58 : decode cX10_parts 58 = .ok (.bipush 12, 2) := by decide +kernel
theorem dX10_parts_60 : decode cX10_parts 60 = .ok (.invokestatic 54, 3) := by decide +kernel
theorem dX10_parts_63 : decode cX10_parts 63 = .ok (.ifCond .ne 10, 3) := by decide +kernel
theorem dX10_parts_66 : decode cX10_parts 66 = .ok (.aload_n 0, 1) := by decide +kernel
theorem dX10_parts_67 : decode cX10_parts 67 = .ok (.ldc 97, 2) := by decide +kernel
theorem dX10_parts_69 : decode cX10_parts 69 = .ok (.invokevirtual 87, 3) := by decide +kernel
theorem dX10_parts_72 : decode cX10_parts 72 = .ok (.ireturn, 1) := by decide +kernel
theorem dX10_parts_73 : decode cX10_parts 73 = .ok (.iinc 3 1, 3) := by decide +kernel
theorem dX10_parts_76 : decode cX10_parts 76 = .ok (.goto (-40), 3) := by decide +kernel
theorem dX10_parts_79 : decode cX10_parts 79 = .ok (.aload_n 0, 1) := by decide +kernel
theorem dX10_parts_80 : decode cX10_parts 80 = .ok (.iconst (-1), 1) := by decide +kernel
theorem dX10_parts_81 : decode cX10_parts 81 = .ok (.invokevirtual 94, 3) := by decide +kernel
theorem dX10_parts_84 : decode cX10_parts 84 = .ok (.istore_n 3, 1) := by decide +kernel
theorem dX10_parts_85 : decode cX10_parts 85 = .ok (.iconst (-1), 1) := by decide +kernel
theorem dX10_parts_86 : decode cX10_parts 86 = .ok (.istore 4, 2) := by decide +kernel
theorem dX10_parts_88 : decode cX10_parts 88 = .ok (.iconst 0, 1) := by decide +kernel
theorem dX10_parts_89 : decode cX10_parts 89 = .ok (.istore 5, 2) := by decide +kernel
theorem dX10_parts_91 : decode cX10_parts 91 = .ok (.iload 5, 2) := by decide +kernel
theorem dX10_parts_93 : decode cX10_parts 93 = .ok (.bipush 12, 2) := by decide +kernel
theorem dX10_parts_95 : decode cX10_parts 95 = .ok (.if_icmp .ge 72, 3) := by decide +kernel
theorem dX10_parts_98 : decode cX10_parts 98 = .ok (.aload_n 0, 1) := by decide +kernel
theorem dX10_parts_99 : decode cX10_parts 99 = .ok (.getfield 43, 3) := by decide +kernel
theorem dX10_parts_102 : decode cX10_parts 102 = .ok (.iload 5, 2) := by decide +kernel
theorem dX10_parts_104 : decode cX10_parts 104 = .ok (.iconst 0, 1) := by decide +kernel
theorem dX10_parts_105 : decode cX10_parts 105 = .ok (.iastore, 1) := by decide +kernel
theorem dX10_parts_106 : decode cX10_parts 106 = .ok (.iload_n 3, 1) := by decide +kernel
theorem dX10_parts_107 : decode cX10_parts 107 = .ok (.iload 5, 2) := by decide +kernel
theorem dX10_parts_109 : decode cX10_parts 109 = .ok (.ishr, 1) := by decide +kernel
theorem dX10_parts_110 : decode cX10_parts 110 = .ok (.iconst 1, 1) := by decide +kernel
theorem dX10_parts_111 : decode cX10_parts 111 = .ok (.iand, 1) := by decide +kernel
theorem dX10_parts_112 : decode cX10_parts 112 = .ok (.ifCond .ne 7, 3) := by decide +kernel
theorem dX10_parts_115 : decode cX10_parts 115 = .ok (.iconst 1, 1) := by decide +kernel
theorem dX10_parts_116 : decode cX10_parts 116 = .ok (.goto 4, 3) := by decide +kernel
theorem dX10_parts_119 : decode cX10_parts 119 = .ok (.iconst 0, 1) := by decide +kernel
theorem dX10_parts_120 : decode cX10_parts 120 = .ok (.istore 6, 2) := by decide +kernel
theorem dX10_parts_122 : decode cX10_parts 122 = .ok (.iload 6, 2) := by decide +kernel
theorem dX10_parts_124 : decode cX10_parts 124 = .ok (.ifCond .ne 7, 3) := by decide +kernel
theorem dX10_parts_127 : decode cX10_parts 127 = .ok (.iconst (-1), 1) := by decide +kernel
theorem dX10_parts_128 : decode cX10_parts 128 = .ok (.goto 15, 3) := by decide +kernel
theorem dX10_parts_131 : decode cX10_parts 131 = .ok (.iload 4, 2) := by decide +kernel
theorem dX10_parts_133 : decode cX10_parts 133 = .ok (.ifCond .ge 8, 3) := by decide +kernel
theorem dX10_parts_136 : decode cX10_parts 136 = .ok (.iload 5, 2) := by decide +kernel
theorem dX10_parts_138 : decode cX10_parts 138 = .ok (.goto 5, 3) := by decide +kernel
theorem dX10_parts_141 : decode cX10_parts 141 = .ok (.iload 4, 2) := by decide +kernel
theorem dX10_parts_143 : decode cX10_parts 143 = .ok (.istore 4, 2) := by decide +kernel
theorem dX10_parts_145 : decode cX10_parts 145 = .ok (.iload 6, 2) := by decide +kernel
theorem dX10_parts_147 : decode cX10_parts 147 = .ok (.ifCond .eq 14, 3) := by decide +kernel
theorem dX10_parts_150 : decode cX10_parts 150 = .ok (.aload_n 0, 1) := by decide +kernel
theorem dX10_parts_151 : decode cX10_parts 151 = .ok (.getfield 43, 3) := by decide +kernel
theorem dX10_parts_154 : decode cX10_parts 154 = .ok (.iload 4, 2) := by decide +kernel
theorem dX10_parts_156 : decode cX10_parts 156 = .ok (.dup2, 1) := by decide +kernel
theorem dX10_parts_157 : decode cX10_parts 157 = .ok (.iaload, 1) := by decide +kernel
theorem dX10_parts_158 : decode cX10_parts 158 = .ok (.iconst 1, 1) := by decide +kernel
theorem dX10_parts_159 : decode cX10_parts 159 = .ok (.iadd, 1) := by decide +kernel
theorem dX10_parts_160 : decode cX10_parts 160 = .ok (.iastore, 1) := by decide +kernel
theorem dX10_parts_161 : decode cX10_parts 161 = .ok (.iinc 5 1, 3) := by decide +kernel
theorem dX10_parts_164 : decode cX10_parts 164 = .ok (.goto (-73), 3) := by decide +kernel
theorem dX10_parts_167 : decode cX10_parts 167 = .ok (.aload_n 0, 1) := by decide +kernel
theorem dX10_parts_168 : decode cX10_parts 168 = .ok (.iload_n 1, 1) := by decide +kernel
theorem dX10_parts_169 : decode cX10_parts 169 = .ok (.iconst 0, 1) := by decide +kernel
theorem dX10_parts_170 : decode cX10_parts 170 = .ok (.invokevirtual 210, 3) := by decide +kernel
theorem dX10_parts_173 : decode cX10_parts 173 = .ok (.ireturn, 1) := by decide +kernel
set_option maxRecDepth 20000 in
theorem ggX10_odds_X10_in : GoodIn wsX10_odds wsX10_in := goodIn_r _ [7] (by decide +kernel) (by decide +kernel)
set_option maxRecDepth 20000 in
theorem gX10_odds_X10_in : GoodIn wsX10_odds (va_wsS RX10 54 yX10_in wsX10_in) := goodIn_app (goodIn_of _ (by decide +kernel)) ggX10_odds_X10_in
set_option maxRecDepth 20000 in
theorem ggX10_odds_X10_bits : GoodIn wsX10_odds wsX10_bits := goodIn_r _ [10] (by decide +kernel) (by decide +kernel)
set_option maxRecDepth 20000 in
theorem gX10_odds_X10_bits : GoodIn wsX10_odds (va_wsS RX10 185 yX10_bits wsX10_bits) := goodIn_app (goodIn_of _ (by decide +kernel)) ggX10_odds_X10_bits
set_option maxRecDepth 20000 in
theorem ggX10_odds_X10_error : GoodIn wsX10_odds wsX10_error := goodIn_r _ [14, 15, 16, 28, 29, 30, 31, 32, 33, 34, 35, 36, 37, 38, 39, 40, 41, 42, 43, 44, 45, 46, 47, 48] (by decide +kernel) (by decide +kernel)
set_option maxRecDepth 20000 in
theorem gX10_odds_X10_error : GoodIn wsX10_odds (wsV RX10 87 RX10 yX10_error wsX10_error) := goodIn_app (goodIn_of _ (by decide +kernel)) ggX10_odds_X10_error
set_option maxRecDepth 20000 in
theorem ggX10_odds_X10_backOf : GoodIn wsX10_odds wsX10_backOf := goodIn_r _ [20, 1, 21, 22, 23, 6, 24, 25, 26, 27, 28, 29, 30, 31, 32, 33, 34, 35, 36, 37, 38, 39, 40, 41, 42, 43, 44, 45, 46, 47, 48] (by decide +kernel) (by decide +kernel)
set_option maxRecDepth 20000 in
theorem gX10_odds_X10_backOf : GoodIn wsX10_odds (wsV RX10 66 RX10 yX10_backOf wsX10_backOf) := goodIn_app (goodIn_of _ (by decide +kernel)) ggX10_odds_X10_backOf
theorem dX10_odds_0 : decode cX10_odds 0 = .ok (.iload_n 1, 1) := by decide +kernel
theorem dX10_odds_1 : decode cX10_odds 1 = .ok (.iconst 0, 1) := by decide +kernel
theorem dX10_odds_2 : decode cX10_odds 2 = .ok (.iconst 1, 1) := by decide +kernel
theorem dX10_odds_3 : decode cX10_odds 3 = .ok (.aload_n 0, 1) := by decide +kernel
theorem dX10_odds_4 : decode cX10_odds 4 = .ok (.getfield 9, 3) := by decide +kernel
theorem dX10_odds_7 : decode cX10_odds 7 = .ok (.iconst 2, 1) := by decide +kernel
theorem dX10_odds_8 : decode cX10_odds 8 = .ok (.iaload, 1) := by decide +kernel
theorem dX10_odds_9 : decode cX10_odds 9 = .ok (.ishl, 1) := by decide +kernel
theorem dX10_odds_10 : decode cX10_odds 10 = .ok (.iconst 1, 1) := by decide +kernel
theorem dX10_odds_11 : decode cX10_odds 11 = .ok (.isub, 1) := by decide +kernel
theorem dX10_odds_12 : decode cX10_odds 12 = .ok (.invokestatic 54, 3) := by decide +kernel
theorem dX10_odds_15 : decode cX10_odds 15 = .ok (.ifCond .eq 20, 3) := by decide +kernel
theorem dX10_odds_18 : decode cX10_odds 18 = .ok (.iload_n 1, 1) := by decide +kernel
theorem dX10_odds_19 : decode cX10_odds 19 = .ok (.invokestatic 185, 3) := by decide +kernel
theorem dX10_odds_22 : decode cX10_odds 22 = .ok (.iconst 4, 1) := by decide +kernel
theorem dX10_odds_23 : decode cX10_odds 23 = .ok (.if_icmp .gt 12, 3) := by decide +kernel
theorem dX10_odds_26 : decode cX10_odds 26 = .ok (.iload_n 2, 1) := by decide +kernel
theorem dX10_odds_27 : decode cX10_odds 27 = .ok (.iconst 0, 1) := by decide +kernel
theorem dX10_odds_28 : decode cX10_odds 28 = .ok (.iconst 1, 1) := by decide +kernel
theorem dX10_odds_29 : decode cX10_odds 29 = .ok (.invokestatic 54, 3) := by decide +kernel
theorem dX10_odds_32 : decode cX10_odds 32 = .ok (.ifCond .ne 11, 3) := by decide +kernel
theorem dX10_odds_35 : decode cX10_odds 35 = .ok (.aload_n 0, 1) := by decide +kernel
theorem dX10_odds_36 : decode cX10_odds 36 = .ok (.ldc 86, 2) := by decide +kernel
theorem dX10_odds_38 : decode cX10_odds 38 = .ok (.invokevirtual 87, 3) := by decide +kernel
theorem dX10_odds_41 : decode cX10_odds 41 = .ok (.i2l, 1) := by decide +kernel
theorem dX10_odds_42 : decode cX10_odds 42 = .ok (.lreturn, 1) := by decide +kernel
theorem dX10_odds_43 : decode cX10_odds 43 = .ok (.lconst 1, 1) := by decide +kernel
theorem dX10_odds_44 : decode cX10_odds 44 = .ok (.lstore_n 3, 1) := by decide +kernel
theorem dX10_odds_45 : decode cX10_odds 45 = .ok (.lconst 1, 1) := by decide +kernel
theorem dX10_odds_46 : decode cX10_odds 46 = .ok (.lstore 5, 2) := by decide +kernel
theorem dX10_odds_48 : decode cX10_odds 48 = .ok (.iconst 0, 1) := by decide +kernel
theorem dX10_odds_49 : decode cX10_odds 49 = .ok (.istore 7, 2) := by decide +kernel
theorem dX10_odds_51 : decode cX10_odds 51 = .ok (.iload 7, 2) := by decide +kernel
theorem dX10_odds_53 : decode cX10_odds 53 = .ok (.aload_n 0, 1) := by decide +kernel
theorem dX10_odds_54 : decode cX10_odds 54 = .ok (.getfield 9, 3) := by decide +kernel
theorem dX10_odds_57 : decode cX10_odds 57 = .ok (.iconst 2, 1) := by decide +kernel
theorem dX10_odds_58 : decode cX10_odds 58 = .ok (.iaload, 1) := by decide +kernel
theorem dX10_odds_59 : decode cX10_odds 59 = .ok (.if_icmp .ge 40, 3) := by decide +kernel
theorem dX10_odds_62 : decode cX10_odds 62 = .ok (.iload_n 1, 1) := by decide +kernel
theorem dX10_odds_63 : decode cX10_odds 63 = .ok (.iload 7, 2) := by decide +kernel
theorem dX10_odds_65 : decode cX10_odds 65 = .ok (.ishr, 1) := by decide +kernel
theorem dX10_odds_66 : decode cX10_odds 66 = .ok (.iconst 1, 1) := by decide +kernel
theorem dX10_odds_67 : decode cX10_odds 67 = .ok (.iand, 1) := by decide +kernel
theorem dX10_odds_68 : decode cX10_odds 68 = .ok (.iconst 1, 1) := by decide +kernel
theorem dX10_odds_69 : decode cX10_odds 69 = .ok (.if_icmp .ne 24, 3) := by decide +kernel
theorem dX10_odds_72 : decode cX10_odds 72 = .ok (.lload_n 3, 1) := by decide +kernel
theorem dX10_odds_73 : decode cX10_odds 73 = .ok (.bipush 100, 2) := by decide +kernel
theorem dX10_odds_75 : decode cX10_odds 75 = .ok (.aload_n 0, 1) := by decide +kernel
theorem dX10_odds_76 : decode cX10_odds 76 = .ok (.iload 7, 2) := by decide +kernel
theorem dX10_odds_78 : decode cX10_odds 78 = .ok (.invokevirtual 66, 3) := by decide +kernel
theorem dX10_odds_81 : decode cX10_odds 81 = .ok (.isub, 1) := by decide +kernel
theorem dX10_odds_82 : decode cX10_odds 82 = .ok (.i2l, 1) := by decide +kernel
theorem dX10_odds_83 : decode cX10_odds 83 = .ok (.lmul, 1) := by decide +kernel
theorem dX10_odds_84 : decode cX10_odds 84 = .ok (.lstore_n 3, 1) := by decide +kernel
theorem dX10_odds_85 : decode cX10_odds 85 = .ok (.lload 5, 2) := by decide +kernel
theorem dX10_odds_87 : decode cX10_odds 87 = .ok (.ldc2_w 216, 3) := by decide +kernel
theorem dX10_odds_90 : decode cX10_odds 90 = .ok (.lmul, 1) := by decide +kernel
theorem dX10_odds_91 : decode cX10_odds 91 = .ok (.lstore 5, 2) := by decide +kernel
theorem dX10_odds_93 : decode cX10_odds 93 = .ok (.iinc 7 1, 3) := by decide +kernel
theorem dX10_odds_96 : decode cX10_odds 96 = .ok (.goto (-45), 3) := by decide +kernel
theorem dX10_odds_99 : decode cX10_odds 99 = .ok (.lload_n 3, 1) := by decide +kernel
theorem dX10_odds_100 : decode cX10_odds 100 = .ok (.lstore 7, 2) := by decide +kernel
theorem dX10_odds_102 : decode cX10_odds 102 = .ok (.lload 5, 2) := by decide +kernel
theorem dX10_odds_104 : decode cX10_odds 104 = .ok (.lstore 9, 2) := by decide +kernel
theorem dX10_odds_106 : decode cX10_odds 106 = .ok (.lload 7, 2) := by decide +kernel
theorem dX10_odds_108 : decode cX10_odds 108 = .ok (.lconst 0, 1) := by decide +kernel
theorem dX10_odds_109 : decode cX10_odds 109 = .ok (.lcmp, 1) := by decide +kernel
theorem dX10_odds_110 : decode cX10_odds 110 = .ok (.ifCond .eq 21, 3) := by decide +kernel
theorem dX10_odds_113 : decode cX10_odds 113 = .ok (.lload 9, 2) := by decide +kernel
theorem dX10_odds_115 : decode cX10_odds 115 = .ok (.lload 7, 2) := by decide +kernel
theorem dX10_odds_117 : decode cX10_odds 117 = .ok (.lrem, 1) := by decide +kernel
theorem dX10_odds_118 : decode cX10_odds 118 = .ok (.lstore 11, 2) := by decide +kernel
theorem dX10_odds_120 : decode cX10_odds 120 = .ok (.lload 7, 2) := by decide +kernel
theorem dX10_odds_122 : decode cX10_odds 122 = .ok (.lstore 9, 2) := by decide +kernel
theorem dX10_odds_124 : decode cX10_odds 124 = .ok (.lload 11, 2) := by decide +kernel
theorem dX10_odds_126 : decode cX10_odds 126 = .ok (.lstore 7, 2) := by decide +kernel
theorem dX10_odds_128 : decode cX10_odds 128 = .ok (.goto (-22), 3) := by decide +kernel
theorem dX10_odds_131 : decode cX10_odds 131 = .ok (.iload_n 2, 1) := by decide +kernel
theorem dX10_odds_132 : decode cX10_odds 132 = .ok (.ifCond .ne 10, 3) := by decide +kernel
theorem dX10_odds_135 : decode cX10_odds 135 = .ok (.lload_n 3, 1) := by decide +kernel
theorem dX10_odds_136 : decode cX10_odds 136 = .ok (.lload 9, 2) := by decide +kernel
theorem dX10_odds_138 : decode cX10_odds 138 = .ok (.ldiv, 1) := by decide +kernel
theorem dX10_odds_139 : decode cX10_odds 139 = .ok (.goto 8, 3) := by decide +kernel
theorem dX10_odds_142 : decode cX10_odds 142 = .ok (.lload 5, 2) := by decide +kernel
theorem dX10_odds_144 : decode cX10_odds 144 = .ok (.lload 9, 2) := by decide +kernel
theorem dX10_odds_146 : decode cX10_odds 146 = .ok (.ldiv, 1) := by decide +kernel
theorem dX10_odds_147 : decode cX10_odds 147 = .ok (.lreturn, 1) := by decide +kernel
set_option maxRecDepth 20000 in
theorem ggX10_isSo_X10_takenBy : GoodIn wsX10_isSo wsX10_takenBy := goodIn_r _ [7, 8, 9, 10, 11, 6, 12, 13, 14, 15, 16, 17, 18, 19, 20, 21, 22, 23, 24, 25, 26, 27, 28, 29, 30, 31, 32, 33] (by decide +kernel) (by decide +kernel)
set_option maxRecDepth 20000 in
theorem gX10_isSo_X10_takenBy : GoodIn wsX10_isSo (wsV RX10 94 RX10 yX10_takenBy wsX10_takenBy) := goodIn_app (goodIn_of _ (by decide +kernel)) ggX10_isSo_X10_takenBy
theorem dX10_isSo_0 : decode cX10_isSo 0 = .ok (.aload_n 0, 1) := by decide +kernel
theorem dX10_isSo_1 : decode cX10_isSo 1 = .ok (.iconst (-1), 1) := by decide +kernel
theorem dX10_isSo_2 : decode cX10_isSo 2 = .ok (.invokevirtual 94, 3) := by decide +kernel
theorem dX10_isSo_5 : decode cX10_isSo 5 = .ok (.istore_n 2, 1) := by decide +kernel
theorem dX10_isSo_6 : decode cX10_isSo 6 = .ok (.iconst 1, 1) := by decide +kernel
theorem dX10_isSo_7 : decode cX10_isSo 7 = .ok (.istore_n 3, 1) := by decide +kernel
theorem dX10_isSo_8 : decode cX10_isSo 8 = .ok (.iconst 0, 1) := by decide +kernel
theorem dX10_isSo_9 : decode cX10_isSo 9 = .ok (.istore 4, 2) := by decide +kernel
theorem dX10_isSo_11 : decode cX10_isSo 11 = .ok (.iload 4, 2) := by decide +kernel
theorem dX10_isSo_13 : decode cX10_isSo 13 = .ok (.aload_n 0, 1) := by decide +kernel
theorem dX10_isSo_14 : decode cX10_isSo 14 = .ok (.getfield 25, 3) := by decide +kernel
theorem dX10_isSo_17 : decode cX10_isSo 17 = .ok (.iload_n 1, 1) := by decide +kernel
theorem dX10_isSo_18 : decode cX10_isSo 18 = .ok (.iaload, 1) := by decide +kernel
theorem dX10_isSo_19 : decode cX10_isSo 19 = .ok (.if_icmp .ge 40, 3) := by decide +kernel
theorem dX10_isSo_22 : decode cX10_isSo 22 = .ok (.iload_n 3, 1) := by decide +kernel
theorem dX10_isSo_23 : decode cX10_isSo 23 = .ok (.ifCond .eq 36, 3) := by decide +kernel
theorem dX10_isSo_26 : decode cX10_isSo 26 = .ok (.aload_n 0, 1) := by decide +kernel
theorem dX10_isSo_27 : decode cX10_isSo 27 = .ok (.getfield 28, 3) := by decide +kernel
theorem dX10_isSo_30 : decode cX10_isSo 30 = .ok (.bipush 24, 2) := by decide +kernel
theorem dX10_isSo_32 : decode cX10_isSo 32 = .ok (.iload_n 1, 1) := by decide +kernel
theorem dX10_isSo_33 : decode cX10_isSo 33 = .ok (.imul, 1) := by decide +kernel
theorem dX10_isSo_34 : decode cX10_isSo 34 = .ok (.iload 4, 2) := by decide +kernel
theorem dX10_isSo_36 : decode cX10_isSo 36 = .ok (.iadd, 1) := by decide +kernel
theorem dX10_isSo_37 : decode cX10_isSo 37 = .ok (.iaload, 1) := by decide +kernel
theorem dX10_isSo_38 : decode cX10_isSo 38 = .ok (.iload_n 2, 1) := by decide +kernel
theorem dX10_isSo_39 : decode cX10_isSo 39 = .ok (.iload 4, 2) := by decide +kernel
theorem dX10_isSo_41 : decode cX10_isSo 41 = .ok (.ishr, 1) := by decide +kernel
theorem dX10_isSo_42 : decode cX10_isSo 42 = .ok (.iconst 1, 1) := by decide +kernel
theorem dX10_isSo_43 : decode cX10_isSo 43 = .ok (.iand, 1) := by decide +kernel
theorem dX10_isSo_44 : decode cX10_isSo 44 = .ok (.if_icmp .ne 7, 3) := by decide +kernel
theorem dX10_isSo_47 : decode cX10_isSo 47 = .ok (.iconst 1, 1) := by decide +kernel
theorem dX10_isSo_48 : decode cX10_isSo 48 = .ok (.goto 4, 3) := by decide +kernel
theorem dX10_isSo_51 : decode cX10_isSo 51 = .ok (.iconst 0, 1) := by decide +kernel
theorem dX10_isSo_52 : decode cX10_isSo 52 = .ok (.istore_n 3, 1) := by decide +kernel
theorem dX10_isSo_53 : decode cX10_isSo 53 = .ok (.iinc 4 1, 3) := by decide +kernel
theorem dX10_isSo_56 : decode cX10_isSo 56 = .ok (.goto (-45), 3) := by decide +kernel
theorem dX10_isSo_59 : decode cX10_isSo 59 = .ok (.iload_n 3, 1) := by decide +kernel
theorem dX10_isSo_60 : decode cX10_isSo 60 = .ok (.ireturn, 1) := by decide +kernel
set_option maxRecDepth 20000 in
theorem ggX10_fits_X10_notThere : GoodIn wsX10_fits wsX10_notThere := goodIn_r _ [7, 8, 9, 2, 10, 11, 6, 12, 13, 14, 15, 60, 61, 62, 63, 64, 65, 66, 67, 68, 69, 70, 71, 72, 73, 74, 75, 76, 77, 78, 79, 80] (by decide +kernel) (by decide +kernel)
set_option maxRecDepth 20000 in
theorem gX10_fits_X10_notThere : GoodIn wsX10_fits (wsV RX10 213 RX10 yX10_notThere wsX10_notThere) := goodIn_app (goodIn_of _ (by decide +kernel)) ggX10_fits_X10_notThere
set_option maxRecDepth 20000 in
theorem ggX10_fits_X10_error : GoodIn wsX10_fits wsX10_error := goodIn_r _ [19, 20, 21, 60, 61, 62, 63, 64, 65, 66, 67, 68, 69, 70, 71, 72, 73, 74, 75, 76, 77, 78, 79, 80] (by decide +kernel) (by decide +kernel)
set_option maxRecDepth 20000 in
theorem gX10_fits_X10_error : GoodIn wsX10_fits (wsV RX10 87 RX10 yX10_error wsX10_error) := goodIn_app (goodIn_of _ (by decide +kernel)) ggX10_fits_X10_error
set_option maxRecDepth 20000 in
theorem ggX10_fits_X10_thinks : GoodIn wsX10_fits wsX10_thinks := goodIn_r _ [25, 26, 27, 28, 29, 6, 30, 60, 61, 62, 63, 64, 65, 66, 67, 68, 69, 70, 71, 72, 73, 74, 75, 76, 77, 78, 79, 80] (by decide +kernel) (by decide +kernel)
set_option maxRecDepth 20000 in
theorem gX10_fits_X10_thinks : GoodIn wsX10_fits (wsV RX10 201 RX10 yX10_thinks wsX10_thinks) := goodIn_app (goodIn_of _ (by decide +kernel)) ggX10_fits_X10_thinks
set_option maxRecDepth 20000 in
theorem ggX10_fits_X10_isSo : GoodIn wsX10_fits wsX10_isSo := goodIn_r _ [34, 1, 35, 36, 37, 38, 6, 39, 26, 40, 41, 42, 43, 60, 61, 62, 63, 64, 65, 66, 67, 68, 69, 70, 71, 72, 73, 74, 75, 76, 77, 78, 79, 80] (by decide +kernel) (by decide +kernel)
set_option maxRecDepth 20000 in
theorem gX10_fits_X10_isSo : GoodIn wsX10_fits (wsV RX10 218 RX10 yX10_isSo wsX10_isSo) := goodIn_app (goodIn_of _ (by decide +kernel)) ggX10_fits_X10_isSo
set_option maxRecDepth 20000 in
theorem ggX10_fits_X10_clearsDay : GoodIn wsX10_fits wsX10_clearsDay := goodIn_r _ [47, 26, 48, 49, 50, 6, 51, 40, 41, 42, 43, 52, 53, 54, 55, 60, 61, 62, 63, 64, 65, 66, 67, 68, 69, 70, 71, 72, 73, 74, 75, 76, 77, 78, 79, 80] (by decide +kernel) (by decide +kernel)
set_option maxRecDepth 20000 in
theorem gX10_fits_X10_clearsDay : GoodIn wsX10_fits (wsV RX10 204 RX10 yX10_clearsDay wsX10_clearsDay) := goodIn_app (goodIn_of _ (by decide +kernel)) ggX10_fits_X10_clearsDay
set_option maxRecDepth 20000 in
theorem ggX10_fits_X10_putsBack : GoodIn wsX10_fits wsX10_putsBack := goodIn_r _ [59, 27, 26, 28, 29, 6, 30, 60, 61, 62, 63, 64, 65, 66, 67, 68, 69, 70, 71, 72, 73, 74, 75, 76, 77, 78, 79, 80] (by decide +kernel) (by decide +kernel)
set_option maxRecDepth 20000 in
theorem gX10_fits_X10_putsBack : GoodIn wsX10_fits (wsV RX10 207 RX10 yX10_putsBack wsX10_putsBack) := goodIn_app (goodIn_of _ (by decide +kernel)) ggX10_fits_X10_putsBack
theorem dX10_fits_0 : decode cX10_fits 0 = .ok (.aload_n 0, 1) := by decide +kernel
theorem dX10_fits_1 : decode cX10_fits 1 = .ok (.iload_n 1, 1) := by decide +kernel
theorem dX10_fits_2 : decode cX10_fits 2 = .ok (.invokevirtual 213, 3) := by decide +kernel
theorem dX10_fits_5 : decode cX10_fits 5 = .ok (.istore_n 2, 1) := by decide +kernel
theorem dX10_fits_6 : decode cX10_fits 6 = .ok (.iload_n 2, 1) := by decide +kernel
theorem dX10_fits_7 : decode cX10_fits 7 = .ok (.ifCond .eq 9, 3) := by decide +kernel
theorem dX10_fits_10 : decode cX10_fits 10 = .ok (.aload_n 0, 1) := by decide +kernel
theorem dX10_fits_11 : decode cX10_fits 11 = .ok (.iload_n 2, 1) := by decide +kernel
theorem dX10_fits_12 : decode cX10_fits 12 = .ok (.invokevirtual 87, 3) := by decide +kernel
theorem dX10_fits_15 : decode cX10_fits 15 = .ok (.ireturn, 1) := by decide +kernel
theorem dX10_fits_16 : decode cX10_fits 16 = .ok (.aload_n 0, 1) := by decide +kernel
theorem dX10_fits_17 : decode cX10_fits 17 = .ok (.getfield 25, 3) := by decide +kernel
theorem dX10_fits_20 : decode cX10_fits 20 = .ok (.iload_n 1, 1) := by decide +kernel
theorem dX10_fits_21 : decode cX10_fits 21 = .ok (.iaload, 1) := by decide +kernel
theorem dX10_fits_22 : decode cX10_fits 22 = .ok (.bipush 12, 2) := by decide +kernel
theorem dX10_fits_24 : decode cX10_fits 24 = .ok (.if_icmp .le 10, 3) := by decide +kernel
theorem dX10_fits_27 : decode cX10_fits 27 = .ok (.aload_n 0, 1) := by decide +kernel
theorem dX10_fits_28 : decode cX10_fits 28 = .ok (.ldc 191, 2) := by decide +kernel
theorem dX10_fits_30 : decode cX10_fits 30 = .ok (.invokevirtual 87, 3) := by decide +kernel
theorem dX10_fits_33 : decode cX10_fits 33 = .ok (.ireturn, 1) := by decide +kernel
theorem dX10_fits_34 : decode cX10_fits 34 = .ok (.aload_n 0, 1) := by decide +kernel
theorem dX10_fits_35 : decode cX10_fits 35 = .ok (.invokevirtual 201, 3) := by decide +kernel
theorem dX10_fits_38 : decode cX10_fits 38 = .ok (.iconst 0, 1) := by decide +kernel
theorem dX10_fits_39 : decode cX10_fits 39 = .ok (.istore_n 3, 1) := by decide +kernel
theorem dX10_fits_40 : decode cX10_fits 40 = .ok (.iload_n 3, 1) := by decide +kernel
theorem dX10_fits_41 : decode cX10_fits 41 = .ok (.bipush 90, 2) := by decide +kernel
theorem dX10_fits_43 : decode cX10_fits 43 = .ok (.if_icmp .gt 21, 3) := by decide +kernel
theorem dX10_fits_46 : decode cX10_fits 46 = .ok (.aload_n 0, 1) := by decide +kernel
theorem dX10_fits_47 : decode cX10_fits 47 = .ok (.iload_n 1, 1) := by decide +kernel
theorem dX10_fits_48 : decode cX10_fits 48 = .ok (.invokevirtual 218, 3) := by decide +kernel
theorem dX10_fits_51 : decode cX10_fits 51 = .ok (.ifCond .ne 13, 3) := by decide +kernel
theorem dX10_fits_54 : decode cX10_fits 54 = .ok (.aload_n 0, 1) := by decide +kernel
theorem dX10_fits_55 : decode cX10_fits 55 = .ok (.invokevirtual 204, 3) := by decide +kernel
theorem dX10_fits_58 : decode cX10_fits 58 = .ok (.iinc 3 1, 3) := by decide +kernel
theorem dX10_fits_61 : decode cX10_fits 61 = .ok (.goto (-21), 3) := by decide +kernel
theorem dX10_fits_64 : decode cX10_fits 64 = .ok (.aload_n 0, 1) := by decide +kernel
theorem dX10_fits_65 : decode cX10_fits 65 = .ok (.invokevirtual 207, 3) := by decide +kernel
theorem dX10_fits_68 : decode cX10_fits 68 = .ok (.iload_n 3, 1) := by decide +kernel
theorem dX10_fits_69 : decode cX10_fits 69 = .ok (.bipush 90, 2) := by decide +kernel
theorem dX10_fits_71 : decode cX10_fits 71 = .ok (.if_icmp .le 12, 3) := by decide +kernel
theorem dX10_fits_74 : decode cX10_fits 74 = .ok (.aload_n 0, 1) := by decide +kernel
theorem dX10_fits_75 : decode cX10_fits 75 = .ok (.ldc 191, 2) := by decide +kernel
theorem dX10_fits_77 : decode cX10_fits 77 = .ok (.invokevirtual 87, 3) := by decide +kernel
theorem dX10_fits_80 : decode cX10_fits 80 = .ok (.goto 4, 3) := by decide +kernel
theorem dX10_fits_83 : decode cX10_fits 83 = .ok (.iload_n 3, 1) := by decide +kernel
theorem dX10_fits_84 : decode cX10_fits 84 = .ok (.ireturn, 1) := by decide +kernel
theorem dX10_begins_0 : decode cX10_begins 0 = .ok (.aload_n 0, 1) := by decide +kernel
theorem dX10_begins_1 : decode cX10_begins 1 = .ok (.getfield 221, 3) := by decide +kernel
theorem dX10_begins_4 : decode cX10_begins 4 = .ok (.bipush 30, 2) := by decide +kernel
theorem dX10_begins_6 : decode cX10_begins 6 = .ok (.if_icmp .ge 23, 3) := by decide +kernel
theorem dX10_begins_9 : decode cX10_begins 9 = .ok (.aload_n 0, 1) := by decide +kernel
theorem dX10_begins_10 : decode cX10_begins 10 = .ok (.getfield 46, 3) := by decide +kernel
theorem dX10_begins_13 : decode cX10_begins 13 = .ok (.aload_n 0, 1) := by decide +kernel
theorem dX10_begins_14 : decode cX10_begins 14 = .ok (.getfield 221, 3) := by decide +kernel
theorem dX10_begins_17 : decode cX10_begins 17 = .ok (.iload_n 1, 1) := by decide +kernel
theorem dX10_begins_18 : decode cX10_begins 18 = .ok (.iastore, 1) := by decide +kernel
theorem dX10_begins_19 : decode cX10_begins 19 = .ok (.aload_n 0, 1) := by decide +kernel
theorem dX10_begins_20 : decode cX10_begins 20 = .ok (.dup, 1) := by decide +kernel
theorem dX10_begins_21 : decode cX10_begins 21 = .ok (.getfield 221, 3) := by decide +kernel
theorem dX10_begins_24 : decode cX10_begins 24 = .ok (.iconst 1, 1) := by decide +kernel
theorem dX10_begins_25 : decode cX10_begins 25 = .ok (.iadd, 1) := by decide +kernel
theorem dX10_begins_26 : decode cX10_begins 26 = .ok (.putfield 221, 3) := by decide +kernel
theorem dX10_begins_29 : decode cX10_begins 29 = .ok (.return_, 1) := by decide +kernel
set_option maxRecDepth 20000 in
theorem ggX10_plainSqueaks_X10_begins : GoodIn wsX10_plainSqueaks wsX10_begins := goodIn_r _ [5, 6, 7, 8, 9, 10, 11, 12, 13, 14, 15, 16, 17, 18, 19, 20, 21, 22, 23, 24, 25, 26, 27, 28] (by decide +kernel) (by decide +kernel)
set_option maxRecDepth 20000 in
theorem gX10_plainSqueaks_X10_begins : GoodIn wsX10_plainSqueaks (wsV RX10 224 RX10 yX10_begins wsX10_begins) := goodIn_app (goodIn_of _ (by decide +kernel)) ggX10_plainSqueaks_X10_begins
theorem dX10_plainSqueaks_0 : decode cX10_plainSqueaks 0 = .ok (.aload_n 0, 1) := by decide +kernel
theorem dX10_plainSqueaks_1 : decode cX10_plainSqueaks 1 = .ok (.bipush 10, 2) := by decide +kernel
theorem dX10_plainSqueaks_3 : decode cX10_plainSqueaks 3 = .ok (.invokevirtual 224, 3) := by decide +kernel
theorem dX10_plainSqueaks_6 : decode cX10_plainSqueaks 6 = .ok (.iload_n 2, 1) := by decide +kernel
theorem dX10_plainSqueaks_7 : decode cX10_plainSqueaks 7 = .ok (.iload_n 1, 1) := by decide +kernel
theorem dX10_plainSqueaks_8 : decode cX10_plainSqueaks 8 = .ok (.iadd, 1) := by decide +kernel
theorem dX10_plainSqueaks_9 : decode cX10_plainSqueaks 9 = .ok (.ireturn, 1) := by decide +kernel
set_option maxRecDepth 20000 in
theorem ggX10_sumSqueaks_X10_begins : GoodIn wsX10_sumSqueaks wsX10_begins := goodIn_r _ [5, 6, 7, 12, 13, 14, 15, 16, 17, 18, 19, 20, 21, 22, 23, 24, 25, 26, 27, 28, 29, 30, 31, 32] (by decide +kernel) (by decide +kernel)
set_option maxRecDepth 20000 in
theorem gX10_sumSqueaks_X10_begins : GoodIn wsX10_sumSqueaks (wsV RX10 224 RX10 yX10_begins wsX10_begins) := goodIn_app (goodIn_of _ (by decide +kernel)) ggX10_sumSqueaks_X10_begins
set_option maxRecDepth 20000 in
theorem ggX10_sumSqueaks_X10_plainSqueaks : GoodIn wsX10_sumSqueaks wsX10_plainSqueaks := goodIn_r _ [11, 1, 2, 3, 4, 5, 6, 7, 12, 13, 14, 15, 16, 17, 18, 19, 20, 21, 22, 23, 24, 25, 26, 27, 28, 29, 30, 31, 32] (by decide +kernel) (by decide +kernel)
set_option maxRecDepth 20000 in
theorem gX10_sumSqueaks_X10_plainSqueaks : GoodIn wsX10_sumSqueaks (wsV RX10 227 RX10 yX10_plainSqueaks wsX10_plainSqueaks) := goodIn_app (goodIn_of _ (by decide +kernel)) ggX10_sumSqueaks_X10_plainSqueaks
theorem dX10_sumSqueaks_0 : decode cX10_sumSqueaks 0 = .ok (.aload_n 0, 1) := by decide +kernel
theorem dX10_sumSqueaks_1 : decode cX10_sumSqueaks 1 = .ok (.bipush 20, 2) := by decide +kernel
theorem dX10_sumSqueaks_3 : decode cX10_sumSqueaks 3 = .ok (.invokevirtual 224, 3) := by decide +kernel
theorem dX10_sumSqueaks_6 : decode cX10_sumSqueaks 6 = .ok (.aload_n 0, 1) := by decide +kernel
theorem dX10_sumSqueaks_7 : decode cX10_sumSqueaks 7 = .ok (.iload_n 1, 1) := by decide +kernel
theorem dX10_sumSqueaks_8 : decode cX10_sumSqueaks 8 = .ok (.iload_n 2, 1) := by decide +kernel
theorem dX10_sumSqueaks_9 : decode cX10_sumSqueaks 9 = .ok (.invokevirtual 227, 3) := by decide +kernel
theorem dX10_sumSqueaks_12 : decode cX10_sumSqueaks 12 = .ok (.iconst 4, 1) := by decide +kernel
theorem dX10_sumSqueaks_13 : decode cX10_sumSqueaks 13 = .ok (.isub, 1) := by decide +kernel
theorem dX10_sumSqueaks_14 : decode cX10_sumSqueaks 14 = .ok (.ireturn, 1) := by decide +kernel
set_option maxRecDepth 20000 in
theorem ggX10_squeaks_X10_it : GoodIn wsX10_squeaks wsX10_it := goodIn_r _ [5, 6, 21, 22, 23, 24, 25, 26, 27, 28, 29, 30, 31, 32, 33, 34, 35, 36, 37, 38, 39, 40, 41] (by decide +kernel) (by decide +kernel)
set_option maxRecDepth 20000 in
theorem gX10_squeaks_X10_it : GoodIn wsX10_squeaks (wsV RX10 58 RX10 yX10_it wsX10_it) := goodIn_app (goodIn_of _ (by decide +kernel)) ggX10_squeaks_X10_it
set_option maxRecDepth 20000 in
theorem ggX10_squeaks_X10_sumSqueaks : GoodIn wsX10_squeaks wsX10_sumSqueaks := goodIn_r _ [10, 11, 12, 13, 4, 14, 15, 16, 17, 18, 19, 20, 21, 22, 23, 24, 25, 26, 27, 28, 29, 30, 31, 32, 33, 34, 35, 36, 37, 38, 39, 40, 41] (by decide +kernel) (by decide +kernel)
set_option maxRecDepth 20000 in
theorem gX10_squeaks_X10_sumSqueaks : GoodIn wsX10_squeaks (wsV RX10 230 RX10 yX10_sumSqueaks wsX10_sumSqueaks) := goodIn_app (goodIn_of _ (by decide +kernel)) ggX10_squeaks_X10_sumSqueaks
set_option maxRecDepth 20000 in
theorem ggX10_squeaks_X10_begins : GoodIn wsX10_squeaks wsX10_begins := goodIn_r _ [14, 15, 16, 21, 22, 23, 24, 25, 26, 27, 28, 29, 30, 31, 32, 33, 34, 35, 36, 37, 38, 39, 40, 41] (by decide +kernel) (by decide +kernel)
set_option maxRecDepth 20000 in
theorem gX10_squeaks_X10_begins : GoodIn wsX10_squeaks (wsV RX10 224 RX10 yX10_begins wsX10_begins) := goodIn_app (goodIn_of _ (by decide +kernel)) ggX10_squeaks_X10_begins
set_option maxRecDepth 20000 in
theorem ggX10_squeaks_X10_plainSqueaks : GoodIn wsX10_squeaks wsX10_plainSqueaks := goodIn_r _ [20, 11, 12, 13, 4, 14, 15, 16, 21, 22, 23, 24, 25, 26, 27, 28, 29, 30, 31, 32, 33, 34, 35, 36, 37, 38, 39, 40, 41] (by decide +kernel) (by decide +kernel)
set_option maxRecDepth 20000 in
theorem gX10_squeaks_X10_plainSqueaks : GoodIn wsX10_squeaks (wsV RX10 227 RX10 yX10_plainSqueaks wsX10_plainSqueaks) := goodIn_app (goodIn_of _ (by decide +kernel)) ggX10_squeaks_X10_plainSqueaks
theorem dX10_squeaks_0 : decode cX10_squeaks 0 = .ok (.aload_n 0, 1) := by decide +kernel
theorem dX10_squeaks_1 : decode cX10_squeaks 1 = .ok (.iload_n 1, 1) := by decide +kernel
theorem dX10_squeaks_2 : decode cX10_squeaks 2 = .ok (.iconst 0, 1) := by decide +kernel
theorem dX10_squeaks_3 : decode cX10_squeaks 3 = .ok (.invokevirtual 58, 3) := by decide +kernel
theorem dX10_squeaks_6 : decode cX10_squeaks 6 = .ok (.lookupswitch 65 #[(1, 34), (4, 41), (6, 56)], 34) := by decide +kernel
theorem dX10_squeaks_40 : decode cX10_squeaks 40 = .ok (.aload_n 0, 1) := by decide +kernel
theorem dX10_squeaks_41 : decode cX10_squeaks 41 = .ok (.iload_n 1, 1) := by decide +kernel
theorem dX10_squeaks_42 : decode cX10_squeaks 42 = .ok (.iload_n 2, 1) := by decide +kernel
theorem dX10_squeaks_43 : decode cX10_squeaks 43 = .ok (.invokevirtual 230, 3) := by decide +kernel
theorem dX10_squeaks_46 : decode cX10_squeaks 46 = .ok (.ireturn, 1) := by decide +kernel
theorem dX10_squeaks_47 : decode cX10_squeaks 47 = .ok (.aload_n 0, 1) := by decide +kernel
theorem dX10_squeaks_48 : decode cX10_squeaks 48 = .ok (.bipush 50, 2) := by decide +kernel
theorem dX10_squeaks_50 : decode cX10_squeaks 50 = .ok (.invokevirtual 224, 3) := by decide +kernel
theorem dX10_squeaks_53 : decode cX10_squeaks 53 = .ok (.aload_n 0, 1) := by decide +kernel
theorem dX10_squeaks_54 : decode cX10_squeaks 54 = .ok (.iload_n 1, 1) := by decide +kernel
theorem dX10_squeaks_55 : decode cX10_squeaks 55 = .ok (.iload_n 2, 1) := by decide +kernel
theorem dX10_squeaks_56 : decode cX10_squeaks 56 = .ok (.invokevirtual 230, 3) := by decide +kernel
theorem dX10_squeaks_59 : decode cX10_squeaks 59 = .ok (.iconst 3, 1) := by decide +kernel
theorem dX10_squeaks_60 : decode cX10_squeaks 60 = .ok (.imul, 1) := by decide +kernel
theorem dX10_squeaks_61 : decode cX10_squeaks 61 = .ok (.ireturn, 1) := by decide +kernel
theorem dX10_squeaks_62 : decode cX10_squeaks 62 = .ok (.aload_n 0, 1) := by decide +kernel
theorem dX10_squeaks_63 : decode cX10_squeaks 63 = .ok (.bipush 70, 2) := by decide +kernel
theorem dX10_squeaks_65 : decode cX10_squeaks 65 = .ok (.invokevirtual 224, 3) := by decide +kernel
theorem dX10_squeaks_68 : decode cX10_squeaks 68 = .ok (.bipush 9, 2) := by decide +kernel
theorem dX10_squeaks_70 : decode cX10_squeaks 70 = .ok (.ireturn, 1) := by decide +kernel
theorem dX10_squeaks_71 : decode cX10_squeaks 71 = .ok (.aload_n 0, 1) := by decide +kernel
theorem dX10_squeaks_72 : decode cX10_squeaks 72 = .ok (.iload_n 1, 1) := by decide +kernel
theorem dX10_squeaks_73 : decode cX10_squeaks 73 = .ok (.iload_n 2, 1) := by decide +kernel
theorem dX10_squeaks_74 : decode cX10_squeaks 74 = .ok (.invokevirtual 227, 3) := by decide +kernel
theorem dX10_squeaks_77 : decode cX10_squeaks 77 = .ok (.ireturn, 1) := by decide +kernel
set_option maxRecDepth 20000 in
theorem ggX10_plainSmears_X10_begins : GoodIn wsX10_plainSmears wsX10_begins := goodIn_r _ [5, 6, 7, 25, 26, 27, 28, 29, 30, 31, 32, 33, 34, 35, 36, 37, 38, 39, 40, 41, 42, 43, 44, 45] (by decide +kernel) (by decide +kernel)
set_option maxRecDepth 20000 in
theorem gX10_plainSmears_X10_begins : GoodIn wsX10_plainSmears (wsV RX10 224 RX10 yX10_begins wsX10_begins) := goodIn_app (goodIn_of _ (by decide +kernel)) ggX10_plainSmears_X10_begins
set_option maxRecDepth 20000 in
theorem ggX10_plainSmears_X10_squeaks : GoodIn wsX10_plainSmears wsX10_squeaks := goodIn_r _ [11, 12, 13, 14, 4, 15, 16, 17, 18, 19, 20, 1, 2, 3, 5, 6, 7, 21, 22, 23, 24, 25, 26, 27, 28, 29, 30, 31, 32, 33, 34, 35, 36, 37, 38, 39, 40, 41, 42, 43, 44, 45] (by decide +kernel) (by decide +kernel)
set_option maxRecDepth 20000 in
theorem gX10_plainSmears_X10_squeaks : GoodIn wsX10_plainSmears (wsV RX10 233 RX10 yX10_squeaks wsX10_squeaks) := goodIn_app (goodIn_of _ (by decide +kernel)) ggX10_plainSmears_X10_squeaks
theorem dX10_plainSmears_0 : decode cX10_plainSmears 0 = .ok (.aload_n 0, 1) := by decide +kernel
theorem dX10_plainSmears_1 : decode cX10_plainSmears 1 = .ok (.bipush 11, 2) := by decide +kernel
theorem dX10_plainSmears_3 : decode cX10_plainSmears 3 = .ok (.invokevirtual 224, 3) := by decide +kernel
theorem dX10_plainSmears_6 : decode cX10_plainSmears 6 = .ok (.aload_n 0, 1) := by decide +kernel
theorem dX10_plainSmears_7 : decode cX10_plainSmears 7 = .ok (.iload_n 1, 1) := by decide +kernel
theorem dX10_plainSmears_8 : decode cX10_plainSmears 8 = .ok (.iload_n 2, 1) := by decide +kernel
theorem dX10_plainSmears_9 : decode cX10_plainSmears 9 = .ok (.invokevirtual 233, 3) := by decide +kernel
theorem dX10_plainSmears_12 : decode cX10_plainSmears 12 = .ok (.iconst 2, 1) := by decide +kernel
theorem dX10_plainSmears_13 : decode cX10_plainSmears 13 = .ok (.imul, 1) := by decide +kernel
theorem dX10_plainSmears_14 : decode cX10_plainSmears 14 = .ok (.ireturn, 1) := by decide +kernel
set_option maxRecDepth 20000 in
theorem ggX10_arrowSmears_X10_begins : GoodIn wsX10_arrowSmears wsX10_begins := goodIn_r _ [5, 6, 7, 29, 30, 31, 32, 33, 34, 35, 36, 37, 38, 39, 40, 41, 42, 43, 44, 45, 46, 47, 48, 49] (by decide +kernel) (by decide +kernel)
set_option maxRecDepth 20000 in
theorem gX10_arrowSmears_X10_begins : GoodIn wsX10_arrowSmears (wsV RX10 224 RX10 yX10_begins wsX10_begins) := goodIn_app (goodIn_of _ (by decide +kernel)) ggX10_arrowSmears_X10_begins
set_option maxRecDepth 20000 in
theorem ggX10_arrowSmears_X10_plainSmears : GoodIn wsX10_arrowSmears wsX10_plainSmears := goodIn_r _ [11, 1, 2, 3, 4, 5, 6, 7, 12, 13, 14, 15, 16, 17, 18, 19, 20, 21, 22, 23, 24, 25, 26, 27, 28, 29, 30, 31, 32, 33, 34, 35, 36, 37, 38, 39, 40, 41, 42, 43, 44, 45, 46, 47, 48, 49] (by decide +kernel) (by decide +kernel)
set_option maxRecDepth 20000 in
theorem gX10_arrowSmears_X10_plainSmears : GoodIn wsX10_arrowSmears (wsV RX10 236 RX10 yX10_plainSmears wsX10_plainSmears) := goodIn_app (goodIn_of _ (by decide +kernel)) ggX10_arrowSmears_X10_plainSmears
theorem dX10_arrowSmears_0 : decode cX10_arrowSmears 0 = .ok (.aload_n 0, 1) := by decide +kernel
theorem dX10_arrowSmears_1 : decode cX10_arrowSmears 1 = .ok (.bipush 30, 2) := by decide +kernel
theorem dX10_arrowSmears_3 : decode cX10_arrowSmears 3 = .ok (.invokevirtual 224, 3) := by decide +kernel
theorem dX10_arrowSmears_6 : decode cX10_arrowSmears 6 = .ok (.aload_n 0, 1) := by decide +kernel
theorem dX10_arrowSmears_7 : decode cX10_arrowSmears 7 = .ok (.iload_n 1, 1) := by decide +kernel
theorem dX10_arrowSmears_8 : decode cX10_arrowSmears 8 = .ok (.iload_n 2, 1) := by decide +kernel
theorem dX10_arrowSmears_9 : decode cX10_arrowSmears 9 = .ok (.invokevirtual 236, 3) := by decide +kernel
theorem dX10_arrowSmears_12 : decode cX10_arrowSmears 12 = .ok (.ineg, 1) := by decide +kernel
theorem dX10_arrowSmears_13 : decode cX10_arrowSmears 13 = .ok (.ireturn, 1) := by decide +kernel
set_option maxRecDepth 20000 in
theorem ggX10_smears_X10_it : GoodIn wsX10_smears wsX10_it := goodIn_r _ [5, 6, 33, 34, 35, 36, 37, 38, 39, 40, 41, 42, 43, 44, 45, 46, 47, 48, 49, 50, 51, 52, 53] (by decide +kernel) (by decide +kernel)
set_option maxRecDepth 20000 in
theorem gX10_smears_X10_it : GoodIn wsX10_smears (wsV RX10 58 RX10 yX10_it wsX10_it) := goodIn_app (goodIn_of _ (by decide +kernel)) ggX10_smears_X10_it
set_option maxRecDepth 20000 in
theorem ggX10_smears_X10_arrowSmears : GoodIn wsX10_smears wsX10_arrowSmears := goodIn_r _ [10, 11, 12, 13, 4, 14, 15, 16, 17, 18, 19, 20, 21, 22, 23, 24, 1, 2, 3, 5, 6, 25, 26, 27, 28, 29, 30, 31, 32, 33, 34, 35, 36, 37, 38, 39, 40, 41, 42, 43, 44, 45, 46, 47, 48, 49, 50, 51, 52, 53] (by decide +kernel) (by decide +kernel)
set_option maxRecDepth 20000 in
theorem gX10_smears_X10_arrowSmears : GoodIn wsX10_smears (wsV RX10 239 RX10 yX10_arrowSmears wsX10_arrowSmears) := goodIn_app (goodIn_of _ (by decide +kernel)) ggX10_smears_X10_arrowSmears
set_option maxRecDepth 20000 in
theorem ggX10_smears_X10_begins : GoodIn wsX10_smears wsX10_begins := goodIn_r _ [14, 15, 16, 33, 34, 35, 36, 37, 38, 39, 40, 41, 42, 43, 44, 45, 46, 47, 48, 49, 50, 51, 52, 53] (by decide +kernel) (by decide +kernel)
set_option maxRecDepth 20000 in
theorem gX10_smears_X10_begins : GoodIn wsX10_smears (wsV RX10 224 RX10 yX10_begins wsX10_begins) := goodIn_app (goodIn_of _ (by decide +kernel)) ggX10_smears_X10_begins
set_option maxRecDepth 20000 in
theorem ggX10_smears_X10_plainSmears : GoodIn wsX10_smears wsX10_plainSmears := goodIn_r _ [20, 11, 12, 13, 4, 14, 15, 16, 21, 22, 23, 24, 1, 2, 3, 5, 6, 25, 26, 27, 28, 29, 30, 31, 32, 33, 34, 35, 36, 37, 38, 39, 40, 41, 42, 43, 44, 45, 46, 47, 48, 49, 50, 51, 52, 53] (by decide +kernel) (by decide +kernel)
set_option maxRecDepth 20000 in
theorem gX10_smears_X10_plainSmears : GoodIn wsX10_smears (wsV RX10 236 RX10 yX10_plainSmears wsX10_plainSmears) := goodIn_app (goodIn_of _ (by decide +kernel)) ggX10_smears_X10_plainSmears
theorem dX10_smears_0 : decode cX10_smears 0 = .ok (.aload_n 0, 1) := by decide +kernel
theorem dX10_smears_1 : decode cX10_smears 1 = .ok (.iload_n 1, 1) := by decide +kernel
theorem dX10_smears_2 : decode cX10_smears 2 = .ok (.iconst 0, 1) := by decide +kernel
theorem dX10_smears_3 : decode cX10_smears 3 = .ok (.invokevirtual 58, 3) := by decide +kernel
theorem dX10_smears_6 : decode cX10_smears 6 = .ok (.tableswitch 76 2 6 #[34, 76, 76, 41, 56], 34) := by decide +kernel
theorem dX10_smears_40 : decode cX10_smears 40 = .ok (.aload_n 0, 1) := by decide +kernel
theorem dX10_smears_41 : decode cX10_smears 41 = .ok (.iload_n 1, 1) := by decide +kernel
theorem dX10_smears_42 : decode cX10_smears 42 = .ok (.iload_n 2, 1) := by decide +kernel
theorem dX10_smears_43 : decode cX10_smears 43 = .ok (.invokevirtual 239, 3) := by decide +kernel
theorem dX10_smears_46 : decode cX10_smears 46 = .ok (.ireturn, 1) := by decide +kernel
theorem dX10_smears_47 : decode cX10_smears 47 = .ok (.aload_n 0, 1) := by decide +kernel
theorem dX10_smears_48 : decode cX10_smears 48 = .ok (.bipush 60, 2) := by decide +kernel
theorem dX10_smears_50 : decode cX10_smears 50 = .ok (.invokevirtual 224, 3) := by decide +kernel
theorem dX10_smears_53 : decode cX10_smears 53 = .ok (.aload_n 0, 1) := by decide +kernel
theorem dX10_smears_54 : decode cX10_smears 54 = .ok (.iload_n 1, 1) := by decide +kernel
theorem dX10_smears_55 : decode cX10_smears 55 = .ok (.iload_n 2, 1) := by decide +kernel
theorem dX10_smears_56 : decode cX10_smears 56 = .ok (.iconst 1, 1) := by decide +kernel
theorem dX10_smears_57 : decode cX10_smears 57 = .ok (.iadd, 1) := by decide +kernel
theorem dX10_smears_58 : decode cX10_smears 58 = .ok (.invokevirtual 239, 3) := by decide +kernel
theorem dX10_smears_61 : decode cX10_smears 61 = .ok (.ireturn, 1) := by decide +kernel
theorem dX10_smears_62 : decode cX10_smears 62 = .ok (.aload_n 0, 1) := by decide +kernel
theorem dX10_smears_63 : decode cX10_smears 63 = .ok (.bipush 71, 2) := by decide +kernel
theorem dX10_smears_65 : decode cX10_smears 65 = .ok (.invokevirtual 224, 3) := by decide +kernel
theorem dX10_smears_68 : decode cX10_smears 68 = .ok (.aload_n 0, 1) := by decide +kernel
theorem dX10_smears_69 : decode cX10_smears 69 = .ok (.iload_n 1, 1) := by decide +kernel
theorem dX10_smears_70 : decode cX10_smears 70 = .ok (.iload_n 2, 1) := by decide +kernel
theorem dX10_smears_71 : decode cX10_smears 71 = .ok (.invokevirtual 236, 3) := by decide +kernel
theorem dX10_smears_74 : decode cX10_smears 74 = .ok (.aload_n 0, 1) := by decide +kernel
theorem dX10_smears_75 : decode cX10_smears 75 = .ok (.iload_n 1, 1) := by decide +kernel
theorem dX10_smears_76 : decode cX10_smears 76 = .ok (.iconst 1, 1) := by decide +kernel
theorem dX10_smears_77 : decode cX10_smears 77 = .ok (.invokevirtual 58, 3) := by decide +kernel
theorem dX10_smears_80 : decode cX10_smears 80 = .ok (.iadd, 1) := by decide +kernel
theorem dX10_smears_81 : decode cX10_smears 81 = .ok (.ireturn, 1) := by decide +kernel
theorem dX10_smears_82 : decode cX10_smears 82 = .ok (.aload_n 0, 1) := by decide +kernel
theorem dX10_smears_83 : decode cX10_smears 83 = .ok (.iload_n 1, 1) := by decide +kernel
theorem dX10_smears_84 : decode cX10_smears 84 = .ok (.iload_n 2, 1) := by decide +kernel
theorem dX10_smears_85 : decode cX10_smears 85 = .ok (.invokevirtual 236, 3) := by decide +kernel
theorem dX10_smears_88 : decode cX10_smears 88 = .ok (.ireturn, 1) := by decide +kernel
set_option maxRecDepth 20000 in
theorem ggX10_plainStays_X10_begins : GoodIn wsX10_plainStays wsX10_begins := goodIn_r _ [5, 6, 7, 37, 38, 39, 40, 41, 42, 43, 44, 45, 46, 47, 48, 49, 50, 51, 52, 53, 54, 55, 56, 57] (by decide +kernel) (by decide +kernel)
set_option maxRecDepth 20000 in
theorem gX10_plainStays_X10_begins : GoodIn wsX10_plainStays (wsV RX10 224 RX10 yX10_begins wsX10_begins) := goodIn_app (goodIn_of _ (by decide +kernel)) ggX10_plainStays_X10_begins
set_option maxRecDepth 20000 in
theorem ggX10_plainStays_X10_smears : GoodIn wsX10_plainStays wsX10_smears := goodIn_r _ [11, 12, 13, 14, 4, 15, 16, 17, 18, 19, 20, 1, 2, 3, 5, 6, 7, 21, 22, 23, 24, 25, 26, 27, 28, 29, 30, 31, 32, 33, 34, 35, 36, 37, 38, 39, 40, 41, 42, 43, 44, 45, 46, 47, 48, 49, 50, 51, 52, 53, 54, 55, 56, 57] (by decide +kernel) (by decide +kernel)
set_option maxRecDepth 20000 in
theorem gX10_plainStays_X10_smears : GoodIn wsX10_plainStays (wsV RX10 242 RX10 yX10_smears wsX10_smears) := goodIn_app (goodIn_of _ (by decide +kernel)) ggX10_plainStays_X10_smears
set_option maxRecDepth 20000 in
theorem ggX10_plainStays_X10_it : GoodIn wsX10_plainStays wsX10_it := goodIn_r _ [15, 16, 37, 38, 39, 40, 41, 42, 43, 44, 45, 46, 47, 48, 49, 50, 51, 52, 53, 54, 55, 56, 57] (by decide +kernel) (by decide +kernel)
set_option maxRecDepth 20000 in
theorem gX10_plainStays_X10_it : GoodIn wsX10_plainStays (wsV RX10 58 RX10 yX10_it wsX10_it) := goodIn_app (goodIn_of _ (by decide +kernel)) ggX10_plainStays_X10_it
theorem dX10_plainStays_0 : decode cX10_plainStays 0 = .ok (.aload_n 0, 1) := by decide +kernel
theorem dX10_plainStays_1 : decode cX10_plainStays 1 = .ok (.bipush 12, 2) := by decide +kernel
theorem dX10_plainStays_3 : decode cX10_plainStays 3 = .ok (.invokevirtual 224, 3) := by decide +kernel
theorem dX10_plainStays_6 : decode cX10_plainStays 6 = .ok (.aload_n 0, 1) := by decide +kernel
theorem dX10_plainStays_7 : decode cX10_plainStays 7 = .ok (.iload_n 1, 1) := by decide +kernel
theorem dX10_plainStays_8 : decode cX10_plainStays 8 = .ok (.iload_n 2, 1) := by decide +kernel
theorem dX10_plainStays_9 : decode cX10_plainStays 9 = .ok (.invokevirtual 242, 3) := by decide +kernel
theorem dX10_plainStays_12 : decode cX10_plainStays 12 = .ok (.aload_n 0, 1) := by decide +kernel
theorem dX10_plainStays_13 : decode cX10_plainStays 13 = .ok (.iload_n 1, 1) := by decide +kernel
theorem dX10_plainStays_14 : decode cX10_plainStays 14 = .ok (.iconst 1, 1) := by decide +kernel
theorem dX10_plainStays_15 : decode cX10_plainStays 15 = .ok (.invokevirtual 58, 3) := by decide +kernel
theorem dX10_plainStays_18 : decode cX10_plainStays 18 = .ok (.isub, 1) := by decide +kernel
theorem dX10_plainStays_19 : decode cX10_plainStays 19 = .ok (.ireturn, 1) := by decide +kernel
set_option maxRecDepth 20000 in
theorem ggX10_stays_X10_it : GoodIn wsX10_stays wsX10_it := goodIn_r _ [5, 6, 41, 42, 43, 44, 45, 46, 47, 48, 49, 50, 51, 52, 53, 54, 55, 56, 57, 58, 59, 60, 61] (by decide +kernel) (by decide +kernel)
set_option maxRecDepth 20000 in
theorem gX10_stays_X10_it : GoodIn wsX10_stays (wsV RX10 58 RX10 yX10_it wsX10_it) := goodIn_app (goodIn_of _ (by decide +kernel)) ggX10_stays_X10_it
set_option maxRecDepth 20000 in
theorem ggX10_stays_X10_begins : GoodIn wsX10_stays wsX10_begins := goodIn_r _ [10, 11, 12, 41, 42, 43, 44, 45, 46, 47, 48, 49, 50, 51, 52, 53, 54, 55, 56, 57, 58, 59, 60, 61] (by decide +kernel) (by decide +kernel)
set_option maxRecDepth 20000 in
theorem gX10_stays_X10_begins : GoodIn wsX10_stays (wsV RX10 224 RX10 yX10_begins wsX10_begins) := goodIn_app (goodIn_of _ (by decide +kernel)) ggX10_stays_X10_begins
set_option maxRecDepth 20000 in
theorem ggX10_stays_X10_plainStays : GoodIn wsX10_stays wsX10_plainStays := goodIn_r _ [16, 7, 8, 9, 4, 10, 11, 12, 17, 18, 19, 20, 1, 2, 3, 5, 6, 21, 22, 23, 24, 25, 26, 27, 28, 29, 30, 31, 32, 33, 34, 35, 36, 37, 38, 39, 40, 41, 42, 43, 44, 45, 46, 47, 48, 49, 50, 51, 52, 53, 54, 55, 56, 57, 58, 59, 60, 61] (by decide +kernel) (by decide +kernel)
set_option maxRecDepth 20000 in
theorem gX10_stays_X10_plainStays : GoodIn wsX10_stays (wsV RX10 245 RX10 yX10_plainStays wsX10_plainStays) := goodIn_app (goodIn_of _ (by decide +kernel)) ggX10_stays_X10_plainStays
theorem dX10_stays_0 : decode cX10_stays 0 = .ok (.aload_n 0, 1) := by decide +kernel
theorem dX10_stays_1 : decode cX10_stays 1 = .ok (.iload_n 1, 1) := by decide +kernel
theorem dX10_stays_2 : decode cX10_stays 2 = .ok (.iconst 0, 1) := by decide +kernel
theorem dX10_stays_3 : decode cX10_stays 3 = .ok (.invokevirtual 58, 3) := by decide +kernel
theorem dX10_stays_6 : decode cX10_stays 6 = .ok (.lookupswitch 56 #[(3, 26), (4, 41)], 26) := by decide +kernel
theorem dX10_stays_32 : decode cX10_stays 32 = .ok (.aload_n 0, 1) := by decide +kernel
theorem dX10_stays_33 : decode cX10_stays 33 = .ok (.bipush 40, 2) := by decide +kernel
theorem dX10_stays_35 : decode cX10_stays 35 = .ok (.invokevirtual 224, 3) := by decide +kernel
theorem dX10_stays_38 : decode cX10_stays 38 = .ok (.aload_n 0, 1) := by decide +kernel
theorem dX10_stays_39 : decode cX10_stays 39 = .ok (.iload_n 1, 1) := by decide +kernel
theorem dX10_stays_40 : decode cX10_stays 40 = .ok (.iload_n 2, 1) := by decide +kernel
theorem dX10_stays_41 : decode cX10_stays 41 = .ok (.iconst 2, 1) := by decide +kernel
theorem dX10_stays_42 : decode cX10_stays 42 = .ok (.idiv, 1) := by decide +kernel
theorem dX10_stays_43 : decode cX10_stays 43 = .ok (.invokevirtual 245, 3) := by decide +kernel
theorem dX10_stays_46 : decode cX10_stays 46 = .ok (.ireturn, 1) := by decide +kernel
theorem dX10_stays_47 : decode cX10_stays 47 = .ok (.aload_n 0, 1) := by decide +kernel
theorem dX10_stays_48 : decode cX10_stays 48 = .ok (.bipush 51, 2) := by decide +kernel
theorem dX10_stays_50 : decode cX10_stays 50 = .ok (.invokevirtual 224, 3) := by decide +kernel
theorem dX10_stays_53 : decode cX10_stays 53 = .ok (.aload_n 0, 1) := by decide +kernel
theorem dX10_stays_54 : decode cX10_stays 54 = .ok (.iload_n 1, 1) := by decide +kernel
theorem dX10_stays_55 : decode cX10_stays 55 = .ok (.iload_n 2, 1) := by decide +kernel
theorem dX10_stays_56 : decode cX10_stays 56 = .ok (.invokevirtual 245, 3) := by decide +kernel
theorem dX10_stays_59 : decode cX10_stays 59 = .ok (.iload_n 1, 1) := by decide +kernel
theorem dX10_stays_60 : decode cX10_stays 60 = .ok (.ixor, 1) := by decide +kernel
theorem dX10_stays_61 : decode cX10_stays 61 = .ok (.ireturn, 1) := by decide +kernel
theorem dX10_stays_62 : decode cX10_stays 62 = .ok (.aload_n 0, 1) := by decide +kernel
theorem dX10_stays_63 : decode cX10_stays 63 = .ok (.iload_n 1, 1) := by decide +kernel
theorem dX10_stays_64 : decode cX10_stays 64 = .ok (.iload_n 2, 1) := by decide +kernel
theorem dX10_stays_65 : decode cX10_stays 65 = .ok (.invokevirtual 245, 3) := by decide +kernel
theorem dX10_stays_68 : decode cX10_stays 68 = .ok (.ireturn, 1) := by decide +kernel
set_option maxRecDepth 20000 in
theorem ggX10_plainParts_X10_begins : GoodIn wsX10_plainParts wsX10_begins := goodIn_r _ [6, 7, 8, 14, 15, 16, 17, 18, 19, 20, 21, 22, 23, 24, 25, 26, 27, 28, 29, 30, 31, 32, 33, 34] (by decide +kernel) (by decide +kernel)
set_option maxRecDepth 20000 in
theorem gX10_plainParts_X10_begins : GoodIn wsX10_plainParts (wsV RX10 224 RX10 yX10_begins wsX10_begins) := goodIn_app (goodIn_of _ (by decide +kernel)) ggX10_plainParts_X10_begins
set_option maxRecDepth 20000 in
theorem ggX10_plainParts_X10_it : GoodIn wsX10_plainParts wsX10_it := goodIn_r _ [12, 13, 14, 15, 16, 17, 18, 19, 20, 21, 22, 23, 24, 25, 26, 27, 28, 29, 30, 31, 32, 33, 34] (by decide +kernel) (by decide +kernel)
set_option maxRecDepth 20000 in
theorem gX10_plainParts_X10_it : GoodIn wsX10_plainParts (wsV RX10 58 RX10 yX10_it wsX10_it) := goodIn_app (goodIn_of _ (by decide +kernel)) ggX10_plainParts_X10_it
theorem dX10_plainParts_0 : decode cX10_plainParts 0 = .ok (.aload_n 0, 1) := by decide +kernel
theorem dX10_plainParts_1 : decode cX10_plainParts 1 = .ok (.bipush 13, 2) := by decide +kernel
theorem dX10_plainParts_3 : decode cX10_plainParts 3 = .ok (.invokevirtual 224, 3) := by decide +kernel
theorem dX10_plainParts_6 : decode cX10_plainParts 6 = .ok (.aload_n 0, 1) := by decide +kernel
theorem dX10_plainParts_7 : decode cX10_plainParts 7 = .ok (.iload_n 1, 1) := by decide +kernel
theorem dX10_plainParts_8 : decode cX10_plainParts 8 = .ok (.iconst 1, 1) := by decide +kernel
theorem dX10_plainParts_9 : decode cX10_plainParts 9 = .ok (.invokevirtual 58, 3) := by decide +kernel
theorem dX10_plainParts_12 : decode cX10_plainParts 12 = .ok (.iload_n 1, 1) := by decide +kernel
theorem dX10_plainParts_13 : decode cX10_plainParts 13 = .ok (.isub, 1) := by decide +kernel
theorem dX10_plainParts_14 : decode cX10_plainParts 14 = .ok (.istore_n 3, 1) := by decide +kernel
theorem dX10_plainParts_15 : decode cX10_plainParts 15 = .ok (.aload_n 0, 1) := by decide +kernel
theorem dX10_plainParts_16 : decode cX10_plainParts 16 = .ok (.iload_n 3, 1) := by decide +kernel
theorem dX10_plainParts_17 : decode cX10_plainParts 17 = .ok (.ifCond .ne 7, 3) := by decide +kernel
theorem dX10_plainParts_20 : decode cX10_plainParts 20 = .ok (.iconst 1, 1) := by decide +kernel
theorem dX10_plainParts_21 : decode cX10_plainParts 21 = .ok (.goto 4, 3) := by decide +kernel
theorem dX10_plainParts_24 : decode cX10_plainParts 24 = .ok (.iconst 0, 1) := by decide +kernel
theorem dX10_plainParts_25 : decode cX10_plainParts 25 = .ok (.putfield 248, 3) := by decide +kernel
theorem dX10_plainParts_28 : decode cX10_plainParts 28 = .ok (.aload_n 0, 1) := by decide +kernel
theorem dX10_plainParts_29 : decode cX10_plainParts 29 = .ok (.getfield 248, 3) := by decide +kernel
theorem dX10_plainParts_32 : decode cX10_plainParts 32 = .ok (.ifCond .eq 7, 3) := by decide +kernel
theorem dX10_plainParts_35 : decode cX10_plainParts 35 = .ok (.iconst 0, 1) := by decide +kernel
theorem dX10_plainParts_36 : decode cX10_plainParts 36 = .ok (.goto 6, 3) := by decide +kernel
theorem dX10_plainParts_39 : decode cX10_plainParts 39 = .ok (.iload_n 2, 1) := by decide +kernel
theorem dX10_plainParts_40 : decode cX10_plainParts 40 = .ok (.iload_n 3, 1) := by decide +kernel
theorem dX10_plainParts_41 : decode cX10_plainParts 41 = .ok (.idiv, 1) := by decide +kernel
theorem dX10_plainParts_42 : decode cX10_plainParts 42 = .ok (.ireturn, 1) := by decide +kernel
set_option maxRecDepth 20000 in
theorem ggX10_partsBy_X10_it : GoodIn wsX10_partsBy wsX10_it := goodIn_r _ [6, 7, 42, 43, 44, 45, 46, 47, 48, 49, 50, 51, 52, 53, 54, 55, 56, 57, 58, 59, 60, 61, 62] (by decide +kernel) (by decide +kernel)
set_option maxRecDepth 20000 in
theorem gX10_partsBy_X10_it : GoodIn wsX10_partsBy (wsV RX10 58 RX10 yX10_it wsX10_it) := goodIn_app (goodIn_of _ (by decide +kernel)) ggX10_partsBy_X10_it
set_option maxRecDepth 20000 in
theorem ggX10_partsBy_X10_begins : GoodIn wsX10_partsBy wsX10_begins := goodIn_r _ [11, 12, 13, 42, 43, 44, 45, 46, 47, 48, 49, 50, 51, 52, 53, 54, 55, 56, 57, 58, 59, 60, 61, 62] (by decide +kernel) (by decide +kernel)
set_option maxRecDepth 20000 in
theorem gX10_partsBy_X10_begins : GoodIn wsX10_partsBy (wsV RX10 224 RX10 yX10_begins wsX10_begins) := goodIn_app (goodIn_of _ (by decide +kernel)) ggX10_partsBy_X10_begins
set_option maxRecDepth 20000 in
theorem ggX10_partsBy_X10_plainParts : GoodIn wsX10_partsBy wsX10_plainParts := goodIn_r _ [17, 1, 8, 9, 10, 5, 11, 12, 13, 2, 3, 4, 6, 7, 42, 43, 44, 45, 46, 47, 48, 49, 50, 51, 52, 53, 54, 55, 56, 57, 58, 59, 60, 61, 62] (by decide +kernel) (by decide +kernel)
set_option maxRecDepth 20000 in
theorem gX10_partsBy_X10_plainParts : GoodIn wsX10_partsBy (wsV RX10 251 RX10 yX10_plainParts wsX10_plainParts) := goodIn_app (goodIn_of _ (by decide +kernel)) ggX10_partsBy_X10_plainParts
set_option maxRecDepth 20000 in
theorem ggX10_partsBy_X10_smears : GoodIn wsX10_partsBy wsX10_smears := goodIn_r _ [21, 2, 3, 4, 5, 6, 7, 22, 23, 24, 25, 8, 9, 10, 11, 12, 13, 26, 27, 28, 29, 30, 31, 32, 33, 34, 35, 36, 37, 38, 39, 40, 41, 42, 43, 44, 45, 46, 47, 48, 49, 50, 51, 52, 53, 54, 55, 56, 57, 58, 59, 60, 61, 62] (by decide +kernel) (by decide +kernel)
set_option maxRecDepth 20000 in
theorem gX10_partsBy_X10_smears : GoodIn wsX10_partsBy (wsV RX10 242 RX10 yX10_smears wsX10_smears) := goodIn_app (goodIn_of _ (by decide +kernel)) ggX10_partsBy_X10_smears
theorem dX10_partsBy_0 : decode cX10_partsBy 0 = .ok (.aload_n 0, 1) := by decide +kernel
theorem dX10_partsBy_1 : decode cX10_partsBy 1 = .ok (.iload_n 1, 1) := by decide +kernel
theorem dX10_partsBy_2 : decode cX10_partsBy 2 = .ok (.iconst 0, 1) := by decide +kernel
theorem dX10_partsBy_3 : decode cX10_partsBy 3 = .ok (.invokevirtual 58, 3) := by decide +kernel
theorem dX10_partsBy_6 : decode cX10_partsBy 6 = .ok (.iconst 1, 1) := by decide +kernel
theorem dX10_partsBy_7 : decode cX10_partsBy 7 = .ok (.if_icmp .eq 13, 3) := by decide +kernel
theorem dX10_partsBy_10 : decode cX10_partsBy 10 = .ok (.aload_n 0, 1) := by decide +kernel
theorem dX10_partsBy_11 : decode cX10_partsBy 11 = .ok (.iload_n 1, 1) := by decide +kernel
theorem dX10_partsBy_12 : decode cX10_partsBy 12 = .ok (.iconst 0, 1) := by decide +kernel
theorem dX10_partsBy_13 : decode cX10_partsBy 13 = .ok (.invokevirtual 58, 3) := by decide +kernel
theorem dX10_partsBy_16 : decode cX10_partsBy 16 = .ok (.iconst 4, 1) := by decide +kernel
theorem dX10_partsBy_17 : decode cX10_partsBy 17 = .ok (.if_icmp .ne 36, 3) := by decide +kernel
theorem dX10_partsBy_20 : decode cX10_partsBy 20 = .ok (.aload_n 0, 1) := by decide +kernel
theorem dX10_partsBy_21 : decode cX10_partsBy 21 = .ok (.bipush 21, 2) := by decide +kernel
theorem dX10_partsBy_23 : decode cX10_partsBy 23 = .ok (.invokevirtual 224, 3) := by decide +kernel
theorem dX10_partsBy_26 : decode cX10_partsBy 26 = .ok (.aload_n 0, 1) := by decide +kernel
theorem dX10_partsBy_27 : decode cX10_partsBy 27 = .ok (.iload_n 1, 1) := by decide +kernel
theorem dX10_partsBy_28 : decode cX10_partsBy 28 = .ok (.iload_n 2, 1) := by decide +kernel
theorem dX10_partsBy_29 : decode cX10_partsBy 29 = .ok (.invokevirtual 251, 3) := by decide +kernel
theorem dX10_partsBy_32 : decode cX10_partsBy 32 = .ok (.istore_n 3, 1) := by decide +kernel
theorem dX10_partsBy_33 : decode cX10_partsBy 33 = .ok (.aload_n 0, 1) := by decide +kernel
theorem dX10_partsBy_34 : decode cX10_partsBy 34 = .ok (.getfield 248, 3) := by decide +kernel
theorem dX10_partsBy_37 : decode cX10_partsBy 37 = .ok (.ifCond .eq 7, 3) := by decide +kernel
theorem dX10_partsBy_40 : decode cX10_partsBy 40 = .ok (.iconst 0, 1) := by decide +kernel
theorem dX10_partsBy_41 : decode cX10_partsBy 41 = .ok (.goto 11, 3) := by decide +kernel
theorem dX10_partsBy_44 : decode cX10_partsBy 44 = .ok (.iload_n 3, 1) := by decide +kernel
theorem dX10_partsBy_45 : decode cX10_partsBy 45 = .ok (.aload_n 0, 1) := by decide +kernel
theorem dX10_partsBy_46 : decode cX10_partsBy 46 = .ok (.iload_n 1, 1) := by decide +kernel
theorem dX10_partsBy_47 : decode cX10_partsBy 47 = .ok (.iconst 1, 1) := by decide +kernel
theorem dX10_partsBy_48 : decode cX10_partsBy 48 = .ok (.invokevirtual 242, 3) := by decide +kernel
theorem dX10_partsBy_51 : decode cX10_partsBy 51 = .ok (.iadd, 1) := by decide +kernel
theorem dX10_partsBy_52 : decode cX10_partsBy 52 = .ok (.ireturn, 1) := by decide +kernel
theorem dX10_partsBy_53 : decode cX10_partsBy 53 = .ok (.aload_n 0, 1) := by decide +kernel
theorem dX10_partsBy_54 : decode cX10_partsBy 54 = .ok (.iload_n 1, 1) := by decide +kernel
theorem dX10_partsBy_55 : decode cX10_partsBy 55 = .ok (.iload_n 2, 1) := by decide +kernel
theorem dX10_partsBy_56 : decode cX10_partsBy 56 = .ok (.invokevirtual 251, 3) := by decide +kernel
theorem dX10_partsBy_59 : decode cX10_partsBy 59 = .ok (.ireturn, 1) := by decide +kernel
set_option maxRecDepth 20000 in
theorem ggX10_voice_X10_isLine : GoodIn wsX10_voice wsX10_isLine := goodIn_r _ [9, 10, 11, 12, 8, 13, 69, 70, 71, 72, 73, 74, 75, 76, 77, 78, 79, 80, 81, 82, 83, 84, 85, 86, 87, 88, 89] (by decide +kernel) (by decide +kernel)
set_option maxRecDepth 20000 in
theorem gX10_voice_X10_isLine : GoodIn wsX10_voice (wsV RX10 101 RX10 yX10_isLine wsX10_isLine) := goodIn_app (goodIn_of _ (by decide +kernel)) ggX10_voice_X10_isLine
set_option maxRecDepth 20000 in
theorem ggX10_voice_X10_in : GoodIn wsX10_voice wsX10_in := goodIn_r _ [13] (by decide +kernel) (by decide +kernel)
set_option maxRecDepth 20000 in
theorem gX10_voice_X10_in : GoodIn wsX10_voice (va_wsS RX10 54 yX10_in wsX10_in) := goodIn_app (goodIn_of _ (by decide +kernel)) ggX10_voice_X10_in
set_option maxRecDepth 20000 in
theorem ggX10_voice_X10_error : GoodIn wsX10_voice wsX10_error := goodIn_r _ [17, 18, 19, 69, 70, 71, 72, 73, 74, 75, 76, 77, 78, 79, 80, 81, 82, 83, 84, 85, 86, 87, 88, 89] (by decide +kernel) (by decide +kernel)
set_option maxRecDepth 20000 in
theorem gX10_voice_X10_error : GoodIn wsX10_voice (wsV RX10 87 RX10 yX10_error wsX10_error) := goodIn_app (goodIn_of _ (by decide +kernel)) ggX10_voice_X10_error
set_option maxRecDepth 20000 in
theorem ggX10_voice_X10_squeaks : GoodIn wsX10_voice wsX10_squeaks := goodIn_r _ [23, 24, 25, 26, 8, 27, 10, 28, 29, 30, 31, 32, 33, 34, 35, 2, 36, 37, 38, 39, 40, 69, 70, 71, 72, 73, 74, 75, 76, 77, 78, 79, 80, 81, 82, 83, 84, 85, 86, 87, 88, 89] (by decide +kernel) (by decide +kernel)
set_option maxRecDepth 20000 in
theorem gX10_voice_X10_squeaks : GoodIn wsX10_voice (wsV RX10 233 RX10 yX10_squeaks wsX10_squeaks) := goodIn_app (goodIn_of _ (by decide +kernel)) ggX10_voice_X10_squeaks
set_option maxRecDepth 20000 in
theorem ggX10_voice_X10_smears : GoodIn wsX10_voice wsX10_smears := goodIn_r _ [44, 24, 25, 26, 8, 27, 10, 45, 46, 47, 48, 32, 33, 34, 35, 2, 36, 49, 50, 51, 52, 20, 21, 22, 23, 28, 29, 30, 31, 37, 38, 39, 40, 69, 70, 71, 72, 73, 74, 75, 76, 77, 78, 79, 80, 81, 82, 83, 84, 85, 86, 87, 88, 89] (by decide +kernel) (by decide +kernel)
set_option maxRecDepth 20000 in
theorem gX10_voice_X10_smears : GoodIn wsX10_voice (wsV RX10 242 RX10 yX10_smears wsX10_smears) := goodIn_app (goodIn_of _ (by decide +kernel)) ggX10_voice_X10_smears
set_option maxRecDepth 20000 in
theorem ggX10_voice_X10_stays : GoodIn wsX10_voice wsX10_stays := goodIn_r _ [56, 24, 25, 26, 8, 27, 10, 32, 33, 34, 35, 2, 36, 57, 58, 59, 60, 41, 42, 43, 44, 45, 46, 47, 48, 49, 50, 51, 52, 20, 21, 22, 23, 28, 29, 30, 31, 37, 38, 39, 40, 69, 70, 71, 72, 73, 74, 75, 76, 77, 78, 79, 80, 81, 82, 83, 84, 85, 86, 87, 88, 89] (by decide +kernel) (by decide +kernel)
set_option maxRecDepth 20000 in
theorem gX10_voice_X10_stays : GoodIn wsX10_voice (wsV RX10 254 RX10 yX10_stays wsX10_stays) := goodIn_app (goodIn_of _ (by decide +kernel)) ggX10_voice_X10_stays
set_option maxRecDepth 20000 in
theorem ggX10_voice_X10_partsBy : GoodIn wsX10_voice wsX10_partsBy := goodIn_r _ [64, 3, 24, 25, 26, 8, 27, 10, 32, 33, 34, 35, 2, 36, 65, 66, 67, 68, 41, 42, 43, 44, 45, 46, 47, 48, 49, 50, 51, 52, 20, 21, 22, 23, 28, 29, 30, 31, 37, 38, 39, 40, 69, 70, 71, 72, 73, 74, 75, 76, 77, 78, 79, 80, 81, 82, 83, 84, 85, 86, 87, 88, 89] (by decide +kernel) (by decide +kernel)
set_option maxRecDepth 20000 in
theorem gX10_voice_X10_partsBy : GoodIn wsX10_voice (wsV RX10 257 RX10 yX10_partsBy wsX10_partsBy) := goodIn_app (goodIn_of _ (by decide +kernel)) ggX10_voice_X10_partsBy
theorem dX10_voice_0 : decode cX10_voice 0 = .ok (.aload_n 0, 1) := by decide +kernel
theorem dX10_voice_1 : decode cX10_voice 1 = .ok (.iload_n 1, 1) := by decide +kernel
theorem dX10_voice_2 : decode cX10_voice 2 = .ok (.invokevirtual 101, 3) := by decide +kernel
theorem dX10_voice_5 : decode cX10_voice 5 = .ok (.ifCond .eq 12, 3) := by decide +kernel
theorem dX10_voice_8 : decode cX10_voice 8 = .ok (.iload_n 2, 1) := by decide +kernel
theorem dX10_voice_9 : decode cX10_voice 9 = .ok (.iconst 0, 1) := by decide +kernel
theorem dX10_voice_10 : decode cX10_voice 10 = .ok (.iconst 3, 1) := by decide +kernel
theorem dX10_voice_11 : decode cX10_voice 11 = .ok (.invokestatic 54, 3) := by decide +kernel
theorem dX10_voice_14 : decode cX10_voice 14 = .ok (.ifCond .ne 10, 3) := by decide +kernel
theorem dX10_voice_17 : decode cX10_voice 17 = .ok (.aload_n 0, 1) := by decide +kernel
theorem dX10_voice_18 : decode cX10_voice 18 = .ok (.ldc 86, 2) := by decide +kernel
theorem dX10_voice_20 : decode cX10_voice 20 = .ok (.invokevirtual 87, 3) := by decide +kernel
theorem dX10_voice_23 : decode cX10_voice 23 = .ok (.ireturn, 1) := by decide +kernel
theorem dX10_voice_24 : decode cX10_voice 24 = .ok (.aload_n 0, 1) := by decide +kernel
theorem dX10_voice_25 : decode cX10_voice 25 = .ok (.iconst 0, 1) := by decide +kernel
theorem dX10_voice_26 : decode cX10_voice 26 = .ok (.putfield 221, 3) := by decide +kernel
theorem dX10_voice_29 : decode cX10_voice 29 = .ok (.aload_n 0, 1) := by decide +kernel
theorem dX10_voice_30 : decode cX10_voice 30 = .ok (.iconst 0, 1) := by decide +kernel
theorem dX10_voice_31 : decode cX10_voice 31 = .ok (.putfield 248, 3) := by decide +kernel
theorem dX10_voice_34 : decode cX10_voice 34 = .ok (.iload_n 2, 1) := by decide +kernel
theorem dX10_voice_35 : decode cX10_voice 35 = .ok (.ifCond .ne 12, 3) := by decide +kernel
theorem dX10_voice_38 : decode cX10_voice 38 = .ok (.aload_n 0, 1) := by decide +kernel
theorem dX10_voice_39 : decode cX10_voice 39 = .ok (.iload_n 1, 1) := by decide +kernel
theorem dX10_voice_40 : decode cX10_voice 40 = .ok (.iload_n 3, 1) := by decide +kernel
theorem dX10_voice_41 : decode cX10_voice 41 = .ok (.invokevirtual 233, 3) := by decide +kernel
theorem dX10_voice_44 : decode cX10_voice 44 = .ok (.goto 37, 3) := by decide +kernel
theorem dX10_voice_47 : decode cX10_voice 47 = .ok (.iload_n 2, 1) := by decide +kernel
theorem dX10_voice_48 : decode cX10_voice 48 = .ok (.iconst 1, 1) := by decide +kernel
theorem dX10_voice_49 : decode cX10_voice 49 = .ok (.if_icmp .ne 12, 3) := by decide +kernel
theorem dX10_voice_52 : decode cX10_voice 52 = .ok (.aload_n 0, 1) := by decide +kernel
theorem dX10_voice_53 : decode cX10_voice 53 = .ok (.iload_n 1, 1) := by decide +kernel
theorem dX10_voice_54 : decode cX10_voice 54 = .ok (.iload_n 3, 1) := by decide +kernel
theorem dX10_voice_55 : decode cX10_voice 55 = .ok (.invokevirtual 242, 3) := by decide +kernel
theorem dX10_voice_58 : decode cX10_voice 58 = .ok (.goto 23, 3) := by decide +kernel
theorem dX10_voice_61 : decode cX10_voice 61 = .ok (.iload_n 2, 1) := by decide +kernel
theorem dX10_voice_62 : decode cX10_voice 62 = .ok (.iconst 2, 1) := by decide +kernel
theorem dX10_voice_63 : decode cX10_voice 63 = .ok (.if_icmp .ne 12, 3) := by decide +kernel
theorem dX10_voice_66 : decode cX10_voice 66 = .ok (.aload_n 0, 1) := by decide +kernel
theorem dX10_voice_67 : decode cX10_voice 67 = .ok (.iload_n 1, 1) := by decide +kernel
theorem dX10_voice_68 : decode cX10_voice 68 = .ok (.iload_n 3, 1) := by decide +kernel
theorem dX10_voice_69 : decode cX10_voice 69 = .ok (.invokevirtual 254, 3) := by decide +kernel
theorem dX10_voice_72 : decode cX10_voice 72 = .ok (.goto 9, 3) := by decide +kernel
theorem dX10_voice_75 : decode cX10_voice 75 = .ok (.aload_n 0, 1) := by decide +kernel
theorem dX10_voice_76 : decode cX10_voice 76 = .ok (.iload_n 1, 1) := by decide +kernel
theorem dX10_voice_77 : decode cX10_voice 77 = .ok (.iload_n 3, 1) := by decide +kernel
theorem dX10_voice_78 : decode cX10_voice 78 = .ok (.invokevirtual 257, 3) := by decide +kernel
theorem dX10_voice_81 : decode cX10_voice 81 = .ok (.istore 4, 2) := by decide +kernel
theorem dX10_voice_83 : decode cX10_voice 83 = .ok (.aload_n 0, 1) := by decide +kernel
theorem dX10_voice_84 : decode cX10_voice 84 = .ok (.getfield 248, 3) := by decide +kernel
theorem dX10_voice_87 : decode cX10_voice 87 = .ok (.ifCond .eq 13, 3) := by decide +kernel
theorem dX10_voice_90 : decode cX10_voice 90 = .ok (.aload_n 0, 1) := by decide +kernel
theorem dX10_voice_91 : decode cX10_voice 91 = .ok (.ldc_w 260, 3) := by decide +kernel
theorem dX10_voice_94 : decode cX10_voice 94 = .ok (.invokevirtual 87, 3) := by decide +kernel
theorem dX10_voice_97 : decode cX10_voice 97 = .ok (.goto 5, 3) := by decide +kernel
theorem dX10_voice_100 : decode cX10_voice 100 = .ok (.iload 4, 2) := by decide +kernel
theorem dX10_voice_102 : decode cX10_voice 102 = .ok (.ireturn, 1) := by decide +kernel
set_option maxRecDepth 20000 in
theorem ggX10_body_X10_in : GoodIn wsX10_body wsX10_in := goodIn_r _ [7] (by decide +kernel) (by decide +kernel)
set_option maxRecDepth 20000 in
theorem gX10_body_X10_in : GoodIn wsX10_body (va_wsS RX10 54 yX10_in wsX10_in) := goodIn_app (goodIn_of _ (by decide +kernel)) ggX10_body_X10_in
set_option maxRecDepth 20000 in
theorem ggX10_body_X10_error : GoodIn wsX10_body wsX10_error := goodIn_r _ [11, 12, 13, 14, 15, 16, 17, 18, 19, 20, 21, 22, 23, 24, 25, 26, 27, 28, 29, 30, 31, 32, 33, 34] (by decide +kernel) (by decide +kernel)
set_option maxRecDepth 20000 in
theorem gX10_body_X10_error : GoodIn wsX10_body (wsV RX10 87 RX10 yX10_error wsX10_error) := goodIn_app (goodIn_of _ (by decide +kernel)) ggX10_body_X10_error
theorem dX10_body_0 : decode cX10_body 0 = .ok (.iload_n 1, 1) := by decide +kernel
theorem dX10_body_1 : decode cX10_body 1 = .ok (.iconst 0, 1) := by decide +kernel
theorem dX10_body_2 : decode cX10_body 2 = .ok (.aload_n 0, 1) := by decide +kernel
theorem dX10_body_3 : decode cX10_body 3 = .ok (.getfield 221, 3) := by decide +kernel
theorem dX10_body_6 : decode cX10_body 6 = .ok (.iconst 1, 1) := by decide +kernel
theorem dX10_body_7 : decode cX10_body 7 = .ok (.isub, 1) := by decide +kernel
theorem dX10_body_8 : decode cX10_body 8 = .ok (.invokestatic 54, 3) := by decide +kernel
theorem dX10_body_11 : decode cX10_body 11 = .ok (.ifCond .eq 12, 3) := by decide +kernel
theorem dX10_body_14 : decode cX10_body 14 = .ok (.aload_n 0, 1) := by decide +kernel
theorem dX10_body_15 : decode cX10_body 15 = .ok (.getfield 46, 3) := by decide +kernel
theorem dX10_body_18 : decode cX10_body 18 = .ok (.iload_n 1, 1) := by decide +kernel
theorem dX10_body_19 : decode cX10_body 19 = .ok (.iaload, 1) := by decide +kernel
theorem dX10_body_20 : decode cX10_body 20 = .ok (.goto 9, 3) := by decide +kernel
theorem dX10_body_23 : decode cX10_body 23 = .ok (.aload_n 0, 1) := by decide +kernel
theorem dX10_body_24 : decode cX10_body 24 = .ok (.ldc 191, 2) := by decide +kernel
theorem dX10_body_26 : decode cX10_body 26 = .ok (.invokevirtual 87, 3) := by decide +kernel
theorem dX10_body_29 : decode cX10_body 29 = .ok (.ireturn, 1) := by decide +kernel
set_option maxRecDepth 20000 in
theorem ggX10_isSheet_X10_in : GoodIn wsX10_isSheet wsX10_in := goodIn_r _ [4] (by decide +kernel) (by decide +kernel)
set_option maxRecDepth 20000 in
theorem gX10_isSheet_X10_in : GoodIn wsX10_isSheet (va_wsS RX10 54 yX10_in wsX10_in) := goodIn_app (goodIn_of _ (by decide +kernel)) ggX10_isSheet_X10_in
theorem dX10_isSheet_0 : decode cX10_isSheet 0 = .ok (.iload_n 0, 1) := by decide +kernel
theorem dX10_isSheet_1 : decode cX10_isSheet 1 = .ok (.iconst 0, 1) := by decide +kernel
theorem dX10_isSheet_2 : decode cX10_isSheet 2 = .ok (.iconst 3, 1) := by decide +kernel
theorem dX10_isSheet_3 : decode cX10_isSheet 3 = .ok (.invokestatic 54, 3) := by decide +kernel
theorem dX10_isSheet_6 : decode cX10_isSheet 6 = .ok (.ireturn, 1) := by decide +kernel
set_option maxRecDepth 20000 in
theorem ggX10_sheet_X10_isSheet : GoodIn wsX10_sheet wsX10_isSheet := goodIn_r _ [9, 10, 11, 8, 12] (by decide +kernel) (by decide +kernel)
set_option maxRecDepth 20000 in
theorem gX10_sheet_X10_isSheet : GoodIn wsX10_sheet (va_wsS RX10 261 yX10_isSheet wsX10_isSheet) := goodIn_app (goodIn_of _ (by decide +kernel)) ggX10_sheet_X10_isSheet
set_option maxRecDepth 20000 in
theorem ggX10_sheet_X10_error : GoodIn wsX10_sheet wsX10_error := goodIn_r _ [16, 17, 18, 19, 20, 21, 22, 23, 24, 25, 26, 27, 28, 29, 30, 31, 32, 33, 34, 35, 36, 37, 38, 39] (by decide +kernel) (by decide +kernel)
set_option maxRecDepth 20000 in
theorem gX10_sheet_X10_error : GoodIn wsX10_sheet (wsV RX10 87 RX10 yX10_error wsX10_error) := goodIn_app (goodIn_of _ (by decide +kernel)) ggX10_sheet_X10_error
theorem dX10_sheet_0 : decode cX10_sheet 0 = .ok (.iload_n 1, 1) := by decide +kernel
theorem dX10_sheet_1 : decode cX10_sheet 1 = .ok (.invokestatic 261, 3) := by decide +kernel
theorem dX10_sheet_4 : decode cX10_sheet 4 = .ok (.ifCond .eq 25, 3) := by decide +kernel
theorem dX10_sheet_7 : decode cX10_sheet 7 = .ok (.iload_n 2, 1) := by decide +kernel
theorem dX10_sheet_8 : decode cX10_sheet 8 = .ok (.ifCond .eq 28, 3) := by decide +kernel
theorem dX10_sheet_11 : decode cX10_sheet 11 = .ok (.iload_n 2, 1) := by decide +kernel
theorem dX10_sheet_12 : decode cX10_sheet 12 = .ok (.bipush 8, 2) := by decide +kernel
theorem dX10_sheet_14 : decode cX10_sheet 14 = .ok (.if_icmp .eq 22, 3) := by decide +kernel
theorem dX10_sheet_17 : decode cX10_sheet 17 = .ok (.iload_n 2, 1) := by decide +kernel
theorem dX10_sheet_18 : decode cX10_sheet 18 = .ok (.bipush 16, 2) := by decide +kernel
theorem dX10_sheet_20 : decode cX10_sheet 20 = .ok (.if_icmp .eq 16, 3) := by decide +kernel
theorem dX10_sheet_23 : decode cX10_sheet 23 = .ok (.iload_n 2, 1) := by decide +kernel
theorem dX10_sheet_24 : decode cX10_sheet 24 = .ok (.bipush 32, 2) := by decide +kernel
theorem dX10_sheet_26 : decode cX10_sheet 26 = .ok (.if_icmp .eq 10, 3) := by decide +kernel
theorem dX10_sheet_29 : decode cX10_sheet 29 = .ok (.aload_n 0, 1) := by decide +kernel
theorem dX10_sheet_30 : decode cX10_sheet 30 = .ok (.ldc 86, 2) := by decide +kernel
theorem dX10_sheet_32 : decode cX10_sheet 32 = .ok (.invokevirtual 87, 3) := by decide +kernel
theorem dX10_sheet_35 : decode cX10_sheet 35 = .ok (.ireturn, 1) := by decide +kernel
theorem dX10_sheet_36 : decode cX10_sheet 36 = .ok (.iload_n 2, 1) := by decide +kernel
theorem dX10_sheet_37 : decode cX10_sheet 37 = .ok (.ifCond .le 14, 3) := by decide +kernel
theorem dX10_sheet_40 : decode cX10_sheet 40 = .ok (.iload_n 3, 1) := by decide +kernel
theorem dX10_sheet_41 : decode cX10_sheet 41 = .ok (.ifCond .ge 10, 3) := by decide +kernel
theorem dX10_sheet_44 : decode cX10_sheet 44 = .ok (.aload_n 0, 1) := by decide +kernel
theorem dX10_sheet_45 : decode cX10_sheet 45 = .ok (.ldc 97, 2) := by decide +kernel
theorem dX10_sheet_47 : decode cX10_sheet 47 = .ok (.invokevirtual 87, 3) := by decide +kernel
theorem dX10_sheet_50 : decode cX10_sheet 50 = .ok (.ireturn, 1) := by decide +kernel
theorem dX10_sheet_51 : decode cX10_sheet 51 = .ok (.iload_n 2, 1) := by decide +kernel
theorem dX10_sheet_52 : decode cX10_sheet 52 = .ok (.ifCond .le 16, 3) := by decide +kernel
theorem dX10_sheet_55 : decode cX10_sheet 55 = .ok (.iload_n 3, 1) := by decide +kernel
theorem dX10_sheet_56 : decode cX10_sheet 56 = .ok (.bipush 24, 2) := by decide +kernel
theorem dX10_sheet_58 : decode cX10_sheet 58 = .ok (.if_icmp .le 10, 3) := by decide +kernel
theorem dX10_sheet_61 : decode cX10_sheet 61 = .ok (.aload_n 0, 1) := by decide +kernel
theorem dX10_sheet_62 : decode cX10_sheet 62 = .ok (.ldc 86, 2) := by decide +kernel
theorem dX10_sheet_64 : decode cX10_sheet 64 = .ok (.invokevirtual 87, 3) := by decide +kernel
theorem dX10_sheet_67 : decode cX10_sheet 67 = .ok (.ireturn, 1) := by decide +kernel
theorem dX10_sheet_68 : decode cX10_sheet 68 = .ok (.aload_n 0, 1) := by decide +kernel
theorem dX10_sheet_69 : decode cX10_sheet 69 = .ok (.getfield 22, 3) := by decide +kernel
theorem dX10_sheet_72 : decode cX10_sheet 72 = .ok (.iload_n 1, 1) := by decide +kernel
theorem dX10_sheet_73 : decode cX10_sheet 73 = .ok (.iload_n 2, 1) := by decide +kernel
theorem dX10_sheet_74 : decode cX10_sheet 74 = .ok (.iastore, 1) := by decide +kernel
theorem dX10_sheet_75 : decode cX10_sheet 75 = .ok (.aload_n 0, 1) := by decide +kernel
theorem dX10_sheet_76 : decode cX10_sheet 76 = .ok (.getfield 25, 3) := by decide +kernel
theorem dX10_sheet_79 : decode cX10_sheet 79 = .ok (.iload_n 1, 1) := by decide +kernel
theorem dX10_sheet_80 : decode cX10_sheet 80 = .ok (.iload_n 2, 1) := by decide +kernel
theorem dX10_sheet_81 : decode cX10_sheet 81 = .ok (.ifCond .ne 7, 3) := by decide +kernel
theorem dX10_sheet_84 : decode cX10_sheet 84 = .ok (.iconst 0, 1) := by decide +kernel
theorem dX10_sheet_85 : decode cX10_sheet 85 = .ok (.goto 4, 3) := by decide +kernel
theorem dX10_sheet_88 : decode cX10_sheet 88 = .ok (.iload_n 3, 1) := by decide +kernel
theorem dX10_sheet_89 : decode cX10_sheet 89 = .ok (.iastore, 1) := by decide +kernel
theorem dX10_sheet_90 : decode cX10_sheet 90 = .ok (.iconst 0, 1) := by decide +kernel
theorem dX10_sheet_91 : decode cX10_sheet 91 = .ok (.istore 4, 2) := by decide +kernel
theorem dX10_sheet_93 : decode cX10_sheet 93 = .ok (.iload 4, 2) := by decide +kernel
theorem dX10_sheet_95 : decode cX10_sheet 95 = .ok (.bipush 24, 2) := by decide +kernel
theorem dX10_sheet_97 : decode cX10_sheet 97 = .ok (.if_icmp .ge 22, 3) := by decide +kernel
theorem dX10_sheet_100 : decode cX10_sheet 100 = .ok (.aload_n 0, 1) := by decide +kernel
theorem dX10_sheet_101 : decode cX10_sheet 101 = .ok (.getfield 28, 3) := by decide +kernel
theorem dX10_sheet_104 : decode cX10_sheet 104 = .ok (.bipush 24, 2) := by decide +kernel
theorem dX10_sheet_106 : decode cX10_sheet 106 = .ok (.iload_n 1, 1) := by decide +kernel
theorem dX10_sheet_107 : decode cX10_sheet 107 = .ok (.imul, 1) := by decide +kernel
theorem dX10_sheet_108 : decode cX10_sheet 108 = .ok (.iload 4, 2) := by decide +kernel
theorem dX10_sheet_110 : decode cX10_sheet 110 = .ok (.iadd, 1) := by decide +kernel
theorem dX10_sheet_111 : decode cX10_sheet 111 = .ok (.iconst 0, 1) := by decide +kernel
theorem dX10_sheet_112 : decode cX10_sheet 112 = .ok (.iastore, 1) := by decide +kernel
theorem dX10_sheet_113 : decode cX10_sheet 113 = .ok (.iinc 4 1, 3) := by decide +kernel
theorem dX10_sheet_116 : decode cX10_sheet 116 = .ok (.goto (-23), 3) := by decide +kernel
theorem dX10_sheet_119 : decode cX10_sheet 119 = .ok (.iconst 1, 1) := by decide +kernel
theorem dX10_sheet_120 : decode cX10_sheet 120 = .ok (.ireturn, 1) := by decide +kernel
set_option maxRecDepth 20000 in
theorem ggX10_notThere_X10_isSheet : GoodIn wsX10_notThere wsX10_isSheet := goodIn_r _ [7, 8, 9, 6, 10] (by decide +kernel) (by decide +kernel)
set_option maxRecDepth 20000 in
theorem gX10_notThere_X10_isSheet : GoodIn wsX10_notThere (va_wsS RX10 261 yX10_isSheet wsX10_isSheet) := goodIn_app (goodIn_of _ (by decide +kernel)) ggX10_notThere_X10_isSheet
theorem dX10_notThere_0 : decode cX10_notThere 0 = .ok (.iload_n 1, 1) := by decide +kernel
theorem dX10_notThere_1 : decode cX10_notThere 1 = .ok (.invokestatic 261, 3) := by decide +kernel
theorem dX10_notThere_4 : decode cX10_notThere 4 = .ok (.ifCond .ne 8, 3) := by decide +kernel
theorem dX10_notThere_7 : decode cX10_notThere 7 = .ok (.ldc 86, 2) := by decide +kernel
theorem dX10_notThere_9 : decode cX10_notThere 9 = .ok (.goto 18, 3) := by decide +kernel
theorem dX10_notThere_12 : decode cX10_notThere 12 = .ok (.aload_n 0, 1) := by decide +kernel
theorem dX10_notThere_13 : decode cX10_notThere 13 = .ok (.getfield 22, 3) := by decide +kernel
theorem dX10_notThere_16 : decode cX10_notThere 16 = .ok (.iload_n 1, 1) := by decide +kernel
theorem dX10_notThere_17 : decode cX10_notThere 17 = .ok (.iaload, 1) := by decide +kernel
theorem dX10_notThere_18 : decode cX10_notThere 18 = .ok (.ifCond .ne 8, 3) := by decide +kernel
theorem dX10_notThere_21 : decode cX10_notThere 21 = .ok (.ldc 191, 2) := by decide +kernel
theorem dX10_notThere_23 : decode cX10_notThere 23 = .ok (.goto 4, 3) := by decide +kernel
theorem dX10_notThere_26 : decode cX10_notThere 26 = .ok (.iconst 0, 1) := by decide +kernel
theorem dX10_notThere_27 : decode cX10_notThere 27 = .ok (.ireturn, 1) := by decide +kernel
set_option maxRecDepth 20000 in
theorem ggX10_put_X10_notThere : GoodIn wsX10_put wsX10_notThere := goodIn_r _ [9, 2, 4, 10, 11, 12, 8, 13, 14, 15, 16, 23, 24, 25, 26, 27, 28, 29, 30, 31, 32, 33, 34, 35, 36, 37, 38, 39, 40, 41, 42, 43] (by decide +kernel) (by decide +kernel)
set_option maxRecDepth 20000 in
theorem gX10_put_X10_notThere : GoodIn wsX10_put (wsV RX10 213 RX10 yX10_notThere wsX10_notThere) := goodIn_app (goodIn_of _ (by decide +kernel)) ggX10_put_X10_notThere
set_option maxRecDepth 20000 in
theorem ggX10_put_X10_in : GoodIn wsX10_put wsX10_in := goodIn_r _ [16] (by decide +kernel) (by decide +kernel)
set_option maxRecDepth 20000 in
theorem gX10_put_X10_in : GoodIn wsX10_put (va_wsS RX10 54 yX10_in wsX10_in) := goodIn_app (goodIn_of _ (by decide +kernel)) ggX10_put_X10_in
set_option maxRecDepth 20000 in
theorem ggX10_put_X10_error : GoodIn wsX10_put wsX10_error := goodIn_r _ [20, 21, 22, 23, 24, 25, 26, 27, 28, 29, 30, 31, 32, 33, 34, 35, 36, 37, 38, 39, 40, 41, 42, 43] (by decide +kernel) (by decide +kernel)
set_option maxRecDepth 20000 in
theorem gX10_put_X10_error : GoodIn wsX10_put (wsV RX10 87 RX10 yX10_error wsX10_error) := goodIn_app (goodIn_of _ (by decide +kernel)) ggX10_put_X10_error
theorem dX10_put_0 : decode cX10_put 0 = .ok (.aload_n 0, 1) := by decide +kernel
theorem dX10_put_1 : decode cX10_put 1 = .ok (.iload_n 1, 1) := by decide +kernel
theorem dX10_put_2 : decode cX10_put 2 = .ok (.invokevirtual 213, 3) := by decide +kernel
theorem dX10_put_5 : decode cX10_put 5 = .ok (.istore 4, 2) := by decide +kernel
theorem dX10_put_7 : decode cX10_put 7 = .ok (.iload 4, 2) := by decide +kernel
theorem dX10_put_9 : decode cX10_put 9 = .ok (.ifCond .ne 24, 3) := by decide +kernel
theorem dX10_put_12 : decode cX10_put 12 = .ok (.iload_n 2, 1) := by decide +kernel
theorem dX10_put_13 : decode cX10_put 13 = .ok (.iconst 0, 1) := by decide +kernel
theorem dX10_put_14 : decode cX10_put 14 = .ok (.aload_n 0, 1) := by decide +kernel
theorem dX10_put_15 : decode cX10_put 15 = .ok (.getfield 25, 3) := by decide +kernel
theorem dX10_put_18 : decode cX10_put 18 = .ok (.iload_n 1, 1) := by decide +kernel
theorem dX10_put_19 : decode cX10_put 19 = .ok (.iaload, 1) := by decide +kernel
theorem dX10_put_20 : decode cX10_put 20 = .ok (.iconst 1, 1) := by decide +kernel
theorem dX10_put_21 : decode cX10_put 21 = .ok (.isub, 1) := by decide +kernel
theorem dX10_put_22 : decode cX10_put 22 = .ok (.invokestatic 54, 3) := by decide +kernel
theorem dX10_put_25 : decode cX10_put 25 = .ok (.ifCond .ne 8, 3) := by decide +kernel
theorem dX10_put_28 : decode cX10_put 28 = .ok (.ldc 86, 2) := by decide +kernel
theorem dX10_put_30 : decode cX10_put 30 = .ok (.goto 5, 3) := by decide +kernel
theorem dX10_put_33 : decode cX10_put 33 = .ok (.iload 4, 2) := by decide +kernel
theorem dX10_put_35 : decode cX10_put 35 = .ok (.istore 4, 2) := by decide +kernel
theorem dX10_put_37 : decode cX10_put 37 = .ok (.iload 4, 2) := by decide +kernel
theorem dX10_put_39 : decode cX10_put 39 = .ok (.ifCond .eq 10, 3) := by decide +kernel
theorem dX10_put_42 : decode cX10_put 42 = .ok (.aload_n 0, 1) := by decide +kernel
theorem dX10_put_43 : decode cX10_put 43 = .ok (.iload 4, 2) := by decide +kernel
theorem dX10_put_45 : decode cX10_put 45 = .ok (.invokevirtual 87, 3) := by decide +kernel
theorem dX10_put_48 : decode cX10_put 48 = .ok (.ireturn, 1) := by decide +kernel
theorem dX10_put_49 : decode cX10_put 49 = .ok (.aload_n 0, 1) := by decide +kernel
theorem dX10_put_50 : decode cX10_put 50 = .ok (.getfield 28, 3) := by decide +kernel
theorem dX10_put_53 : decode cX10_put 53 = .ok (.bipush 24, 2) := by decide +kernel
theorem dX10_put_55 : decode cX10_put 55 = .ok (.iload_n 1, 1) := by decide +kernel
theorem dX10_put_56 : decode cX10_put 56 = .ok (.imul, 1) := by decide +kernel
theorem dX10_put_57 : decode cX10_put 57 = .ok (.iload_n 2, 1) := by decide +kernel
theorem dX10_put_58 : decode cX10_put 58 = .ok (.iadd, 1) := by decide +kernel
theorem dX10_put_59 : decode cX10_put 59 = .ok (.aload_n 0, 1) := by decide +kernel
theorem dX10_put_60 : decode cX10_put 60 = .ok (.getfield 22, 3) := by decide +kernel
theorem dX10_put_63 : decode cX10_put 63 = .ok (.iload_n 1, 1) := by decide +kernel
theorem dX10_put_64 : decode cX10_put 64 = .ok (.iaload, 1) := by decide +kernel
theorem dX10_put_65 : decode cX10_put 65 = .ok (.bipush 8, 2) := by decide +kernel
theorem dX10_put_67 : decode cX10_put 67 = .ok (.if_icmp .ne 8, 3) := by decide +kernel
theorem dX10_put_70 : decode cX10_put 70 = .ok (.iload_n 3, 1) := by decide +kernel
theorem dX10_put_71 : decode cX10_put 71 = .ok (.i2b, 1) := by decide +kernel
theorem dX10_put_72 : decode cX10_put 72 = .ok (.goto 20, 3) := by decide +kernel
theorem dX10_put_75 : decode cX10_put 75 = .ok (.aload_n 0, 1) := by decide +kernel
theorem dX10_put_76 : decode cX10_put 76 = .ok (.getfield 22, 3) := by decide +kernel
theorem dX10_put_79 : decode cX10_put 79 = .ok (.iload_n 1, 1) := by decide +kernel
theorem dX10_put_80 : decode cX10_put 80 = .ok (.iaload, 1) := by decide +kernel
theorem dX10_put_81 : decode cX10_put 81 = .ok (.bipush 16, 2) := by decide +kernel
theorem dX10_put_83 : decode cX10_put 83 = .ok (.if_icmp .ne 8, 3) := by decide +kernel
theorem dX10_put_86 : decode cX10_put 86 = .ok (.iload_n 3, 1) := by decide +kernel
theorem dX10_put_87 : decode cX10_put 87 = .ok (.i2s, 1) := by decide +kernel
theorem dX10_put_88 : decode cX10_put 88 = .ok (.goto 4, 3) := by decide +kernel
theorem dX10_put_91 : decode cX10_put 91 = .ok (.iload_n 3, 1) := by decide +kernel
theorem dX10_put_92 : decode cX10_put 92 = .ok (.iastore, 1) := by decide +kernel
theorem dX10_put_93 : decode cX10_put 93 = .ok (.iconst 1, 1) := by decide +kernel
theorem dX10_put_94 : decode cX10_put 94 = .ok (.ireturn, 1) := by decide +kernel
set_option maxRecDepth 20000 in
theorem ggX10_notMoved_X10_isSheet : GoodIn wsX10_notMoved wsX10_isSheet := goodIn_r _ [9, 10, 11, 8, 12] (by decide +kernel) (by decide +kernel)
set_option maxRecDepth 20000 in
theorem gX10_notMoved_X10_isSheet : GoodIn wsX10_notMoved (va_wsS RX10 261 yX10_isSheet wsX10_isSheet) := goodIn_app (goodIn_of _ (by decide +kernel)) ggX10_notMoved_X10_isSheet
theorem dX10_notMoved_0 : decode cX10_notMoved 0 = .ok (.iload_n 1, 1) := by decide +kernel
theorem dX10_notMoved_1 : decode cX10_notMoved 1 = .ok (.invokestatic 261, 3) := by decide +kernel
theorem dX10_notMoved_4 : decode cX10_notMoved 4 = .ok (.ifCond .eq 10, 3) := by decide +kernel
theorem dX10_notMoved_7 : decode cX10_notMoved 7 = .ok (.iload_n 3, 1) := by decide +kernel
theorem dX10_notMoved_8 : decode cX10_notMoved 8 = .ok (.invokestatic 261, 3) := by decide +kernel
theorem dX10_notMoved_11 : decode cX10_notMoved 11 = .ok (.ifCond .ne 6, 3) := by decide +kernel
theorem dX10_notMoved_14 : decode cX10_notMoved 14 = .ok (.ldc 86, 2) := by decide +kernel
theorem dX10_notMoved_16 : decode cX10_notMoved 16 = .ok (.ireturn, 1) := by decide +kernel
theorem dX10_notMoved_17 : decode cX10_notMoved 17 = .ok (.aload_n 0, 1) := by decide +kernel
theorem dX10_notMoved_18 : decode cX10_notMoved 18 = .ok (.getfield 22, 3) := by decide +kernel
theorem dX10_notMoved_21 : decode cX10_notMoved 21 = .ok (.iload_n 1, 1) := by decide +kernel
theorem dX10_notMoved_22 : decode cX10_notMoved 22 = .ok (.iaload, 1) := by decide +kernel
theorem dX10_notMoved_23 : decode cX10_notMoved 23 = .ok (.ifCond .eq 12, 3) := by decide +kernel
theorem dX10_notMoved_26 : decode cX10_notMoved 26 = .ok (.aload_n 0, 1) := by decide +kernel
theorem dX10_notMoved_27 : decode cX10_notMoved 27 = .ok (.getfield 22, 3) := by decide +kernel
theorem dX10_notMoved_30 : decode cX10_notMoved 30 = .ok (.iload_n 3, 1) := by decide +kernel
theorem dX10_notMoved_31 : decode cX10_notMoved 31 = .ok (.iaload, 1) := by decide +kernel
theorem dX10_notMoved_32 : decode cX10_notMoved 32 = .ok (.ifCond .ne 6, 3) := by decide +kernel
theorem dX10_notMoved_35 : decode cX10_notMoved 35 = .ok (.ldc 191, 2) := by decide +kernel
theorem dX10_notMoved_37 : decode cX10_notMoved 37 = .ok (.ireturn, 1) := by decide +kernel
theorem dX10_notMoved_38 : decode cX10_notMoved 38 = .ok (.aload_n 0, 1) := by decide +kernel
theorem dX10_notMoved_39 : decode cX10_notMoved 39 = .ok (.getfield 22, 3) := by decide +kernel
theorem dX10_notMoved_42 : decode cX10_notMoved 42 = .ok (.iload_n 1, 1) := by decide +kernel
theorem dX10_notMoved_43 : decode cX10_notMoved 43 = .ok (.iaload, 1) := by decide +kernel
theorem dX10_notMoved_44 : decode cX10_notMoved 44 = .ok (.aload_n 0, 1) := by decide +kernel
theorem dX10_notMoved_45 : decode cX10_notMoved 45 = .ok (.getfield 22, 3) := by decide +kernel
theorem dX10_notMoved_48 : decode cX10_notMoved 48 = .ok (.iload_n 3, 1) := by decide +kernel
theorem dX10_notMoved_49 : decode cX10_notMoved 49 = .ok (.iaload, 1) := by decide +kernel
theorem dX10_notMoved_50 : decode cX10_notMoved 50 = .ok (.if_icmp .eq 6, 3) := by decide +kernel
theorem dX10_notMoved_53 : decode cX10_notMoved 53 = .ok (.ldc 110, 2) := by decide +kernel
theorem dX10_notMoved_55 : decode cX10_notMoved 55 = .ok (.ireturn, 1) := by decide +kernel
theorem dX10_notMoved_56 : decode cX10_notMoved 56 = .ok (.iload 5, 2) := by decide +kernel
theorem dX10_notMoved_58 : decode cX10_notMoved 58 = .ok (.ifCond .lt 43, 3) := by decide +kernel
theorem dX10_notMoved_61 : decode cX10_notMoved 61 = .ok (.iload_n 2, 1) := by decide +kernel
theorem dX10_notMoved_62 : decode cX10_notMoved 62 = .ok (.ifCond .lt 39, 3) := by decide +kernel
theorem dX10_notMoved_65 : decode cX10_notMoved 65 = .ok (.iload 4, 2) := by decide +kernel
theorem dX10_notMoved_67 : decode cX10_notMoved 67 = .ok (.ifCond .lt 34, 3) := by decide +kernel
theorem dX10_notMoved_70 : decode cX10_notMoved 70 = .ok (.iload 5, 2) := by decide +kernel
theorem dX10_notMoved_72 : decode cX10_notMoved 72 = .ok (.aload_n 0, 1) := by decide +kernel
theorem dX10_notMoved_73 : decode cX10_notMoved 73 = .ok (.getfield 25, 3) := by decide +kernel
theorem dX10_notMoved_76 : decode cX10_notMoved 76 = .ok (.iload_n 1, 1) := by decide +kernel
theorem dX10_notMoved_77 : decode cX10_notMoved 77 = .ok (.iaload, 1) := by decide +kernel
theorem dX10_notMoved_78 : decode cX10_notMoved 78 = .ok (.iload_n 2, 1) := by decide +kernel
theorem dX10_notMoved_79 : decode cX10_notMoved 79 = .ok (.isub, 1) := by decide +kernel
theorem dX10_notMoved_80 : decode cX10_notMoved 80 = .ok (.if_icmp .gt 21, 3) := by decide +kernel
theorem dX10_notMoved_83 : decode cX10_notMoved 83 = .ok (.iload 5, 2) := by decide +kernel
theorem dX10_notMoved_85 : decode cX10_notMoved 85 = .ok (.aload_n 0, 1) := by decide +kernel
theorem dX10_notMoved_86 : decode cX10_notMoved 86 = .ok (.getfield 25, 3) := by decide +kernel
theorem dX10_notMoved_89 : decode cX10_notMoved 89 = .ok (.iload_n 3, 1) := by decide +kernel
theorem dX10_notMoved_90 : decode cX10_notMoved 90 = .ok (.iaload, 1) := by decide +kernel
theorem dX10_notMoved_91 : decode cX10_notMoved 91 = .ok (.iload 4, 2) := by decide +kernel
theorem dX10_notMoved_93 : decode cX10_notMoved 93 = .ok (.isub, 1) := by decide +kernel
theorem dX10_notMoved_94 : decode cX10_notMoved 94 = .ok (.if_icmp .gt 7, 3) := by decide +kernel
theorem dX10_notMoved_97 : decode cX10_notMoved 97 = .ok (.iconst 1, 1) := by decide +kernel
theorem dX10_notMoved_98 : decode cX10_notMoved 98 = .ok (.goto 4, 3) := by decide +kernel
theorem dX10_notMoved_101 : decode cX10_notMoved 101 = .ok (.iconst 0, 1) := by decide +kernel
theorem dX10_notMoved_102 : decode cX10_notMoved 102 = .ok (.istore 6, 2) := by decide +kernel
theorem dX10_notMoved_104 : decode cX10_notMoved 104 = .ok (.iload 6, 2) := by decide +kernel
theorem dX10_notMoved_106 : decode cX10_notMoved 106 = .ok (.ifCond .eq 7, 3) := by decide +kernel
theorem dX10_notMoved_109 : decode cX10_notMoved 109 = .ok (.iconst 0, 1) := by decide +kernel
theorem dX10_notMoved_110 : decode cX10_notMoved 110 = .ok (.goto 5, 3) := by decide +kernel
theorem dX10_notMoved_113 : decode cX10_notMoved 113 = .ok (.ldc 86, 2) := by decide +kernel
theorem dX10_notMoved_115 : decode cX10_notMoved 115 = .ok (.ireturn, 1) := by decide +kernel
set_option maxRecDepth 20000 in
theorem ggX10_move_X10_notMoved : GoodIn wsX10_move wsX10_notMoved := goodIn_r _ [6, 7, 8, 9, 10, 11, 12, 13, 5, 14, 15, 16, 17, 24, 25, 26, 27, 28, 29, 30, 31, 32, 33, 34, 35, 36, 37, 38, 39, 40, 41, 42, 43, 44] (by decide +kernel) (by decide +kernel)
set_option maxRecDepth 20000 in
theorem gX10_move_X10_notMoved : GoodIn wsX10_move (wsV RX10 264 RX10 yX10_notMoved wsX10_notMoved) := goodIn_app (goodIn_of _ (by decide +kernel)) ggX10_move_X10_notMoved
set_option maxRecDepth 20000 in
theorem ggX10_move_X10_error : GoodIn wsX10_move wsX10_error := goodIn_r _ [21, 22, 23, 24, 25, 26, 27, 28, 29, 30, 31, 32, 33, 34, 35, 36, 37, 38, 39, 40, 41, 42, 43, 44] (by decide +kernel) (by decide +kernel)
set_option maxRecDepth 20000 in
theorem gX10_move_X10_error : GoodIn wsX10_move (wsV RX10 87 RX10 yX10_error wsX10_error) := goodIn_app (goodIn_of _ (by decide +kernel)) ggX10_move_X10_error
theorem dX10_move_0 : decode cX10_move 0 = .ok (.aload_n 0, 1) := by decide +kernel
theorem dX10_move_1 : decode cX10_move 1 = .ok (.iload_n 1, 1) := by decide +kernel
theorem dX10_move_2 : decode cX10_move 2 = .ok (.iload_n 2, 1) := by decide +kernel
theorem dX10_move_3 : decode cX10_move 3 = .ok (.iload_n 3, 1) := by decide +kernel
