theorem dX8_bodyOf_12 : decode cX8_bodyOf 12 = .ok (.if_icmp .eq 35, 3) := by decide +kernel
theorem dX8_bodyOf_15 : decode cX8_bodyOf 15 = .ok (.getstatic 60, 3) := by decide +kernel
theorem dX8_bodyOf_18 : decode cX8_bodyOf 18 = .ok (.bipush 7, 2) := by decide +kernel
theorem dX8_bodyOf_20 : decode cX8_bodyOf 20 = .ok (.iload_n 0, 1) := by decide +kernel
theorem dX8_bodyOf_21 : decode cX8_bodyOf 21 = .ok (.imul, 1) := by decide +kernel
theorem dX8_bodyOf_22 : decode cX8_bodyOf 22 = .ok (.iload_n 2, 1) := by decide +kernel
theorem dX8_bodyOf_23 : decode cX8_bodyOf 23 = .ok (.iadd, 1) := by decide +kernel
theorem dX8_bodyOf_24 : decode cX8_bodyOf 24 = .ok (.iaload, 1) := by decide +kernel
theorem dX8_bodyOf_25 : decode cX8_bodyOf 25 = .ok (.istore 4, 2) := by decide +kernel
theorem dX8_bodyOf_27 : decode cX8_bodyOf 27 = .ok (.iload 4, 2) := by decide +kernel
theorem dX8_bodyOf_29 : decode cX8_bodyOf 29 = .ok (.ifCond .eq 6, 3) := by decide +kernel
theorem dX8_bodyOf_32 : decode cX8_bodyOf 32 = .ok (.iload 4, 2) := by decide +kernel
theorem dX8_bodyOf_34 : decode cX8_bodyOf 34 = .ok (.ireturn, 1) := by decide +kernel
theorem dX8_bodyOf_35 : decode cX8_bodyOf 35 = .ok (.getstatic 52, 3) := by decide +kernel
theorem dX8_bodyOf_38 : decode cX8_bodyOf 38 = .ok (.iload_n 2, 1) := by decide +kernel
theorem dX8_bodyOf_39 : decode cX8_bodyOf 39 = .ok (.iaload, 1) := by decide +kernel
theorem dX8_bodyOf_40 : decode cX8_bodyOf 40 = .ok (.istore_n 2, 1) := by decide +kernel
theorem dX8_bodyOf_41 : decode cX8_bodyOf 41 = .ok (.iinc 3 1, 3) := by decide +kernel
theorem dX8_bodyOf_44 : decode cX8_bodyOf 44 = .ok (.goto (-40), 3) := by decide +kernel
theorem dX8_bodyOf_47 : decode cX8_bodyOf 47 = .ok (.iconst 0, 1) := by decide +kernel
theorem dX8_bodyOf_48 : decode cX8_bodyOf 48 = .ok (.ireturn, 1) := by decide +kernel
set_option maxRecDepth 20000 in
theorem ggX9_init_X0_init : GoodIn wsX9_init wsX0_init := goodIn_r _ [33, 34, 2, 3, 35, 36, 27, 37, 38, 39, 40, 41, 42, 43, 44, 45, 46, 47, 48, 49, 50, 51, 52, 53, 54, 55, 56, 57, 58, 59, 60, 61, 62, 63, 64, 65, 66, 67, 68, 95, 96, 97, 98, 99, 100, 101, 102, 103, 104, 129, 130, 131, 132, 133, 134, 135, 136, 137, 138, 139, 140] (by decide +kernel) (by decide +kernel)
set_option maxRecDepth 20000 in
theorem gX9_init_X0_init : GoodIn wsX9_init (wsX0_init) := ggX9_init_X0_init
set_option maxRecDepth 20000 in
theorem ggX9_init_X4_init : GoodIn wsX9_init wsX4_init := goodIn_r _ [70, 71, 2, 3, 72, 40, 41, 73, 74, 75, 51, 52, 53, 54, 55, 56, 57, 27, 58, 129, 130, 114, 115, 116, 117] (by decide +kernel) (by decide +kernel)
set_option maxRecDepth 20000 in
theorem gX9_init_X4_init_n21 : GoodIn wsX9_init (wsX4_init) := ggX9_init_X4_init
set_option maxRecDepth 20000 in
theorem ggX9_init_X5_init : GoodIn wsX9_init wsX5_init := goodIn_r _ [77, 78, 2, 3] (by decide +kernel) (by decide +kernel)
set_option maxRecDepth 20000 in
theorem gX9_init_X5_init_n28 : GoodIn wsX9_init (wsX5_init) := ggX9_init_X5_init
set_option maxRecDepth 20000 in
theorem ggX9_init_X3_init : GoodIn wsX9_init wsX3_init := goodIn_r _ [80, 81, 2, 3, 27, 82, 121] (by decide +kernel) (by decide +kernel)
set_option maxRecDepth 20000 in
theorem gX9_init_X3_init_n35 : GoodIn wsX9_init (wsX3_init) := ggX9_init_X3_init
set_option maxRecDepth 20000 in
theorem ggX9_init_X8_init : GoodIn wsX9_init wsX8_init := goodIn_r _ [84, 85, 2, 3, 86, 40, 41, 87, 88, 51, 52, 53, 54, 55, 56, 57, 27, 58, 129, 130, 122, 123, 124, 125, 126] (by decide +kernel) (by decide +kernel)
set_option maxRecDepth 20000 in
theorem gX9_init_X8_init_n42 : GoodIn wsX9_init (wsX8_init) := ggX9_init_X8_init
set_option maxRecDepth 20000 in
theorem ggX9_init_X7_init : GoodIn wsX9_init wsX7_init := goodIn_r _ [90, 91, 2, 3, 92, 40, 41, 93, 94, 51, 52, 53, 54, 55, 56, 57, 27, 58, 129, 130, 127, 128] (by decide +kernel) (by decide +kernel)
set_option maxRecDepth 20000 in
theorem gX9_init_X7_init_n57 : GoodIn wsX9_init (wsX7_init) := ggX9_init_X7_init
theorem dX9_init_0 : decode cX9_init 0 = .ok (.aload_n 0, 1) := by decide +kernel
theorem dX9_init_1 : decode cX9_init 1 = .ok (.invokespecial 1, 3) := by decide +kernel
theorem dX9_init_4 : decode cX9_init 4 = .ok (.aload_n 0, 1) := by decide +kernel
theorem dX9_init_5 : decode cX9_init 5 = .ok (.new 7, 3) := by decide +kernel
theorem dX9_init_8 : decode cX9_init 8 = .ok (.dup, 1) := by decide +kernel
theorem dX9_init_9 : decode cX9_init 9 = .ok (.invokespecial 9, 3) := by decide +kernel
theorem dX9_init_12 : decode cX9_init 12 = .ok (.putfield 10, 3) := by decide +kernel
theorem dX9_init_15 : decode cX9_init 15 = .ok (.aload_n 0, 1) := by decide +kernel
theorem dX9_init_16 : decode cX9_init 16 = .ok (.new 7, 3) := by decide +kernel
theorem dX9_init_19 : decode cX9_init 19 = .ok (.dup, 1) := by decide +kernel
theorem dX9_init_20 : decode cX9_init 20 = .ok (.invokespecial 9, 3) := by decide +kernel
theorem dX9_init_23 : decode cX9_init 23 = .ok (.putfield 16, 3) := by decide +kernel
theorem dX9_init_26 : decode cX9_init 26 = .ok (.aload_n 0, 1) := by decide +kernel
theorem dX9_init_27 : decode cX9_init 27 = .ok (.new 19, 3) := by decide +kernel
theorem dX9_init_30 : decode cX9_init 30 = .ok (.dup, 1) := by decide +kernel
theorem dX9_init_31 : decode cX9_init 31 = .ok (.invokespecial 21, 3) := by decide +kernel
theorem dX9_init_34 : decode cX9_init 34 = .ok (.putfield 22, 3) := by decide +kernel
theorem dX9_init_37 : decode cX9_init 37 = .ok (.aload_n 0, 1) := by decide +kernel
theorem dX9_init_38 : decode cX9_init 38 = .ok (.new 26, 3) := by decide +kernel
theorem dX9_init_41 : decode cX9_init 41 = .ok (.dup, 1) := by decide +kernel
theorem dX9_init_42 : decode cX9_init 42 = .ok (.invokespecial 28, 3) := by decide +kernel
theorem dX9_init_45 : decode cX9_init 45 = .ok (.putfield 29, 3) := by decide +kernel
theorem dX9_init_48 : decode cX9_init 48 = .ok (.aload_n 0, 1) := by decide +kernel
theorem dX9_init_49 : decode cX9_init 49 = .ok (.new 33, 3) := by decide +kernel
theorem dX9_init_52 : decode cX9_init 52 = .ok (.dup, 1) := by decide +kernel
theorem dX9_init_53 : decode cX9_init 53 = .ok (.invokespecial 35, 3) := by decide +kernel
theorem dX9_init_56 : decode cX9_init 56 = .ok (.putfield 36, 3) := by decide +kernel
theorem dX9_init_59 : decode cX9_init 59 = .ok (.aload_n 0, 1) := by decide +kernel
theorem dX9_init_60 : decode cX9_init 60 = .ok (.new 40, 3) := by decide +kernel
theorem dX9_init_63 : decode cX9_init 63 = .ok (.dup, 1) := by decide +kernel
theorem dX9_init_64 : decode cX9_init 64 = .ok (.invokespecial 42, 3) := by decide +kernel
theorem dX9_init_67 : decode cX9_init 67 = .ok (.putfield 43, 3) := by decide +kernel
theorem dX9_init_70 : decode cX9_init 70 = .ok (.aload_n 0, 1) := by decide +kernel
theorem dX9_init_71 : decode cX9_init 71 = .ok (.iconst 4, 1) := by decide +kernel
theorem dX9_init_72 : decode cX9_init 72 = .ok (.anewarray 47, 3) := by decide +kernel
theorem dX9_init_75 : decode cX9_init 75 = .ok (.putfield 49, 3) := by decide +kernel
theorem dX9_init_78 : decode cX9_init 78 = .ok (.aload_n 0, 1) := by decide +kernel
theorem dX9_init_79 : decode cX9_init 79 = .ok (.bipush 7, 2) := by decide +kernel
theorem dX9_init_81 : decode cX9_init 81 = .ok (.newarray .int, 2) := by decide +kernel
theorem dX9_init_83 : decode cX9_init 83 = .ok (.putfield 53, 3) := by decide +kernel
theorem dX9_init_86 : decode cX9_init 86 = .ok (.iconst 0, 1) := by decide +kernel
theorem dX9_init_87 : decode cX9_init 87 = .ok (.istore_n 1, 1) := by decide +kernel
theorem dX9_init_88 : decode cX9_init 88 = .ok (.iload_n 1, 1) := by decide +kernel
theorem dX9_init_89 : decode cX9_init 89 = .ok (.iconst 4, 1) := by decide +kernel
theorem dX9_init_90 : decode cX9_init 90 = .ok (.if_icmp .ge 22, 3) := by decide +kernel
theorem dX9_init_93 : decode cX9_init 93 = .ok (.aload_n 0, 1) := by decide +kernel
theorem dX9_init_94 : decode cX9_init 94 = .ok (.getfield 49, 3) := by decide +kernel
theorem dX9_init_97 : decode cX9_init 97 = .ok (.iload_n 1, 1) := by decide +kernel
theorem dX9_init_98 : decode cX9_init 98 = .ok (.new 47, 3) := by decide +kernel
theorem dX9_init_101 : decode cX9_init 101 = .ok (.dup, 1) := by decide +kernel
theorem dX9_init_102 : decode cX9_init 102 = .ok (.invokespecial 57, 3) := by decide +kernel
theorem dX9_init_105 : decode cX9_init 105 = .ok (.aastore, 1) := by decide +kernel
theorem dX9_init_106 : decode cX9_init 106 = .ok (.iinc 1 1, 3) := by decide +kernel
theorem dX9_init_109 : decode cX9_init 109 = .ok (.goto (-21), 3) := by decide +kernel
theorem dX9_init_112 : decode cX9_init 112 = .ok (.return_, 1) := by decide +kernel
set_option maxRecDepth 20000 in
theorem ggX9_write_X9_isKm : GoodIn wsX9_write wsX9_isKm := goodIn_r _ [5, 6, 7, 4, 8] (by decide +kernel) (by decide +kernel)
set_option maxRecDepth 20000 in
theorem gX9_write_X9_isKm : GoodIn wsX9_write (va_wsS RX9 58 yX9_isKm wsX9_isKm) := goodIn_app (goodIn_of _ (by decide +kernel)) ggX9_write_X9_isKm
set_option maxRecDepth 20000 in
theorem ggX9_write_X9_isIn : GoodIn wsX9_write wsX9_isIn := goodIn_r _ [8] (by decide +kernel) (by decide +kernel)
set_option maxRecDepth 20000 in
theorem gX9_write_X9_isIn : GoodIn wsX9_write (va_wsS RX9 62 yX9_isIn wsX9_isIn) := goodIn_app (goodIn_of _ (by decide +kernel)) ggX9_write_X9_isIn
set_option maxRecDepth 20000 in
theorem ggX9_write_X9_error : GoodIn wsX9_write wsX9_error := goodIn_r _ [12, 13, 14, 60, 61, 62, 63, 64, 65, 66, 67, 68] (by decide +kernel) (by decide +kernel)
set_option maxRecDepth 20000 in
theorem gX9_write_X9_error : GoodIn wsX9_write (wsV RX9 66 RX9 yX9_error wsX9_error) := goodIn_app (goodIn_of _ (by decide +kernel)) ggX9_write_X9_error
set_option maxRecDepth 20000 in
theorem ggX9_write_X9_columnsFrom : GoodIn wsX9_write wsX9_columnsFrom := goodIn_r _ [17] (by decide +kernel) (by decide +kernel)
set_option maxRecDepth 20000 in
theorem gX9_write_X9_columnsFrom : GoodIn wsX9_write (va_wsS RX9 74 yX9_columnsFrom wsX9_columnsFrom) := goodIn_app (goodIn_of _ (by decide +kernel)) ggX9_write_X9_columnsFrom
set_option maxRecDepth 20000 in
theorem ggX9_write_X0_taken : GoodIn wsX9_write wsX0_taken := goodIn_r _ [22, 23, 24, 25, 21, 26, 27, 28, 29, 30, 31, 32, 33, 34, 35, 36, 37, 38, 39, 40, 41, 42, 43, 44, 45, 46, 47, 48, 69, 70, 71, 72, 73, 74, 75, 76, 77, 78, 79, 80, 81, 82, 83, 84, 85] (by decide +kernel) (by decide +kernel)
set_option maxRecDepth 20000 in
theorem gX9_write_X0_taken : GoodIn wsX9_write (wsV RX9 78 RX0 yX0_taken wsX0_taken) := goodIn_app (goodIn_of _ (by decide +kernel)) ggX9_write_X0_taken
set_option maxRecDepth 20000 in
theorem ggX9_write_X0_addLine : GoodIn wsX9_write wsX0_addLine := goodIn_r _ [52, 27, 28, 29, 53, 54, 55, 34, 56, 47, 48, 57, 58, 38, 59, 36, 69, 70, 71, 72, 73, 74, 75, 76, 77, 78, 79, 80, 81, 82, 83, 84, 85] (by decide +kernel) (by decide +kernel)
set_option maxRecDepth 20000 in
theorem gX9_write_X0_addLine : GoodIn wsX9_write (wsV RX9 85 RX0 yX0_addLine wsX0_addLine) := goodIn_app (goodIn_of _ (by decide +kernel)) ggX9_write_X0_addLine
theorem dX9_write_0 : decode cX9_write 0 = .ok (.iload_n 2, 1) := by decide +kernel
theorem dX9_write_1 : decode cX9_write 1 = .ok (.bipush 100, 2) := by decide +kernel
theorem dX9_write_3 : decode cX9_write 3 = .ok (.idiv, 1) := by decide +kernel
theorem dX9_write_4 : decode cX9_write 4 = .ok (.istore 5, 2) := by decide +kernel
theorem dX9_write_6 : decode cX9_write 6 = .ok (.iload_n 2, 1) := by decide +kernel
theorem dX9_write_7 : decode cX9_write 7 = .ok (.bipush 100, 2) := by decide +kernel
theorem dX9_write_9 : decode cX9_write 9 = .ok (.irem, 1) := by decide +kernel
theorem dX9_write_10 : decode cX9_write 10 = .ok (.istore 6, 2) := by decide +kernel
theorem dX9_write_12 : decode cX9_write 12 = .ok (.iload_n 1, 1) := by decide +kernel
theorem dX9_write_13 : decode cX9_write 13 = .ok (.invokestatic 58, 3) := by decide +kernel
theorem dX9_write_16 : decode cX9_write 16 = .ok (.ifCond .eq 28, 3) := by decide +kernel
theorem dX9_write_19 : decode cX9_write 19 = .ok (.iload 5, 2) := by decide +kernel
theorem dX9_write_21 : decode cX9_write 21 = .ok (.iconst 0, 1) := by decide +kernel
theorem dX9_write_22 : decode cX9_write 22 = .ok (.bipush 11, 2) := by decide +kernel
theorem dX9_write_24 : decode cX9_write 24 = .ok (.invokestatic 62, 3) := by decide +kernel
theorem dX9_write_27 : decode cX9_write 27 = .ok (.ifCond .eq 17, 3) := by decide +kernel
theorem dX9_write_30 : decode cX9_write 30 = .ok (.iload 6, 2) := by decide +kernel
theorem dX9_write_32 : decode cX9_write 32 = .ok (.iconst 1, 1) := by decide +kernel
theorem dX9_write_33 : decode cX9_write 33 = .ok (.bipush 12, 2) := by decide +kernel
theorem dX9_write_35 : decode cX9_write 35 = .ok (.iload 5, 2) := by decide +kernel
theorem dX9_write_37 : decode cX9_write 37 = .ok (.isub, 1) := by decide +kernel
theorem dX9_write_38 : decode cX9_write 38 = .ok (.invokestatic 62, 3) := by decide +kernel
theorem dX9_write_41 : decode cX9_write 41 = .ok (.ifCond .ne 9, 3) := by decide +kernel
theorem dX9_write_44 : decode cX9_write 44 = .ok (.aload_n 0, 1) := by decide +kernel
theorem dX9_write_45 : decode cX9_write 45 = .ok (.iconst 1, 1) := by decide +kernel
theorem dX9_write_46 : decode cX9_write 46 = .ok (.invokevirtual 66, 3) := by decide +kernel
theorem dX9_write_49 : decode cX9_write 49 = .ok (.ireturn, 1) := by decide +kernel
theorem dX9_write_50 : decode cX9_write 50 = .ok (.iload_n 3, 1) := by decide +kernel
theorem dX9_write_51 : decode cX9_write 51 = .ok (.iconst 0, 1) := by decide +kernel
theorem dX9_write_52 : decode cX9_write 52 = .ok (.iconst 5, 1) := by decide +kernel
theorem dX9_write_53 : decode cX9_write 53 = .ok (.invokestatic 62, 3) := by decide +kernel
theorem dX9_write_56 : decode cX9_write 56 = .ok (.ifCond .eq 13, 3) := by decide +kernel
theorem dX9_write_59 : decode cX9_write 59 = .ok (.iload 4, 2) := by decide +kernel
theorem dX9_write_61 : decode cX9_write 61 = .ok (.iconst 0, 1) := by decide +kernel
theorem dX9_write_62 : decode cX9_write 62 = .ok (.iconst 4, 1) := by decide +kernel
theorem dX9_write_63 : decode cX9_write 63 = .ok (.invokestatic 62, 3) := by decide +kernel
theorem dX9_write_66 : decode cX9_write 66 = .ok (.ifCond .ne 9, 3) := by decide +kernel
theorem dX9_write_69 : decode cX9_write 69 = .ok (.aload_n 0, 1) := by decide +kernel
theorem dX9_write_70 : decode cX9_write 70 = .ok (.iconst 1, 1) := by decide +kernel
theorem dX9_write_71 : decode cX9_write 71 = .ok (.invokevirtual 66, 3) := by decide +kernel
theorem dX9_write_74 : decode cX9_write 74 = .ok (.ireturn, 1) := by decide +kernel
theorem dX9_write_75 : decode cX9_write 75 = .ok (.aload_n 0, 1) := by decide +kernel
theorem dX9_write_76 : decode cX9_write 76 = .ok (.getfield 10, 3) := by decide +kernel
theorem dX9_write_79 : decode cX9_write 79 = .ok (.getfield 70, 3) := by decide +kernel
theorem dX9_write_82 : decode cX9_write 82 = .ok (.bipush 10, 2) := by decide +kernel
theorem dX9_write_84 : decode cX9_write 84 = .ok (.if_icmp .lt 9, 3) := by decide +kernel
theorem dX9_write_87 : decode cX9_write 87 = .ok (.aload_n 0, 1) := by decide +kernel
theorem dX9_write_88 : decode cX9_write 88 = .ok (.iconst 4, 1) := by decide +kernel
theorem dX9_write_89 : decode cX9_write 89 = .ok (.invokevirtual 66, 3) := by decide +kernel
theorem dX9_write_92 : decode cX9_write 92 = .ok (.ireturn, 1) := by decide +kernel
theorem dX9_write_93 : decode cX9_write 93 = .ok (.iload 5, 2) := by decide +kernel
theorem dX9_write_95 : decode cX9_write 95 = .ok (.iload 6, 2) := by decide +kernel
theorem dX9_write_97 : decode cX9_write 97 = .ok (.invokestatic 74, 3) := by decide +kernel
theorem dX9_write_100 : decode cX9_write 100 = .ok (.istore 7, 2) := by decide +kernel
theorem dX9_write_102 : decode cX9_write 102 = .ok (.aload_n 0, 1) := by decide +kernel
theorem dX9_write_103 : decode cX9_write 103 = .ok (.getfield 10, 3) := by decide +kernel
theorem dX9_write_106 : decode cX9_write 106 = .ok (.invokevirtual 78, 3) := by decide +kernel
theorem dX9_write_109 : decode cX9_write 109 = .ok (.iload 7, 2) := by decide +kernel
theorem dX9_write_111 : decode cX9_write 111 = .ok (.iand, 1) := by decide +kernel
theorem dX9_write_112 : decode cX9_write 112 = .ok (.ifCond .ne 18, 3) := by decide +kernel
theorem dX9_write_115 : decode cX9_write 115 = .ok (.aload_n 0, 1) := by decide +kernel
theorem dX9_write_116 : decode cX9_write 116 = .ok (.getfield 10, 3) := by decide +kernel
theorem dX9_write_119 : decode cX9_write 119 = .ok (.getfield 82, 3) := by decide +kernel
theorem dX9_write_122 : decode cX9_write 122 = .ok (.iload 4, 2) := by decide +kernel
theorem dX9_write_124 : decode cX9_write 124 = .ok (.iaload, 1) := by decide +kernel
theorem dX9_write_125 : decode cX9_write 125 = .ok (.iload 6, 2) := by decide +kernel
theorem dX9_write_127 : decode cX9_write 127 = .ok (.if_icmp .ge 9, 3) := by decide +kernel
theorem dX9_write_130 : decode cX9_write 130 = .ok (.aload_n 0, 1) := by decide +kernel
theorem dX9_write_131 : decode cX9_write 131 = .ok (.iconst 3, 1) := by decide +kernel
theorem dX9_write_132 : decode cX9_write 132 = .ok (.invokevirtual 66, 3) := by decide +kernel
theorem dX9_write_135 : decode cX9_write 135 = .ok (.ireturn, 1) := by decide +kernel
theorem dX9_write_136 : decode cX9_write 136 = .ok (.aload_n 0, 1) := by decide +kernel
theorem dX9_write_137 : decode cX9_write 137 = .ok (.getfield 10, 3) := by decide +kernel
theorem dX9_write_140 : decode cX9_write 140 = .ok (.getfield 82, 3) := by decide +kernel
theorem dX9_write_143 : decode cX9_write 143 = .ok (.iload 4, 2) := by decide +kernel
theorem dX9_write_145 : decode cX9_write 145 = .ok (.dup2, 1) := by decide +kernel
theorem dX9_write_146 : decode cX9_write 146 = .ok (.iaload, 1) := by decide +kernel
theorem dX9_write_147 : decode cX9_write 147 = .ok (.iload 6, 2) := by decide +kernel
theorem dX9_write_149 : decode cX9_write 149 = .ok (.isub, 1) := by decide +kernel
theorem dX9_write_150 : decode cX9_write 150 = .ok (.iastore, 1) := by decide +kernel
theorem dX9_write_151 : decode cX9_write 151 = .ok (.aload_n 0, 1) := by decide +kernel
theorem dX9_write_152 : decode cX9_write 152 = .ok (.getfield 10, 3) := by decide +kernel
theorem dX9_write_155 : decode cX9_write 155 = .ok (.iload_n 1, 1) := by decide +kernel
theorem dX9_write_156 : decode cX9_write 156 = .ok (.bipush 10, 2) := by decide +kernel
theorem dX9_write_158 : decode cX9_write 158 = .ok (.idiv, 1) := by decide +kernel
theorem dX9_write_159 : decode cX9_write 159 = .ok (.iload_n 1, 1) := by decide +kernel
theorem dX9_write_160 : decode cX9_write 160 = .ok (.bipush 10, 2) := by decide +kernel
theorem dX9_write_162 : decode cX9_write 162 = .ok (.irem, 1) := by decide +kernel
theorem dX9_write_163 : decode cX9_write 163 = .ok (.iload 7, 2) := by decide +kernel
theorem dX9_write_165 : decode cX9_write 165 = .ok (.iload_n 3, 1) := by decide +kernel
theorem dX9_write_166 : decode cX9_write 166 = .ok (.invokevirtual 85, 3) := by decide +kernel
theorem dX9_write_169 : decode cX9_write 169 = .ok (.ireturn, 1) := by decide +kernel
set_option maxRecDepth 20000 in
theorem ggX9_lineIs_X0_hasLine : GoodIn wsX9_lineIs wsX0_hasLine := goodIn_r _ [6, 7, 94, 95, 96, 97, 98, 99, 100, 101, 102, 103] (by decide +kernel) (by decide +kernel)
set_option maxRecDepth 20000 in
theorem gX9_lineIs_X0_hasLine : GoodIn wsX9_lineIs (wsV RX9 89 RX0 yX0_hasLine wsX0_hasLine) := goodIn_app (goodIn_of _ (by decide +kernel)) ggX9_lineIs_X0_hasLine
set_option maxRecDepth 20000 in
theorem ggX9_lineIs_X9_error : GoodIn wsX9_lineIs wsX9_error := goodIn_r _ [12, 13, 14, 85, 86, 87, 88, 89, 90, 91, 92, 93] (by decide +kernel) (by decide +kernel)
set_option maxRecDepth 20000 in
theorem gX9_lineIs_X9_error : GoodIn wsX9_lineIs (wsV RX9 66 RX9 yX9_error wsX9_error) := goodIn_app (goodIn_of _ (by decide +kernel)) ggX9_lineIs_X9_error
set_option maxRecDepth 20000 in
theorem ggX9_lineIs_X0_mayGo : GoodIn wsX9_lineIs wsX0_mayGo := goodIn_r _ [18, 19, 20, 21, 22, 23, 24, 25, 26, 27, 28, 29, 30, 31, 32, 33, 34, 35, 36, 37, 38, 94, 95, 96, 97, 98, 99, 100, 101, 102, 103, 104, 105, 106, 107, 108, 109, 110] (by decide +kernel) (by decide +kernel)
set_option maxRecDepth 20000 in
theorem gX9_lineIs_X0_mayGo : GoodIn wsX9_lineIs (wsV RX9 123 RX0 yX0_mayGo wsX0_mayGo) := goodIn_app (goodIn_of _ (by decide +kernel)) ggX9_lineIs_X0_mayGo
set_option maxRecDepth 20000 in
theorem ggX9_lineIs_X2_back : GoodIn wsX9_lineIs wsX2_back := goodIn_r _ [42, 28, 29, 30, 31, 32, 38, 37, 43, 44, 11, 45, 46, 47, 48, 49, 104, 105, 106, 107, 108, 109, 110] (by decide +kernel) (by decide +kernel)
set_option maxRecDepth 20000 in
theorem gX9_lineIs_X2_back : GoodIn wsX9_lineIs (wsV RX9 127 RX2 yX2_back wsX2_back) := goodIn_app (goodIn_of _ (by decide +kernel)) ggX9_lineIs_X2_back
set_option maxRecDepth 20000 in
theorem ggX9_lineIs_X0_lossOf : GoodIn wsX9_lineIs wsX0_lossOf := goodIn_r _ [53, 19, 54, 40, 41, 24, 42, 28, 29, 30, 31, 32, 38, 37, 43, 44, 11, 45, 46, 47, 48, 49, 55, 56, 57, 5, 58, 59, 60, 61, 62, 63, 64, 65, 66, 67, 68, 69, 70, 71, 72, 73, 74, 75, 76, 77, 78, 79, 80, 81, 82, 83, 84, 94, 95, 96, 97, 98, 99, 100, 101, 102, 103, 104, 105, 106, 107, 108, 109, 110, 111, 112, 113, 114, 115] (by decide +kernel) (by decide +kernel)
set_option maxRecDepth 20000 in
theorem gX9_lineIs_X0_lossOf : GoodIn wsX9_lineIs (wsV RX9 130 RX0 yX0_lossOf wsX0_lossOf) := goodIn_app (goodIn_of _ (by decide +kernel)) ggX9_lineIs_X0_lossOf
theorem dX9_lineIs_0 : decode cX9_lineIs 0 = .ok (.aload_n 0, 1) := by decide +kernel
theorem dX9_lineIs_1 : decode cX9_lineIs 1 = .ok (.getfield 10, 3) := by decide +kernel
theorem dX9_lineIs_4 : decode cX9_lineIs 4 = .ok (.iload_n 1, 1) := by decide +kernel
theorem dX9_lineIs_5 : decode cX9_lineIs 5 = .ok (.invokevirtual 89, 3) := by decide +kernel
theorem dX9_lineIs_8 : decode cX9_lineIs 8 = .ok (.ifCond .ne 9, 3) := by decide +kernel
theorem dX9_lineIs_11 : decode cX9_lineIs 11 = .ok (.aload_n 0, 1) := by decide +kernel
theorem dX9_lineIs_12 : decode cX9_lineIs 12 = .ok (.iconst 1, 1) := by decide +kernel
theorem dX9_lineIs_13 : decode cX9_lineIs 13 = .ok (.invokevirtual 66, 3) := by decide +kernel
theorem dX9_lineIs_16 : decode cX9_lineIs 16 = .ok (.ireturn, 1) := by decide +kernel
theorem dX9_lineIs_17 : decode cX9_lineIs 17 = .ok (.aload_n 0, 1) := by decide +kernel
theorem dX9_lineIs_18 : decode cX9_lineIs 18 = .ok (.getfield 10, 3) := by decide +kernel
theorem dX9_lineIs_21 : decode cX9_lineIs 21 = .ok (.getfield 92, 3) := by decide +kernel
theorem dX9_lineIs_24 : decode cX9_lineIs 24 = .ok (.iload_n 1, 1) := by decide +kernel
theorem dX9_lineIs_25 : decode cX9_lineIs 25 = .ok (.aaload, 1) := by decide +kernel
theorem dX9_lineIs_26 : decode cX9_lineIs 26 = .ok (.astore_n 3, 1) := by decide +kernel
theorem dX9_lineIs_27 : decode cX9_lineIs 27 = .ok (.iload_n 2, 1) := by decide +kernel
theorem dX9_lineIs_28 : decode cX9_lineIs 28 = .ok (.tableswitch 151 0 9 #[56, 61, 66, 71, 76, 81, 86, 99, 123, 135], 56) := by decide +kernel
theorem dX9_lineIs_84 : decode cX9_lineIs 84 = .ok (.aload_n 3, 1) := by decide +kernel
theorem dX9_lineIs_85 : decode cX9_lineIs 85 = .ok (.getfield 96, 3) := by decide +kernel
theorem dX9_lineIs_88 : decode cX9_lineIs 88 = .ok (.ireturn, 1) := by decide +kernel
theorem dX9_lineIs_89 : decode cX9_lineIs 89 = .ok (.aload_n 3, 1) := by decide +kernel
theorem dX9_lineIs_90 : decode cX9_lineIs 90 = .ok (.getfield 101, 3) := by decide +kernel
theorem dX9_lineIs_93 : decode cX9_lineIs 93 = .ok (.ireturn, 1) := by decide +kernel
theorem dX9_lineIs_94 : decode cX9_lineIs 94 = .ok (.aload_n 3, 1) := by decide +kernel
theorem dX9_lineIs_95 : decode cX9_lineIs 95 = .ok (.getfield 104, 3) := by decide +kernel
theorem dX9_lineIs_98 : decode cX9_lineIs 98 = .ok (.ireturn, 1) := by decide +kernel
theorem dX9_lineIs_99 : decode cX9_lineIs 99 = .ok (.aload_n 3, 1) := by decide +kernel
theorem dX9_lineIs_100 : decode cX9_lineIs 100 = .ok (.getfield 107, 3) := by decide +kernel
theorem dX9_lineIs_103 : decode cX9_lineIs 103 = .ok (.ireturn, 1) := by decide +kernel
theorem dX9_lineIs_104 : decode cX9_lineIs 104 = .ok (.aload_n 3, 1) := by decide +kernel
theorem dX9_lineIs_105 : decode cX9_lineIs 105 = .ok (.getfield 110, 3) := by decide +kernel
theorem dX9_lineIs_108 : decode cX9_lineIs 108 = .ok (.ireturn, 1) := by decide +kernel
theorem dX9_lineIs_109 : decode cX9_lineIs 109 = .ok (.aload_n 3, 1) := by decide +kernel
theorem dX9_lineIs_110 : decode cX9_lineIs 110 = .ok (.getfield 113, 3) := by decide +kernel
theorem dX9_lineIs_113 : decode cX9_lineIs 113 = .ok (.ireturn, 1) := by decide +kernel
theorem dX9_lineIs_114 : decode cX9_lineIs 114 = .ok (.aload_n 3, 1) := by decide +kernel
theorem dX9_lineIs_115 : decode cX9_lineIs 115 = .ok (.getfield 116, 3) := by decide +kernel
theorem dX9_lineIs_118 : decode cX9_lineIs 118 = .ok (.ifCond .eq 7, 3) := by decide +kernel
theorem dX9_lineIs_121 : decode cX9_lineIs 121 = .ok (.iconst 1, 1) := by decide +kernel
theorem dX9_lineIs_122 : decode cX9_lineIs 122 = .ok (.goto 4, 3) := by decide +kernel
theorem dX9_lineIs_125 : decode cX9_lineIs 125 = .ok (.iconst 0, 1) := by decide +kernel
theorem dX9_lineIs_126 : decode cX9_lineIs 126 = .ok (.ireturn, 1) := by decide +kernel
theorem dX9_lineIs_127 : decode cX9_lineIs 127 = .ok (.aload_n 0, 1) := by decide +kernel
theorem dX9_lineIs_128 : decode cX9_lineIs 128 = .ok (.getfield 10, 3) := by decide +kernel
theorem dX9_lineIs_131 : decode cX9_lineIs 131 = .ok (.iload_n 1, 1) := by decide +kernel
theorem dX9_lineIs_132 : decode cX9_lineIs 132 = .ok (.aload_n 0, 1) := by decide +kernel
theorem dX9_lineIs_133 : decode cX9_lineIs 133 = .ok (.getfield 10, 3) := by decide +kernel
theorem dX9_lineIs_136 : decode cX9_lineIs 136 = .ok (.getfield 120, 3) := by decide +kernel
theorem dX9_lineIs_139 : decode cX9_lineIs 139 = .ok (.invokevirtual 123, 3) := by decide +kernel
theorem dX9_lineIs_142 : decode cX9_lineIs 142 = .ok (.ifCond .eq 7, 3) := by decide +kernel
theorem dX9_lineIs_145 : decode cX9_lineIs 145 = .ok (.iconst 1, 1) := by decide +kernel
theorem dX9_lineIs_146 : decode cX9_lineIs 146 = .ok (.goto 4, 3) := by decide +kernel
theorem dX9_lineIs_149 : decode cX9_lineIs 149 = .ok (.iconst 0, 1) := by decide +kernel
theorem dX9_lineIs_150 : decode cX9_lineIs 150 = .ok (.ireturn, 1) := by decide +kernel
theorem dX9_lineIs_151 : decode cX9_lineIs 151 = .ok (.aload_n 3, 1) := by decide +kernel
theorem dX9_lineIs_152 : decode cX9_lineIs 152 = .ok (.aload_n 0, 1) := by decide +kernel
theorem dX9_lineIs_153 : decode cX9_lineIs 153 = .ok (.getfield 10, 3) := by decide +kernel
theorem dX9_lineIs_156 : decode cX9_lineIs 156 = .ok (.getfield 120, 3) := by decide +kernel
theorem dX9_lineIs_159 : decode cX9_lineIs 159 = .ok (.invokevirtual 127, 3) := by decide +kernel
theorem dX9_lineIs_162 : decode cX9_lineIs 162 = .ok (.ireturn, 1) := by decide +kernel
theorem dX9_lineIs_163 : decode cX9_lineIs 163 = .ok (.aload_n 0, 1) := by decide +kernel
theorem dX9_lineIs_164 : decode cX9_lineIs 164 = .ok (.getfield 10, 3) := by decide +kernel
theorem dX9_lineIs_167 : decode cX9_lineIs 167 = .ok (.iload_n 1, 1) := by decide +kernel
theorem dX9_lineIs_168 : decode cX9_lineIs 168 = .ok (.aload_n 0, 1) := by decide +kernel
theorem dX9_lineIs_169 : decode cX9_lineIs 169 = .ok (.getfield 10, 3) := by decide +kernel
theorem dX9_lineIs_172 : decode cX9_lineIs 172 = .ok (.getfield 120, 3) := by decide +kernel
theorem dX9_lineIs_175 : decode cX9_lineIs 175 = .ok (.invokevirtual 130, 3) := by decide +kernel
theorem dX9_lineIs_178 : decode cX9_lineIs 178 = .ok (.ireturn, 1) := by decide +kernel
theorem dX9_lineIs_179 : decode cX9_lineIs 179 = .ok (.aload_n 0, 1) := by decide +kernel
theorem dX9_lineIs_180 : decode cX9_lineIs 180 = .ok (.iconst 1, 1) := by decide +kernel
theorem dX9_lineIs_181 : decode cX9_lineIs 181 = .ok (.invokevirtual 66, 3) := by decide +kernel
theorem dX9_lineIs_184 : decode cX9_lineIs 184 = .ok (.ireturn, 1) := by decide +kernel
set_option maxRecDepth 20000 in
theorem ggX9_become_X0_hasLine : GoodIn wsX9_become wsX0_hasLine := goodIn_r _ [6, 7, 30, 31, 32, 33, 34, 35, 36, 37, 38, 39] (by decide +kernel) (by decide +kernel)
set_option maxRecDepth 20000 in
theorem gX9_become_X0_hasLine : GoodIn wsX9_become (wsV RX9 89 RX0 yX0_hasLine wsX0_hasLine) := goodIn_app (goodIn_of _ (by decide +kernel)) ggX9_become_X0_hasLine
set_option maxRecDepth 20000 in
theorem ggX9_become_X9_isKm : GoodIn wsX9_become wsX9_isKm := goodIn_r _ [11, 12, 13, 10, 14] (by decide +kernel) (by decide +kernel)
set_option maxRecDepth 20000 in
theorem gX9_become_X9_isKm : GoodIn wsX9_become (va_wsS RX9 58 yX9_isKm wsX9_isKm) := goodIn_app (goodIn_of _ (by decide +kernel)) ggX9_become_X9_isKm
set_option maxRecDepth 20000 in
theorem ggX9_become_X9_error : GoodIn wsX9_become wsX9_error := goodIn_r _ [18, 19, 20, 21, 22, 23, 24, 25, 26, 27, 28, 29] (by decide +kernel) (by decide +kernel)
set_option maxRecDepth 20000 in
theorem gX9_become_X9_error : GoodIn wsX9_become (wsV RX9 66 RX9 yX9_error wsX9_error) := goodIn_app (goodIn_of _ (by decide +kernel)) ggX9_become_X9_error
theorem dX9_become_0 : decode cX9_become 0 = .ok (.aload_n 0, 1) := by decide +kernel
theorem dX9_become_1 : decode cX9_become 1 = .ok (.getfield 10, 3) := by decide +kernel
theorem dX9_become_4 : decode cX9_become 4 = .ok (.iload_n 1, 1) := by decide +kernel
theorem dX9_become_5 : decode cX9_become 5 = .ok (.invokevirtual 89, 3) := by decide +kernel
theorem dX9_become_8 : decode cX9_become 8 = .ok (.ifCond .eq 10, 3) := by decide +kernel
theorem dX9_become_11 : decode cX9_become 11 = .ok (.iload_n 2, 1) := by decide +kernel
theorem dX9_become_12 : decode cX9_become 12 = .ok (.invokestatic 58, 3) := by decide +kernel
theorem dX9_become_15 : decode cX9_become 15 = .ok (.ifCond .ne 9, 3) := by decide +kernel
theorem dX9_become_18 : decode cX9_become 18 = .ok (.aload_n 0, 1) := by decide +kernel
theorem dX9_become_19 : decode cX9_become 19 = .ok (.iconst 1, 1) := by decide +kernel
theorem dX9_become_20 : decode cX9_become 20 = .ok (.invokevirtual 66, 3) := by decide +kernel
theorem dX9_become_23 : decode cX9_become 23 = .ok (.ireturn, 1) := by decide +kernel
theorem dX9_become_24 : decode cX9_become 24 = .ok (.aload_n 0, 1) := by decide +kernel
theorem dX9_become_25 : decode cX9_become 25 = .ok (.getfield 10, 3) := by decide +kernel
theorem dX9_become_28 : decode cX9_become 28 = .ok (.getfield 92, 3) := by decide +kernel
theorem dX9_become_31 : decode cX9_become 31 = .ok (.iload_n 1, 1) := by decide +kernel
theorem dX9_become_32 : decode cX9_become 32 = .ok (.aaload, 1) := by decide +kernel
theorem dX9_become_33 : decode cX9_become 33 = .ok (.astore_n 3, 1) := by decide +kernel
theorem dX9_become_34 : decode cX9_become 34 = .ok (.aload_n 3, 1) := by decide +kernel
theorem dX9_become_35 : decode cX9_become 35 = .ok (.getfield 96, 3) := by decide +kernel
theorem dX9_become_38 : decode cX9_become 38 = .ok (.istore 4, 2) := by decide +kernel
theorem dX9_become_40 : decode cX9_become 40 = .ok (.aload_n 3, 1) := by decide +kernel
theorem dX9_become_41 : decode cX9_become 41 = .ok (.iload_n 2, 1) := by decide +kernel
theorem dX9_become_42 : decode cX9_become 42 = .ok (.bipush 10, 2) := by decide +kernel
theorem dX9_become_44 : decode cX9_become 44 = .ok (.idiv, 1) := by decide +kernel
theorem dX9_become_45 : decode cX9_become 45 = .ok (.putfield 96, 3) := by decide +kernel
theorem dX9_become_48 : decode cX9_become 48 = .ok (.aload_n 3, 1) := by decide +kernel
theorem dX9_become_49 : decode cX9_become 49 = .ok (.iload_n 2, 1) := by decide +kernel
theorem dX9_become_50 : decode cX9_become 50 = .ok (.bipush 10, 2) := by decide +kernel
theorem dX9_become_52 : decode cX9_become 52 = .ok (.irem, 1) := by decide +kernel
theorem dX9_become_53 : decode cX9_become 53 = .ok (.putfield 101, 3) := by decide +kernel
theorem dX9_become_56 : decode cX9_become 56 = .ok (.iload 4, 2) := by decide +kernel
theorem dX9_become_58 : decode cX9_become 58 = .ok (.ireturn, 1) := by decide +kernel
set_option maxRecDepth 20000 in
theorem ggX9_as_X0_hasLine : GoodIn wsX9_as wsX0_hasLine := goodIn_r _ [6, 7, 31, 32, 33, 34, 35, 36, 37, 38, 39, 40] (by decide +kernel) (by decide +kernel)
set_option maxRecDepth 20000 in
theorem gX9_as_X0_hasLine : GoodIn wsX9_as (wsV RX9 89 RX0 yX0_hasLine wsX0_hasLine) := goodIn_app (goodIn_of _ (by decide +kernel)) ggX9_as_X0_hasLine
set_option maxRecDepth 20000 in
theorem ggX9_as_X9_isIn : GoodIn wsX9_as wsX9_isIn := goodIn_r _ [11] (by decide +kernel) (by decide +kernel)
set_option maxRecDepth 20000 in
theorem gX9_as_X9_isIn : GoodIn wsX9_as (va_wsS RX9 62 yX9_isIn wsX9_isIn) := goodIn_app (goodIn_of _ (by decide +kernel)) ggX9_as_X9_isIn
set_option maxRecDepth 20000 in
theorem ggX9_as_X9_error : GoodIn wsX9_as wsX9_error := goodIn_r _ [15, 16, 17, 22, 23, 24, 25, 26, 27, 28, 29, 30] (by decide +kernel) (by decide +kernel)
set_option maxRecDepth 20000 in
theorem gX9_as_X9_error : GoodIn wsX9_as (wsV RX9 66 RX9 yX9_error wsX9_error) := goodIn_app (goodIn_of _ (by decide +kernel)) ggX9_as_X9_error
set_option maxRecDepth 20000 in
theorem ggX9_as_X9_isUnder : GoodIn wsX9_as wsX9_isUnder := goodIn_r _ [20, 21] (by decide +kernel) (by decide +kernel)
set_option maxRecDepth 20000 in
theorem gX9_as_X9_isUnder : GoodIn wsX9_as (va_wsS RX9 133 yX9_isUnder wsX9_isUnder) := goodIn_app (goodIn_of _ (by decide +kernel)) ggX9_as_X9_isUnder
theorem dX9_as_0 : decode cX9_as 0 = .ok (.aload_n 0, 1) := by decide +kernel
theorem dX9_as_1 : decode cX9_as 1 = .ok (.getfield 10, 3) := by decide +kernel
theorem dX9_as_4 : decode cX9_as 4 = .ok (.iload_n 1, 1) := by decide +kernel
theorem dX9_as_5 : decode cX9_as 5 = .ok (.invokevirtual 89, 3) := by decide +kernel
theorem dX9_as_8 : decode cX9_as 8 = .ok (.ifCond .eq 13, 3) := by decide +kernel
theorem dX9_as_11 : decode cX9_as 11 = .ok (.iload_n 2, 1) := by decide +kernel
theorem dX9_as_12 : decode cX9_as 12 = .ok (.iconst 0, 1) := by decide +kernel
theorem dX9_as_13 : decode cX9_as 13 = .ok (.bipush 6, 2) := by decide +kernel
theorem dX9_as_15 : decode cX9_as 15 = .ok (.invokestatic 62, 3) := by decide +kernel
theorem dX9_as_18 : decode cX9_as 18 = .ok (.ifCond .ne 9, 3) := by decide +kernel
theorem dX9_as_21 : decode cX9_as 21 = .ok (.aload_n 0, 1) := by decide +kernel
theorem dX9_as_22 : decode cX9_as 22 = .ok (.iconst 1, 1) := by decide +kernel
theorem dX9_as_23 : decode cX9_as 23 = .ok (.invokevirtual 66, 3) := by decide +kernel
theorem dX9_as_26 : decode cX9_as 26 = .ok (.ireturn, 1) := by decide +kernel
theorem dX9_as_27 : decode cX9_as 27 = .ok (.aload_n 0, 1) := by decide +kernel
theorem dX9_as_28 : decode cX9_as 28 = .ok (.getfield 10, 3) := by decide +kernel
theorem dX9_as_31 : decode cX9_as 31 = .ok (.getfield 92, 3) := by decide +kernel
theorem dX9_as_34 : decode cX9_as 34 = .ok (.iload_n 1, 1) := by decide +kernel
theorem dX9_as_35 : decode cX9_as 35 = .ok (.aaload, 1) := by decide +kernel
theorem dX9_as_36 : decode cX9_as 36 = .ok (.astore_n 3, 1) := by decide +kernel
theorem dX9_as_37 : decode cX9_as 37 = .ok (.aload_n 3, 1) := by decide +kernel
theorem dX9_as_38 : decode cX9_as 38 = .ok (.getfield 96, 3) := by decide +kernel
theorem dX9_as_41 : decode cX9_as 41 = .ok (.iload_n 2, 1) := by decide +kernel
theorem dX9_as_42 : decode cX9_as 42 = .ok (.invokestatic 133, 3) := by decide +kernel
theorem dX9_as_45 : decode cX9_as 45 = .ok (.ifCond .eq 10, 3) := by decide +kernel
theorem dX9_as_48 : decode cX9_as 48 = .ok (.aload_n 3, 1) := by decide +kernel
theorem dX9_as_49 : decode cX9_as 49 = .ok (.getfield 101, 3) := by decide +kernel
theorem dX9_as_52 : decode cX9_as 52 = .ok (.goto 8, 3) := by decide +kernel
theorem dX9_as_55 : decode cX9_as 55 = .ok (.aload_n 0, 1) := by decide +kernel
theorem dX9_as_56 : decode cX9_as 56 = .ok (.iconst 5, 1) := by decide +kernel
theorem dX9_as_57 : decode cX9_as 57 = .ok (.invokevirtual 66, 3) := by decide +kernel
theorem dX9_as_60 : decode cX9_as 60 = .ok (.ireturn, 1) := by decide +kernel
set_option maxRecDepth 20000 in
theorem ggX9_photo_X0_hasLine : GoodIn wsX9_photo wsX0_hasLine := goodIn_r _ [6, 7, 27, 28, 29, 30, 31, 32, 33, 34, 35, 36] (by decide +kernel) (by decide +kernel)
set_option maxRecDepth 20000 in
theorem gX9_photo_X0_hasLine : GoodIn wsX9_photo (wsV RX9 89 RX0 yX0_hasLine wsX0_hasLine) := goodIn_app (goodIn_of _ (by decide +kernel)) ggX9_photo_X0_hasLine
set_option maxRecDepth 20000 in
theorem ggX9_photo_X9_isIn : GoodIn wsX9_photo wsX9_isIn := goodIn_r _ [11] (by decide +kernel) (by decide +kernel)
set_option maxRecDepth 20000 in
theorem gX9_photo_X9_isIn : GoodIn wsX9_photo (va_wsS RX9 62 yX9_isIn wsX9_isIn) := goodIn_app (goodIn_of _ (by decide +kernel)) ggX9_photo_X9_isIn
set_option maxRecDepth 20000 in
theorem ggX9_photo_X9_error : GoodIn wsX9_photo wsX9_error := goodIn_r _ [15, 16, 17, 18, 19, 20, 21, 22, 23, 24, 25, 26] (by decide +kernel) (by decide +kernel)
set_option maxRecDepth 20000 in
theorem gX9_photo_X9_error : GoodIn wsX9_photo (wsV RX9 66 RX9 yX9_error wsX9_error) := goodIn_app (goodIn_of _ (by decide +kernel)) ggX9_photo_X9_error
theorem dX9_photo_0 : decode cX9_photo 0 = .ok (.aload_n 0, 1) := by decide +kernel
theorem dX9_photo_1 : decode cX9_photo 1 = .ok (.getfield 10, 3) := by decide +kernel
theorem dX9_photo_4 : decode cX9_photo 4 = .ok (.iload_n 1, 1) := by decide +kernel
theorem dX9_photo_5 : decode cX9_photo 5 = .ok (.invokevirtual 89, 3) := by decide +kernel
theorem dX9_photo_8 : decode cX9_photo 8 = .ok (.ifCond .eq 12, 3) := by decide +kernel
theorem dX9_photo_11 : decode cX9_photo 11 = .ok (.iload_n 2, 1) := by decide +kernel
theorem dX9_photo_12 : decode cX9_photo 12 = .ok (.iconst 0, 1) := by decide +kernel
theorem dX9_photo_13 : decode cX9_photo 13 = .ok (.iconst 1, 1) := by decide +kernel
theorem dX9_photo_14 : decode cX9_photo 14 = .ok (.invokestatic 62, 3) := by decide +kernel
theorem dX9_photo_17 : decode cX9_photo 17 = .ok (.ifCond .ne 9, 3) := by decide +kernel
theorem dX9_photo_20 : decode cX9_photo 20 = .ok (.aload_n 0, 1) := by decide +kernel
theorem dX9_photo_21 : decode cX9_photo 21 = .ok (.iconst 1, 1) := by decide +kernel
theorem dX9_photo_22 : decode cX9_photo 22 = .ok (.invokevirtual 66, 3) := by decide +kernel
theorem dX9_photo_25 : decode cX9_photo 25 = .ok (.ireturn, 1) := by decide +kernel
theorem dX9_photo_26 : decode cX9_photo 26 = .ok (.aload_n 0, 1) := by decide +kernel
theorem dX9_photo_27 : decode cX9_photo 27 = .ok (.getfield 10, 3) := by decide +kernel
theorem dX9_photo_30 : decode cX9_photo 30 = .ok (.getfield 92, 3) := by decide +kernel
theorem dX9_photo_33 : decode cX9_photo 33 = .ok (.iload_n 1, 1) := by decide +kernel
theorem dX9_photo_34 : decode cX9_photo 34 = .ok (.aaload, 1) := by decide +kernel
theorem dX9_photo_35 : decode cX9_photo 35 = .ok (.getfield 113, 3) := by decide +kernel
theorem dX9_photo_38 : decode cX9_photo 38 = .ok (.istore_n 3, 1) := by decide +kernel
theorem dX9_photo_39 : decode cX9_photo 39 = .ok (.aload_n 0, 1) := by decide +kernel
theorem dX9_photo_40 : decode cX9_photo 40 = .ok (.getfield 10, 3) := by decide +kernel
theorem dX9_photo_43 : decode cX9_photo 43 = .ok (.getfield 92, 3) := by decide +kernel
theorem dX9_photo_46 : decode cX9_photo 46 = .ok (.iload_n 1, 1) := by decide +kernel
theorem dX9_photo_47 : decode cX9_photo 47 = .ok (.aaload, 1) := by decide +kernel
theorem dX9_photo_48 : decode cX9_photo 48 = .ok (.iload_n 2, 1) := by decide +kernel
theorem dX9_photo_49 : decode cX9_photo 49 = .ok (.putfield 113, 3) := by decide +kernel
theorem dX9_photo_52 : decode cX9_photo 52 = .ok (.iload_n 3, 1) := by decide +kernel
theorem dX9_photo_53 : decode cX9_photo 53 = .ok (.ireturn, 1) := by decide +kernel
set_option maxRecDepth 20000 in
theorem ggX9_wipe_X0_hasLine : GoodIn wsX9_wipe wsX0_hasLine := goodIn_r _ [6, 7, 101, 102, 103, 104, 105, 106, 107, 108, 109, 110] (by decide +kernel) (by decide +kernel)
set_option maxRecDepth 20000 in
theorem gX9_wipe_X0_hasLine : GoodIn wsX9_wipe (wsV RX9 89 RX0 yX0_hasLine wsX0_hasLine) := goodIn_app (goodIn_of _ (by decide +kernel)) ggX9_wipe_X0_hasLine
set_option maxRecDepth 20000 in
theorem ggX9_wipe_X9_error : GoodIn wsX9_wipe wsX9_error := goodIn_r _ [12, 13, 14, 92, 93, 94, 95, 96, 97, 98, 99, 100] (by decide +kernel) (by decide +kernel)
set_option maxRecDepth 20000 in
theorem gX9_wipe_X9_error : GoodIn wsX9_wipe (wsV RX9 66 RX9 yX9_error wsX9_error) := goodIn_app (goodIn_of _ (by decide +kernel)) ggX9_wipe_X9_error
set_option maxRecDepth 20000 in
theorem ggX9_wipe_X0_mayGo : GoodIn wsX9_wipe wsX0_mayGo := goodIn_r _ [18, 19, 20, 21, 22, 23, 24, 25, 26, 27, 28, 29, 30, 31, 32, 33, 34, 35, 36, 37, 38, 101, 102, 103, 104, 105, 106, 107, 108, 109, 110, 111, 112, 113, 114, 115, 116, 117] (by decide +kernel) (by decide +kernel)
set_option maxRecDepth 20000 in
theorem gX9_wipe_X0_mayGo : GoodIn wsX9_wipe (wsV RX9 123 RX0 yX0_mayGo wsX0_mayGo) := goodIn_app (goodIn_of _ (by decide +kernel)) ggX9_wipe_X0_mayGo
set_option maxRecDepth 20000 in
theorem ggX9_wipe_X0_wipeLine : GoodIn wsX9_wipe wsX0_wipeLine := goodIn_r _ [42, 43, 19, 44, 45, 46, 47, 31, 48, 49, 50, 51, 5, 52, 53, 54, 55, 24, 56, 28, 29, 30, 32, 38, 37, 57, 58, 11, 59, 60, 61, 62, 63, 64, 65, 66, 67, 68, 69, 70, 71, 72, 73, 74, 75, 76, 77, 78, 79, 80, 81, 82, 83, 84, 85, 86, 87, 88, 89, 90, 91, 101, 102, 103, 104, 105, 106, 107, 108, 109, 110, 111, 112, 113, 114, 115, 116, 117, 118, 119, 120, 121, 122] (by decide +kernel) (by decide +kernel)
set_option maxRecDepth 20000 in
theorem gX9_wipe_X0_wipeLine : GoodIn wsX9_wipe (wsV RX9 136 RX0 yX0_wipeLine wsX0_wipeLine) := goodIn_app (goodIn_of _ (by decide +kernel)) ggX9_wipe_X0_wipeLine
theorem dX9_wipe_0 : decode cX9_wipe 0 = .ok (.aload_n 0, 1) := by decide +kernel
theorem dX9_wipe_1 : decode cX9_wipe 1 = .ok (.getfield 10, 3) := by decide +kernel
theorem dX9_wipe_4 : decode cX9_wipe 4 = .ok (.iload_n 1, 1) := by decide +kernel
theorem dX9_wipe_5 : decode cX9_wipe 5 = .ok (.invokevirtual 89, 3) := by decide +kernel
theorem dX9_wipe_8 : decode cX9_wipe 8 = .ok (.ifCond .ne 9, 3) := by decide +kernel
theorem dX9_wipe_11 : decode cX9_wipe 11 = .ok (.aload_n 0, 1) := by decide +kernel
theorem dX9_wipe_12 : decode cX9_wipe 12 = .ok (.iconst 1, 1) := by decide +kernel
theorem dX9_wipe_13 : decode cX9_wipe 13 = .ok (.invokevirtual 66, 3) := by decide +kernel
theorem dX9_wipe_16 : decode cX9_wipe 16 = .ok (.ireturn, 1) := by decide +kernel
theorem dX9_wipe_17 : decode cX9_wipe 17 = .ok (.aload_n 0, 1) := by decide +kernel
theorem dX9_wipe_18 : decode cX9_wipe 18 = .ok (.getfield 10, 3) := by decide +kernel
theorem dX9_wipe_21 : decode cX9_wipe 21 = .ok (.iload_n 1, 1) := by decide +kernel
theorem dX9_wipe_22 : decode cX9_wipe 22 = .ok (.aload_n 0, 1) := by decide +kernel
theorem dX9_wipe_23 : decode cX9_wipe 23 = .ok (.getfield 10, 3) := by decide +kernel
theorem dX9_wipe_26 : decode cX9_wipe 26 = .ok (.getfield 120, 3) := by decide +kernel
theorem dX9_wipe_29 : decode cX9_wipe 29 = .ok (.invokevirtual 123, 3) := by decide +kernel
theorem dX9_wipe_32 : decode cX9_wipe 32 = .ok (.ifCond .eq 14, 3) := by decide +kernel
theorem dX9_wipe_35 : decode cX9_wipe 35 = .ok (.aload_n 0, 1) := by decide +kernel
theorem dX9_wipe_36 : decode cX9_wipe 36 = .ok (.getfield 10, 3) := by decide +kernel
theorem dX9_wipe_39 : decode cX9_wipe 39 = .ok (.iload_n 1, 1) := by decide +kernel
theorem dX9_wipe_40 : decode cX9_wipe 40 = .ok (.invokevirtual 136, 3) := by decide +kernel
theorem dX9_wipe_43 : decode cX9_wipe 43 = .ok (.goto 8, 3) := by decide +kernel
theorem dX9_wipe_46 : decode cX9_wipe 46 = .ok (.aload_n 0, 1) := by decide +kernel
theorem dX9_wipe_47 : decode cX9_wipe 47 = .ok (.iconst 3, 1) := by decide +kernel
theorem dX9_wipe_48 : decode cX9_wipe 48 = .ok (.invokevirtual 66, 3) := by decide +kernel
theorem dX9_wipe_51 : decode cX9_wipe 51 = .ok (.ireturn, 1) := by decide +kernel
set_option maxRecDepth 20000 in
theorem ggX9_pen_X9_isIn : GoodIn wsX9_pen wsX9_isIn := goodIn_r _ [5] (by decide +kernel) (by decide +kernel)
set_option maxRecDepth 20000 in
theorem gX9_pen_X9_isIn : GoodIn wsX9_pen (va_wsS RX9 62 yX9_isIn wsX9_isIn) := goodIn_app (goodIn_of _ (by decide +kernel)) ggX9_pen_X9_isIn
set_option maxRecDepth 20000 in
theorem ggX9_pen_X9_error : GoodIn wsX9_pen wsX9_error := goodIn_r _ [9, 10, 11, 12, 13, 14, 15, 16, 17, 18, 19, 20] (by decide +kernel) (by decide +kernel)
set_option maxRecDepth 20000 in
theorem gX9_pen_X9_error : GoodIn wsX9_pen (wsV RX9 66 RX9 yX9_error wsX9_error) := goodIn_app (goodIn_of _ (by decide +kernel)) ggX9_pen_X9_error
theorem dX9_pen_0 : decode cX9_pen 0 = .ok (.iload_n 1, 1) := by decide +kernel
theorem dX9_pen_1 : decode cX9_pen 1 = .ok (.iconst 0, 1) := by decide +kernel
theorem dX9_pen_2 : decode cX9_pen 2 = .ok (.iconst 4, 1) := by decide +kernel
theorem dX9_pen_3 : decode cX9_pen 3 = .ok (.invokestatic 62, 3) := by decide +kernel
theorem dX9_pen_6 : decode cX9_pen 6 = .ok (.ifCond .eq 13, 3) := by decide +kernel
theorem dX9_pen_9 : decode cX9_pen 9 = .ok (.iload_n 2, 1) := by decide +kernel
theorem dX9_pen_10 : decode cX9_pen 10 = .ok (.iconst 0, 1) := by decide +kernel
theorem dX9_pen_11 : decode cX9_pen 11 = .ok (.bipush 99, 2) := by decide +kernel
theorem dX9_pen_13 : decode cX9_pen 13 = .ok (.invokestatic 62, 3) := by decide +kernel
theorem dX9_pen_16 : decode cX9_pen 16 = .ok (.ifCond .ne 9, 3) := by decide +kernel
theorem dX9_pen_19 : decode cX9_pen 19 = .ok (.aload_n 0, 1) := by decide +kernel
theorem dX9_pen_20 : decode cX9_pen 20 = .ok (.iconst 1, 1) := by decide +kernel
theorem dX9_pen_21 : decode cX9_pen 21 = .ok (.invokevirtual 66, 3) := by decide +kernel
theorem dX9_pen_24 : decode cX9_pen 24 = .ok (.ireturn, 1) := by decide +kernel
theorem dX9_pen_25 : decode cX9_pen 25 = .ok (.aload_n 0, 1) := by decide +kernel
theorem dX9_pen_26 : decode cX9_pen 26 = .ok (.getfield 10, 3) := by decide +kernel
theorem dX9_pen_29 : decode cX9_pen 29 = .ok (.getfield 82, 3) := by decide +kernel
theorem dX9_pen_32 : decode cX9_pen 32 = .ok (.iload_n 1, 1) := by decide +kernel
theorem dX9_pen_33 : decode cX9_pen 33 = .ok (.iaload, 1) := by decide +kernel
theorem dX9_pen_34 : decode cX9_pen 34 = .ok (.istore_n 3, 1) := by decide +kernel
theorem dX9_pen_35 : decode cX9_pen 35 = .ok (.aload_n 0, 1) := by decide +kernel
theorem dX9_pen_36 : decode cX9_pen 36 = .ok (.getfield 10, 3) := by decide +kernel
theorem dX9_pen_39 : decode cX9_pen 39 = .ok (.getfield 82, 3) := by decide +kernel
theorem dX9_pen_42 : decode cX9_pen 42 = .ok (.iload_n 1, 1) := by decide +kernel
theorem dX9_pen_43 : decode cX9_pen 43 = .ok (.iload_n 2, 1) := by decide +kernel
theorem dX9_pen_44 : decode cX9_pen 44 = .ok (.iastore, 1) := by decide +kernel
theorem dX9_pen_45 : decode cX9_pen 45 = .ok (.iload_n 3, 1) := by decide +kernel
theorem dX9_pen_46 : decode cX9_pen 46 = .ok (.ireturn, 1) := by decide +kernel
set_option maxRecDepth 20000 in
theorem ggX9_spirit_X9_isIn : GoodIn wsX9_spirit wsX9_isIn := goodIn_r _ [5] (by decide +kernel) (by decide +kernel)
set_option maxRecDepth 20000 in
theorem gX9_spirit_X9_isIn : GoodIn wsX9_spirit (va_wsS RX9 62 yX9_isIn wsX9_isIn) := goodIn_app (goodIn_of _ (by decide +kernel)) ggX9_spirit_X9_isIn
set_option maxRecDepth 20000 in
theorem ggX9_spirit_X9_error : GoodIn wsX9_spirit wsX9_error := goodIn_r _ [9, 10, 11, 12, 13, 14, 15, 16, 17, 18, 19, 20] (by decide +kernel) (by decide +kernel)
set_option maxRecDepth 20000 in
theorem gX9_spirit_X9_error : GoodIn wsX9_spirit (wsV RX9 66 RX9 yX9_error wsX9_error) := goodIn_app (goodIn_of _ (by decide +kernel)) ggX9_spirit_X9_error
theorem dX9_spirit_0 : decode cX9_spirit 0 = .ok (.iload_n 1, 1) := by decide +kernel
theorem dX9_spirit_1 : decode cX9_spirit 1 = .ok (.iconst 0, 1) := by decide +kernel
theorem dX9_spirit_2 : decode cX9_spirit 2 = .ok (.iconst 1, 1) := by decide +kernel
theorem dX9_spirit_3 : decode cX9_spirit 3 = .ok (.invokestatic 62, 3) := by decide +kernel
theorem dX9_spirit_6 : decode cX9_spirit 6 = .ok (.ifCond .ne 9, 3) := by decide +kernel
theorem dX9_spirit_9 : decode cX9_spirit 9 = .ok (.aload_n 0, 1) := by decide +kernel
theorem dX9_spirit_10 : decode cX9_spirit 10 = .ok (.iconst 1, 1) := by decide +kernel
theorem dX9_spirit_11 : decode cX9_spirit 11 = .ok (.invokevirtual 66, 3) := by decide +kernel
theorem dX9_spirit_14 : decode cX9_spirit 14 = .ok (.ireturn, 1) := by decide +kernel
theorem dX9_spirit_15 : decode cX9_spirit 15 = .ok (.aload_n 0, 1) := by decide +kernel
theorem dX9_spirit_16 : decode cX9_spirit 16 = .ok (.getfield 10, 3) := by decide +kernel
theorem dX9_spirit_19 : decode cX9_spirit 19 = .ok (.getfield 139, 3) := by decide +kernel
theorem dX9_spirit_22 : decode cX9_spirit 22 = .ok (.istore_n 2, 1) := by decide +kernel
theorem dX9_spirit_23 : decode cX9_spirit 23 = .ok (.aload_n 0, 1) := by decide +kernel
theorem dX9_spirit_24 : decode cX9_spirit 24 = .ok (.getfield 10, 3) := by decide +kernel
theorem dX9_spirit_27 : decode cX9_spirit 27 = .ok (.iload_n 1, 1) := by decide +kernel
theorem dX9_spirit_28 : decode cX9_spirit 28 = .ok (.putfield 139, 3) := by decide +kernel
theorem dX9_spirit_31 : decode cX9_spirit 31 = .ok (.iload_n 2, 1) := by decide +kernel
theorem dX9_spirit_32 : decode cX9_spirit 32 = .ok (.ireturn, 1) := by decide +kernel
set_option maxRecDepth 20000 in
theorem ggX9_feed_X9_isIn : GoodIn wsX9_feed wsX9_isIn := goodIn_r _ [5] (by decide +kernel) (by decide +kernel)
set_option maxRecDepth 20000 in
theorem gX9_feed_X9_isIn : GoodIn wsX9_feed (va_wsS RX9 62 yX9_isIn wsX9_isIn) := goodIn_app (goodIn_of _ (by decide +kernel)) ggX9_feed_X9_isIn
set_option maxRecDepth 20000 in
theorem ggX9_feed_X9_error : GoodIn wsX9_feed wsX9_error := goodIn_r _ [9, 10, 11, 23, 24, 25, 26, 27, 28, 29, 30, 31] (by decide +kernel) (by decide +kernel)
set_option maxRecDepth 20000 in
theorem gX9_feed_X9_error : GoodIn wsX9_feed (wsV RX9 66 RX9 yX9_error wsX9_error) := goodIn_app (goodIn_of _ (by decide +kernel)) ggX9_feed_X9_error
set_option maxRecDepth 20000 in
theorem ggX9_feed_X6_hasRoomFor : GoodIn wsX9_feed wsX6_hasRoomFor := goodIn_r _ [16, 17, 18, 42, 43] (by decide +kernel) (by decide +kernel)
set_option maxRecDepth 20000 in
theorem gX9_feed_X6_hasRoomFor : GoodIn wsX9_feed (wsV RX9 146 RX6 yX6_hasRoomFor wsX6_hasRoomFor) := goodIn_app (goodIn_of _ (by decide +kernel)) ggX9_feed_X6_hasRoomFor
set_option maxRecDepth 20000 in
theorem ggX9_feed_X6_add : GoodIn wsX9_feed wsX6_add := goodIn_r _ [22, 18, 17, 42, 43] (by decide +kernel) (by decide +kernel)
set_option maxRecDepth 20000 in
theorem gX9_feed_X6_add : GoodIn wsX9_feed (wsV RX9 151 RX6 yX6_add wsX6_add) := goodIn_app (goodIn_of _ (by decide +kernel)) ggX9_feed_X6_add
theorem dX9_feed_0 : decode cX9_feed 0 = .ok (.iload_n 3, 1) := by decide +kernel
theorem dX9_feed_1 : decode cX9_feed 1 = .ok (.iconst 1, 1) := by decide +kernel
theorem dX9_feed_2 : decode cX9_feed 2 = .ok (.bipush 8, 2) := by decide +kernel
theorem dX9_feed_4 : decode cX9_feed 4 = .ok (.invokestatic 62, 3) := by decide +kernel
theorem dX9_feed_7 : decode cX9_feed 7 = .ok (.ifCond .ne 9, 3) := by decide +kernel
theorem dX9_feed_10 : decode cX9_feed 10 = .ok (.aload_n 0, 1) := by decide +kernel
theorem dX9_feed_11 : decode cX9_feed 11 = .ok (.iconst 1, 1) := by decide +kernel
theorem dX9_feed_12 : decode cX9_feed 12 = .ok (.invokevirtual 66, 3) := by decide +kernel
theorem dX9_feed_15 : decode cX9_feed 15 = .ok (.ireturn, 1) := by decide +kernel
theorem dX9_feed_16 : decode cX9_feed 16 = .ok (.aload_n 0, 1) := by decide +kernel
theorem dX9_feed_17 : decode cX9_feed 17 = .ok (.getfield 10, 3) := by decide +kernel
theorem dX9_feed_20 : decode cX9_feed 20 = .ok (.getfield 142, 3) := by decide +kernel
theorem dX9_feed_23 : decode cX9_feed 23 = .ok (.iload_n 3, 1) := by decide +kernel
theorem dX9_feed_24 : decode cX9_feed 24 = .ok (.invokevirtual 146, 3) := by decide +kernel
theorem dX9_feed_27 : decode cX9_feed 27 = .ok (.ifCond .ne 9, 3) := by decide +kernel
theorem dX9_feed_30 : decode cX9_feed 30 = .ok (.aload_n 0, 1) := by decide +kernel
theorem dX9_feed_31 : decode cX9_feed 31 = .ok (.iconst 4, 1) := by decide +kernel
theorem dX9_feed_32 : decode cX9_feed 32 = .ok (.invokevirtual 66, 3) := by decide +kernel
theorem dX9_feed_35 : decode cX9_feed 35 = .ok (.ireturn, 1) := by decide +kernel
theorem dX9_feed_36 : decode cX9_feed 36 = .ok (.iconst 0, 1) := by decide +kernel
theorem dX9_feed_37 : decode cX9_feed 37 = .ok (.istore 4, 2) := by decide +kernel
theorem dX9_feed_39 : decode cX9_feed 39 = .ok (.iload 4, 2) := by decide +kernel
theorem dX9_feed_41 : decode cX9_feed 41 = .ok (.iload_n 3, 1) := by decide +kernel
theorem dX9_feed_42 : decode cX9_feed 42 = .ok (.if_icmp .ge 31, 3) := by decide +kernel
theorem dX9_feed_45 : decode cX9_feed 45 = .ok (.aload_n 0, 1) := by decide +kernel
theorem dX9_feed_46 : decode cX9_feed 46 = .ok (.getfield 10, 3) := by decide +kernel
theorem dX9_feed_49 : decode cX9_feed 49 = .ok (.getfield 142, 3) := by decide +kernel
theorem dX9_feed_52 : decode cX9_feed 52 = .ok (.lload_n 1, 1) := by decide +kernel
theorem dX9_feed_53 : decode cX9_feed 53 = .ok (.bipush 8, 2) := by decide +kernel
theorem dX9_feed_55 : decode cX9_feed 55 = .ok (.iload 4, 2) := by decide +kernel
theorem dX9_feed_57 : decode cX9_feed 57 = .ok (.imul, 1) := by decide +kernel
theorem dX9_feed_58 : decode cX9_feed 58 = .ok (.lushr, 1) := by decide +kernel
theorem dX9_feed_59 : decode cX9_feed 59 = .ok (.l2i, 1) := by decide +kernel
theorem dX9_feed_60 : decode cX9_feed 60 = .ok (.sipush 255, 3) := by decide +kernel
theorem dX9_feed_63 : decode cX9_feed 63 = .ok (.iand, 1) := by decide +kernel
theorem dX9_feed_64 : decode cX9_feed 64 = .ok (.invokevirtual 151, 3) := by decide +kernel
theorem dX9_feed_67 : decode cX9_feed 67 = .ok (.iinc 4 1, 3) := by decide +kernel
theorem dX9_feed_70 : decode cX9_feed 70 = .ok (.goto (-31), 3) := by decide +kernel
theorem dX9_feed_73 : decode cX9_feed 73 = .ok (.aload_n 0, 1) := by decide +kernel
theorem dX9_feed_74 : decode cX9_feed 74 = .ok (.getfield 10, 3) := by decide +kernel
theorem dX9_feed_77 : decode cX9_feed 77 = .ok (.getfield 142, 3) := by decide +kernel
theorem dX9_feed_80 : decode cX9_feed 80 = .ok (.getfield 155, 3) := by decide +kernel
theorem dX9_feed_83 : decode cX9_feed 83 = .ok (.ireturn, 1) := by decide +kernel
set_option maxRecDepth 20000 in
theorem ggX9_text_X9_isIn : GoodIn wsX9_text wsX9_isIn := goodIn_r _ [6] (by decide +kernel) (by decide +kernel)
set_option maxRecDepth 20000 in
theorem gX9_text_X9_isIn : GoodIn wsX9_text (va_wsS RX9 62 yX9_isIn wsX9_isIn) := goodIn_app (goodIn_of _ (by decide +kernel)) ggX9_text_X9_isIn
set_option maxRecDepth 20000 in
theorem ggX9_text_X9_error : GoodIn wsX9_text wsX9_error := goodIn_r _ [10, 11, 12, 78, 79, 80, 81, 82, 83, 84, 85, 86] (by decide +kernel) (by decide +kernel)
set_option maxRecDepth 20000 in
theorem gX9_text_X9_error : GoodIn wsX9_text (wsV RX9 66 RX9 yX9_error wsX9_error) := goodIn_app (goodIn_of _ (by decide +kernel)) ggX9_text_X9_error
set_option maxRecDepth 20000 in
theorem ggX9_text_X4_reads : GoodIn wsX9_text wsX4_reads := goodIn_r _ [17, 18, 19, 20, 21, 22, 23, 24, 25, 26, 27, 28, 29, 30, 16, 31, 32, 33, 34, 35, 36, 37, 38, 39, 40, 41, 42, 43, 44, 45, 46, 47, 48, 49, 50, 51, 52, 53, 54, 55, 56, 57, 58, 59, 60, 61, 62, 63, 97, 98, 99, 100, 101, 102] (by decide +kernel) (by decide +kernel)
set_option maxRecDepth 20000 in
theorem gX9_text_X4_reads : GoodIn wsX9_text (wsV RX9 156 RX4 yX4_reads wsX4_reads) := goodIn_app (goodIn_of _ (by decide +kernel)) ggX9_text_X4_reads
set_option maxRecDepth 20000 in
theorem ggX9_text_X6_clear : GoodIn wsX9_text wsX6_clear := goodIn_r _ [26, 27, 101, 102] (by decide +kernel) (by decide +kernel)
set_option maxRecDepth 20000 in
theorem gX9_text_X6_clear : GoodIn wsX9_text (wsV RX9 160 RX6 yX6_clear wsX6_clear) := goodIn_app (goodIn_of _ (by decide +kernel)) ggX9_text_X6_clear
set_option maxRecDepth 20000 in
theorem ggX9_text_X1_take : GoodIn wsX9_text wsX1_take := goodIn_r _ [69, 70, 71, 72, 73, 74, 25, 75, 27, 46, 76, 23, 24, 26, 77, 43, 44, 45, 103, 104, 105, 101, 102] (by decide +kernel) (by decide +kernel)
set_option maxRecDepth 20000 in
theorem gX9_text_X1_take : GoodIn wsX9_text (wsV RX9 173 RX1 yX1_take wsX1_take) := goodIn_app (goodIn_of _ (by decide +kernel)) ggX9_text_X1_take
theorem dX9_text_0 : decode cX9_text 0 = .ok (.iload_n 1, 1) := by decide +kernel
theorem dX9_text_1 : decode cX9_text 1 = .ok (.iconst 0, 1) := by decide +kernel
theorem dX9_text_2 : decode cX9_text 2 = .ok (.iconst 1, 1) := by decide +kernel
theorem dX9_text_3 : decode cX9_text 3 = .ok (.invokestatic 62, 3) := by decide +kernel
theorem dX9_text_6 : decode cX9_text 6 = .ok (.ifCond .ne 9, 3) := by decide +kernel
theorem dX9_text_9 : decode cX9_text 9 = .ok (.aload_n 0, 1) := by decide +kernel
theorem dX9_text_10 : decode cX9_text 10 = .ok (.iconst 1, 1) := by decide +kernel
theorem dX9_text_11 : decode cX9_text 11 = .ok (.invokevirtual 66, 3) := by decide +kernel
theorem dX9_text_14 : decode cX9_text 14 = .ok (.ireturn, 1) := by decide +kernel
theorem dX9_text_15 : decode cX9_text 15 = .ok (.aload_n 0, 1) := by decide +kernel
theorem dX9_text_16 : decode cX9_text 16 = .ok (.getfield 22, 3) := by decide +kernel
theorem dX9_text_19 : decode cX9_text 19 = .ok (.aload_n 0, 1) := by decide +kernel
theorem dX9_text_20 : decode cX9_text 20 = .ok (.getfield 10, 3) := by decide +kernel
theorem dX9_text_23 : decode cX9_text 23 = .ok (.getfield 142, 3) := by decide +kernel
theorem dX9_text_26 : decode cX9_text 26 = .ok (.iload_n 1, 1) := by decide +kernel
theorem dX9_text_27 : decode cX9_text 27 = .ok (.invokevirtual 156, 3) := by decide +kernel
theorem dX9_text_30 : decode cX9_text 30 = .ok (.istore_n 2, 1) := by decide +kernel
theorem dX9_text_31 : decode cX9_text 31 = .ok (.aload_n 0, 1) := by decide +kernel
theorem dX9_text_32 : decode cX9_text 32 = .ok (.getfield 10, 3) := by decide +kernel
theorem dX9_text_35 : decode cX9_text 35 = .ok (.getfield 142, 3) := by decide +kernel
theorem dX9_text_38 : decode cX9_text 38 = .ok (.invokevirtual 160, 3) := by decide +kernel
theorem dX9_text_41 : decode cX9_text 41 = .ok (.iload_n 2, 1) := by decide +kernel
theorem dX9_text_42 : decode cX9_text 42 = .ok (.ifCond .ne 14, 3) := by decide +kernel
theorem dX9_text_45 : decode cX9_text 45 = .ok (.bipush (-10), 2) := by decide +kernel
theorem dX9_text_47 : decode cX9_text 47 = .ok (.aload_n 0, 1) := by decide +kernel
theorem dX9_text_48 : decode cX9_text 48 = .ok (.getfield 22, 3) := by decide +kernel
theorem dX9_text_51 : decode cX9_text 51 = .ok (.getfield 163, 3) := by decide +kernel
theorem dX9_text_54 : decode cX9_text 54 = .ok (.isub, 1) := by decide +kernel
theorem dX9_text_55 : decode cX9_text 55 = .ok (.ireturn, 1) := by decide +kernel
theorem dX9_text_56 : decode cX9_text 56 = .ok (.aload_n 0, 1) := by decide +kernel
theorem dX9_text_57 : decode cX9_text 57 = .ok (.getfield 10, 3) := by decide +kernel
theorem dX9_text_60 : decode cX9_text 60 = .ok (.getfield 166, 3) := by decide +kernel
theorem dX9_text_63 : decode cX9_text 63 = .ok (.iload_n 1, 1) := by decide +kernel
theorem dX9_text_64 : decode cX9_text 64 = .ok (.aaload, 1) := by decide +kernel
theorem dX9_text_65 : decode cX9_text 65 = .ok (.aload_n 0, 1) := by decide +kernel
theorem dX9_text_66 : decode cX9_text 66 = .ok (.getfield 22, 3) := by decide +kernel
theorem dX9_text_69 : decode cX9_text 69 = .ok (.getfield 170, 3) := by decide +kernel
theorem dX9_text_72 : decode cX9_text 72 = .ok (.invokevirtual 173, 3) := by decide +kernel
theorem dX9_text_75 : decode cX9_text 75 = .ok (.iconst 1, 1) := by decide +kernel
theorem dX9_text_76 : decode cX9_text 76 = .ok (.ireturn, 1) := by decide +kernel
set_option maxRecDepth 20000 in
theorem ggX9_untell_X9_isIn : GoodIn wsX9_untell wsX9_isIn := goodIn_r _ [5] (by decide +kernel) (by decide +kernel)
set_option maxRecDepth 20000 in
theorem gX9_untell_X9_isIn : GoodIn wsX9_untell (va_wsS RX9 62 yX9_isIn wsX9_isIn) := goodIn_app (goodIn_of _ (by decide +kernel)) ggX9_untell_X9_isIn
set_option maxRecDepth 20000 in
theorem ggX9_untell_X9_error : GoodIn wsX9_untell wsX9_error := goodIn_r _ [9, 10, 11, 12, 13, 14, 15, 16, 17, 18, 19, 20] (by decide +kernel) (by decide +kernel)
set_option maxRecDepth 20000 in
theorem gX9_untell_X9_error : GoodIn wsX9_untell (wsV RX9 66 RX9 yX9_error wsX9_error) := goodIn_app (goodIn_of _ (by decide +kernel)) ggX9_untell_X9_error
theorem dX9_untell_0 : decode cX9_untell 0 = .ok (.iload_n 1, 1) := by decide +kernel
theorem dX9_untell_1 : decode cX9_untell 1 = .ok (.iconst 0, 1) := by decide +kernel
theorem dX9_untell_2 : decode cX9_untell 2 = .ok (.iconst 1, 1) := by decide +kernel
theorem dX9_untell_3 : decode cX9_untell 3 = .ok (.invokestatic 62, 3) := by decide +kernel
theorem dX9_untell_6 : decode cX9_untell 6 = .ok (.ifCond .ne 9, 3) := by decide +kernel
theorem dX9_untell_9 : decode cX9_untell 9 = .ok (.aload_n 0, 1) := by decide +kernel
theorem dX9_untell_10 : decode cX9_untell 10 = .ok (.iconst 1, 1) := by decide +kernel
theorem dX9_untell_11 : decode cX9_untell 11 = .ok (.invokevirtual 66, 3) := by decide +kernel
theorem dX9_untell_14 : decode cX9_untell 14 = .ok (.ireturn, 1) := by decide +kernel
theorem dX9_untell_15 : decode cX9_untell 15 = .ok (.aload_n 0, 1) := by decide +kernel
theorem dX9_untell_16 : decode cX9_untell 16 = .ok (.getfield 10, 3) := by decide +kernel
theorem dX9_untell_19 : decode cX9_untell 19 = .ok (.getfield 166, 3) := by decide +kernel
theorem dX9_untell_22 : decode cX9_untell 22 = .ok (.iload_n 1, 1) := by decide +kernel
theorem dX9_untell_23 : decode cX9_untell 23 = .ok (.aaload, 1) := by decide +kernel
theorem dX9_untell_24 : decode cX9_untell 24 = .ok (.getfield 179, 3) := by decide +kernel
theorem dX9_untell_27 : decode cX9_untell 27 = .ok (.istore_n 2, 1) := by decide +kernel
theorem dX9_untell_28 : decode cX9_untell 28 = .ok (.aload_n 0, 1) := by decide +kernel
theorem dX9_untell_29 : decode cX9_untell 29 = .ok (.getfield 10, 3) := by decide +kernel
theorem dX9_untell_32 : decode cX9_untell 32 = .ok (.getfield 166, 3) := by decide +kernel
theorem dX9_untell_35 : decode cX9_untell 35 = .ok (.iload_n 1, 1) := by decide +kernel
theorem dX9_untell_36 : decode cX9_untell 36 = .ok (.aaload, 1) := by decide +kernel
theorem dX9_untell_37 : decode cX9_untell 37 = .ok (.iconst 0, 1) := by decide +kernel
theorem dX9_untell_38 : decode cX9_untell 38 = .ok (.putfield 179, 3) := by decide +kernel
theorem dX9_untell_41 : decode cX9_untell 41 = .ok (.iload_n 2, 1) := by decide +kernel
theorem dX9_untell_42 : decode cX9_untell 42 = .ok (.ifCond .eq 7, 3) := by decide +kernel
theorem dX9_untell_45 : decode cX9_untell 45 = .ok (.iconst 1, 1) := by decide +kernel
theorem dX9_untell_46 : decode cX9_untell 46 = .ok (.goto 4, 3) := by decide +kernel
theorem dX9_untell_49 : decode cX9_untell 49 = .ok (.iconst 0, 1) := by decide +kernel
theorem dX9_untell_50 : decode cX9_untell 50 = .ok (.ireturn, 1) := by decide +kernel
set_option maxRecDepth 20000 in
theorem ggX9_law_X9_isIn : GoodIn wsX9_law wsX9_isIn := goodIn_r _ [5] (by decide +kernel) (by decide +kernel)
set_option maxRecDepth 20000 in
theorem gX9_law_X9_isIn : GoodIn wsX9_law (va_wsS RX9 62 yX9_isIn wsX9_isIn) := goodIn_app (goodIn_of _ (by decide +kernel)) ggX9_law_X9_isIn
set_option maxRecDepth 20000 in
theorem ggX9_law_X0_lawGives : GoodIn wsX9_law wsX0_lawGives := goodIn_r _ [10, 11, 12, 13, 14, 15, 16, 17, 18, 19, 20, 21, 22, 23, 24, 25, 26, 27, 28, 29, 30, 31, 32, 33, 34, 35, 36, 37, 4, 38, 39, 40, 41, 42, 43, 44, 45, 61, 62, 63, 64, 65, 66, 67, 68, 69, 70, 71, 72, 73, 74, 75] (by decide +kernel) (by decide +kernel)
set_option maxRecDepth 20000 in
theorem gX9_law_X0_lawGives : GoodIn wsX9_law (wsV RX9 182 RX0 yX0_lawGives wsX0_lawGives) := goodIn_app (goodIn_of _ (by decide +kernel)) ggX9_law_X0_lawGives
set_option maxRecDepth 20000 in
theorem ggX9_law_X9_error : GoodIn wsX9_law wsX9_error := goodIn_r _ [49, 50, 51, 52, 53, 54, 55, 56, 57, 58, 59, 60] (by decide +kernel) (by decide +kernel)
set_option maxRecDepth 20000 in
theorem gX9_law_X9_error : GoodIn wsX9_law (wsV RX9 66 RX9 yX9_error wsX9_error) := goodIn_app (goodIn_of _ (by decide +kernel)) ggX9_law_X9_error
theorem dX9_law_0 : decode cX9_law 0 = .ok (.iload_n 1, 1) := by decide +kernel
theorem dX9_law_1 : decode cX9_law 1 = .ok (.iconst 0, 1) := by decide +kernel
theorem dX9_law_2 : decode cX9_law 2 = .ok (.iconst 1, 1) := by decide +kernel
theorem dX9_law_3 : decode cX9_law 3 = .ok (.invokestatic 62, 3) := by decide +kernel
theorem dX9_law_6 : decode cX9_law 6 = .ok (.ifCond .eq 18, 3) := by decide +kernel
theorem dX9_law_9 : decode cX9_law 9 = .ok (.aload_n 0, 1) := by decide +kernel
theorem dX9_law_10 : decode cX9_law 10 = .ok (.getfield 10, 3) := by decide +kernel
theorem dX9_law_13 : decode cX9_law 13 = .ok (.iload_n 1, 1) := by decide +kernel
theorem dX9_law_14 : decode cX9_law 14 = .ok (.iload_n 2, 1) := by decide +kernel
theorem dX9_law_15 : decode cX9_law 15 = .ok (.iload_n 3, 1) := by decide +kernel
theorem dX9_law_16 : decode cX9_law 16 = .ok (.iload 4, 2) := by decide +kernel
theorem dX9_law_18 : decode cX9_law 18 = .ok (.invokevirtual 182, 3) := by decide +kernel
theorem dX9_law_21 : decode cX9_law 21 = .ok (.goto 8, 3) := by decide +kernel
theorem dX9_law_24 : decode cX9_law 24 = .ok (.aload_n 0, 1) := by decide +kernel
theorem dX9_law_25 : decode cX9_law 25 = .ok (.iconst 1, 1) := by decide +kernel
theorem dX9_law_26 : decode cX9_law 26 = .ok (.invokevirtual 66, 3) := by decide +kernel
theorem dX9_law_29 : decode cX9_law 29 = .ok (.ireturn, 1) := by decide +kernel
set_option maxRecDepth 20000 in
theorem ggX9_days_X9_isIn : GoodIn wsX9_days wsX9_isIn := goodIn_r _ [5] (by decide +kernel) (by decide +kernel)
set_option maxRecDepth 20000 in
theorem gX9_days_X9_isIn : GoodIn wsX9_days (va_wsS RX9 62 yX9_isIn wsX9_isIn) := goodIn_app (goodIn_of _ (by decide +kernel)) ggX9_days_X9_isIn
set_option maxRecDepth 20000 in
theorem ggX9_days_X9_error : GoodIn wsX9_days wsX9_error := goodIn_r _ [9, 10, 11, 23, 24, 25, 26, 27, 28, 29, 30, 31] (by decide +kernel) (by decide +kernel)
set_option maxRecDepth 20000 in
theorem gX9_days_X9_error : GoodIn wsX9_days (wsV RX9 66 RX9 yX9_error wsX9_error) := goodIn_app (goodIn_of _ (by decide +kernel)) ggX9_days_X9_error
set_option maxRecDepth 20000 in
theorem ggX9_days_X0_passDay : GoodIn wsX9_days wsX0_passDay := goodIn_r _ [16, 17, 18, 19, 20, 21, 22, 32, 33, 34, 35, 36, 37, 38, 39, 40, 41] (by decide +kernel) (by decide +kernel)
set_option maxRecDepth 20000 in
theorem gX9_days_X0_passDay : GoodIn wsX9_days (wsV RX9 185 RX0 yX0_passDay wsX0_passDay) := goodIn_app (goodIn_of _ (by decide +kernel)) ggX9_days_X0_passDay
theorem dX9_days_0 : decode cX9_days 0 = .ok (.iload_n 1, 1) := by decide +kernel
theorem dX9_days_1 : decode cX9_days 1 = .ok (.iconst 1, 1) := by decide +kernel
theorem dX9_days_2 : decode cX9_days 2 = .ok (.bipush 90, 2) := by decide +kernel
theorem dX9_days_4 : decode cX9_days 4 = .ok (.invokestatic 62, 3) := by decide +kernel
theorem dX9_days_7 : decode cX9_days 7 = .ok (.ifCond .ne 9, 3) := by decide +kernel
theorem dX9_days_10 : decode cX9_days 10 = .ok (.aload_n 0, 1) := by decide +kernel
theorem dX9_days_11 : decode cX9_days 11 = .ok (.iconst 1, 1) := by decide +kernel
theorem dX9_days_12 : decode cX9_days 12 = .ok (.invokevirtual 66, 3) := by decide +kernel
theorem dX9_days_15 : decode cX9_days 15 = .ok (.ireturn, 1) := by decide +kernel
theorem dX9_days_16 : decode cX9_days 16 = .ok (.aload_n 0, 1) := by decide +kernel
theorem dX9_days_17 : decode cX9_days 17 = .ok (.getfield 10, 3) := by decide +kernel
theorem dX9_days_20 : decode cX9_days 20 = .ok (.getfield 120, 3) := by decide +kernel
theorem dX9_days_23 : decode cX9_days 23 = .ok (.iload_n 1, 1) := by decide +kernel
theorem dX9_days_24 : decode cX9_days 24 = .ok (.iadd, 1) := by decide +kernel
theorem dX9_days_25 : decode cX9_days 25 = .ok (.sipush 9999, 3) := by decide +kernel
theorem dX9_days_28 : decode cX9_days 28 = .ok (.if_icmp .le 9, 3) := by decide +kernel
theorem dX9_days_31 : decode cX9_days 31 = .ok (.aload_n 0, 1) := by decide +kernel
theorem dX9_days_32 : decode cX9_days 32 = .ok (.iconst 3, 1) := by decide +kernel
theorem dX9_days_33 : decode cX9_days 33 = .ok (.invokevirtual 66, 3) := by decide +kernel
theorem dX9_days_36 : decode cX9_days 36 = .ok (.ireturn, 1) := by decide +kernel
theorem dX9_days_37 : decode cX9_days 37 = .ok (.iconst 0, 1) := by decide +kernel
theorem dX9_days_38 : decode cX9_days 38 = .ok (.istore_n 2, 1) := by decide +kernel
theorem dX9_days_39 : decode cX9_days 39 = .ok (.iload_n 2, 1) := by decide +kernel
theorem dX9_days_40 : decode cX9_days 40 = .ok (.iload_n 1, 1) := by decide +kernel
theorem dX9_days_41 : decode cX9_days 41 = .ok (.if_icmp .ge 16, 3) := by decide +kernel
theorem dX9_days_44 : decode cX9_days 44 = .ok (.aload_n 0, 1) := by decide +kernel
theorem dX9_days_45 : decode cX9_days 45 = .ok (.getfield 10, 3) := by decide +kernel
theorem dX9_days_48 : decode cX9_days 48 = .ok (.invokevirtual 185, 3) := by decide +kernel
theorem dX9_days_51 : decode cX9_days 51 = .ok (.iinc 2 1, 3) := by decide +kernel
theorem dX9_days_54 : decode cX9_days 54 = .ok (.goto (-15), 3) := by decide +kernel
theorem dX9_days_57 : decode cX9_days 57 = .ok (.aload_n 0, 1) := by decide +kernel
theorem dX9_days_58 : decode cX9_days 58 = .ok (.getfield 10, 3) := by decide +kernel
theorem dX9_days_61 : decode cX9_days 61 = .ok (.getfield 120, 3) := by decide +kernel
theorem dX9_days_64 : decode cX9_days 64 = .ok (.ireturn, 1) := by decide +kernel
set_option maxRecDepth 20000 in
theorem ggX9_loose_X9_isIn : GoodIn wsX9_loose wsX9_isIn := goodIn_r _ [5] (by decide +kernel) (by decide +kernel)
set_option maxRecDepth 20000 in
theorem gX9_loose_X9_isIn : GoodIn wsX9_loose (va_wsS RX9 62 yX9_isIn wsX9_isIn) := goodIn_app (goodIn_of _ (by decide +kernel)) ggX9_loose_X9_isIn
set_option maxRecDepth 20000 in
theorem ggX9_loose_X9_error : GoodIn wsX9_loose wsX9_error := goodIn_r _ [9, 10, 11, 127, 128, 129, 130, 131, 132, 133, 134, 135] (by decide +kernel) (by decide +kernel)
set_option maxRecDepth 20000 in
theorem gX9_loose_X9_error : GoodIn wsX9_loose (wsV RX9 66 RX9 yX9_error wsX9_error) := goodIn_app (goodIn_of _ (by decide +kernel)) ggX9_loose_X9_error
set_option maxRecDepth 20000 in
theorem ggX9_loose_X0_passDayByDraws : GoodIn wsX9_loose wsX0_passDayByDraws := goodIn_r _ [16, 17, 18, 19, 20, 21, 15, 22, 23, 24, 25, 26, 27, 28, 29, 30, 31, 32, 33, 34, 35, 36, 37, 38, 39, 40, 41, 42, 43, 44, 45, 46, 47, 48, 49, 50, 51, 52, 53, 54, 55, 56, 57, 58, 59, 60, 61, 62, 63, 64, 65, 66, 67, 4, 68, 69, 70, 71, 72, 73, 74, 75, 76, 77, 78, 79, 80, 81, 82, 83, 84, 85, 86, 87, 88, 89, 90, 91, 92, 93, 94, 95, 96, 97, 98, 99, 100, 101, 102, 103, 104, 105, 106, 107, 108, 109, 110, 111, 112, 113, 114, 115, 116, 117, 118, 119, 120, 121, 122, 123, 124, 125, 126, 136, 137, 138, 139, 140, 141, 142, 143, 144, 145, 146, 147, 148, 149, 150, 151, 152, 153, 154, 155, 156, 157] (by decide +kernel) (by decide +kernel)
set_option maxRecDepth 20000 in
theorem gX9_loose_X0_passDayByDraws : GoodIn wsX9_loose (wsV RX9 188 RX0 yX0_passDayByDraws wsX0_passDayByDraws) := goodIn_app (goodIn_of _ (by decide +kernel)) ggX9_loose_X0_passDayByDraws
theorem dX9_loose_0 : decode cX9_loose 0 = .ok (.iload_n 1, 1) := by decide +kernel
theorem dX9_loose_1 : decode cX9_loose 1 = .ok (.iconst 1, 1) := by decide +kernel
theorem dX9_loose_2 : decode cX9_loose 2 = .ok (.bipush 30, 2) := by decide +kernel
theorem dX9_loose_4 : decode cX9_loose 4 = .ok (.invokestatic 62, 3) := by decide +kernel
theorem dX9_loose_7 : decode cX9_loose 7 = .ok (.ifCond .ne 9, 3) := by decide +kernel
theorem dX9_loose_10 : decode cX9_loose 10 = .ok (.aload_n 0, 1) := by decide +kernel
theorem dX9_loose_11 : decode cX9_loose 11 = .ok (.iconst 1, 1) := by decide +kernel
theorem dX9_loose_12 : decode cX9_loose 12 = .ok (.invokevirtual 66, 3) := by decide +kernel
theorem dX9_loose_15 : decode cX9_loose 15 = .ok (.ireturn, 1) := by decide +kernel
theorem dX9_loose_16 : decode cX9_loose 16 = .ok (.aload_n 0, 1) := by decide +kernel
theorem dX9_loose_17 : decode cX9_loose 17 = .ok (.getfield 10, 3) := by decide +kernel
theorem dX9_loose_20 : decode cX9_loose 20 = .ok (.getfield 120, 3) := by decide +kernel
theorem dX9_loose_23 : decode cX9_loose 23 = .ok (.iload_n 1, 1) := by decide +kernel
theorem dX9_loose_24 : decode cX9_loose 24 = .ok (.iadd, 1) := by decide +kernel
theorem dX9_loose_25 : decode cX9_loose 25 = .ok (.sipush 9999, 3) := by decide +kernel
theorem dX9_loose_28 : decode cX9_loose 28 = .ok (.if_icmp .le 9, 3) := by decide +kernel
theorem dX9_loose_31 : decode cX9_loose 31 = .ok (.aload_n 0, 1) := by decide +kernel
theorem dX9_loose_32 : decode cX9_loose 32 = .ok (.iconst 3, 1) := by decide +kernel
theorem dX9_loose_33 : decode cX9_loose 33 = .ok (.invokevirtual 66, 3) := by decide +kernel
theorem dX9_loose_36 : decode cX9_loose 36 = .ok (.ireturn, 1) := by decide +kernel
theorem dX9_loose_37 : decode cX9_loose 37 = .ok (.iconst 0, 1) := by decide +kernel
theorem dX9_loose_38 : decode cX9_loose 38 = .ok (.istore_n 2, 1) := by decide +kernel
theorem dX9_loose_39 : decode cX9_loose 39 = .ok (.iconst 0, 1) := by decide +kernel
theorem dX9_loose_40 : decode cX9_loose 40 = .ok (.istore_n 3, 1) := by decide +kernel
theorem dX9_loose_41 : decode cX9_loose 41 = .ok (.iload_n 3, 1) := by decide +kernel
theorem dX9_loose_42 : decode cX9_loose 42 = .ok (.iload_n 1, 1) := by decide +kernel
theorem dX9_loose_43 : decode cX9_loose 43 = .ok (.if_icmp .ge 19, 3) := by decide +kernel
theorem dX9_loose_46 : decode cX9_loose 46 = .ok (.iload_n 2, 1) := by decide +kernel
theorem dX9_loose_47 : decode cX9_loose 47 = .ok (.aload_n 0, 1) := by decide +kernel
theorem dX9_loose_48 : decode cX9_loose 48 = .ok (.getfield 10, 3) := by decide +kernel
theorem dX9_loose_51 : decode cX9_loose 51 = .ok (.invokevirtual 188, 3) := by decide +kernel
theorem dX9_loose_54 : decode cX9_loose 54 = .ok (.iadd, 1) := by decide +kernel
theorem dX9_loose_55 : decode cX9_loose 55 = .ok (.istore_n 2, 1) := by decide +kernel
theorem dX9_loose_56 : decode cX9_loose 56 = .ok (.iinc 3 1, 3) := by decide +kernel
theorem dX9_loose_59 : decode cX9_loose 59 = .ok (.goto (-18), 3) := by decide +kernel
theorem dX9_loose_62 : decode cX9_loose 62 = .ok (.iload_n 2, 1) := by decide +kernel
theorem dX9_loose_63 : decode cX9_loose 63 = .ok (.ireturn, 1) := by decide +kernel
theorem dX9_seed_0 : decode cX9_seed 0 = .ok (.aload_n 0, 1) := by decide +kernel
theorem dX9_seed_1 : decode cX9_seed 1 = .ok (.getfield 10, 3) := by decide +kernel
theorem dX9_seed_4 : decode cX9_seed 4 = .ok (.getfield 191, 3) := by decide +kernel
theorem dX9_seed_7 : decode cX9_seed 7 = .ok (.istore_n 2, 1) := by decide +kernel
theorem dX9_seed_8 : decode cX9_seed 8 = .ok (.aload_n 0, 1) := by decide +kernel
theorem dX9_seed_9 : decode cX9_seed 9 = .ok (.getfield 10, 3) := by decide +kernel
theorem dX9_seed_12 : decode cX9_seed 12 = .ok (.iload_n 1, 1) := by decide +kernel
theorem dX9_seed_13 : decode cX9_seed 13 = .ok (.putfield 191, 3) := by decide +kernel
theorem dX9_seed_16 : decode cX9_seed 16 = .ok (.iload_n 2, 1) := by decide +kernel
theorem dX9_seed_17 : decode cX9_seed 17 = .ok (.ireturn, 1) := by decide +kernel
set_option maxRecDepth 20000 in
theorem ggX9_free_X0_taken : GoodIn wsX9_free wsX0_taken := goodIn_r _ [6, 7, 8, 9, 5, 10, 11, 12, 13, 14, 15, 16, 17, 18, 19, 20, 21, 22, 23, 24, 25, 26, 27, 28, 29, 30, 31, 32, 66, 67, 68, 69, 70, 71, 72, 73, 74, 75, 76, 77, 78, 79, 80, 81, 82] (by decide +kernel) (by decide +kernel)
set_option maxRecDepth 20000 in
theorem gX9_free_X0_taken : GoodIn wsX9_free (wsV RX9 78 RX0 yX0_taken wsX0_taken) := goodIn_app (goodIn_of _ (by decide +kernel)) ggX9_free_X0_taken
set_option maxRecDepth 20000 in
theorem ggX9_free_J6_bitCount_0f7a4 : GoodIn wsX9_free wsJ6_bitCount_0f7a4 := goodIn_r _ [36, 37, 38, 39] (by decide +kernel) (by decide +kernel)
set_option maxRecDepth 20000 in
theorem gX9_free_J6_bitCount_0f7a4 : GoodIn wsX9_free (va_wsS RX9 194 yJ6_bitCount_0f7a4 wsJ6_bitCount_0f7a4) := goodIn_app (goodIn_of _ (by decide +kernel)) ggX9_free_J6_bitCount_0f7a4
set_option maxRecDepth 20000 in
theorem ggX9_free_X9_longestFree : GoodIn wsX9_free wsX9_longestFree := goodIn_r _ [43, 44, 45, 46, 42, 47, 48, 49, 50] (by decide +kernel) (by decide +kernel)
set_option maxRecDepth 20000 in
theorem gX9_free_X9_longestFree : GoodIn wsX9_free (va_wsS RX9 199 yX9_longestFree wsX9_longestFree) := goodIn_app (goodIn_of _ (by decide +kernel)) ggX9_free_X9_longestFree
set_option maxRecDepth 20000 in
theorem ggX9_free_X9_error : GoodIn wsX9_free wsX9_error := goodIn_r _ [54, 55, 56, 57, 58, 59, 60, 61, 62, 63, 64, 65] (by decide +kernel) (by decide +kernel)
set_option maxRecDepth 20000 in
theorem gX9_free_X9_error : GoodIn wsX9_free (wsV RX9 66 RX9 yX9_error wsX9_error) := goodIn_app (goodIn_of _ (by decide +kernel)) ggX9_free_X9_error
set_option maxRecDepth 20000 in
theorem ggX9_free_X9_freeEnd : GoodIn wsX9_free wsX9_freeEnd := goodIn_r _ [47, 44, 48, 49, 42, 50] (by decide +kernel) (by decide +kernel)
set_option maxRecDepth 20000 in
theorem gX9_free_X9_freeEnd : GoodIn wsX9_free (va_wsS RX9 202 yX9_freeEnd wsX9_freeEnd) := goodIn_app (goodIn_of _ (by decide +kernel)) ggX9_free_X9_freeEnd
theorem dX9_free_0 : decode cX9_free 0 = .ok (.aload_n 0, 1) := by decide +kernel
theorem dX9_free_1 : decode cX9_free 1 = .ok (.getfield 10, 3) := by decide +kernel
theorem dX9_free_4 : decode cX9_free 4 = .ok (.invokevirtual 78, 3) := by decide +kernel
theorem dX9_free_7 : decode cX9_free 7 = .ok (.istore_n 2, 1) := by decide +kernel
theorem dX9_free_8 : decode cX9_free 8 = .ok (.iload_n 1, 1) := by decide +kernel
theorem dX9_free_9 : decode cX9_free 9 = .ok (.tableswitch 72 0 3 #[31, 33, 41, 46], 31) := by decide +kernel
theorem dX9_free_40 : decode cX9_free 40 = .ok (.iload_n 2, 1) := by decide +kernel
theorem dX9_free_41 : decode cX9_free 41 = .ok (.ireturn, 1) := by decide +kernel
theorem dX9_free_42 : decode cX9_free 42 = .ok (.bipush 12, 2) := by decide +kernel
theorem dX9_free_44 : decode cX9_free 44 = .ok (.iload_n 2, 1) := by decide +kernel
theorem dX9_free_45 : decode cX9_free 45 = .ok (.invokestatic 194, 3) := by decide +kernel
theorem dX9_free_48 : decode cX9_free 48 = .ok (.isub, 1) := by decide +kernel
theorem dX9_free_49 : decode cX9_free 49 = .ok (.ireturn, 1) := by decide +kernel
theorem dX9_free_50 : decode cX9_free 50 = .ok (.iload_n 2, 1) := by decide +kernel
theorem dX9_free_51 : decode cX9_free 51 = .ok (.invokestatic 199, 3) := by decide +kernel
theorem dX9_free_54 : decode cX9_free 54 = .ok (.ireturn, 1) := by decide +kernel
theorem dX9_free_55 : decode cX9_free 55 = .ok (.iload_n 2, 1) := by decide +kernel
theorem dX9_free_56 : decode cX9_free 56 = .ok (.invokestatic 199, 3) := by decide +kernel
theorem dX9_free_59 : decode cX9_free 59 = .ok (.istore_n 3, 1) := by decide +kernel
theorem dX9_free_60 : decode cX9_free 60 = .ok (.iload_n 3, 1) := by decide +kernel
theorem dX9_free_61 : decode cX9_free 61 = .ok (.ifCond .ne 11, 3) := by decide +kernel
theorem dX9_free_64 : decode cX9_free 64 = .ok (.aload_n 0, 1) := by decide +kernel
theorem dX9_free_65 : decode cX9_free 65 = .ok (.iconst 2, 1) := by decide +kernel
theorem dX9_free_66 : decode cX9_free 66 = .ok (.invokevirtual 66, 3) := by decide +kernel
theorem dX9_free_69 : decode cX9_free 69 = .ok (.goto 11, 3) := by decide +kernel
theorem dX9_free_72 : decode cX9_free 72 = .ok (.iload_n 2, 1) := by decide +kernel
theorem dX9_free_73 : decode cX9_free 73 = .ok (.iconst 0, 1) := by decide +kernel
theorem dX9_free_74 : decode cX9_free 74 = .ok (.iload_n 3, 1) := by decide +kernel
theorem dX9_free_75 : decode cX9_free 75 = .ok (.invokestatic 202, 3) := by decide +kernel
theorem dX9_free_78 : decode cX9_free 78 = .ok (.iload_n 3, 1) := by decide +kernel
theorem dX9_free_79 : decode cX9_free 79 = .ok (.isub, 1) := by decide +kernel
theorem dX9_free_80 : decode cX9_free 80 = .ok (.ireturn, 1) := by decide +kernel
theorem dX9_free_81 : decode cX9_free 81 = .ok (.aload_n 0, 1) := by decide +kernel
theorem dX9_free_82 : decode cX9_free 82 = .ok (.iconst 1, 1) := by decide +kernel
theorem dX9_free_83 : decode cX9_free 83 = .ok (.invokevirtual 66, 3) := by decide +kernel
theorem dX9_free_86 : decode cX9_free 86 = .ok (.ireturn, 1) := by decide +kernel
set_option maxRecDepth 20000 in
theorem ggX9_of_X9_isIn : GoodIn wsX9_of wsX9_isIn := goodIn_r _ [5] (by decide +kernel) (by decide +kernel)
set_option maxRecDepth 20000 in
theorem gX9_of_X9_isIn : GoodIn wsX9_of (va_wsS RX9 62 yX9_isIn wsX9_isIn) := goodIn_app (goodIn_of _ (by decide +kernel)) ggX9_of_X9_isIn
set_option maxRecDepth 20000 in
theorem ggX9_of_X0_columnsOf : GoodIn wsX9_of wsX0_columnsOf := goodIn_r _ [10, 11, 12, 35, 36, 37, 38, 39, 40, 41, 42, 43, 44, 45, 46, 47, 48, 49, 50, 51] (by decide +kernel) (by decide +kernel)
set_option maxRecDepth 20000 in
theorem gX9_of_X0_columnsOf : GoodIn wsX9_of (wsV RX9 206 RX0 yX0_columnsOf wsX0_columnsOf) := goodIn_app (goodIn_of _ (by decide +kernel)) ggX9_of_X0_columnsOf
set_option maxRecDepth 20000 in
theorem ggX9_of_J6_bitCount_0f7a4 : GoodIn wsX9_of wsJ6_bitCount_0f7a4 := goodIn_r _ [16, 17, 18, 19] (by decide +kernel) (by decide +kernel)
set_option maxRecDepth 20000 in
theorem gX9_of_J6_bitCount_0f7a4 : GoodIn wsX9_of (va_wsS RX9 194 yJ6_bitCount_0f7a4 wsJ6_bitCount_0f7a4) := goodIn_app (goodIn_of _ (by decide +kernel)) ggX9_of_J6_bitCount_0f7a4
set_option maxRecDepth 20000 in
theorem ggX9_of_X9_error : GoodIn wsX9_of wsX9_error := goodIn_r _ [23, 24, 25, 26, 27, 28, 29, 30, 31, 32, 33, 34] (by decide +kernel) (by decide +kernel)
set_option maxRecDepth 20000 in
theorem gX9_of_X9_error : GoodIn wsX9_of (wsV RX9 66 RX9 yX9_error wsX9_error) := goodIn_app (goodIn_of _ (by decide +kernel)) ggX9_of_X9_error
theorem dX9_of_0 : decode cX9_of 0 = .ok (.iload_n 1, 1) := by decide +kernel
theorem dX9_of_1 : decode cX9_of 1 = .ok (.iconst 0, 1) := by decide +kernel
theorem dX9_of_2 : decode cX9_of 2 = .ok (.iconst 5, 1) := by decide +kernel
theorem dX9_of_3 : decode cX9_of 3 = .ok (.invokestatic 62, 3) := by decide +kernel
theorem dX9_of_6 : decode cX9_of 6 = .ok (.ifCond .eq 17, 3) := by decide +kernel
theorem dX9_of_9 : decode cX9_of 9 = .ok (.aload_n 0, 1) := by decide +kernel
theorem dX9_of_10 : decode cX9_of 10 = .ok (.getfield 10, 3) := by decide +kernel
theorem dX9_of_13 : decode cX9_of 13 = .ok (.iload_n 1, 1) := by decide +kernel
theorem dX9_of_14 : decode cX9_of 14 = .ok (.invokevirtual 206, 3) := by decide +kernel
theorem dX9_of_17 : decode cX9_of 17 = .ok (.invokestatic 194, 3) := by decide +kernel
theorem dX9_of_20 : decode cX9_of 20 = .ok (.goto 8, 3) := by decide +kernel
theorem dX9_of_23 : decode cX9_of 23 = .ok (.aload_n 0, 1) := by decide +kernel
theorem dX9_of_24 : decode cX9_of 24 = .ok (.iconst 1, 1) := by decide +kernel
theorem dX9_of_25 : decode cX9_of 25 = .ok (.invokevirtual 66, 3) := by decide +kernel
theorem dX9_of_28 : decode cX9_of 28 = .ok (.ireturn, 1) := by decide +kernel
set_option maxRecDepth 20000 in
theorem ggX9_room_X9_isIn : GoodIn wsX9_room wsX9_isIn := goodIn_r _ [6] (by decide +kernel) (by decide +kernel)
set_option maxRecDepth 20000 in
theorem gX9_room_X9_isIn : GoodIn wsX9_room (va_wsS RX9 62 yX9_isIn wsX9_isIn) := goodIn_app (goodIn_of _ (by decide +kernel)) ggX9_room_X9_isIn
set_option maxRecDepth 20000 in
theorem ggX9_room_X9_error : GoodIn wsX9_room wsX9_error := goodIn_r _ [10, 11, 12, 110, 111, 112, 113, 114, 115, 116, 117, 118] (by decide +kernel) (by decide +kernel)
set_option maxRecDepth 20000 in
theorem gX9_room_X9_error : GoodIn wsX9_room (wsV RX9 66 RX9 yX9_error wsX9_error) := goodIn_app (goodIn_of _ (by decide +kernel)) ggX9_room_X9_error
set_option maxRecDepth 20000 in
theorem ggX9_room_X5_seek : GoodIn wsX9_room wsX5_seek := goodIn_r _ [17, 18, 19, 20, 21, 5, 22, 23, 24, 25, 26, 27, 28, 29, 30, 31, 16, 32, 33, 34, 35, 36, 37, 38, 39, 40, 41, 42, 43, 44, 45, 46, 47, 48, 49, 50, 51, 52, 53, 54, 55, 56, 57, 58, 59, 60, 61, 62, 63, 64, 65, 66, 67, 68, 69, 70, 71, 72, 73, 74, 75, 76, 77, 78, 79, 80, 81, 82, 83, 84, 85, 86, 87, 88, 89, 90, 91, 92, 93, 94, 95, 96, 97, 98, 99, 100, 101, 129, 130, 131, 119, 120, 121, 122, 123, 124, 125, 126, 127, 128, 132, 133, 134, 135, 136, 137, 138, 139, 140, 141, 142, 143] (by decide +kernel) (by decide +kernel)
set_option maxRecDepth 20000 in
theorem gX9_room_X5_seek : GoodIn wsX9_room (wsV RX9 209 RX5 yX5_seek wsX5_seek) := goodIn_app (goodIn_of _ (by decide +kernel)) ggX9_room_X5_seek
set_option maxRecDepth 20000 in
theorem ggX9_room_J6_bitCount_0f7a4 : GoodIn wsX9_room wsJ6_bitCount_0f7a4 := goodIn_r _ [105, 106, 107, 108] (by decide +kernel) (by decide +kernel)
set_option maxRecDepth 20000 in
theorem gX9_room_J6_bitCount_0f7a4 : GoodIn wsX9_room (va_wsS RX9 194 yJ6_bitCount_0f7a4 wsJ6_bitCount_0f7a4) := goodIn_app (goodIn_of _ (by decide +kernel)) ggX9_room_J6_bitCount_0f7a4
set_option maxRecDepth 20000 in
theorem ggX9_room_X0_lawGives : GoodIn wsX9_room wsX0_lawGives := goodIn_r _ [75, 76, 77, 78, 79, 80, 81, 82, 83, 84, 85, 86, 87, 88, 89, 90, 91, 92, 93, 94, 95, 96, 97, 98, 99, 100, 101, 66, 5, 67, 68, 69, 35, 70, 71, 34, 36, 119, 120, 121, 122, 123, 124, 125, 126, 127, 128, 139, 140, 141, 142, 143] (by decide +kernel) (by decide +kernel)
set_option maxRecDepth 20000 in
theorem gX9_room_X0_lawGives : GoodIn wsX9_room (wsV RX9 182 RX0 yX0_lawGives wsX0_lawGives) := goodIn_app (goodIn_of _ (by decide +kernel)) ggX9_room_X0_lawGives
theorem dX9_room_0 : decode cX9_room 0 = .ok (.iload_n 1, 1) := by decide +kernel
theorem dX9_room_1 : decode cX9_room 1 = .ok (.iconst 1, 1) := by decide +kernel
theorem dX9_room_2 : decode cX9_room 2 = .ok (.bipush 12, 2) := by decide +kernel
theorem dX9_room_4 : decode cX9_room 4 = .ok (.invokestatic 62, 3) := by decide +kernel
theorem dX9_room_7 : decode cX9_room 7 = .ok (.ifCond .eq 12, 3) := by decide +kernel
theorem dX9_room_10 : decode cX9_room 10 = .ok (.iload_n 2, 1) := by decide +kernel
theorem dX9_room_11 : decode cX9_room 11 = .ok (.iconst 0, 1) := by decide +kernel
theorem dX9_room_12 : decode cX9_room 12 = .ok (.iconst 3, 1) := by decide +kernel
theorem dX9_room_13 : decode cX9_room 13 = .ok (.invokestatic 62, 3) := by decide +kernel
theorem dX9_room_16 : decode cX9_room 16 = .ok (.ifCond .ne 9, 3) := by decide +kernel
theorem dX9_room_19 : decode cX9_room 19 = .ok (.aload_n 0, 1) := by decide +kernel
theorem dX9_room_20 : decode cX9_room 20 = .ok (.iconst 1, 1) := by decide +kernel
theorem dX9_room_21 : decode cX9_room 21 = .ok (.invokevirtual 66, 3) := by decide +kernel
theorem dX9_room_24 : decode cX9_room 24 = .ok (.ireturn, 1) := by decide +kernel
theorem dX9_room_25 : decode cX9_room 25 = .ok (.aload_n 0, 1) := by decide +kernel
theorem dX9_room_26 : decode cX9_room 26 = .ok (.getfield 29, 3) := by decide +kernel
theorem dX9_room_29 : decode cX9_room 29 = .ok (.aload_n 0, 1) := by decide +kernel
theorem dX9_room_30 : decode cX9_room 30 = .ok (.getfield 10, 3) := by decide +kernel
theorem dX9_room_33 : decode cX9_room 33 = .ok (.iload_n 1, 1) := by decide +kernel
theorem dX9_room_34 : decode cX9_room 34 = .ok (.aload_n 0, 1) := by decide +kernel
theorem dX9_room_35 : decode cX9_room 35 = .ok (.getfield 10, 3) := by decide +kernel
theorem dX9_room_38 : decode cX9_room 38 = .ok (.getfield 120, 3) := by decide +kernel
theorem dX9_room_41 : decode cX9_room 41 = .ok (.invokevirtual 209, 3) := by decide +kernel
theorem dX9_room_44 : decode cX9_room 44 = .ok (.ifCond .ne 9, 3) := by decide +kernel
theorem dX9_room_47 : decode cX9_room 47 = .ok (.aload_n 0, 1) := by decide +kernel
theorem dX9_room_48 : decode cX9_room 48 = .ok (.iconst 2, 1) := by decide +kernel
theorem dX9_room_49 : decode cX9_room 49 = .ok (.invokevirtual 66, 3) := by decide +kernel
theorem dX9_room_52 : decode cX9_room 52 = .ok (.ireturn, 1) := by decide +kernel
theorem dX9_room_53 : decode cX9_room 53 = .ok (.iload_n 2, 1) := by decide +kernel
theorem dX9_room_54 : decode cX9_room 54 = .ok (.tableswitch 50 0 2 #[26, 34, 42], 26) := by decide +kernel
theorem dX9_room_80 : decode cX9_room 80 = .ok (.aload_n 0, 1) := by decide +kernel
theorem dX9_room_81 : decode cX9_room 81 = .ok (.getfield 29, 3) := by decide +kernel
theorem dX9_room_84 : decode cX9_room 84 = .ok (.getfield 213, 3) := by decide +kernel
theorem dX9_room_87 : decode cX9_room 87 = .ok (.ireturn, 1) := by decide +kernel
theorem dX9_room_88 : decode cX9_room 88 = .ok (.aload_n 0, 1) := by decide +kernel
theorem dX9_room_89 : decode cX9_room 89 = .ok (.getfield 29, 3) := by decide +kernel
theorem dX9_room_92 : decode cX9_room 92 = .ok (.getfield 216, 3) := by decide +kernel
theorem dX9_room_95 : decode cX9_room 95 = .ok (.ireturn, 1) := by decide +kernel
theorem dX9_room_96 : decode cX9_room 96 = .ok (.aload_n 0, 1) := by decide +kernel
theorem dX9_room_97 : decode cX9_room 97 = .ok (.getfield 29, 3) := by decide +kernel
theorem dX9_room_100 : decode cX9_room 100 = .ok (.getfield 219, 3) := by decide +kernel
theorem dX9_room_103 : decode cX9_room 103 = .ok (.ireturn, 1) := by decide +kernel
theorem dX9_room_104 : decode cX9_room 104 = .ok (.aload_n 0, 1) := by decide +kernel
theorem dX9_room_105 : decode cX9_room 105 = .ok (.getfield 10, 3) := by decide +kernel
theorem dX9_room_108 : decode cX9_room 108 = .ok (.iconst 1, 1) := by decide +kernel
theorem dX9_room_109 : decode cX9_room 109 = .ok (.iload_n 1, 1) := by decide +kernel
theorem dX9_room_110 : decode cX9_room 110 = .ok (.aload_n 0, 1) := by decide +kernel
theorem dX9_room_111 : decode cX9_room 111 = .ok (.getfield 10, 3) := by decide +kernel
theorem dX9_room_114 : decode cX9_room 114 = .ok (.getfield 120, 3) := by decide +kernel
theorem dX9_room_117 : decode cX9_room 117 = .ok (.bipush 7, 2) := by decide +kernel
theorem dX9_room_119 : decode cX9_room 119 = .ok (.irem, 1) := by decide +kernel
theorem dX9_room_120 : decode cX9_room 120 = .ok (.aload_n 0, 1) := by decide +kernel
theorem dX9_room_121 : decode cX9_room 121 = .ok (.getfield 29, 3) := by decide +kernel
theorem dX9_room_124 : decode cX9_room 124 = .ok (.getfield 219, 3) := by decide +kernel
theorem dX9_room_127 : decode cX9_room 127 = .ok (.invokestatic 194, 3) := by decide +kernel
theorem dX9_room_130 : decode cX9_room 130 = .ok (.invokevirtual 182, 3) := by decide +kernel
theorem dX9_room_133 : decode cX9_room 133 = .ok (.ireturn, 1) := by decide +kernel
set_option maxRecDepth 20000 in
theorem ggX9_when_X9_isIn : GoodIn wsX9_when wsX9_isIn := goodIn_r _ [6] (by decide +kernel) (by decide +kernel)
set_option maxRecDepth 20000 in
theorem gX9_when_X9_isIn : GoodIn wsX9_when (va_wsS RX9 62 yX9_isIn wsX9_isIn) := goodIn_app (goodIn_of _ (by decide +kernel)) ggX9_when_X9_isIn
set_option maxRecDepth 20000 in
theorem ggX9_when_X9_error : GoodIn wsX9_when wsX9_error := goodIn_r _ [10, 11, 12, 108, 109, 110, 111, 112, 113, 114, 115, 116] (by decide +kernel) (by decide +kernel)
set_option maxRecDepth 20000 in
theorem gX9_when_X9_error : GoodIn wsX9_when (wsV RX9 66 RX9 yX9_error wsX9_error) := goodIn_app (goodIn_of _ (by decide +kernel)) ggX9_when_X9_error
set_option maxRecDepth 20000 in
theorem ggX9_when_X5_firstBehind : GoodIn wsX9_when wsX5_firstBehind := goodIn_r _ [17, 18, 19, 20, 21, 22, 23, 5, 24, 25, 26, 27, 28, 29, 30, 31, 32, 33, 16, 34, 35, 36, 37, 38, 39, 40, 41, 42, 43, 44, 45, 46, 47, 48, 49, 50, 51, 52, 53, 54, 117, 118, 119, 120, 121, 122, 123, 124, 125, 126, 130, 131, 132, 133, 134, 135, 136] (by decide +kernel) (by decide +kernel)
set_option maxRecDepth 20000 in
theorem gX9_when_X5_firstBehind : GoodIn wsX9_when (wsV RX9 221 RX5 yX5_firstBehind wsX5_firstBehind) := goodIn_app (goodIn_of _ (by decide +kernel)) ggX9_when_X5_firstBehind
set_option maxRecDepth 20000 in
theorem ggX9_when_X5_seek : GoodIn wsX9_when wsX5_seek := goodIn_r _ [58, 59, 60, 61, 23, 5, 24, 25, 26, 27, 28, 29, 30, 31, 32, 33, 16, 34, 35, 36, 21, 37, 38, 39, 40, 41, 42, 43, 44, 45, 46, 47, 48, 49, 50, 51, 52, 53, 54, 62, 63, 64, 65, 66, 67, 68, 69, 70, 71, 72, 73, 74, 75, 76, 20, 22, 77, 78, 79, 80, 81, 82, 83, 84, 85, 86, 87, 88, 89, 90, 91, 92, 93, 94, 95, 96, 97, 98, 99, 100, 101, 102, 103, 104, 105, 106, 107, 127, 128, 129, 117, 118, 119, 120, 121, 122, 123, 124, 125, 126, 130, 131, 132, 133, 134, 135, 136, 137, 138, 139, 140, 141] (by decide +kernel) (by decide +kernel)
set_option maxRecDepth 20000 in
theorem gX9_when_X5_seek : GoodIn wsX9_when (wsV RX9 209 RX5 yX5_seek wsX5_seek) := goodIn_app (goodIn_of _ (by decide +kernel)) ggX9_when_X5_seek
theorem dX9_when_0 : decode cX9_when 0 = .ok (.iload_n 1, 1) := by decide +kernel
theorem dX9_when_1 : decode cX9_when 1 = .ok (.iconst 1, 1) := by decide +kernel
theorem dX9_when_2 : decode cX9_when 2 = .ok (.bipush 12, 2) := by decide +kernel
theorem dX9_when_4 : decode cX9_when 4 = .ok (.invokestatic 62, 3) := by decide +kernel
theorem dX9_when_7 : decode cX9_when 7 = .ok (.ifCond .eq 12, 3) := by decide +kernel
theorem dX9_when_10 : decode cX9_when 10 = .ok (.iload_n 2, 1) := by decide +kernel
theorem dX9_when_11 : decode cX9_when 11 = .ok (.iconst 0, 1) := by decide +kernel
theorem dX9_when_12 : decode cX9_when 12 = .ok (.iconst 1, 1) := by decide +kernel
theorem dX9_when_13 : decode cX9_when 13 = .ok (.invokestatic 62, 3) := by decide +kernel
theorem dX9_when_16 : decode cX9_when 16 = .ok (.ifCond .ne 9, 3) := by decide +kernel
theorem dX9_when_19 : decode cX9_when 19 = .ok (.aload_n 0, 1) := by decide +kernel
theorem dX9_when_20 : decode cX9_when 20 = .ok (.iconst 1, 1) := by decide +kernel
theorem dX9_when_21 : decode cX9_when 21 = .ok (.invokevirtual 66, 3) := by decide +kernel
theorem dX9_when_24 : decode cX9_when 24 = .ok (.ireturn, 1) := by decide +kernel
theorem dX9_when_25 : decode cX9_when 25 = .ok (.aload_n 0, 1) := by decide +kernel
theorem dX9_when_26 : decode cX9_when 26 = .ok (.getfield 29, 3) := by decide +kernel
theorem dX9_when_29 : decode cX9_when 29 = .ok (.aload_n 0, 1) := by decide +kernel
theorem dX9_when_30 : decode cX9_when 30 = .ok (.getfield 10, 3) := by decide +kernel
theorem dX9_when_33 : decode cX9_when 33 = .ok (.iload_n 1, 1) := by decide +kernel
theorem dX9_when_34 : decode cX9_when 34 = .ok (.invokevirtual 221, 3) := by decide +kernel
theorem dX9_when_37 : decode cX9_when 37 = .ok (.istore_n 3, 1) := by decide +kernel
theorem dX9_when_38 : decode cX9_when 38 = .ok (.iload_n 3, 1) := by decide +kernel
theorem dX9_when_39 : decode cX9_when 39 = .ok (.bipush 90, 2) := by decide +kernel
theorem dX9_when_41 : decode cX9_when 41 = .ok (.if_icmp .gt 27, 3) := by decide +kernel
theorem dX9_when_44 : decode cX9_when 44 = .ok (.aload_n 0, 1) := by decide +kernel
theorem dX9_when_45 : decode cX9_when 45 = .ok (.getfield 29, 3) := by decide +kernel
theorem dX9_when_48 : decode cX9_when 48 = .ok (.aload_n 0, 1) := by decide +kernel
theorem dX9_when_49 : decode cX9_when 49 = .ok (.getfield 10, 3) := by decide +kernel
theorem dX9_when_52 : decode cX9_when 52 = .ok (.iload_n 1, 1) := by decide +kernel
theorem dX9_when_53 : decode cX9_when 53 = .ok (.aload_n 0, 1) := by decide +kernel
theorem dX9_when_54 : decode cX9_when 54 = .ok (.getfield 10, 3) := by decide +kernel
theorem dX9_when_57 : decode cX9_when 57 = .ok (.getfield 120, 3) := by decide +kernel
theorem dX9_when_60 : decode cX9_when 60 = .ok (.iload_n 3, 1) := by decide +kernel
theorem dX9_when_61 : decode cX9_when 61 = .ok (.iadd, 1) := by decide +kernel
theorem dX9_when_62 : decode cX9_when 62 = .ok (.invokevirtual 209, 3) := by decide +kernel
theorem dX9_when_65 : decode cX9_when 65 = .ok (.ifCond .ne 9, 3) := by decide +kernel
theorem dX9_when_68 : decode cX9_when 68 = .ok (.aload_n 0, 1) := by decide +kernel
theorem dX9_when_69 : decode cX9_when 69 = .ok (.iconst 2, 1) := by decide +kernel
theorem dX9_when_70 : decode cX9_when 70 = .ok (.invokevirtual 66, 3) := by decide +kernel
theorem dX9_when_73 : decode cX9_when 73 = .ok (.ireturn, 1) := by decide +kernel
theorem dX9_when_74 : decode cX9_when 74 = .ok (.iload_n 2, 1) := by decide +kernel
theorem dX9_when_75 : decode cX9_when 75 = .ok (.ifCond .ne 7, 3) := by decide +kernel
theorem dX9_when_78 : decode cX9_when 78 = .ok (.iload_n 3, 1) := by decide +kernel
theorem dX9_when_79 : decode cX9_when 79 = .ok (.goto 10, 3) := by decide +kernel
theorem dX9_when_82 : decode cX9_when 82 = .ok (.aload_n 0, 1) := by decide +kernel
theorem dX9_when_83 : decode cX9_when 83 = .ok (.getfield 29, 3) := by decide +kernel
theorem dX9_when_86 : decode cX9_when 86 = .ok (.getfield 216, 3) := by decide +kernel
theorem dX9_when_89 : decode cX9_when 89 = .ok (.ireturn, 1) := by decide +kernel
set_option maxRecDepth 20000 in
theorem ggX9_clears_X9_isIn : GoodIn wsX9_clears wsX9_isIn := goodIn_r _ [5] (by decide +kernel) (by decide +kernel)
set_option maxRecDepth 20000 in
theorem gX9_clears_X9_isIn : GoodIn wsX9_clears (va_wsS RX9 62 yX9_isIn wsX9_isIn) := goodIn_app (goodIn_of _ (by decide +kernel)) ggX9_clears_X9_isIn
set_option maxRecDepth 20000 in
theorem ggX9_clears_X0_takenBehind : GoodIn wsX9_clears wsX0_takenBehind := goodIn_r _ [10, 11, 12, 13, 14, 15, 16, 17, 18, 19, 20, 21, 22, 23, 24, 25, 26, 27, 28, 29, 30, 31, 32, 48, 49, 50, 51, 52, 53, 54, 55, 56, 57, 58, 59, 60, 61, 62, 63, 64] (by decide +kernel) (by decide +kernel)
set_option maxRecDepth 20000 in
theorem gX9_clears_X0_takenBehind : GoodIn wsX9_clears (wsV RX9 225 RX0 yX0_takenBehind wsX0_takenBehind) := goodIn_app (goodIn_of _ (by decide +kernel)) ggX9_clears_X0_takenBehind
set_option maxRecDepth 20000 in
theorem ggX9_clears_X9_error : GoodIn wsX9_clears wsX9_error := goodIn_r _ [36, 37, 38, 39, 40, 41, 42, 43, 44, 45, 46, 47] (by decide +kernel) (by decide +kernel)
set_option maxRecDepth 20000 in
theorem gX9_clears_X9_error : GoodIn wsX9_clears (wsV RX9 66 RX9 yX9_error wsX9_error) := goodIn_app (goodIn_of _ (by decide +kernel)) ggX9_clears_X9_error
theorem dX9_clears_0 : decode cX9_clears 0 = .ok (.iload_n 1, 1) := by decide +kernel
theorem dX9_clears_1 : decode cX9_clears 1 = .ok (.iconst 0, 1) := by decide +kernel
theorem dX9_clears_2 : decode cX9_clears 2 = .ok (.bipush 90, 2) := by decide +kernel
theorem dX9_clears_4 : decode cX9_clears 4 = .ok (.invokestatic 62, 3) := by decide +kernel
theorem dX9_clears_7 : decode cX9_clears 7 = .ok (.ifCond .eq 14, 3) := by decide +kernel
theorem dX9_clears_10 : decode cX9_clears 10 = .ok (.aload_n 0, 1) := by decide +kernel
theorem dX9_clears_11 : decode cX9_clears 11 = .ok (.getfield 10, 3) := by decide +kernel
theorem dX9_clears_14 : decode cX9_clears 14 = .ok (.iload_n 1, 1) := by decide +kernel
theorem dX9_clears_15 : decode cX9_clears 15 = .ok (.invokevirtual 225, 3) := by decide +kernel
theorem dX9_clears_18 : decode cX9_clears 18 = .ok (.goto 8, 3) := by decide +kernel
theorem dX9_clears_21 : decode cX9_clears 21 = .ok (.aload_n 0, 1) := by decide +kernel
theorem dX9_clears_22 : decode cX9_clears 22 = .ok (.iconst 1, 1) := by decide +kernel
theorem dX9_clears_23 : decode cX9_clears 23 = .ok (.invokevirtual 66, 3) := by decide +kernel
theorem dX9_clears_26 : decode cX9_clears 26 = .ok (.ireturn, 1) := by decide +kernel
set_option maxRecDepth 20000 in
theorem ggX9_parts_X9_isIn : GoodIn wsX9_parts wsX9_isIn := goodIn_r _ [7] (by decide +kernel) (by decide +kernel)
set_option maxRecDepth 20000 in
theorem gX9_parts_X9_isIn : GoodIn wsX9_parts (va_wsS RX9 62 yX9_isIn wsX9_isIn) := goodIn_app (goodIn_of _ (by decide +kernel)) ggX9_parts_X9_isIn
set_option maxRecDepth 20000 in
theorem ggX9_parts_X9_error : GoodIn wsX9_parts wsX9_error := goodIn_r _ [11, 12, 13, 81, 82, 83, 84, 85, 86, 87, 88, 89] (by decide +kernel) (by decide +kernel)
set_option maxRecDepth 20000 in
theorem gX9_parts_X9_error : GoodIn wsX9_parts (wsV RX9 66 RX9 yX9_error wsX9_error) := goodIn_app (goodIn_of _ (by decide +kernel)) ggX9_parts_X9_error
set_option maxRecDepth 20000 in
theorem ggX9_parts_X7_isMissing : GoodIn wsX9_parts wsX7_isMissing := goodIn_r _ [18, 19, 90, 91] (by decide +kernel) (by decide +kernel)
set_option maxRecDepth 20000 in
theorem gX9_parts_X7_isMissing : GoodIn wsX9_parts (wsV RX9 228 RX7 yX7_isMissing wsX7_isMissing) := goodIn_app (goodIn_of _ (by decide +kernel)) ggX9_parts_X7_isMissing
set_option maxRecDepth 20000 in
theorem ggX9_parts_X0_taken : GoodIn wsX9_parts wsX0_taken := goodIn_r _ [24, 25, 26, 27, 23, 28, 29, 30, 31, 32, 33, 34, 35, 36, 37, 38, 39, 40, 41, 42, 43, 44, 45, 46, 47, 48, 49, 50, 94, 95, 96, 97, 98, 99, 100, 101, 102, 103, 104, 105, 106, 107, 108, 109, 110] (by decide +kernel) (by decide +kernel)
set_option maxRecDepth 20000 in
theorem gX9_parts_X0_taken : GoodIn wsX9_parts (wsV RX9 78 RX0 yX0_taken wsX0_taken) := goodIn_app (goodIn_of _ (by decide +kernel)) ggX9_parts_X0_taken
set_option maxRecDepth 20000 in
theorem ggX9_parts_X3_most : GoodIn wsX9_parts wsX3_most := goodIn_r _ [55, 56, 57, 43, 58, 59, 60, 42, 44, 61, 62, 63, 54, 64, 65, 66, 6, 67, 68, 69, 70, 71, 72, 73, 74, 75, 76, 77, 78, 79, 80, 92, 93, 111] (by decide +kernel) (by decide +kernel)
set_option maxRecDepth 20000 in
theorem gX9_parts_X3_most : GoodIn wsX9_parts (wsV RX9 238 RX3 yX3_most wsX3_most) := goodIn_app (goodIn_of _ (by decide +kernel)) ggX9_parts_X3_most
theorem dX9_parts_0 : decode cX9_parts 0 = .ok (.iload_n 1, 1) := by decide +kernel
theorem dX9_parts_1 : decode cX9_parts 1 = .ok (.iconst 0, 1) := by decide +kernel
theorem dX9_parts_2 : decode cX9_parts 2 = .ok (.iconst 3, 1) := by decide +kernel
theorem dX9_parts_3 : decode cX9_parts 3 = .ok (.invokestatic 62, 3) := by decide +kernel
theorem dX9_parts_6 : decode cX9_parts 6 = .ok (.ifCond .ne 9, 3) := by decide +kernel
theorem dX9_parts_9 : decode cX9_parts 9 = .ok (.aload_n 0, 1) := by decide +kernel
theorem dX9_parts_10 : decode cX9_parts 10 = .ok (.iconst 1, 1) := by decide +kernel
theorem dX9_parts_11 : decode cX9_parts 11 = .ok (.invokevirtual 66, 3) := by decide +kernel
theorem dX9_parts_14 : decode cX9_parts 14 = .ok (.ireturn, 1) := by decide +kernel
theorem dX9_parts_15 : decode cX9_parts 15 = .ok (.aload_n 0, 1) := by decide +kernel
theorem dX9_parts_16 : decode cX9_parts 16 = .ok (.getfield 49, 3) := by decide +kernel
theorem dX9_parts_19 : decode cX9_parts 19 = .ok (.iload_n 1, 1) := by decide +kernel
theorem dX9_parts_20 : decode cX9_parts 20 = .ok (.aaload, 1) := by decide +kernel
theorem dX9_parts_21 : decode cX9_parts 21 = .ok (.astore_n 2, 1) := by decide +kernel
theorem dX9_parts_22 : decode cX9_parts 22 = .ok (.aload_n 2, 1) := by decide +kernel
theorem dX9_parts_23 : decode cX9_parts 23 = .ok (.invokevirtual 228, 3) := by decide +kernel
theorem dX9_parts_26 : decode cX9_parts 26 = .ok (.ifCond .ne 15, 3) := by decide +kernel
theorem dX9_parts_29 : decode cX9_parts 29 = .ok (.aload_n 2, 1) := by decide +kernel
theorem dX9_parts_30 : decode cX9_parts 30 = .ok (.getfield 232, 3) := by decide +kernel
theorem dX9_parts_33 : decode cX9_parts 33 = .ok (.getfield 155, 3) := by decide +kernel
theorem dX9_parts_36 : decode cX9_parts 36 = .ok (.bipush 6, 2) := by decide +kernel
theorem dX9_parts_38 : decode cX9_parts 38 = .ok (.if_icmp .le 9, 3) := by decide +kernel
theorem dX9_parts_41 : decode cX9_parts 41 = .ok (.aload_n 0, 1) := by decide +kernel
theorem dX9_parts_42 : decode cX9_parts 42 = .ok (.iconst 2, 1) := by decide +kernel
theorem dX9_parts_43 : decode cX9_parts 43 = .ok (.invokevirtual 66, 3) := by decide +kernel
theorem dX9_parts_46 : decode cX9_parts 46 = .ok (.ireturn, 1) := by decide +kernel
theorem dX9_parts_47 : decode cX9_parts 47 = .ok (.iconst 0, 1) := by decide +kernel
theorem dX9_parts_48 : decode cX9_parts 48 = .ok (.istore_n 3, 1) := by decide +kernel
theorem dX9_parts_49 : decode cX9_parts 49 = .ok (.iload_n 3, 1) := by decide +kernel
theorem dX9_parts_50 : decode cX9_parts 50 = .ok (.aload_n 2, 1) := by decide +kernel
theorem dX9_parts_51 : decode cX9_parts 51 = .ok (.getfield 232, 3) := by decide +kernel
theorem dX9_parts_54 : decode cX9_parts 54 = .ok (.getfield 155, 3) := by decide +kernel
theorem dX9_parts_57 : decode cX9_parts 57 = .ok (.if_icmp .ge 33, 3) := by decide +kernel
theorem dX9_parts_60 : decode cX9_parts 60 = .ok (.aload_n 2, 1) := by decide +kernel
theorem dX9_parts_61 : decode cX9_parts 61 = .ok (.getfield 232, 3) := by decide +kernel
theorem dX9_parts_64 : decode cX9_parts 64 = .ok (.getfield 235, 3) := by decide +kernel
theorem dX9_parts_67 : decode cX9_parts 67 = .ok (.iload_n 3, 1) := by decide +kernel
theorem dX9_parts_68 : decode cX9_parts 68 = .ok (.iaload, 1) := by decide +kernel
theorem dX9_parts_69 : decode cX9_parts 69 = .ok (.iconst 1, 1) := by decide +kernel
theorem dX9_parts_70 : decode cX9_parts 70 = .ok (.bipush 12, 2) := by decide +kernel
theorem dX9_parts_72 : decode cX9_parts 72 = .ok (.invokestatic 62, 3) := by decide +kernel
theorem dX9_parts_75 : decode cX9_parts 75 = .ok (.ifCond .ne 9, 3) := by decide +kernel
theorem dX9_parts_78 : decode cX9_parts 78 = .ok (.aload_n 0, 1) := by decide +kernel
theorem dX9_parts_79 : decode cX9_parts 79 = .ok (.iconst 3, 1) := by decide +kernel
theorem dX9_parts_80 : decode cX9_parts 80 = .ok (.invokevirtual 66, 3) := by decide +kernel
theorem dX9_parts_83 : decode cX9_parts 83 = .ok (.ireturn, 1) := by decide +kernel
theorem dX9_parts_84 : decode cX9_parts 84 = .ok (.iinc 3 1, 3) := by decide +kernel
theorem dX9_parts_87 : decode cX9_parts 87 = .ok (.goto (-38), 3) := by decide +kernel
theorem dX9_parts_90 : decode cX9_parts 90 = .ok (.aload_n 0, 1) := by decide +kernel
theorem dX9_parts_91 : decode cX9_parts 91 = .ok (.getfield 36, 3) := by decide +kernel
theorem dX9_parts_94 : decode cX9_parts 94 = .ok (.aload_n 2, 1) := by decide +kernel
theorem dX9_parts_95 : decode cX9_parts 95 = .ok (.getfield 232, 3) := by decide +kernel
theorem dX9_parts_98 : decode cX9_parts 98 = .ok (.aload_n 0, 1) := by decide +kernel
theorem dX9_parts_99 : decode cX9_parts 99 = .ok (.getfield 10, 3) := by decide +kernel
theorem dX9_parts_102 : decode cX9_parts 102 = .ok (.invokevirtual 78, 3) := by decide +kernel
theorem dX9_parts_105 : decode cX9_parts 105 = .ok (.invokevirtual 238, 3) := by decide +kernel
theorem dX9_parts_108 : decode cX9_parts 108 = .ok (.ireturn, 1) := by decide +kernel
set_option maxRecDepth 20000 in
theorem ggX9_odds_J6_bitCount_0f7a4 : GoodIn wsX9_odds wsJ6_bitCount_0f7a4 := goodIn_r _ [6, 7, 8, 9] (by decide +kernel) (by decide +kernel)
set_option maxRecDepth 20000 in
theorem gX9_odds_J6_bitCount_0f7a4 : GoodIn wsX9_odds (va_wsS RX9 194 yJ6_bitCount_0f7a4 wsJ6_bitCount_0f7a4) := goodIn_app (goodIn_of _ (by decide +kernel)) ggX9_odds_J6_bitCount_0f7a4
set_option maxRecDepth 20000 in
theorem ggX9_odds_X9_isIn : GoodIn wsX9_odds wsX9_isIn := goodIn_r _ [13] (by decide +kernel) (by decide +kernel)
set_option maxRecDepth 20000 in
theorem gX9_odds_X9_isIn : GoodIn wsX9_odds (va_wsS RX9 62 yX9_isIn wsX9_isIn) := goodIn_app (goodIn_of _ (by decide +kernel)) ggX9_odds_X9_isIn
set_option maxRecDepth 20000 in
theorem ggX9_odds_X9_error : GoodIn wsX9_odds wsX9_error := goodIn_r _ [17, 18, 19, 45, 46, 47, 48, 49, 50, 51, 52, 53] (by decide +kernel) (by decide +kernel)
set_option maxRecDepth 20000 in
theorem gX9_odds_X9_error : GoodIn wsX9_odds (wsV RX9 66 RX9 yX9_error wsX9_error) := goodIn_app (goodIn_of _ (by decide +kernel)) ggX9_odds_X9_error
set_option maxRecDepth 20000 in
theorem ggX9_odds_X9_isOf : GoodIn wsX9_odds wsX9_isOf := goodIn_r _ [22] (by decide +kernel) (by decide +kernel)
set_option maxRecDepth 20000 in
theorem gX9_odds_X9_isOf : GoodIn wsX9_odds (va_wsS RX9 242 yX9_isOf wsX9_isOf) := goodIn_app (goodIn_of _ (by decide +kernel)) ggX9_odds_X9_isOf
set_option maxRecDepth 20000 in
theorem ggX9_odds_X2_back : GoodIn wsX9_odds wsX2_back := goodIn_r _ [27, 28, 29, 30, 31, 32, 33, 34, 35, 36, 12, 37, 38, 39, 40, 41, 64, 65, 66, 67, 68, 69, 70] (by decide +kernel) (by decide +kernel)
set_option maxRecDepth 20000 in
theorem gX9_odds_X2_back : GoodIn wsX9_odds (wsV RX9 127 RX2 yX2_back wsX2_back) := goodIn_app (goodIn_of _ (by decide +kernel)) ggX9_odds_X2_back
set_option maxRecDepth 20000 in
theorem ggX9_odds_X9_sharedDivisor : GoodIn wsX9_odds wsX9_sharedDivisor := goodIn_r _ [44] (by decide +kernel) (by decide +kernel)
set_option maxRecDepth 20000 in
theorem gX9_odds_X9_sharedDivisor : GoodIn wsX9_odds (va_wsS RX9 247 yX9_sharedDivisor wsX9_sharedDivisor) := goodIn_app (goodIn_of _ (by decide +kernel)) ggX9_odds_X9_sharedDivisor
theorem dX9_odds_0 : decode cX9_odds 0 = .ok (.iload_n 1, 1) := by decide +kernel
theorem dX9_odds_1 : decode cX9_odds 1 = .ok (.ifCond .lt 32, 3) := by decide +kernel
theorem dX9_odds_4 : decode cX9_odds 4 = .ok (.iload_n 1, 1) := by decide +kernel
theorem dX9_odds_5 : decode cX9_odds 5 = .ok (.aload_n 0, 1) := by decide +kernel
theorem dX9_odds_6 : decode cX9_odds 6 = .ok (.getfield 10, 3) := by decide +kernel
theorem dX9_odds_9 : decode cX9_odds 9 = .ok (.getfield 70, 3) := by decide +kernel
theorem dX9_odds_12 : decode cX9_odds 12 = .ok (.ishr, 1) := by decide +kernel
theorem dX9_odds_13 : decode cX9_odds 13 = .ok (.ifCond .ne 20, 3) := by decide +kernel
theorem dX9_odds_16 : decode cX9_odds 16 = .ok (.iload_n 1, 1) := by decide +kernel
theorem dX9_odds_17 : decode cX9_odds 17 = .ok (.invokestatic 194, 3) := by decide +kernel
theorem dX9_odds_20 : decode cX9_odds 20 = .ok (.iconst 4, 1) := by decide +kernel
theorem dX9_odds_21 : decode cX9_odds 21 = .ok (.if_icmp .gt 12, 3) := by decide +kernel
theorem dX9_odds_24 : decode cX9_odds 24 = .ok (.iload_n 2, 1) := by decide +kernel
theorem dX9_odds_25 : decode cX9_odds 25 = .ok (.iconst 0, 1) := by decide +kernel
theorem dX9_odds_26 : decode cX9_odds 26 = .ok (.iconst 1, 1) := by decide +kernel
theorem dX9_odds_27 : decode cX9_odds 27 = .ok (.invokestatic 62, 3) := by decide +kernel
theorem dX9_odds_30 : decode cX9_odds 30 = .ok (.ifCond .ne 10, 3) := by decide +kernel
theorem dX9_odds_33 : decode cX9_odds 33 = .ok (.aload_n 0, 1) := by decide +kernel
theorem dX9_odds_34 : decode cX9_odds 34 = .ok (.iconst 1, 1) := by decide +kernel
theorem dX9_odds_35 : decode cX9_odds 35 = .ok (.invokevirtual 66, 3) := by decide +kernel
theorem dX9_odds_38 : decode cX9_odds 38 = .ok (.i2l, 1) := by decide +kernel
theorem dX9_odds_39 : decode cX9_odds 39 = .ok (.lreturn, 1) := by decide +kernel
theorem dX9_odds_40 : decode cX9_odds 40 = .ok (.lconst 1, 1) := by decide +kernel
theorem dX9_odds_41 : decode cX9_odds 41 = .ok (.lstore_n 3, 1) := by decide +kernel
theorem dX9_odds_42 : decode cX9_odds 42 = .ok (.lconst 1, 1) := by decide +kernel
theorem dX9_odds_43 : decode cX9_odds 43 = .ok (.lstore 5, 2) := by decide +kernel
theorem dX9_odds_45 : decode cX9_odds 45 = .ok (.iconst 0, 1) := by decide +kernel
theorem dX9_odds_46 : decode cX9_odds 46 = .ok (.istore 7, 2) := by decide +kernel
theorem dX9_odds_48 : decode cX9_odds 48 = .ok (.iload 7, 2) := by decide +kernel
theorem dX9_odds_50 : decode cX9_odds 50 = .ok (.aload_n 0, 1) := by decide +kernel
theorem dX9_odds_51 : decode cX9_odds 51 = .ok (.getfield 10, 3) := by decide +kernel
theorem dX9_odds_54 : decode cX9_odds 54 = .ok (.getfield 70, 3) := by decide +kernel
theorem dX9_odds_57 : decode cX9_odds 57 = .ok (.if_icmp .ge 53, 3) := by decide +kernel
theorem dX9_odds_60 : decode cX9_odds 60 = .ok (.iload 7, 2) := by decide +kernel
theorem dX9_odds_62 : decode cX9_odds 62 = .ok (.iload_n 1, 1) := by decide +kernel
theorem dX9_odds_63 : decode cX9_odds 63 = .ok (.invokestatic 242, 3) := by decide +kernel
theorem dX9_odds_66 : decode cX9_odds 66 = .ok (.ifCond .eq 38, 3) := by decide +kernel
theorem dX9_odds_69 : decode cX9_odds 69 = .ok (.lload_n 3, 1) := by decide +kernel
theorem dX9_odds_70 : decode cX9_odds 70 = .ok (.bipush 100, 2) := by decide +kernel
theorem dX9_odds_72 : decode cX9_odds 72 = .ok (.aload_n 0, 1) := by decide +kernel
theorem dX9_odds_73 : decode cX9_odds 73 = .ok (.getfield 10, 3) := by decide +kernel
theorem dX9_odds_76 : decode cX9_odds 76 = .ok (.getfield 92, 3) := by decide +kernel
theorem dX9_odds_79 : decode cX9_odds 79 = .ok (.iload 7, 2) := by decide +kernel
theorem dX9_odds_81 : decode cX9_odds 81 = .ok (.aaload, 1) := by decide +kernel
theorem dX9_odds_82 : decode cX9_odds 82 = .ok (.aload_n 0, 1) := by decide +kernel
theorem dX9_odds_83 : decode cX9_odds 83 = .ok (.getfield 10, 3) := by decide +kernel
theorem dX9_odds_86 : decode cX9_odds 86 = .ok (.getfield 120, 3) := by decide +kernel
theorem dX9_odds_89 : decode cX9_odds 89 = .ok (.invokevirtual 127, 3) := by decide +kernel
theorem dX9_odds_92 : decode cX9_odds 92 = .ok (.isub, 1) := by decide +kernel
theorem dX9_odds_93 : decode cX9_odds 93 = .ok (.i2l, 1) := by decide +kernel
theorem dX9_odds_94 : decode cX9_odds 94 = .ok (.lmul, 1) := by decide +kernel
theorem dX9_odds_95 : decode cX9_odds 95 = .ok (.lstore_n 3, 1) := by decide +kernel
theorem dX9_odds_96 : decode cX9_odds 96 = .ok (.lload 5, 2) := by decide +kernel
theorem dX9_odds_98 : decode cX9_odds 98 = .ok (.ldc2_w 245, 3) := by decide +kernel
theorem dX9_odds_101 : decode cX9_odds 101 = .ok (.lmul, 1) := by decide +kernel
theorem dX9_odds_102 : decode cX9_odds 102 = .ok (.lstore 5, 2) := by decide +kernel
theorem dX9_odds_104 : decode cX9_odds 104 = .ok (.iinc 7 1, 3) := by decide +kernel
theorem dX9_odds_107 : decode cX9_odds 107 = .ok (.goto (-59), 3) := by decide +kernel
theorem dX9_odds_110 : decode cX9_odds 110 = .ok (.lload_n 3, 1) := by decide +kernel
theorem dX9_odds_111 : decode cX9_odds 111 = .ok (.lload 5, 2) := by decide +kernel
theorem dX9_odds_113 : decode cX9_odds 113 = .ok (.invokestatic 247, 3) := by decide +kernel
theorem dX9_odds_116 : decode cX9_odds 116 = .ok (.lstore 7, 2) := by decide +kernel
theorem dX9_odds_118 : decode cX9_odds 118 = .ok (.lload 7, 2) := by decide +kernel
theorem dX9_odds_120 : decode cX9_odds 120 = .ok (.lconst 0, 1) := by decide +kernel
theorem dX9_odds_121 : decode cX9_odds 121 = .ok (.lcmp, 1) := by decide +kernel
theorem dX9_odds_122 : decode cX9_odds 122 = .ok (.ifCond .ne 6, 3) := by decide +kernel
theorem dX9_odds_125 : decode cX9_odds 125 = .ok (.lconst 1, 1) := by decide +kernel
theorem dX9_odds_126 : decode cX9_odds 126 = .ok (.lstore 7, 2) := by decide +kernel
theorem dX9_odds_128 : decode cX9_odds 128 = .ok (.iload_n 2, 1) := by decide +kernel
theorem dX9_odds_129 : decode cX9_odds 129 = .ok (.ifCond .ne 10, 3) := by decide +kernel
theorem dX9_odds_132 : decode cX9_odds 132 = .ok (.lload_n 3, 1) := by decide +kernel
theorem dX9_odds_133 : decode cX9_odds 133 = .ok (.lload 7, 2) := by decide +kernel
theorem dX9_odds_135 : decode cX9_odds 135 = .ok (.ldiv, 1) := by decide +kernel
theorem dX9_odds_136 : decode cX9_odds 136 = .ok (.goto 8, 3) := by decide +kernel
theorem dX9_odds_139 : decode cX9_odds 139 = .ok (.lload 5, 2) := by decide +kernel
theorem dX9_odds_141 : decode cX9_odds 141 = .ok (.lload 7, 2) := by decide +kernel
theorem dX9_odds_143 : decode cX9_odds 143 = .ok (.ldiv, 1) := by decide +kernel
theorem dX9_odds_144 : decode cX9_odds 144 = .ok (.lreturn, 1) := by decide +kernel
set_option maxRecDepth 20000 in
theorem ggX9_fits_X9_isIn : GoodIn wsX9_fits wsX9_isIn := goodIn_r _ [6] (by decide +kernel) (by decide +kernel)
set_option maxRecDepth 20000 in
theorem gX9_fits_X9_isIn : GoodIn wsX9_fits (va_wsS RX9 62 yX9_isIn wsX9_isIn) := goodIn_app (goodIn_of _ (by decide +kernel)) ggX9_fits_X9_isIn
set_option maxRecDepth 20000 in
theorem ggX9_fits_X9_error : GoodIn wsX9_fits wsX9_error := goodIn_r _ [10, 11, 12, 49, 50, 51, 52, 53, 54, 55, 56, 57] (by decide +kernel) (by decide +kernel)
set_option maxRecDepth 20000 in
theorem gX9_fits_X9_error : GoodIn wsX9_fits (wsV RX9 66 RX9 yX9_error wsX9_error) := goodIn_app (goodIn_of _ (by decide +kernel)) ggX9_fits_X9_error
set_option maxRecDepth 20000 in
theorem ggX9_fits_X7_isMissing : GoodIn wsX9_fits wsX7_isMissing := goodIn_r _ [17, 18, 58, 59] (by decide +kernel) (by decide +kernel)
set_option maxRecDepth 20000 in
theorem gX9_fits_X7_isMissing : GoodIn wsX9_fits (wsV RX9 228 RX7 yX7_isMissing wsX7_isMissing) := goodIn_app (goodIn_of _ (by decide +kernel)) ggX9_fits_X7_isMissing
set_option maxRecDepth 20000 in
theorem ggX9_fits_X0_takenBehind : GoodIn wsX9_fits wsX0_takenBehind := goodIn_r _ [23, 24, 25, 26, 27, 28, 29, 30, 31, 32, 33, 34, 35, 36, 37, 38, 39, 40, 41, 42, 43, 44, 45, 62, 63, 64, 65, 66, 67, 68, 69, 70, 71, 72, 73, 74, 75, 76, 77, 78] (by decide +kernel) (by decide +kernel)
set_option maxRecDepth 20000 in
theorem gX9_fits_X0_takenBehind : GoodIn wsX9_fits (wsV RX9 225 RX0 yX0_takenBehind wsX0_takenBehind) := goodIn_app (goodIn_of _ (by decide +kernel)) ggX9_fits_X0_takenBehind
set_option maxRecDepth 20000 in
theorem ggX9_fits_X9_isSet : GoodIn wsX9_fits wsX9_isSet := goodIn_r _ [48, 60, 61] (by decide +kernel) (by decide +kernel)
set_option maxRecDepth 20000 in
theorem gX9_fits_X9_isSet : GoodIn wsX9_fits (va_wsS RX9 251 yX9_isSet wsX9_isSet) := goodIn_app (goodIn_of _ (by decide +kernel)) ggX9_fits_X9_isSet
theorem dX9_fits_0 : decode cX9_fits 0 = .ok (.iload_n 1, 1) := by decide +kernel
theorem dX9_fits_1 : decode cX9_fits 1 = .ok (.iconst 0, 1) := by decide +kernel
theorem dX9_fits_2 : decode cX9_fits 2 = .ok (.iconst 3, 1) := by decide +kernel
theorem dX9_fits_3 : decode cX9_fits 3 = .ok (.invokestatic 62, 3) := by decide +kernel
theorem dX9_fits_6 : decode cX9_fits 6 = .ok (.ifCond .ne 9, 3) := by decide +kernel
theorem dX9_fits_9 : decode cX9_fits 9 = .ok (.aload_n 0, 1) := by decide +kernel
theorem dX9_fits_10 : decode cX9_fits 10 = .ok (.iconst 1, 1) := by decide +kernel
theorem dX9_fits_11 : decode cX9_fits 11 = .ok (.invokevirtual 66, 3) := by decide +kernel
theorem dX9_fits_14 : decode cX9_fits 14 = .ok (.ireturn, 1) := by decide +kernel
theorem dX9_fits_15 : decode cX9_fits 15 = .ok (.aload_n 0, 1) := by decide +kernel
theorem dX9_fits_16 : decode cX9_fits 16 = .ok (.getfield 49, 3) := by decide +kernel
theorem dX9_fits_19 : decode cX9_fits 19 = .ok (.iload_n 1, 1) := by decide +kernel
theorem dX9_fits_20 : decode cX9_fits 20 = .ok (.aaload, 1) := by decide +kernel
theorem dX9_fits_21 : decode cX9_fits 21 = .ok (.invokevirtual 228, 3) := by decide +kernel
theorem dX9_fits_24 : decode cX9_fits 24 = .ok (.ifCond .ne 20, 3) := by decide +kernel
theorem dX9_fits_27 : decode cX9_fits 27 = .ok (.aload_n 0, 1) := by decide +kernel
theorem dX9_fits_28 : decode cX9_fits 28 = .ok (.getfield 49, 3) := by decide +kernel
theorem dX9_fits_31 : decode cX9_fits 31 = .ok (.iload_n 1, 1) := by decide +kernel
theorem dX9_fits_32 : decode cX9_fits 32 = .ok (.aaload, 1) := by decide +kernel
theorem dX9_fits_33 : decode cX9_fits 33 = .ok (.getfield 232, 3) := by decide +kernel
theorem dX9_fits_36 : decode cX9_fits 36 = .ok (.getfield 155, 3) := by decide +kernel
theorem dX9_fits_39 : decode cX9_fits 39 = .ok (.bipush 12, 2) := by decide +kernel
theorem dX9_fits_41 : decode cX9_fits 41 = .ok (.if_icmp .le 9, 3) := by decide +kernel
theorem dX9_fits_44 : decode cX9_fits 44 = .ok (.aload_n 0, 1) := by decide +kernel
theorem dX9_fits_45 : decode cX9_fits 45 = .ok (.iconst 2, 1) := by decide +kernel
theorem dX9_fits_46 : decode cX9_fits 46 = .ok (.invokevirtual 66, 3) := by decide +kernel
theorem dX9_fits_49 : decode cX9_fits 49 = .ok (.ireturn, 1) := by decide +kernel
theorem dX9_fits_50 : decode cX9_fits 50 = .ok (.iconst 0, 1) := by decide +kernel
theorem dX9_fits_51 : decode cX9_fits 51 = .ok (.istore_n 2, 1) := by decide +kernel
theorem dX9_fits_52 : decode cX9_fits 52 = .ok (.iload_n 2, 1) := by decide +kernel
theorem dX9_fits_53 : decode cX9_fits 53 = .ok (.bipush 90, 2) := by decide +kernel
theorem dX9_fits_55 : decode cX9_fits 55 = .ok (.if_icmp .gt 34, 3) := by decide +kernel
theorem dX9_fits_58 : decode cX9_fits 58 = .ok (.aload_n 0, 1) := by decide +kernel
theorem dX9_fits_59 : decode cX9_fits 59 = .ok (.getfield 49, 3) := by decide +kernel
theorem dX9_fits_62 : decode cX9_fits 62 = .ok (.iload_n 1, 1) := by decide +kernel
theorem dX9_fits_63 : decode cX9_fits 63 = .ok (.aaload, 1) := by decide +kernel
theorem dX9_fits_64 : decode cX9_fits 64 = .ok (.getfield 232, 3) := by decide +kernel
theorem dX9_fits_67 : decode cX9_fits 67 = .ok (.aload_n 0, 1) := by decide +kernel
theorem dX9_fits_68 : decode cX9_fits 68 = .ok (.getfield 10, 3) := by decide +kernel
theorem dX9_fits_71 : decode cX9_fits 71 = .ok (.iload_n 2, 1) := by decide +kernel
theorem dX9_fits_72 : decode cX9_fits 72 = .ok (.invokevirtual 225, 3) := by decide +kernel
theorem dX9_fits_75 : decode cX9_fits 75 = .ok (.invokestatic 251, 3) := by decide +kernel
theorem dX9_fits_78 : decode cX9_fits 78 = .ok (.ifCond .eq 5, 3) := by decide +kernel
theorem dX9_fits_81 : decode cX9_fits 81 = .ok (.iload_n 2, 1) := by decide +kernel
theorem dX9_fits_82 : decode cX9_fits 82 = .ok (.ireturn, 1) := by decide +kernel
theorem dX9_fits_83 : decode cX9_fits 83 = .ok (.iinc 2 1, 3) := by decide +kernel
theorem dX9_fits_86 : decode cX9_fits 86 = .ok (.goto (-34), 3) := by decide +kernel
theorem dX9_fits_89 : decode cX9_fits 89 = .ok (.aload_n 0, 1) := by decide +kernel
theorem dX9_fits_90 : decode cX9_fits 90 = .ok (.iconst 2, 1) := by decide +kernel
theorem dX9_fits_91 : decode cX9_fits 91 = .ok (.invokevirtual 66, 3) := by decide +kernel
theorem dX9_fits_94 : decode cX9_fits 94 = .ok (.ireturn, 1) := by decide +kernel
set_option maxRecDepth 20000 in
theorem ggX9_voice_X0_hasLine : GoodIn wsX9_voice wsX0_hasLine := goodIn_r _ [7, 8, 61, 62, 63, 64, 65, 66, 67, 68, 69, 70] (by decide +kernel) (by decide +kernel)
set_option maxRecDepth 20000 in
theorem gX9_voice_X0_hasLine : GoodIn wsX9_voice (wsV RX9 89 RX0 yX0_hasLine wsX0_hasLine) := goodIn_app (goodIn_of _ (by decide +kernel)) ggX9_voice_X0_hasLine
set_option maxRecDepth 20000 in
theorem ggX9_voice_X9_isIn : GoodIn wsX9_voice wsX9_isIn := goodIn_r _ [12] (by decide +kernel) (by decide +kernel)
set_option maxRecDepth 20000 in
theorem gX9_voice_X9_isIn : GoodIn wsX9_voice (va_wsS RX9 62 yX9_isIn wsX9_isIn) := goodIn_app (goodIn_of _ (by decide +kernel)) ggX9_voice_X9_isIn
set_option maxRecDepth 20000 in
theorem ggX9_voice_X9_error : GoodIn wsX9_voice wsX9_error := goodIn_r _ [16, 17, 18, 52, 53, 54, 55, 56, 57, 58, 59, 60] (by decide +kernel) (by decide +kernel)
set_option maxRecDepth 20000 in
theorem gX9_voice_X9_error : GoodIn wsX9_voice (wsV RX9 66 RX9 yX9_error wsX9_error) := goodIn_app (goodIn_of _ (by decide +kernel)) ggX9_voice_X9_error
set_option maxRecDepth 20000 in
theorem ggX9_voice_X8_say : GoodIn wsX9_voice wsX8_say := goodIn_r _ [23, 24, 25, 26, 27, 28, 29, 30, 31, 32, 33, 34, 35, 36, 37, 22, 38, 39, 40, 41, 42, 43, 44, 45, 46, 47, 48, 49, 50, 51, 71, 72, 73, 74, 75, 76, 77, 78, 79, 80, 81, 82, 83, 84] (by decide +kernel) (by decide +kernel)
set_option maxRecDepth 20000 in
theorem gX9_voice_X8_say : GoodIn wsX9_voice (wsV RX9 254 RX8 yX8_say wsX8_say) := goodIn_app (goodIn_of _ (by decide +kernel)) ggX9_voice_X8_say
theorem dX9_voice_0 : decode cX9_voice 0 = .ok (.aload_n 0, 1) := by decide +kernel
theorem dX9_voice_1 : decode cX9_voice 1 = .ok (.getfield 10, 3) := by decide +kernel
theorem dX9_voice_4 : decode cX9_voice 4 = .ok (.iload_n 1, 1) := by decide +kernel
theorem dX9_voice_5 : decode cX9_voice 5 = .ok (.invokevirtual 89, 3) := by decide +kernel
theorem dX9_voice_8 : decode cX9_voice 8 = .ok (.ifCond .eq 12, 3) := by decide +kernel
theorem dX9_voice_11 : decode cX9_voice 11 = .ok (.iload_n 2, 1) := by decide +kernel
theorem dX9_voice_12 : decode cX9_voice 12 = .ok (.iconst 0, 1) := by decide +kernel
theorem dX9_voice_13 : decode cX9_voice 13 = .ok (.iconst 3, 1) := by decide +kernel
theorem dX9_voice_14 : decode cX9_voice 14 = .ok (.invokestatic 62, 3) := by decide +kernel
theorem dX9_voice_17 : decode cX9_voice 17 = .ok (.ifCond .ne 9, 3) := by decide +kernel
theorem dX9_voice_20 : decode cX9_voice 20 = .ok (.aload_n 0, 1) := by decide +kernel
theorem dX9_voice_21 : decode cX9_voice 21 = .ok (.iconst 1, 1) := by decide +kernel
theorem dX9_voice_22 : decode cX9_voice 22 = .ok (.invokevirtual 66, 3) := by decide +kernel
theorem dX9_voice_25 : decode cX9_voice 25 = .ok (.ireturn, 1) := by decide +kernel
theorem dX9_voice_26 : decode cX9_voice 26 = .ok (.aload_n 0, 1) := by decide +kernel
theorem dX9_voice_27 : decode cX9_voice 27 = .ok (.getfield 43, 3) := by decide +kernel
theorem dX9_voice_30 : decode cX9_voice 30 = .ok (.aload_n 0, 1) := by decide +kernel
theorem dX9_voice_31 : decode cX9_voice 31 = .ok (.getfield 10, 3) := by decide +kernel
theorem dX9_voice_34 : decode cX9_voice 34 = .ok (.getfield 92, 3) := by decide +kernel
theorem dX9_voice_37 : decode cX9_voice 37 = .ok (.iload_n 1, 1) := by decide +kernel
theorem dX9_voice_38 : decode cX9_voice 38 = .ok (.aaload, 1) := by decide +kernel
theorem dX9_voice_39 : decode cX9_voice 39 = .ok (.iload_n 1, 1) := by decide +kernel
theorem dX9_voice_40 : decode cX9_voice 40 = .ok (.iload_n 2, 1) := by decide +kernel
theorem dX9_voice_41 : decode cX9_voice 41 = .ok (.iload_n 3, 1) := by decide +kernel
theorem dX9_voice_42 : decode cX9_voice 42 = .ok (.invokevirtual 254, 3) := by decide +kernel
theorem dX9_voice_45 : decode cX9_voice 45 = .ok (.istore 4, 2) := by decide +kernel
theorem dX9_voice_47 : decode cX9_voice 47 = .ok (.aload_n 0, 1) := by decide +kernel
theorem dX9_voice_48 : decode cX9_voice 48 = .ok (.getfield 43, 3) := by decide +kernel
theorem dX9_voice_51 : decode cX9_voice 51 = .ok (.getfield 258, 3) := by decide +kernel
theorem dX9_voice_54 : decode cX9_voice 54 = .ok (.ifCond .eq 12, 3) := by decide +kernel
theorem dX9_voice_57 : decode cX9_voice 57 = .ok (.aload_n 0, 1) := by decide +kernel
theorem dX9_voice_58 : decode cX9_voice 58 = .ok (.bipush 6, 2) := by decide +kernel
theorem dX9_voice_60 : decode cX9_voice 60 = .ok (.invokevirtual 66, 3) := by decide +kernel
theorem dX9_voice_63 : decode cX9_voice 63 = .ok (.goto 5, 3) := by decide +kernel
theorem dX9_voice_66 : decode cX9_voice 66 = .ok (.iload 4, 2) := by decide +kernel
theorem dX9_voice_68 : decode cX9_voice 68 = .ok (.ireturn, 1) := by decide +kernel
set_option maxRecDepth 20000 in
theorem ggX9_body_X9_isIn : GoodIn wsX9_body wsX9_isIn := goodIn_r _ [5] (by decide +kernel) (by decide +kernel)
set_option maxRecDepth 20000 in
theorem gX9_body_X9_isIn : GoodIn wsX9_body (va_wsS RX9 62 yX9_isIn wsX9_isIn) := goodIn_app (goodIn_of _ (by decide +kernel)) ggX9_body_X9_isIn
set_option maxRecDepth 20000 in
theorem ggX9_body_X9_error : GoodIn wsX9_body wsX9_error := goodIn_r _ [9, 10, 11, 12, 13, 14, 15, 16, 17, 18, 19, 20] (by decide +kernel) (by decide +kernel)
set_option maxRecDepth 20000 in
theorem gX9_body_X9_error : GoodIn wsX9_body (wsV RX9 66 RX9 yX9_error wsX9_error) := goodIn_app (goodIn_of _ (by decide +kernel)) ggX9_body_X9_error
theorem dX9_body_0 : decode cX9_body 0 = .ok (.iload_n 1, 1) := by decide +kernel
theorem dX9_body_1 : decode cX9_body 1 = .ok (.iconst 0, 1) := by decide +kernel
theorem dX9_body_2 : decode cX9_body 2 = .ok (.aload_n 0, 1) := by decide +kernel
theorem dX9_body_3 : decode cX9_body 3 = .ok (.getfield 43, 3) := by decide +kernel
theorem dX9_body_6 : decode cX9_body 6 = .ok (.getfield 261, 3) := by decide +kernel
theorem dX9_body_9 : decode cX9_body 9 = .ok (.getfield 155, 3) := by decide +kernel
theorem dX9_body_12 : decode cX9_body 12 = .ok (.iconst 1, 1) := by decide +kernel
theorem dX9_body_13 : decode cX9_body 13 = .ok (.isub, 1) := by decide +kernel
theorem dX9_body_14 : decode cX9_body 14 = .ok (.invokestatic 62, 3) := by decide +kernel
theorem dX9_body_17 : decode cX9_body 17 = .ok (.ifCond .eq 18, 3) := by decide +kernel
theorem dX9_body_20 : decode cX9_body 20 = .ok (.aload_n 0, 1) := by decide +kernel
theorem dX9_body_21 : decode cX9_body 21 = .ok (.getfield 43, 3) := by decide +kernel
theorem dX9_body_24 : decode cX9_body 24 = .ok (.getfield 261, 3) := by decide +kernel
theorem dX9_body_27 : decode cX9_body 27 = .ok (.getfield 235, 3) := by decide +kernel
theorem dX9_body_30 : decode cX9_body 30 = .ok (.iload_n 1, 1) := by decide +kernel
theorem dX9_body_31 : decode cX9_body 31 = .ok (.iaload, 1) := by decide +kernel
theorem dX9_body_32 : decode cX9_body 32 = .ok (.goto 8, 3) := by decide +kernel
theorem dX9_body_35 : decode cX9_body 35 = .ok (.aload_n 0, 1) := by decide +kernel
theorem dX9_body_36 : decode cX9_body 36 = .ok (.iconst 2, 1) := by decide +kernel
theorem dX9_body_37 : decode cX9_body 37 = .ok (.invokevirtual 66, 3) := by decide +kernel
theorem dX9_body_40 : decode cX9_body 40 = .ok (.ireturn, 1) := by decide +kernel
set_option maxRecDepth 20000 in
theorem ggX9_sheet_X9_isIn : GoodIn wsX9_sheet wsX9_isIn := goodIn_r _ [5] (by decide +kernel) (by decide +kernel)
set_option maxRecDepth 20000 in
theorem gX9_sheet_X9_isIn : GoodIn wsX9_sheet (va_wsS RX9 62 yX9_isIn wsX9_isIn) := goodIn_app (goodIn_of _ (by decide +kernel)) ggX9_sheet_X9_isIn
set_option maxRecDepth 20000 in
theorem ggX9_sheet_X9_error : GoodIn wsX9_sheet wsX9_error := goodIn_r _ [9, 10, 11, 30, 31, 32, 33, 34, 35, 36, 37, 38] (by decide +kernel) (by decide +kernel)
set_option maxRecDepth 20000 in
theorem gX9_sheet_X9_error : GoodIn wsX9_sheet (wsV RX9 66 RX9 yX9_error wsX9_error) := goodIn_app (goodIn_of _ (by decide +kernel)) ggX9_sheet_X9_error
set_option maxRecDepth 20000 in
theorem ggX9_sheet_X7_begin : GoodIn wsX9_sheet wsX7_begin := goodIn_r _ [16, 17, 18, 19, 20, 21, 22, 23, 24, 25, 26, 27, 28, 29, 39, 40, 41, 42] (by decide +kernel) (by decide +kernel)
set_option maxRecDepth 20000 in
theorem gX9_sheet_X7_begin : GoodIn wsX9_sheet (wsV RX9 264 RX7 yX7_begin wsX7_begin) := goodIn_app (goodIn_of _ (by decide +kernel)) ggX9_sheet_X7_begin
theorem dX9_sheet_0 : decode cX9_sheet 0 = .ok (.iload_n 1, 1) := by decide +kernel
theorem dX9_sheet_1 : decode cX9_sheet 1 = .ok (.iconst 0, 1) := by decide +kernel
theorem dX9_sheet_2 : decode cX9_sheet 2 = .ok (.iconst 3, 1) := by decide +kernel
theorem dX9_sheet_3 : decode cX9_sheet 3 = .ok (.invokestatic 62, 3) := by decide +kernel
theorem dX9_sheet_6 : decode cX9_sheet 6 = .ok (.ifCond .eq 25, 3) := by decide +kernel
theorem dX9_sheet_9 : decode cX9_sheet 9 = .ok (.iload_n 2, 1) := by decide +kernel
theorem dX9_sheet_10 : decode cX9_sheet 10 = .ok (.ifCond .eq 27, 3) := by decide +kernel
theorem dX9_sheet_13 : decode cX9_sheet 13 = .ok (.iload_n 2, 1) := by decide +kernel
theorem dX9_sheet_14 : decode cX9_sheet 14 = .ok (.bipush 8, 2) := by decide +kernel
theorem dX9_sheet_16 : decode cX9_sheet 16 = .ok (.if_icmp .eq 21, 3) := by decide +kernel
theorem dX9_sheet_19 : decode cX9_sheet 19 = .ok (.iload_n 2, 1) := by decide +kernel
theorem dX9_sheet_20 : decode cX9_sheet 20 = .ok (.bipush 16, 2) := by decide +kernel
theorem dX9_sheet_22 : decode cX9_sheet 22 = .ok (.if_icmp .eq 15, 3) := by decide +kernel
theorem dX9_sheet_25 : decode cX9_sheet 25 = .ok (.iload_n 2, 1) := by decide +kernel
theorem dX9_sheet_26 : decode cX9_sheet 26 = .ok (.bipush 32, 2) := by decide +kernel
theorem dX9_sheet_28 : decode cX9_sheet 28 = .ok (.if_icmp .eq 9, 3) := by decide +kernel
theorem dX9_sheet_31 : decode cX9_sheet 31 = .ok (.aload_n 0, 1) := by decide +kernel
theorem dX9_sheet_32 : decode cX9_sheet 32 = .ok (.iconst 1, 1) := by decide +kernel
theorem dX9_sheet_33 : decode cX9_sheet 33 = .ok (.invokevirtual 66, 3) := by decide +kernel
theorem dX9_sheet_36 : decode cX9_sheet 36 = .ok (.ireturn, 1) := by decide +kernel
theorem dX9_sheet_37 : decode cX9_sheet 37 = .ok (.iload_n 2, 1) := by decide +kernel
theorem dX9_sheet_38 : decode cX9_sheet 38 = .ok (.ifCond .eq 13, 3) := by decide +kernel
theorem dX9_sheet_41 : decode cX9_sheet 41 = .ok (.iload_n 3, 1) := by decide +kernel
theorem dX9_sheet_42 : decode cX9_sheet 42 = .ok (.ifCond .ge 9, 3) := by decide +kernel
theorem dX9_sheet_45 : decode cX9_sheet 45 = .ok (.aload_n 0, 1) := by decide +kernel
theorem dX9_sheet_46 : decode cX9_sheet 46 = .ok (.iconst 3, 1) := by decide +kernel
theorem dX9_sheet_47 : decode cX9_sheet 47 = .ok (.invokevirtual 66, 3) := by decide +kernel
theorem dX9_sheet_50 : decode cX9_sheet 50 = .ok (.ireturn, 1) := by decide +kernel
theorem dX9_sheet_51 : decode cX9_sheet 51 = .ok (.iload_n 2, 1) := by decide +kernel
theorem dX9_sheet_52 : decode cX9_sheet 52 = .ok (.ifCond .eq 15, 3) := by decide +kernel
theorem dX9_sheet_55 : decode cX9_sheet 55 = .ok (.iload_n 3, 1) := by decide +kernel
theorem dX9_sheet_56 : decode cX9_sheet 56 = .ok (.bipush 24, 2) := by decide +kernel
theorem dX9_sheet_58 : decode cX9_sheet 58 = .ok (.if_icmp .le 9, 3) := by decide +kernel
theorem dX9_sheet_61 : decode cX9_sheet 61 = .ok (.aload_n 0, 1) := by decide +kernel
theorem dX9_sheet_62 : decode cX9_sheet 62 = .ok (.iconst 1, 1) := by decide +kernel
theorem dX9_sheet_63 : decode cX9_sheet 63 = .ok (.invokevirtual 66, 3) := by decide +kernel
theorem dX9_sheet_66 : decode cX9_sheet 66 = .ok (.ireturn, 1) := by decide +kernel
theorem dX9_sheet_67 : decode cX9_sheet 67 = .ok (.aload_n 0, 1) := by decide +kernel
theorem dX9_sheet_68 : decode cX9_sheet 68 = .ok (.getfield 49, 3) := by decide +kernel
theorem dX9_sheet_71 : decode cX9_sheet 71 = .ok (.iload_n 1, 1) := by decide +kernel
theorem dX9_sheet_72 : decode cX9_sheet 72 = .ok (.aaload, 1) := by decide +kernel
theorem dX9_sheet_73 : decode cX9_sheet 73 = .ok (.iload_n 2, 1) := by decide +kernel
theorem dX9_sheet_74 : decode cX9_sheet 74 = .ok (.iload_n 2, 1) := by decide +kernel
theorem dX9_sheet_75 : decode cX9_sheet 75 = .ok (.ifCond .ne 7, 3) := by decide +kernel
theorem dX9_sheet_78 : decode cX9_sheet 78 = .ok (.iconst 0, 1) := by decide +kernel
theorem dX9_sheet_79 : decode cX9_sheet 79 = .ok (.goto 4, 3) := by decide +kernel
theorem dX9_sheet_82 : decode cX9_sheet 82 = .ok (.iload_n 3, 1) := by decide +kernel
theorem dX9_sheet_83 : decode cX9_sheet 83 = .ok (.invokevirtual 264, 3) := by decide +kernel
theorem dX9_sheet_86 : decode cX9_sheet 86 = .ok (.iconst 1, 1) := by decide +kernel
theorem dX9_sheet_87 : decode cX9_sheet 87 = .ok (.ireturn, 1) := by decide +kernel
set_option maxRecDepth 20000 in
theorem ggX9_put_X9_isIn : GoodIn wsX9_put wsX9_isIn := goodIn_r _ [5] (by decide +kernel) (by decide +kernel)
set_option maxRecDepth 20000 in
theorem gX9_put_X9_isIn : GoodIn wsX9_put (va_wsS RX9 62 yX9_isIn wsX9_isIn) := goodIn_app (goodIn_of _ (by decide +kernel)) ggX9_put_X9_isIn
set_option maxRecDepth 20000 in
theorem ggX9_put_X9_error : GoodIn wsX9_put wsX9_error := goodIn_r _ [9, 10, 11, 22, 23, 24, 25, 26, 27, 28, 29, 30] (by decide +kernel) (by decide +kernel)
set_option maxRecDepth 20000 in
theorem gX9_put_X9_error : GoodIn wsX9_put (wsV RX9 66 RX9 yX9_error wsX9_error) := goodIn_app (goodIn_of _ (by decide +kernel)) ggX9_put_X9_error
set_option maxRecDepth 20000 in
theorem ggX9_put_X7_isMissing : GoodIn wsX9_put wsX7_isMissing := goodIn_r _ [16, 17, 31, 32] (by decide +kernel) (by decide +kernel)
set_option maxRecDepth 20000 in
theorem gX9_put_X7_isMissing : GoodIn wsX9_put (wsV RX9 228 RX7 yX7_isMissing wsX7_isMissing) := goodIn_app (goodIn_of _ (by decide +kernel)) ggX9_put_X7_isMissing
set_option maxRecDepth 20000 in
theorem ggX9_put_X7_lowestBits : GoodIn wsX9_put wsX7_lowestBits := goodIn_r _ [21, 17, 31, 32] (by decide +kernel) (by decide +kernel)
set_option maxRecDepth 20000 in
theorem gX9_put_X7_lowestBits : GoodIn wsX9_put (wsV RX9 268 RX7 yX7_lowestBits wsX7_lowestBits) := goodIn_app (goodIn_of _ (by decide +kernel)) ggX9_put_X7_lowestBits
theorem dX9_put_0 : decode cX9_put 0 = .ok (.iload_n 1, 1) := by decide +kernel
theorem dX9_put_1 : decode cX9_put 1 = .ok (.iconst 0, 1) := by decide +kernel
theorem dX9_put_2 : decode cX9_put 2 = .ok (.iconst 3, 1) := by decide +kernel
theorem dX9_put_3 : decode cX9_put 3 = .ok (.invokestatic 62, 3) := by decide +kernel
theorem dX9_put_6 : decode cX9_put 6 = .ok (.ifCond .ne 9, 3) := by decide +kernel
theorem dX9_put_9 : decode cX9_put 9 = .ok (.aload_n 0, 1) := by decide +kernel
theorem dX9_put_10 : decode cX9_put 10 = .ok (.iconst 1, 1) := by decide +kernel
theorem dX9_put_11 : decode cX9_put 11 = .ok (.invokevirtual 66, 3) := by decide +kernel
theorem dX9_put_14 : decode cX9_put 14 = .ok (.ireturn, 1) := by decide +kernel
theorem dX9_put_15 : decode cX9_put 15 = .ok (.aload_n 0, 1) := by decide +kernel
theorem dX9_put_16 : decode cX9_put 16 = .ok (.getfield 49, 3) := by decide +kernel
theorem dX9_put_19 : decode cX9_put 19 = .ok (.iload_n 1, 1) := by decide +kernel
theorem dX9_put_20 : decode cX9_put 20 = .ok (.aaload, 1) := by decide +kernel
theorem dX9_put_21 : decode cX9_put 21 = .ok (.invokevirtual 228, 3) := by decide +kernel
theorem dX9_put_24 : decode cX9_put 24 = .ok (.ifCond .eq 9, 3) := by decide +kernel
theorem dX9_put_27 : decode cX9_put 27 = .ok (.aload_n 0, 1) := by decide +kernel
theorem dX9_put_28 : decode cX9_put 28 = .ok (.iconst 2, 1) := by decide +kernel
theorem dX9_put_29 : decode cX9_put 29 = .ok (.invokevirtual 66, 3) := by decide +kernel
theorem dX9_put_32 : decode cX9_put 32 = .ok (.ireturn, 1) := by decide +kernel
theorem dX9_put_33 : decode cX9_put 33 = .ok (.iload_n 2, 1) := by decide +kernel
theorem dX9_put_34 : decode cX9_put 34 = .ok (.iconst 0, 1) := by decide +kernel
theorem dX9_put_35 : decode cX9_put 35 = .ok (.aload_n 0, 1) := by decide +kernel
theorem dX9_put_36 : decode cX9_put 36 = .ok (.getfield 49, 3) := by decide +kernel
theorem dX9_put_39 : decode cX9_put 39 = .ok (.iload_n 1, 1) := by decide +kernel
theorem dX9_put_40 : decode cX9_put 40 = .ok (.aaload, 1) := by decide +kernel
theorem dX9_put_41 : decode cX9_put 41 = .ok (.getfield 232, 3) := by decide +kernel
theorem dX9_put_44 : decode cX9_put 44 = .ok (.getfield 155, 3) := by decide +kernel
theorem dX9_put_47 : decode cX9_put 47 = .ok (.iconst 1, 1) := by decide +kernel
theorem dX9_put_48 : decode cX9_put 48 = .ok (.isub, 1) := by decide +kernel
theorem dX9_put_49 : decode cX9_put 49 = .ok (.invokestatic 62, 3) := by decide +kernel
theorem dX9_put_52 : decode cX9_put 52 = .ok (.ifCond .ne 9, 3) := by decide +kernel
theorem dX9_put_55 : decode cX9_put 55 = .ok (.aload_n 0, 1) := by decide +kernel
theorem dX9_put_56 : decode cX9_put 56 = .ok (.iconst 1, 1) := by decide +kernel
theorem dX9_put_57 : decode cX9_put 57 = .ok (.invokevirtual 66, 3) := by decide +kernel
theorem dX9_put_60 : decode cX9_put 60 = .ok (.ireturn, 1) := by decide +kernel
theorem dX9_put_61 : decode cX9_put 61 = .ok (.aload_n 0, 1) := by decide +kernel
theorem dX9_put_62 : decode cX9_put 62 = .ok (.getfield 49, 3) := by decide +kernel
theorem dX9_put_65 : decode cX9_put 65 = .ok (.iload_n 1, 1) := by decide +kernel
theorem dX9_put_66 : decode cX9_put 66 = .ok (.aaload, 1) := by decide +kernel
theorem dX9_put_67 : decode cX9_put 67 = .ok (.getfield 232, 3) := by decide +kernel
theorem dX9_put_70 : decode cX9_put 70 = .ok (.getfield 235, 3) := by decide +kernel
theorem dX9_put_73 : decode cX9_put 73 = .ok (.iload_n 2, 1) := by decide +kernel
theorem dX9_put_74 : decode cX9_put 74 = .ok (.aload_n 0, 1) := by decide +kernel
theorem dX9_put_75 : decode cX9_put 75 = .ok (.getfield 49, 3) := by decide +kernel
theorem dX9_put_78 : decode cX9_put 78 = .ok (.iload_n 1, 1) := by decide +kernel
theorem dX9_put_79 : decode cX9_put 79 = .ok (.aaload, 1) := by decide +kernel
theorem dX9_put_80 : decode cX9_put 80 = .ok (.iload_n 3, 1) := by decide +kernel
theorem dX9_put_81 : decode cX9_put 81 = .ok (.invokevirtual 268, 3) := by decide +kernel
theorem dX9_put_84 : decode cX9_put 84 = .ok (.iastore, 1) := by decide +kernel
theorem dX9_put_85 : decode cX9_put 85 = .ok (.iconst 1, 1) := by decide +kernel
theorem dX9_put_86 : decode cX9_put 86 = .ok (.ireturn, 1) := by decide +kernel
set_option maxRecDepth 20000 in
theorem ggX9_move_X9_isIn : GoodIn wsX9_move wsX9_isIn := goodIn_r _ [9] (by decide +kernel) (by decide +kernel)
set_option maxRecDepth 20000 in
theorem gX9_move_X9_isIn : GoodIn wsX9_move (va_wsS RX9 62 yX9_isIn wsX9_isIn) := goodIn_app (goodIn_of _ (by decide +kernel)) ggX9_move_X9_isIn
set_option maxRecDepth 20000 in
theorem ggX9_move_X9_error : GoodIn wsX9_move wsX9_error := goodIn_r _ [13, 14, 15, 28, 29, 30, 31, 32, 33, 34, 35, 36] (by decide +kernel) (by decide +kernel)
set_option maxRecDepth 20000 in
theorem gX9_move_X9_error : GoodIn wsX9_move (wsV RX9 66 RX9 yX9_error wsX9_error) := goodIn_app (goodIn_of _ (by decide +kernel)) ggX9_move_X9_error
set_option maxRecDepth 20000 in
theorem ggX9_move_X7_isMissing : GoodIn wsX9_move wsX7_isMissing := goodIn_r _ [20, 21, 37, 38] (by decide +kernel) (by decide +kernel)
set_option maxRecDepth 20000 in
theorem gX9_move_X7_isMissing : GoodIn wsX9_move (wsV RX9 228 RX7 yX7_isMissing wsX7_isMissing) := goodIn_app (goodIn_of _ (by decide +kernel)) ggX9_move_X7_isMissing
set_option maxRecDepth 20000 in
theorem ggX9_move_X6_stands : GoodIn wsX9_move wsX6_stands := goodIn_r _ [26, 27, 39, 40] (by decide +kernel) (by decide +kernel)
set_option maxRecDepth 20000 in
theorem gX9_move_X6_stands : GoodIn wsX9_move (wsV RX9 274 RX6 yX6_stands wsX6_stands) := goodIn_app (goodIn_of _ (by decide +kernel)) ggX9_move_X6_stands
theorem dX9_move_0 : decode cX9_move 0 = .ok (.iload_n 1, 1) := by decide +kernel
theorem dX9_move_1 : decode cX9_move 1 = .ok (.iconst 0, 1) := by decide +kernel
theorem dX9_move_2 : decode cX9_move 2 = .ok (.iconst 3, 1) := by decide +kernel
theorem dX9_move_3 : decode cX9_move 3 = .ok (.invokestatic 62, 3) := by decide +kernel
theorem dX9_move_6 : decode cX9_move 6 = .ok (.ifCond .eq 12, 3) := by decide +kernel
theorem dX9_move_9 : decode cX9_move 9 = .ok (.iload_n 3, 1) := by decide +kernel
theorem dX9_move_10 : decode cX9_move 10 = .ok (.iconst 0, 1) := by decide +kernel
theorem dX9_move_11 : decode cX9_move 11 = .ok (.iconst 3, 1) := by decide +kernel
theorem dX9_move_12 : decode cX9_move 12 = .ok (.invokestatic 62, 3) := by decide +kernel
theorem dX9_move_15 : decode cX9_move 15 = .ok (.ifCond .ne 9, 3) := by decide +kernel
theorem dX9_move_18 : decode cX9_move 18 = .ok (.aload_n 0, 1) := by decide +kernel
theorem dX9_move_19 : decode cX9_move 19 = .ok (.iconst 1, 1) := by decide +kernel
theorem dX9_move_20 : decode cX9_move 20 = .ok (.invokevirtual 66, 3) := by decide +kernel
theorem dX9_move_23 : decode cX9_move 23 = .ok (.ireturn, 1) := by decide +kernel
theorem dX9_move_24 : decode cX9_move 24 = .ok (.aload_n 0, 1) := by decide +kernel
theorem dX9_move_25 : decode cX9_move 25 = .ok (.getfield 49, 3) := by decide +kernel
theorem dX9_move_28 : decode cX9_move 28 = .ok (.iload_n 1, 1) := by decide +kernel
theorem dX9_move_29 : decode cX9_move 29 = .ok (.aaload, 1) := by decide +kernel
theorem dX9_move_30 : decode cX9_move 30 = .ok (.astore 6, 2) := by decide +kernel
theorem dX9_move_32 : decode cX9_move 32 = .ok (.aload_n 0, 1) := by decide +kernel
theorem dX9_move_33 : decode cX9_move 33 = .ok (.getfield 49, 3) := by decide +kernel
theorem dX9_move_36 : decode cX9_move 36 = .ok (.iload_n 3, 1) := by decide +kernel
theorem dX9_move_37 : decode cX9_move 37 = .ok (.aaload, 1) := by decide +kernel
theorem dX9_move_38 : decode cX9_move 38 = .ok (.astore 7, 2) := by decide +kernel
theorem dX9_move_40 : decode cX9_move 40 = .ok (.aload 6, 2) := by decide +kernel
theorem dX9_move_42 : decode cX9_move 42 = .ok (.invokevirtual 228, 3) := by decide +kernel
theorem dX9_move_45 : decode cX9_move 45 = .ok (.ifCond .ne 11, 3) := by decide +kernel
theorem dX9_move_48 : decode cX9_move 48 = .ok (.aload 7, 2) := by decide +kernel
theorem dX9_move_50 : decode cX9_move 50 = .ok (.invokevirtual 228, 3) := by decide +kernel
theorem dX9_move_53 : decode cX9_move 53 = .ok (.ifCond .eq 9, 3) := by decide +kernel
theorem dX9_move_56 : decode cX9_move 56 = .ok (.aload_n 0, 1) := by decide +kernel
theorem dX9_move_57 : decode cX9_move 57 = .ok (.iconst 2, 1) := by decide +kernel
theorem dX9_move_58 : decode cX9_move 58 = .ok (.invokevirtual 66, 3) := by decide +kernel
theorem dX9_move_61 : decode cX9_move 61 = .ok (.ireturn, 1) := by decide +kernel
theorem dX9_move_62 : decode cX9_move 62 = .ok (.aload 6, 2) := by decide +kernel
theorem dX9_move_64 : decode cX9_move 64 = .ok (.getfield 271, 3) := by decide +kernel
theorem dX9_move_67 : decode cX9_move 67 = .ok (.aload 7, 2) := by decide +kernel
theorem dX9_move_69 : decode cX9_move 69 = .ok (.getfield 271, 3) := by decide +kernel
theorem dX9_move_72 : decode cX9_move 72 = .ok (.if_icmp .eq 9, 3) := by decide +kernel
theorem dX9_move_75 : decode cX9_move 75 = .ok (.aload_n 0, 1) := by decide +kernel
theorem dX9_move_76 : decode cX9_move 76 = .ok (.iconst 5, 1) := by decide +kernel
theorem dX9_move_77 : decode cX9_move 77 = .ok (.invokevirtual 66, 3) := by decide +kernel
theorem dX9_move_80 : decode cX9_move 80 = .ok (.ireturn, 1) := by decide +kernel
theorem dX9_move_81 : decode cX9_move 81 = .ok (.aload 6, 2) := by decide +kernel
theorem dX9_move_83 : decode cX9_move 83 = .ok (.getfield 232, 3) := by decide +kernel
theorem dX9_move_86 : decode cX9_move 86 = .ok (.iload_n 2, 1) := by decide +kernel
theorem dX9_move_87 : decode cX9_move 87 = .ok (.iload 5, 2) := by decide +kernel
theorem dX9_move_89 : decode cX9_move 89 = .ok (.invokevirtual 274, 3) := by decide +kernel
theorem dX9_move_92 : decode cX9_move 92 = .ok (.ifCond .eq 18, 3) := by decide +kernel
theorem dX9_move_95 : decode cX9_move 95 = .ok (.aload 7, 2) := by decide +kernel
theorem dX9_move_97 : decode cX9_move 97 = .ok (.getfield 232, 3) := by decide +kernel
theorem dX9_move_100 : decode cX9_move 100 = .ok (.iload 4, 2) := by decide +kernel
theorem dX9_move_102 : decode cX9_move 102 = .ok (.iload 5, 2) := by decide +kernel
theorem dX9_move_104 : decode cX9_move 104 = .ok (.invokevirtual 274, 3) := by decide +kernel
theorem dX9_move_107 : decode cX9_move 107 = .ok (.ifCond .ne 9, 3) := by decide +kernel
theorem dX9_move_110 : decode cX9_move 110 = .ok (.aload_n 0, 1) := by decide +kernel
theorem dX9_move_111 : decode cX9_move 111 = .ok (.iconst 1, 1) := by decide +kernel
theorem dX9_move_112 : decode cX9_move 112 = .ok (.invokevirtual 66, 3) := by decide +kernel
theorem dX9_move_115 : decode cX9_move 115 = .ok (.ireturn, 1) := by decide +kernel
theorem dX9_move_116 : decode cX9_move 116 = .ok (.aload 6, 2) := by decide +kernel
theorem dX9_move_118 : decode cX9_move 118 = .ok (.getfield 232, 3) := by decide +kernel
theorem dX9_move_121 : decode cX9_move 121 = .ok (.getfield 235, 3) := by decide +kernel
theorem dX9_move_124 : decode cX9_move 124 = .ok (.iload_n 2, 1) := by decide +kernel
theorem dX9_move_125 : decode cX9_move 125 = .ok (.aload 7, 2) := by decide +kernel
theorem dX9_move_127 : decode cX9_move 127 = .ok (.getfield 232, 3) := by decide +kernel
theorem dX9_move_130 : decode cX9_move 130 = .ok (.getfield 235, 3) := by decide +kernel
theorem dX9_move_133 : decode cX9_move 133 = .ok (.iload 4, 2) := by decide +kernel
theorem dX9_move_135 : decode cX9_move 135 = .ok (.iload 5, 2) := by decide +kernel
theorem dX9_move_137 : decode cX9_move 137 = .ok (.invokestatic 277, 3) := by decide +kernel
theorem dX9_move_140 : decode cX9_move 140 = .ok (.iload 5, 2) := by decide +kernel
theorem dX9_move_142 : decode cX9_move 142 = .ok (.ireturn, 1) := by decide +kernel
set_option maxRecDepth 20000 in
theorem ggX9_dates_X9_isIn : GoodIn wsX9_dates wsX9_isIn := goodIn_r _ [6] (by decide +kernel) (by decide +kernel)
set_option maxRecDepth 20000 in
theorem gX9_dates_X9_isIn : GoodIn wsX9_dates (va_wsS RX9 62 yX9_isIn wsX9_isIn) := goodIn_app (goodIn_of _ (by decide +kernel)) ggX9_dates_X9_isIn
set_option maxRecDepth 20000 in
theorem ggX9_dates_X9_error : GoodIn wsX9_dates wsX9_error := goodIn_r _ [10, 11, 12, 25, 26, 27, 28, 29, 30, 31, 32, 33] (by decide +kernel) (by decide +kernel)
set_option maxRecDepth 20000 in
theorem gX9_dates_X9_error : GoodIn wsX9_dates (wsV RX9 66 RX9 yX9_error wsX9_error) := goodIn_app (goodIn_of _ (by decide +kernel)) ggX9_dates_X9_error
set_option maxRecDepth 20000 in
theorem ggX9_dates_X7_isMissing : GoodIn wsX9_dates wsX7_isMissing := goodIn_r _ [17, 18, 34, 35] (by decide +kernel) (by decide +kernel)
set_option maxRecDepth 20000 in
theorem gX9_dates_X7_isMissing : GoodIn wsX9_dates (wsV RX9 228 RX7 yX7_isMissing wsX7_isMissing) := goodIn_app (goodIn_of _ (by decide +kernel)) ggX9_dates_X7_isMissing
set_option maxRecDepth 20000 in
theorem ggX9_dates_X0_hasLine : GoodIn wsX9_dates wsX0_hasLine := goodIn_r _ [23, 24, 38, 39, 40, 41, 42, 43, 44, 45, 46, 47] (by decide +kernel) (by decide +kernel)
set_option maxRecDepth 20000 in
theorem gX9_dates_X0_hasLine : GoodIn wsX9_dates (wsV RX9 89 RX0 yX0_hasLine wsX0_hasLine) := goodIn_app (goodIn_of _ (by decide +kernel)) ggX9_dates_X0_hasLine
theorem dX9_dates_0 : decode cX9_dates 0 = .ok (.iload_n 1, 1) := by decide +kernel
theorem dX9_dates_1 : decode cX9_dates 1 = .ok (.iconst 0, 1) := by decide +kernel
theorem dX9_dates_2 : decode cX9_dates 2 = .ok (.iconst 3, 1) := by decide +kernel
theorem dX9_dates_3 : decode cX9_dates 3 = .ok (.invokestatic 62, 3) := by decide +kernel
theorem dX9_dates_6 : decode cX9_dates 6 = .ok (.ifCond .ne 9, 3) := by decide +kernel
theorem dX9_dates_9 : decode cX9_dates 9 = .ok (.aload_n 0, 1) := by decide +kernel
theorem dX9_dates_10 : decode cX9_dates 10 = .ok (.iconst 1, 1) := by decide +kernel
theorem dX9_dates_11 : decode cX9_dates 11 = .ok (.invokevirtual 66, 3) := by decide +kernel
theorem dX9_dates_14 : decode cX9_dates 14 = .ok (.ireturn, 1) := by decide +kernel
theorem dX9_dates_15 : decode cX9_dates 15 = .ok (.aload_n 0, 1) := by decide +kernel
theorem dX9_dates_16 : decode cX9_dates 16 = .ok (.getfield 49, 3) := by decide +kernel
theorem dX9_dates_19 : decode cX9_dates 19 = .ok (.iload_n 1, 1) := by decide +kernel
theorem dX9_dates_20 : decode cX9_dates 20 = .ok (.aaload, 1) := by decide +kernel
theorem dX9_dates_21 : decode cX9_dates 21 = .ok (.invokevirtual 228, 3) := by decide +kernel
theorem dX9_dates_24 : decode cX9_dates 24 = .ok (.ifCond .eq 9, 3) := by decide +kernel
theorem dX9_dates_27 : decode cX9_dates 27 = .ok (.aload_n 0, 1) := by decide +kernel
theorem dX9_dates_28 : decode cX9_dates 28 = .ok (.iconst 2, 1) := by decide +kernel
theorem dX9_dates_29 : decode cX9_dates 29 = .ok (.invokevirtual 66, 3) := by decide +kernel
theorem dX9_dates_32 : decode cX9_dates 32 = .ok (.ireturn, 1) := by decide +kernel
theorem dX9_dates_33 : decode cX9_dates 33 = .ok (.aload_n 0, 1) := by decide +kernel
theorem dX9_dates_34 : decode cX9_dates 34 = .ok (.getfield 49, 3) := by decide +kernel
theorem dX9_dates_37 : decode cX9_dates 37 = .ok (.iload_n 1, 1) := by decide +kernel
theorem dX9_dates_38 : decode cX9_dates 38 = .ok (.aaload, 1) := by decide +kernel
theorem dX9_dates_39 : decode cX9_dates 39 = .ok (.getfield 232, 3) := by decide +kernel
theorem dX9_dates_42 : decode cX9_dates 42 = .ok (.astore_n 2, 1) := by decide +kernel
theorem dX9_dates_43 : decode cX9_dates 43 = .ok (.iconst 0, 1) := by decide +kernel
theorem dX9_dates_44 : decode cX9_dates 44 = .ok (.istore_n 3, 1) := by decide +kernel
theorem dX9_dates_45 : decode cX9_dates 45 = .ok (.iload_n 3, 1) := by decide +kernel
theorem dX9_dates_46 : decode cX9_dates 46 = .ok (.aload_n 2, 1) := by decide +kernel
theorem dX9_dates_47 : decode cX9_dates 47 = .ok (.getfield 155, 3) := by decide +kernel
theorem dX9_dates_50 : decode cX9_dates 50 = .ok (.if_icmp .ge 60, 3) := by decide +kernel
theorem dX9_dates_53 : decode cX9_dates 53 = .ok (.aload_n 0, 1) := by decide +kernel
theorem dX9_dates_54 : decode cX9_dates 54 = .ok (.getfield 10, 3) := by decide +kernel
theorem dX9_dates_57 : decode cX9_dates 57 = .ok (.iload_n 3, 1) := by decide +kernel
theorem dX9_dates_58 : decode cX9_dates 58 = .ok (.invokevirtual 89, 3) := by decide +kernel
theorem dX9_dates_61 : decode cX9_dates 61 = .ok (.ifCond .eq 23, 3) := by decide +kernel
theorem dX9_dates_64 : decode cX9_dates 64 = .ok (.aload_n 2, 1) := by decide +kernel
theorem dX9_dates_65 : decode cX9_dates 65 = .ok (.getfield 235, 3) := by decide +kernel
theorem dX9_dates_68 : decode cX9_dates 68 = .ok (.iload_n 3, 1) := by decide +kernel
theorem dX9_dates_69 : decode cX9_dates 69 = .ok (.iaload, 1) := by decide +kernel
theorem dX9_dates_70 : decode cX9_dates 70 = .ok (.iconst 0, 1) := by decide +kernel
theorem dX9_dates_71 : decode cX9_dates 71 = .ok (.aload_n 0, 1) := by decide +kernel
theorem dX9_dates_72 : decode cX9_dates 72 = .ok (.getfield 10, 3) := by decide +kernel
theorem dX9_dates_75 : decode cX9_dates 75 = .ok (.getfield 120, 3) := by decide +kernel
theorem dX9_dates_78 : decode cX9_dates 78 = .ok (.invokestatic 62, 3) := by decide +kernel
theorem dX9_dates_81 : decode cX9_dates 81 = .ok (.ifCond .ne 5, 3) := by decide +kernel
theorem dX9_dates_84 : decode cX9_dates 84 = .ok (.iload_n 3, 1) := by decide +kernel
theorem dX9_dates_85 : decode cX9_dates 85 = .ok (.ireturn, 1) := by decide +kernel
theorem dX9_dates_86 : decode cX9_dates 86 = .ok (.aload_n 0, 1) := by decide +kernel
theorem dX9_dates_87 : decode cX9_dates 87 = .ok (.getfield 10, 3) := by decide +kernel
theorem dX9_dates_90 : decode cX9_dates 90 = .ok (.getfield 92, 3) := by decide +kernel
theorem dX9_dates_93 : decode cX9_dates 93 = .ok (.iload_n 3, 1) := by decide +kernel
theorem dX9_dates_94 : decode cX9_dates 94 = .ok (.aaload, 1) := by decide +kernel
theorem dX9_dates_95 : decode cX9_dates 95 = .ok (.aload_n 2, 1) := by decide +kernel
theorem dX9_dates_96 : decode cX9_dates 96 = .ok (.getfield 235, 3) := by decide +kernel
theorem dX9_dates_99 : decode cX9_dates 99 = .ok (.iload_n 3, 1) := by decide +kernel
theorem dX9_dates_100 : decode cX9_dates 100 = .ok (.iaload, 1) := by decide +kernel
theorem dX9_dates_101 : decode cX9_dates 101 = .ok (.putfield 110, 3) := by decide +kernel
theorem dX9_dates_104 : decode cX9_dates 104 = .ok (.iinc 3 1, 3) := by decide +kernel
theorem dX9_dates_107 : decode cX9_dates 107 = .ok (.goto (-62), 3) := by decide +kernel
theorem dX9_dates_110 : decode cX9_dates 110 = .ok (.aload_n 2, 1) := by decide +kernel
theorem dX9_dates_111 : decode cX9_dates 111 = .ok (.getfield 155, 3) := by decide +kernel
theorem dX9_dates_114 : decode cX9_dates 114 = .ok (.ireturn, 1) := by decide +kernel
set_option maxRecDepth 20000 in
theorem ggX9_judge_X9_isIn : GoodIn wsX9_judge wsX9_isIn := goodIn_r _ [6] (by decide +kernel) (by decide +kernel)
set_option maxRecDepth 20000 in
theorem gX9_judge_X9_isIn : GoodIn wsX9_judge (va_wsS RX9 62 yX9_isIn wsX9_isIn) := goodIn_app (goodIn_of _ (by decide +kernel)) ggX9_judge_X9_isIn
set_option maxRecDepth 20000 in
theorem ggX9_judge_X9_error : GoodIn wsX9_judge wsX9_error := goodIn_r _ [10, 11, 12, 44, 45, 46, 47, 48, 49, 50, 51, 52] (by decide +kernel) (by decide +kernel)
set_option maxRecDepth 20000 in
theorem gX9_judge_X9_error : GoodIn wsX9_judge (wsV RX9 66 RX9 yX9_error wsX9_error) := goodIn_app (goodIn_of _ (by decide +kernel)) ggX9_judge_X9_error
set_option maxRecDepth 20000 in
theorem ggX9_judge_X7_isMissing : GoodIn wsX9_judge wsX7_isMissing := goodIn_r _ [17, 18, 53, 54] (by decide +kernel) (by decide +kernel)
set_option maxRecDepth 20000 in
theorem gX9_judge_X7_isMissing : GoodIn wsX9_judge (wsV RX9 228 RX7 yX7_isMissing wsX7_isMissing) := goodIn_app (goodIn_of _ (by decide +kernel)) ggX9_judge_X7_isMissing
set_option maxRecDepth 20000 in
theorem ggX9_judge_X0_hasLine : GoodIn wsX9_judge wsX0_hasLine := goodIn_r _ [23, 24, 57, 58, 59, 60, 61, 62, 63, 64, 65, 66] (by decide +kernel) (by decide +kernel)
set_option maxRecDepth 20000 in
theorem gX9_judge_X0_hasLine : GoodIn wsX9_judge (wsV RX9 89 RX0 yX0_hasLine wsX0_hasLine) := goodIn_app (goodIn_of _ (by decide +kernel)) ggX9_judge_X0_hasLine
set_option maxRecDepth 20000 in
theorem ggX9_judge_X2_back : GoodIn wsX9_judge wsX2_back := goodIn_r _ [29, 30, 31, 32, 33, 34, 35, 36, 37, 38, 5, 39, 40, 41, 42, 43, 67, 68, 69, 70, 71, 72, 73] (by decide +kernel) (by decide +kernel)
set_option maxRecDepth 20000 in
theorem gX9_judge_X2_back : GoodIn wsX9_judge (wsV RX9 127 RX2 yX2_back wsX2_back) := goodIn_app (goodIn_of _ (by decide +kernel)) ggX9_judge_X2_back
theorem dX9_judge_0 : decode cX9_judge 0 = .ok (.iload_n 1, 1) := by decide +kernel
theorem dX9_judge_1 : decode cX9_judge 1 = .ok (.iconst 0, 1) := by decide +kernel
theorem dX9_judge_2 : decode cX9_judge 2 = .ok (.iconst 3, 1) := by decide +kernel
theorem dX9_judge_3 : decode cX9_judge 3 = .ok (.invokestatic 62, 3) := by decide +kernel
theorem dX9_judge_6 : decode cX9_judge 6 = .ok (.ifCond .ne 9, 3) := by decide +kernel
theorem dX9_judge_9 : decode cX9_judge 9 = .ok (.aload_n 0, 1) := by decide +kernel
theorem dX9_judge_10 : decode cX9_judge 10 = .ok (.iconst 1, 1) := by decide +kernel
theorem dX9_judge_11 : decode cX9_judge 11 = .ok (.invokevirtual 66, 3) := by decide +kernel
theorem dX9_judge_14 : decode cX9_judge 14 = .ok (.ireturn, 1) := by decide +kernel
theorem dX9_judge_15 : decode cX9_judge 15 = .ok (.aload_n 0, 1) := by decide +kernel
theorem dX9_judge_16 : decode cX9_judge 16 = .ok (.getfield 49, 3) := by decide +kernel
theorem dX9_judge_19 : decode cX9_judge 19 = .ok (.iload_n 1, 1) := by decide +kernel
theorem dX9_judge_20 : decode cX9_judge 20 = .ok (.aaload, 1) := by decide +kernel
theorem dX9_judge_21 : decode cX9_judge 21 = .ok (.invokevirtual 228, 3) := by decide +kernel
theorem dX9_judge_24 : decode cX9_judge 24 = .ok (.ifCond .eq 9, 3) := by decide +kernel
theorem dX9_judge_27 : decode cX9_judge 27 = .ok (.aload_n 0, 1) := by decide +kernel
theorem dX9_judge_28 : decode cX9_judge 28 = .ok (.iconst 2, 1) := by decide +kernel
theorem dX9_judge_29 : decode cX9_judge 29 = .ok (.invokevirtual 66, 3) := by decide +kernel
theorem dX9_judge_32 : decode cX9_judge 32 = .ok (.ireturn, 1) := by decide +kernel
theorem dX9_judge_33 : decode cX9_judge 33 = .ok (.aload_n 0, 1) := by decide +kernel
theorem dX9_judge_34 : decode cX9_judge 34 = .ok (.getfield 49, 3) := by decide +kernel
theorem dX9_judge_37 : decode cX9_judge 37 = .ok (.iload_n 1, 1) := by decide +kernel
theorem dX9_judge_38 : decode cX9_judge 38 = .ok (.aaload, 1) := by decide +kernel
theorem dX9_judge_39 : decode cX9_judge 39 = .ok (.getfield 232, 3) := by decide +kernel
theorem dX9_judge_42 : decode cX9_judge 42 = .ok (.astore_n 2, 1) := by decide +kernel
theorem dX9_judge_43 : decode cX9_judge 43 = .ok (.iconst 0, 1) := by decide +kernel
theorem dX9_judge_44 : decode cX9_judge 44 = .ok (.istore_n 3, 1) := by decide +kernel
theorem dX9_judge_45 : decode cX9_judge 45 = .ok (.iload_n 3, 1) := by decide +kernel
theorem dX9_judge_46 : decode cX9_judge 46 = .ok (.aload_n 2, 1) := by decide +kernel
theorem dX9_judge_47 : decode cX9_judge 47 = .ok (.getfield 155, 3) := by decide +kernel
theorem dX9_judge_50 : decode cX9_judge 50 = .ok (.if_icmp .ge 50, 3) := by decide +kernel
theorem dX9_judge_53 : decode cX9_judge 53 = .ok (.aload_n 0, 1) := by decide +kernel
theorem dX9_judge_54 : decode cX9_judge 54 = .ok (.getfield 10, 3) := by decide +kernel
theorem dX9_judge_57 : decode cX9_judge 57 = .ok (.iload_n 3, 1) := by decide +kernel
theorem dX9_judge_58 : decode cX9_judge 58 = .ok (.invokevirtual 89, 3) := by decide +kernel
theorem dX9_judge_61 : decode cX9_judge 61 = .ok (.ifCond .eq 31, 3) := by decide +kernel
theorem dX9_judge_64 : decode cX9_judge 64 = .ok (.aload_n 2, 1) := by decide +kernel
theorem dX9_judge_65 : decode cX9_judge 65 = .ok (.getfield 235, 3) := by decide +kernel
theorem dX9_judge_68 : decode cX9_judge 68 = .ok (.iload_n 3, 1) := by decide +kernel
theorem dX9_judge_69 : decode cX9_judge 69 = .ok (.iaload, 1) := by decide +kernel
theorem dX9_judge_70 : decode cX9_judge 70 = .ok (.aload_n 0, 1) := by decide +kernel
theorem dX9_judge_71 : decode cX9_judge 71 = .ok (.getfield 10, 3) := by decide +kernel
theorem dX9_judge_74 : decode cX9_judge 74 = .ok (.getfield 92, 3) := by decide +kernel
theorem dX9_judge_77 : decode cX9_judge 77 = .ok (.iload_n 3, 1) := by decide +kernel
theorem dX9_judge_78 : decode cX9_judge 78 = .ok (.aaload, 1) := by decide +kernel
theorem dX9_judge_79 : decode cX9_judge 79 = .ok (.aload_n 0, 1) := by decide +kernel
theorem dX9_judge_80 : decode cX9_judge 80 = .ok (.getfield 10, 3) := by decide +kernel
theorem dX9_judge_83 : decode cX9_judge 83 = .ok (.getfield 120, 3) := by decide +kernel
theorem dX9_judge_86 : decode cX9_judge 86 = .ok (.invokevirtual 127, 3) := by decide +kernel
theorem dX9_judge_89 : decode cX9_judge 89 = .ok (.if_icmp .eq 5, 3) := by decide +kernel
theorem dX9_judge_92 : decode cX9_judge 92 = .ok (.iload_n 3, 1) := by decide +kernel
theorem dX9_judge_93 : decode cX9_judge 93 = .ok (.ireturn, 1) := by decide +kernel
theorem dX9_judge_94 : decode cX9_judge 94 = .ok (.iinc 3 1, 3) := by decide +kernel
theorem dX9_judge_97 : decode cX9_judge 97 = .ok (.goto (-52), 3) := by decide +kernel
theorem dX9_judge_100 : decode cX9_judge 100 = .ok (.aload_n 2, 1) := by decide +kernel
theorem dX9_judge_101 : decode cX9_judge 101 = .ok (.getfield 155, 3) := by decide +kernel
theorem dX9_judge_104 : decode cX9_judge 104 = .ok (.ireturn, 1) := by decide +kernel
set_option maxRecDepth 20000 in
theorem ggX9_image_X0_copyFrom : GoodIn wsX9_image wsX0_copyFrom := goodIn_r _ [8, 9, 10, 11, 12, 13, 14, 15, 16, 17, 18, 19, 20, 21, 22, 23, 24, 25, 26, 27, 28, 29, 30, 31, 32, 33, 34, 35, 36, 37, 38, 39, 40, 41, 42, 43, 44, 45, 46, 47, 48, 49, 50, 51, 52, 53, 54, 55, 56, 57, 58, 59, 60, 61, 71, 72, 73, 74, 75, 76, 77, 78, 79, 80, 81, 82, 83, 84, 85, 86, 87, 88, 89, 90, 91, 92] (by decide +kernel) (by decide +kernel)
set_option maxRecDepth 20000 in
theorem gX9_image_X0_copyFrom : GoodIn wsX9_image (wsV RX9 283 RX0 yX0_copyFrom wsX0_copyFrom) := goodIn_app (goodIn_of _ (by decide +kernel)) ggX9_image_X0_copyFrom
theorem dX9_image_0 : decode cX9_image 0 = .ok (.aload_n 0, 1) := by decide +kernel
theorem dX9_image_1 : decode cX9_image 1 = .ok (.getfield 16, 3) := by decide +kernel
theorem dX9_image_4 : decode cX9_image 4 = .ok (.aload_n 0, 1) := by decide +kernel
theorem dX9_image_5 : decode cX9_image 5 = .ok (.getfield 10, 3) := by decide +kernel
theorem dX9_image_8 : decode cX9_image 8 = .ok (.invokevirtual 283, 3) := by decide +kernel
theorem dX9_image_11 : decode cX9_image 11 = .ok (.aload_n 0, 1) := by decide +kernel
theorem dX9_image_12 : decode cX9_image 12 = .ok (.dup, 1) := by decide +kernel
theorem dX9_image_13 : decode cX9_image 13 = .ok (.getfield 287, 3) := by decide +kernel
theorem dX9_image_16 : decode cX9_image 16 = .ok (.iconst 1, 1) := by decide +kernel
theorem dX9_image_17 : decode cX9_image 17 = .ok (.iadd, 1) := by decide +kernel
theorem dX9_image_18 : decode cX9_image 18 = .ok (.putfield 287, 3) := by decide +kernel
theorem dX9_image_21 : decode cX9_image 21 = .ok (.aload_n 0, 1) := by decide +kernel
theorem dX9_image_22 : decode cX9_image 22 = .ok (.getfield 287, 3) := by decide +kernel
theorem dX9_image_25 : decode cX9_image 25 = .ok (.ireturn, 1) := by decide +kernel
set_option maxRecDepth 20000 in
theorem ggX9_restore_X9_error : GoodIn wsX9_restore wsX9_error := goodIn_r _ [8, 9, 10, 69, 70, 71, 72, 73, 74, 75, 76, 77] (by decide +kernel) (by decide +kernel)
set_option maxRecDepth 20000 in
theorem gX9_restore_X9_error : GoodIn wsX9_restore (wsV RX9 66 RX9 yX9_error wsX9_error) := goodIn_app (goodIn_of _ (by decide +kernel)) ggX9_restore_X9_error
set_option maxRecDepth 20000 in
theorem ggX9_restore_X0_copyFrom : GoodIn wsX9_restore wsX0_copyFrom := goodIn_r _ [15, 16, 17, 18, 19, 20, 21, 22, 23, 24, 25, 26, 27, 28, 29, 30, 31, 32, 33, 34, 35, 36, 37, 38, 39, 40, 41, 42, 43, 44, 45, 46, 47, 48, 49, 50, 51, 52, 53, 54, 55, 56, 57, 58, 59, 60, 61, 62, 63, 64, 65, 66, 67, 68, 78, 79, 80, 81, 82, 83, 84, 85, 86, 87, 88, 89, 90, 91, 92, 93, 94, 95, 96, 97, 98, 99] (by decide +kernel) (by decide +kernel)
set_option maxRecDepth 20000 in
theorem gX9_restore_X0_copyFrom : GoodIn wsX9_restore (wsV RX9 283 RX0 yX0_copyFrom wsX0_copyFrom) := goodIn_app (goodIn_of _ (by decide +kernel)) ggX9_restore_X0_copyFrom
theorem dX9_restore_0 : decode cX9_restore 0 = .ok (.aload_n 0, 1) := by decide +kernel
theorem dX9_restore_1 : decode cX9_restore 1 = .ok (.getfield 287, 3) := by decide +kernel
theorem dX9_restore_4 : decode cX9_restore 4 = .ok (.ifCond .ne 9, 3) := by decide +kernel
theorem dX9_restore_7 : decode cX9_restore 7 = .ok (.aload_n 0, 1) := by decide +kernel
theorem dX9_restore_8 : decode cX9_restore 8 = .ok (.iconst 2, 1) := by decide +kernel
theorem dX9_restore_9 : decode cX9_restore 9 = .ok (.invokevirtual 66, 3) := by decide +kernel
theorem dX9_restore_12 : decode cX9_restore 12 = .ok (.ireturn, 1) := by decide +kernel
theorem dX9_restore_13 : decode cX9_restore 13 = .ok (.aload_n 0, 1) := by decide +kernel
theorem dX9_restore_14 : decode cX9_restore 14 = .ok (.getfield 10, 3) := by decide +kernel
theorem dX9_restore_17 : decode cX9_restore 17 = .ok (.aload_n 0, 1) := by decide +kernel
theorem dX9_restore_18 : decode cX9_restore 18 = .ok (.getfield 16, 3) := by decide +kernel
theorem dX9_restore_21 : decode cX9_restore 21 = .ok (.invokevirtual 283, 3) := by decide +kernel
theorem dX9_restore_24 : decode cX9_restore 24 = .ok (.aload_n 0, 1) := by decide +kernel
theorem dX9_restore_25 : decode cX9_restore 25 = .ok (.getfield 10, 3) := by decide +kernel
theorem dX9_restore_28 : decode cX9_restore 28 = .ok (.getfield 120, 3) := by decide +kernel
theorem dX9_restore_31 : decode cX9_restore 31 = .ok (.ireturn, 1) := by decide +kernel
set_option maxRecDepth 20000 in
theorem ggX9_tell_X6_hasRoomFor : GoodIn wsX9_tell wsX6_hasRoomFor := goodIn_r _ [6, 7, 8, 39, 40] (by decide +kernel) (by decide +kernel)
set_option maxRecDepth 20000 in
theorem gX9_tell_X6_hasRoomFor : GoodIn wsX9_tell (wsV RX9 146 RX6 yX6_hasRoomFor wsX6_hasRoomFor) := goodIn_app (goodIn_of _ (by decide +kernel)) ggX9_tell_X6_hasRoomFor
set_option maxRecDepth 20000 in
theorem ggX9_tell_X9_error : GoodIn wsX9_tell wsX9_error := goodIn_r _ [13, 14, 15, 20, 21, 22, 23, 24, 25, 26, 27, 28] (by decide +kernel) (by decide +kernel)
set_option maxRecDepth 20000 in
theorem gX9_tell_X9_error : GoodIn wsX9_tell (wsV RX9 66 RX9 yX9_error wsX9_error) := goodIn_app (goodIn_of _ (by decide +kernel)) ggX9_tell_X9_error
set_option maxRecDepth 20000 in
theorem ggX9_tell_X6_add : GoodIn wsX9_tell wsX6_add := goodIn_r _ [19, 8, 7, 39, 40] (by decide +kernel) (by decide +kernel)
set_option maxRecDepth 20000 in
theorem gX9_tell_X6_add : GoodIn wsX9_tell (wsV RX9 151 RX6 yX6_add wsX6_add) := goodIn_app (goodIn_of _ (by decide +kernel)) ggX9_tell_X6_add
theorem dX9_tell_0 : decode cX9_tell 0 = .ok (.aload_n 0, 1) := by decide +kernel
theorem dX9_tell_1 : decode cX9_tell 1 = .ok (.getfield 10, 3) := by decide +kernel
theorem dX9_tell_4 : decode cX9_tell 4 = .ok (.getfield 290, 3) := by decide +kernel
theorem dX9_tell_7 : decode cX9_tell 7 = .ok (.iconst 1, 1) := by decide +kernel
theorem dX9_tell_8 : decode cX9_tell 8 = .ok (.invokevirtual 146, 3) := by decide +kernel
theorem dX9_tell_11 : decode cX9_tell 11 = .ok (.ifCond .ne 9, 3) := by decide +kernel
theorem dX9_tell_14 : decode cX9_tell 14 = .ok (.aload_n 0, 1) := by decide +kernel
theorem dX9_tell_15 : decode cX9_tell 15 = .ok (.iconst 4, 1) := by decide +kernel
theorem dX9_tell_16 : decode cX9_tell 16 = .ok (.invokevirtual 66, 3) := by decide +kernel
theorem dX9_tell_19 : decode cX9_tell 19 = .ok (.ireturn, 1) := by decide +kernel
theorem dX9_tell_20 : decode cX9_tell 20 = .ok (.aload_n 0, 1) := by decide +kernel
theorem dX9_tell_21 : decode cX9_tell 21 = .ok (.getfield 10, 3) := by decide +kernel
theorem dX9_tell_24 : decode cX9_tell 24 = .ok (.getfield 290, 3) := by decide +kernel
theorem dX9_tell_27 : decode cX9_tell 27 = .ok (.iload_n 1, 1) := by decide +kernel
theorem dX9_tell_28 : decode cX9_tell 28 = .ok (.invokevirtual 151, 3) := by decide +kernel
theorem dX9_tell_31 : decode cX9_tell 31 = .ok (.aload_n 0, 1) := by decide +kernel
theorem dX9_tell_32 : decode cX9_tell 32 = .ok (.getfield 10, 3) := by decide +kernel
theorem dX9_tell_35 : decode cX9_tell 35 = .ok (.getfield 290, 3) := by decide +kernel
theorem dX9_tell_38 : decode cX9_tell 38 = .ok (.getfield 155, 3) := by decide +kernel
theorem dX9_tell_41 : decode cX9_tell 41 = .ok (.ireturn, 1) := by decide +kernel
set_option maxRecDepth 20000 in
theorem ggX9_check_X9_firstWrongInk : GoodIn wsX9_check wsX9_firstWrongInk := goodIn_r _ [6, 1, 13, 14, 15, 16, 17, 18, 19, 20, 21, 22, 23, 24, 25, 26, 27, 28, 29, 30, 31, 32, 33] (by decide +kernel) (by decide +kernel)
set_option maxRecDepth 20000 in
theorem gX9_check_X9_firstWrongInk : GoodIn wsX9_check (wsV RX9 293 RX9 yX9_firstWrongInk wsX9_firstWrongInk) := goodIn_app (goodIn_of _ (by decide +kernel)) ggX9_check_X9_firstWrongInk
set_option maxRecDepth 20000 in
theorem ggX9_check_X6_clear : GoodIn wsX9_check wsX6_clear := goodIn_r _ [11, 12, 32, 33] (by decide +kernel) (by decide +kernel)
set_option maxRecDepth 20000 in
theorem gX9_check_X6_clear : GoodIn wsX9_check (wsV RX9 160 RX6 yX6_clear wsX6_clear) := goodIn_app (goodIn_of _ (by decide +kernel)) ggX9_check_X6_clear
theorem dX9_check_0 : decode cX9_check 0 = .ok (.aload_n 0, 1) := by decide +kernel
theorem dX9_check_1 : decode cX9_check 1 = .ok (.invokevirtual 293, 3) := by decide +kernel
theorem dX9_check_4 : decode cX9_check 4 = .ok (.istore_n 1, 1) := by decide +kernel
theorem dX9_check_5 : decode cX9_check 5 = .ok (.aload_n 0, 1) := by decide +kernel
theorem dX9_check_6 : decode cX9_check 6 = .ok (.getfield 10, 3) := by decide +kernel
theorem dX9_check_9 : decode cX9_check 9 = .ok (.getfield 290, 3) := by decide +kernel
theorem dX9_check_12 : decode cX9_check 12 = .ok (.invokevirtual 160, 3) := by decide +kernel
theorem dX9_check_15 : decode cX9_check 15 = .ok (.iload_n 1, 1) := by decide +kernel
theorem dX9_check_16 : decode cX9_check 16 = .ok (.ireturn, 1) := by decide +kernel
set_option maxRecDepth 20000 in
theorem ggX9_count_X9_error : GoodIn wsX9_count wsX9_error := goodIn_r _ [7, 8, 9, 10, 11, 12, 13, 14, 15, 16, 17, 18] (by decide +kernel) (by decide +kernel)
set_option maxRecDepth 20000 in
theorem gX9_count_X9_error : GoodIn wsX9_count (wsV RX9 66 RX9 yX9_error wsX9_error) := goodIn_app (goodIn_of _ (by decide +kernel)) ggX9_count_X9_error
theorem dX9_count_0 : decode cX9_count 0 = .ok (.iload_n 1, 1) := by decide +kernel
theorem dX9_count_1 : decode cX9_count 1 = .ok (.tableswitch 120 0 7 #[47, 55, 63, 71, 79, 90, 101, 112], 47) := by decide +kernel
theorem dX9_count_48 : decode cX9_count 48 = .ok (.aload_n 0, 1) := by decide +kernel
theorem dX9_count_49 : decode cX9_count 49 = .ok (.getfield 10, 3) := by decide +kernel
theorem dX9_count_52 : decode cX9_count 52 = .ok (.getfield 70, 3) := by decide +kernel
theorem dX9_count_55 : decode cX9_count 55 = .ok (.ireturn, 1) := by decide +kernel
theorem dX9_count_56 : decode cX9_count 56 = .ok (.aload_n 0, 1) := by decide +kernel
theorem dX9_count_57 : decode cX9_count 57 = .ok (.getfield 10, 3) := by decide +kernel
theorem dX9_count_60 : decode cX9_count 60 = .ok (.getfield 120, 3) := by decide +kernel
theorem dX9_count_63 : decode cX9_count 63 = .ok (.ireturn, 1) := by decide +kernel
theorem dX9_count_64 : decode cX9_count 64 = .ok (.aload_n 0, 1) := by decide +kernel
theorem dX9_count_65 : decode cX9_count 65 = .ok (.getfield 10, 3) := by decide +kernel
theorem dX9_count_68 : decode cX9_count 68 = .ok (.getfield 139, 3) := by decide +kernel
theorem dX9_count_71 : decode cX9_count 71 = .ok (.ireturn, 1) := by decide +kernel
theorem dX9_count_72 : decode cX9_count 72 = .ok (.aload_n 0, 1) := by decide +kernel
theorem dX9_count_73 : decode cX9_count 73 = .ok (.getfield 10, 3) := by decide +kernel
theorem dX9_count_76 : decode cX9_count 76 = .ok (.getfield 296, 3) := by decide +kernel
theorem dX9_count_79 : decode cX9_count 79 = .ok (.ireturn, 1) := by decide +kernel
theorem dX9_count_80 : decode cX9_count 80 = .ok (.aload_n 0, 1) := by decide +kernel
theorem dX9_count_81 : decode cX9_count 81 = .ok (.getfield 10, 3) := by decide +kernel
theorem dX9_count_84 : decode cX9_count 84 = .ok (.getfield 142, 3) := by decide +kernel
theorem dX9_count_87 : decode cX9_count 87 = .ok (.getfield 155, 3) := by decide +kernel
theorem dX9_count_90 : decode cX9_count 90 = .ok (.ireturn, 1) := by decide +kernel
theorem dX9_count_91 : decode cX9_count 91 = .ok (.aload_n 0, 1) := by decide +kernel
theorem dX9_count_92 : decode cX9_count 92 = .ok (.getfield 10, 3) := by decide +kernel
theorem dX9_count_95 : decode cX9_count 95 = .ok (.getfield 290, 3) := by decide +kernel
theorem dX9_count_98 : decode cX9_count 98 = .ok (.getfield 155, 3) := by decide +kernel
theorem dX9_count_101 : decode cX9_count 101 = .ok (.ireturn, 1) := by decide +kernel
theorem dX9_count_102 : decode cX9_count 102 = .ok (.aload_n 0, 1) := by decide +kernel
theorem dX9_count_103 : decode cX9_count 103 = .ok (.getfield 43, 3) := by decide +kernel
theorem dX9_count_106 : decode cX9_count 106 = .ok (.getfield 261, 3) := by decide +kernel
theorem dX9_count_109 : decode cX9_count 109 = .ok (.getfield 155, 3) := by decide +kernel
theorem dX9_count_112 : decode cX9_count 112 = .ok (.ireturn, 1) := by decide +kernel
theorem dX9_count_113 : decode cX9_count 113 = .ok (.aload_n 0, 1) := by decide +kernel
theorem dX9_count_114 : decode cX9_count 114 = .ok (.getfield 10, 3) := by decide +kernel
theorem dX9_count_117 : decode cX9_count 117 = .ok (.getfield 191, 3) := by decide +kernel
theorem dX9_count_120 : decode cX9_count 120 = .ok (.ireturn, 1) := by decide +kernel
theorem dX9_count_121 : decode cX9_count 121 = .ok (.aload_n 0, 1) := by decide +kernel
theorem dX9_count_122 : decode cX9_count 122 = .ok (.iconst 1, 1) := by decide +kernel
theorem dX9_count_123 : decode cX9_count 123 = .ok (.invokevirtual 66, 3) := by decide +kernel
theorem dX9_count_126 : decode cX9_count 126 = .ok (.ireturn, 1) := by decide +kernel
set_option maxRecDepth 20000 in
theorem ggX9_told_X9_isIn : GoodIn wsX9_told wsX9_isIn := goodIn_r _ [5] (by decide +kernel) (by decide +kernel)
set_option maxRecDepth 20000 in
theorem gX9_told_X9_isIn : GoodIn wsX9_told (va_wsS RX9 62 yX9_isIn wsX9_isIn) := goodIn_app (goodIn_of _ (by decide +kernel)) ggX9_told_X9_isIn
set_option maxRecDepth 20000 in
theorem ggX9_told_X9_error : GoodIn wsX9_told wsX9_error := goodIn_r _ [9, 1, 10, 11, 12, 13, 14, 15, 16, 17, 18, 19] (by decide +kernel) (by decide +kernel)
set_option maxRecDepth 20000 in
theorem gX9_told_X9_error : GoodIn wsX9_told (wsV RX9 66 RX9 yX9_error wsX9_error) := goodIn_app (goodIn_of _ (by decide +kernel)) ggX9_told_X9_error
theorem dX9_told_0 : decode cX9_told 0 = .ok (.iload_n 1, 1) := by decide +kernel
theorem dX9_told_1 : decode cX9_told 1 = .ok (.iconst 1, 1) := by decide +kernel
theorem dX9_told_2 : decode cX9_told 2 = .ok (.bipush 6, 2) := by decide +kernel
theorem dX9_told_4 : decode cX9_told 4 = .ok (.invokestatic 62, 3) := by decide +kernel
theorem dX9_told_7 : decode cX9_told 7 = .ok (.ifCond .eq 12, 3) := by decide +kernel
theorem dX9_told_10 : decode cX9_told 10 = .ok (.aload_n 0, 1) := by decide +kernel
theorem dX9_told_11 : decode cX9_told 11 = .ok (.getfield 53, 3) := by decide +kernel
theorem dX9_told_14 : decode cX9_told 14 = .ok (.iload_n 1, 1) := by decide +kernel
theorem dX9_told_15 : decode cX9_told 15 = .ok (.iaload, 1) := by decide +kernel
theorem dX9_told_16 : decode cX9_told 16 = .ok (.goto 8, 3) := by decide +kernel
theorem dX9_told_19 : decode cX9_told 19 = .ok (.aload_n 0, 1) := by decide +kernel
theorem dX9_told_20 : decode cX9_told 20 = .ok (.iconst 1, 1) := by decide +kernel
theorem dX9_told_21 : decode cX9_told 21 = .ok (.invokevirtual 66, 3) := by decide +kernel
theorem dX9_told_24 : decode cX9_told 24 = .ok (.ireturn, 1) := by decide +kernel
theorem dX9_error_0 : decode cX9_error 0 = .ok (.aload_n 0, 1) := by decide +kernel
theorem dX9_error_1 : decode cX9_error 1 = .ok (.getfield 53, 3) := by decide +kernel
theorem dX9_error_4 : decode cX9_error 4 = .ok (.iload_n 1, 1) := by decide +kernel
theorem dX9_error_5 : decode cX9_error 5 = .ok (.dup2, 1) := by decide +kernel
theorem dX9_error_6 : decode cX9_error 6 = .ok (.iaload, 1) := by decide +kernel
theorem dX9_error_7 : decode cX9_error 7 = .ok (.iconst 1, 1) := by decide +kernel
theorem dX9_error_8 : decode cX9_error 8 = .ok (.iadd, 1) := by decide +kernel
theorem dX9_error_9 : decode cX9_error 9 = .ok (.iastore, 1) := by decide +kernel
theorem dX9_error_10 : decode cX9_error 10 = .ok (.ldc_w 299, 3) := by decide +kernel
theorem dX9_error_13 : decode cX9_error 13 = .ok (.iload_n 1, 1) := by decide +kernel
theorem dX9_error_14 : decode cX9_error 14 = .ok (.isub, 1) := by decide +kernel
theorem dX9_error_15 : decode cX9_error 15 = .ok (.ireturn, 1) := by decide +kernel
theorem dX9_firstWrongInk_0 : decode cX9_firstWrongInk 0 = .ok (.aload_n 0, 1) := by decide +kernel
theorem dX9_firstWrongInk_1 : decode cX9_firstWrongInk 1 = .ok (.getfield 10, 3) := by decide +kernel
theorem dX9_firstWrongInk_4 : decode cX9_firstWrongInk 4 = .ok (.getfield 290, 3) := by decide +kernel
theorem dX9_firstWrongInk_7 : decode cX9_firstWrongInk 7 = .ok (.astore_n 1, 1) := by decide +kernel
theorem dX9_firstWrongInk_8 : decode cX9_firstWrongInk 8 = .ok (.iconst 0, 1) := by decide +kernel
theorem dX9_firstWrongInk_9 : decode cX9_firstWrongInk 9 = .ok (.istore_n 2, 1) := by decide +kernel
theorem dX9_firstWrongInk_10 : decode cX9_firstWrongInk 10 = .ok (.iload_n 2, 1) := by decide +kernel
theorem dX9_firstWrongInk_11 : decode cX9_firstWrongInk 11 = .ok (.aload_n 1, 1) := by decide +kernel
theorem dX9_firstWrongInk_12 : decode cX9_firstWrongInk 12 = .ok (.getfield 155, 3) := by decide +kernel
theorem dX9_firstWrongInk_15 : decode cX9_firstWrongInk 15 = .ok (.if_icmp .ge 36, 3) := by decide +kernel
theorem dX9_firstWrongInk_18 : decode cX9_firstWrongInk 18 = .ok (.iload_n 2, 1) := by decide +kernel
theorem dX9_firstWrongInk_19 : decode cX9_firstWrongInk 19 = .ok (.iconst 5, 1) := by decide +kernel
theorem dX9_firstWrongInk_20 : decode cX9_firstWrongInk 20 = .ok (.if_icmp .ge 21, 3) := by decide +kernel
theorem dX9_firstWrongInk_23 : decode cX9_firstWrongInk 23 = .ok (.aload_n 1, 1) := by decide +kernel
theorem dX9_firstWrongInk_24 : decode cX9_firstWrongInk 24 = .ok (.getfield 235, 3) := by decide +kernel
theorem dX9_firstWrongInk_27 : decode cX9_firstWrongInk 27 = .ok (.iload_n 2, 1) := by decide +kernel
theorem dX9_firstWrongInk_28 : decode cX9_firstWrongInk 28 = .ok (.iaload, 1) := by decide +kernel
theorem dX9_firstWrongInk_29 : decode cX9_firstWrongInk 29 = .ok (.aload_n 0, 1) := by decide +kernel
theorem dX9_firstWrongInk_30 : decode cX9_firstWrongInk 30 = .ok (.getfield 10, 3) := by decide +kernel
theorem dX9_firstWrongInk_33 : decode cX9_firstWrongInk 33 = .ok (.getfield 82, 3) := by decide +kernel
theorem dX9_firstWrongInk_36 : decode cX9_firstWrongInk 36 = .ok (.iload_n 2, 1) := by decide +kernel
theorem dX9_firstWrongInk_37 : decode cX9_firstWrongInk 37 = .ok (.iaload, 1) := by decide +kernel
theorem dX9_firstWrongInk_38 : decode cX9_firstWrongInk 38 = .ok (.if_icmp .eq 7, 3) := by decide +kernel
theorem dX9_firstWrongInk_41 : decode cX9_firstWrongInk 41 = .ok (.iconst 1, 1) := by decide +kernel
theorem dX9_firstWrongInk_42 : decode cX9_firstWrongInk 42 = .ok (.iload_n 2, 1) := by decide +kernel
theorem dX9_firstWrongInk_43 : decode cX9_firstWrongInk 43 = .ok (.iadd, 1) := by decide +kernel
theorem dX9_firstWrongInk_44 : decode cX9_firstWrongInk 44 = .ok (.ireturn, 1) := by decide +kernel
theorem dX9_firstWrongInk_45 : decode cX9_firstWrongInk 45 = .ok (.iinc 2 1, 3) := by decide +kernel
theorem dX9_firstWrongInk_48 : decode cX9_firstWrongInk 48 = .ok (.goto (-38), 3) := by decide +kernel
theorem dX9_firstWrongInk_51 : decode cX9_firstWrongInk 51 = .ok (.iconst 0, 1) := by decide +kernel
theorem dX9_firstWrongInk_52 : decode cX9_firstWrongInk 52 = .ok (.ireturn, 1) := by decide +kernel
theorem dX9_isIn_0 : decode cX9_isIn 0 = .ok (.iload_n 0, 1) := by decide +kernel
theorem dX9_isIn_1 : decode cX9_isIn 1 = .ok (.iload_n 1, 1) := by decide +kernel
theorem dX9_isIn_2 : decode cX9_isIn 2 = .ok (.if_icmp .lt 12, 3) := by decide +kernel
theorem dX9_isIn_5 : decode cX9_isIn 5 = .ok (.iload_n 0, 1) := by decide +kernel
