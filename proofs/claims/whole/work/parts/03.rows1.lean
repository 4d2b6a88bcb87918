set_option maxRecDepth 20000 in
theorem ggX0_init_X6_init : GoodIn wsX0_init wsX6_init := goodIn_r _ [22, 23, 2, 3, 24, 25, 26, 27, 6, 28, 49, 50] (by decide +kernel) (by decide +kernel)
set_option maxRecDepth 20000 in
theorem gX0_init_X6_init : GoodIn wsX0_init (wsX6_init) := ggX0_init_X6_init
set_option maxRecDepth 20000 in
theorem ggX0_init_X1_init : GoodIn wsX0_init wsX1_init := goodIn_r _ [30, 31, 2, 3, 32, 10, 11, 33, 34, 35, 21, 22, 23, 24, 25, 26, 27, 6, 28, 49, 50, 51, 52, 53] (by decide +kernel) (by decide +kernel)
set_option maxRecDepth 20000 in
theorem gX0_init_X1_init_n39 : GoodIn wsX0_init (wsX1_init) := ggX0_init_X1_init
set_option maxRecDepth 20000 in
theorem ggX0_init_X2_init : GoodIn wsX0_init wsX2_init := goodIn_r _ [37, 38, 2, 3] (by decide +kernel) (by decide +kernel)
set_option maxRecDepth 20000 in
theorem gX0_init_X2_init_n44 : GoodIn wsX0_init (wsX2_init) := ggX0_init_X2_init
theorem dX0_init_0 : decode cX0_init 0 = .ok (.aload_n 0, 1) := by decide +kernel
theorem dX0_init_1 : decode cX0_init 1 = .ok (.invokespecial 3, 3) := by decide +kernel
theorem dX0_init_4 : decode cX0_init 4 = .ok (.aload_n 0, 1) := by decide +kernel
theorem dX0_init_5 : decode cX0_init 5 = .ok (.bipush 10, 2) := by decide +kernel
theorem dX0_init_7 : decode cX0_init 7 = .ok (.anewarray 9, 3) := by decide +kernel
theorem dX0_init_10 : decode cX0_init 10 = .ok (.putfield 11, 3) := by decide +kernel
theorem dX0_init_13 : decode cX0_init 13 = .ok (.aload_n 0, 1) := by decide +kernel
theorem dX0_init_14 : decode cX0_init 14 = .ok (.iconst 5, 1) := by decide +kernel
theorem dX0_init_15 : decode cX0_init 15 = .ok (.newarray .int, 2) := by decide +kernel
theorem dX0_init_17 : decode cX0_init 17 = .ok (.dup, 1) := by decide +kernel
theorem dX0_init_18 : decode cX0_init 18 = .ok (.iconst 0, 1) := by decide +kernel
theorem dX0_init_19 : decode cX0_init 19 = .ok (.bipush 40, 2) := by decide +kernel
theorem dX0_init_21 : decode cX0_init 21 = .ok (.iastore, 1) := by decide +kernel
theorem dX0_init_22 : decode cX0_init 22 = .ok (.dup, 1) := by decide +kernel
theorem dX0_init_23 : decode cX0_init 23 = .ok (.iconst 1, 1) := by decide +kernel
theorem dX0_init_24 : decode cX0_init 24 = .ok (.bipush 40, 2) := by decide +kernel
theorem dX0_init_26 : decode cX0_init 26 = .ok (.iastore, 1) := by decide +kernel
theorem dX0_init_27 : decode cX0_init 27 = .ok (.dup, 1) := by decide +kernel
theorem dX0_init_28 : decode cX0_init 28 = .ok (.iconst 2, 1) := by decide +kernel
theorem dX0_init_29 : decode cX0_init 29 = .ok (.bipush 40, 2) := by decide +kernel
theorem dX0_init_31 : decode cX0_init 31 = .ok (.iastore, 1) := by decide +kernel
theorem dX0_init_32 : decode cX0_init 32 = .ok (.dup, 1) := by decide +kernel
theorem dX0_init_33 : decode cX0_init 33 = .ok (.iconst 3, 1) := by decide +kernel
theorem dX0_init_34 : decode cX0_init 34 = .ok (.bipush 40, 2) := by decide +kernel
theorem dX0_init_36 : decode cX0_init 36 = .ok (.iastore, 1) := by decide +kernel
theorem dX0_init_37 : decode cX0_init 37 = .ok (.dup, 1) := by decide +kernel
theorem dX0_init_38 : decode cX0_init 38 = .ok (.iconst 4, 1) := by decide +kernel
theorem dX0_init_39 : decode cX0_init 39 = .ok (.bipush 40, 2) := by decide +kernel
theorem dX0_init_41 : decode cX0_init 41 = .ok (.iastore, 1) := by decide +kernel
theorem dX0_init_42 : decode cX0_init 42 = .ok (.putfield 17, 3) := by decide +kernel
theorem dX0_init_45 : decode cX0_init 45 = .ok (.aload_n 0, 1) := by decide +kernel
theorem dX0_init_46 : decode cX0_init 46 = .ok (.iconst 1, 1) := by decide +kernel
theorem dX0_init_47 : decode cX0_init 47 = .ok (.putfield 21, 3) := by decide +kernel
theorem dX0_init_50 : decode cX0_init 50 = .ok (.aload_n 0, 1) := by decide +kernel
theorem dX0_init_51 : decode cX0_init 51 = .ok (.new 25, 3) := by decide +kernel
theorem dX0_init_54 : decode cX0_init 54 = .ok (.dup, 1) := by decide +kernel
theorem dX0_init_55 : decode cX0_init 55 = .ok (.bipush 60, 2) := by decide +kernel
theorem dX0_init_57 : decode cX0_init 57 = .ok (.invokespecial 27, 3) := by decide +kernel
theorem dX0_init_60 : decode cX0_init 60 = .ok (.putfield 30, 3) := by decide +kernel
theorem dX0_init_63 : decode cX0_init 63 = .ok (.aload_n 0, 1) := by decide +kernel
theorem dX0_init_64 : decode cX0_init 64 = .ok (.new 25, 3) := by decide +kernel
theorem dX0_init_67 : decode cX0_init 67 = .ok (.dup, 1) := by decide +kernel
theorem dX0_init_68 : decode cX0_init 68 = .ok (.bipush 24, 2) := by decide +kernel
theorem dX0_init_70 : decode cX0_init 70 = .ok (.invokespecial 27, 3) := by decide +kernel
theorem dX0_init_73 : decode cX0_init 73 = .ok (.putfield 34, 3) := by decide +kernel
theorem dX0_init_76 : decode cX0_init 76 = .ok (.aload_n 0, 1) := by decide +kernel
theorem dX0_init_77 : decode cX0_init 77 = .ok (.iconst 2, 1) := by decide +kernel
theorem dX0_init_78 : decode cX0_init 78 = .ok (.anewarray 37, 3) := by decide +kernel
theorem dX0_init_81 : decode cX0_init 81 = .ok (.dup, 1) := by decide +kernel
theorem dX0_init_82 : decode cX0_init 82 = .ok (.iconst 0, 1) := by decide +kernel
theorem dX0_init_83 : decode cX0_init 83 = .ok (.new 37, 3) := by decide +kernel
theorem dX0_init_86 : decode cX0_init 86 = .ok (.dup, 1) := by decide +kernel
theorem dX0_init_87 : decode cX0_init 87 = .ok (.invokespecial 39, 3) := by decide +kernel
theorem dX0_init_90 : decode cX0_init 90 = .ok (.aastore, 1) := by decide +kernel
theorem dX0_init_91 : decode cX0_init 91 = .ok (.dup, 1) := by decide +kernel
theorem dX0_init_92 : decode cX0_init 92 = .ok (.iconst 1, 1) := by decide +kernel
theorem dX0_init_93 : decode cX0_init 93 = .ok (.new 37, 3) := by decide +kernel
theorem dX0_init_96 : decode cX0_init 96 = .ok (.dup, 1) := by decide +kernel
theorem dX0_init_97 : decode cX0_init 97 = .ok (.invokespecial 39, 3) := by decide +kernel
theorem dX0_init_100 : decode cX0_init 100 = .ok (.aastore, 1) := by decide +kernel
theorem dX0_init_101 : decode cX0_init 101 = .ok (.putfield 40, 3) := by decide +kernel
theorem dX0_init_104 : decode cX0_init 104 = .ok (.iconst 0, 1) := by decide +kernel
theorem dX0_init_105 : decode cX0_init 105 = .ok (.istore_n 1, 1) := by decide +kernel
theorem dX0_init_106 : decode cX0_init 106 = .ok (.iload_n 1, 1) := by decide +kernel
theorem dX0_init_107 : decode cX0_init 107 = .ok (.bipush 10, 2) := by decide +kernel
theorem dX0_init_109 : decode cX0_init 109 = .ok (.if_icmp .ge 22, 3) := by decide +kernel
theorem dX0_init_112 : decode cX0_init 112 = .ok (.aload_n 0, 1) := by decide +kernel
theorem dX0_init_113 : decode cX0_init 113 = .ok (.getfield 11, 3) := by decide +kernel
theorem dX0_init_116 : decode cX0_init 116 = .ok (.iload_n 1, 1) := by decide +kernel
theorem dX0_init_117 : decode cX0_init 117 = .ok (.new 9, 3) := by decide +kernel
theorem dX0_init_120 : decode cX0_init 120 = .ok (.dup, 1) := by decide +kernel
theorem dX0_init_121 : decode cX0_init 121 = .ok (.invokespecial 44, 3) := by decide +kernel
theorem dX0_init_124 : decode cX0_init 124 = .ok (.aastore, 1) := by decide +kernel
theorem dX0_init_125 : decode cX0_init 125 = .ok (.iinc 1 1, 3) := by decide +kernel
theorem dX0_init_128 : decode cX0_init 128 = .ok (.goto (-22), 3) := by decide +kernel
theorem dX0_init_131 : decode cX0_init 131 = .ok (.return_, 1) := by decide +kernel
set_option maxRecDepth 20000 in
theorem ggX0_copyFrom_X2_copyFrom : GoodIn wsX0_copyFrom wsX2_copyFrom := goodIn_r _ [19, 20, 21, 22, 23, 24, 25, 26, 27, 28, 29, 18, 30, 64, 65, 66, 67, 68, 69, 70] (by decide +kernel) (by decide +kernel)
set_option maxRecDepth 20000 in
theorem gX0_copyFrom_X2_copyFrom : GoodIn wsX0_copyFrom (wsV RX0 48 RX2 yX2_copyFrom wsX2_copyFrom) := goodIn_app (goodIn_of _ (by decide +kernel)) ggX0_copyFrom_X2_copyFrom
set_option maxRecDepth 20000 in
theorem ggX0_copyFrom_X6_copyFrom : GoodIn wsX0_copyFrom wsX6_copyFrom := goodIn_r _ [35, 36, 37, 38, 39, 40, 34, 41, 42, 43, 44, 45, 71, 72] (by decide +kernel) (by decide +kernel)
set_option maxRecDepth 20000 in
theorem gX0_copyFrom_X6_copyFrom : GoodIn wsX0_copyFrom (wsV RX0 67 RX6 yX6_copyFrom wsX6_copyFrom) := goodIn_app (goodIn_of _ (by decide +kernel)) ggX0_copyFrom_X6_copyFrom
set_option maxRecDepth 20000 in
theorem ggX0_copyFrom_X1_copyFrom : GoodIn wsX0_copyFrom wsX1_copyFrom := goodIn_r _ [50, 51, 52, 53, 32, 33, 34, 35, 36, 37, 38, 39, 40, 41, 42, 43, 44, 45, 73, 74, 75, 71, 72] (by decide +kernel) (by decide +kernel)
set_option maxRecDepth 20000 in
theorem gX0_copyFrom_X1_copyFrom : GoodIn wsX0_copyFrom (wsV RX0 70 RX1 yX1_copyFrom wsX1_copyFrom) := goodIn_app (goodIn_of _ (by decide +kernel)) ggX0_copyFrom_X1_copyFrom
theorem dX0_copyFrom_0 : decode cX0_copyFrom 0 = .ok (.aload_n 0, 1) := by decide +kernel
theorem dX0_copyFrom_1 : decode cX0_copyFrom 1 = .ok (.aload_n 1, 1) := by decide +kernel
theorem dX0_copyFrom_2 : decode cX0_copyFrom 2 = .ok (.getfield 45, 3) := by decide +kernel
theorem dX0_copyFrom_5 : decode cX0_copyFrom 5 = .ok (.putfield 45, 3) := by decide +kernel
theorem dX0_copyFrom_8 : decode cX0_copyFrom 8 = .ok (.iconst 0, 1) := by decide +kernel
theorem dX0_copyFrom_9 : decode cX0_copyFrom 9 = .ok (.istore_n 2, 1) := by decide +kernel
theorem dX0_copyFrom_10 : decode cX0_copyFrom 10 = .ok (.iload_n 2, 1) := by decide +kernel
theorem dX0_copyFrom_11 : decode cX0_copyFrom 11 = .ok (.bipush 10, 2) := by decide +kernel
theorem dX0_copyFrom_13 : decode cX0_copyFrom 13 = .ok (.if_icmp .ge 24, 3) := by decide +kernel
theorem dX0_copyFrom_16 : decode cX0_copyFrom 16 = .ok (.aload_n 0, 1) := by decide +kernel
theorem dX0_copyFrom_17 : decode cX0_copyFrom 17 = .ok (.getfield 11, 3) := by decide +kernel
theorem dX0_copyFrom_20 : decode cX0_copyFrom 20 = .ok (.iload_n 2, 1) := by decide +kernel
theorem dX0_copyFrom_21 : decode cX0_copyFrom 21 = .ok (.aaload, 1) := by decide +kernel
theorem dX0_copyFrom_22 : decode cX0_copyFrom 22 = .ok (.aload_n 1, 1) := by decide +kernel
theorem dX0_copyFrom_23 : decode cX0_copyFrom 23 = .ok (.getfield 11, 3) := by decide +kernel
theorem dX0_copyFrom_26 : decode cX0_copyFrom 26 = .ok (.iload_n 2, 1) := by decide +kernel
theorem dX0_copyFrom_27 : decode cX0_copyFrom 27 = .ok (.aaload, 1) := by decide +kernel
theorem dX0_copyFrom_28 : decode cX0_copyFrom 28 = .ok (.invokevirtual 48, 3) := by decide +kernel
theorem dX0_copyFrom_31 : decode cX0_copyFrom 31 = .ok (.iinc 2 1, 3) := by decide +kernel
theorem dX0_copyFrom_34 : decode cX0_copyFrom 34 = .ok (.goto (-24), 3) := by decide +kernel
theorem dX0_copyFrom_37 : decode cX0_copyFrom 37 = .ok (.aload_n 0, 1) := by decide +kernel
theorem dX0_copyFrom_38 : decode cX0_copyFrom 38 = .ok (.aload_n 1, 1) := by decide +kernel
theorem dX0_copyFrom_39 : decode cX0_copyFrom 39 = .ok (.getfield 52, 3) := by decide +kernel
theorem dX0_copyFrom_42 : decode cX0_copyFrom 42 = .ok (.putfield 52, 3) := by decide +kernel
theorem dX0_copyFrom_45 : decode cX0_copyFrom 45 = .ok (.aload_n 0, 1) := by decide +kernel
theorem dX0_copyFrom_46 : decode cX0_copyFrom 46 = .ok (.aload_n 1, 1) := by decide +kernel
theorem dX0_copyFrom_47 : decode cX0_copyFrom 47 = .ok (.getfield 55, 3) := by decide +kernel
theorem dX0_copyFrom_50 : decode cX0_copyFrom 50 = .ok (.putfield 55, 3) := by decide +kernel
theorem dX0_copyFrom_53 : decode cX0_copyFrom 53 = .ok (.aload_n 0, 1) := by decide +kernel
theorem dX0_copyFrom_54 : decode cX0_copyFrom 54 = .ok (.aload_n 1, 1) := by decide +kernel
theorem dX0_copyFrom_55 : decode cX0_copyFrom 55 = .ok (.getfield 58, 3) := by decide +kernel
theorem dX0_copyFrom_58 : decode cX0_copyFrom 58 = .ok (.putfield 58, 3) := by decide +kernel
theorem dX0_copyFrom_61 : decode cX0_copyFrom 61 = .ok (.aload_n 1, 1) := by decide +kernel
theorem dX0_copyFrom_62 : decode cX0_copyFrom 62 = .ok (.getfield 17, 3) := by decide +kernel
theorem dX0_copyFrom_65 : decode cX0_copyFrom 65 = .ok (.iconst 0, 1) := by decide +kernel
theorem dX0_copyFrom_66 : decode cX0_copyFrom 66 = .ok (.aload_n 0, 1) := by decide +kernel
theorem dX0_copyFrom_67 : decode cX0_copyFrom 67 = .ok (.getfield 17, 3) := by decide +kernel
theorem dX0_copyFrom_70 : decode cX0_copyFrom 70 = .ok (.iconst 0, 1) := by decide +kernel
theorem dX0_copyFrom_71 : decode cX0_copyFrom 71 = .ok (.iconst 5, 1) := by decide +kernel
theorem dX0_copyFrom_72 : decode cX0_copyFrom 72 = .ok (.invokestatic 61, 3) := by decide +kernel
theorem dX0_copyFrom_75 : decode cX0_copyFrom 75 = .ok (.aload_n 0, 1) := by decide +kernel
theorem dX0_copyFrom_76 : decode cX0_copyFrom 76 = .ok (.aload_n 1, 1) := by decide +kernel
theorem dX0_copyFrom_77 : decode cX0_copyFrom 77 = .ok (.getfield 21, 3) := by decide +kernel
theorem dX0_copyFrom_80 : decode cX0_copyFrom 80 = .ok (.putfield 21, 3) := by decide +kernel
theorem dX0_copyFrom_83 : decode cX0_copyFrom 83 = .ok (.aload_n 0, 1) := by decide +kernel
theorem dX0_copyFrom_84 : decode cX0_copyFrom 84 = .ok (.getfield 30, 3) := by decide +kernel
theorem dX0_copyFrom_87 : decode cX0_copyFrom 87 = .ok (.aload_n 1, 1) := by decide +kernel
theorem dX0_copyFrom_88 : decode cX0_copyFrom 88 = .ok (.getfield 30, 3) := by decide +kernel
theorem dX0_copyFrom_91 : decode cX0_copyFrom 91 = .ok (.invokevirtual 67, 3) := by decide +kernel
theorem dX0_copyFrom_94 : decode cX0_copyFrom 94 = .ok (.aload_n 0, 1) := by decide +kernel
theorem dX0_copyFrom_95 : decode cX0_copyFrom 95 = .ok (.getfield 34, 3) := by decide +kernel
theorem dX0_copyFrom_98 : decode cX0_copyFrom 98 = .ok (.aload_n 1, 1) := by decide +kernel
theorem dX0_copyFrom_99 : decode cX0_copyFrom 99 = .ok (.getfield 34, 3) := by decide +kernel
theorem dX0_copyFrom_102 : decode cX0_copyFrom 102 = .ok (.invokevirtual 67, 3) := by decide +kernel
theorem dX0_copyFrom_105 : decode cX0_copyFrom 105 = .ok (.iconst 0, 1) := by decide +kernel
theorem dX0_copyFrom_106 : decode cX0_copyFrom 106 = .ok (.istore_n 2, 1) := by decide +kernel
theorem dX0_copyFrom_107 : decode cX0_copyFrom 107 = .ok (.iload_n 2, 1) := by decide +kernel
theorem dX0_copyFrom_108 : decode cX0_copyFrom 108 = .ok (.iconst 2, 1) := by decide +kernel
theorem dX0_copyFrom_109 : decode cX0_copyFrom 109 = .ok (.if_icmp .ge 24, 3) := by decide +kernel
theorem dX0_copyFrom_112 : decode cX0_copyFrom 112 = .ok (.aload_n 0, 1) := by decide +kernel
theorem dX0_copyFrom_113 : decode cX0_copyFrom 113 = .ok (.getfield 40, 3) := by decide +kernel
theorem dX0_copyFrom_116 : decode cX0_copyFrom 116 = .ok (.iload_n 2, 1) := by decide +kernel
theorem dX0_copyFrom_117 : decode cX0_copyFrom 117 = .ok (.aaload, 1) := by decide +kernel
theorem dX0_copyFrom_118 : decode cX0_copyFrom 118 = .ok (.aload_n 1, 1) := by decide +kernel
theorem dX0_copyFrom_119 : decode cX0_copyFrom 119 = .ok (.getfield 40, 3) := by decide +kernel
theorem dX0_copyFrom_122 : decode cX0_copyFrom 122 = .ok (.iload_n 2, 1) := by decide +kernel
theorem dX0_copyFrom_123 : decode cX0_copyFrom 123 = .ok (.aaload, 1) := by decide +kernel
theorem dX0_copyFrom_124 : decode cX0_copyFrom 124 = .ok (.invokevirtual 70, 3) := by decide +kernel
theorem dX0_copyFrom_127 : decode cX0_copyFrom 127 = .ok (.iinc 2 1, 3) := by decide +kernel
theorem dX0_copyFrom_130 : decode cX0_copyFrom 130 = .ok (.goto (-23), 3) := by decide +kernel
theorem dX0_copyFrom_133 : decode cX0_copyFrom 133 = .ok (.return_, 1) := by decide +kernel
theorem dX0_hasLine_0 : decode cX0_hasLine 0 = .ok (.iload_n 1, 1) := by decide +kernel
theorem dX0_hasLine_1 : decode cX0_hasLine 1 = .ok (.ifCond .lt 15, 3) := by decide +kernel
theorem dX0_hasLine_4 : decode cX0_hasLine 4 = .ok (.iload_n 1, 1) := by decide +kernel
theorem dX0_hasLine_5 : decode cX0_hasLine 5 = .ok (.aload_n 0, 1) := by decide +kernel
theorem dX0_hasLine_6 : decode cX0_hasLine 6 = .ok (.getfield 45, 3) := by decide +kernel
theorem dX0_hasLine_9 : decode cX0_hasLine 9 = .ok (.if_icmp .ge 7, 3) := by decide +kernel
theorem dX0_hasLine_12 : decode cX0_hasLine 12 = .ok (.iconst 1, 1) := by decide +kernel
theorem dX0_hasLine_13 : decode cX0_hasLine 13 = .ok (.goto 4, 3) := by decide +kernel
theorem dX0_hasLine_16 : decode cX0_hasLine 16 = .ok (.iconst 0, 1) := by decide +kernel
theorem dX0_hasLine_17 : decode cX0_hasLine 17 = .ok (.ireturn, 1) := by decide +kernel
set_option maxRecDepth 20000 in
theorem ggX0_addLine_X2_begin : GoodIn wsX0_addLine wsX2_begin := goodIn_r _ [8, 9, 10, 11, 12, 13, 14, 15, 26, 27, 28, 29, 30, 31, 32] (by decide +kernel) (by decide +kernel)
set_option maxRecDepth 20000 in
theorem gX0_addLine_X2_begin : GoodIn wsX0_addLine (wsV RX0 73 RX2 yX2_begin wsX2_begin) := goodIn_app (goodIn_of _ (by decide +kernel)) ggX0_addLine_X2_begin
theorem dX0_addLine_0 : decode cX0_addLine 0 = .ok (.aload_n 0, 1) := by decide +kernel
theorem dX0_addLine_1 : decode cX0_addLine 1 = .ok (.getfield 45, 3) := by decide +kernel
theorem dX0_addLine_4 : decode cX0_addLine 4 = .ok (.bipush 10, 2) := by decide +kernel
theorem dX0_addLine_6 : decode cX0_addLine 6 = .ok (.if_icmp .lt 8, 3) := by decide +kernel
theorem dX0_addLine_9 : decode cX0_addLine 9 = .ok (.aload_n 0, 1) := by decide +kernel
theorem dX0_addLine_10 : decode cX0_addLine 10 = .ok (.getfield 45, 3) := by decide +kernel
theorem dX0_addLine_13 : decode cX0_addLine 13 = .ok (.ireturn, 1) := by decide +kernel
theorem dX0_addLine_14 : decode cX0_addLine 14 = .ok (.aload_n 0, 1) := by decide +kernel
theorem dX0_addLine_15 : decode cX0_addLine 15 = .ok (.getfield 11, 3) := by decide +kernel
theorem dX0_addLine_18 : decode cX0_addLine 18 = .ok (.aload_n 0, 1) := by decide +kernel
theorem dX0_addLine_19 : decode cX0_addLine 19 = .ok (.getfield 45, 3) := by decide +kernel
theorem dX0_addLine_22 : decode cX0_addLine 22 = .ok (.aaload, 1) := by decide +kernel
theorem dX0_addLine_23 : decode cX0_addLine 23 = .ok (.iload_n 1, 1) := by decide +kernel
theorem dX0_addLine_24 : decode cX0_addLine 24 = .ok (.iload_n 2, 1) := by decide +kernel
theorem dX0_addLine_25 : decode cX0_addLine 25 = .ok (.iload_n 3, 1) := by decide +kernel
theorem dX0_addLine_26 : decode cX0_addLine 26 = .ok (.iload 4, 2) := by decide +kernel
theorem dX0_addLine_28 : decode cX0_addLine 28 = .ok (.aload_n 0, 1) := by decide +kernel
theorem dX0_addLine_29 : decode cX0_addLine 29 = .ok (.getfield 52, 3) := by decide +kernel
theorem dX0_addLine_32 : decode cX0_addLine 32 = .ok (.invokevirtual 73, 3) := by decide +kernel
theorem dX0_addLine_35 : decode cX0_addLine 35 = .ok (.aload_n 0, 1) := by decide +kernel
theorem dX0_addLine_36 : decode cX0_addLine 36 = .ok (.dup, 1) := by decide +kernel
theorem dX0_addLine_37 : decode cX0_addLine 37 = .ok (.getfield 45, 3) := by decide +kernel
theorem dX0_addLine_40 : decode cX0_addLine 40 = .ok (.iconst 1, 1) := by decide +kernel
theorem dX0_addLine_41 : decode cX0_addLine 41 = .ok (.iadd, 1) := by decide +kernel
theorem dX0_addLine_42 : decode cX0_addLine 42 = .ok (.putfield 45, 3) := by decide +kernel
theorem dX0_addLine_45 : decode cX0_addLine 45 = .ok (.aload_n 0, 1) := by decide +kernel
theorem dX0_addLine_46 : decode cX0_addLine 46 = .ok (.getfield 45, 3) := by decide +kernel
theorem dX0_addLine_49 : decode cX0_addLine 49 = .ok (.iconst 1, 1) := by decide +kernel
theorem dX0_addLine_50 : decode cX0_addLine 50 = .ok (.isub, 1) := by decide +kernel
theorem dX0_addLine_51 : decode cX0_addLine 51 = .ok (.ireturn, 1) := by decide +kernel
set_option maxRecDepth 20000 in
theorem ggX0_mayGo_X2_goesBehind : GoodIn wsX0_mayGo wsX2_goesBehind := goodIn_r _ [7, 8, 9, 10, 11, 12, 13, 14, 15, 16, 17, 6, 18, 19, 20, 31, 32, 33, 34, 35, 36, 37] (by decide +kernel) (by decide +kernel)
set_option maxRecDepth 20000 in
theorem gX0_mayGo_X2_goesBehind : GoodIn wsX0_mayGo (wsV RX0 77 RX2 yX2_goesBehind wsX2_goesBehind) := goodIn_app (goodIn_of _ (by decide +kernel)) ggX0_mayGo_X2_goesBehind
theorem dX0_mayGo_0 : decode cX0_mayGo 0 = .ok (.aload_n 0, 1) := by decide +kernel
theorem dX0_mayGo_1 : decode cX0_mayGo 1 = .ok (.getfield 11, 3) := by decide +kernel
theorem dX0_mayGo_4 : decode cX0_mayGo 4 = .ok (.iload_n 1, 1) := by decide +kernel
theorem dX0_mayGo_5 : decode cX0_mayGo 5 = .ok (.aaload, 1) := by decide +kernel
theorem dX0_mayGo_6 : decode cX0_mayGo 6 = .ok (.iload_n 2, 1) := by decide +kernel
theorem dX0_mayGo_7 : decode cX0_mayGo 7 = .ok (.aload_n 0, 1) := by decide +kernel
theorem dX0_mayGo_8 : decode cX0_mayGo 8 = .ok (.getfield 55, 3) := by decide +kernel
theorem dX0_mayGo_11 : decode cX0_mayGo 11 = .ok (.invokevirtual 77, 3) := by decide +kernel
theorem dX0_mayGo_14 : decode cX0_mayGo 14 = .ok (.ifCond .ne 7, 3) := by decide +kernel
theorem dX0_mayGo_17 : decode cX0_mayGo 17 = .ok (.iconst 1, 1) := by decide +kernel
theorem dX0_mayGo_18 : decode cX0_mayGo 18 = .ok (.goto 4, 3) := by decide +kernel
theorem dX0_mayGo_21 : decode cX0_mayGo 21 = .ok (.iconst 0, 1) := by decide +kernel
theorem dX0_mayGo_22 : decode cX0_mayGo 22 = .ok (.ireturn, 1) := by decide +kernel
set_option maxRecDepth 20000 in
theorem ggX0_lossOf_X2_back : GoodIn wsX0_lossOf wsX2_back := goodIn_r _ [6, 7, 8, 9, 10, 11, 12, 13, 14, 15, 16, 17, 18, 19, 20, 21, 63, 64, 65, 66, 67, 68, 69] (by decide +kernel) (by decide +kernel)
set_option maxRecDepth 20000 in
theorem gX0_lossOf_X2_back : GoodIn wsX0_lossOf (wsV RX0 81 RX2 yX2_back wsX2_back) := goodIn_app (goodIn_of _ (by decide +kernel)) ggX0_lossOf_X2_back
set_option maxRecDepth 20000 in
theorem ggX0_lossOf_X0_lawGives : GoodIn wsX0_lossOf wsX0_lawGives := goodIn_r _ [26, 27, 28, 29, 30, 31, 32, 33, 34, 35, 36, 37, 38, 39, 40, 41, 42, 43, 44, 45, 46, 47, 48, 49, 50, 51, 52, 15, 16, 17, 18, 19, 10, 20, 21, 9, 11, 53, 54, 55, 56, 57, 58, 59, 60, 61, 62, 70, 71, 72, 73, 74] (by decide +kernel) (by decide +kernel)
set_option maxRecDepth 20000 in
theorem gX0_lossOf_X0_lawGives : GoodIn wsX0_lossOf (wsV RX0 91 RX0 yX0_lawGives wsX0_lawGives) := goodIn_app (goodIn_of _ (by decide +kernel)) ggX0_lossOf_X0_lawGives
theorem dX0_lossOf_0 : decode cX0_lossOf 0 = .ok (.aload_n 0, 1) := by decide +kernel
theorem dX0_lossOf_1 : decode cX0_lossOf 1 = .ok (.iconst 0, 1) := by decide +kernel
theorem dX0_lossOf_2 : decode cX0_lossOf 2 = .ok (.aload_n 0, 1) := by decide +kernel
theorem dX0_lossOf_3 : decode cX0_lossOf 3 = .ok (.getfield 11, 3) := by decide +kernel
theorem dX0_lossOf_6 : decode cX0_lossOf 6 = .ok (.iload_n 1, 1) := by decide +kernel
theorem dX0_lossOf_7 : decode cX0_lossOf 7 = .ok (.aaload, 1) := by decide +kernel
theorem dX0_lossOf_8 : decode cX0_lossOf 8 = .ok (.iload_n 2, 1) := by decide +kernel
theorem dX0_lossOf_9 : decode cX0_lossOf 9 = .ok (.invokevirtual 81, 3) := by decide +kernel
theorem dX0_lossOf_12 : decode cX0_lossOf 12 = .ok (.aload_n 0, 1) := by decide +kernel
theorem dX0_lossOf_13 : decode cX0_lossOf 13 = .ok (.getfield 11, 3) := by decide +kernel
theorem dX0_lossOf_16 : decode cX0_lossOf 16 = .ok (.iload_n 1, 1) := by decide +kernel
theorem dX0_lossOf_17 : decode cX0_lossOf 17 = .ok (.aaload, 1) := by decide +kernel
theorem dX0_lossOf_18 : decode cX0_lossOf 18 = .ok (.getfield 85, 3) := by decide +kernel
theorem dX0_lossOf_21 : decode cX0_lossOf 21 = .ok (.aload_n 0, 1) := by decide +kernel
theorem dX0_lossOf_22 : decode cX0_lossOf 22 = .ok (.getfield 11, 3) := by decide +kernel
theorem dX0_lossOf_25 : decode cX0_lossOf 25 = .ok (.iload_n 1, 1) := by decide +kernel
theorem dX0_lossOf_26 : decode cX0_lossOf 26 = .ok (.aaload, 1) := by decide +kernel
theorem dX0_lossOf_27 : decode cX0_lossOf 27 = .ok (.getfield 88, 3) := by decide +kernel
theorem dX0_lossOf_30 : decode cX0_lossOf 30 = .ok (.invokevirtual 91, 3) := by decide +kernel
theorem dX0_lossOf_33 : decode cX0_lossOf 33 = .ok (.ireturn, 1) := by decide +kernel
set_option maxRecDepth 20000 in
theorem ggX0_wipeLine_X0_lossOf : GoodIn wsX0_wipeLine wsX0_lossOf := goodIn_r _ [13, 2, 14, 15, 16, 17, 18, 19, 20, 21, 7, 22, 23, 24, 25, 26, 27, 28, 29, 6, 8, 30, 31, 32, 33, 12, 34, 35, 36, 37, 38, 39, 40, 41, 42, 43, 44, 45, 46, 47, 48, 49, 50, 51, 52, 53, 54, 55, 56, 57, 58, 59, 60, 61, 62, 63, 64, 65, 66, 67, 68, 69, 70, 71, 72, 73, 74, 75, 76, 77, 78, 79, 80, 81, 82] (by decide +kernel) (by decide +kernel)
set_option maxRecDepth 20000 in
theorem gX0_wipeLine_X0_lossOf : GoodIn wsX0_wipeLine (wsV RX0 95 RX0 yX0_lossOf wsX0_lossOf) := goodIn_app (goodIn_of _ (by decide +kernel)) ggX0_wipeLine_X0_lossOf
theorem dX0_wipeLine_0 : decode cX0_wipeLine 0 = .ok (.aload_n 0, 1) := by decide +kernel
theorem dX0_wipeLine_1 : decode cX0_wipeLine 1 = .ok (.iload_n 1, 1) := by decide +kernel
theorem dX0_wipeLine_2 : decode cX0_wipeLine 2 = .ok (.aload_n 0, 1) := by decide +kernel
theorem dX0_wipeLine_3 : decode cX0_wipeLine 3 = .ok (.getfield 52, 3) := by decide +kernel
theorem dX0_wipeLine_6 : decode cX0_wipeLine 6 = .ok (.invokevirtual 95, 3) := by decide +kernel
theorem dX0_wipeLine_9 : decode cX0_wipeLine 9 = .ok (.istore_n 2, 1) := by decide +kernel
theorem dX0_wipeLine_10 : decode cX0_wipeLine 10 = .ok (.aload_n 0, 1) := by decide +kernel
theorem dX0_wipeLine_11 : decode cX0_wipeLine 11 = .ok (.getfield 11, 3) := by decide +kernel
theorem dX0_wipeLine_14 : decode cX0_wipeLine 14 = .ok (.iload_n 1, 1) := by decide +kernel
theorem dX0_wipeLine_15 : decode cX0_wipeLine 15 = .ok (.aaload, 1) := by decide +kernel
theorem dX0_wipeLine_16 : decode cX0_wipeLine 16 = .ok (.iconst 1, 1) := by decide +kernel
theorem dX0_wipeLine_17 : decode cX0_wipeLine 17 = .ok (.putfield 98, 3) := by decide +kernel
theorem dX0_wipeLine_20 : decode cX0_wipeLine 20 = .ok (.aload_n 0, 1) := by decide +kernel
theorem dX0_wipeLine_21 : decode cX0_wipeLine 21 = .ok (.ldc 102, 2) := by decide +kernel
theorem dX0_wipeLine_23 : decode cX0_wipeLine 23 = .ok (.aload_n 0, 1) := by decide +kernel
theorem dX0_wipeLine_24 : decode cX0_wipeLine 24 = .ok (.getfield 58, 3) := by decide +kernel
theorem dX0_wipeLine_27 : decode cX0_wipeLine 27 = .ok (.iload_n 2, 1) := by decide +kernel
theorem dX0_wipeLine_28 : decode cX0_wipeLine 28 = .ok (.iadd, 1) := by decide +kernel
theorem dX0_wipeLine_29 : decode cX0_wipeLine 29 = .ok (.invokestatic 103, 3) := by decide +kernel
theorem dX0_wipeLine_32 : decode cX0_wipeLine 32 = .ok (.putfield 58, 3) := by decide +kernel
theorem dX0_wipeLine_35 : decode cX0_wipeLine 35 = .ok (.iload_n 2, 1) := by decide +kernel
theorem dX0_wipeLine_36 : decode cX0_wipeLine 36 = .ok (.ireturn, 1) := by decide +kernel
set_option maxRecDepth 20000 in
theorem ggX0_taken_X0_takenBehind : GoodIn wsX0_taken wsX0_takenBehind := goodIn_r _ [5, 6, 7, 8, 9, 10, 11, 12, 13, 14, 15, 16, 17, 18, 19, 20, 21, 22, 23, 24, 25, 26, 27, 28, 29, 30, 31, 32, 33, 34, 35, 36, 37, 38, 39, 40, 41, 42, 43, 44] (by decide +kernel) (by decide +kernel)
set_option maxRecDepth 20000 in
theorem gX0_taken_X0_takenBehind : GoodIn wsX0_taken (wsV RX0 108 RX0 yX0_takenBehind wsX0_takenBehind) := goodIn_app (goodIn_of _ (by decide +kernel)) ggX0_taken_X0_takenBehind
theorem dX0_taken_0 : decode cX0_taken 0 = .ok (.aload_n 0, 1) := by decide +kernel
theorem dX0_taken_1 : decode cX0_taken 1 = .ok (.iconst 0, 1) := by decide +kernel
theorem dX0_taken_2 : decode cX0_taken 2 = .ok (.invokevirtual 108, 3) := by decide +kernel
theorem dX0_taken_5 : decode cX0_taken 5 = .ok (.ireturn, 1) := by decide +kernel
set_option maxRecDepth 20000 in
theorem ggX0_takenBehind_X2_goesBehind : GoodIn wsX0_takenBehind wsX2_goesBehind := goodIn_r _ [9, 10, 11, 12, 13, 14, 15, 16, 17, 18, 19, 8, 20, 21, 22, 33, 34, 35, 36, 37, 38, 39] (by decide +kernel) (by decide +kernel)
set_option maxRecDepth 20000 in
theorem gX0_takenBehind_X2_goesBehind : GoodIn wsX0_takenBehind (wsV RX0 77 RX2 yX2_goesBehind wsX2_goesBehind) := goodIn_app (goodIn_of _ (by decide +kernel)) ggX0_takenBehind_X2_goesBehind
theorem dX0_takenBehind_0 : decode cX0_takenBehind 0 = .ok (.iconst 0, 1) := by decide +kernel
theorem dX0_takenBehind_1 : decode cX0_takenBehind 1 = .ok (.istore_n 2, 1) := by decide +kernel
theorem dX0_takenBehind_2 : decode cX0_takenBehind 2 = .ok (.iconst 0, 1) := by decide +kernel
theorem dX0_takenBehind_3 : decode cX0_takenBehind 3 = .ok (.istore_n 3, 1) := by decide +kernel
theorem dX0_takenBehind_4 : decode cX0_takenBehind 4 = .ok (.iload_n 3, 1) := by decide +kernel
theorem dX0_takenBehind_5 : decode cX0_takenBehind 5 = .ok (.aload_n 0, 1) := by decide +kernel
theorem dX0_takenBehind_6 : decode cX0_takenBehind 6 = .ok (.getfield 45, 3) := by decide +kernel
theorem dX0_takenBehind_9 : decode cX0_takenBehind 9 = .ok (.if_icmp .ge 54, 3) := by decide +kernel
theorem dX0_takenBehind_12 : decode cX0_takenBehind 12 = .ok (.aload_n 0, 1) := by decide +kernel
theorem dX0_takenBehind_13 : decode cX0_takenBehind 13 = .ok (.getfield 11, 3) := by decide +kernel
theorem dX0_takenBehind_16 : decode cX0_takenBehind 16 = .ok (.iload_n 3, 1) := by decide +kernel
theorem dX0_takenBehind_17 : decode cX0_takenBehind 17 = .ok (.aaload, 1) := by decide +kernel
theorem dX0_takenBehind_18 : decode cX0_takenBehind 18 = .ok (.getfield 98, 3) := by decide +kernel
theorem dX0_takenBehind_21 : decode cX0_takenBehind 21 = .ok (.ifCond .ne 36, 3) := by decide +kernel
theorem dX0_takenBehind_24 : decode cX0_takenBehind 24 = .ok (.aload_n 0, 1) := by decide +kernel
theorem dX0_takenBehind_25 : decode cX0_takenBehind 25 = .ok (.getfield 11, 3) := by decide +kernel
theorem dX0_takenBehind_28 : decode cX0_takenBehind 28 = .ok (.iload_n 3, 1) := by decide +kernel
theorem dX0_takenBehind_29 : decode cX0_takenBehind 29 = .ok (.aaload, 1) := by decide +kernel
theorem dX0_takenBehind_30 : decode cX0_takenBehind 30 = .ok (.aload_n 0, 1) := by decide +kernel
theorem dX0_takenBehind_31 : decode cX0_takenBehind 31 = .ok (.getfield 52, 3) := by decide +kernel
theorem dX0_takenBehind_34 : decode cX0_takenBehind 34 = .ok (.aload_n 0, 1) := by decide +kernel
theorem dX0_takenBehind_35 : decode cX0_takenBehind 35 = .ok (.getfield 55, 3) := by decide +kernel
theorem dX0_takenBehind_38 : decode cX0_takenBehind 38 = .ok (.invokevirtual 77, 3) := by decide +kernel
theorem dX0_takenBehind_41 : decode cX0_takenBehind 41 = .ok (.iload_n 1, 1) := by decide +kernel
theorem dX0_takenBehind_42 : decode cX0_takenBehind 42 = .ok (.if_icmp .lt 15, 3) := by decide +kernel
theorem dX0_takenBehind_45 : decode cX0_takenBehind 45 = .ok (.iload_n 2, 1) := by decide +kernel
theorem dX0_takenBehind_46 : decode cX0_takenBehind 46 = .ok (.aload_n 0, 1) := by decide +kernel
theorem dX0_takenBehind_47 : decode cX0_takenBehind 47 = .ok (.getfield 11, 3) := by decide +kernel
theorem dX0_takenBehind_50 : decode cX0_takenBehind 50 = .ok (.iload_n 3, 1) := by decide +kernel
theorem dX0_takenBehind_51 : decode cX0_takenBehind 51 = .ok (.aaload, 1) := by decide +kernel
theorem dX0_takenBehind_52 : decode cX0_takenBehind 52 = .ok (.getfield 111, 3) := by decide +kernel
theorem dX0_takenBehind_55 : decode cX0_takenBehind 55 = .ok (.ior, 1) := by decide +kernel
theorem dX0_takenBehind_56 : decode cX0_takenBehind 56 = .ok (.istore_n 2, 1) := by decide +kernel
theorem dX0_takenBehind_57 : decode cX0_takenBehind 57 = .ok (.iinc 3 1, 3) := by decide +kernel
theorem dX0_takenBehind_60 : decode cX0_takenBehind 60 = .ok (.goto (-56), 3) := by decide +kernel
theorem dX0_takenBehind_63 : decode cX0_takenBehind 63 = .ok (.iload_n 2, 1) := by decide +kernel
theorem dX0_takenBehind_64 : decode cX0_takenBehind 64 = .ok (.ireturn, 1) := by decide +kernel
theorem dX0_columnsOf_0 : decode cX0_columnsOf 0 = .ok (.iconst 0, 1) := by decide +kernel
theorem dX0_columnsOf_1 : decode cX0_columnsOf 1 = .ok (.istore_n 2, 1) := by decide +kernel
theorem dX0_columnsOf_2 : decode cX0_columnsOf 2 = .ok (.iconst 0, 1) := by decide +kernel
theorem dX0_columnsOf_3 : decode cX0_columnsOf 3 = .ok (.istore_n 3, 1) := by decide +kernel
theorem dX0_columnsOf_4 : decode cX0_columnsOf 4 = .ok (.iload_n 3, 1) := by decide +kernel
theorem dX0_columnsOf_5 : decode cX0_columnsOf 5 = .ok (.aload_n 0, 1) := by decide +kernel
theorem dX0_columnsOf_6 : decode cX0_columnsOf 6 = .ok (.getfield 45, 3) := by decide +kernel
theorem dX0_columnsOf_9 : decode cX0_columnsOf 9 = .ok (.if_icmp .ge 46, 3) := by decide +kernel
theorem dX0_columnsOf_12 : decode cX0_columnsOf 12 = .ok (.aload_n 0, 1) := by decide +kernel
theorem dX0_columnsOf_13 : decode cX0_columnsOf 13 = .ok (.getfield 11, 3) := by decide +kernel
theorem dX0_columnsOf_16 : decode cX0_columnsOf 16 = .ok (.iload_n 3, 1) := by decide +kernel
theorem dX0_columnsOf_17 : decode cX0_columnsOf 17 = .ok (.aaload, 1) := by decide +kernel
theorem dX0_columnsOf_18 : decode cX0_columnsOf 18 = .ok (.getfield 98, 3) := by decide +kernel
theorem dX0_columnsOf_21 : decode cX0_columnsOf 21 = .ok (.ifCond .ne 28, 3) := by decide +kernel
theorem dX0_columnsOf_24 : decode cX0_columnsOf 24 = .ok (.aload_n 0, 1) := by decide +kernel
theorem dX0_columnsOf_25 : decode cX0_columnsOf 25 = .ok (.getfield 11, 3) := by decide +kernel
theorem dX0_columnsOf_28 : decode cX0_columnsOf 28 = .ok (.iload_n 3, 1) := by decide +kernel
theorem dX0_columnsOf_29 : decode cX0_columnsOf 29 = .ok (.aaload, 1) := by decide +kernel
theorem dX0_columnsOf_30 : decode cX0_columnsOf 30 = .ok (.getfield 114, 3) := by decide +kernel
theorem dX0_columnsOf_33 : decode cX0_columnsOf 33 = .ok (.iload_n 1, 1) := by decide +kernel
theorem dX0_columnsOf_34 : decode cX0_columnsOf 34 = .ok (.if_icmp .ne 15, 3) := by decide +kernel
theorem dX0_columnsOf_37 : decode cX0_columnsOf 37 = .ok (.iload_n 2, 1) := by decide +kernel
theorem dX0_columnsOf_38 : decode cX0_columnsOf 38 = .ok (.aload_n 0, 1) := by decide +kernel
theorem dX0_columnsOf_39 : decode cX0_columnsOf 39 = .ok (.getfield 11, 3) := by decide +kernel
theorem dX0_columnsOf_42 : decode cX0_columnsOf 42 = .ok (.iload_n 3, 1) := by decide +kernel
theorem dX0_columnsOf_43 : decode cX0_columnsOf 43 = .ok (.aaload, 1) := by decide +kernel
theorem dX0_columnsOf_44 : decode cX0_columnsOf 44 = .ok (.getfield 111, 3) := by decide +kernel
theorem dX0_columnsOf_47 : decode cX0_columnsOf 47 = .ok (.ior, 1) := by decide +kernel
theorem dX0_columnsOf_48 : decode cX0_columnsOf 48 = .ok (.istore_n 2, 1) := by decide +kernel
theorem dX0_columnsOf_49 : decode cX0_columnsOf 49 = .ok (.iinc 3 1, 3) := by decide +kernel
theorem dX0_columnsOf_52 : decode cX0_columnsOf 52 = .ok (.goto (-48), 3) := by decide +kernel
theorem dX0_columnsOf_55 : decode cX0_columnsOf 55 = .ok (.iload_n 2, 1) := by decide +kernel
theorem dX0_columnsOf_56 : decode cX0_columnsOf 56 = .ok (.ireturn, 1) := by decide +kernel
theorem dX0_linesOn_0 : decode cX0_linesOn 0 = .ok (.iconst 0, 1) := by decide +kernel
theorem dX0_linesOn_1 : decode cX0_linesOn 1 = .ok (.istore_n 2, 1) := by decide +kernel
theorem dX0_linesOn_2 : decode cX0_linesOn 2 = .ok (.iconst 0, 1) := by decide +kernel
theorem dX0_linesOn_3 : decode cX0_linesOn 3 = .ok (.istore_n 3, 1) := by decide +kernel
theorem dX0_linesOn_4 : decode cX0_linesOn 4 = .ok (.iload_n 3, 1) := by decide +kernel
theorem dX0_linesOn_5 : decode cX0_linesOn 5 = .ok (.aload_n 0, 1) := by decide +kernel
theorem dX0_linesOn_6 : decode cX0_linesOn 6 = .ok (.getfield 45, 3) := by decide +kernel
theorem dX0_linesOn_9 : decode cX0_linesOn 9 = .ok (.if_icmp .ge 41, 3) := by decide +kernel
theorem dX0_linesOn_12 : decode cX0_linesOn 12 = .ok (.aload_n 0, 1) := by decide +kernel
theorem dX0_linesOn_13 : decode cX0_linesOn 13 = .ok (.getfield 11, 3) := by decide +kernel
theorem dX0_linesOn_16 : decode cX0_linesOn 16 = .ok (.iload_n 3, 1) := by decide +kernel
theorem dX0_linesOn_17 : decode cX0_linesOn 17 = .ok (.aaload, 1) := by decide +kernel
theorem dX0_linesOn_18 : decode cX0_linesOn 18 = .ok (.getfield 98, 3) := by decide +kernel
theorem dX0_linesOn_21 : decode cX0_linesOn 21 = .ok (.ifCond .ne 23, 3) := by decide +kernel
theorem dX0_linesOn_24 : decode cX0_linesOn 24 = .ok (.aload_n 0, 1) := by decide +kernel
theorem dX0_linesOn_25 : decode cX0_linesOn 25 = .ok (.getfield 11, 3) := by decide +kernel
theorem dX0_linesOn_28 : decode cX0_linesOn 28 = .ok (.iload_n 3, 1) := by decide +kernel
theorem dX0_linesOn_29 : decode cX0_linesOn 29 = .ok (.aaload, 1) := by decide +kernel
theorem dX0_linesOn_30 : decode cX0_linesOn 30 = .ok (.getfield 111, 3) := by decide +kernel
theorem dX0_linesOn_33 : decode cX0_linesOn 33 = .ok (.iload_n 1, 1) := by decide +kernel
theorem dX0_linesOn_34 : decode cX0_linesOn 34 = .ok (.iand, 1) := by decide +kernel
theorem dX0_linesOn_35 : decode cX0_linesOn 35 = .ok (.ifCond .eq 9, 3) := by decide +kernel
theorem dX0_linesOn_38 : decode cX0_linesOn 38 = .ok (.iload_n 2, 1) := by decide +kernel
theorem dX0_linesOn_39 : decode cX0_linesOn 39 = .ok (.iconst 1, 1) := by decide +kernel
theorem dX0_linesOn_40 : decode cX0_linesOn 40 = .ok (.iload_n 3, 1) := by decide +kernel
theorem dX0_linesOn_41 : decode cX0_linesOn 41 = .ok (.ishl, 1) := by decide +kernel
theorem dX0_linesOn_42 : decode cX0_linesOn 42 = .ok (.ior, 1) := by decide +kernel
theorem dX0_linesOn_43 : decode cX0_linesOn 43 = .ok (.istore_n 2, 1) := by decide +kernel
theorem dX0_linesOn_44 : decode cX0_linesOn 44 = .ok (.iinc 3 1, 3) := by decide +kernel
theorem dX0_linesOn_47 : decode cX0_linesOn 47 = .ok (.goto (-43), 3) := by decide +kernel
theorem dX0_linesOn_50 : decode cX0_linesOn 50 = .ok (.iload_n 2, 1) := by decide +kernel
theorem dX0_linesOn_51 : decode cX0_linesOn 51 = .ok (.ireturn, 1) := by decide +kernel
set_option maxRecDepth 20000 in
theorem ggX0_lawGives_X1_workOut : GoodIn wsX0_lawGives wsX1_workOut := goodIn_r _ [6, 7, 8, 9, 10, 11, 12, 13, 14, 15, 16, 17, 18, 19, 20, 21, 22, 5, 23, 24, 25, 26, 47, 48, 49, 50, 51] (by decide +kernel) (by decide +kernel)
set_option maxRecDepth 20000 in
theorem gX0_lawGives_X1_workOut : GoodIn wsX0_lawGives (wsV RX0 120 RX1 yX1_workOut wsX1_workOut) := goodIn_app (goodIn_of _ (by decide +kernel)) ggX0_lawGives_X1_workOut
set_option maxRecDepth 20000 in
theorem ggX0_lawGives_X9_held : GoodIn wsX0_lawGives wsX9_held := goodIn_r _ [29, 30, 31, 32, 33, 34, 35, 36] (by decide +kernel) (by decide +kernel)
set_option maxRecDepth 20000 in
theorem gX0_lawGives_X9_held_n124 : GoodIn wsX0_lawGives (wsX9_held) := ggX0_lawGives_X9_held
theorem dX0_lawGives_0 : decode cX0_lawGives 0 = .ok (.aload_n 0, 1) := by decide +kernel
theorem dX0_lawGives_1 : decode cX0_lawGives 1 = .ok (.getfield 40, 3) := by decide +kernel
theorem dX0_lawGives_4 : decode cX0_lawGives 4 = .ok (.iload_n 1, 1) := by decide +kernel
theorem dX0_lawGives_5 : decode cX0_lawGives 5 = .ok (.aaload, 1) := by decide +kernel
theorem dX0_lawGives_6 : decode cX0_lawGives 6 = .ok (.getfield 117, 3) := by decide +kernel
theorem dX0_lawGives_9 : decode cX0_lawGives 9 = .ok (.ifCond .eq 21, 3) := by decide +kernel
theorem dX0_lawGives_12 : decode cX0_lawGives 12 = .ok (.aload_n 0, 1) := by decide +kernel
theorem dX0_lawGives_13 : decode cX0_lawGives 13 = .ok (.getfield 40, 3) := by decide +kernel
theorem dX0_lawGives_16 : decode cX0_lawGives 16 = .ok (.iload_n 1, 1) := by decide +kernel
theorem dX0_lawGives_17 : decode cX0_lawGives 17 = .ok (.aaload, 1) := by decide +kernel
theorem dX0_lawGives_18 : decode cX0_lawGives 18 = .ok (.iload_n 2, 1) := by decide +kernel
theorem dX0_lawGives_19 : decode cX0_lawGives 19 = .ok (.iload_n 3, 1) := by decide +kernel
theorem dX0_lawGives_20 : decode cX0_lawGives 20 = .ok (.iload 4, 2) := by decide +kernel
theorem dX0_lawGives_22 : decode cX0_lawGives 22 = .ok (.invokevirtual 120, 3) := by decide +kernel
theorem dX0_lawGives_25 : decode cX0_lawGives 25 = .ok (.istore 5, 2) := by decide +kernel
theorem dX0_lawGives_27 : decode cX0_lawGives 27 = .ok (.goto 31, 3) := by decide +kernel
theorem dX0_lawGives_30 : decode cX0_lawGives 30 = .ok (.iload_n 1, 1) := by decide +kernel
theorem dX0_lawGives_31 : decode cX0_lawGives 31 = .ok (.ifCond .ne 21, 3) := by decide +kernel
theorem dX0_lawGives_34 : decode cX0_lawGives 34 = .ok (.iload 4, 2) := by decide +kernel
theorem dX0_lawGives_36 : decode cX0_lawGives 36 = .ok (.iconst 1, 1) := by decide +kernel
theorem dX0_lawGives_37 : decode cX0_lawGives 37 = .ok (.if_icmp .ne 9, 3) := by decide +kernel
theorem dX0_lawGives_40 : decode cX0_lawGives 40 = .ok (.iload_n 2, 1) := by decide +kernel
theorem dX0_lawGives_41 : decode cX0_lawGives 41 = .ok (.iconst 2, 1) := by decide +kernel
theorem dX0_lawGives_42 : decode cX0_lawGives 42 = .ok (.idiv, 1) := by decide +kernel
theorem dX0_lawGives_43 : decode cX0_lawGives 43 = .ok (.goto 4, 3) := by decide +kernel
theorem dX0_lawGives_46 : decode cX0_lawGives 46 = .ok (.iload_n 2, 1) := by decide +kernel
theorem dX0_lawGives_47 : decode cX0_lawGives 47 = .ok (.istore 5, 2) := by decide +kernel
theorem dX0_lawGives_49 : decode cX0_lawGives 49 = .ok (.goto 9, 3) := by decide +kernel
theorem dX0_lawGives_52 : decode cX0_lawGives 52 = .ok (.bipush 10, 2) := by decide +kernel
theorem dX0_lawGives_54 : decode cX0_lawGives 54 = .ok (.iload_n 2, 1) := by decide +kernel
theorem dX0_lawGives_55 : decode cX0_lawGives 55 = .ok (.imul, 1) := by decide +kernel
theorem dX0_lawGives_56 : decode cX0_lawGives 56 = .ok (.istore 5, 2) := by decide +kernel
theorem dX0_lawGives_58 : decode cX0_lawGives 58 = .ok (.iload 5, 2) := by decide +kernel
theorem dX0_lawGives_60 : decode cX0_lawGives 60 = .ok (.sipush 999, 3) := by decide +kernel
theorem dX0_lawGives_63 : decode cX0_lawGives 63 = .ok (.invokestatic 124, 3) := by decide +kernel
theorem dX0_lawGives_66 : decode cX0_lawGives 66 = .ok (.ireturn, 1) := by decide +kernel
theorem dX0_passDay_0 : decode cX0_passDay 0 = .ok (.iconst 0, 1) := by decide +kernel
theorem dX0_passDay_1 : decode cX0_passDay 1 = .ok (.istore_n 1, 1) := by decide +kernel
theorem dX0_passDay_2 : decode cX0_passDay 2 = .ok (.iload_n 1, 1) := by decide +kernel
theorem dX0_passDay_3 : decode cX0_passDay 3 = .ok (.iconst 5, 1) := by decide +kernel
theorem dX0_passDay_4 : decode cX0_passDay 4 = .ok (.if_icmp .ge 38, 3) := by decide +kernel
theorem dX0_passDay_7 : decode cX0_passDay 7 = .ok (.aload_n 0, 1) := by decide +kernel
theorem dX0_passDay_8 : decode cX0_passDay 8 = .ok (.getfield 52, 3) := by decide +kernel
theorem dX0_passDay_11 : decode cX0_passDay 11 = .ok (.iload_n 1, 1) := by decide +kernel
theorem dX0_passDay_12 : decode cX0_passDay 12 = .ok (.iconst 2, 1) := by decide +kernel
theorem dX0_passDay_13 : decode cX0_passDay 13 = .ok (.iadd, 1) := by decide +kernel
theorem dX0_passDay_14 : decode cX0_passDay 14 = .ok (.irem, 1) := by decide +kernel
theorem dX0_passDay_15 : decode cX0_passDay 15 = .ok (.ifCond .ne 21, 3) := by decide +kernel
theorem dX0_passDay_18 : decode cX0_passDay 18 = .ok (.aload_n 0, 1) := by decide +kernel
theorem dX0_passDay_19 : decode cX0_passDay 19 = .ok (.getfield 17, 3) := by decide +kernel
theorem dX0_passDay_22 : decode cX0_passDay 22 = .ok (.iload_n 1, 1) := by decide +kernel
theorem dX0_passDay_23 : decode cX0_passDay 23 = .ok (.iconst 0, 1) := by decide +kernel
theorem dX0_passDay_24 : decode cX0_passDay 24 = .ok (.aload_n 0, 1) := by decide +kernel
theorem dX0_passDay_25 : decode cX0_passDay 25 = .ok (.getfield 17, 3) := by decide +kernel
theorem dX0_passDay_28 : decode cX0_passDay 28 = .ok (.iload_n 1, 1) := by decide +kernel
theorem dX0_passDay_29 : decode cX0_passDay 29 = .ok (.iaload, 1) := by decide +kernel
theorem dX0_passDay_30 : decode cX0_passDay 30 = .ok (.iconst 1, 1) := by decide +kernel
theorem dX0_passDay_31 : decode cX0_passDay 31 = .ok (.isub, 1) := by decide +kernel
theorem dX0_passDay_32 : decode cX0_passDay 32 = .ok (.invokestatic 127, 3) := by decide +kernel
theorem dX0_passDay_35 : decode cX0_passDay 35 = .ok (.iastore, 1) := by decide +kernel
theorem dX0_passDay_36 : decode cX0_passDay 36 = .ok (.iinc 1 1, 3) := by decide +kernel
theorem dX0_passDay_39 : decode cX0_passDay 39 = .ok (.goto (-37), 3) := by decide +kernel
theorem dX0_passDay_42 : decode cX0_passDay 42 = .ok (.aload_n 0, 1) := by decide +kernel
theorem dX0_passDay_43 : decode cX0_passDay 43 = .ok (.dup, 1) := by decide +kernel
theorem dX0_passDay_44 : decode cX0_passDay 44 = .ok (.getfield 52, 3) := by decide +kernel
theorem dX0_passDay_47 : decode cX0_passDay 47 = .ok (.iconst 1, 1) := by decide +kernel
theorem dX0_passDay_48 : decode cX0_passDay 48 = .ok (.iadd, 1) := by decide +kernel
theorem dX0_passDay_49 : decode cX0_passDay 49 = .ok (.putfield 52, 3) := by decide +kernel
theorem dX0_passDay_52 : decode cX0_passDay 52 = .ok (.return_, 1) := by decide +kernel
set_option maxRecDepth 20000 in
theorem ggX0_passDayByDraws_X0_draw : GoodIn wsX0_passDayByDraws wsX0_draw := goodIn_r _ [7, 8, 9, 113, 114, 115, 116, 117, 118, 119, 120, 121, 122] (by decide +kernel) (by decide +kernel)
set_option maxRecDepth 20000 in
theorem gX0_passDayByDraws_X0_draw : GoodIn wsX0_passDayByDraws (wsV RX0 130 RX0 yX0_draw wsX0_draw) := goodIn_app (goodIn_of _ (by decide +kernel)) ggX0_passDayByDraws_X0_draw
set_option maxRecDepth 20000 in
theorem ggX0_passDayByDraws_X0_mayGo : GoodIn wsX0_passDayByDraws wsX0_mayGo := goodIn_r _ [13, 14, 15, 16, 17, 18, 19, 20, 21, 22, 23, 24, 25, 26, 27, 28, 29, 30, 31, 32, 33, 113, 114, 115, 116, 117, 118, 119, 120, 121, 122, 123, 124, 125, 126, 127, 128, 129] (by decide +kernel) (by decide +kernel)
set_option maxRecDepth 20000 in
theorem gX0_passDayByDraws_X0_mayGo : GoodIn wsX0_passDayByDraws (wsV RX0 134 RX0 yX0_mayGo wsX0_mayGo) := goodIn_app (goodIn_of _ (by decide +kernel)) ggX0_passDayByDraws_X0_mayGo
set_option maxRecDepth 20000 in
theorem ggX0_passDayByDraws_X0_wipeLine : GoodIn wsX0_passDayByDraws wsX0_wipeLine := goodIn_r _ [37, 2, 14, 38, 39, 40, 41, 26, 42, 43, 44, 45, 6, 46, 47, 48, 49, 19, 50, 23, 24, 25, 27, 33, 32, 51, 52, 53, 54, 55, 56, 57, 58, 59, 60, 61, 62, 63, 64, 65, 66, 67, 68, 69, 70, 71, 72, 73, 74, 75, 76, 77, 78, 79, 80, 81, 82, 83, 84, 85, 86, 113, 114, 115, 116, 117, 118, 119, 120, 121, 122, 123, 124, 125, 126, 127, 128, 129, 130, 131, 132, 133, 134] (by decide +kernel) (by decide +kernel)
set_option maxRecDepth 20000 in
theorem gX0_passDayByDraws_X0_wipeLine : GoodIn wsX0_passDayByDraws (wsV RX0 138 RX0 yX0_wipeLine wsX0_wipeLine) := goodIn_app (goodIn_of _ (by decide +kernel)) ggX0_passDayByDraws_X0_wipeLine
set_option maxRecDepth 20000 in
theorem ggX0_passDayByDraws_X0_taken : GoodIn wsX0_passDayByDraws wsX0_taken := goodIn_r _ [90, 91, 92, 93, 6, 94, 1, 14, 2, 15, 16, 17, 18, 19, 20, 21, 22, 23, 24, 25, 26, 27, 28, 29, 30, 31, 32, 33, 113, 114, 115, 116, 117, 118, 119, 120, 121, 122, 123, 124, 125, 126, 127, 128, 129] (by decide +kernel) (by decide +kernel)
set_option maxRecDepth 20000 in
theorem gX0_passDayByDraws_X0_taken : GoodIn wsX0_passDayByDraws (wsV RX0 141 RX0 yX0_taken wsX0_taken) := goodIn_app (goodIn_of _ (by decide +kernel)) ggX0_passDayByDraws_X0_taken
set_option maxRecDepth 20000 in
theorem ggX0_passDayByDraws_X9_isOf : GoodIn wsX0_passDayByDraws wsX9_isOf := goodIn_r _ [96] (by decide +kernel) (by decide +kernel)
set_option maxRecDepth 20000 in
theorem gX0_passDayByDraws_X9_isOf_n144 : GoodIn wsX0_passDayByDraws (wsX9_isOf) := ggX0_passDayByDraws_X9_isOf
set_option maxRecDepth 20000 in
theorem ggX0_passDayByDraws_X0_addLine : GoodIn wsX0_passDayByDraws wsX0_addLine := goodIn_r _ [100, 1, 14, 2, 101, 102, 103, 19, 104, 32, 33, 105, 106, 23, 51, 21, 113, 114, 115, 116, 117, 118, 119, 120, 121, 122, 123, 124, 125, 126, 127, 128, 129] (by decide +kernel) (by decide +kernel)
set_option maxRecDepth 20000 in
theorem gX0_passDayByDraws_X0_addLine : GoodIn wsX0_passDayByDraws (wsV RX0 147 RX0 yX0_addLine wsX0_addLine) := goodIn_app (goodIn_of _ (by decide +kernel)) ggX0_passDayByDraws_X0_addLine
set_option maxRecDepth 20000 in
theorem ggX0_passDayByDraws_X0_passDay : GoodIn wsX0_passDayByDraws wsX0_passDay := goodIn_r _ [110, 2, 111, 112, 25, 26, 27, 113, 114, 115, 116, 117, 118, 119, 120, 121, 122] (by decide +kernel) (by decide +kernel)
set_option maxRecDepth 20000 in
theorem gX0_passDayByDraws_X0_passDay : GoodIn wsX0_passDayByDraws (wsV RX0 150 RX0 yX0_passDay wsX0_passDay) := goodIn_app (goodIn_of _ (by decide +kernel)) ggX0_passDayByDraws_X0_passDay
theorem dX0_passDayByDraws_0 : decode cX0_passDayByDraws 0 = .ok (.iconst 0, 1) := by decide +kernel
theorem dX0_passDayByDraws_1 : decode cX0_passDayByDraws 1 = .ok (.istore_n 1, 1) := by decide +kernel
theorem dX0_passDayByDraws_2 : decode cX0_passDayByDraws 2 = .ok (.aload_n 0, 1) := by decide +kernel
theorem dX0_passDayByDraws_3 : decode cX0_passDayByDraws 3 = .ok (.getfield 45, 3) := by decide +kernel
theorem dX0_passDayByDraws_6 : decode cX0_passDayByDraws 6 = .ok (.ifCond .le 33, 3) := by decide +kernel
theorem dX0_passDayByDraws_9 : decode cX0_passDayByDraws 9 = .ok (.aload_n 0, 1) := by decide +kernel
theorem dX0_passDayByDraws_10 : decode cX0_passDayByDraws 10 = .ok (.invokevirtual 130, 3) := by decide +kernel
theorem dX0_passDayByDraws_13 : decode cX0_passDayByDraws 13 = .ok (.aload_n 0, 1) := by decide +kernel
theorem dX0_passDayByDraws_14 : decode cX0_passDayByDraws 14 = .ok (.getfield 45, 3) := by decide +kernel
theorem dX0_passDayByDraws_17 : decode cX0_passDayByDraws 17 = .ok (.irem, 1) := by decide +kernel
theorem dX0_passDayByDraws_18 : decode cX0_passDayByDraws 18 = .ok (.istore_n 2, 1) := by decide +kernel
theorem dX0_passDayByDraws_19 : decode cX0_passDayByDraws 19 = .ok (.aload_n 0, 1) := by decide +kernel
theorem dX0_passDayByDraws_20 : decode cX0_passDayByDraws 20 = .ok (.iload_n 2, 1) := by decide +kernel
theorem dX0_passDayByDraws_21 : decode cX0_passDayByDraws 21 = .ok (.aload_n 0, 1) := by decide +kernel
theorem dX0_passDayByDraws_22 : decode cX0_passDayByDraws 22 = .ok (.getfield 52, 3) := by decide +kernel
theorem dX0_passDayByDraws_25 : decode cX0_passDayByDraws 25 = .ok (.invokevirtual 134, 3) := by decide +kernel
theorem dX0_passDayByDraws_28 : decode cX0_passDayByDraws 28 = .ok (.ifCond .eq 11, 3) := by decide +kernel
theorem dX0_passDayByDraws_31 : decode cX0_passDayByDraws 31 = .ok (.aload_n 0, 1) := by decide +kernel
theorem dX0_passDayByDraws_32 : decode cX0_passDayByDraws 32 = .ok (.iload_n 2, 1) := by decide +kernel
theorem dX0_passDayByDraws_33 : decode cX0_passDayByDraws 33 = .ok (.invokevirtual 138, 3) := by decide +kernel
theorem dX0_passDayByDraws_36 : decode cX0_passDayByDraws 36 = .ok (.pop, 1) := by decide +kernel
theorem dX0_passDayByDraws_37 : decode cX0_passDayByDraws 37 = .ok (.iconst 1, 1) := by decide +kernel
theorem dX0_passDayByDraws_38 : decode cX0_passDayByDraws 38 = .ok (.istore_n 1, 1) := by decide +kernel
theorem dX0_passDayByDraws_39 : decode cX0_passDayByDraws 39 = .ok (.aload_n 0, 1) := by decide +kernel
theorem dX0_passDayByDraws_40 : decode cX0_passDayByDraws 40 = .ok (.invokevirtual 130, 3) := by decide +kernel
theorem dX0_passDayByDraws_43 : decode cX0_passDayByDraws 43 = .ok (.bipush 12, 2) := by decide +kernel
theorem dX0_passDayByDraws_45 : decode cX0_passDayByDraws 45 = .ok (.irem, 1) := by decide +kernel
theorem dX0_passDayByDraws_46 : decode cX0_passDayByDraws 46 = .ok (.istore_n 2, 1) := by decide +kernel
theorem dX0_passDayByDraws_47 : decode cX0_passDayByDraws 47 = .ok (.iload_n 2, 1) := by decide +kernel
theorem dX0_passDayByDraws_48 : decode cX0_passDayByDraws 48 = .ok (.aload_n 0, 1) := by decide +kernel
theorem dX0_passDayByDraws_49 : decode cX0_passDayByDraws 49 = .ok (.invokevirtual 141, 3) := by decide +kernel
theorem dX0_passDayByDraws_52 : decode cX0_passDayByDraws 52 = .ok (.invokestatic 144, 3) := by decide +kernel
theorem dX0_passDayByDraws_55 : decode cX0_passDayByDraws 55 = .ok (.ifCond .ne 41, 3) := by decide +kernel
theorem dX0_passDayByDraws_58 : decode cX0_passDayByDraws 58 = .ok (.aload_n 0, 1) := by decide +kernel
theorem dX0_passDayByDraws_59 : decode cX0_passDayByDraws 59 = .ok (.getfield 45, 3) := by decide +kernel
theorem dX0_passDayByDraws_62 : decode cX0_passDayByDraws 62 = .ok (.bipush 10, 2) := by decide +kernel
theorem dX0_passDayByDraws_64 : decode cX0_passDayByDraws 64 = .ok (.if_icmp .ge 32, 3) := by decide +kernel
theorem dX0_passDayByDraws_67 : decode cX0_passDayByDraws 67 = .ok (.aload_n 0, 1) := by decide +kernel
theorem dX0_passDayByDraws_68 : decode cX0_passDayByDraws 68 = .ok (.invokevirtual 130, 3) := by decide +kernel
theorem dX0_passDayByDraws_71 : decode cX0_passDayByDraws 71 = .ok (.bipush 7, 2) := by decide +kernel
theorem dX0_passDayByDraws_73 : decode cX0_passDayByDraws 73 = .ok (.irem, 1) := by decide +kernel
theorem dX0_passDayByDraws_74 : decode cX0_passDayByDraws 74 = .ok (.istore_n 3, 1) := by decide +kernel
theorem dX0_passDayByDraws_75 : decode cX0_passDayByDraws 75 = .ok (.aload_n 0, 1) := by decide +kernel
theorem dX0_passDayByDraws_76 : decode cX0_passDayByDraws 76 = .ok (.invokevirtual 130, 3) := by decide +kernel
theorem dX0_passDayByDraws_79 : decode cX0_passDayByDraws 79 = .ok (.bipush 6, 2) := by decide +kernel
theorem dX0_passDayByDraws_81 : decode cX0_passDayByDraws 81 = .ok (.irem, 1) := by decide +kernel
theorem dX0_passDayByDraws_82 : decode cX0_passDayByDraws 82 = .ok (.istore 4, 2) := by decide +kernel
theorem dX0_passDayByDraws_84 : decode cX0_passDayByDraws 84 = .ok (.aload_n 0, 1) := by decide +kernel
theorem dX0_passDayByDraws_85 : decode cX0_passDayByDraws 85 = .ok (.iload_n 3, 1) := by decide +kernel
theorem dX0_passDayByDraws_86 : decode cX0_passDayByDraws 86 = .ok (.iconst 0, 1) := by decide +kernel
theorem dX0_passDayByDraws_87 : decode cX0_passDayByDraws 87 = .ok (.iconst 1, 1) := by decide +kernel
theorem dX0_passDayByDraws_88 : decode cX0_passDayByDraws 88 = .ok (.iload_n 2, 1) := by decide +kernel
theorem dX0_passDayByDraws_89 : decode cX0_passDayByDraws 89 = .ok (.ishl, 1) := by decide +kernel
theorem dX0_passDayByDraws_90 : decode cX0_passDayByDraws 90 = .ok (.iload 4, 2) := by decide +kernel
theorem dX0_passDayByDraws_92 : decode cX0_passDayByDraws 92 = .ok (.invokevirtual 147, 3) := by decide +kernel
theorem dX0_passDayByDraws_95 : decode cX0_passDayByDraws 95 = .ok (.pop, 1) := by decide +kernel
theorem dX0_passDayByDraws_96 : decode cX0_passDayByDraws 96 = .ok (.aload_n 0, 1) := by decide +kernel
theorem dX0_passDayByDraws_97 : decode cX0_passDayByDraws 97 = .ok (.invokevirtual 150, 3) := by decide +kernel
theorem dX0_passDayByDraws_100 : decode cX0_passDayByDraws 100 = .ok (.iload_n 1, 1) := by decide +kernel
theorem dX0_passDayByDraws_101 : decode cX0_passDayByDraws 101 = .ok (.ireturn, 1) := by decide +kernel
theorem dX0_draw_0 : decode cX0_draw 0 = .ok (.aload_n 0, 1) := by decide +kernel
theorem dX0_draw_1 : decode cX0_draw 1 = .ok (.aload_n 0, 1) := by decide +kernel
theorem dX0_draw_2 : decode cX0_draw 2 = .ok (.getfield 21, 3) := by decide +kernel
theorem dX0_draw_5 : decode cX0_draw 5 = .ok (.ldc 153, 2) := by decide +kernel
theorem dX0_draw_7 : decode cX0_draw 7 = .ok (.imul, 1) := by decide +kernel
theorem dX0_draw_8 : decode cX0_draw 8 = .ok (.sipush 12345, 3) := by decide +kernel
theorem dX0_draw_11 : decode cX0_draw 11 = .ok (.iadd, 1) := by decide +kernel
theorem dX0_draw_12 : decode cX0_draw 12 = .ok (.putfield 21, 3) := by decide +kernel
theorem dX0_draw_15 : decode cX0_draw 15 = .ok (.aload_n 0, 1) := by decide +kernel
theorem dX0_draw_16 : decode cX0_draw 16 = .ok (.getfield 21, 3) := by decide +kernel
theorem dX0_draw_19 : decode cX0_draw 19 = .ok (.bipush 8, 2) := by decide +kernel
theorem dX0_draw_21 : decode cX0_draw 21 = .ok (.iushr, 1) := by decide +kernel
theorem dX0_draw_22 : decode cX0_draw 22 = .ok (.ireturn, 1) := by decide +kernel
set_option maxRecDepth 20000 in
theorem ggX1_init_X6_init : GoodIn wsX1_init wsX6_init := goodIn_r _ [11, 12, 2, 3, 13, 14, 15, 16, 17, 18, 19, 20] (by decide +kernel) (by decide +kernel)
set_option maxRecDepth 20000 in
theorem gX1_init_X6_init : GoodIn wsX1_init (wsX6_init) := ggX1_init_X6_init
theorem dX1_init_0 : decode cX1_init 0 = .ok (.aload_n 0, 1) := by decide +kernel
theorem dX1_init_1 : decode cX1_init 1 = .ok (.invokespecial 1, 3) := by decide +kernel
theorem dX1_init_4 : decode cX1_init 4 = .ok (.aload_n 0, 1) := by decide +kernel
theorem dX1_init_5 : decode cX1_init 5 = .ok (.new 7, 3) := by decide +kernel
theorem dX1_init_8 : decode cX1_init 8 = .ok (.dup, 1) := by decide +kernel
theorem dX1_init_9 : decode cX1_init 9 = .ok (.bipush 60, 2) := by decide +kernel
theorem dX1_init_11 : decode cX1_init 11 = .ok (.invokespecial 11, 3) := by decide +kernel
theorem dX1_init_14 : decode cX1_init 14 = .ok (.putfield 14, 3) := by decide +kernel
theorem dX1_init_17 : decode cX1_init 17 = .ok (.aload_n 0, 1) := by decide +kernel
theorem dX1_init_18 : decode cX1_init 18 = .ok (.new 7, 3) := by decide +kernel
theorem dX1_init_21 : decode cX1_init 21 = .ok (.dup, 1) := by decide +kernel
theorem dX1_init_22 : decode cX1_init 22 = .ok (.bipush 60, 2) := by decide +kernel
theorem dX1_init_24 : decode cX1_init 24 = .ok (.invokespecial 11, 3) := by decide +kernel
theorem dX1_init_27 : decode cX1_init 27 = .ok (.putfield 18, 3) := by decide +kernel
theorem dX1_init_30 : decode cX1_init 30 = .ok (.return_, 1) := by decide +kernel
set_option maxRecDepth 20000 in
theorem ggX1_take_X6_copyFrom : GoodIn wsX1_take wsX6_copyFrom := goodIn_r _ [7, 8, 9, 10, 11, 12, 6, 13, 14, 15, 16, 17, 21, 22] (by decide +kernel) (by decide +kernel)
set_option maxRecDepth 20000 in
theorem gX1_take_X6_copyFrom : GoodIn wsX1_take (wsV RX1 21 RX6 yX6_copyFrom wsX6_copyFrom) := goodIn_app (goodIn_of _ (by decide +kernel)) ggX1_take_X6_copyFrom
theorem dX1_take_0 : decode cX1_take 0 = .ok (.aload_n 0, 1) := by decide +kernel
theorem dX1_take_1 : decode cX1_take 1 = .ok (.getfield 14, 3) := by decide +kernel
theorem dX1_take_4 : decode cX1_take 4 = .ok (.aload_n 1, 1) := by decide +kernel
theorem dX1_take_5 : decode cX1_take 5 = .ok (.invokevirtual 21, 3) := by decide +kernel
theorem dX1_take_8 : decode cX1_take 8 = .ok (.aload_n 0, 1) := by decide +kernel
theorem dX1_take_9 : decode cX1_take 9 = .ok (.iconst 1, 1) := by decide +kernel
theorem dX1_take_10 : decode cX1_take 10 = .ok (.putfield 25, 3) := by decide +kernel
theorem dX1_take_13 : decode cX1_take 13 = .ok (.return_, 1) := by decide +kernel
set_option maxRecDepth 20000 in
theorem ggX1_copyFrom_X6_copyFrom : GoodIn wsX1_copyFrom wsX6_copyFrom := goodIn_r _ [7, 8, 9, 10, 11, 12, 6, 13, 14, 15, 16, 17, 21, 22] (by decide +kernel) (by decide +kernel)
set_option maxRecDepth 20000 in
theorem gX1_copyFrom_X6_copyFrom : GoodIn wsX1_copyFrom (wsV RX1 21 RX6 yX6_copyFrom wsX6_copyFrom) := goodIn_app (goodIn_of _ (by decide +kernel)) ggX1_copyFrom_X6_copyFrom
theorem dX1_copyFrom_0 : decode cX1_copyFrom 0 = .ok (.aload_n 0, 1) := by decide +kernel
theorem dX1_copyFrom_1 : decode cX1_copyFrom 1 = .ok (.getfield 14, 3) := by decide +kernel
theorem dX1_copyFrom_4 : decode cX1_copyFrom 4 = .ok (.aload_n 1, 1) := by decide +kernel
theorem dX1_copyFrom_5 : decode cX1_copyFrom 5 = .ok (.getfield 14, 3) := by decide +kernel
theorem dX1_copyFrom_8 : decode cX1_copyFrom 8 = .ok (.invokevirtual 21, 3) := by decide +kernel
theorem dX1_copyFrom_11 : decode cX1_copyFrom 11 = .ok (.aload_n 0, 1) := by decide +kernel
theorem dX1_copyFrom_12 : decode cX1_copyFrom 12 = .ok (.aload_n 1, 1) := by decide +kernel
theorem dX1_copyFrom_13 : decode cX1_copyFrom 13 = .ok (.getfield 25, 3) := by decide +kernel
theorem dX1_copyFrom_16 : decode cX1_copyFrom 16 = .ok (.putfield 25, 3) := by decide +kernel
theorem dX1_copyFrom_19 : decode cX1_copyFrom 19 = .ok (.return_, 1) := by decide +kernel
set_option maxRecDepth 20000 in
theorem ggX1_workOut_X6_clear : GoodIn wsX1_workOut wsX6_clear := goodIn_r _ [7, 8, 25, 26] (by decide +kernel) (by decide +kernel)
set_option maxRecDepth 20000 in
theorem gX1_workOut_X6_clear : GoodIn wsX1_workOut (wsV RX1 29 RX6 yX6_clear wsX6_clear) := goodIn_app (goodIn_of _ (by decide +kernel)) ggX1_workOut_X6_clear
set_option maxRecDepth 20000 in
theorem ggX1_workOut_X6_add : GoodIn wsX1_workOut wsX6_add := goodIn_r _ [12, 8, 13, 25, 26] (by decide +kernel) (by decide +kernel)
set_option maxRecDepth 20000 in
theorem gX1_workOut_X6_add : GoodIn wsX1_workOut (wsV RX1 40 RX6 yX6_add wsX6_add) := goodIn_app (goodIn_of _ (by decide +kernel)) ggX1_workOut_X6_add
set_option maxRecDepth 20000 in
theorem ggX1_workOut_X1_pop : GoodIn wsX1_workOut wsX1_pop := goodIn_r _ [18, 1, 22, 23, 24, 25, 26] (by decide +kernel) (by decide +kernel)
set_option maxRecDepth 20000 in
theorem gX1_workOut_X1_pop : GoodIn wsX1_workOut (wsV RX1 43 RX1 yX1_pop wsX1_pop) := goodIn_app (goodIn_of _ (by decide +kernel)) ggX1_workOut_X1_pop
set_option maxRecDepth 20000 in
theorem ggX1_workOut_X1_join : GoodIn wsX1_workOut wsX1_join := goodIn_r _ [21] (by decide +kernel) (by decide +kernel)
set_option maxRecDepth 20000 in
theorem gX1_workOut_X1_join : GoodIn wsX1_workOut (va_wsS RX1 47 yX1_join wsX1_join) := goodIn_app (goodIn_of _ (by decide +kernel)) ggX1_workOut_X1_join
theorem dX1_workOut_0 : decode cX1_workOut 0 = .ok (.aload_n 0, 1) := by decide +kernel
theorem dX1_workOut_1 : decode cX1_workOut 1 = .ok (.getfield 18, 3) := by decide +kernel
theorem dX1_workOut_4 : decode cX1_workOut 4 = .ok (.invokevirtual 29, 3) := by decide +kernel
theorem dX1_workOut_7 : decode cX1_workOut 7 = .ok (.iconst 0, 1) := by decide +kernel
theorem dX1_workOut_8 : decode cX1_workOut 8 = .ok (.istore 4, 2) := by decide +kernel
theorem dX1_workOut_10 : decode cX1_workOut 10 = .ok (.iload 4, 2) := by decide +kernel
theorem dX1_workOut_12 : decode cX1_workOut 12 = .ok (.aload_n 0, 1) := by decide +kernel
theorem dX1_workOut_13 : decode cX1_workOut 13 = .ok (.getfield 14, 3) := by decide +kernel
theorem dX1_workOut_16 : decode cX1_workOut 16 = .ok (.getfield 32, 3) := by decide +kernel
theorem dX1_workOut_19 : decode cX1_workOut 19 = .ok (.if_icmp .ge 168, 3) := by decide +kernel
theorem dX1_workOut_22 : decode cX1_workOut 22 = .ok (.aload_n 0, 1) := by decide +kernel
theorem dX1_workOut_23 : decode cX1_workOut 23 = .ok (.getfield 14, 3) := by decide +kernel
theorem dX1_workOut_26 : decode cX1_workOut 26 = .ok (.getfield 36, 3) := by decide +kernel
theorem dX1_workOut_29 : decode cX1_workOut 29 = .ok (.iload 4, 2) := by decide +kernel
theorem dX1_workOut_31 : decode cX1_workOut 31 = .ok (.iaload, 1) := by decide +kernel
theorem dX1_workOut_32 : decode cX1_workOut 32 = .ok (.istore 5, 2) := by decide +kernel
theorem dX1_workOut_34 : decode cX1_workOut 34 = .ok (.iload 5, 2) := by decide +kernel
theorem dX1_workOut_36 : decode cX1_workOut 36 = .ok (.lookupswitch 99 #[(-33, 77), (-3, 66), (-2, 55), (-1, 44)], 44) := by decide +kernel
theorem dX1_workOut_80 : decode cX1_workOut 80 = .ok (.aload_n 0, 1) := by decide +kernel
theorem dX1_workOut_81 : decode cX1_workOut 81 = .ok (.getfield 18, 3) := by decide +kernel
theorem dX1_workOut_84 : decode cX1_workOut 84 = .ok (.iload_n 1, 1) := by decide +kernel
theorem dX1_workOut_85 : decode cX1_workOut 85 = .ok (.invokevirtual 40, 3) := by decide +kernel
theorem dX1_workOut_88 : decode cX1_workOut 88 = .ok (.goto 93, 3) := by decide +kernel
theorem dX1_workOut_91 : decode cX1_workOut 91 = .ok (.aload_n 0, 1) := by decide +kernel
theorem dX1_workOut_92 : decode cX1_workOut 92 = .ok (.getfield 18, 3) := by decide +kernel
theorem dX1_workOut_95 : decode cX1_workOut 95 = .ok (.iload_n 2, 1) := by decide +kernel
theorem dX1_workOut_96 : decode cX1_workOut 96 = .ok (.invokevirtual 40, 3) := by decide +kernel
theorem dX1_workOut_99 : decode cX1_workOut 99 = .ok (.goto 82, 3) := by decide +kernel
theorem dX1_workOut_102 : decode cX1_workOut 102 = .ok (.aload_n 0, 1) := by decide +kernel
theorem dX1_workOut_103 : decode cX1_workOut 103 = .ok (.getfield 18, 3) := by decide +kernel
theorem dX1_workOut_106 : decode cX1_workOut 106 = .ok (.iload_n 3, 1) := by decide +kernel
theorem dX1_workOut_107 : decode cX1_workOut 107 = .ok (.invokevirtual 40, 3) := by decide +kernel
theorem dX1_workOut_110 : decode cX1_workOut 110 = .ok (.goto 71, 3) := by decide +kernel
theorem dX1_workOut_113 : decode cX1_workOut 113 = .ok (.aload_n 0, 1) := by decide +kernel
theorem dX1_workOut_114 : decode cX1_workOut 114 = .ok (.getfield 18, 3) := by decide +kernel
theorem dX1_workOut_117 : decode cX1_workOut 117 = .ok (.aload_n 0, 1) := by decide +kernel
theorem dX1_workOut_118 : decode cX1_workOut 118 = .ok (.invokevirtual 43, 3) := by decide +kernel
theorem dX1_workOut_121 : decode cX1_workOut 121 = .ok (.ifCond .ne 7, 3) := by decide +kernel
theorem dX1_workOut_124 : decode cX1_workOut 124 = .ok (.iconst 1, 1) := by decide +kernel
theorem dX1_workOut_125 : decode cX1_workOut 125 = .ok (.goto 4, 3) := by decide +kernel
theorem dX1_workOut_128 : decode cX1_workOut 128 = .ok (.iconst 0, 1) := by decide +kernel
theorem dX1_workOut_129 : decode cX1_workOut 129 = .ok (.invokevirtual 40, 3) := by decide +kernel
theorem dX1_workOut_132 : decode cX1_workOut 132 = .ok (.goto 49, 3) := by decide +kernel
theorem dX1_workOut_135 : decode cX1_workOut 135 = .ok (.iload 5, 2) := by decide +kernel
theorem dX1_workOut_137 : decode cX1_workOut 137 = .ok (.ifCond .lt 15, 3) := by decide +kernel
theorem dX1_workOut_140 : decode cX1_workOut 140 = .ok (.aload_n 0, 1) := by decide +kernel
theorem dX1_workOut_141 : decode cX1_workOut 141 = .ok (.getfield 18, 3) := by decide +kernel
theorem dX1_workOut_144 : decode cX1_workOut 144 = .ok (.iload 5, 2) := by decide +kernel
theorem dX1_workOut_146 : decode cX1_workOut 146 = .ok (.invokevirtual 40, 3) := by decide +kernel
theorem dX1_workOut_149 : decode cX1_workOut 149 = .ok (.goto 32, 3) := by decide +kernel
theorem dX1_workOut_152 : decode cX1_workOut 152 = .ok (.aload_n 0, 1) := by decide +kernel
theorem dX1_workOut_153 : decode cX1_workOut 153 = .ok (.invokevirtual 43, 3) := by decide +kernel
theorem dX1_workOut_156 : decode cX1_workOut 156 = .ok (.istore 6, 2) := by decide +kernel
theorem dX1_workOut_158 : decode cX1_workOut 158 = .ok (.aload_n 0, 1) := by decide +kernel
theorem dX1_workOut_159 : decode cX1_workOut 159 = .ok (.invokevirtual 43, 3) := by decide +kernel
theorem dX1_workOut_162 : decode cX1_workOut 162 = .ok (.istore 7, 2) := by decide +kernel
theorem dX1_workOut_164 : decode cX1_workOut 164 = .ok (.aload_n 0, 1) := by decide +kernel
theorem dX1_workOut_165 : decode cX1_workOut 165 = .ok (.getfield 18, 3) := by decide +kernel
theorem dX1_workOut_168 : decode cX1_workOut 168 = .ok (.iload 7, 2) := by decide +kernel
theorem dX1_workOut_170 : decode cX1_workOut 170 = .ok (.iload 5, 2) := by decide +kernel
theorem dX1_workOut_172 : decode cX1_workOut 172 = .ok (.ineg, 1) := by decide +kernel
theorem dX1_workOut_173 : decode cX1_workOut 173 = .ok (.iload 6, 2) := by decide +kernel
theorem dX1_workOut_175 : decode cX1_workOut 175 = .ok (.invokestatic 47, 3) := by decide +kernel
theorem dX1_workOut_178 : decode cX1_workOut 178 = .ok (.invokevirtual 40, 3) := by decide +kernel
theorem dX1_workOut_181 : decode cX1_workOut 181 = .ok (.iinc 4 1, 3) := by decide +kernel
theorem dX1_workOut_184 : decode cX1_workOut 184 = .ok (.goto (-174), 3) := by decide +kernel
theorem dX1_workOut_187 : decode cX1_workOut 187 = .ok (.aload_n 0, 1) := by decide +kernel
theorem dX1_workOut_188 : decode cX1_workOut 188 = .ok (.invokevirtual 43, 3) := by decide +kernel
theorem dX1_workOut_191 : decode cX1_workOut 191 = .ok (.ireturn, 1) := by decide +kernel
theorem dX1_pop_0 : decode cX1_pop 0 = .ok (.aload_n 0, 1) := by decide +kernel
theorem dX1_pop_1 : decode cX1_pop 1 = .ok (.getfield 18, 3) := by decide +kernel
theorem dX1_pop_4 : decode cX1_pop 4 = .ok (.getfield 32, 3) := by decide +kernel
theorem dX1_pop_7 : decode cX1_pop 7 = .ok (.ifCond .ne 5, 3) := by decide +kernel
theorem dX1_pop_10 : decode cX1_pop 10 = .ok (.iconst 0, 1) := by decide +kernel
theorem dX1_pop_11 : decode cX1_pop 11 = .ok (.ireturn, 1) := by decide +kernel
theorem dX1_pop_12 : decode cX1_pop 12 = .ok (.aload_n 0, 1) := by decide +kernel
theorem dX1_pop_13 : decode cX1_pop 13 = .ok (.getfield 18, 3) := by decide +kernel
theorem dX1_pop_16 : decode cX1_pop 16 = .ok (.dup, 1) := by decide +kernel
theorem dX1_pop_17 : decode cX1_pop 17 = .ok (.getfield 32, 3) := by decide +kernel
theorem dX1_pop_20 : decode cX1_pop 20 = .ok (.iconst 1, 1) := by decide +kernel
theorem dX1_pop_21 : decode cX1_pop 21 = .ok (.isub, 1) := by decide +kernel
theorem dX1_pop_22 : decode cX1_pop 22 = .ok (.putfield 32, 3) := by decide +kernel
theorem dX1_pop_25 : decode cX1_pop 25 = .ok (.aload_n 0, 1) := by decide +kernel
theorem dX1_pop_26 : decode cX1_pop 26 = .ok (.getfield 18, 3) := by decide +kernel
theorem dX1_pop_29 : decode cX1_pop 29 = .ok (.getfield 36, 3) := by decide +kernel
theorem dX1_pop_32 : decode cX1_pop 32 = .ok (.aload_n 0, 1) := by decide +kernel
theorem dX1_pop_33 : decode cX1_pop 33 = .ok (.getfield 18, 3) := by decide +kernel
theorem dX1_pop_36 : decode cX1_pop 36 = .ok (.getfield 32, 3) := by decide +kernel
theorem dX1_pop_39 : decode cX1_pop 39 = .ok (.iaload, 1) := by decide +kernel
theorem dX1_pop_40 : decode cX1_pop 40 = .ok (.ireturn, 1) := by decide +kernel
theorem dX1_join_0 : decode cX1_join 0 = .ok (.iload_n 1, 1) := by decide +kernel
theorem dX1_join_1 : decode cX1_join 1 = .ok (.lookupswitch 188 #[(37, 176), (38, 105), (42, 160), (43, 152), (45, 156), (47, 164), (60, 119), (61, 130), (62, 141), (124, 91)], 91) := by decide +kernel
theorem dX1_join_92 : decode cX1_join 92 = .ok (.iload_n 0, 1) := by decide +kernel
theorem dX1_join_93 : decode cX1_join 93 = .ok (.ifCond .ne 7, 3) := by decide +kernel
theorem dX1_join_96 : decode cX1_join 96 = .ok (.iload_n 2, 1) := by decide +kernel
theorem dX1_join_97 : decode cX1_join 97 = .ok (.ifCond .eq 7, 3) := by decide +kernel
theorem dX1_join_100 : decode cX1_join 100 = .ok (.iconst 1, 1) := by decide +kernel
theorem dX1_join_101 : decode cX1_join 101 = .ok (.goto 4, 3) := by decide +kernel
theorem dX1_join_104 : decode cX1_join 104 = .ok (.iconst 0, 1) := by decide +kernel
theorem dX1_join_105 : decode cX1_join 105 = .ok (.ireturn, 1) := by decide +kernel
theorem dX1_join_106 : decode cX1_join 106 = .ok (.iload_n 0, 1) := by decide +kernel
theorem dX1_join_107 : decode cX1_join 107 = .ok (.ifCond .eq 11, 3) := by decide +kernel
theorem dX1_join_110 : decode cX1_join 110 = .ok (.iload_n 2, 1) := by decide +kernel
theorem dX1_join_111 : decode cX1_join 111 = .ok (.ifCond .eq 7, 3) := by decide +kernel
theorem dX1_join_114 : decode cX1_join 114 = .ok (.iconst 1, 1) := by decide +kernel
theorem dX1_join_115 : decode cX1_join 115 = .ok (.goto 4, 3) := by decide +kernel
theorem dX1_join_118 : decode cX1_join 118 = .ok (.iconst 0, 1) := by decide +kernel
theorem dX1_join_119 : decode cX1_join 119 = .ok (.ireturn, 1) := by decide +kernel
theorem dX1_join_120 : decode cX1_join 120 = .ok (.iload_n 0, 1) := by decide +kernel
theorem dX1_join_121 : decode cX1_join 121 = .ok (.iload_n 2, 1) := by decide +kernel
theorem dX1_join_122 : decode cX1_join 122 = .ok (.if_icmp .ge 7, 3) := by decide +kernel
theorem dX1_join_125 : decode cX1_join 125 = .ok (.iconst 1, 1) := by decide +kernel
theorem dX1_join_126 : decode cX1_join 126 = .ok (.goto 4, 3) := by decide +kernel
theorem dX1_join_129 : decode cX1_join 129 = .ok (.iconst 0, 1) := by decide +kernel
theorem dX1_join_130 : decode cX1_join 130 = .ok (.ireturn, 1) := by decide +kernel
theorem dX1_join_131 : decode cX1_join 131 = .ok (.iload_n 0, 1) := by decide +kernel
theorem dX1_join_132 : decode cX1_join 132 = .ok (.iload_n 2, 1) := by decide +kernel
theorem dX1_join_133 : decode cX1_join 133 = .ok (.if_icmp .ne 7, 3) := by decide +kernel
theorem dX1_join_136 : decode cX1_join 136 = .ok (.iconst 1, 1) := by decide +kernel
theorem dX1_join_137 : decode cX1_join 137 = .ok (.goto 4, 3) := by decide +kernel
theorem dX1_join_140 : decode cX1_join 140 = .ok (.iconst 0, 1) := by decide +kernel
theorem dX1_join_141 : decode cX1_join 141 = .ok (.ireturn, 1) := by decide +kernel
theorem dX1_join_142 : decode cX1_join 142 = .ok (.iload_n 0, 1) := by decide +kernel
theorem dX1_join_143 : decode cX1_join 143 = .ok (.iload_n 2, 1) := by decide +kernel
theorem dX1_join_144 : decode cX1_join 144 = .ok (.if_icmp .le 7, 3) := by decide +kernel
theorem dX1_join_147 : decode cX1_join 147 = .ok (.iconst 1, 1) := by decide +kernel
theorem dX1_join_148 : decode cX1_join 148 = .ok (.goto 4, 3) := by decide +kernel
theorem dX1_join_151 : decode cX1_join 151 = .ok (.iconst 0, 1) := by decide +kernel
theorem dX1_join_152 : decode cX1_join 152 = .ok (.ireturn, 1) := by decide +kernel
theorem dX1_join_153 : decode cX1_join 153 = .ok (.iload_n 0, 1) := by decide +kernel
theorem dX1_join_154 : decode cX1_join 154 = .ok (.iload_n 2, 1) := by decide +kernel
theorem dX1_join_155 : decode cX1_join 155 = .ok (.iadd, 1) := by decide +kernel
theorem dX1_join_156 : decode cX1_join 156 = .ok (.ireturn, 1) := by decide +kernel
theorem dX1_join_157 : decode cX1_join 157 = .ok (.iload_n 0, 1) := by decide +kernel
theorem dX1_join_158 : decode cX1_join 158 = .ok (.iload_n 2, 1) := by decide +kernel
theorem dX1_join_159 : decode cX1_join 159 = .ok (.isub, 1) := by decide +kernel
theorem dX1_join_160 : decode cX1_join 160 = .ok (.ireturn, 1) := by decide +kernel
theorem dX1_join_161 : decode cX1_join 161 = .ok (.iload_n 0, 1) := by decide +kernel
theorem dX1_join_162 : decode cX1_join 162 = .ok (.iload_n 2, 1) := by decide +kernel
theorem dX1_join_163 : decode cX1_join 163 = .ok (.imul, 1) := by decide +kernel
theorem dX1_join_164 : decode cX1_join 164 = .ok (.ireturn, 1) := by decide +kernel
theorem dX1_join_165 : decode cX1_join 165 = .ok (.iload_n 2, 1) := by decide +kernel
theorem dX1_join_166 : decode cX1_join 166 = .ok (.ifCond .ne 7, 3) := by decide +kernel
theorem dX1_join_169 : decode cX1_join 169 = .ok (.iconst 0, 1) := by decide +kernel
theorem dX1_join_170 : decode cX1_join 170 = .ok (.goto 6, 3) := by decide +kernel
theorem dX1_join_173 : decode cX1_join 173 = .ok (.iload_n 0, 1) := by decide +kernel
theorem dX1_join_174 : decode cX1_join 174 = .ok (.iload_n 2, 1) := by decide +kernel
theorem dX1_join_175 : decode cX1_join 175 = .ok (.idiv, 1) := by decide +kernel
theorem dX1_join_176 : decode cX1_join 176 = .ok (.ireturn, 1) := by decide +kernel
theorem dX1_join_177 : decode cX1_join 177 = .ok (.iload_n 2, 1) := by decide +kernel
theorem dX1_join_178 : decode cX1_join 178 = .ok (.ifCond .ne 7, 3) := by decide +kernel
theorem dX1_join_181 : decode cX1_join 181 = .ok (.iconst 0, 1) := by decide +kernel
theorem dX1_join_182 : decode cX1_join 182 = .ok (.goto 6, 3) := by decide +kernel
theorem dX1_join_185 : decode cX1_join 185 = .ok (.iload_n 0, 1) := by decide +kernel
theorem dX1_join_186 : decode cX1_join 186 = .ok (.iload_n 2, 1) := by decide +kernel
theorem dX1_join_187 : decode cX1_join 187 = .ok (.irem, 1) := by decide +kernel
theorem dX1_join_188 : decode cX1_join 188 = .ok (.ireturn, 1) := by decide +kernel
theorem dX1_join_189 : decode cX1_join 189 = .ok (.iconst 0, 1) := by decide +kernel
theorem dX1_join_190 : decode cX1_join 190 = .ok (.ireturn, 1) := by decide +kernel
theorem dX2_init_0 : decode cX2_init 0 = .ok (.aload_n 0, 1) := by decide +kernel
theorem dX2_init_1 : decode cX2_init 1 = .ok (.invokespecial 3, 3) := by decide +kernel
theorem dX2_init_4 : decode cX2_init 4 = .ok (.return_, 1) := by decide +kernel
theorem dX2_begin_0 : decode cX2_begin 0 = .ok (.aload_n 0, 1) := by decide +kernel
theorem dX2_begin_1 : decode cX2_begin 1 = .ok (.iload_n 1, 1) := by decide +kernel
theorem dX2_begin_2 : decode cX2_begin 2 = .ok (.putfield 9, 3) := by decide +kernel
theorem dX2_begin_5 : decode cX2_begin 5 = .ok (.aload_n 0, 1) := by decide +kernel
theorem dX2_begin_6 : decode cX2_begin 6 = .ok (.iload_n 2, 1) := by decide +kernel
theorem dX2_begin_7 : decode cX2_begin 7 = .ok (.putfield 15, 3) := by decide +kernel
theorem dX2_begin_10 : decode cX2_begin 10 = .ok (.aload_n 0, 1) := by decide +kernel
theorem dX2_begin_11 : decode cX2_begin 11 = .ok (.iload_n 3, 1) := by decide +kernel
theorem dX2_begin_12 : decode cX2_begin 12 = .ok (.putfield 18, 3) := by decide +kernel
theorem dX2_begin_15 : decode cX2_begin 15 = .ok (.aload_n 0, 1) := by decide +kernel
theorem dX2_begin_16 : decode cX2_begin 16 = .ok (.iload 4, 2) := by decide +kernel
theorem dX2_begin_18 : decode cX2_begin 18 = .ok (.putfield 21, 3) := by decide +kernel
theorem dX2_begin_21 : decode cX2_begin 21 = .ok (.aload_n 0, 1) := by decide +kernel
theorem dX2_begin_22 : decode cX2_begin 22 = .ok (.iload 5, 2) := by decide +kernel
theorem dX2_begin_24 : decode cX2_begin 24 = .ok (.putfield 24, 3) := by decide +kernel
theorem dX2_begin_27 : decode cX2_begin 27 = .ok (.aload_n 0, 1) := by decide +kernel
theorem dX2_begin_28 : decode cX2_begin 28 = .ok (.iconst 0, 1) := by decide +kernel
theorem dX2_begin_29 : decode cX2_begin 29 = .ok (.putfield 27, 3) := by decide +kernel
theorem dX2_begin_32 : decode cX2_begin 32 = .ok (.aload_n 0, 1) := by decide +kernel
theorem dX2_begin_33 : decode cX2_begin 33 = .ok (.iconst 0, 1) := by decide +kernel
theorem dX2_begin_34 : decode cX2_begin 34 = .ok (.putfield 30, 3) := by decide +kernel
theorem dX2_begin_37 : decode cX2_begin 37 = .ok (.return_, 1) := by decide +kernel
set_option maxRecDepth 20000 in
theorem ggX2_copyFrom_X2_begin : GoodIn wsX2_copyFrom wsX2_begin := goodIn_r _ [12, 1, 2, 3, 4, 5, 6, 7, 13, 14, 15, 16, 17, 18, 19] (by decide +kernel) (by decide +kernel)
set_option maxRecDepth 20000 in
theorem gX2_copyFrom_X2_begin : GoodIn wsX2_copyFrom (wsV RX2 34 RX2 yX2_begin wsX2_begin) := goodIn_app (goodIn_of _ (by decide +kernel)) ggX2_copyFrom_X2_begin
theorem dX2_copyFrom_0 : decode cX2_copyFrom 0 = .ok (.aload_n 0, 1) := by decide +kernel
theorem dX2_copyFrom_1 : decode cX2_copyFrom 1 = .ok (.aload_n 1, 1) := by decide +kernel
theorem dX2_copyFrom_2 : decode cX2_copyFrom 2 = .ok (.getfield 9, 3) := by decide +kernel
theorem dX2_copyFrom_5 : decode cX2_copyFrom 5 = .ok (.aload_n 1, 1) := by decide +kernel
theorem dX2_copyFrom_6 : decode cX2_copyFrom 6 = .ok (.getfield 15, 3) := by decide +kernel
theorem dX2_copyFrom_9 : decode cX2_copyFrom 9 = .ok (.aload_n 1, 1) := by decide +kernel
theorem dX2_copyFrom_10 : decode cX2_copyFrom 10 = .ok (.getfield 18, 3) := by decide +kernel
theorem dX2_copyFrom_13 : decode cX2_copyFrom 13 = .ok (.aload_n 1, 1) := by decide +kernel
theorem dX2_copyFrom_14 : decode cX2_copyFrom 14 = .ok (.getfield 21, 3) := by decide +kernel
theorem dX2_copyFrom_17 : decode cX2_copyFrom 17 = .ok (.aload_n 1, 1) := by decide +kernel
theorem dX2_copyFrom_18 : decode cX2_copyFrom 18 = .ok (.getfield 24, 3) := by decide +kernel
theorem dX2_copyFrom_21 : decode cX2_copyFrom 21 = .ok (.invokevirtual 34, 3) := by decide +kernel
theorem dX2_copyFrom_24 : decode cX2_copyFrom 24 = .ok (.aload_n 0, 1) := by decide +kernel
theorem dX2_copyFrom_25 : decode cX2_copyFrom 25 = .ok (.aload_n 1, 1) := by decide +kernel
theorem dX2_copyFrom_26 : decode cX2_copyFrom 26 = .ok (.getfield 27, 3) := by decide +kernel
theorem dX2_copyFrom_29 : decode cX2_copyFrom 29 = .ok (.putfield 27, 3) := by decide +kernel
theorem dX2_copyFrom_32 : decode cX2_copyFrom 32 = .ok (.aload_n 0, 1) := by decide +kernel
theorem dX2_copyFrom_33 : decode cX2_copyFrom 33 = .ok (.aload_n 1, 1) := by decide +kernel
theorem dX2_copyFrom_34 : decode cX2_copyFrom 34 = .ok (.getfield 30, 3) := by decide +kernel
theorem dX2_copyFrom_37 : decode cX2_copyFrom 37 = .ok (.putfield 30, 3) := by decide +kernel
theorem dX2_copyFrom_40 : decode cX2_copyFrom 40 = .ok (.return_, 1) := by decide +kernel
theorem dX2_ripeAge_0 : decode cX2_ripeAge 0 = .ok (.aload_n 0, 1) := by decide +kernel
theorem dX2_ripeAge_1 : decode cX2_ripeAge 1 = .ok (.getfield 9, 3) := by decide +kernel
theorem dX2_ripeAge_4 : decode cX2_ripeAge 4 = .ok (.tableswitch 92 1 6 #[40, 53, 92, 55, 70, 79], 40) := by decide +kernel
theorem dX2_ripeAge_44 : decode cX2_ripeAge 44 = .ok (.bipush 7, 2) := by decide +kernel
theorem dX2_ripeAge_46 : decode cX2_ripeAge 46 = .ok (.bipush 7, 2) := by decide +kernel
theorem dX2_ripeAge_48 : decode cX2_ripeAge 48 = .ok (.aload_n 0, 1) := by decide +kernel
theorem dX2_ripeAge_49 : decode cX2_ripeAge 49 = .ok (.getfield 15, 3) := by decide +kernel
theorem dX2_ripeAge_52 : decode cX2_ripeAge 52 = .ok (.imul, 1) := by decide +kernel
theorem dX2_ripeAge_53 : decode cX2_ripeAge 53 = .ok (.invokestatic 38, 3) := by decide +kernel
theorem dX2_ripeAge_56 : decode cX2_ripeAge 56 = .ok (.ireturn, 1) := by decide +kernel
theorem dX2_ripeAge_57 : decode cX2_ripeAge 57 = .ok (.iconst 1, 1) := by decide +kernel
theorem dX2_ripeAge_58 : decode cX2_ripeAge 58 = .ok (.ireturn, 1) := by decide +kernel
theorem dX2_ripeAge_59 : decode cX2_ripeAge 59 = .ok (.aload_n 0, 1) := by decide +kernel
theorem dX2_ripeAge_60 : decode cX2_ripeAge 60 = .ok (.getfield 15, 3) := by decide +kernel
theorem dX2_ripeAge_63 : decode cX2_ripeAge 63 = .ok (.ifCond .ne 8, 3) := by decide +kernel
theorem dX2_ripeAge_66 : decode cX2_ripeAge 66 = .ok (.bipush 7, 2) := by decide +kernel
theorem dX2_ripeAge_68 : decode cX2_ripeAge 68 = .ok (.goto 5, 3) := by decide +kernel
theorem dX2_ripeAge_71 : decode cX2_ripeAge 71 = .ok (.ldc 44, 2) := by decide +kernel
theorem dX2_ripeAge_73 : decode cX2_ripeAge 73 = .ok (.ireturn, 1) := by decide +kernel
theorem dX2_ripeAge_74 : decode cX2_ripeAge 74 = .ok (.iconst 1, 1) := by decide +kernel
theorem dX2_ripeAge_75 : decode cX2_ripeAge 75 = .ok (.aload_n 0, 1) := by decide +kernel
theorem dX2_ripeAge_76 : decode cX2_ripeAge 76 = .ok (.getfield 15, 3) := by decide +kernel
theorem dX2_ripeAge_79 : decode cX2_ripeAge 79 = .ok (.invokestatic 38, 3) := by decide +kernel
theorem dX2_ripeAge_82 : decode cX2_ripeAge 82 = .ok (.ireturn, 1) := by decide +kernel
theorem dX2_ripeAge_83 : decode cX2_ripeAge 83 = .ok (.iload_n 1, 1) := by decide +kernel
theorem dX2_ripeAge_84 : decode cX2_ripeAge 84 = .ok (.iconst 1, 1) := by decide +kernel
theorem dX2_ripeAge_85 : decode cX2_ripeAge 85 = .ok (.if_icmp .ne 8, 3) := by decide +kernel
theorem dX2_ripeAge_88 : decode cX2_ripeAge 88 = .ok (.bipush 7, 2) := by decide +kernel
theorem dX2_ripeAge_90 : decode cX2_ripeAge 90 = .ok (.goto 5, 3) := by decide +kernel
theorem dX2_ripeAge_93 : decode cX2_ripeAge 93 = .ok (.ldc 44, 2) := by decide +kernel
theorem dX2_ripeAge_95 : decode cX2_ripeAge 95 = .ok (.ireturn, 1) := by decide +kernel
theorem dX2_ripeAge_96 : decode cX2_ripeAge 96 = .ok (.bipush 7, 2) := by decide +kernel
theorem dX2_ripeAge_98 : decode cX2_ripeAge 98 = .ok (.ireturn, 1) := by decide +kernel
set_option maxRecDepth 20000 in
theorem ggX2_goesBehind_X2_ripeAge : GoodIn wsX2_goesBehind wsX2_ripeAge := goodIn_r _ [12, 13, 14, 4, 5, 6, 7, 2, 15, 16, 17, 18, 19, 20, 21] (by decide +kernel) (by decide +kernel)
set_option maxRecDepth 20000 in
theorem gX2_goesBehind_X2_ripeAge : GoodIn wsX2_goesBehind (wsV RX2 45 RX2 yX2_ripeAge wsX2_ripeAge) := goodIn_app (goodIn_of _ (by decide +kernel)) ggX2_goesBehind_X2_ripeAge
theorem dX2_goesBehind_0 : decode cX2_goesBehind 0 = .ok (.aload_n 0, 1) := by decide +kernel
theorem dX2_goesBehind_1 : decode cX2_goesBehind 1 = .ok (.iload_n 2, 1) := by decide +kernel
theorem dX2_goesBehind_2 : decode cX2_goesBehind 2 = .ok (.invokevirtual 45, 3) := by decide +kernel
theorem dX2_goesBehind_5 : decode cX2_goesBehind 5 = .ok (.istore_n 3, 1) := by decide +kernel
theorem dX2_goesBehind_6 : decode cX2_goesBehind 6 = .ok (.aload_n 0, 1) := by decide +kernel
theorem dX2_goesBehind_7 : decode cX2_goesBehind 7 = .ok (.getfield 30, 3) := by decide +kernel
theorem dX2_goesBehind_10 : decode cX2_goesBehind 10 = .ok (.ifCond .ne 9, 3) := by decide +kernel
theorem dX2_goesBehind_13 : decode cX2_goesBehind 13 = .ok (.iload_n 3, 1) := by decide +kernel
theorem dX2_goesBehind_14 : decode cX2_goesBehind 14 = .ok (.ldc 44, 2) := by decide +kernel
theorem dX2_goesBehind_16 : decode cX2_goesBehind 16 = .ok (.if_icmp .ne 8, 3) := by decide +kernel
theorem dX2_goesBehind_19 : decode cX2_goesBehind 19 = .ok (.ldc 44, 2) := by decide +kernel
theorem dX2_goesBehind_21 : decode cX2_goesBehind 21 = .ok (.goto 15, 3) := by decide +kernel
theorem dX2_goesBehind_24 : decode cX2_goesBehind 24 = .ok (.iconst 0, 1) := by decide +kernel
theorem dX2_goesBehind_25 : decode cX2_goesBehind 25 = .ok (.iload_n 3, 1) := by decide +kernel
theorem dX2_goesBehind_26 : decode cX2_goesBehind 26 = .ok (.iload_n 1, 1) := by decide +kernel
theorem dX2_goesBehind_27 : decode cX2_goesBehind 27 = .ok (.aload_n 0, 1) := by decide +kernel
theorem dX2_goesBehind_28 : decode cX2_goesBehind 28 = .ok (.getfield 24, 3) := by decide +kernel
theorem dX2_goesBehind_31 : decode cX2_goesBehind 31 = .ok (.isub, 1) := by decide +kernel
theorem dX2_goesBehind_32 : decode cX2_goesBehind 32 = .ok (.isub, 1) := by decide +kernel
theorem dX2_goesBehind_33 : decode cX2_goesBehind 33 = .ok (.invokestatic 38, 3) := by decide +kernel
theorem dX2_goesBehind_36 : decode cX2_goesBehind 36 = .ok (.ireturn, 1) := by decide +kernel
set_option maxRecDepth 20000 in
theorem ggX2_back_X9_held : GoodIn wsX2_back wsX9_held := goodIn_r _ [11, 12, 13, 4, 14, 15, 3, 5] (by decide +kernel) (by decide +kernel)
set_option maxRecDepth 20000 in
theorem gX2_back_X9_held_n49 : GoodIn wsX2_back (wsX9_held) := ggX2_back_X9_held
theorem dX2_back_0 : decode cX2_back 0 = .ok (.iconst 0, 1) := by decide +kernel
theorem dX2_back_1 : decode cX2_back 1 = .ok (.bipush 50, 2) := by decide +kernel
theorem dX2_back_3 : decode cX2_back 3 = .ok (.iconst 5, 1) := by decide +kernel
theorem dX2_back_4 : decode cX2_back 4 = .ok (.iload_n 1, 1) := by decide +kernel
theorem dX2_back_5 : decode cX2_back 5 = .ok (.aload_n 0, 1) := by decide +kernel
theorem dX2_back_6 : decode cX2_back 6 = .ok (.getfield 24, 3) := by decide +kernel
theorem dX2_back_9 : decode cX2_back 9 = .ok (.isub, 1) := by decide +kernel
theorem dX2_back_10 : decode cX2_back 10 = .ok (.imul, 1) := by decide +kernel
theorem dX2_back_11 : decode cX2_back 11 = .ok (.isub, 1) := by decide +kernel
theorem dX2_back_12 : decode cX2_back 12 = .ok (.invokestatic 38, 3) := by decide +kernel
theorem dX2_back_15 : decode cX2_back 15 = .ok (.aload_n 0, 1) := by decide +kernel
theorem dX2_back_16 : decode cX2_back 16 = .ok (.getfield 15, 3) := by decide +kernel
theorem dX2_back_19 : decode cX2_back 19 = .ok (.iadd, 1) := by decide +kernel
theorem dX2_back_20 : decode cX2_back 20 = .ok (.istore_n 2, 1) := by decide +kernel
theorem dX2_back_21 : decode cX2_back 21 = .ok (.aload_n 0, 1) := by decide +kernel
theorem dX2_back_22 : decode cX2_back 22 = .ok (.getfield 9, 3) := by decide +kernel
theorem dX2_back_25 : decode cX2_back 25 = .ok (.tableswitch 106 1 6 #[39, 49, 58, 73, 83, 97], 39) := by decide +kernel
theorem dX2_back_64 : decode cX2_back 64 = .ok (.iload_n 2, 1) := by decide +kernel
theorem dX2_back_65 : decode cX2_back 65 = .ok (.bipush 20, 2) := by decide +kernel
theorem dX2_back_67 : decode cX2_back 67 = .ok (.iadd, 1) := by decide +kernel
theorem dX2_back_68 : decode cX2_back 68 = .ok (.bipush 100, 2) := by decide +kernel
theorem dX2_back_70 : decode cX2_back 70 = .ok (.invokestatic 49, 3) := by decide +kernel
theorem dX2_back_73 : decode cX2_back 73 = .ok (.ireturn, 1) := by decide +kernel
theorem dX2_back_74 : decode cX2_back 74 = .ok (.iload_n 2, 1) := by decide +kernel
theorem dX2_back_75 : decode cX2_back 75 = .ok (.iconst 2, 1) := by decide +kernel
theorem dX2_back_76 : decode cX2_back 76 = .ok (.idiv, 1) := by decide +kernel
theorem dX2_back_77 : decode cX2_back 77 = .ok (.bipush 100, 2) := by decide +kernel
theorem dX2_back_79 : decode cX2_back 79 = .ok (.invokestatic 49, 3) := by decide +kernel
theorem dX2_back_82 : decode cX2_back 82 = .ok (.ireturn, 1) := by decide +kernel
theorem dX2_back_83 : decode cX2_back 83 = .ok (.iload_n 2, 1) := by decide +kernel
theorem dX2_back_84 : decode cX2_back 84 = .ok (.bipush 20, 2) := by decide +kernel
theorem dX2_back_86 : decode cX2_back 86 = .ok (.aload_n 0, 1) := by decide +kernel
theorem dX2_back_87 : decode cX2_back 87 = .ok (.getfield 27, 3) := by decide +kernel
theorem dX2_back_90 : decode cX2_back 90 = .ok (.imul, 1) := by decide +kernel
theorem dX2_back_91 : decode cX2_back 91 = .ok (.iadd, 1) := by decide +kernel
theorem dX2_back_92 : decode cX2_back 92 = .ok (.bipush 100, 2) := by decide +kernel
theorem dX2_back_94 : decode cX2_back 94 = .ok (.invokestatic 49, 3) := by decide +kernel
theorem dX2_back_97 : decode cX2_back 97 = .ok (.ireturn, 1) := by decide +kernel
theorem dX2_back_98 : decode cX2_back 98 = .ok (.iload_n 2, 1) := by decide +kernel
theorem dX2_back_99 : decode cX2_back 99 = .ok (.bipush 40, 2) := by decide +kernel
theorem dX2_back_101 : decode cX2_back 101 = .ok (.iadd, 1) := by decide +kernel
theorem dX2_back_102 : decode cX2_back 102 = .ok (.bipush 100, 2) := by decide +kernel
theorem dX2_back_104 : decode cX2_back 104 = .ok (.invokestatic 49, 3) := by decide +kernel
theorem dX2_back_107 : decode cX2_back 107 = .ok (.ireturn, 1) := by decide +kernel
theorem dX2_back_108 : decode cX2_back 108 = .ok (.iload_n 2, 1) := by decide +kernel
theorem dX2_back_109 : decode cX2_back 109 = .ok (.iconst 2, 1) := by decide +kernel
theorem dX2_back_110 : decode cX2_back 110 = .ok (.idiv, 1) := by decide +kernel
theorem dX2_back_111 : decode cX2_back 111 = .ok (.aload_n 0, 1) := by decide +kernel
theorem dX2_back_112 : decode cX2_back 112 = .ok (.getfield 15, 3) := by decide +kernel
theorem dX2_back_115 : decode cX2_back 115 = .ok (.isub, 1) := by decide +kernel
theorem dX2_back_116 : decode cX2_back 116 = .ok (.bipush 100, 2) := by decide +kernel
theorem dX2_back_118 : decode cX2_back 118 = .ok (.invokestatic 49, 3) := by decide +kernel
theorem dX2_back_121 : decode cX2_back 121 = .ok (.ireturn, 1) := by decide +kernel
theorem dX2_back_122 : decode cX2_back 122 = .ok (.iload_n 2, 1) := by decide +kernel
theorem dX2_back_123 : decode cX2_back 123 = .ok (.iconst 5, 1) := by decide +kernel
theorem dX2_back_124 : decode cX2_back 124 = .ok (.iadd, 1) := by decide +kernel
theorem dX2_back_125 : decode cX2_back 125 = .ok (.bipush 100, 2) := by decide +kernel
theorem dX2_back_127 : decode cX2_back 127 = .ok (.invokestatic 49, 3) := by decide +kernel
theorem dX2_back_130 : decode cX2_back 130 = .ok (.ireturn, 1) := by decide +kernel
theorem dX2_back_131 : decode cX2_back 131 = .ok (.iload_n 2, 1) := by decide +kernel
theorem dX2_back_132 : decode cX2_back 132 = .ok (.bipush 100, 2) := by decide +kernel
theorem dX2_back_134 : decode cX2_back 134 = .ok (.invokestatic 49, 3) := by decide +kernel
theorem dX2_back_137 : decode cX2_back 137 = .ok (.ireturn, 1) := by decide +kernel
theorem dX3_init_0 : decode cX3_init 0 = .ok (.aload_n 0, 1) := by decide +kernel
theorem dX3_init_1 : decode cX3_init 1 = .ok (.invokespecial 3, 3) := by decide +kernel
theorem dX3_init_4 : decode cX3_init 4 = .ok (.aload_n 0, 1) := by decide +kernel
theorem dX3_init_5 : decode cX3_init 5 = .ok (.bipush 64, 2) := by decide +kernel
theorem dX3_init_7 : decode cX3_init 7 = .ok (.newarray .int, 2) := by decide +kernel
theorem dX3_init_9 : decode cX3_init 9 = .ok (.putfield 11, 3) := by decide +kernel
theorem dX3_init_12 : decode cX3_init 12 = .ok (.return_, 1) := by decide +kernel
set_option maxRecDepth 20000 in
theorem ggX3_most_X3_leastEnd : GoodIn wsX3_most wsX3_leastEnd := goodIn_r _ [13, 14, 5, 1, 2, 3, 4, 15, 16, 17, 18, 19, 20, 21, 22, 23, 31, 32, 33] (by decide +kernel) (by decide +kernel)
set_option maxRecDepth 20000 in
theorem gX3_most_X3_leastEnd : GoodIn wsX3_most (wsV RX3 27 RX3 yX3_leastEnd wsX3_leastEnd) := goodIn_app (goodIn_of _ (by decide +kernel)) ggX3_most_X3_leastEnd
set_option maxRecDepth 20000 in
theorem ggX3_most_J6_bitCount_0f7a4 : GoodIn wsX3_most wsJ6_bitCount_0f7a4 := goodIn_r _ [27, 28, 29, 30] (by decide +kernel) (by decide +kernel)
set_option maxRecDepth 20000 in
theorem gX3_most_J6_bitCount_0f7a4 : GoodIn wsX3_most (va_wsS RX3 31 yJ6_bitCount_0f7a4 wsJ6_bitCount_0f7a4) := goodIn_app (goodIn_of _ (by decide +kernel)) ggX3_most_J6_bitCount_0f7a4
theorem dX3_most_0 : decode cX3_most 0 = .ok (.iconst 1, 1) := by decide +kernel
theorem dX3_most_1 : decode cX3_most 1 = .ok (.aload_n 1, 1) := by decide +kernel
theorem dX3_most_2 : decode cX3_most 2 = .ok (.getfield 15, 3) := by decide +kernel
theorem dX3_most_5 : decode cX3_most 5 = .ok (.bipush 6, 2) := by decide +kernel
theorem dX3_most_7 : decode cX3_most 7 = .ok (.invokestatic 21, 3) := by decide +kernel
theorem dX3_most_10 : decode cX3_most 10 = .ok (.ishl, 1) := by decide +kernel
theorem dX3_most_11 : decode cX3_most 11 = .ok (.istore_n 3, 1) := by decide +kernel
theorem dX3_most_12 : decode cX3_most 12 = .ok (.iconst 0, 1) := by decide +kernel
theorem dX3_most_13 : decode cX3_most 13 = .ok (.istore 4, 2) := by decide +kernel
theorem dX3_most_15 : decode cX3_most 15 = .ok (.aload_n 0, 1) := by decide +kernel
theorem dX3_most_16 : decode cX3_most 16 = .ok (.getfield 11, 3) := by decide +kernel
theorem dX3_most_19 : decode cX3_most 19 = .ok (.iconst 0, 1) := by decide +kernel
theorem dX3_most_20 : decode cX3_most 20 = .ok (.iconst 0, 1) := by decide +kernel
theorem dX3_most_21 : decode cX3_most 21 = .ok (.iastore, 1) := by decide +kernel
theorem dX3_most_22 : decode cX3_most 22 = .ok (.iconst 1, 1) := by decide +kernel
theorem dX3_most_23 : decode cX3_most 23 = .ok (.istore 5, 2) := by decide +kernel
theorem dX3_most_25 : decode cX3_most 25 = .ok (.iload 5, 2) := by decide +kernel
theorem dX3_most_27 : decode cX3_most 27 = .ok (.iload_n 3, 1) := by decide +kernel
theorem dX3_most_28 : decode cX3_most 28 = .ok (.if_icmp .ge 48, 3) := by decide +kernel
theorem dX3_most_31 : decode cX3_most 31 = .ok (.aload_n 0, 1) := by decide +kernel
theorem dX3_most_32 : decode cX3_most 32 = .ok (.getfield 11, 3) := by decide +kernel
theorem dX3_most_35 : decode cX3_most 35 = .ok (.iload 5, 2) := by decide +kernel
theorem dX3_most_37 : decode cX3_most 37 = .ok (.aload_n 0, 1) := by decide +kernel
theorem dX3_most_38 : decode cX3_most 38 = .ok (.aload_n 1, 1) := by decide +kernel
theorem dX3_most_39 : decode cX3_most 39 = .ok (.iload_n 2, 1) := by decide +kernel
theorem dX3_most_40 : decode cX3_most 40 = .ok (.iload 5, 2) := by decide +kernel
theorem dX3_most_42 : decode cX3_most 42 = .ok (.invokevirtual 27, 3) := by decide +kernel
theorem dX3_most_45 : decode cX3_most 45 = .ok (.iastore, 1) := by decide +kernel
theorem dX3_most_46 : decode cX3_most 46 = .ok (.aload_n 0, 1) := by decide +kernel
theorem dX3_most_47 : decode cX3_most 47 = .ok (.getfield 11, 3) := by decide +kernel
theorem dX3_most_50 : decode cX3_most 50 = .ok (.iload 5, 2) := by decide +kernel
theorem dX3_most_52 : decode cX3_most 52 = .ok (.iaload, 1) := by decide +kernel
theorem dX3_most_53 : decode cX3_most 53 = .ok (.bipush 12, 2) := by decide +kernel
theorem dX3_most_55 : decode cX3_most 55 = .ok (.if_icmp .gt 15, 3) := by decide +kernel
theorem dX3_most_58 : decode cX3_most 58 = .ok (.iload 4, 2) := by decide +kernel
theorem dX3_most_60 : decode cX3_most 60 = .ok (.iload 5, 2) := by decide +kernel
theorem dX3_most_62 : decode cX3_most 62 = .ok (.invokestatic 31, 3) := by decide +kernel
theorem dX3_most_65 : decode cX3_most 65 = .ok (.invokestatic 37, 3) := by decide +kernel
theorem dX3_most_68 : decode cX3_most 68 = .ok (.istore 4, 2) := by decide +kernel
theorem dX3_most_70 : decode cX3_most 70 = .ok (.iinc 5 1, 3) := by decide +kernel
theorem dX3_most_73 : decode cX3_most 73 = .ok (.goto (-48), 3) := by decide +kernel
theorem dX3_most_76 : decode cX3_most 76 = .ok (.iload 4, 2) := by decide +kernel
theorem dX3_most_78 : decode cX3_most 78 = .ok (.ireturn, 1) := by decide +kernel
set_option maxRecDepth 20000 in
theorem ggX3_leastEnd_X9_isOf : GoodIn wsX3_leastEnd wsX9_isOf := goodIn_r _ [9] (by decide +kernel) (by decide +kernel)
set_option maxRecDepth 20000 in
theorem gX3_leastEnd_X9_isOf_n41 : GoodIn wsX3_leastEnd (wsX9_isOf) := ggX3_leastEnd_X9_isOf
set_option maxRecDepth 20000 in
theorem ggX3_leastEnd_X9_freeEnd : GoodIn wsX3_leastEnd wsX9_freeEnd := goodIn_r _ [11, 12, 13, 14, 8, 15] (by decide +kernel) (by decide +kernel)
set_option maxRecDepth 20000 in
theorem gX3_leastEnd_X9_freeEnd_n48 : GoodIn wsX3_leastEnd (wsX9_freeEnd) := ggX3_leastEnd_X9_freeEnd
theorem dX3_leastEnd_0 : decode cX3_leastEnd 0 = .ok (.ldc 40, 2) := by decide +kernel
theorem dX3_leastEnd_2 : decode cX3_leastEnd 2 = .ok (.istore 4, 2) := by decide +kernel
theorem dX3_leastEnd_4 : decode cX3_leastEnd 4 = .ok (.iconst 0, 1) := by decide +kernel
theorem dX3_leastEnd_5 : decode cX3_leastEnd 5 = .ok (.istore 5, 2) := by decide +kernel
theorem dX3_leastEnd_7 : decode cX3_leastEnd 7 = .ok (.iload 5, 2) := by decide +kernel
theorem dX3_leastEnd_9 : decode cX3_leastEnd 9 = .ok (.bipush 6, 2) := by decide +kernel
theorem dX3_leastEnd_11 : decode cX3_leastEnd 11 = .ok (.if_icmp .ge 60, 3) := by decide +kernel
theorem dX3_leastEnd_14 : decode cX3_leastEnd 14 = .ok (.iload 5, 2) := by decide +kernel
theorem dX3_leastEnd_16 : decode cX3_leastEnd 16 = .ok (.aload_n 1, 1) := by decide +kernel
theorem dX3_leastEnd_17 : decode cX3_leastEnd 17 = .ok (.getfield 15, 3) := by decide +kernel
theorem dX3_leastEnd_20 : decode cX3_leastEnd 20 = .ok (.if_icmp .ge 51, 3) := by decide +kernel
theorem dX3_leastEnd_23 : decode cX3_leastEnd 23 = .ok (.iload 5, 2) := by decide +kernel
theorem dX3_leastEnd_25 : decode cX3_leastEnd 25 = .ok (.iload_n 3, 1) := by decide +kernel
theorem dX3_leastEnd_26 : decode cX3_leastEnd 26 = .ok (.invokestatic 41, 3) := by decide +kernel
theorem dX3_leastEnd_29 : decode cX3_leastEnd 29 = .ok (.ifCond .eq 36, 3) := by decide +kernel
theorem dX3_leastEnd_32 : decode cX3_leastEnd 32 = .ok (.aload_n 0, 1) := by decide +kernel
theorem dX3_leastEnd_33 : decode cX3_leastEnd 33 = .ok (.getfield 11, 3) := by decide +kernel
theorem dX3_leastEnd_36 : decode cX3_leastEnd 36 = .ok (.iload_n 3, 1) := by decide +kernel
theorem dX3_leastEnd_37 : decode cX3_leastEnd 37 = .ok (.iconst 1, 1) := by decide +kernel
theorem dX3_leastEnd_38 : decode cX3_leastEnd 38 = .ok (.iload 5, 2) := by decide +kernel
theorem dX3_leastEnd_40 : decode cX3_leastEnd 40 = .ok (.ishl, 1) := by decide +kernel
theorem dX3_leastEnd_41 : decode cX3_leastEnd 41 = .ok (.ixor, 1) := by decide +kernel
theorem dX3_leastEnd_42 : decode cX3_leastEnd 42 = .ok (.iaload, 1) := by decide +kernel
theorem dX3_leastEnd_43 : decode cX3_leastEnd 43 = .ok (.istore 6, 2) := by decide +kernel
theorem dX3_leastEnd_45 : decode cX3_leastEnd 45 = .ok (.iload 4, 2) := by decide +kernel
theorem dX3_leastEnd_47 : decode cX3_leastEnd 47 = .ok (.iload_n 2, 1) := by decide +kernel
theorem dX3_leastEnd_48 : decode cX3_leastEnd 48 = .ok (.iload 6, 2) := by decide +kernel
theorem dX3_leastEnd_50 : decode cX3_leastEnd 50 = .ok (.aload_n 1, 1) := by decide +kernel
theorem dX3_leastEnd_51 : decode cX3_leastEnd 51 = .ok (.getfield 45, 3) := by decide +kernel
theorem dX3_leastEnd_54 : decode cX3_leastEnd 54 = .ok (.iload 5, 2) := by decide +kernel
theorem dX3_leastEnd_56 : decode cX3_leastEnd 56 = .ok (.iaload, 1) := by decide +kernel
theorem dX3_leastEnd_57 : decode cX3_leastEnd 57 = .ok (.invokestatic 48, 3) := by decide +kernel
theorem dX3_leastEnd_60 : decode cX3_leastEnd 60 = .ok (.invokestatic 21, 3) := by decide +kernel
theorem dX3_leastEnd_63 : decode cX3_leastEnd 63 = .ok (.istore 4, 2) := by decide +kernel
theorem dX3_leastEnd_65 : decode cX3_leastEnd 65 = .ok (.iinc 5 1, 3) := by decide +kernel
theorem dX3_leastEnd_68 : decode cX3_leastEnd 68 = .ok (.goto (-61), 3) := by decide +kernel
theorem dX3_leastEnd_71 : decode cX3_leastEnd 71 = .ok (.iload 4, 2) := by decide +kernel
theorem dX3_leastEnd_73 : decode cX3_leastEnd 73 = .ok (.ireturn, 1) := by decide +kernel
set_option maxRecDepth 20000 in
theorem ggX4_init_X6_init : GoodIn wsX4_init wsX6_init := goodIn_r _ [11, 12, 2, 3, 13, 14, 15, 16, 17, 18, 19, 20] (by decide +kernel) (by decide +kernel)
set_option maxRecDepth 20000 in
theorem gX4_init_X6_init : GoodIn wsX4_init (wsX6_init) := ggX4_init_X6_init
theorem dX4_init_0 : decode cX4_init 0 = .ok (.aload_n 0, 1) := by decide +kernel
theorem dX4_init_1 : decode cX4_init 1 = .ok (.invokespecial 1, 3) := by decide +kernel
theorem dX4_init_4 : decode cX4_init 4 = .ok (.aload_n 0, 1) := by decide +kernel
theorem dX4_init_5 : decode cX4_init 5 = .ok (.new 7, 3) := by decide +kernel
theorem dX4_init_8 : decode cX4_init 8 = .ok (.dup, 1) := by decide +kernel
theorem dX4_init_9 : decode cX4_init 9 = .ok (.bipush 60, 2) := by decide +kernel
theorem dX4_init_11 : decode cX4_init 11 = .ok (.invokespecial 11, 3) := by decide +kernel
theorem dX4_init_14 : decode cX4_init 14 = .ok (.putfield 14, 3) := by decide +kernel
theorem dX4_init_17 : decode cX4_init 17 = .ok (.aload_n 0, 1) := by decide +kernel
theorem dX4_init_18 : decode cX4_init 18 = .ok (.aload_n 0, 1) := by decide +kernel
theorem dX4_init_19 : decode cX4_init 19 = .ok (.getfield 14, 3) := by decide +kernel
theorem dX4_init_22 : decode cX4_init 22 = .ok (.putfield 20, 3) := by decide +kernel
theorem dX4_init_25 : decode cX4_init 25 = .ok (.return_, 1) := by decide +kernel
set_option maxRecDepth 20000 in
theorem ggX4_reads_X6_clear : GoodIn wsX4_reads wsX6_clear := goodIn_r _ [9, 10, 52, 53] (by decide +kernel) (by decide +kernel)
set_option maxRecDepth 20000 in
theorem gX4_reads_X6_clear : GoodIn wsX4_reads (wsV RX4 30 RX6 yX6_clear wsX6_clear) := goodIn_app (goodIn_of _ (by decide +kernel)) ggX4_reads_X6_clear
set_option maxRecDepth 20000 in
theorem ggX4_reads_X4_readsLevel : GoodIn wsX4_reads wsX4_readsLevel := goodIn_r _ [15, 1, 3, 4, 16, 17, 18, 14, 11, 12, 13, 19, 20, 21, 22, 23, 24, 25, 26, 27, 28, 8, 29, 10, 30, 31, 32, 33, 34, 2, 35, 36, 37, 38, 39, 40, 41, 42, 43, 44, 45, 46, 47, 48, 49, 50, 51, 52, 53] (by decide +kernel) (by decide +kernel)
set_option maxRecDepth 20000 in
theorem gX4_reads_X4_readsLevel : GoodIn wsX4_reads (wsV RX4 33 RX4 yX4_readsLevel wsX4_readsLevel) := goodIn_app (goodIn_of _ (by decide +kernel)) ggX4_reads_X4_readsLevel
theorem dX4_reads_0 : decode cX4_reads 0 = .ok (.aload_n 0, 1) := by decide +kernel
theorem dX4_reads_1 : decode cX4_reads 1 = .ok (.aload_n 1, 1) := by decide +kernel
theorem dX4_reads_2 : decode cX4_reads 2 = .ok (.putfield 20, 3) := by decide +kernel
theorem dX4_reads_5 : decode cX4_reads 5 = .ok (.aload_n 0, 1) := by decide +kernel
theorem dX4_reads_6 : decode cX4_reads 6 = .ok (.iload_n 2, 1) := by decide +kernel
theorem dX4_reads_7 : decode cX4_reads 7 = .ok (.putfield 23, 3) := by decide +kernel
theorem dX4_reads_10 : decode cX4_reads 10 = .ok (.aload_n 0, 1) := by decide +kernel
theorem dX4_reads_11 : decode cX4_reads 11 = .ok (.iconst 0, 1) := by decide +kernel
theorem dX4_reads_12 : decode cX4_reads 12 = .ok (.putfield 27, 3) := by decide +kernel
theorem dX4_reads_15 : decode cX4_reads 15 = .ok (.aload_n 0, 1) := by decide +kernel
theorem dX4_reads_16 : decode cX4_reads 16 = .ok (.getfield 14, 3) := by decide +kernel
theorem dX4_reads_19 : decode cX4_reads 19 = .ok (.invokevirtual 30, 3) := by decide +kernel
theorem dX4_reads_22 : decode cX4_reads 22 = .ok (.aload_n 0, 1) := by decide +kernel
theorem dX4_reads_23 : decode cX4_reads 23 = .ok (.iconst 0, 1) := by decide +kernel
theorem dX4_reads_24 : decode cX4_reads 24 = .ok (.iconst 0, 1) := by decide +kernel
theorem dX4_reads_25 : decode cX4_reads 25 = .ok (.invokevirtual 33, 3) := by decide +kernel
theorem dX4_reads_28 : decode cX4_reads 28 = .ok (.ifCond .eq 18, 3) := by decide +kernel
theorem dX4_reads_31 : decode cX4_reads 31 = .ok (.aload_n 0, 1) := by decide +kernel
theorem dX4_reads_32 : decode cX4_reads 32 = .ok (.getfield 27, 3) := by decide +kernel
theorem dX4_reads_35 : decode cX4_reads 35 = .ok (.aload_n 1, 1) := by decide +kernel
theorem dX4_reads_36 : decode cX4_reads 36 = .ok (.getfield 37, 3) := by decide +kernel
theorem dX4_reads_39 : decode cX4_reads 39 = .ok (.if_icmp .ne 7, 3) := by decide +kernel
theorem dX4_reads_42 : decode cX4_reads 42 = .ok (.iconst 1, 1) := by decide +kernel
theorem dX4_reads_43 : decode cX4_reads 43 = .ok (.goto 4, 3) := by decide +kernel
theorem dX4_reads_46 : decode cX4_reads 46 = .ok (.iconst 0, 1) := by decide +kernel
theorem dX4_reads_47 : decode cX4_reads 47 = .ok (.ireturn, 1) := by decide +kernel
set_option maxRecDepth 20000 in
theorem ggX4_readsLevel_X4_readsQ : GoodIn wsX4_readsLevel wsX4_readsQ := goodIn_r _ [27, 28, 29, 2, 3, 11, 12, 13, 7, 14, 1, 30, 31, 32, 33, 34, 35, 36, 18, 19, 20, 21, 22, 23, 24, 37, 38, 39, 40, 41, 42, 25, 8, 9, 10, 0, 4, 5, 6, 15, 16, 17, 26, 43, 44, 45, 46, 47, 48] (by decide +kernel) (by decide +kernel)
set_option maxRecDepth 20000 in
theorem gX4_readsLevel_X4_readsQ : GoodIn wsX4_readsLevel (wsV RX4 40 RX4 yX4_readsQ wsX4_readsQ) := goodIn_app (goodIn_of _ (by decide +kernel)) ggX4_readsLevel_X4_readsQ
set_option maxRecDepth 20000 in
theorem ggX4_readsLevel_X4_readsLevel : GoodIn wsX4_readsLevel wsX4_readsLevel := goodIn_r _ [0, 1, 2, 3, 4, 5, 6, 7, 8, 9, 10, 11, 12, 13, 14, 15, 16, 17, 18, 19, 20, 21, 22, 23, 24, 25, 26, 27, 28, 29, 30, 31, 32, 33, 34, 35, 36, 37, 38, 39, 40, 41, 42, 43, 44, 45, 46, 47, 48] (by decide +kernel) (by decide +kernel)
set_option maxRecDepth 20000 in
theorem gX4_readsLevel_X4_readsLevel : GoodIn wsX4_readsLevel (wsV RX4 33 RX4 yX4_readsLevel wsX4_readsLevel) := goodIn_app (goodIn_of _ (by decide +kernel)) ggX4_readsLevel_X4_readsLevel
set_option maxRecDepth 20000 in
theorem ggX4_readsLevel_X4_next : GoodIn wsX4_readsLevel wsX4_next := goodIn_r _ [14, 2, 1, 43, 44, 45, 46, 47, 48] (by decide +kernel) (by decide +kernel)
set_option maxRecDepth 20000 in
theorem gX4_readsLevel_X4_next : GoodIn wsX4_readsLevel (wsV RX4 44 RX4 yX4_next wsX4_next) := goodIn_app (goodIn_of _ (by decide +kernel)) ggX4_readsLevel_X4_next
set_option maxRecDepth 20000 in
theorem ggX4_readsLevel_X4_levelOf : GoodIn wsX4_readsLevel wsX4_levelOf := goodIn_r _ [17] (by decide +kernel) (by decide +kernel)
set_option maxRecDepth 20000 in
theorem gX4_readsLevel_X4_levelOf : GoodIn wsX4_readsLevel (va_wsS RX4 48 yX4_levelOf wsX4_levelOf) := goodIn_app (goodIn_of _ (by decide +kernel)) ggX4_readsLevel_X4_levelOf
set_option maxRecDepth 20000 in
theorem ggX4_readsLevel_X6_add : GoodIn wsX4_readsLevel wsX6_add := goodIn_r _ [22, 23, 24, 47, 48] (by decide +kernel) (by decide +kernel)
set_option maxRecDepth 20000 in
theorem gX4_readsLevel_X6_add : GoodIn wsX4_readsLevel (wsV RX4 52 RX6 yX6_add wsX6_add) := goodIn_app (goodIn_of _ (by decide +kernel)) ggX4_readsLevel_X6_add
theorem dX4_readsLevel_0 : decode cX4_readsLevel 0 = .ok (.iload_n 1, 1) := by decide +kernel
theorem dX4_readsLevel_1 : decode cX4_readsLevel 1 = .ok (.iconst 5, 1) := by decide +kernel
theorem dX4_readsLevel_2 : decode cX4_readsLevel 2 = .ok (.if_icmp .lt 9, 3) := by decide +kernel
theorem dX4_readsLevel_5 : decode cX4_readsLevel 5 = .ok (.aload_n 0, 1) := by decide +kernel
theorem dX4_readsLevel_6 : decode cX4_readsLevel 6 = .ok (.iload_n 2, 1) := by decide +kernel
theorem dX4_readsLevel_7 : decode cX4_readsLevel 7 = .ok (.invokevirtual 40, 3) := by decide +kernel
theorem dX4_readsLevel_10 : decode cX4_readsLevel 10 = .ok (.ireturn, 1) := by decide +kernel
theorem dX4_readsLevel_11 : decode cX4_readsLevel 11 = .ok (.aload_n 0, 1) := by decide +kernel
theorem dX4_readsLevel_12 : decode cX4_readsLevel 12 = .ok (.iload_n 1, 1) := by decide +kernel
theorem dX4_readsLevel_13 : decode cX4_readsLevel 13 = .ok (.iconst 1, 1) := by decide +kernel
theorem dX4_readsLevel_14 : decode cX4_readsLevel 14 = .ok (.iadd, 1) := by decide +kernel
theorem dX4_readsLevel_15 : decode cX4_readsLevel 15 = .ok (.iload_n 2, 1) := by decide +kernel
theorem dX4_readsLevel_16 : decode cX4_readsLevel 16 = .ok (.invokevirtual 33, 3) := by decide +kernel
theorem dX4_readsLevel_19 : decode cX4_readsLevel 19 = .ok (.ifCond .ne 5, 3) := by decide +kernel
theorem dX4_readsLevel_22 : decode cX4_readsLevel 22 = .ok (.iconst 0, 1) := by decide +kernel
theorem dX4_readsLevel_23 : decode cX4_readsLevel 23 = .ok (.ireturn, 1) := by decide +kernel
theorem dX4_readsLevel_24 : decode cX4_readsLevel 24 = .ok (.iload_n 1, 1) := by decide +kernel
theorem dX4_readsLevel_25 : decode cX4_readsLevel 25 = .ok (.iconst 2, 1) := by decide +kernel
theorem dX4_readsLevel_26 : decode cX4_readsLevel 26 = .ok (.if_icmp .ne 7, 3) := by decide +kernel
theorem dX4_readsLevel_29 : decode cX4_readsLevel 29 = .ok (.iconst 1, 1) := by decide +kernel
theorem dX4_readsLevel_30 : decode cX4_readsLevel 30 = .ok (.goto 10, 3) := by decide +kernel
theorem dX4_readsLevel_33 : decode cX4_readsLevel 33 = .ok (.aload_n 0, 1) := by decide +kernel
theorem dX4_readsLevel_34 : decode cX4_readsLevel 34 = .ok (.getfield 20, 3) := by decide +kernel
theorem dX4_readsLevel_37 : decode cX4_readsLevel 37 = .ok (.getfield 37, 3) := by decide +kernel
theorem dX4_readsLevel_40 : decode cX4_readsLevel 40 = .ok (.istore_n 3, 1) := by decide +kernel
theorem dX4_readsLevel_41 : decode cX4_readsLevel 41 = .ok (.iconst 0, 1) := by decide +kernel
theorem dX4_readsLevel_42 : decode cX4_readsLevel 42 = .ok (.istore 4, 2) := by decide +kernel
theorem dX4_readsLevel_44 : decode cX4_readsLevel 44 = .ok (.iload 4, 2) := by decide +kernel
theorem dX4_readsLevel_46 : decode cX4_readsLevel 46 = .ok (.iload_n 3, 1) := by decide +kernel
theorem dX4_readsLevel_47 : decode cX4_readsLevel 47 = .ok (.if_icmp .ge 59, 3) := by decide +kernel
theorem dX4_readsLevel_50 : decode cX4_readsLevel 50 = .ok (.aload_n 0, 1) := by decide +kernel
theorem dX4_readsLevel_51 : decode cX4_readsLevel 51 = .ok (.invokevirtual 44, 3) := by decide +kernel
theorem dX4_readsLevel_54 : decode cX4_readsLevel 54 = .ok (.invokestatic 48, 3) := by decide +kernel
theorem dX4_readsLevel_57 : decode cX4_readsLevel 57 = .ok (.iload_n 1, 1) := by decide +kernel
theorem dX4_readsLevel_58 : decode cX4_readsLevel 58 = .ok (.if_icmp .ne 48, 3) := by decide +kernel
theorem dX4_readsLevel_61 : decode cX4_readsLevel 61 = .ok (.aload_n 0, 1) := by decide +kernel
theorem dX4_readsLevel_62 : decode cX4_readsLevel 62 = .ok (.invokevirtual 44, 3) := by decide +kernel
theorem dX4_readsLevel_65 : decode cX4_readsLevel 65 = .ok (.istore 5, 2) := by decide +kernel
theorem dX4_readsLevel_67 : decode cX4_readsLevel 67 = .ok (.aload_n 0, 1) := by decide +kernel
theorem dX4_readsLevel_68 : decode cX4_readsLevel 68 = .ok (.dup, 1) := by decide +kernel
theorem dX4_readsLevel_69 : decode cX4_readsLevel 69 = .ok (.getfield 27, 3) := by decide +kernel
theorem dX4_readsLevel_72 : decode cX4_readsLevel 72 = .ok (.iconst 1, 1) := by decide +kernel
theorem dX4_readsLevel_73 : decode cX4_readsLevel 73 = .ok (.iadd, 1) := by decide +kernel
theorem dX4_readsLevel_74 : decode cX4_readsLevel 74 = .ok (.putfield 27, 3) := by decide +kernel
theorem dX4_readsLevel_77 : decode cX4_readsLevel 77 = .ok (.aload_n 0, 1) := by decide +kernel
theorem dX4_readsLevel_78 : decode cX4_readsLevel 78 = .ok (.iload_n 1, 1) := by decide +kernel
theorem dX4_readsLevel_79 : decode cX4_readsLevel 79 = .ok (.iconst 1, 1) := by decide +kernel
theorem dX4_readsLevel_80 : decode cX4_readsLevel 80 = .ok (.iadd, 1) := by decide +kernel
theorem dX4_readsLevel_81 : decode cX4_readsLevel 81 = .ok (.iload_n 2, 1) := by decide +kernel
theorem dX4_readsLevel_82 : decode cX4_readsLevel 82 = .ok (.invokevirtual 33, 3) := by decide +kernel
theorem dX4_readsLevel_85 : decode cX4_readsLevel 85 = .ok (.ifCond .ne 5, 3) := by decide +kernel
theorem dX4_readsLevel_88 : decode cX4_readsLevel 88 = .ok (.iconst 0, 1) := by decide +kernel
theorem dX4_readsLevel_89 : decode cX4_readsLevel 89 = .ok (.ireturn, 1) := by decide +kernel
theorem dX4_readsLevel_90 : decode cX4_readsLevel 90 = .ok (.aload_n 0, 1) := by decide +kernel
theorem dX4_readsLevel_91 : decode cX4_readsLevel 91 = .ok (.getfield 14, 3) := by decide +kernel
theorem dX4_readsLevel_94 : decode cX4_readsLevel 94 = .ok (.iload 5, 2) := by decide +kernel
theorem dX4_readsLevel_96 : decode cX4_readsLevel 96 = .ok (.ineg, 1) := by decide +kernel
theorem dX4_readsLevel_97 : decode cX4_readsLevel 97 = .ok (.invokevirtual 52, 3) := by decide +kernel
theorem dX4_readsLevel_100 : decode cX4_readsLevel 100 = .ok (.iinc 4 1, 3) := by decide +kernel
theorem dX4_readsLevel_103 : decode cX4_readsLevel 103 = .ok (.goto (-59), 3) := by decide +kernel
theorem dX4_readsLevel_106 : decode cX4_readsLevel 106 = .ok (.iconst 1, 1) := by decide +kernel
theorem dX4_readsLevel_107 : decode cX4_readsLevel 107 = .ok (.ireturn, 1) := by decide +kernel
set_option maxRecDepth 20000 in
theorem ggX4_readsQ_X4_next : GoodIn wsX4_readsQ wsX4_next := goodIn_r _ [9, 3, 10, 43, 44, 45, 46, 47, 48] (by decide +kernel) (by decide +kernel)
set_option maxRecDepth 20000 in
theorem gX4_readsQ_X4_next : GoodIn wsX4_readsQ (wsV RX4 44 RX4 yX4_next wsX4_next) := goodIn_app (goodIn_of _ (by decide +kernel)) ggX4_readsQ_X4_next
set_option maxRecDepth 20000 in
theorem ggX4_readsQ_X4_isDigit : GoodIn wsX4_readsQ wsX4_isDigit := goodIn_r _ [13] (by decide +kernel) (by decide +kernel)
set_option maxRecDepth 20000 in
theorem gX4_readsQ_X4_isDigit : GoodIn wsX4_readsQ (va_wsS RX4 55 yX4_isDigit wsX4_isDigit) := goodIn_app (goodIn_of _ (by decide +kernel)) ggX4_readsQ_X4_isDigit
set_option maxRecDepth 20000 in
theorem ggX4_readsQ_X4_readsNumber : GoodIn wsX4_readsQ wsX4_readsNumber := goodIn_r _ [17, 3, 4, 5, 6, 7, 8, 9, 10, 11, 12, 13, 18, 19, 20, 21, 22, 23, 24, 43, 44, 45, 46, 47, 48] (by decide +kernel) (by decide +kernel)
set_option maxRecDepth 20000 in
theorem gX4_readsQ_X4_readsNumber : GoodIn wsX4_readsQ (wsV RX4 58 RX4 yX4_readsNumber wsX4_readsNumber) := goodIn_app (goodIn_of _ (by decide +kernel)) ggX4_readsQ_X4_readsNumber
set_option maxRecDepth 20000 in
theorem ggX4_readsQ_X6_add : GoodIn wsX4_readsQ wsX6_add := goodIn_r _ [22, 23, 24, 47, 48] (by decide +kernel) (by decide +kernel)
set_option maxRecDepth 20000 in
theorem gX4_readsQ_X6_add : GoodIn wsX4_readsQ (wsV RX4 52 RX6 yX6_add wsX6_add) := goodIn_app (goodIn_of _ (by decide +kernel)) ggX4_readsQ_X6_add
set_option maxRecDepth 20000 in
theorem ggX4_readsQ_X4_readsNot : GoodIn wsX4_readsQ wsX4_readsNot := goodIn_r _ [42, 3, 4, 36, 37, 38, 8, 18, 19, 20, 21, 22, 23, 24, 31, 32, 33, 34, 5, 6, 7, 9, 10, 35, 39, 40, 41, 0, 1, 2, 11, 12, 13, 14, 15, 16, 17, 25, 26, 27, 28, 29, 30, 43, 44, 45, 46, 47, 48] (by decide +kernel) (by decide +kernel)
set_option maxRecDepth 20000 in
theorem gX4_readsQ_X4_readsNot : GoodIn wsX4_readsQ (wsV RX4 66 RX4 yX4_readsNot wsX4_readsNot) := goodIn_app (goodIn_of _ (by decide +kernel)) ggX4_readsQ_X4_readsNot
set_option maxRecDepth 20000 in
theorem ggX4_readsQ_X4_readsGroup : GoodIn wsX4_readsQ wsX4_readsGroup := goodIn_r _ [31, 3, 32, 33, 34, 8, 5, 6, 7, 9, 10, 35, 4, 36, 37, 38, 39, 40, 41, 18, 19, 20, 21, 22, 23, 24, 42, 0, 1, 2, 11, 12, 13, 14, 15, 16, 17, 25, 26, 27, 28, 29, 30, 43, 44, 45, 46, 47, 48] (by decide +kernel) (by decide +kernel)
set_option maxRecDepth 20000 in
theorem gX4_readsQ_X4_readsGroup : GoodIn wsX4_readsQ (wsV RX4 69 RX4 yX4_readsGroup wsX4_readsGroup) := goodIn_app (goodIn_of _ (by decide +kernel)) ggX4_readsQ_X4_readsGroup
theorem dX4_readsQ_0 : decode cX4_readsQ 0 = .ok (.aload_n 0, 1) := by decide +kernel
theorem dX4_readsQ_1 : decode cX4_readsQ 1 = .ok (.invokevirtual 44, 3) := by decide +kernel
theorem dX4_readsQ_4 : decode cX4_readsQ 4 = .ok (.istore_n 2, 1) := by decide +kernel
theorem dX4_readsQ_5 : decode cX4_readsQ 5 = .ok (.iload_n 2, 1) := by decide +kernel
theorem dX4_readsQ_6 : decode cX4_readsQ 6 = .ok (.invokestatic 55, 3) := by decide +kernel
theorem dX4_readsQ_9 : decode cX4_readsQ 9 = .ok (.ifCond .eq 8, 3) := by decide +kernel
theorem dX4_readsQ_12 : decode cX4_readsQ 12 = .ok (.aload_n 0, 1) := by decide +kernel
theorem dX4_readsQ_13 : decode cX4_readsQ 13 = .ok (.invokevirtual 58, 3) := by decide +kernel
theorem dX4_readsQ_16 : decode cX4_readsQ 16 = .ok (.ireturn, 1) := by decide +kernel
theorem dX4_readsQ_17 : decode cX4_readsQ 17 = .ok (.iconst 0, 1) := by decide +kernel
theorem dX4_readsQ_18 : decode cX4_readsQ 18 = .ok (.istore_n 3, 1) := by decide +kernel
theorem dX4_readsQ_19 : decode cX4_readsQ 19 = .ok (.iload_n 3, 1) := by decide +kernel
theorem dX4_readsQ_20 : decode cX4_readsQ 20 = .ok (.iconst 3, 1) := by decide +kernel
theorem dX4_readsQ_21 : decode cX4_readsQ 21 = .ok (.if_icmp .ge 47, 3) := by decide +kernel
theorem dX4_readsQ_24 : decode cX4_readsQ 24 = .ok (.iload_n 2, 1) := by decide +kernel
theorem dX4_readsQ_25 : decode cX4_readsQ 25 = .ok (.getstatic 62, 3) := by decide +kernel
theorem dX4_readsQ_28 : decode cX4_readsQ 28 = .ok (.iconst 3, 1) := by decide +kernel
theorem dX4_readsQ_29 : decode cX4_readsQ 29 = .ok (.aload_n 0, 1) := by decide +kernel
theorem dX4_readsQ_30 : decode cX4_readsQ 30 = .ok (.getfield 23, 3) := by decide +kernel
theorem dX4_readsQ_33 : decode cX4_readsQ 33 = .ok (.imul, 1) := by decide +kernel
theorem dX4_readsQ_34 : decode cX4_readsQ 34 = .ok (.iload_n 3, 1) := by decide +kernel
theorem dX4_readsQ_35 : decode cX4_readsQ 35 = .ok (.iadd, 1) := by decide +kernel
theorem dX4_readsQ_36 : decode cX4_readsQ 36 = .ok (.caload, 1) := by decide +kernel
theorem dX4_readsQ_37 : decode cX4_readsQ 37 = .ok (.if_icmp .ne 25, 3) := by decide +kernel
theorem dX4_readsQ_40 : decode cX4_readsQ 40 = .ok (.aload_n 0, 1) := by decide +kernel
theorem dX4_readsQ_41 : decode cX4_readsQ 41 = .ok (.dup, 1) := by decide +kernel
theorem dX4_readsQ_42 : decode cX4_readsQ 42 = .ok (.getfield 27, 3) := by decide +kernel
theorem dX4_readsQ_45 : decode cX4_readsQ 45 = .ok (.iconst 1, 1) := by decide +kernel
theorem dX4_readsQ_46 : decode cX4_readsQ 46 = .ok (.iadd, 1) := by decide +kernel
theorem dX4_readsQ_47 : decode cX4_readsQ 47 = .ok (.putfield 27, 3) := by decide +kernel
theorem dX4_readsQ_50 : decode cX4_readsQ 50 = .ok (.aload_n 0, 1) := by decide +kernel
theorem dX4_readsQ_51 : decode cX4_readsQ 51 = .ok (.getfield 14, 3) := by decide +kernel
theorem dX4_readsQ_54 : decode cX4_readsQ 54 = .ok (.iconst (-1), 1) := by decide +kernel
theorem dX4_readsQ_55 : decode cX4_readsQ 55 = .ok (.iload_n 3, 1) := by decide +kernel
theorem dX4_readsQ_56 : decode cX4_readsQ 56 = .ok (.isub, 1) := by decide +kernel
theorem dX4_readsQ_57 : decode cX4_readsQ 57 = .ok (.invokevirtual 52, 3) := by decide +kernel
theorem dX4_readsQ_60 : decode cX4_readsQ 60 = .ok (.iconst 1, 1) := by decide +kernel
theorem dX4_readsQ_61 : decode cX4_readsQ 61 = .ok (.ireturn, 1) := by decide +kernel
theorem dX4_readsQ_62 : decode cX4_readsQ 62 = .ok (.iinc 3 1, 3) := by decide +kernel
theorem dX4_readsQ_65 : decode cX4_readsQ 65 = .ok (.goto (-46), 3) := by decide +kernel
theorem dX4_readsQ_68 : decode cX4_readsQ 68 = .ok (.iload_n 1, 1) := by decide +kernel
theorem dX4_readsQ_69 : decode cX4_readsQ 69 = .ok (.iconst 5, 1) := by decide +kernel
theorem dX4_readsQ_70 : decode cX4_readsQ 70 = .ok (.if_icmp .lt 5, 3) := by decide +kernel
theorem dX4_readsQ_73 : decode cX4_readsQ 73 = .ok (.iconst 0, 1) := by decide +kernel
theorem dX4_readsQ_74 : decode cX4_readsQ 74 = .ok (.ireturn, 1) := by decide +kernel
theorem dX4_readsQ_75 : decode cX4_readsQ 75 = .ok (.iload_n 2, 1) := by decide +kernel
theorem dX4_readsQ_76 : decode cX4_readsQ 76 = .ok (.bipush 33, 2) := by decide +kernel
theorem dX4_readsQ_78 : decode cX4_readsQ 78 = .ok (.if_icmp .ne 11, 3) := by decide +kernel
theorem dX4_readsQ_81 : decode cX4_readsQ 81 = .ok (.aload_n 0, 1) := by decide +kernel
theorem dX4_readsQ_82 : decode cX4_readsQ 82 = .ok (.iload_n 1, 1) := by decide +kernel
theorem dX4_readsQ_83 : decode cX4_readsQ 83 = .ok (.iconst 1, 1) := by decide +kernel
theorem dX4_readsQ_84 : decode cX4_readsQ 84 = .ok (.iadd, 1) := by decide +kernel
theorem dX4_readsQ_85 : decode cX4_readsQ 85 = .ok (.invokevirtual 66, 3) := by decide +kernel
theorem dX4_readsQ_88 : decode cX4_readsQ 88 = .ok (.ireturn, 1) := by decide +kernel
theorem dX4_readsQ_89 : decode cX4_readsQ 89 = .ok (.iload_n 2, 1) := by decide +kernel
theorem dX4_readsQ_90 : decode cX4_readsQ 90 = .ok (.bipush 40, 2) := by decide +kernel
theorem dX4_readsQ_92 : decode cX4_readsQ 92 = .ok (.if_icmp .ne 17, 3) := by decide +kernel
theorem dX4_readsQ_95 : decode cX4_readsQ 95 = .ok (.aload_n 0, 1) := by decide +kernel
theorem dX4_readsQ_96 : decode cX4_readsQ 96 = .ok (.iload_n 1, 1) := by decide +kernel
theorem dX4_readsQ_97 : decode cX4_readsQ 97 = .ok (.iconst 1, 1) := by decide +kernel
theorem dX4_readsQ_98 : decode cX4_readsQ 98 = .ok (.iadd, 1) := by decide +kernel
theorem dX4_readsQ_99 : decode cX4_readsQ 99 = .ok (.invokevirtual 69, 3) := by decide +kernel
theorem dX4_readsQ_102 : decode cX4_readsQ 102 = .ok (.ifCond .eq 7, 3) := by decide +kernel
theorem dX4_readsQ_105 : decode cX4_readsQ 105 = .ok (.iconst 1, 1) := by decide +kernel
theorem dX4_readsQ_106 : decode cX4_readsQ 106 = .ok (.goto 4, 3) := by decide +kernel
theorem dX4_readsQ_109 : decode cX4_readsQ 109 = .ok (.iconst 0, 1) := by decide +kernel
theorem dX4_readsQ_110 : decode cX4_readsQ 110 = .ok (.ireturn, 1) := by decide +kernel
set_option maxRecDepth 20000 in
theorem ggX4_readsNot_X4_readsQ : GoodIn wsX4_readsNot wsX4_readsQ := goodIn_r _ [27, 28, 29, 1, 2, 18, 19, 20, 6, 21, 22, 30, 31, 32, 33, 34, 35, 36, 7, 8, 9, 10, 11, 12, 13, 37, 38, 39, 40, 41, 42, 14, 15, 16, 17, 23, 3, 4, 5, 24, 25, 26, 0, 43, 44, 45, 46, 47, 48] (by decide +kernel) (by decide +kernel)
set_option maxRecDepth 20000 in
theorem gX4_readsNot_X4_readsQ : GoodIn wsX4_readsNot (wsV RX4 40 RX4 yX4_readsQ wsX4_readsQ) := goodIn_app (goodIn_of _ (by decide +kernel)) ggX4_readsNot_X4_readsQ
set_option maxRecDepth 20000 in
theorem ggX4_readsNot_X6_add : GoodIn wsX4_readsNot wsX6_add := goodIn_r _ [11, 12, 13, 47, 48] (by decide +kernel) (by decide +kernel)
set_option maxRecDepth 20000 in
theorem gX4_readsNot_X6_add : GoodIn wsX4_readsNot (wsV RX4 52 RX6 yX6_add wsX6_add) := goodIn_app (goodIn_of _ (by decide +kernel)) ggX4_readsNot_X6_add
theorem dX4_readsNot_0 : decode cX4_readsNot 0 = .ok (.aload_n 0, 1) := by decide +kernel
theorem dX4_readsNot_1 : decode cX4_readsNot 1 = .ok (.dup, 1) := by decide +kernel
theorem dX4_readsNot_2 : decode cX4_readsNot 2 = .ok (.getfield 27, 3) := by decide +kernel
theorem dX4_readsNot_5 : decode cX4_readsNot 5 = .ok (.iconst 1, 1) := by decide +kernel
theorem dX4_readsNot_6 : decode cX4_readsNot 6 = .ok (.iadd, 1) := by decide +kernel
theorem dX4_readsNot_7 : decode cX4_readsNot 7 = .ok (.putfield 27, 3) := by decide +kernel
theorem dX4_readsNot_10 : decode cX4_readsNot 10 = .ok (.aload_n 0, 1) := by decide +kernel
theorem dX4_readsNot_11 : decode cX4_readsNot 11 = .ok (.iload_n 1, 1) := by decide +kernel
theorem dX4_readsNot_12 : decode cX4_readsNot 12 = .ok (.invokevirtual 40, 3) := by decide +kernel
theorem dX4_readsNot_15 : decode cX4_readsNot 15 = .ok (.ifCond .ne 5, 3) := by decide +kernel
theorem dX4_readsNot_18 : decode cX4_readsNot 18 = .ok (.iconst 0, 1) := by decide +kernel
theorem dX4_readsNot_19 : decode cX4_readsNot 19 = .ok (.ireturn, 1) := by decide +kernel
theorem dX4_readsNot_20 : decode cX4_readsNot 20 = .ok (.aload_n 0, 1) := by decide +kernel
theorem dX4_readsNot_21 : decode cX4_readsNot 21 = .ok (.getfield 14, 3) := by decide +kernel
theorem dX4_readsNot_24 : decode cX4_readsNot 24 = .ok (.bipush (-33), 2) := by decide +kernel
theorem dX4_readsNot_26 : decode cX4_readsNot 26 = .ok (.invokevirtual 52, 3) := by decide +kernel
theorem dX4_readsNot_29 : decode cX4_readsNot 29 = .ok (.iconst 1, 1) := by decide +kernel
theorem dX4_readsNot_30 : decode cX4_readsNot 30 = .ok (.ireturn, 1) := by decide +kernel
set_option maxRecDepth 20000 in
theorem ggX4_readsGroup_X4_readsLevel : GoodIn wsX4_readsGroup wsX4_readsLevel := goodIn_r _ [11, 10, 1, 12, 13, 14, 15, 5, 2, 3, 4, 6, 7, 8, 9, 16, 17, 18, 19, 20, 21, 22, 23, 24, 25, 0, 26, 27, 28, 29, 30, 31, 32, 33, 34, 35, 36, 37, 38, 39, 40, 41, 42, 43, 44, 45, 46, 47, 48] (by decide +kernel) (by decide +kernel)
set_option maxRecDepth 20000 in
theorem gX4_readsGroup_X4_readsLevel : GoodIn wsX4_readsGroup (wsV RX4 33 RX4 yX4_readsLevel wsX4_readsLevel) := goodIn_app (goodIn_of _ (by decide +kernel)) ggX4_readsGroup_X4_readsLevel
set_option maxRecDepth 20000 in
theorem ggX4_readsGroup_X4_next : GoodIn wsX4_readsGroup wsX4_next := goodIn_r _ [9, 1, 10, 43, 44, 45, 46, 47, 48] (by decide +kernel) (by decide +kernel)
set_option maxRecDepth 20000 in
theorem gX4_readsGroup_X4_next : GoodIn wsX4_readsGroup (wsV RX4 44 RX4 yX4_next wsX4_next) := goodIn_app (goodIn_of _ (by decide +kernel)) ggX4_readsGroup_X4_next
theorem dX4_readsGroup_0 : decode cX4_readsGroup 0 = .ok (.aload_n 0, 1) := by decide +kernel
theorem dX4_readsGroup_1 : decode cX4_readsGroup 1 = .ok (.dup, 1) := by decide +kernel
theorem dX4_readsGroup_2 : decode cX4_readsGroup 2 = .ok (.getfield 27, 3) := by decide +kernel
theorem dX4_readsGroup_5 : decode cX4_readsGroup 5 = .ok (.iconst 1, 1) := by decide +kernel
theorem dX4_readsGroup_6 : decode cX4_readsGroup 6 = .ok (.iadd, 1) := by decide +kernel
theorem dX4_readsGroup_7 : decode cX4_readsGroup 7 = .ok (.putfield 27, 3) := by decide +kernel
theorem dX4_readsGroup_10 : decode cX4_readsGroup 10 = .ok (.aload_n 0, 1) := by decide +kernel
theorem dX4_readsGroup_11 : decode cX4_readsGroup 11 = .ok (.iconst 0, 1) := by decide +kernel
theorem dX4_readsGroup_12 : decode cX4_readsGroup 12 = .ok (.iload_n 1, 1) := by decide +kernel
theorem dX4_readsGroup_13 : decode cX4_readsGroup 13 = .ok (.invokevirtual 33, 3) := by decide +kernel
theorem dX4_readsGroup_16 : decode cX4_readsGroup 16 = .ok (.ifCond .eq 12, 3) := by decide +kernel
theorem dX4_readsGroup_19 : decode cX4_readsGroup 19 = .ok (.aload_n 0, 1) := by decide +kernel
theorem dX4_readsGroup_20 : decode cX4_readsGroup 20 = .ok (.invokevirtual 44, 3) := by decide +kernel
theorem dX4_readsGroup_23 : decode cX4_readsGroup 23 = .ok (.bipush 41, 2) := by decide +kernel
theorem dX4_readsGroup_25 : decode cX4_readsGroup 25 = .ok (.if_icmp .eq 5, 3) := by decide +kernel
theorem dX4_readsGroup_28 : decode cX4_readsGroup 28 = .ok (.iconst 0, 1) := by decide +kernel
theorem dX4_readsGroup_29 : decode cX4_readsGroup 29 = .ok (.ireturn, 1) := by decide +kernel
theorem dX4_readsGroup_30 : decode cX4_readsGroup 30 = .ok (.aload_n 0, 1) := by decide +kernel
theorem dX4_readsGroup_31 : decode cX4_readsGroup 31 = .ok (.dup, 1) := by decide +kernel
theorem dX4_readsGroup_32 : decode cX4_readsGroup 32 = .ok (.getfield 27, 3) := by decide +kernel
theorem dX4_readsGroup_35 : decode cX4_readsGroup 35 = .ok (.iconst 1, 1) := by decide +kernel
theorem dX4_readsGroup_36 : decode cX4_readsGroup 36 = .ok (.iadd, 1) := by decide +kernel
theorem dX4_readsGroup_37 : decode cX4_readsGroup 37 = .ok (.putfield 27, 3) := by decide +kernel
theorem dX4_readsGroup_40 : decode cX4_readsGroup 40 = .ok (.iconst 1, 1) := by decide +kernel
theorem dX4_readsGroup_41 : decode cX4_readsGroup 41 = .ok (.ireturn, 1) := by decide +kernel
set_option maxRecDepth 20000 in
theorem ggX4_readsNumber_X4_next : GoodIn wsX4_readsNumber wsX4_next := goodIn_r _ [7, 1, 8, 19, 20, 21, 22, 23, 24] (by decide +kernel) (by decide +kernel)
set_option maxRecDepth 20000 in
theorem gX4_readsNumber_X4_next : GoodIn wsX4_readsNumber (wsV RX4 44 RX4 yX4_next wsX4_next) := goodIn_app (goodIn_of _ (by decide +kernel)) ggX4_readsNumber_X4_next
set_option maxRecDepth 20000 in
theorem ggX4_readsNumber_X4_isDigit : GoodIn wsX4_readsNumber wsX4_isDigit := goodIn_r _ [11] (by decide +kernel) (by decide +kernel)
set_option maxRecDepth 20000 in
theorem gX4_readsNumber_X4_isDigit : GoodIn wsX4_readsNumber (va_wsS RX4 55 yX4_isDigit wsX4_isDigit) := goodIn_app (goodIn_of _ (by decide +kernel)) ggX4_readsNumber_X4_isDigit
set_option maxRecDepth 20000 in
theorem ggX4_readsNumber_X6_add : GoodIn wsX4_readsNumber wsX6_add := goodIn_r _ [16, 17, 18, 23, 24] (by decide +kernel) (by decide +kernel)
set_option maxRecDepth 20000 in
theorem gX4_readsNumber_X6_add : GoodIn wsX4_readsNumber (wsV RX4 52 RX6 yX6_add wsX6_add) := goodIn_app (goodIn_of _ (by decide +kernel)) ggX4_readsNumber_X6_add
theorem dX4_readsNumber_0 : decode cX4_readsNumber 0 = .ok (.iconst 0, 1) := by decide +kernel
theorem dX4_readsNumber_1 : decode cX4_readsNumber 1 = .ok (.istore_n 1, 1) := by decide +kernel
theorem dX4_readsNumber_2 : decode cX4_readsNumber 2 = .ok (.iconst 0, 1) := by decide +kernel
theorem dX4_readsNumber_3 : decode cX4_readsNumber 3 = .ok (.istore_n 2, 1) := by decide +kernel
theorem dX4_readsNumber_4 : decode cX4_readsNumber 4 = .ok (.iload_n 2, 1) := by decide +kernel
theorem dX4_readsNumber_5 : decode cX4_readsNumber 5 = .ok (.iconst 4, 1) := by decide +kernel
theorem dX4_readsNumber_6 : decode cX4_readsNumber 6 = .ok (.if_icmp .ge 42, 3) := by decide +kernel
theorem dX4_readsNumber_9 : decode cX4_readsNumber 9 = .ok (.aload_n 0, 1) := by decide +kernel
theorem dX4_readsNumber_10 : decode cX4_readsNumber 10 = .ok (.invokevirtual 44, 3) := by decide +kernel
theorem dX4_readsNumber_13 : decode cX4_readsNumber 13 = .ok (.invokestatic 55, 3) := by decide +kernel
theorem dX4_readsNumber_16 : decode cX4_readsNumber 16 = .ok (.ifCond .eq 32, 3) := by decide +kernel
theorem dX4_readsNumber_19 : decode cX4_readsNumber 19 = .ok (.bipush 10, 2) := by decide +kernel
theorem dX4_readsNumber_21 : decode cX4_readsNumber 21 = .ok (.iload_n 1, 1) := by decide +kernel
theorem dX4_readsNumber_22 : decode cX4_readsNumber 22 = .ok (.imul, 1) := by decide +kernel
theorem dX4_readsNumber_23 : decode cX4_readsNumber 23 = .ok (.aload_n 0, 1) := by decide +kernel
theorem dX4_readsNumber_24 : decode cX4_readsNumber 24 = .ok (.invokevirtual 44, 3) := by decide +kernel
theorem dX4_readsNumber_27 : decode cX4_readsNumber 27 = .ok (.iadd, 1) := by decide +kernel
theorem dX4_readsNumber_28 : decode cX4_readsNumber 28 = .ok (.bipush 48, 2) := by decide +kernel
theorem dX4_readsNumber_30 : decode cX4_readsNumber 30 = .ok (.isub, 1) := by decide +kernel
theorem dX4_readsNumber_31 : decode cX4_readsNumber 31 = .ok (.istore_n 1, 1) := by decide +kernel
theorem dX4_readsNumber_32 : decode cX4_readsNumber 32 = .ok (.aload_n 0, 1) := by decide +kernel
theorem dX4_readsNumber_33 : decode cX4_readsNumber 33 = .ok (.dup, 1) := by decide +kernel
theorem dX4_readsNumber_34 : decode cX4_readsNumber 34 = .ok (.getfield 27, 3) := by decide +kernel
theorem dX4_readsNumber_37 : decode cX4_readsNumber 37 = .ok (.iconst 1, 1) := by decide +kernel
theorem dX4_readsNumber_38 : decode cX4_readsNumber 38 = .ok (.iadd, 1) := by decide +kernel
theorem dX4_readsNumber_39 : decode cX4_readsNumber 39 = .ok (.putfield 27, 3) := by decide +kernel
theorem dX4_readsNumber_42 : decode cX4_readsNumber 42 = .ok (.iinc 2 1, 3) := by decide +kernel
theorem dX4_readsNumber_45 : decode cX4_readsNumber 45 = .ok (.goto (-41), 3) := by decide +kernel
theorem dX4_readsNumber_48 : decode cX4_readsNumber 48 = .ok (.aload_n 0, 1) := by decide +kernel
theorem dX4_readsNumber_49 : decode cX4_readsNumber 49 = .ok (.getfield 14, 3) := by decide +kernel
theorem dX4_readsNumber_52 : decode cX4_readsNumber 52 = .ok (.iload_n 1, 1) := by decide +kernel
theorem dX4_readsNumber_53 : decode cX4_readsNumber 53 = .ok (.invokevirtual 52, 3) := by decide +kernel
theorem dX4_readsNumber_56 : decode cX4_readsNumber 56 = .ok (.iconst 1, 1) := by decide +kernel
theorem dX4_readsNumber_57 : decode cX4_readsNumber 57 = .ok (.ireturn, 1) := by decide +kernel
theorem dX4_next_0 : decode cX4_next 0 = .ok (.aload_n 0, 1) := by decide +kernel
theorem dX4_next_1 : decode cX4_next 1 = .ok (.getfield 27, 3) := by decide +kernel
theorem dX4_next_4 : decode cX4_next 4 = .ok (.ifCond .lt 32, 3) := by decide +kernel
theorem dX4_next_7 : decode cX4_next 7 = .ok (.aload_n 0, 1) := by decide +kernel
theorem dX4_next_8 : decode cX4_next 8 = .ok (.getfield 27, 3) := by decide +kernel
theorem dX4_next_11 : decode cX4_next 11 = .ok (.aload_n 0, 1) := by decide +kernel
theorem dX4_next_12 : decode cX4_next 12 = .ok (.getfield 20, 3) := by decide +kernel
theorem dX4_next_15 : decode cX4_next 15 = .ok (.getfield 37, 3) := by decide +kernel
theorem dX4_next_18 : decode cX4_next 18 = .ok (.if_icmp .ge 18, 3) := by decide +kernel
theorem dX4_next_21 : decode cX4_next 21 = .ok (.aload_n 0, 1) := by decide +kernel
theorem dX4_next_22 : decode cX4_next 22 = .ok (.getfield 20, 3) := by decide +kernel
theorem dX4_next_25 : decode cX4_next 25 = .ok (.getfield 72, 3) := by decide +kernel
theorem dX4_next_28 : decode cX4_next 28 = .ok (.aload_n 0, 1) := by decide +kernel
theorem dX4_next_29 : decode cX4_next 29 = .ok (.getfield 27, 3) := by decide +kernel
theorem dX4_next_32 : decode cX4_next 32 = .ok (.iaload, 1) := by decide +kernel
theorem dX4_next_33 : decode cX4_next 33 = .ok (.goto 4, 3) := by decide +kernel
theorem dX4_next_36 : decode cX4_next 36 = .ok (.iconst (-1), 1) := by decide +kernel
theorem dX4_next_37 : decode cX4_next 37 = .ok (.ireturn, 1) := by decide +kernel
theorem dX4_isDigit_0 : decode cX4_isDigit 0 = .ok (.iload_n 0, 1) := by decide +kernel
theorem dX4_isDigit_1 : decode cX4_isDigit 1 = .ok (.bipush 48, 2) := by decide +kernel
theorem dX4_isDigit_3 : decode cX4_isDigit 3 = .ok (.if_icmp .lt 13, 3) := by decide +kernel
theorem dX4_isDigit_6 : decode cX4_isDigit 6 = .ok (.iload_n 0, 1) := by decide +kernel
theorem dX4_isDigit_7 : decode cX4_isDigit 7 = .ok (.bipush 57, 2) := by decide +kernel
theorem dX4_isDigit_9 : decode cX4_isDigit 9 = .ok (.if_icmp .gt 7, 3) := by decide +kernel
theorem dX4_isDigit_12 : decode cX4_isDigit 12 = .ok (.iconst 1, 1) := by decide +kernel
theorem dX4_isDigit_13 : decode cX4_isDigit 13 = .ok (.goto 4, 3) := by decide +kernel
theorem dX4_isDigit_16 : decode cX4_isDigit 16 = .ok (.iconst 0, 1) := by decide +kernel
theorem dX4_isDigit_17 : decode cX4_isDigit 17 = .ok (.ireturn, 1) := by decide +kernel
theorem dX4_levelOf_0 : decode cX4_levelOf 0 = .ok (.iload_n 0, 1) := by decide +kernel
theorem dX4_levelOf_1 : decode cX4_levelOf 1 = .ok (.lookupswitch 101 #[(37, 99), (38, 93), (42, 99), (43, 97), (45, 97), (47, 99), (60, 95), (61, 95), (62, 95), (124, 91)], 91) := by decide +kernel
theorem dX4_levelOf_92 : decode cX4_levelOf 92 = .ok (.iconst 0, 1) := by decide +kernel
theorem dX4_levelOf_93 : decode cX4_levelOf 93 = .ok (.ireturn, 1) := by decide +kernel
theorem dX4_levelOf_94 : decode cX4_levelOf 94 = .ok (.iconst 1, 1) := by decide +kernel
theorem dX4_levelOf_95 : decode cX4_levelOf 95 = .ok (.ireturn, 1) := by decide +kernel
theorem dX4_levelOf_96 : decode cX4_levelOf 96 = .ok (.iconst 2, 1) := by decide +kernel
theorem dX4_levelOf_97 : decode cX4_levelOf 97 = .ok (.ireturn, 1) := by decide +kernel
theorem dX4_levelOf_98 : decode cX4_levelOf 98 = .ok (.iconst 3, 1) := by decide +kernel
theorem dX4_levelOf_99 : decode cX4_levelOf 99 = .ok (.ireturn, 1) := by decide +kernel
theorem dX4_levelOf_100 : decode cX4_levelOf 100 = .ok (.iconst 4, 1) := by decide +kernel
theorem dX4_levelOf_101 : decode cX4_levelOf 101 = .ok (.ireturn, 1) := by decide +kernel
theorem dX4_levelOf_102 : decode cX4_levelOf 102 = .ok (.iconst (-1), 1) := by decide +kernel
theorem dX4_levelOf_103 : decode cX4_levelOf 103 = .ok (.ireturn, 1) := by decide +kernel
theorem dX5_init_0 : decode cX5_init 0 = .ok (.aload_n 0, 1) := by decide +kernel
theorem dX5_init_1 : decode cX5_init 1 = .ok (.invokespecial 3, 3) := by decide +kernel
theorem dX5_init_4 : decode cX5_init 4 = .ok (.return_, 1) := by decide +kernel
set_option maxRecDepth 20000 in
theorem ggX5_seek_X9_columnsFrom : GoodIn wsX5_seek wsX9_columnsFrom := goodIn_r _ [6] (by decide +kernel) (by decide +kernel)
set_option maxRecDepth 20000 in
theorem gX5_seek_X9_columnsFrom_n9 : GoodIn wsX5_seek (wsX9_columnsFrom) := ggX5_seek_X9_columnsFrom
set_option maxRecDepth 20000 in
theorem ggX5_seek_X0_linesOn : GoodIn wsX5_seek wsX0_linesOn := goodIn_r _ [11, 12, 13, 90, 91, 92, 93, 94, 95, 96, 97, 98, 99, 100, 101, 102, 103, 104, 105, 106] (by decide +kernel) (by decide +kernel)
set_option maxRecDepth 20000 in
theorem gX5_seek_X0_linesOn : GoodIn wsX5_seek (wsV RX5 13 RX0 yX0_linesOn wsX0_linesOn) := goodIn_app (goodIn_of _ (by decide +kernel)) ggX5_seek_X0_linesOn
set_option maxRecDepth 20000 in
theorem ggX5_seek_X5_lastBehind : GoodIn wsX5_seek wsX5_lastBehind := goodIn_r _ [17, 18, 19, 20, 21, 22, 5, 23, 24, 25, 26, 27, 28, 29, 30, 31, 32, 33, 34, 35, 36, 37, 38, 90, 91, 92, 93, 94, 95, 96, 97, 98, 99, 100, 101, 102, 103, 104, 105, 106] (by decide +kernel) (by decide +kernel)
set_option maxRecDepth 20000 in
theorem gX5_seek_X5_lastBehind : GoodIn wsX5_seek (va_wsS RX5 19 yX5_lastBehind wsX5_lastBehind) := goodIn_app (goodIn_of _ (by decide +kernel)) ggX5_seek_X5_lastBehind
set_option maxRecDepth 20000 in
theorem ggX5_seek_X5_lossOfAll : GoodIn wsX5_seek wsX5_lossOfAll := goodIn_r _ [41, 22, 5, 23, 42, 43, 44, 10, 45, 13, 46, 47, 48, 27, 49, 31, 32, 19, 20, 21, 38, 37, 50, 51, 52, 53, 54, 55, 56, 57, 58, 59, 60, 61, 62, 63, 64, 65, 66, 67, 68, 69, 70, 71, 72, 73, 74, 75, 76, 77, 78, 79, 80, 81, 82, 83, 84, 85, 86, 90, 91, 92, 93, 94, 95, 96, 97, 98, 99, 100, 101, 102, 103, 104, 105, 106, 107, 108, 109, 110, 111] (by decide +kernel) (by decide +kernel)
set_option maxRecDepth 20000 in
theorem gX5_seek_X5_lossOfAll : GoodIn wsX5_seek (va_wsS RX5 25 yX5_lossOfAll wsX5_lossOfAll) := goodIn_app (goodIn_of _ (by decide +kernel)) ggX5_seek_X5_lossOfAll
theorem dX5_seek_0 : decode cX5_seek 0 = .ok (.iconst 0, 1) := by decide +kernel
theorem dX5_seek_1 : decode cX5_seek 1 = .ok (.istore 4, 2) := by decide +kernel
theorem dX5_seek_3 : decode cX5_seek 3 = .ok (.iconst 0, 1) := by decide +kernel
theorem dX5_seek_4 : decode cX5_seek 4 = .ok (.istore 5, 2) := by decide +kernel
theorem dX5_seek_6 : decode cX5_seek 6 = .ok (.iload 5, 2) := by decide +kernel
theorem dX5_seek_8 : decode cX5_seek 8 = .ok (.iload_n 2, 1) := by decide +kernel
theorem dX5_seek_9 : decode cX5_seek 9 = .ok (.iadd, 1) := by decide +kernel
theorem dX5_seek_10 : decode cX5_seek 10 = .ok (.bipush 12, 2) := by decide +kernel
theorem dX5_seek_12 : decode cX5_seek 12 = .ok (.if_icmp .gt 75, 3) := by decide +kernel
theorem dX5_seek_15 : decode cX5_seek 15 = .ok (.aload_n 1, 1) := by decide +kernel
theorem dX5_seek_16 : decode cX5_seek 16 = .ok (.iload 5, 2) := by decide +kernel
theorem dX5_seek_18 : decode cX5_seek 18 = .ok (.iload_n 2, 1) := by decide +kernel
theorem dX5_seek_19 : decode cX5_seek 19 = .ok (.invokestatic 9, 3) := by decide +kernel
theorem dX5_seek_22 : decode cX5_seek 22 = .ok (.invokevirtual 13, 3) := by decide +kernel
theorem dX5_seek_25 : decode cX5_seek 25 = .ok (.istore 6, 2) := by decide +kernel
theorem dX5_seek_27 : decode cX5_seek 27 = .ok (.aload_n 1, 1) := by decide +kernel
theorem dX5_seek_28 : decode cX5_seek 28 = .ok (.iload 6, 2) := by decide +kernel
theorem dX5_seek_30 : decode cX5_seek 30 = .ok (.iload_n 3, 1) := by decide +kernel
theorem dX5_seek_31 : decode cX5_seek 31 = .ok (.invokestatic 19, 3) := by decide +kernel
theorem dX5_seek_34 : decode cX5_seek 34 = .ok (.ifCond .ne 47, 3) := by decide +kernel
theorem dX5_seek_37 : decode cX5_seek 37 = .ok (.aload_n 1, 1) := by decide +kernel
theorem dX5_seek_38 : decode cX5_seek 38 = .ok (.iload 6, 2) := by decide +kernel
theorem dX5_seek_40 : decode cX5_seek 40 = .ok (.iload_n 3, 1) := by decide +kernel
theorem dX5_seek_41 : decode cX5_seek 41 = .ok (.invokestatic 25, 3) := by decide +kernel
theorem dX5_seek_44 : decode cX5_seek 44 = .ok (.istore 7, 2) := by decide +kernel
theorem dX5_seek_46 : decode cX5_seek 46 = .ok (.iload 4, 2) := by decide +kernel
theorem dX5_seek_48 : decode cX5_seek 48 = .ok (.ifCond .eq 12, 3) := by decide +kernel
theorem dX5_seek_51 : decode cX5_seek 51 = .ok (.iload 7, 2) := by decide +kernel
theorem dX5_seek_53 : decode cX5_seek 53 = .ok (.aload_n 0, 1) := by decide +kernel
theorem dX5_seek_54 : decode cX5_seek 54 = .ok (.getfield 28, 3) := by decide +kernel
theorem dX5_seek_57 : decode cX5_seek 57 = .ok (.if_icmp .ge 24, 3) := by decide +kernel
theorem dX5_seek_60 : decode cX5_seek 60 = .ok (.iconst 1, 1) := by decide +kernel
theorem dX5_seek_61 : decode cX5_seek 61 = .ok (.istore 4, 2) := by decide +kernel
theorem dX5_seek_63 : decode cX5_seek 63 = .ok (.aload_n 0, 1) := by decide +kernel
theorem dX5_seek_64 : decode cX5_seek 64 = .ok (.iload 7, 2) := by decide +kernel
theorem dX5_seek_66 : decode cX5_seek 66 = .ok (.putfield 28, 3) := by decide +kernel
theorem dX5_seek_69 : decode cX5_seek 69 = .ok (.aload_n 0, 1) := by decide +kernel
theorem dX5_seek_70 : decode cX5_seek 70 = .ok (.iload 5, 2) := by decide +kernel
theorem dX5_seek_72 : decode cX5_seek 72 = .ok (.putfield 32, 3) := by decide +kernel
theorem dX5_seek_75 : decode cX5_seek 75 = .ok (.aload_n 0, 1) := by decide +kernel
theorem dX5_seek_76 : decode cX5_seek 76 = .ok (.iload 6, 2) := by decide +kernel
theorem dX5_seek_78 : decode cX5_seek 78 = .ok (.putfield 35, 3) := by decide +kernel
theorem dX5_seek_81 : decode cX5_seek 81 = .ok (.iinc 5 1, 3) := by decide +kernel
theorem dX5_seek_84 : decode cX5_seek 84 = .ok (.goto (-78), 3) := by decide +kernel
theorem dX5_seek_87 : decode cX5_seek 87 = .ok (.iload 4, 2) := by decide +kernel
theorem dX5_seek_89 : decode cX5_seek 89 = .ok (.ireturn, 1) := by decide +kernel
set_option maxRecDepth 20000 in
theorem ggX5_firstBehind_X9_columnsFrom : GoodIn wsX5_firstBehind wsX9_columnsFrom := goodIn_r _ [8] (by decide +kernel) (by decide +kernel)
set_option maxRecDepth 20000 in
theorem gX5_firstBehind_X9_columnsFrom_n9 : GoodIn wsX5_firstBehind (wsX9_columnsFrom) := ggX5_firstBehind_X9_columnsFrom
set_option maxRecDepth 20000 in
theorem ggX5_firstBehind_X0_linesOn : GoodIn wsX5_firstBehind wsX0_linesOn := goodIn_r _ [13, 14, 15, 40, 41, 42, 43, 44, 45, 46, 47, 48, 49, 50, 51, 52, 53, 54, 55, 56] (by decide +kernel) (by decide +kernel)
set_option maxRecDepth 20000 in
theorem gX5_firstBehind_X0_linesOn : GoodIn wsX5_firstBehind (wsV RX5 13 RX0 yX0_linesOn wsX0_linesOn) := goodIn_app (goodIn_of _ (by decide +kernel)) ggX5_firstBehind_X0_linesOn
set_option maxRecDepth 20000 in
theorem ggX5_firstBehind_X5_lastBehind : GoodIn wsX5_firstBehind wsX5_lastBehind := goodIn_r _ [19, 20, 21, 4, 22, 23, 7, 24, 25, 26, 27, 28, 29, 30, 31, 32, 33, 34, 35, 36, 37, 38, 39, 40, 41, 42, 43, 44, 45, 46, 47, 48, 49, 50, 51, 52, 53, 54, 55, 56] (by decide +kernel) (by decide +kernel)
set_option maxRecDepth 20000 in
theorem gX5_firstBehind_X5_lastBehind : GoodIn wsX5_firstBehind (va_wsS RX5 19 yX5_lastBehind wsX5_lastBehind) := goodIn_app (goodIn_of _ (by decide +kernel)) ggX5_firstBehind_X5_lastBehind
theorem dX5_firstBehind_0 : decode cX5_firstBehind 0 = .ok (.ldc 38, 2) := by decide +kernel
theorem dX5_firstBehind_2 : decode cX5_firstBehind 2 = .ok (.istore_n 3, 1) := by decide +kernel
theorem dX5_firstBehind_3 : decode cX5_firstBehind 3 = .ok (.iconst 0, 1) := by decide +kernel
theorem dX5_firstBehind_4 : decode cX5_firstBehind 4 = .ok (.istore 4, 2) := by decide +kernel
theorem dX5_firstBehind_6 : decode cX5_firstBehind 6 = .ok (.iload 4, 2) := by decide +kernel
theorem dX5_firstBehind_8 : decode cX5_firstBehind 8 = .ok (.iload_n 2, 1) := by decide +kernel
theorem dX5_firstBehind_9 : decode cX5_firstBehind 9 = .ok (.iadd, 1) := by decide +kernel
theorem dX5_firstBehind_10 : decode cX5_firstBehind 10 = .ok (.bipush 12, 2) := by decide +kernel
theorem dX5_firstBehind_12 : decode cX5_firstBehind 12 = .ok (.if_icmp .gt 36, 3) := by decide +kernel
theorem dX5_firstBehind_15 : decode cX5_firstBehind 15 = .ok (.aload_n 1, 1) := by decide +kernel
theorem dX5_firstBehind_16 : decode cX5_firstBehind 16 = .ok (.iload 4, 2) := by decide +kernel
theorem dX5_firstBehind_18 : decode cX5_firstBehind 18 = .ok (.iload_n 2, 1) := by decide +kernel
theorem dX5_firstBehind_19 : decode cX5_firstBehind 19 = .ok (.invokestatic 9, 3) := by decide +kernel
theorem dX5_firstBehind_22 : decode cX5_firstBehind 22 = .ok (.invokevirtual 13, 3) := by decide +kernel
theorem dX5_firstBehind_25 : decode cX5_firstBehind 25 = .ok (.istore 5, 2) := by decide +kernel
theorem dX5_firstBehind_27 : decode cX5_firstBehind 27 = .ok (.iload_n 3, 1) := by decide +kernel
theorem dX5_firstBehind_28 : decode cX5_firstBehind 28 = .ok (.aload_n 1, 1) := by decide +kernel
theorem dX5_firstBehind_29 : decode cX5_firstBehind 29 = .ok (.iload 5, 2) := by decide +kernel
theorem dX5_firstBehind_31 : decode cX5_firstBehind 31 = .ok (.aload_n 1, 1) := by decide +kernel
theorem dX5_firstBehind_32 : decode cX5_firstBehind 32 = .ok (.getfield 39, 3) := by decide +kernel
theorem dX5_firstBehind_35 : decode cX5_firstBehind 35 = .ok (.invokestatic 19, 3) := by decide +kernel
theorem dX5_firstBehind_38 : decode cX5_firstBehind 38 = .ok (.invokestatic 42, 3) := by decide +kernel
theorem dX5_firstBehind_41 : decode cX5_firstBehind 41 = .ok (.istore_n 3, 1) := by decide +kernel
theorem dX5_firstBehind_42 : decode cX5_firstBehind 42 = .ok (.iinc 4 1, 3) := by decide +kernel
theorem dX5_firstBehind_45 : decode cX5_firstBehind 45 = .ok (.goto (-39), 3) := by decide +kernel
theorem dX5_firstBehind_48 : decode cX5_firstBehind 48 = .ok (.iload_n 3, 1) := by decide +kernel
theorem dX5_firstBehind_49 : decode cX5_firstBehind 49 = .ok (.ireturn, 1) := by decide +kernel
set_option maxRecDepth 20000 in
theorem ggX5_lastBehind_X9_isOf : GoodIn wsX5_lastBehind wsX9_isOf := goodIn_r _ [7] (by decide +kernel) (by decide +kernel)
set_option maxRecDepth 20000 in
theorem gX5_lastBehind_X9_isOf_n50 : GoodIn wsX5_lastBehind (wsX9_isOf) := ggX5_lastBehind_X9_isOf
set_option maxRecDepth 20000 in
theorem ggX5_lastBehind_X2_goesBehind : GoodIn wsX5_lastBehind wsX2_goesBehind := goodIn_r _ [12, 13, 14, 15, 16, 2, 3, 4, 17, 18, 19, 11, 20, 21, 22, 33, 34, 35, 36, 37, 38, 39] (by decide +kernel) (by decide +kernel)
set_option maxRecDepth 20000 in
theorem gX5_lastBehind_X2_goesBehind : GoodIn wsX5_lastBehind (wsV RX5 60 RX2 yX2_goesBehind wsX2_goesBehind) := goodIn_app (goodIn_of _ (by decide +kernel)) ggX5_lastBehind_X2_goesBehind
theorem dX5_lastBehind_0 : decode cX5_lastBehind 0 = .ok (.iconst 0, 1) := by decide +kernel
theorem dX5_lastBehind_1 : decode cX5_lastBehind 1 = .ok (.istore_n 3, 1) := by decide +kernel
theorem dX5_lastBehind_2 : decode cX5_lastBehind 2 = .ok (.iconst 0, 1) := by decide +kernel
theorem dX5_lastBehind_3 : decode cX5_lastBehind 3 = .ok (.istore 4, 2) := by decide +kernel
theorem dX5_lastBehind_5 : decode cX5_lastBehind 5 = .ok (.iload 4, 2) := by decide +kernel
theorem dX5_lastBehind_7 : decode cX5_lastBehind 7 = .ok (.aload_n 0, 1) := by decide +kernel
theorem dX5_lastBehind_8 : decode cX5_lastBehind 8 = .ok (.getfield 47, 3) := by decide +kernel
theorem dX5_lastBehind_11 : decode cX5_lastBehind 11 = .ok (.if_icmp .ge 38, 3) := by decide +kernel
theorem dX5_lastBehind_14 : decode cX5_lastBehind 14 = .ok (.iload 4, 2) := by decide +kernel
theorem dX5_lastBehind_16 : decode cX5_lastBehind 16 = .ok (.iload_n 1, 1) := by decide +kernel
theorem dX5_lastBehind_17 : decode cX5_lastBehind 17 = .ok (.invokestatic 50, 3) := by decide +kernel
theorem dX5_lastBehind_20 : decode cX5_lastBehind 20 = .ok (.ifCond .eq 23, 3) := by decide +kernel
theorem dX5_lastBehind_23 : decode cX5_lastBehind 23 = .ok (.iload_n 3, 1) := by decide +kernel
theorem dX5_lastBehind_24 : decode cX5_lastBehind 24 = .ok (.aload_n 0, 1) := by decide +kernel
theorem dX5_lastBehind_25 : decode cX5_lastBehind 25 = .ok (.getfield 54, 3) := by decide +kernel
theorem dX5_lastBehind_28 : decode cX5_lastBehind 28 = .ok (.iload 4, 2) := by decide +kernel
theorem dX5_lastBehind_30 : decode cX5_lastBehind 30 = .ok (.aaload, 1) := by decide +kernel
theorem dX5_lastBehind_31 : decode cX5_lastBehind 31 = .ok (.iload_n 2, 1) := by decide +kernel
theorem dX5_lastBehind_32 : decode cX5_lastBehind 32 = .ok (.aload_n 0, 1) := by decide +kernel
theorem dX5_lastBehind_33 : decode cX5_lastBehind 33 = .ok (.getfield 57, 3) := by decide +kernel
theorem dX5_lastBehind_36 : decode cX5_lastBehind 36 = .ok (.invokevirtual 60, 3) := by decide +kernel
theorem dX5_lastBehind_39 : decode cX5_lastBehind 39 = .ok (.invokestatic 65, 3) := by decide +kernel
theorem dX5_lastBehind_42 : decode cX5_lastBehind 42 = .ok (.istore_n 3, 1) := by decide +kernel
theorem dX5_lastBehind_43 : decode cX5_lastBehind 43 = .ok (.iinc 4 1, 3) := by decide +kernel
theorem dX5_lastBehind_46 : decode cX5_lastBehind 46 = .ok (.goto (-41), 3) := by decide +kernel
theorem dX5_lastBehind_49 : decode cX5_lastBehind 49 = .ok (.iload_n 3, 1) := by decide +kernel
theorem dX5_lastBehind_50 : decode cX5_lastBehind 50 = .ok (.ireturn, 1) := by decide +kernel
set_option maxRecDepth 20000 in
theorem ggX5_lossOfAll_X9_isOf : GoodIn wsX5_lossOfAll wsX9_isOf := goodIn_r _ [3] (by decide +kernel) (by decide +kernel)
set_option maxRecDepth 20000 in
theorem gX5_lossOfAll_X9_isOf_n50 : GoodIn wsX5_lossOfAll (wsX9_isOf) := ggX5_lossOfAll_X9_isOf
set_option maxRecDepth 20000 in
theorem ggX5_lossOfAll_X0_lossOf : GoodIn wsX5_lossOfAll wsX0_lossOf := goodIn_r _ [8, 9, 10, 11, 12, 13, 14, 15, 16, 17, 18, 19, 20, 21, 22, 23, 2, 24, 25, 26, 27, 28, 29, 30, 31, 7, 32, 33, 34, 35, 36, 37, 38, 39, 40, 41, 42, 43, 44, 45, 46, 47, 48, 49, 50, 51, 52, 53, 54, 55, 56, 57, 58, 59, 60, 61, 62, 63, 64, 65, 66, 67, 68, 69, 70, 71, 72, 73, 74, 75, 76, 77, 78, 79, 80] (by decide +kernel) (by decide +kernel)
set_option maxRecDepth 20000 in
theorem gX5_lossOfAll_X0_lossOf : GoodIn wsX5_lossOfAll (wsV RX5 68 RX0 yX0_lossOf wsX0_lossOf) := goodIn_app (goodIn_of _ (by decide +kernel)) ggX5_lossOfAll_X0_lossOf
theorem dX5_lossOfAll_0 : decode cX5_lossOfAll 0 = .ok (.iconst 0, 1) := by decide +kernel
theorem dX5_lossOfAll_1 : decode cX5_lossOfAll 1 = .ok (.istore_n 3, 1) := by decide +kernel
theorem dX5_lossOfAll_2 : decode cX5_lossOfAll 2 = .ok (.iconst 0, 1) := by decide +kernel
theorem dX5_lossOfAll_3 : decode cX5_lossOfAll 3 = .ok (.istore 4, 2) := by decide +kernel
theorem dX5_lossOfAll_5 : decode cX5_lossOfAll 5 = .ok (.iload 4, 2) := by decide +kernel
theorem dX5_lossOfAll_7 : decode cX5_lossOfAll 7 = .ok (.aload_n 0, 1) := by decide +kernel
theorem dX5_lossOfAll_8 : decode cX5_lossOfAll 8 = .ok (.getfield 47, 3) := by decide +kernel
theorem dX5_lossOfAll_11 : decode cX5_lossOfAll 11 = .ok (.if_icmp .ge 28, 3) := by decide +kernel
theorem dX5_lossOfAll_14 : decode cX5_lossOfAll 14 = .ok (.iload 4, 2) := by decide +kernel
theorem dX5_lossOfAll_16 : decode cX5_lossOfAll 16 = .ok (.iload_n 1, 1) := by decide +kernel
theorem dX5_lossOfAll_17 : decode cX5_lossOfAll 17 = .ok (.invokestatic 50, 3) := by decide +kernel
theorem dX5_lossOfAll_20 : decode cX5_lossOfAll 20 = .ok (.ifCond .eq 13, 3) := by decide +kernel
theorem dX5_lossOfAll_23 : decode cX5_lossOfAll 23 = .ok (.iload_n 3, 1) := by decide +kernel
theorem dX5_lossOfAll_24 : decode cX5_lossOfAll 24 = .ok (.aload_n 0, 1) := by decide +kernel
theorem dX5_lossOfAll_25 : decode cX5_lossOfAll 25 = .ok (.iload 4, 2) := by decide +kernel
theorem dX5_lossOfAll_27 : decode cX5_lossOfAll 27 = .ok (.iload_n 2, 1) := by decide +kernel
theorem dX5_lossOfAll_28 : decode cX5_lossOfAll 28 = .ok (.invokevirtual 68, 3) := by decide +kernel
theorem dX5_lossOfAll_31 : decode cX5_lossOfAll 31 = .ok (.iadd, 1) := by decide +kernel
theorem dX5_lossOfAll_32 : decode cX5_lossOfAll 32 = .ok (.istore_n 3, 1) := by decide +kernel
theorem dX5_lossOfAll_33 : decode cX5_lossOfAll 33 = .ok (.iinc 4 1, 3) := by decide +kernel
theorem dX5_lossOfAll_36 : decode cX5_lossOfAll 36 = .ok (.goto (-31), 3) := by decide +kernel
theorem dX5_lossOfAll_39 : decode cX5_lossOfAll 39 = .ok (.iload_n 3, 1) := by decide +kernel
theorem dX5_lossOfAll_40 : decode cX5_lossOfAll 40 = .ok (.ireturn, 1) := by decide +kernel
theorem dX6_init_0 : decode cX6_init 0 = .ok (.aload_n 0, 1) := by decide +kernel
theorem dX6_init_1 : decode cX6_init 1 = .ok (.invokespecial 1, 3) := by decide +kernel
theorem dX6_init_4 : decode cX6_init 4 = .ok (.aload_n 0, 1) := by decide +kernel
theorem dX6_init_5 : decode cX6_init 5 = .ok (.iconst 0, 1) := by decide +kernel
theorem dX6_init_6 : decode cX6_init 6 = .ok (.iload_n 1, 1) := by decide +kernel
theorem dX6_init_7 : decode cX6_init 7 = .ok (.invokestatic 7, 3) := by decide +kernel
theorem dX6_init_10 : decode cX6_init 10 = .ok (.newarray .int, 2) := by decide +kernel
theorem dX6_init_12 : decode cX6_init 12 = .ok (.putfield 13, 3) := by decide +kernel
theorem dX6_init_15 : decode cX6_init 15 = .ok (.return_, 1) := by decide +kernel
theorem dX6_hasRoomFor_0 : decode cX6_hasRoomFor 0 = .ok (.iload_n 1, 1) := by decide +kernel
theorem dX6_hasRoomFor_1 : decode cX6_hasRoomFor 1 = .ok (.aload_n 0, 1) := by decide +kernel
theorem dX6_hasRoomFor_2 : decode cX6_hasRoomFor 2 = .ok (.getfield 13, 3) := by decide +kernel
theorem dX6_hasRoomFor_5 : decode cX6_hasRoomFor 5 = .ok (.arraylength, 1) := by decide +kernel
theorem dX6_hasRoomFor_6 : decode cX6_hasRoomFor 6 = .ok (.aload_n 0, 1) := by decide +kernel
theorem dX6_hasRoomFor_7 : decode cX6_hasRoomFor 7 = .ok (.getfield 19, 3) := by decide +kernel
theorem dX6_hasRoomFor_10 : decode cX6_hasRoomFor 10 = .ok (.isub, 1) := by decide +kernel
theorem dX6_hasRoomFor_11 : decode cX6_hasRoomFor 11 = .ok (.if_icmp .gt 7, 3) := by decide +kernel
theorem dX6_hasRoomFor_14 : decode cX6_hasRoomFor 14 = .ok (.iconst 1, 1) := by decide +kernel
theorem dX6_hasRoomFor_15 : decode cX6_hasRoomFor 15 = .ok (.goto 4, 3) := by decide +kernel
theorem dX6_hasRoomFor_18 : decode cX6_hasRoomFor 18 = .ok (.iconst 0, 1) := by decide +kernel
theorem dX6_hasRoomFor_19 : decode cX6_hasRoomFor 19 = .ok (.ireturn, 1) := by decide +kernel
theorem dX6_add_0 : decode cX6_add 0 = .ok (.aload_n 0, 1) := by decide +kernel
theorem dX6_add_1 : decode cX6_add 1 = .ok (.getfield 19, 3) := by decide +kernel
theorem dX6_add_4 : decode cX6_add 4 = .ok (.aload_n 0, 1) := by decide +kernel
theorem dX6_add_5 : decode cX6_add 5 = .ok (.getfield 13, 3) := by decide +kernel
theorem dX6_add_8 : decode cX6_add 8 = .ok (.arraylength, 1) := by decide +kernel
theorem dX6_add_9 : decode cX6_add 9 = .ok (.if_icmp .ge 23, 3) := by decide +kernel
theorem dX6_add_12 : decode cX6_add 12 = .ok (.aload_n 0, 1) := by decide +kernel
theorem dX6_add_13 : decode cX6_add 13 = .ok (.getfield 13, 3) := by decide +kernel
theorem dX6_add_16 : decode cX6_add 16 = .ok (.aload_n 0, 1) := by decide +kernel
theorem dX6_add_17 : decode cX6_add 17 = .ok (.getfield 19, 3) := by decide +kernel
theorem dX6_add_20 : decode cX6_add 20 = .ok (.iload_n 1, 1) := by decide +kernel
theorem dX6_add_21 : decode cX6_add 21 = .ok (.iastore, 1) := by decide +kernel
theorem dX6_add_22 : decode cX6_add 22 = .ok (.aload_n 0, 1) := by decide +kernel
theorem dX6_add_23 : decode cX6_add 23 = .ok (.dup, 1) := by decide +kernel
theorem dX6_add_24 : decode cX6_add 24 = .ok (.getfield 19, 3) := by decide +kernel
theorem dX6_add_27 : decode cX6_add 27 = .ok (.iconst 1, 1) := by decide +kernel
theorem dX6_add_28 : decode cX6_add 28 = .ok (.iadd, 1) := by decide +kernel
theorem dX6_add_29 : decode cX6_add 29 = .ok (.putfield 19, 3) := by decide +kernel
theorem dX6_add_32 : decode cX6_add 32 = .ok (.return_, 1) := by decide +kernel
theorem dX6_clear_0 : decode cX6_clear 0 = .ok (.aload_n 0, 1) := by decide +kernel
theorem dX6_clear_1 : decode cX6_clear 1 = .ok (.iconst 0, 1) := by decide +kernel
theorem dX6_clear_2 : decode cX6_clear 2 = .ok (.putfield 19, 3) := by decide +kernel
theorem dX6_clear_5 : decode cX6_clear 5 = .ok (.return_, 1) := by decide +kernel
theorem dX6_stands_0 : decode cX6_stands 0 = .ok (.iload_n 1, 1) := by decide +kernel
theorem dX6_stands_1 : decode cX6_stands 1 = .ok (.ifCond .lt 29, 3) := by decide +kernel
theorem dX6_stands_4 : decode cX6_stands 4 = .ok (.iload_n 2, 1) := by decide +kernel
theorem dX6_stands_5 : decode cX6_stands 5 = .ok (.ifCond .lt 25, 3) := by decide +kernel
theorem dX6_stands_8 : decode cX6_stands 8 = .ok (.iload_n 2, 1) := by decide +kernel
theorem dX6_stands_9 : decode cX6_stands 9 = .ok (.aload_n 0, 1) := by decide +kernel
theorem dX6_stands_10 : decode cX6_stands 10 = .ok (.getfield 19, 3) := by decide +kernel
theorem dX6_stands_13 : decode cX6_stands 13 = .ok (.if_icmp .gt 17, 3) := by decide +kernel
theorem dX6_stands_16 : decode cX6_stands 16 = .ok (.iload_n 1, 1) := by decide +kernel
theorem dX6_stands_17 : decode cX6_stands 17 = .ok (.aload_n 0, 1) := by decide +kernel
theorem dX6_stands_18 : decode cX6_stands 18 = .ok (.getfield 19, 3) := by decide +kernel
theorem dX6_stands_21 : decode cX6_stands 21 = .ok (.iload_n 2, 1) := by decide +kernel
theorem dX6_stands_22 : decode cX6_stands 22 = .ok (.isub, 1) := by decide +kernel
theorem dX6_stands_23 : decode cX6_stands 23 = .ok (.if_icmp .gt 7, 3) := by decide +kernel
theorem dX6_stands_26 : decode cX6_stands 26 = .ok (.iconst 1, 1) := by decide +kernel
theorem dX6_stands_27 : decode cX6_stands 27 = .ok (.goto 4, 3) := by decide +kernel
theorem dX6_stands_30 : decode cX6_stands 30 = .ok (.iconst 0, 1) := by decide +kernel
theorem dX6_stands_31 : decode cX6_stands 31 = .ok (.ireturn, 1) := by decide +kernel
set_option maxRecDepth 20000 in
theorem ggX6_copyFrom_X6_clear : GoodIn wsX6_copyFrom wsX6_clear := goodIn_r _ [7, 1, 12, 13] (by decide +kernel) (by decide +kernel)
set_option maxRecDepth 20000 in
theorem gX6_copyFrom_X6_clear : GoodIn wsX6_copyFrom (wsV RX6 23 RX6 yX6_clear wsX6_clear) := goodIn_app (goodIn_of _ (by decide +kernel)) ggX6_copyFrom_X6_clear
set_option maxRecDepth 20000 in
theorem ggX6_copyFrom_X6_add : GoodIn wsX6_copyFrom wsX6_add := goodIn_r _ [11, 1, 2, 12, 13] (by decide +kernel) (by decide +kernel)
set_option maxRecDepth 20000 in
theorem gX6_copyFrom_X6_add : GoodIn wsX6_copyFrom (wsV RX6 26 RX6 yX6_add wsX6_add) := goodIn_app (goodIn_of _ (by decide +kernel)) ggX6_copyFrom_X6_add
theorem dX6_copyFrom_0 : decode cX6_copyFrom 0 = .ok (.aload_n 0, 1) := by decide +kernel
theorem dX6_copyFrom_1 : decode cX6_copyFrom 1 = .ok (.invokevirtual 23, 3) := by decide +kernel
theorem dX6_copyFrom_4 : decode cX6_copyFrom 4 = .ok (.iconst 0, 1) := by decide +kernel
theorem dX6_copyFrom_5 : decode cX6_copyFrom 5 = .ok (.istore_n 2, 1) := by decide +kernel
theorem dX6_copyFrom_6 : decode cX6_copyFrom 6 = .ok (.iload_n 2, 1) := by decide +kernel
theorem dX6_copyFrom_7 : decode cX6_copyFrom 7 = .ok (.aload_n 1, 1) := by decide +kernel
theorem dX6_copyFrom_8 : decode cX6_copyFrom 8 = .ok (.getfield 19, 3) := by decide +kernel
theorem dX6_copyFrom_11 : decode cX6_copyFrom 11 = .ok (.if_icmp .ge 19, 3) := by decide +kernel
theorem dX6_copyFrom_14 : decode cX6_copyFrom 14 = .ok (.aload_n 0, 1) := by decide +kernel
theorem dX6_copyFrom_15 : decode cX6_copyFrom 15 = .ok (.aload_n 1, 1) := by decide +kernel
theorem dX6_copyFrom_16 : decode cX6_copyFrom 16 = .ok (.getfield 13, 3) := by decide +kernel
theorem dX6_copyFrom_19 : decode cX6_copyFrom 19 = .ok (.iload_n 2, 1) := by decide +kernel
theorem dX6_copyFrom_20 : decode cX6_copyFrom 20 = .ok (.iaload, 1) := by decide +kernel
theorem dX6_copyFrom_21 : decode cX6_copyFrom 21 = .ok (.invokevirtual 26, 3) := by decide +kernel
theorem dX6_copyFrom_24 : decode cX6_copyFrom 24 = .ok (.iinc 2 1, 3) := by decide +kernel
theorem dX6_copyFrom_27 : decode cX6_copyFrom 27 = .ok (.goto (-21), 3) := by decide +kernel
theorem dX6_copyFrom_30 : decode cX6_copyFrom 30 = .ok (.return_, 1) := by decide +kernel
set_option maxRecDepth 20000 in
theorem ggX7_init_X6_init : GoodIn wsX7_init wsX6_init := goodIn_r _ [10, 11, 2, 3, 12, 13, 14, 15, 16, 17, 18, 19] (by decide +kernel) (by decide +kernel)
set_option maxRecDepth 20000 in
theorem gX7_init_X6_init : GoodIn wsX7_init (wsX6_init) := ggX7_init_X6_init
theorem dX7_init_0 : decode cX7_init 0 = .ok (.aload_n 0, 1) := by decide +kernel
theorem dX7_init_1 : decode cX7_init 1 = .ok (.invokespecial 1, 3) := by decide +kernel
theorem dX7_init_4 : decode cX7_init 4 = .ok (.aload_n 0, 1) := by decide +kernel
theorem dX7_init_5 : decode cX7_init 5 = .ok (.new 7, 3) := by decide +kernel
theorem dX7_init_8 : decode cX7_init 8 = .ok (.dup, 1) := by decide +kernel
theorem dX7_init_9 : decode cX7_init 9 = .ok (.bipush 24, 2) := by decide +kernel
theorem dX7_init_11 : decode cX7_init 11 = .ok (.invokespecial 11, 3) := by decide +kernel
theorem dX7_init_14 : decode cX7_init 14 = .ok (.putfield 14, 3) := by decide +kernel
theorem dX7_init_17 : decode cX7_init 17 = .ok (.return_, 1) := by decide +kernel
theorem dX7_isMissing_0 : decode cX7_isMissing 0 = .ok (.aload_n 0, 1) := by decide +kernel
theorem dX7_isMissing_1 : decode cX7_isMissing 1 = .ok (.getfield 18, 3) := by decide +kernel
theorem dX7_isMissing_4 : decode cX7_isMissing 4 = .ok (.ifCond .ne 7, 3) := by decide +kernel
theorem dX7_isMissing_7 : decode cX7_isMissing 7 = .ok (.iconst 1, 1) := by decide +kernel
theorem dX7_isMissing_8 : decode cX7_isMissing 8 = .ok (.goto 4, 3) := by decide +kernel
theorem dX7_isMissing_11 : decode cX7_isMissing 11 = .ok (.iconst 0, 1) := by decide +kernel
theorem dX7_isMissing_12 : decode cX7_isMissing 12 = .ok (.ireturn, 1) := by decide +kernel
set_option maxRecDepth 20000 in
theorem ggX7_begin_X6_clear : GoodIn wsX7_begin wsX6_clear := goodIn_r _ [7, 8, 16, 17] (by decide +kernel) (by decide +kernel)
set_option maxRecDepth 20000 in
theorem gX7_begin_X6_clear : GoodIn wsX7_begin (wsV RX7 22 RX6 yX6_clear wsX6_clear) := goodIn_app (goodIn_of _ (by decide +kernel)) ggX7_begin_X6_clear
set_option maxRecDepth 20000 in
theorem ggX7_begin_X6_add : GoodIn wsX7_begin wsX6_add := goodIn_r _ [12, 8, 13, 16, 17] (by decide +kernel) (by decide +kernel)
set_option maxRecDepth 20000 in
theorem gX7_begin_X6_add : GoodIn wsX7_begin (wsV RX7 25 RX6 yX6_add wsX6_add) := goodIn_app (goodIn_of _ (by decide +kernel)) ggX7_begin_X6_add
theorem dX7_begin_0 : decode cX7_begin 0 = .ok (.aload_n 0, 1) := by decide +kernel
theorem dX7_begin_1 : decode cX7_begin 1 = .ok (.iload_n 1, 1) := by decide +kernel
theorem dX7_begin_2 : decode cX7_begin 2 = .ok (.putfield 18, 3) := by decide +kernel
theorem dX7_begin_5 : decode cX7_begin 5 = .ok (.aload_n 0, 1) := by decide +kernel
theorem dX7_begin_6 : decode cX7_begin 6 = .ok (.getfield 14, 3) := by decide +kernel
theorem dX7_begin_9 : decode cX7_begin 9 = .ok (.invokevirtual 22, 3) := by decide +kernel
theorem dX7_begin_12 : decode cX7_begin 12 = .ok (.iconst 0, 1) := by decide +kernel
theorem dX7_begin_13 : decode cX7_begin 13 = .ok (.istore_n 3, 1) := by decide +kernel
theorem dX7_begin_14 : decode cX7_begin 14 = .ok (.iload_n 3, 1) := by decide +kernel
theorem dX7_begin_15 : decode cX7_begin 15 = .ok (.iload_n 2, 1) := by decide +kernel
theorem dX7_begin_16 : decode cX7_begin 16 = .ok (.if_icmp .ge 17, 3) := by decide +kernel
theorem dX7_begin_19 : decode cX7_begin 19 = .ok (.aload_n 0, 1) := by decide +kernel
theorem dX7_begin_20 : decode cX7_begin 20 = .ok (.getfield 14, 3) := by decide +kernel
theorem dX7_begin_23 : decode cX7_begin 23 = .ok (.iconst 0, 1) := by decide +kernel
theorem dX7_begin_24 : decode cX7_begin 24 = .ok (.invokevirtual 25, 3) := by decide +kernel
theorem dX7_begin_27 : decode cX7_begin 27 = .ok (.iinc 3 1, 3) := by decide +kernel
theorem dX7_begin_30 : decode cX7_begin 30 = .ok (.goto (-16), 3) := by decide +kernel
theorem dX7_begin_33 : decode cX7_begin 33 = .ok (.return_, 1) := by decide +kernel
theorem dX7_lowestBits_0 : decode cX7_lowestBits 0 = .ok (.aload_n 0, 1) := by decide +kernel
theorem dX7_lowestBits_1 : decode cX7_lowestBits 1 = .ok (.getfield 18, 3) := by decide +kernel
theorem dX7_lowestBits_4 : decode cX7_lowestBits 4 = .ok (.lookupswitch 34 #[(8, 28), (16, 31)], 28) := by decide +kernel
theorem dX7_lowestBits_32 : decode cX7_lowestBits 32 = .ok (.iload_n 1, 1) := by decide +kernel
theorem dX7_lowestBits_33 : decode cX7_lowestBits 33 = .ok (.i2b, 1) := by decide +kernel
theorem dX7_lowestBits_34 : decode cX7_lowestBits 34 = .ok (.ireturn, 1) := by decide +kernel
theorem dX7_lowestBits_35 : decode cX7_lowestBits 35 = .ok (.iload_n 1, 1) := by decide +kernel
theorem dX7_lowestBits_36 : decode cX7_lowestBits 36 = .ok (.i2s, 1) := by decide +kernel
theorem dX7_lowestBits_37 : decode cX7_lowestBits 37 = .ok (.ireturn, 1) := by decide +kernel
theorem dX7_lowestBits_38 : decode cX7_lowestBits 38 = .ok (.iload_n 1, 1) := by decide +kernel
theorem dX7_lowestBits_39 : decode cX7_lowestBits 39 = .ok (.ireturn, 1) := by decide +kernel
set_option maxRecDepth 20000 in
theorem ggX8_init_X6_init : GoodIn wsX8_init wsX6_init := goodIn_r _ [10, 11, 2, 3, 12, 13, 14, 15, 16, 17, 18, 19] (by decide +kernel) (by decide +kernel)
set_option maxRecDepth 20000 in
theorem gX8_init_X6_init : GoodIn wsX8_init (wsX6_init) := ggX8_init_X6_init
theorem dX8_init_0 : decode cX8_init 0 = .ok (.aload_n 0, 1) := by decide +kernel
theorem dX8_init_1 : decode cX8_init 1 = .ok (.invokespecial 3, 3) := by decide +kernel
theorem dX8_init_4 : decode cX8_init 4 = .ok (.aload_n 0, 1) := by decide +kernel
theorem dX8_init_5 : decode cX8_init 5 = .ok (.new 9, 3) := by decide +kernel
theorem dX8_init_8 : decode cX8_init 8 = .ok (.dup, 1) := by decide +kernel
theorem dX8_init_9 : decode cX8_init 9 = .ok (.bipush 30, 2) := by decide +kernel
theorem dX8_init_11 : decode cX8_init 11 = .ok (.invokespecial 11, 3) := by decide +kernel
theorem dX8_init_14 : decode cX8_init 14 = .ok (.putfield 14, 3) := by decide +kernel
theorem dX8_init_17 : decode cX8_init 17 = .ok (.return_, 1) := by decide +kernel
set_option maxRecDepth 20000 in
theorem ggX8_say_X6_clear : GoodIn wsX8_say wsX6_clear := goodIn_r _ [10, 11, 42, 43] (by decide +kernel) (by decide +kernel)
set_option maxRecDepth 20000 in
theorem gX8_say_X6_clear : GoodIn wsX8_say (wsV RX8 20 RX6 yX6_clear wsX6_clear) := goodIn_app (goodIn_of _ (by decide +kernel)) ggX8_say_X6_clear
set_option maxRecDepth 20000 in
theorem ggX8_say_X8_workOut : GoodIn wsX8_say wsX8_workOut := goodIn_r _ [16, 1, 4, 3, 5, 2, 17, 18, 15, 19, 20, 21, 22, 23, 9, 24, 11, 25, 12, 13, 14, 26, 27, 28, 29, 30, 31, 32, 33, 34, 42, 43] (by decide +kernel) (by decide +kernel)
set_option maxRecDepth 20000 in
theorem gX8_say_X8_workOut : GoodIn wsX8_say (wsV RX8 41 RX8 yX8_workOut wsX8_workOut) := goodIn_app (goodIn_of _ (by decide +kernel)) ggX8_say_X8_workOut
theorem dX8_say_0 : decode cX8_say 0 = .ok (.aload_n 0, 1) := by decide +kernel
theorem dX8_say_1 : decode cX8_say 1 = .ok (.getfield 14, 3) := by decide +kernel
theorem dX8_say_4 : decode cX8_say 4 = .ok (.invokevirtual 20, 3) := by decide +kernel
theorem dX8_say_7 : decode cX8_say 7 = .ok (.aload_n 0, 1) := by decide +kernel
theorem dX8_say_8 : decode cX8_say 8 = .ok (.iconst 0, 1) := by decide +kernel
theorem dX8_say_9 : decode cX8_say 9 = .ok (.putfield 23, 3) := by decide +kernel
theorem dX8_say_12 : decode cX8_say 12 = .ok (.aload_n 0, 1) := by decide +kernel
theorem dX8_say_13 : decode cX8_say 13 = .ok (.aload_n 1, 1) := by decide +kernel
theorem dX8_say_14 : decode cX8_say 14 = .ok (.getfield 27, 3) := by decide +kernel
theorem dX8_say_17 : decode cX8_say 17 = .ok (.putfield 33, 3) := by decide +kernel
theorem dX8_say_20 : decode cX8_say 20 = .ok (.aload_n 0, 1) := by decide +kernel
theorem dX8_say_21 : decode cX8_say 21 = .ok (.iload_n 2, 1) := by decide +kernel
theorem dX8_say_22 : decode cX8_say 22 = .ok (.putfield 34, 3) := by decide +kernel
theorem dX8_say_25 : decode cX8_say 25 = .ok (.aload_n 0, 1) := by decide +kernel
theorem dX8_say_26 : decode cX8_say 26 = .ok (.aload_n 1, 1) := by decide +kernel
theorem dX8_say_27 : decode cX8_say 27 = .ok (.getfield 37, 3) := by decide +kernel
theorem dX8_say_30 : decode cX8_say 30 = .ok (.putfield 40, 3) := by decide +kernel
theorem dX8_say_33 : decode cX8_say 33 = .ok (.aload_n 0, 1) := by decide +kernel
theorem dX8_say_34 : decode cX8_say 34 = .ok (.iload_n 3, 1) := by decide +kernel
theorem dX8_say_35 : decode cX8_say 35 = .ok (.aload_n 0, 1) := by decide +kernel
theorem dX8_say_36 : decode cX8_say 36 = .ok (.getfield 33, 3) := by decide +kernel
theorem dX8_say_39 : decode cX8_say 39 = .ok (.iload 4, 2) := by decide +kernel
theorem dX8_say_41 : decode cX8_say 41 = .ok (.iconst 0, 1) := by decide +kernel
theorem dX8_say_42 : decode cX8_say 42 = .ok (.invokevirtual 41, 3) := by decide +kernel
theorem dX8_say_45 : decode cX8_say 45 = .ok (.ireturn, 1) := by decide +kernel
set_option maxRecDepth 20000 in
theorem ggX8_workOut_X8_bodyOf : GoodIn wsX8_workOut wsX8_bodyOf := goodIn_r _ [9, 10] (by decide +kernel) (by decide +kernel)
set_option maxRecDepth 20000 in
theorem gX8_workOut_X8_bodyOf : GoodIn wsX8_workOut (va_wsS RX8 45 yX8_bodyOf wsX8_bodyOf) := goodIn_app (goodIn_of _ (by decide +kernel)) ggX8_workOut_X8_bodyOf
set_option maxRecDepth 20000 in
theorem ggX8_workOut_X6_add : GoodIn wsX8_workOut wsX6_add := goodIn_r _ [15, 16, 17, 30, 31] (by decide +kernel) (by decide +kernel)
set_option maxRecDepth 20000 in
theorem gX8_workOut_X6_add : GoodIn wsX8_workOut (wsV RX8 49 RX6 yX6_add wsX6_add) := goodIn_app (goodIn_of _ (by decide +kernel)) ggX8_workOut_X6_add
set_option maxRecDepth 20000 in
theorem ggX8_workOut_X8_workOut : GoodIn wsX8_workOut wsX8_workOut := goodIn_r _ [0, 1, 2, 3, 4, 5, 6, 7, 8, 9, 10, 11, 12, 13, 14, 15, 16, 17, 18, 19, 20, 21, 22, 23, 24, 25, 26, 27, 28, 29, 30, 31] (by decide +kernel) (by decide +kernel)
set_option maxRecDepth 20000 in
theorem gX8_workOut_X8_workOut : GoodIn wsX8_workOut (wsV RX8 41 RX8 yX8_workOut wsX8_workOut) := goodIn_app (goodIn_of _ (by decide +kernel)) ggX8_workOut_X8_workOut
set_option maxRecDepth 20000 in
theorem ggX8_workOut_X8_divided : GoodIn wsX8_workOut wsX8_divided := goodIn_r _ [24, 4, 2, 5, 25, 26, 27, 28, 29] (by decide +kernel) (by decide +kernel)
set_option maxRecDepth 20000 in
theorem gX8_workOut_X8_divided : GoodIn wsX8_workOut (wsV RX8 56 RX8 yX8_divided wsX8_divided) := goodIn_app (goodIn_of _ (by decide +kernel)) ggX8_workOut_X8_divided
theorem dX8_workOut_0 : decode cX8_workOut 0 = .ok (.iload_n 1, 1) := by decide +kernel
theorem dX8_workOut_1 : decode cX8_workOut 1 = .ok (.iload_n 2, 1) := by decide +kernel
theorem dX8_workOut_2 : decode cX8_workOut 2 = .ok (.invokestatic 45, 3) := by decide +kernel
theorem dX8_workOut_5 : decode cX8_workOut 5 = .ok (.istore 5, 2) := by decide +kernel
theorem dX8_workOut_7 : decode cX8_workOut 7 = .ok (.iload 5, 2) := by decide +kernel
theorem dX8_workOut_9 : decode cX8_workOut 9 = .ok (.ifCond .eq 10, 3) := by decide +kernel
theorem dX8_workOut_12 : decode cX8_workOut 12 = .ok (.iload 4, 2) := by decide +kernel
theorem dX8_workOut_14 : decode cX8_workOut 14 = .ok (.bipush 16, 2) := by decide +kernel
theorem dX8_workOut_16 : decode cX8_workOut 16 = .ok (.if_icmp .le 5, 3) := by decide +kernel
theorem dX8_workOut_19 : decode cX8_workOut 19 = .ok (.iconst 0, 1) := by decide +kernel
theorem dX8_workOut_20 : decode cX8_workOut 20 = .ok (.ireturn, 1) := by decide +kernel
theorem dX8_workOut_21 : decode cX8_workOut 21 = .ok (.aload_n 0, 1) := by decide +kernel
theorem dX8_workOut_22 : decode cX8_workOut 22 = .ok (.getfield 14, 3) := by decide +kernel
theorem dX8_workOut_25 : decode cX8_workOut 25 = .ok (.iload 5, 2) := by decide +kernel
theorem dX8_workOut_27 : decode cX8_workOut 27 = .ok (.invokevirtual 49, 3) := by decide +kernel
theorem dX8_workOut_30 : decode cX8_workOut 30 = .ok (.getstatic 52, 3) := by decide +kernel
theorem dX8_workOut_33 : decode cX8_workOut 33 = .ok (.iload 5, 2) := by decide +kernel
theorem dX8_workOut_35 : decode cX8_workOut 35 = .ok (.bipush 10, 2) := by decide +kernel
theorem dX8_workOut_37 : decode cX8_workOut 37 = .ok (.idiv, 1) := by decide +kernel
theorem dX8_workOut_38 : decode cX8_workOut 38 = .ok (.iconst 1, 1) := by decide +kernel
theorem dX8_workOut_39 : decode cX8_workOut 39 = .ok (.isub, 1) := by decide +kernel
theorem dX8_workOut_40 : decode cX8_workOut 40 = .ok (.iaload, 1) := by decide +kernel
theorem dX8_workOut_41 : decode cX8_workOut 41 = .ok (.istore 6, 2) := by decide +kernel
theorem dX8_workOut_43 : decode cX8_workOut 43 = .ok (.iload 4, 2) := by decide +kernel
theorem dX8_workOut_45 : decode cX8_workOut 45 = .ok (.iconst 1, 1) := by decide +kernel
theorem dX8_workOut_46 : decode cX8_workOut 46 = .ok (.iadd, 1) := by decide +kernel
theorem dX8_workOut_47 : decode cX8_workOut 47 = .ok (.istore 7, 2) := by decide +kernel
theorem dX8_workOut_49 : decode cX8_workOut 49 = .ok (.iload 5, 2) := by decide +kernel
theorem dX8_workOut_51 : decode cX8_workOut 51 = .ok (.lookupswitch 298 #[(10, 113), (11, 120), (12, 135), (13, 153), (20, 159), (21, 172), (30, 211), (40, 224), (50, 237), (51, 250), (60, 266), (70, 279), (71, 282)], 113) := by decide +kernel
theorem dX8_workOut_164 : decode cX8_workOut 164 = .ok (.iload_n 3, 1) := by decide +kernel
theorem dX8_workOut_165 : decode cX8_workOut 165 = .ok (.aload_n 0, 1) := by decide +kernel
theorem dX8_workOut_166 : decode cX8_workOut 166 = .ok (.getfield 34, 3) := by decide +kernel
theorem dX8_workOut_169 : decode cX8_workOut 169 = .ok (.iadd, 1) := by decide +kernel
theorem dX8_workOut_170 : decode cX8_workOut 170 = .ok (.ireturn, 1) := by decide +kernel
theorem dX8_workOut_171 : decode cX8_workOut 171 = .ok (.aload_n 0, 1) := by decide +kernel
theorem dX8_workOut_172 : decode cX8_workOut 172 = .ok (.iconst 0, 1) := by decide +kernel
theorem dX8_workOut_173 : decode cX8_workOut 173 = .ok (.aload_n 0, 1) := by decide +kernel
theorem dX8_workOut_174 : decode cX8_workOut 174 = .ok (.getfield 33, 3) := by decide +kernel
theorem dX8_workOut_177 : decode cX8_workOut 177 = .ok (.iload_n 3, 1) := by decide +kernel
theorem dX8_workOut_178 : decode cX8_workOut 178 = .ok (.iload 7, 2) := by decide +kernel
theorem dX8_workOut_180 : decode cX8_workOut 180 = .ok (.invokevirtual 41, 3) := by decide +kernel
theorem dX8_workOut_183 : decode cX8_workOut 183 = .ok (.iconst 2, 1) := by decide +kernel
theorem dX8_workOut_184 : decode cX8_workOut 184 = .ok (.imul, 1) := by decide +kernel
theorem dX8_workOut_185 : decode cX8_workOut 185 = .ok (.ireturn, 1) := by decide +kernel
theorem dX8_workOut_186 : decode cX8_workOut 186 = .ok (.aload_n 0, 1) := by decide +kernel
theorem dX8_workOut_187 : decode cX8_workOut 187 = .ok (.iconst 1, 1) := by decide +kernel
theorem dX8_workOut_188 : decode cX8_workOut 188 = .ok (.aload_n 0, 1) := by decide +kernel
theorem dX8_workOut_189 : decode cX8_workOut 189 = .ok (.getfield 33, 3) := by decide +kernel
theorem dX8_workOut_192 : decode cX8_workOut 192 = .ok (.iload_n 3, 1) := by decide +kernel
theorem dX8_workOut_193 : decode cX8_workOut 193 = .ok (.iload 7, 2) := by decide +kernel
theorem dX8_workOut_195 : decode cX8_workOut 195 = .ok (.invokevirtual 41, 3) := by decide +kernel
theorem dX8_workOut_198 : decode cX8_workOut 198 = .ok (.aload_n 0, 1) := by decide +kernel
theorem dX8_workOut_199 : decode cX8_workOut 199 = .ok (.getfield 40, 3) := by decide +kernel
theorem dX8_workOut_202 : decode cX8_workOut 202 = .ok (.isub, 1) := by decide +kernel
theorem dX8_workOut_203 : decode cX8_workOut 203 = .ok (.ireturn, 1) := by decide +kernel
theorem dX8_workOut_204 : decode cX8_workOut 204 = .ok (.aload_n 0, 1) := by decide +kernel
theorem dX8_workOut_205 : decode cX8_workOut 205 = .ok (.iload_n 3, 1) := by decide +kernel
theorem dX8_workOut_206 : decode cX8_workOut 206 = .ok (.invokevirtual 56, 3) := by decide +kernel
theorem dX8_workOut_209 : decode cX8_workOut 209 = .ok (.ireturn, 1) := by decide +kernel
theorem dX8_workOut_210 : decode cX8_workOut 210 = .ok (.aload_n 0, 1) := by decide +kernel
theorem dX8_workOut_211 : decode cX8_workOut 211 = .ok (.iconst 0, 1) := by decide +kernel
theorem dX8_workOut_212 : decode cX8_workOut 212 = .ok (.iload 6, 2) := by decide +kernel
theorem dX8_workOut_214 : decode cX8_workOut 214 = .ok (.iload_n 3, 1) := by decide +kernel
theorem dX8_workOut_215 : decode cX8_workOut 215 = .ok (.iload 7, 2) := by decide +kernel
theorem dX8_workOut_217 : decode cX8_workOut 217 = .ok (.invokevirtual 41, 3) := by decide +kernel
theorem dX8_workOut_220 : decode cX8_workOut 220 = .ok (.iconst 4, 1) := by decide +kernel
theorem dX8_workOut_221 : decode cX8_workOut 221 = .ok (.isub, 1) := by decide +kernel
theorem dX8_workOut_222 : decode cX8_workOut 222 = .ok (.ireturn, 1) := by decide +kernel
theorem dX8_workOut_223 : decode cX8_workOut 223 = .ok (.aload_n 0, 1) := by decide +kernel
theorem dX8_workOut_224 : decode cX8_workOut 224 = .ok (.iconst 3, 1) := by decide +kernel
theorem dX8_workOut_225 : decode cX8_workOut 225 = .ok (.iload 6, 2) := by decide +kernel
theorem dX8_workOut_227 : decode cX8_workOut 227 = .ok (.iload_n 3, 1) := by decide +kernel
theorem dX8_workOut_228 : decode cX8_workOut 228 = .ok (.iload 7, 2) := by decide +kernel
theorem dX8_workOut_230 : decode cX8_workOut 230 = .ok (.invokevirtual 41, 3) := by decide +kernel
theorem dX8_workOut_233 : decode cX8_workOut 233 = .ok (.istore 8, 2) := by decide +kernel
theorem dX8_workOut_235 : decode cX8_workOut 235 = .ok (.aload_n 0, 1) := by decide +kernel
theorem dX8_workOut_236 : decode cX8_workOut 236 = .ok (.getfield 23, 3) := by decide +kernel
theorem dX8_workOut_239 : decode cX8_workOut 239 = .ok (.ifCond .eq 7, 3) := by decide +kernel
theorem dX8_workOut_242 : decode cX8_workOut 242 = .ok (.iconst 0, 1) := by decide +kernel
theorem dX8_workOut_243 : decode cX8_workOut 243 = .ok (.goto 18, 3) := by decide +kernel
theorem dX8_workOut_246 : decode cX8_workOut 246 = .ok (.iload 8, 2) := by decide +kernel
theorem dX8_workOut_248 : decode cX8_workOut 248 = .ok (.aload_n 0, 1) := by decide +kernel
theorem dX8_workOut_249 : decode cX8_workOut 249 = .ok (.iconst 1, 1) := by decide +kernel
theorem dX8_workOut_250 : decode cX8_workOut 250 = .ok (.aload_n 0, 1) := by decide +kernel
theorem dX8_workOut_251 : decode cX8_workOut 251 = .ok (.getfield 33, 3) := by decide +kernel
theorem dX8_workOut_254 : decode cX8_workOut 254 = .ok (.iconst 1, 1) := by decide +kernel
theorem dX8_workOut_255 : decode cX8_workOut 255 = .ok (.iload 7, 2) := by decide +kernel
theorem dX8_workOut_257 : decode cX8_workOut 257 = .ok (.invokevirtual 41, 3) := by decide +kernel
theorem dX8_workOut_260 : decode cX8_workOut 260 = .ok (.iadd, 1) := by decide +kernel
theorem dX8_workOut_261 : decode cX8_workOut 261 = .ok (.ireturn, 1) := by decide +kernel
theorem dX8_workOut_262 : decode cX8_workOut 262 = .ok (.iconst 0, 1) := by decide +kernel
theorem dX8_workOut_263 : decode cX8_workOut 263 = .ok (.aload_n 0, 1) := by decide +kernel
theorem dX8_workOut_264 : decode cX8_workOut 264 = .ok (.iconst 1, 1) := by decide +kernel
theorem dX8_workOut_265 : decode cX8_workOut 265 = .ok (.iload 6, 2) := by decide +kernel
theorem dX8_workOut_267 : decode cX8_workOut 267 = .ok (.iload_n 3, 1) := by decide +kernel
theorem dX8_workOut_268 : decode cX8_workOut 268 = .ok (.iload 7, 2) := by decide +kernel
theorem dX8_workOut_270 : decode cX8_workOut 270 = .ok (.invokevirtual 41, 3) := by decide +kernel
theorem dX8_workOut_273 : decode cX8_workOut 273 = .ok (.isub, 1) := by decide +kernel
theorem dX8_workOut_274 : decode cX8_workOut 274 = .ok (.ireturn, 1) := by decide +kernel
theorem dX8_workOut_275 : decode cX8_workOut 275 = .ok (.aload_n 0, 1) := by decide +kernel
theorem dX8_workOut_276 : decode cX8_workOut 276 = .ok (.iconst 2, 1) := by decide +kernel
theorem dX8_workOut_277 : decode cX8_workOut 277 = .ok (.iload 6, 2) := by decide +kernel
theorem dX8_workOut_279 : decode cX8_workOut 279 = .ok (.iload_n 3, 1) := by decide +kernel
theorem dX8_workOut_280 : decode cX8_workOut 280 = .ok (.iconst 2, 1) := by decide +kernel
theorem dX8_workOut_281 : decode cX8_workOut 281 = .ok (.idiv, 1) := by decide +kernel
theorem dX8_workOut_282 : decode cX8_workOut 282 = .ok (.iload 7, 2) := by decide +kernel
theorem dX8_workOut_284 : decode cX8_workOut 284 = .ok (.invokevirtual 41, 3) := by decide +kernel
theorem dX8_workOut_287 : decode cX8_workOut 287 = .ok (.ireturn, 1) := by decide +kernel
theorem dX8_workOut_288 : decode cX8_workOut 288 = .ok (.aload_n 0, 1) := by decide +kernel
theorem dX8_workOut_289 : decode cX8_workOut 289 = .ok (.iconst 0, 1) := by decide +kernel
theorem dX8_workOut_290 : decode cX8_workOut 290 = .ok (.iload 6, 2) := by decide +kernel
theorem dX8_workOut_292 : decode cX8_workOut 292 = .ok (.iload_n 3, 1) := by decide +kernel
theorem dX8_workOut_293 : decode cX8_workOut 293 = .ok (.iload 7, 2) := by decide +kernel
theorem dX8_workOut_295 : decode cX8_workOut 295 = .ok (.invokevirtual 41, 3) := by decide +kernel
theorem dX8_workOut_298 : decode cX8_workOut 298 = .ok (.iconst 3, 1) := by decide +kernel
theorem dX8_workOut_299 : decode cX8_workOut 299 = .ok (.imul, 1) := by decide +kernel
theorem dX8_workOut_300 : decode cX8_workOut 300 = .ok (.ireturn, 1) := by decide +kernel
theorem dX8_workOut_301 : decode cX8_workOut 301 = .ok (.aload_n 0, 1) := by decide +kernel
theorem dX8_workOut_302 : decode cX8_workOut 302 = .ok (.iconst 2, 1) := by decide +kernel
theorem dX8_workOut_303 : decode cX8_workOut 303 = .ok (.iload 6, 2) := by decide +kernel
theorem dX8_workOut_305 : decode cX8_workOut 305 = .ok (.iload_n 3, 1) := by decide +kernel
theorem dX8_workOut_306 : decode cX8_workOut 306 = .ok (.iload 7, 2) := by decide +kernel
theorem dX8_workOut_308 : decode cX8_workOut 308 = .ok (.invokevirtual 41, 3) := by decide +kernel
theorem dX8_workOut_311 : decode cX8_workOut 311 = .ok (.aload_n 0, 1) := by decide +kernel
theorem dX8_workOut_312 : decode cX8_workOut 312 = .ok (.getfield 34, 3) := by decide +kernel
theorem dX8_workOut_315 : decode cX8_workOut 315 = .ok (.ixor, 1) := by decide +kernel
theorem dX8_workOut_316 : decode cX8_workOut 316 = .ok (.ireturn, 1) := by decide +kernel
theorem dX8_workOut_317 : decode cX8_workOut 317 = .ok (.aload_n 0, 1) := by decide +kernel
theorem dX8_workOut_318 : decode cX8_workOut 318 = .ok (.iconst 1, 1) := by decide +kernel
theorem dX8_workOut_319 : decode cX8_workOut 319 = .ok (.iload 6, 2) := by decide +kernel
theorem dX8_workOut_321 : decode cX8_workOut 321 = .ok (.iload_n 3, 1) := by decide +kernel
theorem dX8_workOut_322 : decode cX8_workOut 322 = .ok (.iconst 1, 1) := by decide +kernel
theorem dX8_workOut_323 : decode cX8_workOut 323 = .ok (.iadd, 1) := by decide +kernel
theorem dX8_workOut_324 : decode cX8_workOut 324 = .ok (.iload 7, 2) := by decide +kernel
theorem dX8_workOut_326 : decode cX8_workOut 326 = .ok (.invokevirtual 41, 3) := by decide +kernel
theorem dX8_workOut_329 : decode cX8_workOut 329 = .ok (.ireturn, 1) := by decide +kernel
theorem dX8_workOut_330 : decode cX8_workOut 330 = .ok (.bipush 9, 2) := by decide +kernel
theorem dX8_workOut_332 : decode cX8_workOut 332 = .ok (.ireturn, 1) := by decide +kernel
theorem dX8_workOut_333 : decode cX8_workOut 333 = .ok (.aload_n 0, 1) := by decide +kernel
theorem dX8_workOut_334 : decode cX8_workOut 334 = .ok (.iconst 1, 1) := by decide +kernel
theorem dX8_workOut_335 : decode cX8_workOut 335 = .ok (.iload 6, 2) := by decide +kernel
theorem dX8_workOut_337 : decode cX8_workOut 337 = .ok (.iload_n 3, 1) := by decide +kernel
theorem dX8_workOut_338 : decode cX8_workOut 338 = .ok (.iload 7, 2) := by decide +kernel
theorem dX8_workOut_340 : decode cX8_workOut 340 = .ok (.invokevirtual 41, 3) := by decide +kernel
theorem dX8_workOut_343 : decode cX8_workOut 343 = .ok (.aload_n 0, 1) := by decide +kernel
theorem dX8_workOut_344 : decode cX8_workOut 344 = .ok (.getfield 40, 3) := by decide +kernel
theorem dX8_workOut_347 : decode cX8_workOut 347 = .ok (.iadd, 1) := by decide +kernel
theorem dX8_workOut_348 : decode cX8_workOut 348 = .ok (.ireturn, 1) := by decide +kernel
theorem dX8_workOut_349 : decode cX8_workOut 349 = .ok (.iconst 0, 1) := by decide +kernel
theorem dX8_workOut_350 : decode cX8_workOut 350 = .ok (.ireturn, 1) := by decide +kernel
theorem dX8_divided_0 : decode cX8_divided 0 = .ok (.aload_n 0, 1) := by decide +kernel
theorem dX8_divided_1 : decode cX8_divided 1 = .ok (.getfield 40, 3) := by decide +kernel
theorem dX8_divided_4 : decode cX8_divided 4 = .ok (.aload_n 0, 1) := by decide +kernel
theorem dX8_divided_5 : decode cX8_divided 5 = .ok (.getfield 34, 3) := by decide +kernel
theorem dX8_divided_8 : decode cX8_divided 8 = .ok (.isub, 1) := by decide +kernel
theorem dX8_divided_9 : decode cX8_divided 9 = .ok (.istore_n 2, 1) := by decide +kernel
theorem dX8_divided_10 : decode cX8_divided 10 = .ok (.iload_n 2, 1) := by decide +kernel
theorem dX8_divided_11 : decode cX8_divided 11 = .ok (.ifCond .ne 10, 3) := by decide +kernel
theorem dX8_divided_14 : decode cX8_divided 14 = .ok (.aload_n 0, 1) := by decide +kernel
theorem dX8_divided_15 : decode cX8_divided 15 = .ok (.iconst 1, 1) := by decide +kernel
theorem dX8_divided_16 : decode cX8_divided 16 = .ok (.putfield 23, 3) := by decide +kernel
theorem dX8_divided_19 : decode cX8_divided 19 = .ok (.iconst 0, 1) := by decide +kernel
theorem dX8_divided_20 : decode cX8_divided 20 = .ok (.ireturn, 1) := by decide +kernel
theorem dX8_divided_21 : decode cX8_divided 21 = .ok (.iload_n 1, 1) := by decide +kernel
theorem dX8_divided_22 : decode cX8_divided 22 = .ok (.iload_n 2, 1) := by decide +kernel
theorem dX8_divided_23 : decode cX8_divided 23 = .ok (.idiv, 1) := by decide +kernel
theorem dX8_divided_24 : decode cX8_divided 24 = .ok (.ireturn, 1) := by decide +kernel
theorem dX8_bodyOf_0 : decode cX8_bodyOf 0 = .ok (.iload_n 1, 1) := by decide +kernel
theorem dX8_bodyOf_1 : decode cX8_bodyOf 1 = .ok (.istore_n 2, 1) := by decide +kernel
theorem dX8_bodyOf_2 : decode cX8_bodyOf 2 = .ok (.iconst 0, 1) := by decide +kernel
theorem dX8_bodyOf_3 : decode cX8_bodyOf 3 = .ok (.istore_n 3, 1) := by decide +kernel
theorem dX8_bodyOf_4 : decode cX8_bodyOf 4 = .ok (.iload_n 3, 1) := by decide +kernel
theorem dX8_bodyOf_5 : decode cX8_bodyOf 5 = .ok (.bipush 7, 2) := by decide +kernel
theorem dX8_bodyOf_7 : decode cX8_bodyOf 7 = .ok (.if_icmp .ge 40, 3) := by decide +kernel
theorem dX8_bodyOf_10 : decode cX8_bodyOf 10 = .ok (.iload_n 2, 1) := by decide +kernel
theorem dX8_bodyOf_11 : decode cX8_bodyOf 11 = .ok (.iconst (-1), 1) := by decide +kernel
