set_option maxRecDepth 20000 in
theorem ggX5_init_X3_init : GoodIn wsX5_init wsX3_init := goodIn_r _ [30, 31, 2, 3, 32, 14, 15, 33, 34, 35, 36, 37, 38, 39, 40, 41, 42, 43, 44, 45, 46, 47, 48, 49, 50, 88, 89, 74, 75, 76] (by decide +kernel) (by decide +kernel)
set_option maxRecDepth 20000 in
theorem gX5_init_X3_init : GoodIn wsX5_init (wsX3_init) := ggX5_init_X3_init
set_option maxRecDepth 20000 in
theorem ggX5_init_X0_init : GoodIn wsX5_init wsX0_init := goodIn_r _ [52, 53, 2, 3, 54, 55, 56, 86, 87] (by decide +kernel) (by decide +kernel)
set_option maxRecDepth 20000 in
theorem gX5_init_X0_init_n22 : GoodIn wsX5_init (wsX0_init) := ggX5_init_X0_init
set_option maxRecDepth 20000 in
theorem ggX5_init_X2_init : GoodIn wsX5_init wsX2_init := goodIn_r _ [38, 39, 2, 3, 40, 41, 42, 43, 44, 45, 46, 88, 89] (by decide +kernel) (by decide +kernel)
set_option maxRecDepth 20000 in
theorem gX5_init_X2_init : GoodIn wsX5_init (wsX2_init) := ggX5_init_X2_init
set_option maxRecDepth 20000 in
theorem ggX5_init_X1_init : GoodIn wsX5_init wsX1_init := goodIn_r _ [59, 60, 2, 3, 61, 14, 15, 62, 63, 64, 65, 66, 67, 37, 38, 39, 40, 41, 42, 43, 44, 45, 46, 88, 89, 90, 91, 92, 93, 94] (by decide +kernel) (by decide +kernel)
set_option maxRecDepth 20000 in
theorem gX5_init_X1_init_n38 : GoodIn wsX5_init (wsX1_init) := ggX5_init_X1_init
set_option maxRecDepth 20000 in
theorem ggX5_init_X4_init : GoodIn wsX5_init wsX4_init := goodIn_r _ [69, 70, 2, 3, 71, 14, 15, 72, 73, 37, 38, 39, 40, 41, 42, 43, 44, 45, 46, 88, 89, 95] (by decide +kernel) (by decide +kernel)
set_option maxRecDepth 20000 in
theorem gX5_init_X4_init_n45 : GoodIn wsX5_init (wsX4_init) := ggX5_init_X4_init
theorem dX5_init_0 : decode cX5_init 0 = .ok (.aload_n 0, 1) := by decide +kernel
theorem dX5_init_1 : decode cX5_init 1 = .ok (.invokespecial 1, 3) := by decide +kernel
theorem dX5_init_4 : decode cX5_init 4 = .ok (.aload_n 0, 1) := by decide +kernel
theorem dX5_init_5 : decode cX5_init 5 = .ok (.new 7, 3) := by decide +kernel
theorem dX5_init_8 : decode cX5_init 8 = .ok (.dup, 1) := by decide +kernel
theorem dX5_init_9 : decode cX5_init 9 = .ok (.invokespecial 9, 3) := by decide +kernel
theorem dX5_init_12 : decode cX5_init 12 = .ok (.putfield 10, 3) := by decide +kernel
theorem dX5_init_15 : decode cX5_init 15 = .ok (.aload_n 0, 1) := by decide +kernel
theorem dX5_init_16 : decode cX5_init 16 = .ok (.iconst 2, 1) := by decide +kernel
theorem dX5_init_17 : decode cX5_init 17 = .ok (.anewarray 7, 3) := by decide +kernel
theorem dX5_init_20 : decode cX5_init 20 = .ok (.putfield 16, 3) := by decide +kernel
theorem dX5_init_23 : decode cX5_init 23 = .ok (.aload_n 0, 1) := by decide +kernel
theorem dX5_init_24 : decode cX5_init 24 = .ok (.new 20, 3) := by decide +kernel
theorem dX5_init_27 : decode cX5_init 27 = .ok (.dup, 1) := by decide +kernel
theorem dX5_init_28 : decode cX5_init 28 = .ok (.invokespecial 22, 3) := by decide +kernel
theorem dX5_init_31 : decode cX5_init 31 = .ok (.putfield 23, 3) := by decide +kernel
theorem dX5_init_34 : decode cX5_init 34 = .ok (.aload_n 0, 1) := by decide +kernel
theorem dX5_init_35 : decode cX5_init 35 = .ok (.new 27, 3) := by decide +kernel
theorem dX5_init_38 : decode cX5_init 38 = .ok (.dup, 1) := by decide +kernel
theorem dX5_init_39 : decode cX5_init 39 = .ok (.bipush 40, 2) := by decide +kernel
theorem dX5_init_41 : decode cX5_init 41 = .ok (.invokespecial 29, 3) := by decide +kernel
theorem dX5_init_44 : decode cX5_init 44 = .ok (.putfield 32, 3) := by decide +kernel
theorem dX5_init_47 : decode cX5_init 47 = .ok (.aload_n 0, 1) := by decide +kernel
theorem dX5_init_48 : decode cX5_init 48 = .ok (.new 36, 3) := by decide +kernel
theorem dX5_init_51 : decode cX5_init 51 = .ok (.dup, 1) := by decide +kernel
theorem dX5_init_52 : decode cX5_init 52 = .ok (.invokespecial 38, 3) := by decide +kernel
theorem dX5_init_55 : decode cX5_init 55 = .ok (.putfield 39, 3) := by decide +kernel
theorem dX5_init_58 : decode cX5_init 58 = .ok (.aload_n 0, 1) := by decide +kernel
theorem dX5_init_59 : decode cX5_init 59 = .ok (.new 43, 3) := by decide +kernel
theorem dX5_init_62 : decode cX5_init 62 = .ok (.dup, 1) := by decide +kernel
theorem dX5_init_63 : decode cX5_init 63 = .ok (.invokespecial 45, 3) := by decide +kernel
theorem dX5_init_66 : decode cX5_init 66 = .ok (.putfield 46, 3) := by decide +kernel
theorem dX5_init_69 : decode cX5_init 69 = .ok (.aload_n 0, 1) := by decide +kernel
theorem dX5_init_70 : decode cX5_init 70 = .ok (.new 27, 3) := by decide +kernel
theorem dX5_init_73 : decode cX5_init 73 = .ok (.dup, 1) := by decide +kernel
theorem dX5_init_74 : decode cX5_init 74 = .ok (.bipush 20, 2) := by decide +kernel
theorem dX5_init_76 : decode cX5_init 76 = .ok (.invokespecial 29, 3) := by decide +kernel
theorem dX5_init_79 : decode cX5_init 79 = .ok (.putfield 50, 3) := by decide +kernel
theorem dX5_init_82 : decode cX5_init 82 = .ok (.aload_n 0, 1) := by decide +kernel
theorem dX5_init_83 : decode cX5_init 83 = .ok (.new 27, 3) := by decide +kernel
theorem dX5_init_86 : decode cX5_init 86 = .ok (.dup, 1) := by decide +kernel
theorem dX5_init_87 : decode cX5_init 87 = .ok (.sipush 200, 3) := by decide +kernel
theorem dX5_init_90 : decode cX5_init 90 = .ok (.invokespecial 29, 3) := by decide +kernel
theorem dX5_init_93 : decode cX5_init 93 = .ok (.putfield 53, 3) := by decide +kernel
theorem dX5_init_96 : decode cX5_init 96 = .ok (.aload_n 0, 1) := by decide +kernel
theorem dX5_init_97 : decode cX5_init 97 = .ok (.new 27, 3) := by decide +kernel
theorem dX5_init_100 : decode cX5_init 100 = .ok (.dup, 1) := by decide +kernel
theorem dX5_init_101 : decode cX5_init 101 = .ok (.bipush 46, 2) := by decide +kernel
theorem dX5_init_103 : decode cX5_init 103 = .ok (.invokespecial 29, 3) := by decide +kernel
theorem dX5_init_106 : decode cX5_init 106 = .ok (.putfield 56, 3) := by decide +kernel
theorem dX5_init_109 : decode cX5_init 109 = .ok (.return_, 1) := by decide +kernel
set_option maxRecDepth 20000 in
theorem ggX5_write_X2_size : GoodIn wsX5_write wsX2_size := goodIn_r _ [14, 15, 132, 133] (by decide +kernel) (by decide +kernel)
set_option maxRecDepth 20000 in
theorem gX5_write_X2_size : GoodIn wsX5_write (wsV RX5 59 RX2 yX2_size wsX2_size) := goodIn_app (goodIn_of _ (by decide +kernel)) ggX5_write_X2_size
set_option maxRecDepth 20000 in
theorem ggX5_write_X5_errorPlace : GoodIn wsX5_write wsX5_errorPlace := goodIn_r _ [20, 5, 10, 11, 12, 13, 14, 15, 21, 22, 23, 24, 25, 26, 27, 19, 28, 120, 121, 122, 123, 124, 125, 126, 127, 128, 132, 133] (by decide +kernel) (by decide +kernel)
set_option maxRecDepth 20000 in
theorem gX5_write_X5_errorPlace : GoodIn wsX5_write (wsV RX5 63 RX5 yX5_errorPlace wsX5_errorPlace) := goodIn_app (goodIn_of _ (by decide +kernel)) ggX5_write_X5_errorPlace
set_option maxRecDepth 20000 in
theorem ggX5_write_X2_empty : GoodIn wsX5_write wsX2_empty := goodIn_r _ [32, 15, 132, 133] (by decide +kernel) (by decide +kernel)
set_option maxRecDepth 20000 in
theorem gX5_write_X2_empty : GoodIn wsX5_write (wsV RX5 73 RX2 yX2_empty wsX2_empty) := goodIn_app (goodIn_of _ (by decide +kernel)) ggX5_write_X2_empty
set_option maxRecDepth 20000 in
theorem ggX5_write_X2_at : GoodIn wsX5_write wsX2_at := goodIn_r _ [24, 15, 25, 132, 133] (by decide +kernel) (by decide +kernel)
set_option maxRecDepth 20000 in
theorem gX5_write_X2_at : GoodIn wsX5_write (wsV RX5 76 RX2 yX2_at wsX2_at) := goodIn_app (goodIn_of _ (by decide +kernel)) ggX5_write_X2_at
set_option maxRecDepth 20000 in
theorem ggX5_write_X5_letterOfCode : GoodIn wsX5_write wsX5_letterOfCode := goodIn_r _ [28] (by decide +kernel) (by decide +kernel)
set_option maxRecDepth 20000 in
theorem gX5_write_X5_letterOfCode : GoodIn wsX5_write (va_wsS RX5 80 yX5_letterOfCode wsX5_letterOfCode) := goodIn_app (goodIn_of _ (by decide +kernel)) ggX5_write_X5_letterOfCode
set_option maxRecDepth 20000 in
theorem ggX5_write_X2_add : GoodIn wsX5_write wsX2_add := goodIn_r _ [36, 15, 25, 132, 133] (by decide +kernel) (by decide +kernel)
set_option maxRecDepth 20000 in
theorem gX5_write_X2_add : GoodIn wsX5_write (wsV RX5 83 RX2 yX2_add wsX2_add) := goodIn_app (goodIn_of _ (by decide +kernel)) ggX5_write_X2_add
set_option maxRecDepth 20000 in
theorem ggX5_write_X5_value : GoodIn wsX5_write wsX5_value := goodIn_r _ [40, 9, 21, 22, 23, 13, 24, 15, 25, 120, 121, 122, 123, 124, 125, 126, 127, 128, 129, 130, 131, 132, 133] (by decide +kernel) (by decide +kernel)
set_option maxRecDepth 20000 in
theorem gX5_write_X5_value : GoodIn wsX5_write (wsV RX5 87 RX5 yX5_value wsX5_value) := goodIn_app (goodIn_of _ (by decide +kernel)) ggX5_write_X5_value
set_option maxRecDepth 20000 in
theorem ggX5_write_X4_layOut : GoodIn wsX5_write wsX4_layOut := goodIn_r _ [45, 46, 47, 30, 31, 13, 32, 15, 48, 49, 50, 44, 51, 52, 34, 35, 36, 25, 53, 54, 55, 56, 57, 11, 12, 14, 58, 22, 23, 24, 59, 19, 60, 10, 21, 134, 132, 133] (by decide +kernel) (by decide +kernel)
set_option maxRecDepth 20000 in
theorem gX5_write_X4_layOut : GoodIn wsX5_write (wsV RX5 90 RX4 yX4_layOut wsX4_layOut) := goodIn_app (goodIn_of _ (by decide +kernel)) ggX5_write_X4_layOut
set_option maxRecDepth 20000 in
theorem ggX5_write_X4_timesNeeded : GoodIn wsX5_write wsX4_timesNeeded := goodIn_r _ [64, 46, 57, 11, 12, 13, 14, 15, 65, 66, 67, 68, 69, 22, 23, 24, 25, 134, 132, 133] (by decide +kernel) (by decide +kernel)
set_option maxRecDepth 20000 in
theorem gX5_write_X4_timesNeeded : GoodIn wsX5_write (wsV RX5 94 RX4 yX4_timesNeeded wsX4_timesNeeded) := goodIn_app (goodIn_of _ (by decide +kernel)) ggX5_write_X4_timesNeeded
set_option maxRecDepth 20000 in
theorem ggX5_write_X0_save : GoodIn wsX5_write wsX0_save := goodIn_r _ [74, 75, 76, 77, 78, 79, 80, 81, 82, 73, 83, 84, 85, 86, 87, 88, 89, 90, 91, 13, 92, 93, 94, 95, 96, 97, 98, 15, 99, 100, 101, 102, 103, 25, 104, 34, 35, 36, 105, 106, 107, 108, 109, 110, 111, 112, 113, 11, 12, 14, 69, 22, 23, 24, 114, 135, 136, 129, 130, 131, 132, 133] (by decide +kernel) (by decide +kernel)
set_option maxRecDepth 20000 in
theorem gX5_write_X0_save : GoodIn wsX5_write (wsV RX5 102 RX0 yX0_save wsX0_save) := goodIn_app (goodIn_of _ (by decide +kernel)) ggX5_write_X0_save
set_option maxRecDepth 20000 in
theorem ggX5_write_X2_copyFrom : GoodIn wsX5_write wsX2_copyFrom := goodIn_r _ [112, 15, 113, 11, 12, 13, 14, 69, 22, 23, 24, 25, 114, 34, 35, 36, 132, 133] (by decide +kernel) (by decide +kernel)
set_option maxRecDepth 20000 in
theorem gX5_write_X2_copyFrom : GoodIn wsX5_write (wsV RX5 109 RX2 yX2_copyFrom wsX2_copyFrom) := goodIn_app (goodIn_of _ (by decide +kernel)) ggX5_write_X2_copyFrom
set_option maxRecDepth 20000 in
theorem ggX5_write_X4_passInto : GoodIn wsX5_write wsX4_passInto := goodIn_r _ [119, 46, 47, 30, 31, 13, 32, 15, 57, 11, 12, 14, 58, 22, 23, 24, 25, 52, 34, 35, 36, 134, 132, 133] (by decide +kernel) (by decide +kernel)
set_option maxRecDepth 20000 in
theorem gX5_write_X4_passInto : GoodIn wsX5_write (wsV RX5 116 RX4 yX4_passInto wsX4_passInto) := goodIn_app (goodIn_of _ (by decide +kernel)) ggX5_write_X4_passInto
theorem dX5_write_0 : decode cX5_write 0 = .ok (.aload_n 0, 1) := by decide +kernel
theorem dX5_write_1 : decode cX5_write 1 = .ok (.getfield 32, 3) := by decide +kernel
theorem dX5_write_4 : decode cX5_write 4 = .ok (.invokevirtual 59, 3) := by decide +kernel
theorem dX5_write_7 : decode cX5_write 7 = .ok (.ifCond .eq 17, 3) := by decide +kernel
theorem dX5_write_10 : decode cX5_write 10 = .ok (.aload_n 0, 1) := by decide +kernel
theorem dX5_write_11 : decode cX5_write 11 = .ok (.invokevirtual 63, 3) := by decide +kernel
theorem dX5_write_14 : decode cX5_write 14 = .ok (.aload_n 0, 1) := by decide +kernel
theorem dX5_write_15 : decode cX5_write 15 = .ok (.getfield 32, 3) := by decide +kernel
theorem dX5_write_18 : decode cX5_write 18 = .ok (.invokevirtual 59, 3) := by decide +kernel
theorem dX5_write_21 : decode cX5_write 21 = .ok (.if_icmp .ge 13, 3) := by decide +kernel
theorem dX5_write_24 : decode cX5_write 24 = .ok (.new 66, 3) := by decide +kernel
theorem dX5_write_27 : decode cX5_write 27 = .ok (.dup, 1) := by decide +kernel
theorem dX5_write_28 : decode cX5_write 28 = .ok (.ldc 68, 2) := by decide +kernel
theorem dX5_write_30 : decode cX5_write 30 = .ok (.invokespecial 70, 3) := by decide +kernel
theorem dX5_write_33 : decode cX5_write 33 = .ok (.athrow, 1) := by decide +kernel
theorem dX5_write_34 : decode cX5_write 34 = .ok (.aload_n 0, 1) := by decide +kernel
theorem dX5_write_35 : decode cX5_write 35 = .ok (.getfield 50, 3) := by decide +kernel
theorem dX5_write_38 : decode cX5_write 38 = .ok (.invokevirtual 73, 3) := by decide +kernel
theorem dX5_write_41 : decode cX5_write 41 = .ok (.iconst 0, 1) := by decide +kernel
theorem dX5_write_42 : decode cX5_write 42 = .ok (.istore_n 1, 1) := by decide +kernel
theorem dX5_write_43 : decode cX5_write 43 = .ok (.iload_n 1, 1) := by decide +kernel
theorem dX5_write_44 : decode cX5_write 44 = .ok (.aload_n 0, 1) := by decide +kernel
theorem dX5_write_45 : decode cX5_write 45 = .ok (.getfield 32, 3) := by decide +kernel
theorem dX5_write_48 : decode cX5_write 48 = .ok (.invokevirtual 59, 3) := by decide +kernel
theorem dX5_write_51 : decode cX5_write 51 = .ok (.if_icmp .ge 28, 3) := by decide +kernel
theorem dX5_write_54 : decode cX5_write 54 = .ok (.aload_n 0, 1) := by decide +kernel
theorem dX5_write_55 : decode cX5_write 55 = .ok (.getfield 50, 3) := by decide +kernel
theorem dX5_write_58 : decode cX5_write 58 = .ok (.aload_n 0, 1) := by decide +kernel
theorem dX5_write_59 : decode cX5_write 59 = .ok (.getfield 32, 3) := by decide +kernel
theorem dX5_write_62 : decode cX5_write 62 = .ok (.iload_n 1, 1) := by decide +kernel
theorem dX5_write_63 : decode cX5_write 63 = .ok (.invokevirtual 76, 3) := by decide +kernel
theorem dX5_write_66 : decode cX5_write 66 = .ok (.invokestatic 80, 3) := by decide +kernel
theorem dX5_write_69 : decode cX5_write 69 = .ok (.invokevirtual 83, 3) := by decide +kernel
theorem dX5_write_72 : decode cX5_write 72 = .ok (.pop, 1) := by decide +kernel
theorem dX5_write_73 : decode cX5_write 73 = .ok (.iinc 1 1, 3) := by decide +kernel
theorem dX5_write_76 : decode cX5_write 76 = .ok (.goto (-33), 3) := by decide +kernel
theorem dX5_write_79 : decode cX5_write 79 = .ok (.aload_n 0, 1) := by decide +kernel
theorem dX5_write_80 : decode cX5_write 80 = .ok (.getfield 46, 3) := by decide +kernel
theorem dX5_write_83 : decode cX5_write 83 = .ok (.aload_n 0, 1) := by decide +kernel
theorem dX5_write_84 : decode cX5_write 84 = .ok (.getfield 50, 3) := by decide +kernel
theorem dX5_write_87 : decode cX5_write 87 = .ok (.aload_n 0, 1) := by decide +kernel
theorem dX5_write_88 : decode cX5_write 88 = .ok (.iconst 0, 1) := by decide +kernel
theorem dX5_write_89 : decode cX5_write 89 = .ok (.invokevirtual 87, 3) := by decide +kernel
theorem dX5_write_92 : decode cX5_write 92 = .ok (.invokevirtual 90, 3) := by decide +kernel
theorem dX5_write_95 : decode cX5_write 95 = .ok (.aload_n 0, 1) := by decide +kernel
theorem dX5_write_96 : decode cX5_write 96 = .ok (.getfield 46, 3) := by decide +kernel
theorem dX5_write_99 : decode cX5_write 99 = .ok (.invokevirtual 94, 3) := by decide +kernel
theorem dX5_write_102 : decode cX5_write 102 = .ok (.sipush 200, 3) := by decide +kernel
theorem dX5_write_105 : decode cX5_write 105 = .ok (.if_icmp .le 13, 3) := by decide +kernel
theorem dX5_write_108 : decode cX5_write 108 = .ok (.new 97, 3) := by decide +kernel
theorem dX5_write_111 : decode cX5_write 111 = .ok (.dup, 1) := by decide +kernel
theorem dX5_write_112 : decode cX5_write 112 = .ok (.ldc 99, 2) := by decide +kernel
theorem dX5_write_114 : decode cX5_write 114 = .ok (.invokespecial 101, 3) := by decide +kernel
theorem dX5_write_117 : decode cX5_write 117 = .ok (.athrow, 1) := by decide +kernel
theorem dX5_write_118 : decode cX5_write 118 = .ok (.aload_n 0, 1) := by decide +kernel
theorem dX5_write_119 : decode cX5_write 119 = .ok (.getfield 23, 3) := by decide +kernel
theorem dX5_write_122 : decode cX5_write 122 = .ok (.aload_n 0, 1) := by decide +kernel
theorem dX5_write_123 : decode cX5_write 123 = .ok (.getfield 10, 3) := by decide +kernel
theorem dX5_write_126 : decode cX5_write 126 = .ok (.invokevirtual 102, 3) := by decide +kernel
theorem dX5_write_129 : decode cX5_write 129 = .ok (.aload_n 0, 1) := by decide +kernel
theorem dX5_write_130 : decode cX5_write 130 = .ok (.getfield 10, 3) := by decide +kernel
theorem dX5_write_133 : decode cX5_write 133 = .ok (.getfield 106, 3) := by decide +kernel
theorem dX5_write_136 : decode cX5_write 136 = .ok (.aload_n 0, 1) := by decide +kernel
theorem dX5_write_137 : decode cX5_write 137 = .ok (.getfield 50, 3) := by decide +kernel
theorem dX5_write_140 : decode cX5_write 140 = .ok (.invokevirtual 109, 3) := by decide +kernel
theorem dX5_write_143 : decode cX5_write 143 = .ok (.aload_n 0, 1) := by decide +kernel
theorem dX5_write_144 : decode cX5_write 144 = .ok (.getfield 46, 3) := by decide +kernel
theorem dX5_write_147 : decode cX5_write 147 = .ok (.aload_n 0, 1) := by decide +kernel
theorem dX5_write_148 : decode cX5_write 148 = .ok (.getfield 10, 3) := by decide +kernel
theorem dX5_write_151 : decode cX5_write 151 = .ok (.getfield 113, 3) := by decide +kernel
theorem dX5_write_154 : decode cX5_write 154 = .ok (.aload_n 0, 1) := by decide +kernel
theorem dX5_write_155 : decode cX5_write 155 = .ok (.iconst 3, 1) := by decide +kernel
theorem dX5_write_156 : decode cX5_write 156 = .ok (.invokevirtual 87, 3) := by decide +kernel
theorem dX5_write_159 : decode cX5_write 159 = .ok (.invokevirtual 116, 3) := by decide +kernel
theorem dX5_write_162 : decode cX5_write 162 = .ok (.aload_n 0, 1) := by decide +kernel
theorem dX5_write_163 : decode cX5_write 163 = .ok (.getfield 32, 3) := by decide +kernel
theorem dX5_write_166 : decode cX5_write 166 = .ok (.invokevirtual 73, 3) := by decide +kernel
theorem dX5_write_169 : decode cX5_write 169 = .ok (.aload_n 0, 1) := by decide +kernel
theorem dX5_write_170 : decode cX5_write 170 = .ok (.getfield 10, 3) := by decide +kernel
theorem dX5_write_173 : decode cX5_write 173 = .ok (.getfield 113, 3) := by decide +kernel
theorem dX5_write_176 : decode cX5_write 176 = .ok (.invokevirtual 59, 3) := by decide +kernel
theorem dX5_write_179 : decode cX5_write 179 = .ok (.ireturn, 1) := by decide +kernel
set_option maxRecDepth 20000 in
theorem ggX5_swipe_X2_size : GoodIn wsX5_swipe wsX2_size := goodIn_r _ [10, 11, 118, 119] (by decide +kernel) (by decide +kernel)
set_option maxRecDepth 20000 in
theorem gX5_swipe_X2_size : GoodIn wsX5_swipe (wsV RX5 59 RX2 yX2_size wsX2_size) := goodIn_app (goodIn_of _ (by decide +kernel)) ggX5_swipe_X2_size
set_option maxRecDepth 20000 in
theorem ggX5_swipe_X5_value : GoodIn wsX5_swipe wsX5_value := goodIn_r _ [16, 3, 17, 18, 19, 9, 20, 11, 21, 106, 107, 108, 109, 110, 111, 112, 113, 114, 115, 116, 117, 118, 119] (by decide +kernel) (by decide +kernel)
set_option maxRecDepth 20000 in
theorem gX5_swipe_X5_value : GoodIn wsX5_swipe (wsV RX5 87 RX5 yX5_value wsX5_value) := goodIn_app (goodIn_of _ (by decide +kernel)) ggX5_swipe_X5_value
set_option maxRecDepth 20000 in
theorem ggX5_swipe_X4_layOut : GoodIn wsX5_swipe wsX4_layOut := goodIn_r _ [26, 27, 28, 29, 30, 9, 31, 11, 32, 33, 34, 25, 35, 36, 37, 38, 39, 21, 40, 41, 42, 43, 44, 7, 8, 10, 45, 18, 19, 20, 46, 15, 47, 6, 17, 120, 118, 119] (by decide +kernel) (by decide +kernel)
set_option maxRecDepth 20000 in
theorem gX5_swipe_X4_layOut : GoodIn wsX5_swipe (wsV RX5 90 RX4 yX4_layOut wsX4_layOut) := goodIn_app (goodIn_of _ (by decide +kernel)) ggX5_swipe_X4_layOut
set_option maxRecDepth 20000 in
theorem ggX5_swipe_X4_timesNeeded : GoodIn wsX5_swipe wsX4_timesNeeded := goodIn_r _ [51, 27, 44, 7, 8, 9, 10, 11, 52, 53, 54, 55, 56, 18, 19, 20, 21, 120, 118, 119] (by decide +kernel) (by decide +kernel)
set_option maxRecDepth 20000 in
theorem gX5_swipe_X4_timesNeeded : GoodIn wsX5_swipe (wsV RX5 94 RX4 yX4_timesNeeded wsX4_timesNeeded) := goodIn_app (goodIn_of _ (by decide +kernel)) ggX5_swipe_X4_timesNeeded
set_option maxRecDepth 20000 in
theorem ggX5_swipe_X0_save : GoodIn wsX5_swipe wsX0_save := goodIn_r _ [61, 62, 63, 64, 65, 66, 67, 68, 69, 60, 70, 71, 72, 73, 74, 75, 76, 77, 78, 9, 79, 80, 81, 82, 83, 84, 85, 11, 86, 87, 88, 89, 90, 21, 91, 37, 38, 39, 92, 93, 94, 95, 96, 97, 98, 99, 100, 7, 8, 10, 56, 18, 19, 20, 101, 121, 122, 115, 116, 117, 118, 119] (by decide +kernel) (by decide +kernel)
set_option maxRecDepth 20000 in
theorem gX5_swipe_X0_save : GoodIn wsX5_swipe (wsV RX5 102 RX0 yX0_save wsX0_save) := goodIn_app (goodIn_of _ (by decide +kernel)) ggX5_swipe_X0_save
set_option maxRecDepth 20000 in
theorem ggX5_swipe_X4_passInto : GoodIn wsX5_swipe wsX4_passInto := goodIn_r _ [105, 27, 28, 29, 30, 9, 31, 11, 44, 7, 8, 10, 45, 18, 19, 20, 21, 36, 37, 38, 39, 120, 118, 119] (by decide +kernel) (by decide +kernel)
set_option maxRecDepth 20000 in
theorem gX5_swipe_X4_passInto : GoodIn wsX5_swipe (wsV RX5 116 RX4 yX4_passInto wsX4_passInto) := goodIn_app (goodIn_of _ (by decide +kernel)) ggX5_swipe_X4_passInto
theorem dX5_swipe_0 : decode cX5_swipe 0 = .ok (.aload_n 0, 1) := by decide +kernel
theorem dX5_swipe_1 : decode cX5_swipe 1 = .ok (.getfield 10, 3) := by decide +kernel
theorem dX5_swipe_4 : decode cX5_swipe 4 = .ok (.getfield 106, 3) := by decide +kernel
theorem dX5_swipe_7 : decode cX5_swipe 7 = .ok (.invokevirtual 59, 3) := by decide +kernel
theorem dX5_swipe_10 : decode cX5_swipe 10 = .ok (.ifCond .ne 13, 3) := by decide +kernel
theorem dX5_swipe_13 : decode cX5_swipe 13 = .ok (.new 97, 3) := by decide +kernel
theorem dX5_swipe_16 : decode cX5_swipe 16 = .ok (.dup, 1) := by decide +kernel
theorem dX5_swipe_17 : decode cX5_swipe 17 = .ok (.ldc 119, 2) := by decide +kernel
theorem dX5_swipe_19 : decode cX5_swipe 19 = .ok (.invokespecial 101, 3) := by decide +kernel
theorem dX5_swipe_22 : decode cX5_swipe 22 = .ok (.athrow, 1) := by decide +kernel
theorem dX5_swipe_23 : decode cX5_swipe 23 = .ok (.aload_n 0, 1) := by decide +kernel
theorem dX5_swipe_24 : decode cX5_swipe 24 = .ok (.getfield 46, 3) := by decide +kernel
theorem dX5_swipe_27 : decode cX5_swipe 27 = .ok (.aload_n 0, 1) := by decide +kernel
theorem dX5_swipe_28 : decode cX5_swipe 28 = .ok (.getfield 10, 3) := by decide +kernel
theorem dX5_swipe_31 : decode cX5_swipe 31 = .ok (.getfield 106, 3) := by decide +kernel
theorem dX5_swipe_34 : decode cX5_swipe 34 = .ok (.aload_n 0, 1) := by decide +kernel
theorem dX5_swipe_35 : decode cX5_swipe 35 = .ok (.iconst 0, 1) := by decide +kernel
theorem dX5_swipe_36 : decode cX5_swipe 36 = .ok (.invokevirtual 87, 3) := by decide +kernel
theorem dX5_swipe_39 : decode cX5_swipe 39 = .ok (.invokevirtual 90, 3) := by decide +kernel
theorem dX5_swipe_42 : decode cX5_swipe 42 = .ok (.aload_n 0, 1) := by decide +kernel
theorem dX5_swipe_43 : decode cX5_swipe 43 = .ok (.getfield 46, 3) := by decide +kernel
theorem dX5_swipe_46 : decode cX5_swipe 46 = .ok (.invokevirtual 94, 3) := by decide +kernel
theorem dX5_swipe_49 : decode cX5_swipe 49 = .ok (.sipush 200, 3) := by decide +kernel
theorem dX5_swipe_52 : decode cX5_swipe 52 = .ok (.if_icmp .le 13, 3) := by decide +kernel
theorem dX5_swipe_55 : decode cX5_swipe 55 = .ok (.new 97, 3) := by decide +kernel
theorem dX5_swipe_58 : decode cX5_swipe 58 = .ok (.dup, 1) := by decide +kernel
theorem dX5_swipe_59 : decode cX5_swipe 59 = .ok (.ldc 99, 2) := by decide +kernel
theorem dX5_swipe_61 : decode cX5_swipe 61 = .ok (.invokespecial 101, 3) := by decide +kernel
theorem dX5_swipe_64 : decode cX5_swipe 64 = .ok (.athrow, 1) := by decide +kernel
theorem dX5_swipe_65 : decode cX5_swipe 65 = .ok (.aload_n 0, 1) := by decide +kernel
theorem dX5_swipe_66 : decode cX5_swipe 66 = .ok (.getfield 23, 3) := by decide +kernel
theorem dX5_swipe_69 : decode cX5_swipe 69 = .ok (.aload_n 0, 1) := by decide +kernel
theorem dX5_swipe_70 : decode cX5_swipe 70 = .ok (.getfield 10, 3) := by decide +kernel
theorem dX5_swipe_73 : decode cX5_swipe 73 = .ok (.invokevirtual 102, 3) := by decide +kernel
theorem dX5_swipe_76 : decode cX5_swipe 76 = .ok (.aload_n 0, 1) := by decide +kernel
theorem dX5_swipe_77 : decode cX5_swipe 77 = .ok (.getfield 46, 3) := by decide +kernel
theorem dX5_swipe_80 : decode cX5_swipe 80 = .ok (.aload_n 0, 1) := by decide +kernel
theorem dX5_swipe_81 : decode cX5_swipe 81 = .ok (.getfield 10, 3) := by decide +kernel
theorem dX5_swipe_84 : decode cX5_swipe 84 = .ok (.getfield 113, 3) := by decide +kernel
theorem dX5_swipe_87 : decode cX5_swipe 87 = .ok (.aload_n 0, 1) := by decide +kernel
theorem dX5_swipe_88 : decode cX5_swipe 88 = .ok (.iconst 3, 1) := by decide +kernel
theorem dX5_swipe_89 : decode cX5_swipe 89 = .ok (.invokevirtual 87, 3) := by decide +kernel
theorem dX5_swipe_92 : decode cX5_swipe 92 = .ok (.invokevirtual 116, 3) := by decide +kernel
theorem dX5_swipe_95 : decode cX5_swipe 95 = .ok (.aload_n 0, 1) := by decide +kernel
theorem dX5_swipe_96 : decode cX5_swipe 96 = .ok (.getfield 10, 3) := by decide +kernel
theorem dX5_swipe_99 : decode cX5_swipe 99 = .ok (.getfield 113, 3) := by decide +kernel
theorem dX5_swipe_102 : decode cX5_swipe 102 = .ok (.invokevirtual 59, 3) := by decide +kernel
theorem dX5_swipe_105 : decode cX5_swipe 105 = .ok (.ireturn, 1) := by decide +kernel
set_option maxRecDepth 20000 in
theorem ggX5_turn_X0_save : GoodIn wsX5_turn wsX0_save := goodIn_r _ [7, 8, 9, 10, 11, 12, 13, 14, 15, 6, 16, 17, 18, 19, 20, 21, 22, 23, 24, 25, 26, 27, 28, 29, 30, 31, 32, 33, 34, 35, 36, 37, 38, 39, 40, 41, 42, 43, 44, 45, 46, 47, 48, 49, 50, 51, 52, 53, 54, 55, 56, 57, 58, 59, 60, 83, 84, 80, 81, 82, 85, 86] (by decide +kernel) (by decide +kernel)
set_option maxRecDepth 20000 in
theorem gX5_turn_X0_save : GoodIn wsX5_turn (wsV RX5 102 RX0 yX0_save wsX0_save) := goodIn_app (goodIn_of _ (by decide +kernel)) ggX5_turn_X0_save
set_option maxRecDepth 20000 in
theorem ggX5_turn_X2_reverse : GoodIn wsX5_turn wsX2_reverse := goodIn_r _ [64, 33, 56, 57, 58, 25, 59, 39, 65, 66, 67, 68, 85, 86] (by decide +kernel) (by decide +kernel)
set_option maxRecDepth 20000 in
theorem gX5_turn_X2_reverse : GoodIn wsX5_turn (wsV RX5 121 RX2 yX2_reverse wsX2_reverse) := goodIn_app (goodIn_of _ (by decide +kernel)) ggX5_turn_X2_reverse
set_option maxRecDepth 20000 in
theorem ggX5_turn_X2_size : GoodIn wsX5_turn wsX2_size := goodIn_r _ [55, 33, 85, 86] (by decide +kernel) (by decide +kernel)
set_option maxRecDepth 20000 in
theorem gX5_turn_X2_size : GoodIn wsX5_turn (wsV RX5 59 RX2 yX2_size wsX2_size) := goodIn_app (goodIn_of _ (by decide +kernel)) ggX5_turn_X2_size
set_option maxRecDepth 20000 in
theorem ggX5_turn_X2_at : GoodIn wsX5_turn wsX2_at := goodIn_r _ [59, 33, 39, 85, 86] (by decide +kernel) (by decide +kernel)
set_option maxRecDepth 20000 in
theorem gX5_turn_X2_at : GoodIn wsX5_turn (wsV RX5 76 RX2 yX2_at wsX2_at) := goodIn_app (goodIn_of _ (by decide +kernel)) ggX5_turn_X2_at
theorem dX5_turn_0 : decode cX5_turn 0 = .ok (.aload_n 0, 1) := by decide +kernel
theorem dX5_turn_1 : decode cX5_turn 1 = .ok (.getfield 23, 3) := by decide +kernel
theorem dX5_turn_4 : decode cX5_turn 4 = .ok (.aload_n 0, 1) := by decide +kernel
theorem dX5_turn_5 : decode cX5_turn 5 = .ok (.getfield 10, 3) := by decide +kernel
theorem dX5_turn_8 : decode cX5_turn 8 = .ok (.invokevirtual 102, 3) := by decide +kernel
theorem dX5_turn_11 : decode cX5_turn 11 = .ok (.aload_n 0, 1) := by decide +kernel
theorem dX5_turn_12 : decode cX5_turn 12 = .ok (.getfield 10, 3) := by decide +kernel
theorem dX5_turn_15 : decode cX5_turn 15 = .ok (.getfield 113, 3) := by decide +kernel
theorem dX5_turn_18 : decode cX5_turn 18 = .ok (.invokevirtual 121, 3) := by decide +kernel
theorem dX5_turn_21 : decode cX5_turn 21 = .ok (.aload_n 0, 1) := by decide +kernel
theorem dX5_turn_22 : decode cX5_turn 22 = .ok (.getfield 10, 3) := by decide +kernel
theorem dX5_turn_25 : decode cX5_turn 25 = .ok (.getfield 113, 3) := by decide +kernel
theorem dX5_turn_28 : decode cX5_turn 28 = .ok (.invokevirtual 59, 3) := by decide +kernel
theorem dX5_turn_31 : decode cX5_turn 31 = .ok (.ifCond .ne 7, 3) := by decide +kernel
theorem dX5_turn_34 : decode cX5_turn 34 = .ok (.iconst 0, 1) := by decide +kernel
theorem dX5_turn_35 : decode cX5_turn 35 = .ok (.goto 14, 3) := by decide +kernel
theorem dX5_turn_38 : decode cX5_turn 38 = .ok (.aload_n 0, 1) := by decide +kernel
theorem dX5_turn_39 : decode cX5_turn 39 = .ok (.getfield 10, 3) := by decide +kernel
theorem dX5_turn_42 : decode cX5_turn 42 = .ok (.getfield 113, 3) := by decide +kernel
theorem dX5_turn_45 : decode cX5_turn 45 = .ok (.iconst 0, 1) := by decide +kernel
theorem dX5_turn_46 : decode cX5_turn 46 = .ok (.invokevirtual 76, 3) := by decide +kernel
theorem dX5_turn_49 : decode cX5_turn 49 = .ok (.ireturn, 1) := by decide +kernel
set_option maxRecDepth 20000 in
theorem ggX5_join_X2_size : GoodIn wsX5_join wsX2_size := goodIn_r _ [9, 10, 90, 91] (by decide +kernel) (by decide +kernel)
set_option maxRecDepth 20000 in
theorem gX5_join_X2_size : GoodIn wsX5_join (wsV RX5 59 RX2 yX2_size wsX2_size) := goodIn_app (goodIn_of _ (by decide +kernel)) ggX5_join_X2_size
set_option maxRecDepth 20000 in
theorem ggX5_join_X0_save : GoodIn wsX5_join wsX0_save := goodIn_r _ [15, 16, 17, 18, 19, 20, 21, 22, 23, 14, 24, 25, 26, 27, 28, 29, 30, 31, 32, 8, 33, 34, 35, 36, 37, 38, 39, 10, 40, 41, 42, 43, 44, 45, 46, 47, 48, 49, 50, 51, 52, 53, 54, 55, 56, 57, 58, 6, 7, 9, 59, 60, 61, 62, 63, 92, 93, 87, 88, 89, 90, 91] (by decide +kernel) (by decide +kernel)
set_option maxRecDepth 20000 in
theorem gX5_join_X0_save : GoodIn wsX5_join (wsV RX5 102 RX0 yX0_save wsX0_save) := goodIn_app (goodIn_of _ (by decide +kernel)) ggX5_join_X0_save
set_option maxRecDepth 20000 in
theorem ggX5_join_X2_at : GoodIn wsX5_join wsX2_at := goodIn_r _ [62, 10, 45, 90, 91] (by decide +kernel) (by decide +kernel)
set_option maxRecDepth 20000 in
theorem gX5_join_X2_at : GoodIn wsX5_join (wsV RX5 76 RX2 yX2_at wsX2_at) := goodIn_app (goodIn_of _ (by decide +kernel)) ggX5_join_X2_at
set_option maxRecDepth 20000 in
theorem ggX5_join_X2_put : GoodIn wsX5_join wsX2_put := goodIn_r _ [68, 10, 45, 90, 91] (by decide +kernel) (by decide +kernel)
set_option maxRecDepth 20000 in
theorem gX5_join_X2_put : GoodIn wsX5_join (wsV RX5 129 RX2 yX2_put wsX2_put) := goodIn_app (goodIn_of _ (by decide +kernel)) ggX5_join_X2_put
set_option maxRecDepth 20000 in
theorem ggX5_join_X2_remove : GoodIn wsX5_join wsX2_remove := goodIn_r _ [72, 10, 73, 74, 75, 8, 76, 59, 60, 61, 62, 45, 77, 66, 67, 68, 90, 91] (by decide +kernel) (by decide +kernel)
set_option maxRecDepth 20000 in
theorem gX5_join_X2_remove : GoodIn wsX5_join (wsV RX5 133 RX2 yX2_remove wsX2_remove) := goodIn_app (goodIn_of _ (by decide +kernel)) ggX5_join_X2_remove
theorem dX5_join_0 : decode cX5_join 0 = .ok (.iload_n 1, 1) := by decide +kernel
theorem dX5_join_1 : decode cX5_join 1 = .ok (.ifCond .lt 19, 3) := by decide +kernel
theorem dX5_join_4 : decode cX5_join 4 = .ok (.iload_n 1, 1) := by decide +kernel
theorem dX5_join_5 : decode cX5_join 5 = .ok (.aload_n 0, 1) := by decide +kernel
theorem dX5_join_6 : decode cX5_join 6 = .ok (.getfield 10, 3) := by decide +kernel
theorem dX5_join_9 : decode cX5_join 9 = .ok (.getfield 113, 3) := by decide +kernel
theorem dX5_join_12 : decode cX5_join 12 = .ok (.invokevirtual 59, 3) := by decide +kernel
theorem dX5_join_15 : decode cX5_join 15 = .ok (.iconst 1, 1) := by decide +kernel
theorem dX5_join_16 : decode cX5_join 16 = .ok (.isub, 1) := by decide +kernel
theorem dX5_join_17 : decode cX5_join 17 = .ok (.if_icmp .lt 13, 3) := by decide +kernel
theorem dX5_join_20 : decode cX5_join 20 = .ok (.new 124, 3) := by decide +kernel
theorem dX5_join_23 : decode cX5_join 23 = .ok (.dup, 1) := by decide +kernel
theorem dX5_join_24 : decode cX5_join 24 = .ok (.ldc 126, 2) := by decide +kernel
theorem dX5_join_26 : decode cX5_join 26 = .ok (.invokespecial 128, 3) := by decide +kernel
theorem dX5_join_29 : decode cX5_join 29 = .ok (.athrow, 1) := by decide +kernel
theorem dX5_join_30 : decode cX5_join 30 = .ok (.aload_n 0, 1) := by decide +kernel
theorem dX5_join_31 : decode cX5_join 31 = .ok (.getfield 23, 3) := by decide +kernel
theorem dX5_join_34 : decode cX5_join 34 = .ok (.aload_n 0, 1) := by decide +kernel
theorem dX5_join_35 : decode cX5_join 35 = .ok (.getfield 10, 3) := by decide +kernel
theorem dX5_join_38 : decode cX5_join 38 = .ok (.invokevirtual 102, 3) := by decide +kernel
theorem dX5_join_41 : decode cX5_join 41 = .ok (.aload_n 0, 1) := by decide +kernel
theorem dX5_join_42 : decode cX5_join 42 = .ok (.getfield 10, 3) := by decide +kernel
theorem dX5_join_45 : decode cX5_join 45 = .ok (.getfield 113, 3) := by decide +kernel
theorem dX5_join_48 : decode cX5_join 48 = .ok (.iload_n 1, 1) := by decide +kernel
theorem dX5_join_49 : decode cX5_join 49 = .ok (.invokevirtual 76, 3) := by decide +kernel
theorem dX5_join_52 : decode cX5_join 52 = .ok (.aload_n 0, 1) := by decide +kernel
theorem dX5_join_53 : decode cX5_join 53 = .ok (.getfield 10, 3) := by decide +kernel
theorem dX5_join_56 : decode cX5_join 56 = .ok (.getfield 113, 3) := by decide +kernel
theorem dX5_join_59 : decode cX5_join 59 = .ok (.iload_n 1, 1) := by decide +kernel
theorem dX5_join_60 : decode cX5_join 60 = .ok (.iconst 1, 1) := by decide +kernel
theorem dX5_join_61 : decode cX5_join 61 = .ok (.iadd, 1) := by decide +kernel
theorem dX5_join_62 : decode cX5_join 62 = .ok (.invokevirtual 76, 3) := by decide +kernel
theorem dX5_join_65 : decode cX5_join 65 = .ok (.iadd, 1) := by decide +kernel
theorem dX5_join_66 : decode cX5_join 66 = .ok (.istore_n 2, 1) := by decide +kernel
theorem dX5_join_67 : decode cX5_join 67 = .ok (.aload_n 0, 1) := by decide +kernel
theorem dX5_join_68 : decode cX5_join 68 = .ok (.getfield 10, 3) := by decide +kernel
theorem dX5_join_71 : decode cX5_join 71 = .ok (.getfield 113, 3) := by decide +kernel
theorem dX5_join_74 : decode cX5_join 74 = .ok (.iload_n 1, 1) := by decide +kernel
theorem dX5_join_75 : decode cX5_join 75 = .ok (.iload_n 2, 1) := by decide +kernel
theorem dX5_join_76 : decode cX5_join 76 = .ok (.invokevirtual 129, 3) := by decide +kernel
theorem dX5_join_79 : decode cX5_join 79 = .ok (.aload_n 0, 1) := by decide +kernel
theorem dX5_join_80 : decode cX5_join 80 = .ok (.getfield 10, 3) := by decide +kernel
theorem dX5_join_83 : decode cX5_join 83 = .ok (.getfield 113, 3) := by decide +kernel
theorem dX5_join_86 : decode cX5_join 86 = .ok (.iload_n 1, 1) := by decide +kernel
theorem dX5_join_87 : decode cX5_join 87 = .ok (.iconst 1, 1) := by decide +kernel
theorem dX5_join_88 : decode cX5_join 88 = .ok (.iadd, 1) := by decide +kernel
theorem dX5_join_89 : decode cX5_join 89 = .ok (.invokevirtual 133, 3) := by decide +kernel
theorem dX5_join_92 : decode cX5_join 92 = .ok (.iload_n 2, 1) := by decide +kernel
theorem dX5_join_93 : decode cX5_join 93 = .ok (.ireturn, 1) := by decide +kernel
set_option maxRecDepth 20000 in
theorem ggX5_scratch_X2_has : GoodIn wsX5_scratch wsX2_has := goodIn_r _ [13, 14, 94, 95] (by decide +kernel) (by decide +kernel)
set_option maxRecDepth 20000 in
theorem gX5_scratch_X2_has : GoodIn wsX5_scratch (wsV RX5 136 RX2 yX2_has wsX2_has) := goodIn_app (goodIn_of _ (by decide +kernel)) ggX5_scratch_X2_has
set_option maxRecDepth 20000 in
theorem ggX5_scratch_X2_at : GoodIn wsX5_scratch wsX2_at := goodIn_r _ [18, 14, 19, 94, 95] (by decide +kernel) (by decide +kernel)
set_option maxRecDepth 20000 in
theorem gX5_scratch_X2_at : GoodIn wsX5_scratch (wsV RX5 76 RX2 yX2_at wsX2_at) := goodIn_app (goodIn_of _ (by decide +kernel)) ggX5_scratch_X2_at
set_option maxRecDepth 20000 in
theorem ggX5_scratch_X2_size : GoodIn wsX5_scratch wsX2_size := goodIn_r _ [23, 14, 94, 95] (by decide +kernel) (by decide +kernel)
set_option maxRecDepth 20000 in
theorem gX5_scratch_X2_size : GoodIn wsX5_scratch (wsV RX5 59 RX2 yX2_size wsX2_size) := goodIn_app (goodIn_of _ (by decide +kernel)) ggX5_scratch_X2_size
set_option maxRecDepth 20000 in
theorem ggX5_scratch_X0_save : GoodIn wsX5_scratch wsX0_save := goodIn_r _ [28, 29, 30, 31, 32, 33, 34, 35, 36, 27, 37, 38, 39, 40, 41, 42, 43, 44, 45, 12, 46, 47, 48, 49, 50, 51, 52, 14, 53, 54, 55, 56, 57, 19, 58, 59, 60, 61, 62, 63, 64, 65, 66, 67, 68, 69, 70, 21, 22, 23, 71, 16, 17, 18, 72, 96, 97, 91, 92, 93, 94, 95] (by decide +kernel) (by decide +kernel)
set_option maxRecDepth 20000 in
theorem gX5_scratch_X0_save : GoodIn wsX5_scratch (wsV RX5 102 RX0 yX0_save wsX0_save) := goodIn_app (goodIn_of _ (by decide +kernel)) ggX5_scratch_X0_save
set_option maxRecDepth 20000 in
theorem ggX5_scratch_X2_put : GoodIn wsX5_scratch wsX2_put := goodIn_r _ [76, 14, 19, 94, 95] (by decide +kernel) (by decide +kernel)
set_option maxRecDepth 20000 in
theorem gX5_scratch_X2_put : GoodIn wsX5_scratch (wsV RX5 129 RX2 yX2_put wsX2_put) := goodIn_app (goodIn_of _ (by decide +kernel)) ggX5_scratch_X2_put
set_option maxRecDepth 20000 in
theorem ggX5_scratch_X2_insert : GoodIn wsX5_scratch wsX2_insert := goodIn_r _ [80, 14, 72, 59, 60, 12, 61, 19, 71, 16, 17, 18, 81, 74, 75, 76, 94, 95] (by decide +kernel) (by decide +kernel)
set_option maxRecDepth 20000 in
theorem gX5_scratch_X2_insert : GoodIn wsX5_scratch (wsV RX5 145 RX2 yX2_insert wsX2_insert) := goodIn_app (goodIn_of _ (by decide +kernel)) ggX5_scratch_X2_insert
theorem dX5_scratch_0 : decode cX5_scratch 0 = .ok (.aload_n 0, 1) := by decide +kernel
theorem dX5_scratch_1 : decode cX5_scratch 1 = .ok (.getfield 10, 3) := by decide +kernel
theorem dX5_scratch_4 : decode cX5_scratch 4 = .ok (.getfield 113, 3) := by decide +kernel
theorem dX5_scratch_7 : decode cX5_scratch 7 = .ok (.iload_n 1, 1) := by decide +kernel
theorem dX5_scratch_8 : decode cX5_scratch 8 = .ok (.invokevirtual 136, 3) := by decide +kernel
theorem dX5_scratch_11 : decode cX5_scratch 11 = .ok (.ifCond .ne 13, 3) := by decide +kernel
theorem dX5_scratch_14 : decode cX5_scratch 14 = .ok (.new 124, 3) := by decide +kernel
theorem dX5_scratch_17 : decode cX5_scratch 17 = .ok (.dup, 1) := by decide +kernel
theorem dX5_scratch_18 : decode cX5_scratch 18 = .ok (.ldc 139, 2) := by decide +kernel
theorem dX5_scratch_20 : decode cX5_scratch 20 = .ok (.invokespecial 128, 3) := by decide +kernel
theorem dX5_scratch_23 : decode cX5_scratch 23 = .ok (.athrow, 1) := by decide +kernel
theorem dX5_scratch_24 : decode cX5_scratch 24 = .ok (.aload_n 0, 1) := by decide +kernel
theorem dX5_scratch_25 : decode cX5_scratch 25 = .ok (.getfield 10, 3) := by decide +kernel
theorem dX5_scratch_28 : decode cX5_scratch 28 = .ok (.getfield 113, 3) := by decide +kernel
theorem dX5_scratch_31 : decode cX5_scratch 31 = .ok (.iload_n 1, 1) := by decide +kernel
theorem dX5_scratch_32 : decode cX5_scratch 32 = .ok (.invokevirtual 76, 3) := by decide +kernel
theorem dX5_scratch_35 : decode cX5_scratch 35 = .ok (.istore_n 3, 1) := by decide +kernel
theorem dX5_scratch_36 : decode cX5_scratch 36 = .ok (.iload_n 2, 1) := by decide +kernel
theorem dX5_scratch_37 : decode cX5_scratch 37 = .ok (.iconst 1, 1) := by decide +kernel
theorem dX5_scratch_38 : decode cX5_scratch 38 = .ok (.if_icmp .lt 8, 3) := by decide +kernel
theorem dX5_scratch_41 : decode cX5_scratch 41 = .ok (.iload_n 2, 1) := by decide +kernel
theorem dX5_scratch_42 : decode cX5_scratch 42 = .ok (.iload_n 3, 1) := by decide +kernel
theorem dX5_scratch_43 : decode cX5_scratch 43 = .ok (.if_icmp .lt 13, 3) := by decide +kernel
theorem dX5_scratch_46 : decode cX5_scratch 46 = .ok (.new 66, 3) := by decide +kernel
theorem dX5_scratch_49 : decode cX5_scratch 49 = .ok (.dup, 1) := by decide +kernel
theorem dX5_scratch_50 : decode cX5_scratch 50 = .ok (.ldc 141, 2) := by decide +kernel
theorem dX5_scratch_52 : decode cX5_scratch 52 = .ok (.invokespecial 70, 3) := by decide +kernel
theorem dX5_scratch_55 : decode cX5_scratch 55 = .ok (.athrow, 1) := by decide +kernel
theorem dX5_scratch_56 : decode cX5_scratch 56 = .ok (.aload_n 0, 1) := by decide +kernel
theorem dX5_scratch_57 : decode cX5_scratch 57 = .ok (.getfield 10, 3) := by decide +kernel
theorem dX5_scratch_60 : decode cX5_scratch 60 = .ok (.getfield 113, 3) := by decide +kernel
theorem dX5_scratch_63 : decode cX5_scratch 63 = .ok (.invokevirtual 59, 3) := by decide +kernel
theorem dX5_scratch_66 : decode cX5_scratch 66 = .ok (.sipush 200, 3) := by decide +kernel
theorem dX5_scratch_69 : decode cX5_scratch 69 = .ok (.if_icmp .lt 13, 3) := by decide +kernel
theorem dX5_scratch_72 : decode cX5_scratch 72 = .ok (.new 97, 3) := by decide +kernel
theorem dX5_scratch_75 : decode cX5_scratch 75 = .ok (.dup, 1) := by decide +kernel
theorem dX5_scratch_76 : decode cX5_scratch 76 = .ok (.ldc 143, 2) := by decide +kernel
theorem dX5_scratch_78 : decode cX5_scratch 78 = .ok (.invokespecial 101, 3) := by decide +kernel
theorem dX5_scratch_81 : decode cX5_scratch 81 = .ok (.athrow, 1) := by decide +kernel
theorem dX5_scratch_82 : decode cX5_scratch 82 = .ok (.aload_n 0, 1) := by decide +kernel
theorem dX5_scratch_83 : decode cX5_scratch 83 = .ok (.getfield 23, 3) := by decide +kernel
theorem dX5_scratch_86 : decode cX5_scratch 86 = .ok (.aload_n 0, 1) := by decide +kernel
theorem dX5_scratch_87 : decode cX5_scratch 87 = .ok (.getfield 10, 3) := by decide +kernel
theorem dX5_scratch_90 : decode cX5_scratch 90 = .ok (.invokevirtual 102, 3) := by decide +kernel
theorem dX5_scratch_93 : decode cX5_scratch 93 = .ok (.aload_n 0, 1) := by decide +kernel
theorem dX5_scratch_94 : decode cX5_scratch 94 = .ok (.getfield 10, 3) := by decide +kernel
theorem dX5_scratch_97 : decode cX5_scratch 97 = .ok (.getfield 113, 3) := by decide +kernel
theorem dX5_scratch_100 : decode cX5_scratch 100 = .ok (.iload_n 1, 1) := by decide +kernel
theorem dX5_scratch_101 : decode cX5_scratch 101 = .ok (.iload_n 2, 1) := by decide +kernel
theorem dX5_scratch_102 : decode cX5_scratch 102 = .ok (.invokevirtual 129, 3) := by decide +kernel
theorem dX5_scratch_105 : decode cX5_scratch 105 = .ok (.aload_n 0, 1) := by decide +kernel
theorem dX5_scratch_106 : decode cX5_scratch 106 = .ok (.getfield 10, 3) := by decide +kernel
theorem dX5_scratch_109 : decode cX5_scratch 109 = .ok (.getfield 113, 3) := by decide +kernel
theorem dX5_scratch_112 : decode cX5_scratch 112 = .ok (.iload_n 1, 1) := by decide +kernel
theorem dX5_scratch_113 : decode cX5_scratch 113 = .ok (.iconst 1, 1) := by decide +kernel
theorem dX5_scratch_114 : decode cX5_scratch 114 = .ok (.iadd, 1) := by decide +kernel
theorem dX5_scratch_115 : decode cX5_scratch 115 = .ok (.iload_n 3, 1) := by decide +kernel
theorem dX5_scratch_116 : decode cX5_scratch 116 = .ok (.iload_n 2, 1) := by decide +kernel
theorem dX5_scratch_117 : decode cX5_scratch 117 = .ok (.isub, 1) := by decide +kernel
theorem dX5_scratch_118 : decode cX5_scratch 118 = .ok (.invokevirtual 145, 3) := by decide +kernel
theorem dX5_scratch_121 : decode cX5_scratch 121 = .ok (.aload_n 0, 1) := by decide +kernel
theorem dX5_scratch_122 : decode cX5_scratch 122 = .ok (.getfield 10, 3) := by decide +kernel
theorem dX5_scratch_125 : decode cX5_scratch 125 = .ok (.getfield 113, 3) := by decide +kernel
theorem dX5_scratch_128 : decode cX5_scratch 128 = .ok (.invokevirtual 59, 3) := by decide +kernel
theorem dX5_scratch_131 : decode cX5_scratch 131 = .ok (.ireturn, 1) := by decide +kernel
set_option maxRecDepth 20000 in
theorem ggX5_change_X2_has : GoodIn wsX5_change wsX2_has := goodIn_r _ [11, 12, 86, 87] (by decide +kernel) (by decide +kernel)
set_option maxRecDepth 20000 in
theorem gX5_change_X2_has : GoodIn wsX5_change (wsV RX5 136 RX2 yX2_has wsX2_has) := goodIn_app (goodIn_of _ (by decide +kernel)) ggX5_change_X2_has
set_option maxRecDepth 20000 in
theorem ggX5_change_X0_save : GoodIn wsX5_change wsX0_save := goodIn_r _ [17, 18, 19, 20, 21, 22, 23, 24, 25, 16, 26, 27, 28, 29, 30, 31, 32, 33, 34, 10, 35, 36, 37, 38, 39, 40, 41, 12, 42, 43, 44, 45, 46, 47, 48, 49, 50, 51, 52, 53, 54, 55, 56, 57, 58, 59, 60, 61, 62, 63, 64, 65, 66, 67, 68, 88, 89, 83, 84, 85, 86, 87] (by decide +kernel) (by decide +kernel)
set_option maxRecDepth 20000 in
theorem gX5_change_X0_save : GoodIn wsX5_change (wsV RX5 102 RX0 yX0_save wsX0_save) := goodIn_app (goodIn_of _ (by decide +kernel)) ggX5_change_X0_save
set_option maxRecDepth 20000 in
theorem ggX5_change_X2_at : GoodIn wsX5_change wsX2_at := goodIn_r _ [67, 12, 47, 86, 87] (by decide +kernel) (by decide +kernel)
set_option maxRecDepth 20000 in
theorem gX5_change_X2_at : GoodIn wsX5_change (wsV RX5 76 RX2 yX2_at wsX2_at) := goodIn_app (goodIn_of _ (by decide +kernel)) ggX5_change_X2_at
set_option maxRecDepth 20000 in
theorem ggX5_change_X2_put : GoodIn wsX5_change wsX2_put := goodIn_r _ [73, 12, 47, 86, 87] (by decide +kernel) (by decide +kernel)
set_option maxRecDepth 20000 in
theorem gX5_change_X2_put : GoodIn wsX5_change (wsV RX5 129 RX2 yX2_put wsX2_put) := goodIn_app (goodIn_of _ (by decide +kernel)) ggX5_change_X2_put
theorem dX5_change_0 : decode cX5_change 0 = .ok (.aload_n 0, 1) := by decide +kernel
theorem dX5_change_1 : decode cX5_change 1 = .ok (.getfield 10, 3) := by decide +kernel
theorem dX5_change_4 : decode cX5_change 4 = .ok (.getfield 113, 3) := by decide +kernel
theorem dX5_change_7 : decode cX5_change 7 = .ok (.iload_n 1, 1) := by decide +kernel
theorem dX5_change_8 : decode cX5_change 8 = .ok (.invokevirtual 136, 3) := by decide +kernel
theorem dX5_change_11 : decode cX5_change 11 = .ok (.ifCond .ne 13, 3) := by decide +kernel
theorem dX5_change_14 : decode cX5_change 14 = .ok (.new 124, 3) := by decide +kernel
theorem dX5_change_17 : decode cX5_change 17 = .ok (.dup, 1) := by decide +kernel
theorem dX5_change_18 : decode cX5_change 18 = .ok (.ldc 139, 2) := by decide +kernel
theorem dX5_change_20 : decode cX5_change 20 = .ok (.invokespecial 128, 3) := by decide +kernel
theorem dX5_change_23 : decode cX5_change 23 = .ok (.athrow, 1) := by decide +kernel
theorem dX5_change_24 : decode cX5_change 24 = .ok (.iload_n 2, 1) := by decide +kernel
theorem dX5_change_25 : decode cX5_change 25 = .ok (.iconst 1, 1) := by decide +kernel
theorem dX5_change_26 : decode cX5_change 26 = .ok (.if_icmp .lt 10, 3) := by decide +kernel
theorem dX5_change_29 : decode cX5_change 29 = .ok (.iload_n 2, 1) := by decide +kernel
theorem dX5_change_30 : decode cX5_change 30 = .ok (.sipush 999, 3) := by decide +kernel
theorem dX5_change_33 : decode cX5_change 33 = .ok (.if_icmp .le 13, 3) := by decide +kernel
theorem dX5_change_36 : decode cX5_change 36 = .ok (.new 66, 3) := by decide +kernel
theorem dX5_change_39 : decode cX5_change 39 = .ok (.dup, 1) := by decide +kernel
theorem dX5_change_40 : decode cX5_change 40 = .ok (.ldc 141, 2) := by decide +kernel
theorem dX5_change_42 : decode cX5_change 42 = .ok (.invokespecial 70, 3) := by decide +kernel
theorem dX5_change_45 : decode cX5_change 45 = .ok (.athrow, 1) := by decide +kernel
theorem dX5_change_46 : decode cX5_change 46 = .ok (.aload_n 0, 1) := by decide +kernel
theorem dX5_change_47 : decode cX5_change 47 = .ok (.getfield 23, 3) := by decide +kernel
theorem dX5_change_50 : decode cX5_change 50 = .ok (.aload_n 0, 1) := by decide +kernel
theorem dX5_change_51 : decode cX5_change 51 = .ok (.getfield 10, 3) := by decide +kernel
theorem dX5_change_54 : decode cX5_change 54 = .ok (.invokevirtual 102, 3) := by decide +kernel
theorem dX5_change_57 : decode cX5_change 57 = .ok (.aload_n 0, 1) := by decide +kernel
theorem dX5_change_58 : decode cX5_change 58 = .ok (.getfield 10, 3) := by decide +kernel
theorem dX5_change_61 : decode cX5_change 61 = .ok (.getfield 113, 3) := by decide +kernel
theorem dX5_change_64 : decode cX5_change 64 = .ok (.iload_n 1, 1) := by decide +kernel
theorem dX5_change_65 : decode cX5_change 65 = .ok (.invokevirtual 76, 3) := by decide +kernel
theorem dX5_change_68 : decode cX5_change 68 = .ok (.istore_n 3, 1) := by decide +kernel
theorem dX5_change_69 : decode cX5_change 69 = .ok (.aload_n 0, 1) := by decide +kernel
theorem dX5_change_70 : decode cX5_change 70 = .ok (.getfield 10, 3) := by decide +kernel
theorem dX5_change_73 : decode cX5_change 73 = .ok (.getfield 113, 3) := by decide +kernel
theorem dX5_change_76 : decode cX5_change 76 = .ok (.iload_n 1, 1) := by decide +kernel
theorem dX5_change_77 : decode cX5_change 77 = .ok (.iload_n 2, 1) := by decide +kernel
theorem dX5_change_78 : decode cX5_change 78 = .ok (.invokevirtual 129, 3) := by decide +kernel
theorem dX5_change_81 : decode cX5_change 81 = .ok (.iload_n 3, 1) := by decide +kernel
theorem dX5_change_82 : decode cX5_change 82 = .ok (.ireturn, 1) := by decide +kernel
set_option maxRecDepth 20000 in
theorem ggX5_set_X2_has : GoodIn wsX5_set wsX2_has := goodIn_r _ [13, 14, 92, 93] (by decide +kernel) (by decide +kernel)
set_option maxRecDepth 20000 in
theorem gX5_set_X2_has : GoodIn wsX5_set (wsV RX5 136 RX2 yX2_has wsX2_has) := goodIn_app (goodIn_of _ (by decide +kernel)) ggX5_set_X2_has
set_option maxRecDepth 20000 in
theorem ggX5_set_X5_entry : GoodIn wsX5_set wsX5_entry := goodIn_r _ [18] (by decide +kernel) (by decide +kernel)
set_option maxRecDepth 20000 in
theorem gX5_set_X5_entry : GoodIn wsX5_set (va_wsS RX5 157 yX5_entry wsX5_entry) := goodIn_app (goodIn_of _ (by decide +kernel)) ggX5_set_X5_entry
set_option maxRecDepth 20000 in
theorem ggX5_set_X0_save : GoodIn wsX5_set wsX0_save := goodIn_r _ [23, 24, 25, 26, 27, 28, 29, 30, 31, 22, 32, 33, 34, 35, 36, 37, 38, 39, 40, 12, 41, 42, 43, 44, 45, 46, 47, 14, 48, 49, 50, 51, 52, 53, 54, 55, 56, 57, 58, 59, 60, 61, 62, 63, 64, 65, 66, 67, 68, 69, 70, 71, 72, 73, 74, 94, 95, 89, 90, 91, 92, 93] (by decide +kernel) (by decide +kernel)
set_option maxRecDepth 20000 in
theorem gX5_set_X0_save : GoodIn wsX5_set (wsV RX5 102 RX0 yX0_save wsX0_save) := goodIn_app (goodIn_of _ (by decide +kernel)) ggX5_set_X0_save
set_option maxRecDepth 20000 in
theorem ggX5_set_X2_at : GoodIn wsX5_set wsX2_at := goodIn_r _ [73, 14, 53, 92, 93] (by decide +kernel) (by decide +kernel)
set_option maxRecDepth 20000 in
theorem gX5_set_X2_at : GoodIn wsX5_set (wsV RX5 76 RX2 yX2_at wsX2_at) := goodIn_app (goodIn_of _ (by decide +kernel)) ggX5_set_X2_at
set_option maxRecDepth 20000 in
theorem ggX5_set_X2_put : GoodIn wsX5_set wsX2_put := goodIn_r _ [79, 14, 53, 92, 93] (by decide +kernel) (by decide +kernel)
set_option maxRecDepth 20000 in
theorem gX5_set_X2_put : GoodIn wsX5_set (wsV RX5 129 RX2 yX2_put wsX2_put) := goodIn_app (goodIn_of _ (by decide +kernel)) ggX5_set_X2_put
theorem dX5_set_0 : decode cX5_set 0 = .ok (.aload_n 0, 1) := by decide +kernel
theorem dX5_set_1 : decode cX5_set 1 = .ok (.getfield 10, 3) := by decide +kernel
theorem dX5_set_4 : decode cX5_set 4 = .ok (.getfield 148, 3) := by decide +kernel
theorem dX5_set_7 : decode cX5_set 7 = .ok (.iload_n 1, 1) := by decide +kernel
theorem dX5_set_8 : decode cX5_set 8 = .ok (.invokevirtual 136, 3) := by decide +kernel
theorem dX5_set_11 : decode cX5_set 11 = .ok (.ifCond .ne 13, 3) := by decide +kernel
theorem dX5_set_14 : decode cX5_set 14 = .ok (.new 124, 3) := by decide +kernel
theorem dX5_set_17 : decode cX5_set 17 = .ok (.dup, 1) := by decide +kernel
theorem dX5_set_18 : decode cX5_set 18 = .ok (.ldc 151, 2) := by decide +kernel
theorem dX5_set_20 : decode cX5_set 20 = .ok (.invokespecial 128, 3) := by decide +kernel
theorem dX5_set_23 : decode cX5_set 23 = .ok (.athrow, 1) := by decide +kernel
theorem dX5_set_24 : decode cX5_set 24 = .ok (.iload_n 2, 1) := by decide +kernel
theorem dX5_set_25 : decode cX5_set 25 = .ok (.getstatic 153, 3) := by decide +kernel
theorem dX5_set_28 : decode cX5_set 28 = .ok (.iload_n 1, 1) := by decide +kernel
theorem dX5_set_29 : decode cX5_set 29 = .ok (.invokestatic 157, 3) := by decide +kernel
theorem dX5_set_32 : decode cX5_set 32 = .ok (.if_icmp .lt 14, 3) := by decide +kernel
theorem dX5_set_35 : decode cX5_set 35 = .ok (.iload_n 2, 1) := by decide +kernel
theorem dX5_set_36 : decode cX5_set 36 = .ok (.getstatic 161, 3) := by decide +kernel
theorem dX5_set_39 : decode cX5_set 39 = .ok (.iload_n 1, 1) := by decide +kernel
theorem dX5_set_40 : decode cX5_set 40 = .ok (.invokestatic 157, 3) := by decide +kernel
theorem dX5_set_43 : decode cX5_set 43 = .ok (.if_icmp .le 13, 3) := by decide +kernel
theorem dX5_set_46 : decode cX5_set 46 = .ok (.new 66, 3) := by decide +kernel
theorem dX5_set_49 : decode cX5_set 49 = .ok (.dup, 1) := by decide +kernel
theorem dX5_set_50 : decode cX5_set 50 = .ok (.ldc 164, 2) := by decide +kernel
theorem dX5_set_52 : decode cX5_set 52 = .ok (.invokespecial 70, 3) := by decide +kernel
theorem dX5_set_55 : decode cX5_set 55 = .ok (.athrow, 1) := by decide +kernel
theorem dX5_set_56 : decode cX5_set 56 = .ok (.aload_n 0, 1) := by decide +kernel
theorem dX5_set_57 : decode cX5_set 57 = .ok (.getfield 23, 3) := by decide +kernel
theorem dX5_set_60 : decode cX5_set 60 = .ok (.aload_n 0, 1) := by decide +kernel
theorem dX5_set_61 : decode cX5_set 61 = .ok (.getfield 10, 3) := by decide +kernel
theorem dX5_set_64 : decode cX5_set 64 = .ok (.invokevirtual 102, 3) := by decide +kernel
theorem dX5_set_67 : decode cX5_set 67 = .ok (.aload_n 0, 1) := by decide +kernel
theorem dX5_set_68 : decode cX5_set 68 = .ok (.getfield 10, 3) := by decide +kernel
theorem dX5_set_71 : decode cX5_set 71 = .ok (.getfield 148, 3) := by decide +kernel
theorem dX5_set_74 : decode cX5_set 74 = .ok (.iload_n 1, 1) := by decide +kernel
theorem dX5_set_75 : decode cX5_set 75 = .ok (.invokevirtual 76, 3) := by decide +kernel
theorem dX5_set_78 : decode cX5_set 78 = .ok (.istore_n 3, 1) := by decide +kernel
theorem dX5_set_79 : decode cX5_set 79 = .ok (.aload_n 0, 1) := by decide +kernel
theorem dX5_set_80 : decode cX5_set 80 = .ok (.getfield 10, 3) := by decide +kernel
theorem dX5_set_83 : decode cX5_set 83 = .ok (.getfield 148, 3) := by decide +kernel
theorem dX5_set_86 : decode cX5_set 86 = .ok (.iload_n 1, 1) := by decide +kernel
theorem dX5_set_87 : decode cX5_set 87 = .ok (.iload_n 2, 1) := by decide +kernel
theorem dX5_set_88 : decode cX5_set 88 = .ok (.invokevirtual 129, 3) := by decide +kernel
theorem dX5_set_91 : decode cX5_set 91 = .ok (.iload_n 3, 1) := by decide +kernel
theorem dX5_set_92 : decode cX5_set 92 = .ok (.ireturn, 1) := by decide +kernel
set_option maxRecDepth 20000 in
theorem ggX5_append_X2_size : GoodIn wsX5_append wsX2_size := goodIn_r _ [10, 11, 26, 27] (by decide +kernel) (by decide +kernel)
set_option maxRecDepth 20000 in
theorem gX5_append_X2_size : GoodIn wsX5_append (wsV RX5 59 RX2 yX2_size wsX2_size) := goodIn_app (goodIn_of _ (by decide +kernel)) ggX5_append_X2_size
set_option maxRecDepth 20000 in
theorem ggX5_append_X2_add : GoodIn wsX5_append wsX2_add := goodIn_r _ [15, 11, 16, 26, 27] (by decide +kernel) (by decide +kernel)
set_option maxRecDepth 20000 in
theorem gX5_append_X2_add : GoodIn wsX5_append (wsV RX5 83 RX2 yX2_add wsX2_add) := goodIn_app (goodIn_of _ (by decide +kernel)) ggX5_append_X2_add
theorem dX5_append_0 : decode cX5_append 0 = .ok (.iload_n 1, 1) := by decide +kernel
theorem dX5_append_1 : decode cX5_append 1 = .ok (.bipush 33, 2) := by decide +kernel
theorem dX5_append_3 : decode cX5_append 3 = .ok (.if_icmp .lt 9, 3) := by decide +kernel
theorem dX5_append_6 : decode cX5_append 6 = .ok (.iload_n 1, 1) := by decide +kernel
theorem dX5_append_7 : decode cX5_append 7 = .ok (.bipush 126, 2) := by decide +kernel
theorem dX5_append_9 : decode cX5_append 9 = .ok (.if_icmp .le 13, 3) := by decide +kernel
theorem dX5_append_12 : decode cX5_append 12 = .ok (.new 66, 3) := by decide +kernel
theorem dX5_append_15 : decode cX5_append 15 = .ok (.dup, 1) := by decide +kernel
theorem dX5_append_16 : decode cX5_append 16 = .ok (.ldc 166, 2) := by decide +kernel
theorem dX5_append_18 : decode cX5_append 18 = .ok (.invokespecial 70, 3) := by decide +kernel
theorem dX5_append_21 : decode cX5_append 21 = .ok (.athrow, 1) := by decide +kernel
theorem dX5_append_22 : decode cX5_append 22 = .ok (.aload_n 0, 1) := by decide +kernel
theorem dX5_append_23 : decode cX5_append 23 = .ok (.getfield 32, 3) := by decide +kernel
theorem dX5_append_26 : decode cX5_append 26 = .ok (.invokevirtual 59, 3) := by decide +kernel
theorem dX5_append_29 : decode cX5_append 29 = .ok (.bipush 40, 2) := by decide +kernel
theorem dX5_append_31 : decode cX5_append 31 = .ok (.if_icmp .lt 13, 3) := by decide +kernel
theorem dX5_append_34 : decode cX5_append 34 = .ok (.new 97, 3) := by decide +kernel
theorem dX5_append_37 : decode cX5_append 37 = .ok (.dup, 1) := by decide +kernel
theorem dX5_append_38 : decode cX5_append 38 = .ok (.ldc 168, 2) := by decide +kernel
theorem dX5_append_40 : decode cX5_append 40 = .ok (.invokespecial 101, 3) := by decide +kernel
theorem dX5_append_43 : decode cX5_append 43 = .ok (.athrow, 1) := by decide +kernel
theorem dX5_append_44 : decode cX5_append 44 = .ok (.aload_n 0, 1) := by decide +kernel
theorem dX5_append_45 : decode cX5_append 45 = .ok (.getfield 32, 3) := by decide +kernel
theorem dX5_append_48 : decode cX5_append 48 = .ok (.iload_n 1, 1) := by decide +kernel
theorem dX5_append_49 : decode cX5_append 49 = .ok (.invokevirtual 83, 3) := by decide +kernel
theorem dX5_append_52 : decode cX5_append 52 = .ok (.pop, 1) := by decide +kernel
theorem dX5_append_53 : decode cX5_append 53 = .ok (.aload_n 0, 1) := by decide +kernel
theorem dX5_append_54 : decode cX5_append 54 = .ok (.getfield 32, 3) := by decide +kernel
theorem dX5_append_57 : decode cX5_append 57 = .ok (.invokevirtual 59, 3) := by decide +kernel
theorem dX5_append_60 : decode cX5_append 60 = .ok (.ireturn, 1) := by decide +kernel
set_option maxRecDepth 20000 in
theorem ggX5_clearBuffer_X2_size : GoodIn wsX5_clearBuffer wsX2_size := goodIn_r _ [6, 7, 21, 22] (by decide +kernel) (by decide +kernel)
set_option maxRecDepth 20000 in
theorem gX5_clearBuffer_X2_size : GoodIn wsX5_clearBuffer (wsV RX5 59 RX2 yX2_size wsX2_size) := goodIn_app (goodIn_of _ (by decide +kernel)) ggX5_clearBuffer_X2_size
set_option maxRecDepth 20000 in
theorem ggX5_clearBuffer_X2_empty : GoodIn wsX5_clearBuffer wsX2_empty := goodIn_r _ [11, 7, 21, 22] (by decide +kernel) (by decide +kernel)
set_option maxRecDepth 20000 in
theorem gX5_clearBuffer_X2_empty : GoodIn wsX5_clearBuffer (wsV RX5 73 RX2 yX2_empty wsX2_empty) := goodIn_app (goodIn_of _ (by decide +kernel)) ggX5_clearBuffer_X2_empty
theorem dX5_clearBuffer_0 : decode cX5_clearBuffer 0 = .ok (.aload_n 0, 1) := by decide +kernel
theorem dX5_clearBuffer_1 : decode cX5_clearBuffer 1 = .ok (.getfield 32, 3) := by decide +kernel
theorem dX5_clearBuffer_4 : decode cX5_clearBuffer 4 = .ok (.invokevirtual 59, 3) := by decide +kernel
theorem dX5_clearBuffer_7 : decode cX5_clearBuffer 7 = .ok (.istore_n 1, 1) := by decide +kernel
theorem dX5_clearBuffer_8 : decode cX5_clearBuffer 8 = .ok (.aload_n 0, 1) := by decide +kernel
theorem dX5_clearBuffer_9 : decode cX5_clearBuffer 9 = .ok (.getfield 32, 3) := by decide +kernel
theorem dX5_clearBuffer_12 : decode cX5_clearBuffer 12 = .ok (.invokevirtual 73, 3) := by decide +kernel
theorem dX5_clearBuffer_15 : decode cX5_clearBuffer 15 = .ok (.iload_n 1, 1) := by decide +kernel
theorem dX5_clearBuffer_16 : decode cX5_clearBuffer 16 = .ok (.ireturn, 1) := by decide +kernel
set_option maxRecDepth 20000 in
theorem ggX5_keep_X3_init : GoodIn wsX5_keep wsX3_init := goodIn_r _ [10, 11, 12, 13, 14, 15, 16, 17, 18, 19, 20, 21, 22, 23, 24, 25, 26, 27, 28, 29, 30, 31, 32, 33, 34, 65, 66, 62, 63, 64] (by decide +kernel) (by decide +kernel)
set_option maxRecDepth 20000 in
theorem gX5_keep_X3_init : GoodIn wsX5_keep (wsX3_init) := ggX5_keep_X3_init
set_option maxRecDepth 20000 in
theorem ggX5_keep_X3_copyFrom : GoodIn wsX5_keep wsX3_copyFrom := goodIn_r _ [38, 17, 18, 19, 39, 40, 41, 16, 42, 24, 43, 44, 45, 46, 47, 48, 49, 50, 30, 51, 32, 33, 34, 62, 63, 64, 65, 66] (by decide +kernel) (by decide +kernel)
set_option maxRecDepth 20000 in
theorem gX5_keep_X3_copyFrom : GoodIn wsX5_keep (wsV RX5 172 RX3 yX3_copyFrom wsX3_copyFrom) := goodIn_app (goodIn_of _ (by decide +kernel)) ggX5_keep_X3_copyFrom
set_option maxRecDepth 20000 in
theorem ggX5_keep_X2_size : GoodIn wsX5_keep wsX2_size := goodIn_r _ [46, 24, 65, 66] (by decide +kernel) (by decide +kernel)
set_option maxRecDepth 20000 in
theorem gX5_keep_X2_size : GoodIn wsX5_keep (wsV RX5 59 RX2 yX2_size wsX2_size) := goodIn_app (goodIn_of _ (by decide +kernel)) ggX5_keep_X2_size
theorem dX5_keep_0 : decode cX5_keep 0 = .ok (.iload_n 1, 1) := by decide +kernel
theorem dX5_keep_1 : decode cX5_keep 1 = .ok (.ifCond .lt 12, 3) := by decide +kernel
theorem dX5_keep_4 : decode cX5_keep 4 = .ok (.iload_n 1, 1) := by decide +kernel
theorem dX5_keep_5 : decode cX5_keep 5 = .ok (.aload_n 0, 1) := by decide +kernel
theorem dX5_keep_6 : decode cX5_keep 6 = .ok (.getfield 16, 3) := by decide +kernel
theorem dX5_keep_9 : decode cX5_keep 9 = .ok (.arraylength, 1) := by decide +kernel
theorem dX5_keep_10 : decode cX5_keep 10 = .ok (.if_icmp .lt 13, 3) := by decide +kernel
theorem dX5_keep_13 : decode cX5_keep 13 = .ok (.new 66, 3) := by decide +kernel
theorem dX5_keep_16 : decode cX5_keep 16 = .ok (.dup, 1) := by decide +kernel
theorem dX5_keep_17 : decode cX5_keep 17 = .ok (.ldc 170, 2) := by decide +kernel
theorem dX5_keep_19 : decode cX5_keep 19 = .ok (.invokespecial 70, 3) := by decide +kernel
theorem dX5_keep_22 : decode cX5_keep 22 = .ok (.athrow, 1) := by decide +kernel
theorem dX5_keep_23 : decode cX5_keep 23 = .ok (.aload_n 0, 1) := by decide +kernel
theorem dX5_keep_24 : decode cX5_keep 24 = .ok (.getfield 16, 3) := by decide +kernel
theorem dX5_keep_27 : decode cX5_keep 27 = .ok (.iload_n 1, 1) := by decide +kernel
theorem dX5_keep_28 : decode cX5_keep 28 = .ok (.aaload, 1) := by decide +kernel
theorem dX5_keep_29 : decode cX5_keep 29 = .ok (.astore_n 2, 1) := by decide +kernel
theorem dX5_keep_30 : decode cX5_keep 30 = .ok (.aload_n 2, 1) := by decide +kernel
theorem dX5_keep_31 : decode cX5_keep 31 = .ok (.ifnonnull 18, 3) := by decide +kernel
theorem dX5_keep_34 : decode cX5_keep 34 = .ok (.new 7, 3) := by decide +kernel
theorem dX5_keep_37 : decode cX5_keep 37 = .ok (.dup, 1) := by decide +kernel
theorem dX5_keep_38 : decode cX5_keep 38 = .ok (.invokespecial 9, 3) := by decide +kernel
theorem dX5_keep_41 : decode cX5_keep 41 = .ok (.astore_n 2, 1) := by decide +kernel
theorem dX5_keep_42 : decode cX5_keep 42 = .ok (.aload_n 0, 1) := by decide +kernel
theorem dX5_keep_43 : decode cX5_keep 43 = .ok (.getfield 16, 3) := by decide +kernel
theorem dX5_keep_46 : decode cX5_keep 46 = .ok (.iload_n 1, 1) := by decide +kernel
theorem dX5_keep_47 : decode cX5_keep 47 = .ok (.aload_n 2, 1) := by decide +kernel
theorem dX5_keep_48 : decode cX5_keep 48 = .ok (.aastore, 1) := by decide +kernel
theorem dX5_keep_49 : decode cX5_keep 49 = .ok (.aload_n 2, 1) := by decide +kernel
theorem dX5_keep_50 : decode cX5_keep 50 = .ok (.aload_n 0, 1) := by decide +kernel
theorem dX5_keep_51 : decode cX5_keep 51 = .ok (.getfield 10, 3) := by decide +kernel
theorem dX5_keep_54 : decode cX5_keep 54 = .ok (.invokevirtual 172, 3) := by decide +kernel
theorem dX5_keep_57 : decode cX5_keep 57 = .ok (.aload_n 0, 1) := by decide +kernel
theorem dX5_keep_58 : decode cX5_keep 58 = .ok (.getfield 10, 3) := by decide +kernel
theorem dX5_keep_61 : decode cX5_keep 61 = .ok (.getfield 113, 3) := by decide +kernel
theorem dX5_keep_64 : decode cX5_keep 64 = .ok (.invokevirtual 59, 3) := by decide +kernel
theorem dX5_keep_67 : decode cX5_keep 67 = .ok (.ireturn, 1) := by decide +kernel
set_option maxRecDepth 20000 in
theorem ggX5_goBack_X0_save : GoodIn wsX5_goBack wsX0_save := goodIn_r _ [12, 13, 14, 15, 16, 17, 18, 19, 20, 11, 21, 22, 23, 24, 25, 26, 27, 28, 29, 30, 31, 32, 33, 34, 35, 36, 37, 38, 39, 40, 41, 42, 43, 44, 45, 46, 47, 48, 49, 50, 51, 52, 53, 54, 55, 56, 57, 58, 59, 60, 61, 62, 63, 64, 65, 80, 81, 77, 78, 79, 82, 83] (by decide +kernel) (by decide +kernel)
set_option maxRecDepth 20000 in
theorem gX5_goBack_X0_save : GoodIn wsX5_goBack (wsV RX5 102 RX0 yX0_save wsX0_save) := goodIn_app (goodIn_of _ (by decide +kernel)) ggX5_goBack_X0_save
set_option maxRecDepth 20000 in
theorem ggX5_goBack_X3_copyFrom : GoodIn wsX5_goBack wsX3_copyFrom := goodIn_r _ [52, 31, 32, 33, 53, 54, 55, 30, 56, 38, 57, 58, 59, 60, 61, 62, 63, 64, 44, 65, 46, 47, 48, 77, 78, 79, 82, 83] (by decide +kernel) (by decide +kernel)
set_option maxRecDepth 20000 in
theorem gX5_goBack_X3_copyFrom : GoodIn wsX5_goBack (wsV RX5 172 RX3 yX3_copyFrom wsX3_copyFrom) := goodIn_app (goodIn_of _ (by decide +kernel)) ggX5_goBack_X3_copyFrom
set_option maxRecDepth 20000 in
theorem ggX5_goBack_X2_size : GoodIn wsX5_goBack wsX2_size := goodIn_r _ [60, 38, 82, 83] (by decide +kernel) (by decide +kernel)
set_option maxRecDepth 20000 in
theorem gX5_goBack_X2_size : GoodIn wsX5_goBack (wsV RX5 59 RX2 yX2_size wsX2_size) := goodIn_app (goodIn_of _ (by decide +kernel)) ggX5_goBack_X2_size
theorem dX5_goBack_0 : decode cX5_goBack 0 = .ok (.iload_n 1, 1) := by decide +kernel
theorem dX5_goBack_1 : decode cX5_goBack 1 = .ok (.ifCond .lt 12, 3) := by decide +kernel
theorem dX5_goBack_4 : decode cX5_goBack 4 = .ok (.iload_n 1, 1) := by decide +kernel
theorem dX5_goBack_5 : decode cX5_goBack 5 = .ok (.aload_n 0, 1) := by decide +kernel
theorem dX5_goBack_6 : decode cX5_goBack 6 = .ok (.getfield 16, 3) := by decide +kernel
theorem dX5_goBack_9 : decode cX5_goBack 9 = .ok (.arraylength, 1) := by decide +kernel
theorem dX5_goBack_10 : decode cX5_goBack 10 = .ok (.if_icmp .lt 13, 3) := by decide +kernel
theorem dX5_goBack_13 : decode cX5_goBack 13 = .ok (.new 66, 3) := by decide +kernel
theorem dX5_goBack_16 : decode cX5_goBack 16 = .ok (.dup, 1) := by decide +kernel
theorem dX5_goBack_17 : decode cX5_goBack 17 = .ok (.ldc 170, 2) := by decide +kernel
theorem dX5_goBack_19 : decode cX5_goBack 19 = .ok (.invokespecial 70, 3) := by decide +kernel
theorem dX5_goBack_22 : decode cX5_goBack 22 = .ok (.athrow, 1) := by decide +kernel
theorem dX5_goBack_23 : decode cX5_goBack 23 = .ok (.aload_n 0, 1) := by decide +kernel
theorem dX5_goBack_24 : decode cX5_goBack 24 = .ok (.getfield 16, 3) := by decide +kernel
theorem dX5_goBack_27 : decode cX5_goBack 27 = .ok (.iload_n 1, 1) := by decide +kernel
theorem dX5_goBack_28 : decode cX5_goBack 28 = .ok (.aaload, 1) := by decide +kernel
theorem dX5_goBack_29 : decode cX5_goBack 29 = .ok (.astore_n 2, 1) := by decide +kernel
theorem dX5_goBack_30 : decode cX5_goBack 30 = .ok (.aload_n 2, 1) := by decide +kernel
theorem dX5_goBack_31 : decode cX5_goBack 31 = .ok (.ifnonnull 13, 3) := by decide +kernel
theorem dX5_goBack_34 : decode cX5_goBack 34 = .ok (.new 97, 3) := by decide +kernel
theorem dX5_goBack_37 : decode cX5_goBack 37 = .ok (.dup, 1) := by decide +kernel
theorem dX5_goBack_38 : decode cX5_goBack 38 = .ok (.ldc 174, 2) := by decide +kernel
theorem dX5_goBack_40 : decode cX5_goBack 40 = .ok (.invokespecial 101, 3) := by decide +kernel
theorem dX5_goBack_43 : decode cX5_goBack 43 = .ok (.athrow, 1) := by decide +kernel
theorem dX5_goBack_44 : decode cX5_goBack 44 = .ok (.aload_n 0, 1) := by decide +kernel
theorem dX5_goBack_45 : decode cX5_goBack 45 = .ok (.getfield 23, 3) := by decide +kernel
theorem dX5_goBack_48 : decode cX5_goBack 48 = .ok (.aload_n 0, 1) := by decide +kernel
theorem dX5_goBack_49 : decode cX5_goBack 49 = .ok (.getfield 10, 3) := by decide +kernel
theorem dX5_goBack_52 : decode cX5_goBack 52 = .ok (.invokevirtual 102, 3) := by decide +kernel
theorem dX5_goBack_55 : decode cX5_goBack 55 = .ok (.aload_n 0, 1) := by decide +kernel
theorem dX5_goBack_56 : decode cX5_goBack 56 = .ok (.getfield 10, 3) := by decide +kernel
theorem dX5_goBack_59 : decode cX5_goBack 59 = .ok (.aload_n 2, 1) := by decide +kernel
theorem dX5_goBack_60 : decode cX5_goBack 60 = .ok (.invokevirtual 172, 3) := by decide +kernel
theorem dX5_goBack_63 : decode cX5_goBack 63 = .ok (.aload_n 0, 1) := by decide +kernel
theorem dX5_goBack_64 : decode cX5_goBack 64 = .ok (.getfield 10, 3) := by decide +kernel
theorem dX5_goBack_67 : decode cX5_goBack 67 = .ok (.getfield 113, 3) := by decide +kernel
theorem dX5_goBack_70 : decode cX5_goBack 70 = .ok (.invokevirtual 59, 3) := by decide +kernel
theorem dX5_goBack_73 : decode cX5_goBack 73 = .ok (.ireturn, 1) := by decide +kernel
set_option maxRecDepth 20000 in
theorem ggX5_undo_X0_takeLatest : GoodIn wsX5_undo wsX0_takeLatest := goodIn_r _ [9, 10, 11, 52, 53] (by decide +kernel) (by decide +kernel)
set_option maxRecDepth 20000 in
theorem gX5_undo_X0_takeLatest : GoodIn wsX5_undo (wsV RX5 176 RX0 yX0_takeLatest wsX0_takeLatest) := goodIn_app (goodIn_of _ (by decide +kernel)) ggX5_undo_X0_takeLatest
set_option maxRecDepth 20000 in
theorem ggX5_undo_X3_copyFrom : GoodIn wsX5_undo wsX3_copyFrom := goodIn_r _ [16, 17, 18, 19, 20, 21, 22, 23, 24, 25, 26, 27, 28, 29, 30, 31, 32, 33, 34, 35, 36, 37, 38, 54, 55, 56, 57, 58] (by decide +kernel) (by decide +kernel)
set_option maxRecDepth 20000 in
theorem gX5_undo_X3_copyFrom : GoodIn wsX5_undo (wsV RX5 172 RX3 yX3_copyFrom wsX3_copyFrom) := goodIn_app (goodIn_of _ (by decide +kernel)) ggX5_undo_X3_copyFrom
set_option maxRecDepth 20000 in
theorem ggX5_undo_X0_depth : GoodIn wsX5_undo wsX0_depth := goodIn_r _ [42, 10, 52, 53] (by decide +kernel) (by decide +kernel)
set_option maxRecDepth 20000 in
theorem gX5_undo_X0_depth : GoodIn wsX5_undo (wsV RX5 182 RX0 yX0_depth wsX0_depth) := goodIn_app (goodIn_of _ (by decide +kernel)) ggX5_undo_X0_depth
theorem dX5_undo_0 : decode cX5_undo 0 = .ok (.aload_n 0, 1) := by decide +kernel
theorem dX5_undo_1 : decode cX5_undo 1 = .ok (.getfield 23, 3) := by decide +kernel
theorem dX5_undo_4 : decode cX5_undo 4 = .ok (.invokevirtual 176, 3) := by decide +kernel
theorem dX5_undo_7 : decode cX5_undo 7 = .ok (.astore_n 1, 1) := by decide +kernel
theorem dX5_undo_8 : decode cX5_undo 8 = .ok (.aload_n 1, 1) := by decide +kernel
theorem dX5_undo_9 : decode cX5_undo 9 = .ok (.ifnonnull 13, 3) := by decide +kernel
theorem dX5_undo_12 : decode cX5_undo 12 = .ok (.new 97, 3) := by decide +kernel
theorem dX5_undo_15 : decode cX5_undo 15 = .ok (.dup, 1) := by decide +kernel
theorem dX5_undo_16 : decode cX5_undo 16 = .ok (.ldc 180, 2) := by decide +kernel
theorem dX5_undo_18 : decode cX5_undo 18 = .ok (.invokespecial 101, 3) := by decide +kernel
theorem dX5_undo_21 : decode cX5_undo 21 = .ok (.athrow, 1) := by decide +kernel
theorem dX5_undo_22 : decode cX5_undo 22 = .ok (.aload_n 0, 1) := by decide +kernel
theorem dX5_undo_23 : decode cX5_undo 23 = .ok (.getfield 10, 3) := by decide +kernel
theorem dX5_undo_26 : decode cX5_undo 26 = .ok (.aload_n 1, 1) := by decide +kernel
theorem dX5_undo_27 : decode cX5_undo 27 = .ok (.invokevirtual 172, 3) := by decide +kernel
theorem dX5_undo_30 : decode cX5_undo 30 = .ok (.aload_n 0, 1) := by decide +kernel
theorem dX5_undo_31 : decode cX5_undo 31 = .ok (.getfield 23, 3) := by decide +kernel
theorem dX5_undo_34 : decode cX5_undo 34 = .ok (.invokevirtual 182, 3) := by decide +kernel
theorem dX5_undo_37 : decode cX5_undo 37 = .ok (.ireturn, 1) := by decide +kernel
set_option maxRecDepth 20000 in
theorem ggX5_time_X2_at : GoodIn wsX5_time wsX2_at := goodIn_r _ [8, 9, 10, 23, 24] (by decide +kernel) (by decide +kernel)
set_option maxRecDepth 20000 in
theorem gX5_time_X2_at : GoodIn wsX5_time (wsV RX5 76 RX2 yX2_at wsX2_at) := goodIn_app (goodIn_of _ (by decide +kernel)) ggX5_time_X2_at
theorem dX5_time_0 : decode cX5_time 0 = .ok (.iload_n 1, 1) := by decide +kernel
theorem dX5_time_1 : decode cX5_time 1 = .ok (.ifCond .ge 13, 3) := by decide +kernel
theorem dX5_time_4 : decode cX5_time 4 = .ok (.new 66, 3) := by decide +kernel
theorem dX5_time_7 : decode cX5_time 7 = .ok (.dup, 1) := by decide +kernel
theorem dX5_time_8 : decode cX5_time 8 = .ok (.ldc 185, 2) := by decide +kernel
theorem dX5_time_10 : decode cX5_time 10 = .ok (.invokespecial 70, 3) := by decide +kernel
theorem dX5_time_13 : decode cX5_time 13 = .ok (.athrow, 1) := by decide +kernel
theorem dX5_time_14 : decode cX5_time 14 = .ok (.aload_n 0, 1) := by decide +kernel
theorem dX5_time_15 : decode cX5_time 15 = .ok (.getfield 10, 3) := by decide +kernel
theorem dX5_time_18 : decode cX5_time 18 = .ok (.getfield 113, 3) := by decide +kernel
theorem dX5_time_21 : decode cX5_time 21 = .ok (.iload_n 1, 1) := by decide +kernel
theorem dX5_time_22 : decode cX5_time 22 = .ok (.invokevirtual 76, 3) := by decide +kernel
theorem dX5_time_25 : decode cX5_time 25 = .ok (.ireturn, 1) := by decide +kernel
set_option maxRecDepth 20000 in
theorem ggX5_written_X2_at : GoodIn wsX5_written wsX2_at := goodIn_r _ [8, 9, 10, 23, 24] (by decide +kernel) (by decide +kernel)
set_option maxRecDepth 20000 in
theorem gX5_written_X2_at : GoodIn wsX5_written (wsV RX5 76 RX2 yX2_at wsX2_at) := goodIn_app (goodIn_of _ (by decide +kernel)) ggX5_written_X2_at
theorem dX5_written_0 : decode cX5_written 0 = .ok (.iload_n 1, 1) := by decide +kernel
theorem dX5_written_1 : decode cX5_written 1 = .ok (.ifCond .ge 13, 3) := by decide +kernel
theorem dX5_written_4 : decode cX5_written 4 = .ok (.new 66, 3) := by decide +kernel
theorem dX5_written_7 : decode cX5_written 7 = .ok (.dup, 1) := by decide +kernel
theorem dX5_written_8 : decode cX5_written 8 = .ok (.ldc 185, 2) := by decide +kernel
theorem dX5_written_10 : decode cX5_written 10 = .ok (.invokespecial 70, 3) := by decide +kernel
theorem dX5_written_13 : decode cX5_written 13 = .ok (.athrow, 1) := by decide +kernel
theorem dX5_written_14 : decode cX5_written 14 = .ok (.aload_n 0, 1) := by decide +kernel
theorem dX5_written_15 : decode cX5_written 15 = .ok (.getfield 10, 3) := by decide +kernel
theorem dX5_written_18 : decode cX5_written 18 = .ok (.getfield 106, 3) := by decide +kernel
theorem dX5_written_21 : decode cX5_written 21 = .ok (.iload_n 1, 1) := by decide +kernel
theorem dX5_written_22 : decode cX5_written 22 = .ok (.invokevirtual 76, 3) := by decide +kernel
theorem dX5_written_25 : decode cX5_written 25 = .ok (.ireturn, 1) := by decide +kernel
set_option maxRecDepth 20000 in
theorem ggX5_reads_X5_readRow : GoodIn wsX5_reads wsX5_readRow := goodIn_r _ [8, 3, 9, 10, 11, 12, 7, 13, 14, 15, 16, 17, 18, 19, 20, 21, 22, 23, 24, 25, 26, 27, 28, 29, 30, 31, 32, 33, 34, 35, 36, 37, 38, 39, 40, 41, 42, 43, 44, 45, 46, 47, 48, 49, 50, 51, 52, 53, 54, 55, 56, 57, 58, 59, 60, 61, 62, 63, 64, 65, 66, 67, 68, 69, 70, 71, 72, 73, 74, 75, 76, 77, 78, 79, 80, 81, 82, 83, 84, 85, 86, 87, 88, 93, 94, 95, 96, 97, 98, 99, 100, 101, 102, 103, 104, 105, 106, 107, 108, 109, 110, 111] (by decide +kernel) (by decide +kernel)
set_option maxRecDepth 20000 in
theorem gX5_reads_X5_readRow : GoodIn wsX5_reads (wsV RX5 189 RX5 yX5_readRow wsX5_readRow) := goodIn_app (goodIn_of _ (by decide +kernel)) ggX5_reads_X5_readRow
set_option maxRecDepth 20000 in
theorem ggX5_reads_X1_told : GoodIn wsX5_reads wsX1_told := goodIn_r _ [92, 28, 48, 27, 65, 26, 36, 37, 38, 17, 39, 19, 107, 108, 109, 110, 111, 105, 106] (by decide +kernel) (by decide +kernel)
set_option maxRecDepth 20000 in
theorem gX5_reads_X1_told : GoodIn wsX5_reads (wsV RX5 193 RX1 yX1_told wsX1_told) := goodIn_app (goodIn_of _ (by decide +kernel)) ggX5_reads_X1_told
theorem dX5_reads_0 : decode cX5_reads 0 = .ok (.iload_n 2, 1) := by decide +kernel
theorem dX5_reads_1 : decode cX5_reads 1 = .ok (.ifCond .lt 8, 3) := by decide +kernel
theorem dX5_reads_4 : decode cX5_reads 4 = .ok (.iload_n 2, 1) := by decide +kernel
theorem dX5_reads_5 : decode cX5_reads 5 = .ok (.iconst 4, 1) := by decide +kernel
theorem dX5_reads_6 : decode cX5_reads 6 = .ok (.if_icmp .le 13, 3) := by decide +kernel
theorem dX5_reads_9 : decode cX5_reads 9 = .ok (.new 66, 3) := by decide +kernel
theorem dX5_reads_12 : decode cX5_reads 12 = .ok (.dup, 1) := by decide +kernel
theorem dX5_reads_13 : decode cX5_reads 13 = .ok (.ldc 187, 2) := by decide +kernel
theorem dX5_reads_15 : decode cX5_reads 15 = .ok (.invokespecial 70, 3) := by decide +kernel
theorem dX5_reads_18 : decode cX5_reads 18 = .ok (.athrow, 1) := by decide +kernel
theorem dX5_reads_19 : decode cX5_reads 19 = .ok (.aload_n 0, 1) := by decide +kernel
theorem dX5_reads_20 : decode cX5_reads 20 = .ok (.iload_n 1, 1) := by decide +kernel
theorem dX5_reads_21 : decode cX5_reads 21 = .ok (.invokevirtual 189, 3) := by decide +kernel
theorem dX5_reads_24 : decode cX5_reads 24 = .ok (.aload_n 0, 1) := by decide +kernel
theorem dX5_reads_25 : decode cX5_reads 25 = .ok (.getfield 39, 3) := by decide +kernel
theorem dX5_reads_28 : decode cX5_reads 28 = .ok (.iload_n 2, 1) := by decide +kernel
theorem dX5_reads_29 : decode cX5_reads 29 = .ok (.invokevirtual 193, 3) := by decide +kernel
theorem dX5_reads_32 : decode cX5_reads 32 = .ok (.ireturn, 1) := by decide +kernel
set_option maxRecDepth 20000 in
theorem ggX5_bit_X5_readRow : GoodIn wsX5_bit wsX5_readRow := goodIn_r _ [8, 3, 9, 10, 11, 12, 7, 13, 14, 15, 16, 17, 18, 19, 20, 21, 22, 23, 24, 25, 26, 27, 28, 29, 30, 31, 32, 33, 34, 35, 36, 37, 38, 39, 40, 41, 42, 43, 44, 45, 46, 47, 48, 49, 50, 51, 52, 53, 54, 55, 56, 57, 58, 59, 60, 61, 62, 63, 64, 65, 66, 67, 68, 69, 70, 71, 72, 73, 74, 75, 76, 77, 78, 79, 80, 81, 82, 83, 84, 85, 86, 87, 88, 89, 90, 91, 92, 93, 94, 95, 96, 97, 103, 104, 105, 106, 107, 98, 99, 100, 101, 102] (by decide +kernel) (by decide +kernel)
set_option maxRecDepth 20000 in
theorem gX5_bit_X5_readRow : GoodIn wsX5_bit (wsV RX5 189 RX5 yX5_readRow wsX5_readRow) := goodIn_app (goodIn_of _ (by decide +kernel)) ggX5_bit_X5_readRow
set_option maxRecDepth 20000 in
theorem ggX5_bit_X2_at : GoodIn wsX5_bit wsX2_at := goodIn_r _ [18, 19, 20, 106, 107] (by decide +kernel) (by decide +kernel)
set_option maxRecDepth 20000 in
theorem gX5_bit_X2_at : GoodIn wsX5_bit (wsV RX5 76 RX2 yX2_at wsX2_at) := goodIn_app (goodIn_of _ (by decide +kernel)) ggX5_bit_X2_at
theorem dX5_bit_0 : decode cX5_bit 0 = .ok (.iload_n 2, 1) := by decide +kernel
theorem dX5_bit_1 : decode cX5_bit 1 = .ok (.ifCond .ge 13, 3) := by decide +kernel
theorem dX5_bit_4 : decode cX5_bit 4 = .ok (.new 66, 3) := by decide +kernel
theorem dX5_bit_7 : decode cX5_bit 7 = .ok (.dup, 1) := by decide +kernel
theorem dX5_bit_8 : decode cX5_bit 8 = .ok (.ldc 185, 2) := by decide +kernel
theorem dX5_bit_10 : decode cX5_bit 10 = .ok (.invokespecial 70, 3) := by decide +kernel
theorem dX5_bit_13 : decode cX5_bit 13 = .ok (.athrow, 1) := by decide +kernel
theorem dX5_bit_14 : decode cX5_bit 14 = .ok (.aload_n 0, 1) := by decide +kernel
theorem dX5_bit_15 : decode cX5_bit 15 = .ok (.iload_n 1, 1) := by decide +kernel
theorem dX5_bit_16 : decode cX5_bit 16 = .ok (.invokevirtual 189, 3) := by decide +kernel
theorem dX5_bit_19 : decode cX5_bit 19 = .ok (.aload_n 0, 1) := by decide +kernel
theorem dX5_bit_20 : decode cX5_bit 20 = .ok (.getfield 39, 3) := by decide +kernel
theorem dX5_bit_23 : decode cX5_bit 23 = .ok (.getfield 196, 3) := by decide +kernel
theorem dX5_bit_26 : decode cX5_bit 26 = .ok (.iload_n 2, 1) := by decide +kernel
theorem dX5_bit_27 : decode cX5_bit 27 = .ok (.invokevirtual 76, 3) := by decide +kernel
theorem dX5_bit_30 : decode cX5_bit 30 = .ok (.ireturn, 1) := by decide +kernel
set_option maxRecDepth 20000 in
theorem ggX5_letter_X5_readRow : GoodIn wsX5_letter wsX5_readRow := goodIn_r _ [8, 3, 9, 10, 11, 12, 7, 13, 14, 15, 16, 17, 18, 19, 20, 21, 22, 23, 24, 25, 26, 27, 28, 29, 30, 31, 32, 33, 34, 35, 36, 37, 38, 39, 40, 41, 42, 43, 44, 45, 46, 47, 48, 49, 50, 51, 52, 53, 54, 55, 56, 57, 58, 59, 60, 61, 62, 63, 64, 65, 66, 67, 68, 69, 70, 71, 72, 73, 74, 75, 76, 77, 78, 79, 80, 81, 82, 83, 84, 85, 86, 87, 88, 89, 90, 91, 92, 93, 94, 95, 96, 97, 103, 104, 105, 106, 107, 98, 99, 100, 101, 102] (by decide +kernel) (by decide +kernel)
set_option maxRecDepth 20000 in
theorem gX5_letter_X5_readRow : GoodIn wsX5_letter (wsV RX5 189 RX5 yX5_readRow wsX5_readRow) := goodIn_app (goodIn_of _ (by decide +kernel)) ggX5_letter_X5_readRow
set_option maxRecDepth 20000 in
theorem ggX5_letter_X2_at : GoodIn wsX5_letter wsX2_at := goodIn_r _ [18, 19, 20, 106, 107] (by decide +kernel) (by decide +kernel)
set_option maxRecDepth 20000 in
theorem gX5_letter_X2_at : GoodIn wsX5_letter (wsV RX5 76 RX2 yX2_at wsX2_at) := goodIn_app (goodIn_of _ (by decide +kernel)) ggX5_letter_X2_at
theorem dX5_letter_0 : decode cX5_letter 0 = .ok (.iload_n 2, 1) := by decide +kernel
theorem dX5_letter_1 : decode cX5_letter 1 = .ok (.ifCond .ge 13, 3) := by decide +kernel
theorem dX5_letter_4 : decode cX5_letter 4 = .ok (.new 66, 3) := by decide +kernel
theorem dX5_letter_7 : decode cX5_letter 7 = .ok (.dup, 1) := by decide +kernel
theorem dX5_letter_8 : decode cX5_letter 8 = .ok (.ldc 185, 2) := by decide +kernel
theorem dX5_letter_10 : decode cX5_letter 10 = .ok (.invokespecial 70, 3) := by decide +kernel
theorem dX5_letter_13 : decode cX5_letter 13 = .ok (.athrow, 1) := by decide +kernel
theorem dX5_letter_14 : decode cX5_letter 14 = .ok (.aload_n 0, 1) := by decide +kernel
theorem dX5_letter_15 : decode cX5_letter 15 = .ok (.iload_n 1, 1) := by decide +kernel
theorem dX5_letter_16 : decode cX5_letter 16 = .ok (.invokevirtual 189, 3) := by decide +kernel
theorem dX5_letter_19 : decode cX5_letter 19 = .ok (.aload_n 0, 1) := by decide +kernel
theorem dX5_letter_20 : decode cX5_letter 20 = .ok (.getfield 39, 3) := by decide +kernel
theorem dX5_letter_23 : decode cX5_letter 23 = .ok (.getfield 199, 3) := by decide +kernel
theorem dX5_letter_26 : decode cX5_letter 26 = .ok (.iload_n 2, 1) := by decide +kernel
theorem dX5_letter_27 : decode cX5_letter 27 = .ok (.invokevirtual 76, 3) := by decide +kernel
theorem dX5_letter_30 : decode cX5_letter 30 = .ok (.ireturn, 1) := by decide +kernel
set_option maxRecDepth 20000 in
theorem ggX5_count_X2_size : GoodIn wsX5_count wsX2_size := goodIn_r _ [9, 10, 58, 59] (by decide +kernel) (by decide +kernel)
set_option maxRecDepth 20000 in
theorem gX5_count_X2_size : GoodIn wsX5_count (wsV RX5 59 RX2 yX2_size wsX2_size) := goodIn_app (goodIn_of _ (by decide +kernel)) ggX5_count_X2_size
set_option maxRecDepth 20000 in
theorem ggX5_count_X2_sum : GoodIn wsX5_count wsX2_sum := goodIn_r _ [14, 10, 15, 16, 17, 8, 18, 19, 58, 59] (by decide +kernel) (by decide +kernel)
set_option maxRecDepth 20000 in
theorem gX5_count_X2_sum : GoodIn wsX5_count (wsV RX5 200 RX2 yX2_sum wsX2_sum) := goodIn_app (goodIn_of _ (by decide +kernel)) ggX5_count_X2_sum
set_option maxRecDepth 20000 in
theorem ggX5_count_X2_least : GoodIn wsX5_count wsX2_least := goodIn_r _ [23, 10, 24, 25, 26, 27, 15, 16, 17, 8, 18, 19, 58, 59] (by decide +kernel) (by decide +kernel)
set_option maxRecDepth 20000 in
theorem gX5_count_X2_least : GoodIn wsX5_count (wsV RX5 203 RX2 yX2_least wsX2_least) := goodIn_app (goodIn_of _ (by decide +kernel)) ggX5_count_X2_least
set_option maxRecDepth 20000 in
theorem ggX5_count_X2_greatest : GoodIn wsX5_count wsX2_greatest := goodIn_r _ [31, 10, 32, 33, 26, 34, 15, 16, 17, 8, 18, 19, 58, 59] (by decide +kernel) (by decide +kernel)
set_option maxRecDepth 20000 in
theorem gX5_count_X2_greatest : GoodIn wsX5_count (wsV RX5 206 RX2 yX2_greatest wsX2_greatest) := goodIn_app (goodIn_of _ (by decide +kernel)) ggX5_count_X2_greatest
set_option maxRecDepth 20000 in
theorem ggX5_count_X5_checkOf : GoodIn wsX5_count wsX5_checkOf := goodIn_r _ [38, 5, 6, 7, 8, 9, 10, 39, 16, 17, 18, 19, 58, 59] (by decide +kernel) (by decide +kernel)
set_option maxRecDepth 20000 in
theorem gX5_count_X5_checkOf : GoodIn wsX5_count (va_wsS RX5 209 yX5_checkOf wsX5_checkOf) := goodIn_app (goodIn_of _ (by decide +kernel)) ggX5_count_X5_checkOf
set_option maxRecDepth 20000 in
theorem ggX5_count_X0_depth : GoodIn wsX5_count wsX0_depth := goodIn_r _ [44, 45, 60, 61] (by decide +kernel) (by decide +kernel)
set_option maxRecDepth 20000 in
theorem gX5_count_X0_depth : GoodIn wsX5_count (wsV RX5 182 RX0 yX0_depth wsX0_depth) := goodIn_app (goodIn_of _ (by decide +kernel)) ggX5_count_X0_depth
theorem dX5_count_0 : decode cX5_count 0 = .ok (.iload_n 1, 1) := by decide +kernel
theorem dX5_count_1 : decode cX5_count 1 = .ok (.tableswitch 134 0 6 #[43, 54, 65, 76, 87, 98, 126], 43) := by decide +kernel
theorem dX5_count_44 : decode cX5_count 44 = .ok (.aload_n 0, 1) := by decide +kernel
theorem dX5_count_45 : decode cX5_count 45 = .ok (.getfield 10, 3) := by decide +kernel
theorem dX5_count_48 : decode cX5_count 48 = .ok (.getfield 113, 3) := by decide +kernel
theorem dX5_count_51 : decode cX5_count 51 = .ok (.invokevirtual 59, 3) := by decide +kernel
theorem dX5_count_54 : decode cX5_count 54 = .ok (.ireturn, 1) := by decide +kernel
theorem dX5_count_55 : decode cX5_count 55 = .ok (.aload_n 0, 1) := by decide +kernel
theorem dX5_count_56 : decode cX5_count 56 = .ok (.getfield 10, 3) := by decide +kernel
theorem dX5_count_59 : decode cX5_count 59 = .ok (.getfield 113, 3) := by decide +kernel
theorem dX5_count_62 : decode cX5_count 62 = .ok (.invokevirtual 200, 3) := by decide +kernel
theorem dX5_count_65 : decode cX5_count 65 = .ok (.ireturn, 1) := by decide +kernel
theorem dX5_count_66 : decode cX5_count 66 = .ok (.aload_n 0, 1) := by decide +kernel
theorem dX5_count_67 : decode cX5_count 67 = .ok (.getfield 10, 3) := by decide +kernel
theorem dX5_count_70 : decode cX5_count 70 = .ok (.getfield 113, 3) := by decide +kernel
theorem dX5_count_73 : decode cX5_count 73 = .ok (.invokevirtual 203, 3) := by decide +kernel
theorem dX5_count_76 : decode cX5_count 76 = .ok (.ireturn, 1) := by decide +kernel
theorem dX5_count_77 : decode cX5_count 77 = .ok (.aload_n 0, 1) := by decide +kernel
theorem dX5_count_78 : decode cX5_count 78 = .ok (.getfield 10, 3) := by decide +kernel
theorem dX5_count_81 : decode cX5_count 81 = .ok (.getfield 113, 3) := by decide +kernel
theorem dX5_count_84 : decode cX5_count 84 = .ok (.invokevirtual 206, 3) := by decide +kernel
theorem dX5_count_87 : decode cX5_count 87 = .ok (.ireturn, 1) := by decide +kernel
theorem dX5_count_88 : decode cX5_count 88 = .ok (.aload_n 0, 1) := by decide +kernel
theorem dX5_count_89 : decode cX5_count 89 = .ok (.getfield 10, 3) := by decide +kernel
theorem dX5_count_92 : decode cX5_count 92 = .ok (.getfield 106, 3) := by decide +kernel
theorem dX5_count_95 : decode cX5_count 95 = .ok (.invokevirtual 59, 3) := by decide +kernel
theorem dX5_count_98 : decode cX5_count 98 = .ok (.ireturn, 1) := by decide +kernel
theorem dX5_count_99 : decode cX5_count 99 = .ok (.aload_n 0, 1) := by decide +kernel
theorem dX5_count_100 : decode cX5_count 100 = .ok (.getfield 10, 3) := by decide +kernel
theorem dX5_count_103 : decode cX5_count 103 = .ok (.getfield 106, 3) := by decide +kernel
theorem dX5_count_106 : decode cX5_count 106 = .ok (.invokevirtual 59, 3) := by decide +kernel
theorem dX5_count_109 : decode cX5_count 109 = .ok (.ifCond .ne 7, 3) := by decide +kernel
theorem dX5_count_112 : decode cX5_count 112 = .ok (.iconst (-1), 1) := by decide +kernel
theorem dX5_count_113 : decode cX5_count 113 = .ok (.goto 13, 3) := by decide +kernel
theorem dX5_count_116 : decode cX5_count 116 = .ok (.aload_n 0, 1) := by decide +kernel
theorem dX5_count_117 : decode cX5_count 117 = .ok (.getfield 10, 3) := by decide +kernel
theorem dX5_count_120 : decode cX5_count 120 = .ok (.getfield 106, 3) := by decide +kernel
theorem dX5_count_123 : decode cX5_count 123 = .ok (.invokestatic 209, 3) := by decide +kernel
theorem dX5_count_126 : decode cX5_count 126 = .ok (.ireturn, 1) := by decide +kernel
theorem dX5_count_127 : decode cX5_count 127 = .ok (.aload_n 0, 1) := by decide +kernel
theorem dX5_count_128 : decode cX5_count 128 = .ok (.getfield 23, 3) := by decide +kernel
theorem dX5_count_131 : decode cX5_count 131 = .ok (.invokevirtual 182, 3) := by decide +kernel
theorem dX5_count_134 : decode cX5_count 134 = .ok (.ireturn, 1) := by decide +kernel
theorem dX5_count_135 : decode cX5_count 135 = .ok (.new 66, 3) := by decide +kernel
theorem dX5_count_138 : decode cX5_count 138 = .ok (.dup, 1) := by decide +kernel
theorem dX5_count_139 : decode cX5_count 139 = .ok (.ldc 187, 2) := by decide +kernel
theorem dX5_count_141 : decode cX5_count 141 = .ok (.invokespecial 70, 3) := by decide +kernel
theorem dX5_count_144 : decode cX5_count 144 = .ok (.athrow, 1) := by decide +kernel
set_option maxRecDepth 20000 in
theorem ggX5_setting_X2_has : GoodIn wsX5_setting wsX2_has := goodIn_r _ [8, 9, 27, 28] (by decide +kernel) (by decide +kernel)
set_option maxRecDepth 20000 in
theorem gX5_setting_X2_has : GoodIn wsX5_setting (wsV RX5 136 RX2 yX2_has wsX2_has) := goodIn_app (goodIn_of _ (by decide +kernel)) ggX5_setting_X2_has
set_option maxRecDepth 20000 in
theorem ggX5_setting_X2_at : GoodIn wsX5_setting wsX2_at := goodIn_r _ [13, 9, 14, 27, 28] (by decide +kernel) (by decide +kernel)
set_option maxRecDepth 20000 in
theorem gX5_setting_X2_at : GoodIn wsX5_setting (wsV RX5 76 RX2 yX2_at wsX2_at) := goodIn_app (goodIn_of _ (by decide +kernel)) ggX5_setting_X2_at
theorem dX5_setting_0 : decode cX5_setting 0 = .ok (.aload_n 0, 1) := by decide +kernel
theorem dX5_setting_1 : decode cX5_setting 1 = .ok (.getfield 10, 3) := by decide +kernel
theorem dX5_setting_4 : decode cX5_setting 4 = .ok (.getfield 148, 3) := by decide +kernel
theorem dX5_setting_7 : decode cX5_setting 7 = .ok (.iload_n 1, 1) := by decide +kernel
theorem dX5_setting_8 : decode cX5_setting 8 = .ok (.invokevirtual 136, 3) := by decide +kernel
theorem dX5_setting_11 : decode cX5_setting 11 = .ok (.ifCond .ne 13, 3) := by decide +kernel
theorem dX5_setting_14 : decode cX5_setting 14 = .ok (.new 124, 3) := by decide +kernel
theorem dX5_setting_17 : decode cX5_setting 17 = .ok (.dup, 1) := by decide +kernel
theorem dX5_setting_18 : decode cX5_setting 18 = .ok (.ldc 151, 2) := by decide +kernel
theorem dX5_setting_20 : decode cX5_setting 20 = .ok (.invokespecial 128, 3) := by decide +kernel
theorem dX5_setting_23 : decode cX5_setting 23 = .ok (.athrow, 1) := by decide +kernel
theorem dX5_setting_24 : decode cX5_setting 24 = .ok (.aload_n 0, 1) := by decide +kernel
theorem dX5_setting_25 : decode cX5_setting 25 = .ok (.getfield 10, 3) := by decide +kernel
theorem dX5_setting_28 : decode cX5_setting 28 = .ok (.getfield 148, 3) := by decide +kernel
theorem dX5_setting_31 : decode cX5_setting 31 = .ok (.iload_n 1, 1) := by decide +kernel
theorem dX5_setting_32 : decode cX5_setting 32 = .ok (.invokevirtual 76, 3) := by decide +kernel
theorem dX5_setting_35 : decode cX5_setting 35 = .ok (.ireturn, 1) := by decide +kernel
set_option maxRecDepth 20000 in
theorem ggX5_isRight_X5_value : GoodIn wsX5_isRight wsX5_value := goodIn_r _ [5, 6, 7, 8, 9, 10, 11, 12, 13, 97, 98, 99, 100, 101, 102, 103, 104, 105, 106, 107, 108, 109, 110] (by decide +kernel) (by decide +kernel)
set_option maxRecDepth 20000 in
theorem gX5_isRight_X5_value : GoodIn wsX5_isRight (wsV RX5 87 RX5 yX5_value wsX5_value) := goodIn_app (goodIn_of _ (by decide +kernel)) ggX5_isRight_X5_value
set_option maxRecDepth 20000 in
theorem ggX5_isRight_X5_rightWith : GoodIn wsX5_isRight wsX5_rightWith := goodIn_r _ [17, 18, 6, 1, 2, 3, 4, 5, 7, 8, 9, 10, 11, 12, 13, 19, 20, 21, 22, 23, 24, 25, 26, 27, 28, 29, 30, 31, 32, 33, 34, 35, 36, 37, 38, 39, 40, 41, 42, 43, 44, 45, 46, 47, 48, 49, 50, 51, 52, 53, 54, 55, 56, 57, 58, 59, 60, 61, 62, 63, 64, 65, 66, 67, 68, 69, 70, 71, 72, 73, 74, 75, 76, 77, 78, 79, 80, 81, 82, 83, 84, 85, 86, 87, 88, 89, 90, 91, 92, 93, 94, 95, 96, 97, 98, 99, 100, 101, 102, 103, 104, 105, 106, 107, 108, 109, 110, 111, 112, 113, 114, 115] (by decide +kernel) (by decide +kernel)
set_option maxRecDepth 20000 in
theorem gX5_isRight_X5_rightWith : GoodIn wsX5_isRight (wsV RX5 213 RX5 yX5_rightWith wsX5_rightWith) := goodIn_app (goodIn_of _ (by decide +kernel)) ggX5_isRight_X5_rightWith
theorem dX5_isRight_0 : decode cX5_isRight 0 = .ok (.aload_n 0, 1) := by decide +kernel
theorem dX5_isRight_1 : decode cX5_isRight 1 = .ok (.aload_n 0, 1) := by decide +kernel
theorem dX5_isRight_2 : decode cX5_isRight 2 = .ok (.iconst 1, 1) := by decide +kernel
theorem dX5_isRight_3 : decode cX5_isRight 3 = .ok (.invokevirtual 87, 3) := by decide +kernel
theorem dX5_isRight_6 : decode cX5_isRight 6 = .ok (.invokevirtual 213, 3) := by decide +kernel
theorem dX5_isRight_9 : decode cX5_isRight 9 = .ok (.ireturn, 1) := by decide +kernel
set_option maxRecDepth 20000 in
theorem ggX5_repair_X5_readRow : GoodIn wsX5_repair wsX5_readRow := goodIn_r _ [8, 3, 9, 10, 11, 12, 7, 13, 14, 15, 16, 17, 18, 19, 20, 21, 22, 23, 24, 25, 26, 27, 28, 29, 30, 31, 32, 33, 34, 35, 36, 37, 38, 39, 40, 41, 42, 43, 44, 45, 46, 47, 48, 49, 50, 51, 52, 53, 54, 55, 56, 57, 58, 59, 60, 61, 62, 63, 64, 65, 66, 67, 68, 69, 70, 71, 72, 73, 74, 75, 76, 77, 78, 79, 80, 81, 82, 83, 84, 85, 86, 87, 88, 101, 102, 103, 104, 105, 106, 107, 108, 109, 110, 111, 112, 113, 114, 115, 116, 117, 118, 119] (by decide +kernel) (by decide +kernel)
set_option maxRecDepth 20000 in
theorem gX5_repair_X5_readRow : GoodIn wsX5_repair (wsV RX5 189 RX5 yX5_readRow wsX5_readRow) := goodIn_app (goodIn_of _ (by decide +kernel)) ggX5_repair_X5_readRow
set_option maxRecDepth 20000 in
theorem ggX5_repair_X1_repairablePlace : GoodIn wsX5_repair wsX1_repairablePlace := goodIn_r _ [92, 28, 93, 94, 95, 24, 96, 27, 48, 36, 37, 38, 17, 39, 19, 66, 67, 68, 69, 43, 15, 16, 18, 20, 70, 71, 72, 73, 78, 79, 80, 81, 82, 83, 84, 85, 115, 116, 117, 118, 119, 113, 114] (by decide +kernel) (by decide +kernel)
set_option maxRecDepth 20000 in
theorem gX5_repair_X1_repairablePlace : GoodIn wsX5_repair (wsV RX5 216 RX1 yX1_repairablePlace wsX1_repairablePlace) := goodIn_app (goodIn_of _ (by decide +kernel)) ggX5_repair_X1_repairablePlace
set_option maxRecDepth 20000 in
theorem ggX5_repair_X1_repairedNumber : GoodIn wsX5_repair wsX1_repairedNumber := goodIn_r _ [100, 93, 94, 95, 24, 96, 27, 48, 36, 37, 38, 17, 39, 19, 66, 67, 68, 69, 43, 15, 16, 18, 20, 70, 71, 72, 73, 78, 79, 80, 81, 115, 116, 117, 118, 119, 113, 114] (by decide +kernel) (by decide +kernel)
set_option maxRecDepth 20000 in
theorem gX5_repair_X1_repairedNumber : GoodIn wsX5_repair (wsV RX5 219 RX1 yX1_repairedNumber wsX1_repairedNumber) := goodIn_app (goodIn_of _ (by decide +kernel)) ggX5_repair_X1_repairedNumber
theorem dX5_repair_0 : decode cX5_repair 0 = .ok (.iload_n 1, 1) := by decide +kernel
theorem dX5_repair_1 : decode cX5_repair 1 = .ok (.ifCond .eq 18, 3) := by decide +kernel
theorem dX5_repair_4 : decode cX5_repair 4 = .ok (.iload_n 1, 1) := by decide +kernel
theorem dX5_repair_5 : decode cX5_repair 5 = .ok (.iconst 1, 1) := by decide +kernel
theorem dX5_repair_6 : decode cX5_repair 6 = .ok (.if_icmp .eq 13, 3) := by decide +kernel
theorem dX5_repair_9 : decode cX5_repair 9 = .ok (.new 66, 3) := by decide +kernel
theorem dX5_repair_12 : decode cX5_repair 12 = .ok (.dup, 1) := by decide +kernel
theorem dX5_repair_13 : decode cX5_repair 13 = .ok (.ldc 187, 2) := by decide +kernel
theorem dX5_repair_15 : decode cX5_repair 15 = .ok (.invokespecial 70, 3) := by decide +kernel
theorem dX5_repair_18 : decode cX5_repair 18 = .ok (.athrow, 1) := by decide +kernel
theorem dX5_repair_19 : decode cX5_repair 19 = .ok (.aload_n 0, 1) := by decide +kernel
theorem dX5_repair_20 : decode cX5_repair 20 = .ok (.iconst 0, 1) := by decide +kernel
theorem dX5_repair_21 : decode cX5_repair 21 = .ok (.invokevirtual 189, 3) := by decide +kernel
theorem dX5_repair_24 : decode cX5_repair 24 = .ok (.aload_n 0, 1) := by decide +kernel
theorem dX5_repair_25 : decode cX5_repair 25 = .ok (.getfield 39, 3) := by decide +kernel
theorem dX5_repair_28 : decode cX5_repair 28 = .ok (.invokevirtual 216, 3) := by decide +kernel
theorem dX5_repair_31 : decode cX5_repair 31 = .ok (.istore_n 2, 1) := by decide +kernel
theorem dX5_repair_32 : decode cX5_repair 32 = .ok (.iload_n 1, 1) := by decide +kernel
theorem dX5_repair_33 : decode cX5_repair 33 = .ok (.ifCond .eq 8, 3) := by decide +kernel
theorem dX5_repair_36 : decode cX5_repair 36 = .ok (.iload_n 2, 1) := by decide +kernel
theorem dX5_repair_37 : decode cX5_repair 37 = .ok (.iconst (-1), 1) := by decide +kernel
theorem dX5_repair_38 : decode cX5_repair 38 = .ok (.if_icmp .ne 5, 3) := by decide +kernel
theorem dX5_repair_41 : decode cX5_repair 41 = .ok (.iload_n 2, 1) := by decide +kernel
theorem dX5_repair_42 : decode cX5_repair 42 = .ok (.ireturn, 1) := by decide +kernel
theorem dX5_repair_43 : decode cX5_repair 43 = .ok (.aload_n 0, 1) := by decide +kernel
theorem dX5_repair_44 : decode cX5_repair 44 = .ok (.getfield 39, 3) := by decide +kernel
theorem dX5_repair_47 : decode cX5_repair 47 = .ok (.iload_n 2, 1) := by decide +kernel
theorem dX5_repair_48 : decode cX5_repair 48 = .ok (.invokevirtual 219, 3) := by decide +kernel
theorem dX5_repair_51 : decode cX5_repair 51 = .ok (.ireturn, 1) := by decide +kernel
set_option maxRecDepth 20000 in
theorem ggX5_shortShare_X2_size : GoodIn wsX5_shortShare wsX2_size := goodIn_r _ [6, 7, 35, 36] (by decide +kernel) (by decide +kernel)
set_option maxRecDepth 20000 in
theorem gX5_shortShare_X2_size : GoodIn wsX5_shortShare (wsV RX5 59 RX2 yX2_size wsX2_size) := goodIn_app (goodIn_of _ (by decide +kernel)) ggX5_shortShare_X2_size
set_option maxRecDepth 20000 in
theorem ggX5_shortShare_X2_sum : GoodIn wsX5_shortShare wsX2_sum := goodIn_r _ [11, 7, 12, 13, 14, 5, 15, 16, 35, 36] (by decide +kernel) (by decide +kernel)
set_option maxRecDepth 20000 in
theorem gX5_shortShare_X2_sum : GoodIn wsX5_shortShare (wsV RX5 200 RX2 yX2_sum wsX2_sum) := goodIn_app (goodIn_of _ (by decide +kernel)) ggX5_shortShare_X2_sum
set_option maxRecDepth 20000 in
theorem ggX5_shortShare_X5_value : GoodIn wsX5_shortShare wsX5_value := goodIn_r _ [21, 1, 22, 13, 14, 5, 15, 7, 16, 23, 24, 25, 26, 27, 28, 29, 30, 31, 32, 33, 34, 35, 36] (by decide +kernel) (by decide +kernel)
set_option maxRecDepth 20000 in
theorem gX5_shortShare_X5_value : GoodIn wsX5_shortShare (wsV RX5 87 RX5 yX5_value wsX5_value) := goodIn_app (goodIn_of _ (by decide +kernel)) ggX5_shortShare_X5_value
set_option maxRecDepth 20000 in
theorem ggX5_shortShare_X2_at : GoodIn wsX5_shortShare wsX2_at := goodIn_r _ [15, 7, 16, 35, 36] (by decide +kernel) (by decide +kernel)
set_option maxRecDepth 20000 in
theorem gX5_shortShare_X2_at : GoodIn wsX5_shortShare (wsV RX5 76 RX2 yX2_at wsX2_at) := goodIn_app (goodIn_of _ (by decide +kernel)) ggX5_shortShare_X2_at
theorem dX5_shortShare_0 : decode cX5_shortShare 0 = .ok (.aload_n 0, 1) := by decide +kernel
theorem dX5_shortShare_1 : decode cX5_shortShare 1 = .ok (.getfield 10, 3) := by decide +kernel
theorem dX5_shortShare_4 : decode cX5_shortShare 4 = .ok (.getfield 113, 3) := by decide +kernel
theorem dX5_shortShare_7 : decode cX5_shortShare 7 = .ok (.invokevirtual 59, 3) := by decide +kernel
theorem dX5_shortShare_10 : decode cX5_shortShare 10 = .ok (.istore_n 1, 1) := by decide +kernel
theorem dX5_shortShare_11 : decode cX5_shortShare 11 = .ok (.iload_n 1, 1) := by decide +kernel
theorem dX5_shortShare_12 : decode cX5_shortShare 12 = .ok (.ifCond .gt 5, 3) := by decide +kernel
theorem dX5_shortShare_15 : decode cX5_shortShare 15 = .ok (.dconst 0, 1) := by decide +kernel
theorem dX5_shortShare_16 : decode cX5_shortShare 16 = .ok (.dreturn, 1) := by decide +kernel
theorem dX5_shortShare_17 : decode cX5_shortShare 17 = .ok (.aload_n 0, 1) := by decide +kernel
theorem dX5_shortShare_18 : decode cX5_shortShare 18 = .ok (.getfield 10, 3) := by decide +kernel
theorem dX5_shortShare_21 : decode cX5_shortShare 21 = .ok (.getfield 113, 3) := by decide +kernel
theorem dX5_shortShare_24 : decode cX5_shortShare 24 = .ok (.invokevirtual 200, 3) := by decide +kernel
theorem dX5_shortShare_27 : decode cX5_shortShare 27 = .ok (.iload_n 1, 1) := by decide +kernel
theorem dX5_shortShare_28 : decode cX5_shortShare 28 = .ok (.idiv, 1) := by decide +kernel
theorem dX5_shortShare_29 : decode cX5_shortShare 29 = .ok (.istore_n 2, 1) := by decide +kernel
theorem dX5_shortShare_30 : decode cX5_shortShare 30 = .ok (.iload_n 2, 1) := by decide +kernel
theorem dX5_shortShare_31 : decode cX5_shortShare 31 = .ok (.aload_n 0, 1) := by decide +kernel
theorem dX5_shortShare_32 : decode cX5_shortShare 32 = .ok (.iconst 1, 1) := by decide +kernel
theorem dX5_shortShare_33 : decode cX5_shortShare 33 = .ok (.invokevirtual 87, 3) := by decide +kernel
theorem dX5_shortShare_36 : decode cX5_shortShare 36 = .ok (.imul, 1) := by decide +kernel
theorem dX5_shortShare_37 : decode cX5_shortShare 37 = .ok (.bipush 100, 2) := by decide +kernel
theorem dX5_shortShare_39 : decode cX5_shortShare 39 = .ok (.idiv, 1) := by decide +kernel
theorem dX5_shortShare_40 : decode cX5_shortShare 40 = .ok (.istore_n 3, 1) := by decide +kernel
theorem dX5_shortShare_41 : decode cX5_shortShare 41 = .ok (.iconst 0, 1) := by decide +kernel
theorem dX5_shortShare_42 : decode cX5_shortShare 42 = .ok (.istore 4, 2) := by decide +kernel
theorem dX5_shortShare_44 : decode cX5_shortShare 44 = .ok (.iconst 0, 1) := by decide +kernel
theorem dX5_shortShare_45 : decode cX5_shortShare 45 = .ok (.istore 5, 2) := by decide +kernel
theorem dX5_shortShare_47 : decode cX5_shortShare 47 = .ok (.iload 5, 2) := by decide +kernel
theorem dX5_shortShare_49 : decode cX5_shortShare 49 = .ok (.iload_n 1, 1) := by decide +kernel
theorem dX5_shortShare_50 : decode cX5_shortShare 50 = .ok (.if_icmp .ge 28, 3) := by decide +kernel
theorem dX5_shortShare_53 : decode cX5_shortShare 53 = .ok (.aload_n 0, 1) := by decide +kernel
theorem dX5_shortShare_54 : decode cX5_shortShare 54 = .ok (.getfield 10, 3) := by decide +kernel
theorem dX5_shortShare_57 : decode cX5_shortShare 57 = .ok (.getfield 113, 3) := by decide +kernel
theorem dX5_shortShare_60 : decode cX5_shortShare 60 = .ok (.iload 5, 2) := by decide +kernel
theorem dX5_shortShare_62 : decode cX5_shortShare 62 = .ok (.invokevirtual 76, 3) := by decide +kernel
theorem dX5_shortShare_65 : decode cX5_shortShare 65 = .ok (.iload_n 3, 1) := by decide +kernel
theorem dX5_shortShare_66 : decode cX5_shortShare 66 = .ok (.if_icmp .ge 6, 3) := by decide +kernel
theorem dX5_shortShare_69 : decode cX5_shortShare 69 = .ok (.iinc 4 1, 3) := by decide +kernel
theorem dX5_shortShare_72 : decode cX5_shortShare 72 = .ok (.iinc 5 1, 3) := by decide +kernel
theorem dX5_shortShare_75 : decode cX5_shortShare 75 = .ok (.goto (-28), 3) := by decide +kernel
theorem dX5_shortShare_78 : decode cX5_shortShare 78 = .ok (.iload 4, 2) := by decide +kernel
theorem dX5_shortShare_80 : decode cX5_shortShare 80 = .ok (.i2d, 1) := by decide +kernel
theorem dX5_shortShare_81 : decode cX5_shortShare 81 = .ok (.iload_n 1, 1) := by decide +kernel
theorem dX5_shortShare_82 : decode cX5_shortShare 82 = .ok (.i2d, 1) := by decide +kernel
theorem dX5_shortShare_83 : decode cX5_shortShare 83 = .ok (.ddiv, 1) := by decide +kernel
theorem dX5_shortShare_84 : decode cX5_shortShare 84 = .ok (.dreturn, 1) := by decide +kernel
set_option maxRecDepth 20000 in
theorem ggX5_value_X2_at : GoodIn wsX5_value wsX2_at := goodIn_r _ [6, 7, 8, 21, 22] (by decide +kernel) (by decide +kernel)
set_option maxRecDepth 20000 in
theorem gX5_value_X2_at : GoodIn wsX5_value (wsV RX5 76 RX2 yX2_at wsX2_at) := goodIn_app (goodIn_of _ (by decide +kernel)) ggX5_value_X2_at
theorem dX5_value_0 : decode cX5_value 0 = .ok (.aload_n 0, 1) := by decide +kernel
theorem dX5_value_1 : decode cX5_value 1 = .ok (.getfield 10, 3) := by decide +kernel
theorem dX5_value_4 : decode cX5_value 4 = .ok (.getfield 148, 3) := by decide +kernel
theorem dX5_value_7 : decode cX5_value 7 = .ok (.iload_n 1, 1) := by decide +kernel
theorem dX5_value_8 : decode cX5_value 8 = .ok (.invokevirtual 76, 3) := by decide +kernel
theorem dX5_value_11 : decode cX5_value 11 = .ok (.ireturn, 1) := by decide +kernel
set_option maxRecDepth 20000 in
theorem ggX5_readRow_X5_value : GoodIn wsX5_readRow wsX5_value := goodIn_r _ [7, 2, 8, 9, 10, 11, 12, 13, 14, 83, 84, 85, 86, 87, 88, 89, 90, 91, 92, 93, 94, 95, 96] (by decide +kernel) (by decide +kernel)
set_option maxRecDepth 20000 in
theorem gX5_readRow_X5_value : GoodIn wsX5_readRow (wsV RX5 87 RX5 yX5_value wsX5_value) := goodIn_app (goodIn_of _ (by decide +kernel)) ggX5_readRow_X5_value
set_option maxRecDepth 20000 in
theorem ggX5_readRow_X1_read : GoodIn wsX5_readRow wsX1_read := goodIn_r _ [19, 20, 21, 22, 23, 24, 18, 25, 26, 27, 28, 29, 30, 31, 32, 11, 33, 13, 34, 35, 36, 37, 9, 10, 12, 14, 38, 39, 40, 41, 42, 43, 44, 45, 46, 47, 48, 49, 50, 51, 52, 53, 54, 55, 56, 57, 58, 59, 60, 61, 62, 63, 64, 65, 66, 67, 68, 69, 70, 71, 72, 73, 74, 75, 76, 77, 78, 79, 80, 6, 81, 82, 8, 97, 98, 99, 100, 101, 95, 96] (by decide +kernel) (by decide +kernel)
set_option maxRecDepth 20000 in
theorem gX5_readRow_X1_read : GoodIn wsX5_readRow (wsV RX5 228 RX1 yX1_read wsX1_read) := goodIn_app (goodIn_of _ (by decide +kernel)) ggX5_readRow_X1_read
theorem dX5_readRow_0 : decode cX5_readRow 0 = .ok (.aload_n 0, 1) := by decide +kernel
theorem dX5_readRow_1 : decode cX5_readRow 1 = .ok (.getfield 39, 3) := by decide +kernel
theorem dX5_readRow_4 : decode cX5_readRow 4 = .ok (.aload_n 0, 1) := by decide +kernel
theorem dX5_readRow_5 : decode cX5_readRow 5 = .ok (.getfield 10, 3) := by decide +kernel
theorem dX5_readRow_8 : decode cX5_readRow 8 = .ok (.getfield 113, 3) := by decide +kernel
theorem dX5_readRow_11 : decode cX5_readRow 11 = .ok (.iload_n 1, 1) := by decide +kernel
theorem dX5_readRow_12 : decode cX5_readRow 12 = .ok (.aload_n 0, 1) := by decide +kernel
theorem dX5_readRow_13 : decode cX5_readRow 13 = .ok (.iconst 1, 1) := by decide +kernel
theorem dX5_readRow_14 : decode cX5_readRow 14 = .ok (.invokevirtual 87, 3) := by decide +kernel
theorem dX5_readRow_17 : decode cX5_readRow 17 = .ok (.aload_n 0, 1) := by decide +kernel
theorem dX5_readRow_18 : decode cX5_readRow 18 = .ok (.iconst 2, 1) := by decide +kernel
theorem dX5_readRow_19 : decode cX5_readRow 19 = .ok (.invokevirtual 87, 3) := by decide +kernel
theorem dX5_readRow_22 : decode cX5_readRow 22 = .ok (.invokevirtual 228, 3) := by decide +kernel
theorem dX5_readRow_25 : decode cX5_readRow 25 = .ok (.return_, 1) := by decide +kernel
set_option maxRecDepth 20000 in
theorem ggX5_rightWith_X5_value : GoodIn wsX5_rightWith wsX5_value := goodIn_r _ [7, 2, 8, 9, 10, 11, 12, 13, 14, 93, 94, 95, 96, 97, 98, 99, 100, 101, 102, 103, 104, 105, 106] (by decide +kernel) (by decide +kernel)
set_option maxRecDepth 20000 in
theorem gX5_rightWith_X5_value : GoodIn wsX5_rightWith (wsV RX5 87 RX5 yX5_value wsX5_value) := goodIn_app (goodIn_of _ (by decide +kernel)) ggX5_rightWith_X5_value
set_option maxRecDepth 20000 in
theorem ggX5_rightWith_X1_read : GoodIn wsX5_rightWith wsX1_read := goodIn_r _ [19, 20, 21, 22, 23, 24, 18, 25, 26, 27, 28, 29, 30, 31, 32, 11, 33, 13, 34, 35, 36, 37, 9, 10, 12, 14, 38, 39, 40, 41, 42, 43, 44, 45, 46, 47, 48, 49, 50, 51, 52, 53, 54, 55, 56, 57, 58, 59, 60, 61, 62, 63, 64, 65, 66, 67, 68, 69, 70, 71, 72, 73, 74, 75, 76, 77, 78, 79, 80, 6, 81, 82, 8, 107, 108, 109, 110, 111, 105, 106] (by decide +kernel) (by decide +kernel)
set_option maxRecDepth 20000 in
theorem gX5_rightWith_X1_read : GoodIn wsX5_rightWith (wsV RX5 228 RX1 yX1_read wsX1_read) := goodIn_app (goodIn_of _ (by decide +kernel)) ggX5_rightWith_X1_read
set_option maxRecDepth 20000 in
theorem ggX5_rightWith_X1_isCard : GoodIn wsX5_rightWith wsX1_isCard := goodIn_r _ [86, 22, 59, 87, 88, 89, 11, 90, 13, 91, 31, 32, 33, 92, 9, 10, 12, 14, 107, 108, 109, 110, 111, 105, 106] (by decide +kernel) (by decide +kernel)
set_option maxRecDepth 20000 in
theorem gX5_rightWith_X1_isCard : GoodIn wsX5_rightWith (wsV RX5 232 RX1 yX1_isCard wsX1_isCard) := goodIn_app (goodIn_of _ (by decide +kernel)) ggX5_rightWith_X1_isCard
theorem dX5_rightWith_0 : decode cX5_rightWith 0 = .ok (.aload_n 0, 1) := by decide +kernel
theorem dX5_rightWith_1 : decode cX5_rightWith 1 = .ok (.getfield 39, 3) := by decide +kernel
theorem dX5_rightWith_4 : decode cX5_rightWith 4 = .ok (.aload_n 0, 1) := by decide +kernel
theorem dX5_rightWith_5 : decode cX5_rightWith 5 = .ok (.getfield 10, 3) := by decide +kernel
theorem dX5_rightWith_8 : decode cX5_rightWith 8 = .ok (.getfield 113, 3) := by decide +kernel
theorem dX5_rightWith_11 : decode cX5_rightWith 11 = .ok (.iconst 0, 1) := by decide +kernel
theorem dX5_rightWith_12 : decode cX5_rightWith 12 = .ok (.iload_n 1, 1) := by decide +kernel
theorem dX5_rightWith_13 : decode cX5_rightWith 13 = .ok (.aload_n 0, 1) := by decide +kernel
theorem dX5_rightWith_14 : decode cX5_rightWith 14 = .ok (.iconst 2, 1) := by decide +kernel
theorem dX5_rightWith_15 : decode cX5_rightWith 15 = .ok (.invokevirtual 87, 3) := by decide +kernel
theorem dX5_rightWith_18 : decode cX5_rightWith 18 = .ok (.invokevirtual 228, 3) := by decide +kernel
theorem dX5_rightWith_21 : decode cX5_rightWith 21 = .ok (.aload_n 0, 1) := by decide +kernel
theorem dX5_rightWith_22 : decode cX5_rightWith 22 = .ok (.getfield 39, 3) := by decide +kernel
theorem dX5_rightWith_25 : decode cX5_rightWith 25 = .ok (.aload_n 0, 1) := by decide +kernel
theorem dX5_rightWith_26 : decode cX5_rightWith 26 = .ok (.getfield 10, 3) := by decide +kernel
theorem dX5_rightWith_29 : decode cX5_rightWith 29 = .ok (.getfield 106, 3) := by decide +kernel
theorem dX5_rightWith_32 : decode cX5_rightWith 32 = .ok (.invokevirtual 232, 3) := by decide +kernel
theorem dX5_rightWith_35 : decode cX5_rightWith 35 = .ok (.ifCond .eq 5, 3) := by decide +kernel
theorem dX5_rightWith_38 : decode cX5_rightWith 38 = .ok (.iconst 1, 1) := by decide +kernel
theorem dX5_rightWith_39 : decode cX5_rightWith 39 = .ok (.ireturn, 1) := by decide +kernel
theorem dX5_rightWith_40 : decode cX5_rightWith 40 = .ok (.aload_n 0, 1) := by decide +kernel
theorem dX5_rightWith_41 : decode cX5_rightWith 41 = .ok (.getfield 39, 3) := by decide +kernel
theorem dX5_rightWith_44 : decode cX5_rightWith 44 = .ok (.aload_n 0, 1) := by decide +kernel
theorem dX5_rightWith_45 : decode cX5_rightWith 45 = .ok (.getfield 10, 3) := by decide +kernel
theorem dX5_rightWith_48 : decode cX5_rightWith 48 = .ok (.getfield 113, 3) := by decide +kernel
theorem dX5_rightWith_51 : decode cX5_rightWith 51 = .ok (.iconst 1, 1) := by decide +kernel
theorem dX5_rightWith_52 : decode cX5_rightWith 52 = .ok (.iload_n 1, 1) := by decide +kernel
theorem dX5_rightWith_53 : decode cX5_rightWith 53 = .ok (.aload_n 0, 1) := by decide +kernel
theorem dX5_rightWith_54 : decode cX5_rightWith 54 = .ok (.iconst 2, 1) := by decide +kernel
theorem dX5_rightWith_55 : decode cX5_rightWith 55 = .ok (.invokevirtual 87, 3) := by decide +kernel
theorem dX5_rightWith_58 : decode cX5_rightWith 58 = .ok (.invokevirtual 228, 3) := by decide +kernel
theorem dX5_rightWith_61 : decode cX5_rightWith 61 = .ok (.aload_n 0, 1) := by decide +kernel
theorem dX5_rightWith_62 : decode cX5_rightWith 62 = .ok (.getfield 39, 3) := by decide +kernel
theorem dX5_rightWith_65 : decode cX5_rightWith 65 = .ok (.aload_n 0, 1) := by decide +kernel
theorem dX5_rightWith_66 : decode cX5_rightWith 66 = .ok (.getfield 10, 3) := by decide +kernel
theorem dX5_rightWith_69 : decode cX5_rightWith 69 = .ok (.getfield 106, 3) := by decide +kernel
theorem dX5_rightWith_72 : decode cX5_rightWith 72 = .ok (.invokevirtual 232, 3) := by decide +kernel
theorem dX5_rightWith_75 : decode cX5_rightWith 75 = .ok (.ifCond .eq 7, 3) := by decide +kernel
theorem dX5_rightWith_78 : decode cX5_rightWith 78 = .ok (.iconst 2, 1) := by decide +kernel
theorem dX5_rightWith_79 : decode cX5_rightWith 79 = .ok (.goto 4, 3) := by decide +kernel
theorem dX5_rightWith_82 : decode cX5_rightWith 82 = .ok (.iconst 0, 1) := by decide +kernel
theorem dX5_rightWith_83 : decode cX5_rightWith 83 = .ok (.ireturn, 1) := by decide +kernel
set_option maxRecDepth 20000 in
theorem ggX5_errorPlace_X2_size : GoodIn wsX5_errorPlace wsX2_size := goodIn_r _ [6, 7, 26, 27] (by decide +kernel) (by decide +kernel)
set_option maxRecDepth 20000 in
theorem gX5_errorPlace_X2_size : GoodIn wsX5_errorPlace (wsV RX5 59 RX2 yX2_size wsX2_size) := goodIn_app (goodIn_of _ (by decide +kernel)) ggX5_errorPlace_X2_size
set_option maxRecDepth 20000 in
theorem ggX5_errorPlace_X2_at : GoodIn wsX5_errorPlace wsX2_at := goodIn_r _ [11, 7, 12, 26, 27] (by decide +kernel) (by decide +kernel)
set_option maxRecDepth 20000 in
theorem gX5_errorPlace_X2_at : GoodIn wsX5_errorPlace (wsV RX5 76 RX2 yX2_at wsX2_at) := goodIn_app (goodIn_of _ (by decide +kernel)) ggX5_errorPlace_X2_at
set_option maxRecDepth 20000 in
theorem ggX5_errorPlace_X5_letterOfCode : GoodIn wsX5_errorPlace wsX5_letterOfCode := goodIn_r _ [16] (by decide +kernel) (by decide +kernel)
set_option maxRecDepth 20000 in
theorem gX5_errorPlace_X5_letterOfCode : GoodIn wsX5_errorPlace (va_wsS RX5 80 yX5_letterOfCode wsX5_letterOfCode) := goodIn_app (goodIn_of _ (by decide +kernel)) ggX5_errorPlace_X5_letterOfCode
theorem dX5_errorPlace_0 : decode cX5_errorPlace 0 = .ok (.iconst 0, 1) := by decide +kernel
theorem dX5_errorPlace_1 : decode cX5_errorPlace 1 = .ok (.istore_n 1, 1) := by decide +kernel
theorem dX5_errorPlace_2 : decode cX5_errorPlace 2 = .ok (.iload_n 1, 1) := by decide +kernel
theorem dX5_errorPlace_3 : decode cX5_errorPlace 3 = .ok (.aload_n 0, 1) := by decide +kernel
theorem dX5_errorPlace_4 : decode cX5_errorPlace 4 = .ok (.getfield 32, 3) := by decide +kernel
theorem dX5_errorPlace_7 : decode cX5_errorPlace 7 = .ok (.invokevirtual 59, 3) := by decide +kernel
theorem dX5_errorPlace_10 : decode cX5_errorPlace 10 = .ok (.if_icmp .ge 32, 3) := by decide +kernel
theorem dX5_errorPlace_13 : decode cX5_errorPlace 13 = .ok (.iload_n 1, 1) := by decide +kernel
theorem dX5_errorPlace_14 : decode cX5_errorPlace 14 = .ok (.bipush 20, 2) := by decide +kernel
theorem dX5_errorPlace_16 : decode cX5_errorPlace 16 = .ok (.if_icmp .ge 18, 3) := by decide +kernel
theorem dX5_errorPlace_19 : decode cX5_errorPlace 19 = .ok (.aload_n 0, 1) := by decide +kernel
theorem dX5_errorPlace_20 : decode cX5_errorPlace 20 = .ok (.getfield 32, 3) := by decide +kernel
theorem dX5_errorPlace_23 : decode cX5_errorPlace 23 = .ok (.iload_n 1, 1) := by decide +kernel
theorem dX5_errorPlace_24 : decode cX5_errorPlace 24 = .ok (.invokevirtual 76, 3) := by decide +kernel
theorem dX5_errorPlace_27 : decode cX5_errorPlace 27 = .ok (.invokestatic 80, 3) := by decide +kernel
theorem dX5_errorPlace_30 : decode cX5_errorPlace 30 = .ok (.iconst (-1), 1) := by decide +kernel
theorem dX5_errorPlace_31 : decode cX5_errorPlace 31 = .ok (.if_icmp .ne 5, 3) := by decide +kernel
theorem dX5_errorPlace_34 : decode cX5_errorPlace 34 = .ok (.iload_n 1, 1) := by decide +kernel
theorem dX5_errorPlace_35 : decode cX5_errorPlace 35 = .ok (.ireturn, 1) := by decide +kernel
theorem dX5_errorPlace_36 : decode cX5_errorPlace 36 = .ok (.iinc 1 1, 3) := by decide +kernel
theorem dX5_errorPlace_39 : decode cX5_errorPlace 39 = .ok (.goto (-37), 3) := by decide +kernel
theorem dX5_errorPlace_42 : decode cX5_errorPlace 42 = .ok (.aload_n 0, 1) := by decide +kernel
theorem dX5_errorPlace_43 : decode cX5_errorPlace 43 = .ok (.getfield 32, 3) := by decide +kernel
theorem dX5_errorPlace_46 : decode cX5_errorPlace 46 = .ok (.invokevirtual 59, 3) := by decide +kernel
theorem dX5_errorPlace_49 : decode cX5_errorPlace 49 = .ok (.ireturn, 1) := by decide +kernel
theorem dX5_letterOfCode_0 : decode cX5_letterOfCode 0 = .ok (.iload_n 0, 1) := by decide +kernel
theorem dX5_letterOfCode_1 : decode cX5_letterOfCode 1 = .ok (.bipush 48, 2) := by decide +kernel
theorem dX5_letterOfCode_3 : decode cX5_letterOfCode 3 = .ok (.if_icmp .lt 14, 3) := by decide +kernel
theorem dX5_letterOfCode_6 : decode cX5_letterOfCode 6 = .ok (.iload_n 0, 1) := by decide +kernel
theorem dX5_letterOfCode_7 : decode cX5_letterOfCode 7 = .ok (.bipush 57, 2) := by decide +kernel
theorem dX5_letterOfCode_9 : decode cX5_letterOfCode 9 = .ok (.if_icmp .gt 8, 3) := by decide +kernel
theorem dX5_letterOfCode_12 : decode cX5_letterOfCode 12 = .ok (.iload_n 0, 1) := by decide +kernel
theorem dX5_letterOfCode_13 : decode cX5_letterOfCode 13 = .ok (.bipush 48, 2) := by decide +kernel
theorem dX5_letterOfCode_15 : decode cX5_letterOfCode 15 = .ok (.isub, 1) := by decide +kernel
theorem dX5_letterOfCode_16 : decode cX5_letterOfCode 16 = .ok (.ireturn, 1) := by decide +kernel
theorem dX5_letterOfCode_17 : decode cX5_letterOfCode 17 = .ok (.iload_n 0, 1) := by decide +kernel
theorem dX5_letterOfCode_18 : decode cX5_letterOfCode 18 = .ok (.lookupswitch 54 #[(61, 48), (97, 42), (99, 45), (101, 51)], 42) := by decide +kernel
theorem dX5_letterOfCode_60 : decode cX5_letterOfCode 60 = .ok (.bipush 10, 2) := by decide +kernel
theorem dX5_letterOfCode_62 : decode cX5_letterOfCode 62 = .ok (.ireturn, 1) := by decide +kernel
theorem dX5_letterOfCode_63 : decode cX5_letterOfCode 63 = .ok (.bipush 12, 2) := by decide +kernel
theorem dX5_letterOfCode_65 : decode cX5_letterOfCode 65 = .ok (.ireturn, 1) := by decide +kernel
theorem dX5_letterOfCode_66 : decode cX5_letterOfCode 66 = .ok (.bipush 13, 2) := by decide +kernel
theorem dX5_letterOfCode_68 : decode cX5_letterOfCode 68 = .ok (.ireturn, 1) := by decide +kernel
theorem dX5_letterOfCode_69 : decode cX5_letterOfCode 69 = .ok (.bipush 14, 2) := by decide +kernel
theorem dX5_letterOfCode_71 : decode cX5_letterOfCode 71 = .ok (.ireturn, 1) := by decide +kernel
theorem dX5_letterOfCode_72 : decode cX5_letterOfCode 72 = .ok (.iconst (-1), 1) := by decide +kernel
theorem dX5_letterOfCode_73 : decode cX5_letterOfCode 73 = .ok (.ireturn, 1) := by decide +kernel
theorem dX5_entry_0 : decode cX5_entry 0 = .ok (.iload_n 1, 1) := by decide +kernel
theorem dX5_entry_1 : decode cX5_entry 1 = .ok (.ifCond .lt 9, 3) := by decide +kernel
theorem dX5_entry_4 : decode cX5_entry 4 = .ok (.iload_n 1, 1) := by decide +kernel
theorem dX5_entry_5 : decode cX5_entry 5 = .ok (.aload_n 0, 1) := by decide +kernel
theorem dX5_entry_6 : decode cX5_entry 6 = .ok (.arraylength, 1) := by decide +kernel
theorem dX5_entry_7 : decode cX5_entry 7 = .ok (.if_icmp .lt 7, 3) := by decide +kernel
theorem dX5_entry_10 : decode cX5_entry 10 = .ok (.iconst (-1), 1) := by decide +kernel
theorem dX5_entry_11 : decode cX5_entry 11 = .ok (.goto 6, 3) := by decide +kernel
theorem dX5_entry_14 : decode cX5_entry 14 = .ok (.aload_n 0, 1) := by decide +kernel
theorem dX5_entry_15 : decode cX5_entry 15 = .ok (.iload_n 1, 1) := by decide +kernel
theorem dX5_entry_16 : decode cX5_entry 16 = .ok (.iaload, 1) := by decide +kernel
theorem dX5_entry_17 : decode cX5_entry 17 = .ok (.ireturn, 1) := by decide +kernel
set_option maxRecDepth 20000 in
theorem ggX5_checkOf_X2_size : GoodIn wsX5_checkOf wsX2_size := goodIn_r _ [5, 6, 12, 13] (by decide +kernel) (by decide +kernel)
set_option maxRecDepth 20000 in
theorem gX5_checkOf_X2_size : GoodIn wsX5_checkOf (wsV RX5 59 RX2 yX2_size wsX2_size) := goodIn_app (goodIn_of _ (by decide +kernel)) ggX5_checkOf_X2_size
set_option maxRecDepth 20000 in
theorem ggX5_checkOf_X2_at : GoodIn wsX5_checkOf wsX2_at := goodIn_r _ [10, 6, 11, 12, 13] (by decide +kernel) (by decide +kernel)
set_option maxRecDepth 20000 in
theorem gX5_checkOf_X2_at : GoodIn wsX5_checkOf (wsV RX5 76 RX2 yX2_at wsX2_at) := goodIn_app (goodIn_of _ (by decide +kernel)) ggX5_checkOf_X2_at
theorem dX5_checkOf_0 : decode cX5_checkOf 0 = .ok (.iconst 4, 1) := by decide +kernel
theorem dX5_checkOf_1 : decode cX5_checkOf 1 = .ok (.istore_n 1, 1) := by decide +kernel
theorem dX5_checkOf_2 : decode cX5_checkOf 2 = .ok (.iconst 0, 1) := by decide +kernel
theorem dX5_checkOf_3 : decode cX5_checkOf 3 = .ok (.istore_n 2, 1) := by decide +kernel
theorem dX5_checkOf_4 : decode cX5_checkOf 4 = .ok (.iload_n 2, 1) := by decide +kernel
theorem dX5_checkOf_5 : decode cX5_checkOf 5 = .ok (.aload_n 0, 1) := by decide +kernel
theorem dX5_checkOf_6 : decode cX5_checkOf 6 = .ok (.invokevirtual 59, 3) := by decide +kernel
theorem dX5_checkOf_9 : decode cX5_checkOf 9 = .ok (.if_icmp .ge 17, 3) := by decide +kernel
theorem dX5_checkOf_12 : decode cX5_checkOf 12 = .ok (.iload_n 1, 1) := by decide +kernel
theorem dX5_checkOf_13 : decode cX5_checkOf 13 = .ok (.aload_n 0, 1) := by decide +kernel
theorem dX5_checkOf_14 : decode cX5_checkOf 14 = .ok (.iload_n 2, 1) := by decide +kernel
theorem dX5_checkOf_15 : decode cX5_checkOf 15 = .ok (.invokevirtual 76, 3) := by decide +kernel
theorem dX5_checkOf_18 : decode cX5_checkOf 18 = .ok (.ixor, 1) := by decide +kernel
theorem dX5_checkOf_19 : decode cX5_checkOf 19 = .ok (.istore_n 1, 1) := by decide +kernel
theorem dX5_checkOf_20 : decode cX5_checkOf 20 = .ok (.iinc 2 1, 3) := by decide +kernel
theorem dX5_checkOf_23 : decode cX5_checkOf 23 = .ok (.goto (-19), 3) := by decide +kernel
theorem dX5_checkOf_26 : decode cX5_checkOf 26 = .ok (.iload_n 1, 1) := by decide +kernel
theorem dX5_checkOf_27 : decode cX5_checkOf 27 = .ok (.ireturn, 1) := by decide +kernel
