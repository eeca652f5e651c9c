theorem dX6_init_0 : decode cX6_init 0 = .ok (.aload_n 0, 1) := by decide +kernel
theorem dX6_init_1 : decode cX6_init 1 = .ok (.invokespecial 1, 3) := by decide +kernel
theorem dX6_init_4 : decode cX6_init 4 = .ok (.aload_n 0, 1) := by decide +kernel
theorem dX6_init_5 : decode cX6_init 5 = .ok (.sipush 226, 3) := by decide +kernel
theorem dX6_init_8 : decode cX6_init 8 = .ok (.newarray .int, 2) := by decide +kernel
theorem dX6_init_10 : decode cX6_init 10 = .ok (.putfield 7, 3) := by decide +kernel
theorem dX6_init_13 : decode cX6_init 13 = .ok (.aload_n 0, 1) := by decide +kernel
theorem dX6_init_14 : decode cX6_init 14 = .ok (.sipush 226, 3) := by decide +kernel
theorem dX6_init_17 : decode cX6_init 17 = .ok (.newarray .int, 2) := by decide +kernel
theorem dX6_init_19 : decode cX6_init 19 = .ok (.putfield 13, 3) := by decide +kernel
theorem dX6_init_22 : decode cX6_init 22 = .ok (.aload_n 0, 1) := by decide +kernel
theorem dX6_init_23 : decode cX6_init 23 = .ok (.sipush 1356, 3) := by decide +kernel
theorem dX6_init_26 : decode cX6_init 26 = .ok (.newarray .int, 2) := by decide +kernel
theorem dX6_init_28 : decode cX6_init 28 = .ok (.putfield 16, 3) := by decide +kernel
theorem dX6_init_31 : decode cX6_init 31 = .ok (.aload_n 0, 1) := by decide +kernel
theorem dX6_init_32 : decode cX6_init 32 = .ok (.sipush 452, 3) := by decide +kernel
theorem dX6_init_35 : decode cX6_init 35 = .ok (.newarray .int, 2) := by decide +kernel
theorem dX6_init_37 : decode cX6_init 37 = .ok (.putfield 19, 3) := by decide +kernel
theorem dX6_init_40 : decode cX6_init 40 = .ok (.aload_n 0, 1) := by decide +kernel
theorem dX6_init_41 : decode cX6_init 41 = .ok (.iconst 2, 1) := by decide +kernel
theorem dX6_init_42 : decode cX6_init 42 = .ok (.newarray .boolean, 2) := by decide +kernel
theorem dX6_init_44 : decode cX6_init 44 = .ok (.putfield 22, 3) := by decide +kernel
theorem dX6_init_47 : decode cX6_init 47 = .ok (.aload_n 0, 1) := by decide +kernel
theorem dX6_init_48 : decode cX6_init 48 = .ok (.bipush 40, 2) := by decide +kernel
theorem dX6_init_50 : decode cX6_init 50 = .ok (.newarray .int, 2) := by decide +kernel
theorem dX6_init_52 : decode cX6_init 52 = .ok (.putfield 26, 3) := by decide +kernel
theorem dX6_init_55 : decode cX6_init 55 = .ok (.aload_n 0, 1) := by decide +kernel
theorem dX6_init_56 : decode cX6_init 56 = .ok (.sipush 200, 3) := by decide +kernel
theorem dX6_init_59 : decode cX6_init 59 = .ok (.newarray .int, 2) := by decide +kernel
theorem dX6_init_61 : decode cX6_init 61 = .ok (.putfield 29, 3) := by decide +kernel
theorem dX6_init_64 : decode cX6_init 64 = .ok (.aload_n 0, 1) := by decide +kernel
theorem dX6_init_65 : decode cX6_init 65 = .ok (.bipush 40, 2) := by decide +kernel
theorem dX6_init_67 : decode cX6_init 67 = .ok (.newarray .int, 2) := by decide +kernel
theorem dX6_init_69 : decode cX6_init 69 = .ok (.putfield 32, 3) := by decide +kernel
theorem dX6_init_72 : decode cX6_init 72 = .ok (.aload_n 0, 1) := by decide +kernel
theorem dX6_init_73 : decode cX6_init 73 = .ok (.bipush 20, 2) := by decide +kernel
theorem dX6_init_75 : decode cX6_init 75 = .ok (.newarray .int, 2) := by decide +kernel
theorem dX6_init_77 : decode cX6_init 77 = .ok (.putfield 35, 3) := by decide +kernel
theorem dX6_init_80 : decode cX6_init 80 = .ok (.aload_n 0, 1) := by decide +kernel
theorem dX6_init_81 : decode cX6_init 81 = .ok (.iconst 0, 1) := by decide +kernel
theorem dX6_init_82 : decode cX6_init 82 = .ok (.putfield 38, 3) := by decide +kernel
theorem dX6_init_85 : decode cX6_init 85 = .ok (.aload_n 0, 1) := by decide +kernel
theorem dX6_init_86 : decode cX6_init 86 = .ok (.getfield 7, 3) := by decide +kernel
theorem dX6_init_89 : decode cX6_init 89 = .ok (.iconst 0, 1) := by decide +kernel
theorem dX6_init_90 : decode cX6_init 90 = .ok (.bipush 10, 2) := by decide +kernel
theorem dX6_init_92 : decode cX6_init 92 = .ok (.iastore, 1) := by decide +kernel
theorem dX6_init_93 : decode cX6_init 93 = .ok (.aload_n 0, 1) := by decide +kernel
theorem dX6_init_94 : decode cX6_init 94 = .ok (.getfield 7, 3) := by decide +kernel
theorem dX6_init_97 : decode cX6_init 97 = .ok (.iconst 1, 1) := by decide +kernel
theorem dX6_init_98 : decode cX6_init 98 = .ok (.bipush 75, 2) := by decide +kernel
theorem dX6_init_100 : decode cX6_init 100 = .ok (.iastore, 1) := by decide +kernel
theorem dX6_init_101 : decode cX6_init 101 = .ok (.aload_n 0, 1) := by decide +kernel
theorem dX6_init_102 : decode cX6_init 102 = .ok (.getfield 7, 3) := by decide +kernel
theorem dX6_init_105 : decode cX6_init 105 = .ok (.iconst 2, 1) := by decide +kernel
theorem dX6_init_106 : decode cX6_init 106 = .ok (.bipush 50, 2) := by decide +kernel
theorem dX6_init_108 : decode cX6_init 108 = .ok (.iastore, 1) := by decide +kernel
theorem dX6_init_109 : decode cX6_init 109 = .ok (.return_, 1) := by decide +kernel
theorem dX6_thrown_0 : decode cX6_thrown 0 = .ok (.aload_n 0, 1) := by decide +kernel
theorem dX6_thrown_1 : decode cX6_thrown 1 = .ok (.getfield 38, 3) := by decide +kernel
theorem dX6_thrown_4 : decode cX6_thrown 4 = .ok (.ireturn, 1) := by decide +kernel
theorem dX6_in_0 : decode cX6_in 0 = .ok (.iload_n 0, 1) := by decide +kernel
theorem dX6_in_1 : decode cX6_in 1 = .ok (.iload_n 1, 1) := by decide +kernel
theorem dX6_in_2 : decode cX6_in 2 = .ok (.if_icmp .lt 12, 3) := by decide +kernel
theorem dX6_in_5 : decode cX6_in 5 = .ok (.iload_n 0, 1) := by decide +kernel
theorem dX6_in_6 : decode cX6_in 6 = .ok (.iload_n 2, 1) := by decide +kernel
theorem dX6_in_7 : decode cX6_in 7 = .ok (.if_icmp .gt 7, 3) := by decide +kernel
theorem dX6_in_10 : decode cX6_in 10 = .ok (.iconst 1, 1) := by decide +kernel
theorem dX6_in_11 : decode cX6_in 11 = .ok (.goto 4, 3) := by decide +kernel
theorem dX6_in_14 : decode cX6_in 14 = .ok (.iconst 0, 1) := by decide +kernel
theorem dX6_in_15 : decode cX6_in 15 = .ok (.ireturn, 1) := by decide +kernel
theorem dX6_fails_0 : decode cX6_fails 0 = .ok (.aload_n 0, 1) := by decide +kernel
theorem dX6_fails_1 : decode cX6_fails 1 = .ok (.iload_n 1, 1) := by decide +kernel
theorem dX6_fails_2 : decode cX6_fails 2 = .ok (.putfield 38, 3) := by decide +kernel
theorem dX6_fails_5 : decode cX6_fails 5 = .ok (.iconst 0, 1) := by decide +kernel
theorem dX6_fails_6 : decode cX6_fails 6 = .ok (.ireturn, 1) := by decide +kernel
theorem dX6_saves_0 : decode cX6_saves 0 = .ok (.aload_n 0, 1) := by decide +kernel
theorem dX6_saves_1 : decode cX6_saves 1 = .ok (.getfield 42, 3) := by decide +kernel
theorem dX6_saves_4 : decode cX6_saves 4 = .ok (.bipush 6, 2) := by decide +kernel
theorem dX6_saves_6 : decode cX6_saves 6 = .ok (.if_icmp .ne 44, 3) := by decide +kernel
theorem dX6_saves_9 : decode cX6_saves 9 = .ok (.iconst 0, 1) := by decide +kernel
theorem dX6_saves_10 : decode cX6_saves 10 = .ok (.istore_n 1, 1) := by decide +kernel
theorem dX6_saves_11 : decode cX6_saves 11 = .ok (.iload_n 1, 1) := by decide +kernel
theorem dX6_saves_12 : decode cX6_saves 12 = .ok (.sipush 1130, 3) := by decide +kernel
theorem dX6_saves_15 : decode cX6_saves 15 = .ok (.if_icmp .ge 25, 3) := by decide +kernel
theorem dX6_saves_18 : decode cX6_saves 18 = .ok (.aload_n 0, 1) := by decide +kernel
theorem dX6_saves_19 : decode cX6_saves 19 = .ok (.getfield 16, 3) := by decide +kernel
theorem dX6_saves_22 : decode cX6_saves 22 = .ok (.iload_n 1, 1) := by decide +kernel
theorem dX6_saves_23 : decode cX6_saves 23 = .ok (.aload_n 0, 1) := by decide +kernel
theorem dX6_saves_24 : decode cX6_saves 24 = .ok (.getfield 16, 3) := by decide +kernel
theorem dX6_saves_27 : decode cX6_saves 27 = .ok (.iload_n 1, 1) := by decide +kernel
theorem dX6_saves_28 : decode cX6_saves 28 = .ok (.sipush 226, 3) := by decide +kernel
theorem dX6_saves_31 : decode cX6_saves 31 = .ok (.iadd, 1) := by decide +kernel
theorem dX6_saves_32 : decode cX6_saves 32 = .ok (.iaload, 1) := by decide +kernel
theorem dX6_saves_33 : decode cX6_saves 33 = .ok (.iastore, 1) := by decide +kernel
theorem dX6_saves_34 : decode cX6_saves 34 = .ok (.iinc 1 1, 3) := by decide +kernel
theorem dX6_saves_37 : decode cX6_saves 37 = .ok (.goto (-26), 3) := by decide +kernel
theorem dX6_saves_40 : decode cX6_saves 40 = .ok (.aload_n 0, 1) := by decide +kernel
theorem dX6_saves_41 : decode cX6_saves 41 = .ok (.dup, 1) := by decide +kernel
theorem dX6_saves_42 : decode cX6_saves 42 = .ok (.getfield 42, 3) := by decide +kernel
theorem dX6_saves_45 : decode cX6_saves 45 = .ok (.iconst 1, 1) := by decide +kernel
theorem dX6_saves_46 : decode cX6_saves 46 = .ok (.isub, 1) := by decide +kernel
theorem dX6_saves_47 : decode cX6_saves 47 = .ok (.putfield 42, 3) := by decide +kernel
theorem dX6_saves_50 : decode cX6_saves 50 = .ok (.iconst 0, 1) := by decide +kernel
theorem dX6_saves_51 : decode cX6_saves 51 = .ok (.istore_n 1, 1) := by decide +kernel
theorem dX6_saves_52 : decode cX6_saves 52 = .ok (.iload_n 1, 1) := by decide +kernel
theorem dX6_saves_53 : decode cX6_saves 53 = .ok (.sipush 226, 3) := by decide +kernel
theorem dX6_saves_56 : decode cX6_saves 56 = .ok (.if_icmp .ge 30, 3) := by decide +kernel
theorem dX6_saves_59 : decode cX6_saves 59 = .ok (.aload_n 0, 1) := by decide +kernel
theorem dX6_saves_60 : decode cX6_saves 60 = .ok (.getfield 16, 3) := by decide +kernel
theorem dX6_saves_63 : decode cX6_saves 63 = .ok (.sipush 226, 3) := by decide +kernel
theorem dX6_saves_66 : decode cX6_saves 66 = .ok (.aload_n 0, 1) := by decide +kernel
theorem dX6_saves_67 : decode cX6_saves 67 = .ok (.getfield 42, 3) := by decide +kernel
theorem dX6_saves_70 : decode cX6_saves 70 = .ok (.imul, 1) := by decide +kernel
theorem dX6_saves_71 : decode cX6_saves 71 = .ok (.iload_n 1, 1) := by decide +kernel
theorem dX6_saves_72 : decode cX6_saves 72 = .ok (.iadd, 1) := by decide +kernel
theorem dX6_saves_73 : decode cX6_saves 73 = .ok (.aload_n 0, 1) := by decide +kernel
theorem dX6_saves_74 : decode cX6_saves 74 = .ok (.getfield 7, 3) := by decide +kernel
theorem dX6_saves_77 : decode cX6_saves 77 = .ok (.iload_n 1, 1) := by decide +kernel
theorem dX6_saves_78 : decode cX6_saves 78 = .ok (.iaload, 1) := by decide +kernel
theorem dX6_saves_79 : decode cX6_saves 79 = .ok (.iastore, 1) := by decide +kernel
theorem dX6_saves_80 : decode cX6_saves 80 = .ok (.iinc 1 1, 3) := by decide +kernel
theorem dX6_saves_83 : decode cX6_saves 83 = .ok (.goto (-31), 3) := by decide +kernel
theorem dX6_saves_86 : decode cX6_saves 86 = .ok (.aload_n 0, 1) := by decide +kernel
theorem dX6_saves_87 : decode cX6_saves 87 = .ok (.dup, 1) := by decide +kernel
theorem dX6_saves_88 : decode cX6_saves 88 = .ok (.getfield 42, 3) := by decide +kernel
theorem dX6_saves_91 : decode cX6_saves 91 = .ok (.iconst 1, 1) := by decide +kernel
theorem dX6_saves_92 : decode cX6_saves 92 = .ok (.iadd, 1) := by decide +kernel
theorem dX6_saves_93 : decode cX6_saves 93 = .ok (.putfield 42, 3) := by decide +kernel
theorem dX6_saves_96 : decode cX6_saves 96 = .ok (.return_, 1) := by decide +kernel
theorem dX6_putAside_0 : decode cX6_putAside 0 = .ok (.iconst 0, 1) := by decide +kernel
theorem dX6_putAside_1 : decode cX6_putAside 1 = .ok (.istore_n 1, 1) := by decide +kernel
theorem dX6_putAside_2 : decode cX6_putAside 2 = .ok (.iload_n 1, 1) := by decide +kernel
theorem dX6_putAside_3 : decode cX6_putAside 3 = .ok (.sipush 226, 3) := by decide +kernel
theorem dX6_putAside_6 : decode cX6_putAside 6 = .ok (.if_icmp .ge 21, 3) := by decide +kernel
theorem dX6_putAside_9 : decode cX6_putAside 9 = .ok (.aload_n 0, 1) := by decide +kernel
theorem dX6_putAside_10 : decode cX6_putAside 10 = .ok (.getfield 13, 3) := by decide +kernel
theorem dX6_putAside_13 : decode cX6_putAside 13 = .ok (.iload_n 1, 1) := by decide +kernel
theorem dX6_putAside_14 : decode cX6_putAside 14 = .ok (.aload_n 0, 1) := by decide +kernel
theorem dX6_putAside_15 : decode cX6_putAside 15 = .ok (.getfield 7, 3) := by decide +kernel
theorem dX6_putAside_18 : decode cX6_putAside 18 = .ok (.iload_n 1, 1) := by decide +kernel
theorem dX6_putAside_19 : decode cX6_putAside 19 = .ok (.iaload, 1) := by decide +kernel
theorem dX6_putAside_20 : decode cX6_putAside 20 = .ok (.iastore, 1) := by decide +kernel
theorem dX6_putAside_21 : decode cX6_putAside 21 = .ok (.iinc 1 1, 3) := by decide +kernel
theorem dX6_putAside_24 : decode cX6_putAside 24 = .ok (.goto (-22), 3) := by decide +kernel
theorem dX6_putAside_27 : decode cX6_putAside 27 = .ok (.return_, 1) := by decide +kernel
theorem dX6_takeBack_0 : decode cX6_takeBack 0 = .ok (.iconst 0, 1) := by decide +kernel
theorem dX6_takeBack_1 : decode cX6_takeBack 1 = .ok (.istore_n 1, 1) := by decide +kernel
theorem dX6_takeBack_2 : decode cX6_takeBack 2 = .ok (.iload_n 1, 1) := by decide +kernel
theorem dX6_takeBack_3 : decode cX6_takeBack 3 = .ok (.sipush 226, 3) := by decide +kernel
theorem dX6_takeBack_6 : decode cX6_takeBack 6 = .ok (.if_icmp .ge 21, 3) := by decide +kernel
theorem dX6_takeBack_9 : decode cX6_takeBack 9 = .ok (.aload_n 0, 1) := by decide +kernel
theorem dX6_takeBack_10 : decode cX6_takeBack 10 = .ok (.getfield 7, 3) := by decide +kernel
theorem dX6_takeBack_13 : decode cX6_takeBack 13 = .ok (.iload_n 1, 1) := by decide +kernel
theorem dX6_takeBack_14 : decode cX6_takeBack 14 = .ok (.aload_n 0, 1) := by decide +kernel
theorem dX6_takeBack_15 : decode cX6_takeBack 15 = .ok (.getfield 13, 3) := by decide +kernel
theorem dX6_takeBack_18 : decode cX6_takeBack 18 = .ok (.iload_n 1, 1) := by decide +kernel
theorem dX6_takeBack_19 : decode cX6_takeBack 19 = .ok (.iaload, 1) := by decide +kernel
theorem dX6_takeBack_20 : decode cX6_takeBack 20 = .ok (.iastore, 1) := by decide +kernel
theorem dX6_takeBack_21 : decode cX6_takeBack 21 = .ok (.iinc 1 1, 3) := by decide +kernel
theorem dX6_takeBack_24 : decode cX6_takeBack 24 = .ok (.goto (-22), 3) := by decide +kernel
theorem dX6_takeBack_27 : decode cX6_takeBack 27 = .ok (.return_, 1) := by decide +kernel
theorem dX6_ones_0 : decode cX6_ones 0 = .ok (.iload_n 0, 1) := by decide +kernel
theorem dX6_ones_1 : decode cX6_ones 1 = .ok (.iconst 1, 1) := by decide +kernel
theorem dX6_ones_2 : decode cX6_ones 2 = .ok (.iand, 1) := by decide +kernel
theorem dX6_ones_3 : decode cX6_ones 3 = .ok (.iload_n 0, 1) := by decide +kernel
theorem dX6_ones_4 : decode cX6_ones 4 = .ok (.iconst 1, 1) := by decide +kernel
theorem dX6_ones_5 : decode cX6_ones 5 = .ok (.ishr, 1) := by decide +kernel
theorem dX6_ones_6 : decode cX6_ones 6 = .ok (.iconst 1, 1) := by decide +kernel
theorem dX6_ones_7 : decode cX6_ones 7 = .ok (.iand, 1) := by decide +kernel
theorem dX6_ones_8 : decode cX6_ones 8 = .ok (.iadd, 1) := by decide +kernel
theorem dX6_ones_9 : decode cX6_ones 9 = .ok (.iload_n 0, 1) := by decide +kernel
theorem dX6_ones_10 : decode cX6_ones 10 = .ok (.iconst 2, 1) := by decide +kernel
theorem dX6_ones_11 : decode cX6_ones 11 = .ok (.ishr, 1) := by decide +kernel
theorem dX6_ones_12 : decode cX6_ones 12 = .ok (.iconst 1, 1) := by decide +kernel
theorem dX6_ones_13 : decode cX6_ones 13 = .ok (.iand, 1) := by decide +kernel
theorem dX6_ones_14 : decode cX6_ones 14 = .ok (.iadd, 1) := by decide +kernel
theorem dX6_ones_15 : decode cX6_ones 15 = .ok (.iload_n 0, 1) := by decide +kernel
theorem dX6_ones_16 : decode cX6_ones 16 = .ok (.iconst 3, 1) := by decide +kernel
theorem dX6_ones_17 : decode cX6_ones 17 = .ok (.ishr, 1) := by decide +kernel
theorem dX6_ones_18 : decode cX6_ones 18 = .ok (.iconst 1, 1) := by decide +kernel
theorem dX6_ones_19 : decode cX6_ones 19 = .ok (.iand, 1) := by decide +kernel
theorem dX6_ones_20 : decode cX6_ones 20 = .ok (.iadd, 1) := by decide +kernel
theorem dX6_ones_21 : decode cX6_ones 21 = .ok (.ireturn, 1) := by decide +kernel
set_option maxRecDepth 20000 in
theorem ggX6_bitOf_X6_ones : GoodIn wsX6_bitOf wsX6_ones := goodIn_r _ [4] (by decide +kernel) (by decide +kernel)
set_option maxRecDepth 20000 in
theorem gX6_bitOf_X6_ones : GoodIn wsX6_bitOf (va_wsS RX6 45 yX6_ones wsX6_ones) := goodIn_app (goodIn_of _ (by decide +kernel)) ggX6_bitOf_X6_ones
theorem dX6_bitOf_0 : decode cX6_bitOf 0 = .ok (.iload_n 1, 1) := by decide +kernel
theorem dX6_bitOf_1 : decode cX6_bitOf 1 = .ok (.iconst 4, 1) := by decide +kernel
theorem dX6_bitOf_2 : decode cX6_bitOf 2 = .ok (.if_icmp .ge 11, 3) := by decide +kernel
theorem dX6_bitOf_5 : decode cX6_bitOf 5 = .ok (.iload_n 0, 1) := by decide +kernel
theorem dX6_bitOf_6 : decode cX6_bitOf 6 = .ok (.iload_n 1, 1) := by decide +kernel
theorem dX6_bitOf_7 : decode cX6_bitOf 7 = .ok (.ishr, 1) := by decide +kernel
theorem dX6_bitOf_8 : decode cX6_bitOf 8 = .ok (.iconst 1, 1) := by decide +kernel
theorem dX6_bitOf_9 : decode cX6_bitOf 9 = .ok (.iand, 1) := by decide +kernel
theorem dX6_bitOf_10 : decode cX6_bitOf 10 = .ok (.goto 11, 3) := by decide +kernel
theorem dX6_bitOf_13 : decode cX6_bitOf 13 = .ok (.iconst 1, 1) := by decide +kernel
theorem dX6_bitOf_14 : decode cX6_bitOf 14 = .ok (.iload_n 0, 1) := by decide +kernel
theorem dX6_bitOf_15 : decode cX6_bitOf 15 = .ok (.invokestatic 45, 3) := by decide +kernel
theorem dX6_bitOf_18 : decode cX6_bitOf 18 = .ok (.iconst 2, 1) := by decide +kernel
theorem dX6_bitOf_19 : decode cX6_bitOf 19 = .ok (.irem, 1) := by decide +kernel
theorem dX6_bitOf_20 : decode cX6_bitOf 20 = .ok (.isub, 1) := by decide +kernel
theorem dX6_bitOf_21 : decode cX6_bitOf 21 = .ok (.ireturn, 1) := by decide +kernel
theorem dX6_check_0 : decode cX6_check 0 = .ok (.iconst 4, 1) := by decide +kernel
theorem dX6_check_1 : decode cX6_check 1 = .ok (.istore_n 1, 1) := by decide +kernel
theorem dX6_check_2 : decode cX6_check 2 = .ok (.iconst 0, 1) := by decide +kernel
theorem dX6_check_3 : decode cX6_check 3 = .ok (.istore_n 2, 1) := by decide +kernel
theorem dX6_check_4 : decode cX6_check 4 = .ok (.iload_n 2, 1) := by decide +kernel
theorem dX6_check_5 : decode cX6_check 5 = .ok (.aload_n 0, 1) := by decide +kernel
theorem dX6_check_6 : decode cX6_check 6 = .ok (.getfield 7, 3) := by decide +kernel
theorem dX6_check_9 : decode cX6_check 9 = .ok (.iconst 5, 1) := by decide +kernel
theorem dX6_check_10 : decode cX6_check 10 = .ok (.iaload, 1) := by decide +kernel
theorem dX6_check_11 : decode cX6_check 11 = .ok (.if_icmp .ge 21, 3) := by decide +kernel
theorem dX6_check_14 : decode cX6_check 14 = .ok (.iload_n 1, 1) := by decide +kernel
theorem dX6_check_15 : decode cX6_check 15 = .ok (.aload_n 0, 1) := by decide +kernel
theorem dX6_check_16 : decode cX6_check 16 = .ok (.getfield 7, 3) := by decide +kernel
theorem dX6_check_19 : decode cX6_check 19 = .ok (.bipush 6, 2) := by decide +kernel
theorem dX6_check_21 : decode cX6_check 21 = .ok (.iload_n 2, 1) := by decide +kernel
theorem dX6_check_22 : decode cX6_check 22 = .ok (.iadd, 1) := by decide +kernel
theorem dX6_check_23 : decode cX6_check 23 = .ok (.iaload, 1) := by decide +kernel
theorem dX6_check_24 : decode cX6_check 24 = .ok (.ixor, 1) := by decide +kernel
theorem dX6_check_25 : decode cX6_check 25 = .ok (.istore_n 1, 1) := by decide +kernel
theorem dX6_check_26 : decode cX6_check 26 = .ok (.iinc 2 1, 3) := by decide +kernel
theorem dX6_check_29 : decode cX6_check 29 = .ok (.goto (-25), 3) := by decide +kernel
theorem dX6_check_32 : decode cX6_check 32 = .ok (.iload_n 1, 1) := by decide +kernel
theorem dX6_check_33 : decode cX6_check 33 = .ok (.ireturn, 1) := by decide +kernel
set_option maxRecDepth 20000 in
theorem ggX6_numberAt_X6_check : GoodIn wsX6_numberAt wsX6_check := goodIn_r _ [6, 1, 7, 8, 9, 10, 11, 12, 13, 14, 15, 16, 17, 18, 19, 20, 21, 22, 23, 24, 25, 26, 27] (by decide +kernel) (by decide +kernel)
set_option maxRecDepth 20000 in
theorem gX6_numberAt_X6_check : GoodIn wsX6_numberAt (wsV RX6 49 RX6 yX6_check wsX6_check) := goodIn_app (goodIn_of _ (by decide +kernel)) ggX6_numberAt_X6_check
theorem dX6_numberAt_0 : decode cX6_numberAt 0 = .ok (.iload_n 1, 1) := by decide +kernel
theorem dX6_numberAt_1 : decode cX6_numberAt 1 = .ok (.ifCond .ne 8, 3) := by decide +kernel
theorem dX6_numberAt_4 : decode cX6_numberAt 4 = .ok (.bipush 11, 2) := by decide +kernel
theorem dX6_numberAt_6 : decode cX6_numberAt 6 = .ok (.goto 48, 3) := by decide +kernel
theorem dX6_numberAt_9 : decode cX6_numberAt 9 = .ok (.iload_n 1, 1) := by decide +kernel
theorem dX6_numberAt_10 : decode cX6_numberAt 10 = .ok (.aload_n 0, 1) := by decide +kernel
theorem dX6_numberAt_11 : decode cX6_numberAt 11 = .ok (.getfield 7, 3) := by decide +kernel
theorem dX6_numberAt_14 : decode cX6_numberAt 14 = .ok (.iconst 5, 1) := by decide +kernel
theorem dX6_numberAt_15 : decode cX6_numberAt 15 = .ok (.iaload, 1) := by decide +kernel
theorem dX6_numberAt_16 : decode cX6_numberAt 16 = .ok (.if_icmp .gt 17, 3) := by decide +kernel
theorem dX6_numberAt_19 : decode cX6_numberAt 19 = .ok (.aload_n 0, 1) := by decide +kernel
theorem dX6_numberAt_20 : decode cX6_numberAt 20 = .ok (.getfield 7, 3) := by decide +kernel
theorem dX6_numberAt_23 : decode cX6_numberAt 23 = .ok (.bipush 6, 2) := by decide +kernel
theorem dX6_numberAt_25 : decode cX6_numberAt 25 = .ok (.iload_n 1, 1) := by decide +kernel
theorem dX6_numberAt_26 : decode cX6_numberAt 26 = .ok (.iadd, 1) := by decide +kernel
theorem dX6_numberAt_27 : decode cX6_numberAt 27 = .ok (.iconst 1, 1) := by decide +kernel
theorem dX6_numberAt_28 : decode cX6_numberAt 28 = .ok (.isub, 1) := by decide +kernel
theorem dX6_numberAt_29 : decode cX6_numberAt 29 = .ok (.iaload, 1) := by decide +kernel
theorem dX6_numberAt_30 : decode cX6_numberAt 30 = .ok (.goto 24, 3) := by decide +kernel
theorem dX6_numberAt_33 : decode cX6_numberAt 33 = .ok (.iload_n 1, 1) := by decide +kernel
theorem dX6_numberAt_34 : decode cX6_numberAt 34 = .ok (.aload_n 0, 1) := by decide +kernel
theorem dX6_numberAt_35 : decode cX6_numberAt 35 = .ok (.getfield 7, 3) := by decide +kernel
theorem dX6_numberAt_38 : decode cX6_numberAt 38 = .ok (.iconst 5, 1) := by decide +kernel
theorem dX6_numberAt_39 : decode cX6_numberAt 39 = .ok (.iaload, 1) := by decide +kernel
theorem dX6_numberAt_40 : decode cX6_numberAt 40 = .ok (.iconst 1, 1) := by decide +kernel
theorem dX6_numberAt_41 : decode cX6_numberAt 41 = .ok (.iadd, 1) := by decide +kernel
theorem dX6_numberAt_42 : decode cX6_numberAt 42 = .ok (.if_icmp .ne 8, 3) := by decide +kernel
theorem dX6_numberAt_45 : decode cX6_numberAt 45 = .ok (.bipush 15, 2) := by decide +kernel
theorem dX6_numberAt_47 : decode cX6_numberAt 47 = .ok (.goto 7, 3) := by decide +kernel
theorem dX6_numberAt_50 : decode cX6_numberAt 50 = .ok (.aload_n 0, 1) := by decide +kernel
theorem dX6_numberAt_51 : decode cX6_numberAt 51 = .ok (.invokevirtual 49, 3) := by decide +kernel
theorem dX6_numberAt_54 : decode cX6_numberAt 54 = .ok (.ireturn, 1) := by decide +kernel
theorem dX6_stripeMany_0 : decode cX6_stripeMany 0 = .ok (.iconst 2, 1) := by decide +kernel
theorem dX6_stripeMany_1 : decode cX6_stripeMany 1 = .ok (.aload_n 0, 1) := by decide +kernel
theorem dX6_stripeMany_2 : decode cX6_stripeMany 2 = .ok (.getfield 7, 3) := by decide +kernel
theorem dX6_stripeMany_5 : decode cX6_stripeMany 5 = .ok (.iconst 0, 1) := by decide +kernel
theorem dX6_stripeMany_6 : decode cX6_stripeMany 6 = .ok (.iaload, 1) := by decide +kernel
theorem dX6_stripeMany_7 : decode cX6_stripeMany 7 = .ok (.imul, 1) := by decide +kernel
theorem dX6_stripeMany_8 : decode cX6_stripeMany 8 = .ok (.iconst 5, 1) := by decide +kernel
theorem dX6_stripeMany_9 : decode cX6_stripeMany 9 = .ok (.aload_n 0, 1) := by decide +kernel
theorem dX6_stripeMany_10 : decode cX6_stripeMany 10 = .ok (.getfield 7, 3) := by decide +kernel
theorem dX6_stripeMany_13 : decode cX6_stripeMany 13 = .ok (.iconst 5, 1) := by decide +kernel
theorem dX6_stripeMany_14 : decode cX6_stripeMany 14 = .ok (.iaload, 1) := by decide +kernel
theorem dX6_stripeMany_15 : decode cX6_stripeMany 15 = .ok (.iconst 3, 1) := by decide +kernel
theorem dX6_stripeMany_16 : decode cX6_stripeMany 16 = .ok (.iadd, 1) := by decide +kernel
theorem dX6_stripeMany_17 : decode cX6_stripeMany 17 = .ok (.imul, 1) := by decide +kernel
theorem dX6_stripeMany_18 : decode cX6_stripeMany 18 = .ok (.iadd, 1) := by decide +kernel
theorem dX6_stripeMany_19 : decode cX6_stripeMany 19 = .ok (.ireturn, 1) := by decide +kernel
set_option maxRecDepth 20000 in
theorem ggX6_stripeBit_X6_in : GoodIn wsX6_stripeBit wsX6_in := goodIn_r _ [5] (by decide +kernel) (by decide +kernel)
set_option maxRecDepth 20000 in
theorem gX6_stripeBit_X6_in : GoodIn wsX6_stripeBit (va_wsS RX6 53 yX6_in wsX6_in) := goodIn_app (goodIn_of _ (by decide +kernel)) ggX6_stripeBit_X6_in
set_option maxRecDepth 20000 in
theorem ggX6_stripeBit_X6_numberAt : GoodIn wsX6_stripeBit wsX6_numberAt := goodIn_r _ [9, 1, 10, 11, 12, 4, 13, 20, 21, 22, 23, 24, 25, 26, 27, 28, 29, 30, 31, 32, 33, 34, 35, 36, 37, 38, 39, 40] (by decide +kernel) (by decide +kernel)
set_option maxRecDepth 20000 in
theorem gX6_stripeBit_X6_numberAt : GoodIn wsX6_stripeBit (wsV RX6 57 RX6 yX6_numberAt wsX6_numberAt) := goodIn_app (goodIn_of _ (by decide +kernel)) ggX6_stripeBit_X6_numberAt
set_option maxRecDepth 20000 in
theorem ggX6_stripeBit_X6_bitOf : GoodIn wsX6_stripeBit wsX6_bitOf := goodIn_r _ [16, 17, 18, 4, 19] (by decide +kernel) (by decide +kernel)
set_option maxRecDepth 20000 in
theorem gX6_stripeBit_X6_bitOf : GoodIn wsX6_stripeBit (va_wsS RX6 60 yX6_bitOf wsX6_bitOf) := goodIn_app (goodIn_of _ (by decide +kernel)) ggX6_stripeBit_X6_bitOf
theorem dX6_stripeBit_0 : decode cX6_stripeBit 0 = .ok (.iload_n 1, 1) := by decide +kernel
theorem dX6_stripeBit_1 : decode cX6_stripeBit 1 = .ok (.aload_n 0, 1) := by decide +kernel
theorem dX6_stripeBit_2 : decode cX6_stripeBit 2 = .ok (.getfield 7, 3) := by decide +kernel
theorem dX6_stripeBit_5 : decode cX6_stripeBit 5 = .ok (.iconst 0, 1) := by decide +kernel
theorem dX6_stripeBit_6 : decode cX6_stripeBit 6 = .ok (.iaload, 1) := by decide +kernel
theorem dX6_stripeBit_7 : decode cX6_stripeBit 7 = .ok (.isub, 1) := by decide +kernel
theorem dX6_stripeBit_8 : decode cX6_stripeBit 8 = .ok (.istore_n 2, 1) := by decide +kernel
theorem dX6_stripeBit_9 : decode cX6_stripeBit 9 = .ok (.iload_n 2, 1) := by decide +kernel
theorem dX6_stripeBit_10 : decode cX6_stripeBit 10 = .ok (.iconst 0, 1) := by decide +kernel
theorem dX6_stripeBit_11 : decode cX6_stripeBit 11 = .ok (.iconst 5, 1) := by decide +kernel
theorem dX6_stripeBit_12 : decode cX6_stripeBit 12 = .ok (.aload_n 0, 1) := by decide +kernel
theorem dX6_stripeBit_13 : decode cX6_stripeBit 13 = .ok (.getfield 7, 3) := by decide +kernel
theorem dX6_stripeBit_16 : decode cX6_stripeBit 16 = .ok (.iconst 5, 1) := by decide +kernel
theorem dX6_stripeBit_17 : decode cX6_stripeBit 17 = .ok (.iaload, 1) := by decide +kernel
theorem dX6_stripeBit_18 : decode cX6_stripeBit 18 = .ok (.iconst 3, 1) := by decide +kernel
theorem dX6_stripeBit_19 : decode cX6_stripeBit 19 = .ok (.iadd, 1) := by decide +kernel
theorem dX6_stripeBit_20 : decode cX6_stripeBit 20 = .ok (.imul, 1) := by decide +kernel
theorem dX6_stripeBit_21 : decode cX6_stripeBit 21 = .ok (.iconst 1, 1) := by decide +kernel
theorem dX6_stripeBit_22 : decode cX6_stripeBit 22 = .ok (.isub, 1) := by decide +kernel
theorem dX6_stripeBit_23 : decode cX6_stripeBit 23 = .ok (.invokestatic 53, 3) := by decide +kernel
theorem dX6_stripeBit_26 : decode cX6_stripeBit 26 = .ok (.ifCond .eq 19, 3) := by decide +kernel
theorem dX6_stripeBit_29 : decode cX6_stripeBit 29 = .ok (.aload_n 0, 1) := by decide +kernel
theorem dX6_stripeBit_30 : decode cX6_stripeBit 30 = .ok (.iload_n 2, 1) := by decide +kernel
theorem dX6_stripeBit_31 : decode cX6_stripeBit 31 = .ok (.iconst 5, 1) := by decide +kernel
theorem dX6_stripeBit_32 : decode cX6_stripeBit 32 = .ok (.idiv, 1) := by decide +kernel
theorem dX6_stripeBit_33 : decode cX6_stripeBit 33 = .ok (.invokevirtual 57, 3) := by decide +kernel
theorem dX6_stripeBit_36 : decode cX6_stripeBit 36 = .ok (.iload_n 2, 1) := by decide +kernel
theorem dX6_stripeBit_37 : decode cX6_stripeBit 37 = .ok (.iconst 5, 1) := by decide +kernel
theorem dX6_stripeBit_38 : decode cX6_stripeBit 38 = .ok (.irem, 1) := by decide +kernel
theorem dX6_stripeBit_39 : decode cX6_stripeBit 39 = .ok (.invokestatic 60, 3) := by decide +kernel
theorem dX6_stripeBit_42 : decode cX6_stripeBit 42 = .ok (.goto 4, 3) := by decide +kernel
theorem dX6_stripeBit_45 : decode cX6_stripeBit 45 = .ok (.iconst 0, 1) := by decide +kernel
theorem dX6_stripeBit_46 : decode cX6_stripeBit 46 = .ok (.ireturn, 1) := by decide +kernel
set_option maxRecDepth 20000 in
theorem ggX6_swipeMany_X6_stripeMany : GoodIn wsX6_swipeMany wsX6_stripeMany := goodIn_r _ [5, 6, 28, 29, 30, 31, 32, 33, 34, 35, 36, 37, 38, 39, 40, 41, 42, 43, 44, 45, 46, 47, 48] (by decide +kernel) (by decide +kernel)
set_option maxRecDepth 20000 in
theorem gX6_swipeMany_X6_stripeMany : GoodIn wsX6_swipeMany (wsV RX6 64 RX6 yX6_stripeMany wsX6_stripeMany) := goodIn_app (goodIn_of _ (by decide +kernel)) ggX6_swipeMany_X6_stripeMany
set_option maxRecDepth 20000 in
theorem ggX6_swipeMany_X6_stripeBit : GoodIn wsX6_swipeMany wsX6_stripeBit := goodIn_r _ [10, 6, 11, 12, 4, 13, 14, 15, 16, 17, 18, 19, 20, 21, 22, 23, 24, 25, 26, 27, 28, 29, 30, 31, 32, 33, 34, 35, 36, 37, 38, 39, 40, 41, 42, 43, 44, 45, 46, 47, 48] (by decide +kernel) (by decide +kernel)
set_option maxRecDepth 20000 in
theorem gX6_swipeMany_X6_stripeBit : GoodIn wsX6_swipeMany (wsV RX6 67 RX6 yX6_stripeBit wsX6_stripeBit) := goodIn_app (goodIn_of _ (by decide +kernel)) ggX6_swipeMany_X6_stripeBit
theorem dX6_swipeMany_0 : decode cX6_swipeMany 0 = .ok (.iconst 0, 1) := by decide +kernel
theorem dX6_swipeMany_1 : decode cX6_swipeMany 1 = .ok (.istore_n 1, 1) := by decide +kernel
theorem dX6_swipeMany_2 : decode cX6_swipeMany 2 = .ok (.iconst 0, 1) := by decide +kernel
theorem dX6_swipeMany_3 : decode cX6_swipeMany 3 = .ok (.istore_n 2, 1) := by decide +kernel
theorem dX6_swipeMany_4 : decode cX6_swipeMany 4 = .ok (.iload_n 2, 1) := by decide +kernel
theorem dX6_swipeMany_5 : decode cX6_swipeMany 5 = .ok (.aload_n 0, 1) := by decide +kernel
theorem dX6_swipeMany_6 : decode cX6_swipeMany 6 = .ok (.invokevirtual 64, 3) := by decide +kernel
theorem dX6_swipeMany_9 : decode cX6_swipeMany 9 = .ok (.if_icmp .ge 19, 3) := by decide +kernel
theorem dX6_swipeMany_12 : decode cX6_swipeMany 12 = .ok (.iload_n 1, 1) := by decide +kernel
theorem dX6_swipeMany_13 : decode cX6_swipeMany 13 = .ok (.iconst 1, 1) := by decide +kernel
theorem dX6_swipeMany_14 : decode cX6_swipeMany 14 = .ok (.aload_n 0, 1) := by decide +kernel
theorem dX6_swipeMany_15 : decode cX6_swipeMany 15 = .ok (.iload_n 2, 1) := by decide +kernel
theorem dX6_swipeMany_16 : decode cX6_swipeMany 16 = .ok (.invokevirtual 67, 3) := by decide +kernel
theorem dX6_swipeMany_19 : decode cX6_swipeMany 19 = .ok (.iadd, 1) := by decide +kernel
theorem dX6_swipeMany_20 : decode cX6_swipeMany 20 = .ok (.iadd, 1) := by decide +kernel
theorem dX6_swipeMany_21 : decode cX6_swipeMany 21 = .ok (.istore_n 1, 1) := by decide +kernel
theorem dX6_swipeMany_22 : decode cX6_swipeMany 22 = .ok (.iinc 2 1, 3) := by decide +kernel
theorem dX6_swipeMany_25 : decode cX6_swipeMany 25 = .ok (.goto (-21), 3) := by decide +kernel
theorem dX6_swipeMany_28 : decode cX6_swipeMany 28 = .ok (.iload_n 1, 1) := by decide +kernel
theorem dX6_swipeMany_29 : decode cX6_swipeMany 29 = .ok (.ireturn, 1) := by decide +kernel
set_option maxRecDepth 20000 in
theorem ggX6_swipes_X6_stripeMany : GoodIn wsX6_swipes wsX6_stripeMany := goodIn_r _ [6, 1, 28, 29, 30, 31, 32, 33, 34, 35, 36, 37, 38, 39, 40, 41, 42, 43, 44, 45, 46, 47, 48] (by decide +kernel) (by decide +kernel)
set_option maxRecDepth 20000 in
theorem gX6_swipes_X6_stripeMany : GoodIn wsX6_swipes (wsV RX6 64 RX6 yX6_stripeMany wsX6_stripeMany) := goodIn_app (goodIn_of _ (by decide +kernel)) ggX6_swipes_X6_stripeMany
set_option maxRecDepth 20000 in
theorem ggX6_swipes_X6_stripeBit : GoodIn wsX6_swipes wsX6_stripeBit := goodIn_r _ [10, 1, 11, 12, 5, 13, 14, 15, 16, 17, 18, 19, 20, 21, 22, 23, 24, 25, 26, 27, 28, 29, 30, 31, 32, 33, 34, 35, 36, 37, 38, 39, 40, 41, 42, 43, 44, 45, 46, 47, 48] (by decide +kernel) (by decide +kernel)
set_option maxRecDepth 20000 in
theorem gX6_swipes_X6_stripeBit : GoodIn wsX6_swipes (wsV RX6 67 RX6 yX6_stripeBit wsX6_stripeBit) := goodIn_app (goodIn_of _ (by decide +kernel)) ggX6_swipes_X6_stripeBit
theorem dX6_swipes_0 : decode cX6_swipes 0 = .ok (.iconst 0, 1) := by decide +kernel
theorem dX6_swipes_1 : decode cX6_swipes 1 = .ok (.istore_n 1, 1) := by decide +kernel
theorem dX6_swipes_2 : decode cX6_swipes 2 = .ok (.iload_n 1, 1) := by decide +kernel
theorem dX6_swipes_3 : decode cX6_swipes 3 = .ok (.sipush 200, 3) := by decide +kernel
theorem dX6_swipes_6 : decode cX6_swipes 6 = .ok (.if_icmp .ge 19, 3) := by decide +kernel
theorem dX6_swipes_9 : decode cX6_swipes 9 = .ok (.aload_n 0, 1) := by decide +kernel
theorem dX6_swipes_10 : decode cX6_swipes 10 = .ok (.getfield 7, 3) := by decide +kernel
theorem dX6_swipes_13 : decode cX6_swipes 13 = .ok (.bipush 26, 2) := by decide +kernel
theorem dX6_swipes_15 : decode cX6_swipes 15 = .ok (.iload_n 1, 1) := by decide +kernel
theorem dX6_swipes_16 : decode cX6_swipes 16 = .ok (.iadd, 1) := by decide +kernel
theorem dX6_swipes_17 : decode cX6_swipes 17 = .ok (.iconst 0, 1) := by decide +kernel
theorem dX6_swipes_18 : decode cX6_swipes 18 = .ok (.iastore, 1) := by decide +kernel
theorem dX6_swipes_19 : decode cX6_swipes 19 = .ok (.iinc 1 1, 3) := by decide +kernel
theorem dX6_swipes_22 : decode cX6_swipes 22 = .ok (.goto (-20), 3) := by decide +kernel
theorem dX6_swipes_25 : decode cX6_swipes 25 = .ok (.iconst 0, 1) := by decide +kernel
theorem dX6_swipes_26 : decode cX6_swipes 26 = .ok (.istore_n 1, 1) := by decide +kernel
theorem dX6_swipes_27 : decode cX6_swipes 27 = .ok (.iconst 0, 1) := by decide +kernel
theorem dX6_swipes_28 : decode cX6_swipes 28 = .ok (.istore_n 2, 1) := by decide +kernel
theorem dX6_swipes_29 : decode cX6_swipes 29 = .ok (.iload_n 2, 1) := by decide +kernel
theorem dX6_swipes_30 : decode cX6_swipes 30 = .ok (.aload_n 0, 1) := by decide +kernel
theorem dX6_swipes_31 : decode cX6_swipes 31 = .ok (.invokevirtual 64, 3) := by decide +kernel
theorem dX6_swipes_34 : decode cX6_swipes 34 = .ok (.if_icmp .ge 89, 3) := by decide +kernel
theorem dX6_swipes_37 : decode cX6_swipes 37 = .ok (.sipush 200, 3) := by decide +kernel
theorem dX6_swipes_40 : decode cX6_swipes 40 = .ok (.aload_n 0, 1) := by decide +kernel
theorem dX6_swipes_41 : decode cX6_swipes 41 = .ok (.getfield 7, 3) := by decide +kernel
theorem dX6_swipes_44 : decode cX6_swipes 44 = .ok (.iconst 3, 1) := by decide +kernel
theorem dX6_swipes_45 : decode cX6_swipes 45 = .ok (.iaload, 1) := by decide +kernel
theorem dX6_swipes_46 : decode cX6_swipes 46 = .ok (.iload_n 2, 1) := by decide +kernel
theorem dX6_swipes_47 : decode cX6_swipes 47 = .ok (.iconst 5, 1) := by decide +kernel
theorem dX6_swipes_48 : decode cX6_swipes 48 = .ok (.irem, 1) := by decide +kernel
theorem dX6_swipes_49 : decode cX6_swipes 49 = .ok (.imul, 1) := by decide +kernel
theorem dX6_swipes_50 : decode cX6_swipes 50 = .ok (.iadd, 1) := by decide +kernel
theorem dX6_swipes_51 : decode cX6_swipes 51 = .ok (.iconst 2, 1) := by decide +kernel
theorem dX6_swipes_52 : decode cX6_swipes 52 = .ok (.aload_n 0, 1) := by decide +kernel
theorem dX6_swipes_53 : decode cX6_swipes 53 = .ok (.getfield 7, 3) := by decide +kernel
theorem dX6_swipes_56 : decode cX6_swipes 56 = .ok (.iconst 3, 1) := by decide +kernel
theorem dX6_swipes_57 : decode cX6_swipes 57 = .ok (.iaload, 1) := by decide +kernel
theorem dX6_swipes_58 : decode cX6_swipes 58 = .ok (.imul, 1) := by decide +kernel
theorem dX6_swipes_59 : decode cX6_swipes 59 = .ok (.isub, 1) := by decide +kernel
theorem dX6_swipes_60 : decode cX6_swipes 60 = .ok (.istore_n 3, 1) := by decide +kernel
theorem dX6_swipes_61 : decode cX6_swipes 61 = .ok (.aload_n 0, 1) := by decide +kernel
theorem dX6_swipes_62 : decode cX6_swipes 62 = .ok (.iload_n 2, 1) := by decide +kernel
theorem dX6_swipes_63 : decode cX6_swipes 63 = .ok (.invokevirtual 67, 3) := by decide +kernel
theorem dX6_swipes_66 : decode cX6_swipes 66 = .ok (.iconst 1, 1) := by decide +kernel
theorem dX6_swipes_67 : decode cX6_swipes 67 = .ok (.if_icmp .ne 37, 3) := by decide +kernel
theorem dX6_swipes_70 : decode cX6_swipes 70 = .ok (.aload_n 0, 1) := by decide +kernel
theorem dX6_swipes_71 : decode cX6_swipes 71 = .ok (.getfield 7, 3) := by decide +kernel
theorem dX6_swipes_74 : decode cX6_swipes 74 = .ok (.bipush 26, 2) := by decide +kernel
theorem dX6_swipes_76 : decode cX6_swipes 76 = .ok (.iload_n 1, 1) := by decide +kernel
theorem dX6_swipes_77 : decode cX6_swipes 77 = .ok (.iadd, 1) := by decide +kernel
theorem dX6_swipes_78 : decode cX6_swipes 78 = .ok (.iload_n 3, 1) := by decide +kernel
theorem dX6_swipes_79 : decode cX6_swipes 79 = .ok (.iconst 2, 1) := by decide +kernel
theorem dX6_swipes_80 : decode cX6_swipes 80 = .ok (.idiv, 1) := by decide +kernel
theorem dX6_swipes_81 : decode cX6_swipes 81 = .ok (.iastore, 1) := by decide +kernel
theorem dX6_swipes_82 : decode cX6_swipes 82 = .ok (.aload_n 0, 1) := by decide +kernel
theorem dX6_swipes_83 : decode cX6_swipes 83 = .ok (.getfield 7, 3) := by decide +kernel
theorem dX6_swipes_86 : decode cX6_swipes 86 = .ok (.bipush 26, 2) := by decide +kernel
theorem dX6_swipes_88 : decode cX6_swipes 88 = .ok (.iload_n 1, 1) := by decide +kernel
theorem dX6_swipes_89 : decode cX6_swipes 89 = .ok (.iadd, 1) := by decide +kernel
theorem dX6_swipes_90 : decode cX6_swipes 90 = .ok (.iconst 1, 1) := by decide +kernel
theorem dX6_swipes_91 : decode cX6_swipes 91 = .ok (.iadd, 1) := by decide +kernel
theorem dX6_swipes_92 : decode cX6_swipes 92 = .ok (.iload_n 3, 1) := by decide +kernel
theorem dX6_swipes_93 : decode cX6_swipes 93 = .ok (.iload_n 3, 1) := by decide +kernel
theorem dX6_swipes_94 : decode cX6_swipes 94 = .ok (.iconst 2, 1) := by decide +kernel
theorem dX6_swipes_95 : decode cX6_swipes 95 = .ok (.idiv, 1) := by decide +kernel
theorem dX6_swipes_96 : decode cX6_swipes 96 = .ok (.isub, 1) := by decide +kernel
theorem dX6_swipes_97 : decode cX6_swipes 97 = .ok (.iastore, 1) := by decide +kernel
theorem dX6_swipes_98 : decode cX6_swipes 98 = .ok (.iinc 1 2, 3) := by decide +kernel
theorem dX6_swipes_101 : decode cX6_swipes 101 = .ok (.goto 16, 3) := by decide +kernel
theorem dX6_swipes_104 : decode cX6_swipes 104 = .ok (.aload_n 0, 1) := by decide +kernel
theorem dX6_swipes_105 : decode cX6_swipes 105 = .ok (.getfield 7, 3) := by decide +kernel
theorem dX6_swipes_108 : decode cX6_swipes 108 = .ok (.bipush 26, 2) := by decide +kernel
theorem dX6_swipes_110 : decode cX6_swipes 110 = .ok (.iload_n 1, 1) := by decide +kernel
theorem dX6_swipes_111 : decode cX6_swipes 111 = .ok (.iadd, 1) := by decide +kernel
theorem dX6_swipes_112 : decode cX6_swipes 112 = .ok (.iload_n 3, 1) := by decide +kernel
theorem dX6_swipes_113 : decode cX6_swipes 113 = .ok (.iastore, 1) := by decide +kernel
theorem dX6_swipes_114 : decode cX6_swipes 114 = .ok (.iinc 1 1, 3) := by decide +kernel
theorem dX6_swipes_117 : decode cX6_swipes 117 = .ok (.iinc 2 1, 3) := by decide +kernel
theorem dX6_swipes_120 : decode cX6_swipes 120 = .ok (.goto (-91), 3) := by decide +kernel
theorem dX6_swipes_123 : decode cX6_swipes 123 = .ok (.aload_n 0, 1) := by decide +kernel
theorem dX6_swipes_124 : decode cX6_swipes 124 = .ok (.getfield 7, 3) := by decide +kernel
theorem dX6_swipes_127 : decode cX6_swipes 127 = .ok (.iconst 4, 1) := by decide +kernel
theorem dX6_swipes_128 : decode cX6_swipes 128 = .ok (.iload_n 1, 1) := by decide +kernel
theorem dX6_swipes_129 : decode cX6_swipes 129 = .ok (.iastore, 1) := by decide +kernel
theorem dX6_swipes_130 : decode cX6_swipes 130 = .ok (.return_, 1) := by decide +kernel
theorem dX6_timeAt_0 : decode cX6_timeAt 0 = .ok (.aload_n 0, 1) := by decide +kernel
theorem dX6_timeAt_1 : decode cX6_timeAt 1 = .ok (.getfield 7, 3) := by decide +kernel
theorem dX6_timeAt_4 : decode cX6_timeAt 4 = .ok (.bipush 26, 2) := by decide +kernel
theorem dX6_timeAt_6 : decode cX6_timeAt 6 = .ok (.iload_n 2, 1) := by decide +kernel
theorem dX6_timeAt_7 : decode cX6_timeAt 7 = .ok (.ifCond .eq 16, 3) := by decide +kernel
theorem dX6_timeAt_10 : decode cX6_timeAt 10 = .ok (.aload_n 0, 1) := by decide +kernel
theorem dX6_timeAt_11 : decode cX6_timeAt 11 = .ok (.getfield 7, 3) := by decide +kernel
theorem dX6_timeAt_14 : decode cX6_timeAt 14 = .ok (.iconst 4, 1) := by decide +kernel
theorem dX6_timeAt_15 : decode cX6_timeAt 15 = .ok (.iaload, 1) := by decide +kernel
theorem dX6_timeAt_16 : decode cX6_timeAt 16 = .ok (.iconst 1, 1) := by decide +kernel
theorem dX6_timeAt_17 : decode cX6_timeAt 17 = .ok (.isub, 1) := by decide +kernel
theorem dX6_timeAt_18 : decode cX6_timeAt 18 = .ok (.iload_n 1, 1) := by decide +kernel
theorem dX6_timeAt_19 : decode cX6_timeAt 19 = .ok (.isub, 1) := by decide +kernel
theorem dX6_timeAt_20 : decode cX6_timeAt 20 = .ok (.goto 4, 3) := by decide +kernel
theorem dX6_timeAt_23 : decode cX6_timeAt 23 = .ok (.iload_n 1, 1) := by decide +kernel
theorem dX6_timeAt_24 : decode cX6_timeAt 24 = .ok (.iadd, 1) := by decide +kernel
theorem dX6_timeAt_25 : decode cX6_timeAt 25 = .ok (.iaload, 1) := by decide +kernel
theorem dX6_timeAt_26 : decode cX6_timeAt 26 = .ok (.ireturn, 1) := by decide +kernel
set_option maxRecDepth 20000 in
theorem ggX6_isShort_X6_timeAt : GoodIn wsX6_isShort wsX6_timeAt := goodIn_r _ [7, 1, 8, 9, 10, 11, 12, 13, 14, 15, 16, 17, 18, 19, 20, 21, 22, 23, 24, 25, 26, 27, 28] (by decide +kernel) (by decide +kernel)
set_option maxRecDepth 20000 in
theorem gX6_isShort_X6_timeAt : GoodIn wsX6_isShort (wsV RX6 70 RX6 yX6_timeAt wsX6_timeAt) := goodIn_app (goodIn_of _ (by decide +kernel)) ggX6_isShort_X6_timeAt
theorem dX6_isShort_0 : decode cX6_isShort 0 = .ok (.iload_n 1, 1) := by decide +kernel
theorem dX6_isShort_1 : decode cX6_isShort 1 = .ok (.aload_n 0, 1) := by decide +kernel
theorem dX6_isShort_2 : decode cX6_isShort 2 = .ok (.getfield 7, 3) := by decide +kernel
theorem dX6_isShort_5 : decode cX6_isShort 5 = .ok (.iconst 4, 1) := by decide +kernel
theorem dX6_isShort_6 : decode cX6_isShort 6 = .ok (.iaload, 1) := by decide +kernel
theorem dX6_isShort_7 : decode cX6_isShort 7 = .ok (.if_icmp .ge 30, 3) := by decide +kernel
theorem dX6_isShort_10 : decode cX6_isShort 10 = .ok (.aload_n 0, 1) := by decide +kernel
theorem dX6_isShort_11 : decode cX6_isShort 11 = .ok (.iload_n 1, 1) := by decide +kernel
theorem dX6_isShort_12 : decode cX6_isShort 12 = .ok (.iload_n 2, 1) := by decide +kernel
theorem dX6_isShort_13 : decode cX6_isShort 13 = .ok (.invokevirtual 70, 3) := by decide +kernel
theorem dX6_isShort_16 : decode cX6_isShort 16 = .ok (.aload_n 0, 1) := by decide +kernel
theorem dX6_isShort_17 : decode cX6_isShort 17 = .ok (.getfield 74, 3) := by decide +kernel
theorem dX6_isShort_20 : decode cX6_isShort 20 = .ok (.aload_n 0, 1) := by decide +kernel
theorem dX6_isShort_21 : decode cX6_isShort 21 = .ok (.getfield 7, 3) := by decide +kernel
theorem dX6_isShort_24 : decode cX6_isShort 24 = .ok (.iconst 1, 1) := by decide +kernel
theorem dX6_isShort_25 : decode cX6_isShort 25 = .ok (.iaload, 1) := by decide +kernel
theorem dX6_isShort_26 : decode cX6_isShort 26 = .ok (.imul, 1) := by decide +kernel
theorem dX6_isShort_27 : decode cX6_isShort 27 = .ok (.bipush 100, 2) := by decide +kernel
theorem dX6_isShort_29 : decode cX6_isShort 29 = .ok (.idiv, 1) := by decide +kernel
theorem dX6_isShort_30 : decode cX6_isShort 30 = .ok (.if_icmp .ge 7, 3) := by decide +kernel
theorem dX6_isShort_33 : decode cX6_isShort 33 = .ok (.iconst 1, 1) := by decide +kernel
theorem dX6_isShort_34 : decode cX6_isShort 34 = .ok (.goto 4, 3) := by decide +kernel
theorem dX6_isShort_37 : decode cX6_isShort 37 = .ok (.iconst 0, 1) := by decide +kernel
theorem dX6_isShort_38 : decode cX6_isShort 38 = .ok (.ireturn, 1) := by decide +kernel
set_option maxRecDepth 20000 in
theorem ggX6_firstClock_X6_timeAt : GoodIn wsX6_firstClock wsX6_timeAt := goodIn_r _ [7, 1, 8, 9, 10, 11, 12, 13, 14, 15, 16, 17, 18, 19, 20, 21, 22, 23, 24, 25, 26, 27, 28] (by decide +kernel) (by decide +kernel)
set_option maxRecDepth 20000 in
theorem gX6_firstClock_X6_timeAt : GoodIn wsX6_firstClock (wsV RX6 70 RX6 yX6_timeAt wsX6_timeAt) := goodIn_app (goodIn_of _ (by decide +kernel)) ggX6_firstClock_X6_timeAt
theorem dX6_firstClock_0 : decode cX6_firstClock 0 = .ok (.aload_n 0, 1) := by decide +kernel
theorem dX6_firstClock_1 : decode cX6_firstClock 1 = .ok (.getfield 7, 3) := by decide +kernel
theorem dX6_firstClock_4 : decode cX6_firstClock 4 = .ok (.iconst 4, 1) := by decide +kernel
theorem dX6_firstClock_5 : decode cX6_firstClock 5 = .ok (.iaload, 1) := by decide +kernel
theorem dX6_firstClock_6 : decode cX6_firstClock 6 = .ok (.iconst 4, 1) := by decide +kernel
theorem dX6_firstClock_7 : decode cX6_firstClock 7 = .ok (.if_icmp .ge 12, 3) := by decide +kernel
theorem dX6_firstClock_10 : decode cX6_firstClock 10 = .ok (.aload_n 0, 1) := by decide +kernel
theorem dX6_firstClock_11 : decode cX6_firstClock 11 = .ok (.getfield 7, 3) := by decide +kernel
theorem dX6_firstClock_14 : decode cX6_firstClock 14 = .ok (.iconst 4, 1) := by decide +kernel
theorem dX6_firstClock_15 : decode cX6_firstClock 15 = .ok (.iaload, 1) := by decide +kernel
theorem dX6_firstClock_16 : decode cX6_firstClock 16 = .ok (.goto 4, 3) := by decide +kernel
theorem dX6_firstClock_19 : decode cX6_firstClock 19 = .ok (.iconst 4, 1) := by decide +kernel
theorem dX6_firstClock_20 : decode cX6_firstClock 20 = .ok (.istore_n 2, 1) := by decide +kernel
theorem dX6_firstClock_21 : decode cX6_firstClock 21 = .ok (.iconst 0, 1) := by decide +kernel
theorem dX6_firstClock_22 : decode cX6_firstClock 22 = .ok (.istore_n 3, 1) := by decide +kernel
theorem dX6_firstClock_23 : decode cX6_firstClock 23 = .ok (.iconst 0, 1) := by decide +kernel
theorem dX6_firstClock_24 : decode cX6_firstClock 24 = .ok (.istore 4, 2) := by decide +kernel
theorem dX6_firstClock_26 : decode cX6_firstClock 26 = .ok (.iload 4, 2) := by decide +kernel
theorem dX6_firstClock_28 : decode cX6_firstClock 28 = .ok (.iload_n 2, 1) := by decide +kernel
theorem dX6_firstClock_29 : decode cX6_firstClock 29 = .ok (.if_icmp .ge 19, 3) := by decide +kernel
theorem dX6_firstClock_32 : decode cX6_firstClock 32 = .ok (.iload_n 3, 1) := by decide +kernel
theorem dX6_firstClock_33 : decode cX6_firstClock 33 = .ok (.aload_n 0, 1) := by decide +kernel
theorem dX6_firstClock_34 : decode cX6_firstClock 34 = .ok (.iload 4, 2) := by decide +kernel
theorem dX6_firstClock_36 : decode cX6_firstClock 36 = .ok (.iload_n 1, 1) := by decide +kernel
theorem dX6_firstClock_37 : decode cX6_firstClock 37 = .ok (.invokevirtual 70, 3) := by decide +kernel
theorem dX6_firstClock_40 : decode cX6_firstClock 40 = .ok (.iadd, 1) := by decide +kernel
theorem dX6_firstClock_41 : decode cX6_firstClock 41 = .ok (.istore_n 3, 1) := by decide +kernel
theorem dX6_firstClock_42 : decode cX6_firstClock 42 = .ok (.iinc 4 1, 3) := by decide +kernel
theorem dX6_firstClock_45 : decode cX6_firstClock 45 = .ok (.goto (-19), 3) := by decide +kernel
theorem dX6_firstClock_48 : decode cX6_firstClock 48 = .ok (.aload_n 0, 1) := by decide +kernel
theorem dX6_firstClock_49 : decode cX6_firstClock 49 = .ok (.iload_n 2, 1) := by decide +kernel
theorem dX6_firstClock_50 : decode cX6_firstClock 50 = .ok (.ifCond .ne 7, 3) := by decide +kernel
theorem dX6_firstClock_53 : decode cX6_firstClock 53 = .ok (.iconst 0, 1) := by decide +kernel
theorem dX6_firstClock_54 : decode cX6_firstClock 54 = .ok (.goto 6, 3) := by decide +kernel
theorem dX6_firstClock_57 : decode cX6_firstClock 57 = .ok (.iload_n 3, 1) := by decide +kernel
theorem dX6_firstClock_58 : decode cX6_firstClock 58 = .ok (.iload_n 2, 1) := by decide +kernel
theorem dX6_firstClock_59 : decode cX6_firstClock 59 = .ok (.idiv, 1) := by decide +kernel
theorem dX6_firstClock_60 : decode cX6_firstClock 60 = .ok (.putfield 74, 3) := by decide +kernel
theorem dX6_firstClock_63 : decode cX6_firstClock 63 = .ok (.return_, 1) := by decide +kernel
set_option maxRecDepth 20000 in
theorem ggX6_laysBits_X6_firstClock : GoodIn wsX6_laysBits wsX6_firstClock := goodIn_r _ [10, 3, 5, 11, 12, 13, 9, 14, 19, 20, 21, 22, 23, 24, 25, 26, 27, 28, 29, 30, 31, 32, 33, 34, 35, 36, 37, 38, 39] (by decide +kernel) (by decide +kernel)
set_option maxRecDepth 20000 in
theorem gX6_laysBits_X6_firstClock : GoodIn wsX6_laysBits (wsV RX6 77 RX6 yX6_firstClock wsX6_firstClock) := goodIn_app (goodIn_of _ (by decide +kernel)) ggX6_laysBits_X6_firstClock
set_option maxRecDepth 20000 in
theorem ggX6_laysBits_X6_timeAt : GoodIn wsX6_laysBits wsX6_timeAt := goodIn_r _ [14, 3, 19, 20, 21, 22, 23, 24, 25, 26, 27, 28, 29, 30, 31, 32, 33, 34, 35, 36, 37, 38, 39] (by decide +kernel) (by decide +kernel)
set_option maxRecDepth 20000 in
theorem gX6_laysBits_X6_timeAt : GoodIn wsX6_laysBits (wsV RX6 70 RX6 yX6_timeAt wsX6_timeAt) := goodIn_app (goodIn_of _ (by decide +kernel)) ggX6_laysBits_X6_timeAt
set_option maxRecDepth 20000 in
theorem ggX6_laysBits_X6_isShort : GoodIn wsX6_laysBits wsX6_isShort := goodIn_r _ [18, 3, 5, 11, 12, 13, 9, 14, 19, 20, 21, 22, 23, 24, 25, 26, 27, 28, 29, 30, 31, 32, 33, 34, 35, 36, 37, 38, 39] (by decide +kernel) (by decide +kernel)
set_option maxRecDepth 20000 in
theorem gX6_laysBits_X6_isShort : GoodIn wsX6_laysBits (wsV RX6 88 RX6 yX6_isShort wsX6_isShort) := goodIn_app (goodIn_of _ (by decide +kernel)) ggX6_laysBits_X6_isShort
theorem dX6_laysBits_0 : decode cX6_laysBits 0 = .ok (.aload_n 0, 1) := by decide +kernel
theorem dX6_laysBits_1 : decode cX6_laysBits 1 = .ok (.iload_n 1, 1) := by decide +kernel
theorem dX6_laysBits_2 : decode cX6_laysBits 2 = .ok (.invokevirtual 77, 3) := by decide +kernel
theorem dX6_laysBits_5 : decode cX6_laysBits 5 = .ok (.aload_n 0, 1) := by decide +kernel
theorem dX6_laysBits_6 : decode cX6_laysBits 6 = .ok (.iconst 0, 1) := by decide +kernel
theorem dX6_laysBits_7 : decode cX6_laysBits 7 = .ok (.putfield 81, 3) := by decide +kernel
theorem dX6_laysBits_10 : decode cX6_laysBits 10 = .ok (.aload_n 0, 1) := by decide +kernel
theorem dX6_laysBits_11 : decode cX6_laysBits 11 = .ok (.iconst 0, 1) := by decide +kernel
theorem dX6_laysBits_12 : decode cX6_laysBits 12 = .ok (.putfield 84, 3) := by decide +kernel
theorem dX6_laysBits_15 : decode cX6_laysBits 15 = .ok (.iconst 0, 1) := by decide +kernel
theorem dX6_laysBits_16 : decode cX6_laysBits 16 = .ok (.istore_n 2, 1) := by decide +kernel
theorem dX6_laysBits_17 : decode cX6_laysBits 17 = .ok (.iload_n 2, 1) := by decide +kernel
theorem dX6_laysBits_18 : decode cX6_laysBits 18 = .ok (.aload_n 0, 1) := by decide +kernel
theorem dX6_laysBits_19 : decode cX6_laysBits 19 = .ok (.getfield 7, 3) := by decide +kernel
theorem dX6_laysBits_22 : decode cX6_laysBits 22 = .ok (.iconst 4, 1) := by decide +kernel
theorem dX6_laysBits_23 : decode cX6_laysBits 23 = .ok (.iaload, 1) := by decide +kernel
theorem dX6_laysBits_24 : decode cX6_laysBits 24 = .ok (.if_icmp .ge 148, 3) := by decide +kernel
theorem dX6_laysBits_27 : decode cX6_laysBits 27 = .ok (.aload_n 0, 1) := by decide +kernel
theorem dX6_laysBits_28 : decode cX6_laysBits 28 = .ok (.getfield 84, 3) := by decide +kernel
theorem dX6_laysBits_31 : decode cX6_laysBits 31 = .ok (.ifCond .ne 141, 3) := by decide +kernel
theorem dX6_laysBits_34 : decode cX6_laysBits 34 = .ok (.aload_n 0, 1) := by decide +kernel
theorem dX6_laysBits_35 : decode cX6_laysBits 35 = .ok (.iload_n 2, 1) := by decide +kernel
theorem dX6_laysBits_36 : decode cX6_laysBits 36 = .ok (.iload_n 1, 1) := by decide +kernel
theorem dX6_laysBits_37 : decode cX6_laysBits 37 = .ok (.invokevirtual 70, 3) := by decide +kernel
theorem dX6_laysBits_40 : decode cX6_laysBits 40 = .ok (.istore_n 3, 1) := by decide +kernel
theorem dX6_laysBits_41 : decode cX6_laysBits 41 = .ok (.aload_n 0, 1) := by decide +kernel
theorem dX6_laysBits_42 : decode cX6_laysBits 42 = .ok (.iload_n 2, 1) := by decide +kernel
theorem dX6_laysBits_43 : decode cX6_laysBits 43 = .ok (.iload_n 1, 1) := by decide +kernel
theorem dX6_laysBits_44 : decode cX6_laysBits 44 = .ok (.invokevirtual 88, 3) := by decide +kernel
theorem dX6_laysBits_47 : decode cX6_laysBits 47 = .ok (.ifCond .eq 7, 3) := by decide +kernel
theorem dX6_laysBits_50 : decode cX6_laysBits 50 = .ok (.iconst 1, 1) := by decide +kernel
theorem dX6_laysBits_51 : decode cX6_laysBits 51 = .ok (.goto 4, 3) := by decide +kernel
theorem dX6_laysBits_54 : decode cX6_laysBits 54 = .ok (.iconst 0, 1) := by decide +kernel
theorem dX6_laysBits_55 : decode cX6_laysBits 55 = .ok (.istore 4, 2) := by decide +kernel
theorem dX6_laysBits_57 : decode cX6_laysBits 57 = .ok (.aload_n 0, 1) := by decide +kernel
theorem dX6_laysBits_58 : decode cX6_laysBits 58 = .ok (.iload 4, 2) := by decide +kernel
theorem dX6_laysBits_60 : decode cX6_laysBits 60 = .ok (.iconst 1, 1) := by decide +kernel
theorem dX6_laysBits_61 : decode cX6_laysBits 61 = .ok (.if_icmp .ne 18, 3) := by decide +kernel
theorem dX6_laysBits_64 : decode cX6_laysBits 64 = .ok (.aload_n 0, 1) := by decide +kernel
theorem dX6_laysBits_65 : decode cX6_laysBits 65 = .ok (.iload_n 2, 1) := by decide +kernel
theorem dX6_laysBits_66 : decode cX6_laysBits 66 = .ok (.iconst 1, 1) := by decide +kernel
theorem dX6_laysBits_67 : decode cX6_laysBits 67 = .ok (.iadd, 1) := by decide +kernel
theorem dX6_laysBits_68 : decode cX6_laysBits 68 = .ok (.iload_n 1, 1) := by decide +kernel
theorem dX6_laysBits_69 : decode cX6_laysBits 69 = .ok (.invokevirtual 88, 3) := by decide +kernel
theorem dX6_laysBits_72 : decode cX6_laysBits 72 = .ok (.ifCond .ne 7, 3) := by decide +kernel
theorem dX6_laysBits_75 : decode cX6_laysBits 75 = .ok (.iconst 1, 1) := by decide +kernel
theorem dX6_laysBits_76 : decode cX6_laysBits 76 = .ok (.goto 4, 3) := by decide +kernel
theorem dX6_laysBits_79 : decode cX6_laysBits 79 = .ok (.iconst 0, 1) := by decide +kernel
theorem dX6_laysBits_80 : decode cX6_laysBits 80 = .ok (.putfield 84, 3) := by decide +kernel
theorem dX6_laysBits_83 : decode cX6_laysBits 83 = .ok (.aload_n 0, 1) := by decide +kernel
theorem dX6_laysBits_84 : decode cX6_laysBits 84 = .ok (.getfield 84, 3) := by decide +kernel
theorem dX6_laysBits_87 : decode cX6_laysBits 87 = .ok (.ifCond .ne 82, 3) := by decide +kernel
theorem dX6_laysBits_90 : decode cX6_laysBits 90 = .ok (.iload_n 3, 1) := by decide +kernel
theorem dX6_laysBits_91 : decode cX6_laysBits 91 = .ok (.iload 4, 2) := by decide +kernel
theorem dX6_laysBits_93 : decode cX6_laysBits 93 = .ok (.iconst 1, 1) := by decide +kernel
theorem dX6_laysBits_94 : decode cX6_laysBits 94 = .ok (.if_icmp .ne 14, 3) := by decide +kernel
theorem dX6_laysBits_97 : decode cX6_laysBits 97 = .ok (.aload_n 0, 1) := by decide +kernel
theorem dX6_laysBits_98 : decode cX6_laysBits 98 = .ok (.iload_n 2, 1) := by decide +kernel
theorem dX6_laysBits_99 : decode cX6_laysBits 99 = .ok (.iconst 1, 1) := by decide +kernel
theorem dX6_laysBits_100 : decode cX6_laysBits 100 = .ok (.iadd, 1) := by decide +kernel
theorem dX6_laysBits_101 : decode cX6_laysBits 101 = .ok (.iload_n 1, 1) := by decide +kernel
theorem dX6_laysBits_102 : decode cX6_laysBits 102 = .ok (.invokevirtual 70, 3) := by decide +kernel
theorem dX6_laysBits_105 : decode cX6_laysBits 105 = .ok (.goto 4, 3) := by decide +kernel
theorem dX6_laysBits_108 : decode cX6_laysBits 108 = .ok (.iconst 0, 1) := by decide +kernel
theorem dX6_laysBits_109 : decode cX6_laysBits 109 = .ok (.iadd, 1) := by decide +kernel
theorem dX6_laysBits_110 : decode cX6_laysBits 110 = .ok (.istore_n 3, 1) := by decide +kernel
theorem dX6_laysBits_111 : decode cX6_laysBits 111 = .ok (.iload_n 2, 1) := by decide +kernel
theorem dX6_laysBits_112 : decode cX6_laysBits 112 = .ok (.iconst 1, 1) := by decide +kernel
theorem dX6_laysBits_113 : decode cX6_laysBits 113 = .ok (.iload 4, 2) := by decide +kernel
theorem dX6_laysBits_115 : decode cX6_laysBits 115 = .ok (.iadd, 1) := by decide +kernel
theorem dX6_laysBits_116 : decode cX6_laysBits 116 = .ok (.iadd, 1) := by decide +kernel
theorem dX6_laysBits_117 : decode cX6_laysBits 117 = .ok (.istore_n 2, 1) := by decide +kernel
theorem dX6_laysBits_118 : decode cX6_laysBits 118 = .ok (.aload_n 0, 1) := by decide +kernel
theorem dX6_laysBits_119 : decode cX6_laysBits 119 = .ok (.getfield 29, 3) := by decide +kernel
theorem dX6_laysBits_122 : decode cX6_laysBits 122 = .ok (.aload_n 0, 1) := by decide +kernel
theorem dX6_laysBits_123 : decode cX6_laysBits 123 = .ok (.getfield 81, 3) := by decide +kernel
theorem dX6_laysBits_126 : decode cX6_laysBits 126 = .ok (.iload 4, 2) := by decide +kernel
theorem dX6_laysBits_128 : decode cX6_laysBits 128 = .ok (.iastore, 1) := by decide +kernel
theorem dX6_laysBits_129 : decode cX6_laysBits 129 = .ok (.aload_n 0, 1) := by decide +kernel
theorem dX6_laysBits_130 : decode cX6_laysBits 130 = .ok (.dup, 1) := by decide +kernel
theorem dX6_laysBits_131 : decode cX6_laysBits 131 = .ok (.getfield 81, 3) := by decide +kernel
theorem dX6_laysBits_134 : decode cX6_laysBits 134 = .ok (.iconst 1, 1) := by decide +kernel
theorem dX6_laysBits_135 : decode cX6_laysBits 135 = .ok (.iadd, 1) := by decide +kernel
theorem dX6_laysBits_136 : decode cX6_laysBits 136 = .ok (.putfield 81, 3) := by decide +kernel
theorem dX6_laysBits_139 : decode cX6_laysBits 139 = .ok (.aload_n 0, 1) := by decide +kernel
theorem dX6_laysBits_140 : decode cX6_laysBits 140 = .ok (.aload_n 0, 1) := by decide +kernel
theorem dX6_laysBits_141 : decode cX6_laysBits 141 = .ok (.getfield 74, 3) := by decide +kernel
theorem dX6_laysBits_144 : decode cX6_laysBits 144 = .ok (.bipush 100, 2) := by decide +kernel
theorem dX6_laysBits_146 : decode cX6_laysBits 146 = .ok (.aload_n 0, 1) := by decide +kernel
theorem dX6_laysBits_147 : decode cX6_laysBits 147 = .ok (.getfield 7, 3) := by decide +kernel
theorem dX6_laysBits_150 : decode cX6_laysBits 150 = .ok (.iconst 2, 1) := by decide +kernel
theorem dX6_laysBits_151 : decode cX6_laysBits 151 = .ok (.iaload, 1) := by decide +kernel
theorem dX6_laysBits_152 : decode cX6_laysBits 152 = .ok (.isub, 1) := by decide +kernel
theorem dX6_laysBits_153 : decode cX6_laysBits 153 = .ok (.imul, 1) := by decide +kernel
theorem dX6_laysBits_154 : decode cX6_laysBits 154 = .ok (.iload_n 3, 1) := by decide +kernel
theorem dX6_laysBits_155 : decode cX6_laysBits 155 = .ok (.aload_n 0, 1) := by decide +kernel
theorem dX6_laysBits_156 : decode cX6_laysBits 156 = .ok (.getfield 7, 3) := by decide +kernel
theorem dX6_laysBits_159 : decode cX6_laysBits 159 = .ok (.iconst 2, 1) := by decide +kernel
theorem dX6_laysBits_160 : decode cX6_laysBits 160 = .ok (.iaload, 1) := by decide +kernel
theorem dX6_laysBits_161 : decode cX6_laysBits 161 = .ok (.imul, 1) := by decide +kernel
theorem dX6_laysBits_162 : decode cX6_laysBits 162 = .ok (.iadd, 1) := by decide +kernel
theorem dX6_laysBits_163 : decode cX6_laysBits 163 = .ok (.bipush 100, 2) := by decide +kernel
theorem dX6_laysBits_165 : decode cX6_laysBits 165 = .ok (.idiv, 1) := by decide +kernel
theorem dX6_laysBits_166 : decode cX6_laysBits 166 = .ok (.putfield 74, 3) := by decide +kernel
theorem dX6_laysBits_169 : decode cX6_laysBits 169 = .ok (.goto (-152), 3) := by decide +kernel
theorem dX6_laysBits_172 : decode cX6_laysBits 172 = .ok (.return_, 1) := by decide +kernel
set_option maxRecDepth 20000 in
theorem ggX6_isStart_X6_bitOf : GoodIn wsX6_isStart wsX6_bitOf := goodIn_r _ [6, 7, 8, 5, 9] (by decide +kernel) (by decide +kernel)
set_option maxRecDepth 20000 in
theorem gX6_isStart_X6_bitOf : GoodIn wsX6_isStart (va_wsS RX6 60 yX6_bitOf wsX6_bitOf) := goodIn_app (goodIn_of _ (by decide +kernel)) ggX6_isStart_X6_bitOf
theorem dX6_isStart_0 : decode cX6_isStart 0 = .ok (.iload_n 1, 1) := by decide +kernel
theorem dX6_isStart_1 : decode cX6_isStart 1 = .ok (.iconst 5, 1) := by decide +kernel
theorem dX6_isStart_2 : decode cX6_isStart 2 = .ok (.iadd, 1) := by decide +kernel
theorem dX6_isStart_3 : decode cX6_isStart 3 = .ok (.aload_n 0, 1) := by decide +kernel
theorem dX6_isStart_4 : decode cX6_isStart 4 = .ok (.getfield 81, 3) := by decide +kernel
theorem dX6_isStart_7 : decode cX6_isStart 7 = .ok (.if_icmp .gt 7, 3) := by decide +kernel
theorem dX6_isStart_10 : decode cX6_isStart 10 = .ok (.iconst 1, 1) := by decide +kernel
theorem dX6_isStart_11 : decode cX6_isStart 11 = .ok (.goto 4, 3) := by decide +kernel
theorem dX6_isStart_14 : decode cX6_isStart 14 = .ok (.iconst 0, 1) := by decide +kernel
theorem dX6_isStart_15 : decode cX6_isStart 15 = .ok (.istore_n 2, 1) := by decide +kernel
theorem dX6_isStart_16 : decode cX6_isStart 16 = .ok (.iconst 0, 1) := by decide +kernel
theorem dX6_isStart_17 : decode cX6_isStart 17 = .ok (.istore_n 3, 1) := by decide +kernel
theorem dX6_isStart_18 : decode cX6_isStart 18 = .ok (.iload_n 3, 1) := by decide +kernel
theorem dX6_isStart_19 : decode cX6_isStart 19 = .ok (.iconst 5, 1) := by decide +kernel
theorem dX6_isStart_20 : decode cX6_isStart 20 = .ok (.if_icmp .ge 36, 3) := by decide +kernel
theorem dX6_isStart_23 : decode cX6_isStart 23 = .ok (.iload_n 2, 1) := by decide +kernel
theorem dX6_isStart_24 : decode cX6_isStart 24 = .ok (.ifCond .eq 32, 3) := by decide +kernel
theorem dX6_isStart_27 : decode cX6_isStart 27 = .ok (.aload_n 0, 1) := by decide +kernel
theorem dX6_isStart_28 : decode cX6_isStart 28 = .ok (.getfield 29, 3) := by decide +kernel
theorem dX6_isStart_31 : decode cX6_isStart 31 = .ok (.iload_n 1, 1) := by decide +kernel
theorem dX6_isStart_32 : decode cX6_isStart 32 = .ok (.iload_n 3, 1) := by decide +kernel
theorem dX6_isStart_33 : decode cX6_isStart 33 = .ok (.iadd, 1) := by decide +kernel
theorem dX6_isStart_34 : decode cX6_isStart 34 = .ok (.iaload, 1) := by decide +kernel
theorem dX6_isStart_35 : decode cX6_isStart 35 = .ok (.bipush 11, 2) := by decide +kernel
theorem dX6_isStart_37 : decode cX6_isStart 37 = .ok (.iload_n 3, 1) := by decide +kernel
theorem dX6_isStart_38 : decode cX6_isStart 38 = .ok (.invokestatic 60, 3) := by decide +kernel
theorem dX6_isStart_41 : decode cX6_isStart 41 = .ok (.if_icmp .ne 7, 3) := by decide +kernel
theorem dX6_isStart_44 : decode cX6_isStart 44 = .ok (.iconst 1, 1) := by decide +kernel
theorem dX6_isStart_45 : decode cX6_isStart 45 = .ok (.goto 4, 3) := by decide +kernel
theorem dX6_isStart_48 : decode cX6_isStart 48 = .ok (.iconst 0, 1) := by decide +kernel
theorem dX6_isStart_49 : decode cX6_isStart 49 = .ok (.istore_n 2, 1) := by decide +kernel
theorem dX6_isStart_50 : decode cX6_isStart 50 = .ok (.iinc 3 1, 3) := by decide +kernel
theorem dX6_isStart_53 : decode cX6_isStart 53 = .ok (.goto (-35), 3) := by decide +kernel
theorem dX6_isStart_56 : decode cX6_isStart 56 = .ok (.iload_n 2, 1) := by decide +kernel
theorem dX6_isStart_57 : decode cX6_isStart 57 = .ok (.ireturn, 1) := by decide +kernel
set_option maxRecDepth 20000 in
theorem ggX6_findsStart_X6_isStart : GoodIn wsX6_findsStart wsX6_isStart := goodIn_r _ [7, 2, 8, 9, 10, 6, 11, 12, 13, 14, 15, 16, 17, 18, 19, 20, 21, 22, 23, 24, 25, 26, 27, 28, 29, 30, 31, 32, 33, 34, 35] (by decide +kernel) (by decide +kernel)
set_option maxRecDepth 20000 in
theorem gX6_findsStart_X6_isStart : GoodIn wsX6_findsStart (wsV RX6 95 RX6 yX6_isStart wsX6_isStart) := goodIn_app (goodIn_of _ (by decide +kernel)) ggX6_findsStart_X6_isStart
theorem dX6_findsStart_0 : decode cX6_findsStart 0 = .ok (.aload_n 0, 1) := by decide +kernel
theorem dX6_findsStart_1 : decode cX6_findsStart 1 = .ok (.iconst (-1), 1) := by decide +kernel
theorem dX6_findsStart_2 : decode cX6_findsStart 2 = .ok (.putfield 92, 3) := by decide +kernel
theorem dX6_findsStart_5 : decode cX6_findsStart 5 = .ok (.aload_n 0, 1) := by decide +kernel
theorem dX6_findsStart_6 : decode cX6_findsStart 6 = .ok (.getfield 81, 3) := by decide +kernel
theorem dX6_findsStart_9 : decode cX6_findsStart 9 = .ok (.iconst 5, 1) := by decide +kernel
theorem dX6_findsStart_10 : decode cX6_findsStart 10 = .ok (.isub, 1) := by decide +kernel
theorem dX6_findsStart_11 : decode cX6_findsStart 11 = .ok (.istore_n 1, 1) := by decide +kernel
theorem dX6_findsStart_12 : decode cX6_findsStart 12 = .ok (.iload_n 1, 1) := by decide +kernel
theorem dX6_findsStart_13 : decode cX6_findsStart 13 = .ok (.ifCond .lt 29, 3) := by decide +kernel
theorem dX6_findsStart_16 : decode cX6_findsStart 16 = .ok (.aload_n 0, 1) := by decide +kernel
theorem dX6_findsStart_17 : decode cX6_findsStart 17 = .ok (.aload_n 0, 1) := by decide +kernel
theorem dX6_findsStart_18 : decode cX6_findsStart 18 = .ok (.iload_n 1, 1) := by decide +kernel
theorem dX6_findsStart_19 : decode cX6_findsStart 19 = .ok (.invokevirtual 95, 3) := by decide +kernel
theorem dX6_findsStart_22 : decode cX6_findsStart 22 = .ok (.ifCond .eq 7, 3) := by decide +kernel
theorem dX6_findsStart_25 : decode cX6_findsStart 25 = .ok (.iload_n 1, 1) := by decide +kernel
theorem dX6_findsStart_26 : decode cX6_findsStart 26 = .ok (.goto 7, 3) := by decide +kernel
theorem dX6_findsStart_29 : decode cX6_findsStart 29 = .ok (.aload_n 0, 1) := by decide +kernel
theorem dX6_findsStart_30 : decode cX6_findsStart 30 = .ok (.getfield 92, 3) := by decide +kernel
theorem dX6_findsStart_33 : decode cX6_findsStart 33 = .ok (.putfield 92, 3) := by decide +kernel
theorem dX6_findsStart_36 : decode cX6_findsStart 36 = .ok (.iinc 1 (-1), 3) := by decide +kernel
theorem dX6_findsStart_39 : decode cX6_findsStart 39 = .ok (.goto (-27), 3) := by decide +kernel
theorem dX6_findsStart_42 : decode cX6_findsStart 42 = .ok (.return_, 1) := by decide +kernel
theorem dX6_isThere_0 : decode cX6_isThere 0 = .ok (.aload_n 0, 1) := by decide +kernel
theorem dX6_isThere_1 : decode cX6_isThere 1 = .ok (.getfield 92, 3) := by decide +kernel
theorem dX6_isThere_4 : decode cX6_isThere 4 = .ok (.bipush 10, 2) := by decide +kernel
theorem dX6_isThere_6 : decode cX6_isThere 6 = .ok (.iadd, 1) := by decide +kernel
theorem dX6_isThere_7 : decode cX6_isThere 7 = .ok (.iconst 5, 1) := by decide +kernel
theorem dX6_isThere_8 : decode cX6_isThere 8 = .ok (.iload_n 1, 1) := by decide +kernel
theorem dX6_isThere_9 : decode cX6_isThere 9 = .ok (.imul, 1) := by decide +kernel
theorem dX6_isThere_10 : decode cX6_isThere 10 = .ok (.iadd, 1) := by decide +kernel
theorem dX6_isThere_11 : decode cX6_isThere 11 = .ok (.aload_n 0, 1) := by decide +kernel
theorem dX6_isThere_12 : decode cX6_isThere 12 = .ok (.getfield 81, 3) := by decide +kernel
theorem dX6_isThere_15 : decode cX6_isThere 15 = .ok (.if_icmp .gt 7, 3) := by decide +kernel
theorem dX6_isThere_18 : decode cX6_isThere 18 = .ok (.iconst 1, 1) := by decide +kernel
theorem dX6_isThere_19 : decode cX6_isThere 19 = .ok (.goto 4, 3) := by decide +kernel
theorem dX6_isThere_22 : decode cX6_isThere 22 = .ok (.iconst 0, 1) := by decide +kernel
theorem dX6_isThere_23 : decode cX6_isThere 23 = .ok (.ireturn, 1) := by decide +kernel
theorem dX6_number_0 : decode cX6_number 0 = .ok (.aload_n 0, 1) := by decide +kernel
theorem dX6_number_1 : decode cX6_number 1 = .ok (.getfield 92, 3) := by decide +kernel
theorem dX6_number_4 : decode cX6_number 4 = .ok (.iconst 5, 1) := by decide +kernel
theorem dX6_number_5 : decode cX6_number 5 = .ok (.iadd, 1) := by decide +kernel
theorem dX6_number_6 : decode cX6_number 6 = .ok (.iconst 5, 1) := by decide +kernel
theorem dX6_number_7 : decode cX6_number 7 = .ok (.iload_n 1, 1) := by decide +kernel
theorem dX6_number_8 : decode cX6_number 8 = .ok (.imul, 1) := by decide +kernel
theorem dX6_number_9 : decode cX6_number 9 = .ok (.iadd, 1) := by decide +kernel
theorem dX6_number_10 : decode cX6_number 10 = .ok (.istore_n 2, 1) := by decide +kernel
theorem dX6_number_11 : decode cX6_number 11 = .ok (.aload_n 0, 1) := by decide +kernel
theorem dX6_number_12 : decode cX6_number 12 = .ok (.getfield 29, 3) := by decide +kernel
theorem dX6_number_15 : decode cX6_number 15 = .ok (.iload_n 2, 1) := by decide +kernel
theorem dX6_number_16 : decode cX6_number 16 = .ok (.iaload, 1) := by decide +kernel
theorem dX6_number_17 : decode cX6_number 17 = .ok (.iconst 2, 1) := by decide +kernel
theorem dX6_number_18 : decode cX6_number 18 = .ok (.aload_n 0, 1) := by decide +kernel
theorem dX6_number_19 : decode cX6_number 19 = .ok (.getfield 29, 3) := by decide +kernel
theorem dX6_number_22 : decode cX6_number 22 = .ok (.iload_n 2, 1) := by decide +kernel
theorem dX6_number_23 : decode cX6_number 23 = .ok (.iconst 1, 1) := by decide +kernel
theorem dX6_number_24 : decode cX6_number 24 = .ok (.iadd, 1) := by decide +kernel
theorem dX6_number_25 : decode cX6_number 25 = .ok (.iaload, 1) := by decide +kernel
theorem dX6_number_26 : decode cX6_number 26 = .ok (.imul, 1) := by decide +kernel
theorem dX6_number_27 : decode cX6_number 27 = .ok (.iadd, 1) := by decide +kernel
theorem dX6_number_28 : decode cX6_number 28 = .ok (.iconst 4, 1) := by decide +kernel
theorem dX6_number_29 : decode cX6_number 29 = .ok (.aload_n 0, 1) := by decide +kernel
theorem dX6_number_30 : decode cX6_number 30 = .ok (.getfield 29, 3) := by decide +kernel
theorem dX6_number_33 : decode cX6_number 33 = .ok (.iload_n 2, 1) := by decide +kernel
theorem dX6_number_34 : decode cX6_number 34 = .ok (.iconst 2, 1) := by decide +kernel
theorem dX6_number_35 : decode cX6_number 35 = .ok (.iadd, 1) := by decide +kernel
theorem dX6_number_36 : decode cX6_number 36 = .ok (.iaload, 1) := by decide +kernel
theorem dX6_number_37 : decode cX6_number 37 = .ok (.imul, 1) := by decide +kernel
theorem dX6_number_38 : decode cX6_number 38 = .ok (.iadd, 1) := by decide +kernel
theorem dX6_number_39 : decode cX6_number 39 = .ok (.bipush 8, 2) := by decide +kernel
theorem dX6_number_41 : decode cX6_number 41 = .ok (.aload_n 0, 1) := by decide +kernel
theorem dX6_number_42 : decode cX6_number 42 = .ok (.getfield 29, 3) := by decide +kernel
theorem dX6_number_45 : decode cX6_number 45 = .ok (.iload_n 2, 1) := by decide +kernel
theorem dX6_number_46 : decode cX6_number 46 = .ok (.iconst 3, 1) := by decide +kernel
theorem dX6_number_47 : decode cX6_number 47 = .ok (.iadd, 1) := by decide +kernel
theorem dX6_number_48 : decode cX6_number 48 = .ok (.iaload, 1) := by decide +kernel
theorem dX6_number_49 : decode cX6_number 49 = .ok (.imul, 1) := by decide +kernel
theorem dX6_number_50 : decode cX6_number 50 = .ok (.iadd, 1) := by decide +kernel
theorem dX6_number_51 : decode cX6_number 51 = .ok (.ireturn, 1) := by decide +kernel
set_option maxRecDepth 20000 in
theorem ggX6_isOdd_X6_number : GoodIn wsX6_isOdd wsX6_number := goodIn_r _ [7, 2, 1, 11, 12, 13, 14, 15, 16, 17, 18, 19, 20, 21, 22, 23, 24, 25, 26, 27, 28, 29, 30, 31] (by decide +kernel) (by decide +kernel)
set_option maxRecDepth 20000 in
theorem gX6_isOdd_X6_number : GoodIn wsX6_isOdd (wsV RX6 99 RX6 yX6_number wsX6_number) := goodIn_app (goodIn_of _ (by decide +kernel)) ggX6_isOdd_X6_number
set_option maxRecDepth 20000 in
theorem ggX6_isOdd_X6_ones : GoodIn wsX6_isOdd wsX6_ones := goodIn_r _ [10] (by decide +kernel) (by decide +kernel)
set_option maxRecDepth 20000 in
theorem gX6_isOdd_X6_ones : GoodIn wsX6_isOdd (va_wsS RX6 45 yX6_ones wsX6_ones) := goodIn_app (goodIn_of _ (by decide +kernel)) ggX6_isOdd_X6_ones
theorem dX6_isOdd_0 : decode cX6_isOdd 0 = .ok (.aload_n 0, 1) := by decide +kernel
theorem dX6_isOdd_1 : decode cX6_isOdd 1 = .ok (.iload_n 1, 1) := by decide +kernel
theorem dX6_isOdd_2 : decode cX6_isOdd 2 = .ok (.invokevirtual 99, 3) := by decide +kernel
theorem dX6_isOdd_5 : decode cX6_isOdd 5 = .ok (.invokestatic 45, 3) := by decide +kernel
theorem dX6_isOdd_8 : decode cX6_isOdd 8 = .ok (.aload_n 0, 1) := by decide +kernel
theorem dX6_isOdd_9 : decode cX6_isOdd 9 = .ok (.getfield 29, 3) := by decide +kernel
theorem dX6_isOdd_12 : decode cX6_isOdd 12 = .ok (.aload_n 0, 1) := by decide +kernel
theorem dX6_isOdd_13 : decode cX6_isOdd 13 = .ok (.getfield 92, 3) := by decide +kernel
theorem dX6_isOdd_16 : decode cX6_isOdd 16 = .ok (.bipush 9, 2) := by decide +kernel
theorem dX6_isOdd_18 : decode cX6_isOdd 18 = .ok (.iadd, 1) := by decide +kernel
theorem dX6_isOdd_19 : decode cX6_isOdd 19 = .ok (.iconst 5, 1) := by decide +kernel
theorem dX6_isOdd_20 : decode cX6_isOdd 20 = .ok (.iload_n 1, 1) := by decide +kernel
theorem dX6_isOdd_21 : decode cX6_isOdd 21 = .ok (.imul, 1) := by decide +kernel
theorem dX6_isOdd_22 : decode cX6_isOdd 22 = .ok (.iadd, 1) := by decide +kernel
theorem dX6_isOdd_23 : decode cX6_isOdd 23 = .ok (.iaload, 1) := by decide +kernel
theorem dX6_isOdd_24 : decode cX6_isOdd 24 = .ok (.iadd, 1) := by decide +kernel
theorem dX6_isOdd_25 : decode cX6_isOdd 25 = .ok (.iconst 2, 1) := by decide +kernel
theorem dX6_isOdd_26 : decode cX6_isOdd 26 = .ok (.irem, 1) := by decide +kernel
theorem dX6_isOdd_27 : decode cX6_isOdd 27 = .ok (.iconst 1, 1) := by decide +kernel
theorem dX6_isOdd_28 : decode cX6_isOdd 28 = .ok (.if_icmp .ne 7, 3) := by decide +kernel
theorem dX6_isOdd_31 : decode cX6_isOdd 31 = .ok (.iconst 1, 1) := by decide +kernel
theorem dX6_isOdd_32 : decode cX6_isOdd 32 = .ok (.goto 4, 3) := by decide +kernel
theorem dX6_isOdd_35 : decode cX6_isOdd 35 = .ok (.iconst 0, 1) := by decide +kernel
theorem dX6_isOdd_36 : decode cX6_isOdd 36 = .ok (.ireturn, 1) := by decide +kernel
set_option maxRecDepth 20000 in
theorem ggX6_laysLetters_X6_isThere : GoodIn wsX6_laysLetters wsX6_isThere := goodIn_r _ [8, 2, 9, 22, 23, 24, 25, 26, 27, 28, 29, 30, 31, 32, 33, 34, 35, 36, 37, 38, 39, 40, 41, 42] (by decide +kernel) (by decide +kernel)
set_option maxRecDepth 20000 in
theorem gX6_laysLetters_X6_isThere : GoodIn wsX6_laysLetters (wsV RX6 105 RX6 yX6_isThere wsX6_isThere) := goodIn_app (goodIn_of _ (by decide +kernel)) ggX6_laysLetters_X6_isThere
set_option maxRecDepth 20000 in
theorem ggX6_laysLetters_X6_isOdd : GoodIn wsX6_laysLetters wsX6_isOdd := goodIn_r _ [13, 14, 2, 15, 16, 17, 7, 18, 19, 20, 21, 22, 23, 24, 25, 26, 27, 28, 29, 30, 31, 32, 33, 34, 35, 36, 37, 38, 39, 40, 41, 42] (by decide +kernel) (by decide +kernel)
set_option maxRecDepth 20000 in
theorem gX6_laysLetters_X6_isOdd : GoodIn wsX6_laysLetters (wsV RX6 108 RX6 yX6_isOdd wsX6_isOdd) := goodIn_app (goodIn_of _ (by decide +kernel)) ggX6_laysLetters_X6_isOdd
set_option maxRecDepth 20000 in
theorem ggX6_laysLetters_X6_number : GoodIn wsX6_laysLetters wsX6_number := goodIn_r _ [18, 2, 14, 22, 23, 24, 25, 26, 27, 28, 29, 30, 31, 32, 33, 34, 35, 36, 37, 38, 39, 40, 41, 42] (by decide +kernel) (by decide +kernel)
set_option maxRecDepth 20000 in
theorem gX6_laysLetters_X6_number : GoodIn wsX6_laysLetters (wsV RX6 99 RX6 yX6_number wsX6_number) := goodIn_app (goodIn_of _ (by decide +kernel)) ggX6_laysLetters_X6_number
theorem dX6_laysLetters_0 : decode cX6_laysLetters 0 = .ok (.aload_n 0, 1) := by decide +kernel
theorem dX6_laysLetters_1 : decode cX6_laysLetters 1 = .ok (.iconst 0, 1) := by decide +kernel
theorem dX6_laysLetters_2 : decode cX6_laysLetters 2 = .ok (.putfield 102, 3) := by decide +kernel
theorem dX6_laysLetters_5 : decode cX6_laysLetters 5 = .ok (.aload_n 0, 1) := by decide +kernel
theorem dX6_laysLetters_6 : decode cX6_laysLetters 6 = .ok (.getfield 92, 3) := by decide +kernel
theorem dX6_laysLetters_9 : decode cX6_laysLetters 9 = .ok (.iconst (-1), 1) := by decide +kernel
theorem dX6_laysLetters_10 : decode cX6_laysLetters 10 = .ok (.if_icmp .eq 68, 3) := by decide +kernel
theorem dX6_laysLetters_13 : decode cX6_laysLetters 13 = .ok (.aload_n 0, 1) := by decide +kernel
theorem dX6_laysLetters_14 : decode cX6_laysLetters 14 = .ok (.aload_n 0, 1) := by decide +kernel
theorem dX6_laysLetters_15 : decode cX6_laysLetters 15 = .ok (.getfield 102, 3) := by decide +kernel
theorem dX6_laysLetters_18 : decode cX6_laysLetters 18 = .ok (.invokevirtual 105, 3) := by decide +kernel
theorem dX6_laysLetters_21 : decode cX6_laysLetters 21 = .ok (.ifCond .eq 57, 3) := by decide +kernel
theorem dX6_laysLetters_24 : decode cX6_laysLetters 24 = .ok (.aload_n 0, 1) := by decide +kernel
theorem dX6_laysLetters_25 : decode cX6_laysLetters 25 = .ok (.aload_n 0, 1) := by decide +kernel
theorem dX6_laysLetters_26 : decode cX6_laysLetters 26 = .ok (.getfield 102, 3) := by decide +kernel
theorem dX6_laysLetters_29 : decode cX6_laysLetters 29 = .ok (.invokevirtual 108, 3) := by decide +kernel
theorem dX6_laysLetters_32 : decode cX6_laysLetters 32 = .ok (.ifCond .eq 46, 3) := by decide +kernel
theorem dX6_laysLetters_35 : decode cX6_laysLetters 35 = .ok (.aload_n 0, 1) := by decide +kernel
theorem dX6_laysLetters_36 : decode cX6_laysLetters 36 = .ok (.aload_n 0, 1) := by decide +kernel
theorem dX6_laysLetters_37 : decode cX6_laysLetters 37 = .ok (.getfield 102, 3) := by decide +kernel
theorem dX6_laysLetters_40 : decode cX6_laysLetters 40 = .ok (.invokevirtual 99, 3) := by decide +kernel
theorem dX6_laysLetters_43 : decode cX6_laysLetters 43 = .ok (.bipush 15, 2) := by decide +kernel
theorem dX6_laysLetters_45 : decode cX6_laysLetters 45 = .ok (.if_icmp .eq 33, 3) := by decide +kernel
theorem dX6_laysLetters_48 : decode cX6_laysLetters 48 = .ok (.aload_n 0, 1) := by decide +kernel
theorem dX6_laysLetters_49 : decode cX6_laysLetters 49 = .ok (.getfield 32, 3) := by decide +kernel
theorem dX6_laysLetters_52 : decode cX6_laysLetters 52 = .ok (.aload_n 0, 1) := by decide +kernel
theorem dX6_laysLetters_53 : decode cX6_laysLetters 53 = .ok (.getfield 102, 3) := by decide +kernel
theorem dX6_laysLetters_56 : decode cX6_laysLetters 56 = .ok (.aload_n 0, 1) := by decide +kernel
theorem dX6_laysLetters_57 : decode cX6_laysLetters 57 = .ok (.aload_n 0, 1) := by decide +kernel
theorem dX6_laysLetters_58 : decode cX6_laysLetters 58 = .ok (.getfield 102, 3) := by decide +kernel
theorem dX6_laysLetters_61 : decode cX6_laysLetters 61 = .ok (.invokevirtual 99, 3) := by decide +kernel
theorem dX6_laysLetters_64 : decode cX6_laysLetters 64 = .ok (.iastore, 1) := by decide +kernel
theorem dX6_laysLetters_65 : decode cX6_laysLetters 65 = .ok (.aload_n 0, 1) := by decide +kernel
theorem dX6_laysLetters_66 : decode cX6_laysLetters 66 = .ok (.dup, 1) := by decide +kernel
theorem dX6_laysLetters_67 : decode cX6_laysLetters 67 = .ok (.getfield 102, 3) := by decide +kernel
theorem dX6_laysLetters_70 : decode cX6_laysLetters 70 = .ok (.iconst 1, 1) := by decide +kernel
theorem dX6_laysLetters_71 : decode cX6_laysLetters 71 = .ok (.iadd, 1) := by decide +kernel
theorem dX6_laysLetters_72 : decode cX6_laysLetters 72 = .ok (.putfield 102, 3) := by decide +kernel
theorem dX6_laysLetters_75 : decode cX6_laysLetters 75 = .ok (.goto (-70), 3) := by decide +kernel
theorem dX6_laysLetters_78 : decode cX6_laysLetters 78 = .ok (.return_, 1) := by decide +kernel
set_option maxRecDepth 20000 in
theorem ggX6_reasonBehind_X6_isThere : GoodIn wsX6_reasonBehind wsX6_isThere := goodIn_r _ [7, 8, 9, 22, 23, 24, 25, 26, 27, 28, 29, 30, 31, 32, 33, 34, 35, 36, 37, 38, 39, 40, 41, 42] (by decide +kernel) (by decide +kernel)
set_option maxRecDepth 20000 in
theorem gX6_reasonBehind_X6_isThere : GoodIn wsX6_reasonBehind (wsV RX6 105 RX6 yX6_isThere wsX6_isThere) := goodIn_app (goodIn_of _ (by decide +kernel)) ggX6_reasonBehind_X6_isThere
set_option maxRecDepth 20000 in
theorem ggX6_reasonBehind_X6_isOdd : GoodIn wsX6_reasonBehind wsX6_isOdd := goodIn_r _ [13, 14, 8, 15, 16, 17, 6, 18, 19, 20, 21, 22, 23, 24, 25, 26, 27, 28, 29, 30, 31, 32, 33, 34, 35, 36, 37, 38, 39, 40, 41, 42] (by decide +kernel) (by decide +kernel)
set_option maxRecDepth 20000 in
theorem gX6_reasonBehind_X6_isOdd : GoodIn wsX6_reasonBehind (wsV RX6 108 RX6 yX6_isOdd wsX6_isOdd) := goodIn_app (goodIn_of _ (by decide +kernel)) ggX6_reasonBehind_X6_isOdd
set_option maxRecDepth 20000 in
theorem ggX6_reasonBehind_X6_number : GoodIn wsX6_reasonBehind wsX6_number := goodIn_r _ [18, 8, 14, 22, 23, 24, 25, 26, 27, 28, 29, 30, 31, 32, 33, 34, 35, 36, 37, 38, 39, 40, 41, 42] (by decide +kernel) (by decide +kernel)
set_option maxRecDepth 20000 in
theorem gX6_reasonBehind_X6_number : GoodIn wsX6_reasonBehind (wsV RX6 99 RX6 yX6_number wsX6_number) := goodIn_app (goodIn_of _ (by decide +kernel)) ggX6_reasonBehind_X6_number
theorem dX6_reasonBehind_0 : decode cX6_reasonBehind 0 = .ok (.aload_n 0, 1) := by decide +kernel
theorem dX6_reasonBehind_1 : decode cX6_reasonBehind 1 = .ok (.getfield 102, 3) := by decide +kernel
theorem dX6_reasonBehind_4 : decode cX6_reasonBehind 4 = .ok (.istore_n 1, 1) := by decide +kernel
theorem dX6_reasonBehind_5 : decode cX6_reasonBehind 5 = .ok (.aload_n 0, 1) := by decide +kernel
theorem dX6_reasonBehind_6 : decode cX6_reasonBehind 6 = .ok (.iload_n 1, 1) := by decide +kernel
theorem dX6_reasonBehind_7 : decode cX6_reasonBehind 7 = .ok (.invokevirtual 105, 3) := by decide +kernel
theorem dX6_reasonBehind_10 : decode cX6_reasonBehind 10 = .ok (.ifCond .ne 5, 3) := by decide +kernel
theorem dX6_reasonBehind_13 : decode cX6_reasonBehind 13 = .ok (.iconst 3, 1) := by decide +kernel
theorem dX6_reasonBehind_14 : decode cX6_reasonBehind 14 = .ok (.ireturn, 1) := by decide +kernel
theorem dX6_reasonBehind_15 : decode cX6_reasonBehind 15 = .ok (.aload_n 0, 1) := by decide +kernel
theorem dX6_reasonBehind_16 : decode cX6_reasonBehind 16 = .ok (.iload_n 1, 1) := by decide +kernel
theorem dX6_reasonBehind_17 : decode cX6_reasonBehind 17 = .ok (.invokevirtual 108, 3) := by decide +kernel
theorem dX6_reasonBehind_20 : decode cX6_reasonBehind 20 = .ok (.ifCond .ne 5, 3) := by decide +kernel
theorem dX6_reasonBehind_23 : decode cX6_reasonBehind 23 = .ok (.iconst 2, 1) := by decide +kernel
theorem dX6_reasonBehind_24 : decode cX6_reasonBehind 24 = .ok (.ireturn, 1) := by decide +kernel
theorem dX6_reasonBehind_25 : decode cX6_reasonBehind 25 = .ok (.aload_n 0, 1) := by decide +kernel
theorem dX6_reasonBehind_26 : decode cX6_reasonBehind 26 = .ok (.iload_n 1, 1) := by decide +kernel
theorem dX6_reasonBehind_27 : decode cX6_reasonBehind 27 = .ok (.iconst 1, 1) := by decide +kernel
theorem dX6_reasonBehind_28 : decode cX6_reasonBehind 28 = .ok (.iadd, 1) := by decide +kernel
theorem dX6_reasonBehind_29 : decode cX6_reasonBehind 29 = .ok (.invokevirtual 105, 3) := by decide +kernel
theorem dX6_reasonBehind_32 : decode cX6_reasonBehind 32 = .ok (.ifCond .ne 5, 3) := by decide +kernel
theorem dX6_reasonBehind_35 : decode cX6_reasonBehind 35 = .ok (.iconst 3, 1) := by decide +kernel
theorem dX6_reasonBehind_36 : decode cX6_reasonBehind 36 = .ok (.ireturn, 1) := by decide +kernel
theorem dX6_reasonBehind_37 : decode cX6_reasonBehind 37 = .ok (.aload_n 0, 1) := by decide +kernel
theorem dX6_reasonBehind_38 : decode cX6_reasonBehind 38 = .ok (.iload_n 1, 1) := by decide +kernel
theorem dX6_reasonBehind_39 : decode cX6_reasonBehind 39 = .ok (.iconst 1, 1) := by decide +kernel
theorem dX6_reasonBehind_40 : decode cX6_reasonBehind 40 = .ok (.iadd, 1) := by decide +kernel
theorem dX6_reasonBehind_41 : decode cX6_reasonBehind 41 = .ok (.invokevirtual 108, 3) := by decide +kernel
theorem dX6_reasonBehind_44 : decode cX6_reasonBehind 44 = .ok (.ifCond .ne 5, 3) := by decide +kernel
theorem dX6_reasonBehind_47 : decode cX6_reasonBehind 47 = .ok (.iconst 2, 1) := by decide +kernel
theorem dX6_reasonBehind_48 : decode cX6_reasonBehind 48 = .ok (.ireturn, 1) := by decide +kernel
theorem dX6_reasonBehind_49 : decode cX6_reasonBehind 49 = .ok (.iconst 4, 1) := by decide +kernel
theorem dX6_reasonBehind_50 : decode cX6_reasonBehind 50 = .ok (.aload_n 0, 1) := by decide +kernel
theorem dX6_reasonBehind_51 : decode cX6_reasonBehind 51 = .ok (.iload_n 1, 1) := by decide +kernel
theorem dX6_reasonBehind_52 : decode cX6_reasonBehind 52 = .ok (.iconst 1, 1) := by decide +kernel
theorem dX6_reasonBehind_53 : decode cX6_reasonBehind 53 = .ok (.iadd, 1) := by decide +kernel
theorem dX6_reasonBehind_54 : decode cX6_reasonBehind 54 = .ok (.invokevirtual 99, 3) := by decide +kernel
theorem dX6_reasonBehind_57 : decode cX6_reasonBehind 57 = .ok (.ixor, 1) := by decide +kernel
theorem dX6_reasonBehind_58 : decode cX6_reasonBehind 58 = .ok (.istore_n 2, 1) := by decide +kernel
theorem dX6_reasonBehind_59 : decode cX6_reasonBehind 59 = .ok (.iconst 0, 1) := by decide +kernel
theorem dX6_reasonBehind_60 : decode cX6_reasonBehind 60 = .ok (.istore_n 3, 1) := by decide +kernel
theorem dX6_reasonBehind_61 : decode cX6_reasonBehind 61 = .ok (.iload_n 3, 1) := by decide +kernel
theorem dX6_reasonBehind_62 : decode cX6_reasonBehind 62 = .ok (.aload_n 0, 1) := by decide +kernel
theorem dX6_reasonBehind_63 : decode cX6_reasonBehind 63 = .ok (.getfield 102, 3) := by decide +kernel
theorem dX6_reasonBehind_66 : decode cX6_reasonBehind 66 = .ok (.if_icmp .ge 18, 3) := by decide +kernel
theorem dX6_reasonBehind_69 : decode cX6_reasonBehind 69 = .ok (.iload_n 2, 1) := by decide +kernel
theorem dX6_reasonBehind_70 : decode cX6_reasonBehind 70 = .ok (.aload_n 0, 1) := by decide +kernel
theorem dX6_reasonBehind_71 : decode cX6_reasonBehind 71 = .ok (.getfield 32, 3) := by decide +kernel
theorem dX6_reasonBehind_74 : decode cX6_reasonBehind 74 = .ok (.iload_n 3, 1) := by decide +kernel
theorem dX6_reasonBehind_75 : decode cX6_reasonBehind 75 = .ok (.iaload, 1) := by decide +kernel
theorem dX6_reasonBehind_76 : decode cX6_reasonBehind 76 = .ok (.ixor, 1) := by decide +kernel
theorem dX6_reasonBehind_77 : decode cX6_reasonBehind 77 = .ok (.istore_n 2, 1) := by decide +kernel
theorem dX6_reasonBehind_78 : decode cX6_reasonBehind 78 = .ok (.iinc 3 1, 3) := by decide +kernel
theorem dX6_reasonBehind_81 : decode cX6_reasonBehind 81 = .ok (.goto (-20), 3) := by decide +kernel
theorem dX6_reasonBehind_84 : decode cX6_reasonBehind 84 = .ok (.iload_n 2, 1) := by decide +kernel
theorem dX6_reasonBehind_85 : decode cX6_reasonBehind 85 = .ok (.ifCond .eq 7, 3) := by decide +kernel
theorem dX6_reasonBehind_88 : decode cX6_reasonBehind 88 = .ok (.iconst 4, 1) := by decide +kernel
theorem dX6_reasonBehind_89 : decode cX6_reasonBehind 89 = .ok (.goto 16, 3) := by decide +kernel
theorem dX6_reasonBehind_92 : decode cX6_reasonBehind 92 = .ok (.aload_n 0, 1) := by decide +kernel
theorem dX6_reasonBehind_93 : decode cX6_reasonBehind 93 = .ok (.getfield 102, 3) := by decide +kernel
theorem dX6_reasonBehind_96 : decode cX6_reasonBehind 96 = .ok (.ifCond .ne 8, 3) := by decide +kernel
theorem dX6_reasonBehind_99 : decode cX6_reasonBehind 99 = .ok (.bipush 6, 2) := by decide +kernel
theorem dX6_reasonBehind_101 : decode cX6_reasonBehind 101 = .ok (.goto 4, 3) := by decide +kernel
theorem dX6_reasonBehind_104 : decode cX6_reasonBehind 104 = .ok (.iconst 0, 1) := by decide +kernel
theorem dX6_reasonBehind_105 : decode cX6_reasonBehind 105 = .ok (.ireturn, 1) := by decide +kernel
set_option maxRecDepth 20000 in
theorem ggX6_laysReading_X6_laysBits : GoodIn wsX6_laysReading wsX6_laysBits := goodIn_r _ [8, 9, 1, 10, 11, 12, 13, 14, 15, 7, 16, 17, 18, 19, 20, 21, 22, 23, 24, 61, 62, 63, 64, 65, 66, 67, 68, 69, 70, 71, 72, 73, 74, 75, 76, 77, 78, 79, 80, 81] (by decide +kernel) (by decide +kernel)
set_option maxRecDepth 20000 in
theorem gX6_laysReading_X6_laysBits : GoodIn wsX6_laysReading (wsV RX6 111 RX6 yX6_laysBits wsX6_laysBits) := goodIn_app (goodIn_of _ (by decide +kernel)) ggX6_laysReading_X6_laysBits
set_option maxRecDepth 20000 in
theorem ggX6_laysReading_X6_findsStart : GoodIn wsX6_laysReading wsX6_findsStart := goodIn_r _ [28, 2, 9, 29, 30, 31, 7, 32, 11, 33, 34, 35, 36, 37, 38, 61, 62, 63, 64, 65, 66, 67, 68, 69, 70, 71, 72, 73, 74, 75, 76, 77, 78, 79, 80, 81] (by decide +kernel) (by decide +kernel)
set_option maxRecDepth 20000 in
theorem gX6_laysReading_X6_findsStart : GoodIn wsX6_laysReading (wsV RX6 114 RX6 yX6_findsStart wsX6_findsStart) := goodIn_app (goodIn_of _ (by decide +kernel)) ggX6_laysReading_X6_findsStart
set_option maxRecDepth 20000 in
theorem ggX6_laysReading_X6_laysLetters : GoodIn wsX6_laysReading wsX6_laysLetters := goodIn_r _ [42, 43, 2, 44, 45, 46, 47, 7, 48, 9, 49, 50, 51, 52, 11, 53, 54, 55, 56, 36, 37, 38, 61, 62, 63, 64, 65, 66, 67, 68, 69, 70, 71, 72, 73, 74, 75, 76, 77, 78, 79, 80, 81] (by decide +kernel) (by decide +kernel)
set_option maxRecDepth 20000 in
theorem gX6_laysReading_X6_laysLetters : GoodIn wsX6_laysReading (wsV RX6 117 RX6 yX6_laysLetters wsX6_laysLetters) := goodIn_app (goodIn_of _ (by decide +kernel)) ggX6_laysReading_X6_laysLetters
set_option maxRecDepth 20000 in
theorem ggX6_laysReading_X6_reasonBehind : GoodIn wsX6_laysReading wsX6_reasonBehind := goodIn_r _ [60, 43, 44, 45, 46, 47, 7, 48, 2, 9, 49, 50, 51, 52, 11, 53, 54, 55, 56, 36, 37, 38, 61, 62, 63, 64, 65, 66, 67, 68, 69, 70, 71, 72, 73, 74, 75, 76, 77, 78, 79, 80, 81] (by decide +kernel) (by decide +kernel)
set_option maxRecDepth 20000 in
theorem gX6_laysReading_X6_reasonBehind : GoodIn wsX6_laysReading (wsV RX6 120 RX6 yX6_reasonBehind wsX6_reasonBehind) := goodIn_app (goodIn_of _ (by decide +kernel)) ggX6_laysReading_X6_reasonBehind
theorem dX6_laysReading_0 : decode cX6_laysReading 0 = .ok (.aload_n 0, 1) := by decide +kernel
theorem dX6_laysReading_1 : decode cX6_laysReading 1 = .ok (.iload_n 1, 1) := by decide +kernel
theorem dX6_laysReading_2 : decode cX6_laysReading 2 = .ok (.invokevirtual 111, 3) := by decide +kernel
theorem dX6_laysReading_5 : decode cX6_laysReading 5 = .ok (.aload_n 0, 1) := by decide +kernel
theorem dX6_laysReading_6 : decode cX6_laysReading 6 = .ok (.invokevirtual 114, 3) := by decide +kernel
theorem dX6_laysReading_9 : decode cX6_laysReading 9 = .ok (.aload_n 0, 1) := by decide +kernel
theorem dX6_laysReading_10 : decode cX6_laysReading 10 = .ok (.invokevirtual 117, 3) := by decide +kernel
theorem dX6_laysReading_13 : decode cX6_laysReading 13 = .ok (.aload_n 0, 1) := by decide +kernel
theorem dX6_laysReading_14 : decode cX6_laysReading 14 = .ok (.aload_n 0, 1) := by decide +kernel
theorem dX6_laysReading_15 : decode cX6_laysReading 15 = .ok (.getfield 84, 3) := by decide +kernel
theorem dX6_laysReading_18 : decode cX6_laysReading 18 = .ok (.ifCond .eq 7, 3) := by decide +kernel
theorem dX6_laysReading_21 : decode cX6_laysReading 21 = .ok (.iconst 5, 1) := by decide +kernel
theorem dX6_laysReading_22 : decode cX6_laysReading 22 = .ok (.goto 19, 3) := by decide +kernel
theorem dX6_laysReading_25 : decode cX6_laysReading 25 = .ok (.aload_n 0, 1) := by decide +kernel
theorem dX6_laysReading_26 : decode cX6_laysReading 26 = .ok (.getfield 92, 3) := by decide +kernel
theorem dX6_laysReading_29 : decode cX6_laysReading 29 = .ok (.iconst (-1), 1) := by decide +kernel
theorem dX6_laysReading_30 : decode cX6_laysReading 30 = .ok (.if_icmp .ne 7, 3) := by decide +kernel
theorem dX6_laysReading_33 : decode cX6_laysReading 33 = .ok (.iconst 1, 1) := by decide +kernel
theorem dX6_laysReading_34 : decode cX6_laysReading 34 = .ok (.goto 7, 3) := by decide +kernel
theorem dX6_laysReading_37 : decode cX6_laysReading 37 = .ok (.aload_n 0, 1) := by decide +kernel
theorem dX6_laysReading_38 : decode cX6_laysReading 38 = .ok (.invokevirtual 120, 3) := by decide +kernel
theorem dX6_laysReading_41 : decode cX6_laysReading 41 = .ok (.putfield 123, 3) := by decide +kernel
theorem dX6_laysReading_44 : decode cX6_laysReading 44 = .ok (.return_, 1) := by decide +kernel
set_option maxRecDepth 20000 in
theorem ggX6_isAsWritten_X6_laysReading : GoodIn wsX6_isAsWritten wsX6_laysReading := goodIn_r _ [9, 10, 11, 1, 12, 13, 14, 8, 15, 16, 2, 17, 18, 19, 20, 21, 22, 23, 24, 25, 26, 27, 28, 29, 30, 31, 32, 33, 34, 35, 36, 37, 38, 39, 40, 41, 42, 43, 44, 45, 46, 47, 48, 3, 4, 49, 50, 51, 52, 53, 54, 55, 56, 57, 58, 59, 60, 61, 62, 63, 64, 65, 66, 67, 68, 69, 70, 71, 72, 73, 74, 75, 76, 77, 78, 79, 80, 81, 82, 83, 84, 85] (by decide +kernel) (by decide +kernel)
set_option maxRecDepth 20000 in
theorem gX6_isAsWritten_X6_laysReading : GoodIn wsX6_isAsWritten (wsV RX6 126 RX6 yX6_laysReading wsX6_laysReading) := goodIn_app (goodIn_of _ (by decide +kernel)) ggX6_isAsWritten_X6_laysReading
theorem dX6_isAsWritten_0 : decode cX6_isAsWritten 0 = .ok (.aload_n 0, 1) := by decide +kernel
theorem dX6_isAsWritten_1 : decode cX6_isAsWritten 1 = .ok (.iload_n 1, 1) := by decide +kernel
theorem dX6_isAsWritten_2 : decode cX6_isAsWritten 2 = .ok (.invokevirtual 126, 3) := by decide +kernel
theorem dX6_isAsWritten_5 : decode cX6_isAsWritten 5 = .ok (.aload_n 0, 1) := by decide +kernel
theorem dX6_isAsWritten_6 : decode cX6_isAsWritten 6 = .ok (.getfield 123, 3) := by decide +kernel
theorem dX6_isAsWritten_9 : decode cX6_isAsWritten 9 = .ok (.ifCond .ne 29, 3) := by decide +kernel
theorem dX6_isAsWritten_12 : decode cX6_isAsWritten 12 = .ok (.aload_n 0, 1) := by decide +kernel
theorem dX6_isAsWritten_13 : decode cX6_isAsWritten 13 = .ok (.getfield 7, 3) := by decide +kernel
theorem dX6_isAsWritten_16 : decode cX6_isAsWritten 16 = .ok (.iconst 5, 1) := by decide +kernel
theorem dX6_isAsWritten_17 : decode cX6_isAsWritten 17 = .ok (.iaload, 1) := by decide +kernel
theorem dX6_isAsWritten_18 : decode cX6_isAsWritten 18 = .ok (.ifCond .le 20, 3) := by decide +kernel
theorem dX6_isAsWritten_21 : decode cX6_isAsWritten 21 = .ok (.aload_n 0, 1) := by decide +kernel
theorem dX6_isAsWritten_22 : decode cX6_isAsWritten 22 = .ok (.getfield 102, 3) := by decide +kernel
theorem dX6_isAsWritten_25 : decode cX6_isAsWritten 25 = .ok (.aload_n 0, 1) := by decide +kernel
theorem dX6_isAsWritten_26 : decode cX6_isAsWritten 26 = .ok (.getfield 7, 3) := by decide +kernel
theorem dX6_isAsWritten_29 : decode cX6_isAsWritten 29 = .ok (.iconst 5, 1) := by decide +kernel
theorem dX6_isAsWritten_30 : decode cX6_isAsWritten 30 = .ok (.iaload, 1) := by decide +kernel
theorem dX6_isAsWritten_31 : decode cX6_isAsWritten 31 = .ok (.if_icmp .ne 7, 3) := by decide +kernel
theorem dX6_isAsWritten_34 : decode cX6_isAsWritten 34 = .ok (.iconst 1, 1) := by decide +kernel
theorem dX6_isAsWritten_35 : decode cX6_isAsWritten 35 = .ok (.goto 4, 3) := by decide +kernel
theorem dX6_isAsWritten_38 : decode cX6_isAsWritten 38 = .ok (.iconst 0, 1) := by decide +kernel
theorem dX6_isAsWritten_39 : decode cX6_isAsWritten 39 = .ok (.istore_n 2, 1) := by decide +kernel
theorem dX6_isAsWritten_40 : decode cX6_isAsWritten 40 = .ok (.iconst 0, 1) := by decide +kernel
theorem dX6_isAsWritten_41 : decode cX6_isAsWritten 41 = .ok (.istore_n 3, 1) := by decide +kernel
theorem dX6_isAsWritten_42 : decode cX6_isAsWritten 42 = .ok (.iload_n 3, 1) := by decide +kernel
theorem dX6_isAsWritten_43 : decode cX6_isAsWritten 43 = .ok (.aload_n 0, 1) := by decide +kernel
theorem dX6_isAsWritten_44 : decode cX6_isAsWritten 44 = .ok (.getfield 7, 3) := by decide +kernel
theorem dX6_isAsWritten_47 : decode cX6_isAsWritten 47 = .ok (.iconst 5, 1) := by decide +kernel
theorem dX6_isAsWritten_48 : decode cX6_isAsWritten 48 = .ok (.iaload, 1) := by decide +kernel
theorem dX6_isAsWritten_49 : decode cX6_isAsWritten 49 = .ok (.if_icmp .ge 37, 3) := by decide +kernel
theorem dX6_isAsWritten_52 : decode cX6_isAsWritten 52 = .ok (.iload_n 2, 1) := by decide +kernel
theorem dX6_isAsWritten_53 : decode cX6_isAsWritten 53 = .ok (.ifCond .eq 33, 3) := by decide +kernel
theorem dX6_isAsWritten_56 : decode cX6_isAsWritten 56 = .ok (.aload_n 0, 1) := by decide +kernel
theorem dX6_isAsWritten_57 : decode cX6_isAsWritten 57 = .ok (.getfield 32, 3) := by decide +kernel
theorem dX6_isAsWritten_60 : decode cX6_isAsWritten 60 = .ok (.iload_n 3, 1) := by decide +kernel
theorem dX6_isAsWritten_61 : decode cX6_isAsWritten 61 = .ok (.iaload, 1) := by decide +kernel
theorem dX6_isAsWritten_62 : decode cX6_isAsWritten 62 = .ok (.aload_n 0, 1) := by decide +kernel
theorem dX6_isAsWritten_63 : decode cX6_isAsWritten 63 = .ok (.getfield 7, 3) := by decide +kernel
theorem dX6_isAsWritten_66 : decode cX6_isAsWritten 66 = .ok (.bipush 6, 2) := by decide +kernel
theorem dX6_isAsWritten_68 : decode cX6_isAsWritten 68 = .ok (.iload_n 3, 1) := by decide +kernel
theorem dX6_isAsWritten_69 : decode cX6_isAsWritten 69 = .ok (.iadd, 1) := by decide +kernel
theorem dX6_isAsWritten_70 : decode cX6_isAsWritten 70 = .ok (.iaload, 1) := by decide +kernel
theorem dX6_isAsWritten_71 : decode cX6_isAsWritten 71 = .ok (.if_icmp .ne 7, 3) := by decide +kernel
theorem dX6_isAsWritten_74 : decode cX6_isAsWritten 74 = .ok (.iconst 1, 1) := by decide +kernel
theorem dX6_isAsWritten_75 : decode cX6_isAsWritten 75 = .ok (.goto 4, 3) := by decide +kernel
theorem dX6_isAsWritten_78 : decode cX6_isAsWritten 78 = .ok (.iconst 0, 1) := by decide +kernel
theorem dX6_isAsWritten_79 : decode cX6_isAsWritten 79 = .ok (.istore_n 2, 1) := by decide +kernel
theorem dX6_isAsWritten_80 : decode cX6_isAsWritten 80 = .ok (.iinc 3 1, 3) := by decide +kernel
theorem dX6_isAsWritten_83 : decode cX6_isAsWritten 83 = .ok (.goto (-41), 3) := by decide +kernel
theorem dX6_isAsWritten_86 : decode cX6_isAsWritten 86 = .ok (.iload_n 2, 1) := by decide +kernel
theorem dX6_isAsWritten_87 : decode cX6_isAsWritten 87 = .ok (.ireturn, 1) := by decide +kernel
set_option maxRecDepth 20000 in
theorem ggX6_right_X6_isAsWritten : GoodIn wsX6_right wsX6_isAsWritten := goodIn_r _ [5, 6, 7, 8, 9, 10, 11, 12, 4, 13, 14, 15, 16, 17, 18, 19, 20, 21, 22, 23, 24, 25, 26, 27, 28, 29, 30, 31, 32, 33, 34, 35, 36, 37, 38, 39, 40, 41, 42, 43, 44, 45, 46, 47, 48, 49, 50, 51, 52, 53, 54, 55, 56, 57, 58, 59, 60, 61, 62, 63, 64, 65, 66, 67, 68, 69, 70, 71, 72, 73, 74, 75, 76, 77, 78, 79, 80, 81, 82, 83, 84, 85, 86, 87, 88, 89] (by decide +kernel) (by decide +kernel)
set_option maxRecDepth 20000 in
theorem gX6_right_X6_isAsWritten : GoodIn wsX6_right (wsV RX6 129 RX6 yX6_isAsWritten wsX6_isAsWritten) := goodIn_app (goodIn_of _ (by decide +kernel)) ggX6_right_X6_isAsWritten
theorem dX6_right_0 : decode cX6_right 0 = .ok (.aload_n 0, 1) := by decide +kernel
theorem dX6_right_1 : decode cX6_right 1 = .ok (.iconst 0, 1) := by decide +kernel
theorem dX6_right_2 : decode cX6_right 2 = .ok (.invokevirtual 129, 3) := by decide +kernel
theorem dX6_right_5 : decode cX6_right 5 = .ok (.ifCond .eq 7, 3) := by decide +kernel
theorem dX6_right_8 : decode cX6_right 8 = .ok (.iconst 1, 1) := by decide +kernel
theorem dX6_right_9 : decode cX6_right 9 = .ok (.goto 16, 3) := by decide +kernel
theorem dX6_right_12 : decode cX6_right 12 = .ok (.aload_n 0, 1) := by decide +kernel
theorem dX6_right_13 : decode cX6_right 13 = .ok (.iconst 1, 1) := by decide +kernel
theorem dX6_right_14 : decode cX6_right 14 = .ok (.invokevirtual 129, 3) := by decide +kernel
theorem dX6_right_17 : decode cX6_right 17 = .ok (.ifCond .eq 7, 3) := by decide +kernel
theorem dX6_right_20 : decode cX6_right 20 = .ok (.iconst 2, 1) := by decide +kernel
theorem dX6_right_21 : decode cX6_right 21 = .ok (.goto 4, 3) := by decide +kernel
theorem dX6_right_24 : decode cX6_right 24 = .ok (.iconst 0, 1) := by decide +kernel
theorem dX6_right_25 : decode cX6_right 25 = .ok (.ireturn, 1) := by decide +kernel
set_option maxRecDepth 20000 in
theorem ggX6_write_X6_readsBuffer : GoodIn wsX6_write wsX6_readsBuffer := goodIn_r _ [10, 11, 4, 2, 12, 5, 13, 14, 9, 15, 16, 17, 18, 68, 69, 70, 71, 72, 73, 74, 75, 76, 77, 78, 79, 80, 81, 82, 83, 84, 85, 86, 87, 88] (by decide +kernel) (by decide +kernel)
set_option maxRecDepth 20000 in
theorem gX6_write_X6_readsBuffer : GoodIn wsX6_write (wsV RX6 133 RX6 yX6_readsBuffer wsX6_readsBuffer) := goodIn_app (goodIn_of _ (by decide +kernel)) ggX6_write_X6_readsBuffer
set_option maxRecDepth 20000 in
theorem ggX6_write_X6_fails : GoodIn wsX6_write wsX6_fails := goodIn_r _ [22, 1, 68, 69, 70, 71, 72, 73, 74, 75, 76, 77, 78, 79, 80, 81, 82, 83, 84, 85, 86, 87, 88] (by decide +kernel) (by decide +kernel)
set_option maxRecDepth 20000 in
theorem gX6_write_X6_fails : GoodIn wsX6_write (wsV RX6 139 RX6 yX6_fails wsX6_fails) := goodIn_app (goodIn_of _ (by decide +kernel)) ggX6_write_X6_fails
set_option maxRecDepth 20000 in
theorem ggX6_write_X6_putAside : GoodIn wsX6_write wsX6_putAside := goodIn_r _ [26, 27, 3, 68, 69, 70, 71, 72, 73, 74, 75, 76, 77, 78, 79, 80, 81, 82, 83, 84, 85, 86, 87, 88] (by decide +kernel) (by decide +kernel)
set_option maxRecDepth 20000 in
theorem gX6_write_X6_putAside : GoodIn wsX6_write (wsV RX6 142 RX6 yX6_putAside wsX6_putAside) := goodIn_app (goodIn_of _ (by decide +kernel)) ggX6_write_X6_putAside
set_option maxRecDepth 20000 in
theorem ggX6_write_X6_swipeMany : GoodIn wsX6_write wsX6_swipeMany := goodIn_r _ [31, 32, 33, 34, 9, 35, 3, 36, 37, 38, 39, 16, 17, 18, 40, 41, 42, 43, 44, 45, 46, 47, 48, 49, 50, 51, 52, 53, 68, 69, 70, 71, 72, 73, 74, 75, 76, 77, 78, 79, 80, 81, 82, 83, 84, 85, 86, 87, 88] (by decide +kernel) (by decide +kernel)
set_option maxRecDepth 20000 in
theorem gX6_write_X6_swipeMany : GoodIn wsX6_write (wsV RX6 148 RX6 yX6_swipeMany wsX6_swipeMany) := goodIn_app (goodIn_of _ (by decide +kernel)) ggX6_write_X6_swipeMany
set_option maxRecDepth 20000 in
theorem ggX6_write_X6_takeBack : GoodIn wsX6_write wsX6_takeBack := goodIn_r _ [57, 3, 27, 68, 69, 70, 71, 72, 73, 74, 75, 76, 77, 78, 79, 80, 81, 82, 83, 84, 85, 86, 87, 88] (by decide +kernel) (by decide +kernel)
set_option maxRecDepth 20000 in
theorem gX6_write_X6_takeBack : GoodIn wsX6_write (wsV RX6 151 RX6 yX6_takeBack wsX6_takeBack) := goodIn_app (goodIn_of _ (by decide +kernel)) ggX6_write_X6_takeBack
set_option maxRecDepth 20000 in
theorem ggX6_write_X6_saves : GoodIn wsX6_write wsX6_saves := goodIn_r _ [61, 62, 63, 3, 68, 69, 70, 71, 72, 73, 74, 75, 76, 77, 78, 79, 80, 81, 82, 83, 84, 85, 86, 87, 88] (by decide +kernel) (by decide +kernel)
set_option maxRecDepth 20000 in
theorem gX6_write_X6_saves : GoodIn wsX6_write (wsV RX6 154 RX6 yX6_saves wsX6_saves) := goodIn_app (goodIn_of _ (by decide +kernel)) ggX6_write_X6_saves
set_option maxRecDepth 20000 in
theorem ggX6_write_X6_swipes : GoodIn wsX6_write wsX6_swipes := goodIn_r _ [67, 3, 32, 33, 34, 9, 35, 36, 37, 38, 39, 16, 17, 18, 40, 41, 42, 43, 44, 45, 46, 47, 48, 49, 50, 51, 52, 53, 68, 69, 70, 71, 72, 73, 74, 75, 76, 77, 78, 79, 80, 81, 82, 83, 84, 85, 86, 87, 88] (by decide +kernel) (by decide +kernel)
set_option maxRecDepth 20000 in
theorem gX6_write_X6_swipes : GoodIn wsX6_write (wsV RX6 157 RX6 yX6_swipes wsX6_swipes) := goodIn_app (goodIn_of _ (by decide +kernel)) ggX6_write_X6_swipes
theorem dX6_write_0 : decode cX6_write 0 = .ok (.aload_n 0, 1) := by decide +kernel
theorem dX6_write_1 : decode cX6_write 1 = .ok (.iconst 0, 1) := by decide +kernel
theorem dX6_write_2 : decode cX6_write 2 = .ok (.putfield 38, 3) := by decide +kernel
theorem dX6_write_5 : decode cX6_write 5 = .ok (.aload_n 0, 1) := by decide +kernel
theorem dX6_write_6 : decode cX6_write 6 = .ok (.invokevirtual 133, 3) := by decide +kernel
theorem dX6_write_9 : decode cX6_write 9 = .ok (.aload_n 0, 1) := by decide +kernel
theorem dX6_write_10 : decode cX6_write 10 = .ok (.getfield 136, 3) := by decide +kernel
theorem dX6_write_13 : decode cX6_write 13 = .ok (.if_icmp .lt 10, 3) := by decide +kernel
theorem dX6_write_16 : decode cX6_write 16 = .ok (.aload_n 0, 1) := by decide +kernel
theorem dX6_write_17 : decode cX6_write 17 = .ok (.getfield 136, 3) := by decide +kernel
theorem dX6_write_20 : decode cX6_write 20 = .ok (.ifCond .ne 9, 3) := by decide +kernel
theorem dX6_write_23 : decode cX6_write 23 = .ok (.aload_n 0, 1) := by decide +kernel
theorem dX6_write_24 : decode cX6_write 24 = .ok (.iconst 1, 1) := by decide +kernel
theorem dX6_write_25 : decode cX6_write 25 = .ok (.invokevirtual 139, 3) := by decide +kernel
theorem dX6_write_28 : decode cX6_write 28 = .ok (.ireturn, 1) := by decide +kernel
theorem dX6_write_29 : decode cX6_write 29 = .ok (.aload_n 0, 1) := by decide +kernel
theorem dX6_write_30 : decode cX6_write 30 = .ok (.invokevirtual 142, 3) := by decide +kernel
theorem dX6_write_33 : decode cX6_write 33 = .ok (.aload_n 0, 1) := by decide +kernel
theorem dX6_write_34 : decode cX6_write 34 = .ok (.getfield 7, 3) := by decide +kernel
theorem dX6_write_37 : decode cX6_write 37 = .ok (.iconst 5, 1) := by decide +kernel
theorem dX6_write_38 : decode cX6_write 38 = .ok (.aload_n 0, 1) := by decide +kernel
theorem dX6_write_39 : decode cX6_write 39 = .ok (.getfield 145, 3) := by decide +kernel
theorem dX6_write_42 : decode cX6_write 42 = .ok (.iastore, 1) := by decide +kernel
theorem dX6_write_43 : decode cX6_write 43 = .ok (.iconst 0, 1) := by decide +kernel
theorem dX6_write_44 : decode cX6_write 44 = .ok (.istore_n 1, 1) := by decide +kernel
theorem dX6_write_45 : decode cX6_write 45 = .ok (.iload_n 1, 1) := by decide +kernel
theorem dX6_write_46 : decode cX6_write 46 = .ok (.bipush 20, 2) := by decide +kernel
theorem dX6_write_48 : decode cX6_write 48 = .ok (.if_icmp .ge 36, 3) := by decide +kernel
theorem dX6_write_51 : decode cX6_write 51 = .ok (.aload_n 0, 1) := by decide +kernel
theorem dX6_write_52 : decode cX6_write 52 = .ok (.getfield 7, 3) := by decide +kernel
theorem dX6_write_55 : decode cX6_write 55 = .ok (.bipush 6, 2) := by decide +kernel
theorem dX6_write_57 : decode cX6_write 57 = .ok (.iload_n 1, 1) := by decide +kernel
theorem dX6_write_58 : decode cX6_write 58 = .ok (.iadd, 1) := by decide +kernel
theorem dX6_write_59 : decode cX6_write 59 = .ok (.iload_n 1, 1) := by decide +kernel
theorem dX6_write_60 : decode cX6_write 60 = .ok (.aload_n 0, 1) := by decide +kernel
theorem dX6_write_61 : decode cX6_write 61 = .ok (.getfield 145, 3) := by decide +kernel
theorem dX6_write_64 : decode cX6_write 64 = .ok (.if_icmp .ge 12, 3) := by decide +kernel
theorem dX6_write_67 : decode cX6_write 67 = .ok (.aload_n 0, 1) := by decide +kernel
theorem dX6_write_68 : decode cX6_write 68 = .ok (.getfield 35, 3) := by decide +kernel
theorem dX6_write_71 : decode cX6_write 71 = .ok (.iload_n 1, 1) := by decide +kernel
theorem dX6_write_72 : decode cX6_write 72 = .ok (.iaload, 1) := by decide +kernel
theorem dX6_write_73 : decode cX6_write 73 = .ok (.goto 4, 3) := by decide +kernel
theorem dX6_write_76 : decode cX6_write 76 = .ok (.iconst 0, 1) := by decide +kernel
theorem dX6_write_77 : decode cX6_write 77 = .ok (.iastore, 1) := by decide +kernel
theorem dX6_write_78 : decode cX6_write 78 = .ok (.iinc 1 1, 3) := by decide +kernel
theorem dX6_write_81 : decode cX6_write 81 = .ok (.goto (-36), 3) := by decide +kernel
theorem dX6_write_84 : decode cX6_write 84 = .ok (.aload_n 0, 1) := by decide +kernel
theorem dX6_write_85 : decode cX6_write 85 = .ok (.invokevirtual 148, 3) := by decide +kernel
theorem dX6_write_88 : decode cX6_write 88 = .ok (.sipush 200, 3) := by decide +kernel
theorem dX6_write_91 : decode cX6_write 91 = .ok (.if_icmp .le 7, 3) := by decide +kernel
theorem dX6_write_94 : decode cX6_write 94 = .ok (.iconst 1, 1) := by decide +kernel
theorem dX6_write_95 : decode cX6_write 95 = .ok (.goto 4, 3) := by decide +kernel
theorem dX6_write_98 : decode cX6_write 98 = .ok (.iconst 0, 1) := by decide +kernel
theorem dX6_write_99 : decode cX6_write 99 = .ok (.istore_n 1, 1) := by decide +kernel
theorem dX6_write_100 : decode cX6_write 100 = .ok (.aload_n 0, 1) := by decide +kernel
theorem dX6_write_101 : decode cX6_write 101 = .ok (.invokevirtual 151, 3) := by decide +kernel
theorem dX6_write_104 : decode cX6_write 104 = .ok (.iload_n 1, 1) := by decide +kernel
theorem dX6_write_105 : decode cX6_write 105 = .ok (.ifCond .eq 9, 3) := by decide +kernel
theorem dX6_write_108 : decode cX6_write 108 = .ok (.aload_n 0, 1) := by decide +kernel
theorem dX6_write_109 : decode cX6_write 109 = .ok (.iconst 2, 1) := by decide +kernel
theorem dX6_write_110 : decode cX6_write 110 = .ok (.invokevirtual 139, 3) := by decide +kernel
theorem dX6_write_113 : decode cX6_write 113 = .ok (.ireturn, 1) := by decide +kernel
theorem dX6_write_114 : decode cX6_write 114 = .ok (.aload_n 0, 1) := by decide +kernel
theorem dX6_write_115 : decode cX6_write 115 = .ok (.invokevirtual 154, 3) := by decide +kernel
theorem dX6_write_118 : decode cX6_write 118 = .ok (.aload_n 0, 1) := by decide +kernel
theorem dX6_write_119 : decode cX6_write 119 = .ok (.iconst 0, 1) := by decide +kernel
theorem dX6_write_120 : decode cX6_write 120 = .ok (.putfield 136, 3) := by decide +kernel
theorem dX6_write_123 : decode cX6_write 123 = .ok (.aload_n 0, 1) := by decide +kernel
theorem dX6_write_124 : decode cX6_write 124 = .ok (.getfield 7, 3) := by decide +kernel
theorem dX6_write_127 : decode cX6_write 127 = .ok (.iconst 5, 1) := by decide +kernel
theorem dX6_write_128 : decode cX6_write 128 = .ok (.aload_n 0, 1) := by decide +kernel
theorem dX6_write_129 : decode cX6_write 129 = .ok (.getfield 145, 3) := by decide +kernel
theorem dX6_write_132 : decode cX6_write 132 = .ok (.iastore, 1) := by decide +kernel
theorem dX6_write_133 : decode cX6_write 133 = .ok (.iconst 0, 1) := by decide +kernel
theorem dX6_write_134 : decode cX6_write 134 = .ok (.istore_n 2, 1) := by decide +kernel
theorem dX6_write_135 : decode cX6_write 135 = .ok (.iload_n 2, 1) := by decide +kernel
theorem dX6_write_136 : decode cX6_write 136 = .ok (.bipush 20, 2) := by decide +kernel
theorem dX6_write_138 : decode cX6_write 138 = .ok (.if_icmp .ge 36, 3) := by decide +kernel
theorem dX6_write_141 : decode cX6_write 141 = .ok (.aload_n 0, 1) := by decide +kernel
theorem dX6_write_142 : decode cX6_write 142 = .ok (.getfield 7, 3) := by decide +kernel
theorem dX6_write_145 : decode cX6_write 145 = .ok (.bipush 6, 2) := by decide +kernel
theorem dX6_write_147 : decode cX6_write 147 = .ok (.iload_n 2, 1) := by decide +kernel
theorem dX6_write_148 : decode cX6_write 148 = .ok (.iadd, 1) := by decide +kernel
theorem dX6_write_149 : decode cX6_write 149 = .ok (.iload_n 2, 1) := by decide +kernel
theorem dX6_write_150 : decode cX6_write 150 = .ok (.aload_n 0, 1) := by decide +kernel
theorem dX6_write_151 : decode cX6_write 151 = .ok (.getfield 145, 3) := by decide +kernel
theorem dX6_write_154 : decode cX6_write 154 = .ok (.if_icmp .ge 12, 3) := by decide +kernel
theorem dX6_write_157 : decode cX6_write 157 = .ok (.aload_n 0, 1) := by decide +kernel
theorem dX6_write_158 : decode cX6_write 158 = .ok (.getfield 35, 3) := by decide +kernel
theorem dX6_write_161 : decode cX6_write 161 = .ok (.iload_n 2, 1) := by decide +kernel
theorem dX6_write_162 : decode cX6_write 162 = .ok (.iaload, 1) := by decide +kernel
theorem dX6_write_163 : decode cX6_write 163 = .ok (.goto 4, 3) := by decide +kernel
theorem dX6_write_166 : decode cX6_write 166 = .ok (.iconst 0, 1) := by decide +kernel
theorem dX6_write_167 : decode cX6_write 167 = .ok (.iastore, 1) := by decide +kernel
theorem dX6_write_168 : decode cX6_write 168 = .ok (.iinc 2 1, 3) := by decide +kernel
theorem dX6_write_171 : decode cX6_write 171 = .ok (.goto (-36), 3) := by decide +kernel
theorem dX6_write_174 : decode cX6_write 174 = .ok (.aload_n 0, 1) := by decide +kernel
theorem dX6_write_175 : decode cX6_write 175 = .ok (.invokevirtual 157, 3) := by decide +kernel
theorem dX6_write_178 : decode cX6_write 178 = .ok (.aload_n 0, 1) := by decide +kernel
theorem dX6_write_179 : decode cX6_write 179 = .ok (.getfield 7, 3) := by decide +kernel
theorem dX6_write_182 : decode cX6_write 182 = .ok (.iconst 4, 1) := by decide +kernel
theorem dX6_write_183 : decode cX6_write 183 = .ok (.iaload, 1) := by decide +kernel
theorem dX6_write_184 : decode cX6_write 184 = .ok (.ireturn, 1) := by decide +kernel
set_option maxRecDepth 20000 in
theorem ggX6_swipe_X6_swipeMany : GoodIn wsX6_swipe wsX6_swipeMany := goodIn_r _ [7, 8, 9, 10, 6, 11, 2, 12, 13, 14, 15, 16, 17, 18, 19, 20, 21, 22, 23, 24, 25, 26, 27, 28, 29, 30, 31, 32, 47, 48, 49, 50, 51, 52, 53, 54, 55, 56, 57, 58, 59, 60, 61, 62, 63, 64, 65, 66, 67] (by decide +kernel) (by decide +kernel)
set_option maxRecDepth 20000 in
theorem gX6_swipe_X6_swipeMany : GoodIn wsX6_swipe (wsV RX6 148 RX6 yX6_swipeMany wsX6_swipeMany) := goodIn_app (goodIn_of _ (by decide +kernel)) ggX6_swipe_X6_swipeMany
set_option maxRecDepth 20000 in
theorem ggX6_swipe_X6_fails : GoodIn wsX6_swipe wsX6_fails := goodIn_r _ [36, 1, 47, 48, 49, 50, 51, 52, 53, 54, 55, 56, 57, 58, 59, 60, 61, 62, 63, 64, 65, 66, 67] (by decide +kernel) (by decide +kernel)
set_option maxRecDepth 20000 in
theorem gX6_swipe_X6_fails : GoodIn wsX6_swipe (wsV RX6 139 RX6 yX6_fails wsX6_fails) := goodIn_app (goodIn_of _ (by decide +kernel)) ggX6_swipe_X6_fails
set_option maxRecDepth 20000 in
theorem ggX6_swipe_X6_saves : GoodIn wsX6_swipe wsX6_saves := goodIn_r _ [40, 41, 42, 2, 47, 48, 49, 50, 51, 52, 53, 54, 55, 56, 57, 58, 59, 60, 61, 62, 63, 64, 65, 66, 67] (by decide +kernel) (by decide +kernel)
set_option maxRecDepth 20000 in
theorem gX6_swipe_X6_saves : GoodIn wsX6_swipe (wsV RX6 154 RX6 yX6_saves wsX6_saves) := goodIn_app (goodIn_of _ (by decide +kernel)) ggX6_swipe_X6_saves
set_option maxRecDepth 20000 in
theorem ggX6_swipe_X6_swipes : GoodIn wsX6_swipe wsX6_swipes := goodIn_r _ [46, 2, 8, 9, 10, 6, 11, 12, 13, 14, 15, 16, 17, 18, 19, 20, 21, 22, 23, 24, 25, 26, 27, 28, 29, 30, 31, 32, 47, 48, 49, 50, 51, 52, 53, 54, 55, 56, 57, 58, 59, 60, 61, 62, 63, 64, 65, 66, 67] (by decide +kernel) (by decide +kernel)
set_option maxRecDepth 20000 in
theorem gX6_swipe_X6_swipes : GoodIn wsX6_swipe (wsV RX6 157 RX6 yX6_swipes wsX6_swipes) := goodIn_app (goodIn_of _ (by decide +kernel)) ggX6_swipe_X6_swipes
theorem dX6_swipe_0 : decode cX6_swipe 0 = .ok (.aload_n 0, 1) := by decide +kernel
theorem dX6_swipe_1 : decode cX6_swipe 1 = .ok (.iconst 0, 1) := by decide +kernel
theorem dX6_swipe_2 : decode cX6_swipe 2 = .ok (.putfield 38, 3) := by decide +kernel
theorem dX6_swipe_5 : decode cX6_swipe 5 = .ok (.aload_n 0, 1) := by decide +kernel
theorem dX6_swipe_6 : decode cX6_swipe 6 = .ok (.getfield 7, 3) := by decide +kernel
theorem dX6_swipe_9 : decode cX6_swipe 9 = .ok (.iconst 5, 1) := by decide +kernel
theorem dX6_swipe_10 : decode cX6_swipe 10 = .ok (.iaload, 1) := by decide +kernel
theorem dX6_swipe_11 : decode cX6_swipe 11 = .ok (.ifCond .eq 13, 3) := by decide +kernel
theorem dX6_swipe_14 : decode cX6_swipe 14 = .ok (.aload_n 0, 1) := by decide +kernel
theorem dX6_swipe_15 : decode cX6_swipe 15 = .ok (.invokevirtual 148, 3) := by decide +kernel
theorem dX6_swipe_18 : decode cX6_swipe 18 = .ok (.sipush 200, 3) := by decide +kernel
theorem dX6_swipe_21 : decode cX6_swipe 21 = .ok (.if_icmp .le 9, 3) := by decide +kernel
theorem dX6_swipe_24 : decode cX6_swipe 24 = .ok (.aload_n 0, 1) := by decide +kernel
theorem dX6_swipe_25 : decode cX6_swipe 25 = .ok (.iconst 1, 1) := by decide +kernel
theorem dX6_swipe_26 : decode cX6_swipe 26 = .ok (.invokevirtual 139, 3) := by decide +kernel
theorem dX6_swipe_29 : decode cX6_swipe 29 = .ok (.ireturn, 1) := by decide +kernel
theorem dX6_swipe_30 : decode cX6_swipe 30 = .ok (.aload_n 0, 1) := by decide +kernel
theorem dX6_swipe_31 : decode cX6_swipe 31 = .ok (.invokevirtual 154, 3) := by decide +kernel
theorem dX6_swipe_34 : decode cX6_swipe 34 = .ok (.aload_n 0, 1) := by decide +kernel
theorem dX6_swipe_35 : decode cX6_swipe 35 = .ok (.invokevirtual 157, 3) := by decide +kernel
theorem dX6_swipe_38 : decode cX6_swipe 38 = .ok (.aload_n 0, 1) := by decide +kernel
theorem dX6_swipe_39 : decode cX6_swipe 39 = .ok (.getfield 7, 3) := by decide +kernel
theorem dX6_swipe_42 : decode cX6_swipe 42 = .ok (.iconst 4, 1) := by decide +kernel
theorem dX6_swipe_43 : decode cX6_swipe 43 = .ok (.iaload, 1) := by decide +kernel
theorem dX6_swipe_44 : decode cX6_swipe 44 = .ok (.ireturn, 1) := by decide +kernel
set_option maxRecDepth 20000 in
theorem ggX6_turn_X6_saves : GoodIn wsX6_turn wsX6_saves := goodIn_r _ [7, 8, 9, 2, 10, 11, 12, 13, 14, 15, 16, 17, 18, 19, 20, 21, 22, 23, 24, 25, 26, 27, 28, 29, 30] (by decide +kernel) (by decide +kernel)
set_option maxRecDepth 20000 in
theorem gX6_turn_X6_saves : GoodIn wsX6_turn (wsV RX6 154 RX6 yX6_saves wsX6_saves) := goodIn_app (goodIn_of _ (by decide +kernel)) ggX6_turn_X6_saves
theorem dX6_turn_0 : decode cX6_turn 0 = .ok (.aload_n 0, 1) := by decide +kernel
theorem dX6_turn_1 : decode cX6_turn 1 = .ok (.iconst 0, 1) := by decide +kernel
theorem dX6_turn_2 : decode cX6_turn 2 = .ok (.putfield 38, 3) := by decide +kernel
theorem dX6_turn_5 : decode cX6_turn 5 = .ok (.aload_n 0, 1) := by decide +kernel
theorem dX6_turn_6 : decode cX6_turn 6 = .ok (.invokevirtual 154, 3) := by decide +kernel
theorem dX6_turn_9 : decode cX6_turn 9 = .ok (.iconst 0, 1) := by decide +kernel
theorem dX6_turn_10 : decode cX6_turn 10 = .ok (.istore_n 1, 1) := by decide +kernel
theorem dX6_turn_11 : decode cX6_turn 11 = .ok (.iload_n 1, 1) := by decide +kernel
theorem dX6_turn_12 : decode cX6_turn 12 = .ok (.aload_n 0, 1) := by decide +kernel
theorem dX6_turn_13 : decode cX6_turn 13 = .ok (.getfield 7, 3) := by decide +kernel
theorem dX6_turn_16 : decode cX6_turn 16 = .ok (.iconst 4, 1) := by decide +kernel
theorem dX6_turn_17 : decode cX6_turn 17 = .ok (.iaload, 1) := by decide +kernel
theorem dX6_turn_18 : decode cX6_turn 18 = .ok (.iconst 2, 1) := by decide +kernel
theorem dX6_turn_19 : decode cX6_turn 19 = .ok (.idiv, 1) := by decide +kernel
theorem dX6_turn_20 : decode cX6_turn 20 = .ok (.if_icmp .ge 65, 3) := by decide +kernel
theorem dX6_turn_23 : decode cX6_turn 23 = .ok (.aload_n 0, 1) := by decide +kernel
theorem dX6_turn_24 : decode cX6_turn 24 = .ok (.getfield 7, 3) := by decide +kernel
theorem dX6_turn_27 : decode cX6_turn 27 = .ok (.bipush 26, 2) := by decide +kernel
theorem dX6_turn_29 : decode cX6_turn 29 = .ok (.iload_n 1, 1) := by decide +kernel
theorem dX6_turn_30 : decode cX6_turn 30 = .ok (.iadd, 1) := by decide +kernel
theorem dX6_turn_31 : decode cX6_turn 31 = .ok (.iaload, 1) := by decide +kernel
theorem dX6_turn_32 : decode cX6_turn 32 = .ok (.istore_n 2, 1) := by decide +kernel
theorem dX6_turn_33 : decode cX6_turn 33 = .ok (.aload_n 0, 1) := by decide +kernel
theorem dX6_turn_34 : decode cX6_turn 34 = .ok (.getfield 7, 3) := by decide +kernel
theorem dX6_turn_37 : decode cX6_turn 37 = .ok (.bipush 26, 2) := by decide +kernel
theorem dX6_turn_39 : decode cX6_turn 39 = .ok (.iload_n 1, 1) := by decide +kernel
theorem dX6_turn_40 : decode cX6_turn 40 = .ok (.iadd, 1) := by decide +kernel
theorem dX6_turn_41 : decode cX6_turn 41 = .ok (.aload_n 0, 1) := by decide +kernel
theorem dX6_turn_42 : decode cX6_turn 42 = .ok (.getfield 7, 3) := by decide +kernel
theorem dX6_turn_45 : decode cX6_turn 45 = .ok (.bipush 26, 2) := by decide +kernel
theorem dX6_turn_47 : decode cX6_turn 47 = .ok (.aload_n 0, 1) := by decide +kernel
theorem dX6_turn_48 : decode cX6_turn 48 = .ok (.getfield 7, 3) := by decide +kernel
theorem dX6_turn_51 : decode cX6_turn 51 = .ok (.iconst 4, 1) := by decide +kernel
theorem dX6_turn_52 : decode cX6_turn 52 = .ok (.iaload, 1) := by decide +kernel
theorem dX6_turn_53 : decode cX6_turn 53 = .ok (.iadd, 1) := by decide +kernel
theorem dX6_turn_54 : decode cX6_turn 54 = .ok (.iconst 1, 1) := by decide +kernel
theorem dX6_turn_55 : decode cX6_turn 55 = .ok (.isub, 1) := by decide +kernel
theorem dX6_turn_56 : decode cX6_turn 56 = .ok (.iload_n 1, 1) := by decide +kernel
theorem dX6_turn_57 : decode cX6_turn 57 = .ok (.isub, 1) := by decide +kernel
theorem dX6_turn_58 : decode cX6_turn 58 = .ok (.iaload, 1) := by decide +kernel
theorem dX6_turn_59 : decode cX6_turn 59 = .ok (.iastore, 1) := by decide +kernel
theorem dX6_turn_60 : decode cX6_turn 60 = .ok (.aload_n 0, 1) := by decide +kernel
theorem dX6_turn_61 : decode cX6_turn 61 = .ok (.getfield 7, 3) := by decide +kernel
theorem dX6_turn_64 : decode cX6_turn 64 = .ok (.bipush 26, 2) := by decide +kernel
theorem dX6_turn_66 : decode cX6_turn 66 = .ok (.aload_n 0, 1) := by decide +kernel
theorem dX6_turn_67 : decode cX6_turn 67 = .ok (.getfield 7, 3) := by decide +kernel
theorem dX6_turn_70 : decode cX6_turn 70 = .ok (.iconst 4, 1) := by decide +kernel
theorem dX6_turn_71 : decode cX6_turn 71 = .ok (.iaload, 1) := by decide +kernel
theorem dX6_turn_72 : decode cX6_turn 72 = .ok (.iadd, 1) := by decide +kernel
theorem dX6_turn_73 : decode cX6_turn 73 = .ok (.iconst 1, 1) := by decide +kernel
theorem dX6_turn_74 : decode cX6_turn 74 = .ok (.isub, 1) := by decide +kernel
theorem dX6_turn_75 : decode cX6_turn 75 = .ok (.iload_n 1, 1) := by decide +kernel
theorem dX6_turn_76 : decode cX6_turn 76 = .ok (.isub, 1) := by decide +kernel
theorem dX6_turn_77 : decode cX6_turn 77 = .ok (.iload_n 2, 1) := by decide +kernel
theorem dX6_turn_78 : decode cX6_turn 78 = .ok (.iastore, 1) := by decide +kernel
theorem dX6_turn_79 : decode cX6_turn 79 = .ok (.iinc 1 1, 3) := by decide +kernel
theorem dX6_turn_82 : decode cX6_turn 82 = .ok (.goto (-71), 3) := by decide +kernel
theorem dX6_turn_85 : decode cX6_turn 85 = .ok (.aload_n 0, 1) := by decide +kernel
theorem dX6_turn_86 : decode cX6_turn 86 = .ok (.getfield 7, 3) := by decide +kernel
theorem dX6_turn_89 : decode cX6_turn 89 = .ok (.iconst 4, 1) := by decide +kernel
theorem dX6_turn_90 : decode cX6_turn 90 = .ok (.iaload, 1) := by decide +kernel
theorem dX6_turn_91 : decode cX6_turn 91 = .ok (.ifCond .ne 7, 3) := by decide +kernel
theorem dX6_turn_94 : decode cX6_turn 94 = .ok (.iconst 0, 1) := by decide +kernel
theorem dX6_turn_95 : decode cX6_turn 95 = .ok (.goto 10, 3) := by decide +kernel
theorem dX6_turn_98 : decode cX6_turn 98 = .ok (.aload_n 0, 1) := by decide +kernel
theorem dX6_turn_99 : decode cX6_turn 99 = .ok (.getfield 7, 3) := by decide +kernel
theorem dX6_turn_102 : decode cX6_turn 102 = .ok (.bipush 26, 2) := by decide +kernel
theorem dX6_turn_104 : decode cX6_turn 104 = .ok (.iaload, 1) := by decide +kernel
theorem dX6_turn_105 : decode cX6_turn 105 = .ok (.ireturn, 1) := by decide +kernel
set_option maxRecDepth 20000 in
theorem ggX6_join_X6_in : GoodIn wsX6_join wsX6_in := goodIn_r _ [6] (by decide +kernel) (by decide +kernel)
set_option maxRecDepth 20000 in
theorem gX6_join_X6_in : GoodIn wsX6_join (va_wsS RX6 53 yX6_in wsX6_in) := goodIn_app (goodIn_of _ (by decide +kernel)) ggX6_join_X6_in
set_option maxRecDepth 20000 in
theorem ggX6_join_X6_fails : GoodIn wsX6_join wsX6_fails := goodIn_r _ [10, 1, 17, 18, 19, 20, 21, 22, 23, 24, 25, 26, 27, 28, 29, 30, 31, 32, 33, 34, 35, 36, 37] (by decide +kernel) (by decide +kernel)
set_option maxRecDepth 20000 in
theorem gX6_join_X6_fails : GoodIn wsX6_join (wsV RX6 139 RX6 yX6_fails wsX6_fails) := goodIn_app (goodIn_of _ (by decide +kernel)) ggX6_join_X6_fails
set_option maxRecDepth 20000 in
theorem ggX6_join_X6_saves : GoodIn wsX6_join wsX6_saves := goodIn_r _ [14, 15, 16, 2, 17, 18, 19, 20, 21, 22, 23, 24, 25, 26, 27, 28, 29, 30, 31, 32, 33, 34, 35, 36, 37] (by decide +kernel) (by decide +kernel)
set_option maxRecDepth 20000 in
theorem gX6_join_X6_saves : GoodIn wsX6_join (wsV RX6 154 RX6 yX6_saves wsX6_saves) := goodIn_app (goodIn_of _ (by decide +kernel)) ggX6_join_X6_saves
theorem dX6_join_0 : decode cX6_join 0 = .ok (.aload_n 0, 1) := by decide +kernel
theorem dX6_join_1 : decode cX6_join 1 = .ok (.iconst 0, 1) := by decide +kernel
theorem dX6_join_2 : decode cX6_join 2 = .ok (.putfield 38, 3) := by decide +kernel
theorem dX6_join_5 : decode cX6_join 5 = .ok (.iload_n 1, 1) := by decide +kernel
theorem dX6_join_6 : decode cX6_join 6 = .ok (.iconst 0, 1) := by decide +kernel
theorem dX6_join_7 : decode cX6_join 7 = .ok (.aload_n 0, 1) := by decide +kernel
theorem dX6_join_8 : decode cX6_join 8 = .ok (.getfield 7, 3) := by decide +kernel
theorem dX6_join_11 : decode cX6_join 11 = .ok (.iconst 4, 1) := by decide +kernel
theorem dX6_join_12 : decode cX6_join 12 = .ok (.iaload, 1) := by decide +kernel
theorem dX6_join_13 : decode cX6_join 13 = .ok (.iconst 2, 1) := by decide +kernel
theorem dX6_join_14 : decode cX6_join 14 = .ok (.isub, 1) := by decide +kernel
theorem dX6_join_15 : decode cX6_join 15 = .ok (.invokestatic 53, 3) := by decide +kernel
theorem dX6_join_18 : decode cX6_join 18 = .ok (.ifCond .ne 9, 3) := by decide +kernel
theorem dX6_join_21 : decode cX6_join 21 = .ok (.aload_n 0, 1) := by decide +kernel
theorem dX6_join_22 : decode cX6_join 22 = .ok (.iconst 1, 1) := by decide +kernel
theorem dX6_join_23 : decode cX6_join 23 = .ok (.invokevirtual 139, 3) := by decide +kernel
theorem dX6_join_26 : decode cX6_join 26 = .ok (.ireturn, 1) := by decide +kernel
theorem dX6_join_27 : decode cX6_join 27 = .ok (.aload_n 0, 1) := by decide +kernel
theorem dX6_join_28 : decode cX6_join 28 = .ok (.invokevirtual 154, 3) := by decide +kernel
theorem dX6_join_31 : decode cX6_join 31 = .ok (.aload_n 0, 1) := by decide +kernel
theorem dX6_join_32 : decode cX6_join 32 = .ok (.getfield 7, 3) := by decide +kernel
theorem dX6_join_35 : decode cX6_join 35 = .ok (.bipush 26, 2) := by decide +kernel
theorem dX6_join_37 : decode cX6_join 37 = .ok (.iload_n 1, 1) := by decide +kernel
theorem dX6_join_38 : decode cX6_join 38 = .ok (.iadd, 1) := by decide +kernel
theorem dX6_join_39 : decode cX6_join 39 = .ok (.iaload, 1) := by decide +kernel
theorem dX6_join_40 : decode cX6_join 40 = .ok (.aload_n 0, 1) := by decide +kernel
theorem dX6_join_41 : decode cX6_join 41 = .ok (.getfield 7, 3) := by decide +kernel
theorem dX6_join_44 : decode cX6_join 44 = .ok (.bipush 26, 2) := by decide +kernel
theorem dX6_join_46 : decode cX6_join 46 = .ok (.iload_n 1, 1) := by decide +kernel
theorem dX6_join_47 : decode cX6_join 47 = .ok (.iadd, 1) := by decide +kernel
theorem dX6_join_48 : decode cX6_join 48 = .ok (.iconst 1, 1) := by decide +kernel
theorem dX6_join_49 : decode cX6_join 49 = .ok (.iadd, 1) := by decide +kernel
theorem dX6_join_50 : decode cX6_join 50 = .ok (.iaload, 1) := by decide +kernel
theorem dX6_join_51 : decode cX6_join 51 = .ok (.iadd, 1) := by decide +kernel
theorem dX6_join_52 : decode cX6_join 52 = .ok (.istore_n 2, 1) := by decide +kernel
theorem dX6_join_53 : decode cX6_join 53 = .ok (.aload_n 0, 1) := by decide +kernel
theorem dX6_join_54 : decode cX6_join 54 = .ok (.getfield 7, 3) := by decide +kernel
theorem dX6_join_57 : decode cX6_join 57 = .ok (.bipush 26, 2) := by decide +kernel
theorem dX6_join_59 : decode cX6_join 59 = .ok (.iload_n 1, 1) := by decide +kernel
theorem dX6_join_60 : decode cX6_join 60 = .ok (.iadd, 1) := by decide +kernel
theorem dX6_join_61 : decode cX6_join 61 = .ok (.iload_n 2, 1) := by decide +kernel
theorem dX6_join_62 : decode cX6_join 62 = .ok (.iastore, 1) := by decide +kernel
theorem dX6_join_63 : decode cX6_join 63 = .ok (.aload_n 0, 1) := by decide +kernel
theorem dX6_join_64 : decode cX6_join 64 = .ok (.getfield 7, 3) := by decide +kernel
theorem dX6_join_67 : decode cX6_join 67 = .ok (.iconst 4, 1) := by decide +kernel
theorem dX6_join_68 : decode cX6_join 68 = .ok (.dup2, 1) := by decide +kernel
theorem dX6_join_69 : decode cX6_join 69 = .ok (.iaload, 1) := by decide +kernel
theorem dX6_join_70 : decode cX6_join 70 = .ok (.iconst 1, 1) := by decide +kernel
theorem dX6_join_71 : decode cX6_join 71 = .ok (.isub, 1) := by decide +kernel
theorem dX6_join_72 : decode cX6_join 72 = .ok (.iastore, 1) := by decide +kernel
theorem dX6_join_73 : decode cX6_join 73 = .ok (.iload_n 1, 1) := by decide +kernel
theorem dX6_join_74 : decode cX6_join 74 = .ok (.iconst 1, 1) := by decide +kernel
theorem dX6_join_75 : decode cX6_join 75 = .ok (.iadd, 1) := by decide +kernel
theorem dX6_join_76 : decode cX6_join 76 = .ok (.istore_n 3, 1) := by decide +kernel
theorem dX6_join_77 : decode cX6_join 77 = .ok (.iload_n 3, 1) := by decide +kernel
theorem dX6_join_78 : decode cX6_join 78 = .ok (.aload_n 0, 1) := by decide +kernel
theorem dX6_join_79 : decode cX6_join 79 = .ok (.getfield 7, 3) := by decide +kernel
theorem dX6_join_82 : decode cX6_join 82 = .ok (.iconst 4, 1) := by decide +kernel
theorem dX6_join_83 : decode cX6_join 83 = .ok (.iaload, 1) := by decide +kernel
theorem dX6_join_84 : decode cX6_join 84 = .ok (.if_icmp .ge 29, 3) := by decide +kernel
theorem dX6_join_87 : decode cX6_join 87 = .ok (.aload_n 0, 1) := by decide +kernel
theorem dX6_join_88 : decode cX6_join 88 = .ok (.getfield 7, 3) := by decide +kernel
theorem dX6_join_91 : decode cX6_join 91 = .ok (.bipush 26, 2) := by decide +kernel
theorem dX6_join_93 : decode cX6_join 93 = .ok (.iload_n 3, 1) := by decide +kernel
theorem dX6_join_94 : decode cX6_join 94 = .ok (.iadd, 1) := by decide +kernel
theorem dX6_join_95 : decode cX6_join 95 = .ok (.aload_n 0, 1) := by decide +kernel
theorem dX6_join_96 : decode cX6_join 96 = .ok (.getfield 7, 3) := by decide +kernel
theorem dX6_join_99 : decode cX6_join 99 = .ok (.bipush 26, 2) := by decide +kernel
theorem dX6_join_101 : decode cX6_join 101 = .ok (.iload_n 3, 1) := by decide +kernel
theorem dX6_join_102 : decode cX6_join 102 = .ok (.iadd, 1) := by decide +kernel
theorem dX6_join_103 : decode cX6_join 103 = .ok (.iconst 1, 1) := by decide +kernel
theorem dX6_join_104 : decode cX6_join 104 = .ok (.iadd, 1) := by decide +kernel
theorem dX6_join_105 : decode cX6_join 105 = .ok (.iaload, 1) := by decide +kernel
theorem dX6_join_106 : decode cX6_join 106 = .ok (.iastore, 1) := by decide +kernel
theorem dX6_join_107 : decode cX6_join 107 = .ok (.iinc 3 1, 3) := by decide +kernel
theorem dX6_join_110 : decode cX6_join 110 = .ok (.goto (-33), 3) := by decide +kernel
theorem dX6_join_113 : decode cX6_join 113 = .ok (.aload_n 0, 1) := by decide +kernel
theorem dX6_join_114 : decode cX6_join 114 = .ok (.getfield 7, 3) := by decide +kernel
theorem dX6_join_117 : decode cX6_join 117 = .ok (.bipush 26, 2) := by decide +kernel
theorem dX6_join_119 : decode cX6_join 119 = .ok (.aload_n 0, 1) := by decide +kernel
theorem dX6_join_120 : decode cX6_join 120 = .ok (.getfield 7, 3) := by decide +kernel
theorem dX6_join_123 : decode cX6_join 123 = .ok (.iconst 4, 1) := by decide +kernel
theorem dX6_join_124 : decode cX6_join 124 = .ok (.iaload, 1) := by decide +kernel
theorem dX6_join_125 : decode cX6_join 125 = .ok (.iadd, 1) := by decide +kernel
theorem dX6_join_126 : decode cX6_join 126 = .ok (.iconst 0, 1) := by decide +kernel
theorem dX6_join_127 : decode cX6_join 127 = .ok (.iastore, 1) := by decide +kernel
theorem dX6_join_128 : decode cX6_join 128 = .ok (.iload_n 2, 1) := by decide +kernel
theorem dX6_join_129 : decode cX6_join 129 = .ok (.ireturn, 1) := by decide +kernel
set_option maxRecDepth 20000 in
theorem ggX6_isPlace_X6_in : GoodIn wsX6_isPlace wsX6_in := goodIn_r _ [5] (by decide +kernel) (by decide +kernel)
set_option maxRecDepth 20000 in
theorem gX6_isPlace_X6_in : GoodIn wsX6_isPlace (va_wsS RX6 53 yX6_in wsX6_in) := goodIn_app (goodIn_of _ (by decide +kernel)) ggX6_isPlace_X6_in
theorem dX6_isPlace_0 : decode cX6_isPlace 0 = .ok (.iload_n 1, 1) := by decide +kernel
theorem dX6_isPlace_1 : decode cX6_isPlace 1 = .ok (.iconst 0, 1) := by decide +kernel
theorem dX6_isPlace_2 : decode cX6_isPlace 2 = .ok (.aload_n 0, 1) := by decide +kernel
theorem dX6_isPlace_3 : decode cX6_isPlace 3 = .ok (.getfield 7, 3) := by decide +kernel
theorem dX6_isPlace_6 : decode cX6_isPlace 6 = .ok (.iconst 4, 1) := by decide +kernel
theorem dX6_isPlace_7 : decode cX6_isPlace 7 = .ok (.iaload, 1) := by decide +kernel
theorem dX6_isPlace_8 : decode cX6_isPlace 8 = .ok (.iconst 1, 1) := by decide +kernel
theorem dX6_isPlace_9 : decode cX6_isPlace 9 = .ok (.isub, 1) := by decide +kernel
theorem dX6_isPlace_10 : decode cX6_isPlace 10 = .ok (.invokestatic 53, 3) := by decide +kernel
theorem dX6_isPlace_13 : decode cX6_isPlace 13 = .ok (.ireturn, 1) := by decide +kernel
set_option maxRecDepth 20000 in
theorem ggX6_scratch_X6_isPlace : GoodIn wsX6_scratch wsX6_isPlace := goodIn_r _ [7, 2, 8, 9, 6, 10, 21, 22, 23, 24, 25, 26, 27, 28, 29, 30, 31, 32, 33, 34, 35, 36, 37, 38, 39, 40, 41] (by decide +kernel) (by decide +kernel)
set_option maxRecDepth 20000 in
theorem gX6_scratch_X6_isPlace : GoodIn wsX6_scratch (wsV RX6 160 RX6 yX6_isPlace wsX6_isPlace) := goodIn_app (goodIn_of _ (by decide +kernel)) ggX6_scratch_X6_isPlace
set_option maxRecDepth 20000 in
theorem ggX6_scratch_X6_fails : GoodIn wsX6_scratch wsX6_fails := goodIn_r _ [14, 1, 21, 22, 23, 24, 25, 26, 27, 28, 29, 30, 31, 32, 33, 34, 35, 36, 37, 38, 39, 40, 41] (by decide +kernel) (by decide +kernel)
set_option maxRecDepth 20000 in
theorem gX6_scratch_X6_fails : GoodIn wsX6_scratch (wsV RX6 139 RX6 yX6_fails wsX6_fails) := goodIn_app (goodIn_of _ (by decide +kernel)) ggX6_scratch_X6_fails
set_option maxRecDepth 20000 in
theorem ggX6_scratch_X6_in : GoodIn wsX6_scratch wsX6_in := goodIn_r _ [10] (by decide +kernel) (by decide +kernel)
set_option maxRecDepth 20000 in
theorem gX6_scratch_X6_in : GoodIn wsX6_scratch (va_wsS RX6 53 yX6_in wsX6_in) := goodIn_app (goodIn_of _ (by decide +kernel)) ggX6_scratch_X6_in
set_option maxRecDepth 20000 in
theorem ggX6_scratch_X6_saves : GoodIn wsX6_scratch wsX6_saves := goodIn_r _ [18, 19, 20, 2, 21, 22, 23, 24, 25, 26, 27, 28, 29, 30, 31, 32, 33, 34, 35, 36, 37, 38, 39, 40, 41] (by decide +kernel) (by decide +kernel)
set_option maxRecDepth 20000 in
theorem gX6_scratch_X6_saves : GoodIn wsX6_scratch (wsV RX6 154 RX6 yX6_saves wsX6_saves) := goodIn_app (goodIn_of _ (by decide +kernel)) ggX6_scratch_X6_saves
theorem dX6_scratch_0 : decode cX6_scratch 0 = .ok (.aload_n 0, 1) := by decide +kernel
theorem dX6_scratch_1 : decode cX6_scratch 1 = .ok (.iconst 0, 1) := by decide +kernel
theorem dX6_scratch_2 : decode cX6_scratch 2 = .ok (.putfield 38, 3) := by decide +kernel
theorem dX6_scratch_5 : decode cX6_scratch 5 = .ok (.aload_n 0, 1) := by decide +kernel
theorem dX6_scratch_6 : decode cX6_scratch 6 = .ok (.iload_n 1, 1) := by decide +kernel
theorem dX6_scratch_7 : decode cX6_scratch 7 = .ok (.invokevirtual 160, 3) := by decide +kernel
theorem dX6_scratch_10 : decode cX6_scratch 10 = .ok (.ifCond .ne 9, 3) := by decide +kernel
theorem dX6_scratch_13 : decode cX6_scratch 13 = .ok (.aload_n 0, 1) := by decide +kernel
theorem dX6_scratch_14 : decode cX6_scratch 14 = .ok (.iconst 1, 1) := by decide +kernel
theorem dX6_scratch_15 : decode cX6_scratch 15 = .ok (.invokevirtual 139, 3) := by decide +kernel
theorem dX6_scratch_18 : decode cX6_scratch 18 = .ok (.ireturn, 1) := by decide +kernel
theorem dX6_scratch_19 : decode cX6_scratch 19 = .ok (.iload_n 2, 1) := by decide +kernel
theorem dX6_scratch_20 : decode cX6_scratch 20 = .ok (.iconst 1, 1) := by decide +kernel
theorem dX6_scratch_21 : decode cX6_scratch 21 = .ok (.aload_n 0, 1) := by decide +kernel
theorem dX6_scratch_22 : decode cX6_scratch 22 = .ok (.getfield 7, 3) := by decide +kernel
theorem dX6_scratch_25 : decode cX6_scratch 25 = .ok (.bipush 26, 2) := by decide +kernel
theorem dX6_scratch_27 : decode cX6_scratch 27 = .ok (.iload_n 1, 1) := by decide +kernel
theorem dX6_scratch_28 : decode cX6_scratch 28 = .ok (.iadd, 1) := by decide +kernel
theorem dX6_scratch_29 : decode cX6_scratch 29 = .ok (.iaload, 1) := by decide +kernel
theorem dX6_scratch_30 : decode cX6_scratch 30 = .ok (.iconst 1, 1) := by decide +kernel
theorem dX6_scratch_31 : decode cX6_scratch 31 = .ok (.isub, 1) := by decide +kernel
theorem dX6_scratch_32 : decode cX6_scratch 32 = .ok (.invokestatic 53, 3) := by decide +kernel
theorem dX6_scratch_35 : decode cX6_scratch 35 = .ok (.ifCond .ne 9, 3) := by decide +kernel
theorem dX6_scratch_38 : decode cX6_scratch 38 = .ok (.aload_n 0, 1) := by decide +kernel
theorem dX6_scratch_39 : decode cX6_scratch 39 = .ok (.iconst 2, 1) := by decide +kernel
theorem dX6_scratch_40 : decode cX6_scratch 40 = .ok (.invokevirtual 139, 3) := by decide +kernel
theorem dX6_scratch_43 : decode cX6_scratch 43 = .ok (.ireturn, 1) := by decide +kernel
theorem dX6_scratch_44 : decode cX6_scratch 44 = .ok (.aload_n 0, 1) := by decide +kernel
theorem dX6_scratch_45 : decode cX6_scratch 45 = .ok (.getfield 7, 3) := by decide +kernel
theorem dX6_scratch_48 : decode cX6_scratch 48 = .ok (.iconst 4, 1) := by decide +kernel
theorem dX6_scratch_49 : decode cX6_scratch 49 = .ok (.iaload, 1) := by decide +kernel
theorem dX6_scratch_50 : decode cX6_scratch 50 = .ok (.sipush 200, 3) := by decide +kernel
theorem dX6_scratch_53 : decode cX6_scratch 53 = .ok (.if_icmp .ne 9, 3) := by decide +kernel
theorem dX6_scratch_56 : decode cX6_scratch 56 = .ok (.aload_n 0, 1) := by decide +kernel
theorem dX6_scratch_57 : decode cX6_scratch 57 = .ok (.iconst 3, 1) := by decide +kernel
theorem dX6_scratch_58 : decode cX6_scratch 58 = .ok (.invokevirtual 139, 3) := by decide +kernel
theorem dX6_scratch_61 : decode cX6_scratch 61 = .ok (.ireturn, 1) := by decide +kernel
theorem dX6_scratch_62 : decode cX6_scratch 62 = .ok (.aload_n 0, 1) := by decide +kernel
theorem dX6_scratch_63 : decode cX6_scratch 63 = .ok (.invokevirtual 154, 3) := by decide +kernel
theorem dX6_scratch_66 : decode cX6_scratch 66 = .ok (.aload_n 0, 1) := by decide +kernel
theorem dX6_scratch_67 : decode cX6_scratch 67 = .ok (.getfield 7, 3) := by decide +kernel
theorem dX6_scratch_70 : decode cX6_scratch 70 = .ok (.iconst 4, 1) := by decide +kernel
theorem dX6_scratch_71 : decode cX6_scratch 71 = .ok (.iaload, 1) := by decide +kernel
theorem dX6_scratch_72 : decode cX6_scratch 72 = .ok (.istore_n 3, 1) := by decide +kernel
theorem dX6_scratch_73 : decode cX6_scratch 73 = .ok (.iload_n 3, 1) := by decide +kernel
theorem dX6_scratch_74 : decode cX6_scratch 74 = .ok (.iload_n 1, 1) := by decide +kernel
theorem dX6_scratch_75 : decode cX6_scratch 75 = .ok (.iconst 1, 1) := by decide +kernel
theorem dX6_scratch_76 : decode cX6_scratch 76 = .ok (.iadd, 1) := by decide +kernel
theorem dX6_scratch_77 : decode cX6_scratch 77 = .ok (.if_icmp .le 29, 3) := by decide +kernel
theorem dX6_scratch_80 : decode cX6_scratch 80 = .ok (.aload_n 0, 1) := by decide +kernel
theorem dX6_scratch_81 : decode cX6_scratch 81 = .ok (.getfield 7, 3) := by decide +kernel
theorem dX6_scratch_84 : decode cX6_scratch 84 = .ok (.bipush 26, 2) := by decide +kernel
theorem dX6_scratch_86 : decode cX6_scratch 86 = .ok (.iload_n 3, 1) := by decide +kernel
theorem dX6_scratch_87 : decode cX6_scratch 87 = .ok (.iadd, 1) := by decide +kernel
theorem dX6_scratch_88 : decode cX6_scratch 88 = .ok (.aload_n 0, 1) := by decide +kernel
theorem dX6_scratch_89 : decode cX6_scratch 89 = .ok (.getfield 7, 3) := by decide +kernel
theorem dX6_scratch_92 : decode cX6_scratch 92 = .ok (.bipush 26, 2) := by decide +kernel
theorem dX6_scratch_94 : decode cX6_scratch 94 = .ok (.iload_n 3, 1) := by decide +kernel
theorem dX6_scratch_95 : decode cX6_scratch 95 = .ok (.iadd, 1) := by decide +kernel
theorem dX6_scratch_96 : decode cX6_scratch 96 = .ok (.iconst 1, 1) := by decide +kernel
theorem dX6_scratch_97 : decode cX6_scratch 97 = .ok (.isub, 1) := by decide +kernel
theorem dX6_scratch_98 : decode cX6_scratch 98 = .ok (.iaload, 1) := by decide +kernel
theorem dX6_scratch_99 : decode cX6_scratch 99 = .ok (.iastore, 1) := by decide +kernel
theorem dX6_scratch_100 : decode cX6_scratch 100 = .ok (.iinc 3 (-1), 3) := by decide +kernel
theorem dX6_scratch_103 : decode cX6_scratch 103 = .ok (.goto (-30), 3) := by decide +kernel
theorem dX6_scratch_106 : decode cX6_scratch 106 = .ok (.aload_n 0, 1) := by decide +kernel
theorem dX6_scratch_107 : decode cX6_scratch 107 = .ok (.getfield 7, 3) := by decide +kernel
theorem dX6_scratch_110 : decode cX6_scratch 110 = .ok (.bipush 26, 2) := by decide +kernel
theorem dX6_scratch_112 : decode cX6_scratch 112 = .ok (.iload_n 1, 1) := by decide +kernel
theorem dX6_scratch_113 : decode cX6_scratch 113 = .ok (.iadd, 1) := by decide +kernel
theorem dX6_scratch_114 : decode cX6_scratch 114 = .ok (.iconst 1, 1) := by decide +kernel
theorem dX6_scratch_115 : decode cX6_scratch 115 = .ok (.iadd, 1) := by decide +kernel
theorem dX6_scratch_116 : decode cX6_scratch 116 = .ok (.aload_n 0, 1) := by decide +kernel
theorem dX6_scratch_117 : decode cX6_scratch 117 = .ok (.getfield 7, 3) := by decide +kernel
theorem dX6_scratch_120 : decode cX6_scratch 120 = .ok (.bipush 26, 2) := by decide +kernel
theorem dX6_scratch_122 : decode cX6_scratch 122 = .ok (.iload_n 1, 1) := by decide +kernel
theorem dX6_scratch_123 : decode cX6_scratch 123 = .ok (.iadd, 1) := by decide +kernel
theorem dX6_scratch_124 : decode cX6_scratch 124 = .ok (.iaload, 1) := by decide +kernel
theorem dX6_scratch_125 : decode cX6_scratch 125 = .ok (.iload_n 2, 1) := by decide +kernel
theorem dX6_scratch_126 : decode cX6_scratch 126 = .ok (.isub, 1) := by decide +kernel
theorem dX6_scratch_127 : decode cX6_scratch 127 = .ok (.iastore, 1) := by decide +kernel
theorem dX6_scratch_128 : decode cX6_scratch 128 = .ok (.aload_n 0, 1) := by decide +kernel
theorem dX6_scratch_129 : decode cX6_scratch 129 = .ok (.getfield 7, 3) := by decide +kernel
theorem dX6_scratch_132 : decode cX6_scratch 132 = .ok (.bipush 26, 2) := by decide +kernel
theorem dX6_scratch_134 : decode cX6_scratch 134 = .ok (.iload_n 1, 1) := by decide +kernel
theorem dX6_scratch_135 : decode cX6_scratch 135 = .ok (.iadd, 1) := by decide +kernel
theorem dX6_scratch_136 : decode cX6_scratch 136 = .ok (.iload_n 2, 1) := by decide +kernel
theorem dX6_scratch_137 : decode cX6_scratch 137 = .ok (.iastore, 1) := by decide +kernel
theorem dX6_scratch_138 : decode cX6_scratch 138 = .ok (.aload_n 0, 1) := by decide +kernel
theorem dX6_scratch_139 : decode cX6_scratch 139 = .ok (.getfield 7, 3) := by decide +kernel
theorem dX6_scratch_142 : decode cX6_scratch 142 = .ok (.iconst 4, 1) := by decide +kernel
theorem dX6_scratch_143 : decode cX6_scratch 143 = .ok (.dup2, 1) := by decide +kernel
theorem dX6_scratch_144 : decode cX6_scratch 144 = .ok (.iaload, 1) := by decide +kernel
theorem dX6_scratch_145 : decode cX6_scratch 145 = .ok (.iconst 1, 1) := by decide +kernel
theorem dX6_scratch_146 : decode cX6_scratch 146 = .ok (.iadd, 1) := by decide +kernel
theorem dX6_scratch_147 : decode cX6_scratch 147 = .ok (.iastore, 1) := by decide +kernel
theorem dX6_scratch_148 : decode cX6_scratch 148 = .ok (.aload_n 0, 1) := by decide +kernel
theorem dX6_scratch_149 : decode cX6_scratch 149 = .ok (.getfield 7, 3) := by decide +kernel
theorem dX6_scratch_152 : decode cX6_scratch 152 = .ok (.iconst 4, 1) := by decide +kernel
theorem dX6_scratch_153 : decode cX6_scratch 153 = .ok (.iaload, 1) := by decide +kernel
theorem dX6_scratch_154 : decode cX6_scratch 154 = .ok (.ireturn, 1) := by decide +kernel
set_option maxRecDepth 20000 in
theorem ggX6_change_X6_isPlace : GoodIn wsX6_change wsX6_isPlace := goodIn_r _ [7, 2, 8, 9, 6, 10, 21, 22, 23, 24, 25, 26, 27, 28, 29, 30, 31, 32, 33, 34, 35, 36, 37, 38, 39, 40, 41] (by decide +kernel) (by decide +kernel)
set_option maxRecDepth 20000 in
theorem gX6_change_X6_isPlace : GoodIn wsX6_change (wsV RX6 160 RX6 yX6_isPlace wsX6_isPlace) := goodIn_app (goodIn_of _ (by decide +kernel)) ggX6_change_X6_isPlace
set_option maxRecDepth 20000 in
theorem ggX6_change_X6_fails : GoodIn wsX6_change wsX6_fails := goodIn_r _ [14, 1, 21, 22, 23, 24, 25, 26, 27, 28, 29, 30, 31, 32, 33, 34, 35, 36, 37, 38, 39, 40, 41] (by decide +kernel) (by decide +kernel)
set_option maxRecDepth 20000 in
theorem gX6_change_X6_fails : GoodIn wsX6_change (wsV RX6 139 RX6 yX6_fails wsX6_fails) := goodIn_app (goodIn_of _ (by decide +kernel)) ggX6_change_X6_fails
set_option maxRecDepth 20000 in
theorem ggX6_change_X6_in : GoodIn wsX6_change wsX6_in := goodIn_r _ [10] (by decide +kernel) (by decide +kernel)
set_option maxRecDepth 20000 in
theorem gX6_change_X6_in : GoodIn wsX6_change (va_wsS RX6 53 yX6_in wsX6_in) := goodIn_app (goodIn_of _ (by decide +kernel)) ggX6_change_X6_in
set_option maxRecDepth 20000 in
theorem ggX6_change_X6_saves : GoodIn wsX6_change wsX6_saves := goodIn_r _ [18, 19, 20, 2, 21, 22, 23, 24, 25, 26, 27, 28, 29, 30, 31, 32, 33, 34, 35, 36, 37, 38, 39, 40, 41] (by decide +kernel) (by decide +kernel)
set_option maxRecDepth 20000 in
theorem gX6_change_X6_saves : GoodIn wsX6_change (wsV RX6 154 RX6 yX6_saves wsX6_saves) := goodIn_app (goodIn_of _ (by decide +kernel)) ggX6_change_X6_saves
theorem dX6_change_0 : decode cX6_change 0 = .ok (.aload_n 0, 1) := by decide +kernel
theorem dX6_change_1 : decode cX6_change 1 = .ok (.iconst 0, 1) := by decide +kernel
theorem dX6_change_2 : decode cX6_change 2 = .ok (.putfield 38, 3) := by decide +kernel
theorem dX6_change_5 : decode cX6_change 5 = .ok (.aload_n 0, 1) := by decide +kernel
theorem dX6_change_6 : decode cX6_change 6 = .ok (.iload_n 1, 1) := by decide +kernel
theorem dX6_change_7 : decode cX6_change 7 = .ok (.invokevirtual 160, 3) := by decide +kernel
theorem dX6_change_10 : decode cX6_change 10 = .ok (.ifCond .ne 9, 3) := by decide +kernel
theorem dX6_change_13 : decode cX6_change 13 = .ok (.aload_n 0, 1) := by decide +kernel
theorem dX6_change_14 : decode cX6_change 14 = .ok (.iconst 1, 1) := by decide +kernel
theorem dX6_change_15 : decode cX6_change 15 = .ok (.invokevirtual 139, 3) := by decide +kernel
theorem dX6_change_18 : decode cX6_change 18 = .ok (.ireturn, 1) := by decide +kernel
theorem dX6_change_19 : decode cX6_change 19 = .ok (.iload_n 2, 1) := by decide +kernel
theorem dX6_change_20 : decode cX6_change 20 = .ok (.iconst 1, 1) := by decide +kernel
theorem dX6_change_21 : decode cX6_change 21 = .ok (.sipush 999, 3) := by decide +kernel
theorem dX6_change_24 : decode cX6_change 24 = .ok (.invokestatic 53, 3) := by decide +kernel
theorem dX6_change_27 : decode cX6_change 27 = .ok (.ifCond .ne 9, 3) := by decide +kernel
theorem dX6_change_30 : decode cX6_change 30 = .ok (.aload_n 0, 1) := by decide +kernel
theorem dX6_change_31 : decode cX6_change 31 = .ok (.iconst 2, 1) := by decide +kernel
theorem dX6_change_32 : decode cX6_change 32 = .ok (.invokevirtual 139, 3) := by decide +kernel
theorem dX6_change_35 : decode cX6_change 35 = .ok (.ireturn, 1) := by decide +kernel
theorem dX6_change_36 : decode cX6_change 36 = .ok (.aload_n 0, 1) := by decide +kernel
theorem dX6_change_37 : decode cX6_change 37 = .ok (.invokevirtual 154, 3) := by decide +kernel
theorem dX6_change_40 : decode cX6_change 40 = .ok (.aload_n 0, 1) := by decide +kernel
theorem dX6_change_41 : decode cX6_change 41 = .ok (.getfield 7, 3) := by decide +kernel
theorem dX6_change_44 : decode cX6_change 44 = .ok (.bipush 26, 2) := by decide +kernel
theorem dX6_change_46 : decode cX6_change 46 = .ok (.iload_n 1, 1) := by decide +kernel
theorem dX6_change_47 : decode cX6_change 47 = .ok (.iadd, 1) := by decide +kernel
theorem dX6_change_48 : decode cX6_change 48 = .ok (.iaload, 1) := by decide +kernel
theorem dX6_change_49 : decode cX6_change 49 = .ok (.istore_n 3, 1) := by decide +kernel
theorem dX6_change_50 : decode cX6_change 50 = .ok (.aload_n 0, 1) := by decide +kernel
theorem dX6_change_51 : decode cX6_change 51 = .ok (.getfield 7, 3) := by decide +kernel
theorem dX6_change_54 : decode cX6_change 54 = .ok (.bipush 26, 2) := by decide +kernel
theorem dX6_change_56 : decode cX6_change 56 = .ok (.iload_n 1, 1) := by decide +kernel
theorem dX6_change_57 : decode cX6_change 57 = .ok (.iadd, 1) := by decide +kernel
theorem dX6_change_58 : decode cX6_change 58 = .ok (.iload_n 2, 1) := by decide +kernel
theorem dX6_change_59 : decode cX6_change 59 = .ok (.iastore, 1) := by decide +kernel
theorem dX6_change_60 : decode cX6_change 60 = .ok (.iload_n 3, 1) := by decide +kernel
theorem dX6_change_61 : decode cX6_change 61 = .ok (.ireturn, 1) := by decide +kernel
set_option maxRecDepth 20000 in
theorem ggX6_isSetting_X6_in : GoodIn wsX6_isSetting wsX6_in := goodIn_r _ [4] (by decide +kernel) (by decide +kernel)
set_option maxRecDepth 20000 in
theorem gX6_isSetting_X6_in : GoodIn wsX6_isSetting (va_wsS RX6 53 yX6_in wsX6_in) := goodIn_app (goodIn_of _ (by decide +kernel)) ggX6_isSetting_X6_in
theorem dX6_isSetting_0 : decode cX6_isSetting 0 = .ok (.iload_n 0, 1) := by decide +kernel
theorem dX6_isSetting_1 : decode cX6_isSetting 1 = .ok (.tableswitch 52 0 2 #[27, 35, 44], 27) := by decide +kernel
theorem dX6_isSetting_28 : decode cX6_isSetting 28 = .ok (.iload_n 1, 1) := by decide +kernel
theorem dX6_isSetting_29 : decode cX6_isSetting 29 = .ok (.iconst 5, 1) := by decide +kernel
theorem dX6_isSetting_30 : decode cX6_isSetting 30 = .ok (.bipush 30, 2) := by decide +kernel
theorem dX6_isSetting_32 : decode cX6_isSetting 32 = .ok (.invokestatic 53, 3) := by decide +kernel
theorem dX6_isSetting_35 : decode cX6_isSetting 35 = .ok (.ireturn, 1) := by decide +kernel
theorem dX6_isSetting_36 : decode cX6_isSetting 36 = .ok (.iload_n 1, 1) := by decide +kernel
theorem dX6_isSetting_37 : decode cX6_isSetting 37 = .ok (.bipush 50, 2) := by decide +kernel
theorem dX6_isSetting_39 : decode cX6_isSetting 39 = .ok (.bipush 95, 2) := by decide +kernel
theorem dX6_isSetting_41 : decode cX6_isSetting 41 = .ok (.invokestatic 53, 3) := by decide +kernel
theorem dX6_isSetting_44 : decode cX6_isSetting 44 = .ok (.ireturn, 1) := by decide +kernel
theorem dX6_isSetting_45 : decode cX6_isSetting 45 = .ok (.iload_n 1, 1) := by decide +kernel
theorem dX6_isSetting_46 : decode cX6_isSetting 46 = .ok (.iconst 0, 1) := by decide +kernel
theorem dX6_isSetting_47 : decode cX6_isSetting 47 = .ok (.bipush 100, 2) := by decide +kernel
theorem dX6_isSetting_49 : decode cX6_isSetting 49 = .ok (.invokestatic 53, 3) := by decide +kernel
theorem dX6_isSetting_52 : decode cX6_isSetting 52 = .ok (.ireturn, 1) := by decide +kernel
theorem dX6_isSetting_53 : decode cX6_isSetting 53 = .ok (.iload_n 1, 1) := by decide +kernel
theorem dX6_isSetting_54 : decode cX6_isSetting 54 = .ok (.iconst 0, 1) := by decide +kernel
theorem dX6_isSetting_55 : decode cX6_isSetting 55 = .ok (.bipush 40, 2) := by decide +kernel
theorem dX6_isSetting_57 : decode cX6_isSetting 57 = .ok (.invokestatic 53, 3) := by decide +kernel
theorem dX6_isSetting_60 : decode cX6_isSetting 60 = .ok (.ireturn, 1) := by decide +kernel
set_option maxRecDepth 20000 in
theorem ggX6_set_X6_in : GoodIn wsX6_set wsX6_in := goodIn_r _ [6] (by decide +kernel) (by decide +kernel)
set_option maxRecDepth 20000 in
theorem gX6_set_X6_in : GoodIn wsX6_set (va_wsS RX6 53 yX6_in wsX6_in) := goodIn_app (goodIn_of _ (by decide +kernel)) ggX6_set_X6_in
set_option maxRecDepth 20000 in
theorem ggX6_set_X6_fails : GoodIn wsX6_set wsX6_fails := goodIn_r _ [10, 1, 20, 21, 22, 23, 24, 25, 26, 27, 28, 29, 30, 31, 32, 33, 34, 35, 36, 37, 38, 39, 40] (by decide +kernel) (by decide +kernel)
set_option maxRecDepth 20000 in
theorem gX6_set_X6_fails : GoodIn wsX6_set (wsV RX6 139 RX6 yX6_fails wsX6_fails) := goodIn_app (goodIn_of _ (by decide +kernel)) ggX6_set_X6_fails
set_option maxRecDepth 20000 in
theorem ggX6_set_X6_isSetting : GoodIn wsX6_set wsX6_isSetting := goodIn_r _ [13, 3, 4, 5, 6] (by decide +kernel) (by decide +kernel)
set_option maxRecDepth 20000 in
theorem gX6_set_X6_isSetting : GoodIn wsX6_set (va_wsS RX6 163 yX6_isSetting wsX6_isSetting) := goodIn_app (goodIn_of _ (by decide +kernel)) ggX6_set_X6_isSetting
set_option maxRecDepth 20000 in
theorem ggX6_set_X6_saves : GoodIn wsX6_set wsX6_saves := goodIn_r _ [17, 18, 19, 2, 20, 21, 22, 23, 24, 25, 26, 27, 28, 29, 30, 31, 32, 33, 34, 35, 36, 37, 38, 39, 40] (by decide +kernel) (by decide +kernel)
set_option maxRecDepth 20000 in
theorem gX6_set_X6_saves : GoodIn wsX6_set (wsV RX6 154 RX6 yX6_saves wsX6_saves) := goodIn_app (goodIn_of _ (by decide +kernel)) ggX6_set_X6_saves
theorem dX6_set_0 : decode cX6_set 0 = .ok (.aload_n 0, 1) := by decide +kernel
theorem dX6_set_1 : decode cX6_set 1 = .ok (.iconst 0, 1) := by decide +kernel
theorem dX6_set_2 : decode cX6_set 2 = .ok (.putfield 38, 3) := by decide +kernel
theorem dX6_set_5 : decode cX6_set 5 = .ok (.iload_n 1, 1) := by decide +kernel
theorem dX6_set_6 : decode cX6_set 6 = .ok (.iconst 0, 1) := by decide +kernel
theorem dX6_set_7 : decode cX6_set 7 = .ok (.iconst 3, 1) := by decide +kernel
theorem dX6_set_8 : decode cX6_set 8 = .ok (.invokestatic 53, 3) := by decide +kernel
theorem dX6_set_11 : decode cX6_set 11 = .ok (.ifCond .ne 9, 3) := by decide +kernel
theorem dX6_set_14 : decode cX6_set 14 = .ok (.aload_n 0, 1) := by decide +kernel
theorem dX6_set_15 : decode cX6_set 15 = .ok (.iconst 1, 1) := by decide +kernel
theorem dX6_set_16 : decode cX6_set 16 = .ok (.invokevirtual 139, 3) := by decide +kernel
theorem dX6_set_19 : decode cX6_set 19 = .ok (.ireturn, 1) := by decide +kernel
theorem dX6_set_20 : decode cX6_set 20 = .ok (.iload_n 1, 1) := by decide +kernel
theorem dX6_set_21 : decode cX6_set 21 = .ok (.iload_n 2, 1) := by decide +kernel
theorem dX6_set_22 : decode cX6_set 22 = .ok (.invokestatic 163, 3) := by decide +kernel
theorem dX6_set_25 : decode cX6_set 25 = .ok (.ifCond .ne 9, 3) := by decide +kernel
theorem dX6_set_28 : decode cX6_set 28 = .ok (.aload_n 0, 1) := by decide +kernel
theorem dX6_set_29 : decode cX6_set 29 = .ok (.iconst 2, 1) := by decide +kernel
theorem dX6_set_30 : decode cX6_set 30 = .ok (.invokevirtual 139, 3) := by decide +kernel
theorem dX6_set_33 : decode cX6_set 33 = .ok (.ireturn, 1) := by decide +kernel
theorem dX6_set_34 : decode cX6_set 34 = .ok (.aload_n 0, 1) := by decide +kernel
theorem dX6_set_35 : decode cX6_set 35 = .ok (.invokevirtual 154, 3) := by decide +kernel
theorem dX6_set_38 : decode cX6_set 38 = .ok (.aload_n 0, 1) := by decide +kernel
theorem dX6_set_39 : decode cX6_set 39 = .ok (.getfield 7, 3) := by decide +kernel
theorem dX6_set_42 : decode cX6_set 42 = .ok (.iload_n 1, 1) := by decide +kernel
theorem dX6_set_43 : decode cX6_set 43 = .ok (.iaload, 1) := by decide +kernel
theorem dX6_set_44 : decode cX6_set 44 = .ok (.istore_n 3, 1) := by decide +kernel
theorem dX6_set_45 : decode cX6_set 45 = .ok (.aload_n 0, 1) := by decide +kernel
theorem dX6_set_46 : decode cX6_set 46 = .ok (.getfield 7, 3) := by decide +kernel
theorem dX6_set_49 : decode cX6_set 49 = .ok (.iload_n 1, 1) := by decide +kernel
theorem dX6_set_50 : decode cX6_set 50 = .ok (.iload_n 2, 1) := by decide +kernel
theorem dX6_set_51 : decode cX6_set 51 = .ok (.iastore, 1) := by decide +kernel
theorem dX6_set_52 : decode cX6_set 52 = .ok (.iload_n 3, 1) := by decide +kernel
theorem dX6_set_53 : decode cX6_set 53 = .ok (.ireturn, 1) := by decide +kernel
set_option maxRecDepth 20000 in
theorem ggX6_append_X6_in : GoodIn wsX6_append wsX6_in := goodIn_r _ [7] (by decide +kernel) (by decide +kernel)
set_option maxRecDepth 20000 in
theorem gX6_append_X6_in : GoodIn wsX6_append (va_wsS RX6 53 yX6_in wsX6_in) := goodIn_app (goodIn_of _ (by decide +kernel)) ggX6_append_X6_in
set_option maxRecDepth 20000 in
theorem ggX6_append_X6_fails : GoodIn wsX6_append wsX6_fails := goodIn_r _ [11, 1, 12, 13, 14, 15, 16, 17, 18, 19, 20, 21, 22, 23, 24, 25, 26, 27, 28, 29, 30, 31, 32] (by decide +kernel) (by decide +kernel)
set_option maxRecDepth 20000 in
theorem gX6_append_X6_fails : GoodIn wsX6_append (wsV RX6 139 RX6 yX6_fails wsX6_fails) := goodIn_app (goodIn_of _ (by decide +kernel)) ggX6_append_X6_fails
theorem dX6_append_0 : decode cX6_append 0 = .ok (.aload_n 0, 1) := by decide +kernel
theorem dX6_append_1 : decode cX6_append 1 = .ok (.iconst 0, 1) := by decide +kernel
theorem dX6_append_2 : decode cX6_append 2 = .ok (.putfield 38, 3) := by decide +kernel
theorem dX6_append_5 : decode cX6_append 5 = .ok (.iload_n 1, 1) := by decide +kernel
theorem dX6_append_6 : decode cX6_append 6 = .ok (.bipush 33, 2) := by decide +kernel
theorem dX6_append_8 : decode cX6_append 8 = .ok (.bipush 126, 2) := by decide +kernel
theorem dX6_append_10 : decode cX6_append 10 = .ok (.invokestatic 53, 3) := by decide +kernel
theorem dX6_append_13 : decode cX6_append 13 = .ok (.ifCond .ne 9, 3) := by decide +kernel
theorem dX6_append_16 : decode cX6_append 16 = .ok (.aload_n 0, 1) := by decide +kernel
theorem dX6_append_17 : decode cX6_append 17 = .ok (.iconst 1, 1) := by decide +kernel
theorem dX6_append_18 : decode cX6_append 18 = .ok (.invokevirtual 139, 3) := by decide +kernel
theorem dX6_append_21 : decode cX6_append 21 = .ok (.ireturn, 1) := by decide +kernel
theorem dX6_append_22 : decode cX6_append 22 = .ok (.aload_n 0, 1) := by decide +kernel
theorem dX6_append_23 : decode cX6_append 23 = .ok (.getfield 136, 3) := by decide +kernel
theorem dX6_append_26 : decode cX6_append 26 = .ok (.bipush 40, 2) := by decide +kernel
theorem dX6_append_28 : decode cX6_append 28 = .ok (.if_icmp .ne 9, 3) := by decide +kernel
theorem dX6_append_31 : decode cX6_append 31 = .ok (.aload_n 0, 1) := by decide +kernel
theorem dX6_append_32 : decode cX6_append 32 = .ok (.iconst 2, 1) := by decide +kernel
theorem dX6_append_33 : decode cX6_append 33 = .ok (.invokevirtual 139, 3) := by decide +kernel
theorem dX6_append_36 : decode cX6_append 36 = .ok (.ireturn, 1) := by decide +kernel
theorem dX6_append_37 : decode cX6_append 37 = .ok (.aload_n 0, 1) := by decide +kernel
theorem dX6_append_38 : decode cX6_append 38 = .ok (.getfield 26, 3) := by decide +kernel
theorem dX6_append_41 : decode cX6_append 41 = .ok (.aload_n 0, 1) := by decide +kernel
theorem dX6_append_42 : decode cX6_append 42 = .ok (.getfield 136, 3) := by decide +kernel
theorem dX6_append_45 : decode cX6_append 45 = .ok (.iload_n 1, 1) := by decide +kernel
theorem dX6_append_46 : decode cX6_append 46 = .ok (.iastore, 1) := by decide +kernel
theorem dX6_append_47 : decode cX6_append 47 = .ok (.aload_n 0, 1) := by decide +kernel
theorem dX6_append_48 : decode cX6_append 48 = .ok (.dup, 1) := by decide +kernel
theorem dX6_append_49 : decode cX6_append 49 = .ok (.getfield 136, 3) := by decide +kernel
theorem dX6_append_52 : decode cX6_append 52 = .ok (.iconst 1, 1) := by decide +kernel
theorem dX6_append_53 : decode cX6_append 53 = .ok (.iadd, 1) := by decide +kernel
theorem dX6_append_54 : decode cX6_append 54 = .ok (.putfield 136, 3) := by decide +kernel
theorem dX6_append_57 : decode cX6_append 57 = .ok (.aload_n 0, 1) := by decide +kernel
theorem dX6_append_58 : decode cX6_append 58 = .ok (.getfield 136, 3) := by decide +kernel
theorem dX6_append_61 : decode cX6_append 61 = .ok (.ireturn, 1) := by decide +kernel
theorem dX6_clearBuffer_0 : decode cX6_clearBuffer 0 = .ok (.aload_n 0, 1) := by decide +kernel
theorem dX6_clearBuffer_1 : decode cX6_clearBuffer 1 = .ok (.iconst 0, 1) := by decide +kernel
theorem dX6_clearBuffer_2 : decode cX6_clearBuffer 2 = .ok (.putfield 38, 3) := by decide +kernel
theorem dX6_clearBuffer_5 : decode cX6_clearBuffer 5 = .ok (.aload_n 0, 1) := by decide +kernel
theorem dX6_clearBuffer_6 : decode cX6_clearBuffer 6 = .ok (.getfield 136, 3) := by decide +kernel
theorem dX6_clearBuffer_9 : decode cX6_clearBuffer 9 = .ok (.istore_n 1, 1) := by decide +kernel
theorem dX6_clearBuffer_10 : decode cX6_clearBuffer 10 = .ok (.aload_n 0, 1) := by decide +kernel
theorem dX6_clearBuffer_11 : decode cX6_clearBuffer 11 = .ok (.iconst 0, 1) := by decide +kernel
theorem dX6_clearBuffer_12 : decode cX6_clearBuffer 12 = .ok (.putfield 136, 3) := by decide +kernel
theorem dX6_clearBuffer_15 : decode cX6_clearBuffer 15 = .ok (.iload_n 1, 1) := by decide +kernel
theorem dX6_clearBuffer_16 : decode cX6_clearBuffer 16 = .ok (.ireturn, 1) := by decide +kernel
set_option maxRecDepth 20000 in
theorem ggX6_letterOf_X6_in : GoodIn wsX6_letterOf wsX6_in := goodIn_r _ [4] (by decide +kernel) (by decide +kernel)
set_option maxRecDepth 20000 in
theorem gX6_letterOf_X6_in : GoodIn wsX6_letterOf (va_wsS RX6 53 yX6_in wsX6_in) := goodIn_app (goodIn_of _ (by decide +kernel)) ggX6_letterOf_X6_in
theorem dX6_letterOf_0 : decode cX6_letterOf 0 = .ok (.iload_n 0, 1) := by decide +kernel
theorem dX6_letterOf_1 : decode cX6_letterOf 1 = .ok (.bipush 48, 2) := by decide +kernel
theorem dX6_letterOf_3 : decode cX6_letterOf 3 = .ok (.bipush 57, 2) := by decide +kernel
theorem dX6_letterOf_5 : decode cX6_letterOf 5 = .ok (.invokestatic 53, 3) := by decide +kernel
theorem dX6_letterOf_8 : decode cX6_letterOf 8 = .ok (.ifCond .eq 8, 3) := by decide +kernel
theorem dX6_letterOf_11 : decode cX6_letterOf 11 = .ok (.iload_n 0, 1) := by decide +kernel
theorem dX6_letterOf_12 : decode cX6_letterOf 12 = .ok (.bipush 48, 2) := by decide +kernel
theorem dX6_letterOf_14 : decode cX6_letterOf 14 = .ok (.isub, 1) := by decide +kernel
theorem dX6_letterOf_15 : decode cX6_letterOf 15 = .ok (.ireturn, 1) := by decide +kernel
theorem dX6_letterOf_16 : decode cX6_letterOf 16 = .ok (.iload_n 0, 1) := by decide +kernel
theorem dX6_letterOf_17 : decode cX6_letterOf 17 = .ok (.bipush 97, 2) := by decide +kernel
theorem dX6_letterOf_19 : decode cX6_letterOf 19 = .ok (.if_icmp .ne 8, 3) := by decide +kernel
theorem dX6_letterOf_22 : decode cX6_letterOf 22 = .ok (.bipush 10, 2) := by decide +kernel
theorem dX6_letterOf_24 : decode cX6_letterOf 24 = .ok (.goto 37, 3) := by decide +kernel
theorem dX6_letterOf_27 : decode cX6_letterOf 27 = .ok (.iload_n 0, 1) := by decide +kernel
theorem dX6_letterOf_28 : decode cX6_letterOf 28 = .ok (.bipush 99, 2) := by decide +kernel
theorem dX6_letterOf_30 : decode cX6_letterOf 30 = .ok (.if_icmp .ne 8, 3) := by decide +kernel
theorem dX6_letterOf_33 : decode cX6_letterOf 33 = .ok (.bipush 12, 2) := by decide +kernel
theorem dX6_letterOf_35 : decode cX6_letterOf 35 = .ok (.goto 26, 3) := by decide +kernel
theorem dX6_letterOf_38 : decode cX6_letterOf 38 = .ok (.iload_n 0, 1) := by decide +kernel
theorem dX6_letterOf_39 : decode cX6_letterOf 39 = .ok (.bipush 61, 2) := by decide +kernel
theorem dX6_letterOf_41 : decode cX6_letterOf 41 = .ok (.if_icmp .ne 8, 3) := by decide +kernel
theorem dX6_letterOf_44 : decode cX6_letterOf 44 = .ok (.bipush 13, 2) := by decide +kernel
theorem dX6_letterOf_46 : decode cX6_letterOf 46 = .ok (.goto 15, 3) := by decide +kernel
theorem dX6_letterOf_49 : decode cX6_letterOf 49 = .ok (.iload_n 0, 1) := by decide +kernel
theorem dX6_letterOf_50 : decode cX6_letterOf 50 = .ok (.bipush 101, 2) := by decide +kernel
theorem dX6_letterOf_52 : decode cX6_letterOf 52 = .ok (.if_icmp .ne 8, 3) := by decide +kernel
theorem dX6_letterOf_55 : decode cX6_letterOf 55 = .ok (.bipush 14, 2) := by decide +kernel
theorem dX6_letterOf_57 : decode cX6_letterOf 57 = .ok (.goto 4, 3) := by decide +kernel
theorem dX6_letterOf_60 : decode cX6_letterOf 60 = .ok (.iconst (-1), 1) := by decide +kernel
theorem dX6_letterOf_61 : decode cX6_letterOf 61 = .ok (.ireturn, 1) := by decide +kernel
set_option maxRecDepth 20000 in
theorem ggX6_readsBuffer_X6_letterOf : GoodIn wsX6_readsBuffer wsX6_letterOf := goodIn_r _ [9, 10, 11, 8, 12] (by decide +kernel) (by decide +kernel)
set_option maxRecDepth 20000 in
theorem gX6_readsBuffer_X6_letterOf : GoodIn wsX6_readsBuffer (va_wsS RX6 170 yX6_letterOf wsX6_letterOf) := goodIn_app (goodIn_of _ (by decide +kernel)) ggX6_readsBuffer_X6_letterOf
theorem dX6_readsBuffer_0 : decode cX6_readsBuffer 0 = .ok (.aload_n 0, 1) := by decide +kernel
theorem dX6_readsBuffer_1 : decode cX6_readsBuffer 1 = .ok (.iconst 0, 1) := by decide +kernel
theorem dX6_readsBuffer_2 : decode cX6_readsBuffer 2 = .ok (.putfield 167, 3) := by decide +kernel
theorem dX6_readsBuffer_5 : decode cX6_readsBuffer 5 = .ok (.aload_n 0, 1) := by decide +kernel
theorem dX6_readsBuffer_6 : decode cX6_readsBuffer 6 = .ok (.iconst 0, 1) := by decide +kernel
theorem dX6_readsBuffer_7 : decode cX6_readsBuffer 7 = .ok (.putfield 145, 3) := by decide +kernel
theorem dX6_readsBuffer_10 : decode cX6_readsBuffer 10 = .ok (.aload_n 0, 1) := by decide +kernel
theorem dX6_readsBuffer_11 : decode cX6_readsBuffer 11 = .ok (.getfield 167, 3) := by decide +kernel
theorem dX6_readsBuffer_14 : decode cX6_readsBuffer 14 = .ok (.aload_n 0, 1) := by decide +kernel
theorem dX6_readsBuffer_15 : decode cX6_readsBuffer 15 = .ok (.getfield 136, 3) := by decide +kernel
theorem dX6_readsBuffer_18 : decode cX6_readsBuffer 18 = .ok (.if_icmp .ge 72, 3) := by decide +kernel
theorem dX6_readsBuffer_21 : decode cX6_readsBuffer 21 = .ok (.aload_n 0, 1) := by decide +kernel
theorem dX6_readsBuffer_22 : decode cX6_readsBuffer 22 = .ok (.getfield 145, 3) := by decide +kernel
theorem dX6_readsBuffer_25 : decode cX6_readsBuffer 25 = .ok (.bipush 20, 2) := by decide +kernel
theorem dX6_readsBuffer_27 : decode cX6_readsBuffer 27 = .ok (.if_icmp .ge 63, 3) := by decide +kernel
theorem dX6_readsBuffer_30 : decode cX6_readsBuffer 30 = .ok (.aload_n 0, 1) := by decide +kernel
theorem dX6_readsBuffer_31 : decode cX6_readsBuffer 31 = .ok (.getfield 26, 3) := by decide +kernel
theorem dX6_readsBuffer_34 : decode cX6_readsBuffer 34 = .ok (.aload_n 0, 1) := by decide +kernel
theorem dX6_readsBuffer_35 : decode cX6_readsBuffer 35 = .ok (.getfield 167, 3) := by decide +kernel
theorem dX6_readsBuffer_38 : decode cX6_readsBuffer 38 = .ok (.iaload, 1) := by decide +kernel
theorem dX6_readsBuffer_39 : decode cX6_readsBuffer 39 = .ok (.invokestatic 170, 3) := by decide +kernel
theorem dX6_readsBuffer_42 : decode cX6_readsBuffer 42 = .ok (.iconst (-1), 1) := by decide +kernel
theorem dX6_readsBuffer_43 : decode cX6_readsBuffer 43 = .ok (.if_icmp .eq 47, 3) := by decide +kernel
theorem dX6_readsBuffer_46 : decode cX6_readsBuffer 46 = .ok (.aload_n 0, 1) := by decide +kernel
theorem dX6_readsBuffer_47 : decode cX6_readsBuffer 47 = .ok (.getfield 35, 3) := by decide +kernel
theorem dX6_readsBuffer_50 : decode cX6_readsBuffer 50 = .ok (.aload_n 0, 1) := by decide +kernel
theorem dX6_readsBuffer_51 : decode cX6_readsBuffer 51 = .ok (.getfield 145, 3) := by decide +kernel
theorem dX6_readsBuffer_54 : decode cX6_readsBuffer 54 = .ok (.aload_n 0, 1) := by decide +kernel
theorem dX6_readsBuffer_55 : decode cX6_readsBuffer 55 = .ok (.getfield 26, 3) := by decide +kernel
theorem dX6_readsBuffer_58 : decode cX6_readsBuffer 58 = .ok (.aload_n 0, 1) := by decide +kernel
theorem dX6_readsBuffer_59 : decode cX6_readsBuffer 59 = .ok (.getfield 167, 3) := by decide +kernel
theorem dX6_readsBuffer_62 : decode cX6_readsBuffer 62 = .ok (.iaload, 1) := by decide +kernel
theorem dX6_readsBuffer_63 : decode cX6_readsBuffer 63 = .ok (.invokestatic 170, 3) := by decide +kernel
theorem dX6_readsBuffer_66 : decode cX6_readsBuffer 66 = .ok (.iastore, 1) := by decide +kernel
theorem dX6_readsBuffer_67 : decode cX6_readsBuffer 67 = .ok (.aload_n 0, 1) := by decide +kernel
theorem dX6_readsBuffer_68 : decode cX6_readsBuffer 68 = .ok (.dup, 1) := by decide +kernel
theorem dX6_readsBuffer_69 : decode cX6_readsBuffer 69 = .ok (.getfield 145, 3) := by decide +kernel
theorem dX6_readsBuffer_72 : decode cX6_readsBuffer 72 = .ok (.iconst 1, 1) := by decide +kernel
theorem dX6_readsBuffer_73 : decode cX6_readsBuffer 73 = .ok (.iadd, 1) := by decide +kernel
theorem dX6_readsBuffer_74 : decode cX6_readsBuffer 74 = .ok (.putfield 145, 3) := by decide +kernel
theorem dX6_readsBuffer_77 : decode cX6_readsBuffer 77 = .ok (.aload_n 0, 1) := by decide +kernel
theorem dX6_readsBuffer_78 : decode cX6_readsBuffer 78 = .ok (.dup, 1) := by decide +kernel
theorem dX6_readsBuffer_79 : decode cX6_readsBuffer 79 = .ok (.getfield 167, 3) := by decide +kernel
theorem dX6_readsBuffer_82 : decode cX6_readsBuffer 82 = .ok (.iconst 1, 1) := by decide +kernel
theorem dX6_readsBuffer_83 : decode cX6_readsBuffer 83 = .ok (.iadd, 1) := by decide +kernel
theorem dX6_readsBuffer_84 : decode cX6_readsBuffer 84 = .ok (.putfield 167, 3) := by decide +kernel
theorem dX6_readsBuffer_87 : decode cX6_readsBuffer 87 = .ok (.goto (-77), 3) := by decide +kernel
theorem dX6_readsBuffer_90 : decode cX6_readsBuffer 90 = .ok (.aload_n 0, 1) := by decide +kernel
theorem dX6_readsBuffer_91 : decode cX6_readsBuffer 91 = .ok (.getfield 167, 3) := by decide +kernel
theorem dX6_readsBuffer_94 : decode cX6_readsBuffer 94 = .ok (.ireturn, 1) := by decide +kernel
set_option maxRecDepth 20000 in
theorem ggX6_firstError_X6_readsBuffer : GoodIn wsX6_firstError wsX6_readsBuffer := goodIn_r _ [6, 7, 8, 9, 10, 11, 12, 13, 5, 14, 15, 16, 17, 18, 19, 20, 21, 22, 23, 24, 25, 26, 27, 28, 29, 30, 31, 32, 33, 34, 35, 36, 37, 38] (by decide +kernel) (by decide +kernel)
set_option maxRecDepth 20000 in
theorem gX6_firstError_X6_readsBuffer : GoodIn wsX6_firstError (wsV RX6 133 RX6 yX6_readsBuffer wsX6_readsBuffer) := goodIn_app (goodIn_of _ (by decide +kernel)) ggX6_firstError_X6_readsBuffer
theorem dX6_firstError_0 : decode cX6_firstError 0 = .ok (.aload_n 0, 1) := by decide +kernel
theorem dX6_firstError_1 : decode cX6_firstError 1 = .ok (.iconst 0, 1) := by decide +kernel
theorem dX6_firstError_2 : decode cX6_firstError 2 = .ok (.putfield 38, 3) := by decide +kernel
theorem dX6_firstError_5 : decode cX6_firstError 5 = .ok (.aload_n 0, 1) := by decide +kernel
theorem dX6_firstError_6 : decode cX6_firstError 6 = .ok (.invokevirtual 133, 3) := by decide +kernel
theorem dX6_firstError_9 : decode cX6_firstError 9 = .ok (.ireturn, 1) := by decide +kernel
set_option maxRecDepth 20000 in
theorem ggX6_keep_X6_in : GoodIn wsX6_keep wsX6_in := goodIn_r _ [8] (by decide +kernel) (by decide +kernel)
set_option maxRecDepth 20000 in
theorem gX6_keep_X6_in : GoodIn wsX6_keep (va_wsS RX6 53 yX6_in wsX6_in) := goodIn_app (goodIn_of _ (by decide +kernel)) ggX6_keep_X6_in
set_option maxRecDepth 20000 in
theorem ggX6_keep_X6_fails : GoodIn wsX6_keep wsX6_fails := goodIn_r _ [12, 1, 13, 14, 15, 16, 17, 18, 19, 20, 21, 22, 23, 24, 25, 26, 27, 28, 29, 30, 31, 32, 33] (by decide +kernel) (by decide +kernel)
set_option maxRecDepth 20000 in
theorem gX6_keep_X6_fails : GoodIn wsX6_keep (wsV RX6 139 RX6 yX6_fails wsX6_fails) := goodIn_app (goodIn_of _ (by decide +kernel)) ggX6_keep_X6_fails
theorem dX6_keep_0 : decode cX6_keep 0 = .ok (.aload_n 0, 1) := by decide +kernel
theorem dX6_keep_1 : decode cX6_keep 1 = .ok (.iconst 0, 1) := by decide +kernel
theorem dX6_keep_2 : decode cX6_keep 2 = .ok (.putfield 38, 3) := by decide +kernel
theorem dX6_keep_5 : decode cX6_keep 5 = .ok (.iload_n 1, 1) := by decide +kernel
theorem dX6_keep_6 : decode cX6_keep 6 = .ok (.iconst 0, 1) := by decide +kernel
theorem dX6_keep_7 : decode cX6_keep 7 = .ok (.iconst 1, 1) := by decide +kernel
theorem dX6_keep_8 : decode cX6_keep 8 = .ok (.invokestatic 53, 3) := by decide +kernel
theorem dX6_keep_11 : decode cX6_keep 11 = .ok (.ifCond .ne 9, 3) := by decide +kernel
theorem dX6_keep_14 : decode cX6_keep 14 = .ok (.aload_n 0, 1) := by decide +kernel
theorem dX6_keep_15 : decode cX6_keep 15 = .ok (.iconst 1, 1) := by decide +kernel
theorem dX6_keep_16 : decode cX6_keep 16 = .ok (.invokevirtual 139, 3) := by decide +kernel
theorem dX6_keep_19 : decode cX6_keep 19 = .ok (.ireturn, 1) := by decide +kernel
theorem dX6_keep_20 : decode cX6_keep 20 = .ok (.iconst 0, 1) := by decide +kernel
theorem dX6_keep_21 : decode cX6_keep 21 = .ok (.istore_n 2, 1) := by decide +kernel
theorem dX6_keep_22 : decode cX6_keep 22 = .ok (.iload_n 2, 1) := by decide +kernel
theorem dX6_keep_23 : decode cX6_keep 23 = .ok (.sipush 226, 3) := by decide +kernel
theorem dX6_keep_26 : decode cX6_keep 26 = .ok (.if_icmp .ge 27, 3) := by decide +kernel
theorem dX6_keep_29 : decode cX6_keep 29 = .ok (.aload_n 0, 1) := by decide +kernel
theorem dX6_keep_30 : decode cX6_keep 30 = .ok (.getfield 19, 3) := by decide +kernel
theorem dX6_keep_33 : decode cX6_keep 33 = .ok (.sipush 226, 3) := by decide +kernel
theorem dX6_keep_36 : decode cX6_keep 36 = .ok (.iload_n 1, 1) := by decide +kernel
theorem dX6_keep_37 : decode cX6_keep 37 = .ok (.imul, 1) := by decide +kernel
theorem dX6_keep_38 : decode cX6_keep 38 = .ok (.iload_n 2, 1) := by decide +kernel
theorem dX6_keep_39 : decode cX6_keep 39 = .ok (.iadd, 1) := by decide +kernel
theorem dX6_keep_40 : decode cX6_keep 40 = .ok (.aload_n 0, 1) := by decide +kernel
theorem dX6_keep_41 : decode cX6_keep 41 = .ok (.getfield 7, 3) := by decide +kernel
theorem dX6_keep_44 : decode cX6_keep 44 = .ok (.iload_n 2, 1) := by decide +kernel
theorem dX6_keep_45 : decode cX6_keep 45 = .ok (.iaload, 1) := by decide +kernel
theorem dX6_keep_46 : decode cX6_keep 46 = .ok (.iastore, 1) := by decide +kernel
theorem dX6_keep_47 : decode cX6_keep 47 = .ok (.iinc 2 1, 3) := by decide +kernel
theorem dX6_keep_50 : decode cX6_keep 50 = .ok (.goto (-28), 3) := by decide +kernel
theorem dX6_keep_53 : decode cX6_keep 53 = .ok (.aload_n 0, 1) := by decide +kernel
theorem dX6_keep_54 : decode cX6_keep 54 = .ok (.getfield 22, 3) := by decide +kernel
theorem dX6_keep_57 : decode cX6_keep 57 = .ok (.iload_n 1, 1) := by decide +kernel
theorem dX6_keep_58 : decode cX6_keep 58 = .ok (.iconst 1, 1) := by decide +kernel
theorem dX6_keep_59 : decode cX6_keep 59 = .ok (.bastore, 1) := by decide +kernel
theorem dX6_keep_60 : decode cX6_keep 60 = .ok (.aload_n 0, 1) := by decide +kernel
theorem dX6_keep_61 : decode cX6_keep 61 = .ok (.getfield 7, 3) := by decide +kernel
theorem dX6_keep_64 : decode cX6_keep 64 = .ok (.iconst 4, 1) := by decide +kernel
theorem dX6_keep_65 : decode cX6_keep 65 = .ok (.iaload, 1) := by decide +kernel
theorem dX6_keep_66 : decode cX6_keep 66 = .ok (.ireturn, 1) := by decide +kernel
set_option maxRecDepth 20000 in
theorem ggX6_goBack_X6_in : GoodIn wsX6_goBack wsX6_in := goodIn_r _ [8] (by decide +kernel) (by decide +kernel)
set_option maxRecDepth 20000 in
theorem gX6_goBack_X6_in : GoodIn wsX6_goBack (va_wsS RX6 53 yX6_in wsX6_in) := goodIn_app (goodIn_of _ (by decide +kernel)) ggX6_goBack_X6_in
set_option maxRecDepth 20000 in
theorem ggX6_goBack_X6_fails : GoodIn wsX6_goBack wsX6_fails := goodIn_r _ [12, 1, 19, 20, 21, 22, 23, 24, 25, 26, 27, 28, 29, 30, 31, 32, 33, 34, 35, 36, 37, 38, 39] (by decide +kernel) (by decide +kernel)
set_option maxRecDepth 20000 in
theorem gX6_goBack_X6_fails : GoodIn wsX6_goBack (wsV RX6 139 RX6 yX6_fails wsX6_fails) := goodIn_app (goodIn_of _ (by decide +kernel)) ggX6_goBack_X6_fails
set_option maxRecDepth 20000 in
theorem ggX6_goBack_X6_saves : GoodIn wsX6_goBack wsX6_saves := goodIn_r _ [16, 17, 18, 3, 19, 20, 21, 22, 23, 24, 25, 26, 27, 28, 29, 30, 31, 32, 33, 34, 35, 36, 37, 38, 39] (by decide +kernel) (by decide +kernel)
set_option maxRecDepth 20000 in
theorem gX6_goBack_X6_saves : GoodIn wsX6_goBack (wsV RX6 154 RX6 yX6_saves wsX6_saves) := goodIn_app (goodIn_of _ (by decide +kernel)) ggX6_goBack_X6_saves
theorem dX6_goBack_0 : decode cX6_goBack 0 = .ok (.aload_n 0, 1) := by decide +kernel
theorem dX6_goBack_1 : decode cX6_goBack 1 = .ok (.iconst 0, 1) := by decide +kernel
theorem dX6_goBack_2 : decode cX6_goBack 2 = .ok (.putfield 38, 3) := by decide +kernel
theorem dX6_goBack_5 : decode cX6_goBack 5 = .ok (.iload_n 1, 1) := by decide +kernel
theorem dX6_goBack_6 : decode cX6_goBack 6 = .ok (.iconst 0, 1) := by decide +kernel
theorem dX6_goBack_7 : decode cX6_goBack 7 = .ok (.iconst 1, 1) := by decide +kernel
theorem dX6_goBack_8 : decode cX6_goBack 8 = .ok (.invokestatic 53, 3) := by decide +kernel
theorem dX6_goBack_11 : decode cX6_goBack 11 = .ok (.ifCond .ne 9, 3) := by decide +kernel
theorem dX6_goBack_14 : decode cX6_goBack 14 = .ok (.aload_n 0, 1) := by decide +kernel
theorem dX6_goBack_15 : decode cX6_goBack 15 = .ok (.iconst 1, 1) := by decide +kernel
theorem dX6_goBack_16 : decode cX6_goBack 16 = .ok (.invokevirtual 139, 3) := by decide +kernel
theorem dX6_goBack_19 : decode cX6_goBack 19 = .ok (.ireturn, 1) := by decide +kernel
theorem dX6_goBack_20 : decode cX6_goBack 20 = .ok (.aload_n 0, 1) := by decide +kernel
theorem dX6_goBack_21 : decode cX6_goBack 21 = .ok (.getfield 22, 3) := by decide +kernel
theorem dX6_goBack_24 : decode cX6_goBack 24 = .ok (.iload_n 1, 1) := by decide +kernel
theorem dX6_goBack_25 : decode cX6_goBack 25 = .ok (.baload, 1) := by decide +kernel
theorem dX6_goBack_26 : decode cX6_goBack 26 = .ok (.ifCond .ne 9, 3) := by decide +kernel
theorem dX6_goBack_29 : decode cX6_goBack 29 = .ok (.aload_n 0, 1) := by decide +kernel
theorem dX6_goBack_30 : decode cX6_goBack 30 = .ok (.iconst 2, 1) := by decide +kernel
theorem dX6_goBack_31 : decode cX6_goBack 31 = .ok (.invokevirtual 139, 3) := by decide +kernel
theorem dX6_goBack_34 : decode cX6_goBack 34 = .ok (.ireturn, 1) := by decide +kernel
theorem dX6_goBack_35 : decode cX6_goBack 35 = .ok (.aload_n 0, 1) := by decide +kernel
theorem dX6_goBack_36 : decode cX6_goBack 36 = .ok (.invokevirtual 154, 3) := by decide +kernel
theorem dX6_goBack_39 : decode cX6_goBack 39 = .ok (.iconst 0, 1) := by decide +kernel
theorem dX6_goBack_40 : decode cX6_goBack 40 = .ok (.istore_n 2, 1) := by decide +kernel
theorem dX6_goBack_41 : decode cX6_goBack 41 = .ok (.iload_n 2, 1) := by decide +kernel
theorem dX6_goBack_42 : decode cX6_goBack 42 = .ok (.sipush 226, 3) := by decide +kernel
theorem dX6_goBack_45 : decode cX6_goBack 45 = .ok (.if_icmp .ge 27, 3) := by decide +kernel
theorem dX6_goBack_48 : decode cX6_goBack 48 = .ok (.aload_n 0, 1) := by decide +kernel
theorem dX6_goBack_49 : decode cX6_goBack 49 = .ok (.getfield 7, 3) := by decide +kernel
theorem dX6_goBack_52 : decode cX6_goBack 52 = .ok (.iload_n 2, 1) := by decide +kernel
theorem dX6_goBack_53 : decode cX6_goBack 53 = .ok (.aload_n 0, 1) := by decide +kernel
theorem dX6_goBack_54 : decode cX6_goBack 54 = .ok (.getfield 19, 3) := by decide +kernel
theorem dX6_goBack_57 : decode cX6_goBack 57 = .ok (.sipush 226, 3) := by decide +kernel
theorem dX6_goBack_60 : decode cX6_goBack 60 = .ok (.iload_n 1, 1) := by decide +kernel
theorem dX6_goBack_61 : decode cX6_goBack 61 = .ok (.imul, 1) := by decide +kernel
theorem dX6_goBack_62 : decode cX6_goBack 62 = .ok (.iload_n 2, 1) := by decide +kernel
theorem dX6_goBack_63 : decode cX6_goBack 63 = .ok (.iadd, 1) := by decide +kernel
theorem dX6_goBack_64 : decode cX6_goBack 64 = .ok (.iaload, 1) := by decide +kernel
theorem dX6_goBack_65 : decode cX6_goBack 65 = .ok (.iastore, 1) := by decide +kernel
theorem dX6_goBack_66 : decode cX6_goBack 66 = .ok (.iinc 2 1, 3) := by decide +kernel
theorem dX6_goBack_69 : decode cX6_goBack 69 = .ok (.goto (-28), 3) := by decide +kernel
theorem dX6_goBack_72 : decode cX6_goBack 72 = .ok (.aload_n 0, 1) := by decide +kernel
theorem dX6_goBack_73 : decode cX6_goBack 73 = .ok (.getfield 7, 3) := by decide +kernel
theorem dX6_goBack_76 : decode cX6_goBack 76 = .ok (.iconst 4, 1) := by decide +kernel
theorem dX6_goBack_77 : decode cX6_goBack 77 = .ok (.iaload, 1) := by decide +kernel
theorem dX6_goBack_78 : decode cX6_goBack 78 = .ok (.ireturn, 1) := by decide +kernel
set_option maxRecDepth 20000 in
theorem ggX6_undo_X6_fails : GoodIn wsX6_undo wsX6_fails := goodIn_r _ [9, 1, 10, 11, 12, 13, 14, 15, 16, 17, 18, 19, 20, 21, 22, 23, 24, 25, 26, 27, 28, 29, 30] (by decide +kernel) (by decide +kernel)
set_option maxRecDepth 20000 in
theorem gX6_undo_X6_fails : GoodIn wsX6_undo (wsV RX6 139 RX6 yX6_fails wsX6_fails) := goodIn_app (goodIn_of _ (by decide +kernel)) ggX6_undo_X6_fails
theorem dX6_undo_0 : decode cX6_undo 0 = .ok (.aload_n 0, 1) := by decide +kernel
theorem dX6_undo_1 : decode cX6_undo 1 = .ok (.iconst 0, 1) := by decide +kernel
theorem dX6_undo_2 : decode cX6_undo 2 = .ok (.putfield 38, 3) := by decide +kernel
theorem dX6_undo_5 : decode cX6_undo 5 = .ok (.aload_n 0, 1) := by decide +kernel
theorem dX6_undo_6 : decode cX6_undo 6 = .ok (.getfield 42, 3) := by decide +kernel
theorem dX6_undo_9 : decode cX6_undo 9 = .ok (.ifCond .ne 9, 3) := by decide +kernel
theorem dX6_undo_12 : decode cX6_undo 12 = .ok (.aload_n 0, 1) := by decide +kernel
theorem dX6_undo_13 : decode cX6_undo 13 = .ok (.iconst 1, 1) := by decide +kernel
theorem dX6_undo_14 : decode cX6_undo 14 = .ok (.invokevirtual 139, 3) := by decide +kernel
theorem dX6_undo_17 : decode cX6_undo 17 = .ok (.ireturn, 1) := by decide +kernel
theorem dX6_undo_18 : decode cX6_undo 18 = .ok (.aload_n 0, 1) := by decide +kernel
theorem dX6_undo_19 : decode cX6_undo 19 = .ok (.dup, 1) := by decide +kernel
theorem dX6_undo_20 : decode cX6_undo 20 = .ok (.getfield 42, 3) := by decide +kernel
theorem dX6_undo_23 : decode cX6_undo 23 = .ok (.iconst 1, 1) := by decide +kernel
theorem dX6_undo_24 : decode cX6_undo 24 = .ok (.isub, 1) := by decide +kernel
theorem dX6_undo_25 : decode cX6_undo 25 = .ok (.putfield 42, 3) := by decide +kernel
theorem dX6_undo_28 : decode cX6_undo 28 = .ok (.iconst 0, 1) := by decide +kernel
theorem dX6_undo_29 : decode cX6_undo 29 = .ok (.istore_n 1, 1) := by decide +kernel
theorem dX6_undo_30 : decode cX6_undo 30 = .ok (.iload_n 1, 1) := by decide +kernel
theorem dX6_undo_31 : decode cX6_undo 31 = .ok (.sipush 226, 3) := by decide +kernel
theorem dX6_undo_34 : decode cX6_undo 34 = .ok (.if_icmp .ge 30, 3) := by decide +kernel
theorem dX6_undo_37 : decode cX6_undo 37 = .ok (.aload_n 0, 1) := by decide +kernel
theorem dX6_undo_38 : decode cX6_undo 38 = .ok (.getfield 7, 3) := by decide +kernel
theorem dX6_undo_41 : decode cX6_undo 41 = .ok (.iload_n 1, 1) := by decide +kernel
theorem dX6_undo_42 : decode cX6_undo 42 = .ok (.aload_n 0, 1) := by decide +kernel
theorem dX6_undo_43 : decode cX6_undo 43 = .ok (.getfield 16, 3) := by decide +kernel
theorem dX6_undo_46 : decode cX6_undo 46 = .ok (.sipush 226, 3) := by decide +kernel
theorem dX6_undo_49 : decode cX6_undo 49 = .ok (.aload_n 0, 1) := by decide +kernel
theorem dX6_undo_50 : decode cX6_undo 50 = .ok (.getfield 42, 3) := by decide +kernel
theorem dX6_undo_53 : decode cX6_undo 53 = .ok (.imul, 1) := by decide +kernel
theorem dX6_undo_54 : decode cX6_undo 54 = .ok (.iload_n 1, 1) := by decide +kernel
theorem dX6_undo_55 : decode cX6_undo 55 = .ok (.iadd, 1) := by decide +kernel
theorem dX6_undo_56 : decode cX6_undo 56 = .ok (.iaload, 1) := by decide +kernel
theorem dX6_undo_57 : decode cX6_undo 57 = .ok (.iastore, 1) := by decide +kernel
theorem dX6_undo_58 : decode cX6_undo 58 = .ok (.iinc 1 1, 3) := by decide +kernel
theorem dX6_undo_61 : decode cX6_undo 61 = .ok (.goto (-31), 3) := by decide +kernel
theorem dX6_undo_64 : decode cX6_undo 64 = .ok (.aload_n 0, 1) := by decide +kernel
theorem dX6_undo_65 : decode cX6_undo 65 = .ok (.getfield 42, 3) := by decide +kernel
theorem dX6_undo_68 : decode cX6_undo 68 = .ok (.ireturn, 1) := by decide +kernel
set_option maxRecDepth 20000 in
theorem ggX6_time_X6_fails : GoodIn wsX6_time wsX6_fails := goodIn_r _ [7, 1, 8, 9, 10, 11, 12, 13, 14, 15, 16, 17, 18, 19, 20, 21, 22, 23, 24, 25, 26, 27, 28] (by decide +kernel) (by decide +kernel)
set_option maxRecDepth 20000 in
theorem gX6_time_X6_fails : GoodIn wsX6_time (wsV RX6 139 RX6 yX6_fails wsX6_fails) := goodIn_app (goodIn_of _ (by decide +kernel)) ggX6_time_X6_fails
theorem dX6_time_0 : decode cX6_time 0 = .ok (.aload_n 0, 1) := by decide +kernel
theorem dX6_time_1 : decode cX6_time 1 = .ok (.iconst 0, 1) := by decide +kernel
theorem dX6_time_2 : decode cX6_time 2 = .ok (.putfield 38, 3) := by decide +kernel
theorem dX6_time_5 : decode cX6_time 5 = .ok (.iload_n 1, 1) := by decide +kernel
theorem dX6_time_6 : decode cX6_time 6 = .ok (.ifCond .ge 9, 3) := by decide +kernel
theorem dX6_time_9 : decode cX6_time 9 = .ok (.aload_n 0, 1) := by decide +kernel
theorem dX6_time_10 : decode cX6_time 10 = .ok (.iconst 1, 1) := by decide +kernel
theorem dX6_time_11 : decode cX6_time 11 = .ok (.invokevirtual 139, 3) := by decide +kernel
theorem dX6_time_14 : decode cX6_time 14 = .ok (.ireturn, 1) := by decide +kernel
theorem dX6_time_15 : decode cX6_time 15 = .ok (.iload_n 1, 1) := by decide +kernel
theorem dX6_time_16 : decode cX6_time 16 = .ok (.aload_n 0, 1) := by decide +kernel
theorem dX6_time_17 : decode cX6_time 17 = .ok (.getfield 7, 3) := by decide +kernel
theorem dX6_time_20 : decode cX6_time 20 = .ok (.iconst 4, 1) := by decide +kernel
theorem dX6_time_21 : decode cX6_time 21 = .ok (.iaload, 1) := by decide +kernel
theorem dX6_time_22 : decode cX6_time 22 = .ok (.if_icmp .ge 15, 3) := by decide +kernel
theorem dX6_time_25 : decode cX6_time 25 = .ok (.aload_n 0, 1) := by decide +kernel
theorem dX6_time_26 : decode cX6_time 26 = .ok (.getfield 7, 3) := by decide +kernel
theorem dX6_time_29 : decode cX6_time 29 = .ok (.bipush 26, 2) := by decide +kernel
theorem dX6_time_31 : decode cX6_time 31 = .ok (.iload_n 1, 1) := by decide +kernel
theorem dX6_time_32 : decode cX6_time 32 = .ok (.iadd, 1) := by decide +kernel
theorem dX6_time_33 : decode cX6_time 33 = .ok (.iaload, 1) := by decide +kernel
theorem dX6_time_34 : decode cX6_time 34 = .ok (.goto 4, 3) := by decide +kernel
theorem dX6_time_37 : decode cX6_time 37 = .ok (.iconst (-1), 1) := by decide +kernel
theorem dX6_time_38 : decode cX6_time 38 = .ok (.ireturn, 1) := by decide +kernel
set_option maxRecDepth 20000 in
theorem ggX6_written_X6_fails : GoodIn wsX6_written wsX6_fails := goodIn_r _ [7, 1, 8, 9, 10, 11, 12, 13, 14, 15, 16, 17, 18, 19, 20, 21, 22, 23, 24, 25, 26, 27, 28] (by decide +kernel) (by decide +kernel)
set_option maxRecDepth 20000 in
theorem gX6_written_X6_fails : GoodIn wsX6_written (wsV RX6 139 RX6 yX6_fails wsX6_fails) := goodIn_app (goodIn_of _ (by decide +kernel)) ggX6_written_X6_fails
theorem dX6_written_0 : decode cX6_written 0 = .ok (.aload_n 0, 1) := by decide +kernel
theorem dX6_written_1 : decode cX6_written 1 = .ok (.iconst 0, 1) := by decide +kernel
theorem dX6_written_2 : decode cX6_written 2 = .ok (.putfield 38, 3) := by decide +kernel
theorem dX6_written_5 : decode cX6_written 5 = .ok (.iload_n 1, 1) := by decide +kernel
theorem dX6_written_6 : decode cX6_written 6 = .ok (.ifCond .ge 9, 3) := by decide +kernel
theorem dX6_written_9 : decode cX6_written 9 = .ok (.aload_n 0, 1) := by decide +kernel
theorem dX6_written_10 : decode cX6_written 10 = .ok (.iconst 1, 1) := by decide +kernel
theorem dX6_written_11 : decode cX6_written 11 = .ok (.invokevirtual 139, 3) := by decide +kernel
theorem dX6_written_14 : decode cX6_written 14 = .ok (.ireturn, 1) := by decide +kernel
theorem dX6_written_15 : decode cX6_written 15 = .ok (.iload_n 1, 1) := by decide +kernel
theorem dX6_written_16 : decode cX6_written 16 = .ok (.aload_n 0, 1) := by decide +kernel
theorem dX6_written_17 : decode cX6_written 17 = .ok (.getfield 7, 3) := by decide +kernel
theorem dX6_written_20 : decode cX6_written 20 = .ok (.iconst 5, 1) := by decide +kernel
theorem dX6_written_21 : decode cX6_written 21 = .ok (.iaload, 1) := by decide +kernel
theorem dX6_written_22 : decode cX6_written 22 = .ok (.if_icmp .ge 15, 3) := by decide +kernel
theorem dX6_written_25 : decode cX6_written 25 = .ok (.aload_n 0, 1) := by decide +kernel
theorem dX6_written_26 : decode cX6_written 26 = .ok (.getfield 7, 3) := by decide +kernel
theorem dX6_written_29 : decode cX6_written 29 = .ok (.bipush 6, 2) := by decide +kernel
theorem dX6_written_31 : decode cX6_written 31 = .ok (.iload_n 1, 1) := by decide +kernel
theorem dX6_written_32 : decode cX6_written 32 = .ok (.iadd, 1) := by decide +kernel
theorem dX6_written_33 : decode cX6_written 33 = .ok (.iaload, 1) := by decide +kernel
theorem dX6_written_34 : decode cX6_written 34 = .ok (.goto 4, 3) := by decide +kernel
theorem dX6_written_37 : decode cX6_written 37 = .ok (.iconst (-1), 1) := by decide +kernel
theorem dX6_written_38 : decode cX6_written 38 = .ok (.ireturn, 1) := by decide +kernel
theorem dX6_tellsReading_0 : decode cX6_tellsReading 0 = .ok (.iload_n 1, 1) := by decide +kernel
theorem dX6_tellsReading_1 : decode cX6_tellsReading 1 = .ok (.tableswitch 51 0 3 #[31, 36, 41, 46], 31) := by decide +kernel
theorem dX6_tellsReading_32 : decode cX6_tellsReading 32 = .ok (.aload_n 0, 1) := by decide +kernel
theorem dX6_tellsReading_33 : decode cX6_tellsReading 33 = .ok (.getfield 123, 3) := by decide +kernel
theorem dX6_tellsReading_36 : decode cX6_tellsReading 36 = .ok (.ireturn, 1) := by decide +kernel
theorem dX6_tellsReading_37 : decode cX6_tellsReading 37 = .ok (.aload_n 0, 1) := by decide +kernel
theorem dX6_tellsReading_38 : decode cX6_tellsReading 38 = .ok (.getfield 81, 3) := by decide +kernel
theorem dX6_tellsReading_41 : decode cX6_tellsReading 41 = .ok (.ireturn, 1) := by decide +kernel
theorem dX6_tellsReading_42 : decode cX6_tellsReading 42 = .ok (.aload_n 0, 1) := by decide +kernel
theorem dX6_tellsReading_43 : decode cX6_tellsReading 43 = .ok (.getfield 92, 3) := by decide +kernel
theorem dX6_tellsReading_46 : decode cX6_tellsReading 46 = .ok (.ireturn, 1) := by decide +kernel
theorem dX6_tellsReading_47 : decode cX6_tellsReading 47 = .ok (.aload_n 0, 1) := by decide +kernel
theorem dX6_tellsReading_48 : decode cX6_tellsReading 48 = .ok (.getfield 102, 3) := by decide +kernel
theorem dX6_tellsReading_51 : decode cX6_tellsReading 51 = .ok (.ireturn, 1) := by decide +kernel
theorem dX6_tellsReading_52 : decode cX6_tellsReading 52 = .ok (.aload_n 0, 1) := by decide +kernel
theorem dX6_tellsReading_53 : decode cX6_tellsReading 53 = .ok (.getfield 74, 3) := by decide +kernel
theorem dX6_tellsReading_56 : decode cX6_tellsReading 56 = .ok (.ireturn, 1) := by decide +kernel
set_option maxRecDepth 20000 in
theorem ggX6_reads_X6_in : GoodIn wsX6_reads wsX6_in := goodIn_r _ [5] (by decide +kernel) (by decide +kernel)
set_option maxRecDepth 20000 in
theorem gX6_reads_X6_in : GoodIn wsX6_reads (va_wsS RX6 53 yX6_in wsX6_in) := goodIn_app (goodIn_of _ (by decide +kernel)) ggX6_reads_X6_in
set_option maxRecDepth 20000 in
theorem ggX6_reads_X6_fails : GoodIn wsX6_reads wsX6_fails := goodIn_r _ [9, 1, 77, 78, 79, 80, 81, 82, 83, 84, 85, 86, 87, 88, 89, 90, 91, 92, 93, 94, 95, 96, 97] (by decide +kernel) (by decide +kernel)
set_option maxRecDepth 20000 in
theorem gX6_reads_X6_fails : GoodIn wsX6_reads (wsV RX6 139 RX6 yX6_fails wsX6_fails) := goodIn_app (goodIn_of _ (by decide +kernel)) ggX6_reads_X6_fails
set_option maxRecDepth 20000 in
theorem ggX6_reads_X6_laysReading : GoodIn wsX6_reads wsX6_laysReading := goodIn_r _ [13, 14, 15, 16, 17, 18, 19, 4, 20, 21, 22, 23, 24, 25, 26, 27, 28, 29, 30, 31, 32, 33, 34, 35, 36, 37, 38, 39, 40, 41, 42, 43, 44, 45, 46, 47, 48, 49, 50, 51, 52, 53, 54, 55, 56, 57, 58, 59, 60, 61, 62, 63, 64, 65, 66, 67, 68, 69, 70, 71, 72, 77, 78, 79, 80, 81, 82, 83, 84, 85, 86, 87, 88, 89, 90, 91, 92, 93, 94, 95, 96, 97] (by decide +kernel) (by decide +kernel)
set_option maxRecDepth 20000 in
theorem gX6_reads_X6_laysReading : GoodIn wsX6_reads (wsV RX6 126 RX6 yX6_laysReading wsX6_laysReading) := goodIn_app (goodIn_of _ (by decide +kernel)) ggX6_reads_X6_laysReading
set_option maxRecDepth 20000 in
theorem ggX6_reads_X6_tellsReading : GoodIn wsX6_reads wsX6_tellsReading := goodIn_r _ [76, 16, 21, 15, 55, 24, 77, 78, 79, 80, 81, 82, 83, 84, 85, 86, 87, 88, 89, 90, 91, 92, 93, 94, 95, 96, 97] (by decide +kernel) (by decide +kernel)
set_option maxRecDepth 20000 in
theorem gX6_reads_X6_tellsReading : GoodIn wsX6_reads (wsV RX6 173 RX6 yX6_tellsReading wsX6_tellsReading) := goodIn_app (goodIn_of _ (by decide +kernel)) ggX6_reads_X6_tellsReading
theorem dX6_reads_0 : decode cX6_reads 0 = .ok (.aload_n 0, 1) := by decide +kernel
theorem dX6_reads_1 : decode cX6_reads 1 = .ok (.iconst 0, 1) := by decide +kernel
theorem dX6_reads_2 : decode cX6_reads 2 = .ok (.putfield 38, 3) := by decide +kernel
theorem dX6_reads_5 : decode cX6_reads 5 = .ok (.iload_n 2, 1) := by decide +kernel
theorem dX6_reads_6 : decode cX6_reads 6 = .ok (.iconst 0, 1) := by decide +kernel
theorem dX6_reads_7 : decode cX6_reads 7 = .ok (.iconst 4, 1) := by decide +kernel
theorem dX6_reads_8 : decode cX6_reads 8 = .ok (.invokestatic 53, 3) := by decide +kernel
theorem dX6_reads_11 : decode cX6_reads 11 = .ok (.ifCond .ne 9, 3) := by decide +kernel
theorem dX6_reads_14 : decode cX6_reads 14 = .ok (.aload_n 0, 1) := by decide +kernel
theorem dX6_reads_15 : decode cX6_reads 15 = .ok (.iconst 1, 1) := by decide +kernel
theorem dX6_reads_16 : decode cX6_reads 16 = .ok (.invokevirtual 139, 3) := by decide +kernel
theorem dX6_reads_19 : decode cX6_reads 19 = .ok (.ireturn, 1) := by decide +kernel
theorem dX6_reads_20 : decode cX6_reads 20 = .ok (.aload_n 0, 1) := by decide +kernel
theorem dX6_reads_21 : decode cX6_reads 21 = .ok (.iload_n 1, 1) := by decide +kernel
theorem dX6_reads_22 : decode cX6_reads 22 = .ok (.invokevirtual 126, 3) := by decide +kernel
theorem dX6_reads_25 : decode cX6_reads 25 = .ok (.aload_n 0, 1) := by decide +kernel
theorem dX6_reads_26 : decode cX6_reads 26 = .ok (.iload_n 2, 1) := by decide +kernel
theorem dX6_reads_27 : decode cX6_reads 27 = .ok (.invokevirtual 173, 3) := by decide +kernel
theorem dX6_reads_30 : decode cX6_reads 30 = .ok (.ireturn, 1) := by decide +kernel
set_option maxRecDepth 20000 in
theorem ggX6_bit_X6_fails : GoodIn wsX6_bit wsX6_fails := goodIn_r _ [8, 1, 70, 71, 72, 73, 74, 75, 76, 77, 78, 79, 80, 81, 82, 83, 84, 85, 86, 87, 88, 89, 90] (by decide +kernel) (by decide +kernel)
set_option maxRecDepth 20000 in
theorem gX6_bit_X6_fails : GoodIn wsX6_bit (wsV RX6 139 RX6 yX6_fails wsX6_fails) := goodIn_app (goodIn_of _ (by decide +kernel)) ggX6_bit_X6_fails
set_option maxRecDepth 20000 in
theorem ggX6_bit_X6_laysReading : GoodIn wsX6_bit wsX6_laysReading := goodIn_r _ [12, 13, 14, 15, 16, 17, 18, 7, 19, 2, 20, 3, 21, 22, 23, 24, 25, 26, 27, 28, 29, 30, 31, 32, 33, 34, 35, 36, 37, 38, 39, 40, 41, 42, 43, 44, 45, 46, 47, 48, 49, 50, 51, 52, 53, 54, 55, 56, 57, 58, 59, 60, 61, 62, 63, 64, 65, 66, 67, 68, 69, 70, 71, 72, 73, 74, 75, 76, 77, 78, 79, 80, 81, 82, 83, 84, 85, 86, 87, 88, 89, 90] (by decide +kernel) (by decide +kernel)
set_option maxRecDepth 20000 in
theorem gX6_bit_X6_laysReading : GoodIn wsX6_bit (wsV RX6 126 RX6 yX6_laysReading wsX6_laysReading) := goodIn_app (goodIn_of _ (by decide +kernel)) ggX6_bit_X6_laysReading
theorem dX6_bit_0 : decode cX6_bit 0 = .ok (.aload_n 0, 1) := by decide +kernel
theorem dX6_bit_1 : decode cX6_bit 1 = .ok (.iconst 0, 1) := by decide +kernel
theorem dX6_bit_2 : decode cX6_bit 2 = .ok (.putfield 38, 3) := by decide +kernel
theorem dX6_bit_5 : decode cX6_bit 5 = .ok (.iload_n 2, 1) := by decide +kernel
theorem dX6_bit_6 : decode cX6_bit 6 = .ok (.ifCond .ge 9, 3) := by decide +kernel
theorem dX6_bit_9 : decode cX6_bit 9 = .ok (.aload_n 0, 1) := by decide +kernel
theorem dX6_bit_10 : decode cX6_bit 10 = .ok (.iconst 1, 1) := by decide +kernel
theorem dX6_bit_11 : decode cX6_bit 11 = .ok (.invokevirtual 139, 3) := by decide +kernel
theorem dX6_bit_14 : decode cX6_bit 14 = .ok (.ireturn, 1) := by decide +kernel
theorem dX6_bit_15 : decode cX6_bit 15 = .ok (.aload_n 0, 1) := by decide +kernel
theorem dX6_bit_16 : decode cX6_bit 16 = .ok (.iload_n 1, 1) := by decide +kernel
theorem dX6_bit_17 : decode cX6_bit 17 = .ok (.invokevirtual 126, 3) := by decide +kernel
theorem dX6_bit_20 : decode cX6_bit 20 = .ok (.iload_n 2, 1) := by decide +kernel
theorem dX6_bit_21 : decode cX6_bit 21 = .ok (.aload_n 0, 1) := by decide +kernel
theorem dX6_bit_22 : decode cX6_bit 22 = .ok (.getfield 81, 3) := by decide +kernel
theorem dX6_bit_25 : decode cX6_bit 25 = .ok (.if_icmp .ge 12, 3) := by decide +kernel
theorem dX6_bit_28 : decode cX6_bit 28 = .ok (.aload_n 0, 1) := by decide +kernel
theorem dX6_bit_29 : decode cX6_bit 29 = .ok (.getfield 29, 3) := by decide +kernel
theorem dX6_bit_32 : decode cX6_bit 32 = .ok (.iload_n 2, 1) := by decide +kernel
theorem dX6_bit_33 : decode cX6_bit 33 = .ok (.iaload, 1) := by decide +kernel
theorem dX6_bit_34 : decode cX6_bit 34 = .ok (.goto 4, 3) := by decide +kernel
theorem dX6_bit_37 : decode cX6_bit 37 = .ok (.iconst (-1), 1) := by decide +kernel
theorem dX6_bit_38 : decode cX6_bit 38 = .ok (.ireturn, 1) := by decide +kernel
set_option maxRecDepth 20000 in
theorem ggX6_letter_X6_fails : GoodIn wsX6_letter wsX6_fails := goodIn_r _ [8, 1, 70, 71, 72, 73, 74, 75, 76, 77, 78, 79, 80, 81, 82, 83, 84, 85, 86, 87, 88, 89, 90] (by decide +kernel) (by decide +kernel)
set_option maxRecDepth 20000 in
theorem gX6_letter_X6_fails : GoodIn wsX6_letter (wsV RX6 139 RX6 yX6_fails wsX6_fails) := goodIn_app (goodIn_of _ (by decide +kernel)) ggX6_letter_X6_fails
set_option maxRecDepth 20000 in
theorem ggX6_letter_X6_laysReading : GoodIn wsX6_letter wsX6_laysReading := goodIn_r _ [12, 13, 14, 15, 16, 17, 18, 7, 19, 20, 21, 22, 23, 24, 25, 26, 27, 28, 29, 30, 31, 32, 33, 34, 35, 36, 37, 38, 39, 40, 41, 42, 43, 44, 45, 46, 47, 48, 49, 50, 51, 52, 53, 2, 3, 54, 55, 56, 57, 58, 59, 60, 61, 62, 63, 64, 65, 66, 67, 68, 69, 70, 71, 72, 73, 74, 75, 76, 77, 78, 79, 80, 81, 82, 83, 84, 85, 86, 87, 88, 89, 90] (by decide +kernel) (by decide +kernel)
set_option maxRecDepth 20000 in
theorem gX6_letter_X6_laysReading : GoodIn wsX6_letter (wsV RX6 126 RX6 yX6_laysReading wsX6_laysReading) := goodIn_app (goodIn_of _ (by decide +kernel)) ggX6_letter_X6_laysReading
theorem dX6_letter_0 : decode cX6_letter 0 = .ok (.aload_n 0, 1) := by decide +kernel
theorem dX6_letter_1 : decode cX6_letter 1 = .ok (.iconst 0, 1) := by decide +kernel
theorem dX6_letter_2 : decode cX6_letter 2 = .ok (.putfield 38, 3) := by decide +kernel
theorem dX6_letter_5 : decode cX6_letter 5 = .ok (.iload_n 2, 1) := by decide +kernel
theorem dX6_letter_6 : decode cX6_letter 6 = .ok (.ifCond .ge 9, 3) := by decide +kernel
theorem dX6_letter_9 : decode cX6_letter 9 = .ok (.aload_n 0, 1) := by decide +kernel
theorem dX6_letter_10 : decode cX6_letter 10 = .ok (.iconst 1, 1) := by decide +kernel
theorem dX6_letter_11 : decode cX6_letter 11 = .ok (.invokevirtual 139, 3) := by decide +kernel
theorem dX6_letter_14 : decode cX6_letter 14 = .ok (.ireturn, 1) := by decide +kernel
theorem dX6_letter_15 : decode cX6_letter 15 = .ok (.aload_n 0, 1) := by decide +kernel
theorem dX6_letter_16 : decode cX6_letter 16 = .ok (.iload_n 1, 1) := by decide +kernel
theorem dX6_letter_17 : decode cX6_letter 17 = .ok (.invokevirtual 126, 3) := by decide +kernel
theorem dX6_letter_20 : decode cX6_letter 20 = .ok (.iload_n 2, 1) := by decide +kernel
theorem dX6_letter_21 : decode cX6_letter 21 = .ok (.aload_n 0, 1) := by decide +kernel
theorem dX6_letter_22 : decode cX6_letter 22 = .ok (.getfield 102, 3) := by decide +kernel
theorem dX6_letter_25 : decode cX6_letter 25 = .ok (.if_icmp .ge 12, 3) := by decide +kernel
theorem dX6_letter_28 : decode cX6_letter 28 = .ok (.aload_n 0, 1) := by decide +kernel
theorem dX6_letter_29 : decode cX6_letter 29 = .ok (.getfield 32, 3) := by decide +kernel
theorem dX6_letter_32 : decode cX6_letter 32 = .ok (.iload_n 2, 1) := by decide +kernel
theorem dX6_letter_33 : decode cX6_letter 33 = .ok (.iaload, 1) := by decide +kernel
theorem dX6_letter_34 : decode cX6_letter 34 = .ok (.goto 4, 3) := by decide +kernel
theorem dX6_letter_37 : decode cX6_letter 37 = .ok (.iconst (-1), 1) := by decide +kernel
theorem dX6_letter_38 : decode cX6_letter 38 = .ok (.ireturn, 1) := by decide +kernel
theorem dX6_overTimes_0 : decode cX6_overTimes 0 = .ok (.iconst 0, 1) := by decide +kernel
theorem dX6_overTimes_1 : decode cX6_overTimes 1 = .ok (.istore_n 2, 1) := by decide +kernel
theorem dX6_overTimes_2 : decode cX6_overTimes 2 = .ok (.aload_n 0, 1) := by decide +kernel
theorem dX6_overTimes_3 : decode cX6_overTimes 3 = .ok (.getfield 7, 3) := by decide +kernel
theorem dX6_overTimes_6 : decode cX6_overTimes 6 = .ok (.iconst 4, 1) := by decide +kernel
theorem dX6_overTimes_7 : decode cX6_overTimes 7 = .ok (.iaload, 1) := by decide +kernel
theorem dX6_overTimes_8 : decode cX6_overTimes 8 = .ok (.ifCond .ne 7, 3) := by decide +kernel
theorem dX6_overTimes_11 : decode cX6_overTimes 11 = .ok (.iconst 0, 1) := by decide +kernel
theorem dX6_overTimes_12 : decode cX6_overTimes 12 = .ok (.goto 10, 3) := by decide +kernel
theorem dX6_overTimes_15 : decode cX6_overTimes 15 = .ok (.aload_n 0, 1) := by decide +kernel
theorem dX6_overTimes_16 : decode cX6_overTimes 16 = .ok (.getfield 7, 3) := by decide +kernel
theorem dX6_overTimes_19 : decode cX6_overTimes 19 = .ok (.bipush 26, 2) := by decide +kernel
theorem dX6_overTimes_21 : decode cX6_overTimes 21 = .ok (.iaload, 1) := by decide +kernel
theorem dX6_overTimes_22 : decode cX6_overTimes 22 = .ok (.istore_n 3, 1) := by decide +kernel
theorem dX6_overTimes_23 : decode cX6_overTimes 23 = .ok (.iconst 0, 1) := by decide +kernel
theorem dX6_overTimes_24 : decode cX6_overTimes 24 = .ok (.istore 4, 2) := by decide +kernel
theorem dX6_overTimes_26 : decode cX6_overTimes 26 = .ok (.iconst 0, 1) := by decide +kernel
theorem dX6_overTimes_27 : decode cX6_overTimes 27 = .ok (.istore 5, 2) := by decide +kernel
theorem dX6_overTimes_29 : decode cX6_overTimes 29 = .ok (.iload 5, 2) := by decide +kernel
theorem dX6_overTimes_31 : decode cX6_overTimes 31 = .ok (.aload_n 0, 1) := by decide +kernel
theorem dX6_overTimes_32 : decode cX6_overTimes 32 = .ok (.getfield 7, 3) := by decide +kernel
theorem dX6_overTimes_35 : decode cX6_overTimes 35 = .ok (.iconst 4, 1) := by decide +kernel
theorem dX6_overTimes_36 : decode cX6_overTimes 36 = .ok (.iaload, 1) := by decide +kernel
theorem dX6_overTimes_37 : decode cX6_overTimes 37 = .ok (.if_icmp .ge 55, 3) := by decide +kernel
theorem dX6_overTimes_40 : decode cX6_overTimes 40 = .ok (.aload_n 0, 1) := by decide +kernel
theorem dX6_overTimes_41 : decode cX6_overTimes 41 = .ok (.getfield 7, 3) := by decide +kernel
theorem dX6_overTimes_44 : decode cX6_overTimes 44 = .ok (.bipush 26, 2) := by decide +kernel
theorem dX6_overTimes_46 : decode cX6_overTimes 46 = .ok (.iload 5, 2) := by decide +kernel
theorem dX6_overTimes_48 : decode cX6_overTimes 48 = .ok (.iadd, 1) := by decide +kernel
theorem dX6_overTimes_49 : decode cX6_overTimes 49 = .ok (.iaload, 1) := by decide +kernel
theorem dX6_overTimes_50 : decode cX6_overTimes 50 = .ok (.istore 6, 2) := by decide +kernel
theorem dX6_overTimes_52 : decode cX6_overTimes 52 = .ok (.iload_n 2, 1) := by decide +kernel
theorem dX6_overTimes_53 : decode cX6_overTimes 53 = .ok (.iload 6, 2) := by decide +kernel
theorem dX6_overTimes_55 : decode cX6_overTimes 55 = .ok (.iadd, 1) := by decide +kernel
theorem dX6_overTimes_56 : decode cX6_overTimes 56 = .ok (.istore_n 2, 1) := by decide +kernel
theorem dX6_overTimes_57 : decode cX6_overTimes 57 = .ok (.iload 6, 2) := by decide +kernel
theorem dX6_overTimes_59 : decode cX6_overTimes 59 = .ok (.iload_n 3, 1) := by decide +kernel
theorem dX6_overTimes_60 : decode cX6_overTimes 60 = .ok (.if_icmp .ge 8, 3) := by decide +kernel
theorem dX6_overTimes_63 : decode cX6_overTimes 63 = .ok (.iload 6, 2) := by decide +kernel
theorem dX6_overTimes_65 : decode cX6_overTimes 65 = .ok (.goto 4, 3) := by decide +kernel
theorem dX6_overTimes_68 : decode cX6_overTimes 68 = .ok (.iload_n 3, 1) := by decide +kernel
theorem dX6_overTimes_69 : decode cX6_overTimes 69 = .ok (.istore_n 3, 1) := by decide +kernel
theorem dX6_overTimes_70 : decode cX6_overTimes 70 = .ok (.iload 6, 2) := by decide +kernel
theorem dX6_overTimes_72 : decode cX6_overTimes 72 = .ok (.iload 4, 2) := by decide +kernel
theorem dX6_overTimes_74 : decode cX6_overTimes 74 = .ok (.if_icmp .le 8, 3) := by decide +kernel
theorem dX6_overTimes_77 : decode cX6_overTimes 77 = .ok (.iload 6, 2) := by decide +kernel
theorem dX6_overTimes_79 : decode cX6_overTimes 79 = .ok (.goto 5, 3) := by decide +kernel
theorem dX6_overTimes_82 : decode cX6_overTimes 82 = .ok (.iload 4, 2) := by decide +kernel
theorem dX6_overTimes_84 : decode cX6_overTimes 84 = .ok (.istore 4, 2) := by decide +kernel
theorem dX6_overTimes_86 : decode cX6_overTimes 86 = .ok (.iinc 5 1, 3) := by decide +kernel
theorem dX6_overTimes_89 : decode cX6_overTimes 89 = .ok (.goto (-60), 3) := by decide +kernel
theorem dX6_overTimes_92 : decode cX6_overTimes 92 = .ok (.iload_n 1, 1) := by decide +kernel
theorem dX6_overTimes_93 : decode cX6_overTimes 93 = .ok (.iconst 1, 1) := by decide +kernel
theorem dX6_overTimes_94 : decode cX6_overTimes 94 = .ok (.if_icmp .ne 7, 3) := by decide +kernel
theorem dX6_overTimes_97 : decode cX6_overTimes 97 = .ok (.iload_n 2, 1) := by decide +kernel
theorem dX6_overTimes_98 : decode cX6_overTimes 98 = .ok (.goto 14, 3) := by decide +kernel
theorem dX6_overTimes_101 : decode cX6_overTimes 101 = .ok (.iload_n 1, 1) := by decide +kernel
theorem dX6_overTimes_102 : decode cX6_overTimes 102 = .ok (.iconst 2, 1) := by decide +kernel
theorem dX6_overTimes_103 : decode cX6_overTimes 103 = .ok (.if_icmp .ne 7, 3) := by decide +kernel
theorem dX6_overTimes_106 : decode cX6_overTimes 106 = .ok (.iload_n 3, 1) := by decide +kernel
theorem dX6_overTimes_107 : decode cX6_overTimes 107 = .ok (.goto 5, 3) := by decide +kernel
theorem dX6_overTimes_110 : decode cX6_overTimes 110 = .ok (.iload 4, 2) := by decide +kernel
theorem dX6_overTimes_112 : decode cX6_overTimes 112 = .ok (.ireturn, 1) := by decide +kernel
set_option maxRecDepth 20000 in
theorem ggX6_counts_X6_overTimes : GoodIn wsX6_counts wsX6_overTimes := goodIn_r _ [7, 1, 12, 13, 14, 15, 16, 17, 18, 19, 20, 21, 22, 23, 24, 25, 26, 27, 28, 29, 30, 31, 32] (by decide +kernel) (by decide +kernel)
set_option maxRecDepth 20000 in
theorem gX6_counts_X6_overTimes : GoodIn wsX6_counts (wsV RX6 176 RX6 yX6_overTimes wsX6_overTimes) := goodIn_app (goodIn_of _ (by decide +kernel)) ggX6_counts_X6_overTimes
set_option maxRecDepth 20000 in
theorem ggX6_counts_X6_check : GoodIn wsX6_counts wsX6_check := goodIn_r _ [11, 1, 12, 13, 14, 15, 16, 17, 18, 19, 20, 21, 22, 23, 24, 25, 26, 27, 28, 29, 30, 31, 32] (by decide +kernel) (by decide +kernel)
set_option maxRecDepth 20000 in
theorem gX6_counts_X6_check : GoodIn wsX6_counts (wsV RX6 49 RX6 yX6_check wsX6_check) := goodIn_app (goodIn_of _ (by decide +kernel)) ggX6_counts_X6_check
theorem dX6_counts_0 : decode cX6_counts 0 = .ok (.iload_n 1, 1) := by decide +kernel
theorem dX6_counts_1 : decode cX6_counts 1 = .ok (.tableswitch 77 0 5 #[39, 46, 46, 46, 52, 59], 39) := by decide +kernel
theorem dX6_counts_40 : decode cX6_counts 40 = .ok (.aload_n 0, 1) := by decide +kernel
theorem dX6_counts_41 : decode cX6_counts 41 = .ok (.getfield 7, 3) := by decide +kernel
theorem dX6_counts_44 : decode cX6_counts 44 = .ok (.iconst 4, 1) := by decide +kernel
theorem dX6_counts_45 : decode cX6_counts 45 = .ok (.iaload, 1) := by decide +kernel
theorem dX6_counts_46 : decode cX6_counts 46 = .ok (.ireturn, 1) := by decide +kernel
theorem dX6_counts_47 : decode cX6_counts 47 = .ok (.aload_n 0, 1) := by decide +kernel
theorem dX6_counts_48 : decode cX6_counts 48 = .ok (.iload_n 1, 1) := by decide +kernel
theorem dX6_counts_49 : decode cX6_counts 49 = .ok (.invokevirtual 176, 3) := by decide +kernel
theorem dX6_counts_52 : decode cX6_counts 52 = .ok (.ireturn, 1) := by decide +kernel
theorem dX6_counts_53 : decode cX6_counts 53 = .ok (.aload_n 0, 1) := by decide +kernel
theorem dX6_counts_54 : decode cX6_counts 54 = .ok (.getfield 7, 3) := by decide +kernel
theorem dX6_counts_57 : decode cX6_counts 57 = .ok (.iconst 5, 1) := by decide +kernel
theorem dX6_counts_58 : decode cX6_counts 58 = .ok (.iaload, 1) := by decide +kernel
theorem dX6_counts_59 : decode cX6_counts 59 = .ok (.ireturn, 1) := by decide +kernel
theorem dX6_counts_60 : decode cX6_counts 60 = .ok (.aload_n 0, 1) := by decide +kernel
theorem dX6_counts_61 : decode cX6_counts 61 = .ok (.getfield 7, 3) := by decide +kernel
theorem dX6_counts_64 : decode cX6_counts 64 = .ok (.iconst 5, 1) := by decide +kernel
theorem dX6_counts_65 : decode cX6_counts 65 = .ok (.iaload, 1) := by decide +kernel
theorem dX6_counts_66 : decode cX6_counts 66 = .ok (.ifCond .ne 7, 3) := by decide +kernel
theorem dX6_counts_69 : decode cX6_counts 69 = .ok (.iconst (-1), 1) := by decide +kernel
theorem dX6_counts_70 : decode cX6_counts 70 = .ok (.goto 7, 3) := by decide +kernel
theorem dX6_counts_73 : decode cX6_counts 73 = .ok (.aload_n 0, 1) := by decide +kernel
theorem dX6_counts_74 : decode cX6_counts 74 = .ok (.invokevirtual 49, 3) := by decide +kernel
theorem dX6_counts_77 : decode cX6_counts 77 = .ok (.ireturn, 1) := by decide +kernel
theorem dX6_counts_78 : decode cX6_counts 78 = .ok (.aload_n 0, 1) := by decide +kernel
theorem dX6_counts_79 : decode cX6_counts 79 = .ok (.getfield 42, 3) := by decide +kernel
theorem dX6_counts_82 : decode cX6_counts 82 = .ok (.ireturn, 1) := by decide +kernel
set_option maxRecDepth 20000 in
theorem ggX6_count_X6_in : GoodIn wsX6_count wsX6_in := goodIn_r _ [5] (by decide +kernel) (by decide +kernel)
set_option maxRecDepth 20000 in
theorem gX6_count_X6_in : GoodIn wsX6_count (va_wsS RX6 53 yX6_in wsX6_in) := goodIn_app (goodIn_of _ (by decide +kernel)) ggX6_count_X6_in
set_option maxRecDepth 20000 in
theorem ggX6_count_X6_counts : GoodIn wsX6_count wsX6_counts := goodIn_r _ [9, 10, 11, 12, 13, 14, 4, 15, 16, 17, 18, 19, 24, 25, 26, 27, 28, 29, 30, 31, 32, 33, 34, 35, 36, 37, 38, 39, 40, 41, 42, 43, 44] (by decide +kernel) (by decide +kernel)
set_option maxRecDepth 20000 in
theorem gX6_count_X6_counts : GoodIn wsX6_count (wsV RX6 179 RX6 yX6_counts wsX6_counts) := goodIn_app (goodIn_of _ (by decide +kernel)) ggX6_count_X6_counts
set_option maxRecDepth 20000 in
theorem ggX6_count_X6_fails : GoodIn wsX6_count wsX6_fails := goodIn_r _ [23, 1, 24, 25, 26, 27, 28, 29, 30, 31, 32, 33, 34, 35, 36, 37, 38, 39, 40, 41, 42, 43, 44] (by decide +kernel) (by decide +kernel)
set_option maxRecDepth 20000 in
theorem gX6_count_X6_fails : GoodIn wsX6_count (wsV RX6 139 RX6 yX6_fails wsX6_fails) := goodIn_app (goodIn_of _ (by decide +kernel)) ggX6_count_X6_fails
theorem dX6_count_0 : decode cX6_count 0 = .ok (.aload_n 0, 1) := by decide +kernel
theorem dX6_count_1 : decode cX6_count 1 = .ok (.iconst 0, 1) := by decide +kernel
theorem dX6_count_2 : decode cX6_count 2 = .ok (.putfield 38, 3) := by decide +kernel
theorem dX6_count_5 : decode cX6_count 5 = .ok (.iload_n 1, 1) := by decide +kernel
theorem dX6_count_6 : decode cX6_count 6 = .ok (.iconst 0, 1) := by decide +kernel
theorem dX6_count_7 : decode cX6_count 7 = .ok (.bipush 6, 2) := by decide +kernel
theorem dX6_count_9 : decode cX6_count 9 = .ok (.invokestatic 53, 3) := by decide +kernel
theorem dX6_count_12 : decode cX6_count 12 = .ok (.ifCond .eq 11, 3) := by decide +kernel
theorem dX6_count_15 : decode cX6_count 15 = .ok (.aload_n 0, 1) := by decide +kernel
theorem dX6_count_16 : decode cX6_count 16 = .ok (.iload_n 1, 1) := by decide +kernel
theorem dX6_count_17 : decode cX6_count 17 = .ok (.invokevirtual 179, 3) := by decide +kernel
theorem dX6_count_20 : decode cX6_count 20 = .ok (.goto 8, 3) := by decide +kernel
theorem dX6_count_23 : decode cX6_count 23 = .ok (.aload_n 0, 1) := by decide +kernel
theorem dX6_count_24 : decode cX6_count 24 = .ok (.iconst 1, 1) := by decide +kernel
theorem dX6_count_25 : decode cX6_count 25 = .ok (.invokevirtual 139, 3) := by decide +kernel
theorem dX6_count_28 : decode cX6_count 28 = .ok (.ireturn, 1) := by decide +kernel
set_option maxRecDepth 20000 in
theorem ggX6_setting_X6_in : GoodIn wsX6_setting wsX6_in := goodIn_r _ [6] (by decide +kernel) (by decide +kernel)
set_option maxRecDepth 20000 in
theorem gX6_setting_X6_in : GoodIn wsX6_setting (va_wsS RX6 53 yX6_in wsX6_in) := goodIn_app (goodIn_of _ (by decide +kernel)) ggX6_setting_X6_in
set_option maxRecDepth 20000 in
theorem ggX6_setting_X6_fails : GoodIn wsX6_setting wsX6_fails := goodIn_r _ [10, 1, 11, 12, 13, 14, 15, 16, 17, 18, 19, 20, 21, 22, 23, 24, 25, 26, 27, 28, 29, 30, 31] (by decide +kernel) (by decide +kernel)
set_option maxRecDepth 20000 in
theorem gX6_setting_X6_fails : GoodIn wsX6_setting (wsV RX6 139 RX6 yX6_fails wsX6_fails) := goodIn_app (goodIn_of _ (by decide +kernel)) ggX6_setting_X6_fails
theorem dX6_setting_0 : decode cX6_setting 0 = .ok (.aload_n 0, 1) := by decide +kernel
theorem dX6_setting_1 : decode cX6_setting 1 = .ok (.iconst 0, 1) := by decide +kernel
theorem dX6_setting_2 : decode cX6_setting 2 = .ok (.putfield 38, 3) := by decide +kernel
theorem dX6_setting_5 : decode cX6_setting 5 = .ok (.iload_n 1, 1) := by decide +kernel
theorem dX6_setting_6 : decode cX6_setting 6 = .ok (.iconst 0, 1) := by decide +kernel
theorem dX6_setting_7 : decode cX6_setting 7 = .ok (.iconst 3, 1) := by decide +kernel
theorem dX6_setting_8 : decode cX6_setting 8 = .ok (.invokestatic 53, 3) := by decide +kernel
theorem dX6_setting_11 : decode cX6_setting 11 = .ok (.ifCond .eq 12, 3) := by decide +kernel
theorem dX6_setting_14 : decode cX6_setting 14 = .ok (.aload_n 0, 1) := by decide +kernel
theorem dX6_setting_15 : decode cX6_setting 15 = .ok (.getfield 7, 3) := by decide +kernel
theorem dX6_setting_18 : decode cX6_setting 18 = .ok (.iload_n 1, 1) := by decide +kernel
theorem dX6_setting_19 : decode cX6_setting 19 = .ok (.iaload, 1) := by decide +kernel
theorem dX6_setting_20 : decode cX6_setting 20 = .ok (.goto 8, 3) := by decide +kernel
theorem dX6_setting_23 : decode cX6_setting 23 = .ok (.aload_n 0, 1) := by decide +kernel
theorem dX6_setting_24 : decode cX6_setting 24 = .ok (.iconst 1, 1) := by decide +kernel
theorem dX6_setting_25 : decode cX6_setting 25 = .ok (.invokevirtual 139, 3) := by decide +kernel
theorem dX6_setting_28 : decode cX6_setting 28 = .ok (.ireturn, 1) := by decide +kernel
set_option maxRecDepth 20000 in
theorem ggX6_isRight_X6_right : GoodIn wsX6_isRight wsX6_right := goodIn_r _ [6, 7, 8, 9, 5, 10, 11, 12, 13, 14, 15, 16, 17, 18, 19, 20, 21, 22, 23, 24, 25, 26, 27, 28, 29, 30, 31, 32, 33, 34, 35, 36, 37, 38, 39, 40, 41, 42, 43, 44, 45, 46, 47, 48, 49, 50, 51, 52, 53, 54, 55, 56, 57, 58, 59, 60, 61, 62, 63, 64, 65, 66, 67, 68, 69, 70, 71, 72, 73, 74, 75, 76, 77, 78, 79, 80, 81, 82, 83, 84, 85, 86, 87, 88, 89, 90, 91, 92, 93, 94] (by decide +kernel) (by decide +kernel)
set_option maxRecDepth 20000 in
theorem gX6_isRight_X6_right : GoodIn wsX6_isRight (wsV RX6 182 RX6 yX6_right wsX6_right) := goodIn_app (goodIn_of _ (by decide +kernel)) ggX6_isRight_X6_right
theorem dX6_isRight_0 : decode cX6_isRight 0 = .ok (.aload_n 0, 1) := by decide +kernel
theorem dX6_isRight_1 : decode cX6_isRight 1 = .ok (.iconst 0, 1) := by decide +kernel
theorem dX6_isRight_2 : decode cX6_isRight 2 = .ok (.putfield 38, 3) := by decide +kernel
theorem dX6_isRight_5 : decode cX6_isRight 5 = .ok (.aload_n 0, 1) := by decide +kernel
theorem dX6_isRight_6 : decode cX6_isRight 6 = .ok (.invokevirtual 182, 3) := by decide +kernel
theorem dX6_isRight_9 : decode cX6_isRight 9 = .ok (.ireturn, 1) := by decide +kernel
set_option maxRecDepth 20000 in
theorem ggX6_repairs_X6_laysReading : GoodIn wsX6_repairs wsX6_laysReading := goodIn_r _ [6, 7, 8, 1, 9, 10, 11, 5, 12, 13, 14, 15, 16, 17, 18, 19, 20, 21, 22, 23, 24, 25, 26, 27, 28, 29, 30, 31, 32, 33, 34, 35, 36, 37, 38, 39, 40, 41, 42, 43, 44, 45, 46, 47, 48, 49, 50, 51, 52, 53, 54, 55, 56, 57, 58, 59, 60, 61, 62, 63, 64, 65, 66, 67, 68, 69, 70, 71, 72, 73, 74, 75, 76, 77, 78, 79, 80, 81, 82, 83, 84, 85] (by decide +kernel) (by decide +kernel)
set_option maxRecDepth 20000 in
theorem gX6_repairs_X6_laysReading : GoodIn wsX6_repairs (wsV RX6 126 RX6 yX6_laysReading wsX6_laysReading) := goodIn_app (goodIn_of _ (by decide +kernel)) ggX6_repairs_X6_laysReading
set_option maxRecDepth 20000 in
theorem ggX6_repairs_X6_isThere : GoodIn wsX6_repairs wsX6_isThere := goodIn_r _ [52, 8, 13, 65, 66, 67, 68, 69, 70, 71, 72, 73, 74, 75, 76, 77, 78, 79, 80, 81, 82, 83, 84, 85] (by decide +kernel) (by decide +kernel)
set_option maxRecDepth 20000 in
theorem gX6_repairs_X6_isThere : GoodIn wsX6_repairs (wsV RX6 105 RX6 yX6_isThere wsX6_isThere) := goodIn_app (goodIn_of _ (by decide +kernel)) ggX6_repairs_X6_isThere
set_option maxRecDepth 20000 in
theorem ggX6_repairs_X6_number : GoodIn wsX6_repairs wsX6_number := goodIn_r _ [60, 8, 15, 65, 66, 67, 68, 69, 70, 71, 72, 73, 74, 75, 76, 77, 78, 79, 80, 81, 82, 83, 84, 85] (by decide +kernel) (by decide +kernel)
set_option maxRecDepth 20000 in
theorem gX6_repairs_X6_number : GoodIn wsX6_repairs (wsV RX6 99 RX6 yX6_number wsX6_number) := goodIn_app (goodIn_of _ (by decide +kernel)) ggX6_repairs_X6_number
set_option maxRecDepth 20000 in
theorem ggX6_repairs_X6_isOdd : GoodIn wsX6_repairs wsX6_isOdd := goodIn_r _ [56, 15, 8, 57, 58, 59, 5, 60, 40, 41, 42, 65, 66, 67, 68, 69, 70, 71, 72, 73, 74, 75, 76, 77, 78, 79, 80, 81, 82, 83, 84, 85] (by decide +kernel) (by decide +kernel)
set_option maxRecDepth 20000 in
theorem gX6_repairs_X6_isOdd : GoodIn wsX6_repairs (wsV RX6 108 RX6 yX6_isOdd wsX6_isOdd) := goodIn_app (goodIn_of _ (by decide +kernel)) ggX6_repairs_X6_isOdd
theorem dX6_repairs_0 : decode cX6_repairs 0 = .ok (.aload_n 0, 1) := by decide +kernel
theorem dX6_repairs_1 : decode cX6_repairs 1 = .ok (.iconst 0, 1) := by decide +kernel
theorem dX6_repairs_2 : decode cX6_repairs 2 = .ok (.invokevirtual 126, 3) := by decide +kernel
theorem dX6_repairs_5 : decode cX6_repairs 5 = .ok (.aload_n 0, 1) := by decide +kernel
theorem dX6_repairs_6 : decode cX6_repairs 6 = .ok (.getfield 123, 3) := by decide +kernel
theorem dX6_repairs_9 : decode cX6_repairs 9 = .ok (.iconst 2, 1) := by decide +kernel
theorem dX6_repairs_10 : decode cX6_repairs 10 = .ok (.if_icmp .eq 5, 3) := by decide +kernel
theorem dX6_repairs_13 : decode cX6_repairs 13 = .ok (.iconst (-1), 1) := by decide +kernel
theorem dX6_repairs_14 : decode cX6_repairs 14 = .ok (.ireturn, 1) := by decide +kernel
theorem dX6_repairs_15 : decode cX6_repairs 15 = .ok (.iconst 0, 1) := by decide +kernel
theorem dX6_repairs_16 : decode cX6_repairs 16 = .ok (.istore_n 2, 1) := by decide +kernel
theorem dX6_repairs_17 : decode cX6_repairs 17 = .ok (.iconst 0, 1) := by decide +kernel
theorem dX6_repairs_18 : decode cX6_repairs 18 = .ok (.istore_n 3, 1) := by decide +kernel
theorem dX6_repairs_19 : decode cX6_repairs 19 = .ok (.iconst (-1), 1) := by decide +kernel
theorem dX6_repairs_20 : decode cX6_repairs 20 = .ok (.istore 4, 2) := by decide +kernel
theorem dX6_repairs_22 : decode cX6_repairs 22 = .ok (.iconst 4, 1) := by decide +kernel
theorem dX6_repairs_23 : decode cX6_repairs 23 = .ok (.istore 5, 2) := by decide +kernel
theorem dX6_repairs_25 : decode cX6_repairs 25 = .ok (.aload_n 0, 1) := by decide +kernel
theorem dX6_repairs_26 : decode cX6_repairs 26 = .ok (.iload_n 2, 1) := by decide +kernel
theorem dX6_repairs_27 : decode cX6_repairs 27 = .ok (.invokevirtual 105, 3) := by decide +kernel
theorem dX6_repairs_30 : decode cX6_repairs 30 = .ok (.ifCond .eq 87, 3) := by decide +kernel
theorem dX6_repairs_33 : decode cX6_repairs 33 = .ok (.aload_n 0, 1) := by decide +kernel
theorem dX6_repairs_34 : decode cX6_repairs 34 = .ok (.iload_n 2, 1) := by decide +kernel
theorem dX6_repairs_35 : decode cX6_repairs 35 = .ok (.invokevirtual 99, 3) := by decide +kernel
theorem dX6_repairs_38 : decode cX6_repairs 38 = .ok (.bipush 15, 2) := by decide +kernel
theorem dX6_repairs_40 : decode cX6_repairs 40 = .ok (.if_icmp .ne 11, 3) := by decide +kernel
theorem dX6_repairs_43 : decode cX6_repairs 43 = .ok (.aload_n 0, 1) := by decide +kernel
theorem dX6_repairs_44 : decode cX6_repairs 44 = .ok (.iload_n 2, 1) := by decide +kernel
theorem dX6_repairs_45 : decode cX6_repairs 45 = .ok (.invokevirtual 108, 3) := by decide +kernel
theorem dX6_repairs_48 : decode cX6_repairs 48 = .ok (.ifCond .ne 69, 3) := by decide +kernel
theorem dX6_repairs_51 : decode cX6_repairs 51 = .ok (.aload_n 0, 1) := by decide +kernel
theorem dX6_repairs_52 : decode cX6_repairs 52 = .ok (.iload_n 2, 1) := by decide +kernel
theorem dX6_repairs_53 : decode cX6_repairs 53 = .ok (.invokevirtual 108, 3) := by decide +kernel
theorem dX6_repairs_56 : decode cX6_repairs 56 = .ok (.ifCond .ne 7, 3) := by decide +kernel
theorem dX6_repairs_59 : decode cX6_repairs 59 = .ok (.iconst 1, 1) := by decide +kernel
theorem dX6_repairs_60 : decode cX6_repairs 60 = .ok (.goto 4, 3) := by decide +kernel
theorem dX6_repairs_63 : decode cX6_repairs 63 = .ok (.iconst 0, 1) := by decide +kernel
theorem dX6_repairs_64 : decode cX6_repairs 64 = .ok (.istore 6, 2) := by decide +kernel
theorem dX6_repairs_66 : decode cX6_repairs 66 = .ok (.iload_n 3, 1) := by decide +kernel
theorem dX6_repairs_67 : decode cX6_repairs 67 = .ok (.iload 6, 2) := by decide +kernel
theorem dX6_repairs_69 : decode cX6_repairs 69 = .ok (.ifCond .eq 7, 3) := by decide +kernel
theorem dX6_repairs_72 : decode cX6_repairs 72 = .ok (.iconst 1, 1) := by decide +kernel
theorem dX6_repairs_73 : decode cX6_repairs 73 = .ok (.goto 4, 3) := by decide +kernel
theorem dX6_repairs_76 : decode cX6_repairs 76 = .ok (.iconst 0, 1) := by decide +kernel
theorem dX6_repairs_77 : decode cX6_repairs 77 = .ok (.iadd, 1) := by decide +kernel
theorem dX6_repairs_78 : decode cX6_repairs 78 = .ok (.istore_n 3, 1) := by decide +kernel
theorem dX6_repairs_79 : decode cX6_repairs 79 = .ok (.iload 6, 2) := by decide +kernel
theorem dX6_repairs_81 : decode cX6_repairs 81 = .ok (.ifCond .eq 7, 3) := by decide +kernel
theorem dX6_repairs_84 : decode cX6_repairs 84 = .ok (.iload_n 2, 1) := by decide +kernel
theorem dX6_repairs_85 : decode cX6_repairs 85 = .ok (.goto 5, 3) := by decide +kernel
theorem dX6_repairs_88 : decode cX6_repairs 88 = .ok (.iload 4, 2) := by decide +kernel
theorem dX6_repairs_90 : decode cX6_repairs 90 = .ok (.istore 4, 2) := by decide +kernel
theorem dX6_repairs_92 : decode cX6_repairs 92 = .ok (.iload 5, 2) := by decide +kernel
theorem dX6_repairs_94 : decode cX6_repairs 94 = .ok (.iload 6, 2) := by decide +kernel
theorem dX6_repairs_96 : decode cX6_repairs 96 = .ok (.ifCond .eq 7, 3) := by decide +kernel
theorem dX6_repairs_99 : decode cX6_repairs 99 = .ok (.iconst 0, 1) := by decide +kernel
theorem dX6_repairs_100 : decode cX6_repairs 100 = .ok (.goto 8, 3) := by decide +kernel
theorem dX6_repairs_103 : decode cX6_repairs 103 = .ok (.aload_n 0, 1) := by decide +kernel
theorem dX6_repairs_104 : decode cX6_repairs 104 = .ok (.iload_n 2, 1) := by decide +kernel
theorem dX6_repairs_105 : decode cX6_repairs 105 = .ok (.invokevirtual 99, 3) := by decide +kernel
theorem dX6_repairs_108 : decode cX6_repairs 108 = .ok (.ixor, 1) := by decide +kernel
theorem dX6_repairs_109 : decode cX6_repairs 109 = .ok (.istore 5, 2) := by decide +kernel
theorem dX6_repairs_111 : decode cX6_repairs 111 = .ok (.iinc 2 1, 3) := by decide +kernel
theorem dX6_repairs_114 : decode cX6_repairs 114 = .ok (.goto (-89), 3) := by decide +kernel
theorem dX6_repairs_117 : decode cX6_repairs 117 = .ok (.iload_n 3, 1) := by decide +kernel
theorem dX6_repairs_118 : decode cX6_repairs 118 = .ok (.iconst 1, 1) := by decide +kernel
theorem dX6_repairs_119 : decode cX6_repairs 119 = .ok (.if_icmp .ne 23, 3) := by decide +kernel
theorem dX6_repairs_122 : decode cX6_repairs 122 = .ok (.aload_n 0, 1) := by decide +kernel
theorem dX6_repairs_123 : decode cX6_repairs 123 = .ok (.iload_n 2, 1) := by decide +kernel
theorem dX6_repairs_124 : decode cX6_repairs 124 = .ok (.iconst 1, 1) := by decide +kernel
theorem dX6_repairs_125 : decode cX6_repairs 125 = .ok (.iadd, 1) := by decide +kernel
theorem dX6_repairs_126 : decode cX6_repairs 126 = .ok (.invokevirtual 105, 3) := by decide +kernel
theorem dX6_repairs_129 : decode cX6_repairs 129 = .ok (.ifCond .eq 13, 3) := by decide +kernel
theorem dX6_repairs_132 : decode cX6_repairs 132 = .ok (.aload_n 0, 1) := by decide +kernel
theorem dX6_repairs_133 : decode cX6_repairs 133 = .ok (.iload_n 2, 1) := by decide +kernel
theorem dX6_repairs_134 : decode cX6_repairs 134 = .ok (.iconst 1, 1) := by decide +kernel
theorem dX6_repairs_135 : decode cX6_repairs 135 = .ok (.iadd, 1) := by decide +kernel
theorem dX6_repairs_136 : decode cX6_repairs 136 = .ok (.invokevirtual 108, 3) := by decide +kernel
theorem dX6_repairs_139 : decode cX6_repairs 139 = .ok (.ifCond .ne 5, 3) := by decide +kernel
theorem dX6_repairs_142 : decode cX6_repairs 142 = .ok (.iconst (-1), 1) := by decide +kernel
theorem dX6_repairs_143 : decode cX6_repairs 143 = .ok (.ireturn, 1) := by decide +kernel
theorem dX6_repairs_144 : decode cX6_repairs 144 = .ok (.iload_n 1, 1) := by decide +kernel
theorem dX6_repairs_145 : decode cX6_repairs 145 = .ok (.ifCond .ne 8, 3) := by decide +kernel
theorem dX6_repairs_148 : decode cX6_repairs 148 = .ok (.iload 4, 2) := by decide +kernel
theorem dX6_repairs_150 : decode cX6_repairs 150 = .ok (.goto 13, 3) := by decide +kernel
theorem dX6_repairs_153 : decode cX6_repairs 153 = .ok (.iload 5, 2) := by decide +kernel
theorem dX6_repairs_155 : decode cX6_repairs 155 = .ok (.aload_n 0, 1) := by decide +kernel
theorem dX6_repairs_156 : decode cX6_repairs 156 = .ok (.iload_n 2, 1) := by decide +kernel
theorem dX6_repairs_157 : decode cX6_repairs 157 = .ok (.iconst 1, 1) := by decide +kernel
theorem dX6_repairs_158 : decode cX6_repairs 158 = .ok (.iadd, 1) := by decide +kernel
theorem dX6_repairs_159 : decode cX6_repairs 159 = .ok (.invokevirtual 99, 3) := by decide +kernel
theorem dX6_repairs_162 : decode cX6_repairs 162 = .ok (.ixor, 1) := by decide +kernel
theorem dX6_repairs_163 : decode cX6_repairs 163 = .ok (.ireturn, 1) := by decide +kernel
set_option maxRecDepth 20000 in
theorem ggX6_repair_X6_in : GoodIn wsX6_repair wsX6_in := goodIn_r _ [5] (by decide +kernel) (by decide +kernel)
set_option maxRecDepth 20000 in
theorem gX6_repair_X6_in : GoodIn wsX6_repair (va_wsS RX6 53 yX6_in wsX6_in) := goodIn_app (goodIn_of _ (by decide +kernel)) ggX6_repair_X6_in
set_option maxRecDepth 20000 in
theorem ggX6_repair_X6_repairs : GoodIn wsX6_repair wsX6_repairs := goodIn_r _ [9, 10, 11, 12, 13, 4, 14, 15, 16, 17, 18, 19, 20, 21, 22, 23, 24, 25, 26, 27, 28, 29, 30, 31, 32, 33, 34, 35, 36, 37, 38, 39, 40, 41, 42, 43, 44, 45, 46, 47, 48, 49, 50, 51, 52, 53, 54, 55, 56, 57, 58, 59, 60, 61, 62, 63, 64, 65, 66, 67, 68, 69, 70, 71, 72, 77, 78, 79, 80, 81, 82, 83, 84, 85, 86, 87, 88, 89, 90, 91, 92, 93, 94, 95, 96, 97] (by decide +kernel) (by decide +kernel)
set_option maxRecDepth 20000 in
theorem gX6_repair_X6_repairs : GoodIn wsX6_repair (wsV RX6 185 RX6 yX6_repairs wsX6_repairs) := goodIn_app (goodIn_of _ (by decide +kernel)) ggX6_repair_X6_repairs
set_option maxRecDepth 20000 in
theorem ggX6_repair_X6_fails : GoodIn wsX6_repair wsX6_fails := goodIn_r _ [76, 1, 77, 78, 79, 80, 81, 82, 83, 84, 85, 86, 87, 88, 89, 90, 91, 92, 93, 94, 95, 96, 97] (by decide +kernel) (by decide +kernel)
set_option maxRecDepth 20000 in
theorem gX6_repair_X6_fails : GoodIn wsX6_repair (wsV RX6 139 RX6 yX6_fails wsX6_fails) := goodIn_app (goodIn_of _ (by decide +kernel)) ggX6_repair_X6_fails
theorem dX6_repair_0 : decode cX6_repair 0 = .ok (.aload_n 0, 1) := by decide +kernel
theorem dX6_repair_1 : decode cX6_repair 1 = .ok (.iconst 0, 1) := by decide +kernel
theorem dX6_repair_2 : decode cX6_repair 2 = .ok (.putfield 38, 3) := by decide +kernel
theorem dX6_repair_5 : decode cX6_repair 5 = .ok (.iload_n 1, 1) := by decide +kernel
theorem dX6_repair_6 : decode cX6_repair 6 = .ok (.iconst 0, 1) := by decide +kernel
theorem dX6_repair_7 : decode cX6_repair 7 = .ok (.iconst 1, 1) := by decide +kernel
theorem dX6_repair_8 : decode cX6_repair 8 = .ok (.invokestatic 53, 3) := by decide +kernel
theorem dX6_repair_11 : decode cX6_repair 11 = .ok (.ifCond .eq 11, 3) := by decide +kernel
theorem dX6_repair_14 : decode cX6_repair 14 = .ok (.aload_n 0, 1) := by decide +kernel
theorem dX6_repair_15 : decode cX6_repair 15 = .ok (.iload_n 1, 1) := by decide +kernel
theorem dX6_repair_16 : decode cX6_repair 16 = .ok (.invokevirtual 185, 3) := by decide +kernel
theorem dX6_repair_19 : decode cX6_repair 19 = .ok (.goto 8, 3) := by decide +kernel
theorem dX6_repair_22 : decode cX6_repair 22 = .ok (.aload_n 0, 1) := by decide +kernel
theorem dX6_repair_23 : decode cX6_repair 23 = .ok (.iconst 1, 1) := by decide +kernel
theorem dX6_repair_24 : decode cX6_repair 24 = .ok (.invokevirtual 139, 3) := by decide +kernel
theorem dX6_repair_27 : decode cX6_repair 27 = .ok (.ireturn, 1) := by decide +kernel
set_option maxRecDepth 20000 in
theorem ggX6_ratiosBy_X6_right : GoodIn wsX6_ratiosBy wsX6_right := goodIn_r _ [6, 7, 8, 9, 5, 10, 11, 1, 12, 13, 14, 15, 16, 17, 18, 19, 20, 21, 22, 23, 24, 25, 26, 27, 28, 29, 30, 31, 32, 33, 34, 35, 36, 37, 38, 39, 40, 41, 42, 43, 44, 45, 46, 47, 48, 49, 50, 51, 52, 53, 54, 55, 56, 57, 58, 59, 60, 61, 62, 63, 64, 65, 66, 67, 68, 69, 70, 71, 72, 73, 74, 75, 76, 77, 78, 79, 80, 81, 82, 83, 84, 85, 86, 87, 88, 89, 90, 91, 92, 93] (by decide +kernel) (by decide +kernel)
set_option maxRecDepth 20000 in
theorem gX6_ratiosBy_X6_right : GoodIn wsX6_ratiosBy (wsV RX6 182 RX6 yX6_right wsX6_right) := goodIn_app (goodIn_of _ (by decide +kernel)) ggX6_ratiosBy_X6_right
theorem dX6_ratiosBy_0 : decode cX6_ratiosBy 0 = .ok (.aload_n 0, 1) := by decide +kernel
theorem dX6_ratiosBy_1 : decode cX6_ratiosBy 1 = .ok (.getfield 7, 3) := by decide +kernel
theorem dX6_ratiosBy_4 : decode cX6_ratiosBy 4 = .ok (.iconst 1, 1) := by decide +kernel
theorem dX6_ratiosBy_5 : decode cX6_ratiosBy 5 = .ok (.iaload, 1) := by decide +kernel
theorem dX6_ratiosBy_6 : decode cX6_ratiosBy 6 = .ok (.istore_n 2, 1) := by decide +kernel
theorem dX6_ratiosBy_7 : decode cX6_ratiosBy 7 = .ok (.iconst (-1), 1) := by decide +kernel
theorem dX6_ratiosBy_8 : decode cX6_ratiosBy 8 = .ok (.istore_n 3, 1) := by decide +kernel
theorem dX6_ratiosBy_9 : decode cX6_ratiosBy 9 = .ok (.iconst (-1), 1) := by decide +kernel
theorem dX6_ratiosBy_10 : decode cX6_ratiosBy 10 = .ok (.istore 4, 2) := by decide +kernel
theorem dX6_ratiosBy_12 : decode cX6_ratiosBy 12 = .ok (.iconst 0, 1) := by decide +kernel
theorem dX6_ratiosBy_13 : decode cX6_ratiosBy 13 = .ok (.istore 5, 2) := by decide +kernel
theorem dX6_ratiosBy_15 : decode cX6_ratiosBy 15 = .ok (.bipush 50, 2) := by decide +kernel
theorem dX6_ratiosBy_17 : decode cX6_ratiosBy 17 = .ok (.istore 6, 2) := by decide +kernel
theorem dX6_ratiosBy_19 : decode cX6_ratiosBy 19 = .ok (.iload 6, 2) := by decide +kernel
theorem dX6_ratiosBy_21 : decode cX6_ratiosBy 21 = .ok (.bipush 95, 2) := by decide +kernel
theorem dX6_ratiosBy_23 : decode cX6_ratiosBy 23 = .ok (.if_icmp .gt 43, 3) := by decide +kernel
theorem dX6_ratiosBy_26 : decode cX6_ratiosBy 26 = .ok (.aload_n 0, 1) := by decide +kernel
theorem dX6_ratiosBy_27 : decode cX6_ratiosBy 27 = .ok (.getfield 7, 3) := by decide +kernel
theorem dX6_ratiosBy_30 : decode cX6_ratiosBy 30 = .ok (.iconst 1, 1) := by decide +kernel
theorem dX6_ratiosBy_31 : decode cX6_ratiosBy 31 = .ok (.iload 6, 2) := by decide +kernel
theorem dX6_ratiosBy_33 : decode cX6_ratiosBy 33 = .ok (.iastore, 1) := by decide +kernel
theorem dX6_ratiosBy_34 : decode cX6_ratiosBy 34 = .ok (.aload_n 0, 1) := by decide +kernel
theorem dX6_ratiosBy_35 : decode cX6_ratiosBy 35 = .ok (.invokevirtual 182, 3) := by decide +kernel
theorem dX6_ratiosBy_38 : decode cX6_ratiosBy 38 = .ok (.ifCond .le 22, 3) := by decide +kernel
theorem dX6_ratiosBy_41 : decode cX6_ratiosBy 41 = .ok (.iload_n 3, 1) := by decide +kernel
theorem dX6_ratiosBy_42 : decode cX6_ratiosBy 42 = .ok (.iconst (-1), 1) := by decide +kernel
theorem dX6_ratiosBy_43 : decode cX6_ratiosBy 43 = .ok (.if_icmp .ne 8, 3) := by decide +kernel
theorem dX6_ratiosBy_46 : decode cX6_ratiosBy 46 = .ok (.iload 6, 2) := by decide +kernel
theorem dX6_ratiosBy_48 : decode cX6_ratiosBy 48 = .ok (.goto 4, 3) := by decide +kernel
theorem dX6_ratiosBy_51 : decode cX6_ratiosBy 51 = .ok (.iload_n 3, 1) := by decide +kernel
theorem dX6_ratiosBy_52 : decode cX6_ratiosBy 52 = .ok (.istore_n 3, 1) := by decide +kernel
theorem dX6_ratiosBy_53 : decode cX6_ratiosBy 53 = .ok (.iload 6, 2) := by decide +kernel
theorem dX6_ratiosBy_55 : decode cX6_ratiosBy 55 = .ok (.istore 4, 2) := by decide +kernel
theorem dX6_ratiosBy_57 : decode cX6_ratiosBy 57 = .ok (.iinc 5 1, 3) := by decide +kernel
theorem dX6_ratiosBy_60 : decode cX6_ratiosBy 60 = .ok (.iinc 6 1, 3) := by decide +kernel
theorem dX6_ratiosBy_63 : decode cX6_ratiosBy 63 = .ok (.goto (-44), 3) := by decide +kernel
theorem dX6_ratiosBy_66 : decode cX6_ratiosBy 66 = .ok (.aload_n 0, 1) := by decide +kernel
theorem dX6_ratiosBy_67 : decode cX6_ratiosBy 67 = .ok (.getfield 7, 3) := by decide +kernel
theorem dX6_ratiosBy_70 : decode cX6_ratiosBy 70 = .ok (.iconst 1, 1) := by decide +kernel
theorem dX6_ratiosBy_71 : decode cX6_ratiosBy 71 = .ok (.iload_n 2, 1) := by decide +kernel
theorem dX6_ratiosBy_72 : decode cX6_ratiosBy 72 = .ok (.iastore, 1) := by decide +kernel
theorem dX6_ratiosBy_73 : decode cX6_ratiosBy 73 = .ok (.iload_n 1, 1) := by decide +kernel
theorem dX6_ratiosBy_74 : decode cX6_ratiosBy 74 = .ok (.ifCond .ne 7, 3) := by decide +kernel
theorem dX6_ratiosBy_77 : decode cX6_ratiosBy 77 = .ok (.iload_n 3, 1) := by decide +kernel
theorem dX6_ratiosBy_78 : decode cX6_ratiosBy 78 = .ok (.goto 15, 3) := by decide +kernel
theorem dX6_ratiosBy_81 : decode cX6_ratiosBy 81 = .ok (.iload_n 1, 1) := by decide +kernel
theorem dX6_ratiosBy_82 : decode cX6_ratiosBy 82 = .ok (.iconst 1, 1) := by decide +kernel
theorem dX6_ratiosBy_83 : decode cX6_ratiosBy 83 = .ok (.if_icmp .ne 8, 3) := by decide +kernel
theorem dX6_ratiosBy_86 : decode cX6_ratiosBy 86 = .ok (.iload 4, 2) := by decide +kernel
theorem dX6_ratiosBy_88 : decode cX6_ratiosBy 88 = .ok (.goto 5, 3) := by decide +kernel
theorem dX6_ratiosBy_91 : decode cX6_ratiosBy 91 = .ok (.iload 5, 2) := by decide +kernel
theorem dX6_ratiosBy_93 : decode cX6_ratiosBy 93 = .ok (.ireturn, 1) := by decide +kernel
set_option maxRecDepth 20000 in
theorem ggX6_ratios_X6_in : GoodIn wsX6_ratios wsX6_in := goodIn_r _ [5] (by decide +kernel) (by decide +kernel)
set_option maxRecDepth 20000 in
theorem gX6_ratios_X6_in : GoodIn wsX6_ratios (va_wsS RX6 53 yX6_in wsX6_in) := goodIn_app (goodIn_of _ (by decide +kernel)) ggX6_ratios_X6_in
set_option maxRecDepth 20000 in
theorem ggX6_ratios_X6_ratiosBy : GoodIn wsX6_ratios wsX6_ratiosBy := goodIn_r _ [9, 10, 11, 12, 13, 4, 14, 15, 16, 17, 18, 19, 20, 21, 22, 23, 24, 25, 26, 27, 28, 29, 30, 31, 32, 33, 34, 35, 36, 37, 38, 39, 40, 41, 42, 43, 44, 45, 46, 47, 48, 49, 50, 51, 52, 53, 54, 55, 56, 57, 58, 59, 60, 61, 62, 63, 64, 65, 66, 67, 68, 69, 70, 71, 72, 73, 74, 75, 76, 77, 78, 79, 80, 85, 86, 87, 88, 89, 90, 91, 92, 93, 94, 95, 96, 97, 98, 99, 100, 101, 102, 103, 104, 105] (by decide +kernel) (by decide +kernel)
set_option maxRecDepth 20000 in
theorem gX6_ratios_X6_ratiosBy : GoodIn wsX6_ratios (wsV RX6 188 RX6 yX6_ratiosBy wsX6_ratiosBy) := goodIn_app (goodIn_of _ (by decide +kernel)) ggX6_ratios_X6_ratiosBy
set_option maxRecDepth 20000 in
theorem ggX6_ratios_X6_fails : GoodIn wsX6_ratios wsX6_fails := goodIn_r _ [84, 1, 85, 86, 87, 88, 89, 90, 91, 92, 93, 94, 95, 96, 97, 98, 99, 100, 101, 102, 103, 104, 105] (by decide +kernel) (by decide +kernel)
set_option maxRecDepth 20000 in
theorem gX6_ratios_X6_fails : GoodIn wsX6_ratios (wsV RX6 139 RX6 yX6_fails wsX6_fails) := goodIn_app (goodIn_of _ (by decide +kernel)) ggX6_ratios_X6_fails
theorem dX6_ratios_0 : decode cX6_ratios 0 = .ok (.aload_n 0, 1) := by decide +kernel
theorem dX6_ratios_1 : decode cX6_ratios 1 = .ok (.iconst 0, 1) := by decide +kernel
theorem dX6_ratios_2 : decode cX6_ratios 2 = .ok (.putfield 38, 3) := by decide +kernel
theorem dX6_ratios_5 : decode cX6_ratios 5 = .ok (.iload_n 1, 1) := by decide +kernel
theorem dX6_ratios_6 : decode cX6_ratios 6 = .ok (.iconst 0, 1) := by decide +kernel
theorem dX6_ratios_7 : decode cX6_ratios 7 = .ok (.iconst 2, 1) := by decide +kernel
theorem dX6_ratios_8 : decode cX6_ratios 8 = .ok (.invokestatic 53, 3) := by decide +kernel
theorem dX6_ratios_11 : decode cX6_ratios 11 = .ok (.ifCond .eq 11, 3) := by decide +kernel
theorem dX6_ratios_14 : decode cX6_ratios 14 = .ok (.aload_n 0, 1) := by decide +kernel
theorem dX6_ratios_15 : decode cX6_ratios 15 = .ok (.iload_n 1, 1) := by decide +kernel
theorem dX6_ratios_16 : decode cX6_ratios 16 = .ok (.invokevirtual 188, 3) := by decide +kernel
theorem dX6_ratios_19 : decode cX6_ratios 19 = .ok (.goto 8, 3) := by decide +kernel
theorem dX6_ratios_22 : decode cX6_ratios 22 = .ok (.aload_n 0, 1) := by decide +kernel
theorem dX6_ratios_23 : decode cX6_ratios 23 = .ok (.iconst 1, 1) := by decide +kernel
theorem dX6_ratios_24 : decode cX6_ratios 24 = .ok (.invokevirtual 139, 3) := by decide +kernel
theorem dX6_ratios_27 : decode cX6_ratios 27 = .ok (.ireturn, 1) := by decide +kernel
set_option maxRecDepth 20000 in
theorem ggX6_mostJerk_X6_swipeMany : GoodIn wsX6_mostJerk wsX6_swipeMany := goodIn_r _ [6, 7, 8, 9, 5, 10, 1, 11, 12, 13, 14, 15, 16, 17, 18, 19, 20, 21, 22, 23, 24, 25, 26, 27, 28, 29, 30, 31, 105, 106, 107, 108, 109, 110, 111, 112, 113, 114, 115, 116, 117, 118, 119, 120, 121, 122, 123, 124, 125] (by decide +kernel) (by decide +kernel)
set_option maxRecDepth 20000 in
theorem gX6_mostJerk_X6_swipeMany : GoodIn wsX6_mostJerk (wsV RX6 148 RX6 yX6_swipeMany wsX6_swipeMany) := goodIn_app (goodIn_of _ (by decide +kernel)) ggX6_mostJerk_X6_swipeMany
set_option maxRecDepth 20000 in
theorem ggX6_mostJerk_X6_putAside : GoodIn wsX6_mostJerk wsX6_putAside := goodIn_r _ [35, 36, 1, 105, 106, 107, 108, 109, 110, 111, 112, 113, 114, 115, 116, 117, 118, 119, 120, 121, 122, 123, 124, 125] (by decide +kernel) (by decide +kernel)
set_option maxRecDepth 20000 in
theorem gX6_mostJerk_X6_putAside : GoodIn wsX6_mostJerk (wsV RX6 142 RX6 yX6_putAside wsX6_putAside) := goodIn_app (goodIn_of _ (by decide +kernel)) ggX6_mostJerk_X6_putAside
set_option maxRecDepth 20000 in
theorem ggX6_mostJerk_X6_swipes : GoodIn wsX6_mostJerk wsX6_swipes := goodIn_r _ [40, 1, 7, 8, 9, 5, 10, 11, 12, 13, 14, 15, 16, 17, 18, 19, 20, 21, 22, 23, 24, 25, 26, 27, 28, 29, 30, 31, 105, 106, 107, 108, 109, 110, 111, 112, 113, 114, 115, 116, 117, 118, 119, 120, 121, 122, 123, 124, 125] (by decide +kernel) (by decide +kernel)
set_option maxRecDepth 20000 in
theorem gX6_mostJerk_X6_swipes : GoodIn wsX6_mostJerk (wsV RX6 157 RX6 yX6_swipes wsX6_swipes) := goodIn_app (goodIn_of _ (by decide +kernel)) ggX6_mostJerk_X6_swipes
set_option maxRecDepth 20000 in
theorem ggX6_mostJerk_X6_isAsWritten : GoodIn wsX6_mostJerk wsX6_isAsWritten := goodIn_r _ [44, 45, 1, 46, 47, 48, 49, 50, 5, 51, 52, 53, 54, 55, 56, 57, 58, 59, 60, 61, 62, 63, 64, 65, 66, 67, 68, 69, 70, 71, 72, 73, 74, 75, 76, 77, 78, 79, 80, 26, 27, 28, 29, 30, 31, 81, 82, 83, 84, 85, 86, 87, 88, 89, 90, 91, 92, 93, 94, 95, 96, 97, 98, 99, 100, 105, 106, 107, 108, 109, 110, 111, 112, 113, 114, 115, 116, 117, 118, 119, 120, 121, 122, 123, 124, 125] (by decide +kernel) (by decide +kernel)
set_option maxRecDepth 20000 in
theorem gX6_mostJerk_X6_isAsWritten : GoodIn wsX6_mostJerk (wsV RX6 129 RX6 yX6_isAsWritten wsX6_isAsWritten) := goodIn_app (goodIn_of _ (by decide +kernel)) ggX6_mostJerk_X6_isAsWritten
set_option maxRecDepth 20000 in
theorem ggX6_mostJerk_X6_takeBack : GoodIn wsX6_mostJerk wsX6_takeBack := goodIn_r _ [104, 1, 36, 105, 106, 107, 108, 109, 110, 111, 112, 113, 114, 115, 116, 117, 118, 119, 120, 121, 122, 123, 124, 125] (by decide +kernel) (by decide +kernel)
set_option maxRecDepth 20000 in
theorem gX6_mostJerk_X6_takeBack : GoodIn wsX6_mostJerk (wsV RX6 151 RX6 yX6_takeBack wsX6_takeBack) := goodIn_app (goodIn_of _ (by decide +kernel)) ggX6_mostJerk_X6_takeBack
theorem dX6_mostJerk_0 : decode cX6_mostJerk 0 = .ok (.aload_n 0, 1) := by decide +kernel
theorem dX6_mostJerk_1 : decode cX6_mostJerk 1 = .ok (.getfield 7, 3) := by decide +kernel
theorem dX6_mostJerk_4 : decode cX6_mostJerk 4 = .ok (.iconst 5, 1) := by decide +kernel
theorem dX6_mostJerk_5 : decode cX6_mostJerk 5 = .ok (.iaload, 1) := by decide +kernel
theorem dX6_mostJerk_6 : decode cX6_mostJerk 6 = .ok (.ifCond .eq 13, 3) := by decide +kernel
theorem dX6_mostJerk_9 : decode cX6_mostJerk 9 = .ok (.aload_n 0, 1) := by decide +kernel
theorem dX6_mostJerk_10 : decode cX6_mostJerk 10 = .ok (.invokevirtual 148, 3) := by decide +kernel
theorem dX6_mostJerk_13 : decode cX6_mostJerk 13 = .ok (.sipush 200, 3) := by decide +kernel
theorem dX6_mostJerk_16 : decode cX6_mostJerk 16 = .ok (.if_icmp .le 5, 3) := by decide +kernel
theorem dX6_mostJerk_19 : decode cX6_mostJerk 19 = .ok (.iconst (-1), 1) := by decide +kernel
theorem dX6_mostJerk_20 : decode cX6_mostJerk 20 = .ok (.ireturn, 1) := by decide +kernel
theorem dX6_mostJerk_21 : decode cX6_mostJerk 21 = .ok (.bipush 40, 2) := by decide +kernel
theorem dX6_mostJerk_23 : decode cX6_mostJerk 23 = .ok (.istore_n 1, 1) := by decide +kernel
theorem dX6_mostJerk_24 : decode cX6_mostJerk 24 = .ok (.iconst 0, 1) := by decide +kernel
theorem dX6_mostJerk_25 : decode cX6_mostJerk 25 = .ok (.istore_n 2, 1) := by decide +kernel
theorem dX6_mostJerk_26 : decode cX6_mostJerk 26 = .ok (.aload_n 0, 1) := by decide +kernel
theorem dX6_mostJerk_27 : decode cX6_mostJerk 27 = .ok (.invokevirtual 142, 3) := by decide +kernel
theorem dX6_mostJerk_30 : decode cX6_mostJerk 30 = .ok (.iload_n 1, 1) := by decide +kernel
theorem dX6_mostJerk_31 : decode cX6_mostJerk 31 = .ok (.ifCond .lt 39, 3) := by decide +kernel
theorem dX6_mostJerk_34 : decode cX6_mostJerk 34 = .ok (.iload_n 2, 1) := by decide +kernel
theorem dX6_mostJerk_35 : decode cX6_mostJerk 35 = .ok (.ifCond .ne 35, 3) := by decide +kernel
theorem dX6_mostJerk_38 : decode cX6_mostJerk 38 = .ok (.aload_n 0, 1) := by decide +kernel
theorem dX6_mostJerk_39 : decode cX6_mostJerk 39 = .ok (.getfield 7, 3) := by decide +kernel
theorem dX6_mostJerk_42 : decode cX6_mostJerk 42 = .ok (.iconst 3, 1) := by decide +kernel
theorem dX6_mostJerk_43 : decode cX6_mostJerk 43 = .ok (.iload_n 1, 1) := by decide +kernel
theorem dX6_mostJerk_44 : decode cX6_mostJerk 44 = .ok (.iastore, 1) := by decide +kernel
theorem dX6_mostJerk_45 : decode cX6_mostJerk 45 = .ok (.aload_n 0, 1) := by decide +kernel
theorem dX6_mostJerk_46 : decode cX6_mostJerk 46 = .ok (.invokevirtual 157, 3) := by decide +kernel
theorem dX6_mostJerk_49 : decode cX6_mostJerk 49 = .ok (.aload_n 0, 1) := by decide +kernel
theorem dX6_mostJerk_50 : decode cX6_mostJerk 50 = .ok (.iconst 0, 1) := by decide +kernel
theorem dX6_mostJerk_51 : decode cX6_mostJerk 51 = .ok (.invokevirtual 129, 3) := by decide +kernel
theorem dX6_mostJerk_54 : decode cX6_mostJerk 54 = .ok (.istore_n 2, 1) := by decide +kernel
theorem dX6_mostJerk_55 : decode cX6_mostJerk 55 = .ok (.iload_n 1, 1) := by decide +kernel
theorem dX6_mostJerk_56 : decode cX6_mostJerk 56 = .ok (.iload_n 2, 1) := by decide +kernel
theorem dX6_mostJerk_57 : decode cX6_mostJerk 57 = .ok (.ifCond .eq 7, 3) := by decide +kernel
theorem dX6_mostJerk_60 : decode cX6_mostJerk 60 = .ok (.iconst 0, 1) := by decide +kernel
theorem dX6_mostJerk_61 : decode cX6_mostJerk 61 = .ok (.goto 4, 3) := by decide +kernel
theorem dX6_mostJerk_64 : decode cX6_mostJerk 64 = .ok (.iconst 1, 1) := by decide +kernel
theorem dX6_mostJerk_65 : decode cX6_mostJerk 65 = .ok (.isub, 1) := by decide +kernel
theorem dX6_mostJerk_66 : decode cX6_mostJerk 66 = .ok (.istore_n 1, 1) := by decide +kernel
theorem dX6_mostJerk_67 : decode cX6_mostJerk 67 = .ok (.goto (-37), 3) := by decide +kernel
theorem dX6_mostJerk_70 : decode cX6_mostJerk 70 = .ok (.aload_n 0, 1) := by decide +kernel
theorem dX6_mostJerk_71 : decode cX6_mostJerk 71 = .ok (.invokevirtual 151, 3) := by decide +kernel
theorem dX6_mostJerk_74 : decode cX6_mostJerk 74 = .ok (.iload_n 1, 1) := by decide +kernel
theorem dX6_mostJerk_75 : decode cX6_mostJerk 75 = .ok (.ireturn, 1) := by decide +kernel
set_option maxRecDepth 20000 in
theorem ggX6_greatestJerk_X6_mostJerk : GoodIn wsX6_greatestJerk wsX6_mostJerk := goodIn_r _ [6, 7, 8, 9, 10, 5, 11, 12, 13, 14, 15, 16, 17, 18, 19, 20, 21, 22, 23, 24, 25, 26, 27, 28, 29, 30, 31, 32, 33, 34, 35, 36, 37, 38, 39, 40, 41, 42, 43, 44, 45, 46, 47, 48, 49, 50, 51, 52, 53, 54, 55, 56, 57, 58, 59, 60, 61, 62, 63, 64, 65, 66, 67, 68, 69, 70, 71, 72, 73, 74, 75, 76, 77, 78, 79, 80, 81, 82, 83, 84, 85, 86, 87, 88, 89, 90, 91, 92, 93, 94, 95, 96, 97, 98, 99, 100, 101, 102, 103, 104, 105, 106, 107, 108, 109, 110, 111, 112, 113, 114, 115, 116, 117, 118, 119, 120, 121, 122, 123, 124, 125, 126, 127, 128, 129, 130] (by decide +kernel) (by decide +kernel)
set_option maxRecDepth 20000 in
theorem gX6_greatestJerk_X6_mostJerk : GoodIn wsX6_greatestJerk (wsV RX6 191 RX6 yX6_mostJerk wsX6_mostJerk) := goodIn_app (goodIn_of _ (by decide +kernel)) ggX6_greatestJerk_X6_mostJerk
theorem dX6_greatestJerk_0 : decode cX6_greatestJerk 0 = .ok (.aload_n 0, 1) := by decide +kernel
theorem dX6_greatestJerk_1 : decode cX6_greatestJerk 1 = .ok (.iconst 0, 1) := by decide +kernel
theorem dX6_greatestJerk_2 : decode cX6_greatestJerk 2 = .ok (.putfield 38, 3) := by decide +kernel
theorem dX6_greatestJerk_5 : decode cX6_greatestJerk 5 = .ok (.aload_n 0, 1) := by decide +kernel
theorem dX6_greatestJerk_6 : decode cX6_greatestJerk 6 = .ok (.invokevirtual 191, 3) := by decide +kernel
theorem dX6_greatestJerk_9 : decode cX6_greatestJerk 9 = .ok (.ireturn, 1) := by decide +kernel
set_option maxRecDepth 20000 in
theorem ggX6_share_X6_overTimes : GoodIn wsX6_share wsX6_overTimes := goodIn_r _ [6, 1, 7, 8, 9, 10, 11, 12, 13, 14, 15, 16, 17, 18, 19, 20, 21, 22, 23, 24, 25, 26, 27] (by decide +kernel) (by decide +kernel)
set_option maxRecDepth 20000 in
theorem gX6_share_X6_overTimes : GoodIn wsX6_share (wsV RX6 176 RX6 yX6_overTimes wsX6_overTimes) := goodIn_app (goodIn_of _ (by decide +kernel)) ggX6_share_X6_overTimes
theorem dX6_share_0 : decode cX6_share 0 = .ok (.aload_n 0, 1) := by decide +kernel
theorem dX6_share_1 : decode cX6_share 1 = .ok (.getfield 7, 3) := by decide +kernel
theorem dX6_share_4 : decode cX6_share 4 = .ok (.iconst 4, 1) := by decide +kernel
theorem dX6_share_5 : decode cX6_share 5 = .ok (.iaload, 1) := by decide +kernel
theorem dX6_share_6 : decode cX6_share 6 = .ok (.ifCond .ne 5, 3) := by decide +kernel
theorem dX6_share_9 : decode cX6_share 9 = .ok (.dconst 0, 1) := by decide +kernel
theorem dX6_share_10 : decode cX6_share 10 = .ok (.dreturn, 1) := by decide +kernel
theorem dX6_share_11 : decode cX6_share 11 = .ok (.aload_n 0, 1) := by decide +kernel
theorem dX6_share_12 : decode cX6_share 12 = .ok (.iconst 1, 1) := by decide +kernel
theorem dX6_share_13 : decode cX6_share 13 = .ok (.invokevirtual 176, 3) := by decide +kernel
theorem dX6_share_16 : decode cX6_share 16 = .ok (.aload_n 0, 1) := by decide +kernel
theorem dX6_share_17 : decode cX6_share 17 = .ok (.getfield 7, 3) := by decide +kernel
theorem dX6_share_20 : decode cX6_share 20 = .ok (.iconst 4, 1) := by decide +kernel
theorem dX6_share_21 : decode cX6_share 21 = .ok (.iaload, 1) := by decide +kernel
theorem dX6_share_22 : decode cX6_share 22 = .ok (.idiv, 1) := by decide +kernel
theorem dX6_share_23 : decode cX6_share 23 = .ok (.aload_n 0, 1) := by decide +kernel
theorem dX6_share_24 : decode cX6_share 24 = .ok (.getfield 7, 3) := by decide +kernel
theorem dX6_share_27 : decode cX6_share 27 = .ok (.iconst 1, 1) := by decide +kernel
theorem dX6_share_28 : decode cX6_share 28 = .ok (.iaload, 1) := by decide +kernel
theorem dX6_share_29 : decode cX6_share 29 = .ok (.imul, 1) := by decide +kernel
theorem dX6_share_30 : decode cX6_share 30 = .ok (.bipush 100, 2) := by decide +kernel
theorem dX6_share_32 : decode cX6_share 32 = .ok (.idiv, 1) := by decide +kernel
theorem dX6_share_33 : decode cX6_share 33 = .ok (.istore_n 1, 1) := by decide +kernel
theorem dX6_share_34 : decode cX6_share 34 = .ok (.iconst 0, 1) := by decide +kernel
theorem dX6_share_35 : decode cX6_share 35 = .ok (.istore_n 2, 1) := by decide +kernel
theorem dX6_share_36 : decode cX6_share 36 = .ok (.iconst 0, 1) := by decide +kernel
theorem dX6_share_37 : decode cX6_share 37 = .ok (.istore_n 3, 1) := by decide +kernel
theorem dX6_share_38 : decode cX6_share 38 = .ok (.iload_n 3, 1) := by decide +kernel
theorem dX6_share_39 : decode cX6_share 39 = .ok (.aload_n 0, 1) := by decide +kernel
theorem dX6_share_40 : decode cX6_share 40 = .ok (.getfield 7, 3) := by decide +kernel
theorem dX6_share_43 : decode cX6_share 43 = .ok (.iconst 4, 1) := by decide +kernel
theorem dX6_share_44 : decode cX6_share 44 = .ok (.iaload, 1) := by decide +kernel
theorem dX6_share_45 : decode cX6_share 45 = .ok (.if_icmp .ge 30, 3) := by decide +kernel
theorem dX6_share_48 : decode cX6_share 48 = .ok (.iload_n 2, 1) := by decide +kernel
theorem dX6_share_49 : decode cX6_share 49 = .ok (.aload_n 0, 1) := by decide +kernel
theorem dX6_share_50 : decode cX6_share 50 = .ok (.getfield 7, 3) := by decide +kernel
theorem dX6_share_53 : decode cX6_share 53 = .ok (.bipush 26, 2) := by decide +kernel
theorem dX6_share_55 : decode cX6_share 55 = .ok (.iload_n 3, 1) := by decide +kernel
theorem dX6_share_56 : decode cX6_share 56 = .ok (.iadd, 1) := by decide +kernel
theorem dX6_share_57 : decode cX6_share 57 = .ok (.iaload, 1) := by decide +kernel
theorem dX6_share_58 : decode cX6_share 58 = .ok (.iload_n 1, 1) := by decide +kernel
theorem dX6_share_59 : decode cX6_share 59 = .ok (.if_icmp .ge 7, 3) := by decide +kernel
theorem dX6_share_62 : decode cX6_share 62 = .ok (.iconst 1, 1) := by decide +kernel
theorem dX6_share_63 : decode cX6_share 63 = .ok (.goto 4, 3) := by decide +kernel
theorem dX6_share_66 : decode cX6_share 66 = .ok (.iconst 0, 1) := by decide +kernel
theorem dX6_share_67 : decode cX6_share 67 = .ok (.iadd, 1) := by decide +kernel
theorem dX6_share_68 : decode cX6_share 68 = .ok (.istore_n 2, 1) := by decide +kernel
theorem dX6_share_69 : decode cX6_share 69 = .ok (.iinc 3 1, 3) := by decide +kernel
theorem dX6_share_72 : decode cX6_share 72 = .ok (.goto (-34), 3) := by decide +kernel
theorem dX6_share_75 : decode cX6_share 75 = .ok (.iload_n 2, 1) := by decide +kernel
theorem dX6_share_76 : decode cX6_share 76 = .ok (.i2d, 1) := by decide +kernel
theorem dX6_share_77 : decode cX6_share 77 = .ok (.aload_n 0, 1) := by decide +kernel
theorem dX6_share_78 : decode cX6_share 78 = .ok (.getfield 7, 3) := by decide +kernel
theorem dX6_share_81 : decode cX6_share 81 = .ok (.iconst 4, 1) := by decide +kernel
theorem dX6_share_82 : decode cX6_share 82 = .ok (.iaload, 1) := by decide +kernel
theorem dX6_share_83 : decode cX6_share 83 = .ok (.i2d, 1) := by decide +kernel
theorem dX6_share_84 : decode cX6_share 84 = .ok (.ddiv, 1) := by decide +kernel
theorem dX6_share_85 : decode cX6_share 85 = .ok (.dreturn, 1) := by decide +kernel
set_option maxRecDepth 20000 in
theorem ggX6_shortShare_X6_share : GoodIn wsX6_shortShare wsX6_share := goodIn_r _ [6, 7, 8, 9, 10, 5, 11, 12, 13, 14, 15, 16, 17, 18, 19, 20, 21, 22, 23, 24, 25, 26, 27, 28, 29, 30, 31, 32] (by decide +kernel) (by decide +kernel)
set_option maxRecDepth 20000 in
theorem gX6_shortShare_X6_share : GoodIn wsX6_shortShare (wsV RX6 194 RX6 yX6_share wsX6_share) := goodIn_app (goodIn_of _ (by decide +kernel)) ggX6_shortShare_X6_share
theorem dX6_shortShare_0 : decode cX6_shortShare 0 = .ok (.aload_n 0, 1) := by decide +kernel
theorem dX6_shortShare_1 : decode cX6_shortShare 1 = .ok (.iconst 0, 1) := by decide +kernel
theorem dX6_shortShare_2 : decode cX6_shortShare 2 = .ok (.putfield 38, 3) := by decide +kernel
theorem dX6_shortShare_5 : decode cX6_shortShare 5 = .ok (.aload_n 0, 1) := by decide +kernel
theorem dX6_shortShare_6 : decode cX6_shortShare 6 = .ok (.invokevirtual 194, 3) := by decide +kernel
theorem dX6_shortShare_9 : decode cX6_shortShare 9 = .ok (.dreturn, 1) := by decide +kernel
theorem dX6_hashes_0 : decode cX6_hashes 0 = .ok (.aload_n 0, 1) := by decide +kernel
theorem dX6_hashes_1 : decode cX6_hashes 1 = .ok (.ldc2_w 198, 3) := by decide +kernel
theorem dX6_hashes_4 : decode cX6_hashes 4 = .ok (.aload_n 0, 1) := by decide +kernel
theorem dX6_hashes_5 : decode cX6_hashes 5 = .ok (.getfield 200, 3) := by decide +kernel
theorem dX6_hashes_8 : decode cX6_hashes 8 = .ok (.lmul, 1) := by decide +kernel
theorem dX6_hashes_9 : decode cX6_hashes 9 = .ok (.lload_n 1, 1) := by decide +kernel
theorem dX6_hashes_10 : decode cX6_hashes 10 = .ok (.ladd, 1) := by decide +kernel
theorem dX6_hashes_11 : decode cX6_hashes 11 = .ok (.putfield 200, 3) := by decide +kernel
theorem dX6_hashes_14 : decode cX6_hashes 14 = .ok (.return_, 1) := by decide +kernel
set_option maxRecDepth 20000 in
theorem ggX6_hashesReading_X6_laysReading : GoodIn wsX6_hashesReading wsX6_laysReading := goodIn_r _ [9, 10, 11, 12, 13, 14, 15, 8, 16, 1, 17, 2, 18, 19, 20, 21, 22, 23, 24, 25, 26, 27, 28, 29, 30, 31, 32, 33, 34, 35, 36, 37, 38, 39, 40, 41, 42, 43, 44, 45, 46, 47, 48, 3, 4, 49, 50, 51, 52, 53, 54, 55, 56, 57, 58, 59, 60, 61, 62, 63, 64, 75, 76, 77, 78, 79, 80, 81, 82, 83, 84, 85, 86, 87, 88, 89, 90, 91, 92, 93, 94, 95] (by decide +kernel) (by decide +kernel)
set_option maxRecDepth 20000 in
theorem gX6_hashesReading_X6_laysReading : GoodIn wsX6_hashesReading (wsV RX6 126 RX6 yX6_laysReading wsX6_laysReading) := goodIn_app (goodIn_of _ (by decide +kernel)) ggX6_hashesReading_X6_laysReading
set_option maxRecDepth 20000 in
theorem ggX6_hashesReading_X6_tellsReading : GoodIn wsX6_hashesReading wsX6_tellsReading := goodIn_r _ [68, 12, 1, 11, 3, 18, 75, 76, 77, 78, 79, 80, 81, 82, 83, 84, 85, 86, 87, 88, 89, 90, 91, 92, 93, 94, 95] (by decide +kernel) (by decide +kernel)
set_option maxRecDepth 20000 in
theorem gX6_hashesReading_X6_tellsReading : GoodIn wsX6_hashesReading (wsV RX6 173 RX6 yX6_tellsReading wsX6_tellsReading) := goodIn_app (goodIn_of _ (by decide +kernel)) ggX6_hashesReading_X6_tellsReading
set_option maxRecDepth 20000 in
theorem ggX6_hashesReading_X6_hashes : GoodIn wsX6_hashesReading wsX6_hashes := goodIn_r _ [72, 73, 74, 75, 76, 77, 78, 79, 80, 81, 82, 83, 84, 85, 86, 87, 88, 89, 90, 91, 92, 93, 94, 95] (by decide +kernel) (by decide +kernel)
set_option maxRecDepth 20000 in
theorem gX6_hashesReading_X6_hashes : GoodIn wsX6_hashesReading (wsV RX6 204 RX6 yX6_hashes wsX6_hashes) := goodIn_app (goodIn_of _ (by decide +kernel)) ggX6_hashesReading_X6_hashes
theorem dX6_hashesReading_0 : decode cX6_hashesReading 0 = .ok (.aload_n 0, 1) := by decide +kernel
theorem dX6_hashesReading_1 : decode cX6_hashesReading 1 = .ok (.iload_n 1, 1) := by decide +kernel
theorem dX6_hashesReading_2 : decode cX6_hashesReading 2 = .ok (.invokevirtual 126, 3) := by decide +kernel
theorem dX6_hashesReading_5 : decode cX6_hashesReading 5 = .ok (.iconst 0, 1) := by decide +kernel
theorem dX6_hashesReading_6 : decode cX6_hashesReading 6 = .ok (.istore_n 2, 1) := by decide +kernel
theorem dX6_hashesReading_7 : decode cX6_hashesReading 7 = .ok (.iload_n 2, 1) := by decide +kernel
theorem dX6_hashesReading_8 : decode cX6_hashesReading 8 = .ok (.iconst 5, 1) := by decide +kernel
theorem dX6_hashesReading_9 : decode cX6_hashesReading 9 = .ok (.if_icmp .ge 19, 3) := by decide +kernel
theorem dX6_hashesReading_12 : decode cX6_hashesReading 12 = .ok (.aload_n 0, 1) := by decide +kernel
theorem dX6_hashesReading_13 : decode cX6_hashesReading 13 = .ok (.aload_n 0, 1) := by decide +kernel
theorem dX6_hashesReading_14 : decode cX6_hashesReading 14 = .ok (.iload_n 2, 1) := by decide +kernel
theorem dX6_hashesReading_15 : decode cX6_hashesReading 15 = .ok (.invokevirtual 173, 3) := by decide +kernel
theorem dX6_hashesReading_18 : decode cX6_hashesReading 18 = .ok (.i2l, 1) := by decide +kernel
theorem dX6_hashesReading_19 : decode cX6_hashesReading 19 = .ok (.invokevirtual 204, 3) := by decide +kernel
theorem dX6_hashesReading_22 : decode cX6_hashesReading 22 = .ok (.iinc 2 1, 3) := by decide +kernel
theorem dX6_hashesReading_25 : decode cX6_hashesReading 25 = .ok (.goto (-18), 3) := by decide +kernel
theorem dX6_hashesReading_28 : decode cX6_hashesReading 28 = .ok (.iconst 0, 1) := by decide +kernel
theorem dX6_hashesReading_29 : decode cX6_hashesReading 29 = .ok (.istore_n 2, 1) := by decide +kernel
theorem dX6_hashesReading_30 : decode cX6_hashesReading 30 = .ok (.iload_n 2, 1) := by decide +kernel
theorem dX6_hashesReading_31 : decode cX6_hashesReading 31 = .ok (.aload_n 0, 1) := by decide +kernel
theorem dX6_hashesReading_32 : decode cX6_hashesReading 32 = .ok (.getfield 81, 3) := by decide +kernel
theorem dX6_hashesReading_35 : decode cX6_hashesReading 35 = .ok (.if_icmp .ge 20, 3) := by decide +kernel
theorem dX6_hashesReading_38 : decode cX6_hashesReading 38 = .ok (.aload_n 0, 1) := by decide +kernel
theorem dX6_hashesReading_39 : decode cX6_hashesReading 39 = .ok (.aload_n 0, 1) := by decide +kernel
theorem dX6_hashesReading_40 : decode cX6_hashesReading 40 = .ok (.getfield 29, 3) := by decide +kernel
theorem dX6_hashesReading_43 : decode cX6_hashesReading 43 = .ok (.iload_n 2, 1) := by decide +kernel
theorem dX6_hashesReading_44 : decode cX6_hashesReading 44 = .ok (.iaload, 1) := by decide +kernel
theorem dX6_hashesReading_45 : decode cX6_hashesReading 45 = .ok (.i2l, 1) := by decide +kernel
theorem dX6_hashesReading_46 : decode cX6_hashesReading 46 = .ok (.invokevirtual 204, 3) := by decide +kernel
theorem dX6_hashesReading_49 : decode cX6_hashesReading 49 = .ok (.iinc 2 1, 3) := by decide +kernel
theorem dX6_hashesReading_52 : decode cX6_hashesReading 52 = .ok (.goto (-22), 3) := by decide +kernel
theorem dX6_hashesReading_55 : decode cX6_hashesReading 55 = .ok (.iconst 0, 1) := by decide +kernel
theorem dX6_hashesReading_56 : decode cX6_hashesReading 56 = .ok (.istore_n 2, 1) := by decide +kernel
theorem dX6_hashesReading_57 : decode cX6_hashesReading 57 = .ok (.iload_n 2, 1) := by decide +kernel
theorem dX6_hashesReading_58 : decode cX6_hashesReading 58 = .ok (.aload_n 0, 1) := by decide +kernel
theorem dX6_hashesReading_59 : decode cX6_hashesReading 59 = .ok (.getfield 102, 3) := by decide +kernel
theorem dX6_hashesReading_62 : decode cX6_hashesReading 62 = .ok (.if_icmp .ge 20, 3) := by decide +kernel
theorem dX6_hashesReading_65 : decode cX6_hashesReading 65 = .ok (.aload_n 0, 1) := by decide +kernel
theorem dX6_hashesReading_66 : decode cX6_hashesReading 66 = .ok (.aload_n 0, 1) := by decide +kernel
theorem dX6_hashesReading_67 : decode cX6_hashesReading 67 = .ok (.getfield 32, 3) := by decide +kernel
theorem dX6_hashesReading_70 : decode cX6_hashesReading 70 = .ok (.iload_n 2, 1) := by decide +kernel
theorem dX6_hashesReading_71 : decode cX6_hashesReading 71 = .ok (.iaload, 1) := by decide +kernel
theorem dX6_hashesReading_72 : decode cX6_hashesReading 72 = .ok (.i2l, 1) := by decide +kernel
theorem dX6_hashesReading_73 : decode cX6_hashesReading 73 = .ok (.invokevirtual 204, 3) := by decide +kernel
theorem dX6_hashesReading_76 : decode cX6_hashesReading 76 = .ok (.iinc 2 1, 3) := by decide +kernel
theorem dX6_hashesReading_79 : decode cX6_hashesReading 79 = .ok (.goto (-22), 3) := by decide +kernel
theorem dX6_hashesReading_82 : decode cX6_hashesReading 82 = .ok (.return_, 1) := by decide +kernel
set_option maxRecDepth 20000 in
theorem ggX6_digest_X6_counts : GoodIn wsX6_digest wsX6_counts := goodIn_r _ [12, 4, 13, 14, 15, 16, 11, 17, 18, 19, 20, 21, 165, 166, 167, 168, 169, 170, 171, 172, 173, 174, 175, 176, 177, 178, 179, 180, 181, 182, 183, 184, 185] (by decide +kernel) (by decide +kernel)
set_option maxRecDepth 20000 in
theorem gX6_digest_X6_counts : GoodIn wsX6_digest (wsV RX6 179 RX6 yX6_counts wsX6_counts) := goodIn_app (goodIn_of _ (by decide +kernel)) ggX6_digest_X6_counts
set_option maxRecDepth 20000 in
theorem ggX6_digest_X6_hashes : GoodIn wsX6_digest wsX6_hashes := goodIn_r _ [25, 26, 3, 165, 166, 167, 168, 169, 170, 171, 172, 173, 174, 175, 176, 177, 178, 179, 180, 181, 182, 183, 184, 185] (by decide +kernel) (by decide +kernel)
set_option maxRecDepth 20000 in
theorem gX6_digest_X6_hashes : GoodIn wsX6_digest (wsV RX6 204 RX6 yX6_hashes wsX6_hashes) := goodIn_app (goodIn_of _ (by decide +kernel)) ggX6_digest_X6_hashes
set_option maxRecDepth 20000 in
theorem ggX6_digest_X6_hashesReading : GoodIn wsX6_digest wsX6_hashesReading := goodIn_r _ [30, 31, 32, 33, 34, 35, 36, 37, 11, 38, 39, 40, 41, 42, 43, 44, 45, 4, 46, 47, 48, 49, 50, 51, 52, 53, 54, 55, 56, 57, 58, 59, 60, 61, 62, 63, 64, 65, 66, 67, 68, 69, 70, 71, 72, 73, 74, 75, 76, 77, 78, 79, 80, 81, 82, 83, 84, 85, 86, 87, 88, 89, 90, 91, 92, 93, 94, 95, 96, 22, 23, 24, 25, 26, 3, 165, 166, 167, 168, 169, 170, 171, 172, 173, 174, 175, 176, 177, 178, 179, 180, 181, 182, 183, 184, 185] (by decide +kernel) (by decide +kernel)
set_option maxRecDepth 20000 in
theorem gX6_digest_X6_hashesReading : GoodIn wsX6_digest (wsV RX6 210 RX6 yX6_hashesReading wsX6_hashesReading) := goodIn_app (goodIn_of _ (by decide +kernel)) ggX6_digest_X6_hashesReading
set_option maxRecDepth 20000 in
theorem ggX6_digest_X6_right : GoodIn wsX6_digest wsX6_right := goodIn_r _ [100, 101, 102, 103, 11, 104, 41, 4, 33, 34, 35, 36, 37, 38, 39, 40, 42, 43, 44, 45, 31, 32, 46, 47, 48, 49, 50, 51, 52, 53, 54, 55, 56, 57, 58, 59, 60, 61, 62, 63, 64, 65, 66, 67, 68, 69, 70, 71, 72, 73, 74, 75, 76, 77, 78, 79, 80, 81, 82, 83, 84, 85, 86, 87, 88, 89, 90, 91, 92, 165, 166, 167, 168, 169, 170, 171, 172, 173, 174, 175, 176, 177, 178, 179, 180, 181, 182, 183, 184, 185] (by decide +kernel) (by decide +kernel)
set_option maxRecDepth 20000 in
theorem gX6_digest_X6_right : GoodIn wsX6_digest (wsV RX6 182 RX6 yX6_right wsX6_right) := goodIn_app (goodIn_of _ (by decide +kernel)) ggX6_digest_X6_right
set_option maxRecDepth 20000 in
theorem ggX6_digest_X6_repairs : GoodIn wsX6_digest wsX6_repairs := goodIn_r _ [108, 41, 35, 36, 37, 11, 38, 39, 40, 42, 43, 44, 45, 31, 4, 32, 46, 47, 48, 49, 50, 51, 52, 53, 54, 55, 56, 57, 58, 59, 60, 61, 62, 63, 64, 65, 66, 67, 68, 69, 70, 71, 72, 73, 74, 75, 76, 33, 34, 77, 78, 79, 80, 81, 82, 83, 84, 85, 86, 87, 88, 89, 90, 91, 92, 165, 166, 167, 168, 169, 170, 171, 172, 173, 174, 175, 176, 177, 178, 179, 180, 181, 182, 183, 184, 185] (by decide +kernel) (by decide +kernel)
set_option maxRecDepth 20000 in
theorem gX6_digest_X6_repairs : GoodIn wsX6_digest (wsV RX6 185 RX6 yX6_repairs wsX6_repairs) := goodIn_app (goodIn_of _ (by decide +kernel)) ggX6_digest_X6_repairs
set_option maxRecDepth 20000 in
theorem ggX6_digest_X6_ratiosBy : GoodIn wsX6_digest wsX6_ratiosBy := goodIn_r _ [112, 4, 97, 98, 99, 11, 100, 101, 102, 103, 104, 41, 33, 34, 35, 36, 37, 38, 39, 40, 42, 43, 44, 45, 31, 32, 46, 47, 48, 49, 50, 51, 52, 53, 54, 55, 56, 57, 58, 59, 60, 61, 62, 63, 64, 65, 66, 67, 68, 69, 70, 71, 72, 73, 74, 75, 76, 77, 78, 79, 80, 81, 82, 83, 84, 85, 86, 87, 88, 89, 90, 91, 92, 165, 166, 167, 168, 169, 170, 171, 172, 173, 174, 175, 176, 177, 178, 179, 180, 181, 182, 183, 184, 185] (by decide +kernel) (by decide +kernel)
set_option maxRecDepth 20000 in
theorem gX6_digest_X6_ratiosBy : GoodIn wsX6_digest (wsV RX6 188 RX6 yX6_ratiosBy wsX6_ratiosBy) := goodIn_app (goodIn_of _ (by decide +kernel)) ggX6_digest_X6_ratiosBy
set_option maxRecDepth 20000 in
theorem ggX6_digest_X6_mostJerk : GoodIn wsX6_digest wsX6_mostJerk := goodIn_r _ [116, 4, 117, 118, 119, 11, 120, 121, 122, 123, 124, 125, 126, 127, 128, 129, 130, 131, 132, 133, 134, 135, 18, 19, 20, 21, 67, 68, 69, 70, 71, 72, 136, 137, 138, 139, 140, 141, 142, 143, 144, 101, 102, 103, 104, 41, 33, 34, 35, 36, 37, 38, 39, 40, 42, 43, 44, 45, 31, 32, 46, 47, 48, 49, 50, 51, 52, 53, 54, 55, 56, 57, 58, 59, 60, 61, 62, 63, 64, 65, 66, 73, 74, 75, 76, 77, 78, 79, 80, 81, 82, 83, 84, 85, 86, 87, 88, 89, 90, 91, 92, 145, 146, 147, 148, 165, 166, 167, 168, 169, 170, 171, 172, 173, 174, 175, 176, 177, 178, 179, 180, 181, 182, 183, 184, 185] (by decide +kernel) (by decide +kernel)
set_option maxRecDepth 20000 in
theorem gX6_digest_X6_mostJerk : GoodIn wsX6_digest (wsV RX6 191 RX6 yX6_mostJerk wsX6_mostJerk) := goodIn_app (goodIn_of _ (by decide +kernel)) ggX6_digest_X6_mostJerk
set_option maxRecDepth 20000 in
theorem ggX6_digest_X6_share : GoodIn wsX6_digest wsX6_share := goodIn_r _ [152, 4, 14, 15, 16, 11, 17, 165, 166, 167, 168, 169, 170, 171, 172, 173, 174, 175, 176, 177, 178, 179, 180, 181, 182, 183, 184, 185] (by decide +kernel) (by decide +kernel)
set_option maxRecDepth 20000 in
theorem gX6_digest_X6_share : GoodIn wsX6_digest (wsV RX6 194 RX6 yX6_share wsX6_share) := goodIn_app (goodIn_of _ (by decide +kernel)) ggX6_digest_X6_share
set_option maxRecDepth 20000 in
theorem ggX6_digest_Jxe99ae_doubleToLongBits_ccdee : GoodIn wsX6_digest wsJxe99ae_doubleToLongBits_ccdee := goodIn_r _ [156, 157, 158, 159, 160, 161, 162, 163, 155, 164] (by decide +kernel) (by decide +kernel)
set_option maxRecDepth 20000 in
theorem gX6_digest_Jxe99ae_doubleToLongBits_ccdee : GoodIn wsX6_digest (va_wsS RX6 213 yJxe99ae_doubleToLongBits_ccdee wsJxe99ae_doubleToLongBits_ccdee) := goodIn_app (goodIn_of _ (by decide +kernel)) ggX6_digest_Jxe99ae_doubleToLongBits_ccdee
theorem dX6_digest_0 : decode cX6_digest 0 = .ok (.aload_n 0, 1) := by decide +kernel
theorem dX6_digest_1 : decode cX6_digest 1 = .ok (.iconst 0, 1) := by decide +kernel
theorem dX6_digest_2 : decode cX6_digest 2 = .ok (.putfield 38, 3) := by decide +kernel
theorem dX6_digest_5 : decode cX6_digest 5 = .ok (.aload_n 0, 1) := by decide +kernel
theorem dX6_digest_6 : decode cX6_digest 6 = .ok (.ldc2_w 208, 3) := by decide +kernel
theorem dX6_digest_9 : decode cX6_digest 9 = .ok (.putfield 200, 3) := by decide +kernel
theorem dX6_digest_12 : decode cX6_digest 12 = .ok (.iconst 0, 1) := by decide +kernel
theorem dX6_digest_13 : decode cX6_digest 13 = .ok (.istore_n 1, 1) := by decide +kernel
theorem dX6_digest_14 : decode cX6_digest 14 = .ok (.iload_n 1, 1) := by decide +kernel
theorem dX6_digest_15 : decode cX6_digest 15 = .ok (.bipush 7, 2) := by decide +kernel
theorem dX6_digest_17 : decode cX6_digest 17 = .ok (.if_icmp .ge 19, 3) := by decide +kernel
theorem dX6_digest_20 : decode cX6_digest 20 = .ok (.aload_n 0, 1) := by decide +kernel
theorem dX6_digest_21 : decode cX6_digest 21 = .ok (.aload_n 0, 1) := by decide +kernel
theorem dX6_digest_22 : decode cX6_digest 22 = .ok (.iload_n 1, 1) := by decide +kernel
theorem dX6_digest_23 : decode cX6_digest 23 = .ok (.invokevirtual 179, 3) := by decide +kernel
theorem dX6_digest_26 : decode cX6_digest 26 = .ok (.i2l, 1) := by decide +kernel
theorem dX6_digest_27 : decode cX6_digest 27 = .ok (.invokevirtual 204, 3) := by decide +kernel
theorem dX6_digest_30 : decode cX6_digest 30 = .ok (.iinc 1 1, 3) := by decide +kernel
theorem dX6_digest_33 : decode cX6_digest 33 = .ok (.goto (-19), 3) := by decide +kernel
theorem dX6_digest_36 : decode cX6_digest 36 = .ok (.iconst 0, 1) := by decide +kernel
theorem dX6_digest_37 : decode cX6_digest 37 = .ok (.istore_n 1, 1) := by decide +kernel
theorem dX6_digest_38 : decode cX6_digest 38 = .ok (.iload_n 1, 1) := by decide +kernel
theorem dX6_digest_39 : decode cX6_digest 39 = .ok (.iconst 4, 1) := by decide +kernel
theorem dX6_digest_40 : decode cX6_digest 40 = .ok (.if_icmp .ge 20, 3) := by decide +kernel
theorem dX6_digest_43 : decode cX6_digest 43 = .ok (.aload_n 0, 1) := by decide +kernel
theorem dX6_digest_44 : decode cX6_digest 44 = .ok (.aload_n 0, 1) := by decide +kernel
theorem dX6_digest_45 : decode cX6_digest 45 = .ok (.getfield 7, 3) := by decide +kernel
theorem dX6_digest_48 : decode cX6_digest 48 = .ok (.iload_n 1, 1) := by decide +kernel
theorem dX6_digest_49 : decode cX6_digest 49 = .ok (.iaload, 1) := by decide +kernel
theorem dX6_digest_50 : decode cX6_digest 50 = .ok (.i2l, 1) := by decide +kernel
theorem dX6_digest_51 : decode cX6_digest 51 = .ok (.invokevirtual 204, 3) := by decide +kernel
theorem dX6_digest_54 : decode cX6_digest 54 = .ok (.iinc 1 1, 3) := by decide +kernel
theorem dX6_digest_57 : decode cX6_digest 57 = .ok (.goto (-19), 3) := by decide +kernel
theorem dX6_digest_60 : decode cX6_digest 60 = .ok (.iconst 0, 1) := by decide +kernel
theorem dX6_digest_61 : decode cX6_digest 61 = .ok (.istore_n 1, 1) := by decide +kernel
theorem dX6_digest_62 : decode cX6_digest 62 = .ok (.iload_n 1, 1) := by decide +kernel
theorem dX6_digest_63 : decode cX6_digest 63 = .ok (.aload_n 0, 1) := by decide +kernel
theorem dX6_digest_64 : decode cX6_digest 64 = .ok (.getfield 7, 3) := by decide +kernel
theorem dX6_digest_67 : decode cX6_digest 67 = .ok (.iconst 4, 1) := by decide +kernel
theorem dX6_digest_68 : decode cX6_digest 68 = .ok (.iaload, 1) := by decide +kernel
theorem dX6_digest_69 : decode cX6_digest 69 = .ok (.if_icmp .ge 23, 3) := by decide +kernel
theorem dX6_digest_72 : decode cX6_digest 72 = .ok (.aload_n 0, 1) := by decide +kernel
theorem dX6_digest_73 : decode cX6_digest 73 = .ok (.aload_n 0, 1) := by decide +kernel
theorem dX6_digest_74 : decode cX6_digest 74 = .ok (.getfield 7, 3) := by decide +kernel
theorem dX6_digest_77 : decode cX6_digest 77 = .ok (.bipush 26, 2) := by decide +kernel
theorem dX6_digest_79 : decode cX6_digest 79 = .ok (.iload_n 1, 1) := by decide +kernel
theorem dX6_digest_80 : decode cX6_digest 80 = .ok (.iadd, 1) := by decide +kernel
theorem dX6_digest_81 : decode cX6_digest 81 = .ok (.iaload, 1) := by decide +kernel
theorem dX6_digest_82 : decode cX6_digest 82 = .ok (.i2l, 1) := by decide +kernel
theorem dX6_digest_83 : decode cX6_digest 83 = .ok (.invokevirtual 204, 3) := by decide +kernel
theorem dX6_digest_86 : decode cX6_digest 86 = .ok (.iinc 1 1, 3) := by decide +kernel
theorem dX6_digest_89 : decode cX6_digest 89 = .ok (.goto (-27), 3) := by decide +kernel
theorem dX6_digest_92 : decode cX6_digest 92 = .ok (.iconst 0, 1) := by decide +kernel
theorem dX6_digest_93 : decode cX6_digest 93 = .ok (.istore_n 1, 1) := by decide +kernel
theorem dX6_digest_94 : decode cX6_digest 94 = .ok (.iload_n 1, 1) := by decide +kernel
theorem dX6_digest_95 : decode cX6_digest 95 = .ok (.aload_n 0, 1) := by decide +kernel
theorem dX6_digest_96 : decode cX6_digest 96 = .ok (.getfield 7, 3) := by decide +kernel
theorem dX6_digest_99 : decode cX6_digest 99 = .ok (.iconst 5, 1) := by decide +kernel
theorem dX6_digest_100 : decode cX6_digest 100 = .ok (.iaload, 1) := by decide +kernel
theorem dX6_digest_101 : decode cX6_digest 101 = .ok (.if_icmp .ge 23, 3) := by decide +kernel
theorem dX6_digest_104 : decode cX6_digest 104 = .ok (.aload_n 0, 1) := by decide +kernel
theorem dX6_digest_105 : decode cX6_digest 105 = .ok (.aload_n 0, 1) := by decide +kernel
theorem dX6_digest_106 : decode cX6_digest 106 = .ok (.getfield 7, 3) := by decide +kernel
theorem dX6_digest_109 : decode cX6_digest 109 = .ok (.bipush 6, 2) := by decide +kernel
theorem dX6_digest_111 : decode cX6_digest 111 = .ok (.iload_n 1, 1) := by decide +kernel
theorem dX6_digest_112 : decode cX6_digest 112 = .ok (.iadd, 1) := by decide +kernel
theorem dX6_digest_113 : decode cX6_digest 113 = .ok (.iaload, 1) := by decide +kernel
theorem dX6_digest_114 : decode cX6_digest 114 = .ok (.i2l, 1) := by decide +kernel
theorem dX6_digest_115 : decode cX6_digest 115 = .ok (.invokevirtual 204, 3) := by decide +kernel
theorem dX6_digest_118 : decode cX6_digest 118 = .ok (.iinc 1 1, 3) := by decide +kernel
theorem dX6_digest_121 : decode cX6_digest 121 = .ok (.goto (-27), 3) := by decide +kernel
theorem dX6_digest_124 : decode cX6_digest 124 = .ok (.aload_n 0, 1) := by decide +kernel
theorem dX6_digest_125 : decode cX6_digest 125 = .ok (.iconst 0, 1) := by decide +kernel
theorem dX6_digest_126 : decode cX6_digest 126 = .ok (.invokevirtual 210, 3) := by decide +kernel
theorem dX6_digest_129 : decode cX6_digest 129 = .ok (.aload_n 0, 1) := by decide +kernel
theorem dX6_digest_130 : decode cX6_digest 130 = .ok (.iconst 1, 1) := by decide +kernel
theorem dX6_digest_131 : decode cX6_digest 131 = .ok (.invokevirtual 210, 3) := by decide +kernel
theorem dX6_digest_134 : decode cX6_digest 134 = .ok (.aload_n 0, 1) := by decide +kernel
theorem dX6_digest_135 : decode cX6_digest 135 = .ok (.aload_n 0, 1) := by decide +kernel
theorem dX6_digest_136 : decode cX6_digest 136 = .ok (.invokevirtual 182, 3) := by decide +kernel
theorem dX6_digest_139 : decode cX6_digest 139 = .ok (.i2l, 1) := by decide +kernel
theorem dX6_digest_140 : decode cX6_digest 140 = .ok (.invokevirtual 204, 3) := by decide +kernel
theorem dX6_digest_143 : decode cX6_digest 143 = .ok (.aload_n 0, 1) := by decide +kernel
theorem dX6_digest_144 : decode cX6_digest 144 = .ok (.aload_n 0, 1) := by decide +kernel
theorem dX6_digest_145 : decode cX6_digest 145 = .ok (.iconst 0, 1) := by decide +kernel
theorem dX6_digest_146 : decode cX6_digest 146 = .ok (.invokevirtual 185, 3) := by decide +kernel
theorem dX6_digest_149 : decode cX6_digest 149 = .ok (.i2l, 1) := by decide +kernel
theorem dX6_digest_150 : decode cX6_digest 150 = .ok (.invokevirtual 204, 3) := by decide +kernel
theorem dX6_digest_153 : decode cX6_digest 153 = .ok (.aload_n 0, 1) := by decide +kernel
theorem dX6_digest_154 : decode cX6_digest 154 = .ok (.aload_n 0, 1) := by decide +kernel
theorem dX6_digest_155 : decode cX6_digest 155 = .ok (.iconst 1, 1) := by decide +kernel
theorem dX6_digest_156 : decode cX6_digest 156 = .ok (.invokevirtual 185, 3) := by decide +kernel
theorem dX6_digest_159 : decode cX6_digest 159 = .ok (.i2l, 1) := by decide +kernel
theorem dX6_digest_160 : decode cX6_digest 160 = .ok (.invokevirtual 204, 3) := by decide +kernel
theorem dX6_digest_163 : decode cX6_digest 163 = .ok (.iconst 0, 1) := by decide +kernel
theorem dX6_digest_164 : decode cX6_digest 164 = .ok (.istore_n 1, 1) := by decide +kernel
theorem dX6_digest_165 : decode cX6_digest 165 = .ok (.iload_n 1, 1) := by decide +kernel
theorem dX6_digest_166 : decode cX6_digest 166 = .ok (.iconst 3, 1) := by decide +kernel
theorem dX6_digest_167 : decode cX6_digest 167 = .ok (.if_icmp .ge 19, 3) := by decide +kernel
theorem dX6_digest_170 : decode cX6_digest 170 = .ok (.aload_n 0, 1) := by decide +kernel
theorem dX6_digest_171 : decode cX6_digest 171 = .ok (.aload_n 0, 1) := by decide +kernel
theorem dX6_digest_172 : decode cX6_digest 172 = .ok (.iload_n 1, 1) := by decide +kernel
theorem dX6_digest_173 : decode cX6_digest 173 = .ok (.invokevirtual 188, 3) := by decide +kernel
theorem dX6_digest_176 : decode cX6_digest 176 = .ok (.i2l, 1) := by decide +kernel
theorem dX6_digest_177 : decode cX6_digest 177 = .ok (.invokevirtual 204, 3) := by decide +kernel
theorem dX6_digest_180 : decode cX6_digest 180 = .ok (.iinc 1 1, 3) := by decide +kernel
theorem dX6_digest_183 : decode cX6_digest 183 = .ok (.goto (-18), 3) := by decide +kernel
theorem dX6_digest_186 : decode cX6_digest 186 = .ok (.aload_n 0, 1) := by decide +kernel
theorem dX6_digest_187 : decode cX6_digest 187 = .ok (.aload_n 0, 1) := by decide +kernel
theorem dX6_digest_188 : decode cX6_digest 188 = .ok (.invokevirtual 191, 3) := by decide +kernel
theorem dX6_digest_191 : decode cX6_digest 191 = .ok (.i2l, 1) := by decide +kernel
theorem dX6_digest_192 : decode cX6_digest 192 = .ok (.invokevirtual 204, 3) := by decide +kernel
theorem dX6_digest_195 : decode cX6_digest 195 = .ok (.aload_n 0, 1) := by decide +kernel
theorem dX6_digest_196 : decode cX6_digest 196 = .ok (.aload_n 0, 1) := by decide +kernel
theorem dX6_digest_197 : decode cX6_digest 197 = .ok (.invokevirtual 194, 3) := by decide +kernel
theorem dX6_digest_200 : decode cX6_digest 200 = .ok (.invokestatic 213, 3) := by decide +kernel
theorem dX6_digest_203 : decode cX6_digest 203 = .ok (.invokevirtual 204, 3) := by decide +kernel
theorem dX6_digest_206 : decode cX6_digest 206 = .ok (.aload_n 0, 1) := by decide +kernel
theorem dX6_digest_207 : decode cX6_digest 207 = .ok (.aload_n 0, 1) := by decide +kernel
theorem dX6_digest_208 : decode cX6_digest 208 = .ok (.getfield 22, 3) := by decide +kernel
theorem dX6_digest_211 : decode cX6_digest 211 = .ok (.iconst 0, 1) := by decide +kernel
theorem dX6_digest_212 : decode cX6_digest 212 = .ok (.baload, 1) := by decide +kernel
theorem dX6_digest_213 : decode cX6_digest 213 = .ok (.ifCond .eq 7, 3) := by decide +kernel
theorem dX6_digest_216 : decode cX6_digest 216 = .ok (.lconst 1, 1) := by decide +kernel
theorem dX6_digest_217 : decode cX6_digest 217 = .ok (.goto 4, 3) := by decide +kernel
theorem dX6_digest_220 : decode cX6_digest 220 = .ok (.lconst 0, 1) := by decide +kernel
theorem dX6_digest_221 : decode cX6_digest 221 = .ok (.invokevirtual 204, 3) := by decide +kernel
theorem dX6_digest_224 : decode cX6_digest 224 = .ok (.aload_n 0, 1) := by decide +kernel
theorem dX6_digest_225 : decode cX6_digest 225 = .ok (.aload_n 0, 1) := by decide +kernel
theorem dX6_digest_226 : decode cX6_digest 226 = .ok (.getfield 22, 3) := by decide +kernel
theorem dX6_digest_229 : decode cX6_digest 229 = .ok (.iconst 1, 1) := by decide +kernel
theorem dX6_digest_230 : decode cX6_digest 230 = .ok (.baload, 1) := by decide +kernel
theorem dX6_digest_231 : decode cX6_digest 231 = .ok (.ifCond .eq 7, 3) := by decide +kernel
theorem dX6_digest_234 : decode cX6_digest 234 = .ok (.lconst 1, 1) := by decide +kernel
theorem dX6_digest_235 : decode cX6_digest 235 = .ok (.goto 4, 3) := by decide +kernel
theorem dX6_digest_238 : decode cX6_digest 238 = .ok (.lconst 0, 1) := by decide +kernel
theorem dX6_digest_239 : decode cX6_digest 239 = .ok (.invokevirtual 204, 3) := by decide +kernel
theorem dX6_digest_242 : decode cX6_digest 242 = .ok (.aload_n 0, 1) := by decide +kernel
theorem dX6_digest_243 : decode cX6_digest 243 = .ok (.aload_n 0, 1) := by decide +kernel
theorem dX6_digest_244 : decode cX6_digest 244 = .ok (.getfield 136, 3) := by decide +kernel
theorem dX6_digest_247 : decode cX6_digest 247 = .ok (.i2l, 1) := by decide +kernel
theorem dX6_digest_248 : decode cX6_digest 248 = .ok (.invokevirtual 204, 3) := by decide +kernel
theorem dX6_digest_251 : decode cX6_digest 251 = .ok (.iconst 0, 1) := by decide +kernel
theorem dX6_digest_252 : decode cX6_digest 252 = .ok (.istore_n 1, 1) := by decide +kernel
theorem dX6_digest_253 : decode cX6_digest 253 = .ok (.iload_n 1, 1) := by decide +kernel
theorem dX6_digest_254 : decode cX6_digest 254 = .ok (.aload_n 0, 1) := by decide +kernel
theorem dX6_digest_255 : decode cX6_digest 255 = .ok (.getfield 136, 3) := by decide +kernel
theorem dX6_digest_258 : decode cX6_digest 258 = .ok (.if_icmp .ge 20, 3) := by decide +kernel
theorem dX6_digest_261 : decode cX6_digest 261 = .ok (.aload_n 0, 1) := by decide +kernel
theorem dX6_digest_262 : decode cX6_digest 262 = .ok (.aload_n 0, 1) := by decide +kernel
theorem dX6_digest_263 : decode cX6_digest 263 = .ok (.getfield 26, 3) := by decide +kernel
theorem dX6_digest_266 : decode cX6_digest 266 = .ok (.iload_n 1, 1) := by decide +kernel
theorem dX6_digest_267 : decode cX6_digest 267 = .ok (.iaload, 1) := by decide +kernel
theorem dX6_digest_268 : decode cX6_digest 268 = .ok (.i2l, 1) := by decide +kernel
theorem dX6_digest_269 : decode cX6_digest 269 = .ok (.invokevirtual 204, 3) := by decide +kernel
theorem dX6_digest_272 : decode cX6_digest 272 = .ok (.iinc 1 1, 3) := by decide +kernel
theorem dX6_digest_275 : decode cX6_digest 275 = .ok (.goto (-22), 3) := by decide +kernel
theorem dX6_digest_278 : decode cX6_digest 278 = .ok (.aload_n 0, 1) := by decide +kernel
theorem dX6_digest_279 : decode cX6_digest 279 = .ok (.getfield 200, 3) := by decide +kernel
theorem dX6_digest_282 : decode cX6_digest 282 = .ok (.lreturn, 1) := by decide +kernel
