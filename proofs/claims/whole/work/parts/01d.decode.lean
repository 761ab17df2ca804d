set_option maxRecDepth 20000 in
theorem gX4_reckonLeaks_X5_number : GoodIn wsX4_reckonLeaks (wsV RX4 76 RX5 yX5_number wsX5_number) := goodIn_app (goodIn_of _ (by decide +kernel)) ggX4_reckonLeaks_X5_number
set_option maxRecDepth 20000 in
theorem ggX4_reckonLeaks_X5_leak : GoodIn wsX4_reckonLeaks wsX5_leak := goodIn_r _ [12, 13, 14, 15, 16, 17, 18, 19, 6, 20, 8, 21, 22, 23, 24, 25, 26, 27, 28, 29, 30, 31, 32, 33, 34, 35, 36, 37, 38, 39, 40, 41, 42, 43, 44, 45, 46, 55, 56, 57, 58, 59, 60, 61] (by decide +kernel) (by decide +kernel)
set_option maxRecDepth 20000 in
theorem gX4_reckonLeaks_X5_leak : GoodIn wsX4_reckonLeaks (wsV RX4 79 RX5 yX5_leak wsX5_leak) := goodIn_app (goodIn_of _ (by decide +kernel)) ggX4_reckonLeaks_X5_leak
theorem dX4_reckonLeaks_0 : decode cX4_reckonLeaks 0 = .ok (.iconst 0, 1) := by decide +kernel
theorem dX4_reckonLeaks_1 : decode cX4_reckonLeaks 1 = .ok (.istore_n 1, 1) := by decide +kernel
theorem dX4_reckonLeaks_2 : decode cX4_reckonLeaks 2 = .ok (.iload_n 1, 1) := by decide +kernel
theorem dX4_reckonLeaks_3 : decode cX4_reckonLeaks 3 = .ok (.aload_n 0, 1) := by decide +kernel
theorem dX4_reckonLeaks_4 : decode cX4_reckonLeaks 4 = .ok (.getfield 37, 3) := by decide +kernel
theorem dX4_reckonLeaks_7 : decode cX4_reckonLeaks 7 = .ok (.invokevirtual 76, 3) := by decide +kernel
theorem dX4_reckonLeaks_10 : decode cX4_reckonLeaks 10 = .ok (.if_icmp .ge 24, 3) := by decide +kernel
theorem dX4_reckonLeaks_13 : decode cX4_reckonLeaks 13 = .ok (.aload_n 0, 1) := by decide +kernel
theorem dX4_reckonLeaks_14 : decode cX4_reckonLeaks 14 = .ok (.getfield 24, 3) := by decide +kernel
theorem dX4_reckonLeaks_17 : decode cX4_reckonLeaks 17 = .ok (.iload_n 1, 1) := by decide +kernel
theorem dX4_reckonLeaks_18 : decode cX4_reckonLeaks 18 = .ok (.aload_n 0, 1) := by decide +kernel
theorem dX4_reckonLeaks_19 : decode cX4_reckonLeaks 19 = .ok (.getfield 37, 3) := by decide +kernel
theorem dX4_reckonLeaks_22 : decode cX4_reckonLeaks 22 = .ok (.iload_n 1, 1) := by decide +kernel
theorem dX4_reckonLeaks_23 : decode cX4_reckonLeaks 23 = .ok (.iconst 1, 1) := by decide +kernel
theorem dX4_reckonLeaks_24 : decode cX4_reckonLeaks 24 = .ok (.invokevirtual 79, 3) := by decide +kernel
theorem dX4_reckonLeaks_27 : decode cX4_reckonLeaks 27 = .ok (.iastore, 1) := by decide +kernel
theorem dX4_reckonLeaks_28 : decode cX4_reckonLeaks 28 = .ok (.iinc 1 1, 3) := by decide +kernel
theorem dX4_reckonLeaks_31 : decode cX4_reckonLeaks 31 = .ok (.goto (-29), 3) := by decide +kernel
theorem dX4_reckonLeaks_34 : decode cX4_reckonLeaks 34 = .ok (.return_, 1) := by decide +kernel
set_option maxRecDepth 20000 in
theorem ggX4_isExplained_X4_putTogether : GoodIn wsX4_isExplained wsX4_putTogether := goodIn_r _ [11, 1, 6, 12, 13, 14, 15, 16, 17, 18, 19, 20, 21, 22, 23, 10, 24, 25, 26, 27, 28, 29, 30, 31, 32, 33, 34, 35, 36, 37, 38, 39, 40, 41, 42, 43, 44, 45, 46] (by decide +kernel) (by decide +kernel)
set_option maxRecDepth 20000 in
theorem gX4_isExplained_X4_putTogether : GoodIn wsX4_isExplained (wsV RX4 48 RX4 yX4_putTogether wsX4_putTogether) := goodIn_app (goodIn_of _ (by decide +kernel)) ggX4_isExplained_X4_putTogether
set_option maxRecDepth 20000 in
theorem ggX4_isExplained_X5_number : GoodIn wsX4_isExplained wsX5_number := goodIn_r _ [19, 20, 40, 41, 42, 43, 44, 45, 46] (by decide +kernel) (by decide +kernel)
set_option maxRecDepth 20000 in
theorem gX4_isExplained_X5_number : GoodIn wsX4_isExplained (wsV RX4 76 RX5 yX5_number wsX5_number) := goodIn_app (goodIn_of _ (by decide +kernel)) ggX4_isExplained_X5_number
theorem dX4_isExplained_0 : decode cX4_isExplained 0 = .ok (.aload_n 0, 1) := by decide +kernel
theorem dX4_isExplained_1 : decode cX4_isExplained 1 = .ok (.iload_n 1, 1) := by decide +kernel
theorem dX4_isExplained_2 : decode cX4_isExplained 2 = .ok (.invokevirtual 48, 3) := by decide +kernel
theorem dX4_isExplained_5 : decode cX4_isExplained 5 = .ok (.aload_n 0, 1) := by decide +kernel
theorem dX4_isExplained_6 : decode cX4_isExplained 6 = .ok (.getfield 37, 3) := by decide +kernel
theorem dX4_isExplained_9 : decode cX4_isExplained 9 = .ok (.invokevirtual 76, 3) := by decide +kernel
theorem dX4_isExplained_12 : decode cX4_isExplained 12 = .ok (.istore_n 2, 1) := by decide +kernel
theorem dX4_isExplained_13 : decode cX4_isExplained 13 = .ok (.iconst 0, 1) := by decide +kernel
theorem dX4_isExplained_14 : decode cX4_isExplained 14 = .ok (.istore_n 3, 1) := by decide +kernel
theorem dX4_isExplained_15 : decode cX4_isExplained 15 = .ok (.iload_n 3, 1) := by decide +kernel
theorem dX4_isExplained_16 : decode cX4_isExplained 16 = .ok (.iload_n 2, 1) := by decide +kernel
theorem dX4_isExplained_17 : decode cX4_isExplained 17 = .ok (.if_icmp .ge 23, 3) := by decide +kernel
theorem dX4_isExplained_20 : decode cX4_isExplained 20 = .ok (.aload_n 0, 1) := by decide +kernel
theorem dX4_isExplained_21 : decode cX4_isExplained 21 = .ok (.getfield 30, 3) := by decide +kernel
theorem dX4_isExplained_24 : decode cX4_isExplained 24 = .ok (.iload_n 3, 1) := by decide +kernel
theorem dX4_isExplained_25 : decode cX4_isExplained 25 = .ok (.iconst 0, 1) := by decide +kernel
theorem dX4_isExplained_26 : decode cX4_isExplained 26 = .ok (.iastore, 1) := by decide +kernel
theorem dX4_isExplained_27 : decode cX4_isExplained 27 = .ok (.aload_n 0, 1) := by decide +kernel
theorem dX4_isExplained_28 : decode cX4_isExplained 28 = .ok (.getfield 33, 3) := by decide +kernel
theorem dX4_isExplained_31 : decode cX4_isExplained 31 = .ok (.iload_n 3, 1) := by decide +kernel
theorem dX4_isExplained_32 : decode cX4_isExplained 32 = .ok (.iconst 0, 1) := by decide +kernel
theorem dX4_isExplained_33 : decode cX4_isExplained 33 = .ok (.bastore, 1) := by decide +kernel
theorem dX4_isExplained_34 : decode cX4_isExplained 34 = .ok (.iinc 3 1, 3) := by decide +kernel
theorem dX4_isExplained_37 : decode cX4_isExplained 37 = .ok (.goto (-22), 3) := by decide +kernel
theorem dX4_isExplained_40 : decode cX4_isExplained 40 = .ok (.iconst 0, 1) := by decide +kernel
theorem dX4_isExplained_41 : decode cX4_isExplained 41 = .ok (.istore_n 3, 1) := by decide +kernel
theorem dX4_isExplained_42 : decode cX4_isExplained 42 = .ok (.iload_n 3, 1) := by decide +kernel
theorem dX4_isExplained_43 : decode cX4_isExplained 43 = .ok (.iload_n 2, 1) := by decide +kernel
theorem dX4_isExplained_44 : decode cX4_isExplained 44 = .ok (.if_icmp .ge 55, 3) := by decide +kernel
theorem dX4_isExplained_47 : decode cX4_isExplained 47 = .ok (.aload_n 0, 1) := by decide +kernel
theorem dX4_isExplained_48 : decode cX4_isExplained 48 = .ok (.getfield 24, 3) := by decide +kernel
theorem dX4_isExplained_51 : decode cX4_isExplained 51 = .ok (.iload_n 3, 1) := by decide +kernel
theorem dX4_isExplained_52 : decode cX4_isExplained 52 = .ok (.iaload, 1) := by decide +kernel
theorem dX4_isExplained_53 : decode cX4_isExplained 53 = .ok (.ldc 83, 2) := by decide +kernel
theorem dX4_isExplained_55 : decode cX4_isExplained 55 = .ok (.if_icmp .ne 18, 3) := by decide +kernel
theorem dX4_isExplained_58 : decode cX4_isExplained 58 = .ok (.aload_n 0, 1) := by decide +kernel
theorem dX4_isExplained_59 : decode cX4_isExplained 59 = .ok (.getfield 33, 3) := by decide +kernel
theorem dX4_isExplained_62 : decode cX4_isExplained 62 = .ok (.aload_n 0, 1) := by decide +kernel
theorem dX4_isExplained_63 : decode cX4_isExplained 63 = .ok (.getfield 27, 3) := by decide +kernel
theorem dX4_isExplained_66 : decode cX4_isExplained 66 = .ok (.iload_n 3, 1) := by decide +kernel
theorem dX4_isExplained_67 : decode cX4_isExplained 67 = .ok (.iaload, 1) := by decide +kernel
theorem dX4_isExplained_68 : decode cX4_isExplained 68 = .ok (.iconst 1, 1) := by decide +kernel
theorem dX4_isExplained_69 : decode cX4_isExplained 69 = .ok (.bastore, 1) := by decide +kernel
theorem dX4_isExplained_70 : decode cX4_isExplained 70 = .ok (.goto 23, 3) := by decide +kernel
theorem dX4_isExplained_73 : decode cX4_isExplained 73 = .ok (.aload_n 0, 1) := by decide +kernel
theorem dX4_isExplained_74 : decode cX4_isExplained 74 = .ok (.getfield 30, 3) := by decide +kernel
theorem dX4_isExplained_77 : decode cX4_isExplained 77 = .ok (.aload_n 0, 1) := by decide +kernel
theorem dX4_isExplained_78 : decode cX4_isExplained 78 = .ok (.getfield 27, 3) := by decide +kernel
theorem dX4_isExplained_81 : decode cX4_isExplained 81 = .ok (.iload_n 3, 1) := by decide +kernel
theorem dX4_isExplained_82 : decode cX4_isExplained 82 = .ok (.iaload, 1) := by decide +kernel
theorem dX4_isExplained_83 : decode cX4_isExplained 83 = .ok (.dup2, 1) := by decide +kernel
theorem dX4_isExplained_84 : decode cX4_isExplained 84 = .ok (.iaload, 1) := by decide +kernel
theorem dX4_isExplained_85 : decode cX4_isExplained 85 = .ok (.aload_n 0, 1) := by decide +kernel
theorem dX4_isExplained_86 : decode cX4_isExplained 86 = .ok (.getfield 24, 3) := by decide +kernel
theorem dX4_isExplained_89 : decode cX4_isExplained 89 = .ok (.iload_n 3, 1) := by decide +kernel
theorem dX4_isExplained_90 : decode cX4_isExplained 90 = .ok (.iaload, 1) := by decide +kernel
theorem dX4_isExplained_91 : decode cX4_isExplained 91 = .ok (.iadd, 1) := by decide +kernel
theorem dX4_isExplained_92 : decode cX4_isExplained 92 = .ok (.iastore, 1) := by decide +kernel
theorem dX4_isExplained_93 : decode cX4_isExplained 93 = .ok (.iinc 3 1, 3) := by decide +kernel
theorem dX4_isExplained_96 : decode cX4_isExplained 96 = .ok (.goto (-54), 3) := by decide +kernel
theorem dX4_isExplained_99 : decode cX4_isExplained 99 = .ok (.iconst 0, 1) := by decide +kernel
theorem dX4_isExplained_100 : decode cX4_isExplained 100 = .ok (.istore_n 3, 1) := by decide +kernel
theorem dX4_isExplained_101 : decode cX4_isExplained 101 = .ok (.iload_n 3, 1) := by decide +kernel
theorem dX4_isExplained_102 : decode cX4_isExplained 102 = .ok (.iload_n 2, 1) := by decide +kernel
theorem dX4_isExplained_103 : decode cX4_isExplained 103 = .ok (.if_icmp .ge 29, 3) := by decide +kernel
theorem dX4_isExplained_106 : decode cX4_isExplained 106 = .ok (.aload_n 0, 1) := by decide +kernel
theorem dX4_isExplained_107 : decode cX4_isExplained 107 = .ok (.getfield 33, 3) := by decide +kernel
theorem dX4_isExplained_110 : decode cX4_isExplained 110 = .ok (.iload_n 3, 1) := by decide +kernel
theorem dX4_isExplained_111 : decode cX4_isExplained 111 = .ok (.baload, 1) := by decide +kernel
theorem dX4_isExplained_112 : decode cX4_isExplained 112 = .ok (.ifCond .ne 14, 3) := by decide +kernel
theorem dX4_isExplained_115 : decode cX4_isExplained 115 = .ok (.aload_n 0, 1) := by decide +kernel
theorem dX4_isExplained_116 : decode cX4_isExplained 116 = .ok (.getfield 30, 3) := by decide +kernel
theorem dX4_isExplained_119 : decode cX4_isExplained 119 = .ok (.iload_n 3, 1) := by decide +kernel
theorem dX4_isExplained_120 : decode cX4_isExplained 120 = .ok (.iaload, 1) := by decide +kernel
theorem dX4_isExplained_121 : decode cX4_isExplained 121 = .ok (.ifCond .ge 5, 3) := by decide +kernel
theorem dX4_isExplained_124 : decode cX4_isExplained 124 = .ok (.iconst 0, 1) := by decide +kernel
theorem dX4_isExplained_125 : decode cX4_isExplained 125 = .ok (.ireturn, 1) := by decide +kernel
theorem dX4_isExplained_126 : decode cX4_isExplained 126 = .ok (.iinc 3 1, 3) := by decide +kernel
theorem dX4_isExplained_129 : decode cX4_isExplained 129 = .ok (.goto (-28), 3) := by decide +kernel
theorem dX4_isExplained_132 : decode cX4_isExplained 132 = .ok (.iconst 1, 1) := by decide +kernel
theorem dX4_isExplained_133 : decode cX4_isExplained 133 = .ok (.ireturn, 1) := by decide +kernel
set_option maxRecDepth 20000 in
theorem ggX4_putTogether_X5_number : GoodIn wsX4_putTogether wsX5_number := goodIn_r _ [10, 11, 32, 33, 34, 35, 36, 37, 38] (by decide +kernel) (by decide +kernel)
set_option maxRecDepth 20000 in
theorem gX4_putTogether_X5_number : GoodIn wsX4_putTogether (wsV RX4 76 RX5 yX5_number wsX5_number) := goodIn_app (goodIn_of _ (by decide +kernel)) ggX4_putTogether_X5_number
set_option maxRecDepth 20000 in
theorem ggX4_putTogether_X4_join : GoodIn wsX4_putTogether wsX4_join := goodIn_r _ [16, 17, 18, 19, 20, 21, 22, 23, 1, 2, 6, 7, 8, 9, 10, 11, 24, 25, 26, 27, 28, 29, 30, 31, 32, 33, 34, 35, 36, 37, 38] (by decide +kernel) (by decide +kernel)
set_option maxRecDepth 20000 in
theorem gX4_putTogether_X4_join : GoodIn wsX4_putTogether (wsV RX4 84 RX4 yX4_join wsX4_join) := goodIn_app (goodIn_of _ (by decide +kernel)) ggX4_putTogether_X4_join
theorem dX4_putTogether_0 : decode cX4_putTogether 0 = .ok (.iconst 0, 1) := by decide +kernel
theorem dX4_putTogether_1 : decode cX4_putTogether 1 = .ok (.istore_n 2, 1) := by decide +kernel
theorem dX4_putTogether_2 : decode cX4_putTogether 2 = .ok (.iload_n 2, 1) := by decide +kernel
theorem dX4_putTogether_3 : decode cX4_putTogether 3 = .ok (.aload_n 0, 1) := by decide +kernel
theorem dX4_putTogether_4 : decode cX4_putTogether 4 = .ok (.getfield 37, 3) := by decide +kernel
theorem dX4_putTogether_7 : decode cX4_putTogether 7 = .ok (.invokevirtual 76, 3) := by decide +kernel
theorem dX4_putTogether_10 : decode cX4_putTogether 10 = .ok (.if_icmp .ge 16, 3) := by decide +kernel
theorem dX4_putTogether_13 : decode cX4_putTogether 13 = .ok (.aload_n 0, 1) := by decide +kernel
theorem dX4_putTogether_14 : decode cX4_putTogether 14 = .ok (.getfield 27, 3) := by decide +kernel
theorem dX4_putTogether_17 : decode cX4_putTogether 17 = .ok (.iload_n 2, 1) := by decide +kernel
theorem dX4_putTogether_18 : decode cX4_putTogether 18 = .ok (.iload_n 2, 1) := by decide +kernel
theorem dX4_putTogether_19 : decode cX4_putTogether 19 = .ok (.iastore, 1) := by decide +kernel
theorem dX4_putTogether_20 : decode cX4_putTogether 20 = .ok (.iinc 2 1, 3) := by decide +kernel
theorem dX4_putTogether_23 : decode cX4_putTogether 23 = .ok (.goto (-21), 3) := by decide +kernel
theorem dX4_putTogether_26 : decode cX4_putTogether 26 = .ok (.iconst 0, 1) := by decide +kernel
theorem dX4_putTogether_27 : decode cX4_putTogether 27 = .ok (.istore_n 2, 1) := by decide +kernel
theorem dX4_putTogether_28 : decode cX4_putTogether 28 = .ok (.iload_n 2, 1) := by decide +kernel
theorem dX4_putTogether_29 : decode cX4_putTogether 29 = .ok (.aload_n 0, 1) := by decide +kernel
theorem dX4_putTogether_30 : decode cX4_putTogether 30 = .ok (.getfield 18, 3) := by decide +kernel
theorem dX4_putTogether_33 : decode cX4_putTogether 33 = .ok (.if_icmp .ge 44, 3) := by decide +kernel
theorem dX4_putTogether_36 : decode cX4_putTogether 36 = .ok (.iload_n 1, 1) := by decide +kernel
theorem dX4_putTogether_37 : decode cX4_putTogether 37 = .ok (.iload_n 2, 1) := by decide +kernel
theorem dX4_putTogether_38 : decode cX4_putTogether 38 = .ok (.ishr, 1) := by decide +kernel
theorem dX4_putTogether_39 : decode cX4_putTogether 39 = .ok (.iconst 1, 1) := by decide +kernel
theorem dX4_putTogether_40 : decode cX4_putTogether 40 = .ok (.iand, 1) := by decide +kernel
theorem dX4_putTogether_41 : decode cX4_putTogether 41 = .ok (.iconst 1, 1) := by decide +kernel
theorem dX4_putTogether_42 : decode cX4_putTogether 42 = .ok (.if_icmp .ne 29, 3) := by decide +kernel
theorem dX4_putTogether_45 : decode cX4_putTogether 45 = .ok (.aload_n 0, 1) := by decide +kernel
theorem dX4_putTogether_46 : decode cX4_putTogether 46 = .ok (.aload_n 0, 1) := by decide +kernel
theorem dX4_putTogether_47 : decode cX4_putTogether 47 = .ok (.getfield 27, 3) := by decide +kernel
theorem dX4_putTogether_50 : decode cX4_putTogether 50 = .ok (.aload_n 0, 1) := by decide +kernel
theorem dX4_putTogether_51 : decode cX4_putTogether 51 = .ok (.getfield 11, 3) := by decide +kernel
theorem dX4_putTogether_54 : decode cX4_putTogether 54 = .ok (.iload_n 2, 1) := by decide +kernel
theorem dX4_putTogether_55 : decode cX4_putTogether 55 = .ok (.iaload, 1) := by decide +kernel
theorem dX4_putTogether_56 : decode cX4_putTogether 56 = .ok (.iaload, 1) := by decide +kernel
theorem dX4_putTogether_57 : decode cX4_putTogether 57 = .ok (.aload_n 0, 1) := by decide +kernel
theorem dX4_putTogether_58 : decode cX4_putTogether 58 = .ok (.getfield 27, 3) := by decide +kernel
theorem dX4_putTogether_61 : decode cX4_putTogether 61 = .ok (.aload_n 0, 1) := by decide +kernel
theorem dX4_putTogether_62 : decode cX4_putTogether 62 = .ok (.getfield 15, 3) := by decide +kernel
theorem dX4_putTogether_65 : decode cX4_putTogether 65 = .ok (.iload_n 2, 1) := by decide +kernel
theorem dX4_putTogether_66 : decode cX4_putTogether 66 = .ok (.iaload, 1) := by decide +kernel
theorem dX4_putTogether_67 : decode cX4_putTogether 67 = .ok (.iaload, 1) := by decide +kernel
theorem dX4_putTogether_68 : decode cX4_putTogether 68 = .ok (.invokevirtual 84, 3) := by decide +kernel
theorem dX4_putTogether_71 : decode cX4_putTogether 71 = .ok (.iinc 2 1, 3) := by decide +kernel
theorem dX4_putTogether_74 : decode cX4_putTogether 74 = .ok (.goto (-46), 3) := by decide +kernel
theorem dX4_putTogether_77 : decode cX4_putTogether 77 = .ok (.return_, 1) := by decide +kernel
set_option maxRecDepth 20000 in
theorem ggX4_join_X5_number : GoodIn wsX4_join wsX5_number := goodIn_r _ [14, 15, 24, 25, 26, 27, 28, 29, 30] (by decide +kernel) (by decide +kernel)
set_option maxRecDepth 20000 in
theorem gX4_join_X5_number : GoodIn wsX4_join (wsV RX4 76 RX5 yX5_number wsX5_number) := goodIn_app (goodIn_of _ (by decide +kernel)) ggX4_join_X5_number
theorem dX4_join_0 : decode cX4_join 0 = .ok (.iload_n 1, 1) := by decide +kernel
theorem dX4_join_1 : decode cX4_join 1 = .ok (.iload_n 2, 1) := by decide +kernel
theorem dX4_join_2 : decode cX4_join 2 = .ok (.invokestatic 88, 3) := by decide +kernel
theorem dX4_join_5 : decode cX4_join 5 = .ok (.istore_n 3, 1) := by decide +kernel
theorem dX4_join_6 : decode cX4_join 6 = .ok (.iload_n 1, 1) := by decide +kernel
theorem dX4_join_7 : decode cX4_join 7 = .ok (.iload_n 2, 1) := by decide +kernel
theorem dX4_join_8 : decode cX4_join 8 = .ok (.invokestatic 93, 3) := by decide +kernel
theorem dX4_join_11 : decode cX4_join 11 = .ok (.istore 4, 2) := by decide +kernel
theorem dX4_join_13 : decode cX4_join 13 = .ok (.iconst 0, 1) := by decide +kernel
theorem dX4_join_14 : decode cX4_join 14 = .ok (.istore 5, 2) := by decide +kernel
theorem dX4_join_16 : decode cX4_join 16 = .ok (.iload 5, 2) := by decide +kernel
theorem dX4_join_18 : decode cX4_join 18 = .ok (.aload_n 0, 1) := by decide +kernel
theorem dX4_join_19 : decode cX4_join 19 = .ok (.getfield 37, 3) := by decide +kernel
theorem dX4_join_22 : decode cX4_join 22 = .ok (.invokevirtual 76, 3) := by decide +kernel
theorem dX4_join_25 : decode cX4_join 25 = .ok (.if_icmp .ge 29, 3) := by decide +kernel
theorem dX4_join_28 : decode cX4_join 28 = .ok (.aload_n 0, 1) := by decide +kernel
theorem dX4_join_29 : decode cX4_join 29 = .ok (.getfield 27, 3) := by decide +kernel
theorem dX4_join_32 : decode cX4_join 32 = .ok (.iload 5, 2) := by decide +kernel
theorem dX4_join_34 : decode cX4_join 34 = .ok (.iaload, 1) := by decide +kernel
theorem dX4_join_35 : decode cX4_join 35 = .ok (.iload 4, 2) := by decide +kernel
theorem dX4_join_37 : decode cX4_join 37 = .ok (.if_icmp .ne 11, 3) := by decide +kernel
theorem dX4_join_40 : decode cX4_join 40 = .ok (.aload_n 0, 1) := by decide +kernel
theorem dX4_join_41 : decode cX4_join 41 = .ok (.getfield 27, 3) := by decide +kernel
theorem dX4_join_44 : decode cX4_join 44 = .ok (.iload 5, 2) := by decide +kernel
theorem dX4_join_46 : decode cX4_join 46 = .ok (.iload_n 3, 1) := by decide +kernel
theorem dX4_join_47 : decode cX4_join 47 = .ok (.iastore, 1) := by decide +kernel
theorem dX4_join_48 : decode cX4_join 48 = .ok (.iinc 5 1, 3) := by decide +kernel
theorem dX4_join_51 : decode cX4_join 51 = .ok (.goto (-35), 3) := by decide +kernel
theorem dX4_join_54 : decode cX4_join 54 = .ok (.return_, 1) := by decide +kernel
theorem dX5_init_0 : decode cX5_init 0 = .ok (.aload_n 0, 1) := by decide +kernel
theorem dX5_init_1 : decode cX5_init 1 = .ok (.invokespecial 3, 3) := by decide +kernel
theorem dX5_init_4 : decode cX5_init 4 = .ok (.aload_n 0, 1) := by decide +kernel
theorem dX5_init_5 : decode cX5_init 5 = .ok (.bipush 8, 2) := by decide +kernel
theorem dX5_init_7 : decode cX5_init 7 = .ok (.newarray .int, 2) := by decide +kernel
theorem dX5_init_9 : decode cX5_init 9 = .ok (.putfield 11, 3) := by decide +kernel
theorem dX5_init_12 : decode cX5_init 12 = .ok (.aload_n 0, 1) := by decide +kernel
theorem dX5_init_13 : decode cX5_init 13 = .ok (.bipush 8, 2) := by decide +kernel
theorem dX5_init_15 : decode cX5_init 15 = .ok (.newarray .int, 2) := by decide +kernel
theorem dX5_init_17 : decode cX5_init 17 = .ok (.putfield 15, 3) := by decide +kernel
theorem dX5_init_20 : decode cX5_init 20 = .ok (.aload_n 0, 1) := by decide +kernel
theorem dX5_init_21 : decode cX5_init 21 = .ok (.bipush 8, 2) := by decide +kernel
theorem dX5_init_23 : decode cX5_init 23 = .ok (.bipush 24, 2) := by decide +kernel
theorem dX5_init_25 : decode cX5_init 25 = .ok (.multianewarray 18 2, 4) := by decide +kernel
theorem dX5_init_29 : decode cX5_init 29 = .ok (.putfield 20, 3) := by decide +kernel
theorem dX5_init_32 : decode cX5_init 32 = .ok (.aload_n 0, 1) := by decide +kernel
theorem dX5_init_33 : decode cX5_init 33 = .ok (.bipush 8, 2) := by decide +kernel
theorem dX5_init_35 : decode cX5_init 35 = .ok (.bipush 24, 2) := by decide +kernel
theorem dX5_init_37 : decode cX5_init 37 = .ok (.multianewarray 18 2, 4) := by decide +kernel
theorem dX5_init_41 : decode cX5_init 41 = .ok (.putfield 23, 3) := by decide +kernel
theorem dX5_init_44 : decode cX5_init 44 = .ok (.aload_n 0, 1) := by decide +kernel
theorem dX5_init_45 : decode cX5_init 45 = .ok (.iconst 0, 1) := by decide +kernel
theorem dX5_init_46 : decode cX5_init 46 = .ok (.putfield 26, 3) := by decide +kernel
theorem dX5_init_49 : decode cX5_init 49 = .ok (.aload_n 0, 1) := by decide +kernel
theorem dX5_init_50 : decode cX5_init 50 = .ok (.bipush 20, 2) := by decide +kernel
theorem dX5_init_52 : decode cX5_init 52 = .ok (.putfield 30, 3) := by decide +kernel
theorem dX5_init_55 : decode cX5_init 55 = .ok (.aload_n 0, 1) := by decide +kernel
theorem dX5_init_56 : decode cX5_init 56 = .ok (.iconst 2, 1) := by decide +kernel
theorem dX5_init_57 : decode cX5_init 57 = .ok (.putfield 33, 3) := by decide +kernel
theorem dX5_init_60 : decode cX5_init 60 = .ok (.return_, 1) := by decide +kernel
theorem dX5_number_0 : decode cX5_number 0 = .ok (.aload_n 0, 1) := by decide +kernel
theorem dX5_number_1 : decode cX5_number 1 = .ok (.getfield 26, 3) := by decide +kernel
theorem dX5_number_4 : decode cX5_number 4 = .ok (.ireturn, 1) := by decide +kernel
set_option maxRecDepth 20000 in
theorem ggX5_isNone_X6_outside : GoodIn wsX5_isNone wsX6_outside := goodIn_r _ [4] (by decide +kernel) (by decide +kernel)
set_option maxRecDepth 20000 in
theorem gX5_isNone_X6_outside_n36 : GoodIn wsX5_isNone (wsX6_outside) := ggX5_isNone_X6_outside
theorem dX5_isNone_0 : decode cX5_isNone 0 = .ok (.iload_n 1, 1) := by decide +kernel
theorem dX5_isNone_1 : decode cX5_isNone 1 = .ok (.iconst 0, 1) := by decide +kernel
theorem dX5_isNone_2 : decode cX5_isNone 2 = .ok (.aload_n 0, 1) := by decide +kernel
theorem dX5_isNone_3 : decode cX5_isNone 3 = .ok (.getfield 26, 3) := by decide +kernel
theorem dX5_isNone_6 : decode cX5_isNone 6 = .ok (.iconst 1, 1) := by decide +kernel
theorem dX5_isNone_7 : decode cX5_isNone 7 = .ok (.isub, 1) := by decide +kernel
theorem dX5_isNone_8 : decode cX5_isNone 8 = .ok (.invokestatic 36, 3) := by decide +kernel
theorem dX5_isNone_11 : decode cX5_isNone 11 = .ok (.ireturn, 1) := by decide +kernel
set_option maxRecDepth 20000 in
theorem ggX5_add_X6_outside : GoodIn wsX5_add wsX6_outside := goodIn_r _ [6] (by decide +kernel) (by decide +kernel)
set_option maxRecDepth 20000 in
theorem gX5_add_X6_outside_n36 : GoodIn wsX5_add (wsX6_outside) := ggX5_add_X6_outside
theorem dX5_add_0 : decode cX5_add 0 = .ok (.iload_n 1, 1) := by decide +kernel
theorem dX5_add_1 : decode cX5_add 1 = .ok (.iconst 0, 1) := by decide +kernel
theorem dX5_add_2 : decode cX5_add 2 = .ok (.sipush 5000, 3) := by decide +kernel
theorem dX5_add_5 : decode cX5_add 5 = .ok (.invokestatic 36, 3) := by decide +kernel
theorem dX5_add_8 : decode cX5_add 8 = .ok (.ifCond .ne 14, 3) := by decide +kernel
theorem dX5_add_11 : decode cX5_add 11 = .ok (.iload_n 2, 1) := by decide +kernel
theorem dX5_add_12 : decode cX5_add 12 = .ok (.iconst 0, 1) := by decide +kernel
theorem dX5_add_13 : decode cX5_add 13 = .ok (.sipush 5000, 3) := by decide +kernel
theorem dX5_add_16 : decode cX5_add 16 = .ok (.invokestatic 36, 3) := by decide +kernel
theorem dX5_add_19 : decode cX5_add 19 = .ok (.ifCond .eq 6, 3) := by decide +kernel
theorem dX5_add_22 : decode cX5_add 22 = .ok (.bipush (-2), 2) := by decide +kernel
theorem dX5_add_24 : decode cX5_add 24 = .ok (.ireturn, 1) := by decide +kernel
theorem dX5_add_25 : decode cX5_add 25 = .ok (.aload_n 0, 1) := by decide +kernel
theorem dX5_add_26 : decode cX5_add 26 = .ok (.getfield 26, 3) := by decide +kernel
theorem dX5_add_29 : decode cX5_add 29 = .ok (.bipush 8, 2) := by decide +kernel
theorem dX5_add_31 : decode cX5_add 31 = .ok (.if_icmp .lt 6, 3) := by decide +kernel
theorem dX5_add_34 : decode cX5_add 34 = .ok (.bipush (-4), 2) := by decide +kernel
theorem dX5_add_36 : decode cX5_add 36 = .ok (.ireturn, 1) := by decide +kernel
theorem dX5_add_37 : decode cX5_add 37 = .ok (.aload_n 0, 1) := by decide +kernel
theorem dX5_add_38 : decode cX5_add 38 = .ok (.getfield 11, 3) := by decide +kernel
theorem dX5_add_41 : decode cX5_add 41 = .ok (.aload_n 0, 1) := by decide +kernel
theorem dX5_add_42 : decode cX5_add 42 = .ok (.getfield 26, 3) := by decide +kernel
theorem dX5_add_45 : decode cX5_add 45 = .ok (.iload_n 1, 1) := by decide +kernel
theorem dX5_add_46 : decode cX5_add 46 = .ok (.iastore, 1) := by decide +kernel
theorem dX5_add_47 : decode cX5_add 47 = .ok (.aload_n 0, 1) := by decide +kernel
theorem dX5_add_48 : decode cX5_add 48 = .ok (.getfield 15, 3) := by decide +kernel
theorem dX5_add_51 : decode cX5_add 51 = .ok (.aload_n 0, 1) := by decide +kernel
theorem dX5_add_52 : decode cX5_add 52 = .ok (.getfield 26, 3) := by decide +kernel
theorem dX5_add_55 : decode cX5_add 55 = .ok (.iload_n 2, 1) := by decide +kernel
theorem dX5_add_56 : decode cX5_add 56 = .ok (.iastore, 1) := by decide +kernel
theorem dX5_add_57 : decode cX5_add 57 = .ok (.aload_n 0, 1) := by decide +kernel
theorem dX5_add_58 : decode cX5_add 58 = .ok (.dup, 1) := by decide +kernel
theorem dX5_add_59 : decode cX5_add 59 = .ok (.getfield 26, 3) := by decide +kernel
theorem dX5_add_62 : decode cX5_add 62 = .ok (.iconst 1, 1) := by decide +kernel
theorem dX5_add_63 : decode cX5_add 63 = .ok (.iadd, 1) := by decide +kernel
theorem dX5_add_64 : decode cX5_add 64 = .ok (.putfield 26, 3) := by decide +kernel
theorem dX5_add_67 : decode cX5_add 67 = .ok (.aload_n 0, 1) := by decide +kernel
theorem dX5_add_68 : decode cX5_add 68 = .ok (.getfield 26, 3) := by decide +kernel
theorem dX5_add_71 : decode cX5_add 71 = .ok (.iconst 1, 1) := by decide +kernel
theorem dX5_add_72 : decode cX5_add 72 = .ok (.isub, 1) := by decide +kernel
theorem dX5_add_73 : decode cX5_add 73 = .ok (.ireturn, 1) := by decide +kernel
set_option maxRecDepth 20000 in
theorem ggX5_setRules_X6_outside : GoodIn wsX5_setRules wsX6_outside := goodIn_r _ [5] (by decide +kernel) (by decide +kernel)
set_option maxRecDepth 20000 in
theorem gX5_setRules_X6_outside_n36 : GoodIn wsX5_setRules (wsX6_outside) := ggX5_setRules_X6_outside
theorem dX5_setRules_0 : decode cX5_setRules 0 = .ok (.iload_n 1, 1) := by decide +kernel
theorem dX5_setRules_1 : decode cX5_setRules 1 = .ok (.iconst 0, 1) := by decide +kernel
theorem dX5_setRules_2 : decode cX5_setRules 2 = .ok (.sipush 200, 3) := by decide +kernel
theorem dX5_setRules_5 : decode cX5_setRules 5 = .ok (.invokestatic 36, 3) := by decide +kernel
theorem dX5_setRules_8 : decode cX5_setRules 8 = .ok (.ifCond .ne 13, 3) := by decide +kernel
theorem dX5_setRules_11 : decode cX5_setRules 11 = .ok (.iload_n 2, 1) := by decide +kernel
theorem dX5_setRules_12 : decode cX5_setRules 12 = .ok (.iconst 0, 1) := by decide +kernel
theorem dX5_setRules_13 : decode cX5_setRules 13 = .ok (.bipush 20, 2) := by decide +kernel
theorem dX5_setRules_15 : decode cX5_setRules 15 = .ok (.invokestatic 36, 3) := by decide +kernel
theorem dX5_setRules_18 : decode cX5_setRules 18 = .ok (.ifCond .eq 6, 3) := by decide +kernel
theorem dX5_setRules_21 : decode cX5_setRules 21 = .ok (.bipush (-2), 2) := by decide +kernel
theorem dX5_setRules_23 : decode cX5_setRules 23 = .ok (.ireturn, 1) := by decide +kernel
theorem dX5_setRules_24 : decode cX5_setRules 24 = .ok (.aload_n 0, 1) := by decide +kernel
theorem dX5_setRules_25 : decode cX5_setRules 25 = .ok (.iload_n 1, 1) := by decide +kernel
theorem dX5_setRules_26 : decode cX5_setRules 26 = .ok (.putfield 30, 3) := by decide +kernel
theorem dX5_setRules_29 : decode cX5_setRules 29 = .ok (.aload_n 0, 1) := by decide +kernel
theorem dX5_setRules_30 : decode cX5_setRules 30 = .ok (.iload_n 2, 1) := by decide +kernel
theorem dX5_setRules_31 : decode cX5_setRules 31 = .ok (.putfield 33, 3) := by decide +kernel
theorem dX5_setRules_34 : decode cX5_setRules 34 = .ok (.iconst 1, 1) := by decide +kernel
theorem dX5_setRules_35 : decode cX5_setRules 35 = .ok (.ireturn, 1) := by decide +kernel
set_option maxRecDepth 20000 in
theorem ggX5_setReading_X5_isNone : GoodIn wsX5_setReading wsX5_isNone := goodIn_r _ [7, 8, 9, 10, 11, 12, 13, 14, 15, 16, 17, 18] (by decide +kernel) (by decide +kernel)
set_option maxRecDepth 20000 in
theorem gX5_setReading_X5_isNone : GoodIn wsX5_setReading (wsV RX5 40 RX5 yX5_isNone wsX5_isNone) := goodIn_app (goodIn_of _ (by decide +kernel)) ggX5_setReading_X5_isNone
set_option maxRecDepth 20000 in
theorem ggX5_setReading_X6_outside : GoodIn wsX5_setReading wsX6_outside := goodIn_r _ [11] (by decide +kernel) (by decide +kernel)
set_option maxRecDepth 20000 in
theorem gX5_setReading_X6_outside_n36 : GoodIn wsX5_setReading (wsX6_outside) := ggX5_setReading_X6_outside
theorem dX5_setReading_0 : decode cX5_setReading 0 = .ok (.aload_n 0, 1) := by decide +kernel
theorem dX5_setReading_1 : decode cX5_setReading 1 = .ok (.iload_n 1, 1) := by decide +kernel
theorem dX5_setReading_2 : decode cX5_setReading 2 = .ok (.invokevirtual 40, 3) := by decide +kernel
theorem dX5_setReading_5 : decode cX5_setReading 5 = .ok (.ifCond .ne 25, 3) := by decide +kernel
theorem dX5_setReading_8 : decode cX5_setReading 8 = .ok (.iload_n 2, 1) := by decide +kernel
theorem dX5_setReading_9 : decode cX5_setReading 9 = .ok (.iconst 0, 1) := by decide +kernel
theorem dX5_setReading_10 : decode cX5_setReading 10 = .ok (.bipush 23, 2) := by decide +kernel
theorem dX5_setReading_12 : decode cX5_setReading 12 = .ok (.invokestatic 36, 3) := by decide +kernel
theorem dX5_setReading_15 : decode cX5_setReading 15 = .ok (.ifCond .ne 15, 3) := by decide +kernel
theorem dX5_setReading_18 : decode cX5_setReading 18 = .ok (.iload 4, 2) := by decide +kernel
theorem dX5_setReading_20 : decode cX5_setReading 20 = .ok (.iconst (-1), 1) := by decide +kernel
theorem dX5_setReading_21 : decode cX5_setReading 21 = .ok (.sipush 20000, 3) := by decide +kernel
theorem dX5_setReading_24 : decode cX5_setReading 24 = .ok (.invokestatic 36, 3) := by decide +kernel
theorem dX5_setReading_27 : decode cX5_setReading 27 = .ok (.ifCond .eq 6, 3) := by decide +kernel
theorem dX5_setReading_30 : decode cX5_setReading 30 = .ok (.bipush (-2), 2) := by decide +kernel
theorem dX5_setReading_32 : decode cX5_setReading 32 = .ok (.ireturn, 1) := by decide +kernel
theorem dX5_setReading_33 : decode cX5_setReading 33 = .ok (.iload_n 3, 1) := by decide +kernel
theorem dX5_setReading_34 : decode cX5_setReading 34 = .ok (.ifCond .eq 12, 3) := by decide +kernel
theorem dX5_setReading_37 : decode cX5_setReading 37 = .ok (.aload_n 0, 1) := by decide +kernel
theorem dX5_setReading_38 : decode cX5_setReading 38 = .ok (.getfield 20, 3) := by decide +kernel
theorem dX5_setReading_41 : decode cX5_setReading 41 = .ok (.iload_n 1, 1) := by decide +kernel
theorem dX5_setReading_42 : decode cX5_setReading 42 = .ok (.aaload, 1) := by decide +kernel
theorem dX5_setReading_43 : decode cX5_setReading 43 = .ok (.goto 9, 3) := by decide +kernel
theorem dX5_setReading_46 : decode cX5_setReading 46 = .ok (.aload_n 0, 1) := by decide +kernel
theorem dX5_setReading_47 : decode cX5_setReading 47 = .ok (.getfield 23, 3) := by decide +kernel
theorem dX5_setReading_50 : decode cX5_setReading 50 = .ok (.iload_n 1, 1) := by decide +kernel
theorem dX5_setReading_51 : decode cX5_setReading 51 = .ok (.aaload, 1) := by decide +kernel
theorem dX5_setReading_52 : decode cX5_setReading 52 = .ok (.astore 5, 2) := by decide +kernel
theorem dX5_setReading_54 : decode cX5_setReading 54 = .ok (.aload 5, 2) := by decide +kernel
theorem dX5_setReading_56 : decode cX5_setReading 56 = .ok (.iload_n 2, 1) := by decide +kernel
theorem dX5_setReading_57 : decode cX5_setReading 57 = .ok (.iaload, 1) := by decide +kernel
theorem dX5_setReading_58 : decode cX5_setReading 58 = .ok (.istore 6, 2) := by decide +kernel
theorem dX5_setReading_60 : decode cX5_setReading 60 = .ok (.aload 5, 2) := by decide +kernel
theorem dX5_setReading_62 : decode cX5_setReading 62 = .ok (.iload_n 2, 1) := by decide +kernel
theorem dX5_setReading_63 : decode cX5_setReading 63 = .ok (.iload 4, 2) := by decide +kernel
theorem dX5_setReading_65 : decode cX5_setReading 65 = .ok (.iastore, 1) := by decide +kernel
theorem dX5_setReading_66 : decode cX5_setReading 66 = .ok (.iload 6, 2) := by decide +kernel
theorem dX5_setReading_68 : decode cX5_setReading 68 = .ok (.ireturn, 1) := by decide +kernel
set_option maxRecDepth 20000 in
theorem ggX5_lowPart_X5_isNone : GoodIn wsX5_lowPart wsX5_isNone := goodIn_r _ [6, 7, 8, 9, 10, 34, 35, 36, 37, 38, 39, 40] (by decide +kernel) (by decide +kernel)
set_option maxRecDepth 20000 in
theorem gX5_lowPart_X5_isNone : GoodIn wsX5_lowPart (wsV RX5 40 RX5 yX5_isNone wsX5_isNone) := goodIn_app (goodIn_of _ (by decide +kernel)) ggX5_lowPart_X5_isNone
set_option maxRecDepth 20000 in
theorem ggX5_lowPart_X6_outside : GoodIn wsX5_lowPart wsX6_outside := goodIn_r _ [10] (by decide +kernel) (by decide +kernel)
set_option maxRecDepth 20000 in
theorem gX5_lowPart_X6_outside_n36 : GoodIn wsX5_lowPart (wsX6_outside) := ggX5_lowPart_X6_outside
set_option maxRecDepth 20000 in
theorem ggX5_lowPart_X5_lowHour : GoodIn wsX5_lowPart wsX5_lowHour := goodIn_r _ [14, 15, 16, 17, 18, 19, 5, 20, 21, 22, 23, 24, 25, 26, 27, 28, 29, 34, 35, 36, 37, 38, 39, 40] (by decide +kernel) (by decide +kernel)
set_option maxRecDepth 20000 in
theorem gX5_lowPart_X5_lowHour : GoodIn wsX5_lowPart (wsV RX5 45 RX5 yX5_lowHour wsX5_lowHour) := goodIn_app (goodIn_of _ (by decide +kernel)) ggX5_lowPart_X5_lowHour
set_option maxRecDepth 20000 in
theorem ggX5_lowPart_X5_leastNet : GoodIn wsX5_lowPart wsX5_leastNet := goodIn_r _ [33, 15, 16, 26, 27, 28, 5, 29, 25, 21, 22, 23, 24, 34, 35, 36, 37, 38, 39, 40] (by decide +kernel) (by decide +kernel)
set_option maxRecDepth 20000 in
theorem gX5_lowPart_X5_leastNet : GoodIn wsX5_lowPart (wsV RX5 49 RX5 yX5_leastNet wsX5_leastNet) := goodIn_app (goodIn_of _ (by decide +kernel)) ggX5_lowPart_X5_leastNet
set_option maxRecDepth 20000 in
theorem ggX5_lowPart_X5_greatestNet : GoodIn wsX5_lowPart wsX5_greatestNet := goodIn_r _ [20, 15, 16, 21, 22, 23, 5, 24, 25, 26, 27, 28, 29, 34, 35, 36, 37, 38, 39, 40] (by decide +kernel) (by decide +kernel)
set_option maxRecDepth 20000 in
theorem gX5_lowPart_X5_greatestNet : GoodIn wsX5_lowPart (wsV RX5 53 RX5 yX5_greatestNet wsX5_greatestNet) := goodIn_app (goodIn_of _ (by decide +kernel)) ggX5_lowPart_X5_greatestNet
theorem dX5_lowPart_0 : decode cX5_lowPart 0 = .ok (.aload_n 0, 1) := by decide +kernel
theorem dX5_lowPart_1 : decode cX5_lowPart 1 = .ok (.iload_n 1, 1) := by decide +kernel
theorem dX5_lowPart_2 : decode cX5_lowPart 2 = .ok (.invokevirtual 40, 3) := by decide +kernel
theorem dX5_lowPart_5 : decode cX5_lowPart 5 = .ok (.ifCond .ne 12, 3) := by decide +kernel
theorem dX5_lowPart_8 : decode cX5_lowPart 8 = .ok (.iload_n 2, 1) := by decide +kernel
theorem dX5_lowPart_9 : decode cX5_lowPart 9 = .ok (.iconst 0, 1) := by decide +kernel
theorem dX5_lowPart_10 : decode cX5_lowPart 10 = .ok (.iconst 2, 1) := by decide +kernel
theorem dX5_lowPart_11 : decode cX5_lowPart 11 = .ok (.invokestatic 36, 3) := by decide +kernel
theorem dX5_lowPart_14 : decode cX5_lowPart 14 = .ok (.ifCond .eq 6, 3) := by decide +kernel
theorem dX5_lowPart_17 : decode cX5_lowPart 17 = .ok (.ldc 44, 2) := by decide +kernel
theorem dX5_lowPart_19 : decode cX5_lowPart 19 = .ok (.ireturn, 1) := by decide +kernel
theorem dX5_lowPart_20 : decode cX5_lowPart 20 = .ok (.aload_n 0, 1) := by decide +kernel
theorem dX5_lowPart_21 : decode cX5_lowPart 21 = .ok (.iload_n 1, 1) := by decide +kernel
theorem dX5_lowPart_22 : decode cX5_lowPart 22 = .ok (.invokevirtual 45, 3) := by decide +kernel
theorem dX5_lowPart_25 : decode cX5_lowPart 25 = .ok (.istore_n 3, 1) := by decide +kernel
theorem dX5_lowPart_26 : decode cX5_lowPart 26 = .ok (.iload_n 3, 1) := by decide +kernel
theorem dX5_lowPart_27 : decode cX5_lowPart 27 = .ok (.iconst (-1), 1) := by decide +kernel
theorem dX5_lowPart_28 : decode cX5_lowPart 28 = .ok (.if_icmp .ne 6, 3) := by decide +kernel
theorem dX5_lowPart_31 : decode cX5_lowPart 31 = .ok (.ldc 44, 2) := by decide +kernel
theorem dX5_lowPart_33 : decode cX5_lowPart 33 = .ok (.ireturn, 1) := by decide +kernel
theorem dX5_lowPart_34 : decode cX5_lowPart 34 = .ok (.iload_n 2, 1) := by decide +kernel
theorem dX5_lowPart_35 : decode cX5_lowPart 35 = .ok (.iconst 2, 1) := by decide +kernel
theorem dX5_lowPart_36 : decode cX5_lowPart 36 = .ok (.if_icmp .ne 5, 3) := by decide +kernel
theorem dX5_lowPart_39 : decode cX5_lowPart 39 = .ok (.iload_n 3, 1) := by decide +kernel
theorem dX5_lowPart_40 : decode cX5_lowPart 40 = .ok (.ireturn, 1) := by decide +kernel
theorem dX5_lowPart_41 : decode cX5_lowPart 41 = .ok (.iload_n 2, 1) := by decide +kernel
theorem dX5_lowPart_42 : decode cX5_lowPart 42 = .ok (.ifCond .ne 12, 3) := by decide +kernel
theorem dX5_lowPart_45 : decode cX5_lowPart 45 = .ok (.aload_n 0, 1) := by decide +kernel
theorem dX5_lowPart_46 : decode cX5_lowPart 46 = .ok (.iload_n 1, 1) := by decide +kernel
theorem dX5_lowPart_47 : decode cX5_lowPart 47 = .ok (.iload_n 3, 1) := by decide +kernel
theorem dX5_lowPart_48 : decode cX5_lowPart 48 = .ok (.invokevirtual 49, 3) := by decide +kernel
theorem dX5_lowPart_51 : decode cX5_lowPart 51 = .ok (.goto 9, 3) := by decide +kernel
theorem dX5_lowPart_54 : decode cX5_lowPart 54 = .ok (.aload_n 0, 1) := by decide +kernel
theorem dX5_lowPart_55 : decode cX5_lowPart 55 = .ok (.iload_n 1, 1) := by decide +kernel
theorem dX5_lowPart_56 : decode cX5_lowPart 56 = .ok (.iload_n 3, 1) := by decide +kernel
theorem dX5_lowPart_57 : decode cX5_lowPart 57 = .ok (.invokevirtual 53, 3) := by decide +kernel
theorem dX5_lowPart_60 : decode cX5_lowPart 60 = .ok (.ireturn, 1) := by decide +kernel
set_option maxRecDepth 20000 in
theorem ggX5_leak_X5_isNone : GoodIn wsX5_leak wsX5_isNone := goodIn_r _ [9, 10, 11, 12, 13, 37, 38, 39, 40, 41, 42, 43] (by decide +kernel) (by decide +kernel)
set_option maxRecDepth 20000 in
theorem gX5_leak_X5_isNone : GoodIn wsX5_leak (wsV RX5 40 RX5 yX5_isNone wsX5_isNone) := goodIn_app (goodIn_of _ (by decide +kernel)) ggX5_leak_X5_isNone
set_option maxRecDepth 20000 in
theorem ggX5_leak_X6_outside : GoodIn wsX5_leak wsX6_outside := goodIn_r _ [13] (by decide +kernel) (by decide +kernel)
set_option maxRecDepth 20000 in
theorem gX5_leak_X6_outside_n36 : GoodIn wsX5_leak (wsX6_outside) := ggX5_leak_X6_outside
set_option maxRecDepth 20000 in
theorem ggX5_leak_X5_lowHour : GoodIn wsX5_leak wsX5_lowHour := goodIn_r _ [17, 18, 19, 20, 21, 22, 8, 23, 24, 25, 26, 27, 28, 29, 30, 31, 32, 37, 38, 39, 40, 41, 42, 43] (by decide +kernel) (by decide +kernel)
set_option maxRecDepth 20000 in
theorem gX5_leak_X5_lowHour : GoodIn wsX5_leak (wsV RX5 45 RX5 yX5_lowHour wsX5_lowHour) := goodIn_app (goodIn_of _ (by decide +kernel)) ggX5_leak_X5_lowHour
set_option maxRecDepth 20000 in
theorem ggX5_leak_X5_leastNet : GoodIn wsX5_leak wsX5_leastNet := goodIn_r _ [36, 18, 19, 29, 30, 31, 8, 32, 28, 24, 25, 26, 27, 37, 38, 39, 40, 41, 42, 43] (by decide +kernel) (by decide +kernel)
set_option maxRecDepth 20000 in
theorem gX5_leak_X5_leastNet : GoodIn wsX5_leak (wsV RX5 49 RX5 yX5_leastNet wsX5_leastNet) := goodIn_app (goodIn_of _ (by decide +kernel)) ggX5_leak_X5_leastNet
set_option maxRecDepth 20000 in
theorem ggX5_leak_X5_greatestNet : GoodIn wsX5_leak wsX5_greatestNet := goodIn_r _ [23, 18, 19, 24, 25, 26, 8, 27, 28, 29, 30, 31, 32, 37, 38, 39, 40, 41, 42, 43] (by decide +kernel) (by decide +kernel)
set_option maxRecDepth 20000 in
theorem gX5_leak_X5_greatestNet : GoodIn wsX5_leak (wsV RX5 53 RX5 yX5_greatestNet wsX5_greatestNet) := goodIn_app (goodIn_of _ (by decide +kernel)) ggX5_leak_X5_greatestNet
theorem dX5_leak_0 : decode cX5_leak 0 = .ok (.aload_n 0, 1) := by decide +kernel
theorem dX5_leak_1 : decode cX5_leak 1 = .ok (.iload_n 1, 1) := by decide +kernel
theorem dX5_leak_2 : decode cX5_leak 2 = .ok (.invokevirtual 40, 3) := by decide +kernel
theorem dX5_leak_5 : decode cX5_leak 5 = .ok (.ifCond .ne 12, 3) := by decide +kernel
theorem dX5_leak_8 : decode cX5_leak 8 = .ok (.iload_n 2, 1) := by decide +kernel
theorem dX5_leak_9 : decode cX5_leak 9 = .ok (.iconst 0, 1) := by decide +kernel
theorem dX5_leak_10 : decode cX5_leak 10 = .ok (.iconst 1, 1) := by decide +kernel
theorem dX5_leak_11 : decode cX5_leak 11 = .ok (.invokestatic 36, 3) := by decide +kernel
theorem dX5_leak_14 : decode cX5_leak 14 = .ok (.ifCond .eq 6, 3) := by decide +kernel
theorem dX5_leak_17 : decode cX5_leak 17 = .ok (.ldc 44, 2) := by decide +kernel
theorem dX5_leak_19 : decode cX5_leak 19 = .ok (.ireturn, 1) := by decide +kernel
theorem dX5_leak_20 : decode cX5_leak 20 = .ok (.aload_n 0, 1) := by decide +kernel
theorem dX5_leak_21 : decode cX5_leak 21 = .ok (.iload_n 1, 1) := by decide +kernel
theorem dX5_leak_22 : decode cX5_leak 22 = .ok (.invokevirtual 45, 3) := by decide +kernel
theorem dX5_leak_25 : decode cX5_leak 25 = .ok (.istore_n 3, 1) := by decide +kernel
theorem dX5_leak_26 : decode cX5_leak 26 = .ok (.iload_n 3, 1) := by decide +kernel
theorem dX5_leak_27 : decode cX5_leak 27 = .ok (.iconst (-1), 1) := by decide +kernel
theorem dX5_leak_28 : decode cX5_leak 28 = .ok (.if_icmp .ne 6, 3) := by decide +kernel
theorem dX5_leak_31 : decode cX5_leak 31 = .ok (.ldc 44, 2) := by decide +kernel
theorem dX5_leak_33 : decode cX5_leak 33 = .ok (.ireturn, 1) := by decide +kernel
theorem dX5_leak_34 : decode cX5_leak 34 = .ok (.iload_n 2, 1) := by decide +kernel
theorem dX5_leak_35 : decode cX5_leak 35 = .ok (.ifCond .ne 29, 3) := by decide +kernel
theorem dX5_leak_38 : decode cX5_leak 38 = .ok (.aload_n 0, 1) := by decide +kernel
theorem dX5_leak_39 : decode cX5_leak 39 = .ok (.iload_n 1, 1) := by decide +kernel
theorem dX5_leak_40 : decode cX5_leak 40 = .ok (.iload_n 3, 1) := by decide +kernel
theorem dX5_leak_41 : decode cX5_leak 41 = .ok (.invokevirtual 49, 3) := by decide +kernel
theorem dX5_leak_44 : decode cX5_leak 44 = .ok (.aload_n 0, 1) := by decide +kernel
theorem dX5_leak_45 : decode cX5_leak 45 = .ok (.getfield 15, 3) := by decide +kernel
theorem dX5_leak_48 : decode cX5_leak 48 = .ok (.iload_n 1, 1) := by decide +kernel
theorem dX5_leak_49 : decode cX5_leak 49 = .ok (.iaload, 1) := by decide +kernel
theorem dX5_leak_50 : decode cX5_leak 50 = .ok (.isub, 1) := by decide +kernel
theorem dX5_leak_51 : decode cX5_leak 51 = .ok (.aload_n 0, 1) := by decide +kernel
theorem dX5_leak_52 : decode cX5_leak 52 = .ok (.getfield 11, 3) := by decide +kernel
theorem dX5_leak_55 : decode cX5_leak 55 = .ok (.iload_n 1, 1) := by decide +kernel
theorem dX5_leak_56 : decode cX5_leak 56 = .ok (.iaload, 1) := by decide +kernel
theorem dX5_leak_57 : decode cX5_leak 57 = .ok (.aload_n 0, 1) := by decide +kernel
theorem dX5_leak_58 : decode cX5_leak 58 = .ok (.getfield 33, 3) := by decide +kernel
theorem dX5_leak_61 : decode cX5_leak 61 = .ok (.imul, 1) := by decide +kernel
theorem dX5_leak_62 : decode cX5_leak 62 = .ok (.isub, 1) := by decide +kernel
theorem dX5_leak_63 : decode cX5_leak 63 = .ok (.ireturn, 1) := by decide +kernel
theorem dX5_leak_64 : decode cX5_leak 64 = .ok (.aload_n 0, 1) := by decide +kernel
theorem dX5_leak_65 : decode cX5_leak 65 = .ok (.iload_n 1, 1) := by decide +kernel
theorem dX5_leak_66 : decode cX5_leak 66 = .ok (.iload_n 3, 1) := by decide +kernel
theorem dX5_leak_67 : decode cX5_leak 67 = .ok (.invokevirtual 53, 3) := by decide +kernel
theorem dX5_leak_70 : decode cX5_leak 70 = .ok (.aload_n 0, 1) := by decide +kernel
theorem dX5_leak_71 : decode cX5_leak 71 = .ok (.getfield 15, 3) := by decide +kernel
theorem dX5_leak_74 : decode cX5_leak 74 = .ok (.iload_n 1, 1) := by decide +kernel
theorem dX5_leak_75 : decode cX5_leak 75 = .ok (.iaload, 1) := by decide +kernel
theorem dX5_leak_76 : decode cX5_leak 76 = .ok (.isub, 1) := by decide +kernel
theorem dX5_leak_77 : decode cX5_leak 77 = .ok (.ireturn, 1) := by decide +kernel
theorem dX5_readingsLost_0 : decode cX5_readingsLost 0 = .ok (.iconst 0, 1) := by decide +kernel
theorem dX5_readingsLost_1 : decode cX5_readingsLost 1 = .ok (.istore_n 1, 1) := by decide +kernel
theorem dX5_readingsLost_2 : decode cX5_readingsLost 2 = .ok (.iconst 0, 1) := by decide +kernel
theorem dX5_readingsLost_3 : decode cX5_readingsLost 3 = .ok (.istore_n 2, 1) := by decide +kernel
theorem dX5_readingsLost_4 : decode cX5_readingsLost 4 = .ok (.iload_n 2, 1) := by decide +kernel
theorem dX5_readingsLost_5 : decode cX5_readingsLost 5 = .ok (.aload_n 0, 1) := by decide +kernel
theorem dX5_readingsLost_6 : decode cX5_readingsLost 6 = .ok (.getfield 26, 3) := by decide +kernel
theorem dX5_readingsLost_9 : decode cX5_readingsLost 9 = .ok (.if_icmp .ge 63, 3) := by decide +kernel
theorem dX5_readingsLost_12 : decode cX5_readingsLost 12 = .ok (.iconst 0, 1) := by decide +kernel
theorem dX5_readingsLost_13 : decode cX5_readingsLost 13 = .ok (.istore_n 3, 1) := by decide +kernel
theorem dX5_readingsLost_14 : decode cX5_readingsLost 14 = .ok (.iload_n 3, 1) := by decide +kernel
theorem dX5_readingsLost_15 : decode cX5_readingsLost 15 = .ok (.bipush 24, 2) := by decide +kernel
theorem dX5_readingsLost_17 : decode cX5_readingsLost 17 = .ok (.if_icmp .ge 49, 3) := by decide +kernel
theorem dX5_readingsLost_20 : decode cX5_readingsLost 20 = .ok (.iload_n 1, 1) := by decide +kernel
theorem dX5_readingsLost_21 : decode cX5_readingsLost 21 = .ok (.aload_n 0, 1) := by decide +kernel
theorem dX5_readingsLost_22 : decode cX5_readingsLost 22 = .ok (.getfield 20, 3) := by decide +kernel
theorem dX5_readingsLost_25 : decode cX5_readingsLost 25 = .ok (.iload_n 2, 1) := by decide +kernel
theorem dX5_readingsLost_26 : decode cX5_readingsLost 26 = .ok (.aaload, 1) := by decide +kernel
theorem dX5_readingsLost_27 : decode cX5_readingsLost 27 = .ok (.iload_n 3, 1) := by decide +kernel
theorem dX5_readingsLost_28 : decode cX5_readingsLost 28 = .ok (.iaload, 1) := by decide +kernel
theorem dX5_readingsLost_29 : decode cX5_readingsLost 29 = .ok (.iconst (-1), 1) := by decide +kernel
theorem dX5_readingsLost_30 : decode cX5_readingsLost 30 = .ok (.if_icmp .ne 7, 3) := by decide +kernel
theorem dX5_readingsLost_33 : decode cX5_readingsLost 33 = .ok (.iconst 1, 1) := by decide +kernel
theorem dX5_readingsLost_34 : decode cX5_readingsLost 34 = .ok (.goto 4, 3) := by decide +kernel
theorem dX5_readingsLost_37 : decode cX5_readingsLost 37 = .ok (.iconst 0, 1) := by decide +kernel
theorem dX5_readingsLost_38 : decode cX5_readingsLost 38 = .ok (.iadd, 1) := by decide +kernel
theorem dX5_readingsLost_39 : decode cX5_readingsLost 39 = .ok (.istore_n 1, 1) := by decide +kernel
theorem dX5_readingsLost_40 : decode cX5_readingsLost 40 = .ok (.iload_n 1, 1) := by decide +kernel
theorem dX5_readingsLost_41 : decode cX5_readingsLost 41 = .ok (.aload_n 0, 1) := by decide +kernel
theorem dX5_readingsLost_42 : decode cX5_readingsLost 42 = .ok (.getfield 23, 3) := by decide +kernel
theorem dX5_readingsLost_45 : decode cX5_readingsLost 45 = .ok (.iload_n 2, 1) := by decide +kernel
theorem dX5_readingsLost_46 : decode cX5_readingsLost 46 = .ok (.aaload, 1) := by decide +kernel
theorem dX5_readingsLost_47 : decode cX5_readingsLost 47 = .ok (.iload_n 3, 1) := by decide +kernel
theorem dX5_readingsLost_48 : decode cX5_readingsLost 48 = .ok (.iaload, 1) := by decide +kernel
theorem dX5_readingsLost_49 : decode cX5_readingsLost 49 = .ok (.iconst (-1), 1) := by decide +kernel
theorem dX5_readingsLost_50 : decode cX5_readingsLost 50 = .ok (.if_icmp .ne 7, 3) := by decide +kernel
theorem dX5_readingsLost_53 : decode cX5_readingsLost 53 = .ok (.iconst 1, 1) := by decide +kernel
theorem dX5_readingsLost_54 : decode cX5_readingsLost 54 = .ok (.goto 4, 3) := by decide +kernel
theorem dX5_readingsLost_57 : decode cX5_readingsLost 57 = .ok (.iconst 0, 1) := by decide +kernel
theorem dX5_readingsLost_58 : decode cX5_readingsLost 58 = .ok (.iadd, 1) := by decide +kernel
theorem dX5_readingsLost_59 : decode cX5_readingsLost 59 = .ok (.istore_n 1, 1) := by decide +kernel
theorem dX5_readingsLost_60 : decode cX5_readingsLost 60 = .ok (.iinc 3 1, 3) := by decide +kernel
theorem dX5_readingsLost_63 : decode cX5_readingsLost 63 = .ok (.goto (-49), 3) := by decide +kernel
theorem dX5_readingsLost_66 : decode cX5_readingsLost 66 = .ok (.iinc 2 1, 3) := by decide +kernel
theorem dX5_readingsLost_69 : decode cX5_readingsLost 69 = .ok (.goto (-65), 3) := by decide +kernel
theorem dX5_readingsLost_72 : decode cX5_readingsLost 72 = .ok (.iload_n 1, 1) := by decide +kernel
theorem dX5_readingsLost_73 : decode cX5_readingsLost 73 = .ok (.ireturn, 1) := by decide +kernel
set_option maxRecDepth 20000 in
theorem ggX5_mixInto_X5_leak : GoodIn wsX5_mixInto wsX5_leak := goodIn_r _ [8, 9, 10, 11, 12, 13, 14, 15, 7, 16, 1, 17, 18, 19, 20, 21, 22, 23, 2, 3, 24, 25, 26, 27, 28, 29, 30, 31, 32, 33, 34, 35, 36, 37, 38, 39, 40, 44, 45, 46, 47, 48, 49, 50] (by decide +kernel) (by decide +kernel)
set_option maxRecDepth 20000 in
theorem gX5_mixInto_X5_leak : GoodIn wsX5_mixInto (wsV RX5 56 RX5 yX5_leak wsX5_leak) := goodIn_app (goodIn_of _ (by decide +kernel)) ggX5_mixInto_X5_leak
set_option maxRecDepth 20000 in
theorem ggX5_mixInto_X6_mix : GoodIn wsX5_mixInto wsX6_mix := goodIn_r _ [42, 43] (by decide +kernel) (by decide +kernel)
set_option maxRecDepth 20000 in
theorem gX5_mixInto_X6_mix_n59 : GoodIn wsX5_mixInto (wsX6_mix) := ggX5_mixInto_X6_mix
theorem dX5_mixInto_0 : decode cX5_mixInto 0 = .ok (.lload_n 1, 1) := by decide +kernel
theorem dX5_mixInto_1 : decode cX5_mixInto 1 = .ok (.lstore_n 3, 1) := by decide +kernel
theorem dX5_mixInto_2 : decode cX5_mixInto 2 = .ok (.iconst 0, 1) := by decide +kernel
theorem dX5_mixInto_3 : decode cX5_mixInto 3 = .ok (.istore 5, 2) := by decide +kernel
theorem dX5_mixInto_5 : decode cX5_mixInto 5 = .ok (.iload 5, 2) := by decide +kernel
theorem dX5_mixInto_7 : decode cX5_mixInto 7 = .ok (.aload_n 0, 1) := by decide +kernel
theorem dX5_mixInto_8 : decode cX5_mixInto 8 = .ok (.getfield 26, 3) := by decide +kernel
theorem dX5_mixInto_11 : decode cX5_mixInto 11 = .ok (.if_icmp .ge 79, 3) := by decide +kernel
theorem dX5_mixInto_14 : decode cX5_mixInto 14 = .ok (.lload_n 3, 1) := by decide +kernel
theorem dX5_mixInto_15 : decode cX5_mixInto 15 = .ok (.aload_n 0, 1) := by decide +kernel
theorem dX5_mixInto_16 : decode cX5_mixInto 16 = .ok (.iload 5, 2) := by decide +kernel
theorem dX5_mixInto_18 : decode cX5_mixInto 18 = .ok (.iconst 0, 1) := by decide +kernel
theorem dX5_mixInto_19 : decode cX5_mixInto 19 = .ok (.invokevirtual 56, 3) := by decide +kernel
theorem dX5_mixInto_22 : decode cX5_mixInto 22 = .ok (.invokestatic 59, 3) := by decide +kernel
theorem dX5_mixInto_25 : decode cX5_mixInto 25 = .ok (.lstore_n 3, 1) := by decide +kernel
theorem dX5_mixInto_26 : decode cX5_mixInto 26 = .ok (.lload_n 3, 1) := by decide +kernel
theorem dX5_mixInto_27 : decode cX5_mixInto 27 = .ok (.aload_n 0, 1) := by decide +kernel
theorem dX5_mixInto_28 : decode cX5_mixInto 28 = .ok (.iload 5, 2) := by decide +kernel
theorem dX5_mixInto_30 : decode cX5_mixInto 30 = .ok (.iconst 1, 1) := by decide +kernel
theorem dX5_mixInto_31 : decode cX5_mixInto 31 = .ok (.invokevirtual 56, 3) := by decide +kernel
theorem dX5_mixInto_34 : decode cX5_mixInto 34 = .ok (.invokestatic 59, 3) := by decide +kernel
theorem dX5_mixInto_37 : decode cX5_mixInto 37 = .ok (.lstore_n 3, 1) := by decide +kernel
theorem dX5_mixInto_38 : decode cX5_mixInto 38 = .ok (.iconst 0, 1) := by decide +kernel
theorem dX5_mixInto_39 : decode cX5_mixInto 39 = .ok (.istore 6, 2) := by decide +kernel
theorem dX5_mixInto_41 : decode cX5_mixInto 41 = .ok (.iload 6, 2) := by decide +kernel
theorem dX5_mixInto_43 : decode cX5_mixInto 43 = .ok (.bipush 24, 2) := by decide +kernel
theorem dX5_mixInto_45 : decode cX5_mixInto 45 = .ok (.if_icmp .ge 39, 3) := by decide +kernel
theorem dX5_mixInto_48 : decode cX5_mixInto 48 = .ok (.lload_n 3, 1) := by decide +kernel
theorem dX5_mixInto_49 : decode cX5_mixInto 49 = .ok (.aload_n 0, 1) := by decide +kernel
theorem dX5_mixInto_50 : decode cX5_mixInto 50 = .ok (.getfield 20, 3) := by decide +kernel
theorem dX5_mixInto_53 : decode cX5_mixInto 53 = .ok (.iload 5, 2) := by decide +kernel
theorem dX5_mixInto_55 : decode cX5_mixInto 55 = .ok (.aaload, 1) := by decide +kernel
theorem dX5_mixInto_56 : decode cX5_mixInto 56 = .ok (.iload 6, 2) := by decide +kernel
theorem dX5_mixInto_58 : decode cX5_mixInto 58 = .ok (.iaload, 1) := by decide +kernel
theorem dX5_mixInto_59 : decode cX5_mixInto 59 = .ok (.invokestatic 59, 3) := by decide +kernel
theorem dX5_mixInto_62 : decode cX5_mixInto 62 = .ok (.lstore_n 3, 1) := by decide +kernel
theorem dX5_mixInto_63 : decode cX5_mixInto 63 = .ok (.lload_n 3, 1) := by decide +kernel
theorem dX5_mixInto_64 : decode cX5_mixInto 64 = .ok (.aload_n 0, 1) := by decide +kernel
theorem dX5_mixInto_65 : decode cX5_mixInto 65 = .ok (.getfield 23, 3) := by decide +kernel
theorem dX5_mixInto_68 : decode cX5_mixInto 68 = .ok (.iload 5, 2) := by decide +kernel
theorem dX5_mixInto_70 : decode cX5_mixInto 70 = .ok (.aaload, 1) := by decide +kernel
theorem dX5_mixInto_71 : decode cX5_mixInto 71 = .ok (.iload 6, 2) := by decide +kernel
theorem dX5_mixInto_73 : decode cX5_mixInto 73 = .ok (.iaload, 1) := by decide +kernel
theorem dX5_mixInto_74 : decode cX5_mixInto 74 = .ok (.invokestatic 59, 3) := by decide +kernel
theorem dX5_mixInto_77 : decode cX5_mixInto 77 = .ok (.lstore_n 3, 1) := by decide +kernel
theorem dX5_mixInto_78 : decode cX5_mixInto 78 = .ok (.iinc 6 1, 3) := by decide +kernel
theorem dX5_mixInto_81 : decode cX5_mixInto 81 = .ok (.goto (-40), 3) := by decide +kernel
theorem dX5_mixInto_84 : decode cX5_mixInto 84 = .ok (.iinc 5 1, 3) := by decide +kernel
theorem dX5_mixInto_87 : decode cX5_mixInto 87 = .ok (.goto (-82), 3) := by decide +kernel
theorem dX5_mixInto_90 : decode cX5_mixInto 90 = .ok (.lload_n 3, 1) := by decide +kernel
theorem dX5_mixInto_91 : decode cX5_mixInto 91 = .ok (.lreturn, 1) := by decide +kernel
set_option maxRecDepth 20000 in
theorem ggX5_lowHour_X5_greatestNet : GoodIn wsX5_lowHour wsX5_greatestNet := goodIn_r _ [7, 1, 2, 8, 9, 10, 6, 11, 12, 13, 14, 15, 16, 17, 18, 19, 20, 21, 22, 23] (by decide +kernel) (by decide +kernel)
set_option maxRecDepth 20000 in
theorem gX5_lowHour_X5_greatestNet : GoodIn wsX5_lowHour (wsV RX5 53 RX5 yX5_greatestNet wsX5_greatestNet) := goodIn_app (goodIn_of _ (by decide +kernel)) ggX5_lowHour_X5_greatestNet
theorem dX5_lowHour_0 : decode cX5_lowHour 0 = .ok (.iconst (-1), 1) := by decide +kernel
theorem dX5_lowHour_1 : decode cX5_lowHour 1 = .ok (.istore_n 2, 1) := by decide +kernel
theorem dX5_lowHour_2 : decode cX5_lowHour 2 = .ok (.iconst 0, 1) := by decide +kernel
theorem dX5_lowHour_3 : decode cX5_lowHour 3 = .ok (.istore_n 3, 1) := by decide +kernel
theorem dX5_lowHour_4 : decode cX5_lowHour 4 = .ok (.iconst 1, 1) := by decide +kernel
theorem dX5_lowHour_5 : decode cX5_lowHour 5 = .ok (.istore 4, 2) := by decide +kernel
theorem dX5_lowHour_7 : decode cX5_lowHour 7 = .ok (.iload 4, 2) := by decide +kernel
theorem dX5_lowHour_9 : decode cX5_lowHour 9 = .ok (.iconst 4, 1) := by decide +kernel
theorem dX5_lowHour_10 : decode cX5_lowHour 10 = .ok (.if_icmp .gt 61, 3) := by decide +kernel
theorem dX5_lowHour_13 : decode cX5_lowHour 13 = .ok (.aload_n 0, 1) := by decide +kernel
theorem dX5_lowHour_14 : decode cX5_lowHour 14 = .ok (.getfield 20, 3) := by decide +kernel
theorem dX5_lowHour_17 : decode cX5_lowHour 17 = .ok (.iload_n 1, 1) := by decide +kernel
theorem dX5_lowHour_18 : decode cX5_lowHour 18 = .ok (.aaload, 1) := by decide +kernel
theorem dX5_lowHour_19 : decode cX5_lowHour 19 = .ok (.iload 4, 2) := by decide +kernel
theorem dX5_lowHour_21 : decode cX5_lowHour 21 = .ok (.iaload, 1) := by decide +kernel
theorem dX5_lowHour_22 : decode cX5_lowHour 22 = .ok (.iconst (-1), 1) := by decide +kernel
theorem dX5_lowHour_23 : decode cX5_lowHour 23 = .ok (.if_icmp .eq 42, 3) := by decide +kernel
theorem dX5_lowHour_26 : decode cX5_lowHour 26 = .ok (.aload_n 0, 1) := by decide +kernel
theorem dX5_lowHour_27 : decode cX5_lowHour 27 = .ok (.getfield 23, 3) := by decide +kernel
theorem dX5_lowHour_30 : decode cX5_lowHour 30 = .ok (.iload_n 1, 1) := by decide +kernel
theorem dX5_lowHour_31 : decode cX5_lowHour 31 = .ok (.aaload, 1) := by decide +kernel
theorem dX5_lowHour_32 : decode cX5_lowHour 32 = .ok (.iload 4, 2) := by decide +kernel
theorem dX5_lowHour_34 : decode cX5_lowHour 34 = .ok (.iaload, 1) := by decide +kernel
theorem dX5_lowHour_35 : decode cX5_lowHour 35 = .ok (.iconst (-1), 1) := by decide +kernel
theorem dX5_lowHour_36 : decode cX5_lowHour 36 = .ok (.if_icmp .eq 29, 3) := by decide +kernel
theorem dX5_lowHour_39 : decode cX5_lowHour 39 = .ok (.aload_n 0, 1) := by decide +kernel
theorem dX5_lowHour_40 : decode cX5_lowHour 40 = .ok (.iload_n 1, 1) := by decide +kernel
theorem dX5_lowHour_41 : decode cX5_lowHour 41 = .ok (.iload 4, 2) := by decide +kernel
theorem dX5_lowHour_43 : decode cX5_lowHour 43 = .ok (.invokevirtual 53, 3) := by decide +kernel
theorem dX5_lowHour_46 : decode cX5_lowHour 46 = .ok (.istore 5, 2) := by decide +kernel
theorem dX5_lowHour_48 : decode cX5_lowHour 48 = .ok (.iload_n 2, 1) := by decide +kernel
theorem dX5_lowHour_49 : decode cX5_lowHour 49 = .ok (.iconst (-1), 1) := by decide +kernel
theorem dX5_lowHour_50 : decode cX5_lowHour 50 = .ok (.if_icmp .eq 9, 3) := by decide +kernel
theorem dX5_lowHour_53 : decode cX5_lowHour 53 = .ok (.iload 5, 2) := by decide +kernel
theorem dX5_lowHour_55 : decode cX5_lowHour 55 = .ok (.iload_n 3, 1) := by decide +kernel
theorem dX5_lowHour_56 : decode cX5_lowHour 56 = .ok (.if_icmp .ge 9, 3) := by decide +kernel
theorem dX5_lowHour_59 : decode cX5_lowHour 59 = .ok (.iload 4, 2) := by decide +kernel
theorem dX5_lowHour_61 : decode cX5_lowHour 61 = .ok (.istore_n 2, 1) := by decide +kernel
theorem dX5_lowHour_62 : decode cX5_lowHour 62 = .ok (.iload 5, 2) := by decide +kernel
theorem dX5_lowHour_64 : decode cX5_lowHour 64 = .ok (.istore_n 3, 1) := by decide +kernel
theorem dX5_lowHour_65 : decode cX5_lowHour 65 = .ok (.iinc 4 1, 3) := by decide +kernel
theorem dX5_lowHour_68 : decode cX5_lowHour 68 = .ok (.goto (-61), 3) := by decide +kernel
theorem dX5_lowHour_71 : decode cX5_lowHour 71 = .ok (.iload_n 2, 1) := by decide +kernel
theorem dX5_lowHour_72 : decode cX5_lowHour 72 = .ok (.ireturn, 1) := by decide +kernel
set_option maxRecDepth 20000 in
theorem ggX5_leastNet_X5_leastOf : GoodIn wsX5_leastNet wsX5_leastOf := goodIn_r _ [7, 8, 13, 14, 15, 16, 17, 18, 19] (by decide +kernel) (by decide +kernel)
set_option maxRecDepth 20000 in
theorem gX5_leastNet_X5_leastOf : GoodIn wsX5_leastNet (wsV RX5 63 RX5 yX5_leastOf wsX5_leastOf) := goodIn_app (goodIn_of _ (by decide +kernel)) ggX5_leastNet_X5_leastOf
set_option maxRecDepth 20000 in
theorem ggX5_leastNet_X5_greatestOf : GoodIn wsX5_leastNet wsX5_greatestOf := goodIn_r _ [12, 8, 13, 14, 15, 16, 17, 18, 19] (by decide +kernel) (by decide +kernel)
set_option maxRecDepth 20000 in
theorem gX5_leastNet_X5_greatestOf : GoodIn wsX5_leastNet (wsV RX5 66 RX5 yX5_greatestOf wsX5_greatestOf) := goodIn_app (goodIn_of _ (by decide +kernel)) ggX5_leastNet_X5_greatestOf
theorem dX5_leastNet_0 : decode cX5_leastNet 0 = .ok (.aload_n 0, 1) := by decide +kernel
theorem dX5_leastNet_1 : decode cX5_leastNet 1 = .ok (.aload_n 0, 1) := by decide +kernel
theorem dX5_leastNet_2 : decode cX5_leastNet 2 = .ok (.getfield 20, 3) := by decide +kernel
theorem dX5_leastNet_5 : decode cX5_leastNet 5 = .ok (.iload_n 1, 1) := by decide +kernel
theorem dX5_leastNet_6 : decode cX5_leastNet 6 = .ok (.aaload, 1) := by decide +kernel
theorem dX5_leastNet_7 : decode cX5_leastNet 7 = .ok (.iload_n 2, 1) := by decide +kernel
theorem dX5_leastNet_8 : decode cX5_leastNet 8 = .ok (.iaload, 1) := by decide +kernel
theorem dX5_leastNet_9 : decode cX5_leastNet 9 = .ok (.invokevirtual 63, 3) := by decide +kernel
theorem dX5_leastNet_12 : decode cX5_leastNet 12 = .ok (.aload_n 0, 1) := by decide +kernel
theorem dX5_leastNet_13 : decode cX5_leastNet 13 = .ok (.aload_n 0, 1) := by decide +kernel
theorem dX5_leastNet_14 : decode cX5_leastNet 14 = .ok (.getfield 23, 3) := by decide +kernel
theorem dX5_leastNet_17 : decode cX5_leastNet 17 = .ok (.iload_n 1, 1) := by decide +kernel
theorem dX5_leastNet_18 : decode cX5_leastNet 18 = .ok (.aaload, 1) := by decide +kernel
theorem dX5_leastNet_19 : decode cX5_leastNet 19 = .ok (.iload_n 2, 1) := by decide +kernel
theorem dX5_leastNet_20 : decode cX5_leastNet 20 = .ok (.iaload, 1) := by decide +kernel
theorem dX5_leastNet_21 : decode cX5_leastNet 21 = .ok (.invokevirtual 66, 3) := by decide +kernel
theorem dX5_leastNet_24 : decode cX5_leastNet 24 = .ok (.isub, 1) := by decide +kernel
theorem dX5_leastNet_25 : decode cX5_leastNet 25 = .ok (.ireturn, 1) := by decide +kernel
set_option maxRecDepth 20000 in
theorem ggX5_greatestNet_X5_greatestOf : GoodIn wsX5_greatestNet wsX5_greatestOf := goodIn_r _ [7, 8, 13, 14, 15, 16, 17, 18, 19] (by decide +kernel) (by decide +kernel)
set_option maxRecDepth 20000 in
theorem gX5_greatestNet_X5_greatestOf : GoodIn wsX5_greatestNet (wsV RX5 66 RX5 yX5_greatestOf wsX5_greatestOf) := goodIn_app (goodIn_of _ (by decide +kernel)) ggX5_greatestNet_X5_greatestOf
set_option maxRecDepth 20000 in
theorem ggX5_greatestNet_X5_leastOf : GoodIn wsX5_greatestNet wsX5_leastOf := goodIn_r _ [12, 8, 13, 14, 15, 16, 17, 18, 19] (by decide +kernel) (by decide +kernel)
set_option maxRecDepth 20000 in
theorem gX5_greatestNet_X5_leastOf : GoodIn wsX5_greatestNet (wsV RX5 63 RX5 yX5_leastOf wsX5_leastOf) := goodIn_app (goodIn_of _ (by decide +kernel)) ggX5_greatestNet_X5_leastOf
theorem dX5_greatestNet_0 : decode cX5_greatestNet 0 = .ok (.aload_n 0, 1) := by decide +kernel
theorem dX5_greatestNet_1 : decode cX5_greatestNet 1 = .ok (.aload_n 0, 1) := by decide +kernel
theorem dX5_greatestNet_2 : decode cX5_greatestNet 2 = .ok (.getfield 20, 3) := by decide +kernel
theorem dX5_greatestNet_5 : decode cX5_greatestNet 5 = .ok (.iload_n 1, 1) := by decide +kernel
theorem dX5_greatestNet_6 : decode cX5_greatestNet 6 = .ok (.aaload, 1) := by decide +kernel
theorem dX5_greatestNet_7 : decode cX5_greatestNet 7 = .ok (.iload_n 2, 1) := by decide +kernel
theorem dX5_greatestNet_8 : decode cX5_greatestNet 8 = .ok (.iaload, 1) := by decide +kernel
theorem dX5_greatestNet_9 : decode cX5_greatestNet 9 = .ok (.invokevirtual 66, 3) := by decide +kernel
theorem dX5_greatestNet_12 : decode cX5_greatestNet 12 = .ok (.aload_n 0, 1) := by decide +kernel
theorem dX5_greatestNet_13 : decode cX5_greatestNet 13 = .ok (.aload_n 0, 1) := by decide +kernel
theorem dX5_greatestNet_14 : decode cX5_greatestNet 14 = .ok (.getfield 23, 3) := by decide +kernel
theorem dX5_greatestNet_17 : decode cX5_greatestNet 17 = .ok (.iload_n 1, 1) := by decide +kernel
theorem dX5_greatestNet_18 : decode cX5_greatestNet 18 = .ok (.aaload, 1) := by decide +kernel
theorem dX5_greatestNet_19 : decode cX5_greatestNet 19 = .ok (.iload_n 2, 1) := by decide +kernel
theorem dX5_greatestNet_20 : decode cX5_greatestNet 20 = .ok (.iaload, 1) := by decide +kernel
theorem dX5_greatestNet_21 : decode cX5_greatestNet 21 = .ok (.invokevirtual 63, 3) := by decide +kernel
theorem dX5_greatestNet_24 : decode cX5_greatestNet 24 = .ok (.isub, 1) := by decide +kernel
theorem dX5_greatestNet_25 : decode cX5_greatestNet 25 = .ok (.ireturn, 1) := by decide +kernel
theorem dX5_leastOf_0 : decode cX5_leastOf 0 = .ok (.iload_n 1, 1) := by decide +kernel
theorem dX5_leastOf_1 : decode cX5_leastOf 1 = .ok (.sipush 1000, 3) := by decide +kernel
theorem dX5_leastOf_4 : decode cX5_leastOf 4 = .ok (.aload_n 0, 1) := by decide +kernel
theorem dX5_leastOf_5 : decode cX5_leastOf 5 = .ok (.getfield 30, 3) := by decide +kernel
theorem dX5_leastOf_8 : decode cX5_leastOf 8 = .ok (.isub, 1) := by decide +kernel
theorem dX5_leastOf_9 : decode cX5_leastOf 9 = .ok (.imul, 1) := by decide +kernel
theorem dX5_leastOf_10 : decode cX5_leastOf 10 = .ok (.sipush 1000, 3) := by decide +kernel
theorem dX5_leastOf_13 : decode cX5_leastOf 13 = .ok (.idiv, 1) := by decide +kernel
theorem dX5_leastOf_14 : decode cX5_leastOf 14 = .ok (.ireturn, 1) := by decide +kernel
theorem dX5_greatestOf_0 : decode cX5_greatestOf 0 = .ok (.iload_n 1, 1) := by decide +kernel
theorem dX5_greatestOf_1 : decode cX5_greatestOf 1 = .ok (.sipush 1000, 3) := by decide +kernel
theorem dX5_greatestOf_4 : decode cX5_greatestOf 4 = .ok (.aload_n 0, 1) := by decide +kernel
theorem dX5_greatestOf_5 : decode cX5_greatestOf 5 = .ok (.getfield 30, 3) := by decide +kernel
theorem dX5_greatestOf_8 : decode cX5_greatestOf 8 = .ok (.iadd, 1) := by decide +kernel
theorem dX5_greatestOf_9 : decode cX5_greatestOf 9 = .ok (.imul, 1) := by decide +kernel
theorem dX5_greatestOf_10 : decode cX5_greatestOf 10 = .ok (.sipush 999, 3) := by decide +kernel
theorem dX5_greatestOf_13 : decode cX5_greatestOf 13 = .ok (.iadd, 1) := by decide +kernel
theorem dX5_greatestOf_14 : decode cX5_greatestOf 14 = .ok (.sipush 1000, 3) := by decide +kernel
theorem dX5_greatestOf_17 : decode cX5_greatestOf 17 = .ok (.idiv, 1) := by decide +kernel
theorem dX5_greatestOf_18 : decode cX5_greatestOf 18 = .ok (.ireturn, 1) := by decide +kernel
set_option maxRecDepth 20000 in
theorem ggX6_init_X5_init : GoodIn wsX6_init wsX5_init := goodIn_r _ [25, 26, 2, 3, 27, 28, 29, 30, 31, 32, 33, 34, 35, 82, 83, 84, 85, 86, 87, 88] (by decide +kernel) (by decide +kernel)
set_option maxRecDepth 20000 in
theorem gX6_init_X5_init_n9 : GoodIn wsX6_init (wsX5_init) := ggX6_init_X5_init
set_option maxRecDepth 20000 in
theorem ggX6_init_X4_init : GoodIn wsX6_init wsX4_init := goodIn_r _ [38, 39, 2, 3, 27, 40, 41, 42, 43, 44, 45, 46, 47, 48, 94, 95, 96, 97, 98, 99, 100, 101] (by decide +kernel) (by decide +kernel)
set_option maxRecDepth 20000 in
theorem gX6_init_X4_init : GoodIn wsX6_init (wsX4_init) := ggX6_init_X4_init
set_option maxRecDepth 20000 in
theorem ggX6_init_X1_init : GoodIn wsX6_init wsX1_init := goodIn_r _ [50, 51, 2, 3, 52, 27, 53, 102] (by decide +kernel) (by decide +kernel)
set_option maxRecDepth 20000 in
theorem gX6_init_X1_init_n27 : GoodIn wsX6_init (wsX1_init) := ggX6_init_X1_init
set_option maxRecDepth 20000 in
theorem ggX6_init_X3_init : GoodIn wsX6_init wsX3_init := goodIn_r _ [56, 57, 2, 3, 27, 58, 59, 60, 61, 62, 63, 64, 65, 18, 66, 67, 68, 69, 70, 71, 72, 73, 74, 103, 104, 105, 106] (by decide +kernel) (by decide +kernel)
set_option maxRecDepth 20000 in
theorem gX6_init_X3_init : GoodIn wsX6_init (wsX3_init) := ggX6_init_X3_init
set_option maxRecDepth 20000 in
theorem ggX6_init_X0_init : GoodIn wsX6_init wsX0_init := goodIn_r _ [76, 77, 2, 3, 27, 78, 79, 80, 81, 107, 108, 109, 110] (by decide +kernel) (by decide +kernel)
set_option maxRecDepth 20000 in
theorem gX6_init_X0_init_n41 : GoodIn wsX6_init (wsX0_init) := ggX6_init_X0_init
theorem dX6_init_0 : decode cX6_init 0 = .ok (.aload_n 0, 1) := by decide +kernel
theorem dX6_init_1 : decode cX6_init 1 = .ok (.invokespecial 1, 3) := by decide +kernel
theorem dX6_init_4 : decode cX6_init 4 = .ok (.aload_n 0, 1) := by decide +kernel
theorem dX6_init_5 : decode cX6_init 5 = .ok (.new 7, 3) := by decide +kernel
theorem dX6_init_8 : decode cX6_init 8 = .ok (.dup, 1) := by decide +kernel
theorem dX6_init_9 : decode cX6_init 9 = .ok (.invokespecial 9, 3) := by decide +kernel
theorem dX6_init_12 : decode cX6_init 12 = .ok (.putfield 10, 3) := by decide +kernel
theorem dX6_init_15 : decode cX6_init 15 = .ok (.aload_n 0, 1) := by decide +kernel
theorem dX6_init_16 : decode cX6_init 16 = .ok (.new 16, 3) := by decide +kernel
theorem dX6_init_19 : decode cX6_init 19 = .ok (.dup, 1) := by decide +kernel
theorem dX6_init_20 : decode cX6_init 20 = .ok (.aload_n 0, 1) := by decide +kernel
theorem dX6_init_21 : decode cX6_init 21 = .ok (.getfield 10, 3) := by decide +kernel
theorem dX6_init_24 : decode cX6_init 24 = .ok (.invokespecial 18, 3) := by decide +kernel
theorem dX6_init_27 : decode cX6_init 27 = .ok (.putfield 21, 3) := by decide +kernel
theorem dX6_init_30 : decode cX6_init 30 = .ok (.aload_n 0, 1) := by decide +kernel
theorem dX6_init_31 : decode cX6_init 31 = .ok (.new 25, 3) := by decide +kernel
theorem dX6_init_34 : decode cX6_init 34 = .ok (.dup, 1) := by decide +kernel
theorem dX6_init_35 : decode cX6_init 35 = .ok (.invokespecial 27, 3) := by decide +kernel
theorem dX6_init_38 : decode cX6_init 38 = .ok (.putfield 28, 3) := by decide +kernel
theorem dX6_init_41 : decode cX6_init 41 = .ok (.aload_n 0, 1) := by decide +kernel
theorem dX6_init_42 : decode cX6_init 42 = .ok (.new 32, 3) := by decide +kernel
theorem dX6_init_45 : decode cX6_init 45 = .ok (.dup, 1) := by decide +kernel
theorem dX6_init_46 : decode cX6_init 46 = .ok (.invokespecial 34, 3) := by decide +kernel
theorem dX6_init_49 : decode cX6_init 49 = .ok (.putfield 35, 3) := by decide +kernel
theorem dX6_init_52 : decode cX6_init 52 = .ok (.aload_n 0, 1) := by decide +kernel
theorem dX6_init_53 : decode cX6_init 53 = .ok (.new 39, 3) := by decide +kernel
theorem dX6_init_56 : decode cX6_init 56 = .ok (.dup, 1) := by decide +kernel
theorem dX6_init_57 : decode cX6_init 57 = .ok (.invokespecial 41, 3) := by decide +kernel
theorem dX6_init_60 : decode cX6_init 60 = .ok (.putfield 42, 3) := by decide +kernel
theorem dX6_init_63 : decode cX6_init 63 = .ok (.return_, 1) := by decide +kernel
set_option maxRecDepth 20000 in
theorem ggX6_zone_X5_add : GoodIn wsX6_zone wsX5_add := goodIn_r _ [6, 7, 8, 9, 10, 11, 12, 18, 19, 20, 21, 22, 23, 24] (by decide +kernel) (by decide +kernel)
set_option maxRecDepth 20000 in
theorem gX6_zone_X5_add : GoodIn wsX6_zone (wsV RX6 46 RX5 yX5_add wsX5_add) := goodIn_app (goodIn_of _ (by decide +kernel)) ggX6_zone_X5_add
theorem dX6_zone_0 : decode cX6_zone 0 = .ok (.aload_n 0, 1) := by decide +kernel
theorem dX6_zone_1 : decode cX6_zone 1 = .ok (.getfield 10, 3) := by decide +kernel
theorem dX6_zone_4 : decode cX6_zone 4 = .ok (.iload_n 1, 1) := by decide +kernel
theorem dX6_zone_5 : decode cX6_zone 5 = .ok (.iload_n 2, 1) := by decide +kernel
theorem dX6_zone_6 : decode cX6_zone 6 = .ok (.invokevirtual 46, 3) := by decide +kernel
theorem dX6_zone_9 : decode cX6_zone 9 = .ok (.ireturn, 1) := by decide +kernel
set_option maxRecDepth 20000 in
theorem ggX6_rules_X5_setRules : GoodIn wsX6_rules wsX5_setRules := goodIn_r _ [6, 7, 8, 9, 10, 11, 17, 18, 19, 20, 21, 22, 23] (by decide +kernel) (by decide +kernel)
set_option maxRecDepth 20000 in
theorem gX6_rules_X5_setRules : GoodIn wsX6_rules (wsV RX6 50 RX5 yX5_setRules wsX5_setRules) := goodIn_app (goodIn_of _ (by decide +kernel)) ggX6_rules_X5_setRules
theorem dX6_rules_0 : decode cX6_rules 0 = .ok (.aload_n 0, 1) := by decide +kernel
theorem dX6_rules_1 : decode cX6_rules 1 = .ok (.getfield 10, 3) := by decide +kernel
theorem dX6_rules_4 : decode cX6_rules 4 = .ok (.iload_n 1, 1) := by decide +kernel
theorem dX6_rules_5 : decode cX6_rules 5 = .ok (.iload_n 2, 1) := by decide +kernel
theorem dX6_rules_6 : decode cX6_rules 6 = .ok (.invokevirtual 50, 3) := by decide +kernel
theorem dX6_rules_9 : decode cX6_rules 9 = .ok (.ireturn, 1) := by decide +kernel
set_option maxRecDepth 20000 in
theorem ggX6_read_X5_setReading : GoodIn wsX6_read wsX5_setReading := goodIn_r _ [6, 7, 8, 9, 10, 11, 5, 12, 13, 14, 15, 16, 22, 23, 24, 25, 26, 27, 28] (by decide +kernel) (by decide +kernel)
set_option maxRecDepth 20000 in
theorem gX6_read_X5_setReading : GoodIn wsX6_read (wsV RX6 53 RX5 yX5_setReading wsX5_setReading) := goodIn_app (goodIn_of _ (by decide +kernel)) ggX6_read_X5_setReading
theorem dX6_read_0 : decode cX6_read 0 = .ok (.aload_n 0, 1) := by decide +kernel
theorem dX6_read_1 : decode cX6_read 1 = .ok (.getfield 10, 3) := by decide +kernel
theorem dX6_read_4 : decode cX6_read 4 = .ok (.iload_n 1, 1) := by decide +kernel
theorem dX6_read_5 : decode cX6_read 5 = .ok (.iload_n 2, 1) := by decide +kernel
theorem dX6_read_6 : decode cX6_read 6 = .ok (.iload_n 3, 1) := by decide +kernel
theorem dX6_read_7 : decode cX6_read 7 = .ok (.iload 4, 2) := by decide +kernel
theorem dX6_read_9 : decode cX6_read 9 = .ok (.invokevirtual 53, 3) := by decide +kernel
theorem dX6_read_12 : decode cX6_read 12 = .ok (.ireturn, 1) := by decide +kernel
set_option maxRecDepth 20000 in
theorem ggX6_low_X5_lowPart : GoodIn wsX6_low wsX5_lowPart := goodIn_r _ [6, 7, 8, 9, 10, 5, 11, 12, 13, 14, 15, 16, 17, 18, 19, 20, 21, 22, 23, 24, 25, 26, 27, 28, 29, 30, 31, 32, 33, 34, 35, 36, 37, 38, 44, 45, 46, 47, 48, 49, 50] (by decide +kernel) (by decide +kernel)
set_option maxRecDepth 20000 in
theorem gX6_low_X5_lowPart : GoodIn wsX6_low (wsV RX6 57 RX5 yX5_lowPart wsX5_lowPart) := goodIn_app (goodIn_of _ (by decide +kernel)) ggX6_low_X5_lowPart
theorem dX6_low_0 : decode cX6_low 0 = .ok (.aload_n 0, 1) := by decide +kernel
theorem dX6_low_1 : decode cX6_low 1 = .ok (.getfield 10, 3) := by decide +kernel
theorem dX6_low_4 : decode cX6_low 4 = .ok (.iload_n 1, 1) := by decide +kernel
theorem dX6_low_5 : decode cX6_low 5 = .ok (.iload_n 2, 1) := by decide +kernel
theorem dX6_low_6 : decode cX6_low 6 = .ok (.invokevirtual 57, 3) := by decide +kernel
theorem dX6_low_9 : decode cX6_low 9 = .ok (.ireturn, 1) := by decide +kernel
set_option maxRecDepth 20000 in
theorem ggX6_leaks_X5_leak : GoodIn wsX6_leaks wsX5_leak := goodIn_r _ [6, 7, 8, 9, 10, 11, 12, 13, 5, 14, 15, 16, 17, 18, 19, 20, 21, 22, 23, 24, 25, 26, 27, 28, 29, 30, 31, 32, 33, 34, 35, 36, 37, 38, 39, 40, 41, 47, 48, 49, 50, 51, 52, 53] (by decide +kernel) (by decide +kernel)
set_option maxRecDepth 20000 in
theorem gX6_leaks_X5_leak : GoodIn wsX6_leaks (wsV RX6 60 RX5 yX5_leak wsX5_leak) := goodIn_app (goodIn_of _ (by decide +kernel)) ggX6_leaks_X5_leak
theorem dX6_leaks_0 : decode cX6_leaks 0 = .ok (.aload_n 0, 1) := by decide +kernel
theorem dX6_leaks_1 : decode cX6_leaks 1 = .ok (.getfield 10, 3) := by decide +kernel
theorem dX6_leaks_4 : decode cX6_leaks 4 = .ok (.iload_n 1, 1) := by decide +kernel
theorem dX6_leaks_5 : decode cX6_leaks 5 = .ok (.iload_n 2, 1) := by decide +kernel
theorem dX6_leaks_6 : decode cX6_leaks 6 = .ok (.invokevirtual 60, 3) := by decide +kernel
theorem dX6_leaks_9 : decode cX6_leaks 9 = .ok (.ireturn, 1) := by decide +kernel
set_option maxRecDepth 20000 in
theorem ggX6_valve_X4_add : GoodIn wsX6_valve wsX4_add := goodIn_r _ [6, 7, 8, 9, 10, 11, 12, 13, 14, 15, 16, 17, 18, 19, 25, 26, 27, 28, 29, 30, 31, 32, 33, 34, 35, 36, 37, 38, 39] (by decide +kernel) (by decide +kernel)
set_option maxRecDepth 20000 in
theorem gX6_valve_X4_add : GoodIn wsX6_valve (wsV RX6 63 RX4 yX4_add wsX4_add) := goodIn_app (goodIn_of _ (by decide +kernel)) ggX6_valve_X4_add
theorem dX6_valve_0 : decode cX6_valve 0 = .ok (.aload_n 0, 1) := by decide +kernel
theorem dX6_valve_1 : decode cX6_valve 1 = .ok (.getfield 21, 3) := by decide +kernel
theorem dX6_valve_4 : decode cX6_valve 4 = .ok (.iload_n 1, 1) := by decide +kernel
theorem dX6_valve_5 : decode cX6_valve 5 = .ok (.iload_n 2, 1) := by decide +kernel
theorem dX6_valve_6 : decode cX6_valve 6 = .ok (.invokevirtual 63, 3) := by decide +kernel
theorem dX6_valve_9 : decode cX6_valve 9 = .ok (.ireturn, 1) := by decide +kernel
set_option maxRecDepth 20000 in
theorem ggX6_group_X4_leastOfGroup : GoodIn wsX6_group wsX4_leastOfGroup := goodIn_r _ [6, 7, 8, 9, 10, 11, 12, 13, 14, 15, 16, 17, 18, 19, 20, 5, 21, 22, 23, 24, 25, 26, 27, 28, 29, 30, 31, 32, 33, 34, 35, 36, 37, 38, 39, 40, 41, 42, 43, 44, 45, 46, 47, 53, 54, 55, 56, 57, 58, 59, 60, 61, 62, 63, 64, 65, 66, 67] (by decide +kernel) (by decide +kernel)
set_option maxRecDepth 20000 in
theorem gX6_group_X4_leastOfGroup : GoodIn wsX6_group (wsV RX6 64 RX4 yX4_leastOfGroup wsX4_leastOfGroup) := goodIn_app (goodIn_of _ (by decide +kernel)) ggX6_group_X4_leastOfGroup
theorem dX6_group_0 : decode cX6_group 0 = .ok (.aload_n 0, 1) := by decide +kernel
theorem dX6_group_1 : decode cX6_group 1 = .ok (.getfield 21, 3) := by decide +kernel
theorem dX6_group_4 : decode cX6_group 4 = .ok (.iload_n 1, 1) := by decide +kernel
theorem dX6_group_5 : decode cX6_group 5 = .ok (.iload_n 2, 1) := by decide +kernel
theorem dX6_group_6 : decode cX6_group 6 = .ok (.invokevirtual 64, 3) := by decide +kernel
theorem dX6_group_9 : decode cX6_group 9 = .ok (.ireturn, 1) := by decide +kernel
set_option maxRecDepth 20000 in
theorem ggX6_explains_X4_answerExplains : GoodIn wsX6_explains wsX4_answerExplains := goodIn_r _ [6, 7, 8, 9, 5, 10, 11, 12, 13, 14, 15, 16, 17, 18, 19, 20, 21, 22, 23, 24, 25, 26, 27, 28, 29, 30, 31, 32, 33, 34, 35, 36, 37, 38, 39, 40, 41, 42, 43, 44, 45, 46, 47, 48, 49, 50, 51, 52, 53, 54, 55, 56, 57, 58, 59, 60, 61, 62, 63, 64, 65, 66, 67, 68, 69, 70, 71, 72, 73, 74, 75, 76, 77, 78, 79, 80, 81, 82, 83, 84, 85, 86, 87, 88, 89, 90, 96, 97, 98, 99, 100, 101, 102, 103, 104, 105, 106, 107, 108, 109, 110] (by decide +kernel) (by decide +kernel)
set_option maxRecDepth 20000 in
theorem gX6_explains_X4_answerExplains : GoodIn wsX6_explains (wsV RX6 67 RX4 yX4_answerExplains wsX4_answerExplains) := goodIn_app (goodIn_of _ (by decide +kernel)) ggX6_explains_X4_answerExplains
theorem dX6_explains_0 : decode cX6_explains 0 = .ok (.aload_n 0, 1) := by decide +kernel
theorem dX6_explains_1 : decode cX6_explains 1 = .ok (.getfield 21, 3) := by decide +kernel
theorem dX6_explains_4 : decode cX6_explains 4 = .ok (.iload_n 1, 1) := by decide +kernel
theorem dX6_explains_5 : decode cX6_explains 5 = .ok (.invokevirtual 67, 3) := by decide +kernel
theorem dX6_explains_8 : decode cX6_explains 8 = .ok (.ireturn, 1) := by decide +kernel
set_option maxRecDepth 20000 in
theorem ggX6_fewest_X4_fewestSet : GoodIn wsX6_fewest wsX4_fewestSet := goodIn_r _ [6, 7, 8, 9, 5, 10, 11, 12, 13, 14, 15, 16, 17, 18, 19, 20, 21, 22, 23, 24, 25, 26, 27, 28, 29, 30, 31, 32, 33, 34, 35, 36, 37, 38, 39, 40, 41, 42, 43, 44, 45, 46, 47, 48, 49, 50, 51, 52, 53, 54, 55, 56, 57, 58, 59, 60, 61, 62, 63, 64, 65, 66, 67, 68, 69, 70, 71, 72, 73, 74, 75, 76, 77, 78, 79, 80, 81, 82, 83, 84, 85, 86, 87, 88, 89, 90, 91, 92, 93, 99, 100, 101, 102, 103, 104, 105, 106, 107, 108, 109, 110, 111, 112, 113] (by decide +kernel) (by decide +kernel)
set_option maxRecDepth 20000 in
theorem gX6_fewest_X4_fewestSet : GoodIn wsX6_fewest (wsV RX6 71 RX4 yX4_fewestSet wsX4_fewestSet) := goodIn_app (goodIn_of _ (by decide +kernel)) ggX6_fewest_X4_fewestSet
theorem dX6_fewest_0 : decode cX6_fewest 0 = .ok (.aload_n 0, 1) := by decide +kernel
theorem dX6_fewest_1 : decode cX6_fewest 1 = .ok (.getfield 21, 3) := by decide +kernel
theorem dX6_fewest_4 : decode cX6_fewest 4 = .ok (.invokevirtual 71, 3) := by decide +kernel
theorem dX6_fewest_7 : decode cX6_fewest 7 = .ok (.ireturn, 1) := by decide +kernel
set_option maxRecDepth 20000 in
theorem ggX6_sample_X1_setSample : GoodIn wsX6_sample wsX1_setSample := goodIn_r _ [6, 7, 8, 9, 10, 11, 17] (by decide +kernel) (by decide +kernel)
set_option maxRecDepth 20000 in
theorem gX6_sample_X1_setSample : GoodIn wsX6_sample (wsV RX6 75 RX1 yX1_setSample wsX1_setSample) := goodIn_app (goodIn_of _ (by decide +kernel)) ggX6_sample_X1_setSample
theorem dX6_sample_0 : decode cX6_sample 0 = .ok (.aload_n 0, 1) := by decide +kernel
theorem dX6_sample_1 : decode cX6_sample 1 = .ok (.getfield 28, 3) := by decide +kernel
theorem dX6_sample_4 : decode cX6_sample 4 = .ok (.iload_n 1, 1) := by decide +kernel
theorem dX6_sample_5 : decode cX6_sample 5 = .ok (.iload_n 2, 1) := by decide +kernel
theorem dX6_sample_6 : decode cX6_sample 6 = .ok (.iload_n 3, 1) := by decide +kernel
theorem dX6_sample_7 : decode cX6_sample 7 = .ok (.invokevirtual 75, 3) := by decide +kernel
theorem dX6_sample_10 : decode cX6_sample 10 = .ok (.ireturn, 1) := by decide +kernel
set_option maxRecDepth 20000 in
theorem ggX6_echo_X1_copySamples : GoodIn wsX6_echo wsX1_copySamples := goodIn_r _ [6, 7, 8, 9, 10, 16] (by decide +kernel) (by decide +kernel)
set_option maxRecDepth 20000 in
theorem gX6_echo_X1_copySamples : GoodIn wsX6_echo (wsV RX6 79 RX1 yX1_copySamples wsX1_copySamples) := goodIn_app (goodIn_of _ (by decide +kernel)) ggX6_echo_X1_copySamples
theorem dX6_echo_0 : decode cX6_echo 0 = .ok (.aload_n 0, 1) := by decide +kernel
theorem dX6_echo_1 : decode cX6_echo 1 = .ok (.getfield 28, 3) := by decide +kernel
theorem dX6_echo_4 : decode cX6_echo 4 = .ok (.iload_n 1, 1) := by decide +kernel
theorem dX6_echo_5 : decode cX6_echo 5 = .ok (.iload_n 2, 1) := by decide +kernel
theorem dX6_echo_6 : decode cX6_echo 6 = .ok (.iload_n 3, 1) := by decide +kernel
theorem dX6_echo_7 : decode cX6_echo 7 = .ok (.iload 4, 2) := by decide +kernel
theorem dX6_echo_9 : decode cX6_echo 9 = .ok (.invokevirtual 79, 3) := by decide +kernel
theorem dX6_echo_12 : decode cX6_echo 12 = .ok (.ireturn, 1) := by decide +kernel
set_option maxRecDepth 20000 in
theorem ggX6_sum_X1_sumPart : GoodIn wsX6_sum wsX1_sumPart := goodIn_r _ [6, 7, 8, 9, 10, 11, 12, 13, 5, 14, 15, 16, 17, 18, 19, 20, 21, 22, 23, 29] (by decide +kernel) (by decide +kernel)
set_option maxRecDepth 20000 in
theorem gX6_sum_X1_sumPart : GoodIn wsX6_sum (wsV RX6 83 RX1 yX1_sumPart wsX1_sumPart) := goodIn_app (goodIn_of _ (by decide +kernel)) ggX6_sum_X1_sumPart
theorem dX6_sum_0 : decode cX6_sum 0 = .ok (.aload_n 0, 1) := by decide +kernel
theorem dX6_sum_1 : decode cX6_sum 1 = .ok (.getfield 28, 3) := by decide +kernel
theorem dX6_sum_4 : decode cX6_sum 4 = .ok (.iload_n 1, 1) := by decide +kernel
theorem dX6_sum_5 : decode cX6_sum 5 = .ok (.iload_n 2, 1) := by decide +kernel
theorem dX6_sum_6 : decode cX6_sum 6 = .ok (.invokevirtual 83, 3) := by decide +kernel
theorem dX6_sum_9 : decode cX6_sum 9 = .ok (.ireturn, 1) := by decide +kernel
set_option maxRecDepth 20000 in
theorem ggX6_delay_X1_findDelay : GoodIn wsX6_delay wsX1_findDelay := goodIn_r _ [6, 7, 8, 9, 5, 10, 11, 12, 13, 14, 15, 16, 17, 18, 19, 20, 21, 22, 23, 24, 25, 26, 27, 28, 29, 30, 31, 37] (by decide +kernel) (by decide +kernel)
set_option maxRecDepth 20000 in
theorem gX6_delay_X1_findDelay : GoodIn wsX6_delay (wsV RX6 86 RX1 yX1_findDelay wsX1_findDelay) := goodIn_app (goodIn_of _ (by decide +kernel)) ggX6_delay_X1_findDelay
theorem dX6_delay_0 : decode cX6_delay 0 = .ok (.aload_n 0, 1) := by decide +kernel
theorem dX6_delay_1 : decode cX6_delay 1 = .ok (.getfield 28, 3) := by decide +kernel
theorem dX6_delay_4 : decode cX6_delay 4 = .ok (.iload_n 1, 1) := by decide +kernel
theorem dX6_delay_5 : decode cX6_delay 5 = .ok (.invokevirtual 86, 3) := by decide +kernel
theorem dX6_delay_8 : decode cX6_delay 8 = .ok (.ireturn, 1) := by decide +kernel
set_option maxRecDepth 20000 in
theorem ggX6_place_X1_twicePlace : GoodIn wsX6_place wsX1_twicePlace := goodIn_r _ [6, 7, 8, 9, 10, 11, 12, 13, 14, 15, 16, 17, 18, 19, 20, 5, 21, 22, 23, 24, 25, 26, 27, 28, 29, 30, 31, 32, 33, 34, 35, 36, 37, 38, 39, 40, 41, 42, 43, 44, 45, 51] (by decide +kernel) (by decide +kernel)
set_option maxRecDepth 20000 in
theorem gX6_place_X1_twicePlace : GoodIn wsX6_place (wsV RX6 90 RX1 yX1_twicePlace wsX1_twicePlace) := goodIn_app (goodIn_of _ (by decide +kernel)) ggX6_place_X1_twicePlace
theorem dX6_place_0 : decode cX6_place 0 = .ok (.aload_n 0, 1) := by decide +kernel
theorem dX6_place_1 : decode cX6_place 1 = .ok (.getfield 28, 3) := by decide +kernel
theorem dX6_place_4 : decode cX6_place 4 = .ok (.iload_n 1, 1) := by decide +kernel
theorem dX6_place_5 : decode cX6_place 5 = .ok (.iload_n 2, 1) := by decide +kernel
theorem dX6_place_6 : decode cX6_place 6 = .ok (.iload_n 3, 1) := by decide +kernel
theorem dX6_place_7 : decode cX6_place 7 = .ok (.iload 4, 2) := by decide +kernel
theorem dX6_place_9 : decode cX6_place 9 = .ok (.invokevirtual 90, 3) := by decide +kernel
theorem dX6_place_12 : decode cX6_place 12 = .ok (.ireturn, 1) := by decide +kernel
set_option maxRecDepth 20000 in
theorem ggX6_section_X3_setWeight : GoodIn wsX6_section wsX3_setWeight := goodIn_r _ [6, 7, 8, 9, 10, 11, 12, 13, 14, 5, 15, 16, 17, 18, 19, 20, 21, 22, 23, 24, 25, 31, 32, 33, 34] (by decide +kernel) (by decide +kernel)
set_option maxRecDepth 20000 in
theorem gX6_section_X3_setWeight : GoodIn wsX6_section (wsV RX6 93 RX3 yX3_setWeight wsX3_setWeight) := goodIn_app (goodIn_of _ (by decide +kernel)) ggX6_section_X3_setWeight
theorem dX6_section_0 : decode cX6_section 0 = .ok (.aload_n 0, 1) := by decide +kernel
theorem dX6_section_1 : decode cX6_section 1 = .ok (.getfield 35, 3) := by decide +kernel
theorem dX6_section_4 : decode cX6_section 4 = .ok (.iload_n 1, 1) := by decide +kernel
theorem dX6_section_5 : decode cX6_section 5 = .ok (.iload_n 2, 1) := by decide +kernel
theorem dX6_section_6 : decode cX6_section 6 = .ok (.iload_n 3, 1) := by decide +kernel
theorem dX6_section_7 : decode cX6_section 7 = .ok (.invokevirtual 93, 3) := by decide +kernel
theorem dX6_section_10 : decode cX6_section 10 = .ok (.ireturn, 1) := by decide +kernel
set_option maxRecDepth 20000 in
theorem ggX6_cost_X3_planCost : GoodIn wsX6_cost wsX3_planCost := goodIn_r _ [6, 7, 8, 9, 10, 5, 11, 12, 13, 14, 15, 21, 22, 23, 24] (by decide +kernel) (by decide +kernel)
set_option maxRecDepth 20000 in
theorem gX6_cost_X3_planCost : GoodIn wsX6_cost (wsV RX6 96 RX3 yX3_planCost wsX3_planCost) := goodIn_app (goodIn_of _ (by decide +kernel)) ggX6_cost_X3_planCost
theorem dX6_cost_0 : decode cX6_cost 0 = .ok (.aload_n 0, 1) := by decide +kernel
theorem dX6_cost_1 : decode cX6_cost 1 = .ok (.getfield 35, 3) := by decide +kernel
theorem dX6_cost_4 : decode cX6_cost 4 = .ok (.iload_n 1, 1) := by decide +kernel
theorem dX6_cost_5 : decode cX6_cost 5 = .ok (.iload_n 2, 1) := by decide +kernel
theorem dX6_cost_6 : decode cX6_cost 6 = .ok (.invokevirtual 96, 3) := by decide +kernel
theorem dX6_cost_9 : decode cX6_cost 9 = .ok (.ireturn, 1) := by decide +kernel
set_option maxRecDepth 20000 in
theorem ggX6_closes_X3_planStart : GoodIn wsX6_closes wsX3_planStart := goodIn_r _ [6, 7, 8, 9, 10, 5, 11, 12, 13, 14, 15, 21, 22, 23, 24] (by decide +kernel) (by decide +kernel)
set_option maxRecDepth 20000 in
theorem gX6_closes_X3_planStart : GoodIn wsX6_closes (wsV RX6 99 RX3 yX3_planStart wsX3_planStart) := goodIn_app (goodIn_of _ (by decide +kernel)) ggX6_closes_X3_planStart
theorem dX6_closes_0 : decode cX6_closes 0 = .ok (.aload_n 0, 1) := by decide +kernel
theorem dX6_closes_1 : decode cX6_closes 1 = .ok (.getfield 35, 3) := by decide +kernel
theorem dX6_closes_4 : decode cX6_closes 4 = .ok (.iload_n 1, 1) := by decide +kernel
theorem dX6_closes_5 : decode cX6_closes 5 = .ok (.iload_n 2, 1) := by decide +kernel
theorem dX6_closes_6 : decode cX6_closes 6 = .ok (.invokevirtual 99, 3) := by decide +kernel
theorem dX6_closes_9 : decode cX6_closes 9 = .ok (.ireturn, 1) := by decide +kernel
set_option maxRecDepth 20000 in
theorem ggX6_closings_X3_closingsFor : GoodIn wsX6_closings wsX3_closingsFor := goodIn_r _ [6, 7, 8, 9, 10, 11, 17, 18, 19, 20] (by decide +kernel) (by decide +kernel)
set_option maxRecDepth 20000 in
theorem gX6_closings_X3_closingsFor : GoodIn wsX6_closings (wsV RX6 102 RX3 yX3_closingsFor wsX3_closingsFor) := goodIn_app (goodIn_of _ (by decide +kernel)) ggX6_closings_X3_closingsFor
theorem dX6_closings_0 : decode cX6_closings 0 = .ok (.aload_n 0, 1) := by decide +kernel
theorem dX6_closings_1 : decode cX6_closings 1 = .ok (.getfield 35, 3) := by decide +kernel
theorem dX6_closings_4 : decode cX6_closings 4 = .ok (.iload_n 1, 1) := by decide +kernel
theorem dX6_closings_5 : decode cX6_closings 5 = .ok (.invokevirtual 102, 3) := by decide +kernel
theorem dX6_closings_8 : decode cX6_closings 8 = .ok (.ireturn, 1) := by decide +kernel
set_option maxRecDepth 20000 in
theorem ggX6_dig_X0_add : GoodIn wsX6_dig wsX0_add := goodIn_r _ [6, 7, 8, 9, 10, 11, 12, 13, 14, 15, 5, 16, 17, 18, 19, 20, 21, 27, 28, 29, 30] (by decide +kernel) (by decide +kernel)
set_option maxRecDepth 20000 in
theorem gX6_dig_X0_add : GoodIn wsX6_dig (wsV RX6 105 RX0 yX0_add wsX0_add) := goodIn_app (goodIn_of _ (by decide +kernel)) ggX6_dig_X0_add
theorem dX6_dig_0 : decode cX6_dig 0 = .ok (.aload_n 0, 1) := by decide +kernel
theorem dX6_dig_1 : decode cX6_dig 1 = .ok (.getfield 42, 3) := by decide +kernel
theorem dX6_dig_4 : decode cX6_dig 4 = .ok (.iload_n 1, 1) := by decide +kernel
theorem dX6_dig_5 : decode cX6_dig 5 = .ok (.iload_n 2, 1) := by decide +kernel
theorem dX6_dig_6 : decode cX6_dig 6 = .ok (.invokevirtual 105, 3) := by decide +kernel
theorem dX6_dig_9 : decode cX6_dig 9 = .ok (.ireturn, 1) := by decide +kernel
set_option maxRecDepth 20000 in
theorem ggX6_clear_X0_removeAll : GoodIn wsX6_clear wsX0_removeAll := goodIn_r _ [6, 7, 13, 14, 15, 16] (by decide +kernel) (by decide +kernel)
set_option maxRecDepth 20000 in
theorem gX6_clear_X0_removeAll : GoodIn wsX6_clear (wsV RX6 106 RX0 yX0_removeAll wsX0_removeAll) := goodIn_app (goodIn_of _ (by decide +kernel)) ggX6_clear_X0_removeAll
theorem dX6_clear_0 : decode cX6_clear 0 = .ok (.aload_n 0, 1) := by decide +kernel
theorem dX6_clear_1 : decode cX6_clear 1 = .ok (.getfield 42, 3) := by decide +kernel
theorem dX6_clear_4 : decode cX6_clear 4 = .ok (.invokevirtual 106, 3) := by decide +kernel
theorem dX6_clear_7 : decode cX6_clear 7 = .ok (.ireturn, 1) := by decide +kernel
set_option maxRecDepth 20000 in
theorem ggX6_lost_X0_lostInOrder : GoodIn wsX6_lost wsX0_lostInOrder := goodIn_r _ [6, 7, 8, 9, 10, 16, 17, 18, 19] (by decide +kernel) (by decide +kernel)
set_option maxRecDepth 20000 in
theorem gX6_lost_X0_lostInOrder : GoodIn wsX6_lost (wsV RX6 109 RX0 yX0_lostInOrder wsX0_lostInOrder) := goodIn_app (goodIn_of _ (by decide +kernel)) ggX6_lost_X0_lostInOrder
theorem dX6_lost_0 : decode cX6_lost 0 = .ok (.aload_n 0, 1) := by decide +kernel
theorem dX6_lost_1 : decode cX6_lost 1 = .ok (.getfield 42, 3) := by decide +kernel
theorem dX6_lost_4 : decode cX6_lost 4 = .ok (.invokevirtual 109, 3) := by decide +kernel
theorem dX6_lost_7 : decode cX6_lost 7 = .ok (.ireturn, 1) := by decide +kernel
set_option maxRecDepth 20000 in
theorem ggX6_order_X0_inOrder : GoodIn wsX6_order wsX0_inOrder := goodIn_r _ [6, 7, 8, 9, 10, 11, 17, 18, 19, 20] (by decide +kernel) (by decide +kernel)
set_option maxRecDepth 20000 in
theorem gX6_order_X0_inOrder : GoodIn wsX6_order (wsV RX6 112 RX0 yX0_inOrder wsX0_inOrder) := goodIn_app (goodIn_of _ (by decide +kernel)) ggX6_order_X0_inOrder
theorem dX6_order_0 : decode cX6_order 0 = .ok (.aload_n 0, 1) := by decide +kernel
theorem dX6_order_1 : decode cX6_order 1 = .ok (.getfield 42, 3) := by decide +kernel
theorem dX6_order_4 : decode cX6_order 4 = .ok (.iload_n 1, 1) := by decide +kernel
theorem dX6_order_5 : decode cX6_order 5 = .ok (.invokevirtual 112, 3) := by decide +kernel
theorem dX6_order_8 : decode cX6_order 8 = .ok (.ireturn, 1) := by decide +kernel
set_option maxRecDepth 20000 in
theorem ggX6_pulled_X2_leakAt : GoodIn wsX6_pulled wsX2_leakAt := goodIn_r _ [4, 5, 6, 7, 8, 9, 10, 3, 11, 12, 13, 14] (by decide +kernel) (by decide +kernel)
set_option maxRecDepth 20000 in
theorem gX6_pulled_X2_leakAt : GoodIn wsX6_pulled (va_wsS RX6 115 yX2_leakAt wsX2_leakAt) := goodIn_app (goodIn_of _ (by decide +kernel)) ggX6_pulled_X2_leakAt
theorem dX6_pulled_0 : decode cX6_pulled 0 = .ok (.iload_n 1, 1) := by decide +kernel
theorem dX6_pulled_1 : decode cX6_pulled 1 = .ok (.iload_n 2, 1) := by decide +kernel
theorem dX6_pulled_2 : decode cX6_pulled 2 = .ok (.iload_n 3, 1) := by decide +kernel
theorem dX6_pulled_3 : decode cX6_pulled 3 = .ok (.invokestatic 115, 3) := by decide +kernel
theorem dX6_pulled_6 : decode cX6_pulled 6 = .ok (.ireturn, 1) := by decide +kernel
set_option maxRecDepth 20000 in
theorem ggX6_count_X5_number : GoodIn wsX6_count wsX5_number := goodIn_r _ [10, 11, 48, 49, 50, 51, 52, 53, 54] (by decide +kernel) (by decide +kernel)
set_option maxRecDepth 20000 in
theorem gX6_count_X5_number : GoodIn wsX6_count (wsV RX6 120 RX5 yX5_number wsX5_number) := goodIn_app (goodIn_of _ (by decide +kernel)) ggX6_count_X5_number
set_option maxRecDepth 20000 in
theorem ggX6_count_X4_number : GoodIn wsX6_count wsX4_number := goodIn_r _ [16, 17, 55, 56, 57, 58, 59, 60, 61, 62] (by decide +kernel) (by decide +kernel)
set_option maxRecDepth 20000 in
theorem gX6_count_X4_number : GoodIn wsX6_count (wsV RX6 123 RX4 yX4_number wsX4_number) := goodIn_app (goodIn_of _ (by decide +kernel)) ggX6_count_X4_number
set_option maxRecDepth 20000 in
theorem ggX6_count_X3_number : GoodIn wsX6_count wsX3_number := goodIn_r _ [22, 23, 63, 64, 65, 66] (by decide +kernel) (by decide +kernel)
set_option maxRecDepth 20000 in
theorem gX6_count_X3_number : GoodIn wsX6_count (wsV RX6 124 RX3 yX3_number wsX3_number) := goodIn_app (goodIn_of _ (by decide +kernel)) ggX6_count_X3_number
set_option maxRecDepth 20000 in
theorem ggX6_count_X0_number : GoodIn wsX6_count wsX0_number := goodIn_r _ [28, 29, 67, 68, 69, 70] (by decide +kernel) (by decide +kernel)
set_option maxRecDepth 20000 in
theorem gX6_count_X0_number : GoodIn wsX6_count (wsV RX6 125 RX0 yX0_number wsX0_number) := goodIn_app (goodIn_of _ (by decide +kernel)) ggX6_count_X0_number
set_option maxRecDepth 20000 in
theorem ggX6_count_X5_readingsLost : GoodIn wsX6_count wsX5_readingsLost := goodIn_r _ [33, 11, 34, 35, 48, 49, 50, 51, 52, 53, 54] (by decide +kernel) (by decide +kernel)
set_option maxRecDepth 20000 in
theorem gX6_count_X5_readingsLost : GoodIn wsX6_count (wsV RX6 126 RX5 yX5_readingsLost wsX5_readingsLost) := goodIn_app (goodIn_of _ (by decide +kernel)) ggX6_count_X5_readingsLost
set_option maxRecDepth 20000 in
theorem ggX6_count_X1_samplesLost : GoodIn wsX6_count wsX1_samplesLost := goodIn_r _ [40, 41, 42, 71] (by decide +kernel) (by decide +kernel)
set_option maxRecDepth 20000 in
theorem gX6_count_X1_samplesLost : GoodIn wsX6_count (wsV RX6 129 RX1 yX1_samplesLost wsX1_samplesLost) := goodIn_app (goodIn_of _ (by decide +kernel)) ggX6_count_X1_samplesLost
theorem dX6_count_0 : decode cX6_count 0 = .ok (.iload_n 1, 1) := by decide +kernel
theorem dX6_count_1 : decode cX6_count 1 = .ok (.tableswitch 87 0 5 #[39, 47, 55, 63, 71, 79], 39) := by decide +kernel
theorem dX6_count_40 : decode cX6_count 40 = .ok (.aload_n 0, 1) := by decide +kernel
theorem dX6_count_41 : decode cX6_count 41 = .ok (.getfield 10, 3) := by decide +kernel
theorem dX6_count_44 : decode cX6_count 44 = .ok (.invokevirtual 120, 3) := by decide +kernel
theorem dX6_count_47 : decode cX6_count 47 = .ok (.ireturn, 1) := by decide +kernel
theorem dX6_count_48 : decode cX6_count 48 = .ok (.aload_n 0, 1) := by decide +kernel
theorem dX6_count_49 : decode cX6_count 49 = .ok (.getfield 21, 3) := by decide +kernel
theorem dX6_count_52 : decode cX6_count 52 = .ok (.invokevirtual 123, 3) := by decide +kernel
theorem dX6_count_55 : decode cX6_count 55 = .ok (.ireturn, 1) := by decide +kernel
theorem dX6_count_56 : decode cX6_count 56 = .ok (.aload_n 0, 1) := by decide +kernel
theorem dX6_count_57 : decode cX6_count 57 = .ok (.getfield 35, 3) := by decide +kernel
theorem dX6_count_60 : decode cX6_count 60 = .ok (.invokevirtual 124, 3) := by decide +kernel
theorem dX6_count_63 : decode cX6_count 63 = .ok (.ireturn, 1) := by decide +kernel
theorem dX6_count_64 : decode cX6_count 64 = .ok (.aload_n 0, 1) := by decide +kernel
theorem dX6_count_65 : decode cX6_count 65 = .ok (.getfield 42, 3) := by decide +kernel
theorem dX6_count_68 : decode cX6_count 68 = .ok (.invokevirtual 125, 3) := by decide +kernel
theorem dX6_count_71 : decode cX6_count 71 = .ok (.ireturn, 1) := by decide +kernel
theorem dX6_count_72 : decode cX6_count 72 = .ok (.aload_n 0, 1) := by decide +kernel
theorem dX6_count_73 : decode cX6_count 73 = .ok (.getfield 10, 3) := by decide +kernel
theorem dX6_count_76 : decode cX6_count 76 = .ok (.invokevirtual 126, 3) := by decide +kernel
theorem dX6_count_79 : decode cX6_count 79 = .ok (.ireturn, 1) := by decide +kernel
theorem dX6_count_80 : decode cX6_count 80 = .ok (.aload_n 0, 1) := by decide +kernel
theorem dX6_count_81 : decode cX6_count 81 = .ok (.getfield 28, 3) := by decide +kernel
theorem dX6_count_84 : decode cX6_count 84 = .ok (.invokevirtual 129, 3) := by decide +kernel
theorem dX6_count_87 : decode cX6_count 87 = .ok (.ireturn, 1) := by decide +kernel
theorem dX6_count_88 : decode cX6_count 88 = .ok (.bipush (-2), 2) := by decide +kernel
theorem dX6_count_90 : decode cX6_count 90 = .ok (.ireturn, 1) := by decide +kernel
set_option maxRecDepth 20000 in
theorem ggX6_digest_X6_count : GoodIn wsX6_digest wsX6_count := goodIn_r _ [11, 2, 3, 5, 6, 4, 12, 13, 14, 15, 16, 17, 18, 19, 20, 21, 22, 23, 24, 25, 26, 27, 28, 29, 30, 31, 32, 33, 34, 35, 36, 37, 38, 39, 40, 41, 42, 43, 44, 45, 46, 47, 48, 113, 114, 115, 116, 117, 118, 119, 120, 121, 122, 123, 124, 125, 126, 127, 128, 129, 130, 131, 132, 133, 134, 135, 136, 137, 138, 139, 140, 141] (by decide +kernel) (by decide +kernel)
set_option maxRecDepth 20000 in
theorem gX6_digest_X6_count : GoodIn wsX6_digest (wsV RX6 134 RX6 yX6_count wsX6_count) := goodIn_app (goodIn_of _ (by decide +kernel)) ggX6_digest_X6_count
set_option maxRecDepth 20000 in
theorem ggX6_digest_X6_mix : GoodIn wsX6_digest wsX6_mix := goodIn_r _ [51, 52] (by decide +kernel) (by decide +kernel)
set_option maxRecDepth 20000 in
theorem gX6_digest_X6_mix : GoodIn wsX6_digest (va_wsS RX6 137 yX6_mix wsX6_mix) := goodIn_app (goodIn_of _ (by decide +kernel)) ggX6_digest_X6_mix
set_option maxRecDepth 20000 in
theorem ggX6_digest_X5_mixInto : GoodIn wsX6_digest wsX5_mixInto := goodIn_r _ [56, 17, 40, 41, 57, 58, 59, 15, 60, 61, 62, 63, 64, 65, 66, 67, 68, 69, 10, 70, 71, 72, 73, 74, 75, 76, 77, 78, 79, 80, 81, 82, 83, 84, 85, 86, 87, 88, 89, 90, 91, 50, 51, 52, 118, 119, 120, 121, 122, 123, 124] (by decide +kernel) (by decide +kernel)
set_option maxRecDepth 20000 in
theorem gX6_digest_X5_mixInto : GoodIn wsX6_digest (wsV RX6 141 RX5 yX5_mixInto wsX5_mixInto) := goodIn_app (goodIn_of _ (by decide +kernel)) ggX6_digest_X5_mixInto
set_option maxRecDepth 20000 in
theorem ggX6_digest_X4_mixInto : GoodIn wsX6_digest wsX4_mixInto := goodIn_r _ [95, 23, 96, 97, 50, 10, 51, 52, 125, 126, 127, 128, 129, 130, 131, 132] (by decide +kernel) (by decide +kernel)
set_option maxRecDepth 20000 in
theorem gX6_digest_X4_mixInto : GoodIn wsX6_digest (wsV RX6 145 RX4 yX4_mixInto wsX4_mixInto) := goodIn_app (goodIn_of _ (by decide +kernel)) ggX6_digest_X4_mixInto
set_option maxRecDepth 20000 in
theorem ggX6_digest_X1_mixInto : GoodIn wsX6_digest wsX1_mixInto := goodIn_r _ [101, 47, 50, 10, 51, 52, 141] (by decide +kernel) (by decide +kernel)
set_option maxRecDepth 20000 in
theorem gX6_digest_X1_mixInto : GoodIn wsX6_digest (wsV RX6 146 RX1 yX1_mixInto wsX1_mixInto) := goodIn_app (goodIn_of _ (by decide +kernel)) ggX6_digest_X1_mixInto
set_option maxRecDepth 20000 in
theorem ggX6_digest_X3_mixInto : GoodIn wsX6_digest wsX3_mixInto := goodIn_r _ [105, 29, 106, 50, 10, 51, 52, 133, 134, 135, 136] (by decide +kernel) (by decide +kernel)
set_option maxRecDepth 20000 in
theorem gX6_digest_X3_mixInto : GoodIn wsX6_digest (wsV RX6 147 RX3 yX3_mixInto wsX3_mixInto) := goodIn_app (goodIn_of _ (by decide +kernel)) ggX6_digest_X3_mixInto
set_option maxRecDepth 20000 in
theorem ggX6_digest_X0_mixInto : GoodIn wsX6_digest wsX0_mixInto := goodIn_r _ [110, 35, 111, 112, 50, 10, 51, 52, 137, 138, 139, 140] (by decide +kernel) (by decide +kernel)
set_option maxRecDepth 20000 in
theorem gX6_digest_X0_mixInto : GoodIn wsX6_digest (wsV RX6 148 RX0 yX0_mixInto wsX0_mixInto) := goodIn_app (goodIn_of _ (by decide +kernel)) ggX6_digest_X0_mixInto
theorem dX6_digest_0 : decode cX6_digest 0 = .ok (.ldc2_w 132, 3) := by decide +kernel
theorem dX6_digest_3 : decode cX6_digest 3 = .ok (.lstore_n 1, 1) := by decide +kernel
theorem dX6_digest_4 : decode cX6_digest 4 = .ok (.iconst 0, 1) := by decide +kernel
theorem dX6_digest_5 : decode cX6_digest 5 = .ok (.istore_n 3, 1) := by decide +kernel
theorem dX6_digest_6 : decode cX6_digest 6 = .ok (.iload_n 3, 1) := by decide +kernel
theorem dX6_digest_7 : decode cX6_digest 7 = .ok (.iconst 5, 1) := by decide +kernel
theorem dX6_digest_8 : decode cX6_digest 8 = .ok (.if_icmp .gt 19, 3) := by decide +kernel
theorem dX6_digest_11 : decode cX6_digest 11 = .ok (.lload_n 1, 1) := by decide +kernel
theorem dX6_digest_12 : decode cX6_digest 12 = .ok (.aload_n 0, 1) := by decide +kernel
theorem dX6_digest_13 : decode cX6_digest 13 = .ok (.iload_n 3, 1) := by decide +kernel
theorem dX6_digest_14 : decode cX6_digest 14 = .ok (.invokevirtual 134, 3) := by decide +kernel
theorem dX6_digest_17 : decode cX6_digest 17 = .ok (.invokestatic 137, 3) := by decide +kernel
theorem dX6_digest_20 : decode cX6_digest 20 = .ok (.lstore_n 1, 1) := by decide +kernel
theorem dX6_digest_21 : decode cX6_digest 21 = .ok (.iinc 3 1, 3) := by decide +kernel
theorem dX6_digest_24 : decode cX6_digest 24 = .ok (.goto (-18), 3) := by decide +kernel
theorem dX6_digest_27 : decode cX6_digest 27 = .ok (.aload_n 0, 1) := by decide +kernel
theorem dX6_digest_28 : decode cX6_digest 28 = .ok (.getfield 10, 3) := by decide +kernel
theorem dX6_digest_31 : decode cX6_digest 31 = .ok (.lload_n 1, 1) := by decide +kernel
theorem dX6_digest_32 : decode cX6_digest 32 = .ok (.invokevirtual 141, 3) := by decide +kernel
theorem dX6_digest_35 : decode cX6_digest 35 = .ok (.lstore_n 1, 1) := by decide +kernel
theorem dX6_digest_36 : decode cX6_digest 36 = .ok (.aload_n 0, 1) := by decide +kernel
theorem dX6_digest_37 : decode cX6_digest 37 = .ok (.getfield 21, 3) := by decide +kernel
theorem dX6_digest_40 : decode cX6_digest 40 = .ok (.lload_n 1, 1) := by decide +kernel
theorem dX6_digest_41 : decode cX6_digest 41 = .ok (.invokevirtual 145, 3) := by decide +kernel
theorem dX6_digest_44 : decode cX6_digest 44 = .ok (.lstore_n 1, 1) := by decide +kernel
theorem dX6_digest_45 : decode cX6_digest 45 = .ok (.aload_n 0, 1) := by decide +kernel
theorem dX6_digest_46 : decode cX6_digest 46 = .ok (.getfield 28, 3) := by decide +kernel
theorem dX6_digest_49 : decode cX6_digest 49 = .ok (.lload_n 1, 1) := by decide +kernel
theorem dX6_digest_50 : decode cX6_digest 50 = .ok (.invokevirtual 146, 3) := by decide +kernel
theorem dX6_digest_53 : decode cX6_digest 53 = .ok (.lstore_n 1, 1) := by decide +kernel
theorem dX6_digest_54 : decode cX6_digest 54 = .ok (.aload_n 0, 1) := by decide +kernel
theorem dX6_digest_55 : decode cX6_digest 55 = .ok (.getfield 35, 3) := by decide +kernel
theorem dX6_digest_58 : decode cX6_digest 58 = .ok (.lload_n 1, 1) := by decide +kernel
theorem dX6_digest_59 : decode cX6_digest 59 = .ok (.invokevirtual 147, 3) := by decide +kernel
theorem dX6_digest_62 : decode cX6_digest 62 = .ok (.lstore_n 1, 1) := by decide +kernel
theorem dX6_digest_63 : decode cX6_digest 63 = .ok (.aload_n 0, 1) := by decide +kernel
theorem dX6_digest_64 : decode cX6_digest 64 = .ok (.getfield 42, 3) := by decide +kernel
theorem dX6_digest_67 : decode cX6_digest 67 = .ok (.lload_n 1, 1) := by decide +kernel
theorem dX6_digest_68 : decode cX6_digest 68 = .ok (.invokevirtual 148, 3) := by decide +kernel
theorem dX6_digest_71 : decode cX6_digest 71 = .ok (.lreturn, 1) := by decide +kernel
theorem dX6_outside_0 : decode cX6_outside 0 = .ok (.iload_n 0, 1) := by decide +kernel
theorem dX6_outside_1 : decode cX6_outside 1 = .ok (.iload_n 1, 1) := by decide +kernel
theorem dX6_outside_2 : decode cX6_outside 2 = .ok (.if_icmp .lt 8, 3) := by decide +kernel
theorem dX6_outside_5 : decode cX6_outside 5 = .ok (.iload_n 0, 1) := by decide +kernel
theorem dX6_outside_6 : decode cX6_outside 6 = .ok (.iload_n 2, 1) := by decide +kernel
theorem dX6_outside_7 : decode cX6_outside 7 = .ok (.if_icmp .le 7, 3) := by decide +kernel
theorem dX6_outside_10 : decode cX6_outside 10 = .ok (.iconst 1, 1) := by decide +kernel
theorem dX6_outside_11 : decode cX6_outside 11 = .ok (.goto 4, 3) := by decide +kernel
theorem dX6_outside_14 : decode cX6_outside 14 = .ok (.iconst 0, 1) := by decide +kernel
theorem dX6_outside_15 : decode cX6_outside 15 = .ok (.ireturn, 1) := by decide +kernel
theorem dX6_mix_0 : decode cX6_mix 0 = .ok (.ldc2_w 149, 3) := by decide +kernel
theorem dX6_mix_3 : decode cX6_mix 3 = .ok (.lload_n 0, 1) := by decide +kernel
theorem dX6_mix_4 : decode cX6_mix 4 = .ok (.lmul, 1) := by decide +kernel
theorem dX6_mix_5 : decode cX6_mix 5 = .ok (.iload_n 2, 1) := by decide +kernel
theorem dX6_mix_6 : decode cX6_mix 6 = .ok (.i2l, 1) := by decide +kernel
theorem dX6_mix_7 : decode cX6_mix 7 = .ok (.ladd, 1) := by decide +kernel
theorem dX6_mix_8 : decode cX6_mix 8 = .ok (.lreturn, 1) := by decide +kernel
theorem dX7_init_0 : decode cX7_init 0 = .ok (.aload_n 0, 1) := by decide +kernel
theorem dX7_init_1 : decode cX7_init 1 = .ok (.invokespecial 1, 3) := by decide +kernel
theorem dX7_init_4 : decode cX7_init 4 = .ok (.aload_n 0, 1) := by decide +kernel
theorem dX7_init_5 : decode cX7_init 5 = .ok (.bipush 8, 2) := by decide +kernel
theorem dX7_init_7 : decode cX7_init 7 = .ok (.newarray .int, 2) := by decide +kernel
theorem dX7_init_9 : decode cX7_init 9 = .ok (.putfield 7, 3) := by decide +kernel
theorem dX7_init_12 : decode cX7_init 12 = .ok (.aload_n 0, 1) := by decide +kernel
theorem dX7_init_13 : decode cX7_init 13 = .ok (.bipush 8, 2) := by decide +kernel
theorem dX7_init_15 : decode cX7_init 15 = .ok (.newarray .int, 2) := by decide +kernel
theorem dX7_init_17 : decode cX7_init 17 = .ok (.putfield 13, 3) := by decide +kernel
theorem dX7_init_20 : decode cX7_init 20 = .ok (.aload_n 0, 1) := by decide +kernel
theorem dX7_init_21 : decode cX7_init 21 = .ok (.sipush 192, 3) := by decide +kernel
theorem dX7_init_24 : decode cX7_init 24 = .ok (.newarray .int, 2) := by decide +kernel
theorem dX7_init_26 : decode cX7_init 26 = .ok (.putfield 16, 3) := by decide +kernel
theorem dX7_init_29 : decode cX7_init 29 = .ok (.aload_n 0, 1) := by decide +kernel
theorem dX7_init_30 : decode cX7_init 30 = .ok (.sipush 192, 3) := by decide +kernel
theorem dX7_init_33 : decode cX7_init 33 = .ok (.newarray .int, 2) := by decide +kernel
theorem dX7_init_35 : decode cX7_init 35 = .ok (.putfield 19, 3) := by decide +kernel
theorem dX7_init_38 : decode cX7_init 38 = .ok (.aload_n 0, 1) := by decide +kernel
theorem dX7_init_39 : decode cX7_init 39 = .ok (.bipush 20, 2) := by decide +kernel
theorem dX7_init_41 : decode cX7_init 41 = .ok (.putfield 22, 3) := by decide +kernel
theorem dX7_init_44 : decode cX7_init 44 = .ok (.aload_n 0, 1) := by decide +kernel
theorem dX7_init_45 : decode cX7_init 45 = .ok (.iconst 2, 1) := by decide +kernel
theorem dX7_init_46 : decode cX7_init 46 = .ok (.putfield 26, 3) := by decide +kernel
theorem dX7_init_49 : decode cX7_init 49 = .ok (.aload_n 0, 1) := by decide +kernel
theorem dX7_init_50 : decode cX7_init 50 = .ok (.bipush 12, 2) := by decide +kernel
theorem dX7_init_52 : decode cX7_init 52 = .ok (.newarray .int, 2) := by decide +kernel
theorem dX7_init_54 : decode cX7_init 54 = .ok (.putfield 29, 3) := by decide +kernel
theorem dX7_init_57 : decode cX7_init 57 = .ok (.aload_n 0, 1) := by decide +kernel
theorem dX7_init_58 : decode cX7_init 58 = .ok (.bipush 12, 2) := by decide +kernel
theorem dX7_init_60 : decode cX7_init 60 = .ok (.newarray .int, 2) := by decide +kernel
theorem dX7_init_62 : decode cX7_init 62 = .ok (.putfield 32, 3) := by decide +kernel
theorem dX7_init_65 : decode cX7_init 65 = .ok (.aload_n 0, 1) := by decide +kernel
theorem dX7_init_66 : decode cX7_init 66 = .ok (.bipush 8, 2) := by decide +kernel
theorem dX7_init_68 : decode cX7_init 68 = .ok (.newarray .int, 2) := by decide +kernel
theorem dX7_init_70 : decode cX7_init 70 = .ok (.putfield 35, 3) := by decide +kernel
theorem dX7_init_73 : decode cX7_init 73 = .ok (.aload_n 0, 1) := by decide +kernel
theorem dX7_init_74 : decode cX7_init 74 = .ok (.sipush 128, 3) := by decide +kernel
theorem dX7_init_77 : decode cX7_init 77 = .ok (.newarray .int, 2) := by decide +kernel
theorem dX7_init_79 : decode cX7_init 79 = .ok (.putfield 38, 3) := by decide +kernel
theorem dX7_init_82 : decode cX7_init 82 = .ok (.aload_n 0, 1) := by decide +kernel
theorem dX7_init_83 : decode cX7_init 83 = .ok (.iconst 1, 1) := by decide +kernel
theorem dX7_init_84 : decode cX7_init 84 = .ok (.putfield 41, 3) := by decide +kernel
theorem dX7_init_87 : decode cX7_init 87 = .ok (.aload_n 0, 1) := by decide +kernel
theorem dX7_init_88 : decode cX7_init 88 = .ok (.bipush 12, 2) := by decide +kernel
theorem dX7_init_90 : decode cX7_init 90 = .ok (.newarray .int, 2) := by decide +kernel
theorem dX7_init_92 : decode cX7_init 92 = .ok (.putfield 44, 3) := by decide +kernel
theorem dX7_init_95 : decode cX7_init 95 = .ok (.aload_n 0, 1) := by decide +kernel
theorem dX7_init_96 : decode cX7_init 96 = .ok (.sipush 144, 3) := by decide +kernel
theorem dX7_init_99 : decode cX7_init 99 = .ok (.newarray .int, 2) := by decide +kernel
theorem dX7_init_101 : decode cX7_init 101 = .ok (.putfield 47, 3) := by decide +kernel
theorem dX7_init_104 : decode cX7_init 104 = .ok (.aload_n 0, 1) := by decide +kernel
theorem dX7_init_105 : decode cX7_init 105 = .ok (.sipush 144, 3) := by decide +kernel
theorem dX7_init_108 : decode cX7_init 108 = .ok (.newarray .int, 2) := by decide +kernel
theorem dX7_init_110 : decode cX7_init 110 = .ok (.putfield 50, 3) := by decide +kernel
theorem dX7_init_113 : decode cX7_init 113 = .ok (.aload_n 0, 1) := by decide +kernel
theorem dX7_init_114 : decode cX7_init 114 = .ok (.bipush 8, 2) := by decide +kernel
theorem dX7_init_116 : decode cX7_init 116 = .ok (.newarray .int, 2) := by decide +kernel
theorem dX7_init_118 : decode cX7_init 118 = .ok (.putfield 53, 3) := by decide +kernel
theorem dX7_init_121 : decode cX7_init 121 = .ok (.aload_n 0, 1) := by decide +kernel
theorem dX7_init_122 : decode cX7_init 122 = .ok (.bipush 8, 2) := by decide +kernel
theorem dX7_init_124 : decode cX7_init 124 = .ok (.newarray .int, 2) := by decide +kernel
theorem dX7_init_126 : decode cX7_init 126 = .ok (.putfield 56, 3) := by decide +kernel
theorem dX7_init_129 : decode cX7_init 129 = .ok (.aload_n 0, 1) := by decide +kernel
theorem dX7_init_130 : decode cX7_init 130 = .ok (.bipush 8, 2) := by decide +kernel
theorem dX7_init_132 : decode cX7_init 132 = .ok (.newarray .int, 2) := by decide +kernel
theorem dX7_init_134 : decode cX7_init 134 = .ok (.putfield 59, 3) := by decide +kernel
theorem dX7_init_137 : decode cX7_init 137 = .ok (.return_, 1) := by decide +kernel
theorem dX7_in_0 : decode cX7_in 0 = .ok (.iload_n 0, 1) := by decide +kernel
theorem dX7_in_1 : decode cX7_in 1 = .ok (.iload_n 1, 1) := by decide +kernel
theorem dX7_in_2 : decode cX7_in 2 = .ok (.if_icmp .lt 12, 3) := by decide +kernel
theorem dX7_in_5 : decode cX7_in 5 = .ok (.iload_n 0, 1) := by decide +kernel
theorem dX7_in_6 : decode cX7_in 6 = .ok (.iload_n 2, 1) := by decide +kernel
theorem dX7_in_7 : decode cX7_in 7 = .ok (.if_icmp .gt 7, 3) := by decide +kernel
theorem dX7_in_10 : decode cX7_in 10 = .ok (.iconst 1, 1) := by decide +kernel
theorem dX7_in_11 : decode cX7_in 11 = .ok (.goto 4, 3) := by decide +kernel
theorem dX7_in_14 : decode cX7_in 14 = .ok (.iconst 0, 1) := by decide +kernel
theorem dX7_in_15 : decode cX7_in 15 = .ok (.ireturn, 1) := by decide +kernel
set_option maxRecDepth 20000 in
theorem ggX7_isZone_X7_in : GoodIn wsX7_isZone wsX7_in := goodIn_r _ [5] (by decide +kernel) (by decide +kernel)
set_option maxRecDepth 20000 in
theorem gX7_isZone_X7_in : GoodIn wsX7_isZone (va_wsS RX7 65 yX7_in wsX7_in) := goodIn_app (goodIn_of _ (by decide +kernel)) ggX7_isZone_X7_in
theorem dX7_isZone_0 : decode cX7_isZone 0 = .ok (.iload_n 1, 1) := by decide +kernel
theorem dX7_isZone_1 : decode cX7_isZone 1 = .ok (.iconst 0, 1) := by decide +kernel
theorem dX7_isZone_2 : decode cX7_isZone 2 = .ok (.aload_n 0, 1) := by decide +kernel
theorem dX7_isZone_3 : decode cX7_isZone 3 = .ok (.getfield 62, 3) := by decide +kernel
theorem dX7_isZone_6 : decode cX7_isZone 6 = .ok (.iconst 1, 1) := by decide +kernel
theorem dX7_isZone_7 : decode cX7_isZone 7 = .ok (.isub, 1) := by decide +kernel
theorem dX7_isZone_8 : decode cX7_isZone 8 = .ok (.invokestatic 65, 3) := by decide +kernel
theorem dX7_isZone_11 : decode cX7_isZone 11 = .ok (.ireturn, 1) := by decide +kernel
set_option maxRecDepth 20000 in
theorem ggX7_zone_X7_in : GoodIn wsX7_zone wsX7_in := goodIn_r _ [7] (by decide +kernel) (by decide +kernel)
set_option maxRecDepth 20000 in
theorem gX7_zone_X7_in : GoodIn wsX7_zone (va_wsS RX7 65 yX7_in wsX7_in) := goodIn_app (goodIn_of _ (by decide +kernel)) ggX7_zone_X7_in
theorem dX7_zone_0 : decode cX7_zone 0 = .ok (.iload_n 1, 1) := by decide +kernel
theorem dX7_zone_1 : decode cX7_zone 1 = .ok (.iconst 0, 1) := by decide +kernel
theorem dX7_zone_2 : decode cX7_zone 2 = .ok (.sipush 5000, 3) := by decide +kernel
theorem dX7_zone_5 : decode cX7_zone 5 = .ok (.invokestatic 65, 3) := by decide +kernel
theorem dX7_zone_8 : decode cX7_zone 8 = .ok (.ifCond .eq 14, 3) := by decide +kernel
theorem dX7_zone_11 : decode cX7_zone 11 = .ok (.iload_n 2, 1) := by decide +kernel
theorem dX7_zone_12 : decode cX7_zone 12 = .ok (.iconst 0, 1) := by decide +kernel
theorem dX7_zone_13 : decode cX7_zone 13 = .ok (.sipush 5000, 3) := by decide +kernel
theorem dX7_zone_16 : decode cX7_zone 16 = .ok (.invokestatic 65, 3) := by decide +kernel
theorem dX7_zone_19 : decode cX7_zone 19 = .ok (.ifCond .ne 6, 3) := by decide +kernel
theorem dX7_zone_22 : decode cX7_zone 22 = .ok (.bipush (-2), 2) := by decide +kernel
theorem dX7_zone_24 : decode cX7_zone 24 = .ok (.ireturn, 1) := by decide +kernel
theorem dX7_zone_25 : decode cX7_zone 25 = .ok (.aload_n 0, 1) := by decide +kernel
theorem dX7_zone_26 : decode cX7_zone 26 = .ok (.getfield 62, 3) := by decide +kernel
theorem dX7_zone_29 : decode cX7_zone 29 = .ok (.bipush 8, 2) := by decide +kernel
theorem dX7_zone_31 : decode cX7_zone 31 = .ok (.if_icmp .ne 6, 3) := by decide +kernel
theorem dX7_zone_34 : decode cX7_zone 34 = .ok (.bipush (-4), 2) := by decide +kernel
theorem dX7_zone_36 : decode cX7_zone 36 = .ok (.ireturn, 1) := by decide +kernel
theorem dX7_zone_37 : decode cX7_zone 37 = .ok (.aload_n 0, 1) := by decide +kernel
theorem dX7_zone_38 : decode cX7_zone 38 = .ok (.getfield 7, 3) := by decide +kernel
theorem dX7_zone_41 : decode cX7_zone 41 = .ok (.aload_n 0, 1) := by decide +kernel
theorem dX7_zone_42 : decode cX7_zone 42 = .ok (.getfield 62, 3) := by decide +kernel
theorem dX7_zone_45 : decode cX7_zone 45 = .ok (.iload_n 1, 1) := by decide +kernel
theorem dX7_zone_46 : decode cX7_zone 46 = .ok (.iastore, 1) := by decide +kernel
theorem dX7_zone_47 : decode cX7_zone 47 = .ok (.aload_n 0, 1) := by decide +kernel
theorem dX7_zone_48 : decode cX7_zone 48 = .ok (.getfield 13, 3) := by decide +kernel
theorem dX7_zone_51 : decode cX7_zone 51 = .ok (.aload_n 0, 1) := by decide +kernel
theorem dX7_zone_52 : decode cX7_zone 52 = .ok (.getfield 62, 3) := by decide +kernel
theorem dX7_zone_55 : decode cX7_zone 55 = .ok (.iload_n 2, 1) := by decide +kernel
theorem dX7_zone_56 : decode cX7_zone 56 = .ok (.iastore, 1) := by decide +kernel
theorem dX7_zone_57 : decode cX7_zone 57 = .ok (.aload_n 0, 1) := by decide +kernel
theorem dX7_zone_58 : decode cX7_zone 58 = .ok (.dup, 1) := by decide +kernel
theorem dX7_zone_59 : decode cX7_zone 59 = .ok (.getfield 62, 3) := by decide +kernel
theorem dX7_zone_62 : decode cX7_zone 62 = .ok (.iconst 1, 1) := by decide +kernel
theorem dX7_zone_63 : decode cX7_zone 63 = .ok (.iadd, 1) := by decide +kernel
theorem dX7_zone_64 : decode cX7_zone 64 = .ok (.putfield 62, 3) := by decide +kernel
theorem dX7_zone_67 : decode cX7_zone 67 = .ok (.aload_n 0, 1) := by decide +kernel
theorem dX7_zone_68 : decode cX7_zone 68 = .ok (.getfield 62, 3) := by decide +kernel
theorem dX7_zone_71 : decode cX7_zone 71 = .ok (.iconst 1, 1) := by decide +kernel
theorem dX7_zone_72 : decode cX7_zone 72 = .ok (.isub, 1) := by decide +kernel
theorem dX7_zone_73 : decode cX7_zone 73 = .ok (.ireturn, 1) := by decide +kernel
set_option maxRecDepth 20000 in
theorem ggX7_rules_X7_in : GoodIn wsX7_rules wsX7_in := goodIn_r _ [6] (by decide +kernel) (by decide +kernel)
set_option maxRecDepth 20000 in
theorem gX7_rules_X7_in : GoodIn wsX7_rules (va_wsS RX7 65 yX7_in wsX7_in) := goodIn_app (goodIn_of _ (by decide +kernel)) ggX7_rules_X7_in
theorem dX7_rules_0 : decode cX7_rules 0 = .ok (.iload_n 1, 1) := by decide +kernel
theorem dX7_rules_1 : decode cX7_rules 1 = .ok (.iconst 0, 1) := by decide +kernel
theorem dX7_rules_2 : decode cX7_rules 2 = .ok (.sipush 200, 3) := by decide +kernel
theorem dX7_rules_5 : decode cX7_rules 5 = .ok (.invokestatic 65, 3) := by decide +kernel
theorem dX7_rules_8 : decode cX7_rules 8 = .ok (.ifCond .eq 13, 3) := by decide +kernel
theorem dX7_rules_11 : decode cX7_rules 11 = .ok (.iload_n 2, 1) := by decide +kernel
theorem dX7_rules_12 : decode cX7_rules 12 = .ok (.iconst 0, 1) := by decide +kernel
theorem dX7_rules_13 : decode cX7_rules 13 = .ok (.bipush 20, 2) := by decide +kernel
theorem dX7_rules_15 : decode cX7_rules 15 = .ok (.invokestatic 65, 3) := by decide +kernel
theorem dX7_rules_18 : decode cX7_rules 18 = .ok (.ifCond .ne 6, 3) := by decide +kernel
theorem dX7_rules_21 : decode cX7_rules 21 = .ok (.bipush (-2), 2) := by decide +kernel
theorem dX7_rules_23 : decode cX7_rules 23 = .ok (.ireturn, 1) := by decide +kernel
theorem dX7_rules_24 : decode cX7_rules 24 = .ok (.aload_n 0, 1) := by decide +kernel
theorem dX7_rules_25 : decode cX7_rules 25 = .ok (.iload_n 1, 1) := by decide +kernel
theorem dX7_rules_26 : decode cX7_rules 26 = .ok (.putfield 22, 3) := by decide +kernel
theorem dX7_rules_29 : decode cX7_rules 29 = .ok (.aload_n 0, 1) := by decide +kernel
theorem dX7_rules_30 : decode cX7_rules 30 = .ok (.iload_n 2, 1) := by decide +kernel
theorem dX7_rules_31 : decode cX7_rules 31 = .ok (.putfield 26, 3) := by decide +kernel
theorem dX7_rules_34 : decode cX7_rules 34 = .ok (.iconst 1, 1) := by decide +kernel
theorem dX7_rules_35 : decode cX7_rules 35 = .ok (.ireturn, 1) := by decide +kernel
set_option maxRecDepth 20000 in
theorem ggX7_read_X7_isZone : GoodIn wsX7_read wsX7_isZone := goodIn_r _ [7, 8, 9, 10, 6, 11, 12, 13, 14, 15, 16, 17, 18, 19, 20, 21, 22, 23, 24, 25, 26, 27, 28, 29, 30, 31, 32, 33, 34] (by decide +kernel) (by decide +kernel)
set_option maxRecDepth 20000 in
theorem gX7_read_X7_isZone : GoodIn wsX7_read (wsV RX7 69 RX7 yX7_isZone wsX7_isZone) := goodIn_app (goodIn_of _ (by decide +kernel)) ggX7_read_X7_isZone
set_option maxRecDepth 20000 in
theorem ggX7_read_X7_in : GoodIn wsX7_read wsX7_in := goodIn_r _ [11] (by decide +kernel) (by decide +kernel)
set_option maxRecDepth 20000 in
theorem gX7_read_X7_in : GoodIn wsX7_read (va_wsS RX7 65 yX7_in wsX7_in) := goodIn_app (goodIn_of _ (by decide +kernel)) ggX7_read_X7_in
theorem dX7_read_0 : decode cX7_read 0 = .ok (.aload_n 0, 1) := by decide +kernel
theorem dX7_read_1 : decode cX7_read 1 = .ok (.iload_n 1, 1) := by decide +kernel
theorem dX7_read_2 : decode cX7_read 2 = .ok (.invokevirtual 69, 3) := by decide +kernel
theorem dX7_read_5 : decode cX7_read 5 = .ok (.ifCond .eq 25, 3) := by decide +kernel
theorem dX7_read_8 : decode cX7_read 8 = .ok (.iload_n 2, 1) := by decide +kernel
theorem dX7_read_9 : decode cX7_read 9 = .ok (.iconst 0, 1) := by decide +kernel
theorem dX7_read_10 : decode cX7_read 10 = .ok (.bipush 23, 2) := by decide +kernel
theorem dX7_read_12 : decode cX7_read 12 = .ok (.invokestatic 65, 3) := by decide +kernel
theorem dX7_read_15 : decode cX7_read 15 = .ok (.ifCond .eq 15, 3) := by decide +kernel
theorem dX7_read_18 : decode cX7_read 18 = .ok (.iload 4, 2) := by decide +kernel
theorem dX7_read_20 : decode cX7_read 20 = .ok (.iconst (-1), 1) := by decide +kernel
theorem dX7_read_21 : decode cX7_read 21 = .ok (.sipush 20000, 3) := by decide +kernel
theorem dX7_read_24 : decode cX7_read 24 = .ok (.invokestatic 65, 3) := by decide +kernel
theorem dX7_read_27 : decode cX7_read 27 = .ok (.ifCond .ne 6, 3) := by decide +kernel
theorem dX7_read_30 : decode cX7_read 30 = .ok (.bipush (-2), 2) := by decide +kernel
theorem dX7_read_32 : decode cX7_read 32 = .ok (.ireturn, 1) := by decide +kernel
theorem dX7_read_33 : decode cX7_read 33 = .ok (.bipush 24, 2) := by decide +kernel
theorem dX7_read_35 : decode cX7_read 35 = .ok (.iload_n 1, 1) := by decide +kernel
theorem dX7_read_36 : decode cX7_read 36 = .ok (.imul, 1) := by decide +kernel
theorem dX7_read_37 : decode cX7_read 37 = .ok (.iload_n 2, 1) := by decide +kernel
theorem dX7_read_38 : decode cX7_read 38 = .ok (.iadd, 1) := by decide +kernel
theorem dX7_read_39 : decode cX7_read 39 = .ok (.istore 5, 2) := by decide +kernel
theorem dX7_read_41 : decode cX7_read 41 = .ok (.iload_n 3, 1) := by decide +kernel
theorem dX7_read_42 : decode cX7_read 42 = .ok (.ifCond .eq 13, 3) := by decide +kernel
theorem dX7_read_45 : decode cX7_read 45 = .ok (.aload_n 0, 1) := by decide +kernel
theorem dX7_read_46 : decode cX7_read 46 = .ok (.getfield 16, 3) := by decide +kernel
theorem dX7_read_49 : decode cX7_read 49 = .ok (.iload 5, 2) := by decide +kernel
theorem dX7_read_51 : decode cX7_read 51 = .ok (.iaload, 1) := by decide +kernel
theorem dX7_read_52 : decode cX7_read 52 = .ok (.goto 10, 3) := by decide +kernel
theorem dX7_read_55 : decode cX7_read 55 = .ok (.aload_n 0, 1) := by decide +kernel
theorem dX7_read_56 : decode cX7_read 56 = .ok (.getfield 19, 3) := by decide +kernel
theorem dX7_read_59 : decode cX7_read 59 = .ok (.iload 5, 2) := by decide +kernel
theorem dX7_read_61 : decode cX7_read 61 = .ok (.iaload, 1) := by decide +kernel
theorem dX7_read_62 : decode cX7_read 62 = .ok (.istore 6, 2) := by decide +kernel
theorem dX7_read_64 : decode cX7_read 64 = .ok (.iload_n 3, 1) := by decide +kernel
theorem dX7_read_65 : decode cX7_read 65 = .ok (.ifCond .eq 15, 3) := by decide +kernel
theorem dX7_read_68 : decode cX7_read 68 = .ok (.aload_n 0, 1) := by decide +kernel
theorem dX7_read_69 : decode cX7_read 69 = .ok (.getfield 16, 3) := by decide +kernel
theorem dX7_read_72 : decode cX7_read 72 = .ok (.iload 5, 2) := by decide +kernel
theorem dX7_read_74 : decode cX7_read 74 = .ok (.iload 4, 2) := by decide +kernel
theorem dX7_read_76 : decode cX7_read 76 = .ok (.iastore, 1) := by decide +kernel
theorem dX7_read_77 : decode cX7_read 77 = .ok (.goto 12, 3) := by decide +kernel
theorem dX7_read_80 : decode cX7_read 80 = .ok (.aload_n 0, 1) := by decide +kernel
theorem dX7_read_81 : decode cX7_read 81 = .ok (.getfield 19, 3) := by decide +kernel
theorem dX7_read_84 : decode cX7_read 84 = .ok (.iload 5, 2) := by decide +kernel
theorem dX7_read_86 : decode cX7_read 86 = .ok (.iload 4, 2) := by decide +kernel
theorem dX7_read_88 : decode cX7_read 88 = .ok (.iastore, 1) := by decide +kernel
theorem dX7_read_89 : decode cX7_read 89 = .ok (.iload 6, 2) := by decide +kernel
theorem dX7_read_91 : decode cX7_read 91 = .ok (.ireturn, 1) := by decide +kernel
theorem dX7_least_0 : decode cX7_least 0 = .ok (.iload_n 1, 1) := by decide +kernel
theorem dX7_least_1 : decode cX7_least 1 = .ok (.sipush 1000, 3) := by decide +kernel
theorem dX7_least_4 : decode cX7_least 4 = .ok (.aload_n 0, 1) := by decide +kernel
theorem dX7_least_5 : decode cX7_least 5 = .ok (.getfield 22, 3) := by decide +kernel
theorem dX7_least_8 : decode cX7_least 8 = .ok (.isub, 1) := by decide +kernel
theorem dX7_least_9 : decode cX7_least 9 = .ok (.imul, 1) := by decide +kernel
theorem dX7_least_10 : decode cX7_least 10 = .ok (.sipush 1000, 3) := by decide +kernel
theorem dX7_least_13 : decode cX7_least 13 = .ok (.idiv, 1) := by decide +kernel
theorem dX7_least_14 : decode cX7_least 14 = .ok (.ireturn, 1) := by decide +kernel
