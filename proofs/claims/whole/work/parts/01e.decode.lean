theorem dX7_greatest_0 : decode cX7_greatest 0 = .ok (.iload_n 1, 1) := by decide +kernel
theorem dX7_greatest_1 : decode cX7_greatest 1 = .ok (.sipush 1000, 3) := by decide +kernel
theorem dX7_greatest_4 : decode cX7_greatest 4 = .ok (.aload_n 0, 1) := by decide +kernel
theorem dX7_greatest_5 : decode cX7_greatest 5 = .ok (.getfield 22, 3) := by decide +kernel
theorem dX7_greatest_8 : decode cX7_greatest 8 = .ok (.iadd, 1) := by decide +kernel
theorem dX7_greatest_9 : decode cX7_greatest 9 = .ok (.imul, 1) := by decide +kernel
theorem dX7_greatest_10 : decode cX7_greatest 10 = .ok (.sipush 999, 3) := by decide +kernel
theorem dX7_greatest_13 : decode cX7_greatest 13 = .ok (.iadd, 1) := by decide +kernel
theorem dX7_greatest_14 : decode cX7_greatest 14 = .ok (.sipush 1000, 3) := by decide +kernel
theorem dX7_greatest_17 : decode cX7_greatest 17 = .ok (.idiv, 1) := by decide +kernel
theorem dX7_greatest_18 : decode cX7_greatest 18 = .ok (.ireturn, 1) := by decide +kernel
set_option maxRecDepth 20000 in
theorem ggX7_findLow_X7_greatest : GoodIn wsX7_findLow wsX7_greatest := goodIn_r _ [10, 11, 16, 17, 18, 19, 20, 21, 22, 23, 24, 25, 26, 27, 28, 29, 30, 31, 32, 33, 34, 35, 36, 37, 38] (by decide +kernel) (by decide +kernel)
set_option maxRecDepth 20000 in
theorem gX7_findLow_X7_greatest : GoodIn wsX7_findLow (wsV RX7 76 RX7 yX7_greatest wsX7_greatest) := goodIn_app (goodIn_of _ (by decide +kernel)) ggX7_findLow_X7_greatest
set_option maxRecDepth 20000 in
theorem ggX7_findLow_X7_least : GoodIn wsX7_findLow wsX7_least := goodIn_r _ [15, 11, 16, 17, 18, 19, 20, 21, 22, 23, 24, 25, 26, 27, 28, 29, 30, 31, 32, 33, 34, 35, 36, 37, 38] (by decide +kernel) (by decide +kernel)
set_option maxRecDepth 20000 in
theorem gX7_findLow_X7_least : GoodIn wsX7_findLow (wsV RX7 80 RX7 yX7_least wsX7_least) := goodIn_app (goodIn_of _ (by decide +kernel)) ggX7_findLow_X7_least
theorem dX7_findLow_0 : decode cX7_findLow 0 = .ok (.aload_n 0, 1) := by decide +kernel
theorem dX7_findLow_1 : decode cX7_findLow 1 = .ok (.iconst (-1), 1) := by decide +kernel
theorem dX7_findLow_2 : decode cX7_findLow 2 = .ok (.putfield 73, 3) := by decide +kernel
theorem dX7_findLow_5 : decode cX7_findLow 5 = .ok (.iconst 1, 1) := by decide +kernel
theorem dX7_findLow_6 : decode cX7_findLow 6 = .ok (.istore_n 2, 1) := by decide +kernel
theorem dX7_findLow_7 : decode cX7_findLow 7 = .ok (.iload_n 2, 1) := by decide +kernel
theorem dX7_findLow_8 : decode cX7_findLow 8 = .ok (.iconst 5, 1) := by decide +kernel
theorem dX7_findLow_9 : decode cX7_findLow 9 = .ok (.if_icmp .ge 103, 3) := by decide +kernel
theorem dX7_findLow_12 : decode cX7_findLow 12 = .ok (.aload_n 0, 1) := by decide +kernel
theorem dX7_findLow_13 : decode cX7_findLow 13 = .ok (.getfield 16, 3) := by decide +kernel
theorem dX7_findLow_16 : decode cX7_findLow 16 = .ok (.bipush 24, 2) := by decide +kernel
theorem dX7_findLow_18 : decode cX7_findLow 18 = .ok (.iload_n 1, 1) := by decide +kernel
theorem dX7_findLow_19 : decode cX7_findLow 19 = .ok (.imul, 1) := by decide +kernel
theorem dX7_findLow_20 : decode cX7_findLow 20 = .ok (.iload_n 2, 1) := by decide +kernel
theorem dX7_findLow_21 : decode cX7_findLow 21 = .ok (.iadd, 1) := by decide +kernel
theorem dX7_findLow_22 : decode cX7_findLow 22 = .ok (.iaload, 1) := by decide +kernel
theorem dX7_findLow_23 : decode cX7_findLow 23 = .ok (.istore_n 3, 1) := by decide +kernel
theorem dX7_findLow_24 : decode cX7_findLow 24 = .ok (.aload_n 0, 1) := by decide +kernel
theorem dX7_findLow_25 : decode cX7_findLow 25 = .ok (.getfield 19, 3) := by decide +kernel
theorem dX7_findLow_28 : decode cX7_findLow 28 = .ok (.bipush 24, 2) := by decide +kernel
theorem dX7_findLow_30 : decode cX7_findLow 30 = .ok (.iload_n 1, 1) := by decide +kernel
theorem dX7_findLow_31 : decode cX7_findLow 31 = .ok (.imul, 1) := by decide +kernel
theorem dX7_findLow_32 : decode cX7_findLow 32 = .ok (.iload_n 2, 1) := by decide +kernel
theorem dX7_findLow_33 : decode cX7_findLow 33 = .ok (.iadd, 1) := by decide +kernel
theorem dX7_findLow_34 : decode cX7_findLow 34 = .ok (.iaload, 1) := by decide +kernel
theorem dX7_findLow_35 : decode cX7_findLow 35 = .ok (.istore 4, 2) := by decide +kernel
theorem dX7_findLow_37 : decode cX7_findLow 37 = .ok (.iload_n 3, 1) := by decide +kernel
theorem dX7_findLow_38 : decode cX7_findLow 38 = .ok (.iconst (-1), 1) := by decide +kernel
theorem dX7_findLow_39 : decode cX7_findLow 39 = .ok (.if_icmp .eq 67, 3) := by decide +kernel
theorem dX7_findLow_42 : decode cX7_findLow 42 = .ok (.iload 4, 2) := by decide +kernel
theorem dX7_findLow_44 : decode cX7_findLow 44 = .ok (.iconst (-1), 1) := by decide +kernel
theorem dX7_findLow_45 : decode cX7_findLow 45 = .ok (.if_icmp .eq 61, 3) := by decide +kernel
theorem dX7_findLow_48 : decode cX7_findLow 48 = .ok (.aload_n 0, 1) := by decide +kernel
theorem dX7_findLow_49 : decode cX7_findLow 49 = .ok (.iload_n 3, 1) := by decide +kernel
theorem dX7_findLow_50 : decode cX7_findLow 50 = .ok (.invokevirtual 76, 3) := by decide +kernel
theorem dX7_findLow_53 : decode cX7_findLow 53 = .ok (.aload_n 0, 1) := by decide +kernel
theorem dX7_findLow_54 : decode cX7_findLow 54 = .ok (.iload 4, 2) := by decide +kernel
theorem dX7_findLow_56 : decode cX7_findLow 56 = .ok (.invokevirtual 80, 3) := by decide +kernel
theorem dX7_findLow_59 : decode cX7_findLow 59 = .ok (.isub, 1) := by decide +kernel
theorem dX7_findLow_60 : decode cX7_findLow 60 = .ok (.istore 5, 2) := by decide +kernel
theorem dX7_findLow_62 : decode cX7_findLow 62 = .ok (.aload_n 0, 1) := by decide +kernel
theorem dX7_findLow_63 : decode cX7_findLow 63 = .ok (.getfield 73, 3) := by decide +kernel
theorem dX7_findLow_66 : decode cX7_findLow 66 = .ok (.iconst (-1), 1) := by decide +kernel
theorem dX7_findLow_67 : decode cX7_findLow 67 = .ok (.if_icmp .eq 12, 3) := by decide +kernel
theorem dX7_findLow_70 : decode cX7_findLow 70 = .ok (.iload 5, 2) := by decide +kernel
theorem dX7_findLow_72 : decode cX7_findLow 72 = .ok (.aload_n 0, 1) := by decide +kernel
theorem dX7_findLow_73 : decode cX7_findLow 73 = .ok (.getfield 83, 3) := by decide +kernel
theorem dX7_findLow_76 : decode cX7_findLow 76 = .ok (.if_icmp .ge 30, 3) := by decide +kernel
theorem dX7_findLow_79 : decode cX7_findLow 79 = .ok (.aload_n 0, 1) := by decide +kernel
theorem dX7_findLow_80 : decode cX7_findLow 80 = .ok (.iload_n 2, 1) := by decide +kernel
theorem dX7_findLow_81 : decode cX7_findLow 81 = .ok (.putfield 73, 3) := by decide +kernel
theorem dX7_findLow_84 : decode cX7_findLow 84 = .ok (.aload_n 0, 1) := by decide +kernel
theorem dX7_findLow_85 : decode cX7_findLow 85 = .ok (.iload 5, 2) := by decide +kernel
theorem dX7_findLow_87 : decode cX7_findLow 87 = .ok (.putfield 83, 3) := by decide +kernel
theorem dX7_findLow_90 : decode cX7_findLow 90 = .ok (.aload_n 0, 1) := by decide +kernel
theorem dX7_findLow_91 : decode cX7_findLow 91 = .ok (.aload_n 0, 1) := by decide +kernel
theorem dX7_findLow_92 : decode cX7_findLow 92 = .ok (.iload_n 3, 1) := by decide +kernel
theorem dX7_findLow_93 : decode cX7_findLow 93 = .ok (.invokevirtual 80, 3) := by decide +kernel
theorem dX7_findLow_96 : decode cX7_findLow 96 = .ok (.aload_n 0, 1) := by decide +kernel
theorem dX7_findLow_97 : decode cX7_findLow 97 = .ok (.iload 4, 2) := by decide +kernel
theorem dX7_findLow_99 : decode cX7_findLow 99 = .ok (.invokevirtual 76, 3) := by decide +kernel
theorem dX7_findLow_102 : decode cX7_findLow 102 = .ok (.isub, 1) := by decide +kernel
theorem dX7_findLow_103 : decode cX7_findLow 103 = .ok (.putfield 86, 3) := by decide +kernel
theorem dX7_findLow_106 : decode cX7_findLow 106 = .ok (.iinc 2 1, 3) := by decide +kernel
theorem dX7_findLow_109 : decode cX7_findLow 109 = .ok (.goto (-102), 3) := by decide +kernel
theorem dX7_findLow_112 : decode cX7_findLow 112 = .ok (.aload_n 0, 1) := by decide +kernel
theorem dX7_findLow_113 : decode cX7_findLow 113 = .ok (.getfield 73, 3) := by decide +kernel
theorem dX7_findLow_116 : decode cX7_findLow 116 = .ok (.iconst (-1), 1) := by decide +kernel
theorem dX7_findLow_117 : decode cX7_findLow 117 = .ok (.if_icmp .eq 7, 3) := by decide +kernel
theorem dX7_findLow_120 : decode cX7_findLow 120 = .ok (.iconst 1, 1) := by decide +kernel
theorem dX7_findLow_121 : decode cX7_findLow 121 = .ok (.goto 4, 3) := by decide +kernel
theorem dX7_findLow_124 : decode cX7_findLow 124 = .ok (.iconst 0, 1) := by decide +kernel
theorem dX7_findLow_125 : decode cX7_findLow 125 = .ok (.ireturn, 1) := by decide +kernel
set_option maxRecDepth 20000 in
theorem ggX7_low_X7_isZone : GoodIn wsX7_low wsX7_isZone := goodIn_r _ [9, 10, 11, 12, 8, 13, 29, 30, 31, 32, 33, 34, 35, 36, 37, 38, 39, 40, 41, 42, 43, 44, 45, 46, 47, 48, 49, 50, 51] (by decide +kernel) (by decide +kernel)
set_option maxRecDepth 20000 in
theorem gX7_low_X7_isZone : GoodIn wsX7_low (wsV RX7 69 RX7 yX7_isZone wsX7_isZone) := goodIn_app (goodIn_of _ (by decide +kernel)) ggX7_low_X7_isZone
set_option maxRecDepth 20000 in
theorem ggX7_low_X7_in : GoodIn wsX7_low wsX7_in := goodIn_r _ [13] (by decide +kernel) (by decide +kernel)
set_option maxRecDepth 20000 in
theorem gX7_low_X7_in : GoodIn wsX7_low (va_wsS RX7 65 yX7_in wsX7_in) := goodIn_app (goodIn_of _ (by decide +kernel)) ggX7_low_X7_in
set_option maxRecDepth 20000 in
theorem ggX7_low_X7_findLow : GoodIn wsX7_low wsX7_findLow := goodIn_r _ [17, 4, 18, 19, 3, 2, 20, 21, 22, 8, 23, 24, 25, 26, 27, 28, 29, 30, 31, 32, 33, 34, 35, 36, 37, 38, 39, 40, 41, 42, 43, 44, 45, 46, 47, 48, 49, 50, 51] (by decide +kernel) (by decide +kernel)
set_option maxRecDepth 20000 in
theorem gX7_low_X7_findLow : GoodIn wsX7_low (wsV RX7 89 RX7 yX7_findLow wsX7_findLow) := goodIn_app (goodIn_of _ (by decide +kernel)) ggX7_low_X7_findLow
theorem dX7_low_0 : decode cX7_low 0 = .ok (.aload_n 0, 1) := by decide +kernel
theorem dX7_low_1 : decode cX7_low 1 = .ok (.iload_n 1, 1) := by decide +kernel
theorem dX7_low_2 : decode cX7_low 2 = .ok (.invokevirtual 69, 3) := by decide +kernel
theorem dX7_low_5 : decode cX7_low 5 = .ok (.ifCond .eq 20, 3) := by decide +kernel
theorem dX7_low_8 : decode cX7_low 8 = .ok (.iload_n 2, 1) := by decide +kernel
theorem dX7_low_9 : decode cX7_low 9 = .ok (.iconst 0, 1) := by decide +kernel
theorem dX7_low_10 : decode cX7_low 10 = .ok (.iconst 2, 1) := by decide +kernel
theorem dX7_low_11 : decode cX7_low 11 = .ok (.invokestatic 65, 3) := by decide +kernel
theorem dX7_low_14 : decode cX7_low 14 = .ok (.ifCond .eq 11, 3) := by decide +kernel
theorem dX7_low_17 : decode cX7_low 17 = .ok (.aload_n 0, 1) := by decide +kernel
theorem dX7_low_18 : decode cX7_low 18 = .ok (.iload_n 1, 1) := by decide +kernel
theorem dX7_low_19 : decode cX7_low 19 = .ok (.invokevirtual 89, 3) := by decide +kernel
theorem dX7_low_22 : decode cX7_low 22 = .ok (.ifCond .ne 6, 3) := by decide +kernel
theorem dX7_low_25 : decode cX7_low 25 = .ok (.ldc 92, 2) := by decide +kernel
theorem dX7_low_27 : decode cX7_low 27 = .ok (.ireturn, 1) := by decide +kernel
theorem dX7_low_28 : decode cX7_low 28 = .ok (.iload_n 2, 1) := by decide +kernel
theorem dX7_low_29 : decode cX7_low 29 = .ok (.ifCond .ne 10, 3) := by decide +kernel
theorem dX7_low_32 : decode cX7_low 32 = .ok (.aload_n 0, 1) := by decide +kernel
theorem dX7_low_33 : decode cX7_low 33 = .ok (.getfield 86, 3) := by decide +kernel
theorem dX7_low_36 : decode cX7_low 36 = .ok (.goto 19, 3) := by decide +kernel
theorem dX7_low_39 : decode cX7_low 39 = .ok (.iload_n 2, 1) := by decide +kernel
theorem dX7_low_40 : decode cX7_low 40 = .ok (.iconst 1, 1) := by decide +kernel
theorem dX7_low_41 : decode cX7_low 41 = .ok (.if_icmp .ne 10, 3) := by decide +kernel
theorem dX7_low_44 : decode cX7_low 44 = .ok (.aload_n 0, 1) := by decide +kernel
theorem dX7_low_45 : decode cX7_low 45 = .ok (.getfield 83, 3) := by decide +kernel
theorem dX7_low_48 : decode cX7_low 48 = .ok (.goto 7, 3) := by decide +kernel
theorem dX7_low_51 : decode cX7_low 51 = .ok (.aload_n 0, 1) := by decide +kernel
theorem dX7_low_52 : decode cX7_low 52 = .ok (.getfield 73, 3) := by decide +kernel
theorem dX7_low_55 : decode cX7_low 55 = .ok (.ireturn, 1) := by decide +kernel
set_option maxRecDepth 20000 in
theorem ggX7_leaksOf_X7_findLow : GoodIn wsX7_leaksOf wsX7_findLow := goodIn_r _ [11, 12, 13, 14, 6, 2, 15, 16, 17, 10, 18, 19, 20, 21, 22, 23, 24, 25, 26, 27, 28, 29, 30, 31, 32, 33, 34, 35, 36, 37, 38, 39, 40, 41, 42, 43, 44, 45, 46] (by decide +kernel) (by decide +kernel)
set_option maxRecDepth 20000 in
theorem gX7_leaksOf_X7_findLow : GoodIn wsX7_leaksOf (wsV RX7 89 RX7 yX7_findLow wsX7_findLow) := goodIn_app (goodIn_of _ (by decide +kernel)) ggX7_leaksOf_X7_findLow
theorem dX7_leaksOf_0 : decode cX7_leaksOf 0 = .ok (.aload_n 0, 1) := by decide +kernel
theorem dX7_leaksOf_1 : decode cX7_leaksOf 1 = .ok (.iload_n 1, 1) := by decide +kernel
theorem dX7_leaksOf_2 : decode cX7_leaksOf 2 = .ok (.invokevirtual 89, 3) := by decide +kernel
theorem dX7_leaksOf_5 : decode cX7_leaksOf 5 = .ok (.ifCond .ne 8, 3) := by decide +kernel
theorem dX7_leaksOf_8 : decode cX7_leaksOf 8 = .ok (.ldc 92, 2) := by decide +kernel
theorem dX7_leaksOf_10 : decode cX7_leaksOf 10 = .ok (.goto 44, 3) := by decide +kernel
theorem dX7_leaksOf_13 : decode cX7_leaksOf 13 = .ok (.iload_n 2, 1) := by decide +kernel
theorem dX7_leaksOf_14 : decode cX7_leaksOf 14 = .ok (.ifCond .ne 29, 3) := by decide +kernel
theorem dX7_leaksOf_17 : decode cX7_leaksOf 17 = .ok (.aload_n 0, 1) := by decide +kernel
theorem dX7_leaksOf_18 : decode cX7_leaksOf 18 = .ok (.getfield 86, 3) := by decide +kernel
theorem dX7_leaksOf_21 : decode cX7_leaksOf 21 = .ok (.aload_n 0, 1) := by decide +kernel
theorem dX7_leaksOf_22 : decode cX7_leaksOf 22 = .ok (.getfield 13, 3) := by decide +kernel
theorem dX7_leaksOf_25 : decode cX7_leaksOf 25 = .ok (.iload_n 1, 1) := by decide +kernel
theorem dX7_leaksOf_26 : decode cX7_leaksOf 26 = .ok (.iaload, 1) := by decide +kernel
theorem dX7_leaksOf_27 : decode cX7_leaksOf 27 = .ok (.isub, 1) := by decide +kernel
theorem dX7_leaksOf_28 : decode cX7_leaksOf 28 = .ok (.aload_n 0, 1) := by decide +kernel
theorem dX7_leaksOf_29 : decode cX7_leaksOf 29 = .ok (.getfield 7, 3) := by decide +kernel
theorem dX7_leaksOf_32 : decode cX7_leaksOf 32 = .ok (.iload_n 1, 1) := by decide +kernel
theorem dX7_leaksOf_33 : decode cX7_leaksOf 33 = .ok (.iaload, 1) := by decide +kernel
theorem dX7_leaksOf_34 : decode cX7_leaksOf 34 = .ok (.aload_n 0, 1) := by decide +kernel
theorem dX7_leaksOf_35 : decode cX7_leaksOf 35 = .ok (.getfield 26, 3) := by decide +kernel
theorem dX7_leaksOf_38 : decode cX7_leaksOf 38 = .ok (.imul, 1) := by decide +kernel
theorem dX7_leaksOf_39 : decode cX7_leaksOf 39 = .ok (.isub, 1) := by decide +kernel
theorem dX7_leaksOf_40 : decode cX7_leaksOf 40 = .ok (.goto 14, 3) := by decide +kernel
theorem dX7_leaksOf_43 : decode cX7_leaksOf 43 = .ok (.aload_n 0, 1) := by decide +kernel
theorem dX7_leaksOf_44 : decode cX7_leaksOf 44 = .ok (.getfield 83, 3) := by decide +kernel
theorem dX7_leaksOf_47 : decode cX7_leaksOf 47 = .ok (.aload_n 0, 1) := by decide +kernel
theorem dX7_leaksOf_48 : decode cX7_leaksOf 48 = .ok (.getfield 13, 3) := by decide +kernel
theorem dX7_leaksOf_51 : decode cX7_leaksOf 51 = .ok (.iload_n 1, 1) := by decide +kernel
theorem dX7_leaksOf_52 : decode cX7_leaksOf 52 = .ok (.iaload, 1) := by decide +kernel
theorem dX7_leaksOf_53 : decode cX7_leaksOf 53 = .ok (.isub, 1) := by decide +kernel
theorem dX7_leaksOf_54 : decode cX7_leaksOf 54 = .ok (.ireturn, 1) := by decide +kernel
set_option maxRecDepth 20000 in
theorem ggX7_leaks_X7_isZone : GoodIn wsX7_leaks wsX7_isZone := goodIn_r _ [6, 7, 8, 9, 5, 10, 36, 37, 38, 39, 40, 41, 42, 43, 44, 45, 46, 47, 48, 49, 50, 51, 52, 53, 54, 55, 56, 57, 58] (by decide +kernel) (by decide +kernel)
set_option maxRecDepth 20000 in
theorem gX7_leaks_X7_isZone : GoodIn wsX7_leaks (wsV RX7 69 RX7 yX7_isZone wsX7_isZone) := goodIn_app (goodIn_of _ (by decide +kernel)) ggX7_leaks_X7_isZone
set_option maxRecDepth 20000 in
theorem ggX7_leaks_X7_in : GoodIn wsX7_leaks wsX7_in := goodIn_r _ [10] (by decide +kernel) (by decide +kernel)
set_option maxRecDepth 20000 in
theorem gX7_leaks_X7_in : GoodIn wsX7_leaks (va_wsS RX7 65 yX7_in wsX7_in) := goodIn_app (goodIn_of _ (by decide +kernel)) ggX7_leaks_X7_in
set_option maxRecDepth 20000 in
theorem ggX7_leaks_X7_leaksOf : GoodIn wsX7_leaks wsX7_leaksOf := goodIn_r _ [14, 1, 15, 16, 17, 18, 19, 20, 21, 22, 5, 23, 24, 25, 26, 27, 28, 29, 30, 31, 32, 33, 34, 35, 36, 37, 38, 39, 40, 41, 42, 43, 44, 45, 46, 47, 48, 49, 50, 51, 52, 53, 54, 55, 56, 57, 58] (by decide +kernel) (by decide +kernel)
set_option maxRecDepth 20000 in
theorem gX7_leaks_X7_leaksOf : GoodIn wsX7_leaks (wsV RX7 93 RX7 yX7_leaksOf wsX7_leaksOf) := goodIn_app (goodIn_of _ (by decide +kernel)) ggX7_leaks_X7_leaksOf
theorem dX7_leaks_0 : decode cX7_leaks 0 = .ok (.aload_n 0, 1) := by decide +kernel
theorem dX7_leaks_1 : decode cX7_leaks 1 = .ok (.iload_n 1, 1) := by decide +kernel
theorem dX7_leaks_2 : decode cX7_leaks 2 = .ok (.invokevirtual 69, 3) := by decide +kernel
theorem dX7_leaks_5 : decode cX7_leaks 5 = .ok (.ifCond .eq 21, 3) := by decide +kernel
theorem dX7_leaks_8 : decode cX7_leaks 8 = .ok (.iload_n 2, 1) := by decide +kernel
theorem dX7_leaks_9 : decode cX7_leaks 9 = .ok (.iconst 0, 1) := by decide +kernel
theorem dX7_leaks_10 : decode cX7_leaks 10 = .ok (.iconst 1, 1) := by decide +kernel
theorem dX7_leaks_11 : decode cX7_leaks 11 = .ok (.invokestatic 65, 3) := by decide +kernel
theorem dX7_leaks_14 : decode cX7_leaks 14 = .ok (.ifCond .eq 12, 3) := by decide +kernel
theorem dX7_leaks_17 : decode cX7_leaks 17 = .ok (.aload_n 0, 1) := by decide +kernel
theorem dX7_leaks_18 : decode cX7_leaks 18 = .ok (.iload_n 1, 1) := by decide +kernel
theorem dX7_leaks_19 : decode cX7_leaks 19 = .ok (.iload_n 2, 1) := by decide +kernel
theorem dX7_leaks_20 : decode cX7_leaks 20 = .ok (.invokevirtual 93, 3) := by decide +kernel
theorem dX7_leaks_23 : decode cX7_leaks 23 = .ok (.goto 5, 3) := by decide +kernel
theorem dX7_leaks_26 : decode cX7_leaks 26 = .ok (.ldc 92, 2) := by decide +kernel
theorem dX7_leaks_28 : decode cX7_leaks 28 = .ok (.ireturn, 1) := by decide +kernel
set_option maxRecDepth 20000 in
theorem ggX7_valve_X7_isZone : GoodIn wsX7_valve wsX7_isZone := goodIn_r _ [8, 9, 10, 11, 7, 12, 13, 14, 15, 16, 17, 18, 19, 20, 21, 22, 23, 24, 25, 26, 27, 28, 29, 30, 31, 32, 33, 34, 35] (by decide +kernel) (by decide +kernel)
set_option maxRecDepth 20000 in
theorem gX7_valve_X7_isZone : GoodIn wsX7_valve (wsV RX7 69 RX7 yX7_isZone wsX7_isZone) := goodIn_app (goodIn_of _ (by decide +kernel)) ggX7_valve_X7_isZone
theorem dX7_valve_0 : decode cX7_valve 0 = .ok (.aload_n 0, 1) := by decide +kernel
theorem dX7_valve_1 : decode cX7_valve 1 = .ok (.iload_n 1, 1) := by decide +kernel
theorem dX7_valve_2 : decode cX7_valve 2 = .ok (.invokevirtual 69, 3) := by decide +kernel
theorem dX7_valve_5 : decode cX7_valve 5 = .ok (.ifCond .eq 16, 3) := by decide +kernel
theorem dX7_valve_8 : decode cX7_valve 8 = .ok (.aload_n 0, 1) := by decide +kernel
theorem dX7_valve_9 : decode cX7_valve 9 = .ok (.iload_n 2, 1) := by decide +kernel
theorem dX7_valve_10 : decode cX7_valve 10 = .ok (.invokevirtual 69, 3) := by decide +kernel
theorem dX7_valve_13 : decode cX7_valve 13 = .ok (.ifCond .eq 8, 3) := by decide +kernel
theorem dX7_valve_16 : decode cX7_valve 16 = .ok (.iload_n 1, 1) := by decide +kernel
theorem dX7_valve_17 : decode cX7_valve 17 = .ok (.iload_n 2, 1) := by decide +kernel
theorem dX7_valve_18 : decode cX7_valve 18 = .ok (.if_icmp .ne 6, 3) := by decide +kernel
theorem dX7_valve_21 : decode cX7_valve 21 = .ok (.bipush (-2), 2) := by decide +kernel
theorem dX7_valve_23 : decode cX7_valve 23 = .ok (.ireturn, 1) := by decide +kernel
theorem dX7_valve_24 : decode cX7_valve 24 = .ok (.aload_n 0, 1) := by decide +kernel
theorem dX7_valve_25 : decode cX7_valve 25 = .ok (.getfield 97, 3) := by decide +kernel
theorem dX7_valve_28 : decode cX7_valve 28 = .ok (.bipush 12, 2) := by decide +kernel
theorem dX7_valve_30 : decode cX7_valve 30 = .ok (.if_icmp .ne 6, 3) := by decide +kernel
theorem dX7_valve_33 : decode cX7_valve 33 = .ok (.bipush (-4), 2) := by decide +kernel
theorem dX7_valve_35 : decode cX7_valve 35 = .ok (.ireturn, 1) := by decide +kernel
theorem dX7_valve_36 : decode cX7_valve 36 = .ok (.aload_n 0, 1) := by decide +kernel
theorem dX7_valve_37 : decode cX7_valve 37 = .ok (.getfield 29, 3) := by decide +kernel
theorem dX7_valve_40 : decode cX7_valve 40 = .ok (.aload_n 0, 1) := by decide +kernel
theorem dX7_valve_41 : decode cX7_valve 41 = .ok (.getfield 97, 3) := by decide +kernel
theorem dX7_valve_44 : decode cX7_valve 44 = .ok (.iload_n 1, 1) := by decide +kernel
theorem dX7_valve_45 : decode cX7_valve 45 = .ok (.iastore, 1) := by decide +kernel
theorem dX7_valve_46 : decode cX7_valve 46 = .ok (.aload_n 0, 1) := by decide +kernel
theorem dX7_valve_47 : decode cX7_valve 47 = .ok (.getfield 32, 3) := by decide +kernel
theorem dX7_valve_50 : decode cX7_valve 50 = .ok (.aload_n 0, 1) := by decide +kernel
theorem dX7_valve_51 : decode cX7_valve 51 = .ok (.getfield 97, 3) := by decide +kernel
theorem dX7_valve_54 : decode cX7_valve 54 = .ok (.iload_n 2, 1) := by decide +kernel
theorem dX7_valve_55 : decode cX7_valve 55 = .ok (.iastore, 1) := by decide +kernel
theorem dX7_valve_56 : decode cX7_valve 56 = .ok (.aload_n 0, 1) := by decide +kernel
theorem dX7_valve_57 : decode cX7_valve 57 = .ok (.dup, 1) := by decide +kernel
theorem dX7_valve_58 : decode cX7_valve 58 = .ok (.getfield 97, 3) := by decide +kernel
theorem dX7_valve_61 : decode cX7_valve 61 = .ok (.iconst 1, 1) := by decide +kernel
theorem dX7_valve_62 : decode cX7_valve 62 = .ok (.iadd, 1) := by decide +kernel
theorem dX7_valve_63 : decode cX7_valve 63 = .ok (.putfield 97, 3) := by decide +kernel
theorem dX7_valve_66 : decode cX7_valve 66 = .ok (.aload_n 0, 1) := by decide +kernel
theorem dX7_valve_67 : decode cX7_valve 67 = .ok (.getfield 97, 3) := by decide +kernel
theorem dX7_valve_70 : decode cX7_valve 70 = .ok (.iconst 1, 1) := by decide +kernel
theorem dX7_valve_71 : decode cX7_valve 71 = .ok (.isub, 1) := by decide +kernel
theorem dX7_valve_72 : decode cX7_valve 72 = .ok (.ireturn, 1) := by decide +kernel
theorem dX7_findGroups_0 : decode cX7_findGroups 0 = .ok (.iconst 0, 1) := by decide +kernel
theorem dX7_findGroups_1 : decode cX7_findGroups 1 = .ok (.istore_n 2, 1) := by decide +kernel
theorem dX7_findGroups_2 : decode cX7_findGroups 2 = .ok (.iload_n 2, 1) := by decide +kernel
theorem dX7_findGroups_3 : decode cX7_findGroups 3 = .ok (.aload_n 0, 1) := by decide +kernel
theorem dX7_findGroups_4 : decode cX7_findGroups 4 = .ok (.getfield 62, 3) := by decide +kernel
theorem dX7_findGroups_7 : decode cX7_findGroups 7 = .ok (.if_icmp .ge 16, 3) := by decide +kernel
theorem dX7_findGroups_10 : decode cX7_findGroups 10 = .ok (.aload_n 0, 1) := by decide +kernel
theorem dX7_findGroups_11 : decode cX7_findGroups 11 = .ok (.getfield 35, 3) := by decide +kernel
theorem dX7_findGroups_14 : decode cX7_findGroups 14 = .ok (.iload_n 2, 1) := by decide +kernel
theorem dX7_findGroups_15 : decode cX7_findGroups 15 = .ok (.iload_n 2, 1) := by decide +kernel
theorem dX7_findGroups_16 : decode cX7_findGroups 16 = .ok (.iastore, 1) := by decide +kernel
theorem dX7_findGroups_17 : decode cX7_findGroups 17 = .ok (.iinc 2 1, 3) := by decide +kernel
theorem dX7_findGroups_20 : decode cX7_findGroups 20 = .ok (.goto (-18), 3) := by decide +kernel
theorem dX7_findGroups_23 : decode cX7_findGroups 23 = .ok (.iconst 0, 1) := by decide +kernel
theorem dX7_findGroups_24 : decode cX7_findGroups 24 = .ok (.istore_n 2, 1) := by decide +kernel
theorem dX7_findGroups_25 : decode cX7_findGroups 25 = .ok (.iload_n 2, 1) := by decide +kernel
theorem dX7_findGroups_26 : decode cX7_findGroups 26 = .ok (.aload_n 0, 1) := by decide +kernel
theorem dX7_findGroups_27 : decode cX7_findGroups 27 = .ok (.getfield 97, 3) := by decide +kernel
theorem dX7_findGroups_30 : decode cX7_findGroups 30 = .ok (.if_icmp .ge 113, 3) := by decide +kernel
theorem dX7_findGroups_33 : decode cX7_findGroups 33 = .ok (.aload_n 0, 1) := by decide +kernel
theorem dX7_findGroups_34 : decode cX7_findGroups 34 = .ok (.getfield 35, 3) := by decide +kernel
theorem dX7_findGroups_37 : decode cX7_findGroups 37 = .ok (.aload_n 0, 1) := by decide +kernel
theorem dX7_findGroups_38 : decode cX7_findGroups 38 = .ok (.getfield 29, 3) := by decide +kernel
theorem dX7_findGroups_41 : decode cX7_findGroups 41 = .ok (.iload_n 2, 1) := by decide +kernel
theorem dX7_findGroups_42 : decode cX7_findGroups 42 = .ok (.iaload, 1) := by decide +kernel
theorem dX7_findGroups_43 : decode cX7_findGroups 43 = .ok (.iaload, 1) := by decide +kernel
theorem dX7_findGroups_44 : decode cX7_findGroups 44 = .ok (.istore_n 3, 1) := by decide +kernel
theorem dX7_findGroups_45 : decode cX7_findGroups 45 = .ok (.aload_n 0, 1) := by decide +kernel
theorem dX7_findGroups_46 : decode cX7_findGroups 46 = .ok (.getfield 35, 3) := by decide +kernel
theorem dX7_findGroups_49 : decode cX7_findGroups 49 = .ok (.aload_n 0, 1) := by decide +kernel
theorem dX7_findGroups_50 : decode cX7_findGroups 50 = .ok (.getfield 32, 3) := by decide +kernel
theorem dX7_findGroups_53 : decode cX7_findGroups 53 = .ok (.iload_n 2, 1) := by decide +kernel
theorem dX7_findGroups_54 : decode cX7_findGroups 54 = .ok (.iaload, 1) := by decide +kernel
theorem dX7_findGroups_55 : decode cX7_findGroups 55 = .ok (.iaload, 1) := by decide +kernel
theorem dX7_findGroups_56 : decode cX7_findGroups 56 = .ok (.istore 4, 2) := by decide +kernel
theorem dX7_findGroups_58 : decode cX7_findGroups 58 = .ok (.iconst 0, 1) := by decide +kernel
theorem dX7_findGroups_59 : decode cX7_findGroups 59 = .ok (.istore 5, 2) := by decide +kernel
theorem dX7_findGroups_61 : decode cX7_findGroups 61 = .ok (.iload 5, 2) := by decide +kernel
theorem dX7_findGroups_63 : decode cX7_findGroups 63 = .ok (.aload_n 0, 1) := by decide +kernel
theorem dX7_findGroups_64 : decode cX7_findGroups 64 = .ok (.getfield 62, 3) := by decide +kernel
theorem dX7_findGroups_67 : decode cX7_findGroups 67 = .ok (.if_icmp .ge 70, 3) := by decide +kernel
theorem dX7_findGroups_70 : decode cX7_findGroups 70 = .ok (.iload_n 1, 1) := by decide +kernel
theorem dX7_findGroups_71 : decode cX7_findGroups 71 = .ok (.iload_n 2, 1) := by decide +kernel
theorem dX7_findGroups_72 : decode cX7_findGroups 72 = .ok (.ishr, 1) := by decide +kernel
theorem dX7_findGroups_73 : decode cX7_findGroups 73 = .ok (.iconst 1, 1) := by decide +kernel
theorem dX7_findGroups_74 : decode cX7_findGroups 74 = .ok (.iand, 1) := by decide +kernel
theorem dX7_findGroups_75 : decode cX7_findGroups 75 = .ok (.iconst 1, 1) := by decide +kernel
theorem dX7_findGroups_76 : decode cX7_findGroups 76 = .ok (.if_icmp .ne 61, 3) := by decide +kernel
theorem dX7_findGroups_79 : decode cX7_findGroups 79 = .ok (.aload_n 0, 1) := by decide +kernel
theorem dX7_findGroups_80 : decode cX7_findGroups 80 = .ok (.getfield 35, 3) := by decide +kernel
theorem dX7_findGroups_83 : decode cX7_findGroups 83 = .ok (.iload 5, 2) := by decide +kernel
theorem dX7_findGroups_85 : decode cX7_findGroups 85 = .ok (.aload_n 0, 1) := by decide +kernel
theorem dX7_findGroups_86 : decode cX7_findGroups 86 = .ok (.getfield 35, 3) := by decide +kernel
theorem dX7_findGroups_89 : decode cX7_findGroups 89 = .ok (.iload 5, 2) := by decide +kernel
theorem dX7_findGroups_91 : decode cX7_findGroups 91 = .ok (.iaload, 1) := by decide +kernel
theorem dX7_findGroups_92 : decode cX7_findGroups 92 = .ok (.iload_n 3, 1) := by decide +kernel
theorem dX7_findGroups_93 : decode cX7_findGroups 93 = .ok (.if_icmp .eq 15, 3) := by decide +kernel
theorem dX7_findGroups_96 : decode cX7_findGroups 96 = .ok (.aload_n 0, 1) := by decide +kernel
theorem dX7_findGroups_97 : decode cX7_findGroups 97 = .ok (.getfield 35, 3) := by decide +kernel
theorem dX7_findGroups_100 : decode cX7_findGroups 100 = .ok (.iload 5, 2) := by decide +kernel
theorem dX7_findGroups_102 : decode cX7_findGroups 102 = .ok (.iaload, 1) := by decide +kernel
theorem dX7_findGroups_103 : decode cX7_findGroups 103 = .ok (.iload 4, 2) := by decide +kernel
theorem dX7_findGroups_105 : decode cX7_findGroups 105 = .ok (.if_icmp .ne 18, 3) := by decide +kernel
theorem dX7_findGroups_108 : decode cX7_findGroups 108 = .ok (.iload_n 3, 1) := by decide +kernel
theorem dX7_findGroups_109 : decode cX7_findGroups 109 = .ok (.iload 4, 2) := by decide +kernel
theorem dX7_findGroups_111 : decode cX7_findGroups 111 = .ok (.if_icmp .ge 7, 3) := by decide +kernel
theorem dX7_findGroups_114 : decode cX7_findGroups 114 = .ok (.iload_n 3, 1) := by decide +kernel
theorem dX7_findGroups_115 : decode cX7_findGroups 115 = .ok (.goto 15, 3) := by decide +kernel
theorem dX7_findGroups_118 : decode cX7_findGroups 118 = .ok (.iload 4, 2) := by decide +kernel
theorem dX7_findGroups_120 : decode cX7_findGroups 120 = .ok (.goto 10, 3) := by decide +kernel
theorem dX7_findGroups_123 : decode cX7_findGroups 123 = .ok (.aload_n 0, 1) := by decide +kernel
theorem dX7_findGroups_124 : decode cX7_findGroups 124 = .ok (.getfield 35, 3) := by decide +kernel
theorem dX7_findGroups_127 : decode cX7_findGroups 127 = .ok (.iload 5, 2) := by decide +kernel
theorem dX7_findGroups_129 : decode cX7_findGroups 129 = .ok (.iaload, 1) := by decide +kernel
theorem dX7_findGroups_130 : decode cX7_findGroups 130 = .ok (.iastore, 1) := by decide +kernel
theorem dX7_findGroups_131 : decode cX7_findGroups 131 = .ok (.iinc 5 1, 3) := by decide +kernel
theorem dX7_findGroups_134 : decode cX7_findGroups 134 = .ok (.goto (-73), 3) := by decide +kernel
theorem dX7_findGroups_137 : decode cX7_findGroups 137 = .ok (.iinc 2 1, 3) := by decide +kernel
theorem dX7_findGroups_140 : decode cX7_findGroups 140 = .ok (.goto (-115), 3) := by decide +kernel
theorem dX7_findGroups_143 : decode cX7_findGroups 143 = .ok (.return_, 1) := by decide +kernel
set_option maxRecDepth 20000 in
theorem ggX7_isSet_X7_in : GoodIn wsX7_isSet wsX7_in := goodIn_r _ [5] (by decide +kernel) (by decide +kernel)
set_option maxRecDepth 20000 in
theorem gX7_isSet_X7_in : GoodIn wsX7_isSet (va_wsS RX7 65 yX7_in wsX7_in) := goodIn_app (goodIn_of _ (by decide +kernel)) ggX7_isSet_X7_in
theorem dX7_isSet_0 : decode cX7_isSet 0 = .ok (.iload_n 1, 1) := by decide +kernel
theorem dX7_isSet_1 : decode cX7_isSet 1 = .ok (.iconst 0, 1) := by decide +kernel
theorem dX7_isSet_2 : decode cX7_isSet 2 = .ok (.iconst 1, 1) := by decide +kernel
theorem dX7_isSet_3 : decode cX7_isSet 3 = .ok (.aload_n 0, 1) := by decide +kernel
theorem dX7_isSet_4 : decode cX7_isSet 4 = .ok (.getfield 97, 3) := by decide +kernel
theorem dX7_isSet_7 : decode cX7_isSet 7 = .ok (.ishl, 1) := by decide +kernel
theorem dX7_isSet_8 : decode cX7_isSet 8 = .ok (.iconst 1, 1) := by decide +kernel
theorem dX7_isSet_9 : decode cX7_isSet 9 = .ok (.isub, 1) := by decide +kernel
theorem dX7_isSet_10 : decode cX7_isSet 10 = .ok (.invokestatic 65, 3) := by decide +kernel
theorem dX7_isSet_13 : decode cX7_isSet 13 = .ok (.ireturn, 1) := by decide +kernel
set_option maxRecDepth 20000 in
theorem ggX7_group_X7_isZone : GoodIn wsX7_group wsX7_isZone := goodIn_r _ [6, 7, 8, 9, 5, 10, 22, 23, 24, 25, 26, 27, 28, 29, 30, 31, 32, 33, 34, 35, 36, 37, 38, 39, 40, 41, 42, 43, 44] (by decide +kernel) (by decide +kernel)
set_option maxRecDepth 20000 in
theorem gX7_group_X7_isZone : GoodIn wsX7_group (wsV RX7 69 RX7 yX7_isZone wsX7_isZone) := goodIn_app (goodIn_of _ (by decide +kernel)) ggX7_group_X7_isZone
set_option maxRecDepth 20000 in
theorem ggX7_group_X7_isSet : GoodIn wsX7_group wsX7_isSet := goodIn_r _ [14, 15, 8, 9, 5, 10, 22, 23, 24, 25, 26, 27, 28, 29, 30, 31, 32, 33, 34, 35, 36, 37, 38, 39, 40, 41, 42, 43, 44] (by decide +kernel) (by decide +kernel)
set_option maxRecDepth 20000 in
theorem gX7_group_X7_isSet : GoodIn wsX7_group (wsV RX7 100 RX7 yX7_isSet wsX7_isSet) := goodIn_app (goodIn_of _ (by decide +kernel)) ggX7_group_X7_isSet
set_option maxRecDepth 20000 in
theorem ggX7_group_X7_findGroups : GoodIn wsX7_group wsX7_findGroups := goodIn_r _ [19, 7, 1, 15, 20, 21, 22, 23, 24, 25, 26, 27, 28, 29, 30, 31, 32, 33, 34, 35, 36, 37, 38, 39, 40, 41, 42, 43, 44] (by decide +kernel) (by decide +kernel)
set_option maxRecDepth 20000 in
theorem gX7_group_X7_findGroups : GoodIn wsX7_group (wsV RX7 103 RX7 yX7_findGroups wsX7_findGroups) := goodIn_app (goodIn_of _ (by decide +kernel)) ggX7_group_X7_findGroups
theorem dX7_group_0 : decode cX7_group 0 = .ok (.aload_n 0, 1) := by decide +kernel
theorem dX7_group_1 : decode cX7_group 1 = .ok (.iload_n 1, 1) := by decide +kernel
theorem dX7_group_2 : decode cX7_group 2 = .ok (.invokevirtual 69, 3) := by decide +kernel
theorem dX7_group_5 : decode cX7_group 5 = .ok (.ifCond .eq 11, 3) := by decide +kernel
theorem dX7_group_8 : decode cX7_group 8 = .ok (.aload_n 0, 1) := by decide +kernel
theorem dX7_group_9 : decode cX7_group 9 = .ok (.iload_n 2, 1) := by decide +kernel
theorem dX7_group_10 : decode cX7_group 10 = .ok (.invokevirtual 100, 3) := by decide +kernel
theorem dX7_group_13 : decode cX7_group 13 = .ok (.ifCond .ne 6, 3) := by decide +kernel
theorem dX7_group_16 : decode cX7_group 16 = .ok (.bipush (-2), 2) := by decide +kernel
theorem dX7_group_18 : decode cX7_group 18 = .ok (.ireturn, 1) := by decide +kernel
theorem dX7_group_19 : decode cX7_group 19 = .ok (.aload_n 0, 1) := by decide +kernel
theorem dX7_group_20 : decode cX7_group 20 = .ok (.iload_n 2, 1) := by decide +kernel
theorem dX7_group_21 : decode cX7_group 21 = .ok (.invokevirtual 103, 3) := by decide +kernel
theorem dX7_group_24 : decode cX7_group 24 = .ok (.aload_n 0, 1) := by decide +kernel
theorem dX7_group_25 : decode cX7_group 25 = .ok (.getfield 35, 3) := by decide +kernel
theorem dX7_group_28 : decode cX7_group 28 = .ok (.iload_n 1, 1) := by decide +kernel
theorem dX7_group_29 : decode cX7_group 29 = .ok (.iaload, 1) := by decide +kernel
theorem dX7_group_30 : decode cX7_group 30 = .ok (.ireturn, 1) := by decide +kernel
set_option maxRecDepth 20000 in
theorem ggX7_doesExplain_X7_findGroups : GoodIn wsX7_doesExplain wsX7_findGroups := goodIn_r _ [8, 1, 2, 9, 10, 11, 37, 38, 39, 40, 41, 42, 43, 44, 45, 46, 47, 48, 49, 50, 51, 52, 53, 54, 55, 56, 57, 58, 59] (by decide +kernel) (by decide +kernel)
set_option maxRecDepth 20000 in
theorem gX7_doesExplain_X7_findGroups : GoodIn wsX7_doesExplain (wsV RX7 103 RX7 yX7_findGroups wsX7_findGroups) := goodIn_app (goodIn_of _ (by decide +kernel)) ggX7_doesExplain_X7_findGroups
set_option maxRecDepth 20000 in
theorem ggX7_doesExplain_X7_leaksOf : GoodIn wsX7_doesExplain wsX7_leaksOf := goodIn_r _ [15, 3, 16, 17, 18, 19, 20, 21, 22, 23, 7, 24, 25, 26, 27, 28, 29, 30, 31, 32, 33, 34, 35, 36, 37, 38, 39, 40, 41, 42, 43, 44, 45, 46, 47, 48, 49, 50, 51, 52, 53, 54, 55, 56, 57, 58, 59] (by decide +kernel) (by decide +kernel)
set_option maxRecDepth 20000 in
theorem gX7_doesExplain_X7_leaksOf : GoodIn wsX7_doesExplain (wsV RX7 93 RX7 yX7_leaksOf wsX7_leaksOf) := goodIn_app (goodIn_of _ (by decide +kernel)) ggX7_doesExplain_X7_leaksOf
theorem dX7_doesExplain_0 : decode cX7_doesExplain 0 = .ok (.aload_n 0, 1) := by decide +kernel
theorem dX7_doesExplain_1 : decode cX7_doesExplain 1 = .ok (.iload_n 1, 1) := by decide +kernel
theorem dX7_doesExplain_2 : decode cX7_doesExplain 2 = .ok (.invokevirtual 103, 3) := by decide +kernel
theorem dX7_doesExplain_5 : decode cX7_doesExplain 5 = .ok (.iconst 0, 1) := by decide +kernel
theorem dX7_doesExplain_6 : decode cX7_doesExplain 6 = .ok (.istore_n 2, 1) := by decide +kernel
theorem dX7_doesExplain_7 : decode cX7_doesExplain 7 = .ok (.iload_n 2, 1) := by decide +kernel
theorem dX7_doesExplain_8 : decode cX7_doesExplain 8 = .ok (.aload_n 0, 1) := by decide +kernel
theorem dX7_doesExplain_9 : decode cX7_doesExplain 9 = .ok (.getfield 62, 3) := by decide +kernel
theorem dX7_doesExplain_12 : decode cX7_doesExplain 12 = .ok (.if_icmp .ge 109, 3) := by decide +kernel
theorem dX7_doesExplain_15 : decode cX7_doesExplain 15 = .ok (.aload_n 0, 1) := by decide +kernel
theorem dX7_doesExplain_16 : decode cX7_doesExplain 16 = .ok (.getfield 35, 3) := by decide +kernel
theorem dX7_doesExplain_19 : decode cX7_doesExplain 19 = .ok (.iload_n 2, 1) := by decide +kernel
theorem dX7_doesExplain_20 : decode cX7_doesExplain 20 = .ok (.iaload, 1) := by decide +kernel
theorem dX7_doesExplain_21 : decode cX7_doesExplain 21 = .ok (.iload_n 2, 1) := by decide +kernel
theorem dX7_doesExplain_22 : decode cX7_doesExplain 22 = .ok (.if_icmp .ne 7, 3) := by decide +kernel
theorem dX7_doesExplain_25 : decode cX7_doesExplain 25 = .ok (.iconst 1, 1) := by decide +kernel
theorem dX7_doesExplain_26 : decode cX7_doesExplain 26 = .ok (.goto 4, 3) := by decide +kernel
theorem dX7_doesExplain_29 : decode cX7_doesExplain 29 = .ok (.iconst 0, 1) := by decide +kernel
theorem dX7_doesExplain_30 : decode cX7_doesExplain 30 = .ok (.istore_n 3, 1) := by decide +kernel
theorem dX7_doesExplain_31 : decode cX7_doesExplain 31 = .ok (.iconst 0, 1) := by decide +kernel
theorem dX7_doesExplain_32 : decode cX7_doesExplain 32 = .ok (.istore 4, 2) := by decide +kernel
theorem dX7_doesExplain_34 : decode cX7_doesExplain 34 = .ok (.iconst 0, 1) := by decide +kernel
theorem dX7_doesExplain_35 : decode cX7_doesExplain 35 = .ok (.istore 5, 2) := by decide +kernel
theorem dX7_doesExplain_37 : decode cX7_doesExplain 37 = .ok (.iload 5, 2) := by decide +kernel
theorem dX7_doesExplain_39 : decode cX7_doesExplain 39 = .ok (.aload_n 0, 1) := by decide +kernel
theorem dX7_doesExplain_40 : decode cX7_doesExplain 40 = .ok (.getfield 62, 3) := by decide +kernel
theorem dX7_doesExplain_43 : decode cX7_doesExplain 43 = .ok (.if_icmp .ge 61, 3) := by decide +kernel
theorem dX7_doesExplain_46 : decode cX7_doesExplain 46 = .ok (.iload_n 3, 1) := by decide +kernel
theorem dX7_doesExplain_47 : decode cX7_doesExplain 47 = .ok (.ifCond .eq 57, 3) := by decide +kernel
theorem dX7_doesExplain_50 : decode cX7_doesExplain 50 = .ok (.aload_n 0, 1) := by decide +kernel
theorem dX7_doesExplain_51 : decode cX7_doesExplain 51 = .ok (.getfield 35, 3) := by decide +kernel
theorem dX7_doesExplain_54 : decode cX7_doesExplain 54 = .ok (.iload 5, 2) := by decide +kernel
theorem dX7_doesExplain_56 : decode cX7_doesExplain 56 = .ok (.iaload, 1) := by decide +kernel
theorem dX7_doesExplain_57 : decode cX7_doesExplain 57 = .ok (.iload_n 2, 1) := by decide +kernel
theorem dX7_doesExplain_58 : decode cX7_doesExplain 58 = .ok (.if_icmp .ne 40, 3) := by decide +kernel
theorem dX7_doesExplain_61 : decode cX7_doesExplain 61 = .ok (.aload_n 0, 1) := by decide +kernel
theorem dX7_doesExplain_62 : decode cX7_doesExplain 62 = .ok (.iload 5, 2) := by decide +kernel
theorem dX7_doesExplain_64 : decode cX7_doesExplain 64 = .ok (.iconst 1, 1) := by decide +kernel
theorem dX7_doesExplain_65 : decode cX7_doesExplain 65 = .ok (.invokevirtual 93, 3) := by decide +kernel
theorem dX7_doesExplain_68 : decode cX7_doesExplain 68 = .ok (.istore 6, 2) := by decide +kernel
theorem dX7_doesExplain_70 : decode cX7_doesExplain 70 = .ok (.iload 6, 2) := by decide +kernel
theorem dX7_doesExplain_72 : decode cX7_doesExplain 72 = .ok (.ldc 92, 2) := by decide +kernel
theorem dX7_doesExplain_74 : decode cX7_doesExplain 74 = .ok (.if_icmp .eq 7, 3) := by decide +kernel
theorem dX7_doesExplain_77 : decode cX7_doesExplain 77 = .ok (.iconst 1, 1) := by decide +kernel
theorem dX7_doesExplain_78 : decode cX7_doesExplain 78 = .ok (.goto 4, 3) := by decide +kernel
theorem dX7_doesExplain_81 : decode cX7_doesExplain 81 = .ok (.iconst 0, 1) := by decide +kernel
theorem dX7_doesExplain_82 : decode cX7_doesExplain 82 = .ok (.istore_n 3, 1) := by decide +kernel
theorem dX7_doesExplain_83 : decode cX7_doesExplain 83 = .ok (.iload 4, 2) := by decide +kernel
theorem dX7_doesExplain_85 : decode cX7_doesExplain 85 = .ok (.iload_n 3, 1) := by decide +kernel
theorem dX7_doesExplain_86 : decode cX7_doesExplain 86 = .ok (.ifCond .eq 8, 3) := by decide +kernel
theorem dX7_doesExplain_89 : decode cX7_doesExplain 89 = .ok (.iload 6, 2) := by decide +kernel
theorem dX7_doesExplain_91 : decode cX7_doesExplain 91 = .ok (.goto 4, 3) := by decide +kernel
theorem dX7_doesExplain_94 : decode cX7_doesExplain 94 = .ok (.iconst 0, 1) := by decide +kernel
theorem dX7_doesExplain_95 : decode cX7_doesExplain 95 = .ok (.iadd, 1) := by decide +kernel
theorem dX7_doesExplain_96 : decode cX7_doesExplain 96 = .ok (.istore 4, 2) := by decide +kernel
theorem dX7_doesExplain_98 : decode cX7_doesExplain 98 = .ok (.iinc 5 1, 3) := by decide +kernel
theorem dX7_doesExplain_101 : decode cX7_doesExplain 101 = .ok (.goto (-64), 3) := by decide +kernel
theorem dX7_doesExplain_104 : decode cX7_doesExplain 104 = .ok (.iload_n 3, 1) := by decide +kernel
theorem dX7_doesExplain_105 : decode cX7_doesExplain 105 = .ok (.ifCond .eq 10, 3) := by decide +kernel
theorem dX7_doesExplain_108 : decode cX7_doesExplain 108 = .ok (.iload 4, 2) := by decide +kernel
theorem dX7_doesExplain_110 : decode cX7_doesExplain 110 = .ok (.ifCond .ge 5, 3) := by decide +kernel
theorem dX7_doesExplain_113 : decode cX7_doesExplain 113 = .ok (.iconst 0, 1) := by decide +kernel
theorem dX7_doesExplain_114 : decode cX7_doesExplain 114 = .ok (.ireturn, 1) := by decide +kernel
theorem dX7_doesExplain_115 : decode cX7_doesExplain 115 = .ok (.iinc 2 1, 3) := by decide +kernel
theorem dX7_doesExplain_118 : decode cX7_doesExplain 118 = .ok (.goto (-111), 3) := by decide +kernel
theorem dX7_doesExplain_121 : decode cX7_doesExplain 121 = .ok (.iconst 1, 1) := by decide +kernel
theorem dX7_doesExplain_122 : decode cX7_doesExplain 122 = .ok (.ireturn, 1) := by decide +kernel
set_option maxRecDepth 20000 in
theorem ggX7_explains_X7_isSet : GoodIn wsX7_explains wsX7_isSet := goodIn_r _ [5, 6, 7, 8, 4, 9, 48, 49, 50, 51, 52, 53, 54, 55, 56, 57, 58, 59, 60, 61, 62, 63, 64, 65, 66, 67, 68, 69, 70] (by decide +kernel) (by decide +kernel)
set_option maxRecDepth 20000 in
theorem gX7_explains_X7_isSet : GoodIn wsX7_explains (wsV RX7 100 RX7 yX7_isSet wsX7_isSet) := goodIn_app (goodIn_of _ (by decide +kernel)) ggX7_explains_X7_isSet
set_option maxRecDepth 20000 in
theorem ggX7_explains_X7_doesExplain : GoodIn wsX7_explains wsX7_doesExplain := goodIn_r _ [13, 14, 15, 16, 17, 18, 19, 4, 20, 6, 21, 22, 23, 24, 25, 26, 27, 28, 29, 30, 31, 32, 33, 34, 35, 36, 37, 38, 39, 40, 41, 42, 43, 44, 45, 46, 47, 48, 49, 50, 51, 52, 53, 54, 55, 56, 57, 58, 59, 60, 61, 62, 63, 64, 65, 66, 67, 68, 69, 70] (by decide +kernel) (by decide +kernel)
set_option maxRecDepth 20000 in
theorem gX7_explains_X7_doesExplain : GoodIn wsX7_explains (wsV RX7 107 RX7 yX7_doesExplain wsX7_doesExplain) := goodIn_app (goodIn_of _ (by decide +kernel)) ggX7_explains_X7_doesExplain
theorem dX7_explains_0 : decode cX7_explains 0 = .ok (.aload_n 0, 1) := by decide +kernel
theorem dX7_explains_1 : decode cX7_explains 1 = .ok (.iload_n 1, 1) := by decide +kernel
theorem dX7_explains_2 : decode cX7_explains 2 = .ok (.invokevirtual 100, 3) := by decide +kernel
theorem dX7_explains_5 : decode cX7_explains 5 = .ok (.ifCond .ne 8, 3) := by decide +kernel
theorem dX7_explains_8 : decode cX7_explains 8 = .ok (.bipush (-2), 2) := by decide +kernel
theorem dX7_explains_10 : decode cX7_explains 10 = .ok (.goto 16, 3) := by decide +kernel
theorem dX7_explains_13 : decode cX7_explains 13 = .ok (.aload_n 0, 1) := by decide +kernel
theorem dX7_explains_14 : decode cX7_explains 14 = .ok (.iload_n 1, 1) := by decide +kernel
theorem dX7_explains_15 : decode cX7_explains 15 = .ok (.invokevirtual 107, 3) := by decide +kernel
theorem dX7_explains_18 : decode cX7_explains 18 = .ok (.ifCond .eq 7, 3) := by decide +kernel
theorem dX7_explains_21 : decode cX7_explains 21 = .ok (.iconst 1, 1) := by decide +kernel
theorem dX7_explains_22 : decode cX7_explains 22 = .ok (.goto 4, 3) := by decide +kernel
theorem dX7_explains_25 : decode cX7_explains 25 = .ok (.iconst 0, 1) := by decide +kernel
theorem dX7_explains_26 : decode cX7_explains 26 = .ok (.ireturn, 1) := by decide +kernel
theorem dX7_many_0 : decode cX7_many 0 = .ok (.iconst 0, 1) := by decide +kernel
theorem dX7_many_1 : decode cX7_many 1 = .ok (.istore_n 1, 1) := by decide +kernel
theorem dX7_many_2 : decode cX7_many 2 = .ok (.iload_n 0, 1) := by decide +kernel
theorem dX7_many_3 : decode cX7_many 3 = .ok (.istore_n 2, 1) := by decide +kernel
theorem dX7_many_4 : decode cX7_many 4 = .ok (.iload_n 2, 1) := by decide +kernel
theorem dX7_many_5 : decode cX7_many 5 = .ok (.ifCond .le 16, 3) := by decide +kernel
theorem dX7_many_8 : decode cX7_many 8 = .ok (.iload_n 1, 1) := by decide +kernel
theorem dX7_many_9 : decode cX7_many 9 = .ok (.iload_n 2, 1) := by decide +kernel
theorem dX7_many_10 : decode cX7_many 10 = .ok (.iconst 1, 1) := by decide +kernel
theorem dX7_many_11 : decode cX7_many 11 = .ok (.iand, 1) := by decide +kernel
theorem dX7_many_12 : decode cX7_many 12 = .ok (.iadd, 1) := by decide +kernel
theorem dX7_many_13 : decode cX7_many 13 = .ok (.istore_n 1, 1) := by decide +kernel
theorem dX7_many_14 : decode cX7_many 14 = .ok (.iload_n 2, 1) := by decide +kernel
theorem dX7_many_15 : decode cX7_many 15 = .ok (.iconst 1, 1) := by decide +kernel
theorem dX7_many_16 : decode cX7_many 16 = .ok (.ishr, 1) := by decide +kernel
theorem dX7_many_17 : decode cX7_many 17 = .ok (.istore_n 2, 1) := by decide +kernel
theorem dX7_many_18 : decode cX7_many 18 = .ok (.goto (-14), 3) := by decide +kernel
theorem dX7_many_21 : decode cX7_many 21 = .ok (.iload_n 1, 1) := by decide +kernel
theorem dX7_many_22 : decode cX7_many 22 = .ok (.ireturn, 1) := by decide +kernel
set_option maxRecDepth 20000 in
theorem ggX7_fewest_X7_many : GoodIn wsX7_fewest wsX7_many := goodIn_r _ [5] (by decide +kernel) (by decide +kernel)
set_option maxRecDepth 20000 in
theorem gX7_fewest_X7_many : GoodIn wsX7_fewest (va_wsS RX7 110 yX7_many wsX7_many) := goodIn_app (goodIn_of _ (by decide +kernel)) ggX7_fewest_X7_many
set_option maxRecDepth 20000 in
theorem ggX7_fewest_X7_doesExplain : GoodIn wsX7_fewest wsX7_doesExplain := goodIn_r _ [9, 10, 11, 12, 13, 14, 15, 4, 16, 1, 17, 18, 19, 20, 21, 22, 23, 24, 25, 26, 27, 28, 29, 30, 31, 32, 33, 34, 35, 36, 37, 38, 39, 40, 41, 42, 43, 44, 45, 46, 47, 48, 49, 50, 51, 52, 53, 54, 55, 56, 57, 58, 59, 60, 61, 62, 63, 64, 65, 66] (by decide +kernel) (by decide +kernel)
set_option maxRecDepth 20000 in
theorem gX7_fewest_X7_doesExplain : GoodIn wsX7_fewest (wsV RX7 107 RX7 yX7_doesExplain wsX7_doesExplain) := goodIn_app (goodIn_of _ (by decide +kernel)) ggX7_fewest_X7_doesExplain
theorem dX7_fewest_0 : decode cX7_fewest 0 = .ok (.iconst (-1), 1) := by decide +kernel
theorem dX7_fewest_1 : decode cX7_fewest 1 = .ok (.istore_n 1, 1) := by decide +kernel
theorem dX7_fewest_2 : decode cX7_fewest 2 = .ok (.iconst 0, 1) := by decide +kernel
theorem dX7_fewest_3 : decode cX7_fewest 3 = .ok (.istore_n 2, 1) := by decide +kernel
theorem dX7_fewest_4 : decode cX7_fewest 4 = .ok (.iload_n 2, 1) := by decide +kernel
theorem dX7_fewest_5 : decode cX7_fewest 5 = .ok (.iconst 1, 1) := by decide +kernel
theorem dX7_fewest_6 : decode cX7_fewest 6 = .ok (.aload_n 0, 1) := by decide +kernel
theorem dX7_fewest_7 : decode cX7_fewest 7 = .ok (.getfield 97, 3) := by decide +kernel
theorem dX7_fewest_10 : decode cX7_fewest 10 = .ok (.ishl, 1) := by decide +kernel
theorem dX7_fewest_11 : decode cX7_fewest 11 = .ok (.if_icmp .ge 35, 3) := by decide +kernel
theorem dX7_fewest_14 : decode cX7_fewest 14 = .ok (.iload_n 1, 1) := by decide +kernel
theorem dX7_fewest_15 : decode cX7_fewest 15 = .ok (.iconst (-1), 1) := by decide +kernel
theorem dX7_fewest_16 : decode cX7_fewest 16 = .ok (.if_icmp .eq 14, 3) := by decide +kernel
theorem dX7_fewest_19 : decode cX7_fewest 19 = .ok (.iload_n 2, 1) := by decide +kernel
theorem dX7_fewest_20 : decode cX7_fewest 20 = .ok (.invokestatic 110, 3) := by decide +kernel
theorem dX7_fewest_23 : decode cX7_fewest 23 = .ok (.iload_n 1, 1) := by decide +kernel
theorem dX7_fewest_24 : decode cX7_fewest 24 = .ok (.invokestatic 110, 3) := by decide +kernel
theorem dX7_fewest_27 : decode cX7_fewest 27 = .ok (.if_icmp .ge 13, 3) := by decide +kernel
theorem dX7_fewest_30 : decode cX7_fewest 30 = .ok (.aload_n 0, 1) := by decide +kernel
theorem dX7_fewest_31 : decode cX7_fewest 31 = .ok (.iload_n 2, 1) := by decide +kernel
theorem dX7_fewest_32 : decode cX7_fewest 32 = .ok (.invokevirtual 107, 3) := by decide +kernel
theorem dX7_fewest_35 : decode cX7_fewest 35 = .ok (.ifCond .eq 5, 3) := by decide +kernel
theorem dX7_fewest_38 : decode cX7_fewest 38 = .ok (.iload_n 2, 1) := by decide +kernel
theorem dX7_fewest_39 : decode cX7_fewest 39 = .ok (.istore_n 1, 1) := by decide +kernel
theorem dX7_fewest_40 : decode cX7_fewest 40 = .ok (.iinc 2 1, 3) := by decide +kernel
theorem dX7_fewest_43 : decode cX7_fewest 43 = .ok (.goto (-39), 3) := by decide +kernel
theorem dX7_fewest_46 : decode cX7_fewest 46 = .ok (.iload_n 1, 1) := by decide +kernel
theorem dX7_fewest_47 : decode cX7_fewest 47 = .ok (.ireturn, 1) := by decide +kernel
set_option maxRecDepth 20000 in
theorem ggX7_sample_X7_in : GoodIn wsX7_sample wsX7_in := goodIn_r _ [6] (by decide +kernel) (by decide +kernel)
set_option maxRecDepth 20000 in
theorem gX7_sample_X7_in : GoodIn wsX7_sample (va_wsS RX7 65 yX7_in wsX7_in) := goodIn_app (goodIn_of _ (by decide +kernel)) ggX7_sample_X7_in
theorem dX7_sample_0 : decode cX7_sample 0 = .ok (.iload_n 1, 1) := by decide +kernel
theorem dX7_sample_1 : decode cX7_sample 1 = .ok (.iconst 0, 1) := by decide +kernel
theorem dX7_sample_2 : decode cX7_sample 2 = .ok (.iconst 1, 1) := by decide +kernel
theorem dX7_sample_3 : decode cX7_sample 3 = .ok (.invokestatic 65, 3) := by decide +kernel
theorem dX7_sample_6 : decode cX7_sample 6 = .ok (.ifCond .eq 32, 3) := by decide +kernel
theorem dX7_sample_9 : decode cX7_sample 9 = .ok (.iload_n 2, 1) := by decide +kernel
theorem dX7_sample_10 : decode cX7_sample 10 = .ok (.iconst 0, 1) := by decide +kernel
theorem dX7_sample_11 : decode cX7_sample 11 = .ok (.bipush 63, 2) := by decide +kernel
theorem dX7_sample_13 : decode cX7_sample 13 = .ok (.invokestatic 65, 3) := by decide +kernel
theorem dX7_sample_16 : decode cX7_sample 16 = .ok (.ifCond .eq 22, 3) := by decide +kernel
theorem dX7_sample_19 : decode cX7_sample 19 = .ok (.iload_n 3, 1) := by decide +kernel
theorem dX7_sample_20 : decode cX7_sample 20 = .ok (.sipush (-1000), 3) := by decide +kernel
theorem dX7_sample_23 : decode cX7_sample 23 = .ok (.sipush 1000, 3) := by decide +kernel
theorem dX7_sample_26 : decode cX7_sample 26 = .ok (.invokestatic 65, 3) := by decide +kernel
theorem dX7_sample_29 : decode cX7_sample 29 = .ok (.ifCond .ne 12, 3) := by decide +kernel
theorem dX7_sample_32 : decode cX7_sample 32 = .ok (.iload_n 3, 1) := by decide +kernel
theorem dX7_sample_33 : decode cX7_sample 33 = .ok (.ldc 92, 2) := by decide +kernel
theorem dX7_sample_35 : decode cX7_sample 35 = .ok (.if_icmp .eq 6, 3) := by decide +kernel
theorem dX7_sample_38 : decode cX7_sample 38 = .ok (.bipush (-2), 2) := by decide +kernel
theorem dX7_sample_40 : decode cX7_sample 40 = .ok (.ireturn, 1) := by decide +kernel
theorem dX7_sample_41 : decode cX7_sample 41 = .ok (.aload_n 0, 1) := by decide +kernel
theorem dX7_sample_42 : decode cX7_sample 42 = .ok (.getfield 38, 3) := by decide +kernel
theorem dX7_sample_45 : decode cX7_sample 45 = .ok (.bipush 64, 2) := by decide +kernel
theorem dX7_sample_47 : decode cX7_sample 47 = .ok (.iload_n 1, 1) := by decide +kernel
theorem dX7_sample_48 : decode cX7_sample 48 = .ok (.imul, 1) := by decide +kernel
theorem dX7_sample_49 : decode cX7_sample 49 = .ok (.iload_n 2, 1) := by decide +kernel
theorem dX7_sample_50 : decode cX7_sample 50 = .ok (.iadd, 1) := by decide +kernel
theorem dX7_sample_51 : decode cX7_sample 51 = .ok (.iload_n 3, 1) := by decide +kernel
theorem dX7_sample_52 : decode cX7_sample 52 = .ok (.iastore, 1) := by decide +kernel
theorem dX7_sample_53 : decode cX7_sample 53 = .ok (.iconst 1, 1) := by decide +kernel
theorem dX7_sample_54 : decode cX7_sample 54 = .ok (.ireturn, 1) := by decide +kernel
set_option maxRecDepth 20000 in
theorem ggX7_echo_X7_in : GoodIn wsX7_echo wsX7_in := goodIn_r _ [5] (by decide +kernel) (by decide +kernel)
set_option maxRecDepth 20000 in
theorem gX7_echo_X7_in : GoodIn wsX7_echo (va_wsS RX7 65 yX7_in wsX7_in) := goodIn_app (goodIn_of _ (by decide +kernel)) ggX7_echo_X7_in
theorem dX7_echo_0 : decode cX7_echo 0 = .ok (.iload_n 1, 1) := by decide +kernel
theorem dX7_echo_1 : decode cX7_echo 1 = .ok (.iconst 0, 1) := by decide +kernel
theorem dX7_echo_2 : decode cX7_echo 2 = .ok (.iconst 1, 1) := by decide +kernel
theorem dX7_echo_3 : decode cX7_echo 3 = .ok (.invokestatic 65, 3) := by decide +kernel
theorem dX7_echo_6 : decode cX7_echo 6 = .ok (.ifCond .eq 40, 3) := by decide +kernel
theorem dX7_echo_9 : decode cX7_echo 9 = .ok (.iload 4, 2) := by decide +kernel
theorem dX7_echo_11 : decode cX7_echo 11 = .ok (.iconst 1, 1) := by decide +kernel
theorem dX7_echo_12 : decode cX7_echo 12 = .ok (.bipush 64, 2) := by decide +kernel
theorem dX7_echo_14 : decode cX7_echo 14 = .ok (.invokestatic 65, 3) := by decide +kernel
theorem dX7_echo_17 : decode cX7_echo 17 = .ok (.ifCond .eq 29, 3) := by decide +kernel
theorem dX7_echo_20 : decode cX7_echo 20 = .ok (.iload_n 2, 1) := by decide +kernel
theorem dX7_echo_21 : decode cX7_echo 21 = .ok (.iconst 0, 1) := by decide +kernel
theorem dX7_echo_22 : decode cX7_echo 22 = .ok (.bipush 64, 2) := by decide +kernel
theorem dX7_echo_24 : decode cX7_echo 24 = .ok (.iload 4, 2) := by decide +kernel
theorem dX7_echo_26 : decode cX7_echo 26 = .ok (.isub, 1) := by decide +kernel
theorem dX7_echo_27 : decode cX7_echo 27 = .ok (.invokestatic 65, 3) := by decide +kernel
theorem dX7_echo_30 : decode cX7_echo 30 = .ok (.ifCond .eq 16, 3) := by decide +kernel
theorem dX7_echo_33 : decode cX7_echo 33 = .ok (.iload_n 3, 1) := by decide +kernel
theorem dX7_echo_34 : decode cX7_echo 34 = .ok (.iconst 0, 1) := by decide +kernel
theorem dX7_echo_35 : decode cX7_echo 35 = .ok (.bipush 64, 2) := by decide +kernel
theorem dX7_echo_37 : decode cX7_echo 37 = .ok (.iload 4, 2) := by decide +kernel
theorem dX7_echo_39 : decode cX7_echo 39 = .ok (.isub, 1) := by decide +kernel
theorem dX7_echo_40 : decode cX7_echo 40 = .ok (.invokestatic 65, 3) := by decide +kernel
theorem dX7_echo_43 : decode cX7_echo 43 = .ok (.ifCond .ne 6, 3) := by decide +kernel
theorem dX7_echo_46 : decode cX7_echo 46 = .ok (.bipush (-2), 2) := by decide +kernel
theorem dX7_echo_48 : decode cX7_echo 48 = .ok (.ireturn, 1) := by decide +kernel
theorem dX7_echo_49 : decode cX7_echo 49 = .ok (.iconst 0, 1) := by decide +kernel
theorem dX7_echo_50 : decode cX7_echo 50 = .ok (.istore 5, 2) := by decide +kernel
theorem dX7_echo_52 : decode cX7_echo 52 = .ok (.iload 5, 2) := by decide +kernel
theorem dX7_echo_54 : decode cX7_echo 54 = .ok (.iload 4, 2) := by decide +kernel
theorem dX7_echo_56 : decode cX7_echo 56 = .ok (.if_icmp .ge 39, 3) := by decide +kernel
theorem dX7_echo_59 : decode cX7_echo 59 = .ok (.aload_n 0, 1) := by decide +kernel
theorem dX7_echo_60 : decode cX7_echo 60 = .ok (.getfield 38, 3) := by decide +kernel
theorem dX7_echo_63 : decode cX7_echo 63 = .ok (.bipush 64, 2) := by decide +kernel
theorem dX7_echo_65 : decode cX7_echo 65 = .ok (.iload_n 1, 1) := by decide +kernel
theorem dX7_echo_66 : decode cX7_echo 66 = .ok (.imul, 1) := by decide +kernel
theorem dX7_echo_67 : decode cX7_echo 67 = .ok (.iload_n 2, 1) := by decide +kernel
theorem dX7_echo_68 : decode cX7_echo 68 = .ok (.iadd, 1) := by decide +kernel
theorem dX7_echo_69 : decode cX7_echo 69 = .ok (.iload 5, 2) := by decide +kernel
theorem dX7_echo_71 : decode cX7_echo 71 = .ok (.iadd, 1) := by decide +kernel
theorem dX7_echo_72 : decode cX7_echo 72 = .ok (.aload_n 0, 1) := by decide +kernel
theorem dX7_echo_73 : decode cX7_echo 73 = .ok (.getfield 38, 3) := by decide +kernel
theorem dX7_echo_76 : decode cX7_echo 76 = .ok (.bipush 64, 2) := by decide +kernel
theorem dX7_echo_78 : decode cX7_echo 78 = .ok (.iconst 1, 1) := by decide +kernel
theorem dX7_echo_79 : decode cX7_echo 79 = .ok (.iload_n 1, 1) := by decide +kernel
theorem dX7_echo_80 : decode cX7_echo 80 = .ok (.isub, 1) := by decide +kernel
theorem dX7_echo_81 : decode cX7_echo 81 = .ok (.imul, 1) := by decide +kernel
theorem dX7_echo_82 : decode cX7_echo 82 = .ok (.iload_n 3, 1) := by decide +kernel
theorem dX7_echo_83 : decode cX7_echo 83 = .ok (.iadd, 1) := by decide +kernel
theorem dX7_echo_84 : decode cX7_echo 84 = .ok (.iload 5, 2) := by decide +kernel
theorem dX7_echo_86 : decode cX7_echo 86 = .ok (.iadd, 1) := by decide +kernel
theorem dX7_echo_87 : decode cX7_echo 87 = .ok (.iaload, 1) := by decide +kernel
theorem dX7_echo_88 : decode cX7_echo 88 = .ok (.iastore, 1) := by decide +kernel
theorem dX7_echo_89 : decode cX7_echo 89 = .ok (.iinc 5 1, 3) := by decide +kernel
theorem dX7_echo_92 : decode cX7_echo 92 = .ok (.goto (-40), 3) := by decide +kernel
theorem dX7_echo_95 : decode cX7_echo 95 = .ok (.iconst 1, 1) := by decide +kernel
theorem dX7_echo_96 : decode cX7_echo 96 = .ok (.ireturn, 1) := by decide +kernel
set_option maxRecDepth 20000 in
theorem ggX7_isBoth_X7_in : GoodIn wsX7_isBoth wsX7_in := goodIn_r _ [6] (by decide +kernel) (by decide +kernel)
set_option maxRecDepth 20000 in
theorem gX7_isBoth_X7_in : GoodIn wsX7_isBoth (va_wsS RX7 65 yX7_in wsX7_in) := goodIn_app (goodIn_of _ (by decide +kernel)) ggX7_isBoth_X7_in
theorem dX7_isBoth_0 : decode cX7_isBoth 0 = .ok (.iload_n 1, 1) := by decide +kernel
theorem dX7_isBoth_1 : decode cX7_isBoth 1 = .ok (.iload_n 2, 1) := by decide +kernel
theorem dX7_isBoth_2 : decode cX7_isBoth 2 = .ok (.iadd, 1) := by decide +kernel
theorem dX7_isBoth_3 : decode cX7_isBoth 3 = .ok (.iconst 0, 1) := by decide +kernel
theorem dX7_isBoth_4 : decode cX7_isBoth 4 = .ok (.bipush 63, 2) := by decide +kernel
theorem dX7_isBoth_6 : decode cX7_isBoth 6 = .ok (.invokestatic 65, 3) := by decide +kernel
theorem dX7_isBoth_9 : decode cX7_isBoth 9 = .ok (.ifCond .eq 34, 3) := by decide +kernel
theorem dX7_isBoth_12 : decode cX7_isBoth 12 = .ok (.aload_n 0, 1) := by decide +kernel
theorem dX7_isBoth_13 : decode cX7_isBoth 13 = .ok (.getfield 38, 3) := by decide +kernel
theorem dX7_isBoth_16 : decode cX7_isBoth 16 = .ok (.iload_n 1, 1) := by decide +kernel
theorem dX7_isBoth_17 : decode cX7_isBoth 17 = .ok (.iaload, 1) := by decide +kernel
theorem dX7_isBoth_18 : decode cX7_isBoth 18 = .ok (.ldc 92, 2) := by decide +kernel
theorem dX7_isBoth_20 : decode cX7_isBoth 20 = .ok (.if_icmp .eq 23, 3) := by decide +kernel
theorem dX7_isBoth_23 : decode cX7_isBoth 23 = .ok (.aload_n 0, 1) := by decide +kernel
theorem dX7_isBoth_24 : decode cX7_isBoth 24 = .ok (.getfield 38, 3) := by decide +kernel
theorem dX7_isBoth_27 : decode cX7_isBoth 27 = .ok (.bipush 64, 2) := by decide +kernel
theorem dX7_isBoth_29 : decode cX7_isBoth 29 = .ok (.iload_n 1, 1) := by decide +kernel
theorem dX7_isBoth_30 : decode cX7_isBoth 30 = .ok (.iadd, 1) := by decide +kernel
theorem dX7_isBoth_31 : decode cX7_isBoth 31 = .ok (.iload_n 2, 1) := by decide +kernel
theorem dX7_isBoth_32 : decode cX7_isBoth 32 = .ok (.iadd, 1) := by decide +kernel
theorem dX7_isBoth_33 : decode cX7_isBoth 33 = .ok (.iaload, 1) := by decide +kernel
theorem dX7_isBoth_34 : decode cX7_isBoth 34 = .ok (.ldc 92, 2) := by decide +kernel
theorem dX7_isBoth_36 : decode cX7_isBoth 36 = .ok (.if_icmp .eq 7, 3) := by decide +kernel
theorem dX7_isBoth_39 : decode cX7_isBoth 39 = .ok (.iconst 1, 1) := by decide +kernel
theorem dX7_isBoth_40 : decode cX7_isBoth 40 = .ok (.goto 4, 3) := by decide +kernel
theorem dX7_isBoth_43 : decode cX7_isBoth 43 = .ok (.iconst 0, 1) := by decide +kernel
theorem dX7_isBoth_44 : decode cX7_isBoth 44 = .ok (.ireturn, 1) := by decide +kernel
set_option maxRecDepth 20000 in
theorem ggX7_sumOf_X7_isBoth : GoodIn wsX7_sumOf wsX7_isBoth := goodIn_r _ [6, 1, 7, 8, 9, 5, 10, 11, 12, 13, 14, 15, 16, 17, 18, 19, 20, 21, 22, 23, 24, 25, 26, 27, 28, 29, 30, 31, 32, 33] (by decide +kernel) (by decide +kernel)
set_option maxRecDepth 20000 in
theorem gX7_sumOf_X7_isBoth : GoodIn wsX7_sumOf (wsV RX7 113 RX7 yX7_isBoth wsX7_isBoth) := goodIn_app (goodIn_of _ (by decide +kernel)) ggX7_sumOf_X7_isBoth
theorem dX7_sumOf_0 : decode cX7_sumOf 0 = .ok (.iconst 0, 1) := by decide +kernel
theorem dX7_sumOf_1 : decode cX7_sumOf 1 = .ok (.istore_n 2, 1) := by decide +kernel
theorem dX7_sumOf_2 : decode cX7_sumOf 2 = .ok (.iconst 0, 1) := by decide +kernel
theorem dX7_sumOf_3 : decode cX7_sumOf 3 = .ok (.istore_n 3, 1) := by decide +kernel
theorem dX7_sumOf_4 : decode cX7_sumOf 4 = .ok (.iload_n 3, 1) := by decide +kernel
theorem dX7_sumOf_5 : decode cX7_sumOf 5 = .ok (.bipush 64, 2) := by decide +kernel
theorem dX7_sumOf_7 : decode cX7_sumOf 7 = .ok (.if_icmp .ge 43, 3) := by decide +kernel
theorem dX7_sumOf_10 : decode cX7_sumOf 10 = .ok (.iload_n 2, 1) := by decide +kernel
theorem dX7_sumOf_11 : decode cX7_sumOf 11 = .ok (.aload_n 0, 1) := by decide +kernel
theorem dX7_sumOf_12 : decode cX7_sumOf 12 = .ok (.iload_n 3, 1) := by decide +kernel
theorem dX7_sumOf_13 : decode cX7_sumOf 13 = .ok (.iload_n 1, 1) := by decide +kernel
theorem dX7_sumOf_14 : decode cX7_sumOf 14 = .ok (.invokevirtual 113, 3) := by decide +kernel
theorem dX7_sumOf_17 : decode cX7_sumOf 17 = .ok (.ifCond .eq 24, 3) := by decide +kernel
theorem dX7_sumOf_20 : decode cX7_sumOf 20 = .ok (.aload_n 0, 1) := by decide +kernel
theorem dX7_sumOf_21 : decode cX7_sumOf 21 = .ok (.getfield 38, 3) := by decide +kernel
theorem dX7_sumOf_24 : decode cX7_sumOf 24 = .ok (.iload_n 3, 1) := by decide +kernel
theorem dX7_sumOf_25 : decode cX7_sumOf 25 = .ok (.iaload, 1) := by decide +kernel
theorem dX7_sumOf_26 : decode cX7_sumOf 26 = .ok (.aload_n 0, 1) := by decide +kernel
theorem dX7_sumOf_27 : decode cX7_sumOf 27 = .ok (.getfield 38, 3) := by decide +kernel
theorem dX7_sumOf_30 : decode cX7_sumOf 30 = .ok (.bipush 64, 2) := by decide +kernel
theorem dX7_sumOf_32 : decode cX7_sumOf 32 = .ok (.iload_n 3, 1) := by decide +kernel
theorem dX7_sumOf_33 : decode cX7_sumOf 33 = .ok (.iadd, 1) := by decide +kernel
theorem dX7_sumOf_34 : decode cX7_sumOf 34 = .ok (.iload_n 1, 1) := by decide +kernel
theorem dX7_sumOf_35 : decode cX7_sumOf 35 = .ok (.iadd, 1) := by decide +kernel
theorem dX7_sumOf_36 : decode cX7_sumOf 36 = .ok (.iaload, 1) := by decide +kernel
theorem dX7_sumOf_37 : decode cX7_sumOf 37 = .ok (.imul, 1) := by decide +kernel
theorem dX7_sumOf_38 : decode cX7_sumOf 38 = .ok (.goto 4, 3) := by decide +kernel
theorem dX7_sumOf_41 : decode cX7_sumOf 41 = .ok (.iconst 0, 1) := by decide +kernel
theorem dX7_sumOf_42 : decode cX7_sumOf 42 = .ok (.iadd, 1) := by decide +kernel
theorem dX7_sumOf_43 : decode cX7_sumOf 43 = .ok (.istore_n 2, 1) := by decide +kernel
theorem dX7_sumOf_44 : decode cX7_sumOf 44 = .ok (.iinc 3 1, 3) := by decide +kernel
theorem dX7_sumOf_47 : decode cX7_sumOf 47 = .ok (.goto (-43), 3) := by decide +kernel
theorem dX7_sumOf_50 : decode cX7_sumOf 50 = .ok (.iload_n 2, 1) := by decide +kernel
theorem dX7_sumOf_51 : decode cX7_sumOf 51 = .ok (.ireturn, 1) := by decide +kernel
set_option maxRecDepth 20000 in
theorem ggX7_countOf_X7_isBoth : GoodIn wsX7_countOf wsX7_isBoth := goodIn_r _ [5, 6, 7, 8, 9, 4, 10, 11, 12, 13, 14, 15, 16, 17, 18, 19, 20, 21, 22, 23, 24, 25, 26, 27, 28, 29, 30, 31, 32, 33] (by decide +kernel) (by decide +kernel)
set_option maxRecDepth 20000 in
theorem gX7_countOf_X7_isBoth : GoodIn wsX7_countOf (wsV RX7 113 RX7 yX7_isBoth wsX7_isBoth) := goodIn_app (goodIn_of _ (by decide +kernel)) ggX7_countOf_X7_isBoth
theorem dX7_countOf_0 : decode cX7_countOf 0 = .ok (.iconst 0, 1) := by decide +kernel
theorem dX7_countOf_1 : decode cX7_countOf 1 = .ok (.istore_n 2, 1) := by decide +kernel
theorem dX7_countOf_2 : decode cX7_countOf 2 = .ok (.iconst 0, 1) := by decide +kernel
theorem dX7_countOf_3 : decode cX7_countOf 3 = .ok (.istore_n 3, 1) := by decide +kernel
theorem dX7_countOf_4 : decode cX7_countOf 4 = .ok (.iload_n 3, 1) := by decide +kernel
theorem dX7_countOf_5 : decode cX7_countOf 5 = .ok (.bipush 64, 2) := by decide +kernel
theorem dX7_countOf_7 : decode cX7_countOf 7 = .ok (.if_icmp .ge 26, 3) := by decide +kernel
theorem dX7_countOf_10 : decode cX7_countOf 10 = .ok (.iload_n 2, 1) := by decide +kernel
theorem dX7_countOf_11 : decode cX7_countOf 11 = .ok (.aload_n 0, 1) := by decide +kernel
theorem dX7_countOf_12 : decode cX7_countOf 12 = .ok (.iload_n 3, 1) := by decide +kernel
theorem dX7_countOf_13 : decode cX7_countOf 13 = .ok (.iload_n 1, 1) := by decide +kernel
theorem dX7_countOf_14 : decode cX7_countOf 14 = .ok (.invokevirtual 113, 3) := by decide +kernel
theorem dX7_countOf_17 : decode cX7_countOf 17 = .ok (.ifCond .eq 7, 3) := by decide +kernel
theorem dX7_countOf_20 : decode cX7_countOf 20 = .ok (.iconst 1, 1) := by decide +kernel
theorem dX7_countOf_21 : decode cX7_countOf 21 = .ok (.goto 4, 3) := by decide +kernel
theorem dX7_countOf_24 : decode cX7_countOf 24 = .ok (.iconst 0, 1) := by decide +kernel
theorem dX7_countOf_25 : decode cX7_countOf 25 = .ok (.iadd, 1) := by decide +kernel
theorem dX7_countOf_26 : decode cX7_countOf 26 = .ok (.istore_n 2, 1) := by decide +kernel
theorem dX7_countOf_27 : decode cX7_countOf 27 = .ok (.iinc 3 1, 3) := by decide +kernel
theorem dX7_countOf_30 : decode cX7_countOf 30 = .ok (.goto (-26), 3) := by decide +kernel
theorem dX7_countOf_33 : decode cX7_countOf 33 = .ok (.iload_n 2, 1) := by decide +kernel
theorem dX7_countOf_34 : decode cX7_countOf 34 = .ok (.ireturn, 1) := by decide +kernel
set_option maxRecDepth 20000 in
theorem ggX7_sum_X7_in : GoodIn wsX7_sum wsX7_in := goodIn_r _ [5] (by decide +kernel) (by decide +kernel)
set_option maxRecDepth 20000 in
theorem gX7_sum_X7_in : GoodIn wsX7_sum (va_wsS RX7 65 yX7_in wsX7_in) := goodIn_app (goodIn_of _ (by decide +kernel)) ggX7_sum_X7_in
set_option maxRecDepth 20000 in
theorem ggX7_sum_X7_sumOf : GoodIn wsX7_sum wsX7_sumOf := goodIn_r _ [9, 10, 11, 12, 13, 4, 14, 1, 2, 3, 5, 19, 20, 21, 22, 23, 24, 25, 26, 27, 28, 29, 30, 31, 32, 33, 34, 35, 36, 37, 38, 39, 40, 41] (by decide +kernel) (by decide +kernel)
set_option maxRecDepth 20000 in
theorem gX7_sum_X7_sumOf : GoodIn wsX7_sum (wsV RX7 117 RX7 yX7_sumOf wsX7_sumOf) := goodIn_app (goodIn_of _ (by decide +kernel)) ggX7_sum_X7_sumOf
set_option maxRecDepth 20000 in
theorem ggX7_sum_X7_countOf : GoodIn wsX7_sum wsX7_countOf := goodIn_r _ [18, 11, 12, 13, 4, 14, 10, 1, 2, 3, 5, 19, 20, 21, 22, 23, 24, 25, 26, 27, 28, 29, 30, 31, 32, 33, 34, 35, 36, 37, 38, 39, 40, 41] (by decide +kernel) (by decide +kernel)
set_option maxRecDepth 20000 in
theorem gX7_sum_X7_countOf : GoodIn wsX7_sum (wsV RX7 120 RX7 yX7_countOf wsX7_countOf) := goodIn_app (goodIn_of _ (by decide +kernel)) ggX7_sum_X7_countOf
theorem dX7_sum_0 : decode cX7_sum 0 = .ok (.iload_n 1, 1) := by decide +kernel
theorem dX7_sum_1 : decode cX7_sum 1 = .ok (.bipush (-16), 2) := by decide +kernel
theorem dX7_sum_3 : decode cX7_sum 3 = .ok (.bipush 16, 2) := by decide +kernel
theorem dX7_sum_5 : decode cX7_sum 5 = .ok (.invokestatic 65, 3) := by decide +kernel
theorem dX7_sum_8 : decode cX7_sum 8 = .ok (.ifCond .eq 12, 3) := by decide +kernel
theorem dX7_sum_11 : decode cX7_sum 11 = .ok (.iload_n 2, 1) := by decide +kernel
theorem dX7_sum_12 : decode cX7_sum 12 = .ok (.iconst 0, 1) := by decide +kernel
theorem dX7_sum_13 : decode cX7_sum 13 = .ok (.iconst 1, 1) := by decide +kernel
theorem dX7_sum_14 : decode cX7_sum 14 = .ok (.invokestatic 65, 3) := by decide +kernel
theorem dX7_sum_17 : decode cX7_sum 17 = .ok (.ifCond .ne 8, 3) := by decide +kernel
theorem dX7_sum_20 : decode cX7_sum 20 = .ok (.ldc 92, 2) := by decide +kernel
theorem dX7_sum_22 : decode cX7_sum 22 = .ok (.goto 20, 3) := by decide +kernel
theorem dX7_sum_25 : decode cX7_sum 25 = .ok (.iload_n 2, 1) := by decide +kernel
theorem dX7_sum_26 : decode cX7_sum 26 = .ok (.ifCond .ne 11, 3) := by decide +kernel
theorem dX7_sum_29 : decode cX7_sum 29 = .ok (.aload_n 0, 1) := by decide +kernel
theorem dX7_sum_30 : decode cX7_sum 30 = .ok (.iload_n 1, 1) := by decide +kernel
theorem dX7_sum_31 : decode cX7_sum 31 = .ok (.invokevirtual 117, 3) := by decide +kernel
theorem dX7_sum_34 : decode cX7_sum 34 = .ok (.goto 8, 3) := by decide +kernel
theorem dX7_sum_37 : decode cX7_sum 37 = .ok (.aload_n 0, 1) := by decide +kernel
theorem dX7_sum_38 : decode cX7_sum 38 = .ok (.iload_n 1, 1) := by decide +kernel
theorem dX7_sum_39 : decode cX7_sum 39 = .ok (.invokevirtual 120, 3) := by decide +kernel
theorem dX7_sum_42 : decode cX7_sum 42 = .ok (.ireturn, 1) := by decide +kernel
set_option maxRecDepth 20000 in
theorem ggX7_delayBut_X7_in : GoodIn wsX7_delayBut wsX7_in := goodIn_r _ [4] (by decide +kernel) (by decide +kernel)
set_option maxRecDepth 20000 in
theorem gX7_delayBut_X7_in : GoodIn wsX7_delayBut (va_wsS RX7 65 yX7_in wsX7_in) := goodIn_app (goodIn_of _ (by decide +kernel)) ggX7_delayBut_X7_in
set_option maxRecDepth 20000 in
theorem ggX7_delayBut_X7_countOf : GoodIn wsX7_delayBut wsX7_countOf := goodIn_r _ [8, 9, 10, 11, 3, 12, 13, 14, 1, 2, 4, 19, 20, 21, 22, 23, 24, 25, 26, 27, 28, 29, 30, 31, 32, 33, 34, 35, 36, 37, 38, 39, 40, 41] (by decide +kernel) (by decide +kernel)
set_option maxRecDepth 20000 in
theorem gX7_delayBut_X7_countOf : GoodIn wsX7_delayBut (wsV RX7 120 RX7 yX7_countOf wsX7_countOf) := goodIn_app (goodIn_of _ (by decide +kernel)) ggX7_delayBut_X7_countOf
set_option maxRecDepth 20000 in
theorem ggX7_delayBut_X7_sumOf : GoodIn wsX7_delayBut wsX7_sumOf := goodIn_r _ [18, 13, 9, 10, 11, 3, 12, 14, 1, 2, 4, 19, 20, 21, 22, 23, 24, 25, 26, 27, 28, 29, 30, 31, 32, 33, 34, 35, 36, 37, 38, 39, 40, 41] (by decide +kernel) (by decide +kernel)
set_option maxRecDepth 20000 in
theorem gX7_delayBut_X7_sumOf : GoodIn wsX7_delayBut (wsV RX7 117 RX7 yX7_sumOf wsX7_sumOf) := goodIn_app (goodIn_of _ (by decide +kernel)) ggX7_delayBut_X7_sumOf
theorem dX7_delayBut_0 : decode cX7_delayBut 0 = .ok (.bipush (-101), 2) := by decide +kernel
theorem dX7_delayBut_2 : decode cX7_delayBut 2 = .ok (.istore_n 2, 1) := by decide +kernel
theorem dX7_delayBut_3 : decode cX7_delayBut 3 = .ok (.lconst 0, 1) := by decide +kernel
theorem dX7_delayBut_4 : decode cX7_delayBut 4 = .ok (.lstore_n 3, 1) := by decide +kernel
theorem dX7_delayBut_5 : decode cX7_delayBut 5 = .ok (.lconst 1, 1) := by decide +kernel
theorem dX7_delayBut_6 : decode cX7_delayBut 6 = .ok (.lstore 5, 2) := by decide +kernel
theorem dX7_delayBut_8 : decode cX7_delayBut 8 = .ok (.iconst 0, 1) := by decide +kernel
theorem dX7_delayBut_9 : decode cX7_delayBut 9 = .ok (.istore 7, 2) := by decide +kernel
theorem dX7_delayBut_11 : decode cX7_delayBut 11 = .ok (.iload 7, 2) := by decide +kernel
theorem dX7_delayBut_13 : decode cX7_delayBut 13 = .ok (.bipush 16, 2) := by decide +kernel
theorem dX7_delayBut_15 : decode cX7_delayBut 15 = .ok (.if_icmp .gt 103, 3) := by decide +kernel
theorem dX7_delayBut_18 : decode cX7_delayBut 18 = .ok (.iconst (-1), 1) := by decide +kernel
theorem dX7_delayBut_19 : decode cX7_delayBut 19 = .ok (.istore 8, 2) := by decide +kernel
theorem dX7_delayBut_21 : decode cX7_delayBut 21 = .ok (.iload 8, 2) := by decide +kernel
theorem dX7_delayBut_23 : decode cX7_delayBut 23 = .ok (.iconst 2, 1) := by decide +kernel
theorem dX7_delayBut_24 : decode cX7_delayBut 24 = .ok (.if_icmp .ge 88, 3) := by decide +kernel
theorem dX7_delayBut_27 : decode cX7_delayBut 27 = .ok (.iload 7, 2) := by decide +kernel
theorem dX7_delayBut_29 : decode cX7_delayBut 29 = .ok (.iload 8, 2) := by decide +kernel
theorem dX7_delayBut_31 : decode cX7_delayBut 31 = .ok (.imul, 1) := by decide +kernel
theorem dX7_delayBut_32 : decode cX7_delayBut 32 = .ok (.istore 9, 2) := by decide +kernel
theorem dX7_delayBut_34 : decode cX7_delayBut 34 = .ok (.iload 9, 2) := by decide +kernel
theorem dX7_delayBut_36 : decode cX7_delayBut 36 = .ok (.iload_n 1, 1) := by decide +kernel
theorem dX7_delayBut_37 : decode cX7_delayBut 37 = .ok (.isub, 1) := by decide +kernel
theorem dX7_delayBut_38 : decode cX7_delayBut 38 = .ok (.istore 10, 2) := by decide +kernel
theorem dX7_delayBut_40 : decode cX7_delayBut 40 = .ok (.iload 10, 2) := by decide +kernel
theorem dX7_delayBut_42 : decode cX7_delayBut 42 = .ok (.iconst (-1), 1) := by decide +kernel
theorem dX7_delayBut_43 : decode cX7_delayBut 43 = .ok (.iconst 1, 1) := by decide +kernel
theorem dX7_delayBut_44 : decode cX7_delayBut 44 = .ok (.invokestatic 65, 3) := by decide +kernel
theorem dX7_delayBut_47 : decode cX7_delayBut 47 = .ok (.ifCond .ne 59, 3) := by decide +kernel
theorem dX7_delayBut_50 : decode cX7_delayBut 50 = .ok (.aload_n 0, 1) := by decide +kernel
theorem dX7_delayBut_51 : decode cX7_delayBut 51 = .ok (.iload 9, 2) := by decide +kernel
theorem dX7_delayBut_53 : decode cX7_delayBut 53 = .ok (.invokevirtual 120, 3) := by decide +kernel
theorem dX7_delayBut_56 : decode cX7_delayBut 56 = .ok (.ifCond .le 50, 3) := by decide +kernel
theorem dX7_delayBut_59 : decode cX7_delayBut 59 = .ok (.aload_n 0, 1) := by decide +kernel
theorem dX7_delayBut_60 : decode cX7_delayBut 60 = .ok (.iload 9, 2) := by decide +kernel
theorem dX7_delayBut_62 : decode cX7_delayBut 62 = .ok (.invokevirtual 117, 3) := by decide +kernel
theorem dX7_delayBut_65 : decode cX7_delayBut 65 = .ok (.i2l, 1) := by decide +kernel
theorem dX7_delayBut_66 : decode cX7_delayBut 66 = .ok (.lstore 11, 2) := by decide +kernel
theorem dX7_delayBut_68 : decode cX7_delayBut 68 = .ok (.aload_n 0, 1) := by decide +kernel
theorem dX7_delayBut_69 : decode cX7_delayBut 69 = .ok (.iload 9, 2) := by decide +kernel
theorem dX7_delayBut_71 : decode cX7_delayBut 71 = .ok (.invokevirtual 120, 3) := by decide +kernel
theorem dX7_delayBut_74 : decode cX7_delayBut 74 = .ok (.i2l, 1) := by decide +kernel
theorem dX7_delayBut_75 : decode cX7_delayBut 75 = .ok (.lstore 13, 2) := by decide +kernel
theorem dX7_delayBut_77 : decode cX7_delayBut 77 = .ok (.iload_n 2, 1) := by decide +kernel
theorem dX7_delayBut_78 : decode cX7_delayBut 78 = .ok (.bipush (-101), 2) := by decide +kernel
theorem dX7_delayBut_80 : decode cX7_delayBut 80 = .ok (.if_icmp .eq 16, 3) := by decide +kernel
theorem dX7_delayBut_83 : decode cX7_delayBut 83 = .ok (.lload 11, 2) := by decide +kernel
theorem dX7_delayBut_85 : decode cX7_delayBut 85 = .ok (.lload 5, 2) := by decide +kernel
theorem dX7_delayBut_87 : decode cX7_delayBut 87 = .ok (.lmul, 1) := by decide +kernel
theorem dX7_delayBut_88 : decode cX7_delayBut 88 = .ok (.lload_n 3, 1) := by decide +kernel
theorem dX7_delayBut_89 : decode cX7_delayBut 89 = .ok (.lload 13, 2) := by decide +kernel
theorem dX7_delayBut_91 : decode cX7_delayBut 91 = .ok (.lmul, 1) := by decide +kernel
theorem dX7_delayBut_92 : decode cX7_delayBut 92 = .ok (.lcmp, 1) := by decide +kernel
theorem dX7_delayBut_93 : decode cX7_delayBut 93 = .ok (.ifCond .le 13, 3) := by decide +kernel
theorem dX7_delayBut_96 : decode cX7_delayBut 96 = .ok (.iload 9, 2) := by decide +kernel
theorem dX7_delayBut_98 : decode cX7_delayBut 98 = .ok (.istore_n 2, 1) := by decide +kernel
theorem dX7_delayBut_99 : decode cX7_delayBut 99 = .ok (.lload 11, 2) := by decide +kernel
theorem dX7_delayBut_101 : decode cX7_delayBut 101 = .ok (.lstore_n 3, 1) := by decide +kernel
theorem dX7_delayBut_102 : decode cX7_delayBut 102 = .ok (.lload 13, 2) := by decide +kernel
theorem dX7_delayBut_104 : decode cX7_delayBut 104 = .ok (.lstore 5, 2) := by decide +kernel
theorem dX7_delayBut_106 : decode cX7_delayBut 106 = .ok (.iinc 8 2, 3) := by decide +kernel
theorem dX7_delayBut_109 : decode cX7_delayBut 109 = .ok (.goto (-88), 3) := by decide +kernel
theorem dX7_delayBut_112 : decode cX7_delayBut 112 = .ok (.iinc 7 1, 3) := by decide +kernel
theorem dX7_delayBut_115 : decode cX7_delayBut 115 = .ok (.goto (-104), 3) := by decide +kernel
theorem dX7_delayBut_118 : decode cX7_delayBut 118 = .ok (.iload_n 2, 1) := by decide +kernel
theorem dX7_delayBut_119 : decode cX7_delayBut 119 = .ok (.ireturn, 1) := by decide +kernel
set_option maxRecDepth 20000 in
theorem ggX7_delay_X7_delayBut : GoodIn wsX7_delay wsX7_delayBut := goodIn_r _ [5, 6, 7, 4, 8, 9, 10, 11, 12, 13, 14, 15, 16, 17, 18, 19, 20, 21, 22, 23, 24, 25, 26, 27, 28, 29, 30, 31, 32, 33, 34, 35, 36, 37, 38, 39, 40, 41, 42, 43, 44, 45] (by decide +kernel) (by decide +kernel)
set_option maxRecDepth 20000 in
theorem gX7_delay_X7_delayBut : GoodIn wsX7_delay (wsV RX7 123 RX7 yX7_delayBut wsX7_delayBut) := goodIn_app (goodIn_of _ (by decide +kernel)) ggX7_delay_X7_delayBut
theorem dX7_delay_0 : decode cX7_delay 0 = .ok (.aload_n 0, 1) := by decide +kernel
theorem dX7_delay_1 : decode cX7_delay 1 = .ok (.sipush 1000, 3) := by decide +kernel
theorem dX7_delay_4 : decode cX7_delay 4 = .ok (.invokevirtual 123, 3) := by decide +kernel
theorem dX7_delay_7 : decode cX7_delay 7 = .ok (.istore_n 2, 1) := by decide +kernel
theorem dX7_delay_8 : decode cX7_delay 8 = .ok (.iload_n 1, 1) := by decide +kernel
theorem dX7_delay_9 : decode cX7_delay 9 = .ok (.ifCond .eq 9, 3) := by decide +kernel
theorem dX7_delay_12 : decode cX7_delay 12 = .ok (.iload_n 2, 1) := by decide +kernel
theorem dX7_delay_13 : decode cX7_delay 13 = .ok (.bipush (-101), 2) := by decide +kernel
theorem dX7_delay_15 : decode cX7_delay 15 = .ok (.if_icmp .ne 7, 3) := by decide +kernel
theorem dX7_delay_18 : decode cX7_delay 18 = .ok (.iload_n 2, 1) := by decide +kernel
theorem dX7_delay_19 : decode cX7_delay 19 = .ok (.goto 8, 3) := by decide +kernel
theorem dX7_delay_22 : decode cX7_delay 22 = .ok (.aload_n 0, 1) := by decide +kernel
theorem dX7_delay_23 : decode cX7_delay 23 = .ok (.iload_n 2, 1) := by decide +kernel
theorem dX7_delay_24 : decode cX7_delay 24 = .ok (.invokevirtual 123, 3) := by decide +kernel
theorem dX7_delay_27 : decode cX7_delay 27 = .ok (.ireturn, 1) := by decide +kernel
set_option maxRecDepth 20000 in
theorem ggX7_place_X7_in : GoodIn wsX7_place wsX7_in := goodIn_r _ [5] (by decide +kernel) (by decide +kernel)
set_option maxRecDepth 20000 in
theorem gX7_place_X7_in : GoodIn wsX7_place (va_wsS RX7 65 yX7_in wsX7_in) := goodIn_app (goodIn_of _ (by decide +kernel)) ggX7_place_X7_in
set_option maxRecDepth 20000 in
theorem ggX7_place_X7_delayBut : GoodIn wsX7_place wsX7_delayBut := goodIn_r _ [9, 2, 3, 4, 5, 10, 11, 12, 13, 14, 15, 16, 17, 18, 19, 20, 21, 22, 23, 24, 25, 26, 27, 28, 29, 30, 31, 32, 33, 34, 35, 36, 37, 38, 39, 40, 41, 42, 43, 44, 45, 46] (by decide +kernel) (by decide +kernel)
set_option maxRecDepth 20000 in
theorem gX7_place_X7_delayBut : GoodIn wsX7_place (wsV RX7 123 RX7 yX7_delayBut wsX7_delayBut) := goodIn_app (goodIn_of _ (by decide +kernel)) ggX7_place_X7_delayBut
theorem dX7_place_0 : decode cX7_place 0 = .ok (.iload_n 1, 1) := by decide +kernel
theorem dX7_place_1 : decode cX7_place 1 = .ok (.iconst 1, 1) := by decide +kernel
theorem dX7_place_2 : decode cX7_place 2 = .ok (.ldc 126, 2) := by decide +kernel
theorem dX7_place_4 : decode cX7_place 4 = .ok (.invokestatic 65, 3) := by decide +kernel
theorem dX7_place_7 : decode cX7_place 7 = .ok (.ifCond .eq 35, 3) := by decide +kernel
theorem dX7_place_10 : decode cX7_place 10 = .ok (.iload_n 2, 1) := by decide +kernel
theorem dX7_place_11 : decode cX7_place 11 = .ok (.iconst 1, 1) := by decide +kernel
theorem dX7_place_12 : decode cX7_place 12 = .ok (.sipush 2000, 3) := by decide +kernel
theorem dX7_place_15 : decode cX7_place 15 = .ok (.invokestatic 65, 3) := by decide +kernel
theorem dX7_place_18 : decode cX7_place 18 = .ok (.ifCond .eq 24, 3) := by decide +kernel
theorem dX7_place_21 : decode cX7_place 21 = .ok (.iload_n 3, 1) := by decide +kernel
theorem dX7_place_22 : decode cX7_place 22 = .ok (.iload_n 2, 1) := by decide +kernel
theorem dX7_place_23 : decode cX7_place 23 = .ok (.sipush 2000, 3) := by decide +kernel
theorem dX7_place_26 : decode cX7_place 26 = .ok (.invokestatic 65, 3) := by decide +kernel
theorem dX7_place_29 : decode cX7_place 29 = .ok (.ifCond .eq 13, 3) := by decide +kernel
theorem dX7_place_32 : decode cX7_place 32 = .ok (.iload 4, 2) := by decide +kernel
theorem dX7_place_34 : decode cX7_place 34 = .ok (.iconst 0, 1) := by decide +kernel
theorem dX7_place_35 : decode cX7_place 35 = .ok (.iconst 1, 1) := by decide +kernel
theorem dX7_place_36 : decode cX7_place 36 = .ok (.invokestatic 65, 3) := by decide +kernel
theorem dX7_place_39 : decode cX7_place 39 = .ok (.ifCond .ne 6, 3) := by decide +kernel
theorem dX7_place_42 : decode cX7_place 42 = .ok (.bipush (-2), 2) := by decide +kernel
theorem dX7_place_44 : decode cX7_place 44 = .ok (.ireturn, 1) := by decide +kernel
theorem dX7_place_45 : decode cX7_place 45 = .ok (.aload_n 0, 1) := by decide +kernel
theorem dX7_place_46 : decode cX7_place 46 = .ok (.sipush 1000, 3) := by decide +kernel
theorem dX7_place_49 : decode cX7_place 49 = .ok (.invokevirtual 123, 3) := by decide +kernel
theorem dX7_place_52 : decode cX7_place 52 = .ok (.istore 5, 2) := by decide +kernel
theorem dX7_place_54 : decode cX7_place 54 = .ok (.iload 5, 2) := by decide +kernel
theorem dX7_place_56 : decode cX7_place 56 = .ok (.bipush (-101), 2) := by decide +kernel
theorem dX7_place_58 : decode cX7_place 58 = .ok (.if_icmp .ne 6, 3) := by decide +kernel
theorem dX7_place_61 : decode cX7_place 61 = .ok (.bipush (-3), 2) := by decide +kernel
theorem dX7_place_63 : decode cX7_place 63 = .ok (.ireturn, 1) := by decide +kernel
theorem dX7_place_64 : decode cX7_place 64 = .ok (.iload_n 1, 1) := by decide +kernel
theorem dX7_place_65 : decode cX7_place 65 = .ok (.iload 5, 2) := by decide +kernel
theorem dX7_place_67 : decode cX7_place 67 = .ok (.iload_n 2, 1) := by decide +kernel
theorem dX7_place_68 : decode cX7_place 68 = .ok (.imul, 1) := by decide +kernel
theorem dX7_place_69 : decode cX7_place 69 = .ok (.isub, 1) := by decide +kernel
theorem dX7_place_70 : decode cX7_place 70 = .ok (.istore 6, 2) := by decide +kernel
theorem dX7_place_72 : decode cX7_place 72 = .ok (.iload_n 1, 1) := by decide +kernel
theorem dX7_place_73 : decode cX7_place 73 = .ok (.iload 5, 2) := by decide +kernel
theorem dX7_place_75 : decode cX7_place 75 = .ok (.iload_n 3, 1) := by decide +kernel
theorem dX7_place_76 : decode cX7_place 76 = .ok (.imul, 1) := by decide +kernel
theorem dX7_place_77 : decode cX7_place 77 = .ok (.isub, 1) := by decide +kernel
theorem dX7_place_78 : decode cX7_place 78 = .ok (.istore 7, 2) := by decide +kernel
theorem dX7_place_80 : decode cX7_place 80 = .ok (.iload 4, 2) := by decide +kernel
theorem dX7_place_82 : decode cX7_place 82 = .ok (.ifCond .ne 7, 3) := by decide +kernel
theorem dX7_place_85 : decode cX7_place 85 = .ok (.iconst 1, 1) := by decide +kernel
theorem dX7_place_86 : decode cX7_place 86 = .ok (.goto 4, 3) := by decide +kernel
theorem dX7_place_89 : decode cX7_place 89 = .ok (.iconst 0, 1) := by decide +kernel
theorem dX7_place_90 : decode cX7_place 90 = .ok (.iload 6, 2) := by decide +kernel
theorem dX7_place_92 : decode cX7_place 92 = .ok (.iload 7, 2) := by decide +kernel
theorem dX7_place_94 : decode cX7_place 94 = .ok (.if_icmp .ge 7, 3) := by decide +kernel
theorem dX7_place_97 : decode cX7_place 97 = .ok (.iconst 1, 1) := by decide +kernel
theorem dX7_place_98 : decode cX7_place 98 = .ok (.goto 4, 3) := by decide +kernel
theorem dX7_place_101 : decode cX7_place 101 = .ok (.iconst 0, 1) := by decide +kernel
theorem dX7_place_102 : decode cX7_place 102 = .ok (.if_icmp .ne 8, 3) := by decide +kernel
theorem dX7_place_105 : decode cX7_place 105 = .ok (.iload 6, 2) := by decide +kernel
theorem dX7_place_107 : decode cX7_place 107 = .ok (.goto 5, 3) := by decide +kernel
theorem dX7_place_110 : decode cX7_place 110 = .ok (.iload 7, 2) := by decide +kernel
theorem dX7_place_112 : decode cX7_place 112 = .ok (.istore 8, 2) := by decide +kernel
theorem dX7_place_114 : decode cX7_place 114 = .ok (.iload 8, 2) := by decide +kernel
theorem dX7_place_116 : decode cX7_place 116 = .ok (.ifCond .ge 7, 3) := by decide +kernel
theorem dX7_place_119 : decode cX7_place 119 = .ok (.iconst 0, 1) := by decide +kernel
theorem dX7_place_120 : decode cX7_place 120 = .ok (.goto 19, 3) := by decide +kernel
theorem dX7_place_123 : decode cX7_place 123 = .ok (.iload 8, 2) := by decide +kernel
theorem dX7_place_125 : decode cX7_place 125 = .ok (.iconst 2, 1) := by decide +kernel
theorem dX7_place_126 : decode cX7_place 126 = .ok (.iload_n 1, 1) := by decide +kernel
theorem dX7_place_127 : decode cX7_place 127 = .ok (.imul, 1) := by decide +kernel
theorem dX7_place_128 : decode cX7_place 128 = .ok (.if_icmp .le 9, 3) := by decide +kernel
theorem dX7_place_131 : decode cX7_place 131 = .ok (.iconst 2, 1) := by decide +kernel
theorem dX7_place_132 : decode cX7_place 132 = .ok (.iload_n 1, 1) := by decide +kernel
theorem dX7_place_133 : decode cX7_place 133 = .ok (.imul, 1) := by decide +kernel
theorem dX7_place_134 : decode cX7_place 134 = .ok (.goto 5, 3) := by decide +kernel
theorem dX7_place_137 : decode cX7_place 137 = .ok (.iload 8, 2) := by decide +kernel
theorem dX7_place_139 : decode cX7_place 139 = .ok (.ireturn, 1) := by decide +kernel
set_option maxRecDepth 20000 in
theorem ggX7_section_X7_in : GoodIn wsX7_section wsX7_in := goodIn_r _ [6] (by decide +kernel) (by decide +kernel)
set_option maxRecDepth 20000 in
theorem gX7_section_X7_in : GoodIn wsX7_section (va_wsS RX7 65 yX7_in wsX7_in) := goodIn_app (goodIn_of _ (by decide +kernel)) ggX7_section_X7_in
theorem dX7_section_0 : decode cX7_section 0 = .ok (.iload_n 1, 1) := by decide +kernel
theorem dX7_section_1 : decode cX7_section 1 = .ok (.iconst 1, 1) := by decide +kernel
theorem dX7_section_2 : decode cX7_section 2 = .ok (.bipush 12, 2) := by decide +kernel
theorem dX7_section_4 : decode cX7_section 4 = .ok (.invokestatic 65, 3) := by decide +kernel
theorem dX7_section_7 : decode cX7_section 7 = .ok (.ifCond .eq 25, 3) := by decide +kernel
theorem dX7_section_10 : decode cX7_section 10 = .ok (.iload_n 2, 1) := by decide +kernel
theorem dX7_section_11 : decode cX7_section 11 = .ok (.iconst 0, 1) := by decide +kernel
theorem dX7_section_12 : decode cX7_section 12 = .ok (.iload_n 1, 1) := by decide +kernel
theorem dX7_section_13 : decode cX7_section 13 = .ok (.iconst 1, 1) := by decide +kernel
theorem dX7_section_14 : decode cX7_section 14 = .ok (.isub, 1) := by decide +kernel
theorem dX7_section_15 : decode cX7_section 15 = .ok (.invokestatic 65, 3) := by decide +kernel
theorem dX7_section_18 : decode cX7_section 18 = .ok (.ifCond .eq 14, 3) := by decide +kernel
theorem dX7_section_21 : decode cX7_section 21 = .ok (.iload_n 3, 1) := by decide +kernel
theorem dX7_section_22 : decode cX7_section 22 = .ok (.iconst 0, 1) := by decide +kernel
theorem dX7_section_23 : decode cX7_section 23 = .ok (.sipush 1000, 3) := by decide +kernel
theorem dX7_section_26 : decode cX7_section 26 = .ok (.invokestatic 65, 3) := by decide +kernel
theorem dX7_section_29 : decode cX7_section 29 = .ok (.ifCond .ne 6, 3) := by decide +kernel
theorem dX7_section_32 : decode cX7_section 32 = .ok (.bipush (-2), 2) := by decide +kernel
theorem dX7_section_34 : decode cX7_section 34 = .ok (.ireturn, 1) := by decide +kernel
theorem dX7_section_35 : decode cX7_section 35 = .ok (.aload_n 0, 1) := by decide +kernel
theorem dX7_section_36 : decode cX7_section 36 = .ok (.iload_n 1, 1) := by decide +kernel
theorem dX7_section_37 : decode cX7_section 37 = .ok (.putfield 41, 3) := by decide +kernel
theorem dX7_section_40 : decode cX7_section 40 = .ok (.iload_n 1, 1) := by decide +kernel
theorem dX7_section_41 : decode cX7_section 41 = .ok (.istore 4, 2) := by decide +kernel
theorem dX7_section_43 : decode cX7_section 43 = .ok (.iload 4, 2) := by decide +kernel
theorem dX7_section_45 : decode cX7_section 45 = .ok (.bipush 12, 2) := by decide +kernel
theorem dX7_section_47 : decode cX7_section 47 = .ok (.if_icmp .ge 17, 3) := by decide +kernel
theorem dX7_section_50 : decode cX7_section 50 = .ok (.aload_n 0, 1) := by decide +kernel
theorem dX7_section_51 : decode cX7_section 51 = .ok (.getfield 44, 3) := by decide +kernel
theorem dX7_section_54 : decode cX7_section 54 = .ok (.iload 4, 2) := by decide +kernel
theorem dX7_section_56 : decode cX7_section 56 = .ok (.iconst 0, 1) := by decide +kernel
theorem dX7_section_57 : decode cX7_section 57 = .ok (.iastore, 1) := by decide +kernel
theorem dX7_section_58 : decode cX7_section 58 = .ok (.iinc 4 1, 3) := by decide +kernel
theorem dX7_section_61 : decode cX7_section 61 = .ok (.goto (-18), 3) := by decide +kernel
theorem dX7_section_64 : decode cX7_section 64 = .ok (.aload_n 0, 1) := by decide +kernel
theorem dX7_section_65 : decode cX7_section 65 = .ok (.getfield 44, 3) := by decide +kernel
theorem dX7_section_68 : decode cX7_section 68 = .ok (.iload_n 2, 1) := by decide +kernel
theorem dX7_section_69 : decode cX7_section 69 = .ok (.iaload, 1) := by decide +kernel
theorem dX7_section_70 : decode cX7_section 70 = .ok (.istore 4, 2) := by decide +kernel
theorem dX7_section_72 : decode cX7_section 72 = .ok (.aload_n 0, 1) := by decide +kernel
theorem dX7_section_73 : decode cX7_section 73 = .ok (.getfield 44, 3) := by decide +kernel
theorem dX7_section_76 : decode cX7_section 76 = .ok (.iload_n 2, 1) := by decide +kernel
theorem dX7_section_77 : decode cX7_section 77 = .ok (.iload_n 3, 1) := by decide +kernel
theorem dX7_section_78 : decode cX7_section 78 = .ok (.iastore, 1) := by decide +kernel
theorem dX7_section_79 : decode cX7_section 79 = .ok (.iload 4, 2) := by decide +kernel
theorem dX7_section_81 : decode cX7_section 81 = .ok (.ireturn, 1) := by decide +kernel
theorem dX7_plans_0 : decode cX7_plans 0 = .ok (.iconst 0, 1) := by decide +kernel
theorem dX7_plans_1 : decode cX7_plans 1 = .ok (.istore_n 1, 1) := by decide +kernel
theorem dX7_plans_2 : decode cX7_plans 2 = .ok (.iload_n 1, 1) := by decide +kernel
theorem dX7_plans_3 : decode cX7_plans 3 = .ok (.aload_n 0, 1) := by decide +kernel
theorem dX7_plans_4 : decode cX7_plans 4 = .ok (.getfield 41, 3) := by decide +kernel
theorem dX7_plans_7 : decode cX7_plans 7 = .ok (.if_icmp .ge 175, 3) := by decide +kernel
theorem dX7_plans_10 : decode cX7_plans 10 = .ok (.iconst 0, 1) := by decide +kernel
theorem dX7_plans_11 : decode cX7_plans 11 = .ok (.istore_n 2, 1) := by decide +kernel
theorem dX7_plans_12 : decode cX7_plans 12 = .ok (.iload_n 2, 1) := by decide +kernel
theorem dX7_plans_13 : decode cX7_plans 13 = .ok (.iload_n 1, 1) := by decide +kernel
theorem dX7_plans_14 : decode cX7_plans 14 = .ok (.iadd, 1) := by decide +kernel
theorem dX7_plans_15 : decode cX7_plans 15 = .ok (.aload_n 0, 1) := by decide +kernel
theorem dX7_plans_16 : decode cX7_plans 16 = .ok (.getfield 41, 3) := by decide +kernel
theorem dX7_plans_19 : decode cX7_plans 19 = .ok (.if_icmp .ge 157, 3) := by decide +kernel
theorem dX7_plans_22 : decode cX7_plans 22 = .ok (.iload_n 2, 1) := by decide +kernel
theorem dX7_plans_23 : decode cX7_plans 23 = .ok (.iload_n 1, 1) := by decide +kernel
theorem dX7_plans_24 : decode cX7_plans 24 = .ok (.iadd, 1) := by decide +kernel
theorem dX7_plans_25 : decode cX7_plans 25 = .ok (.istore_n 3, 1) := by decide +kernel
theorem dX7_plans_26 : decode cX7_plans 26 = .ok (.iconst 0, 1) := by decide +kernel
theorem dX7_plans_27 : decode cX7_plans 27 = .ok (.istore 4, 2) := by decide +kernel
theorem dX7_plans_29 : decode cX7_plans 29 = .ok (.iload_n 2, 1) := by decide +kernel
theorem dX7_plans_30 : decode cX7_plans 30 = .ok (.istore 5, 2) := by decide +kernel
theorem dX7_plans_32 : decode cX7_plans 32 = .ok (.iload 5, 2) := by decide +kernel
theorem dX7_plans_34 : decode cX7_plans 34 = .ok (.iload_n 3, 1) := by decide +kernel
theorem dX7_plans_35 : decode cX7_plans 35 = .ok (.if_icmp .gt 21, 3) := by decide +kernel
theorem dX7_plans_38 : decode cX7_plans 38 = .ok (.iload 4, 2) := by decide +kernel
theorem dX7_plans_40 : decode cX7_plans 40 = .ok (.aload_n 0, 1) := by decide +kernel
theorem dX7_plans_41 : decode cX7_plans 41 = .ok (.getfield 44, 3) := by decide +kernel
theorem dX7_plans_44 : decode cX7_plans 44 = .ok (.iload 5, 2) := by decide +kernel
theorem dX7_plans_46 : decode cX7_plans 46 = .ok (.iaload, 1) := by decide +kernel
theorem dX7_plans_47 : decode cX7_plans 47 = .ok (.iadd, 1) := by decide +kernel
theorem dX7_plans_48 : decode cX7_plans 48 = .ok (.istore 4, 2) := by decide +kernel
theorem dX7_plans_50 : decode cX7_plans 50 = .ok (.iinc 5 1, 3) := by decide +kernel
theorem dX7_plans_53 : decode cX7_plans 53 = .ok (.goto (-21), 3) := by decide +kernel
theorem dX7_plans_56 : decode cX7_plans 56 = .ok (.bipush 12, 2) := by decide +kernel
theorem dX7_plans_58 : decode cX7_plans 58 = .ok (.iload_n 2, 1) := by decide +kernel
theorem dX7_plans_59 : decode cX7_plans 59 = .ok (.imul, 1) := by decide +kernel
theorem dX7_plans_60 : decode cX7_plans 60 = .ok (.iload_n 3, 1) := by decide +kernel
theorem dX7_plans_61 : decode cX7_plans 61 = .ok (.iadd, 1) := by decide +kernel
theorem dX7_plans_62 : decode cX7_plans 62 = .ok (.istore 5, 2) := by decide +kernel
theorem dX7_plans_64 : decode cX7_plans 64 = .ok (.aload_n 0, 1) := by decide +kernel
theorem dX7_plans_65 : decode cX7_plans 65 = .ok (.getfield 47, 3) := by decide +kernel
theorem dX7_plans_68 : decode cX7_plans 68 = .ok (.iload 5, 2) := by decide +kernel
theorem dX7_plans_70 : decode cX7_plans 70 = .ok (.iconst 0, 1) := by decide +kernel
theorem dX7_plans_71 : decode cX7_plans 71 = .ok (.iastore, 1) := by decide +kernel
theorem dX7_plans_72 : decode cX7_plans 72 = .ok (.aload_n 0, 1) := by decide +kernel
theorem dX7_plans_73 : decode cX7_plans 73 = .ok (.getfield 50, 3) := by decide +kernel
theorem dX7_plans_76 : decode cX7_plans 76 = .ok (.iload 5, 2) := by decide +kernel
theorem dX7_plans_78 : decode cX7_plans 78 = .ok (.iconst (-1), 1) := by decide +kernel
theorem dX7_plans_79 : decode cX7_plans 79 = .ok (.iastore, 1) := by decide +kernel
theorem dX7_plans_80 : decode cX7_plans 80 = .ok (.iload_n 2, 1) := by decide +kernel
theorem dX7_plans_81 : decode cX7_plans 81 = .ok (.iconst 1, 1) := by decide +kernel
theorem dX7_plans_82 : decode cX7_plans 82 = .ok (.iadd, 1) := by decide +kernel
theorem dX7_plans_83 : decode cX7_plans 83 = .ok (.istore 6, 2) := by decide +kernel
theorem dX7_plans_85 : decode cX7_plans 85 = .ok (.iload 6, 2) := by decide +kernel
theorem dX7_plans_87 : decode cX7_plans 87 = .ok (.iload_n 3, 1) := by decide +kernel
theorem dX7_plans_88 : decode cX7_plans 88 = .ok (.if_icmp .gt 82, 3) := by decide +kernel
theorem dX7_plans_91 : decode cX7_plans 91 = .ok (.iload 4, 2) := by decide +kernel
theorem dX7_plans_93 : decode cX7_plans 93 = .ok (.aload_n 0, 1) := by decide +kernel
theorem dX7_plans_94 : decode cX7_plans 94 = .ok (.getfield 47, 3) := by decide +kernel
theorem dX7_plans_97 : decode cX7_plans 97 = .ok (.bipush 12, 2) := by decide +kernel
theorem dX7_plans_99 : decode cX7_plans 99 = .ok (.iload_n 2, 1) := by decide +kernel
theorem dX7_plans_100 : decode cX7_plans 100 = .ok (.imul, 1) := by decide +kernel
theorem dX7_plans_101 : decode cX7_plans 101 = .ok (.iload 6, 2) := by decide +kernel
theorem dX7_plans_103 : decode cX7_plans 103 = .ok (.iadd, 1) := by decide +kernel
theorem dX7_plans_104 : decode cX7_plans 104 = .ok (.iconst 1, 1) := by decide +kernel
theorem dX7_plans_105 : decode cX7_plans 105 = .ok (.isub, 1) := by decide +kernel
theorem dX7_plans_106 : decode cX7_plans 106 = .ok (.iaload, 1) := by decide +kernel
theorem dX7_plans_107 : decode cX7_plans 107 = .ok (.iadd, 1) := by decide +kernel
theorem dX7_plans_108 : decode cX7_plans 108 = .ok (.aload_n 0, 1) := by decide +kernel
theorem dX7_plans_109 : decode cX7_plans 109 = .ok (.getfield 47, 3) := by decide +kernel
theorem dX7_plans_112 : decode cX7_plans 112 = .ok (.bipush 12, 2) := by decide +kernel
theorem dX7_plans_114 : decode cX7_plans 114 = .ok (.iload 6, 2) := by decide +kernel
theorem dX7_plans_116 : decode cX7_plans 116 = .ok (.imul, 1) := by decide +kernel
theorem dX7_plans_117 : decode cX7_plans 117 = .ok (.iload_n 3, 1) := by decide +kernel
theorem dX7_plans_118 : decode cX7_plans 118 = .ok (.iadd, 1) := by decide +kernel
theorem dX7_plans_119 : decode cX7_plans 119 = .ok (.iaload, 1) := by decide +kernel
theorem dX7_plans_120 : decode cX7_plans 120 = .ok (.iadd, 1) := by decide +kernel
theorem dX7_plans_121 : decode cX7_plans 121 = .ok (.istore 7, 2) := by decide +kernel
theorem dX7_plans_123 : decode cX7_plans 123 = .ok (.aload_n 0, 1) := by decide +kernel
theorem dX7_plans_124 : decode cX7_plans 124 = .ok (.getfield 50, 3) := by decide +kernel
theorem dX7_plans_127 : decode cX7_plans 127 = .ok (.iload 5, 2) := by decide +kernel
theorem dX7_plans_129 : decode cX7_plans 129 = .ok (.iaload, 1) := by decide +kernel
theorem dX7_plans_130 : decode cX7_plans 130 = .ok (.iconst (-1), 1) := by decide +kernel
theorem dX7_plans_131 : decode cX7_plans 131 = .ok (.if_icmp .eq 15, 3) := by decide +kernel
theorem dX7_plans_134 : decode cX7_plans 134 = .ok (.iload 7, 2) := by decide +kernel
theorem dX7_plans_136 : decode cX7_plans 136 = .ok (.aload_n 0, 1) := by decide +kernel
theorem dX7_plans_137 : decode cX7_plans 137 = .ok (.getfield 47, 3) := by decide +kernel
theorem dX7_plans_140 : decode cX7_plans 140 = .ok (.iload 5, 2) := by decide +kernel
theorem dX7_plans_142 : decode cX7_plans 142 = .ok (.iaload, 1) := by decide +kernel
theorem dX7_plans_143 : decode cX7_plans 143 = .ok (.if_icmp .ge 21, 3) := by decide +kernel
theorem dX7_plans_146 : decode cX7_plans 146 = .ok (.aload_n 0, 1) := by decide +kernel
theorem dX7_plans_147 : decode cX7_plans 147 = .ok (.getfield 47, 3) := by decide +kernel
theorem dX7_plans_150 : decode cX7_plans 150 = .ok (.iload 5, 2) := by decide +kernel
theorem dX7_plans_152 : decode cX7_plans 152 = .ok (.iload 7, 2) := by decide +kernel
theorem dX7_plans_154 : decode cX7_plans 154 = .ok (.iastore, 1) := by decide +kernel
theorem dX7_plans_155 : decode cX7_plans 155 = .ok (.aload_n 0, 1) := by decide +kernel
theorem dX7_plans_156 : decode cX7_plans 156 = .ok (.getfield 50, 3) := by decide +kernel
theorem dX7_plans_159 : decode cX7_plans 159 = .ok (.iload 5, 2) := by decide +kernel
theorem dX7_plans_161 : decode cX7_plans 161 = .ok (.iload 6, 2) := by decide +kernel
theorem dX7_plans_163 : decode cX7_plans 163 = .ok (.iastore, 1) := by decide +kernel
theorem dX7_plans_164 : decode cX7_plans 164 = .ok (.iinc 6 1, 3) := by decide +kernel
theorem dX7_plans_167 : decode cX7_plans 167 = .ok (.goto (-82), 3) := by decide +kernel
theorem dX7_plans_170 : decode cX7_plans 170 = .ok (.iinc 2 1, 3) := by decide +kernel
theorem dX7_plans_173 : decode cX7_plans 173 = .ok (.goto (-161), 3) := by decide +kernel
theorem dX7_plans_176 : decode cX7_plans 176 = .ok (.iinc 1 1, 3) := by decide +kernel
theorem dX7_plans_179 : decode cX7_plans 179 = .ok (.goto (-177), 3) := by decide +kernel
theorem dX7_plans_182 : decode cX7_plans 182 = .ok (.return_, 1) := by decide +kernel
theorem dX7_isSpan_0 : decode cX7_isSpan 0 = .ok (.iload_n 1, 1) := by decide +kernel
theorem dX7_isSpan_1 : decode cX7_isSpan 1 = .ok (.ifCond .lt 20, 3) := by decide +kernel
theorem dX7_isSpan_4 : decode cX7_isSpan 4 = .ok (.iload_n 2, 1) := by decide +kernel
theorem dX7_isSpan_5 : decode cX7_isSpan 5 = .ok (.iload_n 1, 1) := by decide +kernel
theorem dX7_isSpan_6 : decode cX7_isSpan 6 = .ok (.if_icmp .lt 15, 3) := by decide +kernel
theorem dX7_isSpan_9 : decode cX7_isSpan 9 = .ok (.iload_n 2, 1) := by decide +kernel
theorem dX7_isSpan_10 : decode cX7_isSpan 10 = .ok (.aload_n 0, 1) := by decide +kernel
theorem dX7_isSpan_11 : decode cX7_isSpan 11 = .ok (.getfield 41, 3) := by decide +kernel
theorem dX7_isSpan_14 : decode cX7_isSpan 14 = .ok (.if_icmp .ge 7, 3) := by decide +kernel
theorem dX7_isSpan_17 : decode cX7_isSpan 17 = .ok (.iconst 1, 1) := by decide +kernel
theorem dX7_isSpan_18 : decode cX7_isSpan 18 = .ok (.goto 4, 3) := by decide +kernel
theorem dX7_isSpan_21 : decode cX7_isSpan 21 = .ok (.iconst 0, 1) := by decide +kernel
theorem dX7_isSpan_22 : decode cX7_isSpan 22 = .ok (.ireturn, 1) := by decide +kernel
set_option maxRecDepth 20000 in
theorem ggX7_cost_X7_isSpan : GoodIn wsX7_cost wsX7_isSpan := goodIn_r _ [6, 7, 14, 15, 16, 17, 18, 19, 20, 21, 22, 23, 24, 25, 26, 27, 28, 29, 30, 31, 32, 33, 34, 35, 36] (by decide +kernel) (by decide +kernel)
set_option maxRecDepth 20000 in
theorem gX7_cost_X7_isSpan : GoodIn wsX7_cost (wsV RX7 127 RX7 yX7_isSpan wsX7_isSpan) := goodIn_app (goodIn_of _ (by decide +kernel)) ggX7_cost_X7_isSpan
set_option maxRecDepth 20000 in
theorem ggX7_cost_X7_plans : GoodIn wsX7_cost wsX7_plans := goodIn_r _ [11, 7, 12, 1, 13, 14, 15, 16, 17, 18, 19, 20, 21, 22, 23, 24, 25, 26, 27, 28, 29, 30, 31, 32, 33, 34, 35, 36] (by decide +kernel) (by decide +kernel)
set_option maxRecDepth 20000 in
theorem gX7_cost_X7_plans : GoodIn wsX7_cost (wsV RX7 130 RX7 yX7_plans wsX7_plans) := goodIn_app (goodIn_of _ (by decide +kernel)) ggX7_cost_X7_plans
theorem dX7_cost_0 : decode cX7_cost 0 = .ok (.aload_n 0, 1) := by decide +kernel
theorem dX7_cost_1 : decode cX7_cost 1 = .ok (.iload_n 1, 1) := by decide +kernel
theorem dX7_cost_2 : decode cX7_cost 2 = .ok (.iload_n 2, 1) := by decide +kernel
theorem dX7_cost_3 : decode cX7_cost 3 = .ok (.invokevirtual 127, 3) := by decide +kernel
theorem dX7_cost_6 : decode cX7_cost 6 = .ok (.ifCond .ne 6, 3) := by decide +kernel
theorem dX7_cost_9 : decode cX7_cost 9 = .ok (.bipush (-2), 2) := by decide +kernel
theorem dX7_cost_11 : decode cX7_cost 11 = .ok (.ireturn, 1) := by decide +kernel
theorem dX7_cost_12 : decode cX7_cost 12 = .ok (.aload_n 0, 1) := by decide +kernel
theorem dX7_cost_13 : decode cX7_cost 13 = .ok (.invokevirtual 130, 3) := by decide +kernel
theorem dX7_cost_16 : decode cX7_cost 16 = .ok (.aload_n 0, 1) := by decide +kernel
theorem dX7_cost_17 : decode cX7_cost 17 = .ok (.getfield 47, 3) := by decide +kernel
theorem dX7_cost_20 : decode cX7_cost 20 = .ok (.bipush 12, 2) := by decide +kernel
theorem dX7_cost_22 : decode cX7_cost 22 = .ok (.iload_n 1, 1) := by decide +kernel
theorem dX7_cost_23 : decode cX7_cost 23 = .ok (.imul, 1) := by decide +kernel
theorem dX7_cost_24 : decode cX7_cost 24 = .ok (.iload_n 2, 1) := by decide +kernel
theorem dX7_cost_25 : decode cX7_cost 25 = .ok (.iadd, 1) := by decide +kernel
theorem dX7_cost_26 : decode cX7_cost 26 = .ok (.iaload, 1) := by decide +kernel
theorem dX7_cost_27 : decode cX7_cost 27 = .ok (.ireturn, 1) := by decide +kernel
set_option maxRecDepth 20000 in
theorem ggX7_closes_X7_isSpan : GoodIn wsX7_closes wsX7_isSpan := goodIn_r _ [6, 7, 14, 15, 16, 17, 18, 19, 20, 21, 22, 23, 24, 25, 26, 27, 28, 29, 30, 31, 32, 33, 34, 35, 36] (by decide +kernel) (by decide +kernel)
set_option maxRecDepth 20000 in
theorem gX7_closes_X7_isSpan : GoodIn wsX7_closes (wsV RX7 127 RX7 yX7_isSpan wsX7_isSpan) := goodIn_app (goodIn_of _ (by decide +kernel)) ggX7_closes_X7_isSpan
set_option maxRecDepth 20000 in
theorem ggX7_closes_X7_plans : GoodIn wsX7_closes wsX7_plans := goodIn_r _ [11, 7, 12, 13, 1, 14, 15, 16, 17, 18, 19, 20, 21, 22, 23, 24, 25, 26, 27, 28, 29, 30, 31, 32, 33, 34, 35, 36] (by decide +kernel) (by decide +kernel)
set_option maxRecDepth 20000 in
theorem gX7_closes_X7_plans : GoodIn wsX7_closes (wsV RX7 130 RX7 yX7_plans wsX7_plans) := goodIn_app (goodIn_of _ (by decide +kernel)) ggX7_closes_X7_plans
theorem dX7_closes_0 : decode cX7_closes 0 = .ok (.aload_n 0, 1) := by decide +kernel
theorem dX7_closes_1 : decode cX7_closes 1 = .ok (.iload_n 1, 1) := by decide +kernel
theorem dX7_closes_2 : decode cX7_closes 2 = .ok (.iload_n 2, 1) := by decide +kernel
theorem dX7_closes_3 : decode cX7_closes 3 = .ok (.invokevirtual 127, 3) := by decide +kernel
theorem dX7_closes_6 : decode cX7_closes 6 = .ok (.ifCond .ne 6, 3) := by decide +kernel
theorem dX7_closes_9 : decode cX7_closes 9 = .ok (.bipush (-2), 2) := by decide +kernel
theorem dX7_closes_11 : decode cX7_closes 11 = .ok (.ireturn, 1) := by decide +kernel
theorem dX7_closes_12 : decode cX7_closes 12 = .ok (.aload_n 0, 1) := by decide +kernel
theorem dX7_closes_13 : decode cX7_closes 13 = .ok (.invokevirtual 130, 3) := by decide +kernel
theorem dX7_closes_16 : decode cX7_closes 16 = .ok (.aload_n 0, 1) := by decide +kernel
theorem dX7_closes_17 : decode cX7_closes 17 = .ok (.getfield 50, 3) := by decide +kernel
theorem dX7_closes_20 : decode cX7_closes 20 = .ok (.bipush 12, 2) := by decide +kernel
theorem dX7_closes_22 : decode cX7_closes 22 = .ok (.iload_n 1, 1) := by decide +kernel
theorem dX7_closes_23 : decode cX7_closes 23 = .ok (.imul, 1) := by decide +kernel
theorem dX7_closes_24 : decode cX7_closes 24 = .ok (.iload_n 2, 1) := by decide +kernel
theorem dX7_closes_25 : decode cX7_closes 25 = .ok (.iadd, 1) := by decide +kernel
theorem dX7_closes_26 : decode cX7_closes 26 = .ok (.iaload, 1) := by decide +kernel
theorem dX7_closes_27 : decode cX7_closes 27 = .ok (.ireturn, 1) := by decide +kernel
set_option maxRecDepth 20000 in
theorem ggX7_closings_X7_in : GoodIn wsX7_closings wsX7_in := goodIn_r _ [6] (by decide +kernel) (by decide +kernel)
set_option maxRecDepth 20000 in
theorem gX7_closings_X7_in : GoodIn wsX7_closings (va_wsS RX7 65 yX7_in wsX7_in) := goodIn_app (goodIn_of _ (by decide +kernel)) ggX7_closings_X7_in
set_option maxRecDepth 20000 in
theorem ggX7_closings_X7_plans : GoodIn wsX7_closings wsX7_plans := goodIn_r _ [10, 1, 11, 12, 2, 13, 14, 15, 16, 17, 18, 19, 20, 21, 22, 23, 24, 25, 26, 27, 28, 29, 30, 31, 32, 33, 34, 35] (by decide +kernel) (by decide +kernel)
set_option maxRecDepth 20000 in
theorem gX7_closings_X7_plans : GoodIn wsX7_closings (wsV RX7 130 RX7 yX7_plans wsX7_plans) := goodIn_app (goodIn_of _ (by decide +kernel)) ggX7_closings_X7_plans
theorem dX7_closings_0 : decode cX7_closings 0 = .ok (.iload_n 1, 1) := by decide +kernel
theorem dX7_closings_1 : decode cX7_closings 1 = .ok (.iconst 0, 1) := by decide +kernel
theorem dX7_closings_2 : decode cX7_closings 2 = .ok (.aload_n 0, 1) := by decide +kernel
theorem dX7_closings_3 : decode cX7_closings 3 = .ok (.getfield 41, 3) := by decide +kernel
theorem dX7_closings_6 : decode cX7_closings 6 = .ok (.iconst 1, 1) := by decide +kernel
theorem dX7_closings_7 : decode cX7_closings 7 = .ok (.isub, 1) := by decide +kernel
theorem dX7_closings_8 : decode cX7_closings 8 = .ok (.invokestatic 65, 3) := by decide +kernel
theorem dX7_closings_11 : decode cX7_closings 11 = .ok (.ifCond .ne 6, 3) := by decide +kernel
theorem dX7_closings_14 : decode cX7_closings 14 = .ok (.bipush (-2), 2) := by decide +kernel
theorem dX7_closings_16 : decode cX7_closings 16 = .ok (.ireturn, 1) := by decide +kernel
theorem dX7_closings_17 : decode cX7_closings 17 = .ok (.aload_n 0, 1) := by decide +kernel
theorem dX7_closings_18 : decode cX7_closings 18 = .ok (.invokevirtual 130, 3) := by decide +kernel
theorem dX7_closings_21 : decode cX7_closings 21 = .ok (.iconst 0, 1) := by decide +kernel
theorem dX7_closings_22 : decode cX7_closings 22 = .ok (.istore_n 2, 1) := by decide +kernel
theorem dX7_closings_23 : decode cX7_closings 23 = .ok (.iconst 0, 1) := by decide +kernel
theorem dX7_closings_24 : decode cX7_closings 24 = .ok (.istore_n 3, 1) := by decide +kernel
theorem dX7_closings_25 : decode cX7_closings 25 = .ok (.aload_n 0, 1) := by decide +kernel
theorem dX7_closings_26 : decode cX7_closings 26 = .ok (.getfield 41, 3) := by decide +kernel
theorem dX7_closings_29 : decode cX7_closings 29 = .ok (.iconst 1, 1) := by decide +kernel
theorem dX7_closings_30 : decode cX7_closings 30 = .ok (.isub, 1) := by decide +kernel
theorem dX7_closings_31 : decode cX7_closings 31 = .ok (.istore 4, 2) := by decide +kernel
theorem dX7_closings_33 : decode cX7_closings 33 = .ok (.iload_n 3, 1) := by decide +kernel
theorem dX7_closings_34 : decode cX7_closings 34 = .ok (.iload 4, 2) := by decide +kernel
theorem dX7_closings_36 : decode cX7_closings 36 = .ok (.if_icmp .ge 53, 3) := by decide +kernel
theorem dX7_closings_39 : decode cX7_closings 39 = .ok (.aload_n 0, 1) := by decide +kernel
theorem dX7_closings_40 : decode cX7_closings 40 = .ok (.getfield 50, 3) := by decide +kernel
theorem dX7_closings_43 : decode cX7_closings 43 = .ok (.bipush 12, 2) := by decide +kernel
theorem dX7_closings_45 : decode cX7_closings 45 = .ok (.iload_n 3, 1) := by decide +kernel
theorem dX7_closings_46 : decode cX7_closings 46 = .ok (.imul, 1) := by decide +kernel
theorem dX7_closings_47 : decode cX7_closings 47 = .ok (.iload 4, 2) := by decide +kernel
theorem dX7_closings_49 : decode cX7_closings 49 = .ok (.iadd, 1) := by decide +kernel
theorem dX7_closings_50 : decode cX7_closings 50 = .ok (.iaload, 1) := by decide +kernel
theorem dX7_closings_51 : decode cX7_closings 51 = .ok (.istore 5, 2) := by decide +kernel
theorem dX7_closings_53 : decode cX7_closings 53 = .ok (.iload_n 1, 1) := by decide +kernel
theorem dX7_closings_54 : decode cX7_closings 54 = .ok (.iload 5, 2) := by decide +kernel
theorem dX7_closings_56 : decode cX7_closings 56 = .ok (.if_icmp .ge 7, 3) := by decide +kernel
theorem dX7_closings_59 : decode cX7_closings 59 = .ok (.iload_n 3, 1) := by decide +kernel
theorem dX7_closings_60 : decode cX7_closings 60 = .ok (.goto 5, 3) := by decide +kernel
theorem dX7_closings_63 : decode cX7_closings 63 = .ok (.iload 5, 2) := by decide +kernel
theorem dX7_closings_65 : decode cX7_closings 65 = .ok (.istore_n 3, 1) := by decide +kernel
theorem dX7_closings_66 : decode cX7_closings 66 = .ok (.iload_n 1, 1) := by decide +kernel
theorem dX7_closings_67 : decode cX7_closings 67 = .ok (.iload 5, 2) := by decide +kernel
theorem dX7_closings_69 : decode cX7_closings 69 = .ok (.if_icmp .ge 10, 3) := by decide +kernel
theorem dX7_closings_72 : decode cX7_closings 72 = .ok (.iload 5, 2) := by decide +kernel
theorem dX7_closings_74 : decode cX7_closings 74 = .ok (.iconst 1, 1) := by decide +kernel
theorem dX7_closings_75 : decode cX7_closings 75 = .ok (.isub, 1) := by decide +kernel
theorem dX7_closings_76 : decode cX7_closings 76 = .ok (.goto 5, 3) := by decide +kernel
theorem dX7_closings_79 : decode cX7_closings 79 = .ok (.iload 4, 2) := by decide +kernel
theorem dX7_closings_81 : decode cX7_closings 81 = .ok (.istore 4, 2) := by decide +kernel
theorem dX7_closings_83 : decode cX7_closings 83 = .ok (.iinc 2 1, 3) := by decide +kernel
theorem dX7_closings_86 : decode cX7_closings 86 = .ok (.goto (-53), 3) := by decide +kernel
theorem dX7_closings_89 : decode cX7_closings 89 = .ok (.iload_n 2, 1) := by decide +kernel
theorem dX7_closings_90 : decode cX7_closings 90 = .ok (.ireturn, 1) := by decide +kernel
set_option maxRecDepth 20000 in
theorem ggX7_dig_X7_in : GoodIn wsX7_dig wsX7_in := goodIn_r _ [7] (by decide +kernel) (by decide +kernel)
set_option maxRecDepth 20000 in
theorem gX7_dig_X7_in : GoodIn wsX7_dig (va_wsS RX7 65 yX7_in wsX7_in) := goodIn_app (goodIn_of _ (by decide +kernel)) ggX7_dig_X7_in
theorem dX7_dig_0 : decode cX7_dig 0 = .ok (.iload_n 1, 1) := by decide +kernel
theorem dX7_dig_1 : decode cX7_dig 1 = .ok (.iconst 0, 1) := by decide +kernel
theorem dX7_dig_2 : decode cX7_dig 2 = .ok (.sipush 1000, 3) := by decide +kernel
theorem dX7_dig_5 : decode cX7_dig 5 = .ok (.invokestatic 65, 3) := by decide +kernel
theorem dX7_dig_8 : decode cX7_dig 8 = .ok (.ifCond .eq 13, 3) := by decide +kernel
theorem dX7_dig_11 : decode cX7_dig 11 = .ok (.iload_n 2, 1) := by decide +kernel
theorem dX7_dig_12 : decode cX7_dig 12 = .ok (.iconst 1, 1) := by decide +kernel
theorem dX7_dig_13 : decode cX7_dig 13 = .ok (.bipush 100, 2) := by decide +kernel
theorem dX7_dig_15 : decode cX7_dig 15 = .ok (.invokestatic 65, 3) := by decide +kernel
theorem dX7_dig_18 : decode cX7_dig 18 = .ok (.ifCond .ne 6, 3) := by decide +kernel
theorem dX7_dig_21 : decode cX7_dig 21 = .ok (.bipush (-2), 2) := by decide +kernel
theorem dX7_dig_23 : decode cX7_dig 23 = .ok (.ireturn, 1) := by decide +kernel
theorem dX7_dig_24 : decode cX7_dig 24 = .ok (.aload_n 0, 1) := by decide +kernel
theorem dX7_dig_25 : decode cX7_dig 25 = .ok (.getfield 133, 3) := by decide +kernel
theorem dX7_dig_28 : decode cX7_dig 28 = .ok (.bipush 8, 2) := by decide +kernel
theorem dX7_dig_30 : decode cX7_dig 30 = .ok (.if_icmp .ne 6, 3) := by decide +kernel
theorem dX7_dig_33 : decode cX7_dig 33 = .ok (.bipush (-4), 2) := by decide +kernel
theorem dX7_dig_35 : decode cX7_dig 35 = .ok (.ireturn, 1) := by decide +kernel
theorem dX7_dig_36 : decode cX7_dig 36 = .ok (.aload_n 0, 1) := by decide +kernel
theorem dX7_dig_37 : decode cX7_dig 37 = .ok (.getfield 53, 3) := by decide +kernel
theorem dX7_dig_40 : decode cX7_dig 40 = .ok (.aload_n 0, 1) := by decide +kernel
theorem dX7_dig_41 : decode cX7_dig 41 = .ok (.getfield 133, 3) := by decide +kernel
theorem dX7_dig_44 : decode cX7_dig 44 = .ok (.iload_n 1, 1) := by decide +kernel
theorem dX7_dig_45 : decode cX7_dig 45 = .ok (.iastore, 1) := by decide +kernel
theorem dX7_dig_46 : decode cX7_dig 46 = .ok (.aload_n 0, 1) := by decide +kernel
theorem dX7_dig_47 : decode cX7_dig 47 = .ok (.getfield 56, 3) := by decide +kernel
theorem dX7_dig_50 : decode cX7_dig 50 = .ok (.aload_n 0, 1) := by decide +kernel
theorem dX7_dig_51 : decode cX7_dig 51 = .ok (.getfield 133, 3) := by decide +kernel
theorem dX7_dig_54 : decode cX7_dig 54 = .ok (.iload_n 2, 1) := by decide +kernel
theorem dX7_dig_55 : decode cX7_dig 55 = .ok (.iastore, 1) := by decide +kernel
theorem dX7_dig_56 : decode cX7_dig 56 = .ok (.aload_n 0, 1) := by decide +kernel
theorem dX7_dig_57 : decode cX7_dig 57 = .ok (.dup, 1) := by decide +kernel
theorem dX7_dig_58 : decode cX7_dig 58 = .ok (.getfield 133, 3) := by decide +kernel
theorem dX7_dig_61 : decode cX7_dig 61 = .ok (.iconst 1, 1) := by decide +kernel
theorem dX7_dig_62 : decode cX7_dig 62 = .ok (.iadd, 1) := by decide +kernel
theorem dX7_dig_63 : decode cX7_dig 63 = .ok (.putfield 133, 3) := by decide +kernel
theorem dX7_dig_66 : decode cX7_dig 66 = .ok (.aload_n 0, 1) := by decide +kernel
theorem dX7_dig_67 : decode cX7_dig 67 = .ok (.getfield 133, 3) := by decide +kernel
theorem dX7_dig_70 : decode cX7_dig 70 = .ok (.iconst 1, 1) := by decide +kernel
theorem dX7_dig_71 : decode cX7_dig 71 = .ok (.isub, 1) := by decide +kernel
theorem dX7_dig_72 : decode cX7_dig 72 = .ok (.ireturn, 1) := by decide +kernel
theorem dX7_clear_0 : decode cX7_clear 0 = .ok (.aload_n 0, 1) := by decide +kernel
theorem dX7_clear_1 : decode cX7_clear 1 = .ok (.getfield 133, 3) := by decide +kernel
theorem dX7_clear_4 : decode cX7_clear 4 = .ok (.istore_n 1, 1) := by decide +kernel
theorem dX7_clear_5 : decode cX7_clear 5 = .ok (.aload_n 0, 1) := by decide +kernel
theorem dX7_clear_6 : decode cX7_clear 6 = .ok (.iconst 0, 1) := by decide +kernel
theorem dX7_clear_7 : decode cX7_clear 7 = .ok (.putfield 133, 3) := by decide +kernel
theorem dX7_clear_10 : decode cX7_clear 10 = .ok (.iload_n 1, 1) := by decide +kernel
theorem dX7_clear_11 : decode cX7_clear 11 = .ok (.ireturn, 1) := by decide +kernel
theorem dX7_sorts_0 : decode cX7_sorts 0 = .ok (.iconst 0, 1) := by decide +kernel
theorem dX7_sorts_1 : decode cX7_sorts 1 = .ok (.istore_n 1, 1) := by decide +kernel
theorem dX7_sorts_2 : decode cX7_sorts 2 = .ok (.iload_n 1, 1) := by decide +kernel
theorem dX7_sorts_3 : decode cX7_sorts 3 = .ok (.aload_n 0, 1) := by decide +kernel
theorem dX7_sorts_4 : decode cX7_sorts 4 = .ok (.getfield 133, 3) := by decide +kernel
theorem dX7_sorts_7 : decode cX7_sorts 7 = .ok (.if_icmp .ge 85, 3) := by decide +kernel
theorem dX7_sorts_10 : decode cX7_sorts 10 = .ok (.iload_n 1, 1) := by decide +kernel
theorem dX7_sorts_11 : decode cX7_sorts 11 = .ok (.istore_n 2, 1) := by decide +kernel
theorem dX7_sorts_12 : decode cX7_sorts 12 = .ok (.iload_n 2, 1) := by decide +kernel
theorem dX7_sorts_13 : decode cX7_sorts 13 = .ok (.ifCond .le 66, 3) := by decide +kernel
theorem dX7_sorts_16 : decode cX7_sorts 16 = .ok (.aload_n 0, 1) := by decide +kernel
theorem dX7_sorts_17 : decode cX7_sorts 17 = .ok (.getfield 53, 3) := by decide +kernel
theorem dX7_sorts_20 : decode cX7_sorts 20 = .ok (.iload_n 1, 1) := by decide +kernel
theorem dX7_sorts_21 : decode cX7_sorts 21 = .ok (.iaload, 1) := by decide +kernel
theorem dX7_sorts_22 : decode cX7_sorts 22 = .ok (.aload_n 0, 1) := by decide +kernel
theorem dX7_sorts_23 : decode cX7_sorts 23 = .ok (.getfield 56, 3) := by decide +kernel
theorem dX7_sorts_26 : decode cX7_sorts 26 = .ok (.aload_n 0, 1) := by decide +kernel
theorem dX7_sorts_27 : decode cX7_sorts 27 = .ok (.getfield 59, 3) := by decide +kernel
theorem dX7_sorts_30 : decode cX7_sorts 30 = .ok (.iload_n 2, 1) := by decide +kernel
theorem dX7_sorts_31 : decode cX7_sorts 31 = .ok (.iconst 1, 1) := by decide +kernel
theorem dX7_sorts_32 : decode cX7_sorts 32 = .ok (.isub, 1) := by decide +kernel
theorem dX7_sorts_33 : decode cX7_sorts 33 = .ok (.iaload, 1) := by decide +kernel
theorem dX7_sorts_34 : decode cX7_sorts 34 = .ok (.iaload, 1) := by decide +kernel
theorem dX7_sorts_35 : decode cX7_sorts 35 = .ok (.imul, 1) := by decide +kernel
theorem dX7_sorts_36 : decode cX7_sorts 36 = .ok (.aload_n 0, 1) := by decide +kernel
theorem dX7_sorts_37 : decode cX7_sorts 37 = .ok (.getfield 53, 3) := by decide +kernel
theorem dX7_sorts_40 : decode cX7_sorts 40 = .ok (.aload_n 0, 1) := by decide +kernel
theorem dX7_sorts_41 : decode cX7_sorts 41 = .ok (.getfield 59, 3) := by decide +kernel
theorem dX7_sorts_44 : decode cX7_sorts 44 = .ok (.iload_n 2, 1) := by decide +kernel
theorem dX7_sorts_45 : decode cX7_sorts 45 = .ok (.iconst 1, 1) := by decide +kernel
theorem dX7_sorts_46 : decode cX7_sorts 46 = .ok (.isub, 1) := by decide +kernel
theorem dX7_sorts_47 : decode cX7_sorts 47 = .ok (.iaload, 1) := by decide +kernel
theorem dX7_sorts_48 : decode cX7_sorts 48 = .ok (.iaload, 1) := by decide +kernel
theorem dX7_sorts_49 : decode cX7_sorts 49 = .ok (.aload_n 0, 1) := by decide +kernel
theorem dX7_sorts_50 : decode cX7_sorts 50 = .ok (.getfield 56, 3) := by decide +kernel
theorem dX7_sorts_53 : decode cX7_sorts 53 = .ok (.iload_n 1, 1) := by decide +kernel
theorem dX7_sorts_54 : decode cX7_sorts 54 = .ok (.iaload, 1) := by decide +kernel
theorem dX7_sorts_55 : decode cX7_sorts 55 = .ok (.imul, 1) := by decide +kernel
theorem dX7_sorts_56 : decode cX7_sorts 56 = .ok (.if_icmp .le 23, 3) := by decide +kernel
theorem dX7_sorts_59 : decode cX7_sorts 59 = .ok (.aload_n 0, 1) := by decide +kernel
theorem dX7_sorts_60 : decode cX7_sorts 60 = .ok (.getfield 59, 3) := by decide +kernel
theorem dX7_sorts_63 : decode cX7_sorts 63 = .ok (.iload_n 2, 1) := by decide +kernel
theorem dX7_sorts_64 : decode cX7_sorts 64 = .ok (.aload_n 0, 1) := by decide +kernel
theorem dX7_sorts_65 : decode cX7_sorts 65 = .ok (.getfield 59, 3) := by decide +kernel
theorem dX7_sorts_68 : decode cX7_sorts 68 = .ok (.iload_n 2, 1) := by decide +kernel
theorem dX7_sorts_69 : decode cX7_sorts 69 = .ok (.iconst 1, 1) := by decide +kernel
theorem dX7_sorts_70 : decode cX7_sorts 70 = .ok (.isub, 1) := by decide +kernel
theorem dX7_sorts_71 : decode cX7_sorts 71 = .ok (.iaload, 1) := by decide +kernel
theorem dX7_sorts_72 : decode cX7_sorts 72 = .ok (.iastore, 1) := by decide +kernel
theorem dX7_sorts_73 : decode cX7_sorts 73 = .ok (.iinc 2 (-1), 3) := by decide +kernel
theorem dX7_sorts_76 : decode cX7_sorts 76 = .ok (.goto (-64), 3) := by decide +kernel
theorem dX7_sorts_79 : decode cX7_sorts 79 = .ok (.aload_n 0, 1) := by decide +kernel
theorem dX7_sorts_80 : decode cX7_sorts 80 = .ok (.getfield 59, 3) := by decide +kernel
theorem dX7_sorts_83 : decode cX7_sorts 83 = .ok (.iload_n 2, 1) := by decide +kernel
theorem dX7_sorts_84 : decode cX7_sorts 84 = .ok (.iload_n 1, 1) := by decide +kernel
theorem dX7_sorts_85 : decode cX7_sorts 85 = .ok (.iastore, 1) := by decide +kernel
theorem dX7_sorts_86 : decode cX7_sorts 86 = .ok (.iinc 1 1, 3) := by decide +kernel
theorem dX7_sorts_89 : decode cX7_sorts 89 = .ok (.goto (-87), 3) := by decide +kernel
theorem dX7_sorts_92 : decode cX7_sorts 92 = .ok (.return_, 1) := by decide +kernel
set_option maxRecDepth 20000 in
theorem ggX7_lost_X7_sorts : GoodIn wsX7_lost wsX7_sorts := goodIn_r _ [9, 1, 4, 2, 3, 10, 11, 12, 13, 14, 15, 16, 17, 18, 19, 20, 21, 22, 23, 24, 25, 26, 27, 28, 29, 30, 31, 32] (by decide +kernel) (by decide +kernel)
set_option maxRecDepth 20000 in
theorem gX7_lost_X7_sorts : GoodIn wsX7_lost (wsV RX7 136 RX7 yX7_sorts wsX7_sorts) := goodIn_app (goodIn_of _ (by decide +kernel)) ggX7_lost_X7_sorts
theorem dX7_lost_0 : decode cX7_lost 0 = .ok (.aload_n 0, 1) := by decide +kernel
theorem dX7_lost_1 : decode cX7_lost 1 = .ok (.invokevirtual 136, 3) := by decide +kernel
theorem dX7_lost_4 : decode cX7_lost 4 = .ok (.iconst 0, 1) := by decide +kernel
theorem dX7_lost_5 : decode cX7_lost 5 = .ok (.istore_n 1, 1) := by decide +kernel
theorem dX7_lost_6 : decode cX7_lost 6 = .ok (.iconst 0, 1) := by decide +kernel
theorem dX7_lost_7 : decode cX7_lost 7 = .ok (.istore_n 2, 1) := by decide +kernel
theorem dX7_lost_8 : decode cX7_lost 8 = .ok (.iconst 0, 1) := by decide +kernel
theorem dX7_lost_9 : decode cX7_lost 9 = .ok (.istore_n 3, 1) := by decide +kernel
theorem dX7_lost_10 : decode cX7_lost 10 = .ok (.iload_n 3, 1) := by decide +kernel
theorem dX7_lost_11 : decode cX7_lost 11 = .ok (.aload_n 0, 1) := by decide +kernel
theorem dX7_lost_12 : decode cX7_lost 12 = .ok (.getfield 133, 3) := by decide +kernel
theorem dX7_lost_15 : decode cX7_lost 15 = .ok (.if_icmp .ge 39, 3) := by decide +kernel
theorem dX7_lost_18 : decode cX7_lost 18 = .ok (.iload_n 1, 1) := by decide +kernel
theorem dX7_lost_19 : decode cX7_lost 19 = .ok (.aload_n 0, 1) := by decide +kernel
theorem dX7_lost_20 : decode cX7_lost 20 = .ok (.getfield 56, 3) := by decide +kernel
theorem dX7_lost_23 : decode cX7_lost 23 = .ok (.aload_n 0, 1) := by decide +kernel
theorem dX7_lost_24 : decode cX7_lost 24 = .ok (.getfield 59, 3) := by decide +kernel
theorem dX7_lost_27 : decode cX7_lost 27 = .ok (.iload_n 3, 1) := by decide +kernel
theorem dX7_lost_28 : decode cX7_lost 28 = .ok (.iaload, 1) := by decide +kernel
theorem dX7_lost_29 : decode cX7_lost 29 = .ok (.iaload, 1) := by decide +kernel
theorem dX7_lost_30 : decode cX7_lost 30 = .ok (.iadd, 1) := by decide +kernel
theorem dX7_lost_31 : decode cX7_lost 31 = .ok (.istore_n 1, 1) := by decide +kernel
theorem dX7_lost_32 : decode cX7_lost 32 = .ok (.iload_n 2, 1) := by decide +kernel
theorem dX7_lost_33 : decode cX7_lost 33 = .ok (.iload_n 1, 1) := by decide +kernel
theorem dX7_lost_34 : decode cX7_lost 34 = .ok (.aload_n 0, 1) := by decide +kernel
theorem dX7_lost_35 : decode cX7_lost 35 = .ok (.getfield 53, 3) := by decide +kernel
theorem dX7_lost_38 : decode cX7_lost 38 = .ok (.aload_n 0, 1) := by decide +kernel
theorem dX7_lost_39 : decode cX7_lost 39 = .ok (.getfield 59, 3) := by decide +kernel
theorem dX7_lost_42 : decode cX7_lost 42 = .ok (.iload_n 3, 1) := by decide +kernel
theorem dX7_lost_43 : decode cX7_lost 43 = .ok (.iaload, 1) := by decide +kernel
theorem dX7_lost_44 : decode cX7_lost 44 = .ok (.iaload, 1) := by decide +kernel
theorem dX7_lost_45 : decode cX7_lost 45 = .ok (.imul, 1) := by decide +kernel
theorem dX7_lost_46 : decode cX7_lost 46 = .ok (.iadd, 1) := by decide +kernel
theorem dX7_lost_47 : decode cX7_lost 47 = .ok (.istore_n 2, 1) := by decide +kernel
theorem dX7_lost_48 : decode cX7_lost 48 = .ok (.iinc 3 1, 3) := by decide +kernel
theorem dX7_lost_51 : decode cX7_lost 51 = .ok (.goto (-41), 3) := by decide +kernel
theorem dX7_lost_54 : decode cX7_lost 54 = .ok (.iload_n 2, 1) := by decide +kernel
theorem dX7_lost_55 : decode cX7_lost 55 = .ok (.ireturn, 1) := by decide +kernel
