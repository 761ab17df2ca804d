theorem dX0_init_0 : decode cX0_init 0 = .ok (.aload_n 0, 1) := by decide +kernel
theorem dX0_init_1 : decode cX0_init 1 = .ok (.invokespecial 3, 3) := by decide +kernel
theorem dX0_init_4 : decode cX0_init 4 = .ok (.aload_n 0, 1) := by decide +kernel
theorem dX0_init_5 : decode cX0_init 5 = .ok (.bipush 8, 2) := by decide +kernel
theorem dX0_init_7 : decode cX0_init 7 = .ok (.newarray .int, 2) := by decide +kernel
theorem dX0_init_9 : decode cX0_init 9 = .ok (.putfield 11, 3) := by decide +kernel
theorem dX0_init_12 : decode cX0_init 12 = .ok (.aload_n 0, 1) := by decide +kernel
theorem dX0_init_13 : decode cX0_init 13 = .ok (.bipush 8, 2) := by decide +kernel
theorem dX0_init_15 : decode cX0_init 15 = .ok (.newarray .int, 2) := by decide +kernel
theorem dX0_init_17 : decode cX0_init 17 = .ok (.putfield 15, 3) := by decide +kernel
theorem dX0_init_20 : decode cX0_init 20 = .ok (.aload_n 0, 1) := by decide +kernel
theorem dX0_init_21 : decode cX0_init 21 = .ok (.bipush 8, 2) := by decide +kernel
theorem dX0_init_23 : decode cX0_init 23 = .ok (.newarray .int, 2) := by decide +kernel
theorem dX0_init_25 : decode cX0_init 25 = .ok (.putfield 18, 3) := by decide +kernel
theorem dX0_init_28 : decode cX0_init 28 = .ok (.aload_n 0, 1) := by decide +kernel
theorem dX0_init_29 : decode cX0_init 29 = .ok (.iconst 0, 1) := by decide +kernel
theorem dX0_init_30 : decode cX0_init 30 = .ok (.putfield 21, 3) := by decide +kernel
theorem dX0_init_33 : decode cX0_init 33 = .ok (.return_, 1) := by decide +kernel
theorem dX0_number_0 : decode cX0_number 0 = .ok (.aload_n 0, 1) := by decide +kernel
theorem dX0_number_1 : decode cX0_number 1 = .ok (.getfield 21, 3) := by decide +kernel
theorem dX0_number_4 : decode cX0_number 4 = .ok (.ireturn, 1) := by decide +kernel
set_option maxRecDepth 20000 in
theorem ggX0_add_X6_outside : GoodIn wsX0_add wsX6_outside := goodIn_r _ [6] (by decide +kernel) (by decide +kernel)
set_option maxRecDepth 20000 in
theorem gX0_add_X6_outside_n25 : GoodIn wsX0_add (wsX6_outside) := ggX0_add_X6_outside
set_option maxRecDepth 20000 in
theorem ggX0_add_X0_rankNext : GoodIn wsX0_add wsX0_rankNext := goodIn_r _ [11, 12, 13, 14, 15, 10, 16, 2, 3, 17, 18, 19, 20] (by decide +kernel) (by decide +kernel)
set_option maxRecDepth 20000 in
theorem gX0_add_X0_rankNext : GoodIn wsX0_add (wsV RX0 29 RX0 yX0_rankNext wsX0_rankNext) := goodIn_app (goodIn_of _ (by decide +kernel)) ggX0_add_X0_rankNext
theorem dX0_add_0 : decode cX0_add 0 = .ok (.iload_n 1, 1) := by decide +kernel
theorem dX0_add_1 : decode cX0_add 1 = .ok (.iconst 0, 1) := by decide +kernel
theorem dX0_add_2 : decode cX0_add 2 = .ok (.sipush 1000, 3) := by decide +kernel
theorem dX0_add_5 : decode cX0_add 5 = .ok (.invokestatic 25, 3) := by decide +kernel
theorem dX0_add_8 : decode cX0_add 8 = .ok (.ifCond .ne 13, 3) := by decide +kernel
theorem dX0_add_11 : decode cX0_add 11 = .ok (.iload_n 2, 1) := by decide +kernel
theorem dX0_add_12 : decode cX0_add 12 = .ok (.iconst 1, 1) := by decide +kernel
theorem dX0_add_13 : decode cX0_add 13 = .ok (.bipush 100, 2) := by decide +kernel
theorem dX0_add_15 : decode cX0_add 15 = .ok (.invokestatic 25, 3) := by decide +kernel
theorem dX0_add_18 : decode cX0_add 18 = .ok (.ifCond .eq 6, 3) := by decide +kernel
theorem dX0_add_21 : decode cX0_add 21 = .ok (.bipush (-2), 2) := by decide +kernel
theorem dX0_add_23 : decode cX0_add 23 = .ok (.ireturn, 1) := by decide +kernel
theorem dX0_add_24 : decode cX0_add 24 = .ok (.aload_n 0, 1) := by decide +kernel
theorem dX0_add_25 : decode cX0_add 25 = .ok (.getfield 21, 3) := by decide +kernel
theorem dX0_add_28 : decode cX0_add 28 = .ok (.bipush 8, 2) := by decide +kernel
theorem dX0_add_30 : decode cX0_add 30 = .ok (.if_icmp .lt 6, 3) := by decide +kernel
theorem dX0_add_33 : decode cX0_add 33 = .ok (.bipush (-4), 2) := by decide +kernel
theorem dX0_add_35 : decode cX0_add 35 = .ok (.ireturn, 1) := by decide +kernel
theorem dX0_add_36 : decode cX0_add 36 = .ok (.aload_n 0, 1) := by decide +kernel
theorem dX0_add_37 : decode cX0_add 37 = .ok (.getfield 11, 3) := by decide +kernel
theorem dX0_add_40 : decode cX0_add 40 = .ok (.aload_n 0, 1) := by decide +kernel
theorem dX0_add_41 : decode cX0_add 41 = .ok (.getfield 21, 3) := by decide +kernel
theorem dX0_add_44 : decode cX0_add 44 = .ok (.iload_n 1, 1) := by decide +kernel
theorem dX0_add_45 : decode cX0_add 45 = .ok (.iastore, 1) := by decide +kernel
theorem dX0_add_46 : decode cX0_add 46 = .ok (.aload_n 0, 1) := by decide +kernel
theorem dX0_add_47 : decode cX0_add 47 = .ok (.getfield 15, 3) := by decide +kernel
theorem dX0_add_50 : decode cX0_add 50 = .ok (.aload_n 0, 1) := by decide +kernel
theorem dX0_add_51 : decode cX0_add 51 = .ok (.getfield 21, 3) := by decide +kernel
theorem dX0_add_54 : decode cX0_add 54 = .ok (.iload_n 2, 1) := by decide +kernel
theorem dX0_add_55 : decode cX0_add 55 = .ok (.iastore, 1) := by decide +kernel
theorem dX0_add_56 : decode cX0_add 56 = .ok (.aload_n 0, 1) := by decide +kernel
theorem dX0_add_57 : decode cX0_add 57 = .ok (.aload_n 0, 1) := by decide +kernel
theorem dX0_add_58 : decode cX0_add 58 = .ok (.getfield 21, 3) := by decide +kernel
theorem dX0_add_61 : decode cX0_add 61 = .ok (.invokevirtual 29, 3) := by decide +kernel
theorem dX0_add_64 : decode cX0_add 64 = .ok (.aload_n 0, 1) := by decide +kernel
theorem dX0_add_65 : decode cX0_add 65 = .ok (.dup, 1) := by decide +kernel
theorem dX0_add_66 : decode cX0_add 66 = .ok (.getfield 21, 3) := by decide +kernel
theorem dX0_add_69 : decode cX0_add 69 = .ok (.iconst 1, 1) := by decide +kernel
theorem dX0_add_70 : decode cX0_add 70 = .ok (.iadd, 1) := by decide +kernel
theorem dX0_add_71 : decode cX0_add 71 = .ok (.putfield 21, 3) := by decide +kernel
theorem dX0_add_74 : decode cX0_add 74 = .ok (.aload_n 0, 1) := by decide +kernel
theorem dX0_add_75 : decode cX0_add 75 = .ok (.getfield 21, 3) := by decide +kernel
theorem dX0_add_78 : decode cX0_add 78 = .ok (.iconst 1, 1) := by decide +kernel
theorem dX0_add_79 : decode cX0_add 79 = .ok (.isub, 1) := by decide +kernel
theorem dX0_add_80 : decode cX0_add 80 = .ok (.ireturn, 1) := by decide +kernel
theorem dX0_removeAll_0 : decode cX0_removeAll 0 = .ok (.aload_n 0, 1) := by decide +kernel
theorem dX0_removeAll_1 : decode cX0_removeAll 1 = .ok (.getfield 21, 3) := by decide +kernel
theorem dX0_removeAll_4 : decode cX0_removeAll 4 = .ok (.istore_n 1, 1) := by decide +kernel
theorem dX0_removeAll_5 : decode cX0_removeAll 5 = .ok (.aload_n 0, 1) := by decide +kernel
theorem dX0_removeAll_6 : decode cX0_removeAll 6 = .ok (.iconst 0, 1) := by decide +kernel
theorem dX0_removeAll_7 : decode cX0_removeAll 7 = .ok (.putfield 21, 3) := by decide +kernel
theorem dX0_removeAll_10 : decode cX0_removeAll 10 = .ok (.iload_n 1, 1) := by decide +kernel
theorem dX0_removeAll_11 : decode cX0_removeAll 11 = .ok (.ireturn, 1) := by decide +kernel
theorem dX0_lostInOrder_0 : decode cX0_lostInOrder 0 = .ok (.iconst 0, 1) := by decide +kernel
theorem dX0_lostInOrder_1 : decode cX0_lostInOrder 1 = .ok (.istore_n 1, 1) := by decide +kernel
theorem dX0_lostInOrder_2 : decode cX0_lostInOrder 2 = .ok (.iconst 0, 1) := by decide +kernel
theorem dX0_lostInOrder_3 : decode cX0_lostInOrder 3 = .ok (.istore_n 2, 1) := by decide +kernel
theorem dX0_lostInOrder_4 : decode cX0_lostInOrder 4 = .ok (.iconst 0, 1) := by decide +kernel
theorem dX0_lostInOrder_5 : decode cX0_lostInOrder 5 = .ok (.istore_n 3, 1) := by decide +kernel
theorem dX0_lostInOrder_6 : decode cX0_lostInOrder 6 = .ok (.iload_n 3, 1) := by decide +kernel
theorem dX0_lostInOrder_7 : decode cX0_lostInOrder 7 = .ok (.aload_n 0, 1) := by decide +kernel
theorem dX0_lostInOrder_8 : decode cX0_lostInOrder 8 = .ok (.getfield 21, 3) := by decide +kernel
theorem dX0_lostInOrder_11 : decode cX0_lostInOrder 11 = .ok (.if_icmp .ge 39, 3) := by decide +kernel
theorem dX0_lostInOrder_14 : decode cX0_lostInOrder 14 = .ok (.aload_n 0, 1) := by decide +kernel
theorem dX0_lostInOrder_15 : decode cX0_lostInOrder 15 = .ok (.getfield 18, 3) := by decide +kernel
theorem dX0_lostInOrder_18 : decode cX0_lostInOrder 18 = .ok (.iload_n 3, 1) := by decide +kernel
theorem dX0_lostInOrder_19 : decode cX0_lostInOrder 19 = .ok (.iaload, 1) := by decide +kernel
theorem dX0_lostInOrder_20 : decode cX0_lostInOrder 20 = .ok (.istore 4, 2) := by decide +kernel
theorem dX0_lostInOrder_22 : decode cX0_lostInOrder 22 = .ok (.iload_n 1, 1) := by decide +kernel
theorem dX0_lostInOrder_23 : decode cX0_lostInOrder 23 = .ok (.aload_n 0, 1) := by decide +kernel
theorem dX0_lostInOrder_24 : decode cX0_lostInOrder 24 = .ok (.getfield 15, 3) := by decide +kernel
theorem dX0_lostInOrder_27 : decode cX0_lostInOrder 27 = .ok (.iload 4, 2) := by decide +kernel
theorem dX0_lostInOrder_29 : decode cX0_lostInOrder 29 = .ok (.iaload, 1) := by decide +kernel
theorem dX0_lostInOrder_30 : decode cX0_lostInOrder 30 = .ok (.iadd, 1) := by decide +kernel
theorem dX0_lostInOrder_31 : decode cX0_lostInOrder 31 = .ok (.istore_n 1, 1) := by decide +kernel
theorem dX0_lostInOrder_32 : decode cX0_lostInOrder 32 = .ok (.iload_n 2, 1) := by decide +kernel
theorem dX0_lostInOrder_33 : decode cX0_lostInOrder 33 = .ok (.aload_n 0, 1) := by decide +kernel
theorem dX0_lostInOrder_34 : decode cX0_lostInOrder 34 = .ok (.getfield 11, 3) := by decide +kernel
theorem dX0_lostInOrder_37 : decode cX0_lostInOrder 37 = .ok (.iload 4, 2) := by decide +kernel
theorem dX0_lostInOrder_39 : decode cX0_lostInOrder 39 = .ok (.iaload, 1) := by decide +kernel
theorem dX0_lostInOrder_40 : decode cX0_lostInOrder 40 = .ok (.iload_n 1, 1) := by decide +kernel
theorem dX0_lostInOrder_41 : decode cX0_lostInOrder 41 = .ok (.imul, 1) := by decide +kernel
theorem dX0_lostInOrder_42 : decode cX0_lostInOrder 42 = .ok (.iadd, 1) := by decide +kernel
theorem dX0_lostInOrder_43 : decode cX0_lostInOrder 43 = .ok (.istore_n 2, 1) := by decide +kernel
theorem dX0_lostInOrder_44 : decode cX0_lostInOrder 44 = .ok (.iinc 3 1, 3) := by decide +kernel
theorem dX0_lostInOrder_47 : decode cX0_lostInOrder 47 = .ok (.goto (-41), 3) := by decide +kernel
theorem dX0_lostInOrder_50 : decode cX0_lostInOrder 50 = .ok (.iload_n 2, 1) := by decide +kernel
theorem dX0_lostInOrder_51 : decode cX0_lostInOrder 51 = .ok (.ireturn, 1) := by decide +kernel
set_option maxRecDepth 20000 in
theorem ggX0_inOrder_X6_outside : GoodIn wsX0_inOrder wsX6_outside := goodIn_r _ [5] (by decide +kernel) (by decide +kernel)
set_option maxRecDepth 20000 in
theorem gX0_inOrder_X6_outside_n25 : GoodIn wsX0_inOrder (wsX6_outside) := ggX0_inOrder_X6_outside
theorem dX0_inOrder_0 : decode cX0_inOrder 0 = .ok (.iload_n 1, 1) := by decide +kernel
theorem dX0_inOrder_1 : decode cX0_inOrder 1 = .ok (.iconst 0, 1) := by decide +kernel
theorem dX0_inOrder_2 : decode cX0_inOrder 2 = .ok (.aload_n 0, 1) := by decide +kernel
theorem dX0_inOrder_3 : decode cX0_inOrder 3 = .ok (.getfield 21, 3) := by decide +kernel
theorem dX0_inOrder_6 : decode cX0_inOrder 6 = .ok (.iconst 1, 1) := by decide +kernel
theorem dX0_inOrder_7 : decode cX0_inOrder 7 = .ok (.isub, 1) := by decide +kernel
theorem dX0_inOrder_8 : decode cX0_inOrder 8 = .ok (.invokestatic 25, 3) := by decide +kernel
theorem dX0_inOrder_11 : decode cX0_inOrder 11 = .ok (.ifCond .eq 7, 3) := by decide +kernel
theorem dX0_inOrder_14 : decode cX0_inOrder 14 = .ok (.iconst (-1), 1) := by decide +kernel
theorem dX0_inOrder_15 : decode cX0_inOrder 15 = .ok (.goto 9, 3) := by decide +kernel
theorem dX0_inOrder_18 : decode cX0_inOrder 18 = .ok (.aload_n 0, 1) := by decide +kernel
theorem dX0_inOrder_19 : decode cX0_inOrder 19 = .ok (.getfield 18, 3) := by decide +kernel
theorem dX0_inOrder_22 : decode cX0_inOrder 22 = .ok (.iload_n 1, 1) := by decide +kernel
theorem dX0_inOrder_23 : decode cX0_inOrder 23 = .ok (.iaload, 1) := by decide +kernel
theorem dX0_inOrder_24 : decode cX0_inOrder 24 = .ok (.ireturn, 1) := by decide +kernel
set_option maxRecDepth 20000 in
theorem ggX0_mixInto_X6_mix : GoodIn wsX0_mixInto wsX6_mix := goodIn_r _ [6, 7] (by decide +kernel) (by decide +kernel)
set_option maxRecDepth 20000 in
theorem gX0_mixInto_X6_mix_n33 : GoodIn wsX0_mixInto (wsX6_mix) := ggX0_mixInto_X6_mix
theorem dX0_mixInto_0 : decode cX0_mixInto 0 = .ok (.lload_n 1, 1) := by decide +kernel
theorem dX0_mixInto_1 : decode cX0_mixInto 1 = .ok (.lstore_n 3, 1) := by decide +kernel
theorem dX0_mixInto_2 : decode cX0_mixInto 2 = .ok (.iconst 0, 1) := by decide +kernel
theorem dX0_mixInto_3 : decode cX0_mixInto 3 = .ok (.istore 5, 2) := by decide +kernel
theorem dX0_mixInto_5 : decode cX0_mixInto 5 = .ok (.iload 5, 2) := by decide +kernel
theorem dX0_mixInto_7 : decode cX0_mixInto 7 = .ok (.aload_n 0, 1) := by decide +kernel
theorem dX0_mixInto_8 : decode cX0_mixInto 8 = .ok (.getfield 21, 3) := by decide +kernel
theorem dX0_mixInto_11 : decode cX0_mixInto 11 = .ok (.if_icmp .ge 33, 3) := by decide +kernel
theorem dX0_mixInto_14 : decode cX0_mixInto 14 = .ok (.lload_n 3, 1) := by decide +kernel
theorem dX0_mixInto_15 : decode cX0_mixInto 15 = .ok (.aload_n 0, 1) := by decide +kernel
theorem dX0_mixInto_16 : decode cX0_mixInto 16 = .ok (.getfield 11, 3) := by decide +kernel
theorem dX0_mixInto_19 : decode cX0_mixInto 19 = .ok (.iload 5, 2) := by decide +kernel
theorem dX0_mixInto_21 : decode cX0_mixInto 21 = .ok (.iaload, 1) := by decide +kernel
theorem dX0_mixInto_22 : decode cX0_mixInto 22 = .ok (.invokestatic 33, 3) := by decide +kernel
theorem dX0_mixInto_25 : decode cX0_mixInto 25 = .ok (.lstore_n 3, 1) := by decide +kernel
theorem dX0_mixInto_26 : decode cX0_mixInto 26 = .ok (.lload_n 3, 1) := by decide +kernel
theorem dX0_mixInto_27 : decode cX0_mixInto 27 = .ok (.aload_n 0, 1) := by decide +kernel
theorem dX0_mixInto_28 : decode cX0_mixInto 28 = .ok (.getfield 15, 3) := by decide +kernel
theorem dX0_mixInto_31 : decode cX0_mixInto 31 = .ok (.iload 5, 2) := by decide +kernel
theorem dX0_mixInto_33 : decode cX0_mixInto 33 = .ok (.iaload, 1) := by decide +kernel
theorem dX0_mixInto_34 : decode cX0_mixInto 34 = .ok (.invokestatic 33, 3) := by decide +kernel
theorem dX0_mixInto_37 : decode cX0_mixInto 37 = .ok (.lstore_n 3, 1) := by decide +kernel
theorem dX0_mixInto_38 : decode cX0_mixInto 38 = .ok (.iinc 5 1, 3) := by decide +kernel
theorem dX0_mixInto_41 : decode cX0_mixInto 41 = .ok (.goto (-36), 3) := by decide +kernel
theorem dX0_mixInto_44 : decode cX0_mixInto 44 = .ok (.lload_n 3, 1) := by decide +kernel
theorem dX0_mixInto_45 : decode cX0_mixInto 45 = .ok (.lreturn, 1) := by decide +kernel
set_option maxRecDepth 20000 in
theorem ggX0_rankNext_X0_goesAhead : GoodIn wsX0_rankNext wsX0_goesAhead := goodIn_r _ [6, 7, 8, 9, 10, 11, 12] (by decide +kernel) (by decide +kernel)
set_option maxRecDepth 20000 in
theorem gX0_rankNext_X0_goesAhead : GoodIn wsX0_rankNext (wsV RX0 37 RX0 yX0_goesAhead wsX0_goesAhead) := goodIn_app (goodIn_of _ (by decide +kernel)) ggX0_rankNext_X0_goesAhead
theorem dX0_rankNext_0 : decode cX0_rankNext 0 = .ok (.iload_n 1, 1) := by decide +kernel
theorem dX0_rankNext_1 : decode cX0_rankNext 1 = .ok (.istore_n 2, 1) := by decide +kernel
theorem dX0_rankNext_2 : decode cX0_rankNext 2 = .ok (.iload_n 2, 1) := by decide +kernel
theorem dX0_rankNext_3 : decode cX0_rankNext 3 = .ok (.ifCond .le 39, 3) := by decide +kernel
theorem dX0_rankNext_6 : decode cX0_rankNext 6 = .ok (.aload_n 0, 1) := by decide +kernel
theorem dX0_rankNext_7 : decode cX0_rankNext 7 = .ok (.iload_n 1, 1) := by decide +kernel
theorem dX0_rankNext_8 : decode cX0_rankNext 8 = .ok (.aload_n 0, 1) := by decide +kernel
theorem dX0_rankNext_9 : decode cX0_rankNext 9 = .ok (.getfield 18, 3) := by decide +kernel
theorem dX0_rankNext_12 : decode cX0_rankNext 12 = .ok (.iload_n 2, 1) := by decide +kernel
theorem dX0_rankNext_13 : decode cX0_rankNext 13 = .ok (.iconst 1, 1) := by decide +kernel
theorem dX0_rankNext_14 : decode cX0_rankNext 14 = .ok (.isub, 1) := by decide +kernel
theorem dX0_rankNext_15 : decode cX0_rankNext 15 = .ok (.iaload, 1) := by decide +kernel
theorem dX0_rankNext_16 : decode cX0_rankNext 16 = .ok (.invokevirtual 37, 3) := by decide +kernel
theorem dX0_rankNext_19 : decode cX0_rankNext 19 = .ok (.ifCond .eq 23, 3) := by decide +kernel
theorem dX0_rankNext_22 : decode cX0_rankNext 22 = .ok (.aload_n 0, 1) := by decide +kernel
theorem dX0_rankNext_23 : decode cX0_rankNext 23 = .ok (.getfield 18, 3) := by decide +kernel
theorem dX0_rankNext_26 : decode cX0_rankNext 26 = .ok (.iload_n 2, 1) := by decide +kernel
theorem dX0_rankNext_27 : decode cX0_rankNext 27 = .ok (.aload_n 0, 1) := by decide +kernel
theorem dX0_rankNext_28 : decode cX0_rankNext 28 = .ok (.getfield 18, 3) := by decide +kernel
theorem dX0_rankNext_31 : decode cX0_rankNext 31 = .ok (.iload_n 2, 1) := by decide +kernel
theorem dX0_rankNext_32 : decode cX0_rankNext 32 = .ok (.iconst 1, 1) := by decide +kernel
theorem dX0_rankNext_33 : decode cX0_rankNext 33 = .ok (.isub, 1) := by decide +kernel
theorem dX0_rankNext_34 : decode cX0_rankNext 34 = .ok (.iaload, 1) := by decide +kernel
theorem dX0_rankNext_35 : decode cX0_rankNext 35 = .ok (.iastore, 1) := by decide +kernel
theorem dX0_rankNext_36 : decode cX0_rankNext 36 = .ok (.iinc 2 (-1), 3) := by decide +kernel
theorem dX0_rankNext_39 : decode cX0_rankNext 39 = .ok (.goto (-37), 3) := by decide +kernel
theorem dX0_rankNext_42 : decode cX0_rankNext 42 = .ok (.aload_n 0, 1) := by decide +kernel
theorem dX0_rankNext_43 : decode cX0_rankNext 43 = .ok (.getfield 18, 3) := by decide +kernel
theorem dX0_rankNext_46 : decode cX0_rankNext 46 = .ok (.iload_n 2, 1) := by decide +kernel
theorem dX0_rankNext_47 : decode cX0_rankNext 47 = .ok (.iload_n 1, 1) := by decide +kernel
theorem dX0_rankNext_48 : decode cX0_rankNext 48 = .ok (.iastore, 1) := by decide +kernel
theorem dX0_rankNext_49 : decode cX0_rankNext 49 = .ok (.return_, 1) := by decide +kernel
theorem dX0_goesAhead_0 : decode cX0_goesAhead 0 = .ok (.aload_n 0, 1) := by decide +kernel
theorem dX0_goesAhead_1 : decode cX0_goesAhead 1 = .ok (.getfield 11, 3) := by decide +kernel
theorem dX0_goesAhead_4 : decode cX0_goesAhead 4 = .ok (.iload_n 1, 1) := by decide +kernel
theorem dX0_goesAhead_5 : decode cX0_goesAhead 5 = .ok (.iaload, 1) := by decide +kernel
theorem dX0_goesAhead_6 : decode cX0_goesAhead 6 = .ok (.aload_n 0, 1) := by decide +kernel
theorem dX0_goesAhead_7 : decode cX0_goesAhead 7 = .ok (.getfield 15, 3) := by decide +kernel
theorem dX0_goesAhead_10 : decode cX0_goesAhead 10 = .ok (.iload_n 2, 1) := by decide +kernel
theorem dX0_goesAhead_11 : decode cX0_goesAhead 11 = .ok (.iaload, 1) := by decide +kernel
theorem dX0_goesAhead_12 : decode cX0_goesAhead 12 = .ok (.imul, 1) := by decide +kernel
theorem dX0_goesAhead_13 : decode cX0_goesAhead 13 = .ok (.aload_n 0, 1) := by decide +kernel
theorem dX0_goesAhead_14 : decode cX0_goesAhead 14 = .ok (.getfield 11, 3) := by decide +kernel
theorem dX0_goesAhead_17 : decode cX0_goesAhead 17 = .ok (.iload_n 2, 1) := by decide +kernel
theorem dX0_goesAhead_18 : decode cX0_goesAhead 18 = .ok (.iaload, 1) := by decide +kernel
theorem dX0_goesAhead_19 : decode cX0_goesAhead 19 = .ok (.aload_n 0, 1) := by decide +kernel
theorem dX0_goesAhead_20 : decode cX0_goesAhead 20 = .ok (.getfield 15, 3) := by decide +kernel
theorem dX0_goesAhead_23 : decode cX0_goesAhead 23 = .ok (.iload_n 1, 1) := by decide +kernel
theorem dX0_goesAhead_24 : decode cX0_goesAhead 24 = .ok (.iaload, 1) := by decide +kernel
theorem dX0_goesAhead_25 : decode cX0_goesAhead 25 = .ok (.imul, 1) := by decide +kernel
theorem dX0_goesAhead_26 : decode cX0_goesAhead 26 = .ok (.if_icmp .le 7, 3) := by decide +kernel
theorem dX0_goesAhead_29 : decode cX0_goesAhead 29 = .ok (.iconst 1, 1) := by decide +kernel
theorem dX0_goesAhead_30 : decode cX0_goesAhead 30 = .ok (.goto 4, 3) := by decide +kernel
theorem dX0_goesAhead_33 : decode cX0_goesAhead 33 = .ok (.iconst 0, 1) := by decide +kernel
theorem dX0_goesAhead_34 : decode cX0_goesAhead 34 = .ok (.ireturn, 1) := by decide +kernel
theorem dX1_init_0 : decode cX1_init 0 = .ok (.aload_n 0, 1) := by decide +kernel
theorem dX1_init_1 : decode cX1_init 1 = .ok (.invokespecial 3, 3) := by decide +kernel
theorem dX1_init_4 : decode cX1_init 4 = .ok (.aload_n 0, 1) := by decide +kernel
theorem dX1_init_5 : decode cX1_init 5 = .ok (.iconst 2, 1) := by decide +kernel
theorem dX1_init_6 : decode cX1_init 6 = .ok (.bipush 64, 2) := by decide +kernel
theorem dX1_init_8 : decode cX1_init 8 = .ok (.multianewarray 11 2, 4) := by decide +kernel
theorem dX1_init_12 : decode cX1_init 12 = .ok (.putfield 13, 3) := by decide +kernel
theorem dX1_init_15 : decode cX1_init 15 = .ok (.return_, 1) := by decide +kernel
set_option maxRecDepth 20000 in
theorem ggX1_setSample_X6_outside : GoodIn wsX1_setSample wsX6_outside := goodIn_r _ [5] (by decide +kernel) (by decide +kernel)
set_option maxRecDepth 20000 in
theorem gX1_setSample_X6_outside_n16 : GoodIn wsX1_setSample (wsX6_outside) := ggX1_setSample_X6_outside
theorem dX1_setSample_0 : decode cX1_setSample 0 = .ok (.iload_n 1, 1) := by decide +kernel
theorem dX1_setSample_1 : decode cX1_setSample 1 = .ok (.iconst 0, 1) := by decide +kernel
theorem dX1_setSample_2 : decode cX1_setSample 2 = .ok (.iconst 1, 1) := by decide +kernel
theorem dX1_setSample_3 : decode cX1_setSample 3 = .ok (.invokestatic 16, 3) := by decide +kernel
theorem dX1_setSample_6 : decode cX1_setSample 6 = .ok (.ifCond .ne 13, 3) := by decide +kernel
theorem dX1_setSample_9 : decode cX1_setSample 9 = .ok (.iload_n 2, 1) := by decide +kernel
theorem dX1_setSample_10 : decode cX1_setSample 10 = .ok (.iconst 0, 1) := by decide +kernel
theorem dX1_setSample_11 : decode cX1_setSample 11 = .ok (.bipush 63, 2) := by decide +kernel
theorem dX1_setSample_13 : decode cX1_setSample 13 = .ok (.invokestatic 16, 3) := by decide +kernel
theorem dX1_setSample_16 : decode cX1_setSample 16 = .ok (.ifCond .eq 6, 3) := by decide +kernel
theorem dX1_setSample_19 : decode cX1_setSample 19 = .ok (.bipush (-2), 2) := by decide +kernel
theorem dX1_setSample_21 : decode cX1_setSample 21 = .ok (.ireturn, 1) := by decide +kernel
theorem dX1_setSample_22 : decode cX1_setSample 22 = .ok (.iload_n 3, 1) := by decide +kernel
theorem dX1_setSample_23 : decode cX1_setSample 23 = .ok (.ldc 20, 2) := by decide +kernel
theorem dX1_setSample_25 : decode cX1_setSample 25 = .ok (.if_icmp .eq 19, 3) := by decide +kernel
theorem dX1_setSample_28 : decode cX1_setSample 28 = .ok (.iload_n 3, 1) := by decide +kernel
theorem dX1_setSample_29 : decode cX1_setSample 29 = .ok (.sipush (-1000), 3) := by decide +kernel
theorem dX1_setSample_32 : decode cX1_setSample 32 = .ok (.sipush 1000, 3) := by decide +kernel
theorem dX1_setSample_35 : decode cX1_setSample 35 = .ok (.invokestatic 16, 3) := by decide +kernel
theorem dX1_setSample_38 : decode cX1_setSample 38 = .ok (.ifCond .eq 6, 3) := by decide +kernel
theorem dX1_setSample_41 : decode cX1_setSample 41 = .ok (.bipush (-2), 2) := by decide +kernel
theorem dX1_setSample_43 : decode cX1_setSample 43 = .ok (.ireturn, 1) := by decide +kernel
theorem dX1_setSample_44 : decode cX1_setSample 44 = .ok (.aload_n 0, 1) := by decide +kernel
theorem dX1_setSample_45 : decode cX1_setSample 45 = .ok (.getfield 13, 3) := by decide +kernel
theorem dX1_setSample_48 : decode cX1_setSample 48 = .ok (.iload_n 1, 1) := by decide +kernel
theorem dX1_setSample_49 : decode cX1_setSample 49 = .ok (.aaload, 1) := by decide +kernel
theorem dX1_setSample_50 : decode cX1_setSample 50 = .ok (.iload_n 2, 1) := by decide +kernel
theorem dX1_setSample_51 : decode cX1_setSample 51 = .ok (.iload_n 3, 1) := by decide +kernel
theorem dX1_setSample_52 : decode cX1_setSample 52 = .ok (.iastore, 1) := by decide +kernel
theorem dX1_setSample_53 : decode cX1_setSample 53 = .ok (.iconst 1, 1) := by decide +kernel
theorem dX1_setSample_54 : decode cX1_setSample 54 = .ok (.ireturn, 1) := by decide +kernel
set_option maxRecDepth 20000 in
theorem ggX1_copySamples_X6_outside : GoodIn wsX1_copySamples wsX6_outside := goodIn_r _ [4] (by decide +kernel) (by decide +kernel)
set_option maxRecDepth 20000 in
theorem gX1_copySamples_X6_outside_n16 : GoodIn wsX1_copySamples (wsX6_outside) := ggX1_copySamples_X6_outside
theorem dX1_copySamples_0 : decode cX1_copySamples 0 = .ok (.iload_n 1, 1) := by decide +kernel
theorem dX1_copySamples_1 : decode cX1_copySamples 1 = .ok (.iconst 0, 1) := by decide +kernel
theorem dX1_copySamples_2 : decode cX1_copySamples 2 = .ok (.iconst 1, 1) := by decide +kernel
theorem dX1_copySamples_3 : decode cX1_copySamples 3 = .ok (.invokestatic 16, 3) := by decide +kernel
theorem dX1_copySamples_6 : decode cX1_copySamples 6 = .ok (.ifCond .ne 40, 3) := by decide +kernel
theorem dX1_copySamples_9 : decode cX1_copySamples 9 = .ok (.iload 4, 2) := by decide +kernel
theorem dX1_copySamples_11 : decode cX1_copySamples 11 = .ok (.iconst 1, 1) := by decide +kernel
theorem dX1_copySamples_12 : decode cX1_copySamples 12 = .ok (.bipush 64, 2) := by decide +kernel
theorem dX1_copySamples_14 : decode cX1_copySamples 14 = .ok (.invokestatic 16, 3) := by decide +kernel
theorem dX1_copySamples_17 : decode cX1_copySamples 17 = .ok (.ifCond .ne 29, 3) := by decide +kernel
theorem dX1_copySamples_20 : decode cX1_copySamples 20 = .ok (.iload_n 2, 1) := by decide +kernel
theorem dX1_copySamples_21 : decode cX1_copySamples 21 = .ok (.iconst 0, 1) := by decide +kernel
theorem dX1_copySamples_22 : decode cX1_copySamples 22 = .ok (.bipush 64, 2) := by decide +kernel
theorem dX1_copySamples_24 : decode cX1_copySamples 24 = .ok (.iload 4, 2) := by decide +kernel
theorem dX1_copySamples_26 : decode cX1_copySamples 26 = .ok (.isub, 1) := by decide +kernel
theorem dX1_copySamples_27 : decode cX1_copySamples 27 = .ok (.invokestatic 16, 3) := by decide +kernel
theorem dX1_copySamples_30 : decode cX1_copySamples 30 = .ok (.ifCond .ne 16, 3) := by decide +kernel
theorem dX1_copySamples_33 : decode cX1_copySamples 33 = .ok (.iload_n 3, 1) := by decide +kernel
theorem dX1_copySamples_34 : decode cX1_copySamples 34 = .ok (.iconst 0, 1) := by decide +kernel
theorem dX1_copySamples_35 : decode cX1_copySamples 35 = .ok (.bipush 64, 2) := by decide +kernel
theorem dX1_copySamples_37 : decode cX1_copySamples 37 = .ok (.iload 4, 2) := by decide +kernel
theorem dX1_copySamples_39 : decode cX1_copySamples 39 = .ok (.isub, 1) := by decide +kernel
theorem dX1_copySamples_40 : decode cX1_copySamples 40 = .ok (.invokestatic 16, 3) := by decide +kernel
theorem dX1_copySamples_43 : decode cX1_copySamples 43 = .ok (.ifCond .eq 6, 3) := by decide +kernel
theorem dX1_copySamples_46 : decode cX1_copySamples 46 = .ok (.bipush (-2), 2) := by decide +kernel
theorem dX1_copySamples_48 : decode cX1_copySamples 48 = .ok (.ireturn, 1) := by decide +kernel
theorem dX1_copySamples_49 : decode cX1_copySamples 49 = .ok (.iconst 0, 1) := by decide +kernel
theorem dX1_copySamples_50 : decode cX1_copySamples 50 = .ok (.istore 5, 2) := by decide +kernel
theorem dX1_copySamples_52 : decode cX1_copySamples 52 = .ok (.iload 5, 2) := by decide +kernel
theorem dX1_copySamples_54 : decode cX1_copySamples 54 = .ok (.iload 4, 2) := by decide +kernel
theorem dX1_copySamples_56 : decode cX1_copySamples 56 = .ok (.if_icmp .ge 33, 3) := by decide +kernel
theorem dX1_copySamples_59 : decode cX1_copySamples 59 = .ok (.aload_n 0, 1) := by decide +kernel
theorem dX1_copySamples_60 : decode cX1_copySamples 60 = .ok (.getfield 13, 3) := by decide +kernel
theorem dX1_copySamples_63 : decode cX1_copySamples 63 = .ok (.iload_n 1, 1) := by decide +kernel
theorem dX1_copySamples_64 : decode cX1_copySamples 64 = .ok (.aaload, 1) := by decide +kernel
theorem dX1_copySamples_65 : decode cX1_copySamples 65 = .ok (.iload_n 2, 1) := by decide +kernel
theorem dX1_copySamples_66 : decode cX1_copySamples 66 = .ok (.iload 5, 2) := by decide +kernel
theorem dX1_copySamples_68 : decode cX1_copySamples 68 = .ok (.iadd, 1) := by decide +kernel
theorem dX1_copySamples_69 : decode cX1_copySamples 69 = .ok (.aload_n 0, 1) := by decide +kernel
theorem dX1_copySamples_70 : decode cX1_copySamples 70 = .ok (.getfield 13, 3) := by decide +kernel
theorem dX1_copySamples_73 : decode cX1_copySamples 73 = .ok (.iconst 1, 1) := by decide +kernel
theorem dX1_copySamples_74 : decode cX1_copySamples 74 = .ok (.iload_n 1, 1) := by decide +kernel
theorem dX1_copySamples_75 : decode cX1_copySamples 75 = .ok (.isub, 1) := by decide +kernel
theorem dX1_copySamples_76 : decode cX1_copySamples 76 = .ok (.aaload, 1) := by decide +kernel
theorem dX1_copySamples_77 : decode cX1_copySamples 77 = .ok (.iload_n 3, 1) := by decide +kernel
theorem dX1_copySamples_78 : decode cX1_copySamples 78 = .ok (.iload 5, 2) := by decide +kernel
theorem dX1_copySamples_80 : decode cX1_copySamples 80 = .ok (.iadd, 1) := by decide +kernel
theorem dX1_copySamples_81 : decode cX1_copySamples 81 = .ok (.iaload, 1) := by decide +kernel
theorem dX1_copySamples_82 : decode cX1_copySamples 82 = .ok (.iastore, 1) := by decide +kernel
theorem dX1_copySamples_83 : decode cX1_copySamples 83 = .ok (.iinc 5 1, 3) := by decide +kernel
theorem dX1_copySamples_86 : decode cX1_copySamples 86 = .ok (.goto (-34), 3) := by decide +kernel
theorem dX1_copySamples_89 : decode cX1_copySamples 89 = .ok (.iconst 1, 1) := by decide +kernel
theorem dX1_copySamples_90 : decode cX1_copySamples 90 = .ok (.ireturn, 1) := by decide +kernel
set_option maxRecDepth 20000 in
theorem ggX1_sumPart_X6_outside : GoodIn wsX1_sumPart wsX6_outside := goodIn_r _ [4] (by decide +kernel) (by decide +kernel)
set_option maxRecDepth 20000 in
theorem gX1_sumPart_X6_outside_n16 : GoodIn wsX1_sumPart (wsX6_outside) := ggX1_sumPart_X6_outside
set_option maxRecDepth 20000 in
theorem ggX1_sumPart_X1_sumAt : GoodIn wsX1_sumPart wsX1_sumAt := goodIn_r _ [9, 10, 11, 12, 13, 8, 14, 1, 2, 3, 4, 19] (by decide +kernel) (by decide +kernel)
set_option maxRecDepth 20000 in
theorem gX1_sumPart_X1_sumAt : GoodIn wsX1_sumPart (wsV RX1 21 RX1 yX1_sumAt wsX1_sumAt) := goodIn_app (goodIn_of _ (by decide +kernel)) ggX1_sumPart_X1_sumAt
set_option maxRecDepth 20000 in
theorem ggX1_sumPart_X1_pairsAt : GoodIn wsX1_sumPart wsX1_pairsAt := goodIn_r _ [18, 11, 12, 13, 8, 14, 10, 1, 2, 3, 4, 19] (by decide +kernel) (by decide +kernel)
set_option maxRecDepth 20000 in
theorem gX1_sumPart_X1_pairsAt : GoodIn wsX1_sumPart (wsV RX1 25 RX1 yX1_pairsAt wsX1_pairsAt) := goodIn_app (goodIn_of _ (by decide +kernel)) ggX1_sumPart_X1_pairsAt
theorem dX1_sumPart_0 : decode cX1_sumPart 0 = .ok (.iload_n 1, 1) := by decide +kernel
theorem dX1_sumPart_1 : decode cX1_sumPart 1 = .ok (.bipush (-16), 2) := by decide +kernel
theorem dX1_sumPart_3 : decode cX1_sumPart 3 = .ok (.bipush 16, 2) := by decide +kernel
theorem dX1_sumPart_5 : decode cX1_sumPart 5 = .ok (.invokestatic 16, 3) := by decide +kernel
theorem dX1_sumPart_8 : decode cX1_sumPart 8 = .ok (.ifCond .ne 12, 3) := by decide +kernel
theorem dX1_sumPart_11 : decode cX1_sumPart 11 = .ok (.iload_n 2, 1) := by decide +kernel
theorem dX1_sumPart_12 : decode cX1_sumPart 12 = .ok (.iconst 0, 1) := by decide +kernel
theorem dX1_sumPart_13 : decode cX1_sumPart 13 = .ok (.iconst 1, 1) := by decide +kernel
theorem dX1_sumPart_14 : decode cX1_sumPart 14 = .ok (.invokestatic 16, 3) := by decide +kernel
theorem dX1_sumPart_17 : decode cX1_sumPart 17 = .ok (.ifCond .eq 6, 3) := by decide +kernel
theorem dX1_sumPart_20 : decode cX1_sumPart 20 = .ok (.ldc 20, 2) := by decide +kernel
theorem dX1_sumPart_22 : decode cX1_sumPart 22 = .ok (.ireturn, 1) := by decide +kernel
theorem dX1_sumPart_23 : decode cX1_sumPart 23 = .ok (.iload_n 2, 1) := by decide +kernel
theorem dX1_sumPart_24 : decode cX1_sumPart 24 = .ok (.ifCond .ne 11, 3) := by decide +kernel
theorem dX1_sumPart_27 : decode cX1_sumPart 27 = .ok (.aload_n 0, 1) := by decide +kernel
theorem dX1_sumPart_28 : decode cX1_sumPart 28 = .ok (.iload_n 1, 1) := by decide +kernel
theorem dX1_sumPart_29 : decode cX1_sumPart 29 = .ok (.invokevirtual 21, 3) := by decide +kernel
theorem dX1_sumPart_32 : decode cX1_sumPart 32 = .ok (.goto 8, 3) := by decide +kernel
theorem dX1_sumPart_35 : decode cX1_sumPart 35 = .ok (.aload_n 0, 1) := by decide +kernel
theorem dX1_sumPart_36 : decode cX1_sumPart 36 = .ok (.iload_n 1, 1) := by decide +kernel
theorem dX1_sumPart_37 : decode cX1_sumPart 37 = .ok (.invokevirtual 25, 3) := by decide +kernel
theorem dX1_sumPart_40 : decode cX1_sumPart 40 = .ok (.ireturn, 1) := by decide +kernel
set_option maxRecDepth 20000 in
theorem ggX1_findDelay_X1_bestDelayAwayFrom : GoodIn wsX1_findDelay wsX1_bestDelayAwayFrom := goodIn_r _ [5, 6, 7, 8, 9, 10, 11, 12, 4, 13, 14, 15, 16, 17, 18, 19, 20, 21, 22, 23, 24, 25, 26, 27] (by decide +kernel) (by decide +kernel)
set_option maxRecDepth 20000 in
theorem gX1_findDelay_X1_bestDelayAwayFrom : GoodIn wsX1_findDelay (wsV RX1 28 RX1 yX1_bestDelayAwayFrom wsX1_bestDelayAwayFrom) := goodIn_app (goodIn_of _ (by decide +kernel)) ggX1_findDelay_X1_bestDelayAwayFrom
theorem dX1_findDelay_0 : decode cX1_findDelay 0 = .ok (.aload_n 0, 1) := by decide +kernel
theorem dX1_findDelay_1 : decode cX1_findDelay 1 = .ok (.bipush (-101), 2) := by decide +kernel
theorem dX1_findDelay_3 : decode cX1_findDelay 3 = .ok (.invokevirtual 28, 3) := by decide +kernel
theorem dX1_findDelay_6 : decode cX1_findDelay 6 = .ok (.istore_n 2, 1) := by decide +kernel
theorem dX1_findDelay_7 : decode cX1_findDelay 7 = .ok (.iload_n 1, 1) := by decide +kernel
theorem dX1_findDelay_8 : decode cX1_findDelay 8 = .ok (.ifCond .eq 11, 3) := by decide +kernel
theorem dX1_findDelay_11 : decode cX1_findDelay 11 = .ok (.aload_n 0, 1) := by decide +kernel
theorem dX1_findDelay_12 : decode cX1_findDelay 12 = .ok (.iload_n 2, 1) := by decide +kernel
theorem dX1_findDelay_13 : decode cX1_findDelay 13 = .ok (.invokevirtual 28, 3) := by decide +kernel
theorem dX1_findDelay_16 : decode cX1_findDelay 16 = .ok (.goto 4, 3) := by decide +kernel
theorem dX1_findDelay_19 : decode cX1_findDelay 19 = .ok (.iload_n 2, 1) := by decide +kernel
theorem dX1_findDelay_20 : decode cX1_findDelay 20 = .ok (.ireturn, 1) := by decide +kernel
set_option maxRecDepth 20000 in
theorem ggX1_twicePlace_X6_outside : GoodIn wsX1_twicePlace wsX6_outside := goodIn_r _ [11] (by decide +kernel) (by decide +kernel)
set_option maxRecDepth 20000 in
theorem gX1_twicePlace_X6_outside_n16 : GoodIn wsX1_twicePlace (wsX6_outside) := ggX1_twicePlace_X6_outside
set_option maxRecDepth 20000 in
theorem ggX1_twicePlace_X1_findDelay : GoodIn wsX1_twicePlace wsX1_findDelay := goodIn_r _ [16, 17, 18, 19, 15, 20, 21, 22, 4, 23, 24, 25, 26, 27, 28, 29, 30, 31, 32, 33, 9, 10, 11, 34, 35, 36, 37, 41] (by decide +kernel) (by decide +kernel)
set_option maxRecDepth 20000 in
theorem gX1_twicePlace_X1_findDelay : GoodIn wsX1_twicePlace (wsV RX1 32 RX1 yX1_findDelay wsX1_findDelay) := goodIn_app (goodIn_of _ (by decide +kernel)) ggX1_twicePlace_X1_findDelay
set_option maxRecDepth 20000 in
theorem ggX1_twicePlace_X1_onPipe : GoodIn wsX1_twicePlace wsX1_onPipe := goodIn_r _ [40, 2, 3, 4, 5, 6, 7, 8] (by decide +kernel) (by decide +kernel)
set_option maxRecDepth 20000 in
theorem gX1_twicePlace_X1_onPipe : GoodIn wsX1_twicePlace (va_wsS RX1 36 yX1_onPipe wsX1_onPipe) := goodIn_app (goodIn_of _ (by decide +kernel)) ggX1_twicePlace_X1_onPipe
theorem dX1_twicePlace_0 : decode cX1_twicePlace 0 = .ok (.iload_n 1, 1) := by decide +kernel
theorem dX1_twicePlace_1 : decode cX1_twicePlace 1 = .ok (.iconst 1, 1) := by decide +kernel
theorem dX1_twicePlace_2 : decode cX1_twicePlace 2 = .ok (.ldc 31, 2) := by decide +kernel
theorem dX1_twicePlace_4 : decode cX1_twicePlace 4 = .ok (.invokestatic 16, 3) := by decide +kernel
theorem dX1_twicePlace_7 : decode cX1_twicePlace 7 = .ok (.ifCond .ne 35, 3) := by decide +kernel
theorem dX1_twicePlace_10 : decode cX1_twicePlace 10 = .ok (.iload_n 2, 1) := by decide +kernel
theorem dX1_twicePlace_11 : decode cX1_twicePlace 11 = .ok (.iconst 1, 1) := by decide +kernel
theorem dX1_twicePlace_12 : decode cX1_twicePlace 12 = .ok (.sipush 2000, 3) := by decide +kernel
theorem dX1_twicePlace_15 : decode cX1_twicePlace 15 = .ok (.invokestatic 16, 3) := by decide +kernel
theorem dX1_twicePlace_18 : decode cX1_twicePlace 18 = .ok (.ifCond .ne 24, 3) := by decide +kernel
theorem dX1_twicePlace_21 : decode cX1_twicePlace 21 = .ok (.iload_n 3, 1) := by decide +kernel
theorem dX1_twicePlace_22 : decode cX1_twicePlace 22 = .ok (.iload_n 2, 1) := by decide +kernel
theorem dX1_twicePlace_23 : decode cX1_twicePlace 23 = .ok (.sipush 2000, 3) := by decide +kernel
theorem dX1_twicePlace_26 : decode cX1_twicePlace 26 = .ok (.invokestatic 16, 3) := by decide +kernel
theorem dX1_twicePlace_29 : decode cX1_twicePlace 29 = .ok (.ifCond .ne 13, 3) := by decide +kernel
theorem dX1_twicePlace_32 : decode cX1_twicePlace 32 = .ok (.iload 4, 2) := by decide +kernel
theorem dX1_twicePlace_34 : decode cX1_twicePlace 34 = .ok (.iconst 0, 1) := by decide +kernel
theorem dX1_twicePlace_35 : decode cX1_twicePlace 35 = .ok (.iconst 1, 1) := by decide +kernel
theorem dX1_twicePlace_36 : decode cX1_twicePlace 36 = .ok (.invokestatic 16, 3) := by decide +kernel
theorem dX1_twicePlace_39 : decode cX1_twicePlace 39 = .ok (.ifCond .eq 6, 3) := by decide +kernel
theorem dX1_twicePlace_42 : decode cX1_twicePlace 42 = .ok (.bipush (-2), 2) := by decide +kernel
theorem dX1_twicePlace_44 : decode cX1_twicePlace 44 = .ok (.ireturn, 1) := by decide +kernel
theorem dX1_twicePlace_45 : decode cX1_twicePlace 45 = .ok (.aload_n 0, 1) := by decide +kernel
theorem dX1_twicePlace_46 : decode cX1_twicePlace 46 = .ok (.iconst 0, 1) := by decide +kernel
theorem dX1_twicePlace_47 : decode cX1_twicePlace 47 = .ok (.invokevirtual 32, 3) := by decide +kernel
theorem dX1_twicePlace_50 : decode cX1_twicePlace 50 = .ok (.istore 5, 2) := by decide +kernel
theorem dX1_twicePlace_52 : decode cX1_twicePlace 52 = .ok (.iload 5, 2) := by decide +kernel
theorem dX1_twicePlace_54 : decode cX1_twicePlace 54 = .ok (.bipush (-101), 2) := by decide +kernel
theorem dX1_twicePlace_56 : decode cX1_twicePlace 56 = .ok (.if_icmp .ne 6, 3) := by decide +kernel
theorem dX1_twicePlace_59 : decode cX1_twicePlace 59 = .ok (.bipush (-3), 2) := by decide +kernel
theorem dX1_twicePlace_61 : decode cX1_twicePlace 61 = .ok (.ireturn, 1) := by decide +kernel
theorem dX1_twicePlace_62 : decode cX1_twicePlace 62 = .ok (.iload_n 1, 1) := by decide +kernel
theorem dX1_twicePlace_63 : decode cX1_twicePlace 63 = .ok (.iload 5, 2) := by decide +kernel
theorem dX1_twicePlace_65 : decode cX1_twicePlace 65 = .ok (.iload_n 2, 1) := by decide +kernel
theorem dX1_twicePlace_66 : decode cX1_twicePlace 66 = .ok (.imul, 1) := by decide +kernel
theorem dX1_twicePlace_67 : decode cX1_twicePlace 67 = .ok (.isub, 1) := by decide +kernel
theorem dX1_twicePlace_68 : decode cX1_twicePlace 68 = .ok (.iload_n 1, 1) := by decide +kernel
theorem dX1_twicePlace_69 : decode cX1_twicePlace 69 = .ok (.invokestatic 36, 3) := by decide +kernel
theorem dX1_twicePlace_72 : decode cX1_twicePlace 72 = .ok (.istore 6, 2) := by decide +kernel
theorem dX1_twicePlace_74 : decode cX1_twicePlace 74 = .ok (.iload_n 1, 1) := by decide +kernel
theorem dX1_twicePlace_75 : decode cX1_twicePlace 75 = .ok (.iload 5, 2) := by decide +kernel
theorem dX1_twicePlace_77 : decode cX1_twicePlace 77 = .ok (.iload_n 3, 1) := by decide +kernel
theorem dX1_twicePlace_78 : decode cX1_twicePlace 78 = .ok (.imul, 1) := by decide +kernel
theorem dX1_twicePlace_79 : decode cX1_twicePlace 79 = .ok (.isub, 1) := by decide +kernel
theorem dX1_twicePlace_80 : decode cX1_twicePlace 80 = .ok (.iload_n 1, 1) := by decide +kernel
theorem dX1_twicePlace_81 : decode cX1_twicePlace 81 = .ok (.invokestatic 36, 3) := by decide +kernel
theorem dX1_twicePlace_84 : decode cX1_twicePlace 84 = .ok (.istore 7, 2) := by decide +kernel
theorem dX1_twicePlace_86 : decode cX1_twicePlace 86 = .ok (.iload 4, 2) := by decide +kernel
theorem dX1_twicePlace_88 : decode cX1_twicePlace 88 = .ok (.ifCond .ne 13, 3) := by decide +kernel
theorem dX1_twicePlace_91 : decode cX1_twicePlace 91 = .ok (.iload 6, 2) := by decide +kernel
theorem dX1_twicePlace_93 : decode cX1_twicePlace 93 = .ok (.iload 7, 2) := by decide +kernel
theorem dX1_twicePlace_95 : decode cX1_twicePlace 95 = .ok (.invokestatic 40, 3) := by decide +kernel
theorem dX1_twicePlace_98 : decode cX1_twicePlace 98 = .ok (.goto 10, 3) := by decide +kernel
theorem dX1_twicePlace_101 : decode cX1_twicePlace 101 = .ok (.iload 6, 2) := by decide +kernel
theorem dX1_twicePlace_103 : decode cX1_twicePlace 103 = .ok (.iload 7, 2) := by decide +kernel
theorem dX1_twicePlace_105 : decode cX1_twicePlace 105 = .ok (.invokestatic 45, 3) := by decide +kernel
theorem dX1_twicePlace_108 : decode cX1_twicePlace 108 = .ok (.ireturn, 1) := by decide +kernel
theorem dX1_samplesLost_0 : decode cX1_samplesLost 0 = .ok (.iconst 0, 1) := by decide +kernel
theorem dX1_samplesLost_1 : decode cX1_samplesLost 1 = .ok (.istore_n 1, 1) := by decide +kernel
theorem dX1_samplesLost_2 : decode cX1_samplesLost 2 = .ok (.iconst 0, 1) := by decide +kernel
theorem dX1_samplesLost_3 : decode cX1_samplesLost 3 = .ok (.istore_n 2, 1) := by decide +kernel
theorem dX1_samplesLost_4 : decode cX1_samplesLost 4 = .ok (.iload_n 2, 1) := by decide +kernel
theorem dX1_samplesLost_5 : decode cX1_samplesLost 5 = .ok (.bipush 64, 2) := by decide +kernel
theorem dX1_samplesLost_7 : decode cX1_samplesLost 7 = .ok (.if_icmp .ge 51, 3) := by decide +kernel
theorem dX1_samplesLost_10 : decode cX1_samplesLost 10 = .ok (.iload_n 1, 1) := by decide +kernel
theorem dX1_samplesLost_11 : decode cX1_samplesLost 11 = .ok (.aload_n 0, 1) := by decide +kernel
theorem dX1_samplesLost_12 : decode cX1_samplesLost 12 = .ok (.getfield 13, 3) := by decide +kernel
theorem dX1_samplesLost_15 : decode cX1_samplesLost 15 = .ok (.iconst 0, 1) := by decide +kernel
theorem dX1_samplesLost_16 : decode cX1_samplesLost 16 = .ok (.aaload, 1) := by decide +kernel
theorem dX1_samplesLost_17 : decode cX1_samplesLost 17 = .ok (.iload_n 2, 1) := by decide +kernel
theorem dX1_samplesLost_18 : decode cX1_samplesLost 18 = .ok (.iaload, 1) := by decide +kernel
theorem dX1_samplesLost_19 : decode cX1_samplesLost 19 = .ok (.ldc 20, 2) := by decide +kernel
theorem dX1_samplesLost_21 : decode cX1_samplesLost 21 = .ok (.if_icmp .ne 7, 3) := by decide +kernel
theorem dX1_samplesLost_24 : decode cX1_samplesLost 24 = .ok (.iconst 1, 1) := by decide +kernel
theorem dX1_samplesLost_25 : decode cX1_samplesLost 25 = .ok (.goto 4, 3) := by decide +kernel
theorem dX1_samplesLost_28 : decode cX1_samplesLost 28 = .ok (.iconst 0, 1) := by decide +kernel
theorem dX1_samplesLost_29 : decode cX1_samplesLost 29 = .ok (.iadd, 1) := by decide +kernel
theorem dX1_samplesLost_30 : decode cX1_samplesLost 30 = .ok (.istore_n 1, 1) := by decide +kernel
theorem dX1_samplesLost_31 : decode cX1_samplesLost 31 = .ok (.iload_n 1, 1) := by decide +kernel
theorem dX1_samplesLost_32 : decode cX1_samplesLost 32 = .ok (.aload_n 0, 1) := by decide +kernel
theorem dX1_samplesLost_33 : decode cX1_samplesLost 33 = .ok (.getfield 13, 3) := by decide +kernel
theorem dX1_samplesLost_36 : decode cX1_samplesLost 36 = .ok (.iconst 1, 1) := by decide +kernel
theorem dX1_samplesLost_37 : decode cX1_samplesLost 37 = .ok (.aaload, 1) := by decide +kernel
theorem dX1_samplesLost_38 : decode cX1_samplesLost 38 = .ok (.iload_n 2, 1) := by decide +kernel
theorem dX1_samplesLost_39 : decode cX1_samplesLost 39 = .ok (.iaload, 1) := by decide +kernel
theorem dX1_samplesLost_40 : decode cX1_samplesLost 40 = .ok (.ldc 20, 2) := by decide +kernel
theorem dX1_samplesLost_42 : decode cX1_samplesLost 42 = .ok (.if_icmp .ne 7, 3) := by decide +kernel
theorem dX1_samplesLost_45 : decode cX1_samplesLost 45 = .ok (.iconst 1, 1) := by decide +kernel
theorem dX1_samplesLost_46 : decode cX1_samplesLost 46 = .ok (.goto 4, 3) := by decide +kernel
theorem dX1_samplesLost_49 : decode cX1_samplesLost 49 = .ok (.iconst 0, 1) := by decide +kernel
theorem dX1_samplesLost_50 : decode cX1_samplesLost 50 = .ok (.iadd, 1) := by decide +kernel
theorem dX1_samplesLost_51 : decode cX1_samplesLost 51 = .ok (.istore_n 1, 1) := by decide +kernel
theorem dX1_samplesLost_52 : decode cX1_samplesLost 52 = .ok (.iinc 2 1, 3) := by decide +kernel
theorem dX1_samplesLost_55 : decode cX1_samplesLost 55 = .ok (.goto (-51), 3) := by decide +kernel
theorem dX1_samplesLost_58 : decode cX1_samplesLost 58 = .ok (.iload_n 1, 1) := by decide +kernel
theorem dX1_samplesLost_59 : decode cX1_samplesLost 59 = .ok (.ireturn, 1) := by decide +kernel
set_option maxRecDepth 20000 in
theorem ggX1_mixInto_X6_mix : GoodIn wsX1_mixInto wsX6_mix := goodIn_r _ [4, 5] (by decide +kernel) (by decide +kernel)
set_option maxRecDepth 20000 in
theorem gX1_mixInto_X6_mix_n48 : GoodIn wsX1_mixInto (wsX6_mix) := ggX1_mixInto_X6_mix
theorem dX1_mixInto_0 : decode cX1_mixInto 0 = .ok (.lload_n 1, 1) := by decide +kernel
theorem dX1_mixInto_1 : decode cX1_mixInto 1 = .ok (.lstore_n 3, 1) := by decide +kernel
theorem dX1_mixInto_2 : decode cX1_mixInto 2 = .ok (.iconst 0, 1) := by decide +kernel
theorem dX1_mixInto_3 : decode cX1_mixInto 3 = .ok (.istore 5, 2) := by decide +kernel
theorem dX1_mixInto_5 : decode cX1_mixInto 5 = .ok (.iload 5, 2) := by decide +kernel
theorem dX1_mixInto_7 : decode cX1_mixInto 7 = .ok (.iconst 1, 1) := by decide +kernel
theorem dX1_mixInto_8 : decode cX1_mixInto 8 = .ok (.if_icmp .gt 40, 3) := by decide +kernel
theorem dX1_mixInto_11 : decode cX1_mixInto 11 = .ok (.iconst 0, 1) := by decide +kernel
theorem dX1_mixInto_12 : decode cX1_mixInto 12 = .ok (.istore 6, 2) := by decide +kernel
theorem dX1_mixInto_14 : decode cX1_mixInto 14 = .ok (.iload 6, 2) := by decide +kernel
theorem dX1_mixInto_16 : decode cX1_mixInto 16 = .ok (.bipush 64, 2) := by decide +kernel
theorem dX1_mixInto_18 : decode cX1_mixInto 18 = .ok (.if_icmp .ge 24, 3) := by decide +kernel
theorem dX1_mixInto_21 : decode cX1_mixInto 21 = .ok (.lload_n 3, 1) := by decide +kernel
theorem dX1_mixInto_22 : decode cX1_mixInto 22 = .ok (.aload_n 0, 1) := by decide +kernel
theorem dX1_mixInto_23 : decode cX1_mixInto 23 = .ok (.getfield 13, 3) := by decide +kernel
theorem dX1_mixInto_26 : decode cX1_mixInto 26 = .ok (.iload 5, 2) := by decide +kernel
theorem dX1_mixInto_28 : decode cX1_mixInto 28 = .ok (.aaload, 1) := by decide +kernel
theorem dX1_mixInto_29 : decode cX1_mixInto 29 = .ok (.iload 6, 2) := by decide +kernel
theorem dX1_mixInto_31 : decode cX1_mixInto 31 = .ok (.iaload, 1) := by decide +kernel
theorem dX1_mixInto_32 : decode cX1_mixInto 32 = .ok (.invokestatic 48, 3) := by decide +kernel
theorem dX1_mixInto_35 : decode cX1_mixInto 35 = .ok (.lstore_n 3, 1) := by decide +kernel
theorem dX1_mixInto_36 : decode cX1_mixInto 36 = .ok (.iinc 6 1, 3) := by decide +kernel
theorem dX1_mixInto_39 : decode cX1_mixInto 39 = .ok (.goto (-25), 3) := by decide +kernel
theorem dX1_mixInto_42 : decode cX1_mixInto 42 = .ok (.iinc 5 1, 3) := by decide +kernel
theorem dX1_mixInto_45 : decode cX1_mixInto 45 = .ok (.goto (-40), 3) := by decide +kernel
theorem dX1_mixInto_48 : decode cX1_mixInto 48 = .ok (.lload_n 3, 1) := by decide +kernel
theorem dX1_mixInto_49 : decode cX1_mixInto 49 = .ok (.lreturn, 1) := by decide +kernel
set_option maxRecDepth 20000 in
theorem ggX1_bestDelayAwayFrom_X1_sumAt : GoodIn wsX1_bestDelayAwayFrom wsX1_sumAt := goodIn_r _ [9, 10, 11, 12, 13, 8, 14, 15, 16, 17, 18, 23] (by decide +kernel) (by decide +kernel)
set_option maxRecDepth 20000 in
theorem gX1_bestDelayAwayFrom_X1_sumAt : GoodIn wsX1_bestDelayAwayFrom (wsV RX1 21 RX1 yX1_sumAt wsX1_sumAt) := goodIn_app (goodIn_of _ (by decide +kernel)) ggX1_bestDelayAwayFrom_X1_sumAt
set_option maxRecDepth 20000 in
theorem ggX1_bestDelayAwayFrom_X1_pairsAt : GoodIn wsX1_bestDelayAwayFrom wsX1_pairsAt := goodIn_r _ [22, 11, 12, 13, 8, 14, 10, 15, 16, 17, 18, 23] (by decide +kernel) (by decide +kernel)
set_option maxRecDepth 20000 in
theorem gX1_bestDelayAwayFrom_X1_pairsAt : GoodIn wsX1_bestDelayAwayFrom (wsV RX1 25 RX1 yX1_pairsAt wsX1_pairsAt) := goodIn_app (goodIn_of _ (by decide +kernel)) ggX1_bestDelayAwayFrom_X1_pairsAt
theorem dX1_bestDelayAwayFrom_0 : decode cX1_bestDelayAwayFrom 0 = .ok (.bipush (-101), 2) := by decide +kernel
theorem dX1_bestDelayAwayFrom_2 : decode cX1_bestDelayAwayFrom 2 = .ok (.istore_n 2, 1) := by decide +kernel
theorem dX1_bestDelayAwayFrom_3 : decode cX1_bestDelayAwayFrom 3 = .ok (.lconst 0, 1) := by decide +kernel
theorem dX1_bestDelayAwayFrom_4 : decode cX1_bestDelayAwayFrom 4 = .ok (.lstore_n 3, 1) := by decide +kernel
theorem dX1_bestDelayAwayFrom_5 : decode cX1_bestDelayAwayFrom 5 = .ok (.lconst 0, 1) := by decide +kernel
theorem dX1_bestDelayAwayFrom_6 : decode cX1_bestDelayAwayFrom 6 = .ok (.lstore 5, 2) := by decide +kernel
theorem dX1_bestDelayAwayFrom_8 : decode cX1_bestDelayAwayFrom 8 = .ok (.iconst 0, 1) := by decide +kernel
theorem dX1_bestDelayAwayFrom_9 : decode cX1_bestDelayAwayFrom 9 = .ok (.istore 7, 2) := by decide +kernel
theorem dX1_bestDelayAwayFrom_11 : decode cX1_bestDelayAwayFrom 11 = .ok (.iload 7, 2) := by decide +kernel
theorem dX1_bestDelayAwayFrom_13 : decode cX1_bestDelayAwayFrom 13 = .ok (.bipush 32, 2) := by decide +kernel
theorem dX1_bestDelayAwayFrom_15 : decode cX1_bestDelayAwayFrom 15 = .ok (.if_icmp .gt 97, 3) := by decide +kernel
theorem dX1_bestDelayAwayFrom_18 : decode cX1_bestDelayAwayFrom 18 = .ok (.iload 7, 2) := by decide +kernel
theorem dX1_bestDelayAwayFrom_20 : decode cX1_bestDelayAwayFrom 20 = .ok (.iconst 2, 1) := by decide +kernel
theorem dX1_bestDelayAwayFrom_21 : decode cX1_bestDelayAwayFrom 21 = .ok (.irem, 1) := by decide +kernel
theorem dX1_bestDelayAwayFrom_22 : decode cX1_bestDelayAwayFrom 22 = .ok (.ifCond .ne 10, 3) := by decide +kernel
theorem dX1_bestDelayAwayFrom_25 : decode cX1_bestDelayAwayFrom 25 = .ok (.iload 7, 2) := by decide +kernel
theorem dX1_bestDelayAwayFrom_27 : decode cX1_bestDelayAwayFrom 27 = .ok (.iconst 2, 1) := by decide +kernel
theorem dX1_bestDelayAwayFrom_28 : decode cX1_bestDelayAwayFrom 28 = .ok (.idiv, 1) := by decide +kernel
theorem dX1_bestDelayAwayFrom_29 : decode cX1_bestDelayAwayFrom 29 = .ok (.goto 10, 3) := by decide +kernel
theorem dX1_bestDelayAwayFrom_32 : decode cX1_bestDelayAwayFrom 32 = .ok (.iload 7, 2) := by decide +kernel
theorem dX1_bestDelayAwayFrom_34 : decode cX1_bestDelayAwayFrom 34 = .ok (.iconst 2, 1) := by decide +kernel
theorem dX1_bestDelayAwayFrom_35 : decode cX1_bestDelayAwayFrom 35 = .ok (.idiv, 1) := by decide +kernel
theorem dX1_bestDelayAwayFrom_36 : decode cX1_bestDelayAwayFrom 36 = .ok (.ineg, 1) := by decide +kernel
theorem dX1_bestDelayAwayFrom_37 : decode cX1_bestDelayAwayFrom 37 = .ok (.iconst 1, 1) := by decide +kernel
theorem dX1_bestDelayAwayFrom_38 : decode cX1_bestDelayAwayFrom 38 = .ok (.isub, 1) := by decide +kernel
theorem dX1_bestDelayAwayFrom_39 : decode cX1_bestDelayAwayFrom 39 = .ok (.istore 8, 2) := by decide +kernel
theorem dX1_bestDelayAwayFrom_41 : decode cX1_bestDelayAwayFrom 41 = .ok (.iload 8, 2) := by decide +kernel
theorem dX1_bestDelayAwayFrom_43 : decode cX1_bestDelayAwayFrom 43 = .ok (.iload_n 1, 1) := by decide +kernel
theorem dX1_bestDelayAwayFrom_44 : decode cX1_bestDelayAwayFrom 44 = .ok (.isub, 1) := by decide +kernel
theorem dX1_bestDelayAwayFrom_45 : decode cX1_bestDelayAwayFrom 45 = .ok (.invokestatic 52, 3) := by decide +kernel
theorem dX1_bestDelayAwayFrom_48 : decode cX1_bestDelayAwayFrom 48 = .ok (.iconst 1, 1) := by decide +kernel
theorem dX1_bestDelayAwayFrom_49 : decode cX1_bestDelayAwayFrom 49 = .ok (.if_icmp .le 57, 3) := by decide +kernel
theorem dX1_bestDelayAwayFrom_52 : decode cX1_bestDelayAwayFrom 52 = .ok (.aload_n 0, 1) := by decide +kernel
theorem dX1_bestDelayAwayFrom_53 : decode cX1_bestDelayAwayFrom 53 = .ok (.iload 8, 2) := by decide +kernel
theorem dX1_bestDelayAwayFrom_55 : decode cX1_bestDelayAwayFrom 55 = .ok (.invokevirtual 21, 3) := by decide +kernel
theorem dX1_bestDelayAwayFrom_58 : decode cX1_bestDelayAwayFrom 58 = .ok (.i2l, 1) := by decide +kernel
theorem dX1_bestDelayAwayFrom_59 : decode cX1_bestDelayAwayFrom 59 = .ok (.lstore 9, 2) := by decide +kernel
theorem dX1_bestDelayAwayFrom_61 : decode cX1_bestDelayAwayFrom 61 = .ok (.aload_n 0, 1) := by decide +kernel
theorem dX1_bestDelayAwayFrom_62 : decode cX1_bestDelayAwayFrom 62 = .ok (.iload 8, 2) := by decide +kernel
theorem dX1_bestDelayAwayFrom_64 : decode cX1_bestDelayAwayFrom 64 = .ok (.invokevirtual 25, 3) := by decide +kernel
theorem dX1_bestDelayAwayFrom_67 : decode cX1_bestDelayAwayFrom 67 = .ok (.i2l, 1) := by decide +kernel
theorem dX1_bestDelayAwayFrom_68 : decode cX1_bestDelayAwayFrom 68 = .ok (.lstore 11, 2) := by decide +kernel
theorem dX1_bestDelayAwayFrom_70 : decode cX1_bestDelayAwayFrom 70 = .ok (.lload 11, 2) := by decide +kernel
theorem dX1_bestDelayAwayFrom_72 : decode cX1_bestDelayAwayFrom 72 = .ok (.lconst 0, 1) := by decide +kernel
theorem dX1_bestDelayAwayFrom_73 : decode cX1_bestDelayAwayFrom 73 = .ok (.lcmp, 1) := by decide +kernel
theorem dX1_bestDelayAwayFrom_74 : decode cX1_bestDelayAwayFrom 74 = .ok (.ifCond .le 32, 3) := by decide +kernel
theorem dX1_bestDelayAwayFrom_77 : decode cX1_bestDelayAwayFrom 77 = .ok (.iload_n 2, 1) := by decide +kernel
theorem dX1_bestDelayAwayFrom_78 : decode cX1_bestDelayAwayFrom 78 = .ok (.bipush (-101), 2) := by decide +kernel
theorem dX1_bestDelayAwayFrom_80 : decode cX1_bestDelayAwayFrom 80 = .ok (.if_icmp .eq 16, 3) := by decide +kernel
theorem dX1_bestDelayAwayFrom_83 : decode cX1_bestDelayAwayFrom 83 = .ok (.lload 9, 2) := by decide +kernel
theorem dX1_bestDelayAwayFrom_85 : decode cX1_bestDelayAwayFrom 85 = .ok (.lload 5, 2) := by decide +kernel
theorem dX1_bestDelayAwayFrom_87 : decode cX1_bestDelayAwayFrom 87 = .ok (.lmul, 1) := by decide +kernel
theorem dX1_bestDelayAwayFrom_88 : decode cX1_bestDelayAwayFrom 88 = .ok (.lload_n 3, 1) := by decide +kernel
theorem dX1_bestDelayAwayFrom_89 : decode cX1_bestDelayAwayFrom 89 = .ok (.lload 11, 2) := by decide +kernel
theorem dX1_bestDelayAwayFrom_91 : decode cX1_bestDelayAwayFrom 91 = .ok (.lmul, 1) := by decide +kernel
theorem dX1_bestDelayAwayFrom_92 : decode cX1_bestDelayAwayFrom 92 = .ok (.lcmp, 1) := by decide +kernel
theorem dX1_bestDelayAwayFrom_93 : decode cX1_bestDelayAwayFrom 93 = .ok (.ifCond .le 13, 3) := by decide +kernel
theorem dX1_bestDelayAwayFrom_96 : decode cX1_bestDelayAwayFrom 96 = .ok (.iload 8, 2) := by decide +kernel
theorem dX1_bestDelayAwayFrom_98 : decode cX1_bestDelayAwayFrom 98 = .ok (.istore_n 2, 1) := by decide +kernel
theorem dX1_bestDelayAwayFrom_99 : decode cX1_bestDelayAwayFrom 99 = .ok (.lload 9, 2) := by decide +kernel
theorem dX1_bestDelayAwayFrom_101 : decode cX1_bestDelayAwayFrom 101 = .ok (.lstore_n 3, 1) := by decide +kernel
theorem dX1_bestDelayAwayFrom_102 : decode cX1_bestDelayAwayFrom 102 = .ok (.lload 11, 2) := by decide +kernel
theorem dX1_bestDelayAwayFrom_104 : decode cX1_bestDelayAwayFrom 104 = .ok (.lstore 5, 2) := by decide +kernel
theorem dX1_bestDelayAwayFrom_106 : decode cX1_bestDelayAwayFrom 106 = .ok (.iinc 7 1, 3) := by decide +kernel
theorem dX1_bestDelayAwayFrom_109 : decode cX1_bestDelayAwayFrom 109 = .ok (.goto (-98), 3) := by decide +kernel
theorem dX1_bestDelayAwayFrom_112 : decode cX1_bestDelayAwayFrom 112 = .ok (.iload_n 2, 1) := by decide +kernel
theorem dX1_bestDelayAwayFrom_113 : decode cX1_bestDelayAwayFrom 113 = .ok (.ireturn, 1) := by decide +kernel
set_option maxRecDepth 20000 in
theorem ggX1_sumAt_X1_isPair : GoodIn wsX1_sumAt wsX1_isPair := goodIn_r _ [6, 1, 7, 8, 9, 10, 11] (by decide +kernel) (by decide +kernel)
set_option maxRecDepth 20000 in
theorem gX1_sumAt_X1_isPair : GoodIn wsX1_sumAt (wsV RX1 55 RX1 yX1_isPair wsX1_isPair) := goodIn_app (goodIn_of _ (by decide +kernel)) ggX1_sumAt_X1_isPair
theorem dX1_sumAt_0 : decode cX1_sumAt 0 = .ok (.iconst 0, 1) := by decide +kernel
theorem dX1_sumAt_1 : decode cX1_sumAt 1 = .ok (.istore_n 2, 1) := by decide +kernel
theorem dX1_sumAt_2 : decode cX1_sumAt 2 = .ok (.iconst 0, 1) := by decide +kernel
theorem dX1_sumAt_3 : decode cX1_sumAt 3 = .ok (.istore_n 3, 1) := by decide +kernel
theorem dX1_sumAt_4 : decode cX1_sumAt 4 = .ok (.iload_n 3, 1) := by decide +kernel
theorem dX1_sumAt_5 : decode cX1_sumAt 5 = .ok (.bipush 64, 2) := by decide +kernel
theorem dX1_sumAt_7 : decode cX1_sumAt 7 = .ok (.if_icmp .ge 42, 3) := by decide +kernel
theorem dX1_sumAt_10 : decode cX1_sumAt 10 = .ok (.aload_n 0, 1) := by decide +kernel
theorem dX1_sumAt_11 : decode cX1_sumAt 11 = .ok (.iload_n 3, 1) := by decide +kernel
theorem dX1_sumAt_12 : decode cX1_sumAt 12 = .ok (.iload_n 3, 1) := by decide +kernel
theorem dX1_sumAt_13 : decode cX1_sumAt 13 = .ok (.iload_n 1, 1) := by decide +kernel
theorem dX1_sumAt_14 : decode cX1_sumAt 14 = .ok (.iadd, 1) := by decide +kernel
theorem dX1_sumAt_15 : decode cX1_sumAt 15 = .ok (.invokevirtual 55, 3) := by decide +kernel
theorem dX1_sumAt_18 : decode cX1_sumAt 18 = .ok (.ifCond .eq 25, 3) := by decide +kernel
theorem dX1_sumAt_21 : decode cX1_sumAt 21 = .ok (.iload_n 2, 1) := by decide +kernel
theorem dX1_sumAt_22 : decode cX1_sumAt 22 = .ok (.aload_n 0, 1) := by decide +kernel
theorem dX1_sumAt_23 : decode cX1_sumAt 23 = .ok (.getfield 13, 3) := by decide +kernel
theorem dX1_sumAt_26 : decode cX1_sumAt 26 = .ok (.iconst 0, 1) := by decide +kernel
theorem dX1_sumAt_27 : decode cX1_sumAt 27 = .ok (.aaload, 1) := by decide +kernel
theorem dX1_sumAt_28 : decode cX1_sumAt 28 = .ok (.iload_n 3, 1) := by decide +kernel
theorem dX1_sumAt_29 : decode cX1_sumAt 29 = .ok (.iaload, 1) := by decide +kernel
theorem dX1_sumAt_30 : decode cX1_sumAt 30 = .ok (.aload_n 0, 1) := by decide +kernel
theorem dX1_sumAt_31 : decode cX1_sumAt 31 = .ok (.getfield 13, 3) := by decide +kernel
theorem dX1_sumAt_34 : decode cX1_sumAt 34 = .ok (.iconst 1, 1) := by decide +kernel
theorem dX1_sumAt_35 : decode cX1_sumAt 35 = .ok (.aaload, 1) := by decide +kernel
theorem dX1_sumAt_36 : decode cX1_sumAt 36 = .ok (.iload_n 3, 1) := by decide +kernel
theorem dX1_sumAt_37 : decode cX1_sumAt 37 = .ok (.iload_n 1, 1) := by decide +kernel
theorem dX1_sumAt_38 : decode cX1_sumAt 38 = .ok (.iadd, 1) := by decide +kernel
theorem dX1_sumAt_39 : decode cX1_sumAt 39 = .ok (.iaload, 1) := by decide +kernel
theorem dX1_sumAt_40 : decode cX1_sumAt 40 = .ok (.imul, 1) := by decide +kernel
theorem dX1_sumAt_41 : decode cX1_sumAt 41 = .ok (.iadd, 1) := by decide +kernel
theorem dX1_sumAt_42 : decode cX1_sumAt 42 = .ok (.istore_n 2, 1) := by decide +kernel
theorem dX1_sumAt_43 : decode cX1_sumAt 43 = .ok (.iinc 3 1, 3) := by decide +kernel
theorem dX1_sumAt_46 : decode cX1_sumAt 46 = .ok (.goto (-42), 3) := by decide +kernel
theorem dX1_sumAt_49 : decode cX1_sumAt 49 = .ok (.iload_n 2, 1) := by decide +kernel
theorem dX1_sumAt_50 : decode cX1_sumAt 50 = .ok (.ireturn, 1) := by decide +kernel
set_option maxRecDepth 20000 in
theorem ggX1_pairsAt_X1_isPair : GoodIn wsX1_pairsAt wsX1_isPair := goodIn_r _ [5, 6, 7, 8, 9, 10, 11] (by decide +kernel) (by decide +kernel)
set_option maxRecDepth 20000 in
theorem gX1_pairsAt_X1_isPair : GoodIn wsX1_pairsAt (wsV RX1 55 RX1 yX1_isPair wsX1_isPair) := goodIn_app (goodIn_of _ (by decide +kernel)) ggX1_pairsAt_X1_isPair
theorem dX1_pairsAt_0 : decode cX1_pairsAt 0 = .ok (.iconst 0, 1) := by decide +kernel
theorem dX1_pairsAt_1 : decode cX1_pairsAt 1 = .ok (.istore_n 2, 1) := by decide +kernel
theorem dX1_pairsAt_2 : decode cX1_pairsAt 2 = .ok (.iconst 0, 1) := by decide +kernel
theorem dX1_pairsAt_3 : decode cX1_pairsAt 3 = .ok (.istore_n 3, 1) := by decide +kernel
theorem dX1_pairsAt_4 : decode cX1_pairsAt 4 = .ok (.iload_n 3, 1) := by decide +kernel
theorem dX1_pairsAt_5 : decode cX1_pairsAt 5 = .ok (.bipush 64, 2) := by decide +kernel
theorem dX1_pairsAt_7 : decode cX1_pairsAt 7 = .ok (.if_icmp .ge 23, 3) := by decide +kernel
theorem dX1_pairsAt_10 : decode cX1_pairsAt 10 = .ok (.aload_n 0, 1) := by decide +kernel
theorem dX1_pairsAt_11 : decode cX1_pairsAt 11 = .ok (.iload_n 3, 1) := by decide +kernel
theorem dX1_pairsAt_12 : decode cX1_pairsAt 12 = .ok (.iload_n 3, 1) := by decide +kernel
theorem dX1_pairsAt_13 : decode cX1_pairsAt 13 = .ok (.iload_n 1, 1) := by decide +kernel
theorem dX1_pairsAt_14 : decode cX1_pairsAt 14 = .ok (.iadd, 1) := by decide +kernel
theorem dX1_pairsAt_15 : decode cX1_pairsAt 15 = .ok (.invokevirtual 55, 3) := by decide +kernel
theorem dX1_pairsAt_18 : decode cX1_pairsAt 18 = .ok (.ifCond .eq 6, 3) := by decide +kernel
theorem dX1_pairsAt_21 : decode cX1_pairsAt 21 = .ok (.iinc 2 1, 3) := by decide +kernel
theorem dX1_pairsAt_24 : decode cX1_pairsAt 24 = .ok (.iinc 3 1, 3) := by decide +kernel
theorem dX1_pairsAt_27 : decode cX1_pairsAt 27 = .ok (.goto (-23), 3) := by decide +kernel
theorem dX1_pairsAt_30 : decode cX1_pairsAt 30 = .ok (.iload_n 2, 1) := by decide +kernel
theorem dX1_pairsAt_31 : decode cX1_pairsAt 31 = .ok (.ireturn, 1) := by decide +kernel
set_option maxRecDepth 20000 in
theorem ggX1_isPair_X6_outside : GoodIn wsX1_isPair wsX6_outside := goodIn_r _ [5] (by decide +kernel) (by decide +kernel)
set_option maxRecDepth 20000 in
theorem gX1_isPair_X6_outside_n16 : GoodIn wsX1_isPair (wsX6_outside) := ggX1_isPair_X6_outside
theorem dX1_isPair_0 : decode cX1_isPair 0 = .ok (.iload_n 1, 1) := by decide +kernel
theorem dX1_isPair_1 : decode cX1_isPair 1 = .ok (.iconst 0, 1) := by decide +kernel
theorem dX1_isPair_2 : decode cX1_isPair 2 = .ok (.bipush 63, 2) := by decide +kernel
theorem dX1_isPair_4 : decode cX1_isPair 4 = .ok (.invokestatic 16, 3) := by decide +kernel
theorem dX1_isPair_7 : decode cX1_isPair 7 = .ok (.ifCond .ne 43, 3) := by decide +kernel
theorem dX1_isPair_10 : decode cX1_isPair 10 = .ok (.iload_n 2, 1) := by decide +kernel
theorem dX1_isPair_11 : decode cX1_isPair 11 = .ok (.iconst 0, 1) := by decide +kernel
theorem dX1_isPair_12 : decode cX1_isPair 12 = .ok (.bipush 63, 2) := by decide +kernel
theorem dX1_isPair_14 : decode cX1_isPair 14 = .ok (.invokestatic 16, 3) := by decide +kernel
theorem dX1_isPair_17 : decode cX1_isPair 17 = .ok (.ifCond .ne 33, 3) := by decide +kernel
theorem dX1_isPair_20 : decode cX1_isPair 20 = .ok (.aload_n 0, 1) := by decide +kernel
theorem dX1_isPair_21 : decode cX1_isPair 21 = .ok (.getfield 13, 3) := by decide +kernel
theorem dX1_isPair_24 : decode cX1_isPair 24 = .ok (.iconst 0, 1) := by decide +kernel
theorem dX1_isPair_25 : decode cX1_isPair 25 = .ok (.aaload, 1) := by decide +kernel
theorem dX1_isPair_26 : decode cX1_isPair 26 = .ok (.iload_n 1, 1) := by decide +kernel
theorem dX1_isPair_27 : decode cX1_isPair 27 = .ok (.iaload, 1) := by decide +kernel
theorem dX1_isPair_28 : decode cX1_isPair 28 = .ok (.ldc 20, 2) := by decide +kernel
theorem dX1_isPair_30 : decode cX1_isPair 30 = .ok (.if_icmp .eq 20, 3) := by decide +kernel
theorem dX1_isPair_33 : decode cX1_isPair 33 = .ok (.aload_n 0, 1) := by decide +kernel
theorem dX1_isPair_34 : decode cX1_isPair 34 = .ok (.getfield 13, 3) := by decide +kernel
theorem dX1_isPair_37 : decode cX1_isPair 37 = .ok (.iconst 1, 1) := by decide +kernel
theorem dX1_isPair_38 : decode cX1_isPair 38 = .ok (.aaload, 1) := by decide +kernel
theorem dX1_isPair_39 : decode cX1_isPair 39 = .ok (.iload_n 2, 1) := by decide +kernel
theorem dX1_isPair_40 : decode cX1_isPair 40 = .ok (.iaload, 1) := by decide +kernel
theorem dX1_isPair_41 : decode cX1_isPair 41 = .ok (.ldc 20, 2) := by decide +kernel
theorem dX1_isPair_43 : decode cX1_isPair 43 = .ok (.if_icmp .eq 7, 3) := by decide +kernel
theorem dX1_isPair_46 : decode cX1_isPair 46 = .ok (.iconst 1, 1) := by decide +kernel
theorem dX1_isPair_47 : decode cX1_isPair 47 = .ok (.goto 4, 3) := by decide +kernel
theorem dX1_isPair_50 : decode cX1_isPair 50 = .ok (.iconst 0, 1) := by decide +kernel
theorem dX1_isPair_51 : decode cX1_isPair 51 = .ok (.ireturn, 1) := by decide +kernel
theorem dX1_onPipe_0 : decode cX1_onPipe 0 = .ok (.iconst 0, 1) := by decide +kernel
theorem dX1_onPipe_1 : decode cX1_onPipe 1 = .ok (.iconst 2, 1) := by decide +kernel
theorem dX1_onPipe_2 : decode cX1_onPipe 2 = .ok (.iload_n 1, 1) := by decide +kernel
theorem dX1_onPipe_3 : decode cX1_onPipe 3 = .ok (.imul, 1) := by decide +kernel
theorem dX1_onPipe_4 : decode cX1_onPipe 4 = .ok (.iload_n 0, 1) := by decide +kernel
theorem dX1_onPipe_5 : decode cX1_onPipe 5 = .ok (.invokestatic 40, 3) := by decide +kernel
theorem dX1_onPipe_8 : decode cX1_onPipe 8 = .ok (.invokestatic 45, 3) := by decide +kernel
theorem dX1_onPipe_11 : decode cX1_onPipe 11 = .ok (.ireturn, 1) := by decide +kernel
set_option maxRecDepth 20000 in
theorem ggX2_leakAt_X6_outside : GoodIn wsX2_leakAt wsX6_outside := goodIn_r _ [4] (by decide +kernel) (by decide +kernel)
set_option maxRecDepth 20000 in
theorem gX2_leakAt_X6_outside_n10 : GoodIn wsX2_leakAt (wsX6_outside) := ggX2_leakAt_X6_outside
set_option maxRecDepth 20000 in
theorem ggX2_leakAt_X2_pull : GoodIn wsX2_leakAt wsX2_pull := goodIn_r _ [8, 9, 10, 7, 11] (by decide +kernel) (by decide +kernel)
set_option maxRecDepth 20000 in
theorem gX2_leakAt_X2_pull : GoodIn wsX2_leakAt (va_wsS RX2 14 yX2_pull wsX2_pull) := goodIn_app (goodIn_of _ (by decide +kernel)) ggX2_leakAt_X2_pull
theorem dX2_leakAt_0 : decode cX2_leakAt 0 = .ok (.iload_n 0, 1) := by decide +kernel
theorem dX2_leakAt_1 : decode cX2_leakAt 1 = .ok (.iconst 0, 1) := by decide +kernel
theorem dX2_leakAt_2 : decode cX2_leakAt 2 = .ok (.ldc 9, 2) := by decide +kernel
theorem dX2_leakAt_4 : decode cX2_leakAt 4 = .ok (.invokestatic 10, 3) := by decide +kernel
theorem dX2_leakAt_7 : decode cX2_leakAt 7 = .ok (.ifCond .ne 23, 3) := by decide +kernel
theorem dX2_leakAt_10 : decode cX2_leakAt 10 = .ok (.iload_n 1, 1) := by decide +kernel
theorem dX2_leakAt_11 : decode cX2_leakAt 11 = .ok (.iconst 1, 1) := by decide +kernel
theorem dX2_leakAt_12 : decode cX2_leakAt 12 = .ok (.bipush 100, 2) := by decide +kernel
theorem dX2_leakAt_14 : decode cX2_leakAt 14 = .ok (.invokestatic 10, 3) := by decide +kernel
theorem dX2_leakAt_17 : decode cX2_leakAt 17 = .ok (.ifCond .ne 13, 3) := by decide +kernel
theorem dX2_leakAt_20 : decode cX2_leakAt 20 = .ok (.iload_n 2, 1) := by decide +kernel
theorem dX2_leakAt_21 : decode cX2_leakAt 21 = .ok (.iconst 1, 1) := by decide +kernel
theorem dX2_leakAt_22 : decode cX2_leakAt 22 = .ok (.bipush 100, 2) := by decide +kernel
theorem dX2_leakAt_24 : decode cX2_leakAt 24 = .ok (.invokestatic 10, 3) := by decide +kernel
theorem dX2_leakAt_27 : decode cX2_leakAt 27 = .ok (.ifCond .eq 6, 3) := by decide +kernel
theorem dX2_leakAt_30 : decode cX2_leakAt 30 = .ok (.bipush (-2), 2) := by decide +kernel
theorem dX2_leakAt_32 : decode cX2_leakAt 32 = .ok (.ireturn, 1) := by decide +kernel
theorem dX2_leakAt_33 : decode cX2_leakAt 33 = .ok (.iload_n 1, 1) := by decide +kernel
theorem dX2_leakAt_34 : decode cX2_leakAt 34 = .ok (.invokestatic 14, 3) := by decide +kernel
theorem dX2_leakAt_37 : decode cX2_leakAt 37 = .ok (.lstore_n 3, 1) := by decide +kernel
theorem dX2_leakAt_38 : decode cX2_leakAt 38 = .ok (.lload_n 3, 1) := by decide +kernel
theorem dX2_leakAt_39 : decode cX2_leakAt 39 = .ok (.lconst 0, 1) := by decide +kernel
theorem dX2_leakAt_40 : decode cX2_leakAt 40 = .ok (.lcmp, 1) := by decide +kernel
theorem dX2_leakAt_41 : decode cX2_leakAt 41 = .ok (.ifCond .gt 6, 3) := by decide +kernel
theorem dX2_leakAt_44 : decode cX2_leakAt 44 = .ok (.bipush (-2), 2) := by decide +kernel
theorem dX2_leakAt_46 : decode cX2_leakAt 46 = .ok (.ireturn, 1) := by decide +kernel
theorem dX2_leakAt_47 : decode cX2_leakAt 47 = .ok (.iload_n 0, 1) := by decide +kernel
theorem dX2_leakAt_48 : decode cX2_leakAt 48 = .ok (.i2l, 1) := by decide +kernel
theorem dX2_leakAt_49 : decode cX2_leakAt 49 = .ok (.iload_n 2, 1) := by decide +kernel
theorem dX2_leakAt_50 : decode cX2_leakAt 50 = .ok (.invokestatic 14, 3) := by decide +kernel
theorem dX2_leakAt_53 : decode cX2_leakAt 53 = .ok (.lmul, 1) := by decide +kernel
theorem dX2_leakAt_54 : decode cX2_leakAt 54 = .ok (.lload_n 3, 1) := by decide +kernel
theorem dX2_leakAt_55 : decode cX2_leakAt 55 = .ok (.ldiv, 1) := by decide +kernel
theorem dX2_leakAt_56 : decode cX2_leakAt 56 = .ok (.l2i, 1) := by decide +kernel
theorem dX2_leakAt_57 : decode cX2_leakAt 57 = .ok (.ireturn, 1) := by decide +kernel
set_option maxRecDepth 20000 in
theorem ggX2_pull_X2_rootOf : GoodIn wsX2_pull wsX2_rootOf := goodIn_r _ [4] (by decide +kernel) (by decide +kernel)
set_option maxRecDepth 20000 in
theorem gX2_pull_X2_rootOf : GoodIn wsX2_pull (va_wsS RX2 20 yX2_rootOf wsX2_rootOf) := goodIn_app (goodIn_of _ (by decide +kernel)) ggX2_pull_X2_rootOf
theorem dX2_pull_0 : decode cX2_pull 0 = .ok (.iload_n 0, 1) := by decide +kernel
theorem dX2_pull_1 : decode cX2_pull 1 = .ok (.i2l, 1) := by decide +kernel
theorem dX2_pull_2 : decode cX2_pull 2 = .ok (.sipush 10000, 3) := by decide +kernel
theorem dX2_pull_5 : decode cX2_pull 5 = .ok (.iload_n 0, 1) := by decide +kernel
theorem dX2_pull_6 : decode cX2_pull 6 = .ok (.imul, 1) := by decide +kernel
theorem dX2_pull_7 : decode cX2_pull 7 = .ok (.invokestatic 20, 3) := by decide +kernel
theorem dX2_pull_10 : decode cX2_pull 10 = .ok (.i2l, 1) := by decide +kernel
theorem dX2_pull_11 : decode cX2_pull 11 = .ok (.lmul, 1) := by decide +kernel
theorem dX2_pull_12 : decode cX2_pull 12 = .ok (.lreturn, 1) := by decide +kernel
theorem dX2_rootOf_0 : decode cX2_rootOf 0 = .ok (.iconst 0, 1) := by decide +kernel
theorem dX2_rootOf_1 : decode cX2_rootOf 1 = .ok (.istore_n 1, 1) := by decide +kernel
theorem dX2_rootOf_2 : decode cX2_rootOf 2 = .ok (.iload_n 1, 1) := by decide +kernel
theorem dX2_rootOf_3 : decode cX2_rootOf 3 = .ok (.sipush 1000, 3) := by decide +kernel
theorem dX2_rootOf_6 : decode cX2_rootOf 6 = .ok (.if_icmp .ge 20, 3) := by decide +kernel
theorem dX2_rootOf_9 : decode cX2_rootOf 9 = .ok (.iload_n 1, 1) := by decide +kernel
theorem dX2_rootOf_10 : decode cX2_rootOf 10 = .ok (.iconst 1, 1) := by decide +kernel
theorem dX2_rootOf_11 : decode cX2_rootOf 11 = .ok (.iadd, 1) := by decide +kernel
theorem dX2_rootOf_12 : decode cX2_rootOf 12 = .ok (.iload_n 1, 1) := by decide +kernel
theorem dX2_rootOf_13 : decode cX2_rootOf 13 = .ok (.iconst 1, 1) := by decide +kernel
theorem dX2_rootOf_14 : decode cX2_rootOf 14 = .ok (.iadd, 1) := by decide +kernel
theorem dX2_rootOf_15 : decode cX2_rootOf 15 = .ok (.imul, 1) := by decide +kernel
theorem dX2_rootOf_16 : decode cX2_rootOf 16 = .ok (.iload_n 0, 1) := by decide +kernel
theorem dX2_rootOf_17 : decode cX2_rootOf 17 = .ok (.if_icmp .gt 9, 3) := by decide +kernel
theorem dX2_rootOf_20 : decode cX2_rootOf 20 = .ok (.iinc 1 1, 3) := by decide +kernel
theorem dX2_rootOf_23 : decode cX2_rootOf 23 = .ok (.goto (-21), 3) := by decide +kernel
theorem dX2_rootOf_26 : decode cX2_rootOf 26 = .ok (.iload_n 1, 1) := by decide +kernel
theorem dX2_rootOf_27 : decode cX2_rootOf 27 = .ok (.ireturn, 1) := by decide +kernel
set_option maxRecDepth 20000 in
theorem ggX3_init_X3_planAll : GoodIn wsX3_init wsX3_planAll := goodIn_r _ [14, 6, 8, 9, 5, 15, 16, 17, 13, 18, 19, 20, 21, 22, 23, 24, 25, 26] (by decide +kernel) (by decide +kernel)
set_option maxRecDepth 20000 in
theorem gX3_init_X3_planAll : GoodIn wsX3_init (wsV RX3 27 RX3 yX3_planAll wsX3_planAll) := goodIn_app (goodIn_of _ (by decide +kernel)) ggX3_init_X3_planAll
theorem dX3_init_0 : decode cX3_init 0 = .ok (.aload_n 0, 1) := by decide +kernel
theorem dX3_init_1 : decode cX3_init 1 = .ok (.invokespecial 3, 3) := by decide +kernel
theorem dX3_init_4 : decode cX3_init 4 = .ok (.aload_n 0, 1) := by decide +kernel
theorem dX3_init_5 : decode cX3_init 5 = .ok (.bipush 12, 2) := by decide +kernel
theorem dX3_init_7 : decode cX3_init 7 = .ok (.newarray .int, 2) := by decide +kernel
theorem dX3_init_9 : decode cX3_init 9 = .ok (.putfield 11, 3) := by decide +kernel
theorem dX3_init_12 : decode cX3_init 12 = .ok (.aload_n 0, 1) := by decide +kernel
theorem dX3_init_13 : decode cX3_init 13 = .ok (.iconst 1, 1) := by decide +kernel
theorem dX3_init_14 : decode cX3_init 14 = .ok (.putfield 15, 3) := by decide +kernel
theorem dX3_init_17 : decode cX3_init 17 = .ok (.aload_n 0, 1) := by decide +kernel
theorem dX3_init_18 : decode cX3_init 18 = .ok (.bipush 12, 2) := by decide +kernel
theorem dX3_init_20 : decode cX3_init 20 = .ok (.bipush 12, 2) := by decide +kernel
theorem dX3_init_22 : decode cX3_init 22 = .ok (.multianewarray 19 2, 4) := by decide +kernel
theorem dX3_init_26 : decode cX3_init 26 = .ok (.putfield 21, 3) := by decide +kernel
theorem dX3_init_29 : decode cX3_init 29 = .ok (.aload_n 0, 1) := by decide +kernel
theorem dX3_init_30 : decode cX3_init 30 = .ok (.bipush 12, 2) := by decide +kernel
theorem dX3_init_32 : decode cX3_init 32 = .ok (.bipush 12, 2) := by decide +kernel
theorem dX3_init_34 : decode cX3_init 34 = .ok (.multianewarray 19 2, 4) := by decide +kernel
theorem dX3_init_38 : decode cX3_init 38 = .ok (.putfield 24, 3) := by decide +kernel
theorem dX3_init_41 : decode cX3_init 41 = .ok (.aload_n 0, 1) := by decide +kernel
theorem dX3_init_42 : decode cX3_init 42 = .ok (.invokevirtual 27, 3) := by decide +kernel
theorem dX3_init_45 : decode cX3_init 45 = .ok (.return_, 1) := by decide +kernel
theorem dX3_number_0 : decode cX3_number 0 = .ok (.aload_n 0, 1) := by decide +kernel
theorem dX3_number_1 : decode cX3_number 1 = .ok (.getfield 15, 3) := by decide +kernel
theorem dX3_number_4 : decode cX3_number 4 = .ok (.ireturn, 1) := by decide +kernel
set_option maxRecDepth 20000 in
theorem ggX3_setWeight_X6_outside : GoodIn wsX3_setWeight wsX6_outside := goodIn_r _ [5] (by decide +kernel) (by decide +kernel)
set_option maxRecDepth 20000 in
theorem gX3_setWeight_X6_outside_n30 : GoodIn wsX3_setWeight (wsX6_outside) := ggX3_setWeight_X6_outside
set_option maxRecDepth 20000 in
theorem ggX3_setWeight_X3_planAll : GoodIn wsX3_setWeight wsX3_planAll := goodIn_r _ [10, 1, 11, 12, 2, 13, 14, 15, 9, 16, 17, 18, 19, 20, 21, 22, 23, 24] (by decide +kernel) (by decide +kernel)
set_option maxRecDepth 20000 in
theorem gX3_setWeight_X3_planAll : GoodIn wsX3_setWeight (wsV RX3 27 RX3 yX3_planAll wsX3_planAll) := goodIn_app (goodIn_of _ (by decide +kernel)) ggX3_setWeight_X3_planAll
theorem dX3_setWeight_0 : decode cX3_setWeight 0 = .ok (.iload_n 1, 1) := by decide +kernel
theorem dX3_setWeight_1 : decode cX3_setWeight 1 = .ok (.iconst 1, 1) := by decide +kernel
theorem dX3_setWeight_2 : decode cX3_setWeight 2 = .ok (.bipush 12, 2) := by decide +kernel
theorem dX3_setWeight_4 : decode cX3_setWeight 4 = .ok (.invokestatic 30, 3) := by decide +kernel
theorem dX3_setWeight_7 : decode cX3_setWeight 7 = .ok (.ifCond .ne 25, 3) := by decide +kernel
theorem dX3_setWeight_10 : decode cX3_setWeight 10 = .ok (.iload_n 2, 1) := by decide +kernel
theorem dX3_setWeight_11 : decode cX3_setWeight 11 = .ok (.iconst 0, 1) := by decide +kernel
theorem dX3_setWeight_12 : decode cX3_setWeight 12 = .ok (.iload_n 1, 1) := by decide +kernel
theorem dX3_setWeight_13 : decode cX3_setWeight 13 = .ok (.iconst 1, 1) := by decide +kernel
theorem dX3_setWeight_14 : decode cX3_setWeight 14 = .ok (.isub, 1) := by decide +kernel
theorem dX3_setWeight_15 : decode cX3_setWeight 15 = .ok (.invokestatic 30, 3) := by decide +kernel
theorem dX3_setWeight_18 : decode cX3_setWeight 18 = .ok (.ifCond .ne 14, 3) := by decide +kernel
theorem dX3_setWeight_21 : decode cX3_setWeight 21 = .ok (.iload_n 3, 1) := by decide +kernel
theorem dX3_setWeight_22 : decode cX3_setWeight 22 = .ok (.iconst 0, 1) := by decide +kernel
theorem dX3_setWeight_23 : decode cX3_setWeight 23 = .ok (.sipush 1000, 3) := by decide +kernel
theorem dX3_setWeight_26 : decode cX3_setWeight 26 = .ok (.invokestatic 30, 3) := by decide +kernel
theorem dX3_setWeight_29 : decode cX3_setWeight 29 = .ok (.ifCond .eq 6, 3) := by decide +kernel
theorem dX3_setWeight_32 : decode cX3_setWeight 32 = .ok (.bipush (-2), 2) := by decide +kernel
theorem dX3_setWeight_34 : decode cX3_setWeight 34 = .ok (.ireturn, 1) := by decide +kernel
theorem dX3_setWeight_35 : decode cX3_setWeight 35 = .ok (.iload_n 1, 1) := by decide +kernel
theorem dX3_setWeight_36 : decode cX3_setWeight 36 = .ok (.istore 4, 2) := by decide +kernel
theorem dX3_setWeight_38 : decode cX3_setWeight 38 = .ok (.iload 4, 2) := by decide +kernel
theorem dX3_setWeight_40 : decode cX3_setWeight 40 = .ok (.aload_n 0, 1) := by decide +kernel
theorem dX3_setWeight_41 : decode cX3_setWeight 41 = .ok (.getfield 15, 3) := by decide +kernel
theorem dX3_setWeight_44 : decode cX3_setWeight 44 = .ok (.if_icmp .ge 17, 3) := by decide +kernel
theorem dX3_setWeight_47 : decode cX3_setWeight 47 = .ok (.aload_n 0, 1) := by decide +kernel
theorem dX3_setWeight_48 : decode cX3_setWeight 48 = .ok (.getfield 11, 3) := by decide +kernel
theorem dX3_setWeight_51 : decode cX3_setWeight 51 = .ok (.iload 4, 2) := by decide +kernel
theorem dX3_setWeight_53 : decode cX3_setWeight 53 = .ok (.iconst 0, 1) := by decide +kernel
theorem dX3_setWeight_54 : decode cX3_setWeight 54 = .ok (.iastore, 1) := by decide +kernel
theorem dX3_setWeight_55 : decode cX3_setWeight 55 = .ok (.iinc 4 1, 3) := by decide +kernel
theorem dX3_setWeight_58 : decode cX3_setWeight 58 = .ok (.goto (-20), 3) := by decide +kernel
theorem dX3_setWeight_61 : decode cX3_setWeight 61 = .ok (.aload_n 0, 1) := by decide +kernel
theorem dX3_setWeight_62 : decode cX3_setWeight 62 = .ok (.iload_n 1, 1) := by decide +kernel
theorem dX3_setWeight_63 : decode cX3_setWeight 63 = .ok (.putfield 15, 3) := by decide +kernel
theorem dX3_setWeight_66 : decode cX3_setWeight 66 = .ok (.aload_n 0, 1) := by decide +kernel
theorem dX3_setWeight_67 : decode cX3_setWeight 67 = .ok (.getfield 11, 3) := by decide +kernel
theorem dX3_setWeight_70 : decode cX3_setWeight 70 = .ok (.iload_n 2, 1) := by decide +kernel
theorem dX3_setWeight_71 : decode cX3_setWeight 71 = .ok (.iaload, 1) := by decide +kernel
theorem dX3_setWeight_72 : decode cX3_setWeight 72 = .ok (.istore 4, 2) := by decide +kernel
theorem dX3_setWeight_74 : decode cX3_setWeight 74 = .ok (.aload_n 0, 1) := by decide +kernel
theorem dX3_setWeight_75 : decode cX3_setWeight 75 = .ok (.getfield 11, 3) := by decide +kernel
theorem dX3_setWeight_78 : decode cX3_setWeight 78 = .ok (.iload_n 2, 1) := by decide +kernel
theorem dX3_setWeight_79 : decode cX3_setWeight 79 = .ok (.iload_n 3, 1) := by decide +kernel
theorem dX3_setWeight_80 : decode cX3_setWeight 80 = .ok (.iastore, 1) := by decide +kernel
theorem dX3_setWeight_81 : decode cX3_setWeight 81 = .ok (.aload_n 0, 1) := by decide +kernel
theorem dX3_setWeight_82 : decode cX3_setWeight 82 = .ok (.invokevirtual 27, 3) := by decide +kernel
theorem dX3_setWeight_85 : decode cX3_setWeight 85 = .ok (.iload 4, 2) := by decide +kernel
theorem dX3_setWeight_87 : decode cX3_setWeight 87 = .ok (.ireturn, 1) := by decide +kernel
set_option maxRecDepth 20000 in
theorem ggX3_planCost_X3_isNoStretch : GoodIn wsX3_planCost wsX3_isNoStretch := goodIn_r _ [6, 7, 8, 9, 10, 11, 12, 13, 14] (by decide +kernel) (by decide +kernel)
set_option maxRecDepth 20000 in
theorem gX3_planCost_X3_isNoStretch : GoodIn wsX3_planCost (wsV RX3 34 RX3 yX3_isNoStretch wsX3_isNoStretch) := goodIn_app (goodIn_of _ (by decide +kernel)) ggX3_planCost_X3_isNoStretch
theorem dX3_planCost_0 : decode cX3_planCost 0 = .ok (.aload_n 0, 1) := by decide +kernel
theorem dX3_planCost_1 : decode cX3_planCost 1 = .ok (.iload_n 1, 1) := by decide +kernel
theorem dX3_planCost_2 : decode cX3_planCost 2 = .ok (.iload_n 2, 1) := by decide +kernel
theorem dX3_planCost_3 : decode cX3_planCost 3 = .ok (.invokevirtual 34, 3) := by decide +kernel
theorem dX3_planCost_6 : decode cX3_planCost 6 = .ok (.ifCond .eq 8, 3) := by decide +kernel
theorem dX3_planCost_9 : decode cX3_planCost 9 = .ok (.bipush (-2), 2) := by decide +kernel
theorem dX3_planCost_11 : decode cX3_planCost 11 = .ok (.goto 11, 3) := by decide +kernel
theorem dX3_planCost_14 : decode cX3_planCost 14 = .ok (.aload_n 0, 1) := by decide +kernel
theorem dX3_planCost_15 : decode cX3_planCost 15 = .ok (.getfield 21, 3) := by decide +kernel
theorem dX3_planCost_18 : decode cX3_planCost 18 = .ok (.iload_n 1, 1) := by decide +kernel
theorem dX3_planCost_19 : decode cX3_planCost 19 = .ok (.aaload, 1) := by decide +kernel
theorem dX3_planCost_20 : decode cX3_planCost 20 = .ok (.iload_n 2, 1) := by decide +kernel
theorem dX3_planCost_21 : decode cX3_planCost 21 = .ok (.iaload, 1) := by decide +kernel
theorem dX3_planCost_22 : decode cX3_planCost 22 = .ok (.ireturn, 1) := by decide +kernel
set_option maxRecDepth 20000 in
theorem ggX3_planStart_X3_isNoStretch : GoodIn wsX3_planStart wsX3_isNoStretch := goodIn_r _ [6, 7, 8, 9, 10, 11, 12, 13, 14] (by decide +kernel) (by decide +kernel)
set_option maxRecDepth 20000 in
theorem gX3_planStart_X3_isNoStretch : GoodIn wsX3_planStart (wsV RX3 34 RX3 yX3_isNoStretch wsX3_isNoStretch) := goodIn_app (goodIn_of _ (by decide +kernel)) ggX3_planStart_X3_isNoStretch
theorem dX3_planStart_0 : decode cX3_planStart 0 = .ok (.aload_n 0, 1) := by decide +kernel
theorem dX3_planStart_1 : decode cX3_planStart 1 = .ok (.iload_n 1, 1) := by decide +kernel
theorem dX3_planStart_2 : decode cX3_planStart 2 = .ok (.iload_n 2, 1) := by decide +kernel
theorem dX3_planStart_3 : decode cX3_planStart 3 = .ok (.invokevirtual 34, 3) := by decide +kernel
theorem dX3_planStart_6 : decode cX3_planStart 6 = .ok (.ifCond .eq 8, 3) := by decide +kernel
theorem dX3_planStart_9 : decode cX3_planStart 9 = .ok (.bipush (-2), 2) := by decide +kernel
theorem dX3_planStart_11 : decode cX3_planStart 11 = .ok (.goto 11, 3) := by decide +kernel
theorem dX3_planStart_14 : decode cX3_planStart 14 = .ok (.aload_n 0, 1) := by decide +kernel
theorem dX3_planStart_15 : decode cX3_planStart 15 = .ok (.getfield 24, 3) := by decide +kernel
theorem dX3_planStart_18 : decode cX3_planStart 18 = .ok (.iload_n 1, 1) := by decide +kernel
theorem dX3_planStart_19 : decode cX3_planStart 19 = .ok (.aaload, 1) := by decide +kernel
theorem dX3_planStart_20 : decode cX3_planStart 20 = .ok (.iload_n 2, 1) := by decide +kernel
theorem dX3_planStart_21 : decode cX3_planStart 21 = .ok (.iaload, 1) := by decide +kernel
theorem dX3_planStart_22 : decode cX3_planStart 22 = .ok (.ireturn, 1) := by decide +kernel
set_option maxRecDepth 20000 in
theorem ggX3_closingsFor_X6_outside : GoodIn wsX3_closingsFor wsX6_outside := goodIn_r _ [5] (by decide +kernel) (by decide +kernel)
set_option maxRecDepth 20000 in
theorem gX3_closingsFor_X6_outside_n30 : GoodIn wsX3_closingsFor (wsX6_outside) := ggX3_closingsFor_X6_outside
theorem dX3_closingsFor_0 : decode cX3_closingsFor 0 = .ok (.iload_n 1, 1) := by decide +kernel
theorem dX3_closingsFor_1 : decode cX3_closingsFor 1 = .ok (.iconst 0, 1) := by decide +kernel
theorem dX3_closingsFor_2 : decode cX3_closingsFor 2 = .ok (.aload_n 0, 1) := by decide +kernel
theorem dX3_closingsFor_3 : decode cX3_closingsFor 3 = .ok (.getfield 15, 3) := by decide +kernel
theorem dX3_closingsFor_6 : decode cX3_closingsFor 6 = .ok (.iconst 1, 1) := by decide +kernel
theorem dX3_closingsFor_7 : decode cX3_closingsFor 7 = .ok (.isub, 1) := by decide +kernel
theorem dX3_closingsFor_8 : decode cX3_closingsFor 8 = .ok (.invokestatic 30, 3) := by decide +kernel
theorem dX3_closingsFor_11 : decode cX3_closingsFor 11 = .ok (.ifCond .eq 6, 3) := by decide +kernel
theorem dX3_closingsFor_14 : decode cX3_closingsFor 14 = .ok (.bipush (-2), 2) := by decide +kernel
theorem dX3_closingsFor_16 : decode cX3_closingsFor 16 = .ok (.ireturn, 1) := by decide +kernel
theorem dX3_closingsFor_17 : decode cX3_closingsFor 17 = .ok (.iconst 0, 1) := by decide +kernel
theorem dX3_closingsFor_18 : decode cX3_closingsFor 18 = .ok (.istore_n 2, 1) := by decide +kernel
theorem dX3_closingsFor_19 : decode cX3_closingsFor 19 = .ok (.aload_n 0, 1) := by decide +kernel
theorem dX3_closingsFor_20 : decode cX3_closingsFor 20 = .ok (.getfield 15, 3) := by decide +kernel
theorem dX3_closingsFor_23 : decode cX3_closingsFor 23 = .ok (.iconst 1, 1) := by decide +kernel
theorem dX3_closingsFor_24 : decode cX3_closingsFor 24 = .ok (.isub, 1) := by decide +kernel
theorem dX3_closingsFor_25 : decode cX3_closingsFor 25 = .ok (.istore_n 3, 1) := by decide +kernel
theorem dX3_closingsFor_26 : decode cX3_closingsFor 26 = .ok (.iconst 0, 1) := by decide +kernel
theorem dX3_closingsFor_27 : decode cX3_closingsFor 27 = .ok (.istore 4, 2) := by decide +kernel
theorem dX3_closingsFor_29 : decode cX3_closingsFor 29 = .ok (.iload_n 2, 1) := by decide +kernel
theorem dX3_closingsFor_30 : decode cX3_closingsFor 30 = .ok (.iload_n 3, 1) := by decide +kernel
theorem dX3_closingsFor_31 : decode cX3_closingsFor 31 = .ok (.if_icmp .ge 43, 3) := by decide +kernel
theorem dX3_closingsFor_34 : decode cX3_closingsFor 34 = .ok (.iload 4, 2) := by decide +kernel
theorem dX3_closingsFor_36 : decode cX3_closingsFor 36 = .ok (.bipush 12, 2) := by decide +kernel
theorem dX3_closingsFor_38 : decode cX3_closingsFor 38 = .ok (.if_icmp .ge 36, 3) := by decide +kernel
theorem dX3_closingsFor_41 : decode cX3_closingsFor 41 = .ok (.aload_n 0, 1) := by decide +kernel
theorem dX3_closingsFor_42 : decode cX3_closingsFor 42 = .ok (.getfield 24, 3) := by decide +kernel
theorem dX3_closingsFor_45 : decode cX3_closingsFor 45 = .ok (.iload_n 2, 1) := by decide +kernel
theorem dX3_closingsFor_46 : decode cX3_closingsFor 46 = .ok (.aaload, 1) := by decide +kernel
theorem dX3_closingsFor_47 : decode cX3_closingsFor 47 = .ok (.iload_n 3, 1) := by decide +kernel
theorem dX3_closingsFor_48 : decode cX3_closingsFor 48 = .ok (.iaload, 1) := by decide +kernel
theorem dX3_closingsFor_49 : decode cX3_closingsFor 49 = .ok (.istore 5, 2) := by decide +kernel
theorem dX3_closingsFor_51 : decode cX3_closingsFor 51 = .ok (.iload_n 1, 1) := by decide +kernel
theorem dX3_closingsFor_52 : decode cX3_closingsFor 52 = .ok (.iload 5, 2) := by decide +kernel
theorem dX3_closingsFor_54 : decode cX3_closingsFor 54 = .ok (.if_icmp .ge 11, 3) := by decide +kernel
theorem dX3_closingsFor_57 : decode cX3_closingsFor 57 = .ok (.iload 5, 2) := by decide +kernel
theorem dX3_closingsFor_59 : decode cX3_closingsFor 59 = .ok (.iconst 1, 1) := by decide +kernel
theorem dX3_closingsFor_60 : decode cX3_closingsFor 60 = .ok (.isub, 1) := by decide +kernel
theorem dX3_closingsFor_61 : decode cX3_closingsFor 61 = .ok (.istore_n 3, 1) := by decide +kernel
theorem dX3_closingsFor_62 : decode cX3_closingsFor 62 = .ok (.goto 6, 3) := by decide +kernel
theorem dX3_closingsFor_65 : decode cX3_closingsFor 65 = .ok (.iload 5, 2) := by decide +kernel
theorem dX3_closingsFor_67 : decode cX3_closingsFor 67 = .ok (.istore_n 2, 1) := by decide +kernel
theorem dX3_closingsFor_68 : decode cX3_closingsFor 68 = .ok (.iinc 4 1, 3) := by decide +kernel
theorem dX3_closingsFor_71 : decode cX3_closingsFor 71 = .ok (.goto (-42), 3) := by decide +kernel
theorem dX3_closingsFor_74 : decode cX3_closingsFor 74 = .ok (.iload 4, 2) := by decide +kernel
theorem dX3_closingsFor_76 : decode cX3_closingsFor 76 = .ok (.ireturn, 1) := by decide +kernel
set_option maxRecDepth 20000 in
theorem ggX3_mixInto_X6_mix : GoodIn wsX3_mixInto wsX6_mix := goodIn_r _ [5, 6] (by decide +kernel) (by decide +kernel)
set_option maxRecDepth 20000 in
theorem gX3_mixInto_X6_mix_n38 : GoodIn wsX3_mixInto (wsX6_mix) := ggX3_mixInto_X6_mix
theorem dX3_mixInto_0 : decode cX3_mixInto 0 = .ok (.lload_n 1, 1) := by decide +kernel
theorem dX3_mixInto_1 : decode cX3_mixInto 1 = .ok (.lstore_n 3, 1) := by decide +kernel
theorem dX3_mixInto_2 : decode cX3_mixInto 2 = .ok (.iconst 0, 1) := by decide +kernel
theorem dX3_mixInto_3 : decode cX3_mixInto 3 = .ok (.istore 5, 2) := by decide +kernel
theorem dX3_mixInto_5 : decode cX3_mixInto 5 = .ok (.iload 5, 2) := by decide +kernel
theorem dX3_mixInto_7 : decode cX3_mixInto 7 = .ok (.aload_n 0, 1) := by decide +kernel
theorem dX3_mixInto_8 : decode cX3_mixInto 8 = .ok (.getfield 15, 3) := by decide +kernel
theorem dX3_mixInto_11 : decode cX3_mixInto 11 = .ok (.if_icmp .ge 21, 3) := by decide +kernel
theorem dX3_mixInto_14 : decode cX3_mixInto 14 = .ok (.lload_n 3, 1) := by decide +kernel
theorem dX3_mixInto_15 : decode cX3_mixInto 15 = .ok (.aload_n 0, 1) := by decide +kernel
theorem dX3_mixInto_16 : decode cX3_mixInto 16 = .ok (.getfield 11, 3) := by decide +kernel
theorem dX3_mixInto_19 : decode cX3_mixInto 19 = .ok (.iload 5, 2) := by decide +kernel
theorem dX3_mixInto_21 : decode cX3_mixInto 21 = .ok (.iaload, 1) := by decide +kernel
theorem dX3_mixInto_22 : decode cX3_mixInto 22 = .ok (.invokestatic 38, 3) := by decide +kernel
theorem dX3_mixInto_25 : decode cX3_mixInto 25 = .ok (.lstore_n 3, 1) := by decide +kernel
theorem dX3_mixInto_26 : decode cX3_mixInto 26 = .ok (.iinc 5 1, 3) := by decide +kernel
theorem dX3_mixInto_29 : decode cX3_mixInto 29 = .ok (.goto (-24), 3) := by decide +kernel
theorem dX3_mixInto_32 : decode cX3_mixInto 32 = .ok (.lload_n 3, 1) := by decide +kernel
theorem dX3_mixInto_33 : decode cX3_mixInto 33 = .ok (.lreturn, 1) := by decide +kernel
set_option maxRecDepth 20000 in
theorem ggX3_isNoStretch_X6_outside : GoodIn wsX3_isNoStretch wsX6_outside := goodIn_r _ [4] (by decide +kernel) (by decide +kernel)
set_option maxRecDepth 20000 in
theorem gX3_isNoStretch_X6_outside_n30 : GoodIn wsX3_isNoStretch (wsX6_outside) := ggX3_isNoStretch_X6_outside
theorem dX3_isNoStretch_0 : decode cX3_isNoStretch 0 = .ok (.iload_n 2, 1) := by decide +kernel
theorem dX3_isNoStretch_1 : decode cX3_isNoStretch 1 = .ok (.iconst 0, 1) := by decide +kernel
theorem dX3_isNoStretch_2 : decode cX3_isNoStretch 2 = .ok (.aload_n 0, 1) := by decide +kernel
theorem dX3_isNoStretch_3 : decode cX3_isNoStretch 3 = .ok (.getfield 15, 3) := by decide +kernel
theorem dX3_isNoStretch_6 : decode cX3_isNoStretch 6 = .ok (.iconst 1, 1) := by decide +kernel
theorem dX3_isNoStretch_7 : decode cX3_isNoStretch 7 = .ok (.isub, 1) := by decide +kernel
theorem dX3_isNoStretch_8 : decode cX3_isNoStretch 8 = .ok (.invokestatic 30, 3) := by decide +kernel
theorem dX3_isNoStretch_11 : decode cX3_isNoStretch 11 = .ok (.ifCond .ne 12, 3) := by decide +kernel
theorem dX3_isNoStretch_14 : decode cX3_isNoStretch 14 = .ok (.iload_n 1, 1) := by decide +kernel
theorem dX3_isNoStretch_15 : decode cX3_isNoStretch 15 = .ok (.iconst 0, 1) := by decide +kernel
theorem dX3_isNoStretch_16 : decode cX3_isNoStretch 16 = .ok (.iload_n 2, 1) := by decide +kernel
theorem dX3_isNoStretch_17 : decode cX3_isNoStretch 17 = .ok (.invokestatic 30, 3) := by decide +kernel
theorem dX3_isNoStretch_20 : decode cX3_isNoStretch 20 = .ok (.ifCond .eq 7, 3) := by decide +kernel
theorem dX3_isNoStretch_23 : decode cX3_isNoStretch 23 = .ok (.iconst 1, 1) := by decide +kernel
theorem dX3_isNoStretch_24 : decode cX3_isNoStretch 24 = .ok (.goto 4, 3) := by decide +kernel
theorem dX3_isNoStretch_27 : decode cX3_isNoStretch 27 = .ok (.iconst 0, 1) := by decide +kernel
theorem dX3_isNoStretch_28 : decode cX3_isNoStretch 28 = .ok (.ireturn, 1) := by decide +kernel
set_option maxRecDepth 20000 in
theorem ggX3_planAll_X3_planStretch : GoodIn wsX3_planAll wsX3_planStretch := goodIn_r _ [9, 3, 2, 10, 11, 12, 8, 13, 14, 15, 16, 17] (by decide +kernel) (by decide +kernel)
set_option maxRecDepth 20000 in
theorem gX3_planAll_X3_planStretch : GoodIn wsX3_planAll (wsV RX3 42 RX3 yX3_planStretch wsX3_planStretch) := goodIn_app (goodIn_of _ (by decide +kernel)) ggX3_planAll_X3_planStretch
theorem dX3_planAll_0 : decode cX3_planAll 0 = .ok (.aload_n 0, 1) := by decide +kernel
theorem dX3_planAll_1 : decode cX3_planAll 1 = .ok (.getfield 15, 3) := by decide +kernel
theorem dX3_planAll_4 : decode cX3_planAll 4 = .ok (.iconst 1, 1) := by decide +kernel
theorem dX3_planAll_5 : decode cX3_planAll 5 = .ok (.isub, 1) := by decide +kernel
theorem dX3_planAll_6 : decode cX3_planAll 6 = .ok (.istore_n 1, 1) := by decide +kernel
theorem dX3_planAll_7 : decode cX3_planAll 7 = .ok (.iload_n 1, 1) := by decide +kernel
theorem dX3_planAll_8 : decode cX3_planAll 8 = .ok (.ifCond .lt 68, 3) := by decide +kernel
theorem dX3_planAll_11 : decode cX3_planAll 11 = .ok (.aload_n 0, 1) := by decide +kernel
theorem dX3_planAll_12 : decode cX3_planAll 12 = .ok (.getfield 21, 3) := by decide +kernel
theorem dX3_planAll_15 : decode cX3_planAll 15 = .ok (.iload_n 1, 1) := by decide +kernel
theorem dX3_planAll_16 : decode cX3_planAll 16 = .ok (.aaload, 1) := by decide +kernel
theorem dX3_planAll_17 : decode cX3_planAll 17 = .ok (.iload_n 1, 1) := by decide +kernel
theorem dX3_planAll_18 : decode cX3_planAll 18 = .ok (.iconst 0, 1) := by decide +kernel
theorem dX3_planAll_19 : decode cX3_planAll 19 = .ok (.iastore, 1) := by decide +kernel
theorem dX3_planAll_20 : decode cX3_planAll 20 = .ok (.aload_n 0, 1) := by decide +kernel
theorem dX3_planAll_21 : decode cX3_planAll 21 = .ok (.getfield 24, 3) := by decide +kernel
theorem dX3_planAll_24 : decode cX3_planAll 24 = .ok (.iload_n 1, 1) := by decide +kernel
theorem dX3_planAll_25 : decode cX3_planAll 25 = .ok (.aaload, 1) := by decide +kernel
theorem dX3_planAll_26 : decode cX3_planAll 26 = .ok (.iload_n 1, 1) := by decide +kernel
theorem dX3_planAll_27 : decode cX3_planAll 27 = .ok (.iconst (-1), 1) := by decide +kernel
theorem dX3_planAll_28 : decode cX3_planAll 28 = .ok (.iastore, 1) := by decide +kernel
theorem dX3_planAll_29 : decode cX3_planAll 29 = .ok (.aload_n 0, 1) := by decide +kernel
theorem dX3_planAll_30 : decode cX3_planAll 30 = .ok (.getfield 11, 3) := by decide +kernel
theorem dX3_planAll_33 : decode cX3_planAll 33 = .ok (.iload_n 1, 1) := by decide +kernel
theorem dX3_planAll_34 : decode cX3_planAll 34 = .ok (.iaload, 1) := by decide +kernel
theorem dX3_planAll_35 : decode cX3_planAll 35 = .ok (.istore_n 2, 1) := by decide +kernel
theorem dX3_planAll_36 : decode cX3_planAll 36 = .ok (.iload_n 1, 1) := by decide +kernel
theorem dX3_planAll_37 : decode cX3_planAll 37 = .ok (.iconst 1, 1) := by decide +kernel
theorem dX3_planAll_38 : decode cX3_planAll 38 = .ok (.iadd, 1) := by decide +kernel
theorem dX3_planAll_39 : decode cX3_planAll 39 = .ok (.istore_n 3, 1) := by decide +kernel
theorem dX3_planAll_40 : decode cX3_planAll 40 = .ok (.iload_n 3, 1) := by decide +kernel
theorem dX3_planAll_41 : decode cX3_planAll 41 = .ok (.aload_n 0, 1) := by decide +kernel
theorem dX3_planAll_42 : decode cX3_planAll 42 = .ok (.getfield 15, 3) := by decide +kernel
theorem dX3_planAll_45 : decode cX3_planAll 45 = .ok (.if_icmp .ge 25, 3) := by decide +kernel
theorem dX3_planAll_48 : decode cX3_planAll 48 = .ok (.iload_n 2, 1) := by decide +kernel
theorem dX3_planAll_49 : decode cX3_planAll 49 = .ok (.aload_n 0, 1) := by decide +kernel
theorem dX3_planAll_50 : decode cX3_planAll 50 = .ok (.getfield 11, 3) := by decide +kernel
theorem dX3_planAll_53 : decode cX3_planAll 53 = .ok (.iload_n 3, 1) := by decide +kernel
theorem dX3_planAll_54 : decode cX3_planAll 54 = .ok (.iaload, 1) := by decide +kernel
theorem dX3_planAll_55 : decode cX3_planAll 55 = .ok (.iadd, 1) := by decide +kernel
theorem dX3_planAll_56 : decode cX3_planAll 56 = .ok (.istore_n 2, 1) := by decide +kernel
theorem dX3_planAll_57 : decode cX3_planAll 57 = .ok (.aload_n 0, 1) := by decide +kernel
theorem dX3_planAll_58 : decode cX3_planAll 58 = .ok (.iload_n 1, 1) := by decide +kernel
theorem dX3_planAll_59 : decode cX3_planAll 59 = .ok (.iload_n 3, 1) := by decide +kernel
theorem dX3_planAll_60 : decode cX3_planAll 60 = .ok (.iload_n 2, 1) := by decide +kernel
theorem dX3_planAll_61 : decode cX3_planAll 61 = .ok (.invokevirtual 42, 3) := by decide +kernel
theorem dX3_planAll_64 : decode cX3_planAll 64 = .ok (.iinc 3 1, 3) := by decide +kernel
theorem dX3_planAll_67 : decode cX3_planAll 67 = .ok (.goto (-27), 3) := by decide +kernel
theorem dX3_planAll_70 : decode cX3_planAll 70 = .ok (.iinc 1 (-1), 3) := by decide +kernel
theorem dX3_planAll_73 : decode cX3_planAll 73 = .ok (.goto (-66), 3) := by decide +kernel
theorem dX3_planAll_76 : decode cX3_planAll 76 = .ok (.return_, 1) := by decide +kernel
set_option maxRecDepth 20000 in
theorem ggX3_planStretch_X3_costOfParts : GoodIn wsX3_planStretch wsX3_costOfParts := goodIn_r _ [7, 2, 8, 9, 10, 11] (by decide +kernel) (by decide +kernel)
set_option maxRecDepth 20000 in
theorem gX3_planStretch_X3_costOfParts : GoodIn wsX3_planStretch (wsV RX3 46 RX3 yX3_costOfParts wsX3_costOfParts) := goodIn_app (goodIn_of _ (by decide +kernel)) ggX3_planStretch_X3_costOfParts
theorem dX3_planStretch_0 : decode cX3_planStretch 0 = .ok (.iload_n 1, 1) := by decide +kernel
theorem dX3_planStretch_1 : decode cX3_planStretch 1 = .ok (.iconst 1, 1) := by decide +kernel
theorem dX3_planStretch_2 : decode cX3_planStretch 2 = .ok (.iadd, 1) := by decide +kernel
theorem dX3_planStretch_3 : decode cX3_planStretch 3 = .ok (.istore 4, 2) := by decide +kernel
theorem dX3_planStretch_5 : decode cX3_planStretch 5 = .ok (.iload_n 1, 1) := by decide +kernel
theorem dX3_planStretch_6 : decode cX3_planStretch 6 = .ok (.iconst 2, 1) := by decide +kernel
theorem dX3_planStretch_7 : decode cX3_planStretch 7 = .ok (.iadd, 1) := by decide +kernel
theorem dX3_planStretch_8 : decode cX3_planStretch 8 = .ok (.istore 5, 2) := by decide +kernel
theorem dX3_planStretch_10 : decode cX3_planStretch 10 = .ok (.iload 5, 2) := by decide +kernel
theorem dX3_planStretch_12 : decode cX3_planStretch 12 = .ok (.iload_n 2, 1) := by decide +kernel
theorem dX3_planStretch_13 : decode cX3_planStretch 13 = .ok (.if_icmp .gt 32, 3) := by decide +kernel
theorem dX3_planStretch_16 : decode cX3_planStretch 16 = .ok (.aload_n 0, 1) := by decide +kernel
theorem dX3_planStretch_17 : decode cX3_planStretch 17 = .ok (.iload_n 1, 1) := by decide +kernel
theorem dX3_planStretch_18 : decode cX3_planStretch 18 = .ok (.iload 5, 2) := by decide +kernel
theorem dX3_planStretch_20 : decode cX3_planStretch 20 = .ok (.iload_n 2, 1) := by decide +kernel
theorem dX3_planStretch_21 : decode cX3_planStretch 21 = .ok (.invokevirtual 46, 3) := by decide +kernel
theorem dX3_planStretch_24 : decode cX3_planStretch 24 = .ok (.aload_n 0, 1) := by decide +kernel
theorem dX3_planStretch_25 : decode cX3_planStretch 25 = .ok (.iload_n 1, 1) := by decide +kernel
theorem dX3_planStretch_26 : decode cX3_planStretch 26 = .ok (.iload 4, 2) := by decide +kernel
theorem dX3_planStretch_28 : decode cX3_planStretch 28 = .ok (.iload_n 2, 1) := by decide +kernel
theorem dX3_planStretch_29 : decode cX3_planStretch 29 = .ok (.invokevirtual 46, 3) := by decide +kernel
theorem dX3_planStretch_32 : decode cX3_planStretch 32 = .ok (.if_icmp .ge 7, 3) := by decide +kernel
theorem dX3_planStretch_35 : decode cX3_planStretch 35 = .ok (.iload 5, 2) := by decide +kernel
theorem dX3_planStretch_37 : decode cX3_planStretch 37 = .ok (.istore 4, 2) := by decide +kernel
theorem dX3_planStretch_39 : decode cX3_planStretch 39 = .ok (.iinc 5 1, 3) := by decide +kernel
theorem dX3_planStretch_42 : decode cX3_planStretch 42 = .ok (.goto (-32), 3) := by decide +kernel
theorem dX3_planStretch_45 : decode cX3_planStretch 45 = .ok (.aload_n 0, 1) := by decide +kernel
theorem dX3_planStretch_46 : decode cX3_planStretch 46 = .ok (.getfield 24, 3) := by decide +kernel
theorem dX3_planStretch_49 : decode cX3_planStretch 49 = .ok (.iload_n 1, 1) := by decide +kernel
theorem dX3_planStretch_50 : decode cX3_planStretch 50 = .ok (.aaload, 1) := by decide +kernel
theorem dX3_planStretch_51 : decode cX3_planStretch 51 = .ok (.iload_n 2, 1) := by decide +kernel
theorem dX3_planStretch_52 : decode cX3_planStretch 52 = .ok (.iload 4, 2) := by decide +kernel
theorem dX3_planStretch_54 : decode cX3_planStretch 54 = .ok (.iastore, 1) := by decide +kernel
theorem dX3_planStretch_55 : decode cX3_planStretch 55 = .ok (.aload_n 0, 1) := by decide +kernel
theorem dX3_planStretch_56 : decode cX3_planStretch 56 = .ok (.getfield 21, 3) := by decide +kernel
theorem dX3_planStretch_59 : decode cX3_planStretch 59 = .ok (.iload_n 1, 1) := by decide +kernel
theorem dX3_planStretch_60 : decode cX3_planStretch 60 = .ok (.aaload, 1) := by decide +kernel
theorem dX3_planStretch_61 : decode cX3_planStretch 61 = .ok (.iload_n 2, 1) := by decide +kernel
theorem dX3_planStretch_62 : decode cX3_planStretch 62 = .ok (.iload_n 3, 1) := by decide +kernel
theorem dX3_planStretch_63 : decode cX3_planStretch 63 = .ok (.aload_n 0, 1) := by decide +kernel
theorem dX3_planStretch_64 : decode cX3_planStretch 64 = .ok (.iload_n 1, 1) := by decide +kernel
theorem dX3_planStretch_65 : decode cX3_planStretch 65 = .ok (.iload 4, 2) := by decide +kernel
theorem dX3_planStretch_67 : decode cX3_planStretch 67 = .ok (.iload_n 2, 1) := by decide +kernel
theorem dX3_planStretch_68 : decode cX3_planStretch 68 = .ok (.invokevirtual 46, 3) := by decide +kernel
theorem dX3_planStretch_71 : decode cX3_planStretch 71 = .ok (.iadd, 1) := by decide +kernel
theorem dX3_planStretch_72 : decode cX3_planStretch 72 = .ok (.iastore, 1) := by decide +kernel
theorem dX3_planStretch_73 : decode cX3_planStretch 73 = .ok (.return_, 1) := by decide +kernel
theorem dX3_costOfParts_0 : decode cX3_costOfParts 0 = .ok (.aload_n 0, 1) := by decide +kernel
theorem dX3_costOfParts_1 : decode cX3_costOfParts 1 = .ok (.getfield 21, 3) := by decide +kernel
theorem dX3_costOfParts_4 : decode cX3_costOfParts 4 = .ok (.iload_n 1, 1) := by decide +kernel
theorem dX3_costOfParts_5 : decode cX3_costOfParts 5 = .ok (.aaload, 1) := by decide +kernel
theorem dX3_costOfParts_6 : decode cX3_costOfParts 6 = .ok (.iload_n 2, 1) := by decide +kernel
theorem dX3_costOfParts_7 : decode cX3_costOfParts 7 = .ok (.iconst 1, 1) := by decide +kernel
theorem dX3_costOfParts_8 : decode cX3_costOfParts 8 = .ok (.isub, 1) := by decide +kernel
theorem dX3_costOfParts_9 : decode cX3_costOfParts 9 = .ok (.iaload, 1) := by decide +kernel
theorem dX3_costOfParts_10 : decode cX3_costOfParts 10 = .ok (.aload_n 0, 1) := by decide +kernel
theorem dX3_costOfParts_11 : decode cX3_costOfParts 11 = .ok (.getfield 21, 3) := by decide +kernel
theorem dX3_costOfParts_14 : decode cX3_costOfParts 14 = .ok (.iload_n 2, 1) := by decide +kernel
theorem dX3_costOfParts_15 : decode cX3_costOfParts 15 = .ok (.aaload, 1) := by decide +kernel
theorem dX3_costOfParts_16 : decode cX3_costOfParts 16 = .ok (.iload_n 3, 1) := by decide +kernel
theorem dX3_costOfParts_17 : decode cX3_costOfParts 17 = .ok (.iaload, 1) := by decide +kernel
theorem dX3_costOfParts_18 : decode cX3_costOfParts 18 = .ok (.iadd, 1) := by decide +kernel
theorem dX3_costOfParts_19 : decode cX3_costOfParts 19 = .ok (.ireturn, 1) := by decide +kernel
theorem dX4_init_0 : decode cX4_init 0 = .ok (.aload_n 0, 1) := by decide +kernel
theorem dX4_init_1 : decode cX4_init 1 = .ok (.invokespecial 3, 3) := by decide +kernel
theorem dX4_init_4 : decode cX4_init 4 = .ok (.aload_n 0, 1) := by decide +kernel
theorem dX4_init_5 : decode cX4_init 5 = .ok (.bipush 12, 2) := by decide +kernel
theorem dX4_init_7 : decode cX4_init 7 = .ok (.newarray .int, 2) := by decide +kernel
theorem dX4_init_9 : decode cX4_init 9 = .ok (.putfield 11, 3) := by decide +kernel
theorem dX4_init_12 : decode cX4_init 12 = .ok (.aload_n 0, 1) := by decide +kernel
theorem dX4_init_13 : decode cX4_init 13 = .ok (.bipush 12, 2) := by decide +kernel
theorem dX4_init_15 : decode cX4_init 15 = .ok (.newarray .int, 2) := by decide +kernel
theorem dX4_init_17 : decode cX4_init 17 = .ok (.putfield 15, 3) := by decide +kernel
theorem dX4_init_20 : decode cX4_init 20 = .ok (.aload_n 0, 1) := by decide +kernel
theorem dX4_init_21 : decode cX4_init 21 = .ok (.iconst 0, 1) := by decide +kernel
theorem dX4_init_22 : decode cX4_init 22 = .ok (.putfield 18, 3) := by decide +kernel
theorem dX4_init_25 : decode cX4_init 25 = .ok (.aload_n 0, 1) := by decide +kernel
theorem dX4_init_26 : decode cX4_init 26 = .ok (.bipush 8, 2) := by decide +kernel
theorem dX4_init_28 : decode cX4_init 28 = .ok (.newarray .int, 2) := by decide +kernel
theorem dX4_init_30 : decode cX4_init 30 = .ok (.putfield 24, 3) := by decide +kernel
theorem dX4_init_33 : decode cX4_init 33 = .ok (.aload_n 0, 1) := by decide +kernel
theorem dX4_init_34 : decode cX4_init 34 = .ok (.bipush 8, 2) := by decide +kernel
theorem dX4_init_36 : decode cX4_init 36 = .ok (.newarray .int, 2) := by decide +kernel
theorem dX4_init_38 : decode cX4_init 38 = .ok (.putfield 27, 3) := by decide +kernel
theorem dX4_init_41 : decode cX4_init 41 = .ok (.aload_n 0, 1) := by decide +kernel
theorem dX4_init_42 : decode cX4_init 42 = .ok (.bipush 8, 2) := by decide +kernel
theorem dX4_init_44 : decode cX4_init 44 = .ok (.newarray .int, 2) := by decide +kernel
theorem dX4_init_46 : decode cX4_init 46 = .ok (.putfield 30, 3) := by decide +kernel
theorem dX4_init_49 : decode cX4_init 49 = .ok (.aload_n 0, 1) := by decide +kernel
theorem dX4_init_50 : decode cX4_init 50 = .ok (.bipush 8, 2) := by decide +kernel
theorem dX4_init_52 : decode cX4_init 52 = .ok (.newarray .boolean, 2) := by decide +kernel
theorem dX4_init_54 : decode cX4_init 54 = .ok (.putfield 33, 3) := by decide +kernel
theorem dX4_init_57 : decode cX4_init 57 = .ok (.aload_n 0, 1) := by decide +kernel
theorem dX4_init_58 : decode cX4_init 58 = .ok (.aload_n 1, 1) := by decide +kernel
theorem dX4_init_59 : decode cX4_init 59 = .ok (.putfield 37, 3) := by decide +kernel
theorem dX4_init_62 : decode cX4_init 62 = .ok (.return_, 1) := by decide +kernel
theorem dX4_number_0 : decode cX4_number 0 = .ok (.aload_n 0, 1) := by decide +kernel
theorem dX4_number_1 : decode cX4_number 1 = .ok (.getfield 18, 3) := by decide +kernel
theorem dX4_number_4 : decode cX4_number 4 = .ok (.ireturn, 1) := by decide +kernel
set_option maxRecDepth 20000 in
theorem ggX4_add_X5_isNone : GoodIn wsX4_add wsX5_isNone := goodIn_r _ [9, 10, 11, 12, 13, 22, 23, 24, 25, 26, 27, 28] (by decide +kernel) (by decide +kernel)
set_option maxRecDepth 20000 in
theorem gX4_add_X5_isNone : GoodIn wsX4_add (wsV RX4 41 RX5 yX5_isNone wsX5_isNone) := goodIn_app (goodIn_of _ (by decide +kernel)) ggX4_add_X5_isNone
theorem dX4_add_0 : decode cX4_add 0 = .ok (.aload_n 0, 1) := by decide +kernel
theorem dX4_add_1 : decode cX4_add 1 = .ok (.getfield 37, 3) := by decide +kernel
theorem dX4_add_4 : decode cX4_add 4 = .ok (.iload_n 1, 1) := by decide +kernel
theorem dX4_add_5 : decode cX4_add 5 = .ok (.invokevirtual 41, 3) := by decide +kernel
theorem dX4_add_8 : decode cX4_add 8 = .ok (.ifCond .ne 19, 3) := by decide +kernel
theorem dX4_add_11 : decode cX4_add 11 = .ok (.aload_n 0, 1) := by decide +kernel
theorem dX4_add_12 : decode cX4_add 12 = .ok (.getfield 37, 3) := by decide +kernel
theorem dX4_add_15 : decode cX4_add 15 = .ok (.iload_n 2, 1) := by decide +kernel
theorem dX4_add_16 : decode cX4_add 16 = .ok (.invokevirtual 41, 3) := by decide +kernel
theorem dX4_add_19 : decode cX4_add 19 = .ok (.ifCond .ne 8, 3) := by decide +kernel
theorem dX4_add_22 : decode cX4_add 22 = .ok (.iload_n 1, 1) := by decide +kernel
theorem dX4_add_23 : decode cX4_add 23 = .ok (.iload_n 2, 1) := by decide +kernel
theorem dX4_add_24 : decode cX4_add 24 = .ok (.if_icmp .ne 6, 3) := by decide +kernel
theorem dX4_add_27 : decode cX4_add 27 = .ok (.bipush (-2), 2) := by decide +kernel
theorem dX4_add_29 : decode cX4_add 29 = .ok (.ireturn, 1) := by decide +kernel
theorem dX4_add_30 : decode cX4_add 30 = .ok (.aload_n 0, 1) := by decide +kernel
theorem dX4_add_31 : decode cX4_add 31 = .ok (.getfield 18, 3) := by decide +kernel
theorem dX4_add_34 : decode cX4_add 34 = .ok (.bipush 12, 2) := by decide +kernel
theorem dX4_add_36 : decode cX4_add 36 = .ok (.if_icmp .lt 6, 3) := by decide +kernel
theorem dX4_add_39 : decode cX4_add 39 = .ok (.bipush (-4), 2) := by decide +kernel
theorem dX4_add_41 : decode cX4_add 41 = .ok (.ireturn, 1) := by decide +kernel
theorem dX4_add_42 : decode cX4_add 42 = .ok (.aload_n 0, 1) := by decide +kernel
theorem dX4_add_43 : decode cX4_add 43 = .ok (.getfield 11, 3) := by decide +kernel
theorem dX4_add_46 : decode cX4_add 46 = .ok (.aload_n 0, 1) := by decide +kernel
theorem dX4_add_47 : decode cX4_add 47 = .ok (.getfield 18, 3) := by decide +kernel
theorem dX4_add_50 : decode cX4_add 50 = .ok (.iload_n 1, 1) := by decide +kernel
theorem dX4_add_51 : decode cX4_add 51 = .ok (.iastore, 1) := by decide +kernel
theorem dX4_add_52 : decode cX4_add 52 = .ok (.aload_n 0, 1) := by decide +kernel
theorem dX4_add_53 : decode cX4_add 53 = .ok (.getfield 15, 3) := by decide +kernel
theorem dX4_add_56 : decode cX4_add 56 = .ok (.aload_n 0, 1) := by decide +kernel
theorem dX4_add_57 : decode cX4_add 57 = .ok (.getfield 18, 3) := by decide +kernel
theorem dX4_add_60 : decode cX4_add 60 = .ok (.iload_n 2, 1) := by decide +kernel
theorem dX4_add_61 : decode cX4_add 61 = .ok (.iastore, 1) := by decide +kernel
theorem dX4_add_62 : decode cX4_add 62 = .ok (.aload_n 0, 1) := by decide +kernel
theorem dX4_add_63 : decode cX4_add 63 = .ok (.dup, 1) := by decide +kernel
theorem dX4_add_64 : decode cX4_add 64 = .ok (.getfield 18, 3) := by decide +kernel
theorem dX4_add_67 : decode cX4_add 67 = .ok (.iconst 1, 1) := by decide +kernel
theorem dX4_add_68 : decode cX4_add 68 = .ok (.iadd, 1) := by decide +kernel
theorem dX4_add_69 : decode cX4_add 69 = .ok (.putfield 18, 3) := by decide +kernel
theorem dX4_add_72 : decode cX4_add 72 = .ok (.aload_n 0, 1) := by decide +kernel
theorem dX4_add_73 : decode cX4_add 73 = .ok (.getfield 18, 3) := by decide +kernel
theorem dX4_add_76 : decode cX4_add 76 = .ok (.iconst 1, 1) := by decide +kernel
theorem dX4_add_77 : decode cX4_add 77 = .ok (.isub, 1) := by decide +kernel
theorem dX4_add_78 : decode cX4_add 78 = .ok (.ireturn, 1) := by decide +kernel
set_option maxRecDepth 20000 in
theorem ggX4_leastOfGroup_X5_isNone : GoodIn wsX4_leastOfGroup wsX5_isNone := goodIn_r _ [7, 8, 9, 10, 11, 51, 52, 53, 54, 55, 56, 57] (by decide +kernel) (by decide +kernel)
set_option maxRecDepth 20000 in
theorem gX4_leastOfGroup_X5_isNone : GoodIn wsX4_leastOfGroup (wsV RX4 41 RX5 yX5_isNone wsX5_isNone) := goodIn_app (goodIn_of _ (by decide +kernel)) ggX4_leastOfGroup_X5_isNone
set_option maxRecDepth 20000 in
theorem ggX4_leastOfGroup_X4_isNoSet : GoodIn wsX4_leastOfGroup wsX4_isNoSet := goodIn_r _ [16, 17, 18, 19, 15, 20, 21, 9, 10, 11, 43, 44, 45, 46, 47, 48, 49, 50] (by decide +kernel) (by decide +kernel)
set_option maxRecDepth 20000 in
theorem gX4_leastOfGroup_X4_isNoSet : GoodIn wsX4_leastOfGroup (wsV RX4 45 RX4 yX4_isNoSet wsX4_isNoSet) := goodIn_app (goodIn_of _ (by decide +kernel)) ggX4_leastOfGroup_X4_isNoSet
set_option maxRecDepth 20000 in
theorem ggX4_leastOfGroup_X4_putTogether : GoodIn wsX4_leastOfGroup wsX4_putTogether := goodIn_r _ [25, 1, 2, 21, 26, 27, 28, 29, 30, 6, 31, 8, 32, 33, 34, 15, 35, 36, 37, 38, 39, 40, 41, 42, 43, 44, 45, 46, 47, 48, 49, 50, 51, 52, 53, 54, 55, 56, 57] (by decide +kernel) (by decide +kernel)
set_option maxRecDepth 20000 in
theorem gX4_leastOfGroup_X4_putTogether : GoodIn wsX4_leastOfGroup (wsV RX4 48 RX4 yX4_putTogether wsX4_putTogether) := goodIn_app (goodIn_of _ (by decide +kernel)) ggX4_leastOfGroup_X4_putTogether
theorem dX4_leastOfGroup_0 : decode cX4_leastOfGroup 0 = .ok (.aload_n 0, 1) := by decide +kernel
theorem dX4_leastOfGroup_1 : decode cX4_leastOfGroup 1 = .ok (.getfield 37, 3) := by decide +kernel
theorem dX4_leastOfGroup_4 : decode cX4_leastOfGroup 4 = .ok (.iload_n 1, 1) := by decide +kernel
theorem dX4_leastOfGroup_5 : decode cX4_leastOfGroup 5 = .ok (.invokevirtual 41, 3) := by decide +kernel
theorem dX4_leastOfGroup_8 : decode cX4_leastOfGroup 8 = .ok (.ifCond .ne 11, 3) := by decide +kernel
theorem dX4_leastOfGroup_11 : decode cX4_leastOfGroup 11 = .ok (.aload_n 0, 1) := by decide +kernel
theorem dX4_leastOfGroup_12 : decode cX4_leastOfGroup 12 = .ok (.iload_n 2, 1) := by decide +kernel
theorem dX4_leastOfGroup_13 : decode cX4_leastOfGroup 13 = .ok (.invokevirtual 45, 3) := by decide +kernel
theorem dX4_leastOfGroup_16 : decode cX4_leastOfGroup 16 = .ok (.ifCond .eq 6, 3) := by decide +kernel
theorem dX4_leastOfGroup_19 : decode cX4_leastOfGroup 19 = .ok (.bipush (-2), 2) := by decide +kernel
theorem dX4_leastOfGroup_21 : decode cX4_leastOfGroup 21 = .ok (.ireturn, 1) := by decide +kernel
theorem dX4_leastOfGroup_22 : decode cX4_leastOfGroup 22 = .ok (.aload_n 0, 1) := by decide +kernel
theorem dX4_leastOfGroup_23 : decode cX4_leastOfGroup 23 = .ok (.iload_n 2, 1) := by decide +kernel
theorem dX4_leastOfGroup_24 : decode cX4_leastOfGroup 24 = .ok (.invokevirtual 48, 3) := by decide +kernel
theorem dX4_leastOfGroup_27 : decode cX4_leastOfGroup 27 = .ok (.aload_n 0, 1) := by decide +kernel
theorem dX4_leastOfGroup_28 : decode cX4_leastOfGroup 28 = .ok (.getfield 27, 3) := by decide +kernel
theorem dX4_leastOfGroup_31 : decode cX4_leastOfGroup 31 = .ok (.iload_n 1, 1) := by decide +kernel
theorem dX4_leastOfGroup_32 : decode cX4_leastOfGroup 32 = .ok (.iaload, 1) := by decide +kernel
theorem dX4_leastOfGroup_33 : decode cX4_leastOfGroup 33 = .ok (.ireturn, 1) := by decide +kernel
set_option maxRecDepth 20000 in
theorem ggX4_answerExplains_X4_isNoSet : GoodIn wsX4_answerExplains wsX4_isNoSet := goodIn_r _ [5, 6, 7, 8, 4, 9, 10, 11, 12, 13, 86, 87, 88, 89, 90, 91, 92, 93] (by decide +kernel) (by decide +kernel)
set_option maxRecDepth 20000 in
theorem gX4_answerExplains_X4_isNoSet : GoodIn wsX4_answerExplains (wsV RX4 45 RX4 yX4_isNoSet wsX4_isNoSet) := goodIn_app (goodIn_of _ (by decide +kernel)) ggX4_answerExplains_X4_isNoSet
set_option maxRecDepth 20000 in
theorem ggX4_answerExplains_X4_reckonLeaks : GoodIn wsX4_answerExplains wsX4_reckonLeaks := goodIn_r _ [17, 18, 19, 20, 21, 22, 23, 24, 25, 26, 27, 28, 29, 30, 31, 32, 33, 34, 35, 36, 37, 11, 12, 13, 38, 39, 40, 41, 42, 43, 44, 45, 46, 47, 48, 49, 50, 51, 52, 53, 54, 55, 56, 57, 58, 59, 60, 86, 87, 88, 89, 90, 91, 92, 93, 94, 95, 96, 97, 98, 99, 100] (by decide +kernel) (by decide +kernel)
set_option maxRecDepth 20000 in
theorem gX4_answerExplains_X4_reckonLeaks : GoodIn wsX4_answerExplains (wsV RX4 52 RX4 yX4_reckonLeaks wsX4_reckonLeaks) := goodIn_app (goodIn_of _ (by decide +kernel)) ggX4_answerExplains_X4_reckonLeaks
set_option maxRecDepth 20000 in
theorem ggX4_answerExplains_X4_isExplained : GoodIn wsX4_answerExplains wsX4_isExplained := goodIn_r _ [64, 18, 65, 66, 19, 67, 68, 69, 70, 71, 4, 72, 10, 73, 74, 20, 21, 22, 23, 24, 25, 75, 76, 77, 78, 79, 80, 81, 82, 83, 84, 85, 86, 87, 88, 89, 90, 91, 92, 93, 94, 95, 96, 97, 98, 99, 100] (by decide +kernel) (by decide +kernel)
set_option maxRecDepth 20000 in
theorem gX4_answerExplains_X4_isExplained : GoodIn wsX4_answerExplains (wsV RX4 55 RX4 yX4_isExplained wsX4_isExplained) := goodIn_app (goodIn_of _ (by decide +kernel)) ggX4_answerExplains_X4_isExplained
theorem dX4_answerExplains_0 : decode cX4_answerExplains 0 = .ok (.aload_n 0, 1) := by decide +kernel
theorem dX4_answerExplains_1 : decode cX4_answerExplains 1 = .ok (.iload_n 1, 1) := by decide +kernel
theorem dX4_answerExplains_2 : decode cX4_answerExplains 2 = .ok (.invokevirtual 45, 3) := by decide +kernel
theorem dX4_answerExplains_5 : decode cX4_answerExplains 5 = .ok (.ifCond .eq 6, 3) := by decide +kernel
theorem dX4_answerExplains_8 : decode cX4_answerExplains 8 = .ok (.bipush (-2), 2) := by decide +kernel
theorem dX4_answerExplains_10 : decode cX4_answerExplains 10 = .ok (.ireturn, 1) := by decide +kernel
theorem dX4_answerExplains_11 : decode cX4_answerExplains 11 = .ok (.aload_n 0, 1) := by decide +kernel
theorem dX4_answerExplains_12 : decode cX4_answerExplains 12 = .ok (.invokevirtual 52, 3) := by decide +kernel
theorem dX4_answerExplains_15 : decode cX4_answerExplains 15 = .ok (.aload_n 0, 1) := by decide +kernel
theorem dX4_answerExplains_16 : decode cX4_answerExplains 16 = .ok (.iload_n 1, 1) := by decide +kernel
theorem dX4_answerExplains_17 : decode cX4_answerExplains 17 = .ok (.invokevirtual 55, 3) := by decide +kernel
theorem dX4_answerExplains_20 : decode cX4_answerExplains 20 = .ok (.ifCond .eq 7, 3) := by decide +kernel
theorem dX4_answerExplains_23 : decode cX4_answerExplains 23 = .ok (.iconst 1, 1) := by decide +kernel
theorem dX4_answerExplains_24 : decode cX4_answerExplains 24 = .ok (.goto 4, 3) := by decide +kernel
theorem dX4_answerExplains_27 : decode cX4_answerExplains 27 = .ok (.iconst 0, 1) := by decide +kernel
theorem dX4_answerExplains_28 : decode cX4_answerExplains 28 = .ok (.ireturn, 1) := by decide +kernel
set_option maxRecDepth 20000 in
theorem ggX4_fewestSet_X4_reckonLeaks : GoodIn wsX4_fewestSet wsX4_reckonLeaks := goodIn_r _ [5, 6, 7, 8, 9, 10, 11, 12, 13, 14, 15, 16, 17, 18, 19, 20, 21, 22, 23, 24, 25, 26, 27, 28, 29, 30, 31, 32, 33, 34, 35, 36, 37, 38, 39, 40, 41, 42, 43, 44, 45, 46, 47, 48, 49, 50, 51, 89, 90, 91, 92, 93, 94, 95, 96, 97, 98, 99, 100, 101, 102, 103] (by decide +kernel) (by decide +kernel)
set_option maxRecDepth 20000 in
theorem gX4_fewestSet_X4_reckonLeaks : GoodIn wsX4_fewestSet (wsV RX4 52 RX4 yX4_reckonLeaks wsX4_reckonLeaks) := goodIn_app (goodIn_of _ (by decide +kernel)) ggX4_fewestSet_X4_reckonLeaks
set_option maxRecDepth 20000 in
theorem ggX4_fewestSet_X4_allValves : GoodIn wsX4_fewestSet wsX4_allValves := goodIn_r _ [55, 56, 89, 90, 91, 92, 93, 94, 95, 96] (by decide +kernel) (by decide +kernel)
set_option maxRecDepth 20000 in
theorem gX4_fewestSet_X4_allValves : GoodIn wsX4_fewestSet (wsV RX4 58 RX4 yX4_allValves wsX4_allValves) := goodIn_app (goodIn_of _ (by decide +kernel)) ggX4_fewestSet_X4_allValves
set_option maxRecDepth 20000 in
theorem ggX4_fewestSet_X4_isExplained : GoodIn wsX4_fewestSet wsX4_isExplained := goodIn_r _ [60, 6, 61, 62, 7, 63, 64, 65, 66, 67, 4, 68, 56, 69, 70, 8, 9, 10, 11, 12, 13, 71, 72, 73, 74, 75, 76, 77, 78, 79, 80, 81, 89, 90, 91, 92, 93, 94, 95, 96, 97, 98, 99, 100, 101, 102, 103] (by decide +kernel) (by decide +kernel)
set_option maxRecDepth 20000 in
theorem gX4_fewestSet_X4_isExplained : GoodIn wsX4_fewestSet (wsV RX4 55 RX4 yX4_isExplained wsX4_isExplained) := goodIn_app (goodIn_of _ (by decide +kernel)) ggX4_fewestSet_X4_isExplained
set_option maxRecDepth 20000 in
theorem ggX4_fewestSet_J6_bitCount_0f7a4 : GoodIn wsX4_fewestSet wsJ6_bitCount_0f7a4 := goodIn_r _ [85, 86, 87, 88] (by decide +kernel) (by decide +kernel)
set_option maxRecDepth 20000 in
theorem gX4_fewestSet_J6_bitCount_0f7a4 : GoodIn wsX4_fewestSet (va_wsS RX4 62 yJ6_bitCount_0f7a4 wsJ6_bitCount_0f7a4) := goodIn_app (goodIn_of _ (by decide +kernel)) ggX4_fewestSet_J6_bitCount_0f7a4
theorem dX4_fewestSet_0 : decode cX4_fewestSet 0 = .ok (.aload_n 0, 1) := by decide +kernel
theorem dX4_fewestSet_1 : decode cX4_fewestSet 1 = .ok (.invokevirtual 52, 3) := by decide +kernel
theorem dX4_fewestSet_4 : decode cX4_fewestSet 4 = .ok (.aload_n 0, 1) := by decide +kernel
theorem dX4_fewestSet_5 : decode cX4_fewestSet 5 = .ok (.invokevirtual 58, 3) := by decide +kernel
theorem dX4_fewestSet_8 : decode cX4_fewestSet 8 = .ok (.istore_n 1, 1) := by decide +kernel
theorem dX4_fewestSet_9 : decode cX4_fewestSet 9 = .ok (.aload_n 0, 1) := by decide +kernel
theorem dX4_fewestSet_10 : decode cX4_fewestSet 10 = .ok (.iload_n 1, 1) := by decide +kernel
theorem dX4_fewestSet_11 : decode cX4_fewestSet 11 = .ok (.invokevirtual 55, 3) := by decide +kernel
theorem dX4_fewestSet_14 : decode cX4_fewestSet 14 = .ok (.ifCond .ne 5, 3) := by decide +kernel
theorem dX4_fewestSet_17 : decode cX4_fewestSet 17 = .ok (.iconst (-1), 1) := by decide +kernel
theorem dX4_fewestSet_18 : decode cX4_fewestSet 18 = .ok (.ireturn, 1) := by decide +kernel
theorem dX4_fewestSet_19 : decode cX4_fewestSet 19 = .ok (.iload_n 1, 1) := by decide +kernel
theorem dX4_fewestSet_20 : decode cX4_fewestSet 20 = .ok (.istore_n 2, 1) := by decide +kernel
theorem dX4_fewestSet_21 : decode cX4_fewestSet 21 = .ok (.iconst 0, 1) := by decide +kernel
theorem dX4_fewestSet_22 : decode cX4_fewestSet 22 = .ok (.istore_n 3, 1) := by decide +kernel
theorem dX4_fewestSet_23 : decode cX4_fewestSet 23 = .ok (.iload_n 3, 1) := by decide +kernel
theorem dX4_fewestSet_24 : decode cX4_fewestSet 24 = .ok (.iload_n 1, 1) := by decide +kernel
theorem dX4_fewestSet_25 : decode cX4_fewestSet 25 = .ok (.if_icmp .ge 30, 3) := by decide +kernel
theorem dX4_fewestSet_28 : decode cX4_fewestSet 28 = .ok (.iload_n 3, 1) := by decide +kernel
theorem dX4_fewestSet_29 : decode cX4_fewestSet 29 = .ok (.invokestatic 62, 3) := by decide +kernel
theorem dX4_fewestSet_32 : decode cX4_fewestSet 32 = .ok (.iload_n 2, 1) := by decide +kernel
theorem dX4_fewestSet_33 : decode cX4_fewestSet 33 = .ok (.invokestatic 62, 3) := by decide +kernel
theorem dX4_fewestSet_36 : decode cX4_fewestSet 36 = .ok (.if_icmp .ge 13, 3) := by decide +kernel
theorem dX4_fewestSet_39 : decode cX4_fewestSet 39 = .ok (.aload_n 0, 1) := by decide +kernel
theorem dX4_fewestSet_40 : decode cX4_fewestSet 40 = .ok (.iload_n 3, 1) := by decide +kernel
theorem dX4_fewestSet_41 : decode cX4_fewestSet 41 = .ok (.invokevirtual 55, 3) := by decide +kernel
theorem dX4_fewestSet_44 : decode cX4_fewestSet 44 = .ok (.ifCond .eq 5, 3) := by decide +kernel
theorem dX4_fewestSet_47 : decode cX4_fewestSet 47 = .ok (.iload_n 3, 1) := by decide +kernel
theorem dX4_fewestSet_48 : decode cX4_fewestSet 48 = .ok (.istore_n 2, 1) := by decide +kernel
theorem dX4_fewestSet_49 : decode cX4_fewestSet 49 = .ok (.iinc 3 1, 3) := by decide +kernel
theorem dX4_fewestSet_52 : decode cX4_fewestSet 52 = .ok (.goto (-29), 3) := by decide +kernel
theorem dX4_fewestSet_55 : decode cX4_fewestSet 55 = .ok (.iload_n 2, 1) := by decide +kernel
theorem dX4_fewestSet_56 : decode cX4_fewestSet 56 = .ok (.ireturn, 1) := by decide +kernel
set_option maxRecDepth 20000 in
theorem ggX4_mixInto_X6_mix : GoodIn wsX4_mixInto wsX6_mix := goodIn_r _ [6, 7] (by decide +kernel) (by decide +kernel)
set_option maxRecDepth 20000 in
theorem gX4_mixInto_X6_mix_n68 : GoodIn wsX4_mixInto (wsX6_mix) := ggX4_mixInto_X6_mix
theorem dX4_mixInto_0 : decode cX4_mixInto 0 = .ok (.lload_n 1, 1) := by decide +kernel
theorem dX4_mixInto_1 : decode cX4_mixInto 1 = .ok (.lstore_n 3, 1) := by decide +kernel
theorem dX4_mixInto_2 : decode cX4_mixInto 2 = .ok (.iconst 0, 1) := by decide +kernel
theorem dX4_mixInto_3 : decode cX4_mixInto 3 = .ok (.istore 5, 2) := by decide +kernel
theorem dX4_mixInto_5 : decode cX4_mixInto 5 = .ok (.iload 5, 2) := by decide +kernel
theorem dX4_mixInto_7 : decode cX4_mixInto 7 = .ok (.aload_n 0, 1) := by decide +kernel
theorem dX4_mixInto_8 : decode cX4_mixInto 8 = .ok (.getfield 18, 3) := by decide +kernel
theorem dX4_mixInto_11 : decode cX4_mixInto 11 = .ok (.if_icmp .ge 33, 3) := by decide +kernel
theorem dX4_mixInto_14 : decode cX4_mixInto 14 = .ok (.lload_n 3, 1) := by decide +kernel
theorem dX4_mixInto_15 : decode cX4_mixInto 15 = .ok (.aload_n 0, 1) := by decide +kernel
theorem dX4_mixInto_16 : decode cX4_mixInto 16 = .ok (.getfield 11, 3) := by decide +kernel
theorem dX4_mixInto_19 : decode cX4_mixInto 19 = .ok (.iload 5, 2) := by decide +kernel
theorem dX4_mixInto_21 : decode cX4_mixInto 21 = .ok (.iaload, 1) := by decide +kernel
theorem dX4_mixInto_22 : decode cX4_mixInto 22 = .ok (.invokestatic 68, 3) := by decide +kernel
theorem dX4_mixInto_25 : decode cX4_mixInto 25 = .ok (.lstore_n 3, 1) := by decide +kernel
theorem dX4_mixInto_26 : decode cX4_mixInto 26 = .ok (.lload_n 3, 1) := by decide +kernel
theorem dX4_mixInto_27 : decode cX4_mixInto 27 = .ok (.aload_n 0, 1) := by decide +kernel
theorem dX4_mixInto_28 : decode cX4_mixInto 28 = .ok (.getfield 15, 3) := by decide +kernel
theorem dX4_mixInto_31 : decode cX4_mixInto 31 = .ok (.iload 5, 2) := by decide +kernel
theorem dX4_mixInto_33 : decode cX4_mixInto 33 = .ok (.iaload, 1) := by decide +kernel
theorem dX4_mixInto_34 : decode cX4_mixInto 34 = .ok (.invokestatic 68, 3) := by decide +kernel
theorem dX4_mixInto_37 : decode cX4_mixInto 37 = .ok (.lstore_n 3, 1) := by decide +kernel
theorem dX4_mixInto_38 : decode cX4_mixInto 38 = .ok (.iinc 5 1, 3) := by decide +kernel
theorem dX4_mixInto_41 : decode cX4_mixInto 41 = .ok (.goto (-36), 3) := by decide +kernel
theorem dX4_mixInto_44 : decode cX4_mixInto 44 = .ok (.lload_n 3, 1) := by decide +kernel
theorem dX4_mixInto_45 : decode cX4_mixInto 45 = .ok (.lreturn, 1) := by decide +kernel
theorem dX4_allValves_0 : decode cX4_allValves 0 = .ok (.iconst 1, 1) := by decide +kernel
theorem dX4_allValves_1 : decode cX4_allValves 1 = .ok (.aload_n 0, 1) := by decide +kernel
theorem dX4_allValves_2 : decode cX4_allValves 2 = .ok (.getfield 18, 3) := by decide +kernel
theorem dX4_allValves_5 : decode cX4_allValves 5 = .ok (.ishl, 1) := by decide +kernel
theorem dX4_allValves_6 : decode cX4_allValves 6 = .ok (.iconst 1, 1) := by decide +kernel
theorem dX4_allValves_7 : decode cX4_allValves 7 = .ok (.isub, 1) := by decide +kernel
theorem dX4_allValves_8 : decode cX4_allValves 8 = .ok (.ireturn, 1) := by decide +kernel
set_option maxRecDepth 20000 in
theorem ggX4_isNoSet_X4_allValves : GoodIn wsX4_isNoSet wsX4_allValves := goodIn_r _ [5, 6, 10, 11, 12, 13, 14, 15, 16, 17] (by decide +kernel) (by decide +kernel)
set_option maxRecDepth 20000 in
theorem gX4_isNoSet_X4_allValves : GoodIn wsX4_isNoSet (wsV RX4 58 RX4 yX4_allValves wsX4_allValves) := goodIn_app (goodIn_of _ (by decide +kernel)) ggX4_isNoSet_X4_allValves
set_option maxRecDepth 20000 in
theorem ggX4_isNoSet_X6_outside : GoodIn wsX4_isNoSet wsX6_outside := goodIn_r _ [9] (by decide +kernel) (by decide +kernel)
set_option maxRecDepth 20000 in
theorem gX4_isNoSet_X6_outside_n72 : GoodIn wsX4_isNoSet (wsX6_outside) := ggX4_isNoSet_X6_outside
theorem dX4_isNoSet_0 : decode cX4_isNoSet 0 = .ok (.iload_n 1, 1) := by decide +kernel
theorem dX4_isNoSet_1 : decode cX4_isNoSet 1 = .ok (.iconst 0, 1) := by decide +kernel
theorem dX4_isNoSet_2 : decode cX4_isNoSet 2 = .ok (.aload_n 0, 1) := by decide +kernel
theorem dX4_isNoSet_3 : decode cX4_isNoSet 3 = .ok (.invokevirtual 58, 3) := by decide +kernel
theorem dX4_isNoSet_6 : decode cX4_isNoSet 6 = .ok (.invokestatic 72, 3) := by decide +kernel
theorem dX4_isNoSet_9 : decode cX4_isNoSet 9 = .ok (.ireturn, 1) := by decide +kernel
set_option maxRecDepth 20000 in
theorem ggX4_reckonLeaks_X5_number : GoodIn wsX4_reckonLeaks wsX5_number := goodIn_r _ [7, 8, 55, 56, 57, 58, 59, 60, 61] (by decide +kernel) (by decide +kernel)
