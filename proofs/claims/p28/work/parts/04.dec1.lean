theorem dX2_bestCorner_22 : decode cX2_bestCorner 22 = .ok (.ifCond .eq 26, 3) := by decide +kernel
theorem dX2_bestCorner_25 : decode cX2_bestCorner 25 = .ok (.iload 4, 2) := by decide +kernel
theorem dX2_bestCorner_27 : decode cX2_bestCorner 27 = .ok (.iconst (-1), 1) := by decide +kernel
theorem dX2_bestCorner_28 : decode cX2_bestCorner 28 = .ok (.if_icmp .eq 16, 3) := by decide +kernel
theorem dX2_bestCorner_31 : decode cX2_bestCorner 31 = .ok (.aload_n 0, 1) := by decide +kernel
theorem dX2_bestCorner_32 : decode cX2_bestCorner 32 = .ok (.iload 5, 2) := by decide +kernel
theorem dX2_bestCorner_34 : decode cX2_bestCorner 34 = .ok (.iload 4, 2) := by decide +kernel
theorem dX2_bestCorner_36 : decode cX2_bestCorner 36 = .ok (.iload_n 2, 1) := by decide +kernel
theorem dX2_bestCorner_37 : decode cX2_bestCorner 37 = .ok (.iload_n 3, 1) := by decide +kernel
theorem dX2_bestCorner_38 : decode cX2_bestCorner 38 = .ok (.invokevirtual 92, 3) := by decide +kernel
theorem dX2_bestCorner_41 : decode cX2_bestCorner 41 = .ok (.ifCond .eq 7, 3) := by decide +kernel
theorem dX2_bestCorner_44 : decode cX2_bestCorner 44 = .ok (.iload 5, 2) := by decide +kernel
theorem dX2_bestCorner_46 : decode cX2_bestCorner 46 = .ok (.istore 4, 2) := by decide +kernel
theorem dX2_bestCorner_48 : decode cX2_bestCorner 48 = .ok (.iinc 5 1, 3) := by decide +kernel
theorem dX2_bestCorner_51 : decode cX2_bestCorner 51 = .ok (.goto (-45), 3) := by decide +kernel
theorem dX2_bestCorner_54 : decode cX2_bestCorner 54 = .ok (.iload 4, 2) := by decide +kernel
theorem dX2_bestCorner_56 : decode cX2_bestCorner 56 = .ok (.ireturn, 1) := by decide +kernel
theorem dX2_isBetter_0 : decode cX2_isBetter 0 = .ok (.iload_n 3, 1) := by decide +kernel
theorem dX2_isBetter_1 : decode cX2_isBetter 1 = .ok (.aload_n 0, 1) := by decide +kernel
theorem dX2_isBetter_2 : decode cX2_isBetter 2 = .ok (.getfield 9, 3) := by decide +kernel
theorem dX2_isBetter_5 : decode cX2_isBetter 5 = .ok (.iload_n 1, 1) := by decide +kernel
theorem dX2_isBetter_6 : decode cX2_isBetter 6 = .ok (.iaload, 1) := by decide +kernel
theorem dX2_isBetter_7 : decode cX2_isBetter 7 = .ok (.imul, 1) := by decide +kernel
theorem dX2_isBetter_8 : decode cX2_isBetter 8 = .ok (.iload 4, 2) := by decide +kernel
theorem dX2_isBetter_10 : decode cX2_isBetter 10 = .ok (.aload_n 0, 1) := by decide +kernel
theorem dX2_isBetter_11 : decode cX2_isBetter 11 = .ok (.getfield 15, 3) := by decide +kernel
theorem dX2_isBetter_14 : decode cX2_isBetter 14 = .ok (.iload_n 1, 1) := by decide +kernel
theorem dX2_isBetter_15 : decode cX2_isBetter 15 = .ok (.iaload, 1) := by decide +kernel
theorem dX2_isBetter_16 : decode cX2_isBetter 16 = .ok (.imul, 1) := by decide +kernel
theorem dX2_isBetter_17 : decode cX2_isBetter 17 = .ok (.iadd, 1) := by decide +kernel
theorem dX2_isBetter_18 : decode cX2_isBetter 18 = .ok (.istore 5, 2) := by decide +kernel
theorem dX2_isBetter_20 : decode cX2_isBetter 20 = .ok (.iload_n 3, 1) := by decide +kernel
theorem dX2_isBetter_21 : decode cX2_isBetter 21 = .ok (.aload_n 0, 1) := by decide +kernel
theorem dX2_isBetter_22 : decode cX2_isBetter 22 = .ok (.getfield 9, 3) := by decide +kernel
theorem dX2_isBetter_25 : decode cX2_isBetter 25 = .ok (.iload_n 2, 1) := by decide +kernel
theorem dX2_isBetter_26 : decode cX2_isBetter 26 = .ok (.iaload, 1) := by decide +kernel
theorem dX2_isBetter_27 : decode cX2_isBetter 27 = .ok (.imul, 1) := by decide +kernel
theorem dX2_isBetter_28 : decode cX2_isBetter 28 = .ok (.iload 4, 2) := by decide +kernel
theorem dX2_isBetter_30 : decode cX2_isBetter 30 = .ok (.aload_n 0, 1) := by decide +kernel
theorem dX2_isBetter_31 : decode cX2_isBetter 31 = .ok (.getfield 15, 3) := by decide +kernel
theorem dX2_isBetter_34 : decode cX2_isBetter 34 = .ok (.iload_n 2, 1) := by decide +kernel
theorem dX2_isBetter_35 : decode cX2_isBetter 35 = .ok (.iaload, 1) := by decide +kernel
theorem dX2_isBetter_36 : decode cX2_isBetter 36 = .ok (.imul, 1) := by decide +kernel
theorem dX2_isBetter_37 : decode cX2_isBetter 37 = .ok (.iadd, 1) := by decide +kernel
theorem dX2_isBetter_38 : decode cX2_isBetter 38 = .ok (.istore 6, 2) := by decide +kernel
theorem dX2_isBetter_40 : decode cX2_isBetter 40 = .ok (.iload 5, 2) := by decide +kernel
theorem dX2_isBetter_42 : decode cX2_isBetter 42 = .ok (.aload_n 0, 1) := by decide +kernel
theorem dX2_isBetter_43 : decode cX2_isBetter 43 = .ok (.getfield 18, 3) := by decide +kernel
theorem dX2_isBetter_46 : decode cX2_isBetter 46 = .ok (.iload_n 2, 1) := by decide +kernel
theorem dX2_isBetter_47 : decode cX2_isBetter 47 = .ok (.iaload, 1) := by decide +kernel
theorem dX2_isBetter_48 : decode cX2_isBetter 48 = .ok (.imul, 1) := by decide +kernel
theorem dX2_isBetter_49 : decode cX2_isBetter 49 = .ok (.iload 6, 2) := by decide +kernel
theorem dX2_isBetter_51 : decode cX2_isBetter 51 = .ok (.aload_n 0, 1) := by decide +kernel
theorem dX2_isBetter_52 : decode cX2_isBetter 52 = .ok (.getfield 18, 3) := by decide +kernel
theorem dX2_isBetter_55 : decode cX2_isBetter 55 = .ok (.iload_n 1, 1) := by decide +kernel
theorem dX2_isBetter_56 : decode cX2_isBetter 56 = .ok (.iaload, 1) := by decide +kernel
theorem dX2_isBetter_57 : decode cX2_isBetter 57 = .ok (.imul, 1) := by decide +kernel
theorem dX2_isBetter_58 : decode cX2_isBetter 58 = .ok (.if_icmp .le 7, 3) := by decide +kernel
theorem dX2_isBetter_61 : decode cX2_isBetter 61 = .ok (.iconst 1, 1) := by decide +kernel
theorem dX2_isBetter_62 : decode cX2_isBetter 62 = .ok (.goto 4, 3) := by decide +kernel
theorem dX2_isBetter_65 : decode cX2_isBetter 65 = .ok (.iconst 0, 1) := by decide +kernel
theorem dX2_isBetter_66 : decode cX2_isBetter 66 = .ok (.ireturn, 1) := by decide +kernel
theorem dX3_init_0 : decode cX3_init 0 = .ok (.aload_n 0, 1) := by decide +kernel
theorem dX3_init_1 : decode cX3_init 1 = .ok (.invokespecial 3, 3) := by decide +kernel
theorem dX3_init_4 : decode cX3_init 4 = .ok (.aload_n 0, 1) := by decide +kernel
theorem dX3_init_5 : decode cX3_init 5 = .ok (.bipush 46, 2) := by decide +kernel
theorem dX3_init_7 : decode cX3_init 7 = .ok (.newarray .int, 2) := by decide +kernel
theorem dX3_init_9 : decode cX3_init 9 = .ok (.putfield 9, 3) := by decide +kernel
theorem dX3_init_12 : decode cX3_init 12 = .ok (.aload_n 0, 1) := by decide +kernel
theorem dX3_init_13 : decode cX3_init 13 = .ok (.sipush 512, 3) := by decide +kernel
theorem dX3_init_16 : decode cX3_init 16 = .ok (.newarray .int, 2) := by decide +kernel
theorem dX3_init_18 : decode cX3_init 18 = .ok (.putfield 15, 3) := by decide +kernel
theorem dX3_init_21 : decode cX3_init 21 = .ok (.aload_n 0, 1) := by decide +kernel
theorem dX3_init_22 : decode cX3_init 22 = .ok (.sipush 512, 3) := by decide +kernel
theorem dX3_init_25 : decode cX3_init 25 = .ok (.newarray .int, 2) := by decide +kernel
theorem dX3_init_27 : decode cX3_init 27 = .ok (.putfield 18, 3) := by decide +kernel
theorem dX3_init_30 : decode cX3_init 30 = .ok (.iconst 1, 1) := by decide +kernel
theorem dX3_init_31 : decode cX3_init 31 = .ok (.istore_n 1, 1) := by decide +kernel
theorem dX3_init_32 : decode cX3_init 32 = .ok (.iload_n 1, 1) := by decide +kernel
theorem dX3_init_33 : decode cX3_init 33 = .ok (.sipush 512, 3) := by decide +kernel
theorem dX3_init_36 : decode cX3_init 36 = .ok (.if_icmp .ge 16, 3) := by decide +kernel
theorem dX3_init_39 : decode cX3_init 39 = .ok (.aload_n 0, 1) := by decide +kernel
theorem dX3_init_40 : decode cX3_init 40 = .ok (.getfield 15, 3) := by decide +kernel
theorem dX3_init_43 : decode cX3_init 43 = .ok (.iload_n 1, 1) := by decide +kernel
theorem dX3_init_44 : decode cX3_init 44 = .ok (.iconst (-1), 1) := by decide +kernel
theorem dX3_init_45 : decode cX3_init 45 = .ok (.iastore, 1) := by decide +kernel
theorem dX3_init_46 : decode cX3_init 46 = .ok (.iinc 1 1, 3) := by decide +kernel
theorem dX3_init_49 : decode cX3_init 49 = .ok (.goto (-17), 3) := by decide +kernel
theorem dX3_init_52 : decode cX3_init 52 = .ok (.aload_n 0, 1) := by decide +kernel
theorem dX3_init_53 : decode cX3_init 53 = .ok (.iconst 1, 1) := by decide +kernel
theorem dX3_init_54 : decode cX3_init 54 = .ok (.putfield 21, 3) := by decide +kernel
theorem dX3_init_57 : decode cX3_init 57 = .ok (.return_, 1) := by decide +kernel
theorem dX3_count_0 : decode cX3_count 0 = .ok (.aload_n 0, 1) := by decide +kernel
theorem dX3_count_1 : decode cX3_count 1 = .ok (.getfield 21, 3) := by decide +kernel
theorem dX3_count_4 : decode cX3_count 4 = .ok (.ireturn, 1) := by decide +kernel
theorem dX3_set_0 : decode cX3_set 0 = .ok (.aload_n 0, 1) := by decide +kernel
theorem dX3_set_1 : decode cX3_set 1 = .ok (.getfield 9, 3) := by decide +kernel
theorem dX3_set_4 : decode cX3_set 4 = .ok (.iload_n 1, 1) := by decide +kernel
theorem dX3_set_5 : decode cX3_set 5 = .ok (.iaload, 1) := by decide +kernel
theorem dX3_set_6 : decode cX3_set 6 = .ok (.ireturn, 1) := by decide +kernel
theorem dX3_numberOf_0 : decode cX3_numberOf 0 = .ok (.aload_n 0, 1) := by decide +kernel
theorem dX3_numberOf_1 : decode cX3_numberOf 1 = .ok (.getfield 15, 3) := by decide +kernel
theorem dX3_numberOf_4 : decode cX3_numberOf 4 = .ok (.iload_n 1, 1) := by decide +kernel
theorem dX3_numberOf_5 : decode cX3_numberOf 5 = .ok (.iaload, 1) := by decide +kernel
theorem dX3_numberOf_6 : decode cX3_numberOf 6 = .ok (.ireturn, 1) := by decide +kernel
set_option maxRecDepth 20000 in
theorem ggX3_find_X1_count : GoodIn wsX3_find wsX1_count := goodIn_r _ [6, 7, 94, 95, 96, 97] (by decide +kernel) (by decide +kernel)
set_option maxRecDepth 20000 in
theorem gX3_find_X1_count : GoodIn wsX3_find (wsV RX3 25 RX1 yX1_count wsX1_count) := goodIn_app (goodIn_of _ (by decide +kernel)) ggX3_find_X1_count
set_option maxRecDepth 20000 in
theorem ggX3_find_X3_markAlong : GoodIn wsX3_find wsX3_markAlong := goodIn_r _ [12, 13, 14, 15, 16, 17, 18, 19, 20, 21, 22, 23, 24, 25, 26, 27, 28, 29, 30, 31, 32, 11, 33, 34, 35, 36, 5, 37, 38, 39, 40, 41, 42, 43, 44, 45, 46, 47, 48, 49, 50, 51, 52, 53, 54, 55, 56, 57, 58, 59, 60, 61, 62, 7, 63, 64, 65, 66, 67, 68, 69, 70, 71, 1, 72, 73, 74, 75, 76, 77, 78, 79, 80, 81, 82, 83, 98, 99, 100, 101, 102, 103, 94, 95, 96, 97, 90, 91, 92, 93] (by decide +kernel) (by decide +kernel)
set_option maxRecDepth 20000 in
theorem gX3_find_X3_markAlong : GoodIn wsX3_find (wsV RX3 30 RX3 yX3_markAlong wsX3_markAlong) := goodIn_app (goodIn_of _ (by decide +kernel)) ggX3_find_X3_markAlong
set_option maxRecDepth 20000 in
theorem ggX3_find_X3_giveNumbers : GoodIn wsX3_find wsX3_giveNumbers := goodIn_r _ [87, 88, 1, 89, 90, 91, 92, 93] (by decide +kernel) (by decide +kernel)
set_option maxRecDepth 20000 in
theorem gX3_find_X3_giveNumbers : GoodIn wsX3_find (wsV RX3 34 RX3 yX3_giveNumbers wsX3_giveNumbers) := goodIn_app (goodIn_of _ (by decide +kernel)) ggX3_find_X3_giveNumbers
theorem dX3_find_0 : decode cX3_find 0 = .ok (.iconst 0, 1) := by decide +kernel
theorem dX3_find_1 : decode cX3_find 1 = .ok (.istore_n 3, 1) := by decide +kernel
theorem dX3_find_2 : decode cX3_find 2 = .ok (.iload_n 3, 1) := by decide +kernel
theorem dX3_find_3 : decode cX3_find 3 = .ok (.sipush 512, 3) := by decide +kernel
theorem dX3_find_6 : decode cX3_find 6 = .ok (.if_icmp .ge 16, 3) := by decide +kernel
theorem dX3_find_9 : decode cX3_find 9 = .ok (.aload_n 0, 1) := by decide +kernel
theorem dX3_find_10 : decode cX3_find 10 = .ok (.getfield 15, 3) := by decide +kernel
theorem dX3_find_13 : decode cX3_find 13 = .ok (.iload_n 3, 1) := by decide +kernel
theorem dX3_find_14 : decode cX3_find 14 = .ok (.iconst (-1), 1) := by decide +kernel
theorem dX3_find_15 : decode cX3_find 15 = .ok (.iastore, 1) := by decide +kernel
theorem dX3_find_16 : decode cX3_find 16 = .ok (.iinc 3 1, 3) := by decide +kernel
theorem dX3_find_19 : decode cX3_find 19 = .ok (.goto (-17), 3) := by decide +kernel
theorem dX3_find_22 : decode cX3_find 22 = .ok (.aload_n 1, 1) := by decide +kernel
theorem dX3_find_23 : decode cX3_find 23 = .ok (.invokevirtual 25, 3) := by decide +kernel
theorem dX3_find_26 : decode cX3_find 26 = .ok (.ifCond .ne 10, 3) := by decide +kernel
theorem dX3_find_29 : decode cX3_find 29 = .ok (.aload_n 0, 1) := by decide +kernel
theorem dX3_find_30 : decode cX3_find 30 = .ok (.getfield 15, 3) := by decide +kernel
theorem dX3_find_33 : decode cX3_find 33 = .ok (.iconst 0, 1) := by decide +kernel
theorem dX3_find_34 : decode cX3_find 34 = .ok (.iconst 0, 1) := by decide +kernel
theorem dX3_find_35 : decode cX3_find 35 = .ok (.iastore, 1) := by decide +kernel
theorem dX3_find_36 : decode cX3_find 36 = .ok (.iconst 0, 1) := by decide +kernel
theorem dX3_find_37 : decode cX3_find 37 = .ok (.istore_n 3, 1) := by decide +kernel
theorem dX3_find_38 : decode cX3_find 38 = .ok (.iload_n 3, 1) := by decide +kernel
theorem dX3_find_39 : decode cX3_find 39 = .ok (.aload_n 1, 1) := by decide +kernel
theorem dX3_find_40 : decode cX3_find 40 = .ok (.invokevirtual 25, 3) := by decide +kernel
theorem dX3_find_43 : decode cX3_find 43 = .ok (.if_icmp .ge 16, 3) := by decide +kernel
theorem dX3_find_46 : decode cX3_find 46 = .ok (.aload_n 0, 1) := by decide +kernel
theorem dX3_find_47 : decode cX3_find 47 = .ok (.aload_n 1, 1) := by decide +kernel
theorem dX3_find_48 : decode cX3_find 48 = .ok (.aload_n 2, 1) := by decide +kernel
theorem dX3_find_49 : decode cX3_find 49 = .ok (.iload_n 3, 1) := by decide +kernel
theorem dX3_find_50 : decode cX3_find 50 = .ok (.invokevirtual 30, 3) := by decide +kernel
theorem dX3_find_53 : decode cX3_find 53 = .ok (.iinc 3 1, 3) := by decide +kernel
theorem dX3_find_56 : decode cX3_find 56 = .ok (.goto (-18), 3) := by decide +kernel
theorem dX3_find_59 : decode cX3_find 59 = .ok (.aload_n 0, 1) := by decide +kernel
theorem dX3_find_60 : decode cX3_find 60 = .ok (.invokevirtual 34, 3) := by decide +kernel
theorem dX3_find_63 : decode cX3_find 63 = .ok (.return_, 1) := by decide +kernel
theorem dX3_giveNumbers_0 : decode cX3_giveNumbers 0 = .ok (.aload_n 0, 1) := by decide +kernel
theorem dX3_giveNumbers_1 : decode cX3_giveNumbers 1 = .ok (.iconst 0, 1) := by decide +kernel
theorem dX3_giveNumbers_2 : decode cX3_giveNumbers 2 = .ok (.putfield 21, 3) := by decide +kernel
theorem dX3_giveNumbers_5 : decode cX3_giveNumbers 5 = .ok (.iconst 0, 1) := by decide +kernel
theorem dX3_giveNumbers_6 : decode cX3_giveNumbers 6 = .ok (.istore_n 1, 1) := by decide +kernel
theorem dX3_giveNumbers_7 : decode cX3_giveNumbers 7 = .ok (.iload_n 1, 1) := by decide +kernel
theorem dX3_giveNumbers_8 : decode cX3_giveNumbers 8 = .ok (.sipush 512, 3) := by decide +kernel
theorem dX3_giveNumbers_11 : decode cX3_giveNumbers 11 = .ok (.if_icmp .ge 58, 3) := by decide +kernel
theorem dX3_giveNumbers_14 : decode cX3_giveNumbers 14 = .ok (.aload_n 0, 1) := by decide +kernel
theorem dX3_giveNumbers_15 : decode cX3_giveNumbers 15 = .ok (.getfield 15, 3) := by decide +kernel
theorem dX3_giveNumbers_18 : decode cX3_giveNumbers 18 = .ok (.iload_n 1, 1) := by decide +kernel
theorem dX3_giveNumbers_19 : decode cX3_giveNumbers 19 = .ok (.iaload, 1) := by decide +kernel
theorem dX3_giveNumbers_20 : decode cX3_giveNumbers 20 = .ok (.iconst (-1), 1) := by decide +kernel
theorem dX3_giveNumbers_21 : decode cX3_giveNumbers 21 = .ok (.if_icmp .eq 42, 3) := by decide +kernel
theorem dX3_giveNumbers_24 : decode cX3_giveNumbers 24 = .ok (.aload_n 0, 1) := by decide +kernel
theorem dX3_giveNumbers_25 : decode cX3_giveNumbers 25 = .ok (.getfield 21, 3) := by decide +kernel
theorem dX3_giveNumbers_28 : decode cX3_giveNumbers 28 = .ok (.bipush 46, 2) := by decide +kernel
theorem dX3_giveNumbers_30 : decode cX3_giveNumbers 30 = .ok (.if_icmp .ge 33, 3) := by decide +kernel
theorem dX3_giveNumbers_33 : decode cX3_giveNumbers 33 = .ok (.aload_n 0, 1) := by decide +kernel
theorem dX3_giveNumbers_34 : decode cX3_giveNumbers 34 = .ok (.getfield 15, 3) := by decide +kernel
theorem dX3_giveNumbers_37 : decode cX3_giveNumbers 37 = .ok (.iload_n 1, 1) := by decide +kernel
theorem dX3_giveNumbers_38 : decode cX3_giveNumbers 38 = .ok (.aload_n 0, 1) := by decide +kernel
theorem dX3_giveNumbers_39 : decode cX3_giveNumbers 39 = .ok (.getfield 21, 3) := by decide +kernel
theorem dX3_giveNumbers_42 : decode cX3_giveNumbers 42 = .ok (.iastore, 1) := by decide +kernel
theorem dX3_giveNumbers_43 : decode cX3_giveNumbers 43 = .ok (.aload_n 0, 1) := by decide +kernel
theorem dX3_giveNumbers_44 : decode cX3_giveNumbers 44 = .ok (.getfield 9, 3) := by decide +kernel
theorem dX3_giveNumbers_47 : decode cX3_giveNumbers 47 = .ok (.aload_n 0, 1) := by decide +kernel
theorem dX3_giveNumbers_48 : decode cX3_giveNumbers 48 = .ok (.getfield 21, 3) := by decide +kernel
theorem dX3_giveNumbers_51 : decode cX3_giveNumbers 51 = .ok (.iload_n 1, 1) := by decide +kernel
theorem dX3_giveNumbers_52 : decode cX3_giveNumbers 52 = .ok (.iastore, 1) := by decide +kernel
theorem dX3_giveNumbers_53 : decode cX3_giveNumbers 53 = .ok (.aload_n 0, 1) := by decide +kernel
theorem dX3_giveNumbers_54 : decode cX3_giveNumbers 54 = .ok (.dup, 1) := by decide +kernel
theorem dX3_giveNumbers_55 : decode cX3_giveNumbers 55 = .ok (.getfield 21, 3) := by decide +kernel
theorem dX3_giveNumbers_58 : decode cX3_giveNumbers 58 = .ok (.iconst 1, 1) := by decide +kernel
theorem dX3_giveNumbers_59 : decode cX3_giveNumbers 59 = .ok (.iadd, 1) := by decide +kernel
theorem dX3_giveNumbers_60 : decode cX3_giveNumbers 60 = .ok (.putfield 21, 3) := by decide +kernel
theorem dX3_giveNumbers_63 : decode cX3_giveNumbers 63 = .ok (.iinc 1 1, 3) := by decide +kernel
theorem dX3_giveNumbers_66 : decode cX3_giveNumbers 66 = .ok (.goto (-59), 3) := by decide +kernel
theorem dX3_giveNumbers_69 : decode cX3_giveNumbers 69 = .ok (.return_, 1) := by decide +kernel
set_option maxRecDepth 20000 in
theorem ggX3_markAlong_X2_count : GoodIn wsX3_markAlong wsX2_count := goodIn_r _ [5, 6, 76, 77, 78, 79, 80, 81] (by decide +kernel) (by decide +kernel)
set_option maxRecDepth 20000 in
theorem gX3_markAlong_X2_count : GoodIn wsX3_markAlong (wsV RX3 37 RX2 yX2_count wsX2_count) := goodIn_app (goodIn_of _ (by decide +kernel)) ggX3_markAlong_X2_count
set_option maxRecDepth 20000 in
theorem ggX3_markAlong_X2_isOn : GoodIn wsX3_markAlong wsX2_isOn := goodIn_r _ [10, 11, 12, 13, 14, 15, 16, 17, 76, 77, 78, 79, 80, 81] (by decide +kernel) (by decide +kernel)
set_option maxRecDepth 20000 in
theorem gX3_markAlong_X2_isOn : GoodIn wsX3_markAlong (wsV RX3 40 RX2 yX2_isOn wsX2_isOn) := goodIn_app (goodIn_of _ (by decide +kernel)) ggX3_markAlong_X2_isOn
set_option maxRecDepth 20000 in
theorem ggX3_markAlong_X3_markBeyond : GoodIn wsX3_markAlong wsX3_markBeyond := goodIn_r _ [22, 23, 24, 25, 26, 27, 28, 29, 30, 31, 32, 33, 34, 35, 36, 4, 37, 38, 39, 40, 41, 42, 43, 44, 45, 46, 47, 48, 49, 50, 51, 52, 53, 54, 55, 56, 57, 58, 16, 13, 17, 59, 60, 61, 21, 62, 63, 82, 83, 84, 85, 76, 77, 78, 79, 80, 81, 86, 87, 88, 89] (by decide +kernel) (by decide +kernel)
set_option maxRecDepth 20000 in
theorem gX3_markAlong_X3_markBeyond : GoodIn wsX3_markAlong (wsV RX3 44 RX3 yX3_markBeyond wsX3_markBeyond) := goodIn_app (goodIn_of _ (by decide +kernel)) ggX3_markAlong_X3_markBeyond
set_option maxRecDepth 20000 in
theorem ggX3_markAlong_X3_markBetween : GoodIn wsX3_markAlong wsX3_markBetween := goodIn_r _ [67, 39, 40, 41, 4, 42, 43, 34, 35, 36, 37, 38, 44, 45, 46, 47, 48, 49, 50, 51, 26, 52, 53, 54, 55, 56, 57, 33, 28, 58, 16, 13, 17, 59, 60, 61, 21, 62, 63, 76, 77, 78, 79, 80, 81, 82, 83, 84, 85, 86, 87, 88, 89] (by decide +kernel) (by decide +kernel)
set_option maxRecDepth 20000 in
theorem gX3_markAlong_X3_markBetween : GoodIn wsX3_markAlong (wsV RX3 48 RX3 yX3_markBetween wsX3_markBetween) := goodIn_app (goodIn_of _ (by decide +kernel)) ggX3_markAlong_X3_markBetween
set_option maxRecDepth 20000 in
theorem ggX3_markAlong_X3_markUncrossed : GoodIn wsX3_markAlong wsX3_markUncrossed := goodIn_r _ [71, 29, 30, 31, 26, 32, 33, 23, 24, 25, 27, 28, 72, 73, 74, 75, 58, 49, 50, 51, 52, 53, 54, 55, 56, 57, 16, 13, 17, 59, 60, 61, 21, 62, 63, 82, 83, 84, 85, 86, 87, 88, 89] (by decide +kernel) (by decide +kernel)
set_option maxRecDepth 20000 in
theorem gX3_markAlong_X3_markUncrossed : GoodIn wsX3_markAlong (wsV RX3 51 RX3 yX3_markUncrossed wsX3_markUncrossed) := goodIn_app (goodIn_of _ (by decide +kernel)) ggX3_markAlong_X3_markUncrossed
theorem dX3_markAlong_0 : decode cX3_markAlong 0 = .ok (.iconst (-1), 1) := by decide +kernel
theorem dX3_markAlong_1 : decode cX3_markAlong 1 = .ok (.istore 4, 2) := by decide +kernel
theorem dX3_markAlong_3 : decode cX3_markAlong 3 = .ok (.iconst 0, 1) := by decide +kernel
theorem dX3_markAlong_4 : decode cX3_markAlong 4 = .ok (.istore 5, 2) := by decide +kernel
theorem dX3_markAlong_6 : decode cX3_markAlong 6 = .ok (.iload 5, 2) := by decide +kernel
theorem dX3_markAlong_8 : decode cX3_markAlong 8 = .ok (.aload_n 2, 1) := by decide +kernel
theorem dX3_markAlong_9 : decode cX3_markAlong 9 = .ok (.invokevirtual 37, 3) := by decide +kernel
theorem dX3_markAlong_12 : decode cX3_markAlong 12 = .ok (.if_icmp .ge 56, 3) := by decide +kernel
theorem dX3_markAlong_15 : decode cX3_markAlong 15 = .ok (.aload_n 2, 1) := by decide +kernel
theorem dX3_markAlong_16 : decode cX3_markAlong 16 = .ok (.iload 5, 2) := by decide +kernel
theorem dX3_markAlong_18 : decode cX3_markAlong 18 = .ok (.iload_n 3, 1) := by decide +kernel
theorem dX3_markAlong_19 : decode cX3_markAlong 19 = .ok (.invokevirtual 40, 3) := by decide +kernel
theorem dX3_markAlong_22 : decode cX3_markAlong 22 = .ok (.ifCond .ne 6, 3) := by decide +kernel
theorem dX3_markAlong_25 : decode cX3_markAlong 25 = .ok (.goto 37, 3) := by decide +kernel
theorem dX3_markAlong_28 : decode cX3_markAlong 28 = .ok (.iload 4, 2) := by decide +kernel
theorem dX3_markAlong_30 : decode cX3_markAlong 30 = .ok (.iconst (-1), 1) := by decide +kernel
theorem dX3_markAlong_31 : decode cX3_markAlong 31 = .ok (.if_icmp .ne 16, 3) := by decide +kernel
theorem dX3_markAlong_34 : decode cX3_markAlong 34 = .ok (.aload_n 0, 1) := by decide +kernel
theorem dX3_markAlong_35 : decode cX3_markAlong 35 = .ok (.aload_n 1, 1) := by decide +kernel
theorem dX3_markAlong_36 : decode cX3_markAlong 36 = .ok (.aload_n 2, 1) := by decide +kernel
theorem dX3_markAlong_37 : decode cX3_markAlong 37 = .ok (.iload_n 3, 1) := by decide +kernel
theorem dX3_markAlong_38 : decode cX3_markAlong 38 = .ok (.iload 5, 2) := by decide +kernel
theorem dX3_markAlong_40 : decode cX3_markAlong 40 = .ok (.iconst (-1), 1) := by decide +kernel
theorem dX3_markAlong_41 : decode cX3_markAlong 41 = .ok (.invokevirtual 44, 3) := by decide +kernel
theorem dX3_markAlong_44 : decode cX3_markAlong 44 = .ok (.goto 14, 3) := by decide +kernel
theorem dX3_markAlong_47 : decode cX3_markAlong 47 = .ok (.aload_n 0, 1) := by decide +kernel
theorem dX3_markAlong_48 : decode cX3_markAlong 48 = .ok (.aload_n 1, 1) := by decide +kernel
theorem dX3_markAlong_49 : decode cX3_markAlong 49 = .ok (.aload_n 2, 1) := by decide +kernel
theorem dX3_markAlong_50 : decode cX3_markAlong 50 = .ok (.iload_n 3, 1) := by decide +kernel
theorem dX3_markAlong_51 : decode cX3_markAlong 51 = .ok (.iload 4, 2) := by decide +kernel
theorem dX3_markAlong_53 : decode cX3_markAlong 53 = .ok (.iload 5, 2) := by decide +kernel
theorem dX3_markAlong_55 : decode cX3_markAlong 55 = .ok (.invokevirtual 48, 3) := by decide +kernel
theorem dX3_markAlong_58 : decode cX3_markAlong 58 = .ok (.iload 5, 2) := by decide +kernel
theorem dX3_markAlong_60 : decode cX3_markAlong 60 = .ok (.istore 4, 2) := by decide +kernel
theorem dX3_markAlong_62 : decode cX3_markAlong 62 = .ok (.iinc 5 1, 3) := by decide +kernel
theorem dX3_markAlong_65 : decode cX3_markAlong 65 = .ok (.goto (-59), 3) := by decide +kernel
theorem dX3_markAlong_68 : decode cX3_markAlong 68 = .ok (.iload 4, 2) := by decide +kernel
theorem dX3_markAlong_70 : decode cX3_markAlong 70 = .ok (.iconst (-1), 1) := by decide +kernel
theorem dX3_markAlong_71 : decode cX3_markAlong 71 = .ok (.if_icmp .ne 12, 3) := by decide +kernel
theorem dX3_markAlong_74 : decode cX3_markAlong 74 = .ok (.aload_n 0, 1) := by decide +kernel
theorem dX3_markAlong_75 : decode cX3_markAlong 75 = .ok (.aload_n 1, 1) := by decide +kernel
theorem dX3_markAlong_76 : decode cX3_markAlong 76 = .ok (.iload_n 3, 1) := by decide +kernel
theorem dX3_markAlong_77 : decode cX3_markAlong 77 = .ok (.invokevirtual 51, 3) := by decide +kernel
theorem dX3_markAlong_80 : decode cX3_markAlong 80 = .ok (.goto 13, 3) := by decide +kernel
theorem dX3_markAlong_83 : decode cX3_markAlong 83 = .ok (.aload_n 0, 1) := by decide +kernel
theorem dX3_markAlong_84 : decode cX3_markAlong 84 = .ok (.aload_n 1, 1) := by decide +kernel
theorem dX3_markAlong_85 : decode cX3_markAlong 85 = .ok (.aload_n 2, 1) := by decide +kernel
theorem dX3_markAlong_86 : decode cX3_markAlong 86 = .ok (.iload_n 3, 1) := by decide +kernel
theorem dX3_markAlong_87 : decode cX3_markAlong 87 = .ok (.iload 4, 2) := by decide +kernel
theorem dX3_markAlong_89 : decode cX3_markAlong 89 = .ok (.iconst 1, 1) := by decide +kernel
theorem dX3_markAlong_90 : decode cX3_markAlong 90 = .ok (.invokevirtual 44, 3) := by decide +kernel
theorem dX3_markAlong_93 : decode cX3_markAlong 93 = .ok (.return_, 1) := by decide +kernel
set_option maxRecDepth 20000 in
theorem ggX3_markUncrossed_X1_a : GoodIn wsX3_markUncrossed wsX1_a := goodIn_r _ [5, 6, 35, 36, 37, 38] (by decide +kernel) (by decide +kernel)
set_option maxRecDepth 20000 in
theorem gX3_markUncrossed_X1_a : GoodIn wsX3_markUncrossed (wsV RX3 55 RX1 yX1_a wsX1_a) := goodIn_app (goodIn_of _ (by decide +kernel)) ggX3_markUncrossed_X1_a
set_option maxRecDepth 20000 in
theorem ggX3_markUncrossed_X1_b : GoodIn wsX3_markUncrossed wsX1_b := goodIn_r _ [10, 11, 35, 36, 37, 38] (by decide +kernel) (by decide +kernel)
set_option maxRecDepth 20000 in
theorem gX3_markUncrossed_X1_b : GoodIn wsX3_markUncrossed (wsV RX3 59 RX1 yX1_b wsX1_b) := goodIn_app (goodIn_of _ (by decide +kernel)) ggX3_markUncrossed_X1_b
set_option maxRecDepth 20000 in
theorem ggX3_markUncrossed_X1_c : GoodIn wsX3_markUncrossed wsX1_c := goodIn_r _ [15, 16, 35, 36, 37, 38] (by decide +kernel) (by decide +kernel)
set_option maxRecDepth 20000 in
theorem gX3_markUncrossed_X1_c : GoodIn wsX3_markUncrossed (wsV RX3 62 RX1 yX1_c wsX1_c) := goodIn_app (goodIn_of _ (by decide +kernel)) ggX3_markUncrossed_X1_c
set_option maxRecDepth 20000 in
theorem ggX3_markUncrossed_X1_setBelow : GoodIn wsX3_markUncrossed wsX1_setBelow := goodIn_r _ [20, 21, 22, 23, 24, 4, 25, 6, 11, 16, 26, 27, 28, 35, 36, 37, 38] (by decide +kernel) (by decide +kernel)
set_option maxRecDepth 20000 in
theorem gX3_markUncrossed_X1_setBelow : GoodIn wsX3_markUncrossed (wsV RX3 65 RX1 yX1_setBelow wsX1_setBelow) := goodIn_app (goodIn_of _ (by decide +kernel)) ggX3_markUncrossed_X1_setBelow
set_option maxRecDepth 20000 in
theorem ggX3_markUncrossed_X3_markBeside : GoodIn wsX3_markUncrossed wsX3_markBeside := goodIn_r _ [33, 34, 26, 27, 28, 39, 40, 41, 42] (by decide +kernel) (by decide +kernel)
set_option maxRecDepth 20000 in
theorem gX3_markUncrossed_X3_markBeside : GoodIn wsX3_markUncrossed (wsV RX3 69 RX3 yX3_markBeside wsX3_markBeside) := goodIn_app (goodIn_of _ (by decide +kernel)) ggX3_markUncrossed_X3_markBeside
theorem dX3_markUncrossed_0 : decode cX3_markUncrossed 0 = .ok (.aload_n 1, 1) := by decide +kernel
theorem dX3_markUncrossed_1 : decode cX3_markUncrossed 1 = .ok (.iload_n 2, 1) := by decide +kernel
theorem dX3_markUncrossed_2 : decode cX3_markUncrossed 2 = .ok (.invokevirtual 55, 3) := by decide +kernel
theorem dX3_markUncrossed_5 : decode cX3_markUncrossed 5 = .ok (.istore_n 3, 1) := by decide +kernel
theorem dX3_markUncrossed_6 : decode cX3_markUncrossed 6 = .ok (.aload_n 1, 1) := by decide +kernel
theorem dX3_markUncrossed_7 : decode cX3_markUncrossed 7 = .ok (.iload_n 2, 1) := by decide +kernel
theorem dX3_markUncrossed_8 : decode cX3_markUncrossed 8 = .ok (.invokevirtual 59, 3) := by decide +kernel
theorem dX3_markUncrossed_11 : decode cX3_markUncrossed 11 = .ok (.istore 4, 2) := by decide +kernel
theorem dX3_markUncrossed_13 : decode cX3_markUncrossed 13 = .ok (.aload_n 1, 1) := by decide +kernel
theorem dX3_markUncrossed_14 : decode cX3_markUncrossed 14 = .ok (.iload_n 2, 1) := by decide +kernel
theorem dX3_markUncrossed_15 : decode cX3_markUncrossed 15 = .ok (.invokevirtual 62, 3) := by decide +kernel
theorem dX3_markUncrossed_18 : decode cX3_markUncrossed 18 = .ok (.istore 5, 2) := by decide +kernel
theorem dX3_markUncrossed_20 : decode cX3_markUncrossed 20 = .ok (.aload_n 0, 1) := by decide +kernel
theorem dX3_markUncrossed_21 : decode cX3_markUncrossed 21 = .ok (.iload_n 2, 1) := by decide +kernel
theorem dX3_markUncrossed_22 : decode cX3_markUncrossed 22 = .ok (.aload_n 1, 1) := by decide +kernel
theorem dX3_markUncrossed_23 : decode cX3_markUncrossed 23 = .ok (.iload_n 3, 1) := by decide +kernel
theorem dX3_markUncrossed_24 : decode cX3_markUncrossed 24 = .ok (.iload 5, 2) := by decide +kernel
theorem dX3_markUncrossed_26 : decode cX3_markUncrossed 26 = .ok (.imul, 1) := by decide +kernel
theorem dX3_markUncrossed_27 : decode cX3_markUncrossed 27 = .ok (.iload 4, 2) := by decide +kernel
theorem dX3_markUncrossed_29 : decode cX3_markUncrossed 29 = .ok (.iload 5, 2) := by decide +kernel
theorem dX3_markUncrossed_31 : decode cX3_markUncrossed 31 = .ok (.imul, 1) := by decide +kernel
theorem dX3_markUncrossed_32 : decode cX3_markUncrossed 32 = .ok (.iload_n 3, 1) := by decide +kernel
theorem dX3_markUncrossed_33 : decode cX3_markUncrossed 33 = .ok (.iload_n 3, 1) := by decide +kernel
theorem dX3_markUncrossed_34 : decode cX3_markUncrossed 34 = .ok (.imul, 1) := by decide +kernel
theorem dX3_markUncrossed_35 : decode cX3_markUncrossed 35 = .ok (.iload 4, 2) := by decide +kernel
theorem dX3_markUncrossed_37 : decode cX3_markUncrossed 37 = .ok (.iload 4, 2) := by decide +kernel
theorem dX3_markUncrossed_39 : decode cX3_markUncrossed 39 = .ok (.imul, 1) := by decide +kernel
theorem dX3_markUncrossed_40 : decode cX3_markUncrossed 40 = .ok (.iadd, 1) := by decide +kernel
theorem dX3_markUncrossed_41 : decode cX3_markUncrossed 41 = .ok (.invokevirtual 65, 3) := by decide +kernel
theorem dX3_markUncrossed_44 : decode cX3_markUncrossed 44 = .ok (.invokevirtual 69, 3) := by decide +kernel
theorem dX3_markUncrossed_47 : decode cX3_markUncrossed 47 = .ok (.return_, 1) := by decide +kernel
set_option maxRecDepth 20000 in
theorem ggX3_markBetween_X2_x : GoodIn wsX3_markBetween wsX2_x := goodIn_r _ [5, 6, 39, 40, 41, 42, 43, 44] (by decide +kernel) (by decide +kernel)
set_option maxRecDepth 20000 in
theorem gX3_markBetween_X2_x : GoodIn wsX3_markBetween (wsV RX3 73 RX2 yX2_x wsX2_x) := goodIn_app (goodIn_of _ (by decide +kernel)) ggX3_markBetween_X2_x
set_option maxRecDepth 20000 in
theorem ggX3_markBetween_X2_d : GoodIn wsX3_markBetween wsX2_d := goodIn_r _ [10, 11, 39, 40, 41, 42, 43, 44] (by decide +kernel) (by decide +kernel)
set_option maxRecDepth 20000 in
theorem gX3_markBetween_X2_d : GoodIn wsX3_markBetween (wsV RX3 76 RX2 yX2_d wsX2_d) := goodIn_app (goodIn_of _ (by decide +kernel)) ggX3_markBetween_X2_d
set_option maxRecDepth 20000 in
theorem ggX3_markBetween_X2_y : GoodIn wsX3_markBetween wsX2_y := goodIn_r _ [15, 16, 39, 40, 41, 42, 43, 44] (by decide +kernel) (by decide +kernel)
set_option maxRecDepth 20000 in
theorem gX3_markBetween_X2_y : GoodIn wsX3_markBetween (wsV RX3 79 RX2 yX2_y wsX2_y) := goodIn_app (goodIn_of _ (by decide +kernel)) ggX3_markBetween_X2_y
set_option maxRecDepth 20000 in
theorem ggX3_markBetween_X1_setBelow : GoodIn wsX3_markBetween wsX1_setBelow := goodIn_r _ [21, 22, 23, 24, 25, 20, 26, 27, 28, 29, 30, 31, 32, 45, 46, 47, 48] (by decide +kernel) (by decide +kernel)
set_option maxRecDepth 20000 in
theorem gX3_markBetween_X1_setBelow : GoodIn wsX3_markBetween (wsV RX3 65 RX1 yX1_setBelow wsX1_setBelow) := goodIn_app (goodIn_of _ (by decide +kernel)) ggX3_markBetween_X1_setBelow
set_option maxRecDepth 20000 in
theorem ggX3_markBetween_X3_markBeside : GoodIn wsX3_markBetween wsX3_markBeside := goodIn_r _ [37, 38, 30, 31, 32, 49, 50, 51, 52] (by decide +kernel) (by decide +kernel)
set_option maxRecDepth 20000 in
theorem gX3_markBetween_X3_markBeside : GoodIn wsX3_markBetween (wsV RX3 69 RX3 yX3_markBeside wsX3_markBeside) := goodIn_app (goodIn_of _ (by decide +kernel)) ggX3_markBetween_X3_markBeside
theorem dX3_markBetween_0 : decode cX3_markBetween 0 = .ok (.aload_n 2, 1) := by decide +kernel
theorem dX3_markBetween_1 : decode cX3_markBetween 1 = .ok (.iload 4, 2) := by decide +kernel
theorem dX3_markBetween_3 : decode cX3_markBetween 3 = .ok (.invokevirtual 73, 3) := by decide +kernel
theorem dX3_markBetween_6 : decode cX3_markBetween 6 = .ok (.aload_n 2, 1) := by decide +kernel
theorem dX3_markBetween_7 : decode cX3_markBetween 7 = .ok (.iload 5, 2) := by decide +kernel
theorem dX3_markBetween_9 : decode cX3_markBetween 9 = .ok (.invokevirtual 76, 3) := by decide +kernel
theorem dX3_markBetween_12 : decode cX3_markBetween 12 = .ok (.imul, 1) := by decide +kernel
theorem dX3_markBetween_13 : decode cX3_markBetween 13 = .ok (.aload_n 2, 1) := by decide +kernel
theorem dX3_markBetween_14 : decode cX3_markBetween 14 = .ok (.iload 5, 2) := by decide +kernel
theorem dX3_markBetween_16 : decode cX3_markBetween 16 = .ok (.invokevirtual 73, 3) := by decide +kernel
theorem dX3_markBetween_19 : decode cX3_markBetween 19 = .ok (.aload_n 2, 1) := by decide +kernel
theorem dX3_markBetween_20 : decode cX3_markBetween 20 = .ok (.iload 4, 2) := by decide +kernel
theorem dX3_markBetween_22 : decode cX3_markBetween 22 = .ok (.invokevirtual 76, 3) := by decide +kernel
theorem dX3_markBetween_25 : decode cX3_markBetween 25 = .ok (.imul, 1) := by decide +kernel
theorem dX3_markBetween_26 : decode cX3_markBetween 26 = .ok (.iadd, 1) := by decide +kernel
theorem dX3_markBetween_27 : decode cX3_markBetween 27 = .ok (.istore 6, 2) := by decide +kernel
theorem dX3_markBetween_29 : decode cX3_markBetween 29 = .ok (.aload_n 2, 1) := by decide +kernel
theorem dX3_markBetween_30 : decode cX3_markBetween 30 = .ok (.iload 4, 2) := by decide +kernel
theorem dX3_markBetween_32 : decode cX3_markBetween 32 = .ok (.invokevirtual 79, 3) := by decide +kernel
theorem dX3_markBetween_35 : decode cX3_markBetween 35 = .ok (.aload_n 2, 1) := by decide +kernel
theorem dX3_markBetween_36 : decode cX3_markBetween 36 = .ok (.iload 5, 2) := by decide +kernel
theorem dX3_markBetween_38 : decode cX3_markBetween 38 = .ok (.invokevirtual 76, 3) := by decide +kernel
theorem dX3_markBetween_41 : decode cX3_markBetween 41 = .ok (.imul, 1) := by decide +kernel
theorem dX3_markBetween_42 : decode cX3_markBetween 42 = .ok (.aload_n 2, 1) := by decide +kernel
theorem dX3_markBetween_43 : decode cX3_markBetween 43 = .ok (.iload 5, 2) := by decide +kernel
theorem dX3_markBetween_45 : decode cX3_markBetween 45 = .ok (.invokevirtual 79, 3) := by decide +kernel
theorem dX3_markBetween_48 : decode cX3_markBetween 48 = .ok (.aload_n 2, 1) := by decide +kernel
theorem dX3_markBetween_49 : decode cX3_markBetween 49 = .ok (.iload 4, 2) := by decide +kernel
theorem dX3_markBetween_51 : decode cX3_markBetween 51 = .ok (.invokevirtual 76, 3) := by decide +kernel
theorem dX3_markBetween_54 : decode cX3_markBetween 54 = .ok (.imul, 1) := by decide +kernel
theorem dX3_markBetween_55 : decode cX3_markBetween 55 = .ok (.iadd, 1) := by decide +kernel
theorem dX3_markBetween_56 : decode cX3_markBetween 56 = .ok (.istore 7, 2) := by decide +kernel
theorem dX3_markBetween_58 : decode cX3_markBetween 58 = .ok (.aload_n 0, 1) := by decide +kernel
theorem dX3_markBetween_59 : decode cX3_markBetween 59 = .ok (.iload_n 3, 1) := by decide +kernel
theorem dX3_markBetween_60 : decode cX3_markBetween 60 = .ok (.aload_n 1, 1) := by decide +kernel
theorem dX3_markBetween_61 : decode cX3_markBetween 61 = .ok (.iload 6, 2) := by decide +kernel
theorem dX3_markBetween_63 : decode cX3_markBetween 63 = .ok (.iload 7, 2) := by decide +kernel
theorem dX3_markBetween_65 : decode cX3_markBetween 65 = .ok (.iconst 2, 1) := by decide +kernel
theorem dX3_markBetween_66 : decode cX3_markBetween 66 = .ok (.aload_n 2, 1) := by decide +kernel
theorem dX3_markBetween_67 : decode cX3_markBetween 67 = .ok (.iload 4, 2) := by decide +kernel
theorem dX3_markBetween_69 : decode cX3_markBetween 69 = .ok (.invokevirtual 76, 3) := by decide +kernel
theorem dX3_markBetween_72 : decode cX3_markBetween 72 = .ok (.imul, 1) := by decide +kernel
theorem dX3_markBetween_73 : decode cX3_markBetween 73 = .ok (.aload_n 2, 1) := by decide +kernel
theorem dX3_markBetween_74 : decode cX3_markBetween 74 = .ok (.iload 5, 2) := by decide +kernel
theorem dX3_markBetween_76 : decode cX3_markBetween 76 = .ok (.invokevirtual 76, 3) := by decide +kernel
theorem dX3_markBetween_79 : decode cX3_markBetween 79 = .ok (.imul, 1) := by decide +kernel
theorem dX3_markBetween_80 : decode cX3_markBetween 80 = .ok (.invokevirtual 65, 3) := by decide +kernel
theorem dX3_markBetween_83 : decode cX3_markBetween 83 = .ok (.invokevirtual 69, 3) := by decide +kernel
theorem dX3_markBetween_86 : decode cX3_markBetween 86 = .ok (.return_, 1) := by decide +kernel
set_option maxRecDepth 20000 in
theorem ggX3_markBeyond_X1_b : GoodIn wsX3_markBeyond wsX1_b := goodIn_r _ [5, 6, 47, 48, 49, 50] (by decide +kernel) (by decide +kernel)
set_option maxRecDepth 20000 in
theorem gX3_markBeyond_X1_b : GoodIn wsX3_markBeyond (wsV RX3 59 RX1 yX1_b wsX1_b) := goodIn_app (goodIn_of _ (by decide +kernel)) ggX3_markBeyond_X1_b
set_option maxRecDepth 20000 in
theorem ggX3_markBeyond_X1_a : GoodIn wsX3_markBeyond wsX1_a := goodIn_r _ [10, 11, 47, 48, 49, 50] (by decide +kernel) (by decide +kernel)
set_option maxRecDepth 20000 in
theorem gX3_markBeyond_X1_a : GoodIn wsX3_markBeyond (wsV RX3 55 RX1 yX1_a wsX1_a) := goodIn_app (goodIn_of _ (by decide +kernel)) ggX3_markBeyond_X1_a
set_option maxRecDepth 20000 in
theorem ggX3_markBeyond_X2_d : GoodIn wsX3_markBeyond wsX2_d := goodIn_r _ [16, 17, 51, 52, 53, 54, 55, 56] (by decide +kernel) (by decide +kernel)
set_option maxRecDepth 20000 in
theorem gX3_markBeyond_X2_d : GoodIn wsX3_markBeyond (wsV RX3 76 RX2 yX2_d wsX2_d) := goodIn_app (goodIn_of _ (by decide +kernel)) ggX3_markBeyond_X2_d
set_option maxRecDepth 20000 in
theorem ggX3_markBeyond_X2_x : GoodIn wsX3_markBeyond wsX2_x := goodIn_r _ [21, 22, 51, 52, 53, 54, 55, 56] (by decide +kernel) (by decide +kernel)
set_option maxRecDepth 20000 in
theorem gX3_markBeyond_X2_x : GoodIn wsX3_markBeyond (wsV RX3 73 RX2 yX2_x wsX2_x) := goodIn_app (goodIn_of _ (by decide +kernel)) ggX3_markBeyond_X2_x
set_option maxRecDepth 20000 in
theorem ggX3_markBeyond_X2_y : GoodIn wsX3_markBeyond wsX2_y := goodIn_r _ [26, 27, 51, 52, 53, 54, 55, 56] (by decide +kernel) (by decide +kernel)
set_option maxRecDepth 20000 in
theorem gX3_markBeyond_X2_y : GoodIn wsX3_markBeyond (wsV RX3 79 RX2 yX2_y wsX2_y) := goodIn_app (goodIn_of _ (by decide +kernel)) ggX3_markBeyond_X2_y
set_option maxRecDepth 20000 in
theorem ggX3_markBeyond_X1_setBelow : GoodIn wsX3_markBeyond wsX1_setBelow := goodIn_r _ [31, 32, 33, 34, 35, 4, 36, 11, 6, 37, 38, 39, 40, 47, 48, 49, 50] (by decide +kernel) (by decide +kernel)
set_option maxRecDepth 20000 in
theorem gX3_markBeyond_X1_setBelow : GoodIn wsX3_markBeyond (wsV RX3 65 RX1 yX1_setBelow wsX1_setBelow) := goodIn_app (goodIn_of _ (by decide +kernel)) ggX3_markBeyond_X1_setBelow
set_option maxRecDepth 20000 in
theorem ggX3_markBeyond_X3_markBeside : GoodIn wsX3_markBeyond wsX3_markBeside := goodIn_r _ [45, 46, 38, 39, 40, 57, 58, 59, 60] (by decide +kernel) (by decide +kernel)
set_option maxRecDepth 20000 in
theorem gX3_markBeyond_X3_markBeside : GoodIn wsX3_markBeyond (wsV RX3 69 RX3 yX3_markBeside wsX3_markBeside) := goodIn_app (goodIn_of _ (by decide +kernel)) ggX3_markBeyond_X3_markBeside
theorem dX3_markBeyond_0 : decode cX3_markBeyond 0 = .ok (.aload_n 1, 1) := by decide +kernel
theorem dX3_markBeyond_1 : decode cX3_markBeyond 1 = .ok (.iload_n 3, 1) := by decide +kernel
theorem dX3_markBeyond_2 : decode cX3_markBeyond 2 = .ok (.invokevirtual 59, 3) := by decide +kernel
theorem dX3_markBeyond_5 : decode cX3_markBeyond 5 = .ok (.istore 6, 2) := by decide +kernel
theorem dX3_markBeyond_7 : decode cX3_markBeyond 7 = .ok (.aload_n 1, 1) := by decide +kernel
theorem dX3_markBeyond_8 : decode cX3_markBeyond 8 = .ok (.iload_n 3, 1) := by decide +kernel
theorem dX3_markBeyond_9 : decode cX3_markBeyond 9 = .ok (.invokevirtual 55, 3) := by decide +kernel
theorem dX3_markBeyond_12 : decode cX3_markBeyond 12 = .ok (.ineg, 1) := by decide +kernel
theorem dX3_markBeyond_13 : decode cX3_markBeyond 13 = .ok (.istore 7, 2) := by decide +kernel
theorem dX3_markBeyond_15 : decode cX3_markBeyond 15 = .ok (.iload 6, 2) := by decide +kernel
theorem dX3_markBeyond_17 : decode cX3_markBeyond 17 = .ok (.ifCond .eq 16, 3) := by decide +kernel
theorem dX3_markBeyond_20 : decode cX3_markBeyond 20 = .ok (.iload 6, 2) := by decide +kernel
theorem dX3_markBeyond_22 : decode cX3_markBeyond 22 = .ok (.ifCond .le 7, 3) := by decide +kernel
theorem dX3_markBeyond_25 : decode cX3_markBeyond 25 = .ok (.iconst 1, 1) := by decide +kernel
theorem dX3_markBeyond_26 : decode cX3_markBeyond 26 = .ok (.goto 17, 3) := by decide +kernel
theorem dX3_markBeyond_29 : decode cX3_markBeyond 29 = .ok (.iconst 0, 1) := by decide +kernel
theorem dX3_markBeyond_30 : decode cX3_markBeyond 30 = .ok (.goto 13, 3) := by decide +kernel
theorem dX3_markBeyond_33 : decode cX3_markBeyond 33 = .ok (.iload 7, 2) := by decide +kernel
theorem dX3_markBeyond_35 : decode cX3_markBeyond 35 = .ok (.ifCond .le 7, 3) := by decide +kernel
theorem dX3_markBeyond_38 : decode cX3_markBeyond 38 = .ok (.iconst 1, 1) := by decide +kernel
theorem dX3_markBeyond_39 : decode cX3_markBeyond 39 = .ok (.goto 4, 3) := by decide +kernel
theorem dX3_markBeyond_42 : decode cX3_markBeyond 42 = .ok (.iconst 0, 1) := by decide +kernel
theorem dX3_markBeyond_43 : decode cX3_markBeyond 43 = .ok (.istore 8, 2) := by decide +kernel
theorem dX3_markBeyond_45 : decode cX3_markBeyond 45 = .ok (.iload 8, 2) := by decide +kernel
theorem dX3_markBeyond_47 : decode cX3_markBeyond 47 = .ok (.ifCond .eq 8, 3) := by decide +kernel
theorem dX3_markBeyond_50 : decode cX3_markBeyond 50 = .ok (.iload 5, 2) := by decide +kernel
theorem dX3_markBeyond_52 : decode cX3_markBeyond 52 = .ok (.goto 6, 3) := by decide +kernel
theorem dX3_markBeyond_55 : decode cX3_markBeyond 55 = .ok (.iload 5, 2) := by decide +kernel
theorem dX3_markBeyond_57 : decode cX3_markBeyond 57 = .ok (.ineg, 1) := by decide +kernel
theorem dX3_markBeyond_58 : decode cX3_markBeyond 58 = .ok (.aload_n 2, 1) := by decide +kernel
theorem dX3_markBeyond_59 : decode cX3_markBeyond 59 = .ok (.iload 4, 2) := by decide +kernel
theorem dX3_markBeyond_61 : decode cX3_markBeyond 61 = .ok (.invokevirtual 76, 3) := by decide +kernel
theorem dX3_markBeyond_64 : decode cX3_markBeyond 64 = .ok (.imul, 1) := by decide +kernel
theorem dX3_markBeyond_65 : decode cX3_markBeyond 65 = .ok (.istore 9, 2) := by decide +kernel
theorem dX3_markBeyond_67 : decode cX3_markBeyond 67 = .ok (.aload_n 2, 1) := by decide +kernel
theorem dX3_markBeyond_68 : decode cX3_markBeyond 68 = .ok (.iload 4, 2) := by decide +kernel
theorem dX3_markBeyond_70 : decode cX3_markBeyond 70 = .ok (.invokevirtual 73, 3) := by decide +kernel
theorem dX3_markBeyond_73 : decode cX3_markBeyond 73 = .ok (.iload 9, 2) := by decide +kernel
theorem dX3_markBeyond_75 : decode cX3_markBeyond 75 = .ok (.iload 6, 2) := by decide +kernel
theorem dX3_markBeyond_77 : decode cX3_markBeyond 77 = .ok (.imul, 1) := by decide +kernel
theorem dX3_markBeyond_78 : decode cX3_markBeyond 78 = .ok (.iadd, 1) := by decide +kernel
theorem dX3_markBeyond_79 : decode cX3_markBeyond 79 = .ok (.istore 10, 2) := by decide +kernel
theorem dX3_markBeyond_81 : decode cX3_markBeyond 81 = .ok (.aload_n 2, 1) := by decide +kernel
theorem dX3_markBeyond_82 : decode cX3_markBeyond 82 = .ok (.iload 4, 2) := by decide +kernel
theorem dX3_markBeyond_84 : decode cX3_markBeyond 84 = .ok (.invokevirtual 79, 3) := by decide +kernel
theorem dX3_markBeyond_87 : decode cX3_markBeyond 87 = .ok (.iload 9, 2) := by decide +kernel
theorem dX3_markBeyond_89 : decode cX3_markBeyond 89 = .ok (.iload 7, 2) := by decide +kernel
theorem dX3_markBeyond_91 : decode cX3_markBeyond 91 = .ok (.imul, 1) := by decide +kernel
theorem dX3_markBeyond_92 : decode cX3_markBeyond 92 = .ok (.iadd, 1) := by decide +kernel
theorem dX3_markBeyond_93 : decode cX3_markBeyond 93 = .ok (.istore 11, 2) := by decide +kernel
theorem dX3_markBeyond_95 : decode cX3_markBeyond 95 = .ok (.aload_n 0, 1) := by decide +kernel
theorem dX3_markBeyond_96 : decode cX3_markBeyond 96 = .ok (.iload_n 3, 1) := by decide +kernel
theorem dX3_markBeyond_97 : decode cX3_markBeyond 97 = .ok (.aload_n 1, 1) := by decide +kernel
theorem dX3_markBeyond_98 : decode cX3_markBeyond 98 = .ok (.iload 10, 2) := by decide +kernel
theorem dX3_markBeyond_100 : decode cX3_markBeyond 100 = .ok (.iload 11, 2) := by decide +kernel
theorem dX3_markBeyond_102 : decode cX3_markBeyond 102 = .ok (.aload_n 2, 1) := by decide +kernel
theorem dX3_markBeyond_103 : decode cX3_markBeyond 103 = .ok (.iload 4, 2) := by decide +kernel
theorem dX3_markBeyond_105 : decode cX3_markBeyond 105 = .ok (.invokevirtual 76, 3) := by decide +kernel
theorem dX3_markBeyond_108 : decode cX3_markBeyond 108 = .ok (.invokevirtual 65, 3) := by decide +kernel
theorem dX3_markBeyond_111 : decode cX3_markBeyond 111 = .ok (.invokevirtual 69, 3) := by decide +kernel
theorem dX3_markBeyond_114 : decode cX3_markBeyond 114 = .ok (.return_, 1) := by decide +kernel
set_option maxRecDepth 20000 in
theorem ggX3_markBeside_X4_bit : GoodIn wsX3_markBeside wsX4_bit := goodIn_r _ [4] (by decide +kernel) (by decide +kernel)
set_option maxRecDepth 20000 in
theorem gX3_markBeside_X4_bit_n82 : GoodIn wsX3_markBeside (wsX4_bit) := ggX3_markBeside_X4_bit
theorem dX3_markBeside_0 : decode cX3_markBeside 0 = .ok (.aload_n 0, 1) := by decide +kernel
theorem dX3_markBeside_1 : decode cX3_markBeside 1 = .ok (.getfield 15, 3) := by decide +kernel
theorem dX3_markBeside_4 : decode cX3_markBeside 4 = .ok (.iload_n 2, 1) := by decide +kernel
theorem dX3_markBeside_5 : decode cX3_markBeside 5 = .ok (.iconst 0, 1) := by decide +kernel
theorem dX3_markBeside_6 : decode cX3_markBeside 6 = .ok (.iastore, 1) := by decide +kernel
theorem dX3_markBeside_7 : decode cX3_markBeside 7 = .ok (.aload_n 0, 1) := by decide +kernel
theorem dX3_markBeside_8 : decode cX3_markBeside 8 = .ok (.getfield 15, 3) := by decide +kernel
theorem dX3_markBeside_11 : decode cX3_markBeside 11 = .ok (.iload_n 2, 1) := by decide +kernel
theorem dX3_markBeside_12 : decode cX3_markBeside 12 = .ok (.iload_n 1, 1) := by decide +kernel
theorem dX3_markBeside_13 : decode cX3_markBeside 13 = .ok (.invokestatic 82, 3) := by decide +kernel
theorem dX3_markBeside_16 : decode cX3_markBeside 16 = .ok (.ior, 1) := by decide +kernel
theorem dX3_markBeside_17 : decode cX3_markBeside 17 = .ok (.iconst 0, 1) := by decide +kernel
theorem dX3_markBeside_18 : decode cX3_markBeside 18 = .ok (.iastore, 1) := by decide +kernel
theorem dX3_markBeside_19 : decode cX3_markBeside 19 = .ok (.return_, 1) := by decide +kernel
set_option maxRecDepth 20000 in
theorem ggX3_isBounded_X1_count : GoodIn wsX3_isBounded wsX1_count := goodIn_r _ [6, 7, 32, 33, 34, 35] (by decide +kernel) (by decide +kernel)
set_option maxRecDepth 20000 in
theorem gX3_isBounded_X1_count : GoodIn wsX3_isBounded (wsV RX3 25 RX1 yX1_count wsX1_count) := goodIn_app (goodIn_of _ (by decide +kernel)) ggX3_isBounded_X1_count
set_option maxRecDepth 20000 in
theorem ggX3_isBounded_X1_b : GoodIn wsX3_isBounded wsX1_b := goodIn_r _ [11, 12, 32, 33, 34, 35] (by decide +kernel) (by decide +kernel)
set_option maxRecDepth 20000 in
theorem gX3_isBounded_X1_b : GoodIn wsX3_isBounded (wsV RX3 59 RX1 yX1_b wsX1_b) := goodIn_app (goodIn_of _ (by decide +kernel)) ggX3_isBounded_X1_b
set_option maxRecDepth 20000 in
theorem ggX3_isBounded_X1_a : GoodIn wsX3_isBounded wsX1_a := goodIn_r _ [16, 17, 32, 33, 34, 35] (by decide +kernel) (by decide +kernel)
set_option maxRecDepth 20000 in
theorem gX3_isBounded_X1_a : GoodIn wsX3_isBounded (wsV RX3 55 RX1 yX1_a wsX1_a) := goodIn_app (goodIn_of _ (by decide +kernel)) ggX3_isBounded_X1_a
set_option maxRecDepth 20000 in
theorem ggX3_isBounded_X1_staysIn : GoodIn wsX3_isBounded wsX1_staysIn := goodIn_r _ [21, 7, 17, 12, 22, 23, 24, 25, 26, 27, 32, 33, 34, 35] (by decide +kernel) (by decide +kernel)
set_option maxRecDepth 20000 in
theorem gX3_isBounded_X1_staysIn : GoodIn wsX3_isBounded (wsV RX3 85 RX1 yX1_staysIn wsX1_staysIn) := goodIn_app (goodIn_of _ (by decide +kernel)) ggX3_isBounded_X1_staysIn
theorem dX3_isBounded_0 : decode cX3_isBounded 0 = .ok (.iconst 0, 1) := by decide +kernel
theorem dX3_isBounded_1 : decode cX3_isBounded 1 = .ok (.istore_n 3, 1) := by decide +kernel
theorem dX3_isBounded_2 : decode cX3_isBounded 2 = .ok (.iload_n 3, 1) := by decide +kernel
theorem dX3_isBounded_3 : decode cX3_isBounded 3 = .ok (.aload_n 1, 1) := by decide +kernel
theorem dX3_isBounded_4 : decode cX3_isBounded 4 = .ok (.invokevirtual 25, 3) := by decide +kernel
theorem dX3_isBounded_7 : decode cX3_isBounded 7 = .ok (.if_icmp .ge 62, 3) := by decide +kernel
theorem dX3_isBounded_10 : decode cX3_isBounded 10 = .ok (.aload_n 1, 1) := by decide +kernel
theorem dX3_isBounded_11 : decode cX3_isBounded 11 = .ok (.iload_n 3, 1) := by decide +kernel
theorem dX3_isBounded_12 : decode cX3_isBounded 12 = .ok (.invokevirtual 59, 3) := by decide +kernel
theorem dX3_isBounded_15 : decode cX3_isBounded 15 = .ok (.istore 4, 2) := by decide +kernel
theorem dX3_isBounded_17 : decode cX3_isBounded 17 = .ok (.aload_n 1, 1) := by decide +kernel
theorem dX3_isBounded_18 : decode cX3_isBounded 18 = .ok (.iload_n 3, 1) := by decide +kernel
theorem dX3_isBounded_19 : decode cX3_isBounded 19 = .ok (.invokevirtual 55, 3) := by decide +kernel
theorem dX3_isBounded_22 : decode cX3_isBounded 22 = .ok (.ineg, 1) := by decide +kernel
theorem dX3_isBounded_23 : decode cX3_isBounded 23 = .ok (.istore 5, 2) := by decide +kernel
theorem dX3_isBounded_25 : decode cX3_isBounded 25 = .ok (.aload_n 1, 1) := by decide +kernel
theorem dX3_isBounded_26 : decode cX3_isBounded 26 = .ok (.aload_n 0, 1) := by decide +kernel
theorem dX3_isBounded_27 : decode cX3_isBounded 27 = .ok (.getfield 9, 3) := by decide +kernel
theorem dX3_isBounded_30 : decode cX3_isBounded 30 = .ok (.iload_n 2, 1) := by decide +kernel
theorem dX3_isBounded_31 : decode cX3_isBounded 31 = .ok (.iaload, 1) := by decide +kernel
theorem dX3_isBounded_32 : decode cX3_isBounded 32 = .ok (.iload 4, 2) := by decide +kernel
theorem dX3_isBounded_34 : decode cX3_isBounded 34 = .ok (.iload 5, 2) := by decide +kernel
theorem dX3_isBounded_36 : decode cX3_isBounded 36 = .ok (.invokevirtual 85, 3) := by decide +kernel
theorem dX3_isBounded_39 : decode cX3_isBounded 39 = .ok (.ifCond .ne 22, 3) := by decide +kernel
theorem dX3_isBounded_42 : decode cX3_isBounded 42 = .ok (.aload_n 1, 1) := by decide +kernel
theorem dX3_isBounded_43 : decode cX3_isBounded 43 = .ok (.aload_n 0, 1) := by decide +kernel
theorem dX3_isBounded_44 : decode cX3_isBounded 44 = .ok (.getfield 9, 3) := by decide +kernel
theorem dX3_isBounded_47 : decode cX3_isBounded 47 = .ok (.iload_n 2, 1) := by decide +kernel
theorem dX3_isBounded_48 : decode cX3_isBounded 48 = .ok (.iaload, 1) := by decide +kernel
theorem dX3_isBounded_49 : decode cX3_isBounded 49 = .ok (.iload 4, 2) := by decide +kernel
theorem dX3_isBounded_51 : decode cX3_isBounded 51 = .ok (.ineg, 1) := by decide +kernel
theorem dX3_isBounded_52 : decode cX3_isBounded 52 = .ok (.iload 5, 2) := by decide +kernel
theorem dX3_isBounded_54 : decode cX3_isBounded 54 = .ok (.ineg, 1) := by decide +kernel
theorem dX3_isBounded_55 : decode cX3_isBounded 55 = .ok (.invokevirtual 85, 3) := by decide +kernel
theorem dX3_isBounded_58 : decode cX3_isBounded 58 = .ok (.ifCond .eq 5, 3) := by decide +kernel
theorem dX3_isBounded_61 : decode cX3_isBounded 61 = .ok (.iconst 0, 1) := by decide +kernel
theorem dX3_isBounded_62 : decode cX3_isBounded 62 = .ok (.ireturn, 1) := by decide +kernel
theorem dX3_isBounded_63 : decode cX3_isBounded 63 = .ok (.iinc 3 1, 3) := by decide +kernel
theorem dX3_isBounded_66 : decode cX3_isBounded 66 = .ok (.goto (-64), 3) := by decide +kernel
theorem dX3_isBounded_69 : decode cX3_isBounded 69 = .ok (.aload_n 1, 1) := by decide +kernel
theorem dX3_isBounded_70 : decode cX3_isBounded 70 = .ok (.invokevirtual 25, 3) := by decide +kernel
theorem dX3_isBounded_73 : decode cX3_isBounded 73 = .ok (.ifCond .le 7, 3) := by decide +kernel
theorem dX3_isBounded_76 : decode cX3_isBounded 76 = .ok (.iconst 1, 1) := by decide +kernel
theorem dX3_isBounded_77 : decode cX3_isBounded 77 = .ok (.goto 4, 3) := by decide +kernel
theorem dX3_isBounded_80 : decode cX3_isBounded 80 = .ok (.iconst 0, 1) := by decide +kernel
theorem dX3_isBounded_81 : decode cX3_isBounded 81 = .ok (.ireturn, 1) := by decide +kernel
set_option maxRecDepth 20000 in
theorem ggX3_hasBound_X1_count : GoodIn wsX3_hasBound wsX1_count := goodIn_r _ [6, 7, 32, 33, 34, 35] (by decide +kernel) (by decide +kernel)
set_option maxRecDepth 20000 in
theorem gX3_hasBound_X1_count : GoodIn wsX3_hasBound (wsV RX3 25 RX1 yX1_count wsX1_count) := goodIn_app (goodIn_of _ (by decide +kernel)) ggX3_hasBound_X1_count
set_option maxRecDepth 20000 in
theorem ggX3_hasBound_X1_b : GoodIn wsX3_hasBound wsX1_b := goodIn_r _ [11, 12, 32, 33, 34, 35] (by decide +kernel) (by decide +kernel)
set_option maxRecDepth 20000 in
theorem gX3_hasBound_X1_b : GoodIn wsX3_hasBound (wsV RX3 59 RX1 yX1_b wsX1_b) := goodIn_app (goodIn_of _ (by decide +kernel)) ggX3_hasBound_X1_b
set_option maxRecDepth 20000 in
theorem ggX3_hasBound_X1_a : GoodIn wsX3_hasBound wsX1_a := goodIn_r _ [16, 17, 32, 33, 34, 35] (by decide +kernel) (by decide +kernel)
set_option maxRecDepth 20000 in
theorem gX3_hasBound_X1_a : GoodIn wsX3_hasBound (wsV RX3 55 RX1 yX1_a wsX1_a) := goodIn_app (goodIn_of _ (by decide +kernel)) ggX3_hasBound_X1_a
set_option maxRecDepth 20000 in
theorem ggX3_hasBound_X1_staysIn : GoodIn wsX3_hasBound wsX1_staysIn := goodIn_r _ [21, 7, 17, 12, 22, 23, 24, 25, 26, 27, 32, 33, 34, 35] (by decide +kernel) (by decide +kernel)
set_option maxRecDepth 20000 in
theorem gX3_hasBound_X1_staysIn : GoodIn wsX3_hasBound (wsV RX3 85 RX1 yX1_staysIn wsX1_staysIn) := goodIn_app (goodIn_of _ (by decide +kernel)) ggX3_hasBound_X1_staysIn
theorem dX3_hasBound_0 : decode cX3_hasBound 0 = .ok (.iconst 0, 1) := by decide +kernel
theorem dX3_hasBound_1 : decode cX3_hasBound 1 = .ok (.istore 5, 2) := by decide +kernel
theorem dX3_hasBound_3 : decode cX3_hasBound 3 = .ok (.iload 5, 2) := by decide +kernel
theorem dX3_hasBound_5 : decode cX3_hasBound 5 = .ok (.aload_n 1, 1) := by decide +kernel
theorem dX3_hasBound_6 : decode cX3_hasBound 6 = .ok (.invokevirtual 25, 3) := by decide +kernel
theorem dX3_hasBound_9 : decode cX3_hasBound 9 = .ok (.if_icmp .ge 88, 3) := by decide +kernel
theorem dX3_hasBound_12 : decode cX3_hasBound 12 = .ok (.aload_n 1, 1) := by decide +kernel
theorem dX3_hasBound_13 : decode cX3_hasBound 13 = .ok (.iload 5, 2) := by decide +kernel
theorem dX3_hasBound_15 : decode cX3_hasBound 15 = .ok (.invokevirtual 59, 3) := by decide +kernel
theorem dX3_hasBound_18 : decode cX3_hasBound 18 = .ok (.istore 6, 2) := by decide +kernel
theorem dX3_hasBound_20 : decode cX3_hasBound 20 = .ok (.aload_n 1, 1) := by decide +kernel
theorem dX3_hasBound_21 : decode cX3_hasBound 21 = .ok (.iload 5, 2) := by decide +kernel
theorem dX3_hasBound_23 : decode cX3_hasBound 23 = .ok (.invokevirtual 55, 3) := by decide +kernel
theorem dX3_hasBound_26 : decode cX3_hasBound 26 = .ok (.ineg, 1) := by decide +kernel
theorem dX3_hasBound_27 : decode cX3_hasBound 27 = .ok (.istore 7, 2) := by decide +kernel
theorem dX3_hasBound_29 : decode cX3_hasBound 29 = .ok (.iload_n 3, 1) := by decide +kernel
theorem dX3_hasBound_30 : decode cX3_hasBound 30 = .ok (.iload 6, 2) := by decide +kernel
theorem dX3_hasBound_32 : decode cX3_hasBound 32 = .ok (.imul, 1) := by decide +kernel
theorem dX3_hasBound_33 : decode cX3_hasBound 33 = .ok (.iload 4, 2) := by decide +kernel
theorem dX3_hasBound_35 : decode cX3_hasBound 35 = .ok (.iload 7, 2) := by decide +kernel
theorem dX3_hasBound_37 : decode cX3_hasBound 37 = .ok (.imul, 1) := by decide +kernel
theorem dX3_hasBound_38 : decode cX3_hasBound 38 = .ok (.iadd, 1) := by decide +kernel
theorem dX3_hasBound_39 : decode cX3_hasBound 39 = .ok (.istore 8, 2) := by decide +kernel
theorem dX3_hasBound_41 : decode cX3_hasBound 41 = .ok (.iload 8, 2) := by decide +kernel
theorem dX3_hasBound_43 : decode cX3_hasBound 43 = .ok (.ifCond .le 22, 3) := by decide +kernel
theorem dX3_hasBound_46 : decode cX3_hasBound 46 = .ok (.aload_n 1, 1) := by decide +kernel
theorem dX3_hasBound_47 : decode cX3_hasBound 47 = .ok (.aload_n 0, 1) := by decide +kernel
theorem dX3_hasBound_48 : decode cX3_hasBound 48 = .ok (.getfield 9, 3) := by decide +kernel
theorem dX3_hasBound_51 : decode cX3_hasBound 51 = .ok (.iload_n 2, 1) := by decide +kernel
theorem dX3_hasBound_52 : decode cX3_hasBound 52 = .ok (.iaload, 1) := by decide +kernel
theorem dX3_hasBound_53 : decode cX3_hasBound 53 = .ok (.iload 6, 2) := by decide +kernel
theorem dX3_hasBound_55 : decode cX3_hasBound 55 = .ok (.iload 7, 2) := by decide +kernel
theorem dX3_hasBound_57 : decode cX3_hasBound 57 = .ok (.invokevirtual 85, 3) := by decide +kernel
theorem dX3_hasBound_60 : decode cX3_hasBound 60 = .ok (.ifCond .eq 5, 3) := by decide +kernel
theorem dX3_hasBound_63 : decode cX3_hasBound 63 = .ok (.iconst 0, 1) := by decide +kernel
theorem dX3_hasBound_64 : decode cX3_hasBound 64 = .ok (.ireturn, 1) := by decide +kernel
theorem dX3_hasBound_65 : decode cX3_hasBound 65 = .ok (.iload 8, 2) := by decide +kernel
theorem dX3_hasBound_67 : decode cX3_hasBound 67 = .ok (.ifCond .ge 24, 3) := by decide +kernel
theorem dX3_hasBound_70 : decode cX3_hasBound 70 = .ok (.aload_n 1, 1) := by decide +kernel
theorem dX3_hasBound_71 : decode cX3_hasBound 71 = .ok (.aload_n 0, 1) := by decide +kernel
theorem dX3_hasBound_72 : decode cX3_hasBound 72 = .ok (.getfield 9, 3) := by decide +kernel
theorem dX3_hasBound_75 : decode cX3_hasBound 75 = .ok (.iload_n 2, 1) := by decide +kernel
theorem dX3_hasBound_76 : decode cX3_hasBound 76 = .ok (.iaload, 1) := by decide +kernel
theorem dX3_hasBound_77 : decode cX3_hasBound 77 = .ok (.iload 6, 2) := by decide +kernel
theorem dX3_hasBound_79 : decode cX3_hasBound 79 = .ok (.ineg, 1) := by decide +kernel
theorem dX3_hasBound_80 : decode cX3_hasBound 80 = .ok (.iload 7, 2) := by decide +kernel
theorem dX3_hasBound_82 : decode cX3_hasBound 82 = .ok (.ineg, 1) := by decide +kernel
theorem dX3_hasBound_83 : decode cX3_hasBound 83 = .ok (.invokevirtual 85, 3) := by decide +kernel
theorem dX3_hasBound_86 : decode cX3_hasBound 86 = .ok (.ifCond .eq 5, 3) := by decide +kernel
theorem dX3_hasBound_89 : decode cX3_hasBound 89 = .ok (.iconst 0, 1) := by decide +kernel
theorem dX3_hasBound_90 : decode cX3_hasBound 90 = .ok (.ireturn, 1) := by decide +kernel
theorem dX3_hasBound_91 : decode cX3_hasBound 91 = .ok (.iinc 5 1, 3) := by decide +kernel
theorem dX3_hasBound_94 : decode cX3_hasBound 94 = .ok (.goto (-91), 3) := by decide +kernel
theorem dX3_hasBound_97 : decode cX3_hasBound 97 = .ok (.aload_n 1, 1) := by decide +kernel
theorem dX3_hasBound_98 : decode cX3_hasBound 98 = .ok (.aload_n 0, 1) := by decide +kernel
theorem dX3_hasBound_99 : decode cX3_hasBound 99 = .ok (.getfield 9, 3) := by decide +kernel
theorem dX3_hasBound_102 : decode cX3_hasBound 102 = .ok (.iload_n 2, 1) := by decide +kernel
theorem dX3_hasBound_103 : decode cX3_hasBound 103 = .ok (.iaload, 1) := by decide +kernel
theorem dX3_hasBound_104 : decode cX3_hasBound 104 = .ok (.iload_n 3, 1) := by decide +kernel
theorem dX3_hasBound_105 : decode cX3_hasBound 105 = .ok (.iload 4, 2) := by decide +kernel
theorem dX3_hasBound_107 : decode cX3_hasBound 107 = .ok (.invokevirtual 85, 3) := by decide +kernel
theorem dX3_hasBound_110 : decode cX3_hasBound 110 = .ok (.ifCond .ne 7, 3) := by decide +kernel
theorem dX3_hasBound_113 : decode cX3_hasBound 113 = .ok (.iconst 1, 1) := by decide +kernel
theorem dX3_hasBound_114 : decode cX3_hasBound 114 = .ok (.goto 4, 3) := by decide +kernel
theorem dX3_hasBound_117 : decode cX3_hasBound 117 = .ok (.iconst 0, 1) := by decide +kernel
theorem dX3_hasBound_118 : decode cX3_hasBound 118 = .ok (.ireturn, 1) := by decide +kernel
set_option maxRecDepth 20000 in
theorem ggX3_walls_X4_bit : GoodIn wsX3_walls wsX4_bit := goodIn_r _ [5] (by decide +kernel) (by decide +kernel)
set_option maxRecDepth 20000 in
theorem gX3_walls_X4_bit_n82 : GoodIn wsX3_walls (wsX4_bit) := ggX3_walls_X4_bit
theorem dX3_walls_0 : decode cX3_walls 0 = .ok (.iconst 0, 1) := by decide +kernel
theorem dX3_walls_1 : decode cX3_walls 1 = .ok (.istore_n 2, 1) := by decide +kernel
theorem dX3_walls_2 : decode cX3_walls 2 = .ok (.iconst 0, 1) := by decide +kernel
theorem dX3_walls_3 : decode cX3_walls 3 = .ok (.istore_n 3, 1) := by decide +kernel
theorem dX3_walls_4 : decode cX3_walls 4 = .ok (.iload_n 3, 1) := by decide +kernel
theorem dX3_walls_5 : decode cX3_walls 5 = .ok (.bipush 9, 2) := by decide +kernel
theorem dX3_walls_7 : decode cX3_walls 7 = .ok (.if_icmp .ge 36, 3) := by decide +kernel
theorem dX3_walls_10 : decode cX3_walls 10 = .ok (.aload_n 0, 1) := by decide +kernel
theorem dX3_walls_11 : decode cX3_walls 11 = .ok (.getfield 15, 3) := by decide +kernel
theorem dX3_walls_14 : decode cX3_walls 14 = .ok (.aload_n 0, 1) := by decide +kernel
theorem dX3_walls_15 : decode cX3_walls 15 = .ok (.getfield 9, 3) := by decide +kernel
theorem dX3_walls_18 : decode cX3_walls 18 = .ok (.iload_n 1, 1) := by decide +kernel
theorem dX3_walls_19 : decode cX3_walls 19 = .ok (.iaload, 1) := by decide +kernel
theorem dX3_walls_20 : decode cX3_walls 20 = .ok (.iload_n 3, 1) := by decide +kernel
theorem dX3_walls_21 : decode cX3_walls 21 = .ok (.invokestatic 82, 3) := by decide +kernel
theorem dX3_walls_24 : decode cX3_walls 24 = .ok (.ixor, 1) := by decide +kernel
theorem dX3_walls_25 : decode cX3_walls 25 = .ok (.iaload, 1) := by decide +kernel
theorem dX3_walls_26 : decode cX3_walls 26 = .ok (.iconst (-1), 1) := by decide +kernel
theorem dX3_walls_27 : decode cX3_walls 27 = .ok (.if_icmp .eq 10, 3) := by decide +kernel
theorem dX3_walls_30 : decode cX3_walls 30 = .ok (.iload_n 2, 1) := by decide +kernel
theorem dX3_walls_31 : decode cX3_walls 31 = .ok (.iload_n 3, 1) := by decide +kernel
theorem dX3_walls_32 : decode cX3_walls 32 = .ok (.invokestatic 82, 3) := by decide +kernel
theorem dX3_walls_35 : decode cX3_walls 35 = .ok (.ior, 1) := by decide +kernel
theorem dX3_walls_36 : decode cX3_walls 36 = .ok (.istore_n 2, 1) := by decide +kernel
theorem dX3_walls_37 : decode cX3_walls 37 = .ok (.iinc 3 1, 3) := by decide +kernel
theorem dX3_walls_40 : decode cX3_walls 40 = .ok (.goto (-36), 3) := by decide +kernel
theorem dX3_walls_43 : decode cX3_walls 43 = .ok (.iload_n 2, 1) := by decide +kernel
theorem dX3_walls_44 : decode cX3_walls 44 = .ok (.ireturn, 1) := by decide +kernel
set_option maxRecDepth 20000 in
theorem ggX3_shortestWays_X3_waysInto : GoodIn wsX3_shortestWays wsX3_waysInto := goodIn_r _ [7, 8, 2, 9, 10, 11, 12, 13, 14, 15, 16, 17, 18] (by decide +kernel) (by decide +kernel)
set_option maxRecDepth 20000 in
theorem gX3_shortestWays_X3_waysInto : GoodIn wsX3_shortestWays (wsV RX3 89 RX3 yX3_waysInto wsX3_waysInto) := goodIn_app (goodIn_of _ (by decide +kernel)) ggX3_shortestWays_X3_waysInto
theorem dX3_shortestWays_0 : decode cX3_shortestWays 0 = .ok (.aload_n 0, 1) := by decide +kernel
theorem dX3_shortestWays_1 : decode cX3_shortestWays 1 = .ok (.getfield 9, 3) := by decide +kernel
theorem dX3_shortestWays_4 : decode cX3_shortestWays 4 = .ok (.iload_n 1, 1) := by decide +kernel
theorem dX3_shortestWays_5 : decode cX3_shortestWays 5 = .ok (.iaload, 1) := by decide +kernel
theorem dX3_shortestWays_6 : decode cX3_shortestWays 6 = .ok (.istore_n 3, 1) := by decide +kernel
theorem dX3_shortestWays_7 : decode cX3_shortestWays 7 = .ok (.iload_n 3, 1) := by decide +kernel
theorem dX3_shortestWays_8 : decode cX3_shortestWays 8 = .ok (.aload_n 0, 1) := by decide +kernel
theorem dX3_shortestWays_9 : decode cX3_shortestWays 9 = .ok (.getfield 9, 3) := by decide +kernel
theorem dX3_shortestWays_12 : decode cX3_shortestWays 12 = .ok (.iload_n 2, 1) := by decide +kernel
theorem dX3_shortestWays_13 : decode cX3_shortestWays 13 = .ok (.iaload, 1) := by decide +kernel
theorem dX3_shortestWays_14 : decode cX3_shortestWays 14 = .ok (.ixor, 1) := by decide +kernel
theorem dX3_shortestWays_15 : decode cX3_shortestWays 15 = .ok (.istore 4, 2) := by decide +kernel
theorem dX3_shortestWays_17 : decode cX3_shortestWays 17 = .ok (.aload_n 0, 1) := by decide +kernel
theorem dX3_shortestWays_18 : decode cX3_shortestWays 18 = .ok (.getfield 18, 3) := by decide +kernel
theorem dX3_shortestWays_21 : decode cX3_shortestWays 21 = .ok (.iload_n 3, 1) := by decide +kernel
theorem dX3_shortestWays_22 : decode cX3_shortestWays 22 = .ok (.iconst 1, 1) := by decide +kernel
theorem dX3_shortestWays_23 : decode cX3_shortestWays 23 = .ok (.iastore, 1) := by decide +kernel
theorem dX3_shortestWays_24 : decode cX3_shortestWays 24 = .ok (.iconst 1, 1) := by decide +kernel
theorem dX3_shortestWays_25 : decode cX3_shortestWays 25 = .ok (.istore 5, 2) := by decide +kernel
theorem dX3_shortestWays_27 : decode cX3_shortestWays 27 = .ok (.iload 5, 2) := by decide +kernel
theorem dX3_shortestWays_29 : decode cX3_shortestWays 29 = .ok (.iload 4, 2) := by decide +kernel
theorem dX3_shortestWays_31 : decode cX3_shortestWays 31 = .ok (.if_icmp .gt 35, 3) := by decide +kernel
theorem dX3_shortestWays_34 : decode cX3_shortestWays 34 = .ok (.iload 5, 2) := by decide +kernel
theorem dX3_shortestWays_36 : decode cX3_shortestWays 36 = .ok (.iload 4, 2) := by decide +kernel
theorem dX3_shortestWays_38 : decode cX3_shortestWays 38 = .ok (.iconst (-1), 1) := by decide +kernel
theorem dX3_shortestWays_39 : decode cX3_shortestWays 39 = .ok (.ixor, 1) := by decide +kernel
theorem dX3_shortestWays_40 : decode cX3_shortestWays 40 = .ok (.iand, 1) := by decide +kernel
theorem dX3_shortestWays_41 : decode cX3_shortestWays 41 = .ok (.ifCond .ne 19, 3) := by decide +kernel
theorem dX3_shortestWays_44 : decode cX3_shortestWays 44 = .ok (.aload_n 0, 1) := by decide +kernel
theorem dX3_shortestWays_45 : decode cX3_shortestWays 45 = .ok (.getfield 18, 3) := by decide +kernel
theorem dX3_shortestWays_48 : decode cX3_shortestWays 48 = .ok (.iload_n 3, 1) := by decide +kernel
theorem dX3_shortestWays_49 : decode cX3_shortestWays 49 = .ok (.iload 5, 2) := by decide +kernel
theorem dX3_shortestWays_51 : decode cX3_shortestWays 51 = .ok (.ixor, 1) := by decide +kernel
theorem dX3_shortestWays_52 : decode cX3_shortestWays 52 = .ok (.aload_n 0, 1) := by decide +kernel
theorem dX3_shortestWays_53 : decode cX3_shortestWays 53 = .ok (.iload_n 3, 1) := by decide +kernel
theorem dX3_shortestWays_54 : decode cX3_shortestWays 54 = .ok (.iload 5, 2) := by decide +kernel
theorem dX3_shortestWays_56 : decode cX3_shortestWays 56 = .ok (.invokevirtual 89, 3) := by decide +kernel
theorem dX3_shortestWays_59 : decode cX3_shortestWays 59 = .ok (.iastore, 1) := by decide +kernel
theorem dX3_shortestWays_60 : decode cX3_shortestWays 60 = .ok (.iinc 5 1, 3) := by decide +kernel
theorem dX3_shortestWays_63 : decode cX3_shortestWays 63 = .ok (.goto (-36), 3) := by decide +kernel
theorem dX3_shortestWays_66 : decode cX3_shortestWays 66 = .ok (.aload_n 0, 1) := by decide +kernel
theorem dX3_shortestWays_67 : decode cX3_shortestWays 67 = .ok (.getfield 18, 3) := by decide +kernel
theorem dX3_shortestWays_70 : decode cX3_shortestWays 70 = .ok (.iload_n 3, 1) := by decide +kernel
theorem dX3_shortestWays_71 : decode cX3_shortestWays 71 = .ok (.iload 4, 2) := by decide +kernel
theorem dX3_shortestWays_73 : decode cX3_shortestWays 73 = .ok (.ixor, 1) := by decide +kernel
theorem dX3_shortestWays_74 : decode cX3_shortestWays 74 = .ok (.iaload, 1) := by decide +kernel
theorem dX3_shortestWays_75 : decode cX3_shortestWays 75 = .ok (.ireturn, 1) := by decide +kernel
set_option maxRecDepth 20000 in
theorem ggX3_waysInto_X4_isIn : GoodIn wsX3_waysInto wsX4_isIn := goodIn_r _ [5, 6, 7, 4, 8] (by decide +kernel) (by decide +kernel)
set_option maxRecDepth 20000 in
theorem gX3_waysInto_X4_isIn_n93 : GoodIn wsX3_waysInto (wsX4_isIn) := ggX3_waysInto_X4_isIn
set_option maxRecDepth 20000 in
theorem ggX3_waysInto_X4_bit : GoodIn wsX3_waysInto wsX4_bit := goodIn_r _ [8] (by decide +kernel) (by decide +kernel)
set_option maxRecDepth 20000 in
theorem gX3_waysInto_X4_bit_n82 : GoodIn wsX3_waysInto (wsX4_bit) := ggX3_waysInto_X4_bit
theorem dX3_waysInto_0 : decode cX3_waysInto 0 = .ok (.aload_n 0, 1) := by decide +kernel
theorem dX3_waysInto_1 : decode cX3_waysInto 1 = .ok (.getfield 15, 3) := by decide +kernel
theorem dX3_waysInto_4 : decode cX3_waysInto 4 = .ok (.iload_n 1, 1) := by decide +kernel
theorem dX3_waysInto_5 : decode cX3_waysInto 5 = .ok (.iload_n 2, 1) := by decide +kernel
theorem dX3_waysInto_6 : decode cX3_waysInto 6 = .ok (.ixor, 1) := by decide +kernel
theorem dX3_waysInto_7 : decode cX3_waysInto 7 = .ok (.iaload, 1) := by decide +kernel
theorem dX3_waysInto_8 : decode cX3_waysInto 8 = .ok (.iconst (-1), 1) := by decide +kernel
theorem dX3_waysInto_9 : decode cX3_waysInto 9 = .ok (.if_icmp .ne 5, 3) := by decide +kernel
theorem dX3_waysInto_12 : decode cX3_waysInto 12 = .ok (.iconst 0, 1) := by decide +kernel
theorem dX3_waysInto_13 : decode cX3_waysInto 13 = .ok (.ireturn, 1) := by decide +kernel
theorem dX3_waysInto_14 : decode cX3_waysInto 14 = .ok (.iconst 0, 1) := by decide +kernel
theorem dX3_waysInto_15 : decode cX3_waysInto 15 = .ok (.istore_n 3, 1) := by decide +kernel
theorem dX3_waysInto_16 : decode cX3_waysInto 16 = .ok (.iconst 0, 1) := by decide +kernel
theorem dX3_waysInto_17 : decode cX3_waysInto 17 = .ok (.istore 4, 2) := by decide +kernel
theorem dX3_waysInto_19 : decode cX3_waysInto 19 = .ok (.iload 4, 2) := by decide +kernel
theorem dX3_waysInto_21 : decode cX3_waysInto 21 = .ok (.bipush 9, 2) := by decide +kernel
theorem dX3_waysInto_23 : decode cX3_waysInto 23 = .ok (.if_icmp .ge 35, 3) := by decide +kernel
theorem dX3_waysInto_26 : decode cX3_waysInto 26 = .ok (.iload_n 2, 1) := by decide +kernel
theorem dX3_waysInto_27 : decode cX3_waysInto 27 = .ok (.iload 4, 2) := by decide +kernel
theorem dX3_waysInto_29 : decode cX3_waysInto 29 = .ok (.invokestatic 93, 3) := by decide +kernel
theorem dX3_waysInto_32 : decode cX3_waysInto 32 = .ok (.ifCond .eq 20, 3) := by decide +kernel
theorem dX3_waysInto_35 : decode cX3_waysInto 35 = .ok (.iload_n 3, 1) := by decide +kernel
theorem dX3_waysInto_36 : decode cX3_waysInto 36 = .ok (.aload_n 0, 1) := by decide +kernel
theorem dX3_waysInto_37 : decode cX3_waysInto 37 = .ok (.getfield 18, 3) := by decide +kernel
theorem dX3_waysInto_40 : decode cX3_waysInto 40 = .ok (.iload_n 1, 1) := by decide +kernel
theorem dX3_waysInto_41 : decode cX3_waysInto 41 = .ok (.iload_n 2, 1) := by decide +kernel
theorem dX3_waysInto_42 : decode cX3_waysInto 42 = .ok (.ixor, 1) := by decide +kernel
theorem dX3_waysInto_43 : decode cX3_waysInto 43 = .ok (.iload 4, 2) := by decide +kernel
theorem dX3_waysInto_45 : decode cX3_waysInto 45 = .ok (.invokestatic 82, 3) := by decide +kernel
theorem dX3_waysInto_48 : decode cX3_waysInto 48 = .ok (.ixor, 1) := by decide +kernel
theorem dX3_waysInto_49 : decode cX3_waysInto 49 = .ok (.iaload, 1) := by decide +kernel
theorem dX3_waysInto_50 : decode cX3_waysInto 50 = .ok (.iadd, 1) := by decide +kernel
theorem dX3_waysInto_51 : decode cX3_waysInto 51 = .ok (.istore_n 3, 1) := by decide +kernel
theorem dX3_waysInto_52 : decode cX3_waysInto 52 = .ok (.iinc 4 1, 3) := by decide +kernel
theorem dX3_waysInto_55 : decode cX3_waysInto 55 = .ok (.goto (-36), 3) := by decide +kernel
theorem dX3_waysInto_58 : decode cX3_waysInto 58 = .ok (.iload_n 3, 1) := by decide +kernel
theorem dX3_waysInto_59 : decode cX3_waysInto 59 = .ok (.ireturn, 1) := by decide +kernel
set_option maxRecDepth 20000 in
theorem ggX3_onFirstWay_X3_stepTowards : GoodIn wsX3_onFirstWay wsX3_stepTowards := goodIn_r _ [7, 2, 8, 9, 10, 11, 12, 13, 21, 22, 23, 24] (by decide +kernel) (by decide +kernel)
set_option maxRecDepth 20000 in
theorem gX3_onFirstWay_X3_stepTowards : GoodIn wsX3_onFirstWay (wsV RX3 96 RX3 yX3_stepTowards wsX3_stepTowards) := goodIn_app (goodIn_of _ (by decide +kernel)) ggX3_onFirstWay_X3_stepTowards
set_option maxRecDepth 20000 in
theorem ggX3_onFirstWay_J6_bitCount_0f7a4 : GoodIn wsX3_onFirstWay wsJ6_bitCount_0f7a4 := goodIn_r _ [17, 18, 19, 20] (by decide +kernel) (by decide +kernel)
set_option maxRecDepth 20000 in
theorem gX3_onFirstWay_J6_bitCount_0f7a4 : GoodIn wsX3_onFirstWay (va_wsS RX3 99 yJ6_bitCount_0f7a4 wsJ6_bitCount_0f7a4) := goodIn_app (goodIn_of _ (by decide +kernel)) ggX3_onFirstWay_J6_bitCount_0f7a4
theorem dX3_onFirstWay_0 : decode cX3_onFirstWay 0 = .ok (.aload_n 0, 1) := by decide +kernel
theorem dX3_onFirstWay_1 : decode cX3_onFirstWay 1 = .ok (.getfield 9, 3) := by decide +kernel
theorem dX3_onFirstWay_4 : decode cX3_onFirstWay 4 = .ok (.iload_n 1, 1) := by decide +kernel
theorem dX3_onFirstWay_5 : decode cX3_onFirstWay 5 = .ok (.iaload, 1) := by decide +kernel
theorem dX3_onFirstWay_6 : decode cX3_onFirstWay 6 = .ok (.istore 4, 2) := by decide +kernel
theorem dX3_onFirstWay_8 : decode cX3_onFirstWay 8 = .ok (.iconst 0, 1) := by decide +kernel
theorem dX3_onFirstWay_9 : decode cX3_onFirstWay 9 = .ok (.istore 5, 2) := by decide +kernel
theorem dX3_onFirstWay_11 : decode cX3_onFirstWay 11 = .ok (.iload 5, 2) := by decide +kernel
theorem dX3_onFirstWay_13 : decode cX3_onFirstWay 13 = .ok (.bipush 9, 2) := by decide +kernel
theorem dX3_onFirstWay_15 : decode cX3_onFirstWay 15 = .ok (.if_icmp .ge 40, 3) := by decide +kernel
theorem dX3_onFirstWay_18 : decode cX3_onFirstWay 18 = .ok (.iload 5, 2) := by decide +kernel
theorem dX3_onFirstWay_20 : decode cX3_onFirstWay 20 = .ok (.iload_n 3, 1) := by decide +kernel
theorem dX3_onFirstWay_21 : decode cX3_onFirstWay 21 = .ok (.if_icmp .ge 34, 3) := by decide +kernel
theorem dX3_onFirstWay_24 : decode cX3_onFirstWay 24 = .ok (.iload 4, 2) := by decide +kernel
theorem dX3_onFirstWay_26 : decode cX3_onFirstWay 26 = .ok (.aload_n 0, 1) := by decide +kernel
theorem dX3_onFirstWay_27 : decode cX3_onFirstWay 27 = .ok (.getfield 9, 3) := by decide +kernel
theorem dX3_onFirstWay_30 : decode cX3_onFirstWay 30 = .ok (.iload_n 2, 1) := by decide +kernel
theorem dX3_onFirstWay_31 : decode cX3_onFirstWay 31 = .ok (.iaload, 1) := by decide +kernel
theorem dX3_onFirstWay_32 : decode cX3_onFirstWay 32 = .ok (.if_icmp .eq 23, 3) := by decide +kernel
theorem dX3_onFirstWay_35 : decode cX3_onFirstWay 35 = .ok (.aload_n 0, 1) := by decide +kernel
theorem dX3_onFirstWay_36 : decode cX3_onFirstWay 36 = .ok (.iload 4, 2) := by decide +kernel
theorem dX3_onFirstWay_38 : decode cX3_onFirstWay 38 = .ok (.aload_n 0, 1) := by decide +kernel
theorem dX3_onFirstWay_39 : decode cX3_onFirstWay 39 = .ok (.getfield 9, 3) := by decide +kernel
theorem dX3_onFirstWay_42 : decode cX3_onFirstWay 42 = .ok (.iload_n 2, 1) := by decide +kernel
theorem dX3_onFirstWay_43 : decode cX3_onFirstWay 43 = .ok (.iaload, 1) := by decide +kernel
theorem dX3_onFirstWay_44 : decode cX3_onFirstWay 44 = .ok (.invokevirtual 96, 3) := by decide +kernel
theorem dX3_onFirstWay_47 : decode cX3_onFirstWay 47 = .ok (.istore 4, 2) := by decide +kernel
theorem dX3_onFirstWay_49 : decode cX3_onFirstWay 49 = .ok (.iinc 5 1, 3) := by decide +kernel
theorem dX3_onFirstWay_52 : decode cX3_onFirstWay 52 = .ok (.goto (-41), 3) := by decide +kernel
theorem dX3_onFirstWay_55 : decode cX3_onFirstWay 55 = .ok (.iload_n 3, 1) := by decide +kernel
theorem dX3_onFirstWay_56 : decode cX3_onFirstWay 56 = .ok (.aload_n 0, 1) := by decide +kernel
theorem dX3_onFirstWay_57 : decode cX3_onFirstWay 57 = .ok (.getfield 9, 3) := by decide +kernel
theorem dX3_onFirstWay_60 : decode cX3_onFirstWay 60 = .ok (.iload_n 1, 1) := by decide +kernel
theorem dX3_onFirstWay_61 : decode cX3_onFirstWay 61 = .ok (.iaload, 1) := by decide +kernel
theorem dX3_onFirstWay_62 : decode cX3_onFirstWay 62 = .ok (.aload_n 0, 1) := by decide +kernel
theorem dX3_onFirstWay_63 : decode cX3_onFirstWay 63 = .ok (.getfield 9, 3) := by decide +kernel
theorem dX3_onFirstWay_66 : decode cX3_onFirstWay 66 = .ok (.iload_n 2, 1) := by decide +kernel
theorem dX3_onFirstWay_67 : decode cX3_onFirstWay 67 = .ok (.iaload, 1) := by decide +kernel
theorem dX3_onFirstWay_68 : decode cX3_onFirstWay 68 = .ok (.ixor, 1) := by decide +kernel
theorem dX3_onFirstWay_69 : decode cX3_onFirstWay 69 = .ok (.invokestatic 99, 3) := by decide +kernel
theorem dX3_onFirstWay_72 : decode cX3_onFirstWay 72 = .ok (.if_icmp .gt 13, 3) := by decide +kernel
theorem dX3_onFirstWay_75 : decode cX3_onFirstWay 75 = .ok (.aload_n 0, 1) := by decide +kernel
theorem dX3_onFirstWay_76 : decode cX3_onFirstWay 76 = .ok (.getfield 15, 3) := by decide +kernel
theorem dX3_onFirstWay_79 : decode cX3_onFirstWay 79 = .ok (.iload 4, 2) := by decide +kernel
theorem dX3_onFirstWay_81 : decode cX3_onFirstWay 81 = .ok (.iaload, 1) := by decide +kernel
theorem dX3_onFirstWay_82 : decode cX3_onFirstWay 82 = .ok (.goto 4, 3) := by decide +kernel
theorem dX3_onFirstWay_85 : decode cX3_onFirstWay 85 = .ok (.iconst (-1), 1) := by decide +kernel
theorem dX3_onFirstWay_86 : decode cX3_onFirstWay 86 = .ok (.ireturn, 1) := by decide +kernel
set_option maxRecDepth 20000 in
theorem ggX3_stepTowards_X4_isIn : GoodIn wsX3_stepTowards wsX4_isIn := goodIn_r _ [4, 5, 6, 3, 7] (by decide +kernel) (by decide +kernel)
set_option maxRecDepth 20000 in
theorem gX3_stepTowards_X4_isIn_n93 : GoodIn wsX3_stepTowards (wsX4_isIn) := ggX3_stepTowards_X4_isIn
set_option maxRecDepth 20000 in
theorem ggX3_stepTowards_X4_bit : GoodIn wsX3_stepTowards wsX4_bit := goodIn_r _ [7] (by decide +kernel) (by decide +kernel)
set_option maxRecDepth 20000 in
theorem gX3_stepTowards_X4_bit_n82 : GoodIn wsX3_stepTowards (wsX4_bit) := ggX3_stepTowards_X4_bit
theorem dX3_stepTowards_0 : decode cX3_stepTowards 0 = .ok (.iconst 0, 1) := by decide +kernel
theorem dX3_stepTowards_1 : decode cX3_stepTowards 1 = .ok (.istore_n 3, 1) := by decide +kernel
theorem dX3_stepTowards_2 : decode cX3_stepTowards 2 = .ok (.iload_n 3, 1) := by decide +kernel
theorem dX3_stepTowards_3 : decode cX3_stepTowards 3 = .ok (.bipush 9, 2) := by decide +kernel
theorem dX3_stepTowards_5 : decode cX3_stepTowards 5 = .ok (.if_icmp .ge 41, 3) := by decide +kernel
theorem dX3_stepTowards_8 : decode cX3_stepTowards 8 = .ok (.iload_n 1, 1) := by decide +kernel
theorem dX3_stepTowards_9 : decode cX3_stepTowards 9 = .ok (.iload_n 2, 1) := by decide +kernel
theorem dX3_stepTowards_10 : decode cX3_stepTowards 10 = .ok (.ixor, 1) := by decide +kernel
theorem dX3_stepTowards_11 : decode cX3_stepTowards 11 = .ok (.iload_n 3, 1) := by decide +kernel
theorem dX3_stepTowards_12 : decode cX3_stepTowards 12 = .ok (.invokestatic 93, 3) := by decide +kernel
theorem dX3_stepTowards_15 : decode cX3_stepTowards 15 = .ok (.ifCond .eq 25, 3) := by decide +kernel
theorem dX3_stepTowards_18 : decode cX3_stepTowards 18 = .ok (.aload_n 0, 1) := by decide +kernel
theorem dX3_stepTowards_19 : decode cX3_stepTowards 19 = .ok (.getfield 15, 3) := by decide +kernel
theorem dX3_stepTowards_22 : decode cX3_stepTowards 22 = .ok (.iload_n 1, 1) := by decide +kernel
theorem dX3_stepTowards_23 : decode cX3_stepTowards 23 = .ok (.iload_n 3, 1) := by decide +kernel
theorem dX3_stepTowards_24 : decode cX3_stepTowards 24 = .ok (.invokestatic 82, 3) := by decide +kernel
theorem dX3_stepTowards_27 : decode cX3_stepTowards 27 = .ok (.ixor, 1) := by decide +kernel
theorem dX3_stepTowards_28 : decode cX3_stepTowards 28 = .ok (.iaload, 1) := by decide +kernel
theorem dX3_stepTowards_29 : decode cX3_stepTowards 29 = .ok (.iconst (-1), 1) := by decide +kernel
theorem dX3_stepTowards_30 : decode cX3_stepTowards 30 = .ok (.if_icmp .eq 10, 3) := by decide +kernel
theorem dX3_stepTowards_33 : decode cX3_stepTowards 33 = .ok (.iload_n 1, 1) := by decide +kernel
theorem dX3_stepTowards_34 : decode cX3_stepTowards 34 = .ok (.iload_n 3, 1) := by decide +kernel
theorem dX3_stepTowards_35 : decode cX3_stepTowards 35 = .ok (.invokestatic 82, 3) := by decide +kernel
theorem dX3_stepTowards_38 : decode cX3_stepTowards 38 = .ok (.ixor, 1) := by decide +kernel
theorem dX3_stepTowards_39 : decode cX3_stepTowards 39 = .ok (.ireturn, 1) := by decide +kernel
theorem dX3_stepTowards_40 : decode cX3_stepTowards 40 = .ok (.iinc 3 1, 3) := by decide +kernel
theorem dX3_stepTowards_43 : decode cX3_stepTowards 43 = .ok (.goto (-41), 3) := by decide +kernel
theorem dX3_stepTowards_46 : decode cX3_stepTowards 46 = .ok (.iload_n 1, 1) := by decide +kernel
theorem dX3_stepTowards_47 : decode cX3_stepTowards 47 = .ok (.ireturn, 1) := by decide +kernel
set_option maxRecDepth 20000 in
theorem ggX4_init_X1_init : GoodIn wsX4_init wsX1_init := goodIn_r _ [22, 23, 2, 3, 24, 25, 26, 27, 28, 52, 53, 54, 55] (by decide +kernel) (by decide +kernel)
set_option maxRecDepth 20000 in
theorem gX4_init_X1_init : GoodIn wsX4_init (wsX1_init) := ggX4_init_X1_init
set_option maxRecDepth 20000 in
theorem ggX4_init_X2_init : GoodIn wsX4_init wsX2_init := goodIn_r _ [31, 32, 2, 3, 24, 33, 34, 35, 36, 37, 38, 60, 61, 62, 63, 64, 65] (by decide +kernel) (by decide +kernel)
set_option maxRecDepth 20000 in
theorem gX4_init_X2_init : GoodIn wsX4_init (wsX2_init) := ggX4_init_X2_init
set_option maxRecDepth 20000 in
theorem ggX4_init_X3_init : GoodIn wsX4_init wsX3_init := goodIn_r _ [41, 42, 2, 3, 24, 43, 44, 45, 46, 66, 67, 68, 69] (by decide +kernel) (by decide +kernel)
set_option maxRecDepth 20000 in
theorem gX4_init_X3_init : GoodIn wsX4_init (wsX3_init) := ggX4_init_X3_init
set_option maxRecDepth 20000 in
theorem ggX4_init_X0_init : GoodIn wsX4_init wsX0_init := goodIn_r _ [49, 50, 2, 3, 51, 70] (by decide +kernel) (by decide +kernel)
set_option maxRecDepth 20000 in
theorem gX4_init_X0_init : GoodIn wsX4_init (wsX0_init) := ggX4_init_X0_init
theorem dX4_init_0 : decode cX4_init 0 = .ok (.aload_n 0, 1) := by decide +kernel
theorem dX4_init_1 : decode cX4_init 1 = .ok (.invokespecial 1, 3) := by decide +kernel
theorem dX4_init_4 : decode cX4_init 4 = .ok (.aload_n 0, 1) := by decide +kernel
theorem dX4_init_5 : decode cX4_init 5 = .ok (.new 7, 3) := by decide +kernel
theorem dX4_init_8 : decode cX4_init 8 = .ok (.dup, 1) := by decide +kernel
theorem dX4_init_9 : decode cX4_init 9 = .ok (.invokespecial 9, 3) := by decide +kernel
theorem dX4_init_12 : decode cX4_init 12 = .ok (.putfield 10, 3) := by decide +kernel
theorem dX4_init_15 : decode cX4_init 15 = .ok (.aload_n 0, 1) := by decide +kernel
theorem dX4_init_16 : decode cX4_init 16 = .ok (.new 16, 3) := by decide +kernel
theorem dX4_init_19 : decode cX4_init 19 = .ok (.dup, 1) := by decide +kernel
theorem dX4_init_20 : decode cX4_init 20 = .ok (.invokespecial 18, 3) := by decide +kernel
theorem dX4_init_23 : decode cX4_init 23 = .ok (.putfield 19, 3) := by decide +kernel
theorem dX4_init_26 : decode cX4_init 26 = .ok (.aload_n 0, 1) := by decide +kernel
theorem dX4_init_27 : decode cX4_init 27 = .ok (.new 23, 3) := by decide +kernel
theorem dX4_init_30 : decode cX4_init 30 = .ok (.dup, 1) := by decide +kernel
theorem dX4_init_31 : decode cX4_init 31 = .ok (.invokespecial 25, 3) := by decide +kernel
theorem dX4_init_34 : decode cX4_init 34 = .ok (.putfield 26, 3) := by decide +kernel
theorem dX4_init_37 : decode cX4_init 37 = .ok (.aload_n 0, 1) := by decide +kernel
theorem dX4_init_38 : decode cX4_init 38 = .ok (.new 30, 3) := by decide +kernel
theorem dX4_init_41 : decode cX4_init 41 = .ok (.dup, 1) := by decide +kernel
theorem dX4_init_42 : decode cX4_init 42 = .ok (.invokespecial 32, 3) := by decide +kernel
theorem dX4_init_45 : decode cX4_init 45 = .ok (.putfield 33, 3) := by decide +kernel
theorem dX4_init_48 : decode cX4_init 48 = .ok (.return_, 1) := by decide +kernel
set_option maxRecDepth 20000 in
theorem ggX4_line_X4_isTooFar : GoodIn wsX4_line wsX4_isTooFar := goodIn_r _ [9] (by decide +kernel) (by decide +kernel)
set_option maxRecDepth 20000 in
theorem gX4_line_X4_isTooFar : GoodIn wsX4_line (va_wsS RX4 37 yX4_isTooFar wsX4_isTooFar) := goodIn_app (goodIn_of _ (by decide +kernel)) ggX4_line_X4_isTooFar
set_option maxRecDepth 20000 in
theorem ggX4_line_X1_isFull : GoodIn wsX4_line wsX1_isFull := goodIn_r _ [14, 15, 164, 165, 166, 167] (by decide +kernel) (by decide +kernel)
set_option maxRecDepth 20000 in
theorem gX4_line_X1_isFull : GoodIn wsX4_line (wsV RX4 48 RX1 yX1_isFull wsX1_isFull) := goodIn_app (goodIn_of _ (by decide +kernel)) ggX4_line_X1_isFull
set_option maxRecDepth 20000 in
theorem ggX4_line_X1_numberOf : GoodIn wsX4_line wsX1_numberOf := goodIn_r _ [19, 15, 20, 21, 22, 164, 165, 166, 167] (by decide +kernel) (by decide +kernel)
set_option maxRecDepth 20000 in
theorem gX4_line_X1_numberOf : GoodIn wsX4_line (wsV RX4 52 RX1 yX1_numberOf wsX1_numberOf) := goodIn_app (goodIn_of _ (by decide +kernel)) ggX4_line_X1_numberOf
set_option maxRecDepth 20000 in
theorem ggX4_line_X1_append : GoodIn wsX4_line wsX1_append := goodIn_r _ [26, 20, 15, 21, 22, 27, 11, 12, 13, 14, 164, 165, 166, 167] (by decide +kernel) (by decide +kernel)
set_option maxRecDepth 20000 in
theorem gX4_line_X1_append : GoodIn wsX4_line (wsV RX4 61 RX1 yX1_append wsX1_append) := goodIn_app (goodIn_of _ (by decide +kernel)) ggX4_line_X1_append
set_option maxRecDepth 20000 in
theorem ggX4_line_X4_lookAnew : GoodIn wsX4_line wsX4_lookAnew := goodIn_r _ [31, 32, 5, 33, 34, 35, 36, 37, 38, 39, 40, 41, 42, 43, 44, 45, 46, 13, 47, 15, 48, 49, 50, 51, 20, 21, 52, 8, 53, 54, 55, 56, 57, 22, 58, 59, 60, 61, 62, 63, 64, 65, 66, 67, 68, 69, 70, 71, 72, 73, 74, 75, 76, 77, 78, 79, 80, 81, 82, 83, 84, 85, 86, 87, 88, 89, 90, 91, 92, 93, 94, 95, 96, 97, 98, 99, 100, 101, 102, 103, 104, 105, 106, 107, 108, 109, 110, 111, 112, 113, 114, 115, 116, 117, 118, 119, 120, 121, 122, 123, 124, 125, 126, 127, 128, 129, 130, 131, 132, 133, 134, 135, 136, 137, 138, 139, 140, 141, 142, 143, 144, 145, 146, 147, 148, 149, 150, 151, 152, 153, 154, 155, 156, 157, 158, 160, 161, 162, 163, 168, 169, 170, 171, 172, 173, 164, 165, 166, 167, 174, 175, 176, 177] (by decide +kernel) (by decide +kernel)
set_option maxRecDepth 20000 in
theorem gX4_line_X4_lookAnew : GoodIn wsX4_line (wsV RX4 65 RX4 yX4_lookAnew wsX4_lookAnew) := goodIn_app (goodIn_of _ (by decide +kernel)) ggX4_line_X4_lookAnew
set_option maxRecDepth 20000 in
theorem ggX4_line_X1_count : GoodIn wsX4_line wsX1_count := goodIn_r _ [47, 15, 164, 165, 166, 167] (by decide +kernel) (by decide +kernel)
set_option maxRecDepth 20000 in
theorem gX4_line_X1_count : GoodIn wsX4_line (wsV RX4 68 RX1 yX1_count wsX1_count) := goodIn_app (goodIn_of _ (by decide +kernel)) ggX4_line_X1_count
theorem dX4_line_0 : decode cX4_line 0 = .ok (.iload_n 1, 1) := by decide +kernel
theorem dX4_line_1 : decode cX4_line 1 = .ok (.invokestatic 37, 3) := by decide +kernel
theorem dX4_line_4 : decode cX4_line 4 = .ok (.ifCond .ne 25, 3) := by decide +kernel
theorem dX4_line_7 : decode cX4_line 7 = .ok (.iload_n 2, 1) := by decide +kernel
theorem dX4_line_8 : decode cX4_line 8 = .ok (.invokestatic 37, 3) := by decide +kernel
theorem dX4_line_11 : decode cX4_line 11 = .ok (.ifCond .ne 18, 3) := by decide +kernel
theorem dX4_line_14 : decode cX4_line 14 = .ok (.iload_n 3, 1) := by decide +kernel
theorem dX4_line_15 : decode cX4_line 15 = .ok (.invokestatic 37, 3) := by decide +kernel
theorem dX4_line_18 : decode cX4_line 18 = .ok (.ifCond .ne 11, 3) := by decide +kernel
theorem dX4_line_21 : decode cX4_line 21 = .ok (.iload_n 1, 1) := by decide +kernel
theorem dX4_line_22 : decode cX4_line 22 = .ok (.ifCond .ne 17, 3) := by decide +kernel
theorem dX4_line_25 : decode cX4_line 25 = .ok (.iload_n 2, 1) := by decide +kernel
theorem dX4_line_26 : decode cX4_line 26 = .ok (.ifCond .ne 13, 3) := by decide +kernel
theorem dX4_line_29 : decode cX4_line 29 = .ok (.new 41, 3) := by decide +kernel
theorem dX4_line_32 : decode cX4_line 32 = .ok (.dup, 1) := by decide +kernel
theorem dX4_line_33 : decode cX4_line 33 = .ok (.ldc 43, 2) := by decide +kernel
theorem dX4_line_35 : decode cX4_line 35 = .ok (.invokespecial 45, 3) := by decide +kernel
theorem dX4_line_38 : decode cX4_line 38 = .ok (.athrow, 1) := by decide +kernel
theorem dX4_line_39 : decode cX4_line 39 = .ok (.aload_n 0, 1) := by decide +kernel
theorem dX4_line_40 : decode cX4_line 40 = .ok (.getfield 10, 3) := by decide +kernel
theorem dX4_line_43 : decode cX4_line 43 = .ok (.invokevirtual 48, 3) := by decide +kernel
theorem dX4_line_46 : decode cX4_line 46 = .ok (.ifCond .ne 17, 3) := by decide +kernel
theorem dX4_line_49 : decode cX4_line 49 = .ok (.aload_n 0, 1) := by decide +kernel
theorem dX4_line_50 : decode cX4_line 50 = .ok (.getfield 10, 3) := by decide +kernel
theorem dX4_line_53 : decode cX4_line 53 = .ok (.iload_n 1, 1) := by decide +kernel
theorem dX4_line_54 : decode cX4_line 54 = .ok (.iload_n 2, 1) := by decide +kernel
theorem dX4_line_55 : decode cX4_line 55 = .ok (.iload_n 3, 1) := by decide +kernel
theorem dX4_line_56 : decode cX4_line 56 = .ok (.invokevirtual 52, 3) := by decide +kernel
theorem dX4_line_59 : decode cX4_line 59 = .ok (.iconst (-1), 1) := by decide +kernel
theorem dX4_line_60 : decode cX4_line 60 = .ok (.if_icmp .eq 13, 3) := by decide +kernel
theorem dX4_line_63 : decode cX4_line 63 = .ok (.new 56, 3) := by decide +kernel
theorem dX4_line_66 : decode cX4_line 66 = .ok (.dup, 1) := by decide +kernel
theorem dX4_line_67 : decode cX4_line 67 = .ok (.ldc 58, 2) := by decide +kernel
theorem dX4_line_69 : decode cX4_line 69 = .ok (.invokespecial 60, 3) := by decide +kernel
theorem dX4_line_72 : decode cX4_line 72 = .ok (.athrow, 1) := by decide +kernel
theorem dX4_line_73 : decode cX4_line 73 = .ok (.aload_n 0, 1) := by decide +kernel
theorem dX4_line_74 : decode cX4_line 74 = .ok (.getfield 10, 3) := by decide +kernel
theorem dX4_line_77 : decode cX4_line 77 = .ok (.iload_n 1, 1) := by decide +kernel
theorem dX4_line_78 : decode cX4_line 78 = .ok (.iload_n 2, 1) := by decide +kernel
theorem dX4_line_79 : decode cX4_line 79 = .ok (.iload_n 3, 1) := by decide +kernel
theorem dX4_line_80 : decode cX4_line 80 = .ok (.invokevirtual 61, 3) := by decide +kernel
theorem dX4_line_83 : decode cX4_line 83 = .ok (.aload_n 0, 1) := by decide +kernel
theorem dX4_line_84 : decode cX4_line 84 = .ok (.invokevirtual 65, 3) := by decide +kernel
theorem dX4_line_87 : decode cX4_line 87 = .ok (.aload_n 0, 1) := by decide +kernel
theorem dX4_line_88 : decode cX4_line 88 = .ok (.getfield 10, 3) := by decide +kernel
theorem dX4_line_91 : decode cX4_line 91 = .ok (.invokevirtual 68, 3) := by decide +kernel
theorem dX4_line_94 : decode cX4_line 94 = .ok (.iconst 1, 1) := by decide +kernel
theorem dX4_line_95 : decode cX4_line 95 = .ok (.isub, 1) := by decide +kernel
theorem dX4_line_96 : decode cX4_line 96 = .ok (.ireturn, 1) := by decide +kernel
set_option maxRecDepth 20000 in
theorem ggX4_takeAway_X4_checkLine : GoodIn wsX4_takeAway wsX4_checkLine := goodIn_ca (goodIn_r _ [6, 7, 8, 1, 9, 10, 11, 12, 13, 14, 150, 151, 152, 153, 154, 155, 156, 157] (by decide +kernel) (by decide +kernel)) (goodIn_sub (fun _ h => List.mem_cons_of_mem _ (List.mem_append_right _ h)) (by decide +kernel))
set_option maxRecDepth 20000 in
theorem gX4_takeAway_X4_checkLine : GoodIn wsX4_takeAway (wsV RX4 72 RX4 yX4_checkLine wsX4_checkLine) := goodIn_app (goodIn_of _ (by decide +kernel)) ggX4_takeAway_X4_checkLine
set_option maxRecDepth 20000 in
theorem ggX4_takeAway_X1_remove : GoodIn wsX4_takeAway wsX1_remove := goodIn_r _ [18, 14, 19, 20, 21, 154, 155, 156, 157] (by decide +kernel) (by decide +kernel)
set_option maxRecDepth 20000 in
theorem gX4_takeAway_X1_remove : GoodIn wsX4_takeAway (wsV RX4 76 RX1 yX1_remove wsX1_remove) := goodIn_app (goodIn_of _ (by decide +kernel)) ggX4_takeAway_X1_remove
set_option maxRecDepth 20000 in
theorem ggX4_takeAway_X4_lookAnew : GoodIn wsX4_takeAway wsX4_lookAnew := goodIn_r _ [25, 26, 1, 27, 28, 29, 30, 31, 32, 33, 34, 35, 36, 37, 38, 10, 11, 12, 13, 14, 39, 40, 41, 42, 19, 20, 43, 5, 44, 45, 46, 47, 48, 21, 49, 50, 51, 52, 53, 54, 55, 56, 57, 58, 59, 60, 61, 62, 63, 64, 65, 66, 67, 68, 69, 70, 71, 72, 73, 74, 75, 76, 77, 78, 79, 80, 81, 82, 83, 84, 85, 86, 87, 88, 89, 90, 91, 92, 93, 94, 95, 96, 97, 98, 99, 100, 101, 102, 103, 104, 105, 106, 107, 108, 109, 110, 111, 112, 113, 114, 115, 116, 117, 118, 119, 120, 121, 122, 123, 124, 125, 126, 127, 128, 129, 130, 131, 132, 133, 134, 135, 136, 137, 138, 139, 140, 141, 142, 143, 144, 145, 146, 147, 148, 149, 150, 151, 152, 153, 158, 159, 160, 161, 162, 163, 154, 155, 156, 157, 164, 165, 166, 167] (by decide +kernel) (by decide +kernel)
set_option maxRecDepth 20000 in
theorem gX4_takeAway_X4_lookAnew : GoodIn wsX4_takeAway (wsV RX4 65 RX4 yX4_lookAnew wsX4_lookAnew) := goodIn_app (goodIn_of _ (by decide +kernel)) ggX4_takeAway_X4_lookAnew
set_option maxRecDepth 20000 in
theorem ggX4_takeAway_X1_count : GoodIn wsX4_takeAway wsX1_count := goodIn_r _ [13, 14, 154, 155, 156, 157] (by decide +kernel) (by decide +kernel)
set_option maxRecDepth 20000 in
theorem gX4_takeAway_X1_count : GoodIn wsX4_takeAway (wsV RX4 68 RX1 yX1_count wsX1_count) := goodIn_app (goodIn_of _ (by decide +kernel)) ggX4_takeAway_X1_count
theorem dX4_takeAway_0 : decode cX4_takeAway 0 = .ok (.aload_n 0, 1) := by decide +kernel
theorem dX4_takeAway_1 : decode cX4_takeAway 1 = .ok (.iload_n 1, 1) := by decide +kernel
theorem dX4_takeAway_2 : decode cX4_takeAway 2 = .ok (.invokevirtual 72, 3) := by decide +kernel
theorem dX4_takeAway_5 : decode cX4_takeAway 5 = .ok (.aload_n 0, 1) := by decide +kernel
theorem dX4_takeAway_6 : decode cX4_takeAway 6 = .ok (.getfield 10, 3) := by decide +kernel
theorem dX4_takeAway_9 : decode cX4_takeAway 9 = .ok (.iload_n 1, 1) := by decide +kernel
theorem dX4_takeAway_10 : decode cX4_takeAway 10 = .ok (.invokevirtual 76, 3) := by decide +kernel
theorem dX4_takeAway_13 : decode cX4_takeAway 13 = .ok (.aload_n 0, 1) := by decide +kernel
theorem dX4_takeAway_14 : decode cX4_takeAway 14 = .ok (.invokevirtual 65, 3) := by decide +kernel
theorem dX4_takeAway_17 : decode cX4_takeAway 17 = .ok (.aload_n 0, 1) := by decide +kernel
theorem dX4_takeAway_18 : decode cX4_takeAway 18 = .ok (.getfield 10, 3) := by decide +kernel
theorem dX4_takeAway_21 : decode cX4_takeAway 21 = .ok (.invokevirtual 68, 3) := by decide +kernel
theorem dX4_takeAway_24 : decode cX4_takeAway 24 = .ok (.ireturn, 1) := by decide +kernel
set_option maxRecDepth 20000 in
theorem ggX4_meets_X2_count : GoodIn wsX4_meets wsX2_count := goodIn_r _ [6, 7, 12, 13, 14, 15, 16, 17] (by decide +kernel) (by decide +kernel)
set_option maxRecDepth 20000 in
theorem gX4_meets_X2_count : GoodIn wsX4_meets (wsV RX4 79 RX2 yX2_count wsX2_count) := goodIn_app (goodIn_of _ (by decide +kernel)) ggX4_meets_X2_count
theorem dX4_meets_0 : decode cX4_meets 0 = .ok (.aload_n 0, 1) := by decide +kernel
theorem dX4_meets_1 : decode cX4_meets 1 = .ok (.getfield 19, 3) := by decide +kernel
theorem dX4_meets_4 : decode cX4_meets 4 = .ok (.invokevirtual 79, 3) := by decide +kernel
theorem dX4_meets_7 : decode cX4_meets 7 = .ok (.ireturn, 1) := by decide +kernel
set_option maxRecDepth 20000 in
theorem ggX4_meet_X4_checkMeet : GoodIn wsX4_meet wsX4_checkMeet := goodIn_ca (goodIn_r _ [8, 9, 10, 3, 11, 12, 13, 14, 15, 16, 37, 38, 39, 40, 41, 42, 43, 44, 45, 46] (by decide +kernel) (by decide +kernel)) (goodIn_sub (fun _ h => List.mem_cons_of_mem _ (List.mem_append_right _ h)) (by decide +kernel))
set_option maxRecDepth 20000 in
theorem gX4_meet_X4_checkMeet : GoodIn wsX4_meet (wsV RX4 80 RX4 yX4_checkMeet wsX4_checkMeet) := goodIn_app (goodIn_of _ (by decide +kernel)) ggX4_meet_X4_checkMeet
set_option maxRecDepth 20000 in
theorem ggX4_meet_X2_x : GoodIn wsX4_meet wsX2_x := goodIn_r _ [20, 21, 41, 42, 43, 44, 45, 46] (by decide +kernel) (by decide +kernel)
set_option maxRecDepth 20000 in
theorem gX4_meet_X2_x : GoodIn wsX4_meet (wsV RX4 83 RX2 yX2_x wsX2_x) := goodIn_app (goodIn_of _ (by decide +kernel)) ggX4_meet_X2_x
set_option maxRecDepth 20000 in
theorem ggX4_meet_X2_y : GoodIn wsX4_meet wsX2_y := goodIn_r _ [25, 26, 41, 42, 43, 44, 45, 46] (by decide +kernel) (by decide +kernel)
set_option maxRecDepth 20000 in
theorem gX4_meet_X2_y : GoodIn wsX4_meet (wsV RX4 87 RX2 yX2_y wsX2_y) := goodIn_app (goodIn_of _ (by decide +kernel)) ggX4_meet_X2_y
set_option maxRecDepth 20000 in
theorem ggX4_meet_X2_d : GoodIn wsX4_meet wsX2_d := goodIn_r _ [30, 31, 41, 42, 43, 44, 45, 46] (by decide +kernel) (by decide +kernel)
set_option maxRecDepth 20000 in
theorem gX4_meet_X2_d : GoodIn wsX4_meet (wsV RX4 90 RX2 yX2_d wsX2_d) := goodIn_app (goodIn_of _ (by decide +kernel)) ggX4_meet_X2_d
set_option maxRecDepth 20000 in
theorem ggX4_meet_X2_through : GoodIn wsX4_meet wsX2_through := goodIn_r _ [35, 36, 41, 42, 43, 44, 45, 46] (by decide +kernel) (by decide +kernel)
set_option maxRecDepth 20000 in
theorem gX4_meet_X2_through : GoodIn wsX4_meet (wsV RX4 93 RX2 yX2_through wsX2_through) := goodIn_app (goodIn_of _ (by decide +kernel)) ggX4_meet_X2_through
theorem dX4_meet_0 : decode cX4_meet 0 = .ok (.aload_n 0, 1) := by decide +kernel
theorem dX4_meet_1 : decode cX4_meet 1 = .ok (.iload_n 1, 1) := by decide +kernel
theorem dX4_meet_2 : decode cX4_meet 2 = .ok (.invokevirtual 80, 3) := by decide +kernel
theorem dX4_meet_5 : decode cX4_meet 5 = .ok (.iload_n 2, 1) := by decide +kernel
theorem dX4_meet_6 : decode cX4_meet 6 = .ok (.tableswitch 66 0 3 #[30, 39, 48, 57], 30) := by decide +kernel
theorem dX4_meet_36 : decode cX4_meet 36 = .ok (.aload_n 0, 1) := by decide +kernel
theorem dX4_meet_37 : decode cX4_meet 37 = .ok (.getfield 19, 3) := by decide +kernel
theorem dX4_meet_40 : decode cX4_meet 40 = .ok (.iload_n 1, 1) := by decide +kernel
theorem dX4_meet_41 : decode cX4_meet 41 = .ok (.invokevirtual 83, 3) := by decide +kernel
theorem dX4_meet_44 : decode cX4_meet 44 = .ok (.ireturn, 1) := by decide +kernel
theorem dX4_meet_45 : decode cX4_meet 45 = .ok (.aload_n 0, 1) := by decide +kernel
theorem dX4_meet_46 : decode cX4_meet 46 = .ok (.getfield 19, 3) := by decide +kernel
theorem dX4_meet_49 : decode cX4_meet 49 = .ok (.iload_n 1, 1) := by decide +kernel
theorem dX4_meet_50 : decode cX4_meet 50 = .ok (.invokevirtual 87, 3) := by decide +kernel
theorem dX4_meet_53 : decode cX4_meet 53 = .ok (.ireturn, 1) := by decide +kernel
theorem dX4_meet_54 : decode cX4_meet 54 = .ok (.aload_n 0, 1) := by decide +kernel
theorem dX4_meet_55 : decode cX4_meet 55 = .ok (.getfield 19, 3) := by decide +kernel
theorem dX4_meet_58 : decode cX4_meet 58 = .ok (.iload_n 1, 1) := by decide +kernel
theorem dX4_meet_59 : decode cX4_meet 59 = .ok (.invokevirtual 90, 3) := by decide +kernel
theorem dX4_meet_62 : decode cX4_meet 62 = .ok (.ireturn, 1) := by decide +kernel
theorem dX4_meet_63 : decode cX4_meet 63 = .ok (.aload_n 0, 1) := by decide +kernel
theorem dX4_meet_64 : decode cX4_meet 64 = .ok (.getfield 19, 3) := by decide +kernel
theorem dX4_meet_67 : decode cX4_meet 67 = .ok (.iload_n 1, 1) := by decide +kernel
theorem dX4_meet_68 : decode cX4_meet 68 = .ok (.invokevirtual 93, 3) := by decide +kernel
theorem dX4_meet_71 : decode cX4_meet 71 = .ok (.ireturn, 1) := by decide +kernel
theorem dX4_meet_72 : decode cX4_meet 72 = .ok (.new 41, 3) := by decide +kernel
theorem dX4_meet_75 : decode cX4_meet 75 = .ok (.dup, 1) := by decide +kernel
theorem dX4_meet_76 : decode cX4_meet 76 = .ok (.ldc 96, 2) := by decide +kernel
theorem dX4_meet_78 : decode cX4_meet 78 = .ok (.invokespecial 45, 3) := by decide +kernel
theorem dX4_meet_81 : decode cX4_meet 81 = .ok (.athrow, 1) := by decide +kernel
set_option maxRecDepth 20000 in
theorem ggX4_polynomial_X4_checkPower : GoodIn wsX4_polynomial wsX4_checkPower := goodIn_ca (goodIn_r _ [5, 6, 7] (by decide +kernel) (by decide +kernel)) (goodIn_sub (fun _ h => List.mem_cons_of_mem _ (List.mem_append_right _ h)) (by decide +kernel))
set_option maxRecDepth 20000 in
theorem gX4_polynomial_X4_checkPower : GoodIn wsX4_polynomial (va_wsS RX4 98 yX4_checkPower wsX4_checkPower) := goodIn_app (goodIn_of _ (by decide +kernel)) ggX4_polynomial_X4_checkPower
set_option maxRecDepth 20000 in
theorem ggX4_polynomial_X2_surplus : GoodIn wsX4_polynomial wsX2_surplus := goodIn_r _ [12, 13, 14, 15, 16, 17, 18, 19, 20, 21, 37, 38, 39, 40, 41, 42] (by decide +kernel) (by decide +kernel)
set_option maxRecDepth 20000 in
theorem gX4_polynomial_X2_surplus : GoodIn wsX4_polynomial (wsV RX4 101 RX2 yX2_surplus wsX2_surplus) := goodIn_app (goodIn_of _ (by decide +kernel)) ggX4_polynomial_X2_surplus
set_option maxRecDepth 20000 in
theorem ggX4_polynomial_X4_numberWithPower : GoodIn wsX4_polynomial wsX4_numberWithPower := goodIn_r _ [25, 26, 27, 28, 29, 30, 31, 32, 33, 34, 35, 36, 43, 44, 45, 46] (by decide +kernel) (by decide +kernel)
set_option maxRecDepth 20000 in
theorem gX4_polynomial_X4_numberWithPower : GoodIn wsX4_polynomial (wsV RX4 104 RX4 yX4_numberWithPower wsX4_numberWithPower) := goodIn_app (goodIn_of _ (by decide +kernel)) ggX4_polynomial_X4_numberWithPower
theorem dX4_polynomial_0 : decode cX4_polynomial 0 = .ok (.iload_n 1, 1) := by decide +kernel
theorem dX4_polynomial_1 : decode cX4_polynomial 1 = .ok (.invokestatic 98, 3) := by decide +kernel
theorem dX4_polynomial_4 : decode cX4_polynomial 4 = .ok (.aload_n 0, 1) := by decide +kernel
theorem dX4_polynomial_5 : decode cX4_polynomial 5 = .ok (.iload_n 1, 1) := by decide +kernel
theorem dX4_polynomial_6 : decode cX4_polynomial 6 = .ok (.aload_n 0, 1) := by decide +kernel
theorem dX4_polynomial_7 : decode cX4_polynomial 7 = .ok (.getfield 19, 3) := by decide +kernel
theorem dX4_polynomial_10 : decode cX4_polynomial 10 = .ok (.invokevirtual 101, 3) := by decide +kernel
theorem dX4_polynomial_13 : decode cX4_polynomial 13 = .ok (.invokevirtual 104, 3) := by decide +kernel
theorem dX4_polynomial_16 : decode cX4_polynomial 16 = .ok (.ireturn, 1) := by decide +kernel
set_option maxRecDepth 20000 in
theorem ggX4_polynomialAnew_X4_checkPower : GoodIn wsX4_polynomialAnew wsX4_checkPower := goodIn_ca (goodIn_r _ [5, 6, 7] (by decide +kernel) (by decide +kernel)) (goodIn_sub (fun _ h => List.mem_cons_of_mem _ (List.mem_append_right _ h)) (by decide +kernel))
set_option maxRecDepth 20000 in
theorem gX4_polynomialAnew_X4_checkPower : GoodIn wsX4_polynomialAnew (va_wsS RX4 98 yX4_checkPower wsX4_checkPower) := goodIn_app (goodIn_of _ (by decide +kernel)) ggX4_polynomialAnew_X4_checkPower
set_option maxRecDepth 20000 in
theorem ggX4_polynomialAnew_X1_count : GoodIn wsX4_polynomialAnew wsX1_count := goodIn_r _ [12, 13, 49, 50, 51, 52] (by decide +kernel) (by decide +kernel)
set_option maxRecDepth 20000 in
theorem gX4_polynomialAnew_X1_count : GoodIn wsX4_polynomialAnew (wsV RX4 68 RX1 yX1_count wsX1_count) := goodIn_app (goodIn_of _ (by decide +kernel)) ggX4_polynomialAnew_X1_count
set_option maxRecDepth 20000 in
theorem ggX4_polynomialAnew_X1_pointsOnLowerOnes : GoodIn wsX4_polynomialAnew wsX1_pointsOnLowerOnes := goodIn_r _ [17, 18, 19, 20, 11, 21, 22, 23, 24, 25, 26, 27, 28, 29, 30, 31, 32, 33, 34, 35, 36, 37, 38, 39, 40, 49, 50, 51, 52] (by decide +kernel) (by decide +kernel)
set_option maxRecDepth 20000 in
theorem gX4_polynomialAnew_X1_pointsOnLowerOnes : GoodIn wsX4_polynomialAnew (wsV RX4 108 RX1 yX1_pointsOnLowerOnes wsX1_pointsOnLowerOnes) := goodIn_app (goodIn_of _ (by decide +kernel)) ggX4_polynomialAnew_X1_pointsOnLowerOnes
set_option maxRecDepth 20000 in
theorem ggX4_polynomialAnew_X4_numberWithPower : GoodIn wsX4_polynomialAnew wsX4_numberWithPower := goodIn_r _ [44, 1, 8, 9, 10, 11, 12, 13, 45, 46, 47, 48, 49, 50, 51, 52] (by decide +kernel) (by decide +kernel)
set_option maxRecDepth 20000 in
theorem gX4_polynomialAnew_X4_numberWithPower : GoodIn wsX4_polynomialAnew (wsV RX4 104 RX4 yX4_numberWithPower wsX4_numberWithPower) := goodIn_app (goodIn_of _ (by decide +kernel)) ggX4_polynomialAnew_X4_numberWithPower
theorem dX4_polynomialAnew_0 : decode cX4_polynomialAnew 0 = .ok (.iload_n 1, 1) := by decide +kernel
theorem dX4_polynomialAnew_1 : decode cX4_polynomialAnew 1 = .ok (.invokestatic 98, 3) := by decide +kernel
theorem dX4_polynomialAnew_4 : decode cX4_polynomialAnew 4 = .ok (.iconst 0, 1) := by decide +kernel
theorem dX4_polynomialAnew_5 : decode cX4_polynomialAnew 5 = .ok (.istore_n 2, 1) := by decide +kernel
theorem dX4_polynomialAnew_6 : decode cX4_polynomialAnew 6 = .ok (.iconst 0, 1) := by decide +kernel
theorem dX4_polynomialAnew_7 : decode cX4_polynomialAnew 7 = .ok (.istore_n 3, 1) := by decide +kernel
theorem dX4_polynomialAnew_8 : decode cX4_polynomialAnew 8 = .ok (.iload_n 3, 1) := by decide +kernel
theorem dX4_polynomialAnew_9 : decode cX4_polynomialAnew 9 = .ok (.aload_n 0, 1) := by decide +kernel
theorem dX4_polynomialAnew_10 : decode cX4_polynomialAnew 10 = .ok (.getfield 10, 3) := by decide +kernel
theorem dX4_polynomialAnew_13 : decode cX4_polynomialAnew 13 = .ok (.invokevirtual 68, 3) := by decide +kernel
theorem dX4_polynomialAnew_16 : decode cX4_polynomialAnew 16 = .ok (.if_icmp .ge 20, 3) := by decide +kernel
theorem dX4_polynomialAnew_19 : decode cX4_polynomialAnew 19 = .ok (.iload_n 2, 1) := by decide +kernel
theorem dX4_polynomialAnew_20 : decode cX4_polynomialAnew 20 = .ok (.aload_n 0, 1) := by decide +kernel
theorem dX4_polynomialAnew_21 : decode cX4_polynomialAnew 21 = .ok (.getfield 10, 3) := by decide +kernel
theorem dX4_polynomialAnew_24 : decode cX4_polynomialAnew 24 = .ok (.iload_n 3, 1) := by decide +kernel
theorem dX4_polynomialAnew_25 : decode cX4_polynomialAnew 25 = .ok (.invokevirtual 108, 3) := by decide +kernel
theorem dX4_polynomialAnew_28 : decode cX4_polynomialAnew 28 = .ok (.iadd, 1) := by decide +kernel
theorem dX4_polynomialAnew_29 : decode cX4_polynomialAnew 29 = .ok (.istore_n 2, 1) := by decide +kernel
theorem dX4_polynomialAnew_30 : decode cX4_polynomialAnew 30 = .ok (.iinc 3 1, 3) := by decide +kernel
theorem dX4_polynomialAnew_33 : decode cX4_polynomialAnew 33 = .ok (.goto (-25), 3) := by decide +kernel
theorem dX4_polynomialAnew_36 : decode cX4_polynomialAnew 36 = .ok (.aload_n 0, 1) := by decide +kernel
theorem dX4_polynomialAnew_37 : decode cX4_polynomialAnew 37 = .ok (.iload_n 1, 1) := by decide +kernel
theorem dX4_polynomialAnew_38 : decode cX4_polynomialAnew 38 = .ok (.iload_n 2, 1) := by decide +kernel
theorem dX4_polynomialAnew_39 : decode cX4_polynomialAnew 39 = .ok (.invokevirtual 104, 3) := by decide +kernel
theorem dX4_polynomialAnew_42 : decode cX4_polynomialAnew 42 = .ok (.ireturn, 1) := by decide +kernel
set_option maxRecDepth 20000 in
theorem ggX4_rooms_X3_count : GoodIn wsX4_rooms wsX3_count := goodIn_r _ [6, 7, 12, 13, 14, 15] (by decide +kernel) (by decide +kernel)
set_option maxRecDepth 20000 in
theorem gX4_rooms_X3_count : GoodIn wsX4_rooms (wsV RX4 120 RX3 yX3_count wsX3_count) := goodIn_app (goodIn_of _ (by decide +kernel)) ggX4_rooms_X3_count
theorem dX4_rooms_0 : decode cX4_rooms 0 = .ok (.aload_n 0, 1) := by decide +kernel
theorem dX4_rooms_1 : decode cX4_rooms 1 = .ok (.getfield 26, 3) := by decide +kernel
theorem dX4_rooms_4 : decode cX4_rooms 4 = .ok (.invokevirtual 120, 3) := by decide +kernel
theorem dX4_rooms_7 : decode cX4_rooms 7 = .ok (.ireturn, 1) := by decide +kernel
set_option maxRecDepth 20000 in
theorem ggX4_bounded_X3_count : GoodIn wsX4_bounded wsX3_count := goodIn_r _ [7, 8, 44, 45, 46, 47] (by decide +kernel) (by decide +kernel)
set_option maxRecDepth 20000 in
theorem gX4_bounded_X3_count : GoodIn wsX4_bounded (wsV RX4 120 RX3 yX3_count wsX3_count) := goodIn_app (goodIn_of _ (by decide +kernel)) ggX4_bounded_X3_count
set_option maxRecDepth 20000 in
theorem ggX4_bounded_X3_isBounded : GoodIn wsX4_bounded wsX3_isBounded := goodIn_r _ [12, 13, 14, 15, 16, 17, 18, 19, 20, 21, 22, 23, 24, 25, 26, 27, 28, 29, 30, 31, 32, 33, 34, 35, 36, 37, 38, 39, 44, 45, 46, 47, 48, 49, 50, 51] (by decide +kernel) (by decide +kernel)
set_option maxRecDepth 20000 in
theorem gX4_bounded_X3_isBounded : GoodIn wsX4_bounded (wsV RX4 121 RX3 yX3_isBounded wsX3_isBounded) := goodIn_app (goodIn_of _ (by decide +kernel)) ggX4_bounded_X3_isBounded
theorem dX4_bounded_0 : decode cX4_bounded 0 = .ok (.iconst 0, 1) := by decide +kernel
theorem dX4_bounded_1 : decode cX4_bounded 1 = .ok (.istore_n 1, 1) := by decide +kernel
theorem dX4_bounded_2 : decode cX4_bounded 2 = .ok (.iconst 0, 1) := by decide +kernel
theorem dX4_bounded_3 : decode cX4_bounded 3 = .ok (.istore_n 2, 1) := by decide +kernel
theorem dX4_bounded_4 : decode cX4_bounded 4 = .ok (.iload_n 2, 1) := by decide +kernel
theorem dX4_bounded_5 : decode cX4_bounded 5 = .ok (.aload_n 0, 1) := by decide +kernel
theorem dX4_bounded_6 : decode cX4_bounded 6 = .ok (.getfield 26, 3) := by decide +kernel
theorem dX4_bounded_9 : decode cX4_bounded 9 = .ok (.invokevirtual 120, 3) := by decide +kernel
theorem dX4_bounded_12 : decode cX4_bounded 12 = .ok (.if_icmp .ge 27, 3) := by decide +kernel
theorem dX4_bounded_15 : decode cX4_bounded 15 = .ok (.aload_n 0, 1) := by decide +kernel
theorem dX4_bounded_16 : decode cX4_bounded 16 = .ok (.getfield 26, 3) := by decide +kernel
theorem dX4_bounded_19 : decode cX4_bounded 19 = .ok (.aload_n 0, 1) := by decide +kernel
theorem dX4_bounded_20 : decode cX4_bounded 20 = .ok (.getfield 10, 3) := by decide +kernel
theorem dX4_bounded_23 : decode cX4_bounded 23 = .ok (.iload_n 2, 1) := by decide +kernel
theorem dX4_bounded_24 : decode cX4_bounded 24 = .ok (.invokevirtual 121, 3) := by decide +kernel
theorem dX4_bounded_27 : decode cX4_bounded 27 = .ok (.ifCond .eq 6, 3) := by decide +kernel
theorem dX4_bounded_30 : decode cX4_bounded 30 = .ok (.iinc 1 1, 3) := by decide +kernel
theorem dX4_bounded_33 : decode cX4_bounded 33 = .ok (.iinc 2 1, 3) := by decide +kernel
theorem dX4_bounded_36 : decode cX4_bounded 36 = .ok (.goto (-32), 3) := by decide +kernel
theorem dX4_bounded_39 : decode cX4_bounded 39 = .ok (.iload_n 1, 1) := by decide +kernel
theorem dX4_bounded_40 : decode cX4_bounded 40 = .ok (.ireturn, 1) := by decide +kernel
set_option maxRecDepth 20000 in
theorem ggX4_room_X4_checkRoom : GoodIn wsX4_room wsX4_checkRoom := goodIn_ca (goodIn_r _ [10, 11, 12, 3, 13, 14, 15, 16, 17, 18, 74, 75, 76, 77, 78, 79, 80, 81] (by decide +kernel) (by decide +kernel)) (goodIn_sub (fun _ h => List.mem_cons_of_mem _ (List.mem_append_right _ h)) (by decide +kernel))
set_option maxRecDepth 20000 in
theorem gX4_room_X4_checkRoom : GoodIn wsX4_room (wsV RX4 125 RX4 yX4_checkRoom wsX4_checkRoom) := goodIn_app (goodIn_of _ (by decide +kernel)) ggX4_room_X4_checkRoom
set_option maxRecDepth 20000 in
theorem ggX4_room_X3_set : GoodIn wsX4_room wsX3_set := goodIn_r _ [22, 23, 78, 79, 80, 81] (by decide +kernel) (by decide +kernel)
set_option maxRecDepth 20000 in
theorem gX4_room_X3_set : GoodIn wsX4_room (wsV RX4 128 RX3 yX3_set wsX3_set) := goodIn_app (goodIn_of _ (by decide +kernel)) ggX4_room_X3_set
set_option maxRecDepth 20000 in
theorem ggX4_room_X3_isBounded : GoodIn wsX4_room wsX3_isBounded := goodIn_r _ [27, 23, 28, 29, 30, 31, 32, 33, 34, 35, 36, 37, 38, 39, 40, 41, 42, 43, 44, 45, 46, 47, 48, 9, 49, 50, 51, 52, 78, 79, 80, 81, 82, 83, 84, 85] (by decide +kernel) (by decide +kernel)
set_option maxRecDepth 20000 in
theorem gX4_room_X3_isBounded : GoodIn wsX4_room (wsV RX4 121 RX3 yX3_isBounded wsX3_isBounded) := goodIn_app (goodIn_of _ (by decide +kernel)) ggX4_room_X3_isBounded
set_option maxRecDepth 20000 in
theorem ggX4_room_X3_walls : GoodIn wsX4_room wsX3_walls := goodIn_r _ [56, 57, 23, 51, 9, 52, 78, 79, 80, 81] (by decide +kernel) (by decide +kernel)
set_option maxRecDepth 20000 in
theorem gX4_room_X3_walls : GoodIn wsX4_room (wsV RX4 131 RX3 yX3_walls wsX3_walls) := goodIn_app (goodIn_of _ (by decide +kernel)) ggX4_room_X3_walls
set_option maxRecDepth 20000 in
theorem ggX4_room_X2_cornersOf : GoodIn wsX4_room wsX2_cornersOf := goodIn_r _ [62, 63, 64, 65, 66, 61, 67, 68, 69, 70, 71, 72, 73, 86, 87, 88, 89, 90, 91] (by decide +kernel) (by decide +kernel)
set_option maxRecDepth 20000 in
theorem gX4_room_X2_cornersOf : GoodIn wsX4_room (wsV RX4 134 RX2 yX2_cornersOf wsX2_cornersOf) := goodIn_app (goodIn_of _ (by decide +kernel)) ggX4_room_X2_cornersOf
theorem dX4_room_0 : decode cX4_room 0 = .ok (.aload_n 0, 1) := by decide +kernel
theorem dX4_room_1 : decode cX4_room 1 = .ok (.iload_n 1, 1) := by decide +kernel
theorem dX4_room_2 : decode cX4_room 2 = .ok (.invokevirtual 125, 3) := by decide +kernel
theorem dX4_room_5 : decode cX4_room 5 = .ok (.iload_n 2, 1) := by decide +kernel
theorem dX4_room_6 : decode cX4_room 6 = .ok (.tableswitch 85 0 3 #[30, 39, 60, 69], 30) := by decide +kernel
theorem dX4_room_36 : decode cX4_room 36 = .ok (.aload_n 0, 1) := by decide +kernel
theorem dX4_room_37 : decode cX4_room 37 = .ok (.getfield 26, 3) := by decide +kernel
theorem dX4_room_40 : decode cX4_room 40 = .ok (.iload_n 1, 1) := by decide +kernel
theorem dX4_room_41 : decode cX4_room 41 = .ok (.invokevirtual 128, 3) := by decide +kernel
theorem dX4_room_44 : decode cX4_room 44 = .ok (.ireturn, 1) := by decide +kernel
theorem dX4_room_45 : decode cX4_room 45 = .ok (.aload_n 0, 1) := by decide +kernel
theorem dX4_room_46 : decode cX4_room 46 = .ok (.getfield 26, 3) := by decide +kernel
theorem dX4_room_49 : decode cX4_room 49 = .ok (.aload_n 0, 1) := by decide +kernel
theorem dX4_room_50 : decode cX4_room 50 = .ok (.getfield 10, 3) := by decide +kernel
theorem dX4_room_53 : decode cX4_room 53 = .ok (.iload_n 1, 1) := by decide +kernel
theorem dX4_room_54 : decode cX4_room 54 = .ok (.invokevirtual 121, 3) := by decide +kernel
theorem dX4_room_57 : decode cX4_room 57 = .ok (.ifCond .eq 7, 3) := by decide +kernel
theorem dX4_room_60 : decode cX4_room 60 = .ok (.iconst 1, 1) := by decide +kernel
theorem dX4_room_61 : decode cX4_room 61 = .ok (.goto 4, 3) := by decide +kernel
theorem dX4_room_64 : decode cX4_room 64 = .ok (.iconst 0, 1) := by decide +kernel
theorem dX4_room_65 : decode cX4_room 65 = .ok (.ireturn, 1) := by decide +kernel
theorem dX4_room_66 : decode cX4_room 66 = .ok (.aload_n 0, 1) := by decide +kernel
theorem dX4_room_67 : decode cX4_room 67 = .ok (.getfield 26, 3) := by decide +kernel
theorem dX4_room_70 : decode cX4_room 70 = .ok (.iload_n 1, 1) := by decide +kernel
theorem dX4_room_71 : decode cX4_room 71 = .ok (.invokevirtual 131, 3) := by decide +kernel
theorem dX4_room_74 : decode cX4_room 74 = .ok (.ireturn, 1) := by decide +kernel
theorem dX4_room_75 : decode cX4_room 75 = .ok (.aload_n 0, 1) := by decide +kernel
theorem dX4_room_76 : decode cX4_room 76 = .ok (.getfield 19, 3) := by decide +kernel
theorem dX4_room_79 : decode cX4_room 79 = .ok (.aload_n 0, 1) := by decide +kernel
theorem dX4_room_80 : decode cX4_room 80 = .ok (.getfield 26, 3) := by decide +kernel
theorem dX4_room_83 : decode cX4_room 83 = .ok (.iload_n 1, 1) := by decide +kernel
theorem dX4_room_84 : decode cX4_room 84 = .ok (.invokevirtual 128, 3) := by decide +kernel
theorem dX4_room_87 : decode cX4_room 87 = .ok (.invokevirtual 134, 3) := by decide +kernel
theorem dX4_room_90 : decode cX4_room 90 = .ok (.ireturn, 1) := by decide +kernel
theorem dX4_room_91 : decode cX4_room 91 = .ok (.new 41, 3) := by decide +kernel
theorem dX4_room_94 : decode cX4_room 94 = .ok (.dup, 1) := by decide +kernel
theorem dX4_room_95 : decode cX4_room 95 = .ok (.ldc 96, 2) := by decide +kernel
theorem dX4_room_97 : decode cX4_room 97 = .ok (.invokespecial 45, 3) := by decide +kernel
theorem dX4_room_100 : decode cX4_room 100 = .ok (.athrow, 1) := by decide +kernel
set_option maxRecDepth 20000 in
theorem ggX4_roomOf_X3_numberOf : GoodIn wsX4_roomOf wsX3_numberOf := goodIn_r _ [8, 9, 14, 15, 16, 17] (by decide +kernel) (by decide +kernel)
set_option maxRecDepth 20000 in
theorem gX4_roomOf_X3_numberOf : GoodIn wsX4_roomOf (wsV RX4 139 RX3 yX3_numberOf wsX3_numberOf) := goodIn_app (goodIn_of _ (by decide +kernel)) ggX4_roomOf_X3_numberOf
theorem dX4_roomOf_0 : decode cX4_roomOf 0 = .ok (.iload_n 1, 1) := by decide +kernel
theorem dX4_roomOf_1 : decode cX4_roomOf 1 = .ok (.ifCond .lt 10, 3) := by decide +kernel
theorem dX4_roomOf_4 : decode cX4_roomOf 4 = .ok (.iload_n 1, 1) := by decide +kernel
theorem dX4_roomOf_5 : decode cX4_roomOf 5 = .ok (.sipush 512, 3) := by decide +kernel
theorem dX4_roomOf_8 : decode cX4_roomOf 8 = .ok (.if_icmp .lt 13, 3) := by decide +kernel
theorem dX4_roomOf_11 : decode cX4_roomOf 11 = .ok (.new 41, 3) := by decide +kernel
theorem dX4_roomOf_14 : decode cX4_roomOf 14 = .ok (.dup, 1) := by decide +kernel
theorem dX4_roomOf_15 : decode cX4_roomOf 15 = .ok (.ldc 137, 2) := by decide +kernel
theorem dX4_roomOf_17 : decode cX4_roomOf 17 = .ok (.invokespecial 45, 3) := by decide +kernel
theorem dX4_roomOf_20 : decode cX4_roomOf 20 = .ok (.athrow, 1) := by decide +kernel
theorem dX4_roomOf_21 : decode cX4_roomOf 21 = .ok (.aload_n 0, 1) := by decide +kernel
theorem dX4_roomOf_22 : decode cX4_roomOf 22 = .ok (.getfield 26, 3) := by decide +kernel
theorem dX4_roomOf_25 : decode cX4_roomOf 25 = .ok (.iload_n 1, 1) := by decide +kernel
theorem dX4_roomOf_26 : decode cX4_roomOf 26 = .ok (.invokevirtual 139, 3) := by decide +kernel
theorem dX4_roomOf_29 : decode cX4_roomOf 29 = .ok (.ireturn, 1) := by decide +kernel
set_option maxRecDepth 20000 in
theorem ggX4_corner_X4_checkRoom : GoodIn wsX4_corner wsX4_checkRoom := goodIn_ca (goodIn_r _ [7, 8, 9, 2, 10, 11, 12, 13, 14, 15, 40, 41, 42, 43, 44, 45, 46, 47] (by decide +kernel) (by decide +kernel)) (goodIn_sub (fun _ h => List.mem_cons_of_mem _ (List.mem_append_right _ h)) (by decide +kernel))
set_option maxRecDepth 20000 in
theorem gX4_corner_X4_checkRoom : GoodIn wsX4_corner (wsV RX4 125 RX4 yX4_checkRoom wsX4_checkRoom) := goodIn_app (goodIn_of _ (by decide +kernel)) ggX4_corner_X4_checkRoom
set_option maxRecDepth 20000 in
theorem ggX4_corner_X4_checkPlace : GoodIn wsX4_corner wsX4_checkPlace := goodIn_ca (goodIn_r _ [18, 8, 9] (by decide +kernel) (by decide +kernel)) (goodIn_sub (fun _ h => List.mem_cons_of_mem _ (List.mem_append_right _ h)) (by decide +kernel))
set_option maxRecDepth 20000 in
theorem gX4_corner_X4_checkPlace : GoodIn wsX4_corner (va_wsS RX4 141 yX4_checkPlace wsX4_checkPlace) := goodIn_app (goodIn_of _ (by decide +kernel)) ggX4_corner_X4_checkPlace
set_option maxRecDepth 20000 in
theorem ggX4_corner_X3_set : GoodIn wsX4_corner wsX3_set := goodIn_r _ [22, 23, 44, 45, 46, 47] (by decide +kernel) (by decide +kernel)
set_option maxRecDepth 20000 in
theorem gX4_corner_X3_set : GoodIn wsX4_corner (wsV RX4 128 RX3 yX3_set wsX3_set) := goodIn_app (goodIn_of _ (by decide +kernel)) ggX4_corner_X3_set
set_option maxRecDepth 20000 in
theorem ggX4_corner_X2_cornerAt : GoodIn wsX4_corner wsX2_cornerAt := goodIn_r _ [28, 29, 30, 31, 32, 27, 33, 34, 35, 36, 37, 38, 39, 48, 49, 50, 51, 52, 53] (by decide +kernel) (by decide +kernel)
set_option maxRecDepth 20000 in
theorem gX4_corner_X2_cornerAt : GoodIn wsX4_corner (wsV RX4 144 RX2 yX2_cornerAt wsX2_cornerAt) := goodIn_app (goodIn_of _ (by decide +kernel)) ggX4_corner_X2_cornerAt
theorem dX4_corner_0 : decode cX4_corner 0 = .ok (.aload_n 0, 1) := by decide +kernel
theorem dX4_corner_1 : decode cX4_corner 1 = .ok (.iload_n 1, 1) := by decide +kernel
theorem dX4_corner_2 : decode cX4_corner 2 = .ok (.invokevirtual 125, 3) := by decide +kernel
theorem dX4_corner_5 : decode cX4_corner 5 = .ok (.iload_n 2, 1) := by decide +kernel
theorem dX4_corner_6 : decode cX4_corner 6 = .ok (.invokestatic 141, 3) := by decide +kernel
theorem dX4_corner_9 : decode cX4_corner 9 = .ok (.aload_n 0, 1) := by decide +kernel
theorem dX4_corner_10 : decode cX4_corner 10 = .ok (.getfield 19, 3) := by decide +kernel
theorem dX4_corner_13 : decode cX4_corner 13 = .ok (.aload_n 0, 1) := by decide +kernel
theorem dX4_corner_14 : decode cX4_corner 14 = .ok (.getfield 26, 3) := by decide +kernel
theorem dX4_corner_17 : decode cX4_corner 17 = .ok (.iload_n 1, 1) := by decide +kernel
theorem dX4_corner_18 : decode cX4_corner 18 = .ok (.invokevirtual 128, 3) := by decide +kernel
theorem dX4_corner_21 : decode cX4_corner 21 = .ok (.iload_n 2, 1) := by decide +kernel
theorem dX4_corner_22 : decode cX4_corner 22 = .ok (.invokevirtual 144, 3) := by decide +kernel
theorem dX4_corner_25 : decode cX4_corner 25 = .ok (.ireturn, 1) := by decide +kernel
set_option maxRecDepth 20000 in
theorem ggX4_galleries_X4_checkRoom : GoodIn wsX4_galleries wsX4_checkRoom := goodIn_ca (goodIn_r _ [6, 7, 8, 1, 9, 10, 11, 12, 13, 14, 31, 32, 33, 34, 35, 36, 37, 38] (by decide +kernel) (by decide +kernel)) (goodIn_sub (fun _ h => List.mem_cons_of_mem _ (List.mem_append_right _ h)) (by decide +kernel))
set_option maxRecDepth 20000 in
theorem gX4_galleries_X4_checkRoom : GoodIn wsX4_galleries (wsV RX4 125 RX4 yX4_checkRoom wsX4_checkRoom) := goodIn_app (goodIn_of _ (by decide +kernel)) ggX4_galleries_X4_checkRoom
set_option maxRecDepth 20000 in
theorem ggX4_galleries_X3_shortestWays : GoodIn wsX4_galleries wsX3_shortestWays := goodIn_r _ [18, 19, 20, 21, 22, 23, 12, 24, 25, 26, 5, 27, 28, 29, 30, 35, 36, 37, 38] (by decide +kernel) (by decide +kernel)
set_option maxRecDepth 20000 in
theorem gX4_galleries_X3_shortestWays : GoodIn wsX4_galleries (wsV RX4 147 RX3 yX3_shortestWays wsX3_shortestWays) := goodIn_app (goodIn_of _ (by decide +kernel)) ggX4_galleries_X3_shortestWays
theorem dX4_galleries_0 : decode cX4_galleries 0 = .ok (.aload_n 0, 1) := by decide +kernel
theorem dX4_galleries_1 : decode cX4_galleries 1 = .ok (.iload_n 1, 1) := by decide +kernel
theorem dX4_galleries_2 : decode cX4_galleries 2 = .ok (.invokevirtual 125, 3) := by decide +kernel
theorem dX4_galleries_5 : decode cX4_galleries 5 = .ok (.aload_n 0, 1) := by decide +kernel
theorem dX4_galleries_6 : decode cX4_galleries 6 = .ok (.iload_n 2, 1) := by decide +kernel
theorem dX4_galleries_7 : decode cX4_galleries 7 = .ok (.invokevirtual 125, 3) := by decide +kernel
theorem dX4_galleries_10 : decode cX4_galleries 10 = .ok (.aload_n 0, 1) := by decide +kernel
theorem dX4_galleries_11 : decode cX4_galleries 11 = .ok (.getfield 26, 3) := by decide +kernel
theorem dX4_galleries_14 : decode cX4_galleries 14 = .ok (.iload_n 1, 1) := by decide +kernel
theorem dX4_galleries_15 : decode cX4_galleries 15 = .ok (.iload_n 2, 1) := by decide +kernel
theorem dX4_galleries_16 : decode cX4_galleries 16 = .ok (.invokevirtual 147, 3) := by decide +kernel
theorem dX4_galleries_19 : decode cX4_galleries 19 = .ok (.ireturn, 1) := by decide +kernel
set_option maxRecDepth 20000 in
theorem ggX4_gallery_X4_checkRoom : GoodIn wsX4_gallery wsX4_checkRoom := goodIn_ca (goodIn_r _ [6, 7, 8, 1, 9, 10, 11, 12, 13, 14, 40, 41, 42, 43, 44, 45, 46, 47] (by decide +kernel) (by decide +kernel)) (goodIn_sub (fun _ h => List.mem_cons_of_mem _ (List.mem_append_right _ h)) (by decide +kernel))
set_option maxRecDepth 20000 in
theorem gX4_gallery_X4_checkRoom : GoodIn wsX4_gallery (wsV RX4 125 RX4 yX4_checkRoom wsX4_checkRoom) := goodIn_app (goodIn_of _ (by decide +kernel)) ggX4_gallery_X4_checkRoom
set_option maxRecDepth 20000 in
theorem ggX4_gallery_X4_checkPlace : GoodIn wsX4_gallery wsX4_checkPlace := goodIn_ca (goodIn_r _ [17, 7, 8] (by decide +kernel) (by decide +kernel)) (goodIn_sub (fun _ h => List.mem_cons_of_mem _ (List.mem_append_right _ h)) (by decide +kernel))
set_option maxRecDepth 20000 in
theorem gX4_gallery_X4_checkPlace : GoodIn wsX4_gallery (va_wsS RX4 141 yX4_checkPlace wsX4_checkPlace) := goodIn_app (goodIn_of _ (by decide +kernel)) ggX4_gallery_X4_checkPlace
set_option maxRecDepth 20000 in
theorem ggX4_gallery_X3_onFirstWay : GoodIn wsX4_gallery wsX3_onFirstWay := goodIn_r _ [21, 22, 23, 24, 25, 26, 12, 27, 28, 5, 29, 30, 31, 32, 33, 34, 35, 36, 37, 38, 39, 44, 45, 46, 47] (by decide +kernel) (by decide +kernel)
set_option maxRecDepth 20000 in
theorem gX4_gallery_X3_onFirstWay : GoodIn wsX4_gallery (wsV RX4 150 RX3 yX3_onFirstWay wsX3_onFirstWay) := goodIn_app (goodIn_of _ (by decide +kernel)) ggX4_gallery_X3_onFirstWay
theorem dX4_gallery_0 : decode cX4_gallery 0 = .ok (.aload_n 0, 1) := by decide +kernel
theorem dX4_gallery_1 : decode cX4_gallery 1 = .ok (.iload_n 1, 1) := by decide +kernel
theorem dX4_gallery_2 : decode cX4_gallery 2 = .ok (.invokevirtual 125, 3) := by decide +kernel
theorem dX4_gallery_5 : decode cX4_gallery 5 = .ok (.aload_n 0, 1) := by decide +kernel
theorem dX4_gallery_6 : decode cX4_gallery 6 = .ok (.iload_n 2, 1) := by decide +kernel
theorem dX4_gallery_7 : decode cX4_gallery 7 = .ok (.invokevirtual 125, 3) := by decide +kernel
theorem dX4_gallery_10 : decode cX4_gallery 10 = .ok (.iload_n 3, 1) := by decide +kernel
theorem dX4_gallery_11 : decode cX4_gallery 11 = .ok (.invokestatic 141, 3) := by decide +kernel
theorem dX4_gallery_14 : decode cX4_gallery 14 = .ok (.aload_n 0, 1) := by decide +kernel
theorem dX4_gallery_15 : decode cX4_gallery 15 = .ok (.getfield 26, 3) := by decide +kernel
theorem dX4_gallery_18 : decode cX4_gallery 18 = .ok (.iload_n 1, 1) := by decide +kernel
theorem dX4_gallery_19 : decode cX4_gallery 19 = .ok (.iload_n 2, 1) := by decide +kernel
theorem dX4_gallery_20 : decode cX4_gallery 20 = .ok (.iload_n 3, 1) := by decide +kernel
theorem dX4_gallery_21 : decode cX4_gallery 21 = .ok (.invokevirtual 150, 3) := by decide +kernel
theorem dX4_gallery_24 : decode cX4_gallery 24 = .ok (.ireturn, 1) := by decide +kernel
set_option maxRecDepth 20000 in
theorem ggX4_project_X4_checkRoom : GoodIn wsX4_project wsX4_checkRoom := goodIn_ca (goodIn_r _ [7, 8, 9, 1, 10, 11, 12, 13, 14, 15, 42, 43, 44, 45, 46, 47, 48, 49] (by decide +kernel) (by decide +kernel)) (goodIn_sub (fun _ h => List.mem_cons_of_mem _ (List.mem_append_right _ h)) (by decide +kernel))
set_option maxRecDepth 20000 in
theorem gX4_project_X4_checkRoom : GoodIn wsX4_project (wsV RX4 125 RX4 yX4_checkRoom wsX4_checkRoom) := goodIn_app (goodIn_of _ (by decide +kernel)) ggX4_project_X4_checkRoom
set_option maxRecDepth 20000 in
theorem ggX4_project_X4_checkMeet : GoodIn wsX4_project wsX4_checkMeet := goodIn_ca (goodIn_r _ [19, 8, 9, 2, 20, 21, 22, 23, 24, 25, 42, 43, 44, 45, 50, 51, 52, 53, 54, 55] (by decide +kernel) (by decide +kernel)) (goodIn_sub (fun _ h => List.mem_cons_of_mem _ (List.mem_append_right _ h)) (by decide +kernel))
set_option maxRecDepth 20000 in
theorem gX4_project_X4_checkMeet : GoodIn wsX4_project (wsV RX4 80 RX4 yX4_checkMeet wsX4_checkMeet) := goodIn_app (goodIn_of _ (by decide +kernel)) ggX4_project_X4_checkMeet
set_option maxRecDepth 20000 in
theorem ggX4_project_X3_set : GoodIn wsX4_project wsX3_set := goodIn_r _ [29, 30, 46, 47, 48, 49] (by decide +kernel) (by decide +kernel)
set_option maxRecDepth 20000 in
theorem gX4_project_X3_set : GoodIn wsX4_project (wsV RX4 128 RX3 yX3_set wsX3_set) := goodIn_app (goodIn_of _ (by decide +kernel)) ggX4_project_X3_set
set_option maxRecDepth 20000 in
theorem ggX4_project_X2_projected : GoodIn wsX4_project wsX2_projected := goodIn_r _ [34, 35, 36, 50, 51, 52, 53, 54, 55] (by decide +kernel) (by decide +kernel)
set_option maxRecDepth 20000 in
theorem gX4_project_X2_projected : GoodIn wsX4_project (wsV RX4 153 RX2 yX2_projected wsX2_projected) := goodIn_app (goodIn_of _ (by decide +kernel)) ggX4_project_X2_projected
set_option maxRecDepth 20000 in
theorem ggX4_project_X3_numberOf : GoodIn wsX4_project wsX3_numberOf := goodIn_r _ [40, 41, 46, 47, 48, 49] (by decide +kernel) (by decide +kernel)
set_option maxRecDepth 20000 in
theorem gX4_project_X3_numberOf : GoodIn wsX4_project (wsV RX4 139 RX3 yX3_numberOf wsX3_numberOf) := goodIn_app (goodIn_of _ (by decide +kernel)) ggX4_project_X3_numberOf
theorem dX4_project_0 : decode cX4_project 0 = .ok (.aload_n 0, 1) := by decide +kernel
theorem dX4_project_1 : decode cX4_project 1 = .ok (.iload_n 1, 1) := by decide +kernel
theorem dX4_project_2 : decode cX4_project 2 = .ok (.invokevirtual 125, 3) := by decide +kernel
theorem dX4_project_5 : decode cX4_project 5 = .ok (.aload_n 0, 1) := by decide +kernel
theorem dX4_project_6 : decode cX4_project 6 = .ok (.iload_n 2, 1) := by decide +kernel
theorem dX4_project_7 : decode cX4_project 7 = .ok (.invokevirtual 80, 3) := by decide +kernel
theorem dX4_project_10 : decode cX4_project 10 = .ok (.aload_n 0, 1) := by decide +kernel
theorem dX4_project_11 : decode cX4_project 11 = .ok (.getfield 26, 3) := by decide +kernel
theorem dX4_project_14 : decode cX4_project 14 = .ok (.aload_n 0, 1) := by decide +kernel
theorem dX4_project_15 : decode cX4_project 15 = .ok (.getfield 19, 3) := by decide +kernel
theorem dX4_project_18 : decode cX4_project 18 = .ok (.iload_n 2, 1) := by decide +kernel
theorem dX4_project_19 : decode cX4_project 19 = .ok (.aload_n 0, 1) := by decide +kernel
theorem dX4_project_20 : decode cX4_project 20 = .ok (.getfield 26, 3) := by decide +kernel
theorem dX4_project_23 : decode cX4_project 23 = .ok (.iload_n 1, 1) := by decide +kernel
theorem dX4_project_24 : decode cX4_project 24 = .ok (.invokevirtual 128, 3) := by decide +kernel
theorem dX4_project_27 : decode cX4_project 27 = .ok (.invokevirtual 153, 3) := by decide +kernel
theorem dX4_project_30 : decode cX4_project 30 = .ok (.invokevirtual 139, 3) := by decide +kernel
theorem dX4_project_33 : decode cX4_project 33 = .ok (.ireturn, 1) := by decide +kernel
set_option maxRecDepth 20000 in
theorem ggX4_best_X4_checkRoom : GoodIn wsX4_best wsX4_checkRoom := goodIn_ca (goodIn_r _ [10, 11, 12, 3, 13, 14, 15, 16, 17, 18, 79, 80, 81, 82, 83, 84, 85, 86] (by decide +kernel) (by decide +kernel)) (goodIn_sub (fun _ h => List.mem_cons_of_mem _ (List.mem_append_right _ h)) (by decide +kernel))
set_option maxRecDepth 20000 in
theorem gX4_best_X4_checkRoom : GoodIn wsX4_best (wsV RX4 125 RX4 yX4_checkRoom wsX4_checkRoom) := goodIn_app (goodIn_of _ (by decide +kernel)) ggX4_best_X4_checkRoom
set_option maxRecDepth 20000 in
theorem ggX4_best_X4_isTooFar : GoodIn wsX4_best wsX4_isTooFar := goodIn_r _ [21] (by decide +kernel) (by decide +kernel)
set_option maxRecDepth 20000 in
theorem gX4_best_X4_isTooFar : GoodIn wsX4_best (va_wsS RX4 37 yX4_isTooFar wsX4_isTooFar) := goodIn_app (goodIn_of _ (by decide +kernel)) ggX4_best_X4_isTooFar
set_option maxRecDepth 20000 in
theorem ggX4_best_X3_hasBound : GoodIn wsX4_best wsX3_hasBound := goodIn_r _ [25, 26, 27, 28, 29, 30, 31, 32, 33, 34, 35, 36, 37, 38, 39, 40, 41, 42, 43, 44, 45, 46, 47, 9, 48, 49, 50, 51, 83, 84, 85, 86, 87, 88, 89, 90] (by decide +kernel) (by decide +kernel)
set_option maxRecDepth 20000 in
theorem gX4_best_X3_hasBound : GoodIn wsX4_best (wsV RX4 158 RX3 yX3_hasBound wsX3_hasBound) := goodIn_app (goodIn_of _ (by decide +kernel)) ggX4_best_X3_hasBound
set_option maxRecDepth 20000 in
theorem ggX4_best_X3_set : GoodIn wsX4_best wsX3_set := goodIn_r _ [55, 26, 83, 84, 85, 86] (by decide +kernel) (by decide +kernel)
set_option maxRecDepth 20000 in
theorem gX4_best_X3_set : GoodIn wsX4_best (wsV RX4 128 RX3 yX3_set wsX3_set) := goodIn_app (goodIn_of _ (by decide +kernel)) ggX4_best_X3_set
set_option maxRecDepth 20000 in
theorem ggX4_best_X2_bestCorner : GoodIn wsX4_best wsX2_bestCorner := goodIn_r _ [60, 61, 62, 63, 64, 59, 65, 66, 67, 68, 69, 70, 71, 72, 73, 74, 75, 76, 77, 78, 91, 92, 93, 94, 95, 96] (by decide +kernel) (by decide +kernel)
set_option maxRecDepth 20000 in
theorem gX4_best_X2_bestCorner : GoodIn wsX4_best (wsV RX4 162 RX2 yX2_bestCorner wsX2_bestCorner) := goodIn_app (goodIn_of _ (by decide +kernel)) ggX4_best_X2_bestCorner
theorem dX4_best_0 : decode cX4_best 0 = .ok (.aload_n 0, 1) := by decide +kernel
theorem dX4_best_1 : decode cX4_best 1 = .ok (.iload_n 1, 1) := by decide +kernel
theorem dX4_best_2 : decode cX4_best 2 = .ok (.invokevirtual 125, 3) := by decide +kernel
theorem dX4_best_5 : decode cX4_best 5 = .ok (.iload_n 2, 1) := by decide +kernel
theorem dX4_best_6 : decode cX4_best 6 = .ok (.invokestatic 37, 3) := by decide +kernel
theorem dX4_best_9 : decode cX4_best 9 = .ok (.ifCond .ne 18, 3) := by decide +kernel
theorem dX4_best_12 : decode cX4_best 12 = .ok (.iload_n 3, 1) := by decide +kernel
theorem dX4_best_13 : decode cX4_best 13 = .ok (.invokestatic 37, 3) := by decide +kernel
theorem dX4_best_16 : decode cX4_best 16 = .ok (.ifCond .ne 11, 3) := by decide +kernel
theorem dX4_best_19 : decode cX4_best 19 = .ok (.iload_n 2, 1) := by decide +kernel
theorem dX4_best_20 : decode cX4_best 20 = .ok (.ifCond .ne 17, 3) := by decide +kernel
theorem dX4_best_23 : decode cX4_best 23 = .ok (.iload_n 3, 1) := by decide +kernel
theorem dX4_best_24 : decode cX4_best 24 = .ok (.ifCond .ne 13, 3) := by decide +kernel
theorem dX4_best_27 : decode cX4_best 27 = .ok (.new 41, 3) := by decide +kernel
theorem dX4_best_30 : decode cX4_best 30 = .ok (.dup, 1) := by decide +kernel
theorem dX4_best_31 : decode cX4_best 31 = .ok (.ldc 156, 2) := by decide +kernel
theorem dX4_best_33 : decode cX4_best 33 = .ok (.invokespecial 45, 3) := by decide +kernel
theorem dX4_best_36 : decode cX4_best 36 = .ok (.athrow, 1) := by decide +kernel
theorem dX4_best_37 : decode cX4_best 37 = .ok (.aload_n 0, 1) := by decide +kernel
theorem dX4_best_38 : decode cX4_best 38 = .ok (.getfield 26, 3) := by decide +kernel
theorem dX4_best_41 : decode cX4_best 41 = .ok (.aload_n 0, 1) := by decide +kernel
theorem dX4_best_42 : decode cX4_best 42 = .ok (.getfield 10, 3) := by decide +kernel
theorem dX4_best_45 : decode cX4_best 45 = .ok (.iload_n 1, 1) := by decide +kernel
theorem dX4_best_46 : decode cX4_best 46 = .ok (.iload_n 2, 1) := by decide +kernel
theorem dX4_best_47 : decode cX4_best 47 = .ok (.iload_n 3, 1) := by decide +kernel
theorem dX4_best_48 : decode cX4_best 48 = .ok (.invokevirtual 158, 3) := by decide +kernel
theorem dX4_best_51 : decode cX4_best 51 = .ok (.ifCond .eq 23, 3) := by decide +kernel
theorem dX4_best_54 : decode cX4_best 54 = .ok (.aload_n 0, 1) := by decide +kernel
theorem dX4_best_55 : decode cX4_best 55 = .ok (.getfield 19, 3) := by decide +kernel
theorem dX4_best_58 : decode cX4_best 58 = .ok (.aload_n 0, 1) := by decide +kernel
theorem dX4_best_59 : decode cX4_best 59 = .ok (.getfield 26, 3) := by decide +kernel
theorem dX4_best_62 : decode cX4_best 62 = .ok (.iload_n 1, 1) := by decide +kernel
theorem dX4_best_63 : decode cX4_best 63 = .ok (.invokevirtual 128, 3) := by decide +kernel
theorem dX4_best_66 : decode cX4_best 66 = .ok (.iload_n 2, 1) := by decide +kernel
theorem dX4_best_67 : decode cX4_best 67 = .ok (.iload_n 3, 1) := by decide +kernel
theorem dX4_best_68 : decode cX4_best 68 = .ok (.invokevirtual 162, 3) := by decide +kernel
theorem dX4_best_71 : decode cX4_best 71 = .ok (.goto 4, 3) := by decide +kernel
theorem dX4_best_74 : decode cX4_best 74 = .ok (.iconst (-1), 1) := by decide +kernel
theorem dX4_best_75 : decode cX4_best 75 = .ok (.ireturn, 1) := by decide +kernel
set_option maxRecDepth 20000 in
theorem ggX4_reflected_X4_checkLine : GoodIn wsX4_reflected wsX4_checkLine := goodIn_ca (goodIn_r _ [6, 7, 8, 1, 9, 10, 11, 12, 13, 14, 26, 27, 28, 29, 30, 31, 32, 33] (by decide +kernel) (by decide +kernel)) (goodIn_sub (fun _ h => List.mem_cons_of_mem _ (List.mem_append_right _ h)) (by decide +kernel))
set_option maxRecDepth 20000 in
theorem gX4_reflected_X4_checkLine : GoodIn wsX4_reflected (wsV RX4 72 RX4 yX4_checkLine wsX4_checkLine) := goodIn_app (goodIn_of _ (by decide +kernel)) ggX4_reflected_X4_checkLine
set_option maxRecDepth 20000 in
theorem ggX4_reflected_X1_mirrored : GoodIn wsX4_reflected wsX1_mirrored := goodIn_r _ [18, 19, 20, 21, 22, 23, 24, 12, 25, 14, 30, 31, 32, 33] (by decide +kernel) (by decide +kernel)
set_option maxRecDepth 20000 in
theorem gX4_reflected_X1_mirrored : GoodIn wsX4_reflected (wsV RX4 165 RX1 yX1_mirrored wsX1_mirrored) := goodIn_app (goodIn_of _ (by decide +kernel)) ggX4_reflected_X1_mirrored
theorem dX4_reflected_0 : decode cX4_reflected 0 = .ok (.aload_n 0, 1) := by decide +kernel
theorem dX4_reflected_1 : decode cX4_reflected 1 = .ok (.iload_n 1, 1) := by decide +kernel
theorem dX4_reflected_2 : decode cX4_reflected 2 = .ok (.invokevirtual 72, 3) := by decide +kernel
theorem dX4_reflected_5 : decode cX4_reflected 5 = .ok (.aload_n 0, 1) := by decide +kernel
theorem dX4_reflected_6 : decode cX4_reflected 6 = .ok (.iload_n 2, 1) := by decide +kernel
theorem dX4_reflected_7 : decode cX4_reflected 7 = .ok (.invokevirtual 72, 3) := by decide +kernel
theorem dX4_reflected_10 : decode cX4_reflected 10 = .ok (.aload_n 0, 1) := by decide +kernel
theorem dX4_reflected_11 : decode cX4_reflected 11 = .ok (.getfield 10, 3) := by decide +kernel
theorem dX4_reflected_14 : decode cX4_reflected 14 = .ok (.iload_n 1, 1) := by decide +kernel
theorem dX4_reflected_15 : decode cX4_reflected 15 = .ok (.iload_n 2, 1) := by decide +kernel
theorem dX4_reflected_16 : decode cX4_reflected 16 = .ok (.invokevirtual 165, 3) := by decide +kernel
theorem dX4_reflected_19 : decode cX4_reflected 19 = .ok (.ireturn, 1) := by decide +kernel
set_option maxRecDepth 20000 in
theorem ggX4_isKaleidoscope_X1_count : GoodIn wsX4_isKaleidoscope wsX1_count := goodIn_r _ [6, 7, 23, 24, 25, 26] (by decide +kernel) (by decide +kernel)
set_option maxRecDepth 20000 in
theorem gX4_isKaleidoscope_X1_count : GoodIn wsX4_isKaleidoscope (wsV RX4 68 RX1 yX1_count wsX1_count) := goodIn_app (goodIn_of _ (by decide +kernel)) ggX4_isKaleidoscope_X1_count
set_option maxRecDepth 20000 in
theorem ggX4_isKaleidoscope_X1_mirrored : GoodIn wsX4_isKaleidoscope wsX1_mirrored := goodIn_r _ [11, 12, 13, 14, 15, 16, 17, 5, 18, 7, 23, 24, 25, 26] (by decide +kernel) (by decide +kernel)
set_option maxRecDepth 20000 in
theorem gX4_isKaleidoscope_X1_mirrored : GoodIn wsX4_isKaleidoscope (wsV RX4 165 RX1 yX1_mirrored wsX1_mirrored) := goodIn_app (goodIn_of _ (by decide +kernel)) ggX4_isKaleidoscope_X1_mirrored
theorem dX4_isKaleidoscope_0 : decode cX4_isKaleidoscope 0 = .ok (.iconst 0, 1) := by decide +kernel
theorem dX4_isKaleidoscope_1 : decode cX4_isKaleidoscope 1 = .ok (.istore_n 1, 1) := by decide +kernel
theorem dX4_isKaleidoscope_2 : decode cX4_isKaleidoscope 2 = .ok (.iload_n 1, 1) := by decide +kernel
theorem dX4_isKaleidoscope_3 : decode cX4_isKaleidoscope 3 = .ok (.aload_n 0, 1) := by decide +kernel
theorem dX4_isKaleidoscope_4 : decode cX4_isKaleidoscope 4 = .ok (.getfield 10, 3) := by decide +kernel
theorem dX4_isKaleidoscope_7 : decode cX4_isKaleidoscope 7 = .ok (.invokevirtual 68, 3) := by decide +kernel
theorem dX4_isKaleidoscope_10 : decode cX4_isKaleidoscope 10 = .ok (.if_icmp .ge 43, 3) := by decide +kernel
theorem dX4_isKaleidoscope_13 : decode cX4_isKaleidoscope 13 = .ok (.iconst 0, 1) := by decide +kernel
theorem dX4_isKaleidoscope_14 : decode cX4_isKaleidoscope 14 = .ok (.istore_n 2, 1) := by decide +kernel
theorem dX4_isKaleidoscope_15 : decode cX4_isKaleidoscope 15 = .ok (.iload_n 2, 1) := by decide +kernel
theorem dX4_isKaleidoscope_16 : decode cX4_isKaleidoscope 16 = .ok (.aload_n 0, 1) := by decide +kernel
theorem dX4_isKaleidoscope_17 : decode cX4_isKaleidoscope 17 = .ok (.getfield 10, 3) := by decide +kernel
theorem dX4_isKaleidoscope_20 : decode cX4_isKaleidoscope 20 = .ok (.invokevirtual 68, 3) := by decide +kernel
theorem dX4_isKaleidoscope_23 : decode cX4_isKaleidoscope 23 = .ok (.if_icmp .ge 24, 3) := by decide +kernel
theorem dX4_isKaleidoscope_26 : decode cX4_isKaleidoscope 26 = .ok (.aload_n 0, 1) := by decide +kernel
theorem dX4_isKaleidoscope_27 : decode cX4_isKaleidoscope 27 = .ok (.getfield 10, 3) := by decide +kernel
theorem dX4_isKaleidoscope_30 : decode cX4_isKaleidoscope 30 = .ok (.iload_n 1, 1) := by decide +kernel
theorem dX4_isKaleidoscope_31 : decode cX4_isKaleidoscope 31 = .ok (.iload_n 2, 1) := by decide +kernel
theorem dX4_isKaleidoscope_32 : decode cX4_isKaleidoscope 32 = .ok (.invokevirtual 165, 3) := by decide +kernel
theorem dX4_isKaleidoscope_35 : decode cX4_isKaleidoscope 35 = .ok (.iconst (-1), 1) := by decide +kernel
theorem dX4_isKaleidoscope_36 : decode cX4_isKaleidoscope 36 = .ok (.if_icmp .ne 5, 3) := by decide +kernel
theorem dX4_isKaleidoscope_39 : decode cX4_isKaleidoscope 39 = .ok (.iconst 0, 1) := by decide +kernel
theorem dX4_isKaleidoscope_40 : decode cX4_isKaleidoscope 40 = .ok (.ireturn, 1) := by decide +kernel
theorem dX4_isKaleidoscope_41 : decode cX4_isKaleidoscope 41 = .ok (.iinc 2 1, 3) := by decide +kernel
theorem dX4_isKaleidoscope_44 : decode cX4_isKaleidoscope 44 = .ok (.goto (-29), 3) := by decide +kernel
theorem dX4_isKaleidoscope_47 : decode cX4_isKaleidoscope 47 = .ok (.iinc 1 1, 3) := by decide +kernel
theorem dX4_isKaleidoscope_50 : decode cX4_isKaleidoscope 50 = .ok (.goto (-48), 3) := by decide +kernel
theorem dX4_isKaleidoscope_53 : decode cX4_isKaleidoscope 53 = .ok (.iconst 1, 1) := by decide +kernel
theorem dX4_isKaleidoscope_54 : decode cX4_isKaleidoscope 54 = .ok (.ireturn, 1) := by decide +kernel
set_option maxRecDepth 20000 in
theorem ggX4_pairs_X1_count : GoodIn wsX4_pairs wsX1_count := goodIn_r _ [7, 8, 30, 31, 32, 33] (by decide +kernel) (by decide +kernel)
set_option maxRecDepth 20000 in
theorem gX4_pairs_X1_count : GoodIn wsX4_pairs (wsV RX4 68 RX1 yX1_count wsX1_count) := goodIn_app (goodIn_of _ (by decide +kernel)) ggX4_pairs_X1_count
set_option maxRecDepth 20000 in
theorem ggX4_pairs_X2_isLowestPair : GoodIn wsX4_pairs wsX2_isLowestPair := goodIn_r _ [13, 14, 15, 16, 17, 18, 12, 19, 20, 21, 22, 23, 24, 25, 34, 35, 36, 37, 38, 39] (by decide +kernel) (by decide +kernel)
set_option maxRecDepth 20000 in
theorem gX4_pairs_X2_isLowestPair : GoodIn wsX4_pairs (wsV RX4 168 RX2 yX2_isLowestPair wsX2_isLowestPair) := goodIn_app (goodIn_of _ (by decide +kernel)) ggX4_pairs_X2_isLowestPair
theorem dX4_pairs_0 : decode cX4_pairs 0 = .ok (.iconst 0, 1) := by decide +kernel
theorem dX4_pairs_1 : decode cX4_pairs 1 = .ok (.istore_n 1, 1) := by decide +kernel
theorem dX4_pairs_2 : decode cX4_pairs 2 = .ok (.iconst 0, 1) := by decide +kernel
theorem dX4_pairs_3 : decode cX4_pairs 3 = .ok (.istore_n 2, 1) := by decide +kernel
theorem dX4_pairs_4 : decode cX4_pairs 4 = .ok (.iload_n 2, 1) := by decide +kernel
theorem dX4_pairs_5 : decode cX4_pairs 5 = .ok (.aload_n 0, 1) := by decide +kernel
theorem dX4_pairs_6 : decode cX4_pairs 6 = .ok (.getfield 10, 3) := by decide +kernel
theorem dX4_pairs_9 : decode cX4_pairs 9 = .ok (.invokevirtual 68, 3) := by decide +kernel
theorem dX4_pairs_12 : decode cX4_pairs 12 = .ok (.if_icmp .ge 45, 3) := by decide +kernel
theorem dX4_pairs_15 : decode cX4_pairs 15 = .ok (.iload_n 2, 1) := by decide +kernel
theorem dX4_pairs_16 : decode cX4_pairs 16 = .ok (.iconst 1, 1) := by decide +kernel
theorem dX4_pairs_17 : decode cX4_pairs 17 = .ok (.iadd, 1) := by decide +kernel
theorem dX4_pairs_18 : decode cX4_pairs 18 = .ok (.istore_n 3, 1) := by decide +kernel
theorem dX4_pairs_19 : decode cX4_pairs 19 = .ok (.iload_n 3, 1) := by decide +kernel
theorem dX4_pairs_20 : decode cX4_pairs 20 = .ok (.aload_n 0, 1) := by decide +kernel
theorem dX4_pairs_21 : decode cX4_pairs 21 = .ok (.getfield 10, 3) := by decide +kernel
theorem dX4_pairs_24 : decode cX4_pairs 24 = .ok (.invokevirtual 68, 3) := by decide +kernel
theorem dX4_pairs_27 : decode cX4_pairs 27 = .ok (.if_icmp .ge 24, 3) := by decide +kernel
theorem dX4_pairs_30 : decode cX4_pairs 30 = .ok (.aload_n 0, 1) := by decide +kernel
theorem dX4_pairs_31 : decode cX4_pairs 31 = .ok (.getfield 19, 3) := by decide +kernel
theorem dX4_pairs_34 : decode cX4_pairs 34 = .ok (.iload_n 2, 1) := by decide +kernel
theorem dX4_pairs_35 : decode cX4_pairs 35 = .ok (.iload_n 3, 1) := by decide +kernel
theorem dX4_pairs_36 : decode cX4_pairs 36 = .ok (.invokevirtual 168, 3) := by decide +kernel
theorem dX4_pairs_39 : decode cX4_pairs 39 = .ok (.ifCond .eq 6, 3) := by decide +kernel
theorem dX4_pairs_42 : decode cX4_pairs 42 = .ok (.iinc 1 1, 3) := by decide +kernel
theorem dX4_pairs_45 : decode cX4_pairs 45 = .ok (.iinc 3 1, 3) := by decide +kernel
theorem dX4_pairs_48 : decode cX4_pairs 48 = .ok (.goto (-29), 3) := by decide +kernel
theorem dX4_pairs_51 : decode cX4_pairs 51 = .ok (.iinc 2 1, 3) := by decide +kernel
theorem dX4_pairs_54 : decode cX4_pairs 54 = .ok (.goto (-50), 3) := by decide +kernel
