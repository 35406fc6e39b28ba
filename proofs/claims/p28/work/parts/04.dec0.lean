theorem dX0_init_0 : decode cX0_init 0 = .ok (.aload_n 0, 1) := by decide +kernel
theorem dX0_init_1 : decode cX0_init 1 = .ok (.invokespecial 3, 3) := by decide +kernel
theorem dX0_init_4 : decode cX0_init 4 = .ok (.aload_n 0, 1) := by decide +kernel
theorem dX0_init_5 : decode cX0_init 5 = .ok (.lconst 0, 1) := by decide +kernel
theorem dX0_init_6 : decode cX0_init 6 = .ok (.putfield 9, 3) := by decide +kernel
theorem dX0_init_9 : decode cX0_init 9 = .ok (.return_, 1) := by decide +kernel
set_option maxRecDepth 20000 in
theorem ggX0_turn_X0_tie : GoodIn wsX0_turn wsX0_tie := goodIn_r _ [5, 6, 7, 4, 8] (by decide +kernel) (by decide +kernel)
set_option maxRecDepth 20000 in
theorem gX0_turn_X0_tie : GoodIn wsX0_turn (va_wsS RX0 15 yX0_tie wsX0_tie) := goodIn_app (goodIn_of _ (by decide +kernel)) ggX0_turn_X0_tie
theorem dX0_turn_0 : decode cX0_turn 0 = .ok (.aload_n 0, 1) := by decide +kernel
theorem dX0_turn_1 : decode cX0_turn 1 = .ok (.dup, 1) := by decide +kernel
theorem dX0_turn_2 : decode cX0_turn 2 = .ok (.getfield 9, 3) := by decide +kernel
theorem dX0_turn_5 : decode cX0_turn 5 = .ok (.iload_n 1, 1) := by decide +kernel
theorem dX0_turn_6 : decode cX0_turn 6 = .ok (.iload_n 2, 1) := by decide +kernel
theorem dX0_turn_7 : decode cX0_turn 7 = .ok (.invokestatic 15, 3) := by decide +kernel
theorem dX0_turn_10 : decode cX0_turn 10 = .ok (.lxor, 1) := by decide +kernel
theorem dX0_turn_11 : decode cX0_turn 11 = .ok (.putfield 9, 3) := by decide +kernel
theorem dX0_turn_14 : decode cX0_turn 14 = .ok (.return_, 1) := by decide +kernel
set_option maxRecDepth 20000 in
theorem ggX0_count_J13_bitCount_95d88 : GoodIn wsX0_count wsJ13_bitCount_95d88 := goodIn_r _ [5, 6, 7, 8] (by decide +kernel) (by decide +kernel)
set_option maxRecDepth 20000 in
theorem gX0_count_J13_bitCount_95d88 : GoodIn wsX0_count (va_wsS RX0 19 yJ13_bitCount_95d88 wsJ13_bitCount_95d88) := goodIn_app (goodIn_of _ (by decide +kernel)) ggX0_count_J13_bitCount_95d88
theorem dX0_count_0 : decode cX0_count 0 = .ok (.aload_n 0, 1) := by decide +kernel
theorem dX0_count_1 : decode cX0_count 1 = .ok (.getfield 9, 3) := by decide +kernel
theorem dX0_count_4 : decode cX0_count 4 = .ok (.invokestatic 19, 3) := by decide +kernel
theorem dX0_count_7 : decode cX0_count 7 = .ok (.iconst 2, 1) := by decide +kernel
theorem dX0_count_8 : decode cX0_count 8 = .ok (.idiv, 1) := by decide +kernel
theorem dX0_count_9 : decode cX0_count 9 = .ok (.ireturn, 1) := by decide +kernel
set_option maxRecDepth 20000 in
theorem ggX0_tryAllColours_X0_tried : GoodIn wsX0_tryAllColours wsX0_tried := goodIn_r _ [5, 6, 7, 4, 8, 9, 10, 11, 2, 3] (by decide +kernel) (by decide +kernel)
set_option maxRecDepth 20000 in
theorem gX0_tryAllColours_X0_tried : GoodIn wsX0_tryAllColours (va_wsS RX0 25 yX0_tried wsX0_tried) := goodIn_app (goodIn_of _ (by decide +kernel)) ggX0_tryAllColours_X0_tried
theorem dX0_tryAllColours_0 : decode cX0_tryAllColours 0 = .ok (.aload_n 0, 1) := by decide +kernel
theorem dX0_tryAllColours_1 : decode cX0_tryAllColours 1 = .ok (.getfield 9, 3) := by decide +kernel
theorem dX0_tryAllColours_4 : decode cX0_tryAllColours 4 = .ok (.iload_n 1, 1) := by decide +kernel
theorem dX0_tryAllColours_5 : decode cX0_tryAllColours 5 = .ok (.iconst 0, 1) := by decide +kernel
theorem dX0_tryAllColours_6 : decode cX0_tryAllColours 6 = .ok (.lconst 0, 1) := by decide +kernel
theorem dX0_tryAllColours_7 : decode cX0_tryAllColours 7 = .ok (.invokestatic 25, 3) := by decide +kernel
theorem dX0_tryAllColours_10 : decode cX0_tryAllColours 10 = .ok (.ireturn, 1) := by decide +kernel
set_option maxRecDepth 20000 in
theorem ggX0_takeApart_X0_apart : GoodIn wsX0_takeApart wsX0_apart := goodIn_r _ [5, 6, 7, 8, 4, 9, 10, 11, 12, 13, 14, 15, 16, 17, 18, 19, 20, 21, 22, 23, 24, 25, 26, 27, 28, 29, 30, 2, 3, 31, 32, 33] (by decide +kernel) (by decide +kernel)
set_option maxRecDepth 20000 in
theorem gX0_takeApart_X0_apart : GoodIn wsX0_takeApart (va_wsS RX0 29 yX0_apart wsX0_apart) := goodIn_app (goodIn_of _ (by decide +kernel)) ggX0_takeApart_X0_apart
theorem dX0_takeApart_0 : decode cX0_takeApart 0 = .ok (.aload_n 0, 1) := by decide +kernel
theorem dX0_takeApart_1 : decode cX0_takeApart 1 = .ok (.getfield 9, 3) := by decide +kernel
theorem dX0_takeApart_4 : decode cX0_takeApart 4 = .ok (.iload_n 1, 1) := by decide +kernel
theorem dX0_takeApart_5 : decode cX0_takeApart 5 = .ok (.bipush 6, 2) := by decide +kernel
theorem dX0_takeApart_7 : decode cX0_takeApart 7 = .ok (.iconst 0, 1) := by decide +kernel
theorem dX0_takeApart_8 : decode cX0_takeApart 8 = .ok (.invokestatic 29, 3) := by decide +kernel
theorem dX0_takeApart_11 : decode cX0_takeApart 11 = .ok (.ireturn, 1) := by decide +kernel
set_option maxRecDepth 20000 in
theorem ggX0_tryAllDirections_X0_directed : GoodIn wsX0_tryAllDirections wsX0_directed := goodIn_r _ [5, 6, 7, 8, 4, 9, 10, 11, 12, 13, 14, 15, 16, 17, 18, 19, 20, 21, 22, 23, 24, 25, 26, 27, 28, 29, 30, 2, 3] (by decide +kernel) (by decide +kernel)
set_option maxRecDepth 20000 in
theorem gX0_tryAllDirections_X0_directed : GoodIn wsX0_tryAllDirections (va_wsS RX0 33 yX0_directed wsX0_directed) := goodIn_app (goodIn_of _ (by decide +kernel)) ggX0_tryAllDirections_X0_directed
theorem dX0_tryAllDirections_0 : decode cX0_tryAllDirections 0 = .ok (.aload_n 0, 1) := by decide +kernel
theorem dX0_tryAllDirections_1 : decode cX0_tryAllDirections 1 = .ok (.getfield 9, 3) := by decide +kernel
theorem dX0_tryAllDirections_4 : decode cX0_tryAllDirections 4 = .ok (.iconst 0, 1) := by decide +kernel
theorem dX0_tryAllDirections_5 : decode cX0_tryAllDirections 5 = .ok (.lconst 0, 1) := by decide +kernel
theorem dX0_tryAllDirections_6 : decode cX0_tryAllDirections 6 = .ok (.invokestatic 33, 3) := by decide +kernel
theorem dX0_tryAllDirections_9 : decode cX0_tryAllDirections 9 = .ok (.ireturn, 1) := by decide +kernel
theorem dX0_sign_0 : decode cX0_sign 0 = .ok (.lconst 1, 1) := by decide +kernel
theorem dX0_sign_1 : decode cX0_sign 1 = .ok (.bipush 6, 2) := by decide +kernel
theorem dX0_sign_3 : decode cX0_sign 3 = .ok (.iload_n 0, 1) := by decide +kernel
theorem dX0_sign_4 : decode cX0_sign 4 = .ok (.imul, 1) := by decide +kernel
theorem dX0_sign_5 : decode cX0_sign 5 = .ok (.iload_n 1, 1) := by decide +kernel
theorem dX0_sign_6 : decode cX0_sign 6 = .ok (.iadd, 1) := by decide +kernel
theorem dX0_sign_7 : decode cX0_sign 7 = .ok (.lshl, 1) := by decide +kernel
theorem dX0_sign_8 : decode cX0_sign 8 = .ok (.lreturn, 1) := by decide +kernel
set_option maxRecDepth 20000 in
theorem ggX0_tie_X0_sign : GoodIn wsX0_tie wsX0_sign := goodIn_r _ [4] (by decide +kernel) (by decide +kernel)
set_option maxRecDepth 20000 in
theorem gX0_tie_X0_sign : GoodIn wsX0_tie (va_wsS RX0 37 yX0_sign wsX0_sign) := goodIn_app (goodIn_of _ (by decide +kernel)) ggX0_tie_X0_sign
theorem dX0_tie_0 : decode cX0_tie 0 = .ok (.iload_n 0, 1) := by decide +kernel
theorem dX0_tie_1 : decode cX0_tie 1 = .ok (.iload_n 1, 1) := by decide +kernel
theorem dX0_tie_2 : decode cX0_tie 2 = .ok (.invokestatic 37, 3) := by decide +kernel
theorem dX0_tie_5 : decode cX0_tie 5 = .ok (.iload_n 1, 1) := by decide +kernel
theorem dX0_tie_6 : decode cX0_tie 6 = .ok (.iload_n 0, 1) := by decide +kernel
theorem dX0_tie_7 : decode cX0_tie 7 = .ok (.invokestatic 37, 3) := by decide +kernel
theorem dX0_tie_10 : decode cX0_tie 10 = .ok (.lor, 1) := by decide +kernel
theorem dX0_tie_11 : decode cX0_tie 11 = .ok (.lreturn, 1) := by decide +kernel
theorem dX0_row_0 : decode cX0_row 0 = .ok (.lload_n 0, 1) := by decide +kernel
theorem dX0_row_1 : decode cX0_row 1 = .ok (.bipush 6, 2) := by decide +kernel
theorem dX0_row_3 : decode cX0_row 3 = .ok (.iload_n 2, 1) := by decide +kernel
theorem dX0_row_4 : decode cX0_row 4 = .ok (.imul, 1) := by decide +kernel
theorem dX0_row_5 : decode cX0_row 5 = .ok (.lushr, 1) := by decide +kernel
theorem dX0_row_6 : decode cX0_row 6 = .ok (.l2i, 1) := by decide +kernel
theorem dX0_row_7 : decode cX0_row 7 = .ok (.bipush 63, 2) := by decide +kernel
theorem dX0_row_9 : decode cX0_row 9 = .ok (.iand, 1) := by decide +kernel
theorem dX0_row_10 : decode cX0_row 10 = .ok (.ireturn, 1) := by decide +kernel
set_option maxRecDepth 20000 in
theorem ggX0_tried_X0_row : GoodIn wsX0_tried wsX0_row := goodIn_r _ [4] (by decide +kernel) (by decide +kernel)
set_option maxRecDepth 20000 in
theorem gX0_tried_X0_row : GoodIn wsX0_tried (va_wsS RX0 40 yX0_row wsX0_row) := goodIn_app (goodIn_of _ (by decide +kernel)) ggX0_tried_X0_row
set_option maxRecDepth 20000 in
theorem ggX0_tried_X0_sign : GoodIn wsX0_tried wsX0_sign := goodIn_r _ [7] (by decide +kernel) (by decide +kernel)
set_option maxRecDepth 20000 in
theorem gX0_tried_X0_sign : GoodIn wsX0_tried (va_wsS RX0 37 yX0_sign wsX0_sign) := goodIn_app (goodIn_of _ (by decide +kernel)) ggX0_tried_X0_sign
set_option maxRecDepth 20000 in
theorem ggX0_tried_X0_tried : GoodIn wsX0_tried wsX0_tried := goodIn_r _ [0, 1, 2, 3, 4, 5, 6, 7, 8, 9] (by decide +kernel) (by decide +kernel)
set_option maxRecDepth 20000 in
theorem gX0_tried_X0_tried : GoodIn wsX0_tried (va_wsS RX0 25 yX0_tried wsX0_tried) := goodIn_app (goodIn_of _ (by decide +kernel)) ggX0_tried_X0_tried
theorem dX0_tried_0 : decode cX0_tried 0 = .ok (.iload_n 3, 1) := by decide +kernel
theorem dX0_tried_1 : decode cX0_tried 1 = .ok (.bipush 6, 2) := by decide +kernel
theorem dX0_tried_3 : decode cX0_tried 3 = .ok (.if_icmp .lt 5, 3) := by decide +kernel
theorem dX0_tried_6 : decode cX0_tried 6 = .ok (.iconst 1, 1) := by decide +kernel
theorem dX0_tried_7 : decode cX0_tried 7 = .ok (.ireturn, 1) := by decide +kernel
theorem dX0_tried_8 : decode cX0_tried 8 = .ok (.lload_n 0, 1) := by decide +kernel
theorem dX0_tried_9 : decode cX0_tried 9 = .ok (.iload_n 3, 1) := by decide +kernel
theorem dX0_tried_10 : decode cX0_tried 10 = .ok (.invokestatic 40, 3) := by decide +kernel
theorem dX0_tried_13 : decode cX0_tried 13 = .ok (.istore 6, 2) := by decide +kernel
theorem dX0_tried_15 : decode cX0_tried 15 = .ok (.iconst 0, 1) := by decide +kernel
theorem dX0_tried_16 : decode cX0_tried 16 = .ok (.istore 7, 2) := by decide +kernel
theorem dX0_tried_18 : decode cX0_tried 18 = .ok (.iconst 0, 1) := by decide +kernel
theorem dX0_tried_19 : decode cX0_tried 19 = .ok (.istore 8, 2) := by decide +kernel
theorem dX0_tried_21 : decode cX0_tried 21 = .ok (.iload 8, 2) := by decide +kernel
theorem dX0_tried_23 : decode cX0_tried 23 = .ok (.iload_n 2, 1) := by decide +kernel
theorem dX0_tried_24 : decode cX0_tried 24 = .ok (.if_icmp .ge 44, 3) := by decide +kernel
theorem dX0_tried_27 : decode cX0_tried 27 = .ok (.lload 4, 2) := by decide +kernel
theorem dX0_tried_29 : decode cX0_tried 29 = .ok (.iload 8, 2) := by decide +kernel
theorem dX0_tried_31 : decode cX0_tried 31 = .ok (.invokestatic 40, 3) := by decide +kernel
theorem dX0_tried_34 : decode cX0_tried 34 = .ok (.iload 6, 2) := by decide +kernel
theorem dX0_tried_36 : decode cX0_tried 36 = .ok (.iand, 1) := by decide +kernel
theorem dX0_tried_37 : decode cX0_tried 37 = .ok (.ifCond .ne 25, 3) := by decide +kernel
theorem dX0_tried_40 : decode cX0_tried 40 = .ok (.iload 7, 2) := by decide +kernel
theorem dX0_tried_42 : decode cX0_tried 42 = .ok (.lload_n 0, 1) := by decide +kernel
theorem dX0_tried_43 : decode cX0_tried 43 = .ok (.iload_n 2, 1) := by decide +kernel
theorem dX0_tried_44 : decode cX0_tried 44 = .ok (.iload_n 3, 1) := by decide +kernel
theorem dX0_tried_45 : decode cX0_tried 45 = .ok (.iconst 1, 1) := by decide +kernel
theorem dX0_tried_46 : decode cX0_tried 46 = .ok (.iadd, 1) := by decide +kernel
theorem dX0_tried_47 : decode cX0_tried 47 = .ok (.lload 4, 2) := by decide +kernel
theorem dX0_tried_49 : decode cX0_tried 49 = .ok (.iload 8, 2) := by decide +kernel
theorem dX0_tried_51 : decode cX0_tried 51 = .ok (.iload_n 3, 1) := by decide +kernel
theorem dX0_tried_52 : decode cX0_tried 52 = .ok (.invokestatic 37, 3) := by decide +kernel
theorem dX0_tried_55 : decode cX0_tried 55 = .ok (.lor, 1) := by decide +kernel
theorem dX0_tried_56 : decode cX0_tried 56 = .ok (.invokestatic 25, 3) := by decide +kernel
theorem dX0_tried_59 : decode cX0_tried 59 = .ok (.iadd, 1) := by decide +kernel
theorem dX0_tried_60 : decode cX0_tried 60 = .ok (.istore 7, 2) := by decide +kernel
theorem dX0_tried_62 : decode cX0_tried 62 = .ok (.iinc 8 1, 3) := by decide +kernel
theorem dX0_tried_65 : decode cX0_tried 65 = .ok (.goto (-44), 3) := by decide +kernel
theorem dX0_tried_68 : decode cX0_tried 68 = .ok (.iload 7, 2) := by decide +kernel
theorem dX0_tried_70 : decode cX0_tried 70 = .ok (.ireturn, 1) := by decide +kernel
set_option maxRecDepth 20000 in
theorem ggX0_apart_X0_power : GoodIn wsX0_apart wsX0_power := goodIn_r _ [5] (by decide +kernel) (by decide +kernel)
set_option maxRecDepth 20000 in
theorem gX0_apart_X0_power : GoodIn wsX0_apart (va_wsS RX0 44 yX0_power wsX0_power) := goodIn_app (goodIn_of _ (by decide +kernel)) ggX0_apart_X0_power
set_option maxRecDepth 20000 in
theorem ggX0_apart_X0_firstWithEdge : GoodIn wsX0_apart wsX0_firstWithEdge := goodIn_r _ [8, 9, 10, 4, 11] (by decide +kernel) (by decide +kernel)
set_option maxRecDepth 20000 in
theorem gX0_apart_X0_firstWithEdge : GoodIn wsX0_apart (va_wsS RX0 48 yX0_firstWithEdge wsX0_firstWithEdge) := goodIn_app (goodIn_of _ (by decide +kernel)) ggX0_apart_X0_firstWithEdge
set_option maxRecDepth 20000 in
theorem ggX0_apart_X0_row : GoodIn wsX0_apart wsX0_row := goodIn_r _ [11] (by decide +kernel) (by decide +kernel)
set_option maxRecDepth 20000 in
theorem gX0_apart_X0_row : GoodIn wsX0_apart (va_wsS RX0 40 yX0_row wsX0_row) := goodIn_app (goodIn_of _ (by decide +kernel)) ggX0_apart_X0_row
set_option maxRecDepth 20000 in
theorem ggX0_apart_X0_firstIn : GoodIn wsX0_apart wsX0_firstIn := goodIn_r _ [14, 15, 16, 17, 18, 19, 20] (by decide +kernel) (by decide +kernel)
set_option maxRecDepth 20000 in
theorem gX0_apart_X0_firstIn : GoodIn wsX0_apart (va_wsS RX0 51 yX0_firstIn wsX0_firstIn) := goodIn_app (goodIn_of _ (by decide +kernel)) ggX0_apart_X0_firstIn
set_option maxRecDepth 20000 in
theorem ggX0_apart_X0_tie : GoodIn wsX0_apart wsX0_tie := goodIn_r _ [23, 24, 25, 4, 26] (by decide +kernel) (by decide +kernel)
set_option maxRecDepth 20000 in
theorem gX0_apart_X0_tie : GoodIn wsX0_apart (va_wsS RX0 15 yX0_tie wsX0_tie) := goodIn_app (goodIn_of _ (by decide +kernel)) ggX0_apart_X0_tie
set_option maxRecDepth 20000 in
theorem ggX0_apart_X0_apart : GoodIn wsX0_apart wsX0_apart := goodIn_r _ [0, 1, 2, 3, 4, 5, 6, 7, 8, 9, 10, 11, 12, 13, 14, 15, 16, 17, 18, 19, 20, 21, 22, 23, 24, 25, 26, 27, 28, 29, 30, 31] (by decide +kernel) (by decide +kernel)
set_option maxRecDepth 20000 in
theorem gX0_apart_X0_apart : GoodIn wsX0_apart (va_wsS RX0 29 yX0_apart wsX0_apart) := goodIn_app (goodIn_of _ (by decide +kernel)) ggX0_apart_X0_apart
set_option maxRecDepth 20000 in
theorem ggX0_apart_X0_madeOne : GoodIn wsX0_apart wsX0_madeOne := goodIn_r _ [31, 1, 9, 10, 4, 11, 15, 16, 17, 18, 19, 20, 21, 22, 23, 24, 25, 26] (by decide +kernel) (by decide +kernel)
set_option maxRecDepth 20000 in
theorem gX0_apart_X0_madeOne : GoodIn wsX0_apart (va_wsS RX0 57 yX0_madeOne wsX0_madeOne) := goodIn_app (goodIn_of _ (by decide +kernel)) ggX0_apart_X0_madeOne
theorem dX0_apart_0 : decode cX0_apart 0 = .ok (.lload_n 0, 1) := by decide +kernel
theorem dX0_apart_1 : decode cX0_apart 1 = .ok (.lconst 0, 1) := by decide +kernel
theorem dX0_apart_2 : decode cX0_apart 2 = .ok (.lcmp, 1) := by decide +kernel
theorem dX0_apart_3 : decode cX0_apart 3 = .ok (.ifCond .eq 10, 3) := by decide +kernel
theorem dX0_apart_6 : decode cX0_apart 6 = .ok (.iload 4, 2) := by decide +kernel
theorem dX0_apart_8 : decode cX0_apart 8 = .ok (.bipush 15, 2) := by decide +kernel
theorem dX0_apart_10 : decode cX0_apart 10 = .ok (.if_icmp .lt 9, 3) := by decide +kernel
theorem dX0_apart_13 : decode cX0_apart 13 = .ok (.iload_n 2, 1) := by decide +kernel
theorem dX0_apart_14 : decode cX0_apart 14 = .ok (.iload_n 3, 1) := by decide +kernel
theorem dX0_apart_15 : decode cX0_apart 15 = .ok (.invokestatic 44, 3) := by decide +kernel
theorem dX0_apart_18 : decode cX0_apart 18 = .ok (.ireturn, 1) := by decide +kernel
theorem dX0_apart_19 : decode cX0_apart 19 = .ok (.lload_n 0, 1) := by decide +kernel
theorem dX0_apart_20 : decode cX0_apart 20 = .ok (.invokestatic 48, 3) := by decide +kernel
theorem dX0_apart_23 : decode cX0_apart 23 = .ok (.istore 5, 2) := by decide +kernel
theorem dX0_apart_25 : decode cX0_apart 25 = .ok (.lload_n 0, 1) := by decide +kernel
theorem dX0_apart_26 : decode cX0_apart 26 = .ok (.iload 5, 2) := by decide +kernel
theorem dX0_apart_28 : decode cX0_apart 28 = .ok (.invokestatic 40, 3) := by decide +kernel
theorem dX0_apart_31 : decode cX0_apart 31 = .ok (.invokestatic 51, 3) := by decide +kernel
theorem dX0_apart_34 : decode cX0_apart 34 = .ok (.istore 6, 2) := by decide +kernel
theorem dX0_apart_36 : decode cX0_apart 36 = .ok (.lload_n 0, 1) := by decide +kernel
theorem dX0_apart_37 : decode cX0_apart 37 = .ok (.iload 5, 2) := by decide +kernel
theorem dX0_apart_39 : decode cX0_apart 39 = .ok (.iload 6, 2) := by decide +kernel
theorem dX0_apart_41 : decode cX0_apart 41 = .ok (.invokestatic 15, 3) := by decide +kernel
theorem dX0_apart_44 : decode cX0_apart 44 = .ok (.ldc2_w 55, 3) := by decide +kernel
theorem dX0_apart_47 : decode cX0_apart 47 = .ok (.lxor, 1) := by decide +kernel
theorem dX0_apart_48 : decode cX0_apart 48 = .ok (.land, 1) := by decide +kernel
theorem dX0_apart_49 : decode cX0_apart 49 = .ok (.lstore 7, 2) := by decide +kernel
theorem dX0_apart_51 : decode cX0_apart 51 = .ok (.lload 7, 2) := by decide +kernel
theorem dX0_apart_53 : decode cX0_apart 53 = .ok (.iload_n 2, 1) := by decide +kernel
theorem dX0_apart_54 : decode cX0_apart 54 = .ok (.iload_n 3, 1) := by decide +kernel
theorem dX0_apart_55 : decode cX0_apart 55 = .ok (.iload 4, 2) := by decide +kernel
theorem dX0_apart_57 : decode cX0_apart 57 = .ok (.iconst 1, 1) := by decide +kernel
theorem dX0_apart_58 : decode cX0_apart 58 = .ok (.iadd, 1) := by decide +kernel
theorem dX0_apart_59 : decode cX0_apart 59 = .ok (.invokestatic 29, 3) := by decide +kernel
theorem dX0_apart_62 : decode cX0_apart 62 = .ok (.lload 7, 2) := by decide +kernel
theorem dX0_apart_64 : decode cX0_apart 64 = .ok (.iload 5, 2) := by decide +kernel
theorem dX0_apart_66 : decode cX0_apart 66 = .ok (.iload 6, 2) := by decide +kernel
theorem dX0_apart_68 : decode cX0_apart 68 = .ok (.invokestatic 57, 3) := by decide +kernel
theorem dX0_apart_71 : decode cX0_apart 71 = .ok (.iload_n 2, 1) := by decide +kernel
theorem dX0_apart_72 : decode cX0_apart 72 = .ok (.iload_n 3, 1) := by decide +kernel
theorem dX0_apart_73 : decode cX0_apart 73 = .ok (.iconst 1, 1) := by decide +kernel
theorem dX0_apart_74 : decode cX0_apart 74 = .ok (.isub, 1) := by decide +kernel
theorem dX0_apart_75 : decode cX0_apart 75 = .ok (.iload 4, 2) := by decide +kernel
theorem dX0_apart_77 : decode cX0_apart 77 = .ok (.iconst 1, 1) := by decide +kernel
theorem dX0_apart_78 : decode cX0_apart 78 = .ok (.iadd, 1) := by decide +kernel
theorem dX0_apart_79 : decode cX0_apart 79 = .ok (.invokestatic 29, 3) := by decide +kernel
theorem dX0_apart_82 : decode cX0_apart 82 = .ok (.isub, 1) := by decide +kernel
theorem dX0_apart_83 : decode cX0_apart 83 = .ok (.ireturn, 1) := by decide +kernel
theorem dX0_power_0 : decode cX0_power 0 = .ok (.iconst 1, 1) := by decide +kernel
theorem dX0_power_1 : decode cX0_power 1 = .ok (.istore_n 2, 1) := by decide +kernel
theorem dX0_power_2 : decode cX0_power 2 = .ok (.iconst 0, 1) := by decide +kernel
theorem dX0_power_3 : decode cX0_power 3 = .ok (.istore_n 3, 1) := by decide +kernel
theorem dX0_power_4 : decode cX0_power 4 = .ok (.iload_n 3, 1) := by decide +kernel
theorem dX0_power_5 : decode cX0_power 5 = .ok (.iload_n 1, 1) := by decide +kernel
theorem dX0_power_6 : decode cX0_power 6 = .ok (.if_icmp .ge 13, 3) := by decide +kernel
theorem dX0_power_9 : decode cX0_power 9 = .ok (.iload_n 2, 1) := by decide +kernel
theorem dX0_power_10 : decode cX0_power 10 = .ok (.iload_n 0, 1) := by decide +kernel
theorem dX0_power_11 : decode cX0_power 11 = .ok (.imul, 1) := by decide +kernel
theorem dX0_power_12 : decode cX0_power 12 = .ok (.istore_n 2, 1) := by decide +kernel
theorem dX0_power_13 : decode cX0_power 13 = .ok (.iinc 3 1, 3) := by decide +kernel
theorem dX0_power_16 : decode cX0_power 16 = .ok (.goto (-12), 3) := by decide +kernel
theorem dX0_power_19 : decode cX0_power 19 = .ok (.iload_n 2, 1) := by decide +kernel
theorem dX0_power_20 : decode cX0_power 20 = .ok (.ireturn, 1) := by decide +kernel
set_option maxRecDepth 20000 in
theorem ggX0_firstWithEdge_X0_row : GoodIn wsX0_firstWithEdge wsX0_row := goodIn_r _ [4] (by decide +kernel) (by decide +kernel)
set_option maxRecDepth 20000 in
theorem gX0_firstWithEdge_X0_row : GoodIn wsX0_firstWithEdge (va_wsS RX0 40 yX0_row wsX0_row) := goodIn_app (goodIn_of _ (by decide +kernel)) ggX0_firstWithEdge_X0_row
theorem dX0_firstWithEdge_0 : decode cX0_firstWithEdge 0 = .ok (.iconst 0, 1) := by decide +kernel
theorem dX0_firstWithEdge_1 : decode cX0_firstWithEdge 1 = .ok (.istore_n 2, 1) := by decide +kernel
theorem dX0_firstWithEdge_2 : decode cX0_firstWithEdge 2 = .ok (.iload_n 2, 1) := by decide +kernel
theorem dX0_firstWithEdge_3 : decode cX0_firstWithEdge 3 = .ok (.iconst 5, 1) := by decide +kernel
theorem dX0_firstWithEdge_4 : decode cX0_firstWithEdge 4 = .ok (.if_icmp .ge 17, 3) := by decide +kernel
theorem dX0_firstWithEdge_7 : decode cX0_firstWithEdge 7 = .ok (.lload_n 0, 1) := by decide +kernel
theorem dX0_firstWithEdge_8 : decode cX0_firstWithEdge 8 = .ok (.iload_n 2, 1) := by decide +kernel
theorem dX0_firstWithEdge_9 : decode cX0_firstWithEdge 9 = .ok (.invokestatic 40, 3) := by decide +kernel
theorem dX0_firstWithEdge_12 : decode cX0_firstWithEdge 12 = .ok (.ifCond .ne 9, 3) := by decide +kernel
theorem dX0_firstWithEdge_15 : decode cX0_firstWithEdge 15 = .ok (.iinc 2 1, 3) := by decide +kernel
theorem dX0_firstWithEdge_18 : decode cX0_firstWithEdge 18 = .ok (.goto (-16), 3) := by decide +kernel
theorem dX0_firstWithEdge_21 : decode cX0_firstWithEdge 21 = .ok (.iload_n 2, 1) := by decide +kernel
theorem dX0_firstWithEdge_22 : decode cX0_firstWithEdge 22 = .ok (.ireturn, 1) := by decide +kernel
set_option maxRecDepth 20000 in
theorem ggX0_firstIn_X4_isIn : GoodIn wsX0_firstIn wsX4_isIn := goodIn_r _ [3, 4, 5, 2, 6] (by decide +kernel) (by decide +kernel)
set_option maxRecDepth 20000 in
theorem gX0_firstIn_X4_isIn_n61 : GoodIn wsX0_firstIn (wsX4_isIn) := ggX0_firstIn_X4_isIn
theorem dX0_firstIn_0 : decode cX0_firstIn 0 = .ok (.iconst 0, 1) := by decide +kernel
theorem dX0_firstIn_1 : decode cX0_firstIn 1 = .ok (.istore_n 1, 1) := by decide +kernel
theorem dX0_firstIn_2 : decode cX0_firstIn 2 = .ok (.iload_n 1, 1) := by decide +kernel
theorem dX0_firstIn_3 : decode cX0_firstIn 3 = .ok (.iconst 5, 1) := by decide +kernel
theorem dX0_firstIn_4 : decode cX0_firstIn 4 = .ok (.if_icmp .ge 17, 3) := by decide +kernel
theorem dX0_firstIn_7 : decode cX0_firstIn 7 = .ok (.iload_n 0, 1) := by decide +kernel
theorem dX0_firstIn_8 : decode cX0_firstIn 8 = .ok (.iload_n 1, 1) := by decide +kernel
theorem dX0_firstIn_9 : decode cX0_firstIn 9 = .ok (.invokestatic 61, 3) := by decide +kernel
theorem dX0_firstIn_12 : decode cX0_firstIn 12 = .ok (.ifCond .ne 9, 3) := by decide +kernel
theorem dX0_firstIn_15 : decode cX0_firstIn 15 = .ok (.iinc 1 1, 3) := by decide +kernel
theorem dX0_firstIn_18 : decode cX0_firstIn 18 = .ok (.goto (-16), 3) := by decide +kernel
theorem dX0_firstIn_21 : decode cX0_firstIn 21 = .ok (.iload_n 1, 1) := by decide +kernel
theorem dX0_firstIn_22 : decode cX0_firstIn 22 = .ok (.ireturn, 1) := by decide +kernel
set_option maxRecDepth 20000 in
theorem ggX0_madeOne_X0_row : GoodIn wsX0_madeOne wsX0_row := goodIn_r _ [5] (by decide +kernel) (by decide +kernel)
set_option maxRecDepth 20000 in
theorem gX0_madeOne_X0_row : GoodIn wsX0_madeOne (va_wsS RX0 40 yX0_row wsX0_row) := goodIn_app (goodIn_of _ (by decide +kernel)) ggX0_madeOne_X0_row
set_option maxRecDepth 20000 in
theorem ggX0_madeOne_X4_isIn : GoodIn wsX0_madeOne wsX4_isIn := goodIn_r _ [8, 9, 10, 7, 11] (by decide +kernel) (by decide +kernel)
set_option maxRecDepth 20000 in
theorem gX0_madeOne_X4_isIn_n61 : GoodIn wsX0_madeOne (wsX4_isIn) := ggX0_madeOne_X4_isIn
set_option maxRecDepth 20000 in
theorem ggX0_madeOne_X0_tie : GoodIn wsX0_madeOne wsX0_tie := goodIn_r _ [14, 15, 16, 4, 17] (by decide +kernel) (by decide +kernel)
set_option maxRecDepth 20000 in
theorem gX0_madeOne_X0_tie : GoodIn wsX0_madeOne (va_wsS RX0 15 yX0_tie wsX0_tie) := goodIn_app (goodIn_of _ (by decide +kernel)) ggX0_madeOne_X0_tie
theorem dX0_madeOne_0 : decode cX0_madeOne 0 = .ok (.lload_n 0, 1) := by decide +kernel
theorem dX0_madeOne_1 : decode cX0_madeOne 1 = .ok (.lstore 4, 2) := by decide +kernel
theorem dX0_madeOne_3 : decode cX0_madeOne 3 = .ok (.iconst 0, 1) := by decide +kernel
theorem dX0_madeOne_4 : decode cX0_madeOne 4 = .ok (.istore 6, 2) := by decide +kernel
theorem dX0_madeOne_6 : decode cX0_madeOne 6 = .ok (.iload 6, 2) := by decide +kernel
theorem dX0_madeOne_8 : decode cX0_madeOne 8 = .ok (.bipush 6, 2) := by decide +kernel
theorem dX0_madeOne_10 : decode cX0_madeOne 10 = .ok (.if_icmp .ge 44, 3) := by decide +kernel
theorem dX0_madeOne_13 : decode cX0_madeOne 13 = .ok (.lload_n 0, 1) := by decide +kernel
theorem dX0_madeOne_14 : decode cX0_madeOne 14 = .ok (.iload_n 3, 1) := by decide +kernel
theorem dX0_madeOne_15 : decode cX0_madeOne 15 = .ok (.invokestatic 40, 3) := by decide +kernel
theorem dX0_madeOne_18 : decode cX0_madeOne 18 = .ok (.iload 6, 2) := by decide +kernel
theorem dX0_madeOne_20 : decode cX0_madeOne 20 = .ok (.invokestatic 61, 3) := by decide +kernel
theorem dX0_madeOne_23 : decode cX0_madeOne 23 = .ok (.ifCond .eq 25, 3) := by decide +kernel
theorem dX0_madeOne_26 : decode cX0_madeOne 26 = .ok (.lload 4, 2) := by decide +kernel
theorem dX0_madeOne_28 : decode cX0_madeOne 28 = .ok (.iload_n 3, 1) := by decide +kernel
theorem dX0_madeOne_29 : decode cX0_madeOne 29 = .ok (.iload 6, 2) := by decide +kernel
theorem dX0_madeOne_31 : decode cX0_madeOne 31 = .ok (.invokestatic 15, 3) := by decide +kernel
theorem dX0_madeOne_34 : decode cX0_madeOne 34 = .ok (.ldc2_w 55, 3) := by decide +kernel
theorem dX0_madeOne_37 : decode cX0_madeOne 37 = .ok (.lxor, 1) := by decide +kernel
theorem dX0_madeOne_38 : decode cX0_madeOne 38 = .ok (.land, 1) := by decide +kernel
theorem dX0_madeOne_39 : decode cX0_madeOne 39 = .ok (.iload_n 2, 1) := by decide +kernel
theorem dX0_madeOne_40 : decode cX0_madeOne 40 = .ok (.iload 6, 2) := by decide +kernel
theorem dX0_madeOne_42 : decode cX0_madeOne 42 = .ok (.invokestatic 15, 3) := by decide +kernel
theorem dX0_madeOne_45 : decode cX0_madeOne 45 = .ok (.lor, 1) := by decide +kernel
theorem dX0_madeOne_46 : decode cX0_madeOne 46 = .ok (.lstore 4, 2) := by decide +kernel
theorem dX0_madeOne_48 : decode cX0_madeOne 48 = .ok (.iinc 6 1, 3) := by decide +kernel
theorem dX0_madeOne_51 : decode cX0_madeOne 51 = .ok (.goto (-45), 3) := by decide +kernel
theorem dX0_madeOne_54 : decode cX0_madeOne 54 = .ok (.lload 4, 2) := by decide +kernel
theorem dX0_madeOne_56 : decode cX0_madeOne 56 = .ok (.lreturn, 1) := by decide +kernel
set_option maxRecDepth 20000 in
theorem ggX0_directed_X0_firstWithEdge : GoodIn wsX0_directed wsX0_firstWithEdge := goodIn_r _ [5, 6, 7, 4, 8] (by decide +kernel) (by decide +kernel)
set_option maxRecDepth 20000 in
theorem gX0_directed_X0_firstWithEdge : GoodIn wsX0_directed (va_wsS RX0 48 yX0_firstWithEdge wsX0_firstWithEdge) := goodIn_app (goodIn_of _ (by decide +kernel)) ggX0_directed_X0_firstWithEdge
set_option maxRecDepth 20000 in
theorem ggX0_directed_X0_row : GoodIn wsX0_directed wsX0_row := goodIn_r _ [8] (by decide +kernel) (by decide +kernel)
set_option maxRecDepth 20000 in
theorem gX0_directed_X0_row : GoodIn wsX0_directed (va_wsS RX0 40 yX0_row wsX0_row) := goodIn_app (goodIn_of _ (by decide +kernel)) ggX0_directed_X0_row
set_option maxRecDepth 20000 in
theorem ggX0_directed_X0_firstIn : GoodIn wsX0_directed wsX0_firstIn := goodIn_r _ [11, 12, 13, 14, 15, 16, 17] (by decide +kernel) (by decide +kernel)
set_option maxRecDepth 20000 in
theorem gX0_directed_X0_firstIn : GoodIn wsX0_directed (va_wsS RX0 51 yX0_firstIn wsX0_firstIn) := goodIn_app (goodIn_of _ (by decide +kernel)) ggX0_directed_X0_firstIn
set_option maxRecDepth 20000 in
theorem ggX0_directed_X0_tie : GoodIn wsX0_directed wsX0_tie := goodIn_r _ [20, 21, 22, 4, 23] (by decide +kernel) (by decide +kernel)
set_option maxRecDepth 20000 in
theorem gX0_directed_X0_tie : GoodIn wsX0_directed (va_wsS RX0 15 yX0_tie wsX0_tie) := goodIn_app (goodIn_of _ (by decide +kernel)) ggX0_directed_X0_tie
set_option maxRecDepth 20000 in
theorem ggX0_directed_X4_isIn : GoodIn wsX0_directed wsX4_isIn := goodIn_r _ [14, 15, 16, 13, 17] (by decide +kernel) (by decide +kernel)
set_option maxRecDepth 20000 in
theorem gX0_directed_X4_isIn_n61 : GoodIn wsX0_directed (wsX4_isIn) := ggX0_directed_X4_isIn
set_option maxRecDepth 20000 in
theorem ggX0_directed_X0_led : GoodIn wsX0_directed wsX0_led := goodIn_r _ [26, 6, 7, 4, 8, 16, 13, 17, 12, 14, 15] (by decide +kernel) (by decide +kernel)
set_option maxRecDepth 20000 in
theorem gX0_directed_X0_led : GoodIn wsX0_directed (va_wsS RX0 65 yX0_led wsX0_led) := goodIn_app (goodIn_of _ (by decide +kernel)) ggX0_directed_X0_led
set_option maxRecDepth 20000 in
theorem ggX0_directed_X0_directed : GoodIn wsX0_directed wsX0_directed := goodIn_r _ [0, 1, 2, 3, 4, 5, 6, 7, 8, 9, 10, 11, 12, 13, 14, 15, 16, 17, 18, 19, 20, 21, 22, 23, 24, 25, 26, 27, 28] (by decide +kernel) (by decide +kernel)
set_option maxRecDepth 20000 in
theorem gX0_directed_X0_directed : GoodIn wsX0_directed (va_wsS RX0 33 yX0_directed wsX0_directed) := goodIn_app (goodIn_of _ (by decide +kernel)) ggX0_directed_X0_directed
theorem dX0_directed_0 : decode cX0_directed 0 = .ok (.lload_n 0, 1) := by decide +kernel
theorem dX0_directed_1 : decode cX0_directed 1 = .ok (.lconst 0, 1) := by decide +kernel
theorem dX0_directed_2 : decode cX0_directed 2 = .ok (.lcmp, 1) := by decide +kernel
theorem dX0_directed_3 : decode cX0_directed 3 = .ok (.ifCond .eq 9, 3) := by decide +kernel
theorem dX0_directed_6 : decode cX0_directed 6 = .ok (.iload_n 2, 1) := by decide +kernel
theorem dX0_directed_7 : decode cX0_directed 7 = .ok (.bipush 15, 2) := by decide +kernel
theorem dX0_directed_9 : decode cX0_directed 9 = .ok (.if_icmp .lt 5, 3) := by decide +kernel
theorem dX0_directed_12 : decode cX0_directed 12 = .ok (.iconst 1, 1) := by decide +kernel
theorem dX0_directed_13 : decode cX0_directed 13 = .ok (.ireturn, 1) := by decide +kernel
theorem dX0_directed_14 : decode cX0_directed 14 = .ok (.lload_n 0, 1) := by decide +kernel
theorem dX0_directed_15 : decode cX0_directed 15 = .ok (.invokestatic 48, 3) := by decide +kernel
theorem dX0_directed_18 : decode cX0_directed 18 = .ok (.istore 5, 2) := by decide +kernel
theorem dX0_directed_20 : decode cX0_directed 20 = .ok (.lload_n 0, 1) := by decide +kernel
theorem dX0_directed_21 : decode cX0_directed 21 = .ok (.iload 5, 2) := by decide +kernel
theorem dX0_directed_23 : decode cX0_directed 23 = .ok (.invokestatic 40, 3) := by decide +kernel
theorem dX0_directed_26 : decode cX0_directed 26 = .ok (.invokestatic 51, 3) := by decide +kernel
theorem dX0_directed_29 : decode cX0_directed 29 = .ok (.istore 6, 2) := by decide +kernel
theorem dX0_directed_31 : decode cX0_directed 31 = .ok (.lload_n 0, 1) := by decide +kernel
theorem dX0_directed_32 : decode cX0_directed 32 = .ok (.iload 5, 2) := by decide +kernel
theorem dX0_directed_34 : decode cX0_directed 34 = .ok (.iload 6, 2) := by decide +kernel
theorem dX0_directed_36 : decode cX0_directed 36 = .ok (.invokestatic 15, 3) := by decide +kernel
theorem dX0_directed_39 : decode cX0_directed 39 = .ok (.ldc2_w 55, 3) := by decide +kernel
theorem dX0_directed_42 : decode cX0_directed 42 = .ok (.lxor, 1) := by decide +kernel
theorem dX0_directed_43 : decode cX0_directed 43 = .ok (.land, 1) := by decide +kernel
theorem dX0_directed_44 : decode cX0_directed 44 = .ok (.lstore 7, 2) := by decide +kernel
theorem dX0_directed_46 : decode cX0_directed 46 = .ok (.iconst 0, 1) := by decide +kernel
theorem dX0_directed_47 : decode cX0_directed 47 = .ok (.istore 9, 2) := by decide +kernel
theorem dX0_directed_49 : decode cX0_directed 49 = .ok (.lload_n 3, 1) := by decide +kernel
theorem dX0_directed_50 : decode cX0_directed 50 = .ok (.iload 6, 2) := by decide +kernel
theorem dX0_directed_52 : decode cX0_directed 52 = .ok (.invokestatic 40, 3) := by decide +kernel
theorem dX0_directed_55 : decode cX0_directed 55 = .ok (.iload 5, 2) := by decide +kernel
theorem dX0_directed_57 : decode cX0_directed 57 = .ok (.invokestatic 61, 3) := by decide +kernel
theorem dX0_directed_60 : decode cX0_directed 60 = .ok (.ifCond .ne 24, 3) := by decide +kernel
theorem dX0_directed_63 : decode cX0_directed 63 = .ok (.iload 9, 2) := by decide +kernel
theorem dX0_directed_65 : decode cX0_directed 65 = .ok (.lload 7, 2) := by decide +kernel
theorem dX0_directed_67 : decode cX0_directed 67 = .ok (.iload_n 2, 1) := by decide +kernel
theorem dX0_directed_68 : decode cX0_directed 68 = .ok (.iconst 1, 1) := by decide +kernel
theorem dX0_directed_69 : decode cX0_directed 69 = .ok (.iadd, 1) := by decide +kernel
theorem dX0_directed_70 : decode cX0_directed 70 = .ok (.lload_n 3, 1) := by decide +kernel
theorem dX0_directed_71 : decode cX0_directed 71 = .ok (.iload 5, 2) := by decide +kernel
theorem dX0_directed_73 : decode cX0_directed 73 = .ok (.iload 6, 2) := by decide +kernel
theorem dX0_directed_75 : decode cX0_directed 75 = .ok (.invokestatic 65, 3) := by decide +kernel
theorem dX0_directed_78 : decode cX0_directed 78 = .ok (.invokestatic 33, 3) := by decide +kernel
theorem dX0_directed_81 : decode cX0_directed 81 = .ok (.iadd, 1) := by decide +kernel
theorem dX0_directed_82 : decode cX0_directed 82 = .ok (.istore 9, 2) := by decide +kernel
theorem dX0_directed_84 : decode cX0_directed 84 = .ok (.lload_n 3, 1) := by decide +kernel
theorem dX0_directed_85 : decode cX0_directed 85 = .ok (.iload 5, 2) := by decide +kernel
theorem dX0_directed_87 : decode cX0_directed 87 = .ok (.invokestatic 40, 3) := by decide +kernel
theorem dX0_directed_90 : decode cX0_directed 90 = .ok (.iload 6, 2) := by decide +kernel
theorem dX0_directed_92 : decode cX0_directed 92 = .ok (.invokestatic 61, 3) := by decide +kernel
theorem dX0_directed_95 : decode cX0_directed 95 = .ok (.ifCond .ne 24, 3) := by decide +kernel
theorem dX0_directed_98 : decode cX0_directed 98 = .ok (.iload 9, 2) := by decide +kernel
theorem dX0_directed_100 : decode cX0_directed 100 = .ok (.lload 7, 2) := by decide +kernel
theorem dX0_directed_102 : decode cX0_directed 102 = .ok (.iload_n 2, 1) := by decide +kernel
theorem dX0_directed_103 : decode cX0_directed 103 = .ok (.iconst 1, 1) := by decide +kernel
theorem dX0_directed_104 : decode cX0_directed 104 = .ok (.iadd, 1) := by decide +kernel
theorem dX0_directed_105 : decode cX0_directed 105 = .ok (.lload_n 3, 1) := by decide +kernel
theorem dX0_directed_106 : decode cX0_directed 106 = .ok (.iload 6, 2) := by decide +kernel
theorem dX0_directed_108 : decode cX0_directed 108 = .ok (.iload 5, 2) := by decide +kernel
theorem dX0_directed_110 : decode cX0_directed 110 = .ok (.invokestatic 65, 3) := by decide +kernel
theorem dX0_directed_113 : decode cX0_directed 113 = .ok (.invokestatic 33, 3) := by decide +kernel
theorem dX0_directed_116 : decode cX0_directed 116 = .ok (.iadd, 1) := by decide +kernel
theorem dX0_directed_117 : decode cX0_directed 117 = .ok (.istore 9, 2) := by decide +kernel
theorem dX0_directed_119 : decode cX0_directed 119 = .ok (.iload 9, 2) := by decide +kernel
theorem dX0_directed_121 : decode cX0_directed 121 = .ok (.ireturn, 1) := by decide +kernel
set_option maxRecDepth 20000 in
theorem ggX0_led_X0_row : GoodIn wsX0_led wsX0_row := goodIn_r _ [4] (by decide +kernel) (by decide +kernel)
set_option maxRecDepth 20000 in
theorem gX0_led_X0_row : GoodIn wsX0_led (va_wsS RX0 40 yX0_row wsX0_row) := goodIn_app (goodIn_of _ (by decide +kernel)) ggX0_led_X0_row
set_option maxRecDepth 20000 in
theorem ggX0_led_X4_bit : GoodIn wsX0_led wsX4_bit := goodIn_r _ [7] (by decide +kernel) (by decide +kernel)
set_option maxRecDepth 20000 in
theorem gX0_led_X4_bit_n68 : GoodIn wsX0_led (wsX4_bit) := ggX0_led_X4_bit
set_option maxRecDepth 20000 in
theorem ggX0_led_X4_isIn : GoodIn wsX0_led wsX4_isIn := goodIn_r _ [9, 10, 5, 6, 7] (by decide +kernel) (by decide +kernel)
set_option maxRecDepth 20000 in
theorem gX0_led_X4_isIn_n61 : GoodIn wsX0_led (wsX4_isIn) := ggX0_led_X4_isIn
theorem dX0_led_0 : decode cX0_led 0 = .ok (.lload_n 0, 1) := by decide +kernel
theorem dX0_led_1 : decode cX0_led 1 = .ok (.iload_n 3, 1) := by decide +kernel
theorem dX0_led_2 : decode cX0_led 2 = .ok (.invokestatic 40, 3) := by decide +kernel
theorem dX0_led_5 : decode cX0_led 5 = .ok (.iload_n 3, 1) := by decide +kernel
theorem dX0_led_6 : decode cX0_led 6 = .ok (.invokestatic 68, 3) := by decide +kernel
theorem dX0_led_9 : decode cX0_led 9 = .ok (.ior, 1) := by decide +kernel
theorem dX0_led_10 : decode cX0_led 10 = .ok (.istore 4, 2) := by decide +kernel
theorem dX0_led_12 : decode cX0_led 12 = .ok (.lload_n 0, 1) := by decide +kernel
theorem dX0_led_13 : decode cX0_led 13 = .ok (.lstore 5, 2) := by decide +kernel
theorem dX0_led_15 : decode cX0_led 15 = .ok (.iconst 0, 1) := by decide +kernel
theorem dX0_led_16 : decode cX0_led 16 = .ok (.istore 7, 2) := by decide +kernel
theorem dX0_led_18 : decode cX0_led 18 = .ok (.iload 7, 2) := by decide +kernel
theorem dX0_led_20 : decode cX0_led 20 = .ok (.bipush 6, 2) := by decide +kernel
theorem dX0_led_22 : decode cX0_led 22 = .ok (.if_icmp .ge 42, 3) := by decide +kernel
theorem dX0_led_25 : decode cX0_led 25 = .ok (.iload 7, 2) := by decide +kernel
theorem dX0_led_27 : decode cX0_led 27 = .ok (.iload_n 2, 1) := by decide +kernel
theorem dX0_led_28 : decode cX0_led 28 = .ok (.if_icmp .eq 16, 3) := by decide +kernel
theorem dX0_led_31 : decode cX0_led 31 = .ok (.lload_n 0, 1) := by decide +kernel
theorem dX0_led_32 : decode cX0_led 32 = .ok (.iload 7, 2) := by decide +kernel
theorem dX0_led_34 : decode cX0_led 34 = .ok (.invokestatic 40, 3) := by decide +kernel
theorem dX0_led_37 : decode cX0_led 37 = .ok (.iload_n 2, 1) := by decide +kernel
theorem dX0_led_38 : decode cX0_led 38 = .ok (.invokestatic 61, 3) := by decide +kernel
theorem dX0_led_41 : decode cX0_led 41 = .ok (.ifCond .eq 17, 3) := by decide +kernel
theorem dX0_led_44 : decode cX0_led 44 = .ok (.lload 5, 2) := by decide +kernel
theorem dX0_led_46 : decode cX0_led 46 = .ok (.iload 4, 2) := by decide +kernel
theorem dX0_led_48 : decode cX0_led 48 = .ok (.i2l, 1) := by decide +kernel
theorem dX0_led_49 : decode cX0_led 49 = .ok (.bipush 6, 2) := by decide +kernel
theorem dX0_led_51 : decode cX0_led 51 = .ok (.iload 7, 2) := by decide +kernel
theorem dX0_led_53 : decode cX0_led 53 = .ok (.imul, 1) := by decide +kernel
theorem dX0_led_54 : decode cX0_led 54 = .ok (.lshl, 1) := by decide +kernel
theorem dX0_led_55 : decode cX0_led 55 = .ok (.lor, 1) := by decide +kernel
theorem dX0_led_56 : decode cX0_led 56 = .ok (.lstore 5, 2) := by decide +kernel
theorem dX0_led_58 : decode cX0_led 58 = .ok (.iinc 7 1, 3) := by decide +kernel
theorem dX0_led_61 : decode cX0_led 61 = .ok (.goto (-43), 3) := by decide +kernel
theorem dX0_led_64 : decode cX0_led 64 = .ok (.lload 5, 2) := by decide +kernel
theorem dX0_led_66 : decode cX0_led 66 = .ok (.lreturn, 1) := by decide +kernel
theorem dX1_init_0 : decode cX1_init 0 = .ok (.aload_n 0, 1) := by decide +kernel
theorem dX1_init_1 : decode cX1_init 1 = .ok (.invokespecial 3, 3) := by decide +kernel
theorem dX1_init_4 : decode cX1_init 4 = .ok (.aload_n 0, 1) := by decide +kernel
theorem dX1_init_5 : decode cX1_init 5 = .ok (.bipush 9, 2) := by decide +kernel
theorem dX1_init_7 : decode cX1_init 7 = .ok (.newarray .int, 2) := by decide +kernel
theorem dX1_init_9 : decode cX1_init 9 = .ok (.putfield 9, 3) := by decide +kernel
theorem dX1_init_12 : decode cX1_init 12 = .ok (.aload_n 0, 1) := by decide +kernel
theorem dX1_init_13 : decode cX1_init 13 = .ok (.bipush 9, 2) := by decide +kernel
theorem dX1_init_15 : decode cX1_init 15 = .ok (.newarray .int, 2) := by decide +kernel
theorem dX1_init_17 : decode cX1_init 17 = .ok (.putfield 15, 3) := by decide +kernel
theorem dX1_init_20 : decode cX1_init 20 = .ok (.aload_n 0, 1) := by decide +kernel
theorem dX1_init_21 : decode cX1_init 21 = .ok (.bipush 9, 2) := by decide +kernel
theorem dX1_init_23 : decode cX1_init 23 = .ok (.newarray .int, 2) := by decide +kernel
theorem dX1_init_25 : decode cX1_init 25 = .ok (.putfield 18, 3) := by decide +kernel
theorem dX1_init_28 : decode cX1_init 28 = .ok (.aload_n 0, 1) := by decide +kernel
theorem dX1_init_29 : decode cX1_init 29 = .ok (.iconst 0, 1) := by decide +kernel
theorem dX1_init_30 : decode cX1_init 30 = .ok (.putfield 21, 3) := by decide +kernel
theorem dX1_init_33 : decode cX1_init 33 = .ok (.return_, 1) := by decide +kernel
theorem dX1_count_0 : decode cX1_count 0 = .ok (.aload_n 0, 1) := by decide +kernel
theorem dX1_count_1 : decode cX1_count 1 = .ok (.getfield 21, 3) := by decide +kernel
theorem dX1_count_4 : decode cX1_count 4 = .ok (.ireturn, 1) := by decide +kernel
theorem dX1_isFull_0 : decode cX1_isFull 0 = .ok (.aload_n 0, 1) := by decide +kernel
theorem dX1_isFull_1 : decode cX1_isFull 1 = .ok (.getfield 21, 3) := by decide +kernel
theorem dX1_isFull_4 : decode cX1_isFull 4 = .ok (.bipush 9, 2) := by decide +kernel
theorem dX1_isFull_6 : decode cX1_isFull 6 = .ok (.if_icmp .lt 7, 3) := by decide +kernel
theorem dX1_isFull_9 : decode cX1_isFull 9 = .ok (.iconst 1, 1) := by decide +kernel
theorem dX1_isFull_10 : decode cX1_isFull 10 = .ok (.goto 4, 3) := by decide +kernel
theorem dX1_isFull_13 : decode cX1_isFull 13 = .ok (.iconst 0, 1) := by decide +kernel
theorem dX1_isFull_14 : decode cX1_isFull 14 = .ok (.ireturn, 1) := by decide +kernel
theorem dX1_a_0 : decode cX1_a 0 = .ok (.aload_n 0, 1) := by decide +kernel
theorem dX1_a_1 : decode cX1_a 1 = .ok (.getfield 9, 3) := by decide +kernel
theorem dX1_a_4 : decode cX1_a 4 = .ok (.iload_n 1, 1) := by decide +kernel
theorem dX1_a_5 : decode cX1_a 5 = .ok (.iaload, 1) := by decide +kernel
theorem dX1_a_6 : decode cX1_a 6 = .ok (.ireturn, 1) := by decide +kernel
theorem dX1_b_0 : decode cX1_b 0 = .ok (.aload_n 0, 1) := by decide +kernel
theorem dX1_b_1 : decode cX1_b 1 = .ok (.getfield 15, 3) := by decide +kernel
theorem dX1_b_4 : decode cX1_b 4 = .ok (.iload_n 1, 1) := by decide +kernel
theorem dX1_b_5 : decode cX1_b 5 = .ok (.iaload, 1) := by decide +kernel
theorem dX1_b_6 : decode cX1_b 6 = .ok (.ireturn, 1) := by decide +kernel
theorem dX1_c_0 : decode cX1_c 0 = .ok (.aload_n 0, 1) := by decide +kernel
theorem dX1_c_1 : decode cX1_c 1 = .ok (.getfield 18, 3) := by decide +kernel
theorem dX1_c_4 : decode cX1_c 4 = .ok (.iload_n 1, 1) := by decide +kernel
theorem dX1_c_5 : decode cX1_c 5 = .ok (.iaload, 1) := by decide +kernel
theorem dX1_c_6 : decode cX1_c 6 = .ok (.ireturn, 1) := by decide +kernel
set_option maxRecDepth 20000 in
theorem ggX1_append_X1_isFull : GoodIn wsX1_append wsX1_isFull := goodIn_r _ [9, 2, 10, 11, 12, 13] (by decide +kernel) (by decide +kernel)
set_option maxRecDepth 20000 in
theorem gX1_append_X1_isFull : GoodIn wsX1_append (wsV RX1 25 RX1 yX1_isFull wsX1_isFull) := goodIn_app (goodIn_of _ (by decide +kernel)) ggX1_append_X1_isFull
theorem dX1_append_0 : decode cX1_append 0 = .ok (.aload_n 0, 1) := by decide +kernel
theorem dX1_append_1 : decode cX1_append 1 = .ok (.invokevirtual 25, 3) := by decide +kernel
theorem dX1_append_4 : decode cX1_append 4 = .ok (.ifCond .eq 4, 3) := by decide +kernel
theorem dX1_append_7 : decode cX1_append 7 = .ok (.return_, 1) := by decide +kernel
theorem dX1_append_8 : decode cX1_append 8 = .ok (.aload_n 0, 1) := by decide +kernel
theorem dX1_append_9 : decode cX1_append 9 = .ok (.getfield 9, 3) := by decide +kernel
theorem dX1_append_12 : decode cX1_append 12 = .ok (.aload_n 0, 1) := by decide +kernel
theorem dX1_append_13 : decode cX1_append 13 = .ok (.getfield 21, 3) := by decide +kernel
theorem dX1_append_16 : decode cX1_append 16 = .ok (.iload_n 1, 1) := by decide +kernel
theorem dX1_append_17 : decode cX1_append 17 = .ok (.iastore, 1) := by decide +kernel
theorem dX1_append_18 : decode cX1_append 18 = .ok (.aload_n 0, 1) := by decide +kernel
theorem dX1_append_19 : decode cX1_append 19 = .ok (.getfield 15, 3) := by decide +kernel
theorem dX1_append_22 : decode cX1_append 22 = .ok (.aload_n 0, 1) := by decide +kernel
theorem dX1_append_23 : decode cX1_append 23 = .ok (.getfield 21, 3) := by decide +kernel
theorem dX1_append_26 : decode cX1_append 26 = .ok (.iload_n 2, 1) := by decide +kernel
theorem dX1_append_27 : decode cX1_append 27 = .ok (.iastore, 1) := by decide +kernel
theorem dX1_append_28 : decode cX1_append 28 = .ok (.aload_n 0, 1) := by decide +kernel
theorem dX1_append_29 : decode cX1_append 29 = .ok (.getfield 18, 3) := by decide +kernel
theorem dX1_append_32 : decode cX1_append 32 = .ok (.aload_n 0, 1) := by decide +kernel
theorem dX1_append_33 : decode cX1_append 33 = .ok (.getfield 21, 3) := by decide +kernel
theorem dX1_append_36 : decode cX1_append 36 = .ok (.iload_n 3, 1) := by decide +kernel
theorem dX1_append_37 : decode cX1_append 37 = .ok (.iastore, 1) := by decide +kernel
theorem dX1_append_38 : decode cX1_append 38 = .ok (.aload_n 0, 1) := by decide +kernel
theorem dX1_append_39 : decode cX1_append 39 = .ok (.dup, 1) := by decide +kernel
theorem dX1_append_40 : decode cX1_append 40 = .ok (.getfield 21, 3) := by decide +kernel
theorem dX1_append_43 : decode cX1_append 43 = .ok (.iconst 1, 1) := by decide +kernel
theorem dX1_append_44 : decode cX1_append 44 = .ok (.iadd, 1) := by decide +kernel
theorem dX1_append_45 : decode cX1_append 45 = .ok (.putfield 21, 3) := by decide +kernel
theorem dX1_append_48 : decode cX1_append 48 = .ok (.return_, 1) := by decide +kernel
theorem dX1_remove_0 : decode cX1_remove 0 = .ok (.iload_n 1, 1) := by decide +kernel
theorem dX1_remove_1 : decode cX1_remove 1 = .ok (.iconst 1, 1) := by decide +kernel
theorem dX1_remove_2 : decode cX1_remove 2 = .ok (.iadd, 1) := by decide +kernel
theorem dX1_remove_3 : decode cX1_remove 3 = .ok (.istore_n 2, 1) := by decide +kernel
theorem dX1_remove_4 : decode cX1_remove 4 = .ok (.iload_n 2, 1) := by decide +kernel
theorem dX1_remove_5 : decode cX1_remove 5 = .ok (.aload_n 0, 1) := by decide +kernel
theorem dX1_remove_6 : decode cX1_remove 6 = .ok (.getfield 21, 3) := by decide +kernel
theorem dX1_remove_9 : decode cX1_remove 9 = .ok (.if_icmp .ge 51, 3) := by decide +kernel
theorem dX1_remove_12 : decode cX1_remove 12 = .ok (.aload_n 0, 1) := by decide +kernel
theorem dX1_remove_13 : decode cX1_remove 13 = .ok (.getfield 9, 3) := by decide +kernel
theorem dX1_remove_16 : decode cX1_remove 16 = .ok (.iload_n 2, 1) := by decide +kernel
theorem dX1_remove_17 : decode cX1_remove 17 = .ok (.iconst 1, 1) := by decide +kernel
theorem dX1_remove_18 : decode cX1_remove 18 = .ok (.isub, 1) := by decide +kernel
theorem dX1_remove_19 : decode cX1_remove 19 = .ok (.aload_n 0, 1) := by decide +kernel
theorem dX1_remove_20 : decode cX1_remove 20 = .ok (.getfield 9, 3) := by decide +kernel
theorem dX1_remove_23 : decode cX1_remove 23 = .ok (.iload_n 2, 1) := by decide +kernel
theorem dX1_remove_24 : decode cX1_remove 24 = .ok (.iaload, 1) := by decide +kernel
theorem dX1_remove_25 : decode cX1_remove 25 = .ok (.iastore, 1) := by decide +kernel
theorem dX1_remove_26 : decode cX1_remove 26 = .ok (.aload_n 0, 1) := by decide +kernel
theorem dX1_remove_27 : decode cX1_remove 27 = .ok (.getfield 15, 3) := by decide +kernel
theorem dX1_remove_30 : decode cX1_remove 30 = .ok (.iload_n 2, 1) := by decide +kernel
theorem dX1_remove_31 : decode cX1_remove 31 = .ok (.iconst 1, 1) := by decide +kernel
theorem dX1_remove_32 : decode cX1_remove 32 = .ok (.isub, 1) := by decide +kernel
theorem dX1_remove_33 : decode cX1_remove 33 = .ok (.aload_n 0, 1) := by decide +kernel
theorem dX1_remove_34 : decode cX1_remove 34 = .ok (.getfield 15, 3) := by decide +kernel
theorem dX1_remove_37 : decode cX1_remove 37 = .ok (.iload_n 2, 1) := by decide +kernel
theorem dX1_remove_38 : decode cX1_remove 38 = .ok (.iaload, 1) := by decide +kernel
theorem dX1_remove_39 : decode cX1_remove 39 = .ok (.iastore, 1) := by decide +kernel
theorem dX1_remove_40 : decode cX1_remove 40 = .ok (.aload_n 0, 1) := by decide +kernel
theorem dX1_remove_41 : decode cX1_remove 41 = .ok (.getfield 18, 3) := by decide +kernel
theorem dX1_remove_44 : decode cX1_remove 44 = .ok (.iload_n 2, 1) := by decide +kernel
theorem dX1_remove_45 : decode cX1_remove 45 = .ok (.iconst 1, 1) := by decide +kernel
theorem dX1_remove_46 : decode cX1_remove 46 = .ok (.isub, 1) := by decide +kernel
theorem dX1_remove_47 : decode cX1_remove 47 = .ok (.aload_n 0, 1) := by decide +kernel
theorem dX1_remove_48 : decode cX1_remove 48 = .ok (.getfield 18, 3) := by decide +kernel
theorem dX1_remove_51 : decode cX1_remove 51 = .ok (.iload_n 2, 1) := by decide +kernel
theorem dX1_remove_52 : decode cX1_remove 52 = .ok (.iaload, 1) := by decide +kernel
theorem dX1_remove_53 : decode cX1_remove 53 = .ok (.iastore, 1) := by decide +kernel
theorem dX1_remove_54 : decode cX1_remove 54 = .ok (.iinc 2 1, 3) := by decide +kernel
theorem dX1_remove_57 : decode cX1_remove 57 = .ok (.goto (-53), 3) := by decide +kernel
theorem dX1_remove_60 : decode cX1_remove 60 = .ok (.aload_n 0, 1) := by decide +kernel
theorem dX1_remove_61 : decode cX1_remove 61 = .ok (.dup, 1) := by decide +kernel
theorem dX1_remove_62 : decode cX1_remove 62 = .ok (.getfield 21, 3) := by decide +kernel
theorem dX1_remove_65 : decode cX1_remove 65 = .ok (.iconst 1, 1) := by decide +kernel
theorem dX1_remove_66 : decode cX1_remove 66 = .ok (.isub, 1) := by decide +kernel
theorem dX1_remove_67 : decode cX1_remove 67 = .ok (.putfield 21, 3) := by decide +kernel
theorem dX1_remove_70 : decode cX1_remove 70 = .ok (.return_, 1) := by decide +kernel
theorem dX1_numberOf_0 : decode cX1_numberOf 0 = .ok (.iconst 0, 1) := by decide +kernel
theorem dX1_numberOf_1 : decode cX1_numberOf 1 = .ok (.istore 4, 2) := by decide +kernel
theorem dX1_numberOf_3 : decode cX1_numberOf 3 = .ok (.iload 4, 2) := by decide +kernel
theorem dX1_numberOf_5 : decode cX1_numberOf 5 = .ok (.aload_n 0, 1) := by decide +kernel
theorem dX1_numberOf_6 : decode cX1_numberOf 6 = .ok (.getfield 21, 3) := by decide +kernel
theorem dX1_numberOf_9 : decode cX1_numberOf 9 = .ok (.if_icmp .ge 75, 3) := by decide +kernel
theorem dX1_numberOf_12 : decode cX1_numberOf 12 = .ok (.aload_n 0, 1) := by decide +kernel
theorem dX1_numberOf_13 : decode cX1_numberOf 13 = .ok (.getfield 9, 3) := by decide +kernel
theorem dX1_numberOf_16 : decode cX1_numberOf 16 = .ok (.iload 4, 2) := by decide +kernel
theorem dX1_numberOf_18 : decode cX1_numberOf 18 = .ok (.iaload, 1) := by decide +kernel
theorem dX1_numberOf_19 : decode cX1_numberOf 19 = .ok (.iload_n 2, 1) := by decide +kernel
theorem dX1_numberOf_20 : decode cX1_numberOf 20 = .ok (.imul, 1) := by decide +kernel
theorem dX1_numberOf_21 : decode cX1_numberOf 21 = .ok (.aload_n 0, 1) := by decide +kernel
theorem dX1_numberOf_22 : decode cX1_numberOf 22 = .ok (.getfield 15, 3) := by decide +kernel
theorem dX1_numberOf_25 : decode cX1_numberOf 25 = .ok (.iload 4, 2) := by decide +kernel
theorem dX1_numberOf_27 : decode cX1_numberOf 27 = .ok (.iaload, 1) := by decide +kernel
theorem dX1_numberOf_28 : decode cX1_numberOf 28 = .ok (.iload_n 1, 1) := by decide +kernel
theorem dX1_numberOf_29 : decode cX1_numberOf 29 = .ok (.imul, 1) := by decide +kernel
theorem dX1_numberOf_30 : decode cX1_numberOf 30 = .ok (.if_icmp .ne 48, 3) := by decide +kernel
theorem dX1_numberOf_33 : decode cX1_numberOf 33 = .ok (.aload_n 0, 1) := by decide +kernel
theorem dX1_numberOf_34 : decode cX1_numberOf 34 = .ok (.getfield 9, 3) := by decide +kernel
theorem dX1_numberOf_37 : decode cX1_numberOf 37 = .ok (.iload 4, 2) := by decide +kernel
theorem dX1_numberOf_39 : decode cX1_numberOf 39 = .ok (.iaload, 1) := by decide +kernel
theorem dX1_numberOf_40 : decode cX1_numberOf 40 = .ok (.iload_n 3, 1) := by decide +kernel
theorem dX1_numberOf_41 : decode cX1_numberOf 41 = .ok (.imul, 1) := by decide +kernel
theorem dX1_numberOf_42 : decode cX1_numberOf 42 = .ok (.aload_n 0, 1) := by decide +kernel
theorem dX1_numberOf_43 : decode cX1_numberOf 43 = .ok (.getfield 18, 3) := by decide +kernel
theorem dX1_numberOf_46 : decode cX1_numberOf 46 = .ok (.iload 4, 2) := by decide +kernel
theorem dX1_numberOf_48 : decode cX1_numberOf 48 = .ok (.iaload, 1) := by decide +kernel
theorem dX1_numberOf_49 : decode cX1_numberOf 49 = .ok (.iload_n 1, 1) := by decide +kernel
theorem dX1_numberOf_50 : decode cX1_numberOf 50 = .ok (.imul, 1) := by decide +kernel
theorem dX1_numberOf_51 : decode cX1_numberOf 51 = .ok (.if_icmp .ne 27, 3) := by decide +kernel
theorem dX1_numberOf_54 : decode cX1_numberOf 54 = .ok (.aload_n 0, 1) := by decide +kernel
theorem dX1_numberOf_55 : decode cX1_numberOf 55 = .ok (.getfield 15, 3) := by decide +kernel
theorem dX1_numberOf_58 : decode cX1_numberOf 58 = .ok (.iload 4, 2) := by decide +kernel
theorem dX1_numberOf_60 : decode cX1_numberOf 60 = .ok (.iaload, 1) := by decide +kernel
theorem dX1_numberOf_61 : decode cX1_numberOf 61 = .ok (.iload_n 3, 1) := by decide +kernel
theorem dX1_numberOf_62 : decode cX1_numberOf 62 = .ok (.imul, 1) := by decide +kernel
theorem dX1_numberOf_63 : decode cX1_numberOf 63 = .ok (.aload_n 0, 1) := by decide +kernel
theorem dX1_numberOf_64 : decode cX1_numberOf 64 = .ok (.getfield 18, 3) := by decide +kernel
theorem dX1_numberOf_67 : decode cX1_numberOf 67 = .ok (.iload 4, 2) := by decide +kernel
theorem dX1_numberOf_69 : decode cX1_numberOf 69 = .ok (.iaload, 1) := by decide +kernel
theorem dX1_numberOf_70 : decode cX1_numberOf 70 = .ok (.iload_n 2, 1) := by decide +kernel
theorem dX1_numberOf_71 : decode cX1_numberOf 71 = .ok (.imul, 1) := by decide +kernel
theorem dX1_numberOf_72 : decode cX1_numberOf 72 = .ok (.if_icmp .ne 6, 3) := by decide +kernel
theorem dX1_numberOf_75 : decode cX1_numberOf 75 = .ok (.iload 4, 2) := by decide +kernel
theorem dX1_numberOf_77 : decode cX1_numberOf 77 = .ok (.ireturn, 1) := by decide +kernel
theorem dX1_numberOf_78 : decode cX1_numberOf 78 = .ok (.iinc 4 1, 3) := by decide +kernel
theorem dX1_numberOf_81 : decode cX1_numberOf 81 = .ok (.goto (-78), 3) := by decide +kernel
theorem dX1_numberOf_84 : decode cX1_numberOf 84 = .ok (.iconst (-1), 1) := by decide +kernel
theorem dX1_numberOf_85 : decode cX1_numberOf 85 = .ok (.ireturn, 1) := by decide +kernel
theorem dX1_crossD_0 : decode cX1_crossD 0 = .ok (.aload_n 0, 1) := by decide +kernel
theorem dX1_crossD_1 : decode cX1_crossD 1 = .ok (.getfield 9, 3) := by decide +kernel
theorem dX1_crossD_4 : decode cX1_crossD 4 = .ok (.iload_n 1, 1) := by decide +kernel
theorem dX1_crossD_5 : decode cX1_crossD 5 = .ok (.iaload, 1) := by decide +kernel
theorem dX1_crossD_6 : decode cX1_crossD 6 = .ok (.aload_n 0, 1) := by decide +kernel
theorem dX1_crossD_7 : decode cX1_crossD 7 = .ok (.getfield 15, 3) := by decide +kernel
theorem dX1_crossD_10 : decode cX1_crossD 10 = .ok (.iload_n 2, 1) := by decide +kernel
theorem dX1_crossD_11 : decode cX1_crossD 11 = .ok (.iaload, 1) := by decide +kernel
theorem dX1_crossD_12 : decode cX1_crossD 12 = .ok (.imul, 1) := by decide +kernel
theorem dX1_crossD_13 : decode cX1_crossD 13 = .ok (.aload_n 0, 1) := by decide +kernel
theorem dX1_crossD_14 : decode cX1_crossD 14 = .ok (.getfield 9, 3) := by decide +kernel
theorem dX1_crossD_17 : decode cX1_crossD 17 = .ok (.iload_n 2, 1) := by decide +kernel
theorem dX1_crossD_18 : decode cX1_crossD 18 = .ok (.iaload, 1) := by decide +kernel
theorem dX1_crossD_19 : decode cX1_crossD 19 = .ok (.aload_n 0, 1) := by decide +kernel
theorem dX1_crossD_20 : decode cX1_crossD 20 = .ok (.getfield 15, 3) := by decide +kernel
theorem dX1_crossD_23 : decode cX1_crossD 23 = .ok (.iload_n 1, 1) := by decide +kernel
theorem dX1_crossD_24 : decode cX1_crossD 24 = .ok (.iaload, 1) := by decide +kernel
theorem dX1_crossD_25 : decode cX1_crossD 25 = .ok (.imul, 1) := by decide +kernel
theorem dX1_crossD_26 : decode cX1_crossD 26 = .ok (.isub, 1) := by decide +kernel
theorem dX1_crossD_27 : decode cX1_crossD 27 = .ok (.ireturn, 1) := by decide +kernel
theorem dX1_crossX_0 : decode cX1_crossX 0 = .ok (.aload_n 0, 1) := by decide +kernel
theorem dX1_crossX_1 : decode cX1_crossX 1 = .ok (.getfield 18, 3) := by decide +kernel
theorem dX1_crossX_4 : decode cX1_crossX 4 = .ok (.iload_n 1, 1) := by decide +kernel
theorem dX1_crossX_5 : decode cX1_crossX 5 = .ok (.iaload, 1) := by decide +kernel
theorem dX1_crossX_6 : decode cX1_crossX 6 = .ok (.aload_n 0, 1) := by decide +kernel
theorem dX1_crossX_7 : decode cX1_crossX 7 = .ok (.getfield 15, 3) := by decide +kernel
theorem dX1_crossX_10 : decode cX1_crossX 10 = .ok (.iload_n 2, 1) := by decide +kernel
theorem dX1_crossX_11 : decode cX1_crossX 11 = .ok (.iaload, 1) := by decide +kernel
theorem dX1_crossX_12 : decode cX1_crossX 12 = .ok (.imul, 1) := by decide +kernel
theorem dX1_crossX_13 : decode cX1_crossX 13 = .ok (.aload_n 0, 1) := by decide +kernel
theorem dX1_crossX_14 : decode cX1_crossX 14 = .ok (.getfield 18, 3) := by decide +kernel
theorem dX1_crossX_17 : decode cX1_crossX 17 = .ok (.iload_n 2, 1) := by decide +kernel
theorem dX1_crossX_18 : decode cX1_crossX 18 = .ok (.iaload, 1) := by decide +kernel
theorem dX1_crossX_19 : decode cX1_crossX 19 = .ok (.aload_n 0, 1) := by decide +kernel
theorem dX1_crossX_20 : decode cX1_crossX 20 = .ok (.getfield 15, 3) := by decide +kernel
theorem dX1_crossX_23 : decode cX1_crossX 23 = .ok (.iload_n 1, 1) := by decide +kernel
theorem dX1_crossX_24 : decode cX1_crossX 24 = .ok (.iaload, 1) := by decide +kernel
theorem dX1_crossX_25 : decode cX1_crossX 25 = .ok (.imul, 1) := by decide +kernel
theorem dX1_crossX_26 : decode cX1_crossX 26 = .ok (.isub, 1) := by decide +kernel
theorem dX1_crossX_27 : decode cX1_crossX 27 = .ok (.ireturn, 1) := by decide +kernel
theorem dX1_crossY_0 : decode cX1_crossY 0 = .ok (.aload_n 0, 1) := by decide +kernel
theorem dX1_crossY_1 : decode cX1_crossY 1 = .ok (.getfield 9, 3) := by decide +kernel
theorem dX1_crossY_4 : decode cX1_crossY 4 = .ok (.iload_n 1, 1) := by decide +kernel
theorem dX1_crossY_5 : decode cX1_crossY 5 = .ok (.iaload, 1) := by decide +kernel
theorem dX1_crossY_6 : decode cX1_crossY 6 = .ok (.aload_n 0, 1) := by decide +kernel
theorem dX1_crossY_7 : decode cX1_crossY 7 = .ok (.getfield 18, 3) := by decide +kernel
theorem dX1_crossY_10 : decode cX1_crossY 10 = .ok (.iload_n 2, 1) := by decide +kernel
theorem dX1_crossY_11 : decode cX1_crossY 11 = .ok (.iaload, 1) := by decide +kernel
theorem dX1_crossY_12 : decode cX1_crossY 12 = .ok (.imul, 1) := by decide +kernel
theorem dX1_crossY_13 : decode cX1_crossY 13 = .ok (.aload_n 0, 1) := by decide +kernel
theorem dX1_crossY_14 : decode cX1_crossY 14 = .ok (.getfield 9, 3) := by decide +kernel
theorem dX1_crossY_17 : decode cX1_crossY 17 = .ok (.iload_n 2, 1) := by decide +kernel
theorem dX1_crossY_18 : decode cX1_crossY 18 = .ok (.iaload, 1) := by decide +kernel
theorem dX1_crossY_19 : decode cX1_crossY 19 = .ok (.aload_n 0, 1) := by decide +kernel
theorem dX1_crossY_20 : decode cX1_crossY 20 = .ok (.getfield 18, 3) := by decide +kernel
theorem dX1_crossY_23 : decode cX1_crossY 23 = .ok (.iload_n 1, 1) := by decide +kernel
theorem dX1_crossY_24 : decode cX1_crossY 24 = .ok (.iaload, 1) := by decide +kernel
theorem dX1_crossY_25 : decode cX1_crossY 25 = .ok (.imul, 1) := by decide +kernel
theorem dX1_crossY_26 : decode cX1_crossY 26 = .ok (.isub, 1) := by decide +kernel
theorem dX1_crossY_27 : decode cX1_crossY 27 = .ok (.ireturn, 1) := by decide +kernel
theorem dX1_height_0 : decode cX1_height 0 = .ok (.aload_n 0, 1) := by decide +kernel
theorem dX1_height_1 : decode cX1_height 1 = .ok (.getfield 9, 3) := by decide +kernel
theorem dX1_height_4 : decode cX1_height 4 = .ok (.iload_n 1, 1) := by decide +kernel
theorem dX1_height_5 : decode cX1_height 5 = .ok (.iaload, 1) := by decide +kernel
theorem dX1_height_6 : decode cX1_height 6 = .ok (.iload_n 2, 1) := by decide +kernel
theorem dX1_height_7 : decode cX1_height 7 = .ok (.imul, 1) := by decide +kernel
theorem dX1_height_8 : decode cX1_height 8 = .ok (.aload_n 0, 1) := by decide +kernel
theorem dX1_height_9 : decode cX1_height 9 = .ok (.getfield 15, 3) := by decide +kernel
theorem dX1_height_12 : decode cX1_height 12 = .ok (.iload_n 1, 1) := by decide +kernel
theorem dX1_height_13 : decode cX1_height 13 = .ok (.iaload, 1) := by decide +kernel
theorem dX1_height_14 : decode cX1_height 14 = .ok (.iload_n 3, 1) := by decide +kernel
theorem dX1_height_15 : decode cX1_height 15 = .ok (.imul, 1) := by decide +kernel
theorem dX1_height_16 : decode cX1_height 16 = .ok (.iadd, 1) := by decide +kernel
theorem dX1_height_17 : decode cX1_height 17 = .ok (.aload_n 0, 1) := by decide +kernel
theorem dX1_height_18 : decode cX1_height 18 = .ok (.getfield 18, 3) := by decide +kernel
theorem dX1_height_21 : decode cX1_height 21 = .ok (.iload_n 1, 1) := by decide +kernel
theorem dX1_height_22 : decode cX1_height 22 = .ok (.iaload, 1) := by decide +kernel
theorem dX1_height_23 : decode cX1_height 23 = .ok (.iload 4, 2) := by decide +kernel
theorem dX1_height_25 : decode cX1_height 25 = .ok (.imul, 1) := by decide +kernel
theorem dX1_height_26 : decode cX1_height 26 = .ok (.isub, 1) := by decide +kernel
theorem dX1_height_27 : decode cX1_height 27 = .ok (.ireturn, 1) := by decide +kernel
set_option maxRecDepth 20000 in
theorem ggX1_setBelow_X1_height : GoodIn wsX1_setBelow wsX1_height := goodIn_r _ [6, 7, 8, 9, 13, 14, 15, 16] (by decide +kernel) (by decide +kernel)
set_option maxRecDepth 20000 in
theorem gX1_setBelow_X1_height : GoodIn wsX1_setBelow (wsV RX1 29 RX1 yX1_height wsX1_height) := goodIn_app (goodIn_of _ (by decide +kernel)) ggX1_setBelow_X1_height
set_option maxRecDepth 20000 in
theorem ggX1_setBelow_X4_bit : GoodIn wsX1_setBelow wsX4_bit := goodIn_r _ [12] (by decide +kernel) (by decide +kernel)
set_option maxRecDepth 20000 in
theorem gX1_setBelow_X4_bit_n33 : GoodIn wsX1_setBelow (wsX4_bit) := ggX1_setBelow_X4_bit
theorem dX1_setBelow_0 : decode cX1_setBelow 0 = .ok (.iconst 0, 1) := by decide +kernel
theorem dX1_setBelow_1 : decode cX1_setBelow 1 = .ok (.istore 4, 2) := by decide +kernel
theorem dX1_setBelow_3 : decode cX1_setBelow 3 = .ok (.iconst 0, 1) := by decide +kernel
theorem dX1_setBelow_4 : decode cX1_setBelow 4 = .ok (.istore 5, 2) := by decide +kernel
theorem dX1_setBelow_6 : decode cX1_setBelow 6 = .ok (.iload 5, 2) := by decide +kernel
theorem dX1_setBelow_8 : decode cX1_setBelow 8 = .ok (.aload_n 0, 1) := by decide +kernel
theorem dX1_setBelow_9 : decode cX1_setBelow 9 = .ok (.getfield 21, 3) := by decide +kernel
theorem dX1_setBelow_12 : decode cX1_setBelow 12 = .ok (.if_icmp .ge 31, 3) := by decide +kernel
theorem dX1_setBelow_15 : decode cX1_setBelow 15 = .ok (.aload_n 0, 1) := by decide +kernel
theorem dX1_setBelow_16 : decode cX1_setBelow 16 = .ok (.iload 5, 2) := by decide +kernel
theorem dX1_setBelow_18 : decode cX1_setBelow 18 = .ok (.iload_n 1, 1) := by decide +kernel
theorem dX1_setBelow_19 : decode cX1_setBelow 19 = .ok (.iload_n 2, 1) := by decide +kernel
theorem dX1_setBelow_20 : decode cX1_setBelow 20 = .ok (.iload_n 3, 1) := by decide +kernel
theorem dX1_setBelow_21 : decode cX1_setBelow 21 = .ok (.invokevirtual 29, 3) := by decide +kernel
theorem dX1_setBelow_24 : decode cX1_setBelow 24 = .ok (.ifCond .le 13, 3) := by decide +kernel
theorem dX1_setBelow_27 : decode cX1_setBelow 27 = .ok (.iload 4, 2) := by decide +kernel
theorem dX1_setBelow_29 : decode cX1_setBelow 29 = .ok (.iload 5, 2) := by decide +kernel
theorem dX1_setBelow_31 : decode cX1_setBelow 31 = .ok (.invokestatic 33, 3) := by decide +kernel
theorem dX1_setBelow_34 : decode cX1_setBelow 34 = .ok (.ior, 1) := by decide +kernel
theorem dX1_setBelow_35 : decode cX1_setBelow 35 = .ok (.istore 4, 2) := by decide +kernel
theorem dX1_setBelow_37 : decode cX1_setBelow 37 = .ok (.iinc 5 1, 3) := by decide +kernel
theorem dX1_setBelow_40 : decode cX1_setBelow 40 = .ok (.goto (-34), 3) := by decide +kernel
theorem dX1_setBelow_43 : decode cX1_setBelow 43 = .ok (.iload 4, 2) := by decide +kernel
theorem dX1_setBelow_45 : decode cX1_setBelow 45 = .ok (.ireturn, 1) := by decide +kernel
set_option maxRecDepth 20000 in
theorem ggX1_pointsOnLowerOnes_X1_crossD : GoodIn wsX1_pointsOnLowerOnes wsX1_crossD := goodIn_r _ [5, 6, 7, 25, 26, 27, 28] (by decide +kernel) (by decide +kernel)
set_option maxRecDepth 20000 in
theorem gX1_pointsOnLowerOnes_X1_crossD : GoodIn wsX1_pointsOnLowerOnes (wsV RX1 37 RX1 yX1_crossD wsX1_crossD) := goodIn_app (goodIn_of _ (by decide +kernel)) ggX1_pointsOnLowerOnes_X1_crossD
set_option maxRecDepth 20000 in
theorem ggX1_pointsOnLowerOnes_X1_isCrossedBefore : GoodIn wsX1_pointsOnLowerOnes wsX1_isCrossedBefore := goodIn_r _ [11, 12, 13, 14, 4, 15, 16, 7, 17, 18, 19, 20, 6, 1, 2, 3, 5, 21, 22, 23, 24, 25, 26, 27, 28] (by decide +kernel) (by decide +kernel)
set_option maxRecDepth 20000 in
theorem gX1_pointsOnLowerOnes_X1_isCrossedBefore : GoodIn wsX1_pointsOnLowerOnes (wsV RX1 41 RX1 yX1_isCrossedBefore wsX1_isCrossedBefore) := goodIn_app (goodIn_of _ (by decide +kernel)) ggX1_pointsOnLowerOnes_X1_isCrossedBefore
theorem dX1_pointsOnLowerOnes_0 : decode cX1_pointsOnLowerOnes 0 = .ok (.iconst 0, 1) := by decide +kernel
theorem dX1_pointsOnLowerOnes_1 : decode cX1_pointsOnLowerOnes 1 = .ok (.istore_n 2, 1) := by decide +kernel
theorem dX1_pointsOnLowerOnes_2 : decode cX1_pointsOnLowerOnes 2 = .ok (.iconst 0, 1) := by decide +kernel
theorem dX1_pointsOnLowerOnes_3 : decode cX1_pointsOnLowerOnes 3 = .ok (.istore_n 3, 1) := by decide +kernel
theorem dX1_pointsOnLowerOnes_4 : decode cX1_pointsOnLowerOnes 4 = .ok (.iload_n 3, 1) := by decide +kernel
theorem dX1_pointsOnLowerOnes_5 : decode cX1_pointsOnLowerOnes 5 = .ok (.iload_n 1, 1) := by decide +kernel
theorem dX1_pointsOnLowerOnes_6 : decode cX1_pointsOnLowerOnes 6 = .ok (.if_icmp .ge 30, 3) := by decide +kernel
theorem dX1_pointsOnLowerOnes_9 : decode cX1_pointsOnLowerOnes 9 = .ok (.aload_n 0, 1) := by decide +kernel
theorem dX1_pointsOnLowerOnes_10 : decode cX1_pointsOnLowerOnes 10 = .ok (.iload_n 1, 1) := by decide +kernel
theorem dX1_pointsOnLowerOnes_11 : decode cX1_pointsOnLowerOnes 11 = .ok (.iload_n 3, 1) := by decide +kernel
theorem dX1_pointsOnLowerOnes_12 : decode cX1_pointsOnLowerOnes 12 = .ok (.invokevirtual 37, 3) := by decide +kernel
theorem dX1_pointsOnLowerOnes_15 : decode cX1_pointsOnLowerOnes 15 = .ok (.ifCond .eq 15, 3) := by decide +kernel
theorem dX1_pointsOnLowerOnes_18 : decode cX1_pointsOnLowerOnes 18 = .ok (.aload_n 0, 1) := by decide +kernel
theorem dX1_pointsOnLowerOnes_19 : decode cX1_pointsOnLowerOnes 19 = .ok (.iload_n 1, 1) := by decide +kernel
theorem dX1_pointsOnLowerOnes_20 : decode cX1_pointsOnLowerOnes 20 = .ok (.iload_n 3, 1) := by decide +kernel
theorem dX1_pointsOnLowerOnes_21 : decode cX1_pointsOnLowerOnes 21 = .ok (.invokevirtual 41, 3) := by decide +kernel
theorem dX1_pointsOnLowerOnes_24 : decode cX1_pointsOnLowerOnes 24 = .ok (.ifCond .ne 6, 3) := by decide +kernel
theorem dX1_pointsOnLowerOnes_27 : decode cX1_pointsOnLowerOnes 27 = .ok (.iinc 2 1, 3) := by decide +kernel
theorem dX1_pointsOnLowerOnes_30 : decode cX1_pointsOnLowerOnes 30 = .ok (.iinc 3 1, 3) := by decide +kernel
theorem dX1_pointsOnLowerOnes_33 : decode cX1_pointsOnLowerOnes 33 = .ok (.goto (-29), 3) := by decide +kernel
theorem dX1_pointsOnLowerOnes_36 : decode cX1_pointsOnLowerOnes 36 = .ok (.iload_n 2, 1) := by decide +kernel
theorem dX1_pointsOnLowerOnes_37 : decode cX1_pointsOnLowerOnes 37 = .ok (.ireturn, 1) := by decide +kernel
set_option maxRecDepth 20000 in
theorem ggX1_isCrossedBefore_X1_crossX : GoodIn wsX1_isCrossedBefore wsX1_crossX := goodIn_r _ [5, 6, 7, 21, 22, 23, 24] (by decide +kernel) (by decide +kernel)
set_option maxRecDepth 20000 in
theorem gX1_isCrossedBefore_X1_crossX : GoodIn wsX1_isCrossedBefore (wsV RX1 45 RX1 yX1_crossX wsX1_crossX) := goodIn_app (goodIn_of _ (by decide +kernel)) ggX1_isCrossedBefore_X1_crossX
set_option maxRecDepth 20000 in
theorem ggX1_isCrossedBefore_X1_crossY : GoodIn wsX1_isCrossedBefore wsX1_crossY := goodIn_r _ [11, 12, 6, 21, 22, 23, 24] (by decide +kernel) (by decide +kernel)
set_option maxRecDepth 20000 in
theorem gX1_isCrossedBefore_X1_crossY : GoodIn wsX1_isCrossedBefore (wsV RX1 48 RX1 yX1_crossY wsX1_crossY) := goodIn_app (goodIn_of _ (by decide +kernel)) ggX1_isCrossedBefore_X1_crossY
set_option maxRecDepth 20000 in
theorem ggX1_isCrossedBefore_X1_crossD : GoodIn wsX1_isCrossedBefore wsX1_crossD := goodIn_r _ [16, 12, 7, 21, 22, 23, 24] (by decide +kernel) (by decide +kernel)
set_option maxRecDepth 20000 in
theorem gX1_isCrossedBefore_X1_crossD : GoodIn wsX1_isCrossedBefore (wsV RX1 37 RX1 yX1_crossD wsX1_crossD) := goodIn_app (goodIn_of _ (by decide +kernel)) ggX1_isCrossedBefore_X1_crossD
set_option maxRecDepth 20000 in
theorem ggX1_isCrossedBefore_X1_height : GoodIn wsX1_isCrossedBefore wsX1_height := goodIn_r _ [20, 12, 7, 6, 21, 22, 23, 24] (by decide +kernel) (by decide +kernel)
set_option maxRecDepth 20000 in
theorem gX1_isCrossedBefore_X1_height : GoodIn wsX1_isCrossedBefore (wsV RX1 29 RX1 yX1_height wsX1_height) := goodIn_app (goodIn_of _ (by decide +kernel)) ggX1_isCrossedBefore_X1_height
theorem dX1_isCrossedBefore_0 : decode cX1_isCrossedBefore 0 = .ok (.aload_n 0, 1) := by decide +kernel
theorem dX1_isCrossedBefore_1 : decode cX1_isCrossedBefore 1 = .ok (.iload_n 1, 1) := by decide +kernel
theorem dX1_isCrossedBefore_2 : decode cX1_isCrossedBefore 2 = .ok (.iload_n 2, 1) := by decide +kernel
theorem dX1_isCrossedBefore_3 : decode cX1_isCrossedBefore 3 = .ok (.invokevirtual 45, 3) := by decide +kernel
theorem dX1_isCrossedBefore_6 : decode cX1_isCrossedBefore 6 = .ok (.istore_n 3, 1) := by decide +kernel
theorem dX1_isCrossedBefore_7 : decode cX1_isCrossedBefore 7 = .ok (.aload_n 0, 1) := by decide +kernel
theorem dX1_isCrossedBefore_8 : decode cX1_isCrossedBefore 8 = .ok (.iload_n 1, 1) := by decide +kernel
theorem dX1_isCrossedBefore_9 : decode cX1_isCrossedBefore 9 = .ok (.iload_n 2, 1) := by decide +kernel
theorem dX1_isCrossedBefore_10 : decode cX1_isCrossedBefore 10 = .ok (.invokevirtual 48, 3) := by decide +kernel
theorem dX1_isCrossedBefore_13 : decode cX1_isCrossedBefore 13 = .ok (.istore 4, 2) := by decide +kernel
theorem dX1_isCrossedBefore_15 : decode cX1_isCrossedBefore 15 = .ok (.aload_n 0, 1) := by decide +kernel
theorem dX1_isCrossedBefore_16 : decode cX1_isCrossedBefore 16 = .ok (.iload_n 1, 1) := by decide +kernel
theorem dX1_isCrossedBefore_17 : decode cX1_isCrossedBefore 17 = .ok (.iload_n 2, 1) := by decide +kernel
theorem dX1_isCrossedBefore_18 : decode cX1_isCrossedBefore 18 = .ok (.invokevirtual 37, 3) := by decide +kernel
theorem dX1_isCrossedBefore_21 : decode cX1_isCrossedBefore 21 = .ok (.istore 5, 2) := by decide +kernel
theorem dX1_isCrossedBefore_23 : decode cX1_isCrossedBefore 23 = .ok (.iconst 0, 1) := by decide +kernel
theorem dX1_isCrossedBefore_24 : decode cX1_isCrossedBefore 24 = .ok (.istore 6, 2) := by decide +kernel
theorem dX1_isCrossedBefore_26 : decode cX1_isCrossedBefore 26 = .ok (.iload 6, 2) := by decide +kernel
theorem dX1_isCrossedBefore_28 : decode cX1_isCrossedBefore 28 = .ok (.iload_n 2, 1) := by decide +kernel
theorem dX1_isCrossedBefore_29 : decode cX1_isCrossedBefore 29 = .ok (.if_icmp .ge 25, 3) := by decide +kernel
theorem dX1_isCrossedBefore_32 : decode cX1_isCrossedBefore 32 = .ok (.aload_n 0, 1) := by decide +kernel
theorem dX1_isCrossedBefore_33 : decode cX1_isCrossedBefore 33 = .ok (.iload 6, 2) := by decide +kernel
theorem dX1_isCrossedBefore_35 : decode cX1_isCrossedBefore 35 = .ok (.iload_n 3, 1) := by decide +kernel
theorem dX1_isCrossedBefore_36 : decode cX1_isCrossedBefore 36 = .ok (.iload 4, 2) := by decide +kernel
theorem dX1_isCrossedBefore_38 : decode cX1_isCrossedBefore 38 = .ok (.iload 5, 2) := by decide +kernel
theorem dX1_isCrossedBefore_40 : decode cX1_isCrossedBefore 40 = .ok (.invokevirtual 29, 3) := by decide +kernel
theorem dX1_isCrossedBefore_43 : decode cX1_isCrossedBefore 43 = .ok (.ifCond .ne 5, 3) := by decide +kernel
theorem dX1_isCrossedBefore_46 : decode cX1_isCrossedBefore 46 = .ok (.iconst 1, 1) := by decide +kernel
theorem dX1_isCrossedBefore_47 : decode cX1_isCrossedBefore 47 = .ok (.ireturn, 1) := by decide +kernel
theorem dX1_isCrossedBefore_48 : decode cX1_isCrossedBefore 48 = .ok (.iinc 6 1, 3) := by decide +kernel
theorem dX1_isCrossedBefore_51 : decode cX1_isCrossedBefore 51 = .ok (.goto (-25), 3) := by decide +kernel
theorem dX1_isCrossedBefore_54 : decode cX1_isCrossedBefore 54 = .ok (.iconst 0, 1) := by decide +kernel
theorem dX1_isCrossedBefore_55 : decode cX1_isCrossedBefore 55 = .ok (.ireturn, 1) := by decide +kernel
set_option maxRecDepth 20000 in
theorem ggX1_mirrored_X1_numberOf : GoodIn wsX1_mirrored wsX1_numberOf := goodIn_r _ [8, 9, 1, 2, 3, 10, 11, 12, 13] (by decide +kernel) (by decide +kernel)
set_option maxRecDepth 20000 in
theorem gX1_mirrored_X1_numberOf : GoodIn wsX1_mirrored (wsV RX1 51 RX1 yX1_numberOf wsX1_numberOf) := goodIn_app (goodIn_of _ (by decide +kernel)) ggX1_mirrored_X1_numberOf
theorem dX1_mirrored_0 : decode cX1_mirrored 0 = .ok (.aload_n 0, 1) := by decide +kernel
theorem dX1_mirrored_1 : decode cX1_mirrored 1 = .ok (.getfield 9, 3) := by decide +kernel
theorem dX1_mirrored_4 : decode cX1_mirrored 4 = .ok (.iload_n 2, 1) := by decide +kernel
theorem dX1_mirrored_5 : decode cX1_mirrored 5 = .ok (.iaload, 1) := by decide +kernel
theorem dX1_mirrored_6 : decode cX1_mirrored 6 = .ok (.aload_n 0, 1) := by decide +kernel
theorem dX1_mirrored_7 : decode cX1_mirrored 7 = .ok (.getfield 9, 3) := by decide +kernel
theorem dX1_mirrored_10 : decode cX1_mirrored 10 = .ok (.iload_n 2, 1) := by decide +kernel
theorem dX1_mirrored_11 : decode cX1_mirrored 11 = .ok (.iaload, 1) := by decide +kernel
theorem dX1_mirrored_12 : decode cX1_mirrored 12 = .ok (.imul, 1) := by decide +kernel
theorem dX1_mirrored_13 : decode cX1_mirrored 13 = .ok (.aload_n 0, 1) := by decide +kernel
theorem dX1_mirrored_14 : decode cX1_mirrored 14 = .ok (.getfield 15, 3) := by decide +kernel
theorem dX1_mirrored_17 : decode cX1_mirrored 17 = .ok (.iload_n 2, 1) := by decide +kernel
theorem dX1_mirrored_18 : decode cX1_mirrored 18 = .ok (.iaload, 1) := by decide +kernel
theorem dX1_mirrored_19 : decode cX1_mirrored 19 = .ok (.aload_n 0, 1) := by decide +kernel
theorem dX1_mirrored_20 : decode cX1_mirrored 20 = .ok (.getfield 15, 3) := by decide +kernel
theorem dX1_mirrored_23 : decode cX1_mirrored 23 = .ok (.iload_n 2, 1) := by decide +kernel
theorem dX1_mirrored_24 : decode cX1_mirrored 24 = .ok (.iaload, 1) := by decide +kernel
theorem dX1_mirrored_25 : decode cX1_mirrored 25 = .ok (.imul, 1) := by decide +kernel
theorem dX1_mirrored_26 : decode cX1_mirrored 26 = .ok (.iadd, 1) := by decide +kernel
theorem dX1_mirrored_27 : decode cX1_mirrored 27 = .ok (.istore_n 3, 1) := by decide +kernel
theorem dX1_mirrored_28 : decode cX1_mirrored 28 = .ok (.iconst 2, 1) := by decide +kernel
theorem dX1_mirrored_29 : decode cX1_mirrored 29 = .ok (.aload_n 0, 1) := by decide +kernel
theorem dX1_mirrored_30 : decode cX1_mirrored 30 = .ok (.getfield 9, 3) := by decide +kernel
theorem dX1_mirrored_33 : decode cX1_mirrored 33 = .ok (.iload_n 1, 1) := by decide +kernel
theorem dX1_mirrored_34 : decode cX1_mirrored 34 = .ok (.iaload, 1) := by decide +kernel
theorem dX1_mirrored_35 : decode cX1_mirrored 35 = .ok (.aload_n 0, 1) := by decide +kernel
theorem dX1_mirrored_36 : decode cX1_mirrored 36 = .ok (.getfield 9, 3) := by decide +kernel
theorem dX1_mirrored_39 : decode cX1_mirrored 39 = .ok (.iload_n 2, 1) := by decide +kernel
theorem dX1_mirrored_40 : decode cX1_mirrored 40 = .ok (.iaload, 1) := by decide +kernel
theorem dX1_mirrored_41 : decode cX1_mirrored 41 = .ok (.imul, 1) := by decide +kernel
theorem dX1_mirrored_42 : decode cX1_mirrored 42 = .ok (.aload_n 0, 1) := by decide +kernel
theorem dX1_mirrored_43 : decode cX1_mirrored 43 = .ok (.getfield 15, 3) := by decide +kernel
theorem dX1_mirrored_46 : decode cX1_mirrored 46 = .ok (.iload_n 1, 1) := by decide +kernel
theorem dX1_mirrored_47 : decode cX1_mirrored 47 = .ok (.iaload, 1) := by decide +kernel
theorem dX1_mirrored_48 : decode cX1_mirrored 48 = .ok (.aload_n 0, 1) := by decide +kernel
theorem dX1_mirrored_49 : decode cX1_mirrored 49 = .ok (.getfield 15, 3) := by decide +kernel
theorem dX1_mirrored_52 : decode cX1_mirrored 52 = .ok (.iload_n 2, 1) := by decide +kernel
theorem dX1_mirrored_53 : decode cX1_mirrored 53 = .ok (.iaload, 1) := by decide +kernel
theorem dX1_mirrored_54 : decode cX1_mirrored 54 = .ok (.imul, 1) := by decide +kernel
theorem dX1_mirrored_55 : decode cX1_mirrored 55 = .ok (.iadd, 1) := by decide +kernel
theorem dX1_mirrored_56 : decode cX1_mirrored 56 = .ok (.imul, 1) := by decide +kernel
theorem dX1_mirrored_57 : decode cX1_mirrored 57 = .ok (.istore 4, 2) := by decide +kernel
theorem dX1_mirrored_59 : decode cX1_mirrored 59 = .ok (.aload_n 0, 1) := by decide +kernel
theorem dX1_mirrored_60 : decode cX1_mirrored 60 = .ok (.iload_n 3, 1) := by decide +kernel
theorem dX1_mirrored_61 : decode cX1_mirrored 61 = .ok (.aload_n 0, 1) := by decide +kernel
theorem dX1_mirrored_62 : decode cX1_mirrored 62 = .ok (.getfield 9, 3) := by decide +kernel
theorem dX1_mirrored_65 : decode cX1_mirrored 65 = .ok (.iload_n 1, 1) := by decide +kernel
theorem dX1_mirrored_66 : decode cX1_mirrored 66 = .ok (.iaload, 1) := by decide +kernel
theorem dX1_mirrored_67 : decode cX1_mirrored 67 = .ok (.imul, 1) := by decide +kernel
theorem dX1_mirrored_68 : decode cX1_mirrored 68 = .ok (.iload 4, 2) := by decide +kernel
theorem dX1_mirrored_70 : decode cX1_mirrored 70 = .ok (.aload_n 0, 1) := by decide +kernel
theorem dX1_mirrored_71 : decode cX1_mirrored 71 = .ok (.getfield 9, 3) := by decide +kernel
theorem dX1_mirrored_74 : decode cX1_mirrored 74 = .ok (.iload_n 2, 1) := by decide +kernel
theorem dX1_mirrored_75 : decode cX1_mirrored 75 = .ok (.iaload, 1) := by decide +kernel
theorem dX1_mirrored_76 : decode cX1_mirrored 76 = .ok (.imul, 1) := by decide +kernel
theorem dX1_mirrored_77 : decode cX1_mirrored 77 = .ok (.isub, 1) := by decide +kernel
theorem dX1_mirrored_78 : decode cX1_mirrored 78 = .ok (.iload_n 3, 1) := by decide +kernel
theorem dX1_mirrored_79 : decode cX1_mirrored 79 = .ok (.aload_n 0, 1) := by decide +kernel
theorem dX1_mirrored_80 : decode cX1_mirrored 80 = .ok (.getfield 15, 3) := by decide +kernel
theorem dX1_mirrored_83 : decode cX1_mirrored 83 = .ok (.iload_n 1, 1) := by decide +kernel
theorem dX1_mirrored_84 : decode cX1_mirrored 84 = .ok (.iaload, 1) := by decide +kernel
theorem dX1_mirrored_85 : decode cX1_mirrored 85 = .ok (.imul, 1) := by decide +kernel
theorem dX1_mirrored_86 : decode cX1_mirrored 86 = .ok (.iload 4, 2) := by decide +kernel
theorem dX1_mirrored_88 : decode cX1_mirrored 88 = .ok (.aload_n 0, 1) := by decide +kernel
theorem dX1_mirrored_89 : decode cX1_mirrored 89 = .ok (.getfield 15, 3) := by decide +kernel
theorem dX1_mirrored_92 : decode cX1_mirrored 92 = .ok (.iload_n 2, 1) := by decide +kernel
theorem dX1_mirrored_93 : decode cX1_mirrored 93 = .ok (.iaload, 1) := by decide +kernel
theorem dX1_mirrored_94 : decode cX1_mirrored 94 = .ok (.imul, 1) := by decide +kernel
theorem dX1_mirrored_95 : decode cX1_mirrored 95 = .ok (.isub, 1) := by decide +kernel
theorem dX1_mirrored_96 : decode cX1_mirrored 96 = .ok (.iload_n 3, 1) := by decide +kernel
theorem dX1_mirrored_97 : decode cX1_mirrored 97 = .ok (.aload_n 0, 1) := by decide +kernel
theorem dX1_mirrored_98 : decode cX1_mirrored 98 = .ok (.getfield 18, 3) := by decide +kernel
theorem dX1_mirrored_101 : decode cX1_mirrored 101 = .ok (.iload_n 1, 1) := by decide +kernel
theorem dX1_mirrored_102 : decode cX1_mirrored 102 = .ok (.iaload, 1) := by decide +kernel
theorem dX1_mirrored_103 : decode cX1_mirrored 103 = .ok (.imul, 1) := by decide +kernel
theorem dX1_mirrored_104 : decode cX1_mirrored 104 = .ok (.iload 4, 2) := by decide +kernel
theorem dX1_mirrored_106 : decode cX1_mirrored 106 = .ok (.aload_n 0, 1) := by decide +kernel
theorem dX1_mirrored_107 : decode cX1_mirrored 107 = .ok (.getfield 18, 3) := by decide +kernel
theorem dX1_mirrored_110 : decode cX1_mirrored 110 = .ok (.iload_n 2, 1) := by decide +kernel
theorem dX1_mirrored_111 : decode cX1_mirrored 111 = .ok (.iaload, 1) := by decide +kernel
theorem dX1_mirrored_112 : decode cX1_mirrored 112 = .ok (.imul, 1) := by decide +kernel
theorem dX1_mirrored_113 : decode cX1_mirrored 113 = .ok (.isub, 1) := by decide +kernel
theorem dX1_mirrored_114 : decode cX1_mirrored 114 = .ok (.invokevirtual 51, 3) := by decide +kernel
theorem dX1_mirrored_117 : decode cX1_mirrored 117 = .ok (.ireturn, 1) := by decide +kernel
set_option maxRecDepth 20000 in
theorem ggX1_staysIn_X4_isIn : GoodIn wsX1_staysIn wsX4_isIn := goodIn_r _ [6, 7, 8, 5, 9] (by decide +kernel) (by decide +kernel)
set_option maxRecDepth 20000 in
theorem gX1_staysIn_X4_isIn_n55 : GoodIn wsX1_staysIn (wsX4_isIn) := ggX1_staysIn_X4_isIn
theorem dX1_staysIn_0 : decode cX1_staysIn 0 = .ok (.iconst 0, 1) := by decide +kernel
theorem dX1_staysIn_1 : decode cX1_staysIn 1 = .ok (.istore 4, 2) := by decide +kernel
theorem dX1_staysIn_3 : decode cX1_staysIn 3 = .ok (.iload 4, 2) := by decide +kernel
theorem dX1_staysIn_5 : decode cX1_staysIn 5 = .ok (.aload_n 0, 1) := by decide +kernel
theorem dX1_staysIn_6 : decode cX1_staysIn 6 = .ok (.getfield 21, 3) := by decide +kernel
theorem dX1_staysIn_9 : decode cX1_staysIn 9 = .ok (.if_icmp .ge 54, 3) := by decide +kernel
theorem dX1_staysIn_12 : decode cX1_staysIn 12 = .ok (.aload_n 0, 1) := by decide +kernel
theorem dX1_staysIn_13 : decode cX1_staysIn 13 = .ok (.getfield 9, 3) := by decide +kernel
theorem dX1_staysIn_16 : decode cX1_staysIn 16 = .ok (.iload 4, 2) := by decide +kernel
theorem dX1_staysIn_18 : decode cX1_staysIn 18 = .ok (.iaload, 1) := by decide +kernel
theorem dX1_staysIn_19 : decode cX1_staysIn 19 = .ok (.iload_n 2, 1) := by decide +kernel
theorem dX1_staysIn_20 : decode cX1_staysIn 20 = .ok (.imul, 1) := by decide +kernel
theorem dX1_staysIn_21 : decode cX1_staysIn 21 = .ok (.aload_n 0, 1) := by decide +kernel
theorem dX1_staysIn_22 : decode cX1_staysIn 22 = .ok (.getfield 15, 3) := by decide +kernel
theorem dX1_staysIn_25 : decode cX1_staysIn 25 = .ok (.iload 4, 2) := by decide +kernel
theorem dX1_staysIn_27 : decode cX1_staysIn 27 = .ok (.iaload, 1) := by decide +kernel
theorem dX1_staysIn_28 : decode cX1_staysIn 28 = .ok (.iload_n 3, 1) := by decide +kernel
theorem dX1_staysIn_29 : decode cX1_staysIn 29 = .ok (.imul, 1) := by decide +kernel
theorem dX1_staysIn_30 : decode cX1_staysIn 30 = .ok (.iadd, 1) := by decide +kernel
theorem dX1_staysIn_31 : decode cX1_staysIn 31 = .ok (.istore 5, 2) := by decide +kernel
theorem dX1_staysIn_33 : decode cX1_staysIn 33 = .ok (.iload_n 1, 1) := by decide +kernel
theorem dX1_staysIn_34 : decode cX1_staysIn 34 = .ok (.iload 4, 2) := by decide +kernel
theorem dX1_staysIn_36 : decode cX1_staysIn 36 = .ok (.invokestatic 55, 3) := by decide +kernel
theorem dX1_staysIn_39 : decode cX1_staysIn 39 = .ok (.ifCond .eq 11, 3) := by decide +kernel
theorem dX1_staysIn_42 : decode cX1_staysIn 42 = .ok (.iload 5, 2) := by decide +kernel
theorem dX1_staysIn_44 : decode cX1_staysIn 44 = .ok (.ifCond .ge 13, 3) := by decide +kernel
theorem dX1_staysIn_47 : decode cX1_staysIn 47 = .ok (.goto 8, 3) := by decide +kernel
theorem dX1_staysIn_50 : decode cX1_staysIn 50 = .ok (.iload 5, 2) := by decide +kernel
theorem dX1_staysIn_52 : decode cX1_staysIn 52 = .ok (.ifCond .le 5, 3) := by decide +kernel
theorem dX1_staysIn_55 : decode cX1_staysIn 55 = .ok (.iconst 0, 1) := by decide +kernel
theorem dX1_staysIn_56 : decode cX1_staysIn 56 = .ok (.ireturn, 1) := by decide +kernel
theorem dX1_staysIn_57 : decode cX1_staysIn 57 = .ok (.iinc 4 1, 3) := by decide +kernel
theorem dX1_staysIn_60 : decode cX1_staysIn 60 = .ok (.goto (-57), 3) := by decide +kernel
theorem dX1_staysIn_63 : decode cX1_staysIn 63 = .ok (.iconst 1, 1) := by decide +kernel
theorem dX1_staysIn_64 : decode cX1_staysIn 64 = .ok (.ireturn, 1) := by decide +kernel
theorem dX2_init_0 : decode cX2_init 0 = .ok (.aload_n 0, 1) := by decide +kernel
theorem dX2_init_1 : decode cX2_init 1 = .ok (.invokespecial 3, 3) := by decide +kernel
theorem dX2_init_4 : decode cX2_init 4 = .ok (.aload_n 0, 1) := by decide +kernel
theorem dX2_init_5 : decode cX2_init 5 = .ok (.bipush 36, 2) := by decide +kernel
theorem dX2_init_7 : decode cX2_init 7 = .ok (.newarray .int, 2) := by decide +kernel
theorem dX2_init_9 : decode cX2_init 9 = .ok (.putfield 9, 3) := by decide +kernel
theorem dX2_init_12 : decode cX2_init 12 = .ok (.aload_n 0, 1) := by decide +kernel
theorem dX2_init_13 : decode cX2_init 13 = .ok (.bipush 36, 2) := by decide +kernel
theorem dX2_init_15 : decode cX2_init 15 = .ok (.newarray .int, 2) := by decide +kernel
theorem dX2_init_17 : decode cX2_init 17 = .ok (.putfield 15, 3) := by decide +kernel
theorem dX2_init_20 : decode cX2_init 20 = .ok (.aload_n 0, 1) := by decide +kernel
theorem dX2_init_21 : decode cX2_init 21 = .ok (.bipush 36, 2) := by decide +kernel
theorem dX2_init_23 : decode cX2_init 23 = .ok (.newarray .int, 2) := by decide +kernel
theorem dX2_init_25 : decode cX2_init 25 = .ok (.putfield 18, 3) := by decide +kernel
theorem dX2_init_28 : decode cX2_init 28 = .ok (.aload_n 0, 1) := by decide +kernel
theorem dX2_init_29 : decode cX2_init 29 = .ok (.bipush 36, 2) := by decide +kernel
theorem dX2_init_31 : decode cX2_init 31 = .ok (.newarray .int, 2) := by decide +kernel
theorem dX2_init_33 : decode cX2_init 33 = .ok (.putfield 21, 3) := by decide +kernel
theorem dX2_init_36 : decode cX2_init 36 = .ok (.aload_n 0, 1) := by decide +kernel
theorem dX2_init_37 : decode cX2_init 37 = .ok (.bipush 36, 2) := by decide +kernel
theorem dX2_init_39 : decode cX2_init 39 = .ok (.newarray .int, 2) := by decide +kernel
theorem dX2_init_41 : decode cX2_init 41 = .ok (.putfield 24, 3) := by decide +kernel
theorem dX2_init_44 : decode cX2_init 44 = .ok (.aload_n 0, 1) := by decide +kernel
theorem dX2_init_45 : decode cX2_init 45 = .ok (.iconst 0, 1) := by decide +kernel
theorem dX2_init_46 : decode cX2_init 46 = .ok (.putfield 27, 3) := by decide +kernel
theorem dX2_init_49 : decode cX2_init 49 = .ok (.return_, 1) := by decide +kernel
theorem dX2_count_0 : decode cX2_count 0 = .ok (.aload_n 0, 1) := by decide +kernel
theorem dX2_count_1 : decode cX2_count 1 = .ok (.getfield 27, 3) := by decide +kernel
theorem dX2_count_4 : decode cX2_count 4 = .ok (.ireturn, 1) := by decide +kernel
theorem dX2_x_0 : decode cX2_x 0 = .ok (.aload_n 0, 1) := by decide +kernel
theorem dX2_x_1 : decode cX2_x 1 = .ok (.getfield 9, 3) := by decide +kernel
theorem dX2_x_4 : decode cX2_x 4 = .ok (.iload_n 1, 1) := by decide +kernel
theorem dX2_x_5 : decode cX2_x 5 = .ok (.iaload, 1) := by decide +kernel
theorem dX2_x_6 : decode cX2_x 6 = .ok (.ireturn, 1) := by decide +kernel
theorem dX2_y_0 : decode cX2_y 0 = .ok (.aload_n 0, 1) := by decide +kernel
theorem dX2_y_1 : decode cX2_y 1 = .ok (.getfield 15, 3) := by decide +kernel
theorem dX2_y_4 : decode cX2_y 4 = .ok (.iload_n 1, 1) := by decide +kernel
theorem dX2_y_5 : decode cX2_y 5 = .ok (.iaload, 1) := by decide +kernel
theorem dX2_y_6 : decode cX2_y 6 = .ok (.ireturn, 1) := by decide +kernel
theorem dX2_d_0 : decode cX2_d 0 = .ok (.aload_n 0, 1) := by decide +kernel
theorem dX2_d_1 : decode cX2_d 1 = .ok (.getfield 18, 3) := by decide +kernel
theorem dX2_d_4 : decode cX2_d 4 = .ok (.iload_n 1, 1) := by decide +kernel
theorem dX2_d_5 : decode cX2_d 5 = .ok (.iaload, 1) := by decide +kernel
theorem dX2_d_6 : decode cX2_d 6 = .ok (.ireturn, 1) := by decide +kernel
theorem dX2_through_0 : decode cX2_through 0 = .ok (.aload_n 0, 1) := by decide +kernel
theorem dX2_through_1 : decode cX2_through 1 = .ok (.getfield 21, 3) := by decide +kernel
theorem dX2_through_4 : decode cX2_through 4 = .ok (.iload_n 1, 1) := by decide +kernel
theorem dX2_through_5 : decode cX2_through 5 = .ok (.iaload, 1) := by decide +kernel
theorem dX2_through_6 : decode cX2_through 6 = .ok (.ireturn, 1) := by decide +kernel
set_option maxRecDepth 20000 in
theorem ggX2_find_X1_count : GoodIn wsX2_find wsX1_count := goodIn_r _ [10, 11, 65, 66, 67, 68] (by decide +kernel) (by decide +kernel)
set_option maxRecDepth 20000 in
theorem gX2_find_X1_count : GoodIn wsX2_find (wsV RX2 31 RX1 yX1_count wsX1_count) := goodIn_app (goodIn_of _ (by decide +kernel)) ggX2_find_X1_count
set_option maxRecDepth 20000 in
theorem ggX2_find_X1_crossD : GoodIn wsX2_find wsX1_crossD := goodIn_r _ [15, 16, 17, 65, 66, 67, 68] (by decide +kernel) (by decide +kernel)
set_option maxRecDepth 20000 in
theorem gX2_find_X1_crossD : GoodIn wsX2_find (wsV RX2 36 RX1 yX1_crossD wsX1_crossD) := goodIn_app (goodIn_of _ (by decide +kernel)) ggX2_find_X1_crossD
set_option maxRecDepth 20000 in
theorem ggX2_find_X4_bit : GoodIn wsX2_find wsX4_bit := goodIn_r _ [20] (by decide +kernel) (by decide +kernel)
set_option maxRecDepth 20000 in
theorem gX2_find_X4_bit_n40 : GoodIn wsX2_find (wsX4_bit) := ggX2_find_X4_bit
set_option maxRecDepth 20000 in
theorem ggX2_find_X1_crossX : GoodIn wsX2_find wsX1_crossX := goodIn_r _ [24, 25, 17, 65, 66, 67, 68] (by decide +kernel) (by decide +kernel)
set_option maxRecDepth 20000 in
theorem gX2_find_X1_crossX : GoodIn wsX2_find (wsV RX2 44 RX1 yX1_crossX wsX1_crossX) := goodIn_app (goodIn_of _ (by decide +kernel)) ggX2_find_X1_crossX
set_option maxRecDepth 20000 in
theorem ggX2_find_X1_crossY : GoodIn wsX2_find wsX1_crossY := goodIn_r _ [29, 16, 25, 65, 66, 67, 68] (by decide +kernel) (by decide +kernel)
set_option maxRecDepth 20000 in
theorem gX2_find_X1_crossY : GoodIn wsX2_find (wsV RX2 47 RX1 yX1_crossY wsX1_crossY) := goodIn_app (goodIn_of _ (by decide +kernel)) ggX2_find_X1_crossY
set_option maxRecDepth 20000 in
theorem ggX2_find_X2_enter : GoodIn wsX2_find wsX2_enter := goodIn_r _ [34, 1, 35, 3, 4, 5, 36, 37, 33, 38, 39, 40, 41, 42, 43, 44, 45, 46, 47, 48, 49, 50, 59, 60, 61, 62, 63, 64] (by decide +kernel) (by decide +kernel)
set_option maxRecDepth 20000 in
theorem gX2_find_X2_enter : GoodIn wsX2_find (wsV RX2 50 RX2 yX2_enter wsX2_enter) := goodIn_app (goodIn_of _ (by decide +kernel)) ggX2_find_X2_enter
set_option maxRecDepth 20000 in
theorem ggX2_find_X1_setBelow : GoodIn wsX2_find wsX1_setBelow := goodIn_r _ [54, 11, 55, 56, 57, 9, 58, 16, 17, 25, 18, 19, 20, 65, 66, 67, 68] (by decide +kernel) (by decide +kernel)
set_option maxRecDepth 20000 in
theorem gX2_find_X1_setBelow : GoodIn wsX2_find (wsV RX2 54 RX1 yX1_setBelow wsX1_setBelow) := goodIn_app (goodIn_of _ (by decide +kernel)) ggX2_find_X1_setBelow
theorem dX2_find_0 : decode cX2_find 0 = .ok (.aload_n 0, 1) := by decide +kernel
theorem dX2_find_1 : decode cX2_find 1 = .ok (.iconst 0, 1) := by decide +kernel
theorem dX2_find_2 : decode cX2_find 2 = .ok (.putfield 27, 3) := by decide +kernel
theorem dX2_find_5 : decode cX2_find 5 = .ok (.iconst 0, 1) := by decide +kernel
theorem dX2_find_6 : decode cX2_find 6 = .ok (.istore_n 2, 1) := by decide +kernel
theorem dX2_find_7 : decode cX2_find 7 = .ok (.iload_n 2, 1) := by decide +kernel
theorem dX2_find_8 : decode cX2_find 8 = .ok (.aload_n 1, 1) := by decide +kernel
theorem dX2_find_9 : decode cX2_find 9 = .ok (.invokevirtual 31, 3) := by decide +kernel
theorem dX2_find_12 : decode cX2_find 12 = .ok (.if_icmp .ge 92, 3) := by decide +kernel
theorem dX2_find_15 : decode cX2_find 15 = .ok (.iload_n 2, 1) := by decide +kernel
theorem dX2_find_16 : decode cX2_find 16 = .ok (.iconst 1, 1) := by decide +kernel
theorem dX2_find_17 : decode cX2_find 17 = .ok (.iadd, 1) := by decide +kernel
theorem dX2_find_18 : decode cX2_find 18 = .ok (.istore_n 3, 1) := by decide +kernel
theorem dX2_find_19 : decode cX2_find 19 = .ok (.iload_n 3, 1) := by decide +kernel
theorem dX2_find_20 : decode cX2_find 20 = .ok (.aload_n 1, 1) := by decide +kernel
theorem dX2_find_21 : decode cX2_find 21 = .ok (.invokevirtual 31, 3) := by decide +kernel
theorem dX2_find_24 : decode cX2_find 24 = .ok (.if_icmp .ge 74, 3) := by decide +kernel
theorem dX2_find_27 : decode cX2_find 27 = .ok (.aload_n 1, 1) := by decide +kernel
theorem dX2_find_28 : decode cX2_find 28 = .ok (.iload_n 2, 1) := by decide +kernel
theorem dX2_find_29 : decode cX2_find 29 = .ok (.iload_n 3, 1) := by decide +kernel
theorem dX2_find_30 : decode cX2_find 30 = .ok (.invokevirtual 36, 3) := by decide +kernel
theorem dX2_find_33 : decode cX2_find 33 = .ok (.istore 4, 2) := by decide +kernel
theorem dX2_find_35 : decode cX2_find 35 = .ok (.iload 4, 2) := by decide +kernel
theorem dX2_find_37 : decode cX2_find 37 = .ok (.ifCond .eq 55, 3) := by decide +kernel
theorem dX2_find_40 : decode cX2_find 40 = .ok (.iload 4, 2) := by decide +kernel
theorem dX2_find_42 : decode cX2_find 42 = .ok (.ifCond .ge 7, 3) := by decide +kernel
theorem dX2_find_45 : decode cX2_find 45 = .ok (.iconst (-1), 1) := by decide +kernel
theorem dX2_find_46 : decode cX2_find 46 = .ok (.goto 4, 3) := by decide +kernel
theorem dX2_find_49 : decode cX2_find 49 = .ok (.iconst 1, 1) := by decide +kernel
theorem dX2_find_50 : decode cX2_find 50 = .ok (.istore 5, 2) := by decide +kernel
theorem dX2_find_52 : decode cX2_find 52 = .ok (.iload_n 2, 1) := by decide +kernel
theorem dX2_find_53 : decode cX2_find 53 = .ok (.invokestatic 40, 3) := by decide +kernel
theorem dX2_find_56 : decode cX2_find 56 = .ok (.iload_n 3, 1) := by decide +kernel
theorem dX2_find_57 : decode cX2_find 57 = .ok (.invokestatic 40, 3) := by decide +kernel
theorem dX2_find_60 : decode cX2_find 60 = .ok (.ior, 1) := by decide +kernel
theorem dX2_find_61 : decode cX2_find 61 = .ok (.istore 6, 2) := by decide +kernel
theorem dX2_find_63 : decode cX2_find 63 = .ok (.aload_n 0, 1) := by decide +kernel
theorem dX2_find_64 : decode cX2_find 64 = .ok (.iload 5, 2) := by decide +kernel
theorem dX2_find_66 : decode cX2_find 66 = .ok (.aload_n 1, 1) := by decide +kernel
theorem dX2_find_67 : decode cX2_find 67 = .ok (.iload_n 2, 1) := by decide +kernel
theorem dX2_find_68 : decode cX2_find 68 = .ok (.iload_n 3, 1) := by decide +kernel
theorem dX2_find_69 : decode cX2_find 69 = .ok (.invokevirtual 44, 3) := by decide +kernel
theorem dX2_find_72 : decode cX2_find 72 = .ok (.imul, 1) := by decide +kernel
theorem dX2_find_73 : decode cX2_find 73 = .ok (.iload 5, 2) := by decide +kernel
theorem dX2_find_75 : decode cX2_find 75 = .ok (.aload_n 1, 1) := by decide +kernel
theorem dX2_find_76 : decode cX2_find 76 = .ok (.iload_n 2, 1) := by decide +kernel
theorem dX2_find_77 : decode cX2_find 77 = .ok (.iload_n 3, 1) := by decide +kernel
theorem dX2_find_78 : decode cX2_find 78 = .ok (.invokevirtual 47, 3) := by decide +kernel
theorem dX2_find_81 : decode cX2_find 81 = .ok (.imul, 1) := by decide +kernel
theorem dX2_find_82 : decode cX2_find 82 = .ok (.iload 5, 2) := by decide +kernel
theorem dX2_find_84 : decode cX2_find 84 = .ok (.iload 4, 2) := by decide +kernel
theorem dX2_find_86 : decode cX2_find 86 = .ok (.imul, 1) := by decide +kernel
theorem dX2_find_87 : decode cX2_find 87 = .ok (.iload 6, 2) := by decide +kernel
theorem dX2_find_89 : decode cX2_find 89 = .ok (.invokevirtual 50, 3) := by decide +kernel
theorem dX2_find_92 : decode cX2_find 92 = .ok (.iinc 3 1, 3) := by decide +kernel
theorem dX2_find_95 : decode cX2_find 95 = .ok (.goto (-76), 3) := by decide +kernel
theorem dX2_find_98 : decode cX2_find 98 = .ok (.iinc 2 1, 3) := by decide +kernel
theorem dX2_find_101 : decode cX2_find 101 = .ok (.goto (-94), 3) := by decide +kernel
theorem dX2_find_104 : decode cX2_find 104 = .ok (.iconst 0, 1) := by decide +kernel
theorem dX2_find_105 : decode cX2_find 105 = .ok (.istore_n 2, 1) := by decide +kernel
theorem dX2_find_106 : decode cX2_find 106 = .ok (.iload_n 2, 1) := by decide +kernel
theorem dX2_find_107 : decode cX2_find 107 = .ok (.aload_n 0, 1) := by decide +kernel
theorem dX2_find_108 : decode cX2_find 108 = .ok (.getfield 27, 3) := by decide +kernel
theorem dX2_find_111 : decode cX2_find 111 = .ok (.if_icmp .ge 37, 3) := by decide +kernel
theorem dX2_find_114 : decode cX2_find 114 = .ok (.aload_n 0, 1) := by decide +kernel
theorem dX2_find_115 : decode cX2_find 115 = .ok (.getfield 24, 3) := by decide +kernel
theorem dX2_find_118 : decode cX2_find 118 = .ok (.iload_n 2, 1) := by decide +kernel
theorem dX2_find_119 : decode cX2_find 119 = .ok (.aload_n 1, 1) := by decide +kernel
theorem dX2_find_120 : decode cX2_find 120 = .ok (.aload_n 0, 1) := by decide +kernel
theorem dX2_find_121 : decode cX2_find 121 = .ok (.getfield 9, 3) := by decide +kernel
theorem dX2_find_124 : decode cX2_find 124 = .ok (.iload_n 2, 1) := by decide +kernel
theorem dX2_find_125 : decode cX2_find 125 = .ok (.iaload, 1) := by decide +kernel
theorem dX2_find_126 : decode cX2_find 126 = .ok (.aload_n 0, 1) := by decide +kernel
theorem dX2_find_127 : decode cX2_find 127 = .ok (.getfield 15, 3) := by decide +kernel
theorem dX2_find_130 : decode cX2_find 130 = .ok (.iload_n 2, 1) := by decide +kernel
theorem dX2_find_131 : decode cX2_find 131 = .ok (.iaload, 1) := by decide +kernel
theorem dX2_find_132 : decode cX2_find 132 = .ok (.aload_n 0, 1) := by decide +kernel
theorem dX2_find_133 : decode cX2_find 133 = .ok (.getfield 18, 3) := by decide +kernel
theorem dX2_find_136 : decode cX2_find 136 = .ok (.iload_n 2, 1) := by decide +kernel
theorem dX2_find_137 : decode cX2_find 137 = .ok (.iaload, 1) := by decide +kernel
theorem dX2_find_138 : decode cX2_find 138 = .ok (.invokevirtual 54, 3) := by decide +kernel
theorem dX2_find_141 : decode cX2_find 141 = .ok (.iastore, 1) := by decide +kernel
theorem dX2_find_142 : decode cX2_find 142 = .ok (.iinc 2 1, 3) := by decide +kernel
theorem dX2_find_145 : decode cX2_find 145 = .ok (.goto (-39), 3) := by decide +kernel
theorem dX2_find_148 : decode cX2_find 148 = .ok (.return_, 1) := by decide +kernel
set_option maxRecDepth 20000 in
theorem ggX2_enter_X2_commonDivisor : GoodIn wsX2_enter wsX2_commonDivisor := goodIn_r _ [9, 10, 11, 12, 13] (by decide +kernel) (by decide +kernel)
set_option maxRecDepth 20000 in
theorem gX2_enter_X2_commonDivisor : GoodIn wsX2_enter (va_wsS RX2 58 yX2_commonDivisor wsX2_commonDivisor) := goodIn_app (goodIn_of _ (by decide +kernel)) ggX2_enter_X2_commonDivisor
set_option maxRecDepth 20000 in
theorem ggX2_enter_X2_order : GoodIn wsX2_enter wsX2_order := goodIn_r _ [17, 3, 5, 4, 22, 23, 24, 25, 26, 27] (by decide +kernel) (by decide +kernel)
set_option maxRecDepth 20000 in
theorem gX2_enter_X2_order : GoodIn wsX2_enter (wsV RX2 61 RX2 yX2_order wsX2_order) := goodIn_app (goodIn_of _ (by decide +kernel)) ggX2_enter_X2_order
set_option maxRecDepth 20000 in
theorem ggX2_enter_X2_makeWay : GoodIn wsX2_enter wsX2_makeWay := goodIn_r _ [21, 1, 3, 4, 5, 2, 22, 23, 24, 25, 26, 27] (by decide +kernel) (by decide +kernel)
set_option maxRecDepth 20000 in
theorem gX2_enter_X2_makeWay : GoodIn wsX2_enter (wsV RX2 65 RX2 yX2_makeWay wsX2_makeWay) := goodIn_app (goodIn_of _ (by decide +kernel)) ggX2_enter_X2_makeWay
theorem dX2_enter_0 : decode cX2_enter 0 = .ok (.iload_n 1, 1) := by decide +kernel
theorem dX2_enter_1 : decode cX2_enter 1 = .ok (.iload_n 2, 1) := by decide +kernel
theorem dX2_enter_2 : decode cX2_enter 2 = .ok (.invokestatic 58, 3) := by decide +kernel
theorem dX2_enter_5 : decode cX2_enter 5 = .ok (.iload_n 3, 1) := by decide +kernel
theorem dX2_enter_6 : decode cX2_enter 6 = .ok (.invokestatic 58, 3) := by decide +kernel
theorem dX2_enter_9 : decode cX2_enter 9 = .ok (.istore 5, 2) := by decide +kernel
theorem dX2_enter_11 : decode cX2_enter 11 = .ok (.iload 5, 2) := by decide +kernel
theorem dX2_enter_13 : decode cX2_enter 13 = .ok (.iconst 1, 1) := by decide +kernel
theorem dX2_enter_14 : decode cX2_enter 14 = .ok (.if_icmp .le 10, 3) := by decide +kernel
theorem dX2_enter_17 : decode cX2_enter 17 = .ok (.iload_n 1, 1) := by decide +kernel
theorem dX2_enter_18 : decode cX2_enter 18 = .ok (.iload 5, 2) := by decide +kernel
theorem dX2_enter_20 : decode cX2_enter 20 = .ok (.idiv, 1) := by decide +kernel
theorem dX2_enter_21 : decode cX2_enter 21 = .ok (.goto 4, 3) := by decide +kernel
theorem dX2_enter_24 : decode cX2_enter 24 = .ok (.iload_n 1, 1) := by decide +kernel
theorem dX2_enter_25 : decode cX2_enter 25 = .ok (.istore 6, 2) := by decide +kernel
theorem dX2_enter_27 : decode cX2_enter 27 = .ok (.iload 5, 2) := by decide +kernel
theorem dX2_enter_29 : decode cX2_enter 29 = .ok (.iconst 1, 1) := by decide +kernel
theorem dX2_enter_30 : decode cX2_enter 30 = .ok (.if_icmp .le 10, 3) := by decide +kernel
theorem dX2_enter_33 : decode cX2_enter 33 = .ok (.iload_n 2, 1) := by decide +kernel
theorem dX2_enter_34 : decode cX2_enter 34 = .ok (.iload 5, 2) := by decide +kernel
theorem dX2_enter_36 : decode cX2_enter 36 = .ok (.idiv, 1) := by decide +kernel
theorem dX2_enter_37 : decode cX2_enter 37 = .ok (.goto 4, 3) := by decide +kernel
theorem dX2_enter_40 : decode cX2_enter 40 = .ok (.iload_n 2, 1) := by decide +kernel
theorem dX2_enter_41 : decode cX2_enter 41 = .ok (.istore 7, 2) := by decide +kernel
theorem dX2_enter_43 : decode cX2_enter 43 = .ok (.iload 5, 2) := by decide +kernel
theorem dX2_enter_45 : decode cX2_enter 45 = .ok (.iconst 1, 1) := by decide +kernel
theorem dX2_enter_46 : decode cX2_enter 46 = .ok (.if_icmp .le 10, 3) := by decide +kernel
theorem dX2_enter_49 : decode cX2_enter 49 = .ok (.iload_n 3, 1) := by decide +kernel
theorem dX2_enter_50 : decode cX2_enter 50 = .ok (.iload 5, 2) := by decide +kernel
theorem dX2_enter_52 : decode cX2_enter 52 = .ok (.idiv, 1) := by decide +kernel
theorem dX2_enter_53 : decode cX2_enter 53 = .ok (.goto 4, 3) := by decide +kernel
theorem dX2_enter_56 : decode cX2_enter 56 = .ok (.iload_n 3, 1) := by decide +kernel
theorem dX2_enter_57 : decode cX2_enter 57 = .ok (.istore 8, 2) := by decide +kernel
theorem dX2_enter_59 : decode cX2_enter 59 = .ok (.iconst 0, 1) := by decide +kernel
theorem dX2_enter_60 : decode cX2_enter 60 = .ok (.istore 9, 2) := by decide +kernel
theorem dX2_enter_62 : decode cX2_enter 62 = .ok (.iload 9, 2) := by decide +kernel
theorem dX2_enter_64 : decode cX2_enter 64 = .ok (.aload_n 0, 1) := by decide +kernel
theorem dX2_enter_65 : decode cX2_enter 65 = .ok (.getfield 27, 3) := by decide +kernel
theorem dX2_enter_68 : decode cX2_enter 68 = .ok (.if_icmp .ge 24, 3) := by decide +kernel
theorem dX2_enter_71 : decode cX2_enter 71 = .ok (.aload_n 0, 1) := by decide +kernel
theorem dX2_enter_72 : decode cX2_enter 72 = .ok (.iload 9, 2) := by decide +kernel
theorem dX2_enter_74 : decode cX2_enter 74 = .ok (.iload 6, 2) := by decide +kernel
theorem dX2_enter_76 : decode cX2_enter 76 = .ok (.iload 7, 2) := by decide +kernel
theorem dX2_enter_78 : decode cX2_enter 78 = .ok (.iload 8, 2) := by decide +kernel
theorem dX2_enter_80 : decode cX2_enter 80 = .ok (.invokevirtual 61, 3) := by decide +kernel
theorem dX2_enter_83 : decode cX2_enter 83 = .ok (.ifCond .ge 9, 3) := by decide +kernel
theorem dX2_enter_86 : decode cX2_enter 86 = .ok (.iinc 9 1, 3) := by decide +kernel
theorem dX2_enter_89 : decode cX2_enter 89 = .ok (.goto (-27), 3) := by decide +kernel
theorem dX2_enter_92 : decode cX2_enter 92 = .ok (.iload 9, 2) := by decide +kernel
theorem dX2_enter_94 : decode cX2_enter 94 = .ok (.aload_n 0, 1) := by decide +kernel
theorem dX2_enter_95 : decode cX2_enter 95 = .ok (.getfield 27, 3) := by decide +kernel
theorem dX2_enter_98 : decode cX2_enter 98 = .ok (.if_icmp .ge 33, 3) := by decide +kernel
theorem dX2_enter_101 : decode cX2_enter 101 = .ok (.aload_n 0, 1) := by decide +kernel
theorem dX2_enter_102 : decode cX2_enter 102 = .ok (.iload 9, 2) := by decide +kernel
theorem dX2_enter_104 : decode cX2_enter 104 = .ok (.iload 6, 2) := by decide +kernel
theorem dX2_enter_106 : decode cX2_enter 106 = .ok (.iload 7, 2) := by decide +kernel
theorem dX2_enter_108 : decode cX2_enter 108 = .ok (.iload 8, 2) := by decide +kernel
theorem dX2_enter_110 : decode cX2_enter 110 = .ok (.invokevirtual 61, 3) := by decide +kernel
theorem dX2_enter_113 : decode cX2_enter 113 = .ok (.ifCond .ne 18, 3) := by decide +kernel
theorem dX2_enter_116 : decode cX2_enter 116 = .ok (.aload_n 0, 1) := by decide +kernel
theorem dX2_enter_117 : decode cX2_enter 117 = .ok (.getfield 21, 3) := by decide +kernel
theorem dX2_enter_120 : decode cX2_enter 120 = .ok (.iload 9, 2) := by decide +kernel
theorem dX2_enter_122 : decode cX2_enter 122 = .ok (.dup2, 1) := by decide +kernel
theorem dX2_enter_123 : decode cX2_enter 123 = .ok (.iaload, 1) := by decide +kernel
theorem dX2_enter_124 : decode cX2_enter 124 = .ok (.iload 4, 2) := by decide +kernel
theorem dX2_enter_126 : decode cX2_enter 126 = .ok (.ior, 1) := by decide +kernel
theorem dX2_enter_127 : decode cX2_enter 127 = .ok (.iastore, 1) := by decide +kernel
theorem dX2_enter_128 : decode cX2_enter 128 = .ok (.goto 54, 3) := by decide +kernel
theorem dX2_enter_131 : decode cX2_enter 131 = .ok (.aload_n 0, 1) := by decide +kernel
theorem dX2_enter_132 : decode cX2_enter 132 = .ok (.getfield 27, 3) := by decide +kernel
theorem dX2_enter_135 : decode cX2_enter 135 = .ok (.bipush 36, 2) := by decide +kernel
theorem dX2_enter_137 : decode cX2_enter 137 = .ok (.if_icmp .ge 45, 3) := by decide +kernel
theorem dX2_enter_140 : decode cX2_enter 140 = .ok (.aload_n 0, 1) := by decide +kernel
theorem dX2_enter_141 : decode cX2_enter 141 = .ok (.iload 9, 2) := by decide +kernel
theorem dX2_enter_143 : decode cX2_enter 143 = .ok (.invokevirtual 65, 3) := by decide +kernel
theorem dX2_enter_146 : decode cX2_enter 146 = .ok (.aload_n 0, 1) := by decide +kernel
theorem dX2_enter_147 : decode cX2_enter 147 = .ok (.getfield 9, 3) := by decide +kernel
theorem dX2_enter_150 : decode cX2_enter 150 = .ok (.iload 9, 2) := by decide +kernel
theorem dX2_enter_152 : decode cX2_enter 152 = .ok (.iload 6, 2) := by decide +kernel
theorem dX2_enter_154 : decode cX2_enter 154 = .ok (.iastore, 1) := by decide +kernel
theorem dX2_enter_155 : decode cX2_enter 155 = .ok (.aload_n 0, 1) := by decide +kernel
theorem dX2_enter_156 : decode cX2_enter 156 = .ok (.getfield 15, 3) := by decide +kernel
theorem dX2_enter_159 : decode cX2_enter 159 = .ok (.iload 9, 2) := by decide +kernel
theorem dX2_enter_161 : decode cX2_enter 161 = .ok (.iload 7, 2) := by decide +kernel
theorem dX2_enter_163 : decode cX2_enter 163 = .ok (.iastore, 1) := by decide +kernel
theorem dX2_enter_164 : decode cX2_enter 164 = .ok (.aload_n 0, 1) := by decide +kernel
theorem dX2_enter_165 : decode cX2_enter 165 = .ok (.getfield 18, 3) := by decide +kernel
theorem dX2_enter_168 : decode cX2_enter 168 = .ok (.iload 9, 2) := by decide +kernel
theorem dX2_enter_170 : decode cX2_enter 170 = .ok (.iload 8, 2) := by decide +kernel
theorem dX2_enter_172 : decode cX2_enter 172 = .ok (.iastore, 1) := by decide +kernel
theorem dX2_enter_173 : decode cX2_enter 173 = .ok (.aload_n 0, 1) := by decide +kernel
theorem dX2_enter_174 : decode cX2_enter 174 = .ok (.getfield 21, 3) := by decide +kernel
theorem dX2_enter_177 : decode cX2_enter 177 = .ok (.iload 9, 2) := by decide +kernel
theorem dX2_enter_179 : decode cX2_enter 179 = .ok (.iload 4, 2) := by decide +kernel
theorem dX2_enter_181 : decode cX2_enter 181 = .ok (.iastore, 1) := by decide +kernel
theorem dX2_enter_182 : decode cX2_enter 182 = .ok (.return_, 1) := by decide +kernel
theorem dX2_makeWay_0 : decode cX2_makeWay 0 = .ok (.aload_n 0, 1) := by decide +kernel
theorem dX2_makeWay_1 : decode cX2_makeWay 1 = .ok (.getfield 27, 3) := by decide +kernel
theorem dX2_makeWay_4 : decode cX2_makeWay 4 = .ok (.istore_n 2, 1) := by decide +kernel
theorem dX2_makeWay_5 : decode cX2_makeWay 5 = .ok (.iload_n 2, 1) := by decide +kernel
theorem dX2_makeWay_6 : decode cX2_makeWay 6 = .ok (.iload_n 1, 1) := by decide +kernel
theorem dX2_makeWay_7 : decode cX2_makeWay 7 = .ok (.if_icmp .le 65, 3) := by decide +kernel
theorem dX2_makeWay_10 : decode cX2_makeWay 10 = .ok (.aload_n 0, 1) := by decide +kernel
theorem dX2_makeWay_11 : decode cX2_makeWay 11 = .ok (.getfield 9, 3) := by decide +kernel
theorem dX2_makeWay_14 : decode cX2_makeWay 14 = .ok (.iload_n 2, 1) := by decide +kernel
theorem dX2_makeWay_15 : decode cX2_makeWay 15 = .ok (.aload_n 0, 1) := by decide +kernel
theorem dX2_makeWay_16 : decode cX2_makeWay 16 = .ok (.getfield 9, 3) := by decide +kernel
theorem dX2_makeWay_19 : decode cX2_makeWay 19 = .ok (.iload_n 2, 1) := by decide +kernel
theorem dX2_makeWay_20 : decode cX2_makeWay 20 = .ok (.iconst 1, 1) := by decide +kernel
theorem dX2_makeWay_21 : decode cX2_makeWay 21 = .ok (.isub, 1) := by decide +kernel
theorem dX2_makeWay_22 : decode cX2_makeWay 22 = .ok (.iaload, 1) := by decide +kernel
theorem dX2_makeWay_23 : decode cX2_makeWay 23 = .ok (.iastore, 1) := by decide +kernel
theorem dX2_makeWay_24 : decode cX2_makeWay 24 = .ok (.aload_n 0, 1) := by decide +kernel
theorem dX2_makeWay_25 : decode cX2_makeWay 25 = .ok (.getfield 15, 3) := by decide +kernel
theorem dX2_makeWay_28 : decode cX2_makeWay 28 = .ok (.iload_n 2, 1) := by decide +kernel
theorem dX2_makeWay_29 : decode cX2_makeWay 29 = .ok (.aload_n 0, 1) := by decide +kernel
theorem dX2_makeWay_30 : decode cX2_makeWay 30 = .ok (.getfield 15, 3) := by decide +kernel
theorem dX2_makeWay_33 : decode cX2_makeWay 33 = .ok (.iload_n 2, 1) := by decide +kernel
theorem dX2_makeWay_34 : decode cX2_makeWay 34 = .ok (.iconst 1, 1) := by decide +kernel
theorem dX2_makeWay_35 : decode cX2_makeWay 35 = .ok (.isub, 1) := by decide +kernel
theorem dX2_makeWay_36 : decode cX2_makeWay 36 = .ok (.iaload, 1) := by decide +kernel
theorem dX2_makeWay_37 : decode cX2_makeWay 37 = .ok (.iastore, 1) := by decide +kernel
theorem dX2_makeWay_38 : decode cX2_makeWay 38 = .ok (.aload_n 0, 1) := by decide +kernel
theorem dX2_makeWay_39 : decode cX2_makeWay 39 = .ok (.getfield 18, 3) := by decide +kernel
theorem dX2_makeWay_42 : decode cX2_makeWay 42 = .ok (.iload_n 2, 1) := by decide +kernel
theorem dX2_makeWay_43 : decode cX2_makeWay 43 = .ok (.aload_n 0, 1) := by decide +kernel
theorem dX2_makeWay_44 : decode cX2_makeWay 44 = .ok (.getfield 18, 3) := by decide +kernel
theorem dX2_makeWay_47 : decode cX2_makeWay 47 = .ok (.iload_n 2, 1) := by decide +kernel
theorem dX2_makeWay_48 : decode cX2_makeWay 48 = .ok (.iconst 1, 1) := by decide +kernel
theorem dX2_makeWay_49 : decode cX2_makeWay 49 = .ok (.isub, 1) := by decide +kernel
theorem dX2_makeWay_50 : decode cX2_makeWay 50 = .ok (.iaload, 1) := by decide +kernel
theorem dX2_makeWay_51 : decode cX2_makeWay 51 = .ok (.iastore, 1) := by decide +kernel
theorem dX2_makeWay_52 : decode cX2_makeWay 52 = .ok (.aload_n 0, 1) := by decide +kernel
theorem dX2_makeWay_53 : decode cX2_makeWay 53 = .ok (.getfield 21, 3) := by decide +kernel
theorem dX2_makeWay_56 : decode cX2_makeWay 56 = .ok (.iload_n 2, 1) := by decide +kernel
theorem dX2_makeWay_57 : decode cX2_makeWay 57 = .ok (.aload_n 0, 1) := by decide +kernel
theorem dX2_makeWay_58 : decode cX2_makeWay 58 = .ok (.getfield 21, 3) := by decide +kernel
theorem dX2_makeWay_61 : decode cX2_makeWay 61 = .ok (.iload_n 2, 1) := by decide +kernel
theorem dX2_makeWay_62 : decode cX2_makeWay 62 = .ok (.iconst 1, 1) := by decide +kernel
theorem dX2_makeWay_63 : decode cX2_makeWay 63 = .ok (.isub, 1) := by decide +kernel
theorem dX2_makeWay_64 : decode cX2_makeWay 64 = .ok (.iaload, 1) := by decide +kernel
theorem dX2_makeWay_65 : decode cX2_makeWay 65 = .ok (.iastore, 1) := by decide +kernel
theorem dX2_makeWay_66 : decode cX2_makeWay 66 = .ok (.iinc 2 (-1), 3) := by decide +kernel
theorem dX2_makeWay_69 : decode cX2_makeWay 69 = .ok (.goto (-64), 3) := by decide +kernel
theorem dX2_makeWay_72 : decode cX2_makeWay 72 = .ok (.aload_n 0, 1) := by decide +kernel
theorem dX2_makeWay_73 : decode cX2_makeWay 73 = .ok (.dup, 1) := by decide +kernel
theorem dX2_makeWay_74 : decode cX2_makeWay 74 = .ok (.getfield 27, 3) := by decide +kernel
theorem dX2_makeWay_77 : decode cX2_makeWay 77 = .ok (.iconst 1, 1) := by decide +kernel
theorem dX2_makeWay_78 : decode cX2_makeWay 78 = .ok (.iadd, 1) := by decide +kernel
theorem dX2_makeWay_79 : decode cX2_makeWay 79 = .ok (.putfield 27, 3) := by decide +kernel
theorem dX2_makeWay_82 : decode cX2_makeWay 82 = .ok (.return_, 1) := by decide +kernel
theorem dX2_order_0 : decode cX2_order 0 = .ok (.aload_n 0, 1) := by decide +kernel
theorem dX2_order_1 : decode cX2_order 1 = .ok (.getfield 9, 3) := by decide +kernel
theorem dX2_order_4 : decode cX2_order 4 = .ok (.iload_n 1, 1) := by decide +kernel
theorem dX2_order_5 : decode cX2_order 5 = .ok (.iaload, 1) := by decide +kernel
theorem dX2_order_6 : decode cX2_order 6 = .ok (.iload 4, 2) := by decide +kernel
theorem dX2_order_8 : decode cX2_order 8 = .ok (.imul, 1) := by decide +kernel
theorem dX2_order_9 : decode cX2_order 9 = .ok (.iload_n 2, 1) := by decide +kernel
theorem dX2_order_10 : decode cX2_order 10 = .ok (.aload_n 0, 1) := by decide +kernel
theorem dX2_order_11 : decode cX2_order 11 = .ok (.getfield 18, 3) := by decide +kernel
theorem dX2_order_14 : decode cX2_order 14 = .ok (.iload_n 1, 1) := by decide +kernel
theorem dX2_order_15 : decode cX2_order 15 = .ok (.iaload, 1) := by decide +kernel
theorem dX2_order_16 : decode cX2_order 16 = .ok (.imul, 1) := by decide +kernel
theorem dX2_order_17 : decode cX2_order 17 = .ok (.isub, 1) := by decide +kernel
theorem dX2_order_18 : decode cX2_order 18 = .ok (.istore 5, 2) := by decide +kernel
theorem dX2_order_20 : decode cX2_order 20 = .ok (.iload 5, 2) := by decide +kernel
theorem dX2_order_22 : decode cX2_order 22 = .ok (.ifCond .eq 8, 3) := by decide +kernel
theorem dX2_order_25 : decode cX2_order 25 = .ok (.iload 5, 2) := by decide +kernel
theorem dX2_order_27 : decode cX2_order 27 = .ok (.goto 21, 3) := by decide +kernel
theorem dX2_order_30 : decode cX2_order 30 = .ok (.aload_n 0, 1) := by decide +kernel
theorem dX2_order_31 : decode cX2_order 31 = .ok (.getfield 15, 3) := by decide +kernel
theorem dX2_order_34 : decode cX2_order 34 = .ok (.iload_n 1, 1) := by decide +kernel
theorem dX2_order_35 : decode cX2_order 35 = .ok (.iaload, 1) := by decide +kernel
theorem dX2_order_36 : decode cX2_order 36 = .ok (.iload 4, 2) := by decide +kernel
theorem dX2_order_38 : decode cX2_order 38 = .ok (.imul, 1) := by decide +kernel
theorem dX2_order_39 : decode cX2_order 39 = .ok (.iload_n 3, 1) := by decide +kernel
theorem dX2_order_40 : decode cX2_order 40 = .ok (.aload_n 0, 1) := by decide +kernel
theorem dX2_order_41 : decode cX2_order 41 = .ok (.getfield 18, 3) := by decide +kernel
theorem dX2_order_44 : decode cX2_order 44 = .ok (.iload_n 1, 1) := by decide +kernel
theorem dX2_order_45 : decode cX2_order 45 = .ok (.iaload, 1) := by decide +kernel
theorem dX2_order_46 : decode cX2_order 46 = .ok (.imul, 1) := by decide +kernel
theorem dX2_order_47 : decode cX2_order 47 = .ok (.isub, 1) := by decide +kernel
theorem dX2_order_48 : decode cX2_order 48 = .ok (.ireturn, 1) := by decide +kernel
theorem dX2_commonDivisor_0 : decode cX2_commonDivisor 0 = .ok (.iload_n 0, 1) := by decide +kernel
theorem dX2_commonDivisor_1 : decode cX2_commonDivisor 1 = .ok (.invokestatic 69, 3) := by decide +kernel
theorem dX2_commonDivisor_4 : decode cX2_commonDivisor 4 = .ok (.istore_n 2, 1) := by decide +kernel
theorem dX2_commonDivisor_5 : decode cX2_commonDivisor 5 = .ok (.iload_n 1, 1) := by decide +kernel
theorem dX2_commonDivisor_6 : decode cX2_commonDivisor 6 = .ok (.invokestatic 69, 3) := by decide +kernel
theorem dX2_commonDivisor_9 : decode cX2_commonDivisor 9 = .ok (.istore_n 3, 1) := by decide +kernel
theorem dX2_commonDivisor_10 : decode cX2_commonDivisor 10 = .ok (.iconst 0, 1) := by decide +kernel
theorem dX2_commonDivisor_11 : decode cX2_commonDivisor 11 = .ok (.istore 4, 2) := by decide +kernel
theorem dX2_commonDivisor_13 : decode cX2_commonDivisor 13 = .ok (.iload 4, 2) := by decide +kernel
theorem dX2_commonDivisor_15 : decode cX2_commonDivisor 15 = .ok (.bipush 64, 2) := by decide +kernel
theorem dX2_commonDivisor_17 : decode cX2_commonDivisor 17 = .ok (.if_icmp .ge 23, 3) := by decide +kernel
theorem dX2_commonDivisor_20 : decode cX2_commonDivisor 20 = .ok (.iload_n 3, 1) := by decide +kernel
theorem dX2_commonDivisor_21 : decode cX2_commonDivisor 21 = .ok (.ifCond .eq 19, 3) := by decide +kernel
theorem dX2_commonDivisor_24 : decode cX2_commonDivisor 24 = .ok (.iload_n 2, 1) := by decide +kernel
theorem dX2_commonDivisor_25 : decode cX2_commonDivisor 25 = .ok (.iload_n 3, 1) := by decide +kernel
theorem dX2_commonDivisor_26 : decode cX2_commonDivisor 26 = .ok (.irem, 1) := by decide +kernel
theorem dX2_commonDivisor_27 : decode cX2_commonDivisor 27 = .ok (.istore 5, 2) := by decide +kernel
theorem dX2_commonDivisor_29 : decode cX2_commonDivisor 29 = .ok (.iload_n 3, 1) := by decide +kernel
theorem dX2_commonDivisor_30 : decode cX2_commonDivisor 30 = .ok (.istore_n 2, 1) := by decide +kernel
theorem dX2_commonDivisor_31 : decode cX2_commonDivisor 31 = .ok (.iload 5, 2) := by decide +kernel
theorem dX2_commonDivisor_33 : decode cX2_commonDivisor 33 = .ok (.istore_n 3, 1) := by decide +kernel
theorem dX2_commonDivisor_34 : decode cX2_commonDivisor 34 = .ok (.iinc 4 1, 3) := by decide +kernel
theorem dX2_commonDivisor_37 : decode cX2_commonDivisor 37 = .ok (.goto (-24), 3) := by decide +kernel
theorem dX2_commonDivisor_40 : decode cX2_commonDivisor 40 = .ok (.iload_n 2, 1) := by decide +kernel
theorem dX2_commonDivisor_41 : decode cX2_commonDivisor 41 = .ok (.ireturn, 1) := by decide +kernel
set_option maxRecDepth 20000 in
theorem ggX2_surplus_J6_bitCount_0f7a4 : GoodIn wsX2_surplus wsJ6_bitCount_0f7a4 := goodIn_r _ [6, 7, 8, 9] (by decide +kernel) (by decide +kernel)
set_option maxRecDepth 20000 in
theorem gX2_surplus_J6_bitCount_0f7a4 : GoodIn wsX2_surplus (va_wsS RX2 74 yJ6_bitCount_0f7a4 wsJ6_bitCount_0f7a4) := goodIn_app (goodIn_of _ (by decide +kernel)) ggX2_surplus_J6_bitCount_0f7a4
theorem dX2_surplus_0 : decode cX2_surplus 0 = .ok (.iconst 0, 1) := by decide +kernel
theorem dX2_surplus_1 : decode cX2_surplus 1 = .ok (.istore_n 1, 1) := by decide +kernel
theorem dX2_surplus_2 : decode cX2_surplus 2 = .ok (.iconst 0, 1) := by decide +kernel
theorem dX2_surplus_3 : decode cX2_surplus 3 = .ok (.istore_n 2, 1) := by decide +kernel
theorem dX2_surplus_4 : decode cX2_surplus 4 = .ok (.iload_n 2, 1) := by decide +kernel
theorem dX2_surplus_5 : decode cX2_surplus 5 = .ok (.aload_n 0, 1) := by decide +kernel
theorem dX2_surplus_6 : decode cX2_surplus 6 = .ok (.getfield 27, 3) := by decide +kernel
theorem dX2_surplus_9 : decode cX2_surplus 9 = .ok (.if_icmp .ge 23, 3) := by decide +kernel
theorem dX2_surplus_12 : decode cX2_surplus 12 = .ok (.iload_n 1, 1) := by decide +kernel
theorem dX2_surplus_13 : decode cX2_surplus 13 = .ok (.aload_n 0, 1) := by decide +kernel
theorem dX2_surplus_14 : decode cX2_surplus 14 = .ok (.getfield 21, 3) := by decide +kernel
theorem dX2_surplus_17 : decode cX2_surplus 17 = .ok (.iload_n 2, 1) := by decide +kernel
theorem dX2_surplus_18 : decode cX2_surplus 18 = .ok (.iaload, 1) := by decide +kernel
theorem dX2_surplus_19 : decode cX2_surplus 19 = .ok (.invokestatic 74, 3) := by decide +kernel
theorem dX2_surplus_22 : decode cX2_surplus 22 = .ok (.iconst 1, 1) := by decide +kernel
theorem dX2_surplus_23 : decode cX2_surplus 23 = .ok (.isub, 1) := by decide +kernel
theorem dX2_surplus_24 : decode cX2_surplus 24 = .ok (.iadd, 1) := by decide +kernel
theorem dX2_surplus_25 : decode cX2_surplus 25 = .ok (.istore_n 1, 1) := by decide +kernel
theorem dX2_surplus_26 : decode cX2_surplus 26 = .ok (.iinc 2 1, 3) := by decide +kernel
theorem dX2_surplus_29 : decode cX2_surplus 29 = .ok (.goto (-25), 3) := by decide +kernel
theorem dX2_surplus_32 : decode cX2_surplus 32 = .ok (.iload_n 1, 1) := by decide +kernel
theorem dX2_surplus_33 : decode cX2_surplus 33 = .ok (.ireturn, 1) := by decide +kernel
set_option maxRecDepth 20000 in
theorem ggX2_isOn_X4_isIn : GoodIn wsX2_isOn wsX4_isIn := goodIn_r _ [4, 5, 6, 3, 7] (by decide +kernel) (by decide +kernel)
set_option maxRecDepth 20000 in
theorem gX2_isOn_X4_isIn_n79 : GoodIn wsX2_isOn (wsX4_isIn) := ggX2_isOn_X4_isIn
theorem dX2_isOn_0 : decode cX2_isOn 0 = .ok (.aload_n 0, 1) := by decide +kernel
theorem dX2_isOn_1 : decode cX2_isOn 1 = .ok (.getfield 21, 3) := by decide +kernel
theorem dX2_isOn_4 : decode cX2_isOn 4 = .ok (.iload_n 1, 1) := by decide +kernel
theorem dX2_isOn_5 : decode cX2_isOn 5 = .ok (.iaload, 1) := by decide +kernel
theorem dX2_isOn_6 : decode cX2_isOn 6 = .ok (.iload_n 2, 1) := by decide +kernel
theorem dX2_isOn_7 : decode cX2_isOn 7 = .ok (.invokestatic 79, 3) := by decide +kernel
theorem dX2_isOn_10 : decode cX2_isOn 10 = .ok (.ireturn, 1) := by decide +kernel
set_option maxRecDepth 20000 in
theorem ggX2_isLowestPair_X2_isOn : GoodIn wsX2_isLowestPair wsX2_isOn := goodIn_r _ [7, 2, 8, 9, 10, 11, 12, 13, 14, 15, 16, 17, 18, 19] (by decide +kernel) (by decide +kernel)
set_option maxRecDepth 20000 in
theorem gX2_isLowestPair_X2_isOn : GoodIn wsX2_isLowestPair (wsV RX2 83 RX2 yX2_isOn wsX2_isOn) := goodIn_app (goodIn_of _ (by decide +kernel)) ggX2_isLowestPair_X2_isOn
set_option maxRecDepth 20000 in
theorem ggX2_isLowestPair_X4_bit : GoodIn wsX2_isLowestPair wsX4_bit := goodIn_r _ [13] (by decide +kernel) (by decide +kernel)
set_option maxRecDepth 20000 in
theorem gX2_isLowestPair_X4_bit_n40 : GoodIn wsX2_isLowestPair (wsX4_bit) := ggX2_isLowestPair_X4_bit
theorem dX2_isLowestPair_0 : decode cX2_isLowestPair 0 = .ok (.iconst 0, 1) := by decide +kernel
theorem dX2_isLowestPair_1 : decode cX2_isLowestPair 1 = .ok (.istore_n 3, 1) := by decide +kernel
theorem dX2_isLowestPair_2 : decode cX2_isLowestPair 2 = .ok (.iload_n 3, 1) := by decide +kernel
theorem dX2_isLowestPair_3 : decode cX2_isLowestPair 3 = .ok (.aload_n 0, 1) := by decide +kernel
theorem dX2_isLowestPair_4 : decode cX2_isLowestPair 4 = .ok (.getfield 27, 3) := by decide +kernel
theorem dX2_isLowestPair_7 : decode cX2_isLowestPair 7 = .ok (.if_icmp .ge 49, 3) := by decide +kernel
theorem dX2_isLowestPair_10 : decode cX2_isLowestPair 10 = .ok (.aload_n 0, 1) := by decide +kernel
theorem dX2_isLowestPair_11 : decode cX2_isLowestPair 11 = .ok (.iload_n 3, 1) := by decide +kernel
theorem dX2_isLowestPair_12 : decode cX2_isLowestPair 12 = .ok (.iload_n 1, 1) := by decide +kernel
theorem dX2_isLowestPair_13 : decode cX2_isLowestPair 13 = .ok (.invokevirtual 83, 3) := by decide +kernel
theorem dX2_isLowestPair_16 : decode cX2_isLowestPair 16 = .ok (.ifCond .eq 34, 3) := by decide +kernel
theorem dX2_isLowestPair_19 : decode cX2_isLowestPair 19 = .ok (.aload_n 0, 1) := by decide +kernel
theorem dX2_isLowestPair_20 : decode cX2_isLowestPair 20 = .ok (.iload_n 3, 1) := by decide +kernel
theorem dX2_isLowestPair_21 : decode cX2_isLowestPair 21 = .ok (.iload_n 2, 1) := by decide +kernel
theorem dX2_isLowestPair_22 : decode cX2_isLowestPair 22 = .ok (.invokevirtual 83, 3) := by decide +kernel
theorem dX2_isLowestPair_25 : decode cX2_isLowestPair 25 = .ok (.ifCond .eq 25, 3) := by decide +kernel
theorem dX2_isLowestPair_28 : decode cX2_isLowestPair 28 = .ok (.aload_n 0, 1) := by decide +kernel
theorem dX2_isLowestPair_29 : decode cX2_isLowestPair 29 = .ok (.getfield 21, 3) := by decide +kernel
theorem dX2_isLowestPair_32 : decode cX2_isLowestPair 32 = .ok (.iload_n 3, 1) := by decide +kernel
theorem dX2_isLowestPair_33 : decode cX2_isLowestPair 33 = .ok (.iaload, 1) := by decide +kernel
theorem dX2_isLowestPair_34 : decode cX2_isLowestPair 34 = .ok (.iload_n 1, 1) := by decide +kernel
theorem dX2_isLowestPair_35 : decode cX2_isLowestPair 35 = .ok (.invokestatic 40, 3) := by decide +kernel
theorem dX2_isLowestPair_38 : decode cX2_isLowestPair 38 = .ok (.iconst 1, 1) := by decide +kernel
theorem dX2_isLowestPair_39 : decode cX2_isLowestPair 39 = .ok (.isub, 1) := by decide +kernel
theorem dX2_isLowestPair_40 : decode cX2_isLowestPair 40 = .ok (.iand, 1) := by decide +kernel
theorem dX2_isLowestPair_41 : decode cX2_isLowestPair 41 = .ok (.ifCond .ne 7, 3) := by decide +kernel
theorem dX2_isLowestPair_44 : decode cX2_isLowestPair 44 = .ok (.iconst 1, 1) := by decide +kernel
theorem dX2_isLowestPair_45 : decode cX2_isLowestPair 45 = .ok (.goto 4, 3) := by decide +kernel
theorem dX2_isLowestPair_48 : decode cX2_isLowestPair 48 = .ok (.iconst 0, 1) := by decide +kernel
theorem dX2_isLowestPair_49 : decode cX2_isLowestPair 49 = .ok (.ireturn, 1) := by decide +kernel
theorem dX2_isLowestPair_50 : decode cX2_isLowestPair 50 = .ok (.iinc 3 1, 3) := by decide +kernel
theorem dX2_isLowestPair_53 : decode cX2_isLowestPair 53 = .ok (.goto (-51), 3) := by decide +kernel
theorem dX2_isLowestPair_56 : decode cX2_isLowestPair 56 = .ok (.iconst 0, 1) := by decide +kernel
theorem dX2_isLowestPair_57 : decode cX2_isLowestPair 57 = .ok (.ireturn, 1) := by decide +kernel
theorem dX2_projected_0 : decode cX2_projected 0 = .ok (.iload_n 2, 1) := by decide +kernel
theorem dX2_projected_1 : decode cX2_projected 1 = .ok (.aload_n 0, 1) := by decide +kernel
theorem dX2_projected_2 : decode cX2_projected 2 = .ok (.getfield 21, 3) := by decide +kernel
theorem dX2_projected_5 : decode cX2_projected 5 = .ok (.iload_n 1, 1) := by decide +kernel
theorem dX2_projected_6 : decode cX2_projected 6 = .ok (.iaload, 1) := by decide +kernel
theorem dX2_projected_7 : decode cX2_projected 7 = .ok (.iand, 1) := by decide +kernel
theorem dX2_projected_8 : decode cX2_projected 8 = .ok (.aload_n 0, 1) := by decide +kernel
theorem dX2_projected_9 : decode cX2_projected 9 = .ok (.getfield 24, 3) := by decide +kernel
theorem dX2_projected_12 : decode cX2_projected 12 = .ok (.iload_n 1, 1) := by decide +kernel
theorem dX2_projected_13 : decode cX2_projected 13 = .ok (.iaload, 1) := by decide +kernel
theorem dX2_projected_14 : decode cX2_projected 14 = .ok (.ior, 1) := by decide +kernel
theorem dX2_projected_15 : decode cX2_projected 15 = .ok (.ireturn, 1) := by decide +kernel
set_option maxRecDepth 20000 in
theorem ggX2_isCornerOf_X2_projected : GoodIn wsX2_isCornerOf wsX2_projected := goodIn_r _ [5, 6, 7, 8, 9, 10, 11, 12, 13] (by decide +kernel) (by decide +kernel)
set_option maxRecDepth 20000 in
theorem gX2_isCornerOf_X2_projected : GoodIn wsX2_isCornerOf (wsV RX2 86 RX2 yX2_projected wsX2_projected) := goodIn_app (goodIn_of _ (by decide +kernel)) ggX2_isCornerOf_X2_projected
theorem dX2_isCornerOf_0 : decode cX2_isCornerOf 0 = .ok (.aload_n 0, 1) := by decide +kernel
theorem dX2_isCornerOf_1 : decode cX2_isCornerOf 1 = .ok (.iload_n 1, 1) := by decide +kernel
theorem dX2_isCornerOf_2 : decode cX2_isCornerOf 2 = .ok (.iload_n 2, 1) := by decide +kernel
theorem dX2_isCornerOf_3 : decode cX2_isCornerOf 3 = .ok (.invokevirtual 86, 3) := by decide +kernel
theorem dX2_isCornerOf_6 : decode cX2_isCornerOf 6 = .ok (.iload_n 2, 1) := by decide +kernel
theorem dX2_isCornerOf_7 : decode cX2_isCornerOf 7 = .ok (.if_icmp .ne 7, 3) := by decide +kernel
theorem dX2_isCornerOf_10 : decode cX2_isCornerOf 10 = .ok (.iconst 1, 1) := by decide +kernel
theorem dX2_isCornerOf_11 : decode cX2_isCornerOf 11 = .ok (.goto 4, 3) := by decide +kernel
theorem dX2_isCornerOf_14 : decode cX2_isCornerOf 14 = .ok (.iconst 0, 1) := by decide +kernel
theorem dX2_isCornerOf_15 : decode cX2_isCornerOf 15 = .ok (.ireturn, 1) := by decide +kernel
set_option maxRecDepth 20000 in
theorem ggX2_cornersOf_X2_isCornerOf : GoodIn wsX2_cornersOf wsX2_isCornerOf := goodIn_r _ [6, 7, 8, 9, 5, 10, 11, 12, 13, 14, 15, 16, 17, 18] (by decide +kernel) (by decide +kernel)
set_option maxRecDepth 20000 in
theorem gX2_cornersOf_X2_isCornerOf : GoodIn wsX2_cornersOf (wsV RX2 89 RX2 yX2_isCornerOf wsX2_isCornerOf) := goodIn_app (goodIn_of _ (by decide +kernel)) ggX2_cornersOf_X2_isCornerOf
theorem dX2_cornersOf_0 : decode cX2_cornersOf 0 = .ok (.iconst 0, 1) := by decide +kernel
theorem dX2_cornersOf_1 : decode cX2_cornersOf 1 = .ok (.istore_n 2, 1) := by decide +kernel
theorem dX2_cornersOf_2 : decode cX2_cornersOf 2 = .ok (.iconst 0, 1) := by decide +kernel
theorem dX2_cornersOf_3 : decode cX2_cornersOf 3 = .ok (.istore_n 3, 1) := by decide +kernel
theorem dX2_cornersOf_4 : decode cX2_cornersOf 4 = .ok (.iload_n 3, 1) := by decide +kernel
theorem dX2_cornersOf_5 : decode cX2_cornersOf 5 = .ok (.aload_n 0, 1) := by decide +kernel
theorem dX2_cornersOf_6 : decode cX2_cornersOf 6 = .ok (.getfield 27, 3) := by decide +kernel
theorem dX2_cornersOf_9 : decode cX2_cornersOf 9 = .ok (.if_icmp .ge 21, 3) := by decide +kernel
theorem dX2_cornersOf_12 : decode cX2_cornersOf 12 = .ok (.aload_n 0, 1) := by decide +kernel
theorem dX2_cornersOf_13 : decode cX2_cornersOf 13 = .ok (.iload_n 3, 1) := by decide +kernel
theorem dX2_cornersOf_14 : decode cX2_cornersOf 14 = .ok (.iload_n 1, 1) := by decide +kernel
theorem dX2_cornersOf_15 : decode cX2_cornersOf 15 = .ok (.invokevirtual 89, 3) := by decide +kernel
theorem dX2_cornersOf_18 : decode cX2_cornersOf 18 = .ok (.ifCond .eq 6, 3) := by decide +kernel
theorem dX2_cornersOf_21 : decode cX2_cornersOf 21 = .ok (.iinc 2 1, 3) := by decide +kernel
theorem dX2_cornersOf_24 : decode cX2_cornersOf 24 = .ok (.iinc 3 1, 3) := by decide +kernel
theorem dX2_cornersOf_27 : decode cX2_cornersOf 27 = .ok (.goto (-23), 3) := by decide +kernel
theorem dX2_cornersOf_30 : decode cX2_cornersOf 30 = .ok (.iload_n 2, 1) := by decide +kernel
theorem dX2_cornersOf_31 : decode cX2_cornersOf 31 = .ok (.ireturn, 1) := by decide +kernel
set_option maxRecDepth 20000 in
theorem ggX2_cornerAt_X2_isCornerOf : GoodIn wsX2_cornerAt wsX2_isCornerOf := goodIn_r _ [6, 7, 8, 9, 5, 10, 11, 12, 13, 14, 15, 16, 17, 18] (by decide +kernel) (by decide +kernel)
set_option maxRecDepth 20000 in
theorem gX2_cornerAt_X2_isCornerOf : GoodIn wsX2_cornerAt (wsV RX2 89 RX2 yX2_isCornerOf wsX2_isCornerOf) := goodIn_app (goodIn_of _ (by decide +kernel)) ggX2_cornerAt_X2_isCornerOf
theorem dX2_cornerAt_0 : decode cX2_cornerAt 0 = .ok (.iconst 0, 1) := by decide +kernel
theorem dX2_cornerAt_1 : decode cX2_cornerAt 1 = .ok (.istore_n 3, 1) := by decide +kernel
theorem dX2_cornerAt_2 : decode cX2_cornerAt 2 = .ok (.iconst 0, 1) := by decide +kernel
theorem dX2_cornerAt_3 : decode cX2_cornerAt 3 = .ok (.istore 4, 2) := by decide +kernel
theorem dX2_cornerAt_5 : decode cX2_cornerAt 5 = .ok (.iload 4, 2) := by decide +kernel
theorem dX2_cornerAt_7 : decode cX2_cornerAt 7 = .ok (.aload_n 0, 1) := by decide +kernel
theorem dX2_cornerAt_8 : decode cX2_cornerAt 8 = .ok (.getfield 27, 3) := by decide +kernel
theorem dX2_cornerAt_11 : decode cX2_cornerAt 11 = .ok (.if_icmp .ge 33, 3) := by decide +kernel
theorem dX2_cornerAt_14 : decode cX2_cornerAt 14 = .ok (.aload_n 0, 1) := by decide +kernel
theorem dX2_cornerAt_15 : decode cX2_cornerAt 15 = .ok (.iload 4, 2) := by decide +kernel
theorem dX2_cornerAt_17 : decode cX2_cornerAt 17 = .ok (.iload_n 1, 1) := by decide +kernel
theorem dX2_cornerAt_18 : decode cX2_cornerAt 18 = .ok (.invokevirtual 89, 3) := by decide +kernel
theorem dX2_cornerAt_21 : decode cX2_cornerAt 21 = .ok (.ifCond .ne 6, 3) := by decide +kernel
theorem dX2_cornerAt_24 : decode cX2_cornerAt 24 = .ok (.goto 14, 3) := by decide +kernel
theorem dX2_cornerAt_27 : decode cX2_cornerAt 27 = .ok (.iload_n 3, 1) := by decide +kernel
theorem dX2_cornerAt_28 : decode cX2_cornerAt 28 = .ok (.iload_n 2, 1) := by decide +kernel
theorem dX2_cornerAt_29 : decode cX2_cornerAt 29 = .ok (.if_icmp .ne 6, 3) := by decide +kernel
theorem dX2_cornerAt_32 : decode cX2_cornerAt 32 = .ok (.iload 4, 2) := by decide +kernel
theorem dX2_cornerAt_34 : decode cX2_cornerAt 34 = .ok (.ireturn, 1) := by decide +kernel
theorem dX2_cornerAt_35 : decode cX2_cornerAt 35 = .ok (.iinc 3 1, 3) := by decide +kernel
theorem dX2_cornerAt_38 : decode cX2_cornerAt 38 = .ok (.iinc 4 1, 3) := by decide +kernel
theorem dX2_cornerAt_41 : decode cX2_cornerAt 41 = .ok (.goto (-36), 3) := by decide +kernel
theorem dX2_cornerAt_44 : decode cX2_cornerAt 44 = .ok (.iconst (-1), 1) := by decide +kernel
theorem dX2_cornerAt_45 : decode cX2_cornerAt 45 = .ok (.ireturn, 1) := by decide +kernel
set_option maxRecDepth 20000 in
theorem ggX2_bestCorner_X2_isCornerOf : GoodIn wsX2_bestCorner wsX2_isCornerOf := goodIn_r _ [6, 7, 8, 9, 5, 10, 11, 12, 20, 21, 22, 23, 24, 25] (by decide +kernel) (by decide +kernel)
set_option maxRecDepth 20000 in
theorem gX2_bestCorner_X2_isCornerOf : GoodIn wsX2_bestCorner (wsV RX2 89 RX2 yX2_isCornerOf wsX2_isCornerOf) := goodIn_app (goodIn_of _ (by decide +kernel)) ggX2_bestCorner_X2_isCornerOf
set_option maxRecDepth 20000 in
theorem ggX2_bestCorner_X2_isBetter : GoodIn wsX2_bestCorner wsX2_isBetter := goodIn_r _ [16, 17, 18, 19, 20, 21, 22, 23, 24, 25] (by decide +kernel) (by decide +kernel)
set_option maxRecDepth 20000 in
theorem gX2_bestCorner_X2_isBetter : GoodIn wsX2_bestCorner (wsV RX2 92 RX2 yX2_isBetter wsX2_isBetter) := goodIn_app (goodIn_of _ (by decide +kernel)) ggX2_bestCorner_X2_isBetter
theorem dX2_bestCorner_0 : decode cX2_bestCorner 0 = .ok (.iconst (-1), 1) := by decide +kernel
theorem dX2_bestCorner_1 : decode cX2_bestCorner 1 = .ok (.istore 4, 2) := by decide +kernel
theorem dX2_bestCorner_3 : decode cX2_bestCorner 3 = .ok (.iconst 0, 1) := by decide +kernel
theorem dX2_bestCorner_4 : decode cX2_bestCorner 4 = .ok (.istore 5, 2) := by decide +kernel
theorem dX2_bestCorner_6 : decode cX2_bestCorner 6 = .ok (.iload 5, 2) := by decide +kernel
theorem dX2_bestCorner_8 : decode cX2_bestCorner 8 = .ok (.aload_n 0, 1) := by decide +kernel
theorem dX2_bestCorner_9 : decode cX2_bestCorner 9 = .ok (.getfield 27, 3) := by decide +kernel
theorem dX2_bestCorner_12 : decode cX2_bestCorner 12 = .ok (.if_icmp .ge 42, 3) := by decide +kernel
theorem dX2_bestCorner_15 : decode cX2_bestCorner 15 = .ok (.aload_n 0, 1) := by decide +kernel
theorem dX2_bestCorner_16 : decode cX2_bestCorner 16 = .ok (.iload 5, 2) := by decide +kernel
theorem dX2_bestCorner_18 : decode cX2_bestCorner 18 = .ok (.iload_n 1, 1) := by decide +kernel
theorem dX2_bestCorner_19 : decode cX2_bestCorner 19 = .ok (.invokevirtual 89, 3) := by decide +kernel
