theorem dX4_pairs_57 : decode cX4_pairs 57 = .ok (.iload_n 1, 1) := by decide +kernel
theorem dX4_pairs_58 : decode cX4_pairs 58 = .ok (.ireturn, 1) := by decide +kernel
set_option maxRecDepth 20000 in
theorem ggX4_pair_X4_checkPlace : GoodIn wsX4_pair wsX4_checkPlace := goodIn_ca (goodIn_r _ [6, 7, 8] (by decide +kernel) (by decide +kernel)) (goodIn_sub (fun _ h => List.mem_cons_of_mem _ (List.mem_append_right _ h)) (by decide +kernel))
set_option maxRecDepth 20000 in
theorem gX4_pair_X4_checkPlace : GoodIn wsX4_pair (va_wsS RX4 141 yX4_checkPlace wsX4_checkPlace) := goodIn_app (goodIn_of _ (by decide +kernel)) ggX4_pair_X4_checkPlace
set_option maxRecDepth 20000 in
theorem ggX4_pair_X1_count : GoodIn wsX4_pair wsX1_count := goodIn_r _ [13, 14, 35, 36, 37, 38] (by decide +kernel) (by decide +kernel)
set_option maxRecDepth 20000 in
theorem gX4_pair_X1_count : GoodIn wsX4_pair (wsV RX4 68 RX1 yX1_count wsX1_count) := goodIn_app (goodIn_of _ (by decide +kernel)) ggX4_pair_X1_count
set_option maxRecDepth 20000 in
theorem ggX4_pair_X2_isLowestPair : GoodIn wsX4_pair wsX2_isLowestPair := goodIn_r _ [19, 20, 21, 22, 23, 24, 18, 25, 26, 5, 27, 28, 29, 30, 39, 40, 41, 42, 43, 44] (by decide +kernel) (by decide +kernel)
set_option maxRecDepth 20000 in
theorem gX4_pair_X2_isLowestPair : GoodIn wsX4_pair (wsV RX4 168 RX2 yX2_isLowestPair wsX2_isLowestPair) := goodIn_app (goodIn_of _ (by decide +kernel)) ggX4_pair_X2_isLowestPair
set_option maxRecDepth 20000 in
theorem ggX4_pair_X4_bit : GoodIn wsX4_pair wsX4_bit := goodIn_r _ [30] (by decide +kernel) (by decide +kernel)
set_option maxRecDepth 20000 in
theorem gX4_pair_X4_bit : GoodIn wsX4_pair (va_wsS RX4 172 yX4_bit wsX4_bit) := goodIn_app (goodIn_of _ (by decide +kernel)) ggX4_pair_X4_bit
theorem dX4_pair_0 : decode cX4_pair 0 = .ok (.iload_n 1, 1) := by decide +kernel
theorem dX4_pair_1 : decode cX4_pair 1 = .ok (.invokestatic 141, 3) := by decide +kernel
theorem dX4_pair_4 : decode cX4_pair 4 = .ok (.iconst 0, 1) := by decide +kernel
theorem dX4_pair_5 : decode cX4_pair 5 = .ok (.istore_n 2, 1) := by decide +kernel
theorem dX4_pair_6 : decode cX4_pair 6 = .ok (.iconst 0, 1) := by decide +kernel
theorem dX4_pair_7 : decode cX4_pair 7 = .ok (.istore_n 3, 1) := by decide +kernel
theorem dX4_pair_8 : decode cX4_pair 8 = .ok (.iload_n 3, 1) := by decide +kernel
theorem dX4_pair_9 : decode cX4_pair 9 = .ok (.aload_n 0, 1) := by decide +kernel
theorem dX4_pair_10 : decode cX4_pair 10 = .ok (.getfield 10, 3) := by decide +kernel
theorem dX4_pair_13 : decode cX4_pair 13 = .ok (.invokevirtual 68, 3) := by decide +kernel
theorem dX4_pair_16 : decode cX4_pair 16 = .ok (.if_icmp .ge 67, 3) := by decide +kernel
theorem dX4_pair_19 : decode cX4_pair 19 = .ok (.iload_n 3, 1) := by decide +kernel
theorem dX4_pair_20 : decode cX4_pair 20 = .ok (.iconst 1, 1) := by decide +kernel
theorem dX4_pair_21 : decode cX4_pair 21 = .ok (.iadd, 1) := by decide +kernel
theorem dX4_pair_22 : decode cX4_pair 22 = .ok (.istore 4, 2) := by decide +kernel
theorem dX4_pair_24 : decode cX4_pair 24 = .ok (.iload 4, 2) := by decide +kernel
theorem dX4_pair_26 : decode cX4_pair 26 = .ok (.aload_n 0, 1) := by decide +kernel
theorem dX4_pair_27 : decode cX4_pair 27 = .ok (.getfield 10, 3) := by decide +kernel
theorem dX4_pair_30 : decode cX4_pair 30 = .ok (.invokevirtual 68, 3) := by decide +kernel
theorem dX4_pair_33 : decode cX4_pair 33 = .ok (.if_icmp .ge 44, 3) := by decide +kernel
theorem dX4_pair_36 : decode cX4_pair 36 = .ok (.aload_n 0, 1) := by decide +kernel
theorem dX4_pair_37 : decode cX4_pair 37 = .ok (.getfield 19, 3) := by decide +kernel
theorem dX4_pair_40 : decode cX4_pair 40 = .ok (.iload_n 3, 1) := by decide +kernel
theorem dX4_pair_41 : decode cX4_pair 41 = .ok (.iload 4, 2) := by decide +kernel
theorem dX4_pair_43 : decode cX4_pair 43 = .ok (.invokevirtual 168, 3) := by decide +kernel
theorem dX4_pair_46 : decode cX4_pair 46 = .ok (.ifCond .ne 6, 3) := by decide +kernel
theorem dX4_pair_49 : decode cX4_pair 49 = .ok (.goto 22, 3) := by decide +kernel
theorem dX4_pair_52 : decode cX4_pair 52 = .ok (.iload_n 2, 1) := by decide +kernel
theorem dX4_pair_53 : decode cX4_pair 53 = .ok (.iload_n 1, 1) := by decide +kernel
theorem dX4_pair_54 : decode cX4_pair 54 = .ok (.if_icmp .ne 14, 3) := by decide +kernel
theorem dX4_pair_57 : decode cX4_pair 57 = .ok (.iload_n 3, 1) := by decide +kernel
theorem dX4_pair_58 : decode cX4_pair 58 = .ok (.invokestatic 172, 3) := by decide +kernel
theorem dX4_pair_61 : decode cX4_pair 61 = .ok (.iload 4, 2) := by decide +kernel
theorem dX4_pair_63 : decode cX4_pair 63 = .ok (.invokestatic 172, 3) := by decide +kernel
theorem dX4_pair_66 : decode cX4_pair 66 = .ok (.ior, 1) := by decide +kernel
theorem dX4_pair_67 : decode cX4_pair 67 = .ok (.ireturn, 1) := by decide +kernel
theorem dX4_pair_68 : decode cX4_pair 68 = .ok (.iinc 2 1, 3) := by decide +kernel
theorem dX4_pair_71 : decode cX4_pair 71 = .ok (.iinc 4 1, 3) := by decide +kernel
theorem dX4_pair_74 : decode cX4_pair 74 = .ok (.goto (-50), 3) := by decide +kernel
theorem dX4_pair_77 : decode cX4_pair 77 = .ok (.iinc 3 1, 3) := by decide +kernel
theorem dX4_pair_80 : decode cX4_pair 80 = .ok (.goto (-72), 3) := by decide +kernel
theorem dX4_pair_83 : decode cX4_pair 83 = .ok (.iconst (-1), 1) := by decide +kernel
theorem dX4_pair_84 : decode cX4_pair 84 = .ok (.ireturn, 1) := by decide +kernel
set_option maxRecDepth 20000 in
theorem ggX4_edge_X4_isDot : GoodIn wsX4_edge wsX4_isDot := goodIn_r _ [9] (by decide +kernel) (by decide +kernel)
set_option maxRecDepth 20000 in
theorem gX4_edge_X4_isDot : GoodIn wsX4_edge (va_wsS RX4 175 yX4_isDot wsX4_isDot) := goodIn_app (goodIn_of _ (by decide +kernel)) ggX4_edge_X4_isDot
set_option maxRecDepth 20000 in
theorem ggX4_edge_X0_turn : GoodIn wsX4_edge wsX0_turn := goodIn_r _ [14, 15, 16, 17, 13, 18, 19, 20, 21, 37] (by decide +kernel) (by decide +kernel)
set_option maxRecDepth 20000 in
theorem gX4_edge_X0_turn : GoodIn wsX4_edge (wsV RX4 185 RX0 yX0_turn wsX0_turn) := goodIn_app (goodIn_of _ (by decide +kernel)) ggX4_edge_X0_turn
set_option maxRecDepth 20000 in
theorem ggX4_edge_X0_count : GoodIn wsX4_edge wsX0_count := goodIn_r _ [25, 15, 26, 27, 28, 29, 30, 31, 32, 37] (by decide +kernel) (by decide +kernel)
set_option maxRecDepth 20000 in
theorem gX4_edge_X0_count : GoodIn wsX4_edge (wsV RX4 189 RX0 yX0_count wsX0_count) := goodIn_app (goodIn_of _ (by decide +kernel)) ggX4_edge_X0_count
theorem dX4_edge_0 : decode cX4_edge 0 = .ok (.iload_n 1, 1) := by decide +kernel
theorem dX4_edge_1 : decode cX4_edge 1 = .ok (.invokestatic 175, 3) := by decide +kernel
theorem dX4_edge_4 : decode cX4_edge 4 = .ok (.ifCond .eq 10, 3) := by decide +kernel
theorem dX4_edge_7 : decode cX4_edge 7 = .ok (.iload_n 2, 1) := by decide +kernel
theorem dX4_edge_8 : decode cX4_edge 8 = .ok (.invokestatic 175, 3) := by decide +kernel
theorem dX4_edge_11 : decode cX4_edge 11 = .ok (.ifCond .ne 13, 3) := by decide +kernel
theorem dX4_edge_14 : decode cX4_edge 14 = .ok (.new 178, 3) := by decide +kernel
theorem dX4_edge_17 : decode cX4_edge 17 = .ok (.dup, 1) := by decide +kernel
theorem dX4_edge_18 : decode cX4_edge 18 = .ok (.ldc 180, 2) := by decide +kernel
theorem dX4_edge_20 : decode cX4_edge 20 = .ok (.invokespecial 182, 3) := by decide +kernel
theorem dX4_edge_23 : decode cX4_edge 23 = .ok (.athrow, 1) := by decide +kernel
theorem dX4_edge_24 : decode cX4_edge 24 = .ok (.iload_n 1, 1) := by decide +kernel
theorem dX4_edge_25 : decode cX4_edge 25 = .ok (.iload_n 2, 1) := by decide +kernel
theorem dX4_edge_26 : decode cX4_edge 26 = .ok (.if_icmp .ne 13, 3) := by decide +kernel
theorem dX4_edge_29 : decode cX4_edge 29 = .ok (.new 41, 3) := by decide +kernel
theorem dX4_edge_32 : decode cX4_edge 32 = .ok (.dup, 1) := by decide +kernel
theorem dX4_edge_33 : decode cX4_edge 33 = .ok (.ldc 183, 2) := by decide +kernel
theorem dX4_edge_35 : decode cX4_edge 35 = .ok (.invokespecial 45, 3) := by decide +kernel
theorem dX4_edge_38 : decode cX4_edge 38 = .ok (.athrow, 1) := by decide +kernel
theorem dX4_edge_39 : decode cX4_edge 39 = .ok (.aload_n 0, 1) := by decide +kernel
theorem dX4_edge_40 : decode cX4_edge 40 = .ok (.getfield 33, 3) := by decide +kernel
theorem dX4_edge_43 : decode cX4_edge 43 = .ok (.iload_n 1, 1) := by decide +kernel
theorem dX4_edge_44 : decode cX4_edge 44 = .ok (.iload_n 2, 1) := by decide +kernel
theorem dX4_edge_45 : decode cX4_edge 45 = .ok (.invokevirtual 185, 3) := by decide +kernel
theorem dX4_edge_48 : decode cX4_edge 48 = .ok (.aload_n 0, 1) := by decide +kernel
theorem dX4_edge_49 : decode cX4_edge 49 = .ok (.getfield 33, 3) := by decide +kernel
theorem dX4_edge_52 : decode cX4_edge 52 = .ok (.invokevirtual 189, 3) := by decide +kernel
theorem dX4_edge_55 : decode cX4_edge 55 = .ok (.ireturn, 1) := by decide +kernel
set_option maxRecDepth 20000 in
theorem ggX4_colourings_X4_checkColours : GoodIn wsX4_colourings wsX4_checkColours := goodIn_ca (goodIn_r _ [5, 6, 7] (by decide +kernel) (by decide +kernel)) (goodIn_sub (fun _ h => List.mem_cons_of_mem _ (List.mem_append_right _ h)) (by decide +kernel))
set_option maxRecDepth 20000 in
theorem gX4_colourings_X4_checkColours : GoodIn wsX4_colourings (va_wsS RX4 190 yX4_checkColours wsX4_checkColours) := goodIn_app (goodIn_of _ (by decide +kernel)) ggX4_colourings_X4_checkColours
set_option maxRecDepth 20000 in
theorem ggX4_colourings_X0_tryAllColours : GoodIn wsX4_colourings wsX0_tryAllColours := goodIn_r _ [12, 13, 14, 15, 11, 16, 17, 18, 19, 20, 21, 22, 27] (by decide +kernel) (by decide +kernel)
set_option maxRecDepth 20000 in
theorem gX4_colourings_X0_tryAllColours : GoodIn wsX4_colourings (wsV RX4 193 RX0 yX0_tryAllColours wsX0_tryAllColours) := goodIn_app (goodIn_of _ (by decide +kernel)) ggX4_colourings_X0_tryAllColours
theorem dX4_colourings_0 : decode cX4_colourings 0 = .ok (.iload_n 1, 1) := by decide +kernel
theorem dX4_colourings_1 : decode cX4_colourings 1 = .ok (.invokestatic 190, 3) := by decide +kernel
theorem dX4_colourings_4 : decode cX4_colourings 4 = .ok (.aload_n 0, 1) := by decide +kernel
theorem dX4_colourings_5 : decode cX4_colourings 5 = .ok (.getfield 33, 3) := by decide +kernel
theorem dX4_colourings_8 : decode cX4_colourings 8 = .ok (.iload_n 1, 1) := by decide +kernel
theorem dX4_colourings_9 : decode cX4_colourings 9 = .ok (.invokevirtual 193, 3) := by decide +kernel
theorem dX4_colourings_12 : decode cX4_colourings 12 = .ok (.ireturn, 1) := by decide +kernel
set_option maxRecDepth 20000 in
theorem ggX4_colouringsAnew_X4_checkColours : GoodIn wsX4_colouringsAnew wsX4_checkColours := goodIn_ca (goodIn_r _ [5, 6, 7] (by decide +kernel) (by decide +kernel)) (goodIn_sub (fun _ h => List.mem_cons_of_mem _ (List.mem_append_right _ h)) (by decide +kernel))
set_option maxRecDepth 20000 in
theorem gX4_colouringsAnew_X4_checkColours : GoodIn wsX4_colouringsAnew (va_wsS RX4 190 yX4_checkColours wsX4_checkColours) := goodIn_app (goodIn_of _ (by decide +kernel)) ggX4_colouringsAnew_X4_checkColours
set_option maxRecDepth 20000 in
theorem ggX4_colouringsAnew_X0_takeApart : GoodIn wsX4_colouringsAnew wsX0_takeApart := goodIn_r _ [12, 13, 14, 15, 11, 16, 17, 18, 19, 20, 21, 22, 23, 24, 25, 26, 27, 28, 29, 30, 4, 31, 32, 33, 34, 35, 36, 37, 38, 39, 40, 41, 42, 43, 48] (by decide +kernel) (by decide +kernel)
set_option maxRecDepth 20000 in
theorem gX4_colouringsAnew_X0_takeApart : GoodIn wsX4_colouringsAnew (wsV RX4 196 RX0 yX0_takeApart wsX0_takeApart) := goodIn_app (goodIn_of _ (by decide +kernel)) ggX4_colouringsAnew_X0_takeApart
theorem dX4_colouringsAnew_0 : decode cX4_colouringsAnew 0 = .ok (.iload_n 1, 1) := by decide +kernel
theorem dX4_colouringsAnew_1 : decode cX4_colouringsAnew 1 = .ok (.invokestatic 190, 3) := by decide +kernel
theorem dX4_colouringsAnew_4 : decode cX4_colouringsAnew 4 = .ok (.aload_n 0, 1) := by decide +kernel
theorem dX4_colouringsAnew_5 : decode cX4_colouringsAnew 5 = .ok (.getfield 33, 3) := by decide +kernel
theorem dX4_colouringsAnew_8 : decode cX4_colouringsAnew 8 = .ok (.iload_n 1, 1) := by decide +kernel
theorem dX4_colouringsAnew_9 : decode cX4_colouringsAnew 9 = .ok (.invokevirtual 196, 3) := by decide +kernel
theorem dX4_colouringsAnew_12 : decode cX4_colouringsAnew 12 = .ok (.ireturn, 1) := by decide +kernel
set_option maxRecDepth 20000 in
theorem ggX4_directions_X0_tryAllDirections : GoodIn wsX4_directions wsX0_tryAllDirections := goodIn_r _ [6, 7, 8, 9, 5, 10, 11, 12, 13, 14, 15, 16, 17, 18, 19, 20, 21, 22, 23, 24, 25, 26, 27, 28, 29, 30, 31, 32, 33, 34, 35, 40] (by decide +kernel) (by decide +kernel)
set_option maxRecDepth 20000 in
theorem gX4_directions_X0_tryAllDirections : GoodIn wsX4_directions (wsV RX4 199 RX0 yX0_tryAllDirections wsX0_tryAllDirections) := goodIn_app (goodIn_of _ (by decide +kernel)) ggX4_directions_X0_tryAllDirections
theorem dX4_directions_0 : decode cX4_directions 0 = .ok (.aload_n 0, 1) := by decide +kernel
theorem dX4_directions_1 : decode cX4_directions 1 = .ok (.getfield 33, 3) := by decide +kernel
theorem dX4_directions_4 : decode cX4_directions 4 = .ok (.invokevirtual 199, 3) := by decide +kernel
theorem dX4_directions_7 : decode cX4_directions 7 = .ok (.ireturn, 1) := by decide +kernel
set_option maxRecDepth 20000 in
theorem ggX4_directionsAnew_X0_takeApart : GoodIn wsX4_directionsAnew wsX0_takeApart := goodIn_r _ [6, 7, 8, 9, 5, 10, 11, 12, 13, 14, 15, 16, 17, 18, 19, 20, 21, 22, 23, 24, 25, 26, 27, 28, 29, 30, 31, 32, 33, 34, 35, 36, 37, 38, 43] (by decide +kernel) (by decide +kernel)
set_option maxRecDepth 20000 in
theorem gX4_directionsAnew_X0_takeApart : GoodIn wsX4_directionsAnew (wsV RX4 196 RX0 yX0_takeApart wsX0_takeApart) := goodIn_app (goodIn_of _ (by decide +kernel)) ggX4_directionsAnew_X0_takeApart
theorem dX4_directionsAnew_0 : decode cX4_directionsAnew 0 = .ok (.aload_n 0, 1) := by decide +kernel
theorem dX4_directionsAnew_1 : decode cX4_directionsAnew 1 = .ok (.getfield 33, 3) := by decide +kernel
theorem dX4_directionsAnew_4 : decode cX4_directionsAnew 4 = .ok (.iconst (-1), 1) := by decide +kernel
theorem dX4_directionsAnew_5 : decode cX4_directionsAnew 5 = .ok (.invokevirtual 196, 3) := by decide +kernel
theorem dX4_directionsAnew_8 : decode cX4_directionsAnew 8 = .ok (.ireturn, 1) := by decide +kernel
set_option maxRecDepth 20000 in
theorem ggX4_lookAnew_X2_find : GoodIn wsX4_lookAnew wsX2_find := goodIn_r _ [8, 9, 10, 11, 12, 13, 14, 15, 16, 17, 18, 19, 20, 21, 22, 23, 24, 25, 26, 27, 28, 29, 30, 31, 32, 33, 34, 35, 36, 37, 38, 39, 40, 7, 41, 42, 43, 44, 45, 46, 47, 48, 49, 50, 51, 52, 53, 54, 55, 56, 57, 58, 59, 60, 61, 62, 63, 64, 65, 139, 140, 141, 142, 143, 144, 145, 146, 147, 148] (by decide +kernel) (by decide +kernel)
set_option maxRecDepth 20000 in
theorem gX4_lookAnew_X2_find : GoodIn wsX4_lookAnew (wsV RX4 202 RX2 yX2_find wsX2_find) := goodIn_app (goodIn_of _ (by decide +kernel)) ggX4_lookAnew_X2_find
set_option maxRecDepth 20000 in
theorem ggX4_lookAnew_X3_find : GoodIn wsX4_lookAnew wsX3_find := goodIn_r _ [70, 71, 72, 15, 16, 17, 18, 19, 73, 74, 75, 69, 76, 77, 78, 79, 7, 80, 9, 81, 82, 83, 84, 42, 85, 27, 86, 87, 26, 28, 88, 89, 90, 91, 92, 93, 94, 95, 25, 96, 97, 98, 99, 24, 100, 101, 102, 103, 13, 104, 105, 106, 107, 11, 108, 109, 110, 111, 12, 112, 59, 60, 61, 62, 63, 64, 65, 33, 113, 114, 115, 116, 117, 118, 119, 120, 121, 122, 123, 124, 125, 126, 127, 128, 129, 130, 131, 132, 133, 134, 149, 150, 151, 152, 145, 146, 147, 148, 139, 140, 141, 142, 143, 144] (by decide +kernel) (by decide +kernel)
set_option maxRecDepth 20000 in
theorem gX4_lookAnew_X3_find : GoodIn wsX4_lookAnew (wsV RX4 206 RX3 yX3_find wsX3_find) := goodIn_app (goodIn_of _ (by decide +kernel)) ggX4_lookAnew_X3_find
theorem dX4_lookAnew_0 : decode cX4_lookAnew 0 = .ok (.aload_n 0, 1) := by decide +kernel
theorem dX4_lookAnew_1 : decode cX4_lookAnew 1 = .ok (.getfield 19, 3) := by decide +kernel
theorem dX4_lookAnew_4 : decode cX4_lookAnew 4 = .ok (.aload_n 0, 1) := by decide +kernel
theorem dX4_lookAnew_5 : decode cX4_lookAnew 5 = .ok (.getfield 10, 3) := by decide +kernel
theorem dX4_lookAnew_8 : decode cX4_lookAnew 8 = .ok (.invokevirtual 202, 3) := by decide +kernel
theorem dX4_lookAnew_11 : decode cX4_lookAnew 11 = .ok (.aload_n 0, 1) := by decide +kernel
theorem dX4_lookAnew_12 : decode cX4_lookAnew 12 = .ok (.getfield 26, 3) := by decide +kernel
theorem dX4_lookAnew_15 : decode cX4_lookAnew 15 = .ok (.aload_n 0, 1) := by decide +kernel
theorem dX4_lookAnew_16 : decode cX4_lookAnew 16 = .ok (.getfield 10, 3) := by decide +kernel
theorem dX4_lookAnew_19 : decode cX4_lookAnew 19 = .ok (.aload_n 0, 1) := by decide +kernel
theorem dX4_lookAnew_20 : decode cX4_lookAnew 20 = .ok (.getfield 19, 3) := by decide +kernel
theorem dX4_lookAnew_23 : decode cX4_lookAnew 23 = .ok (.invokevirtual 206, 3) := by decide +kernel
theorem dX4_lookAnew_26 : decode cX4_lookAnew 26 = .ok (.return_, 1) := by decide +kernel
set_option maxRecDepth 20000 in
theorem ggX4_numberWithPower_X1_count : GoodIn wsX4_numberWithPower wsX1_count := goodIn_r _ [6, 7, 12, 13, 14, 15] (by decide +kernel) (by decide +kernel)
set_option maxRecDepth 20000 in
theorem gX4_numberWithPower_X1_count : GoodIn wsX4_numberWithPower (wsV RX4 68 RX1 yX1_count wsX1_count) := goodIn_app (goodIn_of _ (by decide +kernel)) ggX4_numberWithPower_X1_count
theorem dX4_numberWithPower_0 : decode cX4_numberWithPower 0 = .ok (.iload_n 1, 1) := by decide +kernel
theorem dX4_numberWithPower_1 : decode cX4_numberWithPower 1 = .ok (.iconst 2, 1) := by decide +kernel
theorem dX4_numberWithPower_2 : decode cX4_numberWithPower 2 = .ok (.if_icmp .ne 5, 3) := by decide +kernel
theorem dX4_numberWithPower_5 : decode cX4_numberWithPower 5 = .ok (.iconst 1, 1) := by decide +kernel
theorem dX4_numberWithPower_6 : decode cX4_numberWithPower 6 = .ok (.ireturn, 1) := by decide +kernel
theorem dX4_numberWithPower_7 : decode cX4_numberWithPower 7 = .ok (.iload_n 1, 1) := by decide +kernel
theorem dX4_numberWithPower_8 : decode cX4_numberWithPower 8 = .ok (.iconst 1, 1) := by decide +kernel
theorem dX4_numberWithPower_9 : decode cX4_numberWithPower 9 = .ok (.if_icmp .ne 14, 3) := by decide +kernel
theorem dX4_numberWithPower_12 : decode cX4_numberWithPower 12 = .ok (.aload_n 0, 1) := by decide +kernel
theorem dX4_numberWithPower_13 : decode cX4_numberWithPower 13 = .ok (.getfield 10, 3) := by decide +kernel
theorem dX4_numberWithPower_16 : decode cX4_numberWithPower 16 = .ok (.invokevirtual 68, 3) := by decide +kernel
theorem dX4_numberWithPower_19 : decode cX4_numberWithPower 19 = .ok (.ineg, 1) := by decide +kernel
theorem dX4_numberWithPower_20 : decode cX4_numberWithPower 20 = .ok (.goto 4, 3) := by decide +kernel
theorem dX4_numberWithPower_23 : decode cX4_numberWithPower 23 = .ok (.iload_n 2, 1) := by decide +kernel
theorem dX4_numberWithPower_24 : decode cX4_numberWithPower 24 = .ok (.ireturn, 1) := by decide +kernel
set_option maxRecDepth 20000 in
theorem ggX4_checkLine_X1_count : GoodIn wsX4_checkLine wsX1_count := goodIn_r _ [8, 9, 14, 15, 16, 17] (by decide +kernel) (by decide +kernel)
set_option maxRecDepth 20000 in
theorem gX4_checkLine_X1_count : GoodIn wsX4_checkLine (wsV RX4 68 RX1 yX1_count wsX1_count) := goodIn_app (goodIn_of _ (by decide +kernel)) ggX4_checkLine_X1_count
theorem dX4_checkLine_0 : decode cX4_checkLine 0 = .ok (.iload_n 1, 1) := by decide +kernel
theorem dX4_checkLine_1 : decode cX4_checkLine 1 = .ok (.ifCond .lt 14, 3) := by decide +kernel
theorem dX4_checkLine_4 : decode cX4_checkLine 4 = .ok (.iload_n 1, 1) := by decide +kernel
theorem dX4_checkLine_5 : decode cX4_checkLine 5 = .ok (.aload_n 0, 1) := by decide +kernel
theorem dX4_checkLine_6 : decode cX4_checkLine 6 = .ok (.getfield 10, 3) := by decide +kernel
theorem dX4_checkLine_9 : decode cX4_checkLine 9 = .ok (.invokevirtual 68, 3) := by decide +kernel
theorem dX4_checkLine_12 : decode cX4_checkLine 12 = .ok (.if_icmp .lt 13, 3) := by decide +kernel
theorem dX4_checkLine_15 : decode cX4_checkLine 15 = .ok (.new 178, 3) := by decide +kernel
theorem dX4_checkLine_18 : decode cX4_checkLine 18 = .ok (.dup, 1) := by decide +kernel
theorem dX4_checkLine_19 : decode cX4_checkLine 19 = .ok (.ldc 209, 2) := by decide +kernel
theorem dX4_checkLine_21 : decode cX4_checkLine 21 = .ok (.invokespecial 182, 3) := by decide +kernel
theorem dX4_checkLine_24 : decode cX4_checkLine 24 = .ok (.athrow, 1) := by decide +kernel
theorem dX4_checkLine_25 : decode cX4_checkLine 25 = .ok (.return_, 1) := by decide +kernel
set_option maxRecDepth 20000 in
theorem ggX4_checkMeet_X2_count : GoodIn wsX4_checkMeet wsX2_count := goodIn_r _ [8, 9, 14, 15, 16, 17, 18, 19] (by decide +kernel) (by decide +kernel)
set_option maxRecDepth 20000 in
theorem gX4_checkMeet_X2_count : GoodIn wsX4_checkMeet (wsV RX4 79 RX2 yX2_count wsX2_count) := goodIn_app (goodIn_of _ (by decide +kernel)) ggX4_checkMeet_X2_count
theorem dX4_checkMeet_0 : decode cX4_checkMeet 0 = .ok (.iload_n 1, 1) := by decide +kernel
theorem dX4_checkMeet_1 : decode cX4_checkMeet 1 = .ok (.ifCond .lt 14, 3) := by decide +kernel
theorem dX4_checkMeet_4 : decode cX4_checkMeet 4 = .ok (.iload_n 1, 1) := by decide +kernel
theorem dX4_checkMeet_5 : decode cX4_checkMeet 5 = .ok (.aload_n 0, 1) := by decide +kernel
theorem dX4_checkMeet_6 : decode cX4_checkMeet 6 = .ok (.getfield 19, 3) := by decide +kernel
theorem dX4_checkMeet_9 : decode cX4_checkMeet 9 = .ok (.invokevirtual 79, 3) := by decide +kernel
theorem dX4_checkMeet_12 : decode cX4_checkMeet 12 = .ok (.if_icmp .lt 13, 3) := by decide +kernel
theorem dX4_checkMeet_15 : decode cX4_checkMeet 15 = .ok (.new 178, 3) := by decide +kernel
theorem dX4_checkMeet_18 : decode cX4_checkMeet 18 = .ok (.dup, 1) := by decide +kernel
theorem dX4_checkMeet_19 : decode cX4_checkMeet 19 = .ok (.ldc 211, 2) := by decide +kernel
theorem dX4_checkMeet_21 : decode cX4_checkMeet 21 = .ok (.invokespecial 182, 3) := by decide +kernel
theorem dX4_checkMeet_24 : decode cX4_checkMeet 24 = .ok (.athrow, 1) := by decide +kernel
theorem dX4_checkMeet_25 : decode cX4_checkMeet 25 = .ok (.return_, 1) := by decide +kernel
set_option maxRecDepth 20000 in
theorem ggX4_checkRoom_X3_count : GoodIn wsX4_checkRoom wsX3_count := goodIn_r _ [8, 9, 14, 15, 16, 17] (by decide +kernel) (by decide +kernel)
set_option maxRecDepth 20000 in
theorem gX4_checkRoom_X3_count : GoodIn wsX4_checkRoom (wsV RX4 120 RX3 yX3_count wsX3_count) := goodIn_app (goodIn_of _ (by decide +kernel)) ggX4_checkRoom_X3_count
theorem dX4_checkRoom_0 : decode cX4_checkRoom 0 = .ok (.iload_n 1, 1) := by decide +kernel
theorem dX4_checkRoom_1 : decode cX4_checkRoom 1 = .ok (.ifCond .lt 14, 3) := by decide +kernel
theorem dX4_checkRoom_4 : decode cX4_checkRoom 4 = .ok (.iload_n 1, 1) := by decide +kernel
theorem dX4_checkRoom_5 : decode cX4_checkRoom 5 = .ok (.aload_n 0, 1) := by decide +kernel
theorem dX4_checkRoom_6 : decode cX4_checkRoom 6 = .ok (.getfield 26, 3) := by decide +kernel
theorem dX4_checkRoom_9 : decode cX4_checkRoom 9 = .ok (.invokevirtual 120, 3) := by decide +kernel
theorem dX4_checkRoom_12 : decode cX4_checkRoom 12 = .ok (.if_icmp .lt 13, 3) := by decide +kernel
theorem dX4_checkRoom_15 : decode cX4_checkRoom 15 = .ok (.new 178, 3) := by decide +kernel
theorem dX4_checkRoom_18 : decode cX4_checkRoom 18 = .ok (.dup, 1) := by decide +kernel
theorem dX4_checkRoom_19 : decode cX4_checkRoom 19 = .ok (.ldc 213, 2) := by decide +kernel
theorem dX4_checkRoom_21 : decode cX4_checkRoom 21 = .ok (.invokespecial 182, 3) := by decide +kernel
theorem dX4_checkRoom_24 : decode cX4_checkRoom 24 = .ok (.athrow, 1) := by decide +kernel
theorem dX4_checkRoom_25 : decode cX4_checkRoom 25 = .ok (.return_, 1) := by decide +kernel
theorem dX4_checkPlace_0 : decode cX4_checkPlace 0 = .ok (.iload_n 0, 1) := by decide +kernel
theorem dX4_checkPlace_1 : decode cX4_checkPlace 1 = .ok (.ifCond .ge 13, 3) := by decide +kernel
theorem dX4_checkPlace_4 : decode cX4_checkPlace 4 = .ok (.new 178, 3) := by decide +kernel
theorem dX4_checkPlace_7 : decode cX4_checkPlace 7 = .ok (.dup, 1) := by decide +kernel
theorem dX4_checkPlace_8 : decode cX4_checkPlace 8 = .ok (.ldc 215, 2) := by decide +kernel
theorem dX4_checkPlace_10 : decode cX4_checkPlace 10 = .ok (.invokespecial 182, 3) := by decide +kernel
theorem dX4_checkPlace_13 : decode cX4_checkPlace 13 = .ok (.athrow, 1) := by decide +kernel
theorem dX4_checkPlace_14 : decode cX4_checkPlace 14 = .ok (.return_, 1) := by decide +kernel
theorem dX4_checkPower_0 : decode cX4_checkPower 0 = .ok (.iload_n 0, 1) := by decide +kernel
theorem dX4_checkPower_1 : decode cX4_checkPower 1 = .ok (.ifCond .lt 8, 3) := by decide +kernel
theorem dX4_checkPower_4 : decode cX4_checkPower 4 = .ok (.iload_n 0, 1) := by decide +kernel
theorem dX4_checkPower_5 : decode cX4_checkPower 5 = .ok (.iconst 2, 1) := by decide +kernel
theorem dX4_checkPower_6 : decode cX4_checkPower 6 = .ok (.if_icmp .le 13, 3) := by decide +kernel
theorem dX4_checkPower_9 : decode cX4_checkPower 9 = .ok (.new 41, 3) := by decide +kernel
theorem dX4_checkPower_12 : decode cX4_checkPower 12 = .ok (.dup, 1) := by decide +kernel
theorem dX4_checkPower_13 : decode cX4_checkPower 13 = .ok (.ldc 217, 2) := by decide +kernel
theorem dX4_checkPower_15 : decode cX4_checkPower 15 = .ok (.invokespecial 45, 3) := by decide +kernel
theorem dX4_checkPower_18 : decode cX4_checkPower 18 = .ok (.athrow, 1) := by decide +kernel
theorem dX4_checkPower_19 : decode cX4_checkPower 19 = .ok (.return_, 1) := by decide +kernel
theorem dX4_checkColours_0 : decode cX4_checkColours 0 = .ok (.iload_n 0, 1) := by decide +kernel
theorem dX4_checkColours_1 : decode cX4_checkColours 1 = .ok (.ifCond .lt 9, 3) := by decide +kernel
theorem dX4_checkColours_4 : decode cX4_checkColours 4 = .ok (.iload_n 0, 1) := by decide +kernel
theorem dX4_checkColours_5 : decode cX4_checkColours 5 = .ok (.bipush 6, 2) := by decide +kernel
theorem dX4_checkColours_7 : decode cX4_checkColours 7 = .ok (.if_icmp .le 13, 3) := by decide +kernel
theorem dX4_checkColours_10 : decode cX4_checkColours 10 = .ok (.new 41, 3) := by decide +kernel
theorem dX4_checkColours_13 : decode cX4_checkColours 13 = .ok (.dup, 1) := by decide +kernel
theorem dX4_checkColours_14 : decode cX4_checkColours 14 = .ok (.ldc 219, 2) := by decide +kernel
theorem dX4_checkColours_16 : decode cX4_checkColours 16 = .ok (.invokespecial 45, 3) := by decide +kernel
theorem dX4_checkColours_19 : decode cX4_checkColours 19 = .ok (.athrow, 1) := by decide +kernel
theorem dX4_checkColours_20 : decode cX4_checkColours 20 = .ok (.return_, 1) := by decide +kernel
theorem dX4_isTooFar_0 : decode cX4_isTooFar 0 = .ok (.iload_n 0, 1) := by decide +kernel
theorem dX4_isTooFar_1 : decode cX4_isTooFar 1 = .ok (.bipush (-9), 2) := by decide +kernel
theorem dX4_isTooFar_3 : decode cX4_isTooFar 3 = .ok (.if_icmp .lt 9, 3) := by decide +kernel
theorem dX4_isTooFar_6 : decode cX4_isTooFar 6 = .ok (.iload_n 0, 1) := by decide +kernel
theorem dX4_isTooFar_7 : decode cX4_isTooFar 7 = .ok (.bipush 9, 2) := by decide +kernel
theorem dX4_isTooFar_9 : decode cX4_isTooFar 9 = .ok (.if_icmp .le 7, 3) := by decide +kernel
theorem dX4_isTooFar_12 : decode cX4_isTooFar 12 = .ok (.iconst 1, 1) := by decide +kernel
theorem dX4_isTooFar_13 : decode cX4_isTooFar 13 = .ok (.goto 4, 3) := by decide +kernel
theorem dX4_isTooFar_16 : decode cX4_isTooFar 16 = .ok (.iconst 0, 1) := by decide +kernel
theorem dX4_isTooFar_17 : decode cX4_isTooFar 17 = .ok (.ireturn, 1) := by decide +kernel
theorem dX4_isDot_0 : decode cX4_isDot 0 = .ok (.iload_n 0, 1) := by decide +kernel
theorem dX4_isDot_1 : decode cX4_isDot 1 = .ok (.ifCond .lt 13, 3) := by decide +kernel
theorem dX4_isDot_4 : decode cX4_isDot 4 = .ok (.iload_n 0, 1) := by decide +kernel
theorem dX4_isDot_5 : decode cX4_isDot 5 = .ok (.bipush 6, 2) := by decide +kernel
theorem dX4_isDot_7 : decode cX4_isDot 7 = .ok (.if_icmp .ge 7, 3) := by decide +kernel
theorem dX4_isDot_10 : decode cX4_isDot 10 = .ok (.iconst 1, 1) := by decide +kernel
theorem dX4_isDot_11 : decode cX4_isDot 11 = .ok (.goto 4, 3) := by decide +kernel
theorem dX4_isDot_14 : decode cX4_isDot 14 = .ok (.iconst 0, 1) := by decide +kernel
theorem dX4_isDot_15 : decode cX4_isDot 15 = .ok (.ireturn, 1) := by decide +kernel
theorem dX4_bit_0 : decode cX4_bit 0 = .ok (.iconst 1, 1) := by decide +kernel
theorem dX4_bit_1 : decode cX4_bit 1 = .ok (.iload_n 0, 1) := by decide +kernel
theorem dX4_bit_2 : decode cX4_bit 2 = .ok (.ishl, 1) := by decide +kernel
theorem dX4_bit_3 : decode cX4_bit 3 = .ok (.ireturn, 1) := by decide +kernel
set_option maxRecDepth 20000 in
theorem ggX4_isIn_X4_bit : GoodIn wsX4_isIn wsX4_bit := goodIn_r _ [4] (by decide +kernel) (by decide +kernel)
set_option maxRecDepth 20000 in
theorem gX4_isIn_X4_bit : GoodIn wsX4_isIn (va_wsS RX4 172 yX4_bit wsX4_bit) := goodIn_app (goodIn_of _ (by decide +kernel)) ggX4_isIn_X4_bit
theorem dX4_isIn_0 : decode cX4_isIn 0 = .ok (.iload_n 0, 1) := by decide +kernel
theorem dX4_isIn_1 : decode cX4_isIn 1 = .ok (.iload_n 1, 1) := by decide +kernel
theorem dX4_isIn_2 : decode cX4_isIn 2 = .ok (.invokestatic 172, 3) := by decide +kernel
theorem dX4_isIn_5 : decode cX4_isIn 5 = .ok (.iand, 1) := by decide +kernel
theorem dX4_isIn_6 : decode cX4_isIn 6 = .ok (.ifCond .eq 7, 3) := by decide +kernel
theorem dX4_isIn_9 : decode cX4_isIn 9 = .ok (.iconst 1, 1) := by decide +kernel
theorem dX4_isIn_10 : decode cX4_isIn 10 = .ok (.goto 4, 3) := by decide +kernel
theorem dX4_isIn_13 : decode cX4_isIn 13 = .ok (.iconst 0, 1) := by decide +kernel
theorem dX4_isIn_14 : decode cX4_isIn 14 = .ok (.ireturn, 1) := by decide +kernel
theorem dJ6_bitCount_0f7a4_0 : decode cJ6_bitCount_0f7a4 0 = .ok (.iload_n 0, 1) := by decide +kernel
theorem dJ6_bitCount_0f7a4_1 : decode cJ6_bitCount_0f7a4 1 = .ok (.iload_n 0, 1) := by decide +kernel
theorem dJ6_bitCount_0f7a4_2 : decode cJ6_bitCount_0f7a4 2 = .ok (.iconst 1, 1) := by decide +kernel
theorem dJ6_bitCount_0f7a4_3 : decode cJ6_bitCount_0f7a4 3 = .ok (.iushr, 1) := by decide +kernel
theorem dJ6_bitCount_0f7a4_4 : decode cJ6_bitCount_0f7a4 4 = .ok (.ldc_w 265, 3) := by decide +kernel
theorem dJ6_bitCount_0f7a4_7 : decode cJ6_bitCount_0f7a4 7 = .ok (.iand, 1) := by decide +kernel
theorem dJ6_bitCount_0f7a4_8 : decode cJ6_bitCount_0f7a4 8 = .ok (.isub, 1) := by decide +kernel
theorem dJ6_bitCount_0f7a4_9 : decode cJ6_bitCount_0f7a4 9 = .ok (.istore_n 0, 1) := by decide +kernel
theorem dJ6_bitCount_0f7a4_10 : decode cJ6_bitCount_0f7a4 10 = .ok (.iload_n 0, 1) := by decide +kernel
theorem dJ6_bitCount_0f7a4_11 : decode cJ6_bitCount_0f7a4 11 = .ok (.ldc_w 266, 3) := by decide +kernel
theorem dJ6_bitCount_0f7a4_14 : decode cJ6_bitCount_0f7a4 14 = .ok (.iand, 1) := by decide +kernel
theorem dJ6_bitCount_0f7a4_15 : decode cJ6_bitCount_0f7a4 15 = .ok (.iload_n 0, 1) := by decide +kernel
theorem dJ6_bitCount_0f7a4_16 : decode cJ6_bitCount_0f7a4 16 = .ok (.iconst 2, 1) := by decide +kernel
theorem dJ6_bitCount_0f7a4_17 : decode cJ6_bitCount_0f7a4 17 = .ok (.iushr, 1) := by decide +kernel
theorem dJ6_bitCount_0f7a4_18 : decode cJ6_bitCount_0f7a4 18 = .ok (.ldc_w 266, 3) := by decide +kernel
theorem dJ6_bitCount_0f7a4_21 : decode cJ6_bitCount_0f7a4 21 = .ok (.iand, 1) := by decide +kernel
theorem dJ6_bitCount_0f7a4_22 : decode cJ6_bitCount_0f7a4 22 = .ok (.iadd, 1) := by decide +kernel
theorem dJ6_bitCount_0f7a4_23 : decode cJ6_bitCount_0f7a4 23 = .ok (.istore_n 0, 1) := by decide +kernel
theorem dJ6_bitCount_0f7a4_24 : decode cJ6_bitCount_0f7a4 24 = .ok (.iload_n 0, 1) := by decide +kernel
theorem dJ6_bitCount_0f7a4_25 : decode cJ6_bitCount_0f7a4 25 = .ok (.iload_n 0, 1) := by decide +kernel
theorem dJ6_bitCount_0f7a4_26 : decode cJ6_bitCount_0f7a4 26 = .ok (.iconst 4, 1) := by decide +kernel
theorem dJ6_bitCount_0f7a4_27 : decode cJ6_bitCount_0f7a4 27 = .ok (.iushr, 1) := by decide +kernel
theorem dJ6_bitCount_0f7a4_28 : decode cJ6_bitCount_0f7a4 28 = .ok (.iadd, 1) := by decide +kernel
theorem dJ6_bitCount_0f7a4_29 : decode cJ6_bitCount_0f7a4 29 = .ok (.ldc_w 267, 3) := by decide +kernel
theorem dJ6_bitCount_0f7a4_32 : decode cJ6_bitCount_0f7a4 32 = .ok (.iand, 1) := by decide +kernel
theorem dJ6_bitCount_0f7a4_33 : decode cJ6_bitCount_0f7a4 33 = .ok (.istore_n 0, 1) := by decide +kernel
theorem dJ6_bitCount_0f7a4_34 : decode cJ6_bitCount_0f7a4 34 = .ok (.iload_n 0, 1) := by decide +kernel
theorem dJ6_bitCount_0f7a4_35 : decode cJ6_bitCount_0f7a4 35 = .ok (.iload_n 0, 1) := by decide +kernel
theorem dJ6_bitCount_0f7a4_36 : decode cJ6_bitCount_0f7a4 36 = .ok (.bipush 8, 2) := by decide +kernel
theorem dJ6_bitCount_0f7a4_38 : decode cJ6_bitCount_0f7a4 38 = .ok (.iushr, 1) := by decide +kernel
theorem dJ6_bitCount_0f7a4_39 : decode cJ6_bitCount_0f7a4 39 = .ok (.iadd, 1) := by decide +kernel
theorem dJ6_bitCount_0f7a4_40 : decode cJ6_bitCount_0f7a4 40 = .ok (.istore_n 0, 1) := by decide +kernel
theorem dJ6_bitCount_0f7a4_41 : decode cJ6_bitCount_0f7a4 41 = .ok (.iload_n 0, 1) := by decide +kernel
theorem dJ6_bitCount_0f7a4_42 : decode cJ6_bitCount_0f7a4 42 = .ok (.iload_n 0, 1) := by decide +kernel
theorem dJ6_bitCount_0f7a4_43 : decode cJ6_bitCount_0f7a4 43 = .ok (.bipush 16, 2) := by decide +kernel
theorem dJ6_bitCount_0f7a4_45 : decode cJ6_bitCount_0f7a4 45 = .ok (.iushr, 1) := by decide +kernel
theorem dJ6_bitCount_0f7a4_46 : decode cJ6_bitCount_0f7a4 46 = .ok (.iadd, 1) := by decide +kernel
theorem dJ6_bitCount_0f7a4_47 : decode cJ6_bitCount_0f7a4 47 = .ok (.istore_n 0, 1) := by decide +kernel
theorem dJ6_bitCount_0f7a4_48 : decode cJ6_bitCount_0f7a4 48 = .ok (.iload_n 0, 1) := by decide +kernel
theorem dJ6_bitCount_0f7a4_49 : decode cJ6_bitCount_0f7a4 49 = .ok (.bipush 63, 2) := by decide +kernel
theorem dJ6_bitCount_0f7a4_51 : decode cJ6_bitCount_0f7a4 51 = .ok (.iand, 1) := by decide +kernel
theorem dJ6_bitCount_0f7a4_52 : decode cJ6_bitCount_0f7a4 52 = .ok (.ireturn, 1) := by decide +kernel
theorem dJ13_bitCount_95d88_0 : decode cJ13_bitCount_95d88 0 = .ok (.lload_n 0, 1) := by decide +kernel
theorem dJ13_bitCount_95d88_1 : decode cJ13_bitCount_95d88 1 = .ok (.lload_n 0, 1) := by decide +kernel
theorem dJ13_bitCount_95d88_2 : decode cJ13_bitCount_95d88 2 = .ok (.iconst 1, 1) := by decide +kernel
theorem dJ13_bitCount_95d88_3 : decode cJ13_bitCount_95d88 3 = .ok (.lushr, 1) := by decide +kernel
theorem dJ13_bitCount_95d88_4 : decode cJ13_bitCount_95d88 4 = .ok (.ldc2_w 314, 3) := by decide +kernel
theorem dJ13_bitCount_95d88_7 : decode cJ13_bitCount_95d88 7 = .ok (.land, 1) := by decide +kernel
theorem dJ13_bitCount_95d88_8 : decode cJ13_bitCount_95d88 8 = .ok (.lsub, 1) := by decide +kernel
theorem dJ13_bitCount_95d88_9 : decode cJ13_bitCount_95d88 9 = .ok (.lstore_n 0, 1) := by decide +kernel
theorem dJ13_bitCount_95d88_10 : decode cJ13_bitCount_95d88 10 = .ok (.lload_n 0, 1) := by decide +kernel
theorem dJ13_bitCount_95d88_11 : decode cJ13_bitCount_95d88 11 = .ok (.ldc2_w 316, 3) := by decide +kernel
theorem dJ13_bitCount_95d88_14 : decode cJ13_bitCount_95d88 14 = .ok (.land, 1) := by decide +kernel
theorem dJ13_bitCount_95d88_15 : decode cJ13_bitCount_95d88 15 = .ok (.lload_n 0, 1) := by decide +kernel
theorem dJ13_bitCount_95d88_16 : decode cJ13_bitCount_95d88 16 = .ok (.iconst 2, 1) := by decide +kernel
theorem dJ13_bitCount_95d88_17 : decode cJ13_bitCount_95d88 17 = .ok (.lushr, 1) := by decide +kernel
theorem dJ13_bitCount_95d88_18 : decode cJ13_bitCount_95d88 18 = .ok (.ldc2_w 316, 3) := by decide +kernel
theorem dJ13_bitCount_95d88_21 : decode cJ13_bitCount_95d88 21 = .ok (.land, 1) := by decide +kernel
theorem dJ13_bitCount_95d88_22 : decode cJ13_bitCount_95d88 22 = .ok (.ladd, 1) := by decide +kernel
theorem dJ13_bitCount_95d88_23 : decode cJ13_bitCount_95d88 23 = .ok (.lstore_n 0, 1) := by decide +kernel
theorem dJ13_bitCount_95d88_24 : decode cJ13_bitCount_95d88 24 = .ok (.lload_n 0, 1) := by decide +kernel
theorem dJ13_bitCount_95d88_25 : decode cJ13_bitCount_95d88 25 = .ok (.lload_n 0, 1) := by decide +kernel
theorem dJ13_bitCount_95d88_26 : decode cJ13_bitCount_95d88 26 = .ok (.iconst 4, 1) := by decide +kernel
theorem dJ13_bitCount_95d88_27 : decode cJ13_bitCount_95d88 27 = .ok (.lushr, 1) := by decide +kernel
theorem dJ13_bitCount_95d88_28 : decode cJ13_bitCount_95d88 28 = .ok (.ladd, 1) := by decide +kernel
theorem dJ13_bitCount_95d88_29 : decode cJ13_bitCount_95d88 29 = .ok (.ldc2_w 318, 3) := by decide +kernel
theorem dJ13_bitCount_95d88_32 : decode cJ13_bitCount_95d88 32 = .ok (.land, 1) := by decide +kernel
theorem dJ13_bitCount_95d88_33 : decode cJ13_bitCount_95d88 33 = .ok (.lstore_n 0, 1) := by decide +kernel
theorem dJ13_bitCount_95d88_34 : decode cJ13_bitCount_95d88 34 = .ok (.lload_n 0, 1) := by decide +kernel
theorem dJ13_bitCount_95d88_35 : decode cJ13_bitCount_95d88 35 = .ok (.lload_n 0, 1) := by decide +kernel
theorem dJ13_bitCount_95d88_36 : decode cJ13_bitCount_95d88 36 = .ok (.bipush 8, 2) := by decide +kernel
theorem dJ13_bitCount_95d88_38 : decode cJ13_bitCount_95d88 38 = .ok (.lushr, 1) := by decide +kernel
theorem dJ13_bitCount_95d88_39 : decode cJ13_bitCount_95d88 39 = .ok (.ladd, 1) := by decide +kernel
theorem dJ13_bitCount_95d88_40 : decode cJ13_bitCount_95d88 40 = .ok (.lstore_n 0, 1) := by decide +kernel
theorem dJ13_bitCount_95d88_41 : decode cJ13_bitCount_95d88 41 = .ok (.lload_n 0, 1) := by decide +kernel
theorem dJ13_bitCount_95d88_42 : decode cJ13_bitCount_95d88 42 = .ok (.lload_n 0, 1) := by decide +kernel
theorem dJ13_bitCount_95d88_43 : decode cJ13_bitCount_95d88 43 = .ok (.bipush 16, 2) := by decide +kernel
theorem dJ13_bitCount_95d88_45 : decode cJ13_bitCount_95d88 45 = .ok (.lushr, 1) := by decide +kernel
theorem dJ13_bitCount_95d88_46 : decode cJ13_bitCount_95d88 46 = .ok (.ladd, 1) := by decide +kernel
theorem dJ13_bitCount_95d88_47 : decode cJ13_bitCount_95d88 47 = .ok (.lstore_n 0, 1) := by decide +kernel
theorem dJ13_bitCount_95d88_48 : decode cJ13_bitCount_95d88 48 = .ok (.lload_n 0, 1) := by decide +kernel
theorem dJ13_bitCount_95d88_49 : decode cJ13_bitCount_95d88 49 = .ok (.lload_n 0, 1) := by decide +kernel
theorem dJ13_bitCount_95d88_50 : decode cJ13_bitCount_95d88 50 = .ok (.bipush 32, 2) := by decide +kernel
theorem dJ13_bitCount_95d88_52 : decode cJ13_bitCount_95d88 52 = .ok (.lushr, 1) := by decide +kernel
theorem dJ13_bitCount_95d88_53 : decode cJ13_bitCount_95d88 53 = .ok (.ladd, 1) := by decide +kernel
theorem dJ13_bitCount_95d88_54 : decode cJ13_bitCount_95d88 54 = .ok (.lstore_n 0, 1) := by decide +kernel
theorem dJ13_bitCount_95d88_55 : decode cJ13_bitCount_95d88 55 = .ok (.lload_n 0, 1) := by decide +kernel
theorem dJ13_bitCount_95d88_56 : decode cJ13_bitCount_95d88 56 = .ok (.l2i, 1) := by decide +kernel
theorem dJ13_bitCount_95d88_57 : decode cJ13_bitCount_95d88 57 = .ok (.bipush 127, 2) := by decide +kernel
theorem dJ13_bitCount_95d88_59 : decode cJ13_bitCount_95d88 59 = .ok (.iand, 1) := by decide +kernel
theorem dJ13_bitCount_95d88_60 : decode cJ13_bitCount_95d88 60 = .ok (.ireturn, 1) := by decide +kernel
theorem dJ9_abs_0f7a4_0 : decode cJ9_abs_0f7a4 0 = .ok (.iload_n 0, 1) := by decide +kernel
theorem dJ9_abs_0f7a4_1 : decode cJ9_abs_0f7a4 1 = .ok (.ifCond .ge 8, 3) := by decide +kernel
theorem dJ9_abs_0f7a4_4 : decode cJ9_abs_0f7a4 4 = .ok (.iload_n 0, 1) := by decide +kernel
theorem dJ9_abs_0f7a4_5 : decode cJ9_abs_0f7a4 5 = .ok (.ineg, 1) := by decide +kernel
theorem dJ9_abs_0f7a4_6 : decode cJ9_abs_0f7a4 6 = .ok (.goto 4, 3) := by decide +kernel
theorem dJ9_abs_0f7a4_9 : decode cJ9_abs_0f7a4 9 = .ok (.iload_n 0, 1) := by decide +kernel
theorem dJ9_abs_0f7a4_10 : decode cJ9_abs_0f7a4 10 = .ok (.ireturn, 1) := by decide +kernel
