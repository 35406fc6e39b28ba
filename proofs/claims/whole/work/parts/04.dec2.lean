set_option maxRecDepth 20000 in
theorem gX4_isKaleidoscope_X1_mirrored : GoodIn wsX4_isKaleidoscope (wsV RX4 165 RX1 yX1_mirrored wsX1_mirrored) := goodIn_app (goodIn_of _ (by decide +kernel)) ggX4_isKaleidoscope_X1_mirrored
theorem dX4_isKaleidoscope_0 : decode cX4_isKaleidoscope 0 = .ok (.iconst 0, 1) := by decide +kernel
theorem dX4_isKaleidoscope_1 : decode cX4_isKaleidoscope 1 = .ok (.istore_n 1, 1) := by decide +kernel
theorem dX4_isKaleidoscope_2 : decode cX4_isKaleidoscope 2 = .ok (.iload_n 1, 1) := by decide +kernel
theorem dX4_isKaleidoscope_3 : decode cX4_isKaleidoscope 3 = .ok (.aload_n 0, 1) := by decide +kernel
theorem dX4_isKaleidoscope_4 : decode cX4_isKaleidoscope 4 = .ok (.getfield 10, 3) := by decide +kernel
theorem dX4_isKaleidoscope_7 : decode cX4_isKaleidoscope 7 = .ok (.invokevirtual 68, 3) := by decide +kernel
theorem dX4_isKaleidoscope_10 : decode cX4_isKaleidoscope 10 = .ok (.if_icmp .ge 43, 3) := by decide +kernel
theorem dX4_isKaleidoscope_13 : decode cX4_isKaleidoscope 13 = .ok (.iconst 0, 1) := by decide +kernel
theorem dX4_isKaleidoscope_14 : decode cX4_isKaleidoscope 14 = .ok (.istore_n 2, 1) := by decide +kernel
theorem dX4_isKaleidoscope_15 : decode cX4_isKaleidoscope 15 = .ok (.iload_n 2, 1) := by decide +kernel
theorem dX4_isKaleidoscope_16 : decode cX4_isKaleidoscope 16 = .ok (.aload_n 0, 1) := by decide +kernel
theorem dX4_isKaleidoscope_17 : decode cX4_isKaleidoscope 17 = .ok (.getfield 10, 3) := by decide +kernel
theorem dX4_isKaleidoscope_20 : decode cX4_isKaleidoscope 20 = .ok (.invokevirtual 68, 3) := by decide +kernel
theorem dX4_isKaleidoscope_23 : decode cX4_isKaleidoscope 23 = .ok (.if_icmp .ge 24, 3) := by decide +kernel
theorem dX4_isKaleidoscope_26 : decode cX4_isKaleidoscope 26 = .ok (.aload_n 0, 1) := by decide +kernel
theorem dX4_isKaleidoscope_27 : decode cX4_isKaleidoscope 27 = .ok (.getfield 10, 3) := by decide +kernel
theorem dX4_isKaleidoscope_30 : decode cX4_isKaleidoscope 30 = .ok (.iload_n 1, 1) := by decide +kernel
theorem dX4_isKaleidoscope_31 : decode cX4_isKaleidoscope 31 = .ok (.iload_n 2, 1) := by decide +kernel
theorem dX4_isKaleidoscope_32 : decode cX4_isKaleidoscope 32 = .ok (.invokevirtual 165, 3) := by decide +kernel
theorem dX4_isKaleidoscope_35 : decode cX4_isKaleidoscope 35 = .ok (.iconst (-1), 1) := by decide +kernel
theorem dX4_isKaleidoscope_36 : decode cX4_isKaleidoscope 36 = .ok (.if_icmp .ne 5, 3) := by decide +kernel
theorem dX4_isKaleidoscope_39 : decode cX4_isKaleidoscope 39 = .ok (.iconst 0, 1) := by decide +kernel
theorem dX4_isKaleidoscope_40 : decode cX4_isKaleidoscope 40 = .ok (.ireturn, 1) := by decide +kernel
theorem dX4_isKaleidoscope_41 : decode cX4_isKaleidoscope 41 = .ok (.iinc 2 1, 3) := by decide +kernel
theorem dX4_isKaleidoscope_44 : decode cX4_isKaleidoscope 44 = .ok (.goto (-29), 3) := by decide +kernel
theorem dX4_isKaleidoscope_47 : decode cX4_isKaleidoscope 47 = .ok (.iinc 1 1, 3) := by decide +kernel
theorem dX4_isKaleidoscope_50 : decode cX4_isKaleidoscope 50 = .ok (.goto (-48), 3) := by decide +kernel
theorem dX4_isKaleidoscope_53 : decode cX4_isKaleidoscope 53 = .ok (.iconst 1, 1) := by decide +kernel
theorem dX4_isKaleidoscope_54 : decode cX4_isKaleidoscope 54 = .ok (.ireturn, 1) := by decide +kernel
set_option maxRecDepth 20000 in
theorem ggX4_pairs_X1_count : GoodIn wsX4_pairs wsX1_count := goodIn_r _ [7, 8, 30, 31, 32, 33] (by decide +kernel) (by decide +kernel)
set_option maxRecDepth 20000 in
theorem gX4_pairs_X1_count : GoodIn wsX4_pairs (wsV RX4 68 RX1 yX1_count wsX1_count) := goodIn_app (goodIn_of _ (by decide +kernel)) ggX4_pairs_X1_count
set_option maxRecDepth 20000 in
theorem ggX4_pairs_X2_isLowestPair : GoodIn wsX4_pairs wsX2_isLowestPair := goodIn_r _ [13, 14, 15, 16, 17, 18, 12, 19, 20, 21, 22, 23, 24, 25, 34, 35, 36, 37, 38, 39] (by decide +kernel) (by decide +kernel)
set_option maxRecDepth 20000 in
theorem gX4_pairs_X2_isLowestPair : GoodIn wsX4_pairs (wsV RX4 168 RX2 yX2_isLowestPair wsX2_isLowestPair) := goodIn_app (goodIn_of _ (by decide +kernel)) ggX4_pairs_X2_isLowestPair
theorem dX4_pairs_0 : decode cX4_pairs 0 = .ok (.iconst 0, 1) := by decide +kernel
theorem dX4_pairs_1 : decode cX4_pairs 1 = .ok (.istore_n 1, 1) := by decide +kernel
theorem dX4_pairs_2 : decode cX4_pairs 2 = .ok (.iconst 0, 1) := by decide +kernel
theorem dX4_pairs_3 : decode cX4_pairs 3 = .ok (.istore_n 2, 1) := by decide +kernel
theorem dX4_pairs_4 : decode cX4_pairs 4 = .ok (.iload_n 2, 1) := by decide +kernel
theorem dX4_pairs_5 : decode cX4_pairs 5 = .ok (.aload_n 0, 1) := by decide +kernel
theorem dX4_pairs_6 : decode cX4_pairs 6 = .ok (.getfield 10, 3) := by decide +kernel
theorem dX4_pairs_9 : decode cX4_pairs 9 = .ok (.invokevirtual 68, 3) := by decide +kernel
theorem dX4_pairs_12 : decode cX4_pairs 12 = .ok (.if_icmp .ge 45, 3) := by decide +kernel
theorem dX4_pairs_15 : decode cX4_pairs 15 = .ok (.iload_n 2, 1) := by decide +kernel
theorem dX4_pairs_16 : decode cX4_pairs 16 = .ok (.iconst 1, 1) := by decide +kernel
theorem dX4_pairs_17 : decode cX4_pairs 17 = .ok (.iadd, 1) := by decide +kernel
theorem dX4_pairs_18 : decode cX4_pairs 18 = .ok (.istore_n 3, 1) := by decide +kernel
theorem dX4_pairs_19 : decode cX4_pairs 19 = .ok (.iload_n 3, 1) := by decide +kernel
theorem dX4_pairs_20 : decode cX4_pairs 20 = .ok (.aload_n 0, 1) := by decide +kernel
theorem dX4_pairs_21 : decode cX4_pairs 21 = .ok (.getfield 10, 3) := by decide +kernel
theorem dX4_pairs_24 : decode cX4_pairs 24 = .ok (.invokevirtual 68, 3) := by decide +kernel
theorem dX4_pairs_27 : decode cX4_pairs 27 = .ok (.if_icmp .ge 24, 3) := by decide +kernel
theorem dX4_pairs_30 : decode cX4_pairs 30 = .ok (.aload_n 0, 1) := by decide +kernel
theorem dX4_pairs_31 : decode cX4_pairs 31 = .ok (.getfield 19, 3) := by decide +kernel
theorem dX4_pairs_34 : decode cX4_pairs 34 = .ok (.iload_n 2, 1) := by decide +kernel
theorem dX4_pairs_35 : decode cX4_pairs 35 = .ok (.iload_n 3, 1) := by decide +kernel
theorem dX4_pairs_36 : decode cX4_pairs 36 = .ok (.invokevirtual 168, 3) := by decide +kernel
theorem dX4_pairs_39 : decode cX4_pairs 39 = .ok (.ifCond .eq 6, 3) := by decide +kernel
theorem dX4_pairs_42 : decode cX4_pairs 42 = .ok (.iinc 1 1, 3) := by decide +kernel
theorem dX4_pairs_45 : decode cX4_pairs 45 = .ok (.iinc 3 1, 3) := by decide +kernel
theorem dX4_pairs_48 : decode cX4_pairs 48 = .ok (.goto (-29), 3) := by decide +kernel
theorem dX4_pairs_51 : decode cX4_pairs 51 = .ok (.iinc 2 1, 3) := by decide +kernel
theorem dX4_pairs_54 : decode cX4_pairs 54 = .ok (.goto (-50), 3) := by decide +kernel
theorem dX4_pairs_57 : decode cX4_pairs 57 = .ok (.iload_n 1, 1) := by decide +kernel
theorem dX4_pairs_58 : decode cX4_pairs 58 = .ok (.ireturn, 1) := by decide +kernel
set_option maxRecDepth 20000 in
theorem ggX4_pair_X4_checkPlace : GoodIn wsX4_pair wsX4_checkPlace := goodIn_ca (goodIn_r _ [6, 7, 8] (by decide +kernel) (by decide +kernel)) (goodIn_sub (fun _ h => List.mem_cons_of_mem _ (List.mem_append_right _ h)) (by decide +kernel))
set_option maxRecDepth 20000 in
theorem gX4_pair_X4_checkPlace : GoodIn wsX4_pair (va_wsS RX4 141 yX4_checkPlace wsX4_checkPlace) := goodIn_app (goodIn_of _ (by decide +kernel)) ggX4_pair_X4_checkPlace
set_option maxRecDepth 20000 in
theorem ggX4_pair_X1_count : GoodIn wsX4_pair wsX1_count := goodIn_r _ [13, 14, 35, 36, 37, 38] (by decide +kernel) (by decide +kernel)
set_option maxRecDepth 20000 in
theorem gX4_pair_X1_count : GoodIn wsX4_pair (wsV RX4 68 RX1 yX1_count wsX1_count) := goodIn_app (goodIn_of _ (by decide +kernel)) ggX4_pair_X1_count
set_option maxRecDepth 20000 in
theorem ggX4_pair_X2_isLowestPair : GoodIn wsX4_pair wsX2_isLowestPair := goodIn_r _ [19, 20, 21, 22, 23, 24, 18, 25, 26, 5, 27, 28, 29, 30, 39, 40, 41, 42, 43, 44] (by decide +kernel) (by decide +kernel)
set_option maxRecDepth 20000 in
theorem gX4_pair_X2_isLowestPair : GoodIn wsX4_pair (wsV RX4 168 RX2 yX2_isLowestPair wsX2_isLowestPair) := goodIn_app (goodIn_of _ (by decide +kernel)) ggX4_pair_X2_isLowestPair
set_option maxRecDepth 20000 in
theorem ggX4_pair_X4_bit : GoodIn wsX4_pair wsX4_bit := goodIn_r _ [30] (by decide +kernel) (by decide +kernel)
set_option maxRecDepth 20000 in
theorem gX4_pair_X4_bit : GoodIn wsX4_pair (va_wsS RX4 172 yX4_bit wsX4_bit) := goodIn_app (goodIn_of _ (by decide +kernel)) ggX4_pair_X4_bit
theorem dX4_pair_0 : decode cX4_pair 0 = .ok (.iload_n 1, 1) := by decide +kernel
theorem dX4_pair_1 : decode cX4_pair 1 = .ok (.invokestatic 141, 3) := by decide +kernel
theorem dX4_pair_4 : decode cX4_pair 4 = .ok (.iconst 0, 1) := by decide +kernel
theorem dX4_pair_5 : decode cX4_pair 5 = .ok (.istore_n 2, 1) := by decide +kernel
theorem dX4_pair_6 : decode cX4_pair 6 = .ok (.iconst 0, 1) := by decide +kernel
theorem dX4_pair_7 : decode cX4_pair 7 = .ok (.istore_n 3, 1) := by decide +kernel
theorem dX4_pair_8 : decode cX4_pair 8 = .ok (.iload_n 3, 1) := by decide +kernel
theorem dX4_pair_9 : decode cX4_pair 9 = .ok (.aload_n 0, 1) := by decide +kernel
theorem dX4_pair_10 : decode cX4_pair 10 = .ok (.getfield 10, 3) := by decide +kernel
theorem dX4_pair_13 : decode cX4_pair 13 = .ok (.invokevirtual 68, 3) := by decide +kernel
theorem dX4_pair_16 : decode cX4_pair 16 = .ok (.if_icmp .ge 67, 3) := by decide +kernel
theorem dX4_pair_19 : decode cX4_pair 19 = .ok (.iload_n 3, 1) := by decide +kernel
theorem dX4_pair_20 : decode cX4_pair 20 = .ok (.iconst 1, 1) := by decide +kernel
theorem dX4_pair_21 : decode cX4_pair 21 = .ok (.iadd, 1) := by decide +kernel
theorem dX4_pair_22 : decode cX4_pair 22 = .ok (.istore 4, 2) := by decide +kernel
theorem dX4_pair_24 : decode cX4_pair 24 = .ok (.iload 4, 2) := by decide +kernel
theorem dX4_pair_26 : decode cX4_pair 26 = .ok (.aload_n 0, 1) := by decide +kernel
theorem dX4_pair_27 : decode cX4_pair 27 = .ok (.getfield 10, 3) := by decide +kernel
theorem dX4_pair_30 : decode cX4_pair 30 = .ok (.invokevirtual 68, 3) := by decide +kernel
theorem dX4_pair_33 : decode cX4_pair 33 = .ok (.if_icmp .ge 44, 3) := by decide +kernel
theorem dX4_pair_36 : decode cX4_pair 36 = .ok (.aload_n 0, 1) := by decide +kernel
theorem dX4_pair_37 : decode cX4_pair 37 = .ok (.getfield 19, 3) := by decide +kernel
theorem dX4_pair_40 : decode cX4_pair 40 = .ok (.iload_n 3, 1) := by decide +kernel
theorem dX4_pair_41 : decode cX4_pair 41 = .ok (.iload 4, 2) := by decide +kernel
theorem dX4_pair_43 : decode cX4_pair 43 = .ok (.invokevirtual 168, 3) := by decide +kernel
theorem dX4_pair_46 : decode cX4_pair 46 = .ok (.ifCond .ne 6, 3) := by decide +kernel
theorem dX4_pair_49 : decode cX4_pair 49 = .ok (.goto 22, 3) := by decide +kernel
theorem dX4_pair_52 : decode cX4_pair 52 = .ok (.iload_n 2, 1) := by decide +kernel
theorem dX4_pair_53 : decode cX4_pair 53 = .ok (.iload_n 1, 1) := by decide +kernel
theorem dX4_pair_54 : decode cX4_pair 54 = .ok (.if_icmp .ne 14, 3) := by decide +kernel
theorem dX4_pair_57 : decode cX4_pair 57 = .ok (.iload_n 3, 1) := by decide +kernel
theorem dX4_pair_58 : decode cX4_pair 58 = .ok (.invokestatic 172, 3) := by decide +kernel
theorem dX4_pair_61 : decode cX4_pair 61 = .ok (.iload 4, 2) := by decide +kernel
theorem dX4_pair_63 : decode cX4_pair 63 = .ok (.invokestatic 172, 3) := by decide +kernel
theorem dX4_pair_66 : decode cX4_pair 66 = .ok (.ior, 1) := by decide +kernel
theorem dX4_pair_67 : decode cX4_pair 67 = .ok (.ireturn, 1) := by decide +kernel
theorem dX4_pair_68 : decode cX4_pair 68 = .ok (.iinc 2 1, 3) := by decide +kernel
theorem dX4_pair_71 : decode cX4_pair 71 = .ok (.iinc 4 1, 3) := by decide +kernel
theorem dX4_pair_74 : decode cX4_pair 74 = .ok (.goto (-50), 3) := by decide +kernel
theorem dX4_pair_77 : decode cX4_pair 77 = .ok (.iinc 3 1, 3) := by decide +kernel
theorem dX4_pair_80 : decode cX4_pair 80 = .ok (.goto (-72), 3) := by decide +kernel
theorem dX4_pair_83 : decode cX4_pair 83 = .ok (.iconst (-1), 1) := by decide +kernel
theorem dX4_pair_84 : decode cX4_pair 84 = .ok (.ireturn, 1) := by decide +kernel
set_option maxRecDepth 20000 in
theorem ggX4_edge_X4_isDot : GoodIn wsX4_edge wsX4_isDot := goodIn_r _ [9] (by decide +kernel) (by decide +kernel)
set_option maxRecDepth 20000 in
theorem gX4_edge_X4_isDot : GoodIn wsX4_edge (va_wsS RX4 175 yX4_isDot wsX4_isDot) := goodIn_app (goodIn_of _ (by decide +kernel)) ggX4_edge_X4_isDot
set_option maxRecDepth 20000 in
theorem ggX4_edge_X0_turn : GoodIn wsX4_edge wsX0_turn := goodIn_r _ [14, 15, 16, 17, 13, 18, 19, 20, 21, 37] (by decide +kernel) (by decide +kernel)
set_option maxRecDepth 20000 in
theorem gX4_edge_X0_turn : GoodIn wsX4_edge (wsV RX4 185 RX0 yX0_turn wsX0_turn) := goodIn_app (goodIn_of _ (by decide +kernel)) ggX4_edge_X0_turn
set_option maxRecDepth 20000 in
theorem ggX4_edge_X0_count : GoodIn wsX4_edge wsX0_count := goodIn_r _ [25, 15, 26, 27, 28, 29, 30, 31, 32, 37] (by decide +kernel) (by decide +kernel)
set_option maxRecDepth 20000 in
theorem gX4_edge_X0_count : GoodIn wsX4_edge (wsV RX4 189 RX0 yX0_count wsX0_count) := goodIn_app (goodIn_of _ (by decide +kernel)) ggX4_edge_X0_count
theorem dX4_edge_0 : decode cX4_edge 0 = .ok (.iload_n 1, 1) := by decide +kernel
theorem dX4_edge_1 : decode cX4_edge 1 = .ok (.invokestatic 175, 3) := by decide +kernel
theorem dX4_edge_4 : decode cX4_edge 4 = .ok (.ifCond .eq 10, 3) := by decide +kernel
theorem dX4_edge_7 : decode cX4_edge 7 = .ok (.iload_n 2, 1) := by decide +kernel
theorem dX4_edge_8 : decode cX4_edge 8 = .ok (.invokestatic 175, 3) := by decide +kernel
theorem dX4_edge_11 : decode cX4_edge 11 = .ok (.ifCond .ne 13, 3) := by decide +kernel
theorem dX4_edge_14 : decode cX4_edge 14 = .ok (.new 178, 3) := by decide +kernel
theorem dX4_edge_17 : decode cX4_edge 17 = .ok (.dup, 1) := by decide +kernel
theorem dX4_edge_18 : decode cX4_edge 18 = .ok (.ldc 180, 2) := by decide +kernel
theorem dX4_edge_20 : decode cX4_edge 20 = .ok (.invokespecial 182, 3) := by decide +kernel
theorem dX4_edge_23 : decode cX4_edge 23 = .ok (.athrow, 1) := by decide +kernel
theorem dX4_edge_24 : decode cX4_edge 24 = .ok (.iload_n 1, 1) := by decide +kernel
theorem dX4_edge_25 : decode cX4_edge 25 = .ok (.iload_n 2, 1) := by decide +kernel
theorem dX4_edge_26 : decode cX4_edge 26 = .ok (.if_icmp .ne 13, 3) := by decide +kernel
theorem dX4_edge_29 : decode cX4_edge 29 = .ok (.new 41, 3) := by decide +kernel
theorem dX4_edge_32 : decode cX4_edge 32 = .ok (.dup, 1) := by decide +kernel
theorem dX4_edge_33 : decode cX4_edge 33 = .ok (.ldc 183, 2) := by decide +kernel
theorem dX4_edge_35 : decode cX4_edge 35 = .ok (.invokespecial 45, 3) := by decide +kernel
theorem dX4_edge_38 : decode cX4_edge 38 = .ok (.athrow, 1) := by decide +kernel
theorem dX4_edge_39 : decode cX4_edge 39 = .ok (.aload_n 0, 1) := by decide +kernel
theorem dX4_edge_40 : decode cX4_edge 40 = .ok (.getfield 33, 3) := by decide +kernel
theorem dX4_edge_43 : decode cX4_edge 43 = .ok (.iload_n 1, 1) := by decide +kernel
theorem dX4_edge_44 : decode cX4_edge 44 = .ok (.iload_n 2, 1) := by decide +kernel
theorem dX4_edge_45 : decode cX4_edge 45 = .ok (.invokevirtual 185, 3) := by decide +kernel
theorem dX4_edge_48 : decode cX4_edge 48 = .ok (.aload_n 0, 1) := by decide +kernel
theorem dX4_edge_49 : decode cX4_edge 49 = .ok (.getfield 33, 3) := by decide +kernel
theorem dX4_edge_52 : decode cX4_edge 52 = .ok (.invokevirtual 189, 3) := by decide +kernel
theorem dX4_edge_55 : decode cX4_edge 55 = .ok (.ireturn, 1) := by decide +kernel
set_option maxRecDepth 20000 in
theorem ggX4_colourings_X4_checkColours : GoodIn wsX4_colourings wsX4_checkColours := goodIn_ca (goodIn_r _ [5, 6, 7] (by decide +kernel) (by decide +kernel)) (goodIn_sub (fun _ h => List.mem_cons_of_mem _ (List.mem_append_right _ h)) (by decide +kernel))
set_option maxRecDepth 20000 in
theorem gX4_colourings_X4_checkColours : GoodIn wsX4_colourings (va_wsS RX4 190 yX4_checkColours wsX4_checkColours) := goodIn_app (goodIn_of _ (by decide +kernel)) ggX4_colourings_X4_checkColours
set_option maxRecDepth 20000 in
theorem ggX4_colourings_X0_tryAllColours : GoodIn wsX4_colourings wsX0_tryAllColours := goodIn_r _ [12, 13, 14, 15, 11, 16, 17, 18, 19, 20, 21, 22, 27] (by decide +kernel) (by decide +kernel)
set_option maxRecDepth 20000 in
theorem gX4_colourings_X0_tryAllColours : GoodIn wsX4_colourings (wsV RX4 193 RX0 yX0_tryAllColours wsX0_tryAllColours) := goodIn_app (goodIn_of _ (by decide +kernel)) ggX4_colourings_X0_tryAllColours
theorem dX4_colourings_0 : decode cX4_colourings 0 = .ok (.iload_n 1, 1) := by decide +kernel
theorem dX4_colourings_1 : decode cX4_colourings 1 = .ok (.invokestatic 190, 3) := by decide +kernel
theorem dX4_colourings_4 : decode cX4_colourings 4 = .ok (.aload_n 0, 1) := by decide +kernel
theorem dX4_colourings_5 : decode cX4_colourings 5 = .ok (.getfield 33, 3) := by decide +kernel
theorem dX4_colourings_8 : decode cX4_colourings 8 = .ok (.iload_n 1, 1) := by decide +kernel
theorem dX4_colourings_9 : decode cX4_colourings 9 = .ok (.invokevirtual 193, 3) := by decide +kernel
theorem dX4_colourings_12 : decode cX4_colourings 12 = .ok (.ireturn, 1) := by decide +kernel
set_option maxRecDepth 20000 in
theorem ggX4_colouringsAnew_X4_checkColours : GoodIn wsX4_colouringsAnew wsX4_checkColours := goodIn_ca (goodIn_r _ [5, 6, 7] (by decide +kernel) (by decide +kernel)) (goodIn_sub (fun _ h => List.mem_cons_of_mem _ (List.mem_append_right _ h)) (by decide +kernel))
set_option maxRecDepth 20000 in
theorem gX4_colouringsAnew_X4_checkColours : GoodIn wsX4_colouringsAnew (va_wsS RX4 190 yX4_checkColours wsX4_checkColours) := goodIn_app (goodIn_of _ (by decide +kernel)) ggX4_colouringsAnew_X4_checkColours
set_option maxRecDepth 20000 in
theorem ggX4_colouringsAnew_X0_takeApart : GoodIn wsX4_colouringsAnew wsX0_takeApart := goodIn_r _ [12, 13, 14, 15, 11, 16, 17, 18, 19, 20, 21, 22, 23, 24, 25, 26, 27, 28, 29, 30, 4, 31, 32, 33, 34, 35, 36, 37, 38, 39, 40, 41, 42, 43, 48] (by decide +kernel) (by decide +kernel)
set_option maxRecDepth 20000 in
theorem gX4_colouringsAnew_X0_takeApart : GoodIn wsX4_colouringsAnew (wsV RX4 196 RX0 yX0_takeApart wsX0_takeApart) := goodIn_app (goodIn_of _ (by decide +kernel)) ggX4_colouringsAnew_X0_takeApart
theorem dX4_colouringsAnew_0 : decode cX4_colouringsAnew 0 = .ok (.iload_n 1, 1) := by decide +kernel
theorem dX4_colouringsAnew_1 : decode cX4_colouringsAnew 1 = .ok (.invokestatic 190, 3) := by decide +kernel
theorem dX4_colouringsAnew_4 : decode cX4_colouringsAnew 4 = .ok (.aload_n 0, 1) := by decide +kernel
theorem dX4_colouringsAnew_5 : decode cX4_colouringsAnew 5 = .ok (.getfield 33, 3) := by decide +kernel
theorem dX4_colouringsAnew_8 : decode cX4_colouringsAnew 8 = .ok (.iload_n 1, 1) := by decide +kernel
theorem dX4_colouringsAnew_9 : decode cX4_colouringsAnew 9 = .ok (.invokevirtual 196, 3) := by decide +kernel
theorem dX4_colouringsAnew_12 : decode cX4_colouringsAnew 12 = .ok (.ireturn, 1) := by decide +kernel
set_option maxRecDepth 20000 in
theorem ggX4_directions_X0_tryAllDirections : GoodIn wsX4_directions wsX0_tryAllDirections := goodIn_r _ [6, 7, 8, 9, 5, 10, 11, 12, 13, 14, 15, 16, 17, 18, 19, 20, 21, 22, 23, 24, 25, 26, 27, 28, 29, 30, 31, 32, 33, 34, 35, 40] (by decide +kernel) (by decide +kernel)
set_option maxRecDepth 20000 in
theorem gX4_directions_X0_tryAllDirections : GoodIn wsX4_directions (wsV RX4 199 RX0 yX0_tryAllDirections wsX0_tryAllDirections) := goodIn_app (goodIn_of _ (by decide +kernel)) ggX4_directions_X0_tryAllDirections
theorem dX4_directions_0 : decode cX4_directions 0 = .ok (.aload_n 0, 1) := by decide +kernel
theorem dX4_directions_1 : decode cX4_directions 1 = .ok (.getfield 33, 3) := by decide +kernel
theorem dX4_directions_4 : decode cX4_directions 4 = .ok (.invokevirtual 199, 3) := by decide +kernel
theorem dX4_directions_7 : decode cX4_directions 7 = .ok (.ireturn, 1) := by decide +kernel
set_option maxRecDepth 20000 in
theorem ggX4_directionsAnew_X0_takeApart : GoodIn wsX4_directionsAnew wsX0_takeApart := goodIn_r _ [6, 7, 8, 9, 5, 10, 11, 12, 13, 14, 15, 16, 17, 18, 19, 20, 21, 22, 23, 24, 25, 26, 27, 28, 29, 30, 31, 32, 33, 34, 35, 36, 37, 38, 43] (by decide +kernel) (by decide +kernel)
set_option maxRecDepth 20000 in
theorem gX4_directionsAnew_X0_takeApart : GoodIn wsX4_directionsAnew (wsV RX4 196 RX0 yX0_takeApart wsX0_takeApart) := goodIn_app (goodIn_of _ (by decide +kernel)) ggX4_directionsAnew_X0_takeApart
theorem dX4_directionsAnew_0 : decode cX4_directionsAnew 0 = .ok (.aload_n 0, 1) := by decide +kernel
theorem dX4_directionsAnew_1 : decode cX4_directionsAnew 1 = .ok (.getfield 33, 3) := by decide +kernel
theorem dX4_directionsAnew_4 : decode cX4_directionsAnew 4 = .ok (.iconst (-1), 1) := by decide +kernel
theorem dX4_directionsAnew_5 : decode cX4_directionsAnew 5 = .ok (.invokevirtual 196, 3) := by decide +kernel
theorem dX4_directionsAnew_8 : decode cX4_directionsAnew 8 = .ok (.ireturn, 1) := by decide +kernel
set_option maxRecDepth 20000 in
theorem ggX4_lookAnew_X2_find : GoodIn wsX4_lookAnew wsX2_find := goodIn_r _ [8, 9, 10, 11, 12, 13, 14, 15, 16, 17, 18, 19, 20, 21, 22, 23, 24, 25, 26, 27, 28, 29, 30, 31, 32, 33, 34, 35, 36, 37, 38, 39, 40, 7, 41, 42, 43, 44, 45, 46, 47, 48, 49, 50, 51, 52, 53, 54, 55, 56, 57, 58, 59, 60, 61, 62, 63, 64, 65, 139, 140, 141, 142, 143, 144, 145, 146, 147, 148] (by decide +kernel) (by decide +kernel)
set_option maxRecDepth 20000 in
theorem gX4_lookAnew_X2_find : GoodIn wsX4_lookAnew (wsV RX4 202 RX2 yX2_find wsX2_find) := goodIn_app (goodIn_of _ (by decide +kernel)) ggX4_lookAnew_X2_find
set_option maxRecDepth 20000 in
theorem ggX4_lookAnew_X3_find : GoodIn wsX4_lookAnew wsX3_find := goodIn_r _ [70, 71, 72, 15, 16, 17, 18, 19, 73, 74, 75, 69, 76, 77, 78, 79, 7, 80, 9, 81, 82, 83, 84, 42, 85, 27, 86, 87, 26, 28, 88, 89, 90, 91, 92, 93, 94, 95, 25, 96, 97, 98, 99, 24, 100, 101, 102, 103, 13, 104, 105, 106, 107, 11, 108, 109, 110, 111, 12, 112, 59, 60, 61, 62, 63, 64, 65, 33, 113, 114, 115, 116, 117, 118, 119, 120, 121, 122, 123, 124, 125, 126, 127, 128, 129, 130, 131, 132, 133, 134, 149, 150, 151, 152, 145, 146, 147, 148, 139, 140, 141, 142, 143, 144] (by decide +kernel) (by decide +kernel)
set_option maxRecDepth 20000 in
theorem gX4_lookAnew_X3_find : GoodIn wsX4_lookAnew (wsV RX4 206 RX3 yX3_find wsX3_find) := goodIn_app (goodIn_of _ (by decide +kernel)) ggX4_lookAnew_X3_find
theorem dX4_lookAnew_0 : decode cX4_lookAnew 0 = .ok (.aload_n 0, 1) := by decide +kernel
theorem dX4_lookAnew_1 : decode cX4_lookAnew 1 = .ok (.getfield 19, 3) := by decide +kernel
theorem dX4_lookAnew_4 : decode cX4_lookAnew 4 = .ok (.aload_n 0, 1) := by decide +kernel
theorem dX4_lookAnew_5 : decode cX4_lookAnew 5 = .ok (.getfield 10, 3) := by decide +kernel
theorem dX4_lookAnew_8 : decode cX4_lookAnew 8 = .ok (.invokevirtual 202, 3) := by decide +kernel
theorem dX4_lookAnew_11 : decode cX4_lookAnew 11 = .ok (.aload_n 0, 1) := by decide +kernel
theorem dX4_lookAnew_12 : decode cX4_lookAnew 12 = .ok (.getfield 26, 3) := by decide +kernel
theorem dX4_lookAnew_15 : decode cX4_lookAnew 15 = .ok (.aload_n 0, 1) := by decide +kernel
theorem dX4_lookAnew_16 : decode cX4_lookAnew 16 = .ok (.getfield 10, 3) := by decide +kernel
theorem dX4_lookAnew_19 : decode cX4_lookAnew 19 = .ok (.aload_n 0, 1) := by decide +kernel
theorem dX4_lookAnew_20 : decode cX4_lookAnew 20 = .ok (.getfield 19, 3) := by decide +kernel
theorem dX4_lookAnew_23 : decode cX4_lookAnew 23 = .ok (.invokevirtual 206, 3) := by decide +kernel
theorem dX4_lookAnew_26 : decode cX4_lookAnew 26 = .ok (.return_, 1) := by decide +kernel
set_option maxRecDepth 20000 in
theorem ggX4_numberWithPower_X1_count : GoodIn wsX4_numberWithPower wsX1_count := goodIn_r _ [6, 7, 12, 13, 14, 15] (by decide +kernel) (by decide +kernel)
set_option maxRecDepth 20000 in
theorem gX4_numberWithPower_X1_count : GoodIn wsX4_numberWithPower (wsV RX4 68 RX1 yX1_count wsX1_count) := goodIn_app (goodIn_of _ (by decide +kernel)) ggX4_numberWithPower_X1_count
theorem dX4_numberWithPower_0 : decode cX4_numberWithPower 0 = .ok (.iload_n 1, 1) := by decide +kernel
theorem dX4_numberWithPower_1 : decode cX4_numberWithPower 1 = .ok (.iconst 2, 1) := by decide +kernel
theorem dX4_numberWithPower_2 : decode cX4_numberWithPower 2 = .ok (.if_icmp .ne 5, 3) := by decide +kernel
theorem dX4_numberWithPower_5 : decode cX4_numberWithPower 5 = .ok (.iconst 1, 1) := by decide +kernel
theorem dX4_numberWithPower_6 : decode cX4_numberWithPower 6 = .ok (.ireturn, 1) := by decide +kernel
theorem dX4_numberWithPower_7 : decode cX4_numberWithPower 7 = .ok (.iload_n 1, 1) := by decide +kernel
theorem dX4_numberWithPower_8 : decode cX4_numberWithPower 8 = .ok (.iconst 1, 1) := by decide +kernel
theorem dX4_numberWithPower_9 : decode cX4_numberWithPower 9 = .ok (.if_icmp .ne 14, 3) := by decide +kernel
theorem dX4_numberWithPower_12 : decode cX4_numberWithPower 12 = .ok (.aload_n 0, 1) := by decide +kernel
theorem dX4_numberWithPower_13 : decode cX4_numberWithPower 13 = .ok (.getfield 10, 3) := by decide +kernel
theorem dX4_numberWithPower_16 : decode cX4_numberWithPower 16 = .ok (.invokevirtual 68, 3) := by decide +kernel
theorem dX4_numberWithPower_19 : decode cX4_numberWithPower 19 = .ok (.ineg, 1) := by decide +kernel
theorem dX4_numberWithPower_20 : decode cX4_numberWithPower 20 = .ok (.goto 4, 3) := by decide +kernel
theorem dX4_numberWithPower_23 : decode cX4_numberWithPower 23 = .ok (.iload_n 2, 1) := by decide +kernel
theorem dX4_numberWithPower_24 : decode cX4_numberWithPower 24 = .ok (.ireturn, 1) := by decide +kernel
set_option maxRecDepth 20000 in
theorem ggX4_checkLine_X1_count : GoodIn wsX4_checkLine wsX1_count := goodIn_r _ [8, 9, 14, 15, 16, 17] (by decide +kernel) (by decide +kernel)
set_option maxRecDepth 20000 in
theorem gX4_checkLine_X1_count : GoodIn wsX4_checkLine (wsV RX4 68 RX1 yX1_count wsX1_count) := goodIn_app (goodIn_of _ (by decide +kernel)) ggX4_checkLine_X1_count
theorem dX4_checkLine_0 : decode cX4_checkLine 0 = .ok (.iload_n 1, 1) := by decide +kernel
theorem dX4_checkLine_1 : decode cX4_checkLine 1 = .ok (.ifCond .lt 14, 3) := by decide +kernel
theorem dX4_checkLine_4 : decode cX4_checkLine 4 = .ok (.iload_n 1, 1) := by decide +kernel
theorem dX4_checkLine_5 : decode cX4_checkLine 5 = .ok (.aload_n 0, 1) := by decide +kernel
theorem dX4_checkLine_6 : decode cX4_checkLine 6 = .ok (.getfield 10, 3) := by decide +kernel
theorem dX4_checkLine_9 : decode cX4_checkLine 9 = .ok (.invokevirtual 68, 3) := by decide +kernel
theorem dX4_checkLine_12 : decode cX4_checkLine 12 = .ok (.if_icmp .lt 13, 3) := by decide +kernel
theorem dX4_checkLine_15 : decode cX4_checkLine 15 = .ok (.new 178, 3) := by decide +kernel
theorem dX4_checkLine_18 : decode cX4_checkLine 18 = .ok (.dup, 1) := by decide +kernel
theorem dX4_checkLine_19 : decode cX4_checkLine 19 = .ok (.ldc 209, 2) := by decide +kernel
theorem dX4_checkLine_21 : decode cX4_checkLine 21 = .ok (.invokespecial 182, 3) := by decide +kernel
theorem dX4_checkLine_24 : decode cX4_checkLine 24 = .ok (.athrow, 1) := by decide +kernel
theorem dX4_checkLine_25 : decode cX4_checkLine 25 = .ok (.return_, 1) := by decide +kernel
set_option maxRecDepth 20000 in
theorem ggX4_checkMeet_X2_count : GoodIn wsX4_checkMeet wsX2_count := goodIn_r _ [8, 9, 14, 15, 16, 17, 18, 19] (by decide +kernel) (by decide +kernel)
set_option maxRecDepth 20000 in
theorem gX4_checkMeet_X2_count : GoodIn wsX4_checkMeet (wsV RX4 79 RX2 yX2_count wsX2_count) := goodIn_app (goodIn_of _ (by decide +kernel)) ggX4_checkMeet_X2_count
theorem dX4_checkMeet_0 : decode cX4_checkMeet 0 = .ok (.iload_n 1, 1) := by decide +kernel
theorem dX4_checkMeet_1 : decode cX4_checkMeet 1 = .ok (.ifCond .lt 14, 3) := by decide +kernel
theorem dX4_checkMeet_4 : decode cX4_checkMeet 4 = .ok (.iload_n 1, 1) := by decide +kernel
theorem dX4_checkMeet_5 : decode cX4_checkMeet 5 = .ok (.aload_n 0, 1) := by decide +kernel
theorem dX4_checkMeet_6 : decode cX4_checkMeet 6 = .ok (.getfield 19, 3) := by decide +kernel
theorem dX4_checkMeet_9 : decode cX4_checkMeet 9 = .ok (.invokevirtual 79, 3) := by decide +kernel
theorem dX4_checkMeet_12 : decode cX4_checkMeet 12 = .ok (.if_icmp .lt 13, 3) := by decide +kernel
theorem dX4_checkMeet_15 : decode cX4_checkMeet 15 = .ok (.new 178, 3) := by decide +kernel
theorem dX4_checkMeet_18 : decode cX4_checkMeet 18 = .ok (.dup, 1) := by decide +kernel
theorem dX4_checkMeet_19 : decode cX4_checkMeet 19 = .ok (.ldc 211, 2) := by decide +kernel
theorem dX4_checkMeet_21 : decode cX4_checkMeet 21 = .ok (.invokespecial 182, 3) := by decide +kernel
theorem dX4_checkMeet_24 : decode cX4_checkMeet 24 = .ok (.athrow, 1) := by decide +kernel
theorem dX4_checkMeet_25 : decode cX4_checkMeet 25 = .ok (.return_, 1) := by decide +kernel
set_option maxRecDepth 20000 in
theorem ggX4_checkRoom_X3_count : GoodIn wsX4_checkRoom wsX3_count := goodIn_r _ [8, 9, 14, 15, 16, 17] (by decide +kernel) (by decide +kernel)
set_option maxRecDepth 20000 in
theorem gX4_checkRoom_X3_count : GoodIn wsX4_checkRoom (wsV RX4 120 RX3 yX3_count wsX3_count) := goodIn_app (goodIn_of _ (by decide +kernel)) ggX4_checkRoom_X3_count
theorem dX4_checkRoom_0 : decode cX4_checkRoom 0 = .ok (.iload_n 1, 1) := by decide +kernel
theorem dX4_checkRoom_1 : decode cX4_checkRoom 1 = .ok (.ifCond .lt 14, 3) := by decide +kernel
theorem dX4_checkRoom_4 : decode cX4_checkRoom 4 = .ok (.iload_n 1, 1) := by decide +kernel
theorem dX4_checkRoom_5 : decode cX4_checkRoom 5 = .ok (.aload_n 0, 1) := by decide +kernel
theorem dX4_checkRoom_6 : decode cX4_checkRoom 6 = .ok (.getfield 26, 3) := by decide +kernel
theorem dX4_checkRoom_9 : decode cX4_checkRoom 9 = .ok (.invokevirtual 120, 3) := by decide +kernel
theorem dX4_checkRoom_12 : decode cX4_checkRoom 12 = .ok (.if_icmp .lt 13, 3) := by decide +kernel
theorem dX4_checkRoom_15 : decode cX4_checkRoom 15 = .ok (.new 178, 3) := by decide +kernel
theorem dX4_checkRoom_18 : decode cX4_checkRoom 18 = .ok (.dup, 1) := by decide +kernel
theorem dX4_checkRoom_19 : decode cX4_checkRoom 19 = .ok (.ldc 213, 2) := by decide +kernel
theorem dX4_checkRoom_21 : decode cX4_checkRoom 21 = .ok (.invokespecial 182, 3) := by decide +kernel
theorem dX4_checkRoom_24 : decode cX4_checkRoom 24 = .ok (.athrow, 1) := by decide +kernel
theorem dX4_checkRoom_25 : decode cX4_checkRoom 25 = .ok (.return_, 1) := by decide +kernel
theorem dX4_checkPlace_0 : decode cX4_checkPlace 0 = .ok (.iload_n 0, 1) := by decide +kernel
theorem dX4_checkPlace_1 : decode cX4_checkPlace 1 = .ok (.ifCond .ge 13, 3) := by decide +kernel
theorem dX4_checkPlace_4 : decode cX4_checkPlace 4 = .ok (.new 178, 3) := by decide +kernel
theorem dX4_checkPlace_7 : decode cX4_checkPlace 7 = .ok (.dup, 1) := by decide +kernel
theorem dX4_checkPlace_8 : decode cX4_checkPlace 8 = .ok (.ldc 215, 2) := by decide +kernel
theorem dX4_checkPlace_10 : decode cX4_checkPlace 10 = .ok (.invokespecial 182, 3) := by decide +kernel
theorem dX4_checkPlace_13 : decode cX4_checkPlace 13 = .ok (.athrow, 1) := by decide +kernel
theorem dX4_checkPlace_14 : decode cX4_checkPlace 14 = .ok (.return_, 1) := by decide +kernel
theorem dX4_checkPower_0 : decode cX4_checkPower 0 = .ok (.iload_n 0, 1) := by decide +kernel
theorem dX4_checkPower_1 : decode cX4_checkPower 1 = .ok (.ifCond .lt 8, 3) := by decide +kernel
theorem dX4_checkPower_4 : decode cX4_checkPower 4 = .ok (.iload_n 0, 1) := by decide +kernel
theorem dX4_checkPower_5 : decode cX4_checkPower 5 = .ok (.iconst 2, 1) := by decide +kernel
theorem dX4_checkPower_6 : decode cX4_checkPower 6 = .ok (.if_icmp .le 13, 3) := by decide +kernel
theorem dX4_checkPower_9 : decode cX4_checkPower 9 = .ok (.new 41, 3) := by decide +kernel
theorem dX4_checkPower_12 : decode cX4_checkPower 12 = .ok (.dup, 1) := by decide +kernel
theorem dX4_checkPower_13 : decode cX4_checkPower 13 = .ok (.ldc 217, 2) := by decide +kernel
theorem dX4_checkPower_15 : decode cX4_checkPower 15 = .ok (.invokespecial 45, 3) := by decide +kernel
theorem dX4_checkPower_18 : decode cX4_checkPower 18 = .ok (.athrow, 1) := by decide +kernel
theorem dX4_checkPower_19 : decode cX4_checkPower 19 = .ok (.return_, 1) := by decide +kernel
theorem dX4_checkColours_0 : decode cX4_checkColours 0 = .ok (.iload_n 0, 1) := by decide +kernel
theorem dX4_checkColours_1 : decode cX4_checkColours 1 = .ok (.ifCond .lt 9, 3) := by decide +kernel
theorem dX4_checkColours_4 : decode cX4_checkColours 4 = .ok (.iload_n 0, 1) := by decide +kernel
theorem dX4_checkColours_5 : decode cX4_checkColours 5 = .ok (.bipush 6, 2) := by decide +kernel
theorem dX4_checkColours_7 : decode cX4_checkColours 7 = .ok (.if_icmp .le 13, 3) := by decide +kernel
theorem dX4_checkColours_10 : decode cX4_checkColours 10 = .ok (.new 41, 3) := by decide +kernel
theorem dX4_checkColours_13 : decode cX4_checkColours 13 = .ok (.dup, 1) := by decide +kernel
theorem dX4_checkColours_14 : decode cX4_checkColours 14 = .ok (.ldc 219, 2) := by decide +kernel
theorem dX4_checkColours_16 : decode cX4_checkColours 16 = .ok (.invokespecial 45, 3) := by decide +kernel
theorem dX4_checkColours_19 : decode cX4_checkColours 19 = .ok (.athrow, 1) := by decide +kernel
theorem dX4_checkColours_20 : decode cX4_checkColours 20 = .ok (.return_, 1) := by decide +kernel
theorem dX4_isTooFar_0 : decode cX4_isTooFar 0 = .ok (.iload_n 0, 1) := by decide +kernel
theorem dX4_isTooFar_1 : decode cX4_isTooFar 1 = .ok (.bipush (-9), 2) := by decide +kernel
theorem dX4_isTooFar_3 : decode cX4_isTooFar 3 = .ok (.if_icmp .lt 9, 3) := by decide +kernel
theorem dX4_isTooFar_6 : decode cX4_isTooFar 6 = .ok (.iload_n 0, 1) := by decide +kernel
theorem dX4_isTooFar_7 : decode cX4_isTooFar 7 = .ok (.bipush 9, 2) := by decide +kernel
theorem dX4_isTooFar_9 : decode cX4_isTooFar 9 = .ok (.if_icmp .le 7, 3) := by decide +kernel
theorem dX4_isTooFar_12 : decode cX4_isTooFar 12 = .ok (.iconst 1, 1) := by decide +kernel
theorem dX4_isTooFar_13 : decode cX4_isTooFar 13 = .ok (.goto 4, 3) := by decide +kernel
theorem dX4_isTooFar_16 : decode cX4_isTooFar 16 = .ok (.iconst 0, 1) := by decide +kernel
theorem dX4_isTooFar_17 : decode cX4_isTooFar 17 = .ok (.ireturn, 1) := by decide +kernel
theorem dX4_isDot_0 : decode cX4_isDot 0 = .ok (.iload_n 0, 1) := by decide +kernel
theorem dX4_isDot_1 : decode cX4_isDot 1 = .ok (.ifCond .lt 13, 3) := by decide +kernel
theorem dX4_isDot_4 : decode cX4_isDot 4 = .ok (.iload_n 0, 1) := by decide +kernel
theorem dX4_isDot_5 : decode cX4_isDot 5 = .ok (.bipush 6, 2) := by decide +kernel
theorem dX4_isDot_7 : decode cX4_isDot 7 = .ok (.if_icmp .ge 7, 3) := by decide +kernel
theorem dX4_isDot_10 : decode cX4_isDot 10 = .ok (.iconst 1, 1) := by decide +kernel
theorem dX4_isDot_11 : decode cX4_isDot 11 = .ok (.goto 4, 3) := by decide +kernel
theorem dX4_isDot_14 : decode cX4_isDot 14 = .ok (.iconst 0, 1) := by decide +kernel
theorem dX4_isDot_15 : decode cX4_isDot 15 = .ok (.ireturn, 1) := by decide +kernel
theorem dX4_isPrime_0 : decode cX4_isPrime 0 = .ok (.getstatic 221, 3) := by decide +kernel
theorem dX4_isPrime_3 : decode cX4_isPrime 3 = .ok (.astore_n 1, 1) := by decide +kernel
theorem dX4_isPrime_4 : decode cX4_isPrime 4 = .ok (.aload_n 1, 1) := by decide +kernel
theorem dX4_isPrime_5 : decode cX4_isPrime 5 = .ok (.arraylength, 1) := by decide +kernel
theorem dX4_isPrime_6 : decode cX4_isPrime 6 = .ok (.istore_n 2, 1) := by decide +kernel
theorem dX4_isPrime_7 : decode cX4_isPrime 7 = .ok (.iconst 0, 1) := by decide +kernel
theorem dX4_isPrime_8 : decode cX4_isPrime 8 = .ok (.istore_n 3, 1) := by decide +kernel
theorem dX4_isPrime_9 : decode cX4_isPrime 9 = .ok (.iload_n 3, 1) := by decide +kernel
theorem dX4_isPrime_10 : decode cX4_isPrime 10 = .ok (.iload_n 2, 1) := by decide +kernel
theorem dX4_isPrime_11 : decode cX4_isPrime 11 = .ok (.if_icmp .ge 22, 3) := by decide +kernel
theorem dX4_isPrime_14 : decode cX4_isPrime 14 = .ok (.aload_n 1, 1) := by decide +kernel
theorem dX4_isPrime_15 : decode cX4_isPrime 15 = .ok (.iload_n 3, 1) := by decide +kernel
theorem dX4_isPrime_16 : decode cX4_isPrime 16 = .ok (.iaload, 1) := by decide +kernel
theorem dX4_isPrime_17 : decode cX4_isPrime 17 = .ok (.istore 4, 2) := by decide +kernel
theorem dX4_isPrime_19 : decode cX4_isPrime 19 = .ok (.iload 4, 2) := by decide +kernel
theorem dX4_isPrime_21 : decode cX4_isPrime 21 = .ok (.iload_n 0, 1) := by decide +kernel
theorem dX4_isPrime_22 : decode cX4_isPrime 22 = .ok (.if_icmp .ne 5, 3) := by decide +kernel
theorem dX4_isPrime_25 : decode cX4_isPrime 25 = .ok (.iconst 1, 1) := by decide +kernel
theorem dX4_isPrime_26 : decode cX4_isPrime 26 = .ok (.ireturn, 1) := by decide +kernel
theorem dX4_isPrime_27 : decode cX4_isPrime 27 = .ok (.iinc 3 1, 3) := by decide +kernel
theorem dX4_isPrime_30 : decode cX4_isPrime 30 = .ok (.goto (-21), 3) := by decide +kernel
theorem dX4_isPrime_33 : decode cX4_isPrime 33 = .ok (.iconst 0, 1) := by decide +kernel
theorem dX4_isPrime_34 : decode cX4_isPrime 34 = .ok (.ireturn, 1) := by decide +kernel
theorem dX4_bit_0 : decode cX4_bit 0 = .ok (.iconst 1, 1) := by decide +kernel
theorem dX4_bit_1 : decode cX4_bit 1 = .ok (.iload_n 0, 1) := by decide +kernel
theorem dX4_bit_2 : decode cX4_bit 2 = .ok (.ishl, 1) := by decide +kernel
theorem dX4_bit_3 : decode cX4_bit 3 = .ok (.ireturn, 1) := by decide +kernel
set_option maxRecDepth 20000 in
theorem ggX4_isIn_X4_bit : GoodIn wsX4_isIn wsX4_bit := goodIn_r _ [4] (by decide +kernel) (by decide +kernel)
set_option maxRecDepth 20000 in
theorem gX4_isIn_X4_bit : GoodIn wsX4_isIn (va_wsS RX4 172 yX4_bit wsX4_bit) := goodIn_app (goodIn_of _ (by decide +kernel)) ggX4_isIn_X4_bit
theorem dX4_isIn_0 : decode cX4_isIn 0 = .ok (.iload_n 0, 1) := by decide +kernel
theorem dX4_isIn_1 : decode cX4_isIn 1 = .ok (.iload_n 1, 1) := by decide +kernel
theorem dX4_isIn_2 : decode cX4_isIn 2 = .ok (.invokestatic 172, 3) := by decide +kernel
theorem dX4_isIn_5 : decode cX4_isIn 5 = .ok (.iand, 1) := by decide +kernel
theorem dX4_isIn_6 : decode cX4_isIn 6 = .ok (.ifCond .eq 7, 3) := by decide +kernel
theorem dX4_isIn_9 : decode cX4_isIn 9 = .ok (.iconst 1, 1) := by decide +kernel
theorem dX4_isIn_10 : decode cX4_isIn 10 = .ok (.goto 4, 3) := by decide +kernel
theorem dX4_isIn_13 : decode cX4_isIn 13 = .ok (.iconst 0, 1) := by decide +kernel
theorem dX4_isIn_14 : decode cX4_isIn 14 = .ok (.ireturn, 1) := by decide +kernel
theorem dX5_init_0 : decode cX5_init 0 = .ok (.aload_n 0, 1) := by decide +kernel
theorem dX5_init_1 : decode cX5_init 1 = .ok (.invokespecial 1, 3) := by decide +kernel
theorem dX5_init_4 : decode cX5_init 4 = .ok (.aload_n 0, 1) := by decide +kernel
theorem dX5_init_5 : decode cX5_init 5 = .ok (.bipush 9, 2) := by decide +kernel
theorem dX5_init_7 : decode cX5_init 7 = .ok (.newarray .int, 2) := by decide +kernel
theorem dX5_init_9 : decode cX5_init 9 = .ok (.putfield 7, 3) := by decide +kernel
theorem dX5_init_12 : decode cX5_init 12 = .ok (.aload_n 0, 1) := by decide +kernel
theorem dX5_init_13 : decode cX5_init 13 = .ok (.bipush 9, 2) := by decide +kernel
theorem dX5_init_15 : decode cX5_init 15 = .ok (.newarray .int, 2) := by decide +kernel
theorem dX5_init_17 : decode cX5_init 17 = .ok (.putfield 13, 3) := by decide +kernel
theorem dX5_init_20 : decode cX5_init 20 = .ok (.aload_n 0, 1) := by decide +kernel
theorem dX5_init_21 : decode cX5_init 21 = .ok (.bipush 9, 2) := by decide +kernel
theorem dX5_init_23 : decode cX5_init 23 = .ok (.newarray .int, 2) := by decide +kernel
theorem dX5_init_25 : decode cX5_init 25 = .ok (.putfield 16, 3) := by decide +kernel
theorem dX5_init_28 : decode cX5_init 28 = .ok (.aload_n 0, 1) := by decide +kernel
theorem dX5_init_29 : decode cX5_init 29 = .ok (.bipush 36, 2) := by decide +kernel
theorem dX5_init_31 : decode cX5_init 31 = .ok (.newarray .int, 2) := by decide +kernel
theorem dX5_init_33 : decode cX5_init 33 = .ok (.putfield 19, 3) := by decide +kernel
theorem dX5_init_36 : decode cX5_init 36 = .ok (.aload_n 0, 1) := by decide +kernel
theorem dX5_init_37 : decode cX5_init 37 = .ok (.bipush 36, 2) := by decide +kernel
theorem dX5_init_39 : decode cX5_init 39 = .ok (.newarray .int, 2) := by decide +kernel
theorem dX5_init_41 : decode cX5_init 41 = .ok (.putfield 22, 3) := by decide +kernel
theorem dX5_init_44 : decode cX5_init 44 = .ok (.aload_n 0, 1) := by decide +kernel
theorem dX5_init_45 : decode cX5_init 45 = .ok (.bipush 36, 2) := by decide +kernel
theorem dX5_init_47 : decode cX5_init 47 = .ok (.newarray .int, 2) := by decide +kernel
theorem dX5_init_49 : decode cX5_init 49 = .ok (.putfield 25, 3) := by decide +kernel
theorem dX5_init_52 : decode cX5_init 52 = .ok (.aload_n 0, 1) := by decide +kernel
theorem dX5_init_53 : decode cX5_init 53 = .ok (.sipush 512, 3) := by decide +kernel
theorem dX5_init_56 : decode cX5_init 56 = .ok (.newarray .boolean, 2) := by decide +kernel
theorem dX5_init_58 : decode cX5_init 58 = .ok (.putfield 28, 3) := by decide +kernel
theorem dX5_init_61 : decode cX5_init 61 = .ok (.aload_n 0, 1) := by decide +kernel
theorem dX5_init_62 : decode cX5_init 62 = .ok (.sipush 512, 3) := by decide +kernel
theorem dX5_init_65 : decode cX5_init 65 = .ok (.newarray .int, 2) := by decide +kernel
theorem dX5_init_67 : decode cX5_init 67 = .ok (.putfield 32, 3) := by decide +kernel
theorem dX5_init_70 : decode cX5_init 70 = .ok (.aload_n 0, 1) := by decide +kernel
theorem dX5_init_71 : decode cX5_init 71 = .ok (.bipush 15, 2) := by decide +kernel
theorem dX5_init_73 : decode cX5_init 73 = .ok (.newarray .int, 2) := by decide +kernel
theorem dX5_init_75 : decode cX5_init 75 = .ok (.putfield 35, 3) := by decide +kernel
theorem dX5_init_78 : decode cX5_init 78 = .ok (.aload_n 0, 1) := by decide +kernel
theorem dX5_init_79 : decode cX5_init 79 = .ok (.bipush 15, 2) := by decide +kernel
theorem dX5_init_81 : decode cX5_init 81 = .ok (.newarray .int, 2) := by decide +kernel
theorem dX5_init_83 : decode cX5_init 83 = .ok (.putfield 38, 3) := by decide +kernel
theorem dX5_init_86 : decode cX5_init 86 = .ok (.aload_n 0, 1) := by decide +kernel
theorem dX5_init_87 : decode cX5_init 87 = .ok (.bipush 6, 2) := by decide +kernel
theorem dX5_init_89 : decode cX5_init 89 = .ok (.newarray .int, 2) := by decide +kernel
theorem dX5_init_91 : decode cX5_init 91 = .ok (.putfield 41, 3) := by decide +kernel
theorem dX5_init_94 : decode cX5_init 94 = .ok (.aload_n 0, 1) := by decide +kernel
theorem dX5_init_95 : decode cX5_init 95 = .ok (.bipush 6, 2) := by decide +kernel
theorem dX5_init_97 : decode cX5_init 97 = .ok (.newarray .int, 2) := by decide +kernel
theorem dX5_init_99 : decode cX5_init 99 = .ok (.putfield 44, 3) := by decide +kernel
theorem dX5_init_102 : decode cX5_init 102 = .ok (.return_, 1) := by decide +kernel
theorem dX5_thrown_0 : decode cX5_thrown 0 = .ok (.aload_n 0, 1) := by decide +kernel
theorem dX5_thrown_1 : decode cX5_thrown 1 = .ok (.getfield 47, 3) := by decide +kernel
theorem dX5_thrown_4 : decode cX5_thrown 4 = .ok (.ireturn, 1) := by decide +kernel
theorem dX5_fails_0 : decode cX5_fails 0 = .ok (.aload_n 0, 1) := by decide +kernel
theorem dX5_fails_1 : decode cX5_fails 1 = .ok (.iload_n 1, 1) := by decide +kernel
theorem dX5_fails_2 : decode cX5_fails 2 = .ok (.ifCond .eq 7, 3) := by decide +kernel
theorem dX5_fails_5 : decode cX5_fails 5 = .ok (.iconst 0, 1) := by decide +kernel
theorem dX5_fails_6 : decode cX5_fails 6 = .ok (.goto 4, 3) := by decide +kernel
theorem dX5_fails_9 : decode cX5_fails 9 = .ok (.iload_n 2, 1) := by decide +kernel
theorem dX5_fails_10 : decode cX5_fails 10 = .ok (.putfield 47, 3) := by decide +kernel
theorem dX5_fails_13 : decode cX5_fails 13 = .ok (.iload_n 1, 1) := by decide +kernel
theorem dX5_fails_14 : decode cX5_fails 14 = .ok (.ifCond .ne 7, 3) := by decide +kernel
theorem dX5_fails_17 : decode cX5_fails 17 = .ok (.iconst 1, 1) := by decide +kernel
theorem dX5_fails_18 : decode cX5_fails 18 = .ok (.goto 4, 3) := by decide +kernel
theorem dX5_fails_21 : decode cX5_fails 21 = .ok (.iconst 0, 1) := by decide +kernel
theorem dX5_fails_22 : decode cX5_fails 22 = .ok (.ireturn, 1) := by decide +kernel
theorem dX5_in_0 : decode cX5_in 0 = .ok (.iload_n 0, 1) := by decide +kernel
theorem dX5_in_1 : decode cX5_in 1 = .ok (.iload_n 1, 1) := by decide +kernel
theorem dX5_in_2 : decode cX5_in 2 = .ok (.if_icmp .lt 12, 3) := by decide +kernel
theorem dX5_in_5 : decode cX5_in 5 = .ok (.iload_n 0, 1) := by decide +kernel
theorem dX5_in_6 : decode cX5_in 6 = .ok (.iload_n 2, 1) := by decide +kernel
theorem dX5_in_7 : decode cX5_in 7 = .ok (.if_icmp .gt 7, 3) := by decide +kernel
theorem dX5_in_10 : decode cX5_in 10 = .ok (.iconst 1, 1) := by decide +kernel
theorem dX5_in_11 : decode cX5_in 11 = .ok (.goto 4, 3) := by decide +kernel
theorem dX5_in_14 : decode cX5_in 14 = .ok (.iconst 0, 1) := by decide +kernel
theorem dX5_in_15 : decode cX5_in 15 = .ok (.ireturn, 1) := by decide +kernel
theorem dX5_sign_0 : decode cX5_sign 0 = .ok (.iload_n 0, 1) := by decide +kernel
theorem dX5_sign_1 : decode cX5_sign 1 = .ok (.ifCond .le 7, 3) := by decide +kernel
theorem dX5_sign_4 : decode cX5_sign 4 = .ok (.iconst 1, 1) := by decide +kernel
theorem dX5_sign_5 : decode cX5_sign 5 = .ok (.goto 12, 3) := by decide +kernel
theorem dX5_sign_8 : decode cX5_sign 8 = .ok (.iload_n 0, 1) := by decide +kernel
theorem dX5_sign_9 : decode cX5_sign 9 = .ok (.ifCond .ge 7, 3) := by decide +kernel
theorem dX5_sign_12 : decode cX5_sign 12 = .ok (.iconst (-1), 1) := by decide +kernel
theorem dX5_sign_13 : decode cX5_sign 13 = .ok (.goto 4, 3) := by decide +kernel
theorem dX5_sign_16 : decode cX5_sign 16 = .ok (.iconst 0, 1) := by decide +kernel
theorem dX5_sign_17 : decode cX5_sign 17 = .ok (.ireturn, 1) := by decide +kernel
set_option maxRecDepth 20000 in
theorem ggX5_lineIs_X5_in : GoodIn wsX5_lineIs wsX5_in := goodIn_r _ [5] (by decide +kernel) (by decide +kernel)
set_option maxRecDepth 20000 in
theorem gX5_lineIs_X5_in : GoodIn wsX5_lineIs (va_wsS RX5 54 yX5_in wsX5_in) := goodIn_app (goodIn_of _ (by decide +kernel)) ggX5_lineIs_X5_in
theorem dX5_lineIs_0 : decode cX5_lineIs 0 = .ok (.iload_n 1, 1) := by decide +kernel
theorem dX5_lineIs_1 : decode cX5_lineIs 1 = .ok (.iconst 0, 1) := by decide +kernel
theorem dX5_lineIs_2 : decode cX5_lineIs 2 = .ok (.aload_n 0, 1) := by decide +kernel
theorem dX5_lineIs_3 : decode cX5_lineIs 3 = .ok (.getfield 51, 3) := by decide +kernel
theorem dX5_lineIs_6 : decode cX5_lineIs 6 = .ok (.iconst 1, 1) := by decide +kernel
theorem dX5_lineIs_7 : decode cX5_lineIs 7 = .ok (.isub, 1) := by decide +kernel
theorem dX5_lineIs_8 : decode cX5_lineIs 8 = .ok (.invokestatic 54, 3) := by decide +kernel
theorem dX5_lineIs_11 : decode cX5_lineIs 11 = .ok (.ireturn, 1) := by decide +kernel
theorem dX5_isLine_0 : decode cX5_isLine 0 = .ok (.aload_n 0, 1) := by decide +kernel
theorem dX5_isLine_1 : decode cX5_isLine 1 = .ok (.getfield 7, 3) := by decide +kernel
theorem dX5_isLine_4 : decode cX5_isLine 4 = .ok (.iload_n 1, 1) := by decide +kernel
theorem dX5_isLine_5 : decode cX5_isLine 5 = .ok (.iaload, 1) := by decide +kernel
theorem dX5_isLine_6 : decode cX5_isLine 6 = .ok (.iload_n 3, 1) := by decide +kernel
theorem dX5_isLine_7 : decode cX5_isLine 7 = .ok (.imul, 1) := by decide +kernel
theorem dX5_isLine_8 : decode cX5_isLine 8 = .ok (.aload_n 0, 1) := by decide +kernel
theorem dX5_isLine_9 : decode cX5_isLine 9 = .ok (.getfield 13, 3) := by decide +kernel
theorem dX5_isLine_12 : decode cX5_isLine 12 = .ok (.iload_n 1, 1) := by decide +kernel
theorem dX5_isLine_13 : decode cX5_isLine 13 = .ok (.iaload, 1) := by decide +kernel
theorem dX5_isLine_14 : decode cX5_isLine 14 = .ok (.iload_n 2, 1) := by decide +kernel
theorem dX5_isLine_15 : decode cX5_isLine 15 = .ok (.imul, 1) := by decide +kernel
theorem dX5_isLine_16 : decode cX5_isLine 16 = .ok (.if_icmp .ne 47, 3) := by decide +kernel
theorem dX5_isLine_19 : decode cX5_isLine 19 = .ok (.aload_n 0, 1) := by decide +kernel
theorem dX5_isLine_20 : decode cX5_isLine 20 = .ok (.getfield 7, 3) := by decide +kernel
theorem dX5_isLine_23 : decode cX5_isLine 23 = .ok (.iload_n 1, 1) := by decide +kernel
theorem dX5_isLine_24 : decode cX5_isLine 24 = .ok (.iaload, 1) := by decide +kernel
theorem dX5_isLine_25 : decode cX5_isLine 25 = .ok (.iload 4, 2) := by decide +kernel
theorem dX5_isLine_27 : decode cX5_isLine 27 = .ok (.imul, 1) := by decide +kernel
theorem dX5_isLine_28 : decode cX5_isLine 28 = .ok (.aload_n 0, 1) := by decide +kernel
theorem dX5_isLine_29 : decode cX5_isLine 29 = .ok (.getfield 16, 3) := by decide +kernel
theorem dX5_isLine_32 : decode cX5_isLine 32 = .ok (.iload_n 1, 1) := by decide +kernel
theorem dX5_isLine_33 : decode cX5_isLine 33 = .ok (.iaload, 1) := by decide +kernel
theorem dX5_isLine_34 : decode cX5_isLine 34 = .ok (.iload_n 2, 1) := by decide +kernel
theorem dX5_isLine_35 : decode cX5_isLine 35 = .ok (.imul, 1) := by decide +kernel
theorem dX5_isLine_36 : decode cX5_isLine 36 = .ok (.if_icmp .ne 27, 3) := by decide +kernel
theorem dX5_isLine_39 : decode cX5_isLine 39 = .ok (.aload_n 0, 1) := by decide +kernel
theorem dX5_isLine_40 : decode cX5_isLine 40 = .ok (.getfield 13, 3) := by decide +kernel
theorem dX5_isLine_43 : decode cX5_isLine 43 = .ok (.iload_n 1, 1) := by decide +kernel
theorem dX5_isLine_44 : decode cX5_isLine 44 = .ok (.iaload, 1) := by decide +kernel
theorem dX5_isLine_45 : decode cX5_isLine 45 = .ok (.iload 4, 2) := by decide +kernel
theorem dX5_isLine_47 : decode cX5_isLine 47 = .ok (.imul, 1) := by decide +kernel
theorem dX5_isLine_48 : decode cX5_isLine 48 = .ok (.aload_n 0, 1) := by decide +kernel
theorem dX5_isLine_49 : decode cX5_isLine 49 = .ok (.getfield 16, 3) := by decide +kernel
theorem dX5_isLine_52 : decode cX5_isLine 52 = .ok (.iload_n 1, 1) := by decide +kernel
theorem dX5_isLine_53 : decode cX5_isLine 53 = .ok (.iaload, 1) := by decide +kernel
theorem dX5_isLine_54 : decode cX5_isLine 54 = .ok (.iload_n 3, 1) := by decide +kernel
theorem dX5_isLine_55 : decode cX5_isLine 55 = .ok (.imul, 1) := by decide +kernel
theorem dX5_isLine_56 : decode cX5_isLine 56 = .ok (.if_icmp .ne 7, 3) := by decide +kernel
theorem dX5_isLine_59 : decode cX5_isLine 59 = .ok (.iconst 1, 1) := by decide +kernel
theorem dX5_isLine_60 : decode cX5_isLine 60 = .ok (.goto 4, 3) := by decide +kernel
theorem dX5_isLine_63 : decode cX5_isLine 63 = .ok (.iconst 0, 1) := by decide +kernel
theorem dX5_isLine_64 : decode cX5_isLine 64 = .ok (.ireturn, 1) := by decide +kernel
set_option maxRecDepth 20000 in
theorem ggX5_lineOf_X5_isLine : GoodIn wsX5_lineOf wsX5_isLine := goodIn_r _ [6, 7, 8, 9, 10, 11, 12, 13, 14, 15, 16, 17, 18, 19, 20, 21, 22, 23, 24, 25, 26, 27, 28] (by decide +kernel) (by decide +kernel)
set_option maxRecDepth 20000 in
theorem gX5_lineOf_X5_isLine : GoodIn wsX5_lineOf (wsV RX5 58 RX5 yX5_isLine wsX5_isLine) := goodIn_app (goodIn_of _ (by decide +kernel)) ggX5_lineOf_X5_isLine
theorem dX5_lineOf_0 : decode cX5_lineOf 0 = .ok (.iconst (-1), 1) := by decide +kernel
theorem dX5_lineOf_1 : decode cX5_lineOf 1 = .ok (.istore 4, 2) := by decide +kernel
theorem dX5_lineOf_3 : decode cX5_lineOf 3 = .ok (.iconst 0, 1) := by decide +kernel
theorem dX5_lineOf_4 : decode cX5_lineOf 4 = .ok (.istore 5, 2) := by decide +kernel
theorem dX5_lineOf_6 : decode cX5_lineOf 6 = .ok (.iload 5, 2) := by decide +kernel
theorem dX5_lineOf_8 : decode cX5_lineOf 8 = .ok (.aload_n 0, 1) := by decide +kernel
theorem dX5_lineOf_9 : decode cX5_lineOf 9 = .ok (.getfield 51, 3) := by decide +kernel
theorem dX5_lineOf_12 : decode cX5_lineOf 12 = .ok (.if_icmp .ge 30, 3) := by decide +kernel
theorem dX5_lineOf_15 : decode cX5_lineOf 15 = .ok (.aload_n 0, 1) := by decide +kernel
theorem dX5_lineOf_16 : decode cX5_lineOf 16 = .ok (.iload 5, 2) := by decide +kernel
theorem dX5_lineOf_18 : decode cX5_lineOf 18 = .ok (.iload_n 1, 1) := by decide +kernel
theorem dX5_lineOf_19 : decode cX5_lineOf 19 = .ok (.iload_n 2, 1) := by decide +kernel
theorem dX5_lineOf_20 : decode cX5_lineOf 20 = .ok (.iload_n 3, 1) := by decide +kernel
theorem dX5_lineOf_21 : decode cX5_lineOf 21 = .ok (.invokevirtual 58, 3) := by decide +kernel
theorem dX5_lineOf_24 : decode cX5_lineOf 24 = .ok (.ifCond .eq 8, 3) := by decide +kernel
theorem dX5_lineOf_27 : decode cX5_lineOf 27 = .ok (.iload 5, 2) := by decide +kernel
theorem dX5_lineOf_29 : decode cX5_lineOf 29 = .ok (.goto 5, 3) := by decide +kernel
theorem dX5_lineOf_32 : decode cX5_lineOf 32 = .ok (.iload 4, 2) := by decide +kernel
theorem dX5_lineOf_34 : decode cX5_lineOf 34 = .ok (.istore 4, 2) := by decide +kernel
theorem dX5_lineOf_36 : decode cX5_lineOf 36 = .ok (.iinc 5 1, 3) := by decide +kernel
theorem dX5_lineOf_39 : decode cX5_lineOf 39 = .ok (.goto (-33), 3) := by decide +kernel
theorem dX5_lineOf_42 : decode cX5_lineOf 42 = .ok (.iload 4, 2) := by decide +kernel
theorem dX5_lineOf_44 : decode cX5_lineOf 44 = .ok (.ireturn, 1) := by decide +kernel
set_option maxRecDepth 20000 in
theorem ggX5_line_X5_in : GoodIn wsX5_line wsX5_in := goodIn_r _ [8] (by decide +kernel) (by decide +kernel)
set_option maxRecDepth 20000 in
theorem gX5_line_X5_in : GoodIn wsX5_line (va_wsS RX5 54 yX5_in wsX5_in) := goodIn_app (goodIn_of _ (by decide +kernel)) ggX5_line_X5_in
set_option maxRecDepth 20000 in
theorem ggX5_line_X5_fails : GoodIn wsX5_line wsX5_fails := goodIn_r _ [12, 13, 22, 23, 24, 25, 26, 27, 28, 29, 30, 31, 32, 33, 34, 35, 36, 37, 38, 39, 40] (by decide +kernel) (by decide +kernel)
set_option maxRecDepth 20000 in
theorem gX5_line_X5_fails : GoodIn wsX5_line (wsV RX5 62 RX5 yX5_fails wsX5_fails) := goodIn_app (goodIn_of _ (by decide +kernel)) ggX5_line_X5_fails
set_option maxRecDepth 20000 in
theorem ggX5_line_X5_lineOf : GoodIn wsX5_line wsX5_lineOf := goodIn_r _ [17, 1, 18, 19, 20, 7, 21, 2, 3, 4, 22, 23, 24, 25, 26, 27, 28, 29, 30, 31, 32, 33, 34, 35, 36, 37, 38, 39, 40] (by decide +kernel) (by decide +kernel)
set_option maxRecDepth 20000 in
theorem gX5_line_X5_lineOf : GoodIn wsX5_line (wsV RX5 66 RX5 yX5_lineOf wsX5_lineOf) := goodIn_app (goodIn_of _ (by decide +kernel)) ggX5_line_X5_lineOf
theorem dX5_line_0 : decode cX5_line 0 = .ok (.aload_n 0, 1) := by decide +kernel
theorem dX5_line_1 : decode cX5_line 1 = .ok (.iload_n 1, 1) := by decide +kernel
theorem dX5_line_2 : decode cX5_line 2 = .ok (.bipush (-9), 2) := by decide +kernel
theorem dX5_line_4 : decode cX5_line 4 = .ok (.bipush 9, 2) := by decide +kernel
theorem dX5_line_6 : decode cX5_line 6 = .ok (.invokestatic 54, 3) := by decide +kernel
theorem dX5_line_9 : decode cX5_line 9 = .ok (.ifCond .eq 37, 3) := by decide +kernel
theorem dX5_line_12 : decode cX5_line 12 = .ok (.iload_n 2, 1) := by decide +kernel
theorem dX5_line_13 : decode cX5_line 13 = .ok (.bipush (-9), 2) := by decide +kernel
theorem dX5_line_15 : decode cX5_line 15 = .ok (.bipush 9, 2) := by decide +kernel
theorem dX5_line_17 : decode cX5_line 17 = .ok (.invokestatic 54, 3) := by decide +kernel
theorem dX5_line_20 : decode cX5_line 20 = .ok (.ifCond .eq 26, 3) := by decide +kernel
theorem dX5_line_23 : decode cX5_line 23 = .ok (.iload_n 3, 1) := by decide +kernel
theorem dX5_line_24 : decode cX5_line 24 = .ok (.bipush (-9), 2) := by decide +kernel
theorem dX5_line_26 : decode cX5_line 26 = .ok (.bipush 9, 2) := by decide +kernel
theorem dX5_line_28 : decode cX5_line 28 = .ok (.invokestatic 54, 3) := by decide +kernel
theorem dX5_line_31 : decode cX5_line 31 = .ok (.ifCond .eq 15, 3) := by decide +kernel
theorem dX5_line_34 : decode cX5_line 34 = .ok (.iload_n 1, 1) := by decide +kernel
theorem dX5_line_35 : decode cX5_line 35 = .ok (.ifCond .ne 7, 3) := by decide +kernel
theorem dX5_line_38 : decode cX5_line 38 = .ok (.iload_n 2, 1) := by decide +kernel
theorem dX5_line_39 : decode cX5_line 39 = .ok (.ifCond .eq 7, 3) := by decide +kernel
theorem dX5_line_42 : decode cX5_line 42 = .ok (.iconst 1, 1) := by decide +kernel
theorem dX5_line_43 : decode cX5_line 43 = .ok (.goto 4, 3) := by decide +kernel
theorem dX5_line_46 : decode cX5_line 46 = .ok (.iconst 0, 1) := by decide +kernel
theorem dX5_line_47 : decode cX5_line 47 = .ok (.iconst 1, 1) := by decide +kernel
theorem dX5_line_48 : decode cX5_line 48 = .ok (.invokevirtual 62, 3) := by decide +kernel
theorem dX5_line_51 : decode cX5_line 51 = .ok (.ifCond .eq 5, 3) := by decide +kernel
theorem dX5_line_54 : decode cX5_line 54 = .ok (.iconst 0, 1) := by decide +kernel
theorem dX5_line_55 : decode cX5_line 55 = .ok (.ireturn, 1) := by decide +kernel
theorem dX5_line_56 : decode cX5_line 56 = .ok (.aload_n 0, 1) := by decide +kernel
theorem dX5_line_57 : decode cX5_line 57 = .ok (.aload_n 0, 1) := by decide +kernel
theorem dX5_line_58 : decode cX5_line 58 = .ok (.iload_n 1, 1) := by decide +kernel
theorem dX5_line_59 : decode cX5_line 59 = .ok (.iload_n 2, 1) := by decide +kernel
theorem dX5_line_60 : decode cX5_line 60 = .ok (.iload_n 3, 1) := by decide +kernel
theorem dX5_line_61 : decode cX5_line 61 = .ok (.invokevirtual 66, 3) := by decide +kernel
theorem dX5_line_64 : decode cX5_line 64 = .ok (.iconst (-1), 1) := by decide +kernel
theorem dX5_line_65 : decode cX5_line 65 = .ok (.if_icmp .ne 16, 3) := by decide +kernel
theorem dX5_line_68 : decode cX5_line 68 = .ok (.aload_n 0, 1) := by decide +kernel
theorem dX5_line_69 : decode cX5_line 69 = .ok (.getfield 51, 3) := by decide +kernel
theorem dX5_line_72 : decode cX5_line 72 = .ok (.bipush 9, 2) := by decide +kernel
theorem dX5_line_74 : decode cX5_line 74 = .ok (.if_icmp .ge 7, 3) := by decide +kernel
theorem dX5_line_77 : decode cX5_line 77 = .ok (.iconst 1, 1) := by decide +kernel
theorem dX5_line_78 : decode cX5_line 78 = .ok (.goto 4, 3) := by decide +kernel
theorem dX5_line_81 : decode cX5_line 81 = .ok (.iconst 0, 1) := by decide +kernel
theorem dX5_line_82 : decode cX5_line 82 = .ok (.iconst 2, 1) := by decide +kernel
theorem dX5_line_83 : decode cX5_line 83 = .ok (.invokevirtual 62, 3) := by decide +kernel
theorem dX5_line_86 : decode cX5_line 86 = .ok (.ifCond .eq 5, 3) := by decide +kernel
theorem dX5_line_89 : decode cX5_line 89 = .ok (.iconst 0, 1) := by decide +kernel
theorem dX5_line_90 : decode cX5_line 90 = .ok (.ireturn, 1) := by decide +kernel
theorem dX5_line_91 : decode cX5_line 91 = .ok (.aload_n 0, 1) := by decide +kernel
theorem dX5_line_92 : decode cX5_line 92 = .ok (.getfield 7, 3) := by decide +kernel
theorem dX5_line_95 : decode cX5_line 95 = .ok (.aload_n 0, 1) := by decide +kernel
theorem dX5_line_96 : decode cX5_line 96 = .ok (.getfield 51, 3) := by decide +kernel
theorem dX5_line_99 : decode cX5_line 99 = .ok (.iload_n 1, 1) := by decide +kernel
theorem dX5_line_100 : decode cX5_line 100 = .ok (.iastore, 1) := by decide +kernel
theorem dX5_line_101 : decode cX5_line 101 = .ok (.aload_n 0, 1) := by decide +kernel
theorem dX5_line_102 : decode cX5_line 102 = .ok (.getfield 13, 3) := by decide +kernel
theorem dX5_line_105 : decode cX5_line 105 = .ok (.aload_n 0, 1) := by decide +kernel
theorem dX5_line_106 : decode cX5_line 106 = .ok (.getfield 51, 3) := by decide +kernel
theorem dX5_line_109 : decode cX5_line 109 = .ok (.iload_n 2, 1) := by decide +kernel
theorem dX5_line_110 : decode cX5_line 110 = .ok (.iastore, 1) := by decide +kernel
theorem dX5_line_111 : decode cX5_line 111 = .ok (.aload_n 0, 1) := by decide +kernel
theorem dX5_line_112 : decode cX5_line 112 = .ok (.getfield 16, 3) := by decide +kernel
theorem dX5_line_115 : decode cX5_line 115 = .ok (.aload_n 0, 1) := by decide +kernel
theorem dX5_line_116 : decode cX5_line 116 = .ok (.getfield 51, 3) := by decide +kernel
theorem dX5_line_119 : decode cX5_line 119 = .ok (.iload_n 3, 1) := by decide +kernel
theorem dX5_line_120 : decode cX5_line 120 = .ok (.iastore, 1) := by decide +kernel
theorem dX5_line_121 : decode cX5_line 121 = .ok (.aload_n 0, 1) := by decide +kernel
theorem dX5_line_122 : decode cX5_line 122 = .ok (.dup, 1) := by decide +kernel
theorem dX5_line_123 : decode cX5_line 123 = .ok (.getfield 51, 3) := by decide +kernel
theorem dX5_line_126 : decode cX5_line 126 = .ok (.iconst 1, 1) := by decide +kernel
theorem dX5_line_127 : decode cX5_line 127 = .ok (.iadd, 1) := by decide +kernel
theorem dX5_line_128 : decode cX5_line 128 = .ok (.putfield 51, 3) := by decide +kernel
theorem dX5_line_131 : decode cX5_line 131 = .ok (.aload_n 0, 1) := by decide +kernel
theorem dX5_line_132 : decode cX5_line 132 = .ok (.getfield 51, 3) := by decide +kernel
theorem dX5_line_135 : decode cX5_line 135 = .ok (.iconst 1, 1) := by decide +kernel
theorem dX5_line_136 : decode cX5_line 136 = .ok (.isub, 1) := by decide +kernel
theorem dX5_line_137 : decode cX5_line 137 = .ok (.ireturn, 1) := by decide +kernel
set_option maxRecDepth 20000 in
theorem ggX5_takeAway_X5_lineIs : GoodIn wsX5_takeAway wsX5_lineIs := goodIn_r _ [9, 1, 10, 11, 8, 12, 18, 19, 20, 21, 22, 23, 24, 25, 26, 27, 28, 29, 30, 31, 32, 33, 34, 35, 36] (by decide +kernel) (by decide +kernel)
set_option maxRecDepth 20000 in
theorem gX5_takeAway_X5_lineIs : GoodIn wsX5_takeAway (wsV RX5 70 RX5 yX5_lineIs wsX5_lineIs) := goodIn_app (goodIn_of _ (by decide +kernel)) ggX5_takeAway_X5_lineIs
set_option maxRecDepth 20000 in
theorem ggX5_takeAway_X5_fails : GoodIn wsX5_takeAway wsX5_fails := goodIn_r _ [16, 17, 18, 19, 20, 21, 22, 23, 24, 25, 26, 27, 28, 29, 30, 31, 32, 33, 34, 35, 36] (by decide +kernel) (by decide +kernel)
set_option maxRecDepth 20000 in
theorem gX5_takeAway_X5_fails : GoodIn wsX5_takeAway (wsV RX5 62 RX5 yX5_fails wsX5_fails) := goodIn_app (goodIn_of _ (by decide +kernel)) ggX5_takeAway_X5_fails
theorem dX5_takeAway_0 : decode cX5_takeAway 0 = .ok (.aload_n 0, 1) := by decide +kernel
theorem dX5_takeAway_1 : decode cX5_takeAway 1 = .ok (.aload_n 0, 1) := by decide +kernel
theorem dX5_takeAway_2 : decode cX5_takeAway 2 = .ok (.iload_n 1, 1) := by decide +kernel
theorem dX5_takeAway_3 : decode cX5_takeAway 3 = .ok (.invokevirtual 70, 3) := by decide +kernel
theorem dX5_takeAway_6 : decode cX5_takeAway 6 = .ok (.iconst 1, 1) := by decide +kernel
theorem dX5_takeAway_7 : decode cX5_takeAway 7 = .ok (.invokevirtual 62, 3) := by decide +kernel
theorem dX5_takeAway_10 : decode cX5_takeAway 10 = .ok (.ifCond .eq 5, 3) := by decide +kernel
theorem dX5_takeAway_13 : decode cX5_takeAway 13 = .ok (.iconst 0, 1) := by decide +kernel
theorem dX5_takeAway_14 : decode cX5_takeAway 14 = .ok (.ireturn, 1) := by decide +kernel
theorem dX5_takeAway_15 : decode cX5_takeAway 15 = .ok (.aload_n 0, 1) := by decide +kernel
theorem dX5_takeAway_16 : decode cX5_takeAway 16 = .ok (.dup, 1) := by decide +kernel
theorem dX5_takeAway_17 : decode cX5_takeAway 17 = .ok (.getfield 51, 3) := by decide +kernel
theorem dX5_takeAway_20 : decode cX5_takeAway 20 = .ok (.iconst 1, 1) := by decide +kernel
theorem dX5_takeAway_21 : decode cX5_takeAway 21 = .ok (.isub, 1) := by decide +kernel
theorem dX5_takeAway_22 : decode cX5_takeAway 22 = .ok (.putfield 51, 3) := by decide +kernel
theorem dX5_takeAway_25 : decode cX5_takeAway 25 = .ok (.iload_n 1, 1) := by decide +kernel
theorem dX5_takeAway_26 : decode cX5_takeAway 26 = .ok (.istore_n 2, 1) := by decide +kernel
theorem dX5_takeAway_27 : decode cX5_takeAway 27 = .ok (.iload_n 2, 1) := by decide +kernel
theorem dX5_takeAway_28 : decode cX5_takeAway 28 = .ok (.aload_n 0, 1) := by decide +kernel
theorem dX5_takeAway_29 : decode cX5_takeAway 29 = .ok (.getfield 51, 3) := by decide +kernel
theorem dX5_takeAway_32 : decode cX5_takeAway 32 = .ok (.if_icmp .ge 51, 3) := by decide +kernel
theorem dX5_takeAway_35 : decode cX5_takeAway 35 = .ok (.aload_n 0, 1) := by decide +kernel
theorem dX5_takeAway_36 : decode cX5_takeAway 36 = .ok (.getfield 7, 3) := by decide +kernel
theorem dX5_takeAway_39 : decode cX5_takeAway 39 = .ok (.iload_n 2, 1) := by decide +kernel
theorem dX5_takeAway_40 : decode cX5_takeAway 40 = .ok (.aload_n 0, 1) := by decide +kernel
theorem dX5_takeAway_41 : decode cX5_takeAway 41 = .ok (.getfield 7, 3) := by decide +kernel
theorem dX5_takeAway_44 : decode cX5_takeAway 44 = .ok (.iload_n 2, 1) := by decide +kernel
theorem dX5_takeAway_45 : decode cX5_takeAway 45 = .ok (.iconst 1, 1) := by decide +kernel
theorem dX5_takeAway_46 : decode cX5_takeAway 46 = .ok (.iadd, 1) := by decide +kernel
theorem dX5_takeAway_47 : decode cX5_takeAway 47 = .ok (.iaload, 1) := by decide +kernel
theorem dX5_takeAway_48 : decode cX5_takeAway 48 = .ok (.iastore, 1) := by decide +kernel
theorem dX5_takeAway_49 : decode cX5_takeAway 49 = .ok (.aload_n 0, 1) := by decide +kernel
theorem dX5_takeAway_50 : decode cX5_takeAway 50 = .ok (.getfield 13, 3) := by decide +kernel
theorem dX5_takeAway_53 : decode cX5_takeAway 53 = .ok (.iload_n 2, 1) := by decide +kernel
theorem dX5_takeAway_54 : decode cX5_takeAway 54 = .ok (.aload_n 0, 1) := by decide +kernel
theorem dX5_takeAway_55 : decode cX5_takeAway 55 = .ok (.getfield 13, 3) := by decide +kernel
theorem dX5_takeAway_58 : decode cX5_takeAway 58 = .ok (.iload_n 2, 1) := by decide +kernel
theorem dX5_takeAway_59 : decode cX5_takeAway 59 = .ok (.iconst 1, 1) := by decide +kernel
theorem dX5_takeAway_60 : decode cX5_takeAway 60 = .ok (.iadd, 1) := by decide +kernel
theorem dX5_takeAway_61 : decode cX5_takeAway 61 = .ok (.iaload, 1) := by decide +kernel
theorem dX5_takeAway_62 : decode cX5_takeAway 62 = .ok (.iastore, 1) := by decide +kernel
theorem dX5_takeAway_63 : decode cX5_takeAway 63 = .ok (.aload_n 0, 1) := by decide +kernel
theorem dX5_takeAway_64 : decode cX5_takeAway 64 = .ok (.getfield 16, 3) := by decide +kernel
theorem dX5_takeAway_67 : decode cX5_takeAway 67 = .ok (.iload_n 2, 1) := by decide +kernel
theorem dX5_takeAway_68 : decode cX5_takeAway 68 = .ok (.aload_n 0, 1) := by decide +kernel
theorem dX5_takeAway_69 : decode cX5_takeAway 69 = .ok (.getfield 16, 3) := by decide +kernel
theorem dX5_takeAway_72 : decode cX5_takeAway 72 = .ok (.iload_n 2, 1) := by decide +kernel
theorem dX5_takeAway_73 : decode cX5_takeAway 73 = .ok (.iconst 1, 1) := by decide +kernel
theorem dX5_takeAway_74 : decode cX5_takeAway 74 = .ok (.iadd, 1) := by decide +kernel
theorem dX5_takeAway_75 : decode cX5_takeAway 75 = .ok (.iaload, 1) := by decide +kernel
theorem dX5_takeAway_76 : decode cX5_takeAway 76 = .ok (.iastore, 1) := by decide +kernel
theorem dX5_takeAway_77 : decode cX5_takeAway 77 = .ok (.iinc 2 1, 3) := by decide +kernel
theorem dX5_takeAway_80 : decode cX5_takeAway 80 = .ok (.goto (-53), 3) := by decide +kernel
theorem dX5_takeAway_83 : decode cX5_takeAway 83 = .ok (.aload_n 0, 1) := by decide +kernel
theorem dX5_takeAway_84 : decode cX5_takeAway 84 = .ok (.getfield 51, 3) := by decide +kernel
theorem dX5_takeAway_87 : decode cX5_takeAway 87 = .ok (.ireturn, 1) := by decide +kernel
theorem dX5_common_0 : decode cX5_common 0 = .ok (.iload_n 0, 1) := by decide +kernel
theorem dX5_common_1 : decode cX5_common 1 = .ok (.ifCond .ge 8, 3) := by decide +kernel
theorem dX5_common_4 : decode cX5_common 4 = .ok (.iload_n 0, 1) := by decide +kernel
theorem dX5_common_5 : decode cX5_common 5 = .ok (.ineg, 1) := by decide +kernel
theorem dX5_common_6 : decode cX5_common 6 = .ok (.goto 4, 3) := by decide +kernel
theorem dX5_common_9 : decode cX5_common 9 = .ok (.iload_n 0, 1) := by decide +kernel
theorem dX5_common_10 : decode cX5_common 10 = .ok (.istore_n 2, 1) := by decide +kernel
theorem dX5_common_11 : decode cX5_common 11 = .ok (.iload_n 1, 1) := by decide +kernel
theorem dX5_common_12 : decode cX5_common 12 = .ok (.ifCond .ge 8, 3) := by decide +kernel
theorem dX5_common_15 : decode cX5_common 15 = .ok (.iload_n 1, 1) := by decide +kernel
theorem dX5_common_16 : decode cX5_common 16 = .ok (.ineg, 1) := by decide +kernel
theorem dX5_common_17 : decode cX5_common 17 = .ok (.goto 4, 3) := by decide +kernel
theorem dX5_common_20 : decode cX5_common 20 = .ok (.iload_n 1, 1) := by decide +kernel
theorem dX5_common_21 : decode cX5_common 21 = .ok (.istore_n 3, 1) := by decide +kernel
theorem dX5_common_22 : decode cX5_common 22 = .ok (.iload_n 3, 1) := by decide +kernel
theorem dX5_common_23 : decode cX5_common 23 = .ok (.ifCond .eq 16, 3) := by decide +kernel
theorem dX5_common_26 : decode cX5_common 26 = .ok (.iload_n 2, 1) := by decide +kernel
theorem dX5_common_27 : decode cX5_common 27 = .ok (.iload_n 3, 1) := by decide +kernel
theorem dX5_common_28 : decode cX5_common 28 = .ok (.irem, 1) := by decide +kernel
theorem dX5_common_29 : decode cX5_common 29 = .ok (.istore 4, 2) := by decide +kernel
theorem dX5_common_31 : decode cX5_common 31 = .ok (.iload_n 3, 1) := by decide +kernel
theorem dX5_common_32 : decode cX5_common 32 = .ok (.istore_n 2, 1) := by decide +kernel
theorem dX5_common_33 : decode cX5_common 33 = .ok (.iload 4, 2) := by decide +kernel
theorem dX5_common_35 : decode cX5_common 35 = .ok (.istore_n 3, 1) := by decide +kernel
theorem dX5_common_36 : decode cX5_common 36 = .ok (.goto (-14), 3) := by decide +kernel
theorem dX5_common_39 : decode cX5_common 39 = .ok (.iload_n 2, 1) := by decide +kernel
theorem dX5_common_40 : decode cX5_common 40 = .ok (.ireturn, 1) := by decide +kernel
set_option maxRecDepth 20000 in
theorem ggX5_side_X5_sign : GoodIn wsX5_side wsX5_sign := goodIn_r _ [10] (by decide +kernel) (by decide +kernel)
set_option maxRecDepth 20000 in
theorem gX5_side_X5_sign : GoodIn wsX5_side (va_wsS RX5 74 yX5_sign wsX5_sign) := goodIn_app (goodIn_of _ (by decide +kernel)) ggX5_side_X5_sign
theorem dX5_side_0 : decode cX5_side 0 = .ok (.aload_n 0, 1) := by decide +kernel
theorem dX5_side_1 : decode cX5_side 1 = .ok (.getfield 7, 3) := by decide +kernel
theorem dX5_side_4 : decode cX5_side 4 = .ok (.iload_n 1, 1) := by decide +kernel
theorem dX5_side_5 : decode cX5_side 5 = .ok (.iaload, 1) := by decide +kernel
theorem dX5_side_6 : decode cX5_side 6 = .ok (.aload_n 0, 1) := by decide +kernel
theorem dX5_side_7 : decode cX5_side 7 = .ok (.getfield 19, 3) := by decide +kernel
theorem dX5_side_10 : decode cX5_side 10 = .ok (.iload_n 2, 1) := by decide +kernel
theorem dX5_side_11 : decode cX5_side 11 = .ok (.iaload, 1) := by decide +kernel
theorem dX5_side_12 : decode cX5_side 12 = .ok (.imul, 1) := by decide +kernel
theorem dX5_side_13 : decode cX5_side 13 = .ok (.aload_n 0, 1) := by decide +kernel
theorem dX5_side_14 : decode cX5_side 14 = .ok (.getfield 13, 3) := by decide +kernel
theorem dX5_side_17 : decode cX5_side 17 = .ok (.iload_n 1, 1) := by decide +kernel
theorem dX5_side_18 : decode cX5_side 18 = .ok (.iaload, 1) := by decide +kernel
theorem dX5_side_19 : decode cX5_side 19 = .ok (.aload_n 0, 1) := by decide +kernel
theorem dX5_side_20 : decode cX5_side 20 = .ok (.getfield 22, 3) := by decide +kernel
theorem dX5_side_23 : decode cX5_side 23 = .ok (.iload_n 2, 1) := by decide +kernel
theorem dX5_side_24 : decode cX5_side 24 = .ok (.iaload, 1) := by decide +kernel
theorem dX5_side_25 : decode cX5_side 25 = .ok (.imul, 1) := by decide +kernel
theorem dX5_side_26 : decode cX5_side 26 = .ok (.iadd, 1) := by decide +kernel
theorem dX5_side_27 : decode cX5_side 27 = .ok (.aload_n 0, 1) := by decide +kernel
theorem dX5_side_28 : decode cX5_side 28 = .ok (.getfield 16, 3) := by decide +kernel
theorem dX5_side_31 : decode cX5_side 31 = .ok (.iload_n 1, 1) := by decide +kernel
theorem dX5_side_32 : decode cX5_side 32 = .ok (.iaload, 1) := by decide +kernel
theorem dX5_side_33 : decode cX5_side 33 = .ok (.aload_n 0, 1) := by decide +kernel
theorem dX5_side_34 : decode cX5_side 34 = .ok (.getfield 25, 3) := by decide +kernel
theorem dX5_side_37 : decode cX5_side 37 = .ok (.iload_n 2, 1) := by decide +kernel
theorem dX5_side_38 : decode cX5_side 38 = .ok (.iaload, 1) := by decide +kernel
theorem dX5_side_39 : decode cX5_side 39 = .ok (.imul, 1) := by decide +kernel
theorem dX5_side_40 : decode cX5_side 40 = .ok (.isub, 1) := by decide +kernel
theorem dX5_side_41 : decode cX5_side 41 = .ok (.invokestatic 74, 3) := by decide +kernel
theorem dX5_side_44 : decode cX5_side 44 = .ok (.ireturn, 1) := by decide +kernel
set_option maxRecDepth 20000 in
theorem ggX5_keep_X5_sign : GoodIn wsX5_keep wsX5_sign := goodIn_r _ [8] (by decide +kernel) (by decide +kernel)
set_option maxRecDepth 20000 in
theorem gX5_keep_X5_sign : GoodIn wsX5_keep (va_wsS RX5 74 yX5_sign wsX5_sign) := goodIn_app (goodIn_of _ (by decide +kernel)) ggX5_keep_X5_sign
theorem dX5_keep_0 : decode cX5_keep 0 = .ok (.iconst 0, 1) := by decide +kernel
theorem dX5_keep_1 : decode cX5_keep 1 = .ok (.istore 4, 2) := by decide +kernel
theorem dX5_keep_3 : decode cX5_keep 3 = .ok (.iconst 1, 1) := by decide +kernel
theorem dX5_keep_4 : decode cX5_keep 4 = .ok (.istore 5, 2) := by decide +kernel
theorem dX5_keep_6 : decode cX5_keep 6 = .ok (.iconst 0, 1) := by decide +kernel
theorem dX5_keep_7 : decode cX5_keep 7 = .ok (.istore 6, 2) := by decide +kernel
theorem dX5_keep_9 : decode cX5_keep 9 = .ok (.iload 6, 2) := by decide +kernel
theorem dX5_keep_11 : decode cX5_keep 11 = .ok (.aload_n 0, 1) := by decide +kernel
theorem dX5_keep_12 : decode cX5_keep 12 = .ok (.getfield 78, 3) := by decide +kernel
theorem dX5_keep_15 : decode cX5_keep 15 = .ok (.if_icmp .ge 98, 3) := by decide +kernel
theorem dX5_keep_18 : decode cX5_keep 18 = .ok (.aload_n 0, 1) := by decide +kernel
theorem dX5_keep_19 : decode cX5_keep 19 = .ok (.getfield 19, 3) := by decide +kernel
theorem dX5_keep_22 : decode cX5_keep 22 = .ok (.iload 6, 2) := by decide +kernel
theorem dX5_keep_24 : decode cX5_keep 24 = .ok (.iaload, 1) := by decide +kernel
theorem dX5_keep_25 : decode cX5_keep 25 = .ok (.iload_n 3, 1) := by decide +kernel
theorem dX5_keep_26 : decode cX5_keep 26 = .ok (.imul, 1) := by decide +kernel
theorem dX5_keep_27 : decode cX5_keep 27 = .ok (.iload_n 1, 1) := by decide +kernel
theorem dX5_keep_28 : decode cX5_keep 28 = .ok (.aload_n 0, 1) := by decide +kernel
theorem dX5_keep_29 : decode cX5_keep 29 = .ok (.getfield 25, 3) := by decide +kernel
theorem dX5_keep_32 : decode cX5_keep 32 = .ok (.iload 6, 2) := by decide +kernel
theorem dX5_keep_34 : decode cX5_keep 34 = .ok (.iaload, 1) := by decide +kernel
theorem dX5_keep_35 : decode cX5_keep 35 = .ok (.imul, 1) := by decide +kernel
theorem dX5_keep_36 : decode cX5_keep 36 = .ok (.isub, 1) := by decide +kernel
theorem dX5_keep_37 : decode cX5_keep 37 = .ok (.invokestatic 74, 3) := by decide +kernel
theorem dX5_keep_40 : decode cX5_keep 40 = .ok (.istore 7, 2) := by decide +kernel
theorem dX5_keep_42 : decode cX5_keep 42 = .ok (.iload 7, 2) := by decide +kernel
theorem dX5_keep_44 : decode cX5_keep 44 = .ok (.ifCond .eq 8, 3) := by decide +kernel
theorem dX5_keep_47 : decode cX5_keep 47 = .ok (.iload 7, 2) := by decide +kernel
theorem dX5_keep_49 : decode cX5_keep 49 = .ok (.goto 25, 3) := by decide +kernel
theorem dX5_keep_52 : decode cX5_keep 52 = .ok (.aload_n 0, 1) := by decide +kernel
theorem dX5_keep_53 : decode cX5_keep 53 = .ok (.getfield 22, 3) := by decide +kernel
theorem dX5_keep_56 : decode cX5_keep 56 = .ok (.iload 6, 2) := by decide +kernel
theorem dX5_keep_58 : decode cX5_keep 58 = .ok (.iaload, 1) := by decide +kernel
theorem dX5_keep_59 : decode cX5_keep 59 = .ok (.iload_n 3, 1) := by decide +kernel
theorem dX5_keep_60 : decode cX5_keep 60 = .ok (.imul, 1) := by decide +kernel
theorem dX5_keep_61 : decode cX5_keep 61 = .ok (.iload_n 2, 1) := by decide +kernel
theorem dX5_keep_62 : decode cX5_keep 62 = .ok (.aload_n 0, 1) := by decide +kernel
theorem dX5_keep_63 : decode cX5_keep 63 = .ok (.getfield 25, 3) := by decide +kernel
theorem dX5_keep_66 : decode cX5_keep 66 = .ok (.iload 6, 2) := by decide +kernel
theorem dX5_keep_68 : decode cX5_keep 68 = .ok (.iaload, 1) := by decide +kernel
theorem dX5_keep_69 : decode cX5_keep 69 = .ok (.imul, 1) := by decide +kernel
theorem dX5_keep_70 : decode cX5_keep 70 = .ok (.isub, 1) := by decide +kernel
theorem dX5_keep_71 : decode cX5_keep 71 = .ok (.invokestatic 74, 3) := by decide +kernel
theorem dX5_keep_74 : decode cX5_keep 74 = .ok (.istore 8, 2) := by decide +kernel
theorem dX5_keep_76 : decode cX5_keep 76 = .ok (.iload 5, 2) := by decide +kernel
theorem dX5_keep_78 : decode cX5_keep 78 = .ok (.iload 8, 2) := by decide +kernel
theorem dX5_keep_80 : decode cX5_keep 80 = .ok (.ifCond .eq 7, 3) := by decide +kernel
theorem dX5_keep_83 : decode cX5_keep 83 = .ok (.iconst 1, 1) := by decide +kernel
theorem dX5_keep_84 : decode cX5_keep 84 = .ok (.goto 4, 3) := by decide +kernel
theorem dX5_keep_87 : decode cX5_keep 87 = .ok (.iconst 0, 1) := by decide +kernel
theorem dX5_keep_88 : decode cX5_keep 88 = .ok (.iand, 1) := by decide +kernel
theorem dX5_keep_89 : decode cX5_keep 89 = .ok (.istore 5, 2) := by decide +kernel
theorem dX5_keep_91 : decode cX5_keep 91 = .ok (.iload 8, 2) := by decide +kernel
theorem dX5_keep_93 : decode cX5_keep 93 = .ok (.ifCond .ge 10, 3) := by decide +kernel
theorem dX5_keep_96 : decode cX5_keep 96 = .ok (.iload 6, 2) := by decide +kernel
theorem dX5_keep_98 : decode cX5_keep 98 = .ok (.iconst 1, 1) := by decide +kernel
theorem dX5_keep_99 : decode cX5_keep 99 = .ok (.iadd, 1) := by decide +kernel
theorem dX5_keep_100 : decode cX5_keep 100 = .ok (.goto 5, 3) := by decide +kernel
theorem dX5_keep_103 : decode cX5_keep 103 = .ok (.iload 4, 2) := by decide +kernel
theorem dX5_keep_105 : decode cX5_keep 105 = .ok (.istore 4, 2) := by decide +kernel
theorem dX5_keep_107 : decode cX5_keep 107 = .ok (.iinc 6 1, 3) := by decide +kernel
theorem dX5_keep_110 : decode cX5_keep 110 = .ok (.goto (-101), 3) := by decide +kernel
theorem dX5_keep_113 : decode cX5_keep 113 = .ok (.iload 5, 2) := by decide +kernel
theorem dX5_keep_115 : decode cX5_keep 115 = .ok (.ifCond .eq 104, 3) := by decide +kernel
theorem dX5_keep_118 : decode cX5_keep 118 = .ok (.aload_n 0, 1) := by decide +kernel
theorem dX5_keep_119 : decode cX5_keep 119 = .ok (.getfield 78, 3) := by decide +kernel
theorem dX5_keep_122 : decode cX5_keep 122 = .ok (.istore 6, 2) := by decide +kernel
theorem dX5_keep_124 : decode cX5_keep 124 = .ok (.iload 6, 2) := by decide +kernel
theorem dX5_keep_126 : decode cX5_keep 126 = .ok (.iload 4, 2) := by decide +kernel
theorem dX5_keep_128 : decode cX5_keep 128 = .ok (.if_icmp .le 57, 3) := by decide +kernel
theorem dX5_keep_131 : decode cX5_keep 131 = .ok (.aload_n 0, 1) := by decide +kernel
theorem dX5_keep_132 : decode cX5_keep 132 = .ok (.getfield 19, 3) := by decide +kernel
theorem dX5_keep_135 : decode cX5_keep 135 = .ok (.iload 6, 2) := by decide +kernel
theorem dX5_keep_137 : decode cX5_keep 137 = .ok (.aload_n 0, 1) := by decide +kernel
theorem dX5_keep_138 : decode cX5_keep 138 = .ok (.getfield 19, 3) := by decide +kernel
theorem dX5_keep_141 : decode cX5_keep 141 = .ok (.iload 6, 2) := by decide +kernel
theorem dX5_keep_143 : decode cX5_keep 143 = .ok (.iconst 1, 1) := by decide +kernel
theorem dX5_keep_144 : decode cX5_keep 144 = .ok (.isub, 1) := by decide +kernel
theorem dX5_keep_145 : decode cX5_keep 145 = .ok (.iaload, 1) := by decide +kernel
theorem dX5_keep_146 : decode cX5_keep 146 = .ok (.iastore, 1) := by decide +kernel
theorem dX5_keep_147 : decode cX5_keep 147 = .ok (.aload_n 0, 1) := by decide +kernel
theorem dX5_keep_148 : decode cX5_keep 148 = .ok (.getfield 22, 3) := by decide +kernel
theorem dX5_keep_151 : decode cX5_keep 151 = .ok (.iload 6, 2) := by decide +kernel
theorem dX5_keep_153 : decode cX5_keep 153 = .ok (.aload_n 0, 1) := by decide +kernel
theorem dX5_keep_154 : decode cX5_keep 154 = .ok (.getfield 22, 3) := by decide +kernel
theorem dX5_keep_157 : decode cX5_keep 157 = .ok (.iload 6, 2) := by decide +kernel
theorem dX5_keep_159 : decode cX5_keep 159 = .ok (.iconst 1, 1) := by decide +kernel
theorem dX5_keep_160 : decode cX5_keep 160 = .ok (.isub, 1) := by decide +kernel
theorem dX5_keep_161 : decode cX5_keep 161 = .ok (.iaload, 1) := by decide +kernel
theorem dX5_keep_162 : decode cX5_keep 162 = .ok (.iastore, 1) := by decide +kernel
theorem dX5_keep_163 : decode cX5_keep 163 = .ok (.aload_n 0, 1) := by decide +kernel
theorem dX5_keep_164 : decode cX5_keep 164 = .ok (.getfield 25, 3) := by decide +kernel
theorem dX5_keep_167 : decode cX5_keep 167 = .ok (.iload 6, 2) := by decide +kernel
theorem dX5_keep_169 : decode cX5_keep 169 = .ok (.aload_n 0, 1) := by decide +kernel
theorem dX5_keep_170 : decode cX5_keep 170 = .ok (.getfield 25, 3) := by decide +kernel
theorem dX5_keep_173 : decode cX5_keep 173 = .ok (.iload 6, 2) := by decide +kernel
theorem dX5_keep_175 : decode cX5_keep 175 = .ok (.iconst 1, 1) := by decide +kernel
theorem dX5_keep_176 : decode cX5_keep 176 = .ok (.isub, 1) := by decide +kernel
theorem dX5_keep_177 : decode cX5_keep 177 = .ok (.iaload, 1) := by decide +kernel
theorem dX5_keep_178 : decode cX5_keep 178 = .ok (.iastore, 1) := by decide +kernel
theorem dX5_keep_179 : decode cX5_keep 179 = .ok (.iinc 6 (-1), 3) := by decide +kernel
theorem dX5_keep_182 : decode cX5_keep 182 = .ok (.goto (-58), 3) := by decide +kernel
theorem dX5_keep_185 : decode cX5_keep 185 = .ok (.aload_n 0, 1) := by decide +kernel
theorem dX5_keep_186 : decode cX5_keep 186 = .ok (.getfield 19, 3) := by decide +kernel
theorem dX5_keep_189 : decode cX5_keep 189 = .ok (.iload 4, 2) := by decide +kernel
theorem dX5_keep_191 : decode cX5_keep 191 = .ok (.iload_n 1, 1) := by decide +kernel
theorem dX5_keep_192 : decode cX5_keep 192 = .ok (.iastore, 1) := by decide +kernel
theorem dX5_keep_193 : decode cX5_keep 193 = .ok (.aload_n 0, 1) := by decide +kernel
theorem dX5_keep_194 : decode cX5_keep 194 = .ok (.getfield 22, 3) := by decide +kernel
theorem dX5_keep_197 : decode cX5_keep 197 = .ok (.iload 4, 2) := by decide +kernel
theorem dX5_keep_199 : decode cX5_keep 199 = .ok (.iload_n 2, 1) := by decide +kernel
theorem dX5_keep_200 : decode cX5_keep 200 = .ok (.iastore, 1) := by decide +kernel
theorem dX5_keep_201 : decode cX5_keep 201 = .ok (.aload_n 0, 1) := by decide +kernel
theorem dX5_keep_202 : decode cX5_keep 202 = .ok (.getfield 25, 3) := by decide +kernel
theorem dX5_keep_205 : decode cX5_keep 205 = .ok (.iload 4, 2) := by decide +kernel
theorem dX5_keep_207 : decode cX5_keep 207 = .ok (.iload_n 3, 1) := by decide +kernel
theorem dX5_keep_208 : decode cX5_keep 208 = .ok (.iastore, 1) := by decide +kernel
theorem dX5_keep_209 : decode cX5_keep 209 = .ok (.aload_n 0, 1) := by decide +kernel
theorem dX5_keep_210 : decode cX5_keep 210 = .ok (.dup, 1) := by decide +kernel
theorem dX5_keep_211 : decode cX5_keep 211 = .ok (.getfield 78, 3) := by decide +kernel
theorem dX5_keep_214 : decode cX5_keep 214 = .ok (.iconst 1, 1) := by decide +kernel
theorem dX5_keep_215 : decode cX5_keep 215 = .ok (.iadd, 1) := by decide +kernel
theorem dX5_keep_216 : decode cX5_keep 216 = .ok (.putfield 78, 3) := by decide +kernel
theorem dX5_keep_219 : decode cX5_keep 219 = .ok (.return_, 1) := by decide +kernel
set_option maxRecDepth 20000 in
theorem ggX5_findMeets_X5_common : GoodIn wsX5_findMeets wsX5_common := goodIn_r _ [9] (by decide +kernel) (by decide +kernel)
set_option maxRecDepth 20000 in
theorem gX5_findMeets_X5_common : GoodIn wsX5_findMeets (va_wsS RX5 81 yX5_common wsX5_common) := goodIn_app (goodIn_of _ (by decide +kernel)) ggX5_findMeets_X5_common
set_option maxRecDepth 20000 in
theorem ggX5_findMeets_X5_sign : GoodIn wsX5_findMeets wsX5_sign := goodIn_r _ [12] (by decide +kernel) (by decide +kernel)
set_option maxRecDepth 20000 in
theorem gX5_findMeets_X5_sign : GoodIn wsX5_findMeets (va_wsS RX5 74 yX5_sign wsX5_sign) := goodIn_app (goodIn_of _ (by decide +kernel)) ggX5_findMeets_X5_sign
set_option maxRecDepth 20000 in
theorem ggX5_findMeets_X5_keep : GoodIn wsX5_findMeets wsX5_keep := goodIn_r _ [16, 1, 17, 18, 19, 10, 11, 8, 12, 20, 21, 22, 23, 24, 25, 26, 27, 28, 29, 30, 31, 32, 33, 34, 35, 36, 37, 38] (by decide +kernel) (by decide +kernel)
set_option maxRecDepth 20000 in
theorem gX5_findMeets_X5_keep : GoodIn wsX5_findMeets (wsV RX5 85 RX5 yX5_keep wsX5_keep) := goodIn_app (goodIn_of _ (by decide +kernel)) ggX5_findMeets_X5_keep
theorem dX5_findMeets_0 : decode cX5_findMeets 0 = .ok (.aload_n 0, 1) := by decide +kernel
theorem dX5_findMeets_1 : decode cX5_findMeets 1 = .ok (.iconst 0, 1) := by decide +kernel
theorem dX5_findMeets_2 : decode cX5_findMeets 2 = .ok (.putfield 78, 3) := by decide +kernel
theorem dX5_findMeets_5 : decode cX5_findMeets 5 = .ok (.iconst 0, 1) := by decide +kernel
theorem dX5_findMeets_6 : decode cX5_findMeets 6 = .ok (.istore_n 1, 1) := by decide +kernel
theorem dX5_findMeets_7 : decode cX5_findMeets 7 = .ok (.iload_n 1, 1) := by decide +kernel
theorem dX5_findMeets_8 : decode cX5_findMeets 8 = .ok (.aload_n 0, 1) := by decide +kernel
theorem dX5_findMeets_9 : decode cX5_findMeets 9 = .ok (.getfield 51, 3) := by decide +kernel
theorem dX5_findMeets_12 : decode cX5_findMeets 12 = .ok (.if_icmp .ge 148, 3) := by decide +kernel
theorem dX5_findMeets_15 : decode cX5_findMeets 15 = .ok (.iconst 0, 1) := by decide +kernel
theorem dX5_findMeets_16 : decode cX5_findMeets 16 = .ok (.istore_n 2, 1) := by decide +kernel
theorem dX5_findMeets_17 : decode cX5_findMeets 17 = .ok (.iload_n 2, 1) := by decide +kernel
theorem dX5_findMeets_18 : decode cX5_findMeets 18 = .ok (.iload_n 1, 1) := by decide +kernel
theorem dX5_findMeets_19 : decode cX5_findMeets 19 = .ok (.if_icmp .ge 135, 3) := by decide +kernel
theorem dX5_findMeets_22 : decode cX5_findMeets 22 = .ok (.aload_n 0, 1) := by decide +kernel
theorem dX5_findMeets_23 : decode cX5_findMeets 23 = .ok (.getfield 7, 3) := by decide +kernel
theorem dX5_findMeets_26 : decode cX5_findMeets 26 = .ok (.iload_n 1, 1) := by decide +kernel
theorem dX5_findMeets_27 : decode cX5_findMeets 27 = .ok (.iaload, 1) := by decide +kernel
theorem dX5_findMeets_28 : decode cX5_findMeets 28 = .ok (.aload_n 0, 1) := by decide +kernel
theorem dX5_findMeets_29 : decode cX5_findMeets 29 = .ok (.getfield 13, 3) := by decide +kernel
theorem dX5_findMeets_32 : decode cX5_findMeets 32 = .ok (.iload_n 2, 1) := by decide +kernel
theorem dX5_findMeets_33 : decode cX5_findMeets 33 = .ok (.iaload, 1) := by decide +kernel
theorem dX5_findMeets_34 : decode cX5_findMeets 34 = .ok (.imul, 1) := by decide +kernel
theorem dX5_findMeets_35 : decode cX5_findMeets 35 = .ok (.aload_n 0, 1) := by decide +kernel
theorem dX5_findMeets_36 : decode cX5_findMeets 36 = .ok (.getfield 7, 3) := by decide +kernel
theorem dX5_findMeets_39 : decode cX5_findMeets 39 = .ok (.iload_n 2, 1) := by decide +kernel
theorem dX5_findMeets_40 : decode cX5_findMeets 40 = .ok (.iaload, 1) := by decide +kernel
theorem dX5_findMeets_41 : decode cX5_findMeets 41 = .ok (.aload_n 0, 1) := by decide +kernel
theorem dX5_findMeets_42 : decode cX5_findMeets 42 = .ok (.getfield 13, 3) := by decide +kernel
theorem dX5_findMeets_45 : decode cX5_findMeets 45 = .ok (.iload_n 1, 1) := by decide +kernel
theorem dX5_findMeets_46 : decode cX5_findMeets 46 = .ok (.iaload, 1) := by decide +kernel
theorem dX5_findMeets_47 : decode cX5_findMeets 47 = .ok (.imul, 1) := by decide +kernel
theorem dX5_findMeets_48 : decode cX5_findMeets 48 = .ok (.isub, 1) := by decide +kernel
theorem dX5_findMeets_49 : decode cX5_findMeets 49 = .ok (.istore_n 3, 1) := by decide +kernel
theorem dX5_findMeets_50 : decode cX5_findMeets 50 = .ok (.iload_n 3, 1) := by decide +kernel
theorem dX5_findMeets_51 : decode cX5_findMeets 51 = .ok (.ifCond .eq 97, 3) := by decide +kernel
theorem dX5_findMeets_54 : decode cX5_findMeets 54 = .ok (.aload_n 0, 1) := by decide +kernel
theorem dX5_findMeets_55 : decode cX5_findMeets 55 = .ok (.getfield 16, 3) := by decide +kernel
theorem dX5_findMeets_58 : decode cX5_findMeets 58 = .ok (.iload_n 1, 1) := by decide +kernel
theorem dX5_findMeets_59 : decode cX5_findMeets 59 = .ok (.iaload, 1) := by decide +kernel
theorem dX5_findMeets_60 : decode cX5_findMeets 60 = .ok (.aload_n 0, 1) := by decide +kernel
theorem dX5_findMeets_61 : decode cX5_findMeets 61 = .ok (.getfield 13, 3) := by decide +kernel
theorem dX5_findMeets_64 : decode cX5_findMeets 64 = .ok (.iload_n 2, 1) := by decide +kernel
theorem dX5_findMeets_65 : decode cX5_findMeets 65 = .ok (.iaload, 1) := by decide +kernel
theorem dX5_findMeets_66 : decode cX5_findMeets 66 = .ok (.imul, 1) := by decide +kernel
theorem dX5_findMeets_67 : decode cX5_findMeets 67 = .ok (.aload_n 0, 1) := by decide +kernel
theorem dX5_findMeets_68 : decode cX5_findMeets 68 = .ok (.getfield 16, 3) := by decide +kernel
theorem dX5_findMeets_71 : decode cX5_findMeets 71 = .ok (.iload_n 2, 1) := by decide +kernel
theorem dX5_findMeets_72 : decode cX5_findMeets 72 = .ok (.iaload, 1) := by decide +kernel
theorem dX5_findMeets_73 : decode cX5_findMeets 73 = .ok (.aload_n 0, 1) := by decide +kernel
theorem dX5_findMeets_74 : decode cX5_findMeets 74 = .ok (.getfield 13, 3) := by decide +kernel
theorem dX5_findMeets_77 : decode cX5_findMeets 77 = .ok (.iload_n 1, 1) := by decide +kernel
theorem dX5_findMeets_78 : decode cX5_findMeets 78 = .ok (.iaload, 1) := by decide +kernel
theorem dX5_findMeets_79 : decode cX5_findMeets 79 = .ok (.imul, 1) := by decide +kernel
theorem dX5_findMeets_80 : decode cX5_findMeets 80 = .ok (.isub, 1) := by decide +kernel
theorem dX5_findMeets_81 : decode cX5_findMeets 81 = .ok (.istore 4, 2) := by decide +kernel
theorem dX5_findMeets_83 : decode cX5_findMeets 83 = .ok (.aload_n 0, 1) := by decide +kernel
theorem dX5_findMeets_84 : decode cX5_findMeets 84 = .ok (.getfield 7, 3) := by decide +kernel
theorem dX5_findMeets_87 : decode cX5_findMeets 87 = .ok (.iload_n 1, 1) := by decide +kernel
theorem dX5_findMeets_88 : decode cX5_findMeets 88 = .ok (.iaload, 1) := by decide +kernel
theorem dX5_findMeets_89 : decode cX5_findMeets 89 = .ok (.aload_n 0, 1) := by decide +kernel
theorem dX5_findMeets_90 : decode cX5_findMeets 90 = .ok (.getfield 16, 3) := by decide +kernel
theorem dX5_findMeets_93 : decode cX5_findMeets 93 = .ok (.iload_n 2, 1) := by decide +kernel
theorem dX5_findMeets_94 : decode cX5_findMeets 94 = .ok (.iaload, 1) := by decide +kernel
theorem dX5_findMeets_95 : decode cX5_findMeets 95 = .ok (.imul, 1) := by decide +kernel
theorem dX5_findMeets_96 : decode cX5_findMeets 96 = .ok (.aload_n 0, 1) := by decide +kernel
theorem dX5_findMeets_97 : decode cX5_findMeets 97 = .ok (.getfield 7, 3) := by decide +kernel
theorem dX5_findMeets_100 : decode cX5_findMeets 100 = .ok (.iload_n 2, 1) := by decide +kernel
theorem dX5_findMeets_101 : decode cX5_findMeets 101 = .ok (.iaload, 1) := by decide +kernel
theorem dX5_findMeets_102 : decode cX5_findMeets 102 = .ok (.aload_n 0, 1) := by decide +kernel
theorem dX5_findMeets_103 : decode cX5_findMeets 103 = .ok (.getfield 16, 3) := by decide +kernel
theorem dX5_findMeets_106 : decode cX5_findMeets 106 = .ok (.iload_n 1, 1) := by decide +kernel
theorem dX5_findMeets_107 : decode cX5_findMeets 107 = .ok (.iaload, 1) := by decide +kernel
theorem dX5_findMeets_108 : decode cX5_findMeets 108 = .ok (.imul, 1) := by decide +kernel
theorem dX5_findMeets_109 : decode cX5_findMeets 109 = .ok (.isub, 1) := by decide +kernel
theorem dX5_findMeets_110 : decode cX5_findMeets 110 = .ok (.istore 5, 2) := by decide +kernel
theorem dX5_findMeets_112 : decode cX5_findMeets 112 = .ok (.iload 4, 2) := by decide +kernel
theorem dX5_findMeets_114 : decode cX5_findMeets 114 = .ok (.iload 5, 2) := by decide +kernel
theorem dX5_findMeets_116 : decode cX5_findMeets 116 = .ok (.invokestatic 81, 3) := by decide +kernel
theorem dX5_findMeets_119 : decode cX5_findMeets 119 = .ok (.iload_n 3, 1) := by decide +kernel
theorem dX5_findMeets_120 : decode cX5_findMeets 120 = .ok (.invokestatic 81, 3) := by decide +kernel
theorem dX5_findMeets_123 : decode cX5_findMeets 123 = .ok (.iload_n 3, 1) := by decide +kernel
theorem dX5_findMeets_124 : decode cX5_findMeets 124 = .ok (.invokestatic 74, 3) := by decide +kernel
theorem dX5_findMeets_127 : decode cX5_findMeets 127 = .ok (.imul, 1) := by decide +kernel
theorem dX5_findMeets_128 : decode cX5_findMeets 128 = .ok (.istore 6, 2) := by decide +kernel
theorem dX5_findMeets_130 : decode cX5_findMeets 130 = .ok (.aload_n 0, 1) := by decide +kernel
theorem dX5_findMeets_131 : decode cX5_findMeets 131 = .ok (.iload 4, 2) := by decide +kernel
theorem dX5_findMeets_133 : decode cX5_findMeets 133 = .ok (.iload 6, 2) := by decide +kernel
theorem dX5_findMeets_135 : decode cX5_findMeets 135 = .ok (.idiv, 1) := by decide +kernel
theorem dX5_findMeets_136 : decode cX5_findMeets 136 = .ok (.iload 5, 2) := by decide +kernel
theorem dX5_findMeets_138 : decode cX5_findMeets 138 = .ok (.iload 6, 2) := by decide +kernel
theorem dX5_findMeets_140 : decode cX5_findMeets 140 = .ok (.idiv, 1) := by decide +kernel
theorem dX5_findMeets_141 : decode cX5_findMeets 141 = .ok (.iload_n 3, 1) := by decide +kernel
theorem dX5_findMeets_142 : decode cX5_findMeets 142 = .ok (.iload 6, 2) := by decide +kernel
theorem dX5_findMeets_144 : decode cX5_findMeets 144 = .ok (.idiv, 1) := by decide +kernel
theorem dX5_findMeets_145 : decode cX5_findMeets 145 = .ok (.invokevirtual 85, 3) := by decide +kernel
theorem dX5_findMeets_148 : decode cX5_findMeets 148 = .ok (.iinc 2 1, 3) := by decide +kernel
theorem dX5_findMeets_151 : decode cX5_findMeets 151 = .ok (.goto (-134), 3) := by decide +kernel
theorem dX5_findMeets_154 : decode cX5_findMeets 154 = .ok (.iinc 1 1, 3) := by decide +kernel
theorem dX5_findMeets_157 : decode cX5_findMeets 157 = .ok (.goto (-150), 3) := by decide +kernel
theorem dX5_findMeets_160 : decode cX5_findMeets 160 = .ok (.return_, 1) := by decide +kernel
set_option maxRecDepth 20000 in
theorem ggX5_through_X5_side : GoodIn wsX5_through wsX5_side := goodIn_r _ [6, 7, 8, 9, 10, 11, 12, 13, 14, 5, 15, 16, 17, 18, 19, 20, 21, 22, 23, 24, 25, 26, 27, 28, 29, 30, 31, 32, 33, 34] (by decide +kernel) (by decide +kernel)
set_option maxRecDepth 20000 in
theorem gX5_through_X5_side : GoodIn wsX5_through (wsV RX5 89 RX5 yX5_side wsX5_side) := goodIn_app (goodIn_of _ (by decide +kernel)) ggX5_through_X5_side
theorem dX5_through_0 : decode cX5_through 0 = .ok (.iconst 0, 1) := by decide +kernel
theorem dX5_through_1 : decode cX5_through 1 = .ok (.istore_n 2, 1) := by decide +kernel
theorem dX5_through_2 : decode cX5_through 2 = .ok (.iconst 0, 1) := by decide +kernel
theorem dX5_through_3 : decode cX5_through 3 = .ok (.istore_n 3, 1) := by decide +kernel
theorem dX5_through_4 : decode cX5_through 4 = .ok (.iload_n 3, 1) := by decide +kernel
theorem dX5_through_5 : decode cX5_through 5 = .ok (.aload_n 0, 1) := by decide +kernel
theorem dX5_through_6 : decode cX5_through 6 = .ok (.getfield 51, 3) := by decide +kernel
theorem dX5_through_9 : decode cX5_through 9 = .ok (.if_icmp .ge 28, 3) := by decide +kernel
theorem dX5_through_12 : decode cX5_through 12 = .ok (.iload_n 2, 1) := by decide +kernel
theorem dX5_through_13 : decode cX5_through 13 = .ok (.aload_n 0, 1) := by decide +kernel
theorem dX5_through_14 : decode cX5_through 14 = .ok (.iload_n 3, 1) := by decide +kernel
theorem dX5_through_15 : decode cX5_through 15 = .ok (.iload_n 1, 1) := by decide +kernel
theorem dX5_through_16 : decode cX5_through 16 = .ok (.invokevirtual 89, 3) := by decide +kernel
theorem dX5_through_19 : decode cX5_through 19 = .ok (.ifCond .ne 9, 3) := by decide +kernel
theorem dX5_through_22 : decode cX5_through 22 = .ok (.iconst 1, 1) := by decide +kernel
theorem dX5_through_23 : decode cX5_through 23 = .ok (.iload_n 3, 1) := by decide +kernel
theorem dX5_through_24 : decode cX5_through 24 = .ok (.ishl, 1) := by decide +kernel
theorem dX5_through_25 : decode cX5_through 25 = .ok (.goto 4, 3) := by decide +kernel
theorem dX5_through_28 : decode cX5_through 28 = .ok (.iconst 0, 1) := by decide +kernel
theorem dX5_through_29 : decode cX5_through 29 = .ok (.ior, 1) := by decide +kernel
theorem dX5_through_30 : decode cX5_through 30 = .ok (.istore_n 2, 1) := by decide +kernel
theorem dX5_through_31 : decode cX5_through 31 = .ok (.iinc 3 1, 3) := by decide +kernel
theorem dX5_through_34 : decode cX5_through 34 = .ok (.goto (-30), 3) := by decide +kernel
theorem dX5_through_37 : decode cX5_through 37 = .ok (.iload_n 2, 1) := by decide +kernel
theorem dX5_through_38 : decode cX5_through 38 = .ok (.ireturn, 1) := by decide +kernel
theorem dX5_size_0 : decode cX5_size 0 = .ok (.iconst 0, 1) := by decide +kernel
theorem dX5_size_1 : decode cX5_size 1 = .ok (.istore_n 1, 1) := by decide +kernel
theorem dX5_size_2 : decode cX5_size 2 = .ok (.iload_n 0, 1) := by decide +kernel
theorem dX5_size_3 : decode cX5_size 3 = .ok (.istore_n 2, 1) := by decide +kernel
theorem dX5_size_4 : decode cX5_size 4 = .ok (.iload_n 2, 1) := by decide +kernel
theorem dX5_size_5 : decode cX5_size 5 = .ok (.ifCond .le 16, 3) := by decide +kernel
theorem dX5_size_8 : decode cX5_size 8 = .ok (.iload_n 1, 1) := by decide +kernel
theorem dX5_size_9 : decode cX5_size 9 = .ok (.iload_n 2, 1) := by decide +kernel
theorem dX5_size_10 : decode cX5_size 10 = .ok (.iconst 1, 1) := by decide +kernel
theorem dX5_size_11 : decode cX5_size 11 = .ok (.iand, 1) := by decide +kernel
theorem dX5_size_12 : decode cX5_size 12 = .ok (.iadd, 1) := by decide +kernel
theorem dX5_size_13 : decode cX5_size 13 = .ok (.istore_n 1, 1) := by decide +kernel
theorem dX5_size_14 : decode cX5_size 14 = .ok (.iload_n 2, 1) := by decide +kernel
theorem dX5_size_15 : decode cX5_size 15 = .ok (.iconst 1, 1) := by decide +kernel
theorem dX5_size_16 : decode cX5_size 16 = .ok (.ishr, 1) := by decide +kernel
theorem dX5_size_17 : decode cX5_size 17 = .ok (.istore_n 2, 1) := by decide +kernel
theorem dX5_size_18 : decode cX5_size 18 = .ok (.goto (-14), 3) := by decide +kernel
theorem dX5_size_21 : decode cX5_size 21 = .ok (.iload_n 1, 1) := by decide +kernel
theorem dX5_size_22 : decode cX5_size 22 = .ok (.ireturn, 1) := by decide +kernel
set_option maxRecDepth 20000 in
theorem ggX5_meets_X5_findMeets : GoodIn wsX5_meets wsX5_findMeets := goodIn_r _ [7, 2, 8, 9, 10, 11, 12, 13, 6, 14, 15, 16, 17, 18, 19, 20, 21, 22, 23, 24, 25, 26, 27, 28, 29, 30, 31, 32, 33, 34, 35, 36, 37, 38, 39, 40, 41, 42, 43] (by decide +kernel) (by decide +kernel)
set_option maxRecDepth 20000 in
theorem gX5_meets_X5_findMeets : GoodIn wsX5_meets (wsV RX5 92 RX5 yX5_findMeets wsX5_findMeets) := goodIn_app (goodIn_of _ (by decide +kernel)) ggX5_meets_X5_findMeets
theorem dX5_meets_0 : decode cX5_meets 0 = .ok (.aload_n 0, 1) := by decide +kernel
theorem dX5_meets_1 : decode cX5_meets 1 = .ok (.iconst 0, 1) := by decide +kernel
theorem dX5_meets_2 : decode cX5_meets 2 = .ok (.putfield 47, 3) := by decide +kernel
theorem dX5_meets_5 : decode cX5_meets 5 = .ok (.aload_n 0, 1) := by decide +kernel
theorem dX5_meets_6 : decode cX5_meets 6 = .ok (.invokevirtual 92, 3) := by decide +kernel
theorem dX5_meets_9 : decode cX5_meets 9 = .ok (.aload_n 0, 1) := by decide +kernel
theorem dX5_meets_10 : decode cX5_meets 10 = .ok (.getfield 78, 3) := by decide +kernel
theorem dX5_meets_13 : decode cX5_meets 13 = .ok (.ireturn, 1) := by decide +kernel
set_option maxRecDepth 20000 in
theorem ggX5_meet_X5_findMeets : GoodIn wsX5_meet wsX5_findMeets := goodIn_r _ [9, 1, 10, 11, 12, 13, 14, 15, 8, 16, 17, 18, 19, 20, 21, 22, 23, 2, 4, 3, 40, 41, 42, 43, 44, 45, 46, 47, 48, 49, 50, 51, 52, 53, 54, 55, 56, 57, 58] (by decide +kernel) (by decide +kernel)
set_option maxRecDepth 20000 in
theorem gX5_meet_X5_findMeets : GoodIn wsX5_meet (wsV RX5 92 RX5 yX5_findMeets wsX5_findMeets) := goodIn_app (goodIn_of _ (by decide +kernel)) ggX5_meet_X5_findMeets
set_option maxRecDepth 20000 in
theorem ggX5_meet_X5_in : GoodIn wsX5_meet wsX5_in := goodIn_r _ [26] (by decide +kernel) (by decide +kernel)
set_option maxRecDepth 20000 in
theorem gX5_meet_X5_in : GoodIn wsX5_meet (va_wsS RX5 54 yX5_in wsX5_in) := goodIn_app (goodIn_of _ (by decide +kernel)) ggX5_meet_X5_in
set_option maxRecDepth 20000 in
theorem ggX5_meet_X5_fails : GoodIn wsX5_meet wsX5_fails := goodIn_r _ [30, 31, 40, 41, 42, 43, 44, 45, 46, 47, 48, 49, 50, 51, 52, 53, 54, 55, 56, 57, 58] (by decide +kernel) (by decide +kernel)
set_option maxRecDepth 20000 in
theorem gX5_meet_X5_fails : GoodIn wsX5_meet (wsV RX5 62 RX5 yX5_fails wsX5_fails) := goodIn_app (goodIn_of _ (by decide +kernel)) ggX5_meet_X5_fails
set_option maxRecDepth 20000 in
theorem ggX5_meet_X5_through : GoodIn wsX5_meet wsX5_through := goodIn_r _ [35, 10, 36, 37, 38, 8, 39, 11, 2, 12, 3, 13, 4, 17, 18, 19, 40, 41, 42, 43, 44, 45, 46, 47, 48, 49, 50, 51, 52, 53, 54, 55, 56, 57, 58] (by decide +kernel) (by decide +kernel)
set_option maxRecDepth 20000 in
theorem gX5_meet_X5_through : GoodIn wsX5_meet (wsV RX5 95 RX5 yX5_through wsX5_through) := goodIn_app (goodIn_of _ (by decide +kernel)) ggX5_meet_X5_through
theorem dX5_meet_0 : decode cX5_meet 0 = .ok (.aload_n 0, 1) := by decide +kernel
theorem dX5_meet_1 : decode cX5_meet 1 = .ok (.invokevirtual 92, 3) := by decide +kernel
theorem dX5_meet_4 : decode cX5_meet 4 = .ok (.aload_n 0, 1) := by decide +kernel
theorem dX5_meet_5 : decode cX5_meet 5 = .ok (.iload_n 1, 1) := by decide +kernel
theorem dX5_meet_6 : decode cX5_meet 6 = .ok (.iconst 0, 1) := by decide +kernel
theorem dX5_meet_7 : decode cX5_meet 7 = .ok (.aload_n 0, 1) := by decide +kernel
theorem dX5_meet_8 : decode cX5_meet 8 = .ok (.getfield 78, 3) := by decide +kernel
theorem dX5_meet_11 : decode cX5_meet 11 = .ok (.iconst 1, 1) := by decide +kernel
theorem dX5_meet_12 : decode cX5_meet 12 = .ok (.isub, 1) := by decide +kernel
theorem dX5_meet_13 : decode cX5_meet 13 = .ok (.invokestatic 54, 3) := by decide +kernel
theorem dX5_meet_16 : decode cX5_meet 16 = .ok (.iconst 1, 1) := by decide +kernel
theorem dX5_meet_17 : decode cX5_meet 17 = .ok (.invokevirtual 62, 3) := by decide +kernel
theorem dX5_meet_20 : decode cX5_meet 20 = .ok (.ifCond .eq 5, 3) := by decide +kernel
theorem dX5_meet_23 : decode cX5_meet 23 = .ok (.iconst 0, 1) := by decide +kernel
theorem dX5_meet_24 : decode cX5_meet 24 = .ok (.ireturn, 1) := by decide +kernel
theorem dX5_meet_25 : decode cX5_meet 25 = .ok (.aload_n 0, 1) := by decide +kernel
theorem dX5_meet_26 : decode cX5_meet 26 = .ok (.iload_n 2, 1) := by decide +kernel
theorem dX5_meet_27 : decode cX5_meet 27 = .ok (.iconst 0, 1) := by decide +kernel
theorem dX5_meet_28 : decode cX5_meet 28 = .ok (.iconst 3, 1) := by decide +kernel
theorem dX5_meet_29 : decode cX5_meet 29 = .ok (.invokestatic 54, 3) := by decide +kernel
theorem dX5_meet_32 : decode cX5_meet 32 = .ok (.iconst 2, 1) := by decide +kernel
theorem dX5_meet_33 : decode cX5_meet 33 = .ok (.invokevirtual 62, 3) := by decide +kernel
theorem dX5_meet_36 : decode cX5_meet 36 = .ok (.ifCond .eq 5, 3) := by decide +kernel
theorem dX5_meet_39 : decode cX5_meet 39 = .ok (.iconst 0, 1) := by decide +kernel
theorem dX5_meet_40 : decode cX5_meet 40 = .ok (.ireturn, 1) := by decide +kernel
theorem dX5_meet_41 : decode cX5_meet 41 = .ok (.iload_n 2, 1) := by decide +kernel
theorem dX5_meet_42 : decode cX5_meet 42 = .ok (.ifCond .ne 12, 3) := by decide +kernel
theorem dX5_meet_45 : decode cX5_meet 45 = .ok (.aload_n 0, 1) := by decide +kernel
theorem dX5_meet_46 : decode cX5_meet 46 = .ok (.getfield 19, 3) := by decide +kernel
theorem dX5_meet_49 : decode cX5_meet 49 = .ok (.iload_n 1, 1) := by decide +kernel
theorem dX5_meet_50 : decode cX5_meet 50 = .ok (.iaload, 1) := by decide +kernel
theorem dX5_meet_51 : decode cX5_meet 51 = .ok (.goto 36, 3) := by decide +kernel
theorem dX5_meet_54 : decode cX5_meet 54 = .ok (.iload_n 2, 1) := by decide +kernel
theorem dX5_meet_55 : decode cX5_meet 55 = .ok (.iconst 1, 1) := by decide +kernel
theorem dX5_meet_56 : decode cX5_meet 56 = .ok (.if_icmp .ne 12, 3) := by decide +kernel
theorem dX5_meet_59 : decode cX5_meet 59 = .ok (.aload_n 0, 1) := by decide +kernel
theorem dX5_meet_60 : decode cX5_meet 60 = .ok (.getfield 22, 3) := by decide +kernel
theorem dX5_meet_63 : decode cX5_meet 63 = .ok (.iload_n 1, 1) := by decide +kernel
theorem dX5_meet_64 : decode cX5_meet 64 = .ok (.iaload, 1) := by decide +kernel
theorem dX5_meet_65 : decode cX5_meet 65 = .ok (.goto 22, 3) := by decide +kernel
theorem dX5_meet_68 : decode cX5_meet 68 = .ok (.iload_n 2, 1) := by decide +kernel
theorem dX5_meet_69 : decode cX5_meet 69 = .ok (.iconst 2, 1) := by decide +kernel
theorem dX5_meet_70 : decode cX5_meet 70 = .ok (.if_icmp .ne 12, 3) := by decide +kernel
theorem dX5_meet_73 : decode cX5_meet 73 = .ok (.aload_n 0, 1) := by decide +kernel
theorem dX5_meet_74 : decode cX5_meet 74 = .ok (.getfield 25, 3) := by decide +kernel
theorem dX5_meet_77 : decode cX5_meet 77 = .ok (.iload_n 1, 1) := by decide +kernel
theorem dX5_meet_78 : decode cX5_meet 78 = .ok (.iaload, 1) := by decide +kernel
theorem dX5_meet_79 : decode cX5_meet 79 = .ok (.goto 8, 3) := by decide +kernel
theorem dX5_meet_82 : decode cX5_meet 82 = .ok (.aload_n 0, 1) := by decide +kernel
theorem dX5_meet_83 : decode cX5_meet 83 = .ok (.iload_n 1, 1) := by decide +kernel
theorem dX5_meet_84 : decode cX5_meet 84 = .ok (.invokevirtual 95, 3) := by decide +kernel
theorem dX5_meet_87 : decode cX5_meet 87 = .ok (.ireturn, 1) := by decide +kernel
set_option maxRecDepth 20000 in
theorem ggX5_polynomial_X5_in : GoodIn wsX5_polynomial wsX5_in := goodIn_r _ [6] (by decide +kernel) (by decide +kernel)
set_option maxRecDepth 20000 in
theorem gX5_polynomial_X5_in : GoodIn wsX5_polynomial (va_wsS RX5 54 yX5_in wsX5_in) := goodIn_app (goodIn_of _ (by decide +kernel)) ggX5_polynomial_X5_in
set_option maxRecDepth 20000 in
theorem ggX5_polynomial_X5_fails : GoodIn wsX5_polynomial wsX5_fails := goodIn_r _ [10, 11, 43, 44, 45, 46, 47, 48, 49, 50, 51, 52, 53, 54, 55, 56, 57, 58, 59, 60, 61] (by decide +kernel) (by decide +kernel)
set_option maxRecDepth 20000 in
theorem gX5_polynomial_X5_fails : GoodIn wsX5_polynomial (wsV RX5 62 RX5 yX5_fails wsX5_fails) := goodIn_app (goodIn_of _ (by decide +kernel)) ggX5_polynomial_X5_fails
set_option maxRecDepth 20000 in
theorem ggX5_polynomial_X5_findMeets : GoodIn wsX5_polynomial wsX5_findMeets := goodIn_r _ [15, 1, 2, 16, 17, 18, 19, 20, 5, 21, 22, 23, 24, 25, 26, 27, 28, 29, 30, 31, 43, 44, 45, 46, 47, 48, 49, 50, 51, 52, 53, 54, 55, 56, 57, 58, 59, 60, 61] (by decide +kernel) (by decide +kernel)
set_option maxRecDepth 20000 in
theorem gX5_polynomial_X5_findMeets : GoodIn wsX5_polynomial (wsV RX5 92 RX5 yX5_findMeets wsX5_findMeets) := goodIn_app (goodIn_of _ (by decide +kernel)) ggX5_polynomial_X5_findMeets
set_option maxRecDepth 20000 in
theorem ggX5_polynomial_X5_through : GoodIn wsX5_polynomial wsX5_through := goodIn_r _ [35, 2, 36, 37, 38, 5, 39, 16, 29, 17, 31, 18, 30, 22, 23, 24, 43, 44, 45, 46, 47, 48, 49, 50, 51, 52, 53, 54, 55, 56, 57, 58, 59, 60, 61] (by decide +kernel) (by decide +kernel)
set_option maxRecDepth 20000 in
theorem gX5_polynomial_X5_through : GoodIn wsX5_polynomial (wsV RX5 95 RX5 yX5_through wsX5_through) := goodIn_app (goodIn_of _ (by decide +kernel)) ggX5_polynomial_X5_through
set_option maxRecDepth 20000 in
theorem ggX5_polynomial_X5_size : GoodIn wsX5_polynomial wsX5_size := goodIn_r _ [42] (by decide +kernel) (by decide +kernel)
set_option maxRecDepth 20000 in
theorem gX5_polynomial_X5_size : GoodIn wsX5_polynomial (va_wsS RX5 98 yX5_size wsX5_size) := goodIn_app (goodIn_of _ (by decide +kernel)) ggX5_polynomial_X5_size
theorem dX5_polynomial_0 : decode cX5_polynomial 0 = .ok (.aload_n 0, 1) := by decide +kernel
theorem dX5_polynomial_1 : decode cX5_polynomial 1 = .ok (.iload_n 1, 1) := by decide +kernel
theorem dX5_polynomial_2 : decode cX5_polynomial 2 = .ok (.iconst 0, 1) := by decide +kernel
theorem dX5_polynomial_3 : decode cX5_polynomial 3 = .ok (.iconst 2, 1) := by decide +kernel
theorem dX5_polynomial_4 : decode cX5_polynomial 4 = .ok (.invokestatic 54, 3) := by decide +kernel
theorem dX5_polynomial_7 : decode cX5_polynomial 7 = .ok (.iconst 1, 1) := by decide +kernel
theorem dX5_polynomial_8 : decode cX5_polynomial 8 = .ok (.invokevirtual 62, 3) := by decide +kernel
theorem dX5_polynomial_11 : decode cX5_polynomial 11 = .ok (.ifCond .eq 5, 3) := by decide +kernel
theorem dX5_polynomial_14 : decode cX5_polynomial 14 = .ok (.iconst 0, 1) := by decide +kernel
theorem dX5_polynomial_15 : decode cX5_polynomial 15 = .ok (.ireturn, 1) := by decide +kernel
theorem dX5_polynomial_16 : decode cX5_polynomial 16 = .ok (.aload_n 0, 1) := by decide +kernel
theorem dX5_polynomial_17 : decode cX5_polynomial 17 = .ok (.invokevirtual 92, 3) := by decide +kernel
theorem dX5_polynomial_20 : decode cX5_polynomial 20 = .ok (.iconst 0, 1) := by decide +kernel
theorem dX5_polynomial_21 : decode cX5_polynomial 21 = .ok (.istore_n 2, 1) := by decide +kernel
theorem dX5_polynomial_22 : decode cX5_polynomial 22 = .ok (.iconst 0, 1) := by decide +kernel
theorem dX5_polynomial_23 : decode cX5_polynomial 23 = .ok (.istore_n 3, 1) := by decide +kernel
theorem dX5_polynomial_24 : decode cX5_polynomial 24 = .ok (.iload_n 3, 1) := by decide +kernel
theorem dX5_polynomial_25 : decode cX5_polynomial 25 = .ok (.aload_n 0, 1) := by decide +kernel
theorem dX5_polynomial_26 : decode cX5_polynomial 26 = .ok (.getfield 78, 3) := by decide +kernel
theorem dX5_polynomial_29 : decode cX5_polynomial 29 = .ok (.if_icmp .ge 22, 3) := by decide +kernel
theorem dX5_polynomial_32 : decode cX5_polynomial 32 = .ok (.iload_n 2, 1) := by decide +kernel
theorem dX5_polynomial_33 : decode cX5_polynomial 33 = .ok (.aload_n 0, 1) := by decide +kernel
theorem dX5_polynomial_34 : decode cX5_polynomial 34 = .ok (.iload_n 3, 1) := by decide +kernel
theorem dX5_polynomial_35 : decode cX5_polynomial 35 = .ok (.invokevirtual 95, 3) := by decide +kernel
theorem dX5_polynomial_38 : decode cX5_polynomial 38 = .ok (.invokestatic 98, 3) := by decide +kernel
theorem dX5_polynomial_41 : decode cX5_polynomial 41 = .ok (.iconst 1, 1) := by decide +kernel
theorem dX5_polynomial_42 : decode cX5_polynomial 42 = .ok (.isub, 1) := by decide +kernel
theorem dX5_polynomial_43 : decode cX5_polynomial 43 = .ok (.iadd, 1) := by decide +kernel
theorem dX5_polynomial_44 : decode cX5_polynomial 44 = .ok (.istore_n 2, 1) := by decide +kernel
theorem dX5_polynomial_45 : decode cX5_polynomial 45 = .ok (.iinc 3 1, 3) := by decide +kernel
theorem dX5_polynomial_48 : decode cX5_polynomial 48 = .ok (.goto (-24), 3) := by decide +kernel
theorem dX5_polynomial_51 : decode cX5_polynomial 51 = .ok (.iload_n 1, 1) := by decide +kernel
theorem dX5_polynomial_52 : decode cX5_polynomial 52 = .ok (.iconst 2, 1) := by decide +kernel
theorem dX5_polynomial_53 : decode cX5_polynomial 53 = .ok (.if_icmp .ne 7, 3) := by decide +kernel
theorem dX5_polynomial_56 : decode cX5_polynomial 56 = .ok (.iconst 1, 1) := by decide +kernel
theorem dX5_polynomial_57 : decode cX5_polynomial 57 = .ok (.goto 17, 3) := by decide +kernel
theorem dX5_polynomial_60 : decode cX5_polynomial 60 = .ok (.iload_n 1, 1) := by decide +kernel
theorem dX5_polynomial_61 : decode cX5_polynomial 61 = .ok (.iconst 1, 1) := by decide +kernel
theorem dX5_polynomial_62 : decode cX5_polynomial 62 = .ok (.if_icmp .ne 11, 3) := by decide +kernel
theorem dX5_polynomial_65 : decode cX5_polynomial 65 = .ok (.aload_n 0, 1) := by decide +kernel
theorem dX5_polynomial_66 : decode cX5_polynomial 66 = .ok (.getfield 51, 3) := by decide +kernel
theorem dX5_polynomial_69 : decode cX5_polynomial 69 = .ok (.ineg, 1) := by decide +kernel
theorem dX5_polynomial_70 : decode cX5_polynomial 70 = .ok (.goto 4, 3) := by decide +kernel
theorem dX5_polynomial_73 : decode cX5_polynomial 73 = .ok (.iload_n 2, 1) := by decide +kernel
theorem dX5_polynomial_74 : decode cX5_polynomial 74 = .ok (.ireturn, 1) := by decide +kernel
set_option maxRecDepth 20000 in
theorem ggX5_polynomialAnew_X5_in : GoodIn wsX5_polynomialAnew wsX5_in := goodIn_r _ [6] (by decide +kernel) (by decide +kernel)
set_option maxRecDepth 20000 in
theorem gX5_polynomialAnew_X5_in : GoodIn wsX5_polynomialAnew (va_wsS RX5 54 yX5_in wsX5_in) := goodIn_app (goodIn_of _ (by decide +kernel)) ggX5_polynomialAnew_X5_in
set_option maxRecDepth 20000 in
theorem ggX5_polynomialAnew_X5_fails : GoodIn wsX5_polynomialAnew wsX5_fails := goodIn_r _ [10, 11, 40, 41, 42, 43, 44, 45, 46, 47, 48, 49, 50, 51, 52, 53, 54, 55, 56, 57, 58] (by decide +kernel) (by decide +kernel)
set_option maxRecDepth 20000 in
theorem gX5_polynomialAnew_X5_fails : GoodIn wsX5_polynomialAnew (wsV RX5 62 RX5 yX5_fails wsX5_fails) := goodIn_app (goodIn_of _ (by decide +kernel)) ggX5_polynomialAnew_X5_fails
set_option maxRecDepth 20000 in
theorem ggX5_polynomialAnew_X5_findMeets : GoodIn wsX5_polynomialAnew wsX5_findMeets := goodIn_r _ [15, 2, 1, 16, 17, 18, 19, 20, 5, 21, 22, 23, 24, 25, 26, 27, 28, 29, 30, 31, 40, 41, 42, 43, 44, 45, 46, 47, 48, 49, 50, 51, 52, 53, 54, 55, 56, 57, 58] (by decide +kernel) (by decide +kernel)
set_option maxRecDepth 20000 in
theorem gX5_polynomialAnew_X5_findMeets : GoodIn wsX5_polynomialAnew (wsV RX5 92 RX5 yX5_findMeets wsX5_findMeets) := goodIn_app (goodIn_of _ (by decide +kernel)) ggX5_polynomialAnew_X5_findMeets
set_option maxRecDepth 20000 in
theorem ggX5_polynomialAnew_X5_through : GoodIn wsX5_polynomialAnew wsX5_through := goodIn_r _ [35, 1, 36, 37, 38, 5, 39, 16, 29, 17, 31, 18, 30, 22, 23, 24, 40, 41, 42, 43, 44, 45, 46, 47, 48, 49, 50, 51, 52, 53, 54, 55, 56, 57, 58] (by decide +kernel) (by decide +kernel)
set_option maxRecDepth 20000 in
theorem gX5_polynomialAnew_X5_through : GoodIn wsX5_polynomialAnew (wsV RX5 95 RX5 yX5_through wsX5_through) := goodIn_app (goodIn_of _ (by decide +kernel)) ggX5_polynomialAnew_X5_through
theorem dX5_polynomialAnew_0 : decode cX5_polynomialAnew 0 = .ok (.aload_n 0, 1) := by decide +kernel
theorem dX5_polynomialAnew_1 : decode cX5_polynomialAnew 1 = .ok (.iload_n 1, 1) := by decide +kernel
theorem dX5_polynomialAnew_2 : decode cX5_polynomialAnew 2 = .ok (.iconst 0, 1) := by decide +kernel
theorem dX5_polynomialAnew_3 : decode cX5_polynomialAnew 3 = .ok (.iconst 2, 1) := by decide +kernel
theorem dX5_polynomialAnew_4 : decode cX5_polynomialAnew 4 = .ok (.invokestatic 54, 3) := by decide +kernel
theorem dX5_polynomialAnew_7 : decode cX5_polynomialAnew 7 = .ok (.iconst 1, 1) := by decide +kernel
theorem dX5_polynomialAnew_8 : decode cX5_polynomialAnew 8 = .ok (.invokevirtual 62, 3) := by decide +kernel
theorem dX5_polynomialAnew_11 : decode cX5_polynomialAnew 11 = .ok (.ifCond .eq 5, 3) := by decide +kernel
theorem dX5_polynomialAnew_14 : decode cX5_polynomialAnew 14 = .ok (.iconst 0, 1) := by decide +kernel
theorem dX5_polynomialAnew_15 : decode cX5_polynomialAnew 15 = .ok (.ireturn, 1) := by decide +kernel
theorem dX5_polynomialAnew_16 : decode cX5_polynomialAnew 16 = .ok (.aload_n 0, 1) := by decide +kernel
theorem dX5_polynomialAnew_17 : decode cX5_polynomialAnew 17 = .ok (.invokevirtual 92, 3) := by decide +kernel
theorem dX5_polynomialAnew_20 : decode cX5_polynomialAnew 20 = .ok (.iconst 0, 1) := by decide +kernel
theorem dX5_polynomialAnew_21 : decode cX5_polynomialAnew 21 = .ok (.istore_n 2, 1) := by decide +kernel
theorem dX5_polynomialAnew_22 : decode cX5_polynomialAnew 22 = .ok (.iconst 0, 1) := by decide +kernel
theorem dX5_polynomialAnew_23 : decode cX5_polynomialAnew 23 = .ok (.istore_n 3, 1) := by decide +kernel
theorem dX5_polynomialAnew_24 : decode cX5_polynomialAnew 24 = .ok (.iconst 0, 1) := by decide +kernel
theorem dX5_polynomialAnew_25 : decode cX5_polynomialAnew 25 = .ok (.istore 4, 2) := by decide +kernel
theorem dX5_polynomialAnew_27 : decode cX5_polynomialAnew 27 = .ok (.iload 4, 2) := by decide +kernel
theorem dX5_polynomialAnew_29 : decode cX5_polynomialAnew 29 = .ok (.aload_n 0, 1) := by decide +kernel
theorem dX5_polynomialAnew_30 : decode cX5_polynomialAnew 30 = .ok (.getfield 51, 3) := by decide +kernel
theorem dX5_polynomialAnew_33 : decode cX5_polynomialAnew 33 = .ok (.if_icmp .ge 69, 3) := by decide +kernel
theorem dX5_polynomialAnew_36 : decode cX5_polynomialAnew 36 = .ok (.iinc 2 (-1), 3) := by decide +kernel
theorem dX5_polynomialAnew_39 : decode cX5_polynomialAnew 39 = .ok (.iconst 0, 1) := by decide +kernel
theorem dX5_polynomialAnew_40 : decode cX5_polynomialAnew 40 = .ok (.istore 5, 2) := by decide +kernel
theorem dX5_polynomialAnew_42 : decode cX5_polynomialAnew 42 = .ok (.iload 5, 2) := by decide +kernel
theorem dX5_polynomialAnew_44 : decode cX5_polynomialAnew 44 = .ok (.aload_n 0, 1) := by decide +kernel
theorem dX5_polynomialAnew_45 : decode cX5_polynomialAnew 45 = .ok (.getfield 78, 3) := by decide +kernel
theorem dX5_polynomialAnew_48 : decode cX5_polynomialAnew 48 = .ok (.if_icmp .ge 48, 3) := by decide +kernel
theorem dX5_polynomialAnew_51 : decode cX5_polynomialAnew 51 = .ok (.aload_n 0, 1) := by decide +kernel
theorem dX5_polynomialAnew_52 : decode cX5_polynomialAnew 52 = .ok (.iload 5, 2) := by decide +kernel
theorem dX5_polynomialAnew_54 : decode cX5_polynomialAnew 54 = .ok (.invokevirtual 95, 3) := by decide +kernel
theorem dX5_polynomialAnew_57 : decode cX5_polynomialAnew 57 = .ok (.istore 6, 2) := by decide +kernel
theorem dX5_polynomialAnew_59 : decode cX5_polynomialAnew 59 = .ok (.iload_n 3, 1) := by decide +kernel
theorem dX5_polynomialAnew_60 : decode cX5_polynomialAnew 60 = .ok (.iload 6, 2) := by decide +kernel
theorem dX5_polynomialAnew_62 : decode cX5_polynomialAnew 62 = .ok (.iload 4, 2) := by decide +kernel
theorem dX5_polynomialAnew_64 : decode cX5_polynomialAnew 64 = .ok (.ishr, 1) := by decide +kernel
theorem dX5_polynomialAnew_65 : decode cX5_polynomialAnew 65 = .ok (.iconst 1, 1) := by decide +kernel
theorem dX5_polynomialAnew_66 : decode cX5_polynomialAnew 66 = .ok (.iand, 1) := by decide +kernel
theorem dX5_polynomialAnew_67 : decode cX5_polynomialAnew 67 = .ok (.iconst 1, 1) := by decide +kernel
theorem dX5_polynomialAnew_68 : decode cX5_polynomialAnew 68 = .ok (.if_icmp .ne 19, 3) := by decide +kernel
theorem dX5_polynomialAnew_71 : decode cX5_polynomialAnew 71 = .ok (.iload 6, 2) := by decide +kernel
theorem dX5_polynomialAnew_73 : decode cX5_polynomialAnew 73 = .ok (.iconst 1, 1) := by decide +kernel
theorem dX5_polynomialAnew_74 : decode cX5_polynomialAnew 74 = .ok (.iload 4, 2) := by decide +kernel
theorem dX5_polynomialAnew_76 : decode cX5_polynomialAnew 76 = .ok (.ishl, 1) := by decide +kernel
theorem dX5_polynomialAnew_77 : decode cX5_polynomialAnew 77 = .ok (.iconst 1, 1) := by decide +kernel
theorem dX5_polynomialAnew_78 : decode cX5_polynomialAnew 78 = .ok (.isub, 1) := by decide +kernel
theorem dX5_polynomialAnew_79 : decode cX5_polynomialAnew 79 = .ok (.iand, 1) := by decide +kernel
theorem dX5_polynomialAnew_80 : decode cX5_polynomialAnew 80 = .ok (.ifCond .eq 7, 3) := by decide +kernel
theorem dX5_polynomialAnew_83 : decode cX5_polynomialAnew 83 = .ok (.iconst 1, 1) := by decide +kernel
theorem dX5_polynomialAnew_84 : decode cX5_polynomialAnew 84 = .ok (.goto 4, 3) := by decide +kernel
theorem dX5_polynomialAnew_87 : decode cX5_polynomialAnew 87 = .ok (.iconst 0, 1) := by decide +kernel
theorem dX5_polynomialAnew_88 : decode cX5_polynomialAnew 88 = .ok (.iadd, 1) := by decide +kernel
theorem dX5_polynomialAnew_89 : decode cX5_polynomialAnew 89 = .ok (.istore_n 3, 1) := by decide +kernel
theorem dX5_polynomialAnew_90 : decode cX5_polynomialAnew 90 = .ok (.iinc 5 1, 3) := by decide +kernel
theorem dX5_polynomialAnew_93 : decode cX5_polynomialAnew 93 = .ok (.goto (-51), 3) := by decide +kernel
theorem dX5_polynomialAnew_96 : decode cX5_polynomialAnew 96 = .ok (.iinc 4 1, 3) := by decide +kernel
theorem dX5_polynomialAnew_99 : decode cX5_polynomialAnew 99 = .ok (.goto (-72), 3) := by decide +kernel
theorem dX5_polynomialAnew_102 : decode cX5_polynomialAnew 102 = .ok (.iload_n 1, 1) := by decide +kernel
theorem dX5_polynomialAnew_103 : decode cX5_polynomialAnew 103 = .ok (.iconst 2, 1) := by decide +kernel
theorem dX5_polynomialAnew_104 : decode cX5_polynomialAnew 104 = .ok (.if_icmp .ne 7, 3) := by decide +kernel
theorem dX5_polynomialAnew_107 : decode cX5_polynomialAnew 107 = .ok (.iconst 1, 1) := by decide +kernel
theorem dX5_polynomialAnew_108 : decode cX5_polynomialAnew 108 = .ok (.goto 13, 3) := by decide +kernel
theorem dX5_polynomialAnew_111 : decode cX5_polynomialAnew 111 = .ok (.iload_n 1, 1) := by decide +kernel
theorem dX5_polynomialAnew_112 : decode cX5_polynomialAnew 112 = .ok (.iconst 1, 1) := by decide +kernel
theorem dX5_polynomialAnew_113 : decode cX5_polynomialAnew 113 = .ok (.if_icmp .ne 7, 3) := by decide +kernel
theorem dX5_polynomialAnew_116 : decode cX5_polynomialAnew 116 = .ok (.iload_n 2, 1) := by decide +kernel
theorem dX5_polynomialAnew_117 : decode cX5_polynomialAnew 117 = .ok (.goto 4, 3) := by decide +kernel
theorem dX5_polynomialAnew_120 : decode cX5_polynomialAnew 120 = .ok (.iload_n 3, 1) := by decide +kernel
theorem dX5_polynomialAnew_121 : decode cX5_polynomialAnew 121 = .ok (.ireturn, 1) := by decide +kernel
theorem dX5_isPrime_0 : decode cX5_isPrime 0 = .ok (.iload_n 0, 1) := by decide +kernel
theorem dX5_isPrime_1 : decode cX5_isPrime 1 = .ok (.iconst 1, 1) := by decide +kernel
theorem dX5_isPrime_2 : decode cX5_isPrime 2 = .ok (.if_icmp .le 7, 3) := by decide +kernel
theorem dX5_isPrime_5 : decode cX5_isPrime 5 = .ok (.iconst 1, 1) := by decide +kernel
theorem dX5_isPrime_6 : decode cX5_isPrime 6 = .ok (.goto 4, 3) := by decide +kernel
theorem dX5_isPrime_9 : decode cX5_isPrime 9 = .ok (.iconst 0, 1) := by decide +kernel
theorem dX5_isPrime_10 : decode cX5_isPrime 10 = .ok (.istore_n 1, 1) := by decide +kernel
theorem dX5_isPrime_11 : decode cX5_isPrime 11 = .ok (.iconst 2, 1) := by decide +kernel
theorem dX5_isPrime_12 : decode cX5_isPrime 12 = .ok (.istore_n 2, 1) := by decide +kernel
theorem dX5_isPrime_13 : decode cX5_isPrime 13 = .ok (.iload_n 2, 1) := by decide +kernel
theorem dX5_isPrime_14 : decode cX5_isPrime 14 = .ok (.iload_n 0, 1) := by decide +kernel
theorem dX5_isPrime_15 : decode cX5_isPrime 15 = .ok (.if_icmp .ge 23, 3) := by decide +kernel
theorem dX5_isPrime_18 : decode cX5_isPrime 18 = .ok (.iload_n 1, 1) := by decide +kernel
theorem dX5_isPrime_19 : decode cX5_isPrime 19 = .ok (.iload_n 0, 1) := by decide +kernel
theorem dX5_isPrime_20 : decode cX5_isPrime 20 = .ok (.iload_n 2, 1) := by decide +kernel
theorem dX5_isPrime_21 : decode cX5_isPrime 21 = .ok (.irem, 1) := by decide +kernel
theorem dX5_isPrime_22 : decode cX5_isPrime 22 = .ok (.ifCond .eq 7, 3) := by decide +kernel
theorem dX5_isPrime_25 : decode cX5_isPrime 25 = .ok (.iconst 1, 1) := by decide +kernel
theorem dX5_isPrime_26 : decode cX5_isPrime 26 = .ok (.goto 4, 3) := by decide +kernel
theorem dX5_isPrime_29 : decode cX5_isPrime 29 = .ok (.iconst 0, 1) := by decide +kernel
theorem dX5_isPrime_30 : decode cX5_isPrime 30 = .ok (.iand, 1) := by decide +kernel
theorem dX5_isPrime_31 : decode cX5_isPrime 31 = .ok (.istore_n 1, 1) := by decide +kernel
theorem dX5_isPrime_32 : decode cX5_isPrime 32 = .ok (.iinc 2 1, 3) := by decide +kernel
theorem dX5_isPrime_35 : decode cX5_isPrime 35 = .ok (.goto (-22), 3) := by decide +kernel
theorem dX5_isPrime_38 : decode cX5_isPrime 38 = .ok (.iload_n 1, 1) := by decide +kernel
theorem dX5_isPrime_39 : decode cX5_isPrime 39 = .ok (.ireturn, 1) := by decide +kernel
set_option maxRecDepth 20000 in
theorem ggX5_points_X5_in : GoodIn wsX5_points wsX5_in := goodIn_r _ [8] (by decide +kernel) (by decide +kernel)
set_option maxRecDepth 20000 in
theorem gX5_points_X5_in : GoodIn wsX5_points (va_wsS RX5 54 yX5_in wsX5_in) := goodIn_app (goodIn_of _ (by decide +kernel)) ggX5_points_X5_in
set_option maxRecDepth 20000 in
theorem ggX5_points_X5_isPrime : GoodIn wsX5_points wsX5_isPrime := goodIn_r _ [11] (by decide +kernel) (by decide +kernel)
set_option maxRecDepth 20000 in
theorem gX5_points_X5_isPrime : GoodIn wsX5_points (va_wsS RX5 101 yX5_isPrime wsX5_isPrime) := goodIn_app (goodIn_of _ (by decide +kernel)) ggX5_points_X5_isPrime
set_option maxRecDepth 20000 in
theorem ggX5_points_X5_fails : GoodIn wsX5_points wsX5_fails := goodIn_r _ [15, 16, 17, 18, 19, 20, 21, 22, 23, 24, 25, 26, 27, 28, 29, 30, 31, 32, 33, 34, 35] (by decide +kernel) (by decide +kernel)
set_option maxRecDepth 20000 in
theorem gX5_points_X5_fails : GoodIn wsX5_points (wsV RX5 62 RX5 yX5_fails wsX5_fails) := goodIn_app (goodIn_of _ (by decide +kernel)) ggX5_points_X5_fails
theorem dX5_points_0 : decode cX5_points 0 = .ok (.aload_n 0, 1) := by decide +kernel
theorem dX5_points_1 : decode cX5_points 1 = .ok (.iload_n 1, 1) := by decide +kernel
theorem dX5_points_2 : decode cX5_points 2 = .ok (.iconst 2, 1) := by decide +kernel
theorem dX5_points_3 : decode cX5_points 3 = .ok (.bipush 31, 2) := by decide +kernel
theorem dX5_points_5 : decode cX5_points 5 = .ok (.invokestatic 54, 3) := by decide +kernel
theorem dX5_points_8 : decode cX5_points 8 = .ok (.ifCond .eq 14, 3) := by decide +kernel
theorem dX5_points_11 : decode cX5_points 11 = .ok (.iload_n 1, 1) := by decide +kernel
theorem dX5_points_12 : decode cX5_points 12 = .ok (.invokestatic 101, 3) := by decide +kernel
theorem dX5_points_15 : decode cX5_points 15 = .ok (.ifCond .eq 7, 3) := by decide +kernel
theorem dX5_points_18 : decode cX5_points 18 = .ok (.iconst 1, 1) := by decide +kernel
theorem dX5_points_19 : decode cX5_points 19 = .ok (.goto 4, 3) := by decide +kernel
theorem dX5_points_22 : decode cX5_points 22 = .ok (.iconst 0, 1) := by decide +kernel
theorem dX5_points_23 : decode cX5_points 23 = .ok (.iconst 1, 1) := by decide +kernel
theorem dX5_points_24 : decode cX5_points 24 = .ok (.invokevirtual 62, 3) := by decide +kernel
theorem dX5_points_27 : decode cX5_points 27 = .ok (.ifCond .eq 5, 3) := by decide +kernel
theorem dX5_points_30 : decode cX5_points 30 = .ok (.iconst 0, 1) := by decide +kernel
theorem dX5_points_31 : decode cX5_points 31 = .ok (.ireturn, 1) := by decide +kernel
theorem dX5_points_32 : decode cX5_points 32 = .ok (.iconst 0, 1) := by decide +kernel
theorem dX5_points_33 : decode cX5_points 33 = .ok (.istore_n 2, 1) := by decide +kernel
theorem dX5_points_34 : decode cX5_points 34 = .ok (.iconst 0, 1) := by decide +kernel
theorem dX5_points_35 : decode cX5_points 35 = .ok (.istore_n 3, 1) := by decide +kernel
theorem dX5_points_36 : decode cX5_points 36 = .ok (.iload_n 3, 1) := by decide +kernel
theorem dX5_points_37 : decode cX5_points 37 = .ok (.iload_n 1, 1) := by decide +kernel
theorem dX5_points_38 : decode cX5_points 38 = .ok (.if_icmp .ge 101, 3) := by decide +kernel
theorem dX5_points_41 : decode cX5_points 41 = .ok (.iconst 0, 1) := by decide +kernel
theorem dX5_points_42 : decode cX5_points 42 = .ok (.istore 4, 2) := by decide +kernel
theorem dX5_points_44 : decode cX5_points 44 = .ok (.iload 4, 2) := by decide +kernel
theorem dX5_points_46 : decode cX5_points 46 = .ok (.iload_n 1, 1) := by decide +kernel
theorem dX5_points_47 : decode cX5_points 47 = .ok (.if_icmp .ge 86, 3) := by decide +kernel
theorem dX5_points_50 : decode cX5_points 50 = .ok (.iconst 1, 1) := by decide +kernel
theorem dX5_points_51 : decode cX5_points 51 = .ok (.istore 5, 2) := by decide +kernel
theorem dX5_points_53 : decode cX5_points 53 = .ok (.iconst 0, 1) := by decide +kernel
theorem dX5_points_54 : decode cX5_points 54 = .ok (.istore 6, 2) := by decide +kernel
theorem dX5_points_56 : decode cX5_points 56 = .ok (.iload 6, 2) := by decide +kernel
theorem dX5_points_58 : decode cX5_points 58 = .ok (.aload_n 0, 1) := by decide +kernel
theorem dX5_points_59 : decode cX5_points 59 = .ok (.getfield 51, 3) := by decide +kernel
theorem dX5_points_62 : decode cX5_points 62 = .ok (.if_icmp .ge 52, 3) := by decide +kernel
theorem dX5_points_65 : decode cX5_points 65 = .ok (.iload 5, 2) := by decide +kernel
theorem dX5_points_67 : decode cX5_points 67 = .ok (.aload_n 0, 1) := by decide +kernel
theorem dX5_points_68 : decode cX5_points 68 = .ok (.getfield 7, 3) := by decide +kernel
theorem dX5_points_71 : decode cX5_points 71 = .ok (.iload 6, 2) := by decide +kernel
theorem dX5_points_73 : decode cX5_points 73 = .ok (.iaload, 1) := by decide +kernel
theorem dX5_points_74 : decode cX5_points 74 = .ok (.iload_n 3, 1) := by decide +kernel
theorem dX5_points_75 : decode cX5_points 75 = .ok (.imul, 1) := by decide +kernel
theorem dX5_points_76 : decode cX5_points 76 = .ok (.aload_n 0, 1) := by decide +kernel
theorem dX5_points_77 : decode cX5_points 77 = .ok (.getfield 13, 3) := by decide +kernel
theorem dX5_points_80 : decode cX5_points 80 = .ok (.iload 6, 2) := by decide +kernel
theorem dX5_points_82 : decode cX5_points 82 = .ok (.iaload, 1) := by decide +kernel
theorem dX5_points_83 : decode cX5_points 83 = .ok (.iload 4, 2) := by decide +kernel
theorem dX5_points_85 : decode cX5_points 85 = .ok (.imul, 1) := by decide +kernel
theorem dX5_points_86 : decode cX5_points 86 = .ok (.iadd, 1) := by decide +kernel
theorem dX5_points_87 : decode cX5_points 87 = .ok (.aload_n 0, 1) := by decide +kernel
theorem dX5_points_88 : decode cX5_points 88 = .ok (.getfield 16, 3) := by decide +kernel
theorem dX5_points_91 : decode cX5_points 91 = .ok (.iload 6, 2) := by decide +kernel
theorem dX5_points_93 : decode cX5_points 93 = .ok (.iaload, 1) := by decide +kernel
theorem dX5_points_94 : decode cX5_points 94 = .ok (.isub, 1) := by decide +kernel
theorem dX5_points_95 : decode cX5_points 95 = .ok (.iload_n 1, 1) := by decide +kernel
theorem dX5_points_96 : decode cX5_points 96 = .ok (.irem, 1) := by decide +kernel
theorem dX5_points_97 : decode cX5_points 97 = .ok (.ifCond .eq 7, 3) := by decide +kernel
theorem dX5_points_100 : decode cX5_points 100 = .ok (.iconst 1, 1) := by decide +kernel
theorem dX5_points_101 : decode cX5_points 101 = .ok (.goto 4, 3) := by decide +kernel
theorem dX5_points_104 : decode cX5_points 104 = .ok (.iconst 0, 1) := by decide +kernel
theorem dX5_points_105 : decode cX5_points 105 = .ok (.iand, 1) := by decide +kernel
theorem dX5_points_106 : decode cX5_points 106 = .ok (.istore 5, 2) := by decide +kernel
theorem dX5_points_108 : decode cX5_points 108 = .ok (.iinc 6 1, 3) := by decide +kernel
theorem dX5_points_111 : decode cX5_points 111 = .ok (.goto (-55), 3) := by decide +kernel
theorem dX5_points_114 : decode cX5_points 114 = .ok (.iload_n 2, 1) := by decide +kernel
theorem dX5_points_115 : decode cX5_points 115 = .ok (.iload 5, 2) := by decide +kernel
theorem dX5_points_117 : decode cX5_points 117 = .ok (.ifCond .eq 7, 3) := by decide +kernel
theorem dX5_points_120 : decode cX5_points 120 = .ok (.iconst 1, 1) := by decide +kernel
theorem dX5_points_121 : decode cX5_points 121 = .ok (.goto 4, 3) := by decide +kernel
theorem dX5_points_124 : decode cX5_points 124 = .ok (.iconst 0, 1) := by decide +kernel
theorem dX5_points_125 : decode cX5_points 125 = .ok (.iadd, 1) := by decide +kernel
theorem dX5_points_126 : decode cX5_points 126 = .ok (.istore_n 2, 1) := by decide +kernel
theorem dX5_points_127 : decode cX5_points 127 = .ok (.iinc 4 1, 3) := by decide +kernel
theorem dX5_points_130 : decode cX5_points 130 = .ok (.goto (-86), 3) := by decide +kernel
theorem dX5_points_133 : decode cX5_points 133 = .ok (.iinc 3 1, 3) := by decide +kernel
theorem dX5_points_136 : decode cX5_points 136 = .ok (.goto (-100), 3) := by decide +kernel
theorem dX5_points_139 : decode cX5_points 139 = .ok (.iload_n 2, 1) := by decide +kernel
theorem dX5_points_140 : decode cX5_points 140 = .ok (.ireturn, 1) := by decide +kernel
set_option maxRecDepth 20000 in
theorem ggX5_along_X5_side : GoodIn wsX5_along wsX5_side := goodIn_r _ [7, 2, 8, 1, 9, 10, 11, 12, 13, 6, 14, 15, 16, 17, 18, 19, 20, 21, 22, 23, 24, 25, 26, 27, 28, 29, 30, 31, 32, 33] (by decide +kernel) (by decide +kernel)
set_option maxRecDepth 20000 in
theorem gX5_along_X5_side : GoodIn wsX5_along (wsV RX5 89 RX5 yX5_side wsX5_side) := goodIn_app (goodIn_of _ (by decide +kernel)) ggX5_along_X5_side
set_option maxRecDepth 20000 in
theorem ggX5_along_X5_sign : GoodIn wsX5_along wsX5_sign := goodIn_r _ [14] (by decide +kernel) (by decide +kernel)
set_option maxRecDepth 20000 in
theorem gX5_along_X5_sign : GoodIn wsX5_along (va_wsS RX5 74 yX5_sign wsX5_sign) := goodIn_app (goodIn_of _ (by decide +kernel)) ggX5_along_X5_sign
theorem dX5_along_0 : decode cX5_along 0 = .ok (.aload_n 0, 1) := by decide +kernel
theorem dX5_along_1 : decode cX5_along 1 = .ok (.iload_n 1, 1) := by decide +kernel
theorem dX5_along_2 : decode cX5_along 2 = .ok (.iload_n 2, 1) := by decide +kernel
theorem dX5_along_3 : decode cX5_along 3 = .ok (.invokevirtual 89, 3) := by decide +kernel
theorem dX5_along_6 : decode cX5_along 6 = .ok (.istore 5, 2) := by decide +kernel
theorem dX5_along_8 : decode cX5_along 8 = .ok (.iload 5, 2) := by decide +kernel
theorem dX5_along_10 : decode cX5_along 10 = .ok (.ifCond .eq 8, 3) := by decide +kernel
theorem dX5_along_13 : decode cX5_along 13 = .ok (.iload 5, 2) := by decide +kernel
theorem dX5_along_15 : decode cX5_along 15 = .ok (.goto 36, 3) := by decide +kernel
theorem dX5_along_18 : decode cX5_along 18 = .ok (.iload 4, 2) := by decide +kernel
theorem dX5_along_20 : decode cX5_along 20 = .ok (.aload_n 0, 1) := by decide +kernel
theorem dX5_along_21 : decode cX5_along 21 = .ok (.getfield 13, 3) := by decide +kernel
theorem dX5_along_24 : decode cX5_along 24 = .ok (.iload_n 1, 1) := by decide +kernel
theorem dX5_along_25 : decode cX5_along 25 = .ok (.iaload, 1) := by decide +kernel
theorem dX5_along_26 : decode cX5_along 26 = .ok (.aload_n 0, 1) := by decide +kernel
theorem dX5_along_27 : decode cX5_along 27 = .ok (.getfield 7, 3) := by decide +kernel
theorem dX5_along_30 : decode cX5_along 30 = .ok (.iload_n 3, 1) := by decide +kernel
theorem dX5_along_31 : decode cX5_along 31 = .ok (.iaload, 1) := by decide +kernel
theorem dX5_along_32 : decode cX5_along 32 = .ok (.imul, 1) := by decide +kernel
theorem dX5_along_33 : decode cX5_along 33 = .ok (.aload_n 0, 1) := by decide +kernel
theorem dX5_along_34 : decode cX5_along 34 = .ok (.getfield 7, 3) := by decide +kernel
theorem dX5_along_37 : decode cX5_along 37 = .ok (.iload_n 1, 1) := by decide +kernel
theorem dX5_along_38 : decode cX5_along 38 = .ok (.iaload, 1) := by decide +kernel
theorem dX5_along_39 : decode cX5_along 39 = .ok (.aload_n 0, 1) := by decide +kernel
theorem dX5_along_40 : decode cX5_along 40 = .ok (.getfield 13, 3) := by decide +kernel
theorem dX5_along_43 : decode cX5_along 43 = .ok (.iload_n 3, 1) := by decide +kernel
theorem dX5_along_44 : decode cX5_along 44 = .ok (.iaload, 1) := by decide +kernel
theorem dX5_along_45 : decode cX5_along 45 = .ok (.imul, 1) := by decide +kernel
theorem dX5_along_46 : decode cX5_along 46 = .ok (.isub, 1) := by decide +kernel
theorem dX5_along_47 : decode cX5_along 47 = .ok (.invokestatic 74, 3) := by decide +kernel
theorem dX5_along_50 : decode cX5_along 50 = .ok (.imul, 1) := by decide +kernel
theorem dX5_along_51 : decode cX5_along 51 = .ok (.ireturn, 1) := by decide +kernel
set_option maxRecDepth 20000 in
theorem ggX5_findRooms_X5_findMeets : GoodIn wsX5_findRooms wsX5_findMeets := goodIn_r _ [11, 3, 2, 4, 5, 6, 12, 13, 10, 14, 15, 16, 17, 18, 19, 20, 21, 22, 23, 24, 33, 34, 35, 36, 37, 38, 39, 40, 41, 42, 43, 44, 45, 46, 47, 48, 49, 50, 51] (by decide +kernel) (by decide +kernel)
set_option maxRecDepth 20000 in
theorem gX5_findRooms_X5_findMeets : GoodIn wsX5_findRooms (wsV RX5 92 RX5 yX5_findMeets wsX5_findMeets) := goodIn_app (goodIn_of _ (by decide +kernel)) ggX5_findRooms_X5_findMeets
set_option maxRecDepth 20000 in
theorem ggX5_findRooms_X5_side : GoodIn wsX5_findRooms wsX5_side := goodIn_r _ [28, 4, 22, 5, 24, 6, 23, 15, 16, 10, 17, 33, 34, 35, 36, 37, 38, 39, 40, 41, 42, 43, 44, 45, 46, 47, 48, 49, 50, 51] (by decide +kernel) (by decide +kernel)
set_option maxRecDepth 20000 in
theorem gX5_findRooms_X5_side : GoodIn wsX5_findRooms (wsV RX5 89 RX5 yX5_side wsX5_side) := goodIn_app (goodIn_of _ (by decide +kernel)) ggX5_findRooms_X5_side
set_option maxRecDepth 20000 in
theorem ggX5_findRooms_X5_along : GoodIn wsX5_findRooms wsX5_along := goodIn_r _ [32, 5, 4, 25, 26, 27, 10, 28, 22, 24, 6, 23, 15, 16, 17, 33, 34, 35, 36, 37, 38, 39, 40, 41, 42, 43, 44, 45, 46, 47, 48, 49, 50, 51] (by decide +kernel) (by decide +kernel)
set_option maxRecDepth 20000 in
theorem gX5_findRooms_X5_along : GoodIn wsX5_findRooms (wsV RX5 104 RX5 yX5_along wsX5_along) := goodIn_app (goodIn_of _ (by decide +kernel)) ggX5_findRooms_X5_along
set_option maxRecDepth 20000 in
theorem ggX5_findRooms_X5_sign : GoodIn wsX5_findRooms wsX5_sign := goodIn_r _ [17] (by decide +kernel) (by decide +kernel)
set_option maxRecDepth 20000 in
theorem gX5_findRooms_X5_sign : GoodIn wsX5_findRooms (va_wsS RX5 74 yX5_sign wsX5_sign) := goodIn_app (goodIn_of _ (by decide +kernel)) ggX5_findRooms_X5_sign
theorem dX5_findRooms_0 : decode cX5_findRooms 0 = .ok (.aload_n 0, 1) := by decide +kernel
theorem dX5_findRooms_1 : decode cX5_findRooms 1 = .ok (.invokevirtual 92, 3) := by decide +kernel
theorem dX5_findRooms_4 : decode cX5_findRooms 4 = .ok (.iconst 0, 1) := by decide +kernel
theorem dX5_findRooms_5 : decode cX5_findRooms 5 = .ok (.istore_n 1, 1) := by decide +kernel
theorem dX5_findRooms_6 : decode cX5_findRooms 6 = .ok (.iload_n 1, 1) := by decide +kernel
theorem dX5_findRooms_7 : decode cX5_findRooms 7 = .ok (.sipush 512, 3) := by decide +kernel
theorem dX5_findRooms_10 : decode cX5_findRooms 10 = .ok (.if_icmp .ge 31, 3) := by decide +kernel
theorem dX5_findRooms_13 : decode cX5_findRooms 13 = .ok (.aload_n 0, 1) := by decide +kernel
theorem dX5_findRooms_14 : decode cX5_findRooms 14 = .ok (.getfield 28, 3) := by decide +kernel
theorem dX5_findRooms_17 : decode cX5_findRooms 17 = .ok (.iload_n 1, 1) := by decide +kernel
theorem dX5_findRooms_18 : decode cX5_findRooms 18 = .ok (.iload_n 1, 1) := by decide +kernel
theorem dX5_findRooms_19 : decode cX5_findRooms 19 = .ok (.ifCond .ne 14, 3) := by decide +kernel
theorem dX5_findRooms_22 : decode cX5_findRooms 22 = .ok (.aload_n 0, 1) := by decide +kernel
theorem dX5_findRooms_23 : decode cX5_findRooms 23 = .ok (.getfield 51, 3) := by decide +kernel
theorem dX5_findRooms_26 : decode cX5_findRooms 26 = .ok (.ifCond .ne 7, 3) := by decide +kernel
theorem dX5_findRooms_29 : decode cX5_findRooms 29 = .ok (.iconst 1, 1) := by decide +kernel
theorem dX5_findRooms_30 : decode cX5_findRooms 30 = .ok (.goto 4, 3) := by decide +kernel
theorem dX5_findRooms_33 : decode cX5_findRooms 33 = .ok (.iconst 0, 1) := by decide +kernel
theorem dX5_findRooms_34 : decode cX5_findRooms 34 = .ok (.bastore, 1) := by decide +kernel
theorem dX5_findRooms_35 : decode cX5_findRooms 35 = .ok (.iinc 1 1, 3) := by decide +kernel
theorem dX5_findRooms_38 : decode cX5_findRooms 38 = .ok (.goto (-32), 3) := by decide +kernel
theorem dX5_findRooms_41 : decode cX5_findRooms 41 = .ok (.iconst 0, 1) := by decide +kernel
theorem dX5_findRooms_42 : decode cX5_findRooms 42 = .ok (.istore_n 1, 1) := by decide +kernel
theorem dX5_findRooms_43 : decode cX5_findRooms 43 = .ok (.iload_n 1, 1) := by decide +kernel
theorem dX5_findRooms_44 : decode cX5_findRooms 44 = .ok (.aload_n 0, 1) := by decide +kernel
theorem dX5_findRooms_45 : decode cX5_findRooms 45 = .ok (.getfield 78, 3) := by decide +kernel
