theorem dL_cell_0 : decode cL_cell 0 = .ok (.iload_n 1, 1) := by decide +kernel
theorem dL_cell_1 : decode cL_cell 1 = .ok (.aload_n 0, 1) := by decide +kernel
theorem dL_cell_2 : decode cL_cell 2 = .ok (.arraylength, 1) := by decide +kernel
theorem dL_cell_3 : decode cL_cell 3 = .ok (.if_icmp .ge 9, 3) := by decide +kernel
theorem dL_cell_6 : decode cL_cell 6 = .ok (.aload_n 0, 1) := by decide +kernel
theorem dL_cell_7 : decode cL_cell 7 = .ok (.iload_n 1, 1) := by decide +kernel
theorem dL_cell_8 : decode cL_cell 8 = .ok (.iaload, 1) := by decide +kernel
theorem dL_cell_9 : decode cL_cell 9 = .ok (.goto 10, 3) := by decide +kernel
theorem dL_cell_12 : decode cL_cell 12 = .ok (.ldc 7, 2) := by decide +kernel
theorem dL_cell_14 : decode cL_cell 14 = .ok (.iload_n 1, 1) := by decide +kernel
theorem dL_cell_15 : decode cL_cell 15 = .ok (.imul, 1) := by decide +kernel
theorem dL_cell_16 : decode cL_cell 16 = .ok (.ldc 8, 2) := by decide +kernel
theorem dL_cell_18 : decode cL_cell 18 = .ok (.iadd, 1) := by decide +kernel
theorem dL_cell_19 : decode cL_cell 19 = .ok (.ireturn, 1) := by decide +kernel
theorem dL_low_0 : decode cL_low 0 = .ok (.iload_n 0, 1) := by decide +kernel
theorem dL_low_1 : decode cL_low 1 = .ok (.ldc 9, 2) := by decide +kernel
theorem dL_low_3 : decode cL_low 3 = .ok (.iand, 1) := by decide +kernel
theorem dL_low_4 : decode cL_low 4 = .ok (.iload_n 1, 1) := by decide +kernel
theorem dL_low_5 : decode cL_low 5 = .ok (.irem, 1) := by decide +kernel
theorem dL_low_6 : decode cL_low 6 = .ok (.ireturn, 1) := by decide +kernel
set_option maxRecDepth 20000 in
theorem ggL_tryLine_X4_line : GoodIn wsL_tryLine wsX4_line := goodIn_ca (goodIn_ca (goodIn_r _ [7, 8, 9, 10, 11, 12, 13, 14, 6, 15, 16, 17, 18, 19, 20, 21, 22, 23, 24, 25, 26, 27, 28, 29, 30, 31, 32, 33, 34, 35, 36, 37, 38, 39, 40, 41, 42, 43, 44, 45, 46, 47, 48, 49, 50, 51, 52, 53, 54, 55, 56, 57, 58, 59, 60, 61, 62, 63, 64, 65, 66, 67, 68, 69, 70, 71, 72, 73, 74, 75, 76, 77, 78, 79, 80, 81, 82, 83, 84, 85, 86, 87, 88, 89, 90, 91, 92, 93, 94, 95, 96, 97, 98, 99, 100, 101, 102, 103, 104, 105, 106, 107, 108, 109, 110, 111, 112, 113, 114, 115, 116, 117, 118, 119, 120, 121, 122, 123, 124, 125, 126, 127, 128, 129, 130, 131, 132, 133, 134, 135, 136, 137, 138, 139, 140, 141, 142, 143, 144, 145, 146, 147, 148, 149, 150, 151, 152, 153, 154, 155, 156, 157, 158, 159, 160, 161, 162, 163, 164, 165, 166, 167, 168, 169, 170, 171, 172, 173, 174, 175, 176, 177, 178, 179, 180, 181, 182, 183] (by decide +kernel) (by decide +kernel)) (goodIn_sub (fun _ h => List.mem_cons_of_mem _ (List.mem_append_left _ (List.mem_append_right _ h))) (by decide +kernel))) (goodIn_sub (fun _ h => List.mem_cons_of_mem _ (List.mem_append_right _ h)) (by decide +kernel))
set_option maxRecDepth 20000 in
theorem gL_tryLine_X4_line : GoodIn wsL_tryLine (wsV RL 10 RX4 yX4_line wsX4_line) := goodIn_app (goodIn_of _ (by decide +kernel)) ggL_tryLine_X4_line
theorem dL_tryLine_0 : decode cL_tryLine 0 = .ok (.aload_n 0, 1) := by decide +kernel
theorem dL_tryLine_1 : decode cL_tryLine 1 = .ok (.iload_n 1, 1) := by decide +kernel
theorem dL_tryLine_2 : decode cL_tryLine 2 = .ok (.iload_n 2, 1) := by decide +kernel
theorem dL_tryLine_3 : decode cL_tryLine 3 = .ok (.iload_n 3, 1) := by decide +kernel
theorem dL_tryLine_4 : decode cL_tryLine 4 = .ok (.invokevirtual 10, 3) := by decide +kernel
theorem dL_tryLine_7 : decode cL_tryLine 7 = .ok (.ireturn, 1) := by decide +kernel
theorem dL_tryLine_8 : decode cL_tryLine 8 = .ok (.astore 4, 2) := by decide +kernel
theorem dL_tryLine_10 : decode cL_tryLine 10 = .ok (.bipush (-100), 2) := by decide +kernel
theorem dL_tryLine_12 : decode cL_tryLine 12 = .ok (.ireturn, 1) := by decide +kernel
theorem dL_tryLine_13 : decode cL_tryLine 13 = .ok (.astore 4, 2) := by decide +kernel
theorem dL_tryLine_15 : decode cL_tryLine 15 = .ok (.sipush (-200), 3) := by decide +kernel
theorem dL_tryLine_18 : decode cL_tryLine 18 = .ok (.ireturn, 1) := by decide +kernel
theorem dL_size_0 : decode cL_size 0 = .ok (.iconst 0, 1) := by decide +kernel
theorem dL_size_1 : decode cL_size 1 = .ok (.istore_n 1, 1) := by decide +kernel
theorem dL_size_2 : decode cL_size 2 = .ok (.iload_n 0, 1) := by decide +kernel
theorem dL_size_3 : decode cL_size 3 = .ok (.istore_n 2, 1) := by decide +kernel
theorem dL_size_4 : decode cL_size 4 = .ok (.iload_n 2, 1) := by decide +kernel
theorem dL_size_5 : decode cL_size 5 = .ok (.ifCond .le 16, 3) := by decide +kernel
theorem dL_size_8 : decode cL_size 8 = .ok (.iload_n 1, 1) := by decide +kernel
theorem dL_size_9 : decode cL_size 9 = .ok (.iload_n 2, 1) := by decide +kernel
theorem dL_size_10 : decode cL_size 10 = .ok (.iconst 1, 1) := by decide +kernel
theorem dL_size_11 : decode cL_size 11 = .ok (.iand, 1) := by decide +kernel
theorem dL_size_12 : decode cL_size 12 = .ok (.iadd, 1) := by decide +kernel
theorem dL_size_13 : decode cL_size 13 = .ok (.istore_n 1, 1) := by decide +kernel
theorem dL_size_14 : decode cL_size 14 = .ok (.iload_n 2, 1) := by decide +kernel
theorem dL_size_15 : decode cL_size 15 = .ok (.iconst 1, 1) := by decide +kernel
theorem dL_size_16 : decode cL_size 16 = .ok (.ishr, 1) := by decide +kernel
theorem dL_size_17 : decode cL_size 17 = .ok (.istore_n 2, 1) := by decide +kernel
theorem dL_size_18 : decode cL_size 18 = .ok (.goto (-14), 3) := by decide +kernel
theorem dL_size_21 : decode cL_size 21 = .ok (.iload_n 1, 1) := by decide +kernel
theorem dL_size_22 : decode cL_size 22 = .ok (.ireturn, 1) := by decide +kernel
set_option maxRecDepth 20000 in
theorem ggL_counts_X4_polynomial : GoodIn wsL_counts wsX4_polynomial := goodIn_ca (goodIn_r _ [5, 6, 7, 8, 4, 9, 10, 11, 12, 13, 14, 15, 16, 17, 18, 19, 20, 21, 22, 23, 24, 25, 26, 27, 28, 29, 30, 31, 32, 33, 34, 35, 36, 139, 140, 141, 142, 143, 144, 145, 146, 147, 148, 149, 150, 151, 152] (by decide +kernel) (by decide +kernel)) (goodIn_sub (fun _ h => List.mem_cons_of_mem _ (List.mem_append_left _ (List.mem_append_right _ h))) (by decide +kernel))
set_option maxRecDepth 20000 in
theorem gL_counts_X4_polynomial : GoodIn wsL_counts (wsV RL 20 RX4 yX4_polynomial wsX4_polynomial) := goodIn_app (goodIn_of _ (by decide +kernel)) ggL_counts_X4_polynomial
set_option maxRecDepth 20000 in
theorem ggL_counts_X4_polynomialAnew : GoodIn wsL_counts wsX4_polynomialAnew := goodIn_ca (goodIn_r _ [40, 30, 7, 8, 4, 9, 10, 11, 31, 32, 33, 34, 35, 36, 41, 42, 43, 44, 45, 46, 47, 48, 49, 50, 51, 52, 53, 54, 55, 56, 57, 58, 59, 60, 61, 62, 63, 64, 65, 66, 67, 26, 27, 28, 29, 139, 140, 141, 142, 149, 150, 151, 152] (by decide +kernel) (by decide +kernel)) (goodIn_sub (fun _ h => List.mem_cons_of_mem _ (List.mem_append_left _ (List.mem_append_right _ h))) (by decide +kernel))
set_option maxRecDepth 20000 in
theorem gL_counts_X4_polynomialAnew : GoodIn wsL_counts (wsV RL 24 RX4 yX4_polynomialAnew wsX4_polynomialAnew) := goodIn_app (goodIn_of _ (by decide +kernel)) ggL_counts_X4_polynomialAnew
set_option maxRecDepth 20000 in
theorem ggL_counts_X4_rooms : GoodIn wsL_counts wsX4_rooms := goodIn_r _ [71, 72, 73, 74, 75, 76, 77, 78, 139, 140, 141, 142, 153, 154, 155, 156] (by decide +kernel) (by decide +kernel)
set_option maxRecDepth 20000 in
theorem gL_counts_X4_rooms : GoodIn wsL_counts (wsV RL 27 RX4 yX4_rooms wsX4_rooms) := goodIn_app (goodIn_of _ (by decide +kernel)) ggL_counts_X4_rooms
set_option maxRecDepth 20000 in
theorem ggL_counts_X4_bounded : GoodIn wsL_counts wsX4_bounded := goodIn_r _ [82, 72, 30, 73, 74, 75, 76, 77, 78, 83, 84, 85, 86, 87, 88, 32, 33, 34, 35, 36, 89, 90, 91, 92, 50, 93, 94, 95, 96, 49, 97, 98, 99, 100, 101, 4, 102, 103, 104, 105, 139, 140, 141, 142, 153, 154, 155, 156, 149, 150, 151, 152] (by decide +kernel) (by decide +kernel)
set_option maxRecDepth 20000 in
theorem gL_counts_X4_bounded : GoodIn wsL_counts (wsV RL 31 RX4 yX4_bounded wsX4_bounded) := goodIn_app (goodIn_of _ (by decide +kernel)) ggL_counts_X4_bounded
set_option maxRecDepth 20000 in
theorem ggL_counts_X4_meets : GoodIn wsL_counts wsX4_meets := goodIn_r _ [109, 6, 110, 111, 112, 15, 113, 17, 139, 140, 141, 142, 143, 144, 145, 146, 147, 148] (by decide +kernel) (by decide +kernel)
set_option maxRecDepth 20000 in
theorem gL_counts_X4_meets : GoodIn wsL_counts (wsV RL 34 RX4 yX4_meets wsX4_meets) := goodIn_app (goodIn_of _ (by decide +kernel)) ggL_counts_X4_meets
set_option maxRecDepth 20000 in
theorem ggL_counts_X4_pairs : GoodIn wsL_counts wsX4_pairs := goodIn_r _ [117, 30, 6, 31, 32, 33, 34, 35, 36, 118, 119, 120, 15, 121, 17, 18, 122, 123, 124, 125, 101, 4, 102, 103, 104, 105, 139, 140, 141, 142, 149, 150, 151, 152, 143, 144, 145, 146, 147, 148] (by decide +kernel) (by decide +kernel)
set_option maxRecDepth 20000 in
theorem gL_counts_X4_pairs : GoodIn wsL_counts (wsV RL 37 RX4 yX4_pairs wsX4_pairs) := goodIn_app (goodIn_of _ (by decide +kernel)) ggL_counts_X4_pairs
set_option maxRecDepth 20000 in
theorem ggL_counts_X4_pair : GoodIn wsL_counts wsX4_pair := goodIn_ca (goodIn_r _ [129, 30, 6, 130, 131, 4, 132, 133, 134, 31, 32, 33, 34, 35, 36, 118, 119, 120, 15, 121, 17, 18, 122, 123, 124, 125, 101, 102, 103, 104, 105, 139, 140, 141, 142, 149, 150, 151, 152, 143, 144, 145, 146, 147, 148] (by decide +kernel) (by decide +kernel)) (goodIn_sub (fun _ h => List.mem_cons_of_mem _ (List.mem_append_right _ h)) (by decide +kernel))
set_option maxRecDepth 20000 in
theorem gL_counts_X4_pair : GoodIn wsL_counts (wsV RL 40 RX4 yX4_pair wsX4_pair) := goodIn_app (goodIn_of _ (by decide +kernel)) ggL_counts_X4_pair
set_option maxRecDepth 20000 in
theorem ggL_counts_L_size : GoodIn wsL_counts wsL_size := goodIn_r _ [138] (by decide +kernel) (by decide +kernel)
set_option maxRecDepth 20000 in
theorem gL_counts_L_size : GoodIn wsL_counts (va_wsS RL 43 yL_size wsL_size) := goodIn_app (goodIn_of _ (by decide +kernel)) ggL_counts_L_size
theorem dL_counts_0 : decode cL_counts 0 = .ok (.aload_n 0, 1) := by decide +kernel
theorem dL_counts_1 : decode cL_counts 1 = .ok (.iconst 0, 1) := by decide +kernel
theorem dL_counts_2 : decode cL_counts 2 = .ok (.invokevirtual 20, 3) := by decide +kernel
theorem dL_counts_5 : decode cL_counts 5 = .ok (.istore_n 2, 1) := by decide +kernel
theorem dL_counts_6 : decode cL_counts 6 = .ok (.aload_n 0, 1) := by decide +kernel
theorem dL_counts_7 : decode cL_counts 7 = .ok (.iconst 2, 1) := by decide +kernel
theorem dL_counts_8 : decode cL_counts 8 = .ok (.invokevirtual 20, 3) := by decide +kernel
theorem dL_counts_11 : decode cL_counts 11 = .ok (.iconst 1, 1) := by decide +kernel
theorem dL_counts_12 : decode cL_counts 12 = .ok (.if_icmp .ne 45, 3) := by decide +kernel
theorem dL_counts_15 : decode cL_counts 15 = .ok (.aload_n 0, 1) := by decide +kernel
theorem dL_counts_16 : decode cL_counts 16 = .ok (.iconst 1, 1) := by decide +kernel
theorem dL_counts_17 : decode cL_counts 17 = .ok (.invokevirtual 20, 3) := by decide +kernel
theorem dL_counts_20 : decode cL_counts 20 = .ok (.iload_n 1, 1) := by decide +kernel
theorem dL_counts_21 : decode cL_counts 21 = .ok (.ineg, 1) := by decide +kernel
theorem dL_counts_22 : decode cL_counts 22 = .ok (.if_icmp .ne 35, 3) := by decide +kernel
theorem dL_counts_25 : decode cL_counts 25 = .ok (.aload_n 0, 1) := by decide +kernel
theorem dL_counts_26 : decode cL_counts 26 = .ok (.iconst 0, 1) := by decide +kernel
theorem dL_counts_27 : decode cL_counts 27 = .ok (.invokevirtual 24, 3) := by decide +kernel
theorem dL_counts_30 : decode cL_counts 30 = .ok (.iload_n 2, 1) := by decide +kernel
theorem dL_counts_31 : decode cL_counts 31 = .ok (.if_icmp .ne 26, 3) := by decide +kernel
theorem dL_counts_34 : decode cL_counts 34 = .ok (.aload_n 0, 1) := by decide +kernel
theorem dL_counts_35 : decode cL_counts 35 = .ok (.iconst 1, 1) := by decide +kernel
theorem dL_counts_36 : decode cL_counts 36 = .ok (.invokevirtual 24, 3) := by decide +kernel
theorem dL_counts_39 : decode cL_counts 39 = .ok (.iload_n 1, 1) := by decide +kernel
theorem dL_counts_40 : decode cL_counts 40 = .ok (.ineg, 1) := by decide +kernel
theorem dL_counts_41 : decode cL_counts 41 = .ok (.if_icmp .ne 16, 3) := by decide +kernel
theorem dL_counts_44 : decode cL_counts 44 = .ok (.aload_n 0, 1) := by decide +kernel
theorem dL_counts_45 : decode cL_counts 45 = .ok (.iconst 2, 1) := by decide +kernel
theorem dL_counts_46 : decode cL_counts 46 = .ok (.invokevirtual 24, 3) := by decide +kernel
theorem dL_counts_49 : decode cL_counts 49 = .ok (.iconst 1, 1) := by decide +kernel
theorem dL_counts_50 : decode cL_counts 50 = .ok (.if_icmp .ne 7, 3) := by decide +kernel
theorem dL_counts_53 : decode cL_counts 53 = .ok (.iconst 1, 1) := by decide +kernel
theorem dL_counts_54 : decode cL_counts 54 = .ok (.goto 4, 3) := by decide +kernel
theorem dL_counts_57 : decode cL_counts 57 = .ok (.iconst 0, 1) := by decide +kernel
theorem dL_counts_58 : decode cL_counts 58 = .ok (.istore_n 3, 1) := by decide +kernel
theorem dL_counts_59 : decode cL_counts 59 = .ok (.iload_n 3, 1) := by decide +kernel
theorem dL_counts_60 : decode cL_counts 60 = .ok (.aload_n 0, 1) := by decide +kernel
theorem dL_counts_61 : decode cL_counts 61 = .ok (.invokevirtual 27, 3) := by decide +kernel
theorem dL_counts_64 : decode cL_counts 64 = .ok (.iconst 1, 1) := by decide +kernel
theorem dL_counts_65 : decode cL_counts 65 = .ok (.iload_n 1, 1) := by decide +kernel
theorem dL_counts_66 : decode cL_counts 66 = .ok (.iadd, 1) := by decide +kernel
theorem dL_counts_67 : decode cL_counts 67 = .ok (.iload_n 2, 1) := by decide +kernel
theorem dL_counts_68 : decode cL_counts 68 = .ok (.iadd, 1) := by decide +kernel
theorem dL_counts_69 : decode cL_counts 69 = .ok (.if_icmp .ne 47, 3) := by decide +kernel
theorem dL_counts_72 : decode cL_counts 72 = .ok (.aload_n 0, 1) := by decide +kernel
theorem dL_counts_73 : decode cL_counts 73 = .ok (.invokevirtual 31, 3) := by decide +kernel
theorem dL_counts_76 : decode cL_counts 76 = .ok (.aload_n 0, 1) := by decide +kernel
theorem dL_counts_77 : decode cL_counts 77 = .ok (.invokevirtual 34, 3) := by decide +kernel
theorem dL_counts_80 : decode cL_counts 80 = .ok (.ifCond .ne 7, 3) := by decide +kernel
theorem dL_counts_83 : decode cL_counts 83 = .ok (.iconst 0, 1) := by decide +kernel
theorem dL_counts_84 : decode cL_counts 84 = .ok (.goto 8, 3) := by decide +kernel
theorem dL_counts_87 : decode cL_counts 87 = .ok (.iconst 1, 1) := by decide +kernel
theorem dL_counts_88 : decode cL_counts 88 = .ok (.iload_n 1, 1) := by decide +kernel
theorem dL_counts_89 : decode cL_counts 89 = .ok (.isub, 1) := by decide +kernel
theorem dL_counts_90 : decode cL_counts 90 = .ok (.iload_n 2, 1) := by decide +kernel
theorem dL_counts_91 : decode cL_counts 91 = .ok (.iadd, 1) := by decide +kernel
theorem dL_counts_92 : decode cL_counts 92 = .ok (.if_icmp .ne 24, 3) := by decide +kernel
theorem dL_counts_95 : decode cL_counts 95 = .ok (.aload_n 0, 1) := by decide +kernel
theorem dL_counts_96 : decode cL_counts 96 = .ok (.invokevirtual 37, 3) := by decide +kernel
theorem dL_counts_99 : decode cL_counts 99 = .ok (.iload_n 2, 1) := by decide +kernel
theorem dL_counts_100 : decode cL_counts 100 = .ok (.if_icmp .ne 16, 3) := by decide +kernel
theorem dL_counts_103 : decode cL_counts 103 = .ok (.aload_n 0, 1) := by decide +kernel
theorem dL_counts_104 : decode cL_counts 104 = .ok (.iload_n 2, 1) := by decide +kernel
theorem dL_counts_105 : decode cL_counts 105 = .ok (.invokevirtual 40, 3) := by decide +kernel
theorem dL_counts_108 : decode cL_counts 108 = .ok (.iconst (-1), 1) := by decide +kernel
theorem dL_counts_109 : decode cL_counts 109 = .ok (.if_icmp .ne 7, 3) := by decide +kernel
theorem dL_counts_112 : decode cL_counts 112 = .ok (.iconst 1, 1) := by decide +kernel
theorem dL_counts_113 : decode cL_counts 113 = .ok (.goto 4, 3) := by decide +kernel
theorem dL_counts_116 : decode cL_counts 116 = .ok (.iconst 0, 1) := by decide +kernel
theorem dL_counts_117 : decode cL_counts 117 = .ok (.iand, 1) := by decide +kernel
theorem dL_counts_118 : decode cL_counts 118 = .ok (.istore_n 3, 1) := by decide +kernel
theorem dL_counts_119 : decode cL_counts 119 = .ok (.iload_n 3, 1) := by decide +kernel
theorem dL_counts_120 : decode cL_counts 120 = .ok (.ifCond .eq 25, 3) := by decide +kernel
theorem dL_counts_123 : decode cL_counts 123 = .ok (.iload_n 2, 1) := by decide +kernel
theorem dL_counts_124 : decode cL_counts 124 = .ok (.ifCond .eq 17, 3) := by decide +kernel
theorem dL_counts_127 : decode cL_counts 127 = .ok (.aload_n 0, 1) := by decide +kernel
theorem dL_counts_128 : decode cL_counts 128 = .ok (.iload_n 2, 1) := by decide +kernel
theorem dL_counts_129 : decode cL_counts 129 = .ok (.iconst 1, 1) := by decide +kernel
theorem dL_counts_130 : decode cL_counts 130 = .ok (.isub, 1) := by decide +kernel
theorem dL_counts_131 : decode cL_counts 131 = .ok (.invokevirtual 40, 3) := by decide +kernel
theorem dL_counts_134 : decode cL_counts 134 = .ok (.invokestatic 43, 3) := by decide +kernel
theorem dL_counts_137 : decode cL_counts 137 = .ok (.iconst 2, 1) := by decide +kernel
theorem dL_counts_138 : decode cL_counts 138 = .ok (.if_icmp .ne 7, 3) := by decide +kernel
theorem dL_counts_141 : decode cL_counts 141 = .ok (.iconst 1, 1) := by decide +kernel
theorem dL_counts_142 : decode cL_counts 142 = .ok (.goto 4, 3) := by decide +kernel
theorem dL_counts_145 : decode cL_counts 145 = .ok (.iconst 0, 1) := by decide +kernel
theorem dL_counts_146 : decode cL_counts 146 = .ok (.ireturn, 1) := by decide +kernel
set_option maxRecDepth 20000 in
theorem ggL_rooms_X4_room : GoodIn wsL_rooms wsX4_room := goodIn_ca (goodIn_ca (goodIn_r _ [5, 6, 7, 8, 9, 10, 11, 12, 13, 4, 14, 15, 16, 17, 18, 19, 20, 21, 22, 23, 24, 25, 26, 27, 28, 29, 30, 31, 32, 33, 34, 35, 36, 37, 38, 39, 40, 41, 42, 43, 44, 45, 46, 47, 48, 49, 50, 51, 52, 53, 54, 55, 56, 57, 58, 59, 60, 61, 62, 63, 64, 65, 66, 67, 68, 69, 70, 71, 72, 73, 74, 75, 76, 77, 101, 102, 103, 104, 105, 106, 107, 108, 109, 110, 111, 112, 113, 114, 115, 116, 117, 118] (by decide +kernel) (by decide +kernel)) (goodIn_sub (fun _ h => List.mem_cons_of_mem _ (List.mem_append_left _ (List.mem_append_right _ h))) (by decide +kernel))) (goodIn_sub (fun _ h => List.mem_cons_of_mem _ (List.mem_append_right _ h)) (by decide +kernel))
set_option maxRecDepth 20000 in
theorem gL_rooms_X4_room : GoodIn wsL_rooms (wsV RL 48 RX4 yX4_room wsX4_room) := goodIn_app (goodIn_of _ (by decide +kernel)) ggL_rooms_X4_room
set_option maxRecDepth 20000 in
theorem ggL_rooms_X4_roomOf : GoodIn wsL_rooms wsX4_roomOf := goodIn_ca (goodIn_r _ [81, 6, 7, 8, 82, 83, 84, 20, 85, 61, 101, 102, 103, 104, 105, 106, 107, 108] (by decide +kernel) (by decide +kernel)) (goodIn_sub (fun _ h => List.mem_cons_of_mem _ (List.mem_append_left _ (List.mem_append_right _ h))) (by decide +kernel))
set_option maxRecDepth 20000 in
theorem gL_rooms_X4_roomOf : GoodIn wsL_rooms (wsV RL 52 RX4 yX4_roomOf wsX4_roomOf) := goodIn_app (goodIn_of _ (by decide +kernel)) ggL_rooms_X4_roomOf
set_option maxRecDepth 20000 in
theorem ggL_rooms_X4_corner : GoodIn wsL_rooms wsX4_corner := goodIn_ca (goodIn_r _ [89, 10, 8, 11, 12, 13, 4, 14, 15, 16, 17, 18, 19, 20, 21, 22, 90, 91, 92, 23, 24, 25, 26, 27, 93, 94, 95, 65, 96, 67, 68, 69, 70, 71, 72, 73, 74, 75, 76, 77, 101, 102, 103, 104, 105, 106, 107, 108, 113, 114, 115, 116, 117, 118] (by decide +kernel) (by decide +kernel)) (goodIn_sub (fun _ h => List.mem_cons_of_mem _ (List.mem_append_right _ h)) (by decide +kernel))
set_option maxRecDepth 20000 in
theorem gL_rooms_X4_corner : GoodIn wsL_rooms (wsV RL 55 RX4 yX4_corner wsX4_corner) := goodIn_app (goodIn_of _ (by decide +kernel)) ggL_rooms_X4_corner
set_option maxRecDepth 20000 in
theorem ggL_rooms_L_size : GoodIn wsL_rooms wsL_size := goodIn_r _ [100] (by decide +kernel) (by decide +kernel)
set_option maxRecDepth 20000 in
theorem gL_rooms_L_size : GoodIn wsL_rooms (va_wsS RL 43 yL_size wsL_size) := goodIn_app (goodIn_of _ (by decide +kernel)) ggL_rooms_L_size
theorem dL_rooms_0 : decode cL_rooms 0 = .ok (.aload_n 0, 1) := by decide +kernel
theorem dL_rooms_1 : decode cL_rooms 1 = .ok (.iload_n 1, 1) := by decide +kernel
theorem dL_rooms_2 : decode cL_rooms 2 = .ok (.iconst 0, 1) := by decide +kernel
theorem dL_rooms_3 : decode cL_rooms 3 = .ok (.invokevirtual 48, 3) := by decide +kernel
theorem dL_rooms_6 : decode cL_rooms 6 = .ok (.istore_n 3, 1) := by decide +kernel
theorem dL_rooms_7 : decode cL_rooms 7 = .ok (.aload_n 0, 1) := by decide +kernel
theorem dL_rooms_8 : decode cL_rooms 8 = .ok (.iload_n 1, 1) := by decide +kernel
theorem dL_rooms_9 : decode cL_rooms 9 = .ok (.iconst 2, 1) := by decide +kernel
theorem dL_rooms_10 : decode cL_rooms 10 = .ok (.invokevirtual 48, 3) := by decide +kernel
theorem dL_rooms_13 : decode cL_rooms 13 = .ok (.istore 4, 2) := by decide +kernel
theorem dL_rooms_15 : decode cL_rooms 15 = .ok (.aload_n 0, 1) := by decide +kernel
theorem dL_rooms_16 : decode cL_rooms 16 = .ok (.iload_n 1, 1) := by decide +kernel
theorem dL_rooms_17 : decode cL_rooms 17 = .ok (.iconst 3, 1) := by decide +kernel
theorem dL_rooms_18 : decode cL_rooms 18 = .ok (.invokevirtual 48, 3) := by decide +kernel
theorem dL_rooms_21 : decode cL_rooms 21 = .ok (.istore 5, 2) := by decide +kernel
theorem dL_rooms_23 : decode cL_rooms 23 = .ok (.aload_n 0, 1) := by decide +kernel
theorem dL_rooms_24 : decode cL_rooms 24 = .ok (.iload_n 1, 1) := by decide +kernel
theorem dL_rooms_25 : decode cL_rooms 25 = .ok (.iconst 1, 1) := by decide +kernel
theorem dL_rooms_26 : decode cL_rooms 26 = .ok (.invokevirtual 48, 3) := by decide +kernel
theorem dL_rooms_29 : decode cL_rooms 29 = .ok (.iconst 1, 1) := by decide +kernel
theorem dL_rooms_30 : decode cL_rooms 30 = .ok (.if_icmp .ne 7, 3) := by decide +kernel
theorem dL_rooms_33 : decode cL_rooms 33 = .ok (.iconst 1, 1) := by decide +kernel
theorem dL_rooms_34 : decode cL_rooms 34 = .ok (.goto 4, 3) := by decide +kernel
theorem dL_rooms_37 : decode cL_rooms 37 = .ok (.iconst 0, 1) := by decide +kernel
theorem dL_rooms_38 : decode cL_rooms 38 = .ok (.istore 6, 2) := by decide +kernel
theorem dL_rooms_40 : decode cL_rooms 40 = .ok (.aload_n 0, 1) := by decide +kernel
theorem dL_rooms_41 : decode cL_rooms 41 = .ok (.iload_n 3, 1) := by decide +kernel
theorem dL_rooms_42 : decode cL_rooms 42 = .ok (.invokevirtual 52, 3) := by decide +kernel
theorem dL_rooms_45 : decode cL_rooms 45 = .ok (.iload_n 1, 1) := by decide +kernel
theorem dL_rooms_46 : decode cL_rooms 46 = .ok (.if_icmp .ne 34, 3) := by decide +kernel
theorem dL_rooms_49 : decode cL_rooms 49 = .ok (.iload_n 1, 1) := by decide +kernel
theorem dL_rooms_50 : decode cL_rooms 50 = .ok (.ifCond .eq 15, 3) := by decide +kernel
theorem dL_rooms_53 : decode cL_rooms 53 = .ok (.aload_n 0, 1) := by decide +kernel
theorem dL_rooms_54 : decode cL_rooms 54 = .ok (.iload_n 1, 1) := by decide +kernel
theorem dL_rooms_55 : decode cL_rooms 55 = .ok (.iconst 1, 1) := by decide +kernel
theorem dL_rooms_56 : decode cL_rooms 56 = .ok (.isub, 1) := by decide +kernel
theorem dL_rooms_57 : decode cL_rooms 57 = .ok (.iconst 0, 1) := by decide +kernel
theorem dL_rooms_58 : decode cL_rooms 58 = .ok (.invokevirtual 48, 3) := by decide +kernel
theorem dL_rooms_61 : decode cL_rooms 61 = .ok (.iload_n 3, 1) := by decide +kernel
theorem dL_rooms_62 : decode cL_rooms 62 = .ok (.if_icmp .ge 18, 3) := by decide +kernel
theorem dL_rooms_65 : decode cL_rooms 65 = .ok (.aload_n 0, 1) := by decide +kernel
theorem dL_rooms_66 : decode cL_rooms 66 = .ok (.iload_n 1, 1) := by decide +kernel
theorem dL_rooms_67 : decode cL_rooms 67 = .ok (.iload 5, 2) := by decide +kernel
theorem dL_rooms_69 : decode cL_rooms 69 = .ok (.invokevirtual 55, 3) := by decide +kernel
theorem dL_rooms_72 : decode cL_rooms 72 = .ok (.iconst (-1), 1) := by decide +kernel
theorem dL_rooms_73 : decode cL_rooms 73 = .ok (.if_icmp .ne 7, 3) := by decide +kernel
theorem dL_rooms_76 : decode cL_rooms 76 = .ok (.iconst 1, 1) := by decide +kernel
theorem dL_rooms_77 : decode cL_rooms 77 = .ok (.goto 4, 3) := by decide +kernel
theorem dL_rooms_80 : decode cL_rooms 80 = .ok (.iconst 0, 1) := by decide +kernel
theorem dL_rooms_81 : decode cL_rooms 81 = .ok (.istore 7, 2) := by decide +kernel
theorem dL_rooms_83 : decode cL_rooms 83 = .ok (.iload 7, 2) := by decide +kernel
theorem dL_rooms_85 : decode cL_rooms 85 = .ok (.iload_n 2, 1) := by decide +kernel
theorem dL_rooms_86 : decode cL_rooms 86 = .ok (.ifCond .ne 21, 3) := by decide +kernel
theorem dL_rooms_89 : decode cL_rooms 89 = .ok (.iload 5, 2) := by decide +kernel
theorem dL_rooms_91 : decode cL_rooms 91 = .ok (.ifCond .ne 12, 3) := by decide +kernel
theorem dL_rooms_94 : decode cL_rooms 94 = .ok (.iload 6, 2) := by decide +kernel
theorem dL_rooms_96 : decode cL_rooms 96 = .ok (.ifCond .ne 7, 3) := by decide +kernel
theorem dL_rooms_99 : decode cL_rooms 99 = .ok (.iconst 1, 1) := by decide +kernel
theorem dL_rooms_100 : decode cL_rooms 100 = .ok (.goto 42, 3) := by decide +kernel
theorem dL_rooms_103 : decode cL_rooms 103 = .ok (.iconst 0, 1) := by decide +kernel
theorem dL_rooms_104 : decode cL_rooms 104 = .ok (.goto 38, 3) := by decide +kernel
theorem dL_rooms_107 : decode cL_rooms 107 = .ok (.iload 5, 2) := by decide +kernel
theorem dL_rooms_109 : decode cL_rooms 109 = .ok (.iload 6, 2) := by decide +kernel
theorem dL_rooms_111 : decode cL_rooms 111 = .ok (.ifCond .eq 11, 3) := by decide +kernel
theorem dL_rooms_114 : decode cL_rooms 114 = .ok (.iload 4, 2) := by decide +kernel
theorem dL_rooms_116 : decode cL_rooms 116 = .ok (.invokestatic 43, 3) := by decide +kernel
theorem dL_rooms_119 : decode cL_rooms 119 = .ok (.goto 10, 3) := by decide +kernel
theorem dL_rooms_122 : decode cL_rooms 122 = .ok (.iload 4, 2) := by decide +kernel
theorem dL_rooms_124 : decode cL_rooms 124 = .ok (.invokestatic 43, 3) := by decide +kernel
theorem dL_rooms_127 : decode cL_rooms 127 = .ok (.iconst 1, 1) := by decide +kernel
theorem dL_rooms_128 : decode cL_rooms 128 = .ok (.isub, 1) := by decide +kernel
theorem dL_rooms_129 : decode cL_rooms 129 = .ok (.if_icmp .ne 12, 3) := by decide +kernel
theorem dL_rooms_132 : decode cL_rooms 132 = .ok (.iload 5, 2) := by decide +kernel
theorem dL_rooms_134 : decode cL_rooms 134 = .ok (.ifCond .le 7, 3) := by decide +kernel
theorem dL_rooms_137 : decode cL_rooms 137 = .ok (.iconst 1, 1) := by decide +kernel
theorem dL_rooms_138 : decode cL_rooms 138 = .ok (.goto 4, 3) := by decide +kernel
theorem dL_rooms_141 : decode cL_rooms 141 = .ok (.iconst 0, 1) := by decide +kernel
theorem dL_rooms_142 : decode cL_rooms 142 = .ok (.iand, 1) := by decide +kernel
theorem dL_rooms_143 : decode cL_rooms 143 = .ok (.istore 7, 2) := by decide +kernel
theorem dL_rooms_145 : decode cL_rooms 145 = .ok (.iconst 0, 1) := by decide +kernel
theorem dL_rooms_146 : decode cL_rooms 146 = .ok (.istore 8, 2) := by decide +kernel
theorem dL_rooms_148 : decode cL_rooms 148 = .ok (.iload 8, 2) := by decide +kernel
theorem dL_rooms_150 : decode cL_rooms 150 = .ok (.bipush 9, 2) := by decide +kernel
theorem dL_rooms_152 : decode cL_rooms 152 = .ok (.if_icmp .ge 60, 3) := by decide +kernel
theorem dL_rooms_155 : decode cL_rooms 155 = .ok (.aload_n 0, 1) := by decide +kernel
theorem dL_rooms_156 : decode cL_rooms 156 = .ok (.iload_n 3, 1) := by decide +kernel
theorem dL_rooms_157 : decode cL_rooms 157 = .ok (.iconst 1, 1) := by decide +kernel
theorem dL_rooms_158 : decode cL_rooms 158 = .ok (.iload 8, 2) := by decide +kernel
theorem dL_rooms_160 : decode cL_rooms 160 = .ok (.ishl, 1) := by decide +kernel
theorem dL_rooms_161 : decode cL_rooms 161 = .ok (.ixor, 1) := by decide +kernel
theorem dL_rooms_162 : decode cL_rooms 162 = .ok (.invokevirtual 52, 3) := by decide +kernel
theorem dL_rooms_165 : decode cL_rooms 165 = .ok (.istore 9, 2) := by decide +kernel
theorem dL_rooms_167 : decode cL_rooms 167 = .ok (.iload 7, 2) := by decide +kernel
theorem dL_rooms_169 : decode cL_rooms 169 = .ok (.iload 9, 2) := by decide +kernel
theorem dL_rooms_171 : decode cL_rooms 171 = .ok (.ifCond .lt 7, 3) := by decide +kernel
theorem dL_rooms_174 : decode cL_rooms 174 = .ok (.iconst 1, 1) := by decide +kernel
theorem dL_rooms_175 : decode cL_rooms 175 = .ok (.goto 4, 3) := by decide +kernel
theorem dL_rooms_178 : decode cL_rooms 178 = .ok (.iconst 0, 1) := by decide +kernel
theorem dL_rooms_179 : decode cL_rooms 179 = .ok (.iload 4, 2) := by decide +kernel
theorem dL_rooms_181 : decode cL_rooms 181 = .ok (.iload 8, 2) := by decide +kernel
theorem dL_rooms_183 : decode cL_rooms 183 = .ok (.ishr, 1) := by decide +kernel
theorem dL_rooms_184 : decode cL_rooms 184 = .ok (.iconst 1, 1) := by decide +kernel
theorem dL_rooms_185 : decode cL_rooms 185 = .ok (.iand, 1) := by decide +kernel
theorem dL_rooms_186 : decode cL_rooms 186 = .ok (.iconst 1, 1) := by decide +kernel
theorem dL_rooms_187 : decode cL_rooms 187 = .ok (.if_icmp .ne 7, 3) := by decide +kernel
theorem dL_rooms_190 : decode cL_rooms 190 = .ok (.iconst 1, 1) := by decide +kernel
theorem dL_rooms_191 : decode cL_rooms 191 = .ok (.goto 4, 3) := by decide +kernel
theorem dL_rooms_194 : decode cL_rooms 194 = .ok (.iconst 0, 1) := by decide +kernel
theorem dL_rooms_195 : decode cL_rooms 195 = .ok (.if_icmp .ne 7, 3) := by decide +kernel
theorem dL_rooms_198 : decode cL_rooms 198 = .ok (.iconst 1, 1) := by decide +kernel
theorem dL_rooms_199 : decode cL_rooms 199 = .ok (.goto 4, 3) := by decide +kernel
theorem dL_rooms_202 : decode cL_rooms 202 = .ok (.iconst 0, 1) := by decide +kernel
theorem dL_rooms_203 : decode cL_rooms 203 = .ok (.iand, 1) := by decide +kernel
theorem dL_rooms_204 : decode cL_rooms 204 = .ok (.istore 7, 2) := by decide +kernel
theorem dL_rooms_206 : decode cL_rooms 206 = .ok (.iinc 8 1, 3) := by decide +kernel
theorem dL_rooms_209 : decode cL_rooms 209 = .ok (.goto (-61), 3) := by decide +kernel
theorem dL_rooms_212 : decode cL_rooms 212 = .ok (.iload 7, 2) := by decide +kernel
theorem dL_rooms_214 : decode cL_rooms 214 = .ok (.ireturn, 1) := by decide +kernel
set_option maxRecDepth 20000 in
theorem ggL_galleries_X4_room : GoodIn wsL_galleries wsX4_room := goodIn_ca (goodIn_ca (goodIn_r _ [5, 6, 7, 8, 9, 10, 11, 12, 13, 4, 14, 15, 16, 17, 18, 19, 20, 21, 22, 23, 24, 25, 26, 27, 28, 29, 30, 31, 32, 33, 34, 35, 36, 37, 38, 39, 40, 41, 42, 43, 44, 45, 46, 47, 48, 49, 50, 51, 52, 53, 54, 55, 56, 57, 58, 59, 60, 61, 62, 63, 64, 65, 66, 67, 68, 69, 70, 71, 72, 73, 74, 75, 76, 77, 117, 118, 119, 120, 121, 122, 123, 124, 125, 126, 127, 128, 129, 130, 131, 132, 133, 134] (by decide +kernel) (by decide +kernel)) (goodIn_sub (fun _ h => List.mem_cons_of_mem _ (List.mem_append_left _ (List.mem_append_right _ h))) (by decide +kernel))) (goodIn_sub (fun _ h => List.mem_cons_of_mem _ (List.mem_append_right _ h)) (by decide +kernel))
set_option maxRecDepth 20000 in
theorem gL_galleries_X4_room : GoodIn wsL_galleries (wsV RL 48 RX4 yX4_room wsX4_room) := goodIn_app (goodIn_of _ (by decide +kernel)) ggL_galleries_X4_room
set_option maxRecDepth 20000 in
theorem ggL_galleries_L_size : GoodIn wsL_galleries wsL_size := goodIn_r _ [81] (by decide +kernel) (by decide +kernel)
set_option maxRecDepth 20000 in
theorem gL_galleries_L_size : GoodIn wsL_galleries (va_wsS RL 43 yL_size wsL_size) := goodIn_app (goodIn_of _ (by decide +kernel)) ggL_galleries_L_size
set_option maxRecDepth 20000 in
theorem ggL_galleries_X4_galleries : GoodIn wsL_galleries wsX4_galleries := goodIn_ca (goodIn_r _ [85, 8, 11, 12, 13, 4, 14, 15, 16, 17, 18, 19, 20, 21, 22, 86, 87, 88, 89, 27, 90, 91, 92, 93, 94, 61, 52, 53, 54, 55, 56, 117, 118, 119, 120, 121, 122, 123, 124] (by decide +kernel) (by decide +kernel)) (goodIn_sub (fun _ h => List.mem_cons_of_mem _ (List.mem_append_right _ h)) (by decide +kernel))
set_option maxRecDepth 20000 in
theorem gL_galleries_X4_galleries : GoodIn wsL_galleries (wsV RL 58 RX4 yX4_galleries wsX4_galleries) := goodIn_app (goodIn_of _ (by decide +kernel)) ggL_galleries_X4_galleries
set_option maxRecDepth 20000 in
theorem ggL_galleries_X4_gallery : GoodIn wsL_galleries wsX4_gallery := goodIn_ca (goodIn_r _ [98, 8, 11, 12, 13, 4, 14, 15, 16, 17, 18, 19, 20, 21, 22, 99, 100, 101, 102, 103, 104, 105, 27, 61, 106, 107, 108, 109, 52, 53, 54, 55, 56, 110, 111, 112, 113, 114, 115, 116, 117, 118, 119, 120, 121, 122, 123, 124] (by decide +kernel) (by decide +kernel)) (goodIn_sub (fun _ h => List.mem_cons_of_mem _ (List.mem_append_right _ h)) (by decide +kernel))
set_option maxRecDepth 20000 in
theorem gL_galleries_X4_gallery : GoodIn wsL_galleries (wsV RL 61 RX4 yX4_gallery wsX4_gallery) := goodIn_app (goodIn_of _ (by decide +kernel)) ggL_galleries_X4_gallery
theorem dL_galleries_0 : decode cL_galleries 0 = .ok (.aload_n 0, 1) := by decide +kernel
theorem dL_galleries_1 : decode cL_galleries 1 = .ok (.iload_n 1, 1) := by decide +kernel
theorem dL_galleries_2 : decode cL_galleries 2 = .ok (.iconst 0, 1) := by decide +kernel
theorem dL_galleries_3 : decode cL_galleries 3 = .ok (.invokevirtual 48, 3) := by decide +kernel
theorem dL_galleries_6 : decode cL_galleries 6 = .ok (.aload_n 0, 1) := by decide +kernel
theorem dL_galleries_7 : decode cL_galleries 7 = .ok (.iload_n 2, 1) := by decide +kernel
theorem dL_galleries_8 : decode cL_galleries 8 = .ok (.iconst 0, 1) := by decide +kernel
theorem dL_galleries_9 : decode cL_galleries 9 = .ok (.invokevirtual 48, 3) := by decide +kernel
theorem dL_galleries_12 : decode cL_galleries 12 = .ok (.ixor, 1) := by decide +kernel
theorem dL_galleries_13 : decode cL_galleries 13 = .ok (.invokestatic 43, 3) := by decide +kernel
theorem dL_galleries_16 : decode cL_galleries 16 = .ok (.istore_n 3, 1) := by decide +kernel
theorem dL_galleries_17 : decode cL_galleries 17 = .ok (.aload_n 0, 1) := by decide +kernel
theorem dL_galleries_18 : decode cL_galleries 18 = .ok (.iload_n 1, 1) := by decide +kernel
theorem dL_galleries_19 : decode cL_galleries 19 = .ok (.iload_n 2, 1) := by decide +kernel
theorem dL_galleries_20 : decode cL_galleries 20 = .ok (.invokevirtual 58, 3) := by decide +kernel
theorem dL_galleries_23 : decode cL_galleries 23 = .ok (.aload_n 0, 1) := by decide +kernel
theorem dL_galleries_24 : decode cL_galleries 24 = .ok (.iload_n 2, 1) := by decide +kernel
theorem dL_galleries_25 : decode cL_galleries 25 = .ok (.iload_n 1, 1) := by decide +kernel
theorem dL_galleries_26 : decode cL_galleries 26 = .ok (.invokevirtual 58, 3) := by decide +kernel
theorem dL_galleries_29 : decode cL_galleries 29 = .ok (.if_icmp .ne 41, 3) := by decide +kernel
theorem dL_galleries_32 : decode cL_galleries 32 = .ok (.aload_n 0, 1) := by decide +kernel
theorem dL_galleries_33 : decode cL_galleries 33 = .ok (.iload_n 1, 1) := by decide +kernel
theorem dL_galleries_34 : decode cL_galleries 34 = .ok (.iload_n 2, 1) := by decide +kernel
theorem dL_galleries_35 : decode cL_galleries 35 = .ok (.invokevirtual 58, 3) := by decide +kernel
theorem dL_galleries_38 : decode cL_galleries 38 = .ok (.iconst 1, 1) := by decide +kernel
theorem dL_galleries_39 : decode cL_galleries 39 = .ok (.if_icmp .lt 31, 3) := by decide +kernel
theorem dL_galleries_42 : decode cL_galleries 42 = .ok (.aload_n 0, 1) := by decide +kernel
theorem dL_galleries_43 : decode cL_galleries 43 = .ok (.iload_n 1, 1) := by decide +kernel
theorem dL_galleries_44 : decode cL_galleries 44 = .ok (.iload_n 2, 1) := by decide +kernel
theorem dL_galleries_45 : decode cL_galleries 45 = .ok (.iload_n 3, 1) := by decide +kernel
theorem dL_galleries_46 : decode cL_galleries 46 = .ok (.invokevirtual 61, 3) := by decide +kernel
theorem dL_galleries_49 : decode cL_galleries 49 = .ok (.iload_n 2, 1) := by decide +kernel
theorem dL_galleries_50 : decode cL_galleries 50 = .ok (.if_icmp .ne 20, 3) := by decide +kernel
theorem dL_galleries_53 : decode cL_galleries 53 = .ok (.aload_n 0, 1) := by decide +kernel
theorem dL_galleries_54 : decode cL_galleries 54 = .ok (.iload_n 1, 1) := by decide +kernel
theorem dL_galleries_55 : decode cL_galleries 55 = .ok (.iload_n 2, 1) := by decide +kernel
theorem dL_galleries_56 : decode cL_galleries 56 = .ok (.iload_n 3, 1) := by decide +kernel
theorem dL_galleries_57 : decode cL_galleries 57 = .ok (.iconst 1, 1) := by decide +kernel
theorem dL_galleries_58 : decode cL_galleries 58 = .ok (.iadd, 1) := by decide +kernel
theorem dL_galleries_59 : decode cL_galleries 59 = .ok (.invokevirtual 61, 3) := by decide +kernel
theorem dL_galleries_62 : decode cL_galleries 62 = .ok (.iconst (-1), 1) := by decide +kernel
theorem dL_galleries_63 : decode cL_galleries 63 = .ok (.if_icmp .ne 7, 3) := by decide +kernel
theorem dL_galleries_66 : decode cL_galleries 66 = .ok (.iconst 1, 1) := by decide +kernel
theorem dL_galleries_67 : decode cL_galleries 67 = .ok (.goto 4, 3) := by decide +kernel
theorem dL_galleries_70 : decode cL_galleries 70 = .ok (.iconst 0, 1) := by decide +kernel
theorem dL_galleries_71 : decode cL_galleries 71 = .ok (.istore 4, 2) := by decide +kernel
theorem dL_galleries_73 : decode cL_galleries 73 = .ok (.aload_n 0, 1) := by decide +kernel
theorem dL_galleries_74 : decode cL_galleries 74 = .ok (.iload_n 1, 1) := by decide +kernel
theorem dL_galleries_75 : decode cL_galleries 75 = .ok (.iconst 0, 1) := by decide +kernel
theorem dL_galleries_76 : decode cL_galleries 76 = .ok (.invokevirtual 48, 3) := by decide +kernel
theorem dL_galleries_79 : decode cL_galleries 79 = .ok (.istore 5, 2) := by decide +kernel
theorem dL_galleries_81 : decode cL_galleries 81 = .ok (.iconst 0, 1) := by decide +kernel
theorem dL_galleries_82 : decode cL_galleries 82 = .ok (.istore 6, 2) := by decide +kernel
theorem dL_galleries_84 : decode cL_galleries 84 = .ok (.iload 6, 2) := by decide +kernel
theorem dL_galleries_86 : decode cL_galleries 86 = .ok (.iload_n 3, 1) := by decide +kernel
theorem dL_galleries_87 : decode cL_galleries 87 = .ok (.if_icmp .gt 98, 3) := by decide +kernel
theorem dL_galleries_90 : decode cL_galleries 90 = .ok (.iload 4, 2) := by decide +kernel
theorem dL_galleries_92 : decode cL_galleries 92 = .ok (.ifCond .eq 93, 3) := by decide +kernel
theorem dL_galleries_95 : decode cL_galleries 95 = .ok (.aload_n 0, 1) := by decide +kernel
theorem dL_galleries_96 : decode cL_galleries 96 = .ok (.iload_n 1, 1) := by decide +kernel
theorem dL_galleries_97 : decode cL_galleries 97 = .ok (.iload_n 2, 1) := by decide +kernel
theorem dL_galleries_98 : decode cL_galleries 98 = .ok (.iload 6, 2) := by decide +kernel
theorem dL_galleries_100 : decode cL_galleries 100 = .ok (.invokevirtual 61, 3) := by decide +kernel
theorem dL_galleries_103 : decode cL_galleries 103 = .ok (.istore 7, 2) := by decide +kernel
theorem dL_galleries_105 : decode cL_galleries 105 = .ok (.iload 7, 2) := by decide +kernel
theorem dL_galleries_107 : decode cL_galleries 107 = .ok (.ifCond .ge 7, 3) := by decide +kernel
theorem dL_galleries_110 : decode cL_galleries 110 = .ok (.iconst (-1), 1) := by decide +kernel
theorem dL_galleries_111 : decode cL_galleries 111 = .ok (.goto 10, 3) := by decide +kernel
theorem dL_galleries_114 : decode cL_galleries 114 = .ok (.aload_n 0, 1) := by decide +kernel
theorem dL_galleries_115 : decode cL_galleries 115 = .ok (.iload 7, 2) := by decide +kernel
theorem dL_galleries_117 : decode cL_galleries 117 = .ok (.iconst 0, 1) := by decide +kernel
theorem dL_galleries_118 : decode cL_galleries 118 = .ok (.invokevirtual 48, 3) := by decide +kernel
theorem dL_galleries_121 : decode cL_galleries 121 = .ok (.istore 8, 2) := by decide +kernel
theorem dL_galleries_123 : decode cL_galleries 123 = .ok (.iload 7, 2) := by decide +kernel
theorem dL_galleries_125 : decode cL_galleries 125 = .ok (.ifCond .lt 47, 3) := by decide +kernel
theorem dL_galleries_128 : decode cL_galleries 128 = .ok (.iload 5, 2) := by decide +kernel
theorem dL_galleries_130 : decode cL_galleries 130 = .ok (.iload 8, 2) := by decide +kernel
theorem dL_galleries_132 : decode cL_galleries 132 = .ok (.ixor, 1) := by decide +kernel
theorem dL_galleries_133 : decode cL_galleries 133 = .ok (.invokestatic 43, 3) := by decide +kernel
theorem dL_galleries_136 : decode cL_galleries 136 = .ok (.iload 6, 2) := by decide +kernel
theorem dL_galleries_138 : decode cL_galleries 138 = .ok (.ifCond .ne 7, 3) := by decide +kernel
theorem dL_galleries_141 : decode cL_galleries 141 = .ok (.iconst 0, 1) := by decide +kernel
theorem dL_galleries_142 : decode cL_galleries 142 = .ok (.goto 4, 3) := by decide +kernel
theorem dL_galleries_145 : decode cL_galleries 145 = .ok (.iconst 1, 1) := by decide +kernel
theorem dL_galleries_146 : decode cL_galleries 146 = .ok (.if_icmp .ne 26, 3) := by decide +kernel
theorem dL_galleries_149 : decode cL_galleries 149 = .ok (.iload 8, 2) := by decide +kernel
theorem dL_galleries_151 : decode cL_galleries 151 = .ok (.aload_n 0, 1) := by decide +kernel
theorem dL_galleries_152 : decode cL_galleries 152 = .ok (.iload_n 2, 1) := by decide +kernel
theorem dL_galleries_153 : decode cL_galleries 153 = .ok (.iconst 0, 1) := by decide +kernel
theorem dL_galleries_154 : decode cL_galleries 154 = .ok (.invokevirtual 48, 3) := by decide +kernel
theorem dL_galleries_157 : decode cL_galleries 157 = .ok (.ixor, 1) := by decide +kernel
theorem dL_galleries_158 : decode cL_galleries 158 = .ok (.invokestatic 43, 3) := by decide +kernel
theorem dL_galleries_161 : decode cL_galleries 161 = .ok (.iload_n 3, 1) := by decide +kernel
theorem dL_galleries_162 : decode cL_galleries 162 = .ok (.iload 6, 2) := by decide +kernel
theorem dL_galleries_164 : decode cL_galleries 164 = .ok (.isub, 1) := by decide +kernel
theorem dL_galleries_165 : decode cL_galleries 165 = .ok (.if_icmp .ne 7, 3) := by decide +kernel
theorem dL_galleries_168 : decode cL_galleries 168 = .ok (.iconst 1, 1) := by decide +kernel
theorem dL_galleries_169 : decode cL_galleries 169 = .ok (.goto 4, 3) := by decide +kernel
theorem dL_galleries_172 : decode cL_galleries 172 = .ok (.iconst 0, 1) := by decide +kernel
theorem dL_galleries_173 : decode cL_galleries 173 = .ok (.istore 4, 2) := by decide +kernel
theorem dL_galleries_175 : decode cL_galleries 175 = .ok (.iload 8, 2) := by decide +kernel
theorem dL_galleries_177 : decode cL_galleries 177 = .ok (.istore 5, 2) := by decide +kernel
theorem dL_galleries_179 : decode cL_galleries 179 = .ok (.iinc 6 1, 3) := by decide +kernel
theorem dL_galleries_182 : decode cL_galleries 182 = .ok (.goto (-98), 3) := by decide +kernel
theorem dL_galleries_185 : decode cL_galleries 185 = .ok (.iload 4, 2) := by decide +kernel
theorem dL_galleries_187 : decode cL_galleries 187 = .ok (.ireturn, 1) := by decide +kernel
set_option maxRecDepth 20000 in
theorem ggL_meets_X4_meet : GoodIn wsL_meets wsX4_meet := goodIn_ca (goodIn_ca (goodIn_r _ [5, 6, 7, 8, 9, 10, 11, 4, 12, 13, 14, 15, 16, 17, 18, 19, 20, 21, 22, 23, 24, 25, 26, 27, 28, 29, 30, 31, 32, 33, 34, 35, 36, 37, 38, 39, 40, 152, 153, 154, 155, 156, 157, 158, 159, 160, 161] (by decide +kernel) (by decide +kernel)) (goodIn_sub (fun _ h => List.mem_cons_of_mem _ (List.mem_append_left _ (List.mem_append_right _ h))) (by decide +kernel))) (goodIn_sub (fun _ h => List.mem_cons_of_mem _ (List.mem_append_right _ h)) (by decide +kernel))
set_option maxRecDepth 20000 in
theorem gL_meets_X4_meet : GoodIn wsL_meets (wsV RL 64 RX4 yX4_meet wsX4_meet) := goodIn_app (goodIn_of _ (by decide +kernel)) ggL_meets_X4_meet
set_option maxRecDepth 20000 in
theorem ggL_meets_X4_project : GoodIn wsL_meets wsX4_project := goodIn_ca (goodIn_r _ [44, 45, 8, 46, 47, 48, 4, 49, 13, 14, 50, 51, 52, 53, 54, 55, 9, 10, 11, 12, 15, 16, 17, 18, 19, 20, 56, 57, 58, 59, 60, 61, 62, 63, 64, 40, 65, 66, 67, 68, 69, 70, 152, 153, 154, 155, 162, 163, 164, 165, 156, 157, 158, 159, 160, 161] (by decide +kernel) (by decide +kernel)) (goodIn_sub (fun _ h => List.mem_cons_of_mem _ (List.mem_append_right _ h)) (by decide +kernel))
set_option maxRecDepth 20000 in
theorem gL_meets_X4_project : GoodIn wsL_meets (wsV RL 67 RX4 yX4_project wsX4_project) := goodIn_app (goodIn_of _ (by decide +kernel)) ggL_meets_X4_project
set_option maxRecDepth 20000 in
theorem ggL_meets_L_size : GoodIn wsL_meets wsL_size := goodIn_r _ [74] (by decide +kernel) (by decide +kernel)
set_option maxRecDepth 20000 in
theorem gL_meets_L_size : GoodIn wsL_meets (va_wsS RL 43 yL_size wsL_size) := goodIn_app (goodIn_of _ (by decide +kernel)) ggL_meets_L_size
set_option maxRecDepth 20000 in
theorem ggL_meets_X4_room : GoodIn wsL_meets wsX4_room := goodIn_ca (goodIn_ca (goodIn_r _ [78, 6, 7, 45, 79, 8, 46, 47, 48, 4, 49, 13, 14, 50, 51, 52, 53, 54, 55, 56, 57, 58, 59, 60, 80, 81, 82, 83, 84, 85, 86, 87, 88, 89, 90, 91, 92, 93, 94, 95, 96, 97, 98, 99, 100, 101, 102, 103, 104, 105, 106, 107, 108, 109, 110, 111, 112, 70, 113, 114, 115, 18, 116, 20, 117, 118, 119, 120, 121, 62, 63, 64, 40, 65, 152, 153, 154, 155, 162, 163, 164, 165, 166, 167, 168, 169, 156, 157, 158, 159, 160, 161] (by decide +kernel) (by decide +kernel)) (goodIn_sub (fun _ h => List.mem_cons_of_mem _ (List.mem_append_left _ (List.mem_append_right _ h))) (by decide +kernel))) (goodIn_sub (fun _ h => List.mem_cons_of_mem _ (List.mem_append_right _ h)) (by decide +kernel))
set_option maxRecDepth 20000 in
theorem gL_meets_X4_room : GoodIn wsL_meets (wsV RL 48 RX4 yX4_room wsX4_room) := goodIn_app (goodIn_of _ (by decide +kernel)) ggL_meets_X4_room
set_option maxRecDepth 20000 in
theorem ggL_meets_X4_corner : GoodIn wsL_meets wsX4_corner := goodIn_ca (goodIn_r _ [125, 8, 45, 46, 47, 48, 4, 49, 13, 14, 50, 51, 52, 53, 54, 55, 126, 127, 128, 56, 57, 58, 59, 60, 129, 130, 131, 18, 132, 20, 117, 118, 119, 120, 121, 62, 63, 64, 40, 65, 152, 153, 154, 155, 162, 163, 164, 165, 156, 157, 158, 159, 160, 161] (by decide +kernel) (by decide +kernel)) (goodIn_sub (fun _ h => List.mem_cons_of_mem _ (List.mem_append_right _ h)) (by decide +kernel))
set_option maxRecDepth 20000 in
theorem gL_meets_X4_corner : GoodIn wsL_meets (wsV RL 55 RX4 yX4_corner wsX4_corner) := goodIn_app (goodIn_of _ (by decide +kernel)) ggL_meets_X4_corner
set_option maxRecDepth 20000 in
theorem ggL_meets_X4_best : GoodIn wsL_meets wsX4_best := goodIn_ca (goodIn_ca (goodIn_r _ [136, 6, 7, 45, 79, 8, 46, 47, 48, 4, 49, 13, 14, 50, 51, 52, 53, 54, 55, 137, 138, 139, 140, 141, 142, 143, 60, 84, 85, 86, 87, 88, 89, 90, 91, 92, 93, 94, 95, 96, 97, 98, 99, 100, 101, 102, 103, 104, 105, 106, 107, 108, 56, 57, 58, 59, 144, 145, 146, 18, 147, 20, 117, 118, 119, 120, 121, 62, 63, 64, 40, 65, 148, 149, 150, 151, 25, 30, 35, 152, 153, 154, 155, 162, 163, 164, 165, 166, 167, 168, 169, 156, 157, 158, 159, 160, 161] (by decide +kernel) (by decide +kernel)) (goodIn_sub (fun _ h => List.mem_cons_of_mem _ (List.mem_append_left _ (List.mem_append_right _ h))) (by decide +kernel))) (goodIn_sub (fun _ h => List.mem_cons_of_mem _ (List.mem_append_right _ h)) (by decide +kernel))
set_option maxRecDepth 20000 in
theorem gL_meets_X4_best : GoodIn wsL_meets (wsV RL 70 RX4 yX4_best wsX4_best) := goodIn_app (goodIn_of _ (by decide +kernel)) ggL_meets_X4_best
theorem dL_meets_0 : decode cL_meets 0 = .ok (.aload_n 0, 1) := by decide +kernel
theorem dL_meets_1 : decode cL_meets 1 = .ok (.iload_n 2, 1) := by decide +kernel
theorem dL_meets_2 : decode cL_meets 2 = .ok (.iconst 3, 1) := by decide +kernel
theorem dL_meets_3 : decode cL_meets 3 = .ok (.invokevirtual 64, 3) := by decide +kernel
theorem dL_meets_6 : decode cL_meets 6 = .ok (.istore 5, 2) := by decide +kernel
theorem dL_meets_8 : decode cL_meets 8 = .ok (.aload_n 0, 1) := by decide +kernel
theorem dL_meets_9 : decode cL_meets 9 = .ok (.iload_n 1, 1) := by decide +kernel
theorem dL_meets_10 : decode cL_meets 10 = .ok (.iload_n 2, 1) := by decide +kernel
theorem dL_meets_11 : decode cL_meets 11 = .ok (.invokevirtual 67, 3) := by decide +kernel
theorem dL_meets_14 : decode cL_meets 14 = .ok (.istore 6, 2) := by decide +kernel
theorem dL_meets_16 : decode cL_meets 16 = .ok (.aload_n 0, 1) := by decide +kernel
theorem dL_meets_17 : decode cL_meets 17 = .ok (.iload_n 2, 1) := by decide +kernel
theorem dL_meets_18 : decode cL_meets 18 = .ok (.iconst 2, 1) := by decide +kernel
theorem dL_meets_19 : decode cL_meets 19 = .ok (.invokevirtual 64, 3) := by decide +kernel
theorem dL_meets_22 : decode cL_meets 22 = .ok (.ifCond .le 36, 3) := by decide +kernel
theorem dL_meets_25 : decode cL_meets 25 = .ok (.iload 5, 2) := by decide +kernel
theorem dL_meets_27 : decode cL_meets 27 = .ok (.invokestatic 43, 3) := by decide +kernel
theorem dL_meets_30 : decode cL_meets 30 = .ok (.iconst 1, 1) := by decide +kernel
theorem dL_meets_31 : decode cL_meets 31 = .ok (.if_icmp .le 27, 3) := by decide +kernel
theorem dL_meets_34 : decode cL_meets 34 = .ok (.aload_n 0, 1) := by decide +kernel
theorem dL_meets_35 : decode cL_meets 35 = .ok (.iload 6, 2) := by decide +kernel
theorem dL_meets_37 : decode cL_meets 37 = .ok (.iconst 0, 1) := by decide +kernel
theorem dL_meets_38 : decode cL_meets 38 = .ok (.invokevirtual 48, 3) := by decide +kernel
theorem dL_meets_41 : decode cL_meets 41 = .ok (.aload_n 0, 1) := by decide +kernel
theorem dL_meets_42 : decode cL_meets 42 = .ok (.iload_n 1, 1) := by decide +kernel
theorem dL_meets_43 : decode cL_meets 43 = .ok (.iconst 0, 1) := by decide +kernel
theorem dL_meets_44 : decode cL_meets 44 = .ok (.invokevirtual 48, 3) := by decide +kernel
theorem dL_meets_47 : decode cL_meets 47 = .ok (.ixor, 1) := by decide +kernel
theorem dL_meets_48 : decode cL_meets 48 = .ok (.iload 5, 2) := by decide +kernel
theorem dL_meets_50 : decode cL_meets 50 = .ok (.iand, 1) := by decide +kernel
theorem dL_meets_51 : decode cL_meets 51 = .ok (.ifCond .ne 7, 3) := by decide +kernel
theorem dL_meets_54 : decode cL_meets 54 = .ok (.iconst 1, 1) := by decide +kernel
theorem dL_meets_55 : decode cL_meets 55 = .ok (.goto 4, 3) := by decide +kernel
theorem dL_meets_58 : decode cL_meets 58 = .ok (.iconst 0, 1) := by decide +kernel
theorem dL_meets_59 : decode cL_meets 59 = .ok (.istore 7, 2) := by decide +kernel
theorem dL_meets_61 : decode cL_meets 61 = .ok (.aload_n 0, 1) := by decide +kernel
theorem dL_meets_62 : decode cL_meets 62 = .ok (.iload 6, 2) := by decide +kernel
theorem dL_meets_64 : decode cL_meets 64 = .ok (.iconst 3, 1) := by decide +kernel
theorem dL_meets_65 : decode cL_meets 65 = .ok (.invokevirtual 48, 3) := by decide +kernel
theorem dL_meets_68 : decode cL_meets 68 = .ok (.istore 8, 2) := by decide +kernel
theorem dL_meets_70 : decode cL_meets 70 = .ok (.iconst 0, 1) := by decide +kernel
theorem dL_meets_71 : decode cL_meets 71 = .ok (.istore 9, 2) := by decide +kernel
theorem dL_meets_73 : decode cL_meets 73 = .ok (.iconst 0, 1) := by decide +kernel
theorem dL_meets_74 : decode cL_meets 74 = .ok (.istore 10, 2) := by decide +kernel
theorem dL_meets_76 : decode cL_meets 76 = .ok (.iload 10, 2) := by decide +kernel
theorem dL_meets_78 : decode cL_meets 78 = .ok (.iload 8, 2) := by decide +kernel
