set_option maxRecDepth 20000 in
theorem ggL_line_X4_line : GoodIn wsL_line wsX4_line := goodIn_ca (goodIn_ca (goodIn_r _ [7, 8, 9, 10, 11, 12, 13, 14, 6, 15, 16, 17, 18, 19, 20, 21, 22, 23, 24, 25, 26, 27, 28, 29, 30, 31, 32, 33, 34, 35, 36, 37, 38, 39, 40, 41, 42, 43, 44, 45, 46, 47, 48, 49, 50, 51, 52, 53, 54, 55, 56, 57, 58, 59, 60, 61, 62, 63, 64, 65, 66, 67, 68, 69, 70, 71, 72, 73, 74, 75, 76, 77, 78, 79, 80, 81, 82, 83, 84, 85, 86, 87, 88, 89, 90, 91, 92, 93, 94, 95, 96, 97, 98, 99, 100, 101, 102, 103, 104, 105, 106, 107, 108, 109, 110, 111, 112, 113, 114, 115, 116, 117, 118, 119, 120, 121, 122, 123, 124, 125, 126, 127, 128, 129, 130, 131, 132, 133, 134, 135, 136, 137, 138, 139, 140, 141, 142, 143, 144, 145, 146, 147, 148, 149, 150, 151, 152, 153, 154, 155, 156, 157, 158, 159, 160, 161, 162, 163, 164, 165, 166, 167, 168, 169, 170, 171, 172, 173, 174, 175, 176, 177, 178, 179, 180, 181, 182, 183] (by decide +kernel) (by decide +kernel)) (goodIn_sub (fun _ h => List.mem_cons_of_mem _ (List.mem_append_left _ (List.mem_append_right _ h))) (by decide +kernel))) (goodIn_sub (fun _ h => List.mem_cons_of_mem _ (List.mem_append_right _ h)) (by decide +kernel))
set_option maxRecDepth 20000 in
theorem gL_line_X4_line : GoodIn wsL_line (wsV RL 7 RX4 yX4_line wsX4_line) := goodIn_app (goodIn_of _ (by decide +kernel)) ggL_line_X4_line
theorem dL_line_0 : decode cL_line 0 = .ok (.aload 4, 2) := by decide +kernel
theorem dL_line_2 : decode cL_line 2 = .ok (.iconst 0, 1) := by decide +kernel
theorem dL_line_3 : decode cL_line 3 = .ok (.aload_n 0, 1) := by decide +kernel
theorem dL_line_4 : decode cL_line 4 = .ok (.iload_n 1, 1) := by decide +kernel
theorem dL_line_5 : decode cL_line 5 = .ok (.iload_n 2, 1) := by decide +kernel
theorem dL_line_6 : decode cL_line 6 = .ok (.iload_n 3, 1) := by decide +kernel
theorem dL_line_7 : decode cL_line 7 = .ok (.invokevirtual 7, 3) := by decide +kernel
theorem dL_line_10 : decode cL_line 10 = .ok (.i2l, 1) := by decide +kernel
theorem dL_line_11 : decode cL_line 11 = .ok (.lastore, 1) := by decide +kernel
theorem dL_line_12 : decode cL_line 12 = .ok (.goto 11, 3) := by decide +kernel
theorem dL_line_15 : decode cL_line 15 = .ok (.astore 5, 2) := by decide +kernel
theorem dL_line_17 : decode cL_line 17 = .ok (.iconst 1, 1) := by decide +kernel
theorem dL_line_18 : decode cL_line 18 = .ok (.ireturn, 1) := by decide +kernel
theorem dL_line_19 : decode cL_line 19 = .ok (.astore 5, 2) := by decide +kernel
theorem dL_line_21 : decode cL_line 21 = .ok (.iconst 2, 1) := by decide +kernel
theorem dL_line_22 : decode cL_line 22 = .ok (.ireturn, 1) := by decide +kernel
theorem dL_line_23 : decode cL_line 23 = .ok (.iconst 0, 1) := by decide +kernel
theorem dL_line_24 : decode cL_line 24 = .ok (.ireturn, 1) := by decide +kernel
set_option maxRecDepth 20000 in
theorem ggL_takeAway_X4_takeAway : GoodIn wsL_takeAway wsX4_takeAway := goodIn_ca (goodIn_r _ [6, 7, 8, 9, 10, 5, 11, 12, 13, 14, 15, 16, 17, 18, 19, 20, 21, 22, 23, 24, 25, 26, 27, 28, 29, 30, 31, 32, 33, 34, 35, 36, 37, 38, 39, 40, 41, 42, 43, 44, 45, 46, 47, 48, 49, 50, 51, 52, 53, 54, 55, 56, 57, 58, 59, 60, 61, 62, 63, 64, 65, 66, 67, 68, 69, 70, 71, 72, 73, 74, 75, 76, 77, 78, 79, 80, 81, 82, 83, 84, 85, 86, 87, 88, 89, 90, 91, 92, 93, 94, 95, 96, 97, 98, 99, 100, 101, 102, 103, 104, 105, 106, 107, 108, 109, 110, 111, 112, 113, 114, 115, 116, 117, 118, 119, 120, 121, 122, 123, 124, 125, 126, 127, 128, 129, 130, 131, 132, 133, 134, 135, 136, 137, 138, 139, 140, 141, 142, 143, 144, 145, 146, 147, 148, 149, 150, 151, 152, 153, 154, 155, 156, 157, 158, 159, 160, 161, 162, 163, 164, 165, 166, 167, 168, 169, 170, 171, 172] (by decide +kernel) (by decide +kernel)) (goodIn_sub (fun _ h => List.mem_cons_of_mem _ (List.mem_append_right _ h)) (by decide +kernel))
set_option maxRecDepth 20000 in
theorem gL_takeAway_X4_takeAway : GoodIn wsL_takeAway (wsV RL 17 RX4 yX4_takeAway wsX4_takeAway) := goodIn_app (goodIn_of _ (by decide +kernel)) ggL_takeAway_X4_takeAway
theorem dL_takeAway_0 : decode cL_takeAway 0 = .ok (.aload_n 2, 1) := by decide +kernel
theorem dL_takeAway_1 : decode cL_takeAway 1 = .ok (.iconst 0, 1) := by decide +kernel
theorem dL_takeAway_2 : decode cL_takeAway 2 = .ok (.aload_n 0, 1) := by decide +kernel
theorem dL_takeAway_3 : decode cL_takeAway 3 = .ok (.iload_n 1, 1) := by decide +kernel
theorem dL_takeAway_4 : decode cL_takeAway 4 = .ok (.invokevirtual 17, 3) := by decide +kernel
theorem dL_takeAway_7 : decode cL_takeAway 7 = .ok (.i2l, 1) := by decide +kernel
theorem dL_takeAway_8 : decode cL_takeAway 8 = .ok (.lastore, 1) := by decide +kernel
theorem dL_takeAway_9 : decode cL_takeAway 9 = .ok (.goto 6, 3) := by decide +kernel
theorem dL_takeAway_12 : decode cL_takeAway 12 = .ok (.astore_n 3, 1) := by decide +kernel
theorem dL_takeAway_13 : decode cL_takeAway 13 = .ok (.iconst 1, 1) := by decide +kernel
theorem dL_takeAway_14 : decode cL_takeAway 14 = .ok (.ireturn, 1) := by decide +kernel
theorem dL_takeAway_15 : decode cL_takeAway 15 = .ok (.iconst 0, 1) := by decide +kernel
theorem dL_takeAway_16 : decode cL_takeAway 16 = .ok (.ireturn, 1) := by decide +kernel
set_option maxRecDepth 20000 in
theorem ggL_meet_X4_meet : GoodIn wsL_meet wsX4_meet := goodIn_ca (goodIn_ca (goodIn_r _ [7, 8, 9, 10, 11, 12, 13, 6, 14, 15, 16, 17, 18, 19, 20, 21, 22, 23, 24, 25, 26, 27, 28, 29, 30, 31, 32, 33, 34, 35, 36, 37, 38, 39, 40, 41, 42, 43, 44, 45, 46, 47, 48, 49, 50, 51, 52] (by decide +kernel) (by decide +kernel)) (goodIn_sub (fun _ h => List.mem_cons_of_mem _ (List.mem_append_left _ (List.mem_append_right _ h))) (by decide +kernel))) (goodIn_sub (fun _ h => List.mem_cons_of_mem _ (List.mem_append_right _ h)) (by decide +kernel))
set_option maxRecDepth 20000 in
theorem gL_meet_X4_meet : GoodIn wsL_meet (wsV RL 23 RX4 yX4_meet wsX4_meet) := goodIn_app (goodIn_of _ (by decide +kernel)) ggL_meet_X4_meet
theorem dL_meet_0 : decode cL_meet 0 = .ok (.aload_n 3, 1) := by decide +kernel
theorem dL_meet_1 : decode cL_meet 1 = .ok (.iconst 0, 1) := by decide +kernel
theorem dL_meet_2 : decode cL_meet 2 = .ok (.aload_n 0, 1) := by decide +kernel
theorem dL_meet_3 : decode cL_meet 3 = .ok (.iload_n 1, 1) := by decide +kernel
theorem dL_meet_4 : decode cL_meet 4 = .ok (.iload_n 2, 1) := by decide +kernel
theorem dL_meet_5 : decode cL_meet 5 = .ok (.invokevirtual 23, 3) := by decide +kernel
theorem dL_meet_8 : decode cL_meet 8 = .ok (.i2l, 1) := by decide +kernel
theorem dL_meet_9 : decode cL_meet 9 = .ok (.lastore, 1) := by decide +kernel
theorem dL_meet_10 : decode cL_meet 10 = .ok (.goto 11, 3) := by decide +kernel
theorem dL_meet_13 : decode cL_meet 13 = .ok (.astore 4, 2) := by decide +kernel
theorem dL_meet_15 : decode cL_meet 15 = .ok (.iconst 1, 1) := by decide +kernel
theorem dL_meet_16 : decode cL_meet 16 = .ok (.ireturn, 1) := by decide +kernel
theorem dL_meet_17 : decode cL_meet 17 = .ok (.astore 4, 2) := by decide +kernel
theorem dL_meet_19 : decode cL_meet 19 = .ok (.iconst 2, 1) := by decide +kernel
theorem dL_meet_20 : decode cL_meet 20 = .ok (.ireturn, 1) := by decide +kernel
theorem dL_meet_21 : decode cL_meet 21 = .ok (.iconst 0, 1) := by decide +kernel
theorem dL_meet_22 : decode cL_meet 22 = .ok (.ireturn, 1) := by decide +kernel
set_option maxRecDepth 20000 in
theorem ggL_polynomial_X4_polynomial : GoodIn wsL_polynomial wsX4_polynomial := goodIn_ca (goodIn_r _ [6, 7, 8, 9, 5, 10, 11, 12, 13, 14, 15, 16, 17, 18, 19, 20, 21, 22, 23, 24, 25, 26, 27, 28, 29, 30, 31, 32, 33, 34, 35, 36, 37, 38, 39, 40, 41, 42, 43, 44, 45, 46, 47, 48, 49, 50, 51] (by decide +kernel) (by decide +kernel)) (goodIn_sub (fun _ h => List.mem_cons_of_mem _ (List.mem_append_right _ h)) (by decide +kernel))
set_option maxRecDepth 20000 in
theorem gL_polynomial_X4_polynomial : GoodIn wsL_polynomial (wsV RL 27 RX4 yX4_polynomial wsX4_polynomial) := goodIn_app (goodIn_of _ (by decide +kernel)) ggL_polynomial_X4_polynomial
theorem dL_polynomial_0 : decode cL_polynomial 0 = .ok (.aload_n 2, 1) := by decide +kernel
theorem dL_polynomial_1 : decode cL_polynomial 1 = .ok (.iconst 0, 1) := by decide +kernel
theorem dL_polynomial_2 : decode cL_polynomial 2 = .ok (.aload_n 0, 1) := by decide +kernel
theorem dL_polynomial_3 : decode cL_polynomial 3 = .ok (.iload_n 1, 1) := by decide +kernel
theorem dL_polynomial_4 : decode cL_polynomial 4 = .ok (.invokevirtual 27, 3) := by decide +kernel
theorem dL_polynomial_7 : decode cL_polynomial 7 = .ok (.i2l, 1) := by decide +kernel
theorem dL_polynomial_8 : decode cL_polynomial 8 = .ok (.lastore, 1) := by decide +kernel
theorem dL_polynomial_9 : decode cL_polynomial 9 = .ok (.goto 6, 3) := by decide +kernel
theorem dL_polynomial_12 : decode cL_polynomial 12 = .ok (.astore_n 3, 1) := by decide +kernel
theorem dL_polynomial_13 : decode cL_polynomial 13 = .ok (.iconst 1, 1) := by decide +kernel
theorem dL_polynomial_14 : decode cL_polynomial 14 = .ok (.ireturn, 1) := by decide +kernel
theorem dL_polynomial_15 : decode cL_polynomial 15 = .ok (.iconst 0, 1) := by decide +kernel
theorem dL_polynomial_16 : decode cL_polynomial 16 = .ok (.ireturn, 1) := by decide +kernel
set_option maxRecDepth 20000 in
theorem ggL_polynomialAnew_X4_polynomialAnew : GoodIn wsL_polynomialAnew wsX4_polynomialAnew := goodIn_ca (goodIn_r _ [6, 7, 8, 9, 5, 10, 11, 12, 13, 14, 15, 16, 17, 18, 19, 20, 21, 22, 23, 24, 25, 26, 27, 28, 29, 30, 31, 32, 33, 34, 35, 36, 37, 38, 39, 40, 41, 42, 43, 44, 45, 46, 47, 48, 49, 50, 51, 52, 53, 54, 55, 56, 57] (by decide +kernel) (by decide +kernel)) (goodIn_sub (fun _ h => List.mem_cons_of_mem _ (List.mem_append_right _ h)) (by decide +kernel))
set_option maxRecDepth 20000 in
theorem gL_polynomialAnew_X4_polynomialAnew : GoodIn wsL_polynomialAnew (wsV RL 30 RX4 yX4_polynomialAnew wsX4_polynomialAnew) := goodIn_app (goodIn_of _ (by decide +kernel)) ggL_polynomialAnew_X4_polynomialAnew
theorem dL_polynomialAnew_0 : decode cL_polynomialAnew 0 = .ok (.aload_n 2, 1) := by decide +kernel
theorem dL_polynomialAnew_1 : decode cL_polynomialAnew 1 = .ok (.iconst 0, 1) := by decide +kernel
theorem dL_polynomialAnew_2 : decode cL_polynomialAnew 2 = .ok (.aload_n 0, 1) := by decide +kernel
theorem dL_polynomialAnew_3 : decode cL_polynomialAnew 3 = .ok (.iload_n 1, 1) := by decide +kernel
theorem dL_polynomialAnew_4 : decode cL_polynomialAnew 4 = .ok (.invokevirtual 30, 3) := by decide +kernel
theorem dL_polynomialAnew_7 : decode cL_polynomialAnew 7 = .ok (.i2l, 1) := by decide +kernel
theorem dL_polynomialAnew_8 : decode cL_polynomialAnew 8 = .ok (.lastore, 1) := by decide +kernel
theorem dL_polynomialAnew_9 : decode cL_polynomialAnew 9 = .ok (.goto 6, 3) := by decide +kernel
theorem dL_polynomialAnew_12 : decode cL_polynomialAnew 12 = .ok (.astore_n 3, 1) := by decide +kernel
theorem dL_polynomialAnew_13 : decode cL_polynomialAnew 13 = .ok (.iconst 1, 1) := by decide +kernel
theorem dL_polynomialAnew_14 : decode cL_polynomialAnew 14 = .ok (.ireturn, 1) := by decide +kernel
theorem dL_polynomialAnew_15 : decode cL_polynomialAnew 15 = .ok (.iconst 0, 1) := by decide +kernel
theorem dL_polynomialAnew_16 : decode cL_polynomialAnew 16 = .ok (.ireturn, 1) := by decide +kernel
set_option maxRecDepth 20000 in
theorem ggL_points_X4_points : GoodIn wsL_points wsX4_points := goodIn_ca (goodIn_r _ [6, 7, 8, 9, 10, 11, 5, 12, 13, 14, 15, 16, 17, 18, 19, 20, 21, 22, 23, 24, 25, 26, 27, 28, 29, 30, 31, 32, 33, 34] (by decide +kernel) (by decide +kernel)) (goodIn_sub (fun _ h => List.mem_cons_of_mem _ (List.mem_append_right _ h)) (by decide +kernel))
set_option maxRecDepth 20000 in
theorem gL_points_X4_points : GoodIn wsL_points (wsV RL 33 RX4 yX4_points wsX4_points) := goodIn_app (goodIn_of _ (by decide +kernel)) ggL_points_X4_points
theorem dL_points_0 : decode cL_points 0 = .ok (.aload_n 2, 1) := by decide +kernel
theorem dL_points_1 : decode cL_points 1 = .ok (.iconst 0, 1) := by decide +kernel
theorem dL_points_2 : decode cL_points 2 = .ok (.aload_n 0, 1) := by decide +kernel
theorem dL_points_3 : decode cL_points 3 = .ok (.iload_n 1, 1) := by decide +kernel
theorem dL_points_4 : decode cL_points 4 = .ok (.invokevirtual 33, 3) := by decide +kernel
theorem dL_points_7 : decode cL_points 7 = .ok (.i2l, 1) := by decide +kernel
theorem dL_points_8 : decode cL_points 8 = .ok (.lastore, 1) := by decide +kernel
theorem dL_points_9 : decode cL_points 9 = .ok (.goto 6, 3) := by decide +kernel
theorem dL_points_12 : decode cL_points 12 = .ok (.astore_n 3, 1) := by decide +kernel
theorem dL_points_13 : decode cL_points 13 = .ok (.iconst 1, 1) := by decide +kernel
theorem dL_points_14 : decode cL_points 14 = .ok (.ireturn, 1) := by decide +kernel
theorem dL_points_15 : decode cL_points 15 = .ok (.iconst 0, 1) := by decide +kernel
theorem dL_points_16 : decode cL_points 16 = .ok (.ireturn, 1) := by decide +kernel
set_option maxRecDepth 20000 in
theorem ggL_room_X4_room : GoodIn wsL_room wsX4_room := goodIn_ca (goodIn_ca (goodIn_r _ [7, 8, 9, 10, 11, 12, 13, 14, 15, 6, 16, 17, 18, 19, 20, 21, 22, 23, 24, 25, 26, 27, 28, 29, 30, 31, 32, 33, 34, 35, 36, 37, 38, 39, 40, 41, 42, 43, 44, 45, 46, 47, 48, 49, 50, 51, 52, 53, 54, 55, 56, 57, 58, 59, 60, 61, 62, 63, 64, 65, 66, 67, 68, 69, 70, 71, 72, 73, 74, 75, 76, 77, 78, 79, 80, 81, 82, 83, 84, 85, 86, 87, 88, 89, 90, 91, 92, 93, 94, 95, 96, 97] (by decide +kernel) (by decide +kernel)) (goodIn_sub (fun _ h => List.mem_cons_of_mem _ (List.mem_append_left _ (List.mem_append_right _ h))) (by decide +kernel))) (goodIn_sub (fun _ h => List.mem_cons_of_mem _ (List.mem_append_right _ h)) (by decide +kernel))
set_option maxRecDepth 20000 in
theorem gL_room_X4_room : GoodIn wsL_room (wsV RL 36 RX4 yX4_room wsX4_room) := goodIn_app (goodIn_of _ (by decide +kernel)) ggL_room_X4_room
theorem dL_room_0 : decode cL_room 0 = .ok (.aload_n 3, 1) := by decide +kernel
theorem dL_room_1 : decode cL_room 1 = .ok (.iconst 0, 1) := by decide +kernel
theorem dL_room_2 : decode cL_room 2 = .ok (.aload_n 0, 1) := by decide +kernel
theorem dL_room_3 : decode cL_room 3 = .ok (.iload_n 1, 1) := by decide +kernel
theorem dL_room_4 : decode cL_room 4 = .ok (.iload_n 2, 1) := by decide +kernel
theorem dL_room_5 : decode cL_room 5 = .ok (.invokevirtual 36, 3) := by decide +kernel
theorem dL_room_8 : decode cL_room 8 = .ok (.i2l, 1) := by decide +kernel
theorem dL_room_9 : decode cL_room 9 = .ok (.lastore, 1) := by decide +kernel
theorem dL_room_10 : decode cL_room 10 = .ok (.goto 11, 3) := by decide +kernel
theorem dL_room_13 : decode cL_room 13 = .ok (.astore 4, 2) := by decide +kernel
theorem dL_room_15 : decode cL_room 15 = .ok (.iconst 1, 1) := by decide +kernel
theorem dL_room_16 : decode cL_room 16 = .ok (.ireturn, 1) := by decide +kernel
theorem dL_room_17 : decode cL_room 17 = .ok (.astore 4, 2) := by decide +kernel
theorem dL_room_19 : decode cL_room 19 = .ok (.iconst 2, 1) := by decide +kernel
theorem dL_room_20 : decode cL_room 20 = .ok (.ireturn, 1) := by decide +kernel
theorem dL_room_21 : decode cL_room 21 = .ok (.iconst 0, 1) := by decide +kernel
theorem dL_room_22 : decode cL_room 22 = .ok (.ireturn, 1) := by decide +kernel
set_option maxRecDepth 20000 in
theorem ggL_roomOf_X4_roomOf : GoodIn wsL_roomOf wsX4_roomOf := goodIn_ca (goodIn_r _ [6, 7, 8, 9, 10, 11, 12, 13, 14, 15, 16, 17, 18, 19, 20, 21, 22, 23] (by decide +kernel) (by decide +kernel)) (goodIn_sub (fun _ h => List.mem_cons_of_mem _ (List.mem_append_right _ h)) (by decide +kernel))
set_option maxRecDepth 20000 in
theorem gL_roomOf_X4_roomOf : GoodIn wsL_roomOf (wsV RL 39 RX4 yX4_roomOf wsX4_roomOf) := goodIn_app (goodIn_of _ (by decide +kernel)) ggL_roomOf_X4_roomOf
theorem dL_roomOf_0 : decode cL_roomOf 0 = .ok (.aload_n 2, 1) := by decide +kernel
theorem dL_roomOf_1 : decode cL_roomOf 1 = .ok (.iconst 0, 1) := by decide +kernel
theorem dL_roomOf_2 : decode cL_roomOf 2 = .ok (.aload_n 0, 1) := by decide +kernel
theorem dL_roomOf_3 : decode cL_roomOf 3 = .ok (.iload_n 1, 1) := by decide +kernel
theorem dL_roomOf_4 : decode cL_roomOf 4 = .ok (.invokevirtual 39, 3) := by decide +kernel
theorem dL_roomOf_7 : decode cL_roomOf 7 = .ok (.i2l, 1) := by decide +kernel
theorem dL_roomOf_8 : decode cL_roomOf 8 = .ok (.lastore, 1) := by decide +kernel
theorem dL_roomOf_9 : decode cL_roomOf 9 = .ok (.goto 6, 3) := by decide +kernel
theorem dL_roomOf_12 : decode cL_roomOf 12 = .ok (.astore_n 3, 1) := by decide +kernel
theorem dL_roomOf_13 : decode cL_roomOf 13 = .ok (.iconst 1, 1) := by decide +kernel
theorem dL_roomOf_14 : decode cL_roomOf 14 = .ok (.ireturn, 1) := by decide +kernel
theorem dL_roomOf_15 : decode cL_roomOf 15 = .ok (.iconst 0, 1) := by decide +kernel
theorem dL_roomOf_16 : decode cL_roomOf 16 = .ok (.ireturn, 1) := by decide +kernel
set_option maxRecDepth 20000 in
theorem ggL_corner_X4_corner : GoodIn wsL_corner wsX4_corner := goodIn_ca (goodIn_r _ [6, 7, 8, 9, 10, 11, 5, 12, 13, 14, 15, 16, 17, 18, 19, 20, 21, 22, 23, 24, 25, 26, 27, 28, 29, 30, 31, 32, 33, 34, 35, 36, 37, 38, 39, 40, 41, 42, 43, 44, 45, 46, 47, 48, 49, 50, 51, 52, 53, 54, 55, 56, 57, 58] (by decide +kernel) (by decide +kernel)) (goodIn_sub (fun _ h => List.mem_cons_of_mem _ (List.mem_append_right _ h)) (by decide +kernel))
set_option maxRecDepth 20000 in
theorem gL_corner_X4_corner : GoodIn wsL_corner (wsV RL 42 RX4 yX4_corner wsX4_corner) := goodIn_app (goodIn_of _ (by decide +kernel)) ggL_corner_X4_corner
theorem dL_corner_0 : decode cL_corner 0 = .ok (.aload_n 3, 1) := by decide +kernel
theorem dL_corner_1 : decode cL_corner 1 = .ok (.iconst 0, 1) := by decide +kernel
theorem dL_corner_2 : decode cL_corner 2 = .ok (.aload_n 0, 1) := by decide +kernel
theorem dL_corner_3 : decode cL_corner 3 = .ok (.iload_n 1, 1) := by decide +kernel
theorem dL_corner_4 : decode cL_corner 4 = .ok (.iload_n 2, 1) := by decide +kernel
theorem dL_corner_5 : decode cL_corner 5 = .ok (.invokevirtual 42, 3) := by decide +kernel
theorem dL_corner_8 : decode cL_corner 8 = .ok (.i2l, 1) := by decide +kernel
theorem dL_corner_9 : decode cL_corner 9 = .ok (.lastore, 1) := by decide +kernel
theorem dL_corner_10 : decode cL_corner 10 = .ok (.goto 7, 3) := by decide +kernel
theorem dL_corner_13 : decode cL_corner 13 = .ok (.astore 4, 2) := by decide +kernel
theorem dL_corner_15 : decode cL_corner 15 = .ok (.iconst 1, 1) := by decide +kernel
theorem dL_corner_16 : decode cL_corner 16 = .ok (.ireturn, 1) := by decide +kernel
theorem dL_corner_17 : decode cL_corner 17 = .ok (.iconst 0, 1) := by decide +kernel
theorem dL_corner_18 : decode cL_corner 18 = .ok (.ireturn, 1) := by decide +kernel
set_option maxRecDepth 20000 in
theorem ggL_galleries_X4_galleries : GoodIn wsL_galleries wsX4_galleries := goodIn_ca (goodIn_r _ [6, 7, 8, 9, 10, 5, 11, 12, 13, 14, 15, 16, 17, 18, 19, 20, 21, 22, 23, 24, 25, 26, 27, 28, 29, 30, 31, 32, 33, 34, 35, 36, 37, 38, 39, 40, 41, 42, 43] (by decide +kernel) (by decide +kernel)) (goodIn_sub (fun _ h => List.mem_cons_of_mem _ (List.mem_append_right _ h)) (by decide +kernel))
set_option maxRecDepth 20000 in
theorem gL_galleries_X4_galleries : GoodIn wsL_galleries (wsV RL 45 RX4 yX4_galleries wsX4_galleries) := goodIn_app (goodIn_of _ (by decide +kernel)) ggL_galleries_X4_galleries
theorem dL_galleries_0 : decode cL_galleries 0 = .ok (.aload_n 3, 1) := by decide +kernel
theorem dL_galleries_1 : decode cL_galleries 1 = .ok (.iconst 0, 1) := by decide +kernel
theorem dL_galleries_2 : decode cL_galleries 2 = .ok (.aload_n 0, 1) := by decide +kernel
theorem dL_galleries_3 : decode cL_galleries 3 = .ok (.iload_n 1, 1) := by decide +kernel
theorem dL_galleries_4 : decode cL_galleries 4 = .ok (.iload_n 2, 1) := by decide +kernel
theorem dL_galleries_5 : decode cL_galleries 5 = .ok (.invokevirtual 45, 3) := by decide +kernel
theorem dL_galleries_8 : decode cL_galleries 8 = .ok (.i2l, 1) := by decide +kernel
theorem dL_galleries_9 : decode cL_galleries 9 = .ok (.lastore, 1) := by decide +kernel
theorem dL_galleries_10 : decode cL_galleries 10 = .ok (.goto 7, 3) := by decide +kernel
theorem dL_galleries_13 : decode cL_galleries 13 = .ok (.astore 4, 2) := by decide +kernel
theorem dL_galleries_15 : decode cL_galleries 15 = .ok (.iconst 1, 1) := by decide +kernel
theorem dL_galleries_16 : decode cL_galleries 16 = .ok (.ireturn, 1) := by decide +kernel
theorem dL_galleries_17 : decode cL_galleries 17 = .ok (.iconst 0, 1) := by decide +kernel
theorem dL_galleries_18 : decode cL_galleries 18 = .ok (.ireturn, 1) := by decide +kernel
set_option maxRecDepth 20000 in
theorem ggL_gallery_X4_gallery : GoodIn wsL_gallery wsX4_gallery := goodIn_ca (goodIn_r _ [6, 7, 8, 9, 10, 5, 11, 12, 13, 14, 15, 16, 17, 18, 19, 20, 21, 22, 23, 24, 25, 26, 27, 28, 29, 30, 31, 32, 33, 34, 35, 36, 37, 38, 39, 40, 41, 42, 43, 44, 45, 46, 47, 48, 49, 50, 51, 52] (by decide +kernel) (by decide +kernel)) (goodIn_sub (fun _ h => List.mem_cons_of_mem _ (List.mem_append_right _ h)) (by decide +kernel))
set_option maxRecDepth 20000 in
theorem gL_gallery_X4_gallery : GoodIn wsL_gallery (wsV RL 48 RX4 yX4_gallery wsX4_gallery) := goodIn_app (goodIn_of _ (by decide +kernel)) ggL_gallery_X4_gallery
theorem dL_gallery_0 : decode cL_gallery 0 = .ok (.aload 4, 2) := by decide +kernel
theorem dL_gallery_2 : decode cL_gallery 2 = .ok (.iconst 0, 1) := by decide +kernel
theorem dL_gallery_3 : decode cL_gallery 3 = .ok (.aload_n 0, 1) := by decide +kernel
theorem dL_gallery_4 : decode cL_gallery 4 = .ok (.iload_n 1, 1) := by decide +kernel
theorem dL_gallery_5 : decode cL_gallery 5 = .ok (.iload_n 2, 1) := by decide +kernel
theorem dL_gallery_6 : decode cL_gallery 6 = .ok (.iload_n 3, 1) := by decide +kernel
theorem dL_gallery_7 : decode cL_gallery 7 = .ok (.invokevirtual 48, 3) := by decide +kernel
theorem dL_gallery_10 : decode cL_gallery 10 = .ok (.i2l, 1) := by decide +kernel
theorem dL_gallery_11 : decode cL_gallery 11 = .ok (.lastore, 1) := by decide +kernel
theorem dL_gallery_12 : decode cL_gallery 12 = .ok (.goto 7, 3) := by decide +kernel
theorem dL_gallery_15 : decode cL_gallery 15 = .ok (.astore 5, 2) := by decide +kernel
theorem dL_gallery_17 : decode cL_gallery 17 = .ok (.iconst 1, 1) := by decide +kernel
theorem dL_gallery_18 : decode cL_gallery 18 = .ok (.ireturn, 1) := by decide +kernel
theorem dL_gallery_19 : decode cL_gallery 19 = .ok (.iconst 0, 1) := by decide +kernel
theorem dL_gallery_20 : decode cL_gallery 20 = .ok (.ireturn, 1) := by decide +kernel
set_option maxRecDepth 20000 in
theorem ggL_project_X4_project : GoodIn wsL_project wsX4_project := goodIn_ca (goodIn_r _ [6, 7, 8, 9, 10, 11, 5, 12, 13, 14, 15, 16, 17, 18, 19, 20, 21, 22, 23, 24, 25, 26, 27, 28, 29, 30, 31, 32, 33, 34, 35, 36, 37, 38, 39, 40, 41, 42, 43, 44, 45, 46, 47, 48, 49, 50, 51, 52, 53, 54, 55, 56, 57, 58, 59, 60] (by decide +kernel) (by decide +kernel)) (goodIn_sub (fun _ h => List.mem_cons_of_mem _ (List.mem_append_right _ h)) (by decide +kernel))
set_option maxRecDepth 20000 in
theorem gL_project_X4_project : GoodIn wsL_project (wsV RL 51 RX4 yX4_project wsX4_project) := goodIn_app (goodIn_of _ (by decide +kernel)) ggL_project_X4_project
theorem dL_project_0 : decode cL_project 0 = .ok (.aload_n 3, 1) := by decide +kernel
theorem dL_project_1 : decode cL_project 1 = .ok (.iconst 0, 1) := by decide +kernel
theorem dL_project_2 : decode cL_project 2 = .ok (.aload_n 0, 1) := by decide +kernel
theorem dL_project_3 : decode cL_project 3 = .ok (.iload_n 1, 1) := by decide +kernel
theorem dL_project_4 : decode cL_project 4 = .ok (.iload_n 2, 1) := by decide +kernel
theorem dL_project_5 : decode cL_project 5 = .ok (.invokevirtual 51, 3) := by decide +kernel
theorem dL_project_8 : decode cL_project 8 = .ok (.i2l, 1) := by decide +kernel
theorem dL_project_9 : decode cL_project 9 = .ok (.lastore, 1) := by decide +kernel
theorem dL_project_10 : decode cL_project 10 = .ok (.goto 7, 3) := by decide +kernel
theorem dL_project_13 : decode cL_project 13 = .ok (.astore 4, 2) := by decide +kernel
theorem dL_project_15 : decode cL_project 15 = .ok (.iconst 1, 1) := by decide +kernel
theorem dL_project_16 : decode cL_project 16 = .ok (.ireturn, 1) := by decide +kernel
theorem dL_project_17 : decode cL_project 17 = .ok (.iconst 0, 1) := by decide +kernel
theorem dL_project_18 : decode cL_project 18 = .ok (.ireturn, 1) := by decide +kernel
set_option maxRecDepth 20000 in
theorem ggL_best_X4_best : GoodIn wsL_best wsX4_best := goodIn_ca (goodIn_ca (goodIn_r _ [7, 8, 9, 10, 11, 12, 13, 14, 15, 6, 16, 17, 18, 19, 20, 21, 22, 23, 24, 25, 26, 27, 28, 29, 30, 31, 32, 33, 34, 35, 36, 37, 38, 39, 40, 41, 42, 43, 44, 45, 46, 47, 48, 49, 50, 51, 52, 53, 54, 55, 56, 57, 58, 59, 60, 61, 62, 63, 64, 65, 66, 67, 68, 69, 70, 71, 72, 73, 74, 75, 76, 77, 78, 79, 80, 81, 82, 83, 84, 85, 86, 87, 88, 89, 90, 91, 92, 93, 94, 95, 96, 97, 98, 99, 100, 101, 102] (by decide +kernel) (by decide +kernel)) (goodIn_sub (fun _ h => List.mem_cons_of_mem _ (List.mem_append_left _ (List.mem_append_right _ h))) (by decide +kernel))) (goodIn_sub (fun _ h => List.mem_cons_of_mem _ (List.mem_append_right _ h)) (by decide +kernel))
set_option maxRecDepth 20000 in
theorem gL_best_X4_best : GoodIn wsL_best (wsV RL 54 RX4 yX4_best wsX4_best) := goodIn_app (goodIn_of _ (by decide +kernel)) ggL_best_X4_best
theorem dL_best_0 : decode cL_best 0 = .ok (.aload 4, 2) := by decide +kernel
theorem dL_best_2 : decode cL_best 2 = .ok (.iconst 0, 1) := by decide +kernel
theorem dL_best_3 : decode cL_best 3 = .ok (.aload_n 0, 1) := by decide +kernel
theorem dL_best_4 : decode cL_best 4 = .ok (.iload_n 1, 1) := by decide +kernel
theorem dL_best_5 : decode cL_best 5 = .ok (.iload_n 2, 1) := by decide +kernel
theorem dL_best_6 : decode cL_best 6 = .ok (.iload_n 3, 1) := by decide +kernel
theorem dL_best_7 : decode cL_best 7 = .ok (.invokevirtual 54, 3) := by decide +kernel
theorem dL_best_10 : decode cL_best 10 = .ok (.i2l, 1) := by decide +kernel
theorem dL_best_11 : decode cL_best 11 = .ok (.lastore, 1) := by decide +kernel
theorem dL_best_12 : decode cL_best 12 = .ok (.goto 11, 3) := by decide +kernel
theorem dL_best_15 : decode cL_best 15 = .ok (.astore 5, 2) := by decide +kernel
theorem dL_best_17 : decode cL_best 17 = .ok (.iconst 1, 1) := by decide +kernel
theorem dL_best_18 : decode cL_best 18 = .ok (.ireturn, 1) := by decide +kernel
theorem dL_best_19 : decode cL_best 19 = .ok (.astore 5, 2) := by decide +kernel
theorem dL_best_21 : decode cL_best 21 = .ok (.iconst 2, 1) := by decide +kernel
theorem dL_best_22 : decode cL_best 22 = .ok (.ireturn, 1) := by decide +kernel
theorem dL_best_23 : decode cL_best 23 = .ok (.iconst 0, 1) := by decide +kernel
theorem dL_best_24 : decode cL_best 24 = .ok (.ireturn, 1) := by decide +kernel
set_option maxRecDepth 20000 in
theorem ggL_reflected_X4_reflected : GoodIn wsL_reflected wsX4_reflected := goodIn_ca (goodIn_r _ [6, 7, 8, 9, 10, 5, 11, 12, 13, 14, 15, 16, 17, 18, 19, 20, 21, 22, 23, 24, 25, 26, 27, 28, 29, 30, 31, 32, 33, 34, 35, 36, 37, 38] (by decide +kernel) (by decide +kernel)) (goodIn_sub (fun _ h => List.mem_cons_of_mem _ (List.mem_append_right _ h)) (by decide +kernel))
set_option maxRecDepth 20000 in
theorem gL_reflected_X4_reflected : GoodIn wsL_reflected (wsV RL 57 RX4 yX4_reflected wsX4_reflected) := goodIn_app (goodIn_of _ (by decide +kernel)) ggL_reflected_X4_reflected
theorem dL_reflected_0 : decode cL_reflected 0 = .ok (.aload_n 3, 1) := by decide +kernel
theorem dL_reflected_1 : decode cL_reflected 1 = .ok (.iconst 0, 1) := by decide +kernel
theorem dL_reflected_2 : decode cL_reflected 2 = .ok (.aload_n 0, 1) := by decide +kernel
theorem dL_reflected_3 : decode cL_reflected 3 = .ok (.iload_n 1, 1) := by decide +kernel
theorem dL_reflected_4 : decode cL_reflected 4 = .ok (.iload_n 2, 1) := by decide +kernel
theorem dL_reflected_5 : decode cL_reflected 5 = .ok (.invokevirtual 57, 3) := by decide +kernel
theorem dL_reflected_8 : decode cL_reflected 8 = .ok (.i2l, 1) := by decide +kernel
theorem dL_reflected_9 : decode cL_reflected 9 = .ok (.lastore, 1) := by decide +kernel
theorem dL_reflected_10 : decode cL_reflected 10 = .ok (.goto 7, 3) := by decide +kernel
theorem dL_reflected_13 : decode cL_reflected 13 = .ok (.astore 4, 2) := by decide +kernel
theorem dL_reflected_15 : decode cL_reflected 15 = .ok (.iconst 1, 1) := by decide +kernel
theorem dL_reflected_16 : decode cL_reflected 16 = .ok (.ireturn, 1) := by decide +kernel
theorem dL_reflected_17 : decode cL_reflected 17 = .ok (.iconst 0, 1) := by decide +kernel
theorem dL_reflected_18 : decode cL_reflected 18 = .ok (.ireturn, 1) := by decide +kernel
set_option maxRecDepth 20000 in
theorem ggL_pair_X4_pair : GoodIn wsL_pair wsX4_pair := goodIn_ca (goodIn_r _ [6, 7, 8, 9, 10, 5, 11, 12, 13, 14, 15, 16, 17, 18, 19, 20, 21, 22, 23, 24, 25, 26, 27, 28, 29, 30, 31, 32, 33, 34, 35, 36, 37, 38, 39, 40, 41, 42, 43, 44, 45, 46, 47, 48, 49] (by decide +kernel) (by decide +kernel)) (goodIn_sub (fun _ h => List.mem_cons_of_mem _ (List.mem_append_right _ h)) (by decide +kernel))
set_option maxRecDepth 20000 in
theorem gL_pair_X4_pair : GoodIn wsL_pair (wsV RL 60 RX4 yX4_pair wsX4_pair) := goodIn_app (goodIn_of _ (by decide +kernel)) ggL_pair_X4_pair
theorem dL_pair_0 : decode cL_pair 0 = .ok (.aload_n 2, 1) := by decide +kernel
theorem dL_pair_1 : decode cL_pair 1 = .ok (.iconst 0, 1) := by decide +kernel
theorem dL_pair_2 : decode cL_pair 2 = .ok (.aload_n 0, 1) := by decide +kernel
theorem dL_pair_3 : decode cL_pair 3 = .ok (.iload_n 1, 1) := by decide +kernel
theorem dL_pair_4 : decode cL_pair 4 = .ok (.invokevirtual 60, 3) := by decide +kernel
theorem dL_pair_7 : decode cL_pair 7 = .ok (.i2l, 1) := by decide +kernel
theorem dL_pair_8 : decode cL_pair 8 = .ok (.lastore, 1) := by decide +kernel
theorem dL_pair_9 : decode cL_pair 9 = .ok (.goto 6, 3) := by decide +kernel
theorem dL_pair_12 : decode cL_pair 12 = .ok (.astore_n 3, 1) := by decide +kernel
theorem dL_pair_13 : decode cL_pair 13 = .ok (.iconst 1, 1) := by decide +kernel
theorem dL_pair_14 : decode cL_pair 14 = .ok (.ireturn, 1) := by decide +kernel
theorem dL_pair_15 : decode cL_pair 15 = .ok (.iconst 0, 1) := by decide +kernel
theorem dL_pair_16 : decode cL_pair 16 = .ok (.ireturn, 1) := by decide +kernel
set_option maxRecDepth 20000 in
theorem ggL_edge_X4_edge : GoodIn wsL_edge wsX4_edge := goodIn_ca (goodIn_ca (goodIn_r _ [7, 8, 9, 10, 11, 12, 13, 14, 6, 15, 16, 17, 18, 19, 20, 21, 22, 23, 24, 25, 26, 27, 28, 29, 30, 31, 32, 33, 34, 35, 36, 37, 38, 39, 40, 41, 42, 43] (by decide +kernel) (by decide +kernel)) (goodIn_sub (fun _ h => List.mem_cons_of_mem _ (List.mem_append_left _ (List.mem_append_right _ h))) (by decide +kernel))) (goodIn_sub (fun _ h => List.mem_cons_of_mem _ (List.mem_append_right _ h)) (by decide +kernel))
set_option maxRecDepth 20000 in
theorem gL_edge_X4_edge : GoodIn wsL_edge (wsV RL 63 RX4 yX4_edge wsX4_edge) := goodIn_app (goodIn_of _ (by decide +kernel)) ggL_edge_X4_edge
theorem dL_edge_0 : decode cL_edge 0 = .ok (.aload_n 3, 1) := by decide +kernel
theorem dL_edge_1 : decode cL_edge 1 = .ok (.iconst 0, 1) := by decide +kernel
theorem dL_edge_2 : decode cL_edge 2 = .ok (.aload_n 0, 1) := by decide +kernel
theorem dL_edge_3 : decode cL_edge 3 = .ok (.iload_n 1, 1) := by decide +kernel
theorem dL_edge_4 : decode cL_edge 4 = .ok (.iload_n 2, 1) := by decide +kernel
theorem dL_edge_5 : decode cL_edge 5 = .ok (.invokevirtual 63, 3) := by decide +kernel
theorem dL_edge_8 : decode cL_edge 8 = .ok (.i2l, 1) := by decide +kernel
theorem dL_edge_9 : decode cL_edge 9 = .ok (.lastore, 1) := by decide +kernel
theorem dL_edge_10 : decode cL_edge 10 = .ok (.goto 11, 3) := by decide +kernel
theorem dL_edge_13 : decode cL_edge 13 = .ok (.astore 4, 2) := by decide +kernel
theorem dL_edge_15 : decode cL_edge 15 = .ok (.iconst 1, 1) := by decide +kernel
theorem dL_edge_16 : decode cL_edge 16 = .ok (.ireturn, 1) := by decide +kernel
theorem dL_edge_17 : decode cL_edge 17 = .ok (.astore 4, 2) := by decide +kernel
theorem dL_edge_19 : decode cL_edge 19 = .ok (.iconst 2, 1) := by decide +kernel
theorem dL_edge_20 : decode cL_edge 20 = .ok (.ireturn, 1) := by decide +kernel
theorem dL_edge_21 : decode cL_edge 21 = .ok (.iconst 0, 1) := by decide +kernel
theorem dL_edge_22 : decode cL_edge 22 = .ok (.ireturn, 1) := by decide +kernel
set_option maxRecDepth 20000 in
theorem ggL_colourings_X4_colourings : GoodIn wsL_colourings wsX4_colourings := goodIn_ca (goodIn_r _ [6, 7, 8, 9, 5, 10, 11, 12, 13, 14, 15, 16, 17, 18, 19, 20, 21, 22, 23, 24, 25, 26, 27, 28, 29, 30, 31, 32] (by decide +kernel) (by decide +kernel)) (goodIn_sub (fun _ h => List.mem_cons_of_mem _ (List.mem_append_right _ h)) (by decide +kernel))
set_option maxRecDepth 20000 in
theorem gL_colourings_X4_colourings : GoodIn wsL_colourings (wsV RL 66 RX4 yX4_colourings wsX4_colourings) := goodIn_app (goodIn_of _ (by decide +kernel)) ggL_colourings_X4_colourings
theorem dL_colourings_0 : decode cL_colourings 0 = .ok (.aload_n 2, 1) := by decide +kernel
theorem dL_colourings_1 : decode cL_colourings 1 = .ok (.iconst 0, 1) := by decide +kernel
theorem dL_colourings_2 : decode cL_colourings 2 = .ok (.aload_n 0, 1) := by decide +kernel
theorem dL_colourings_3 : decode cL_colourings 3 = .ok (.iload_n 1, 1) := by decide +kernel
theorem dL_colourings_4 : decode cL_colourings 4 = .ok (.invokevirtual 66, 3) := by decide +kernel
theorem dL_colourings_7 : decode cL_colourings 7 = .ok (.i2l, 1) := by decide +kernel
theorem dL_colourings_8 : decode cL_colourings 8 = .ok (.lastore, 1) := by decide +kernel
theorem dL_colourings_9 : decode cL_colourings 9 = .ok (.goto 6, 3) := by decide +kernel
theorem dL_colourings_12 : decode cL_colourings 12 = .ok (.astore_n 3, 1) := by decide +kernel
theorem dL_colourings_13 : decode cL_colourings 13 = .ok (.iconst 1, 1) := by decide +kernel
theorem dL_colourings_14 : decode cL_colourings 14 = .ok (.ireturn, 1) := by decide +kernel
theorem dL_colourings_15 : decode cL_colourings 15 = .ok (.iconst 0, 1) := by decide +kernel
theorem dL_colourings_16 : decode cL_colourings 16 = .ok (.ireturn, 1) := by decide +kernel
set_option maxRecDepth 20000 in
theorem ggL_colouringsAnew_X4_colouringsAnew : GoodIn wsL_colouringsAnew wsX4_colouringsAnew := goodIn_ca (goodIn_r _ [6, 7, 8, 9, 5, 10, 11, 12, 13, 14, 15, 16, 17, 18, 19, 20, 21, 22, 23, 24, 25, 26, 27, 28, 29, 30, 31, 32, 33, 34, 35, 36, 37, 38, 39, 40, 41, 42, 43, 44, 45, 46, 47, 48, 49, 50, 51, 52, 53] (by decide +kernel) (by decide +kernel)) (goodIn_sub (fun _ h => List.mem_cons_of_mem _ (List.mem_append_right _ h)) (by decide +kernel))
set_option maxRecDepth 20000 in
theorem gL_colouringsAnew_X4_colouringsAnew : GoodIn wsL_colouringsAnew (wsV RL 69 RX4 yX4_colouringsAnew wsX4_colouringsAnew) := goodIn_app (goodIn_of _ (by decide +kernel)) ggL_colouringsAnew_X4_colouringsAnew
theorem dL_colouringsAnew_0 : decode cL_colouringsAnew 0 = .ok (.aload_n 2, 1) := by decide +kernel
theorem dL_colouringsAnew_1 : decode cL_colouringsAnew 1 = .ok (.iconst 0, 1) := by decide +kernel
theorem dL_colouringsAnew_2 : decode cL_colouringsAnew 2 = .ok (.aload_n 0, 1) := by decide +kernel
theorem dL_colouringsAnew_3 : decode cL_colouringsAnew 3 = .ok (.iload_n 1, 1) := by decide +kernel
theorem dL_colouringsAnew_4 : decode cL_colouringsAnew 4 = .ok (.invokevirtual 69, 3) := by decide +kernel
theorem dL_colouringsAnew_7 : decode cL_colouringsAnew 7 = .ok (.i2l, 1) := by decide +kernel
theorem dL_colouringsAnew_8 : decode cL_colouringsAnew 8 = .ok (.lastore, 1) := by decide +kernel
theorem dL_colouringsAnew_9 : decode cL_colouringsAnew 9 = .ok (.goto 6, 3) := by decide +kernel
theorem dL_colouringsAnew_12 : decode cL_colouringsAnew 12 = .ok (.astore_n 3, 1) := by decide +kernel
theorem dL_colouringsAnew_13 : decode cL_colouringsAnew 13 = .ok (.iconst 1, 1) := by decide +kernel
theorem dL_colouringsAnew_14 : decode cL_colouringsAnew 14 = .ok (.ireturn, 1) := by decide +kernel
theorem dL_colouringsAnew_15 : decode cL_colouringsAnew 15 = .ok (.iconst 0, 1) := by decide +kernel
theorem dL_colouringsAnew_16 : decode cL_colouringsAnew 16 = .ok (.ireturn, 1) := by decide +kernel
