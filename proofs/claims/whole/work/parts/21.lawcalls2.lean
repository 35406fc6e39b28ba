set_option maxRecDepth 20000 in
theorem ggL_law_X5_points : GoodIn wsL_law wsX5_points := goodIn_r _ [404, 231, 65, 66, 67, 232, 233, 5, 234, 405, 406, 407, 235, 236, 237, 238, 239, 802, 803, 804, 805, 806, 807, 808, 809, 810, 811, 812, 813, 814, 815, 816, 817, 818, 819, 820] (by decide +kernel) (by decide +kernel)
set_option maxRecDepth 20000 in
theorem gL_law_X5_points : GoodIn wsL_law (wsV RL 106 RX5 yX5_points wsX5_points) := goodIn_app (goodIn_of _ (by decide +kernel)) ggL_law_X5_points
set_option maxRecDepth 20000 in
theorem ggL_law_X4_rooms : GoodIn wsL_law wsX4_rooms := goodIn_r _ [411, 24, 412, 413, 414, 23, 415, 55, 798, 799, 800, 801, 831, 832, 833, 834] (by decide +kernel) (by decide +kernel)
set_option maxRecDepth 20000 in
theorem gL_law_X4_rooms : GoodIn wsL_law (wsV RL 107 RX4 yX4_rooms wsX4_rooms) := goodIn_app (goodIn_of _ (by decide +kernel)) ggL_law_X4_rooms
set_option maxRecDepth 20000 in
theorem ggL_law_X5_rooms : GoodIn wsL_law wsX5_rooms := goodIn_r _ [419, 239, 420, 421, 422, 5, 423, 72, 231, 287, 65, 66, 67, 288, 289, 290, 291, 292, 293, 294, 295, 296, 297, 298, 299, 300, 301, 68, 70, 69, 328, 329, 330, 331, 424, 425, 426, 427, 428, 429, 430, 431, 802, 803, 804, 805, 806, 807, 808, 809, 810, 811, 812, 813, 814, 815, 816, 817, 818, 819, 820] (by decide +kernel) (by decide +kernel)
set_option maxRecDepth 20000 in
theorem gL_law_X5_rooms : GoodIn wsL_law (wsV RL 110 RX5 yX5_rooms wsX5_rooms) := goodIn_app (goodIn_of _ (by decide +kernel)) ggL_law_X5_rooms
set_option maxRecDepth 20000 in
theorem ggL_law_X4_bounded : GoodIn wsL_law wsX4_bounded := goodIn_r _ [435, 24, 16, 412, 413, 414, 23, 415, 55, 436, 437, 438, 439, 52, 165, 117, 118, 15, 119, 37, 185, 186, 187, 188, 35, 189, 190, 191, 192, 34, 440, 441, 442, 443, 178, 2, 179, 180, 124, 125, 798, 799, 800, 801, 831, 832, 833, 834, 821, 822, 823, 824] (by decide +kernel) (by decide +kernel)
set_option maxRecDepth 20000 in
theorem gL_law_X4_bounded : GoodIn wsL_law (wsV RL 111 RX4 yX4_bounded wsX4_bounded) := goodIn_app (goodIn_of _ (by decide +kernel)) ggL_law_X4_bounded
set_option maxRecDepth 20000 in
theorem ggL_law_X5_bounded : GoodIn wsL_law wsX5_bounded := goodIn_r _ [447, 239, 72, 420, 421, 422, 5, 423, 231, 287, 65, 66, 67, 288, 289, 290, 291, 292, 293, 294, 295, 296, 297, 298, 299, 300, 301, 68, 70, 69, 328, 329, 330, 331, 424, 425, 426, 427, 448, 449, 450, 451, 452, 453, 454, 455, 802, 803, 804, 805, 806, 807, 808, 809, 810, 811, 812, 813, 814, 815, 816, 817, 818, 819, 820] (by decide +kernel) (by decide +kernel)
set_option maxRecDepth 20000 in
theorem gL_law_X5_bounded : GoodIn wsL_law (wsV RL 114 RX5 yX5_bounded wsX5_bounded) := goodIn_app (goodIn_of _ (by decide +kernel)) ggL_law_X5_bounded
set_option maxRecDepth 20000 in
theorem ggL_law_L_room : GoodIn wsL_law wsL_room := goodIn_ca (goodIn_ca (goodIn_r _ [458, 255, 82, 459, 460, 461, 2, 462, 88, 89, 24, 16, 20, 463, 464, 465, 466, 264, 265, 412, 413, 414, 23, 415, 55, 467, 468, 469, 470, 52, 436, 437, 438, 439, 165, 117, 118, 15, 119, 37, 185, 186, 187, 188, 35, 189, 190, 191, 192, 34, 440, 441, 442, 443, 178, 179, 180, 124, 125, 471, 472, 473, 474, 53, 475, 476, 477, 19, 478, 47, 479, 480, 481, 482, 483, 484, 485, 486, 45, 46, 798, 799, 800, 801, 831, 832, 833, 834, 821, 822, 823, 824, 825, 826, 827, 828, 829, 830] (by decide +kernel) (by decide +kernel)) (goodIn_sub (fun _ h => List.mem_append_left _ (List.mem_append_left _ (List.mem_append_right _ h))) (by decide +kernel))) (goodIn_sub (fun _ h => List.mem_append_right _ h) (by decide +kernel))
set_option maxRecDepth 20000 in
theorem gL_law_L_room : GoodIn wsL_law (va_wsS RL 115 yL_room wsL_room) := goodIn_app (goodIn_of _ (by decide +kernel)) ggL_law_L_room
set_option maxRecDepth 20000 in
theorem ggL_law_X5_room : GoodIn wsL_law wsX5_room := goodIn_r _ [490, 231, 72, 287, 491, 492, 493, 5, 494, 420, 421, 422, 423, 65, 66, 67, 288, 289, 290, 291, 292, 293, 294, 295, 296, 297, 298, 299, 300, 301, 68, 70, 69, 328, 329, 330, 331, 424, 425, 426, 427, 428, 429, 430, 431, 232, 233, 234, 235, 236, 237, 238, 239, 495, 496, 497, 498, 448, 449, 450, 451, 452, 453, 454, 455, 499, 500, 501, 502, 802, 803, 804, 805, 806, 807, 808, 809, 810, 811, 812, 813, 814, 815, 816, 817, 818, 819, 820] (by decide +kernel) (by decide +kernel)
set_option maxRecDepth 20000 in
theorem gL_law_X5_room : GoodIn wsL_law (wsV RL 117 RX5 yX5_room wsX5_room) := goodIn_app (goodIn_of _ (by decide +kernel)) ggL_law_X5_room
set_option maxRecDepth 20000 in
theorem ggL_law_L_roomOf : GoodIn wsL_law wsL_roomOf := goodIn_ca (goodIn_r _ [505, 82, 506, 507, 508, 2, 509, 88, 89, 24, 510, 511, 512, 23, 513, 53, 798, 799, 800, 801, 831, 832, 833, 834] (by decide +kernel) (by decide +kernel)) (goodIn_sub (fun _ h => List.mem_append_left _ (List.mem_append_left _ (List.mem_append_right _ h))) (by decide +kernel))
set_option maxRecDepth 20000 in
theorem gL_law_L_roomOf : GoodIn wsL_law (va_wsS RL 118 yL_roomOf wsL_roomOf) := goodIn_app (goodIn_of _ (by decide +kernel)) ggL_law_L_roomOf
