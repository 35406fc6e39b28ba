set_option maxRecDepth 20000 in
theorem ggL_law_X5_project : GoodIn wsL_law wsX5_project := goodIn_r _ [594, 287, 231, 491, 492, 493, 5, 494, 420, 421, 422, 423, 72, 65, 66, 67, 288, 289, 290, 291, 292, 293, 294, 295, 296, 297, 298, 299, 300, 301, 68, 70, 69, 328, 329, 330, 331, 424, 425, 426, 427, 428, 429, 430, 431, 232, 233, 234, 235, 236, 237, 238, 239, 495, 496, 497, 498, 518, 519, 520, 521, 802, 803, 804, 805, 806, 807, 808, 809, 810, 811, 812, 813, 814, 815, 816, 817, 818, 819, 820] (by decide +kernel) (by decide +kernel)
set_option maxRecDepth 20000 in
theorem gL_law_X5_project : GoodIn wsL_law (wsV RL 132 RX5 yX5_project wsX5_project) := goodIn_app (goodIn_of _ (by decide +kernel)) ggL_law_X5_project
set_option maxRecDepth 20000 in
theorem ggL_law_L_best : GoodIn wsL_law wsL_best := goodIn_ca (goodIn_ca (goodIn_r _ [597, 255, 82, 598, 599, 600, 2, 601, 88, 89, 24, 16, 20, 463, 464, 465, 466, 264, 265, 412, 413, 414, 23, 415, 55, 92, 93, 94, 602, 603, 604, 605, 52, 165, 117, 118, 15, 119, 37, 185, 186, 187, 188, 35, 189, 190, 191, 192, 34, 440, 441, 442, 443, 178, 179, 180, 124, 125, 467, 468, 469, 470, 606, 607, 608, 19, 609, 47, 479, 480, 481, 482, 483, 484, 485, 486, 45, 46, 610, 611, 612, 613, 42, 43, 44, 798, 799, 800, 801, 831, 832, 833, 834, 821, 822, 823, 824, 825, 826, 827, 828, 829, 830] (by decide +kernel) (by decide +kernel)) (goodIn_sub (fun _ h => List.mem_append_left _ (List.mem_append_left _ (List.mem_append_right _ h))) (by decide +kernel))) (goodIn_sub (fun _ h => List.mem_append_right _ h) (by decide +kernel))
set_option maxRecDepth 20000 in
theorem gL_law_L_best : GoodIn wsL_law (va_wsS RL 133 yL_best wsL_best) := goodIn_app (goodIn_of _ (by decide +kernel)) ggL_law_L_best
set_option maxRecDepth 20000 in
theorem ggL_law_X5_best : GoodIn wsL_law wsX5_best := goodIn_r _ [617, 231, 66, 65, 287, 68, 69, 70, 491, 492, 493, 5, 494, 420, 421, 422, 423, 72, 67, 288, 289, 290, 291, 292, 293, 294, 295, 296, 297, 298, 299, 300, 301, 328, 329, 330, 331, 424, 425, 426, 427, 428, 429, 430, 431, 232, 233, 234, 235, 236, 237, 238, 239, 495, 496, 497, 498, 452, 453, 454, 455, 499, 500, 501, 502, 802, 803, 804, 805, 806, 807, 808, 809, 810, 811, 812, 813, 814, 815, 816, 817, 818, 819, 820] (by decide +kernel) (by decide +kernel)
set_option maxRecDepth 20000 in
theorem gL_law_X5_best : GoodIn wsL_law (wsV RL 135 RX5 yX5_best wsX5_best) := goodIn_app (goodIn_of _ (by decide +kernel)) ggL_law_X5_best
set_option maxRecDepth 20000 in
theorem ggL_law_L_reflected : GoodIn wsL_law wsL_reflected := goodIn_ca (goodIn_r _ [620, 255, 621, 622, 623, 2, 624, 16, 260, 261, 262, 263, 264, 265, 226, 117, 118, 15, 119, 37, 625, 626, 627, 628, 34, 35, 36, 629, 100, 101, 102, 798, 799, 800, 801, 821, 822, 823, 824] (by decide +kernel) (by decide +kernel)) (goodIn_sub (fun _ h => List.mem_append_right _ h) (by decide +kernel))
set_option maxRecDepth 20000 in
theorem gL_law_L_reflected : GoodIn wsL_law (va_wsS RL 136 yL_reflected wsL_reflected) := goodIn_app (goodIn_of _ (by decide +kernel)) ggL_law_L_reflected
set_option maxRecDepth 20000 in
theorem ggL_law_X5_reflected : GoodIn wsL_law wsX5_reflected := goodIn_r _ [633, 274, 275, 276, 5, 277, 231, 232, 233, 234, 235, 236, 237, 238, 239, 634, 635, 636, 637, 65, 66, 638, 639, 67, 640, 240, 241, 242, 243, 244, 245, 246, 247, 802, 803, 804, 805, 806, 807, 808, 809, 810, 811, 812, 813, 814, 815, 816, 817, 818, 819, 820] (by decide +kernel) (by decide +kernel)
set_option maxRecDepth 20000 in
theorem gL_law_X5_reflected : GoodIn wsL_law (wsV RL 138 RX5 yX5_reflected wsX5_reflected) := goodIn_app (goodIn_of _ (by decide +kernel)) ggL_law_X5_reflected
set_option maxRecDepth 20000 in
theorem ggL_law_X4_isKaleidoscope : GoodIn wsL_law wsX4_isKaleidoscope := goodIn_r _ [644, 16, 226, 117, 118, 15, 119, 37, 625, 626, 627, 628, 34, 35, 36, 629, 100, 101, 102, 798, 799, 800, 801, 821, 822, 823, 824] (by decide +kernel) (by decide +kernel)
set_option maxRecDepth 20000 in
theorem gL_law_X4_isKaleidoscope : GoodIn wsL_law (wsV RL 139 RX4 yX4_isKaleidoscope wsX4_isKaleidoscope) := goodIn_app (goodIn_of _ (by decide +kernel)) ggL_law_X4_isKaleidoscope
set_option maxRecDepth 20000 in
theorem ggL_law_X5_isKaleidoscope : GoodIn wsL_law wsX5_isKaleidoscope := goodIn_r _ [648, 239, 231, 634, 635, 636, 5, 637, 65, 66, 638, 639, 67, 640, 240, 241, 242, 243, 244, 245, 246, 247, 802, 803, 804, 805, 806, 807, 808, 809, 810, 811, 812, 813, 814, 815, 816, 817, 818, 819, 820] (by decide +kernel) (by decide +kernel)
set_option maxRecDepth 20000 in
theorem gL_law_X5_isKaleidoscope : GoodIn wsL_law (wsV RL 143 RX5 yX5_isKaleidoscope wsX5_isKaleidoscope) := goodIn_app (goodIn_of _ (by decide +kernel)) ggL_law_X5_isKaleidoscope
set_option maxRecDepth 20000 in
theorem ggL_law_X4_pairs : GoodIn wsL_law wsX4_pairs := goodIn_r _ [652, 16, 20, 226, 117, 118, 15, 119, 37, 653, 654, 655, 19, 656, 47, 45, 657, 175, 176, 177, 178, 2, 179, 180, 124, 125, 798, 799, 800, 801, 821, 822, 823, 824, 825, 826, 827, 828, 829, 830] (by decide +kernel) (by decide +kernel)
set_option maxRecDepth 20000 in
theorem gL_law_X4_pairs : GoodIn wsL_law (wsV RL 144 RX4 yX4_pairs wsX4_pairs) := goodIn_app (goodIn_of _ (by decide +kernel)) ggL_law_X4_pairs
