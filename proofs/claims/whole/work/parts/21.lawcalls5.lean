set_option maxRecDepth 20000 in
theorem ggL_law_X4_isKaleidoscope : GoodIn wsL_law wsX4_isKaleidoscope := goodIn_r _ [644, 16, 226, 117, 118, 15, 119, 37, 625, 626, 627, 628, 34, 35, 36, 629, 100, 101, 102, 798, 799, 800, 801, 821, 822, 823, 824] (by decide +kernel) (by decide +kernel)
set_option maxRecDepth 20000 in
theorem gL_law_X4_isKaleidoscope : GoodIn wsL_law (wsV RL 139 RX4 yX4_isKaleidoscope wsX4_isKaleidoscope) := goodIn_app (goodIn_of _ (by decide +kernel)) ggL_law_X4_isKaleidoscope
set_option maxRecDepth 20000 in
theorem ggL_law_X5_isKaleidoscope : GoodIn wsL_law wsX5_isKaleidoscope := goodIn_r _ [648, 239, 231, 634, 635, 636, 5, 637, 65, 66, 638, 639, 67, 640, 240, 241, 242, 243, 244, 245, 246, 247, 802, 803, 804, 805, 806, 807, 808, 809, 810, 811, 812, 813, 814, 815, 816, 817, 818, 819, 820] (by decide +kernel) (by decide +kernel)
set_option maxRecDepth 20000 in
theorem gL_law_X5_isKaleidoscope : GoodIn wsL_law (wsV RL 143 RX5 yX5_isKaleidoscope wsX5_isKaleidoscope) := goodIn_app (goodIn_of _ (by decide +kernel)) ggL_law_X5_isKaleidoscope
set_option maxRecDepth 20000 in
theorem ggL_law_X4_pairs : GoodIn wsL_law wsX4_pairs := goodIn_r _ [652, 16, 20, 226, 117, 118, 15, 119, 37, 653, 654, 655, 19, 656, 47, 45, 657, 175, 176, 177, 178, 2, 179, 180, 124, 125, 798, 799, 800, 801, 821, 822, 823, 824, 825, 826, 827, 828, 829, 830] (by decide +kernel) (by decide +kernel)
set_option maxRecDepth 20000 in
theorem gL_law_X4_pairs : GoodIn wsL_law (wsV RL 144 RX4 yX4_pairs wsX4_pairs) := goodIn_app (goodIn_of _ (by decide +kernel)) ggL_law_X4_pairs
set_option maxRecDepth 20000 in
theorem ggL_law_X5_pairs : GoodIn wsL_law wsX5_pairs := goodIn_r _ [661, 239, 231, 288, 289, 290, 5, 291, 287, 65, 66, 67, 292, 293, 294, 295, 296, 297, 298, 299, 300, 301, 68, 70, 69, 662, 663, 664, 665, 324, 325, 326, 327, 328, 329, 330, 331, 802, 803, 804, 805, 806, 807, 808, 809, 810, 811, 812, 813, 814, 815, 816, 817, 818, 819, 820] (by decide +kernel) (by decide +kernel)
set_option maxRecDepth 20000 in
theorem gL_law_X5_pairs : GoodIn wsL_law (wsV RL 147 RX5 yX5_pairs wsX5_pairs) := goodIn_app (goodIn_of _ (by decide +kernel)) ggL_law_X5_pairs
set_option maxRecDepth 20000 in
theorem ggL_law_L_pair : GoodIn wsL_law wsL_pair := goodIn_ca (goodIn_r _ [668, 255, 669, 670, 671, 2, 672, 16, 20, 529, 530, 531, 264, 265, 226, 117, 118, 15, 119, 37, 653, 654, 655, 19, 656, 47, 45, 657, 175, 176, 177, 178, 179, 180, 124, 125, 798, 799, 800, 801, 821, 822, 823, 824, 825, 826, 827, 828, 829, 830] (by decide +kernel) (by decide +kernel)) (goodIn_sub (fun _ h => List.mem_append_right _ h) (by decide +kernel))
set_option maxRecDepth 20000 in
theorem gL_law_L_pair : GoodIn wsL_law (va_wsS RL 148 yL_pair wsL_pair) := goodIn_app (goodIn_of _ (by decide +kernel)) ggL_law_L_pair
set_option maxRecDepth 20000 in
theorem ggL_law_X5_pair : GoodIn wsL_law wsX5_pair := goodIn_r _ [676, 231, 235, 236, 237, 5, 238, 239, 288, 289, 290, 291, 287, 65, 66, 67, 292, 293, 294, 295, 296, 297, 298, 299, 300, 301, 68, 70, 69, 662, 663, 664, 665, 324, 325, 326, 327, 328, 329, 330, 331, 802, 803, 804, 805, 806, 807, 808, 809, 810, 811, 812, 813, 814, 815, 816, 817, 818, 819, 820] (by decide +kernel) (by decide +kernel)
set_option maxRecDepth 20000 in
theorem gL_law_X5_pair : GoodIn wsL_law (wsV RL 150 RX5 yX5_pair wsX5_pair) := goodIn_app (goodIn_of _ (by decide +kernel)) ggL_law_X5_pair
set_option maxRecDepth 20000 in
theorem ggL_law_L_edge : GoodIn wsL_law wsL_edge := goodIn_ca (goodIn_ca (goodIn_r _ [679, 255, 82, 680, 681, 682, 2, 683, 264, 265, 88, 89, 28, 684, 685, 686, 687, 688, 689, 27, 690, 60, 691, 692, 693, 694, 695, 696, 697, 698, 699, 700, 701, 702, 703, 704, 705, 706, 707, 798, 799, 800, 801, 835] (by decide +kernel) (by decide +kernel)) (goodIn_sub (fun _ h => List.mem_append_right _ h) (by decide +kernel))) (goodIn_sub (fun _ h => List.mem_append_left _ (List.mem_append_left _ (List.mem_append_right _ h))) (by decide +kernel))
set_option maxRecDepth 20000 in
theorem gL_law_L_edge : GoodIn wsL_law (va_wsS RL 151 yL_edge wsL_edge) := goodIn_app (goodIn_of _ (by decide +kernel)) ggL_law_L_edge
set_option maxRecDepth 20000 in
theorem ggL_law_X5_edge : GoodIn wsL_law wsX5_edge := goodIn_r _ [711, 712, 74, 75, 232, 233, 5, 234, 235, 236, 237, 238, 239, 802, 803, 804, 805, 806, 807, 808, 809, 810, 811, 812, 813, 814, 815, 816, 817, 818, 819, 820] (by decide +kernel) (by decide +kernel)
set_option maxRecDepth 20000 in
theorem gL_law_X5_edge : GoodIn wsL_law (wsV RL 153 RX5 yX5_edge wsX5_edge) := goodIn_app (goodIn_of _ (by decide +kernel)) ggL_law_X5_edge
