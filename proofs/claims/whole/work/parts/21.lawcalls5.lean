set_option maxRecDepth 20000 in
theorem ggL_law_X5_pairs : GoodIn wsL_law wsX5_pairs := goodIn_r _ [661, 239, 231, 288, 289, 290, 5, 291, 287, 65, 66, 67, 292, 293, 294, 295, 296, 297, 298, 299, 300, 301, 68, 70, 69, 662, 663, 664, 665, 324, 325, 326, 327, 328, 329, 330, 331, 802, 803, 804, 805, 806, 807, 808, 809, 810, 811, 812, 813, 814, 815, 816, 817, 818, 819, 820] (by decide +kernel) (by decide +kernel)
set_option maxRecDepth 20000 in
theorem gL_law_X5_pairs : GoodIn wsL_law (wsV RL 147 RX5 yX5_pairs wsX5_pairs) := goodIn_app (goodIn_of _ (by decide +kernel)) ggL_law_X5_pairs
set_option maxRecDepth 20000 in
theorem ggL_law_L_pair : GoodIn wsL_law wsL_pair := goodIn_ca (goodIn_r _ [668, 255, 669, 670, 671, 2, 672, 16, 20, 529, 530, 531, 264, 265, 226, 117, 118, 15, 119, 37, 653, 654, 655, 19, 656, 47, 45, 657, 175, 176, 177, 178, 179, 180, 124, 125, 798, 799, 800, 801, 821, 822, 823, 824, 825, 826, 827, 828, 829, 830] (by decide +kernel) (by decide +kernel)) (goodIn_sub (fun _ h => List.mem_append_right _ h) (by decide +kernel))
set_option maxRecDepth 20000 in
theorem gL_law_L_pair : GoodIn wsL_law (va_wsS RL 148 yL_pair wsL_pair) := goodIn_app (goodIn_of _ (by decide +kernel)) ggL_law_L_pair
set_option maxRecDepth 20000 in
theorem ggL_law_X5_pair : GoodIn wsL_law wsX5_pair := goodIn_r _ [676, 231, 235, 236, 237, 5, 238, 239, 288, 289, 290, 291, 287, 65, 66, 67, 292, 293, 294, 295, 296, 297, 298, 299, 300, 301, 68, 70, 69, 662, 663, 664, 665, 324, 325, 326, 327, 328, 329, 330, 331, 802, 803, 804, 805, 806, 807, 808, 809, 810, 811, 812, 813, 814, 815, 816, 817, 818, 819, 820] (by decide +kernel) (by decide +kernel)
set_option maxRecDepth 20000 in
theorem gL_law_X5_pair : GoodIn wsL_law (wsV RL 150 RX5 yX5_pair wsX5_pair) := goodIn_app (goodIn_of _ (by decide +kernel)) ggL_law_X5_pair
set_option maxRecDepth 20000 in
theorem ggL_law_L_edge : GoodIn wsL_law wsL_edge := goodIn_ca (goodIn_ca (goodIn_r _ [679, 255, 82, 680, 681, 682, 2, 683, 264, 265, 88, 89, 28, 684, 685, 686, 687, 688, 689, 27, 690, 60, 691, 692, 693, 694, 695, 696, 697, 698, 699, 700, 701, 702, 703, 704, 705, 706, 707, 798, 799, 800, 801, 835] (by decide +kernel) (by decide +kernel)) (goodIn_sub (fun _ h => List.mem_append_right _ h) (by decide +kernel))) (goodIn_sub (fun _ h => List.mem_append_left _ (List.mem_append_left _ (List.mem_append_right _ h))) (by decide +kernel))
set_option maxRecDepth 20000 in
theorem gL_law_L_edge : GoodIn wsL_law (va_wsS RL 151 yL_edge wsL_edge) := goodIn_app (goodIn_of _ (by decide +kernel)) ggL_law_L_edge
set_option maxRecDepth 20000 in
theorem ggL_law_X5_edge : GoodIn wsL_law wsX5_edge := goodIn_r _ [711, 712, 74, 75, 232, 233, 5, 234, 235, 236, 237, 238, 239, 802, 803, 804, 805, 806, 807, 808, 809, 810, 811, 812, 813, 814, 815, 816, 817, 818, 819, 820] (by decide +kernel) (by decide +kernel)
set_option maxRecDepth 20000 in
theorem gL_law_X5_edge : GoodIn wsL_law (wsV RL 153 RX5 yX5_edge wsX5_edge) := goodIn_app (goodIn_of _ (by decide +kernel)) ggL_law_X5_edge
set_option maxRecDepth 20000 in
theorem ggL_law_L_colourings : GoodIn wsL_law wsL_colourings := goodIn_ca (goodIn_r _ [715, 82, 716, 717, 718, 2, 719, 28, 720, 721, 722, 88, 89, 723, 724, 725, 27, 726, 60, 727, 728, 729, 730, 731, 732, 694, 695, 696, 798, 799, 800, 801, 835] (by decide +kernel) (by decide +kernel)) (goodIn_sub (fun _ h => List.mem_append_left _ (List.mem_append_left _ (List.mem_append_right _ h))) (by decide +kernel))
set_option maxRecDepth 20000 in
theorem gL_law_L_colourings : GoodIn wsL_law (va_wsS RL 154 yL_colourings wsL_colourings) := goodIn_app (goodIn_of _ (by decide +kernel)) ggL_law_L_colourings
set_option maxRecDepth 20000 in
theorem ggL_law_X5_colourings : GoodIn wsL_law wsX5_colourings := goodIn_r _ [736, 76, 712, 74, 75, 232, 233, 5, 234, 235, 236, 237, 238, 239, 802, 803, 804, 805, 806, 807, 808, 809, 810, 811, 812, 813, 814, 815, 816, 817, 818, 819, 820] (by decide +kernel) (by decide +kernel)
set_option maxRecDepth 20000 in
theorem gL_law_X5_colourings : GoodIn wsL_law (wsV RL 156 RX5 yX5_colourings wsX5_colourings) := goodIn_app (goodIn_of _ (by decide +kernel)) ggL_law_X5_colourings
set_option maxRecDepth 20000 in
theorem ggL_law_L_colouringsAnew : GoodIn wsL_law wsL_colouringsAnew := goodIn_ca (goodIn_r _ [739, 82, 740, 741, 742, 2, 743, 28, 720, 721, 722, 88, 89, 744, 745, 746, 27, 747, 60, 748, 749, 750, 751, 752, 753, 754, 755, 756, 757, 730, 731, 732, 758, 759, 760, 178, 179, 180, 124, 125, 691, 692, 693, 694, 695, 696, 761, 762, 763, 798, 799, 800, 801, 835] (by decide +kernel) (by decide +kernel)) (goodIn_sub (fun _ h => List.mem_append_left _ (List.mem_append_left _ (List.mem_append_right _ h))) (by decide +kernel))
set_option maxRecDepth 20000 in
theorem gL_law_L_colouringsAnew : GoodIn wsL_law (va_wsS RL 157 yL_colouringsAnew wsL_colouringsAnew) := goodIn_app (goodIn_of _ (by decide +kernel)) ggL_law_L_colouringsAnew
