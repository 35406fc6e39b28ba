set_option maxRecDepth 20000 in
theorem ggL_law_L_colourings : GoodIn wsL_law wsL_colourings := goodIn_ca (goodIn_r _ [715, 82, 716, 717, 718, 2, 719, 28, 720, 721, 722, 88, 89, 723, 724, 725, 27, 726, 60, 727, 728, 729, 730, 731, 732, 694, 695, 696, 798, 799, 800, 801, 835] (by decide +kernel) (by decide +kernel)) (goodIn_sub (fun _ h => List.mem_append_left _ (List.mem_append_left _ (List.mem_append_right _ h))) (by decide +kernel))
set_option maxRecDepth 20000 in
theorem gL_law_L_colourings : GoodIn wsL_law (va_wsS RL 154 yL_colourings wsL_colourings) := goodIn_app (goodIn_of _ (by decide +kernel)) ggL_law_L_colourings
set_option maxRecDepth 20000 in
theorem ggL_law_X5_colourings : GoodIn wsL_law wsX5_colourings := goodIn_r _ [736, 76, 712, 74, 75, 232, 233, 5, 234, 235, 236, 237, 238, 239, 802, 803, 804, 805, 806, 807, 808, 809, 810, 811, 812, 813, 814, 815, 816, 817, 818, 819, 820] (by decide +kernel) (by decide +kernel)
set_option maxRecDepth 20000 in
theorem gL_law_X5_colourings : GoodIn wsL_law (wsV RL 156 RX5 yX5_colourings wsX5_colourings) := goodIn_app (goodIn_of _ (by decide +kernel)) ggL_law_X5_colourings
set_option maxRecDepth 20000 in
theorem ggL_law_L_colouringsAnew : GoodIn wsL_law wsL_colouringsAnew := goodIn_ca (goodIn_r _ [739, 82, 740, 741, 742, 2, 743, 28, 720, 721, 722, 88, 89, 744, 745, 746, 27, 747, 60, 748, 749, 750, 751, 752, 753, 754, 755, 756, 757, 730, 731, 732, 758, 759, 760, 178, 179, 180, 124, 125, 691, 692, 693, 694, 695, 696, 761, 762, 763, 798, 799, 800, 801, 835] (by decide +kernel) (by decide +kernel)) (goodIn_sub (fun _ h => List.mem_append_left _ (List.mem_append_left _ (List.mem_append_right _ h))) (by decide +kernel))
set_option maxRecDepth 20000 in
theorem gL_law_L_colouringsAnew : GoodIn wsL_law (va_wsS RL 157 yL_colouringsAnew wsL_colouringsAnew) := goodIn_app (goodIn_of _ (by decide +kernel)) ggL_law_L_colouringsAnew
set_option maxRecDepth 20000 in
theorem ggL_law_X5_colouringsAnew : GoodIn wsL_law wsX5_colouringsAnew := goodIn_r _ [767, 232, 233, 5, 234, 235, 236, 237, 238, 239, 768, 769, 770, 771, 712, 77, 74, 75, 802, 803, 804, 805, 806, 807, 808, 809, 810, 811, 812, 813, 814, 815, 816, 817, 818, 819, 820] (by decide +kernel) (by decide +kernel)
set_option maxRecDepth 20000 in
theorem gL_law_X5_colouringsAnew : GoodIn wsL_law (wsV RL 159 RX5 yX5_colouringsAnew wsX5_colouringsAnew) := goodIn_app (goodIn_of _ (by decide +kernel)) ggL_law_X5_colouringsAnew
set_option maxRecDepth 20000 in
theorem ggL_law_X4_directions : GoodIn wsL_law wsX4_directions := goodIn_r _ [775, 28, 776, 777, 778, 27, 779, 60, 780, 781, 782, 751, 755, 756, 757, 730, 731, 732, 758, 759, 760, 178, 2, 179, 180, 124, 125, 691, 692, 693, 694, 695, 696, 783, 784, 785, 798, 799, 800, 801, 835] (by decide +kernel) (by decide +kernel)
set_option maxRecDepth 20000 in
theorem gL_law_X4_directions : GoodIn wsL_law (wsV RL 160 RX4 yX4_directions wsX4_directions) := goodIn_app (goodIn_of _ (by decide +kernel)) ggL_law_X4_directions
set_option maxRecDepth 20000 in
theorem ggL_law_X5_directions : GoodIn wsL_law wsX5_directions := goodIn_r _ [789, 239, 712, 75, 74, 802, 803, 804, 805, 806, 807, 808, 809, 810, 811, 812, 813, 814, 815, 816, 817, 818, 819, 820] (by decide +kernel) (by decide +kernel)
set_option maxRecDepth 20000 in
theorem gL_law_X5_directions : GoodIn wsL_law (wsV RL 163 RX5 yX5_directions wsX5_directions) := goodIn_app (goodIn_of _ (by decide +kernel)) ggL_law_X5_directions
set_option maxRecDepth 20000 in
theorem ggL_law_X4_directionsAnew : GoodIn wsL_law wsX4_directionsAnew := goodIn_r _ [793, 28, 744, 745, 746, 27, 747, 60, 748, 749, 750, 751, 752, 753, 754, 755, 756, 757, 730, 731, 732, 758, 759, 760, 178, 2, 179, 180, 124, 125, 691, 692, 693, 694, 695, 696, 761, 762, 763, 798, 799, 800, 801, 835] (by decide +kernel) (by decide +kernel)
set_option maxRecDepth 20000 in
theorem gL_law_X4_directionsAnew : GoodIn wsL_law (wsV RL 164 RX4 yX4_directionsAnew wsX4_directionsAnew) := goodIn_app (goodIn_of _ (by decide +kernel)) ggL_law_X4_directionsAnew
set_option maxRecDepth 20000 in
theorem ggL_law_X5_directionsAnew : GoodIn wsL_law wsX5_directionsAnew := goodIn_r _ [797, 239, 768, 769, 770, 5, 771, 712, 77, 74, 75, 802, 803, 804, 805, 806, 807, 808, 809, 810, 811, 812, 813, 814, 815, 816, 817, 818, 819, 820] (by decide +kernel) (by decide +kernel)
set_option maxRecDepth 20000 in
theorem gL_law_X5_directionsAnew : GoodIn wsL_law (wsV RL 167 RX5 yX5_directionsAnew wsX5_directionsAnew) := goodIn_app (goodIn_of _ (by decide +kernel)) ggL_law_X5_directionsAnew
