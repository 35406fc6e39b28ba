set_option maxRecDepth 20000 in
theorem ggL_law_X5_colouringsAnew : GoodIn wsL_law wsX5_colouringsAnew := goodIn_r _ [767, 232, 233, 5, 234, 235, 236, 237, 238, 239, 768, 769, 770, 771, 712, 77, 74, 75, 802, 803, 804, 805, 806, 807, 808, 809, 810, 811, 812, 813, 814, 815, 816, 817, 818, 819, 820] (by decide +kernel) (by decide +kernel)
set_option maxRecDepth 20000 in
theorem gL_law_X5_colouringsAnew : GoodIn wsL_law (wsV RL 159 RX5 yX5_colouringsAnew wsX5_colouringsAnew) := goodIn_app (goodIn_of _ (by decide +kernel)) ggL_law_X5_colouringsAnew
set_option maxRecDepth 20000 in
theorem ggL_law_X4_directions : GoodIn wsL_law wsX4_directions := goodIn_r _ [775, 28, 776, 777, 778, 27, 779, 60, 780, 781, 782, 751, 755, 756, 757, 730, 731, 732, 758, 759, 760, 178, 2, 179, 180, 124, 125, 691, 692, 693, 694, 695, 696, 783, 784, 785, 798, 799, 800, 801, 835] (by decide +kernel) (by decide +kernel)
set_option maxRecDepth 20000 in
theorem gL_law_X4_directions : GoodIn wsL_law (wsV RL 160 RX4 yX4_directions wsX4_directions) := goodIn_app (goodIn_of _ (by decide +kernel)) ggL_law_X4_directions
set_option maxRecDepth 20000 in
theorem ggL_law_X5_directions : GoodIn wsL_law wsX5_directions := goodIn_r _ [789, 239, 712, 75, 74, 802, 803, 804, 805, 806, 807, 808, 809, 810, 811, 812, 813, 814, 815, 816, 817, 818, 819, 820] (by decide +kernel) (by decide +kernel)
set_option maxRecDepth 20000 in
theorem gL_law_X5_directions : GoodIn wsL_law (wsV RL 163 RX5 yX5_directions wsX5_directions) := goodIn_app (goodIn_of _ (by decide +kernel)) ggL_law_X5_directions
set_option maxRecDepth 20000 in
theorem ggL_law_X4_directionsAnew : GoodIn wsL_law wsX4_directionsAnew := goodIn_r _ [793, 28, 744, 745, 746, 27, 747, 60, 748, 749, 750, 751, 752, 753, 754, 755, 756, 757, 730, 731, 732, 758, 759, 760, 178, 2, 179, 180, 124, 125, 691, 692, 693, 694, 695, 696, 761, 762, 763, 798, 799, 800, 801, 835] (by decide +kernel) (by decide +kernel)
set_option maxRecDepth 20000 in
theorem gL_law_X4_directionsAnew : GoodIn wsL_law (wsV RL 164 RX4 yX4_directionsAnew wsX4_directionsAnew) := goodIn_app (goodIn_of _ (by decide +kernel)) ggL_law_X4_directionsAnew
set_option maxRecDepth 20000 in
theorem ggL_law_X5_directionsAnew : GoodIn wsL_law wsX5_directionsAnew := goodIn_r _ [797, 239, 768, 769, 770, 5, 771, 712, 77, 74, 75, 802, 803, 804, 805, 806, 807, 808, 809, 810, 811, 812, 813, 814, 815, 816, 817, 818, 819, 820] (by decide +kernel) (by decide +kernel)
set_option maxRecDepth 20000 in
theorem gL_law_X5_directionsAnew : GoodIn wsL_law (wsV RL 167 RX5 yX5_directionsAnew wsX5_directionsAnew) := goodIn_app (goodIn_of _ (by decide +kernel)) ggL_law_X5_directionsAnew
