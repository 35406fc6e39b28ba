set_option maxRecDepth 20000 in
theorem ggL_law_X5_meets : GoodIn wsL_law wsX5_meets := goodIn_r _ [286, 239, 287, 288, 289, 290, 5, 291, 231, 65, 66, 67, 292, 293, 294, 295, 296, 297, 298, 299, 300, 301, 68, 70, 69, 802, 803, 804, 805, 806, 807, 808, 809, 810, 811, 812, 813, 814, 815, 816, 817, 818, 819, 820] (by decide +kernel) (by decide +kernel)
set_option maxRecDepth 20000 in
theorem gL_law_X5_meets : GoodIn wsL_law (wsV RL 93 RX5 yX5_meets wsX5_meets) := goodIn_app (goodIn_of _ (by decide +kernel)) ggL_law_X5_meets
set_option maxRecDepth 20000 in
theorem ggL_law_L_meet : GoodIn wsL_law wsL_meet := goodIn_ca (goodIn_ca (goodIn_r _ [304, 255, 82, 305, 306, 307, 2, 308, 88, 89, 20, 309, 310, 311, 312, 264, 265, 282, 171, 172, 19, 173, 47, 313, 198, 199, 200, 42, 314, 202, 203, 204, 43, 315, 194, 195, 196, 44, 316, 317, 318, 319, 45, 798, 799, 800, 801, 825, 826, 827, 828, 829, 830] (by decide +kernel) (by decide +kernel)) (goodIn_sub (fun _ h => List.mem_append_left _ (List.mem_append_left _ (List.mem_append_right _ h))) (by decide +kernel))) (goodIn_sub (fun _ h => List.mem_append_right _ h) (by decide +kernel))
set_option maxRecDepth 20000 in
theorem gL_law_L_meet : GoodIn wsL_law (va_wsS RL 94 yL_meet wsL_meet) := goodIn_app (goodIn_of _ (by decide +kernel)) ggL_law_L_meet
set_option maxRecDepth 20000 in
theorem ggL_law_X5_meet : GoodIn wsL_law wsX5_meet := goodIn_r _ [323, 287, 68, 69, 70, 288, 289, 290, 5, 291, 231, 65, 66, 67, 292, 293, 294, 295, 296, 297, 298, 299, 300, 301, 232, 233, 234, 235, 236, 237, 238, 239, 324, 325, 326, 327, 328, 329, 330, 331, 802, 803, 804, 805, 806, 807, 808, 809, 810, 811, 812, 813, 814, 815, 816, 817, 818, 819, 820] (by decide +kernel) (by decide +kernel)
set_option maxRecDepth 20000 in
theorem gL_law_X5_meet : GoodIn wsL_law (wsV RL 97 RX5 yX5_meet wsX5_meet) := goodIn_app (goodIn_of _ (by decide +kernel)) ggL_law_X5_meet
set_option maxRecDepth 20000 in
theorem ggL_law_L_polynomial : GoodIn wsL_law wsL_polynomial := goodIn_ca (goodIn_r _ [334, 82, 335, 336, 337, 2, 338, 20, 339, 340, 341, 88, 89, 342, 343, 344, 19, 345, 47, 45, 346, 347, 348, 349, 350, 351, 352, 353, 354, 355, 356, 16, 226, 117, 118, 15, 119, 37, 798, 799, 800, 801, 825, 826, 827, 828, 829, 830, 821, 822, 823, 824] (by decide +kernel) (by decide +kernel)) (goodIn_sub (fun _ h => List.mem_append_left _ (List.mem_append_left _ (List.mem_append_right _ h))) (by decide +kernel))
set_option maxRecDepth 20000 in
theorem gL_law_L_polynomial : GoodIn wsL_law (va_wsS RL 98 yL_polynomial wsL_polynomial) := goodIn_app (goodIn_of _ (by decide +kernel)) ggL_law_L_polynomial
set_option maxRecDepth 20000 in
theorem ggL_law_X5_polynomial : GoodIn wsL_law wsX5_polynomial := goodIn_r _ [360, 287, 231, 232, 233, 5, 234, 235, 236, 237, 238, 239, 288, 289, 290, 291, 65, 66, 67, 292, 293, 294, 295, 296, 297, 298, 299, 300, 301, 68, 70, 69, 324, 325, 326, 327, 328, 329, 330, 331, 361, 362, 363, 802, 803, 804, 805, 806, 807, 808, 809, 810, 811, 812, 813, 814, 815, 816, 817, 818, 819, 820] (by decide +kernel) (by decide +kernel)
set_option maxRecDepth 20000 in
theorem gL_law_X5_polynomial : GoodIn wsL_law (wsV RL 100 RX5 yX5_polynomial wsX5_polynomial) := goodIn_app (goodIn_of _ (by decide +kernel)) ggL_law_X5_polynomial
set_option maxRecDepth 20000 in
theorem ggL_law_L_polynomialAnew : GoodIn wsL_law wsL_polynomialAnew := goodIn_ca (goodIn_r _ [366, 82, 367, 368, 369, 2, 370, 16, 339, 340, 341, 88, 89, 226, 117, 118, 15, 119, 37, 371, 372, 373, 374, 375, 121, 122, 123, 34, 35, 376, 377, 378, 379, 380, 127, 128, 129, 36, 381, 131, 132, 133, 157, 158, 159, 160, 353, 354, 355, 356, 798, 799, 800, 801, 821, 822, 823, 824] (by decide +kernel) (by decide +kernel)) (goodIn_sub (fun _ h => List.mem_append_left _ (List.mem_append_left _ (List.mem_append_right _ h))) (by decide +kernel))
set_option maxRecDepth 20000 in
theorem gL_law_L_polynomialAnew : GoodIn wsL_law (va_wsS RL 101 yL_polynomialAnew wsL_polynomialAnew) := goodIn_app (goodIn_of _ (by decide +kernel)) ggL_law_L_polynomialAnew
set_option maxRecDepth 20000 in
theorem ggL_law_X5_polynomialAnew : GoodIn wsL_law wsX5_polynomialAnew := goodIn_r _ [385, 231, 287, 232, 233, 5, 234, 235, 236, 237, 238, 239, 288, 289, 290, 291, 65, 66, 67, 292, 293, 294, 295, 296, 297, 298, 299, 300, 301, 68, 70, 69, 324, 325, 326, 327, 328, 329, 330, 331, 802, 803, 804, 805, 806, 807, 808, 809, 810, 811, 812, 813, 814, 815, 816, 817, 818, 819, 820] (by decide +kernel) (by decide +kernel)
set_option maxRecDepth 20000 in
theorem gL_law_X5_polynomialAnew : GoodIn wsL_law (wsV RL 103 RX5 yX5_polynomialAnew wsX5_polynomialAnew) := goodIn_app (goodIn_of _ (by decide +kernel)) ggL_law_X5_polynomialAnew
set_option maxRecDepth 20000 in
theorem ggL_law_L_points : GoodIn wsL_law wsL_points := goodIn_ca (goodIn_r _ [388, 82, 389, 390, 391, 2, 392, 88, 89, 16, 393, 394, 395, 396, 397, 398, 399, 15, 400, 37, 157, 158, 159, 160, 34, 35, 36, 798, 799, 800, 801, 821, 822, 823, 824] (by decide +kernel) (by decide +kernel)) (goodIn_sub (fun _ h => List.mem_append_left _ (List.mem_append_left _ (List.mem_append_right _ h))) (by decide +kernel))
set_option maxRecDepth 20000 in
theorem gL_law_L_points : GoodIn wsL_law (va_wsS RL 104 yL_points wsL_points) := goodIn_app (goodIn_of _ (by decide +kernel)) ggL_law_L_points
