set_option maxRecDepth 20000 in
theorem ggL_law_X5_roomOf : GoodIn wsL_law wsX5_roomOf := goodIn_r _ [517, 72, 232, 233, 5, 234, 235, 236, 237, 238, 239, 420, 421, 422, 423, 231, 287, 65, 66, 67, 288, 289, 290, 291, 292, 293, 294, 295, 296, 297, 298, 299, 300, 301, 68, 70, 69, 328, 329, 330, 331, 424, 425, 426, 427, 518, 519, 520, 521, 802, 803, 804, 805, 806, 807, 808, 809, 810, 811, 812, 813, 814, 815, 816, 817, 818, 819, 820] (by decide +kernel) (by decide +kernel)
set_option maxRecDepth 20000 in
theorem gL_law_X5_roomOf : GoodIn wsL_law (wsV RL 120 RX5 yX5_roomOf wsX5_roomOf) := goodIn_app (goodIn_of _ (by decide +kernel)) ggL_law_X5_roomOf
set_option maxRecDepth 20000 in
theorem ggL_law_L_corner : GoodIn wsL_law wsL_corner := goodIn_ca (goodIn_r _ [524, 255, 525, 526, 527, 2, 528, 20, 24, 463, 464, 465, 466, 264, 265, 412, 413, 414, 23, 415, 55, 529, 530, 531, 467, 468, 469, 470, 52, 532, 533, 534, 19, 535, 47, 479, 480, 481, 482, 483, 484, 485, 486, 45, 46, 798, 799, 800, 801, 831, 832, 833, 834, 825, 826, 827, 828, 829, 830] (by decide +kernel) (by decide +kernel)) (goodIn_sub (fun _ h => List.mem_append_right _ h) (by decide +kernel))
set_option maxRecDepth 20000 in
theorem gL_law_L_corner : GoodIn wsL_law (va_wsS RL 121 yL_corner wsL_corner) := goodIn_app (goodIn_of _ (by decide +kernel)) ggL_law_L_corner
set_option maxRecDepth 20000 in
theorem ggL_law_X5_corner : GoodIn wsL_law wsX5_corner := goodIn_r _ [539, 287, 491, 492, 493, 5, 494, 420, 421, 422, 423, 72, 231, 65, 66, 67, 288, 289, 290, 291, 292, 293, 294, 295, 296, 297, 298, 299, 300, 301, 68, 70, 69, 328, 329, 330, 331, 424, 425, 426, 427, 428, 429, 430, 431, 232, 233, 234, 235, 236, 237, 238, 239, 495, 496, 497, 498, 499, 500, 501, 502, 802, 803, 804, 805, 806, 807, 808, 809, 810, 811, 812, 813, 814, 815, 816, 817, 818, 819, 820] (by decide +kernel) (by decide +kernel)
set_option maxRecDepth 20000 in
theorem gL_law_X5_corner : GoodIn wsL_law (wsV RL 123 RX5 yX5_corner wsX5_corner) := goodIn_app (goodIn_of _ (by decide +kernel)) ggL_law_X5_corner
set_option maxRecDepth 20000 in
theorem ggL_law_L_galleries : GoodIn wsL_law wsL_galleries := goodIn_ca (goodIn_r _ [542, 255, 543, 544, 545, 2, 546, 24, 463, 464, 465, 466, 264, 265, 412, 413, 414, 23, 415, 55, 547, 548, 549, 550, 52, 54, 551, 552, 553, 554, 53, 178, 179, 180, 124, 125, 798, 799, 800, 801, 831, 832, 833, 834] (by decide +kernel) (by decide +kernel)) (goodIn_sub (fun _ h => List.mem_append_right _ h) (by decide +kernel))
set_option maxRecDepth 20000 in
theorem gL_law_L_galleries : GoodIn wsL_law (va_wsS RL 124 yL_galleries wsL_galleries) := goodIn_app (goodIn_of _ (by decide +kernel)) ggL_law_L_galleries
set_option maxRecDepth 20000 in
theorem ggL_law_X5_galleries : GoodIn wsL_law wsX5_galleries := goodIn_r _ [558, 73, 491, 492, 493, 5, 494, 420, 421, 422, 423, 72, 231, 287, 65, 66, 67, 288, 289, 290, 291, 292, 293, 294, 295, 296, 297, 298, 299, 300, 301, 68, 70, 69, 328, 329, 330, 331, 424, 425, 426, 427, 428, 429, 430, 431, 232, 233, 234, 235, 236, 237, 238, 239, 495, 496, 497, 498, 559, 560, 561, 562, 802, 803, 804, 805, 806, 807, 808, 809, 810, 811, 812, 813, 814, 815, 816, 817, 818, 819, 820] (by decide +kernel) (by decide +kernel)
set_option maxRecDepth 20000 in
theorem gL_law_X5_galleries : GoodIn wsL_law (wsV RL 126 RX5 yX5_galleries wsX5_galleries) := goodIn_app (goodIn_of _ (by decide +kernel)) ggL_law_X5_galleries
set_option maxRecDepth 20000 in
theorem ggL_law_L_gallery : GoodIn wsL_law wsL_gallery := goodIn_ca (goodIn_r _ [565, 255, 566, 567, 568, 2, 569, 24, 463, 464, 465, 466, 264, 265, 412, 413, 414, 23, 415, 55, 529, 530, 531, 570, 571, 572, 573, 52, 53, 574, 575, 576, 577, 178, 179, 180, 124, 125, 578, 347, 348, 349, 350, 351, 352, 798, 799, 800, 801, 831, 832, 833, 834] (by decide +kernel) (by decide +kernel)) (goodIn_sub (fun _ h => List.mem_append_right _ h) (by decide +kernel))
set_option maxRecDepth 20000 in
theorem gL_law_L_gallery : GoodIn wsL_law (va_wsS RL 127 yL_gallery wsL_gallery) := goodIn_app (goodIn_of _ (by decide +kernel)) ggL_law_L_gallery
set_option maxRecDepth 20000 in
theorem ggL_law_X5_gallery : GoodIn wsL_law wsX5_gallery := goodIn_r _ [582, 231, 72, 73, 491, 492, 493, 5, 494, 420, 421, 422, 423, 287, 65, 66, 67, 288, 289, 290, 291, 292, 293, 294, 295, 296, 297, 298, 299, 300, 301, 68, 70, 69, 328, 329, 330, 331, 424, 425, 426, 427, 428, 429, 430, 431, 232, 233, 234, 235, 236, 237, 238, 239, 495, 496, 497, 498, 559, 560, 561, 562, 518, 519, 520, 521, 802, 803, 804, 805, 806, 807, 808, 809, 810, 811, 812, 813, 814, 815, 816, 817, 818, 819, 820] (by decide +kernel) (by decide +kernel)
set_option maxRecDepth 20000 in
theorem gL_law_X5_gallery : GoodIn wsL_law (wsV RL 129 RX5 yX5_gallery wsX5_gallery) := goodIn_app (goodIn_of _ (by decide +kernel)) ggL_law_X5_gallery
set_option maxRecDepth 20000 in
theorem ggL_law_L_project : GoodIn wsL_law wsL_project := goodIn_ca (goodIn_r _ [585, 255, 586, 587, 588, 2, 589, 24, 20, 463, 464, 465, 466, 264, 265, 412, 413, 414, 23, 415, 55, 309, 310, 311, 312, 282, 171, 172, 19, 173, 47, 467, 468, 469, 470, 52, 590, 484, 485, 486, 45, 46, 510, 511, 512, 513, 53, 798, 799, 800, 801, 831, 832, 833, 834, 825, 826, 827, 828, 829, 830] (by decide +kernel) (by decide +kernel)) (goodIn_sub (fun _ h => List.mem_append_right _ h) (by decide +kernel))
set_option maxRecDepth 20000 in
theorem gL_law_L_project : GoodIn wsL_law (va_wsS RL 130 yL_project wsL_project) := goodIn_app (goodIn_of _ (by decide +kernel)) ggL_law_L_project
