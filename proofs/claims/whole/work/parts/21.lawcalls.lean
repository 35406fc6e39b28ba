set_option maxRecDepth 20000 in
theorem ggL_law_X4_init : GoodIn wsL_law wsX4_init := goodIn_r _ [9, 10, 11, 12, 13, 14, 15, 16, 17, 18, 19, 20, 21, 22, 23, 24, 25, 26, 27, 28, 29, 30, 31, 32, 33, 34, 35, 36, 37, 38, 39, 40, 41, 42, 43, 44, 45, 46, 47, 48, 49, 50, 51, 52, 53, 54, 55, 56, 57, 58, 59, 60, 821, 822, 823, 824, 798, 799, 800, 801, 825, 826, 827, 828, 829, 830, 831, 832, 833, 834, 835] (by decide +kernel) (by decide +kernel)
set_option maxRecDepth 20000 in
theorem gL_law_X4_init : GoodIn wsL_law (wsX4_init) := ggL_law_X4_init
set_option maxRecDepth 20000 in
theorem ggL_law_X5_init : GoodIn wsL_law wsX5_init := goodIn_r _ [63, 64, 11, 12, 33, 65, 66, 67, 68, 69, 70, 71, 72, 73, 74, 75, 76, 77, 802, 803, 804, 805, 806, 807, 808, 809, 810, 811, 812, 813, 814, 815, 816, 817, 818, 819, 820] (by decide +kernel) (by decide +kernel)
set_option maxRecDepth 20000 in
theorem gL_law_X5_init : GoodIn wsL_law (wsX5_init) := ggL_law_X5_init
set_option maxRecDepth 20000 in
theorem ggL_law_L_line : GoodIn wsL_law wsL_line := goodIn_ca (goodIn_ca (goodIn_r _ [81, 82, 83, 84, 85, 86, 2, 87, 88, 89, 90, 91, 16, 92, 93, 94, 95, 96, 97, 15, 98, 37, 99, 100, 101, 102, 34, 35, 36, 103, 104, 105, 106, 107, 108, 109, 110, 111, 20, 24, 112, 113, 114, 19, 115, 47, 46, 42, 43, 44, 116, 117, 118, 119, 120, 121, 122, 123, 124, 125, 126, 127, 128, 129, 130, 131, 132, 133, 134, 135, 136, 137, 45, 138, 139, 140, 141, 142, 143, 144, 145, 146, 147, 148, 149, 150, 151, 152, 153, 154, 155, 156, 157, 158, 159, 160, 161, 162, 163, 23, 164, 53, 165, 166, 167, 168, 169, 170, 171, 172, 173, 174, 175, 176, 177, 178, 179, 180, 181, 182, 183, 184, 185, 186, 187, 188, 189, 190, 191, 192, 193, 194, 195, 196, 197, 198, 199, 200, 201, 202, 203, 204, 205, 206, 207, 208, 209, 210, 211, 212, 213, 214, 215, 216, 217, 218, 219, 220, 221, 222, 223, 224, 225, 55, 52, 226, 798, 799, 800, 801, 821, 822, 823, 824, 825, 826, 827, 828, 829, 830, 831, 832, 833, 834] (by decide +kernel) (by decide +kernel)) (goodIn_sub (fun _ h => List.mem_append_left _ (List.mem_append_left _ (List.mem_append_right _ h))) (by decide +kernel))) (goodIn_sub (fun _ h => List.mem_append_left _ (List.mem_append_right _ h)) (by decide +kernel))
set_option maxRecDepth 20000 in
theorem gL_law_L_line : GoodIn wsL_law (va_wsS RL 76 yL_line wsL_line) := goodIn_app (goodIn_of _ (by decide +kernel)) ggL_law_L_line
set_option maxRecDepth 20000 in
theorem ggL_law_X5_line : GoodIn wsL_law wsX5_line := goodIn_r _ [230, 231, 65, 66, 67, 232, 233, 5, 234, 235, 236, 237, 238, 239, 240, 241, 242, 243, 244, 245, 246, 247, 802, 803, 804, 805, 806, 807, 808, 809, 810, 811, 812, 813, 814, 815, 816, 817, 818, 819, 820] (by decide +kernel) (by decide +kernel)
set_option maxRecDepth 20000 in
theorem gL_law_X5_line : GoodIn wsL_law (wsV RL 81 RX5 yX5_line wsX5_line) := goodIn_app (goodIn_of _ (by decide +kernel)) ggL_law_X5_line
set_option maxRecDepth 20000 in
theorem ggL_law_X5_thrown : GoodIn wsL_law wsX5_thrown := goodIn_r _ [251, 239, 802, 803, 804, 805, 806, 807, 808, 809, 810, 811, 812, 813, 814, 815, 816, 817, 818, 819, 820] (by decide +kernel) (by decide +kernel)
set_option maxRecDepth 20000 in
theorem gL_law_X5_thrown : GoodIn wsL_law (wsV RL 82 RX5 yX5_thrown wsX5_thrown) := goodIn_app (goodIn_of _ (by decide +kernel)) ggL_law_X5_thrown
set_option maxRecDepth 20000 in
theorem ggL_law_L_takeAway : GoodIn wsL_law wsL_takeAway := goodIn_ca (goodIn_r _ [254, 255, 256, 257, 258, 2, 259, 16, 260, 261, 262, 263, 264, 265, 226, 117, 118, 15, 119, 37, 266, 267, 268, 269, 34, 35, 36, 108, 109, 110, 111, 20, 24, 112, 113, 114, 19, 115, 47, 46, 42, 43, 44, 116, 120, 121, 122, 123, 124, 125, 126, 127, 128, 129, 130, 131, 132, 133, 134, 135, 136, 137, 45, 138, 139, 140, 141, 142, 143, 144, 145, 146, 147, 148, 149, 150, 151, 152, 153, 154, 155, 156, 157, 158, 159, 160, 161, 162, 163, 23, 164, 53, 165, 166, 167, 168, 169, 170, 171, 172, 173, 174, 175, 176, 177, 178, 179, 180, 181, 182, 183, 184, 185, 186, 187, 188, 189, 190, 191, 192, 193, 194, 195, 196, 197, 198, 199, 200, 201, 202, 203, 204, 205, 206, 207, 208, 209, 210, 211, 212, 213, 214, 215, 216, 217, 218, 219, 220, 221, 222, 223, 224, 225, 55, 52, 798, 799, 800, 801, 821, 822, 823, 824, 825, 826, 827, 828, 829, 830, 831, 832, 833, 834] (by decide +kernel) (by decide +kernel)) (goodIn_sub (fun _ h => List.mem_append_right _ h) (by decide +kernel))
set_option maxRecDepth 20000 in
theorem gL_law_L_takeAway : GoodIn wsL_law (va_wsS RL 86 yL_takeAway wsL_takeAway) := goodIn_app (goodIn_of _ (by decide +kernel)) ggL_law_L_takeAway
set_option maxRecDepth 20000 in
theorem ggL_law_X5_takeAway : GoodIn wsL_law wsX5_takeAway := goodIn_r _ [273, 231, 65, 66, 67, 274, 275, 276, 5, 277, 232, 233, 234, 235, 236, 237, 238, 239, 802, 803, 804, 805, 806, 807, 808, 809, 810, 811, 812, 813, 814, 815, 816, 817, 818, 819, 820] (by decide +kernel) (by decide +kernel)
set_option maxRecDepth 20000 in
theorem gL_law_X5_takeAway : GoodIn wsL_law (wsV RL 89 RX5 yX5_takeAway wsX5_takeAway) := goodIn_app (goodIn_of _ (by decide +kernel)) ggL_law_X5_takeAway
set_option maxRecDepth 20000 in
theorem ggL_law_X4_meets : GoodIn wsL_law wsX4_meets := goodIn_r _ [281, 20, 282, 171, 172, 19, 173, 47, 798, 799, 800, 801, 825, 826, 827, 828, 829, 830] (by decide +kernel) (by decide +kernel)
set_option maxRecDepth 20000 in
theorem gL_law_X4_meets : GoodIn wsL_law (wsV RL 90 RX4 yX4_meets wsX4_meets) := goodIn_app (goodIn_of _ (by decide +kernel)) ggL_law_X4_meets
set_option maxRecDepth 20000 in
theorem ggL_law_X5_meets : GoodIn wsL_law wsX5_meets := goodIn_r _ [286, 239, 287, 288, 289, 290, 5, 291, 231, 65, 66, 67, 292, 293, 294, 295, 296, 297, 298, 299, 300, 301, 68, 70, 69, 802, 803, 804, 805, 806, 807, 808, 809, 810, 811, 812, 813, 814, 815, 816, 817, 818, 819, 820] (by decide +kernel) (by decide +kernel)
set_option maxRecDepth 20000 in
theorem gL_law_X5_meets : GoodIn wsL_law (wsV RL 93 RX5 yX5_meets wsX5_meets) := goodIn_app (goodIn_of _ (by decide +kernel)) ggL_law_X5_meets
set_option maxRecDepth 20000 in
theorem ggL_law_L_meet : GoodIn wsL_law wsL_meet := goodIn_ca (goodIn_ca (goodIn_r _ [304, 255, 82, 305, 306, 307, 2, 308, 88, 89, 20, 309, 310, 311, 312, 264, 265, 282, 171, 172, 19, 173, 47, 313, 198, 199, 200, 42, 314, 202, 203, 204, 43, 315, 194, 195, 196, 44, 316, 317, 318, 319, 45, 798, 799, 800, 801, 825, 826, 827, 828, 829, 830] (by decide +kernel) (by decide +kernel)) (goodIn_sub (fun _ h => List.mem_append_left _ (List.mem_append_left _ (List.mem_append_right _ h))) (by decide +kernel))) (goodIn_sub (fun _ h => List.mem_append_right _ h) (by decide +kernel))
set_option maxRecDepth 20000 in
theorem gL_law_L_meet : GoodIn wsL_law (va_wsS RL 94 yL_meet wsL_meet) := goodIn_app (goodIn_of _ (by decide +kernel)) ggL_law_L_meet
set_option maxRecDepth 20000 in
theorem ggL_law_X5_meet : GoodIn wsL_law wsX5_meet := goodIn_r _ [323, 287, 68, 69, 70, 288, 289, 290, 5, 291, 231, 65, 66, 67, 292, 293, 294, 295, 296, 297, 298, 299, 300, 301, 232, 233, 234, 235, 236, 237, 238, 239, 324, 325, 326, 327, 328, 329, 330, 331, 802, 803, 804, 805, 806, 807, 808, 809, 810, 811, 812, 813, 814, 815, 816, 817, 818, 819, 820] (by decide +kernel) (by decide +kernel)
set_option maxRecDepth 20000 in
theorem gL_law_X5_meet : GoodIn wsL_law (wsV RL 97 RX5 yX5_meet wsX5_meet) := goodIn_app (goodIn_of _ (by decide +kernel)) ggL_law_X5_meet
set_option maxRecDepth 20000 in
theorem ggL_law_L_polynomial : GoodIn wsL_law wsL_polynomial := goodIn_ca (goodIn_r _ [334, 82, 335, 336, 337, 2, 338, 20, 339, 340, 341, 88, 89, 342, 343, 344, 19, 345, 47, 45, 346, 347, 348, 349, 350, 351, 352, 353, 354, 355, 356, 16, 226, 117, 118, 15, 119, 37, 798, 799, 800, 801, 825, 826, 827, 828, 829, 830, 821, 822, 823, 824] (by decide +kernel) (by decide +kernel)) (goodIn_sub (fun _ h => List.mem_append_left _ (List.mem_append_left _ (List.mem_append_right _ h))) (by decide +kernel))
set_option maxRecDepth 20000 in
theorem gL_law_L_polynomial : GoodIn wsL_law (va_wsS RL 98 yL_polynomial wsL_polynomial) := goodIn_app (goodIn_of _ (by decide +kernel)) ggL_law_L_polynomial
set_option maxRecDepth 20000 in
theorem ggL_law_X5_polynomial : GoodIn wsL_law wsX5_polynomial := goodIn_r _ [360, 287, 231, 232, 233, 5, 234, 235, 236, 237, 238, 239, 288, 289, 290, 291, 65, 66, 67, 292, 293, 294, 295, 296, 297, 298, 299, 300, 301, 68, 70, 69, 324, 325, 326, 327, 328, 329, 330, 331, 361, 362, 363, 802, 803, 804, 805, 806, 807, 808, 809, 810, 811, 812, 813, 814, 815, 816, 817, 818, 819, 820] (by decide +kernel) (by decide +kernel)
set_option maxRecDepth 20000 in
theorem gL_law_X5_polynomial : GoodIn wsL_law (wsV RL 100 RX5 yX5_polynomial wsX5_polynomial) := goodIn_app (goodIn_of _ (by decide +kernel)) ggL_law_X5_polynomial
set_option maxRecDepth 20000 in
theorem ggL_law_L_polynomialAnew : GoodIn wsL_law wsL_polynomialAnew := goodIn_ca (goodIn_r _ [366, 82, 367, 368, 369, 2, 370, 16, 339, 340, 341, 88, 89, 226, 117, 118, 15, 119, 37, 371, 372, 373, 374, 375, 121, 122, 123, 34, 35, 376, 377, 378, 379, 380, 127, 128, 129, 36, 381, 131, 132, 133, 157, 158, 159, 160, 353, 354, 355, 356, 798, 799, 800, 801, 821, 822, 823, 824] (by decide +kernel) (by decide +kernel)) (goodIn_sub (fun _ h => List.mem_append_left _ (List.mem_append_left _ (List.mem_append_right _ h))) (by decide +kernel))
set_option maxRecDepth 20000 in
theorem gL_law_L_polynomialAnew : GoodIn wsL_law (va_wsS RL 101 yL_polynomialAnew wsL_polynomialAnew) := goodIn_app (goodIn_of _ (by decide +kernel)) ggL_law_L_polynomialAnew
set_option maxRecDepth 20000 in
theorem ggL_law_X5_polynomialAnew : GoodIn wsL_law wsX5_polynomialAnew := goodIn_r _ [385, 231, 287, 232, 233, 5, 234, 235, 236, 237, 238, 239, 288, 289, 290, 291, 65, 66, 67, 292, 293, 294, 295, 296, 297, 298, 299, 300, 301, 68, 70, 69, 324, 325, 326, 327, 328, 329, 330, 331, 802, 803, 804, 805, 806, 807, 808, 809, 810, 811, 812, 813, 814, 815, 816, 817, 818, 819, 820] (by decide +kernel) (by decide +kernel)
set_option maxRecDepth 20000 in
theorem gL_law_X5_polynomialAnew : GoodIn wsL_law (wsV RL 103 RX5 yX5_polynomialAnew wsX5_polynomialAnew) := goodIn_app (goodIn_of _ (by decide +kernel)) ggL_law_X5_polynomialAnew
set_option maxRecDepth 20000 in
theorem ggL_law_L_points : GoodIn wsL_law wsL_points := goodIn_ca (goodIn_r _ [388, 82, 389, 390, 391, 2, 392, 88, 89, 16, 393, 394, 395, 396, 397, 398, 399, 15, 400, 37, 157, 158, 159, 160, 34, 35, 36, 798, 799, 800, 801, 821, 822, 823, 824] (by decide +kernel) (by decide +kernel)) (goodIn_sub (fun _ h => List.mem_append_left _ (List.mem_append_left _ (List.mem_append_right _ h))) (by decide +kernel))
set_option maxRecDepth 20000 in
theorem gL_law_L_points : GoodIn wsL_law (va_wsS RL 104 yL_points wsL_points) := goodIn_app (goodIn_of _ (by decide +kernel)) ggL_law_L_points
set_option maxRecDepth 20000 in
theorem ggL_law_X5_points : GoodIn wsL_law wsX5_points := goodIn_r _ [404, 231, 65, 66, 67, 232, 233, 5, 234, 405, 406, 407, 235, 236, 237, 238, 239, 802, 803, 804, 805, 806, 807, 808, 809, 810, 811, 812, 813, 814, 815, 816, 817, 818, 819, 820] (by decide +kernel) (by decide +kernel)
set_option maxRecDepth 20000 in
theorem gL_law_X5_points : GoodIn wsL_law (wsV RL 106 RX5 yX5_points wsX5_points) := goodIn_app (goodIn_of _ (by decide +kernel)) ggL_law_X5_points
set_option maxRecDepth 20000 in
theorem ggL_law_X4_rooms : GoodIn wsL_law wsX4_rooms := goodIn_r _ [411, 24, 412, 413, 414, 23, 415, 55, 798, 799, 800, 801, 831, 832, 833, 834] (by decide +kernel) (by decide +kernel)
set_option maxRecDepth 20000 in
theorem gL_law_X4_rooms : GoodIn wsL_law (wsV RL 107 RX4 yX4_rooms wsX4_rooms) := goodIn_app (goodIn_of _ (by decide +kernel)) ggL_law_X4_rooms
set_option maxRecDepth 20000 in
theorem ggL_law_X5_rooms : GoodIn wsL_law wsX5_rooms := goodIn_r _ [419, 239, 420, 421, 422, 5, 423, 72, 231, 287, 65, 66, 67, 288, 289, 290, 291, 292, 293, 294, 295, 296, 297, 298, 299, 300, 301, 68, 70, 69, 328, 329, 330, 331, 424, 425, 426, 427, 428, 429, 430, 431, 802, 803, 804, 805, 806, 807, 808, 809, 810, 811, 812, 813, 814, 815, 816, 817, 818, 819, 820] (by decide +kernel) (by decide +kernel)
set_option maxRecDepth 20000 in
theorem gL_law_X5_rooms : GoodIn wsL_law (wsV RL 110 RX5 yX5_rooms wsX5_rooms) := goodIn_app (goodIn_of _ (by decide +kernel)) ggL_law_X5_rooms
set_option maxRecDepth 20000 in
theorem ggL_law_X4_bounded : GoodIn wsL_law wsX4_bounded := goodIn_r _ [435, 24, 16, 412, 413, 414, 23, 415, 55, 436, 437, 438, 439, 52, 165, 117, 118, 15, 119, 37, 185, 186, 187, 188, 35, 189, 190, 191, 192, 34, 440, 441, 442, 443, 178, 2, 179, 180, 124, 125, 798, 799, 800, 801, 831, 832, 833, 834, 821, 822, 823, 824] (by decide +kernel) (by decide +kernel)
set_option maxRecDepth 20000 in
theorem gL_law_X4_bounded : GoodIn wsL_law (wsV RL 111 RX4 yX4_bounded wsX4_bounded) := goodIn_app (goodIn_of _ (by decide +kernel)) ggL_law_X4_bounded
set_option maxRecDepth 20000 in
theorem ggL_law_X5_bounded : GoodIn wsL_law wsX5_bounded := goodIn_r _ [447, 239, 72, 420, 421, 422, 5, 423, 231, 287, 65, 66, 67, 288, 289, 290, 291, 292, 293, 294, 295, 296, 297, 298, 299, 300, 301, 68, 70, 69, 328, 329, 330, 331, 424, 425, 426, 427, 448, 449, 450, 451, 452, 453, 454, 455, 802, 803, 804, 805, 806, 807, 808, 809, 810, 811, 812, 813, 814, 815, 816, 817, 818, 819, 820] (by decide +kernel) (by decide +kernel)
set_option maxRecDepth 20000 in
theorem gL_law_X5_bounded : GoodIn wsL_law (wsV RL 114 RX5 yX5_bounded wsX5_bounded) := goodIn_app (goodIn_of _ (by decide +kernel)) ggL_law_X5_bounded
set_option maxRecDepth 20000 in
theorem ggL_law_L_room : GoodIn wsL_law wsL_room := goodIn_ca (goodIn_ca (goodIn_r _ [458, 255, 82, 459, 460, 461, 2, 462, 88, 89, 24, 16, 20, 463, 464, 465, 466, 264, 265, 412, 413, 414, 23, 415, 55, 467, 468, 469, 470, 52, 436, 437, 438, 439, 165, 117, 118, 15, 119, 37, 185, 186, 187, 188, 35, 189, 190, 191, 192, 34, 440, 441, 442, 443, 178, 179, 180, 124, 125, 471, 472, 473, 474, 53, 475, 476, 477, 19, 478, 47, 479, 480, 481, 482, 483, 484, 485, 486, 45, 46, 798, 799, 800, 801, 831, 832, 833, 834, 821, 822, 823, 824, 825, 826, 827, 828, 829, 830] (by decide +kernel) (by decide +kernel)) (goodIn_sub (fun _ h => List.mem_append_left _ (List.mem_append_left _ (List.mem_append_right _ h))) (by decide +kernel))) (goodIn_sub (fun _ h => List.mem_append_right _ h) (by decide +kernel))
set_option maxRecDepth 20000 in
theorem gL_law_L_room : GoodIn wsL_law (va_wsS RL 115 yL_room wsL_room) := goodIn_app (goodIn_of _ (by decide +kernel)) ggL_law_L_room
set_option maxRecDepth 20000 in
theorem ggL_law_X5_room : GoodIn wsL_law wsX5_room := goodIn_r _ [490, 231, 72, 287, 491, 492, 493, 5, 494, 420, 421, 422, 423, 65, 66, 67, 288, 289, 290, 291, 292, 293, 294, 295, 296, 297, 298, 299, 300, 301, 68, 70, 69, 328, 329, 330, 331, 424, 425, 426, 427, 428, 429, 430, 431, 232, 233, 234, 235, 236, 237, 238, 239, 495, 496, 497, 498, 448, 449, 450, 451, 452, 453, 454, 455, 499, 500, 501, 502, 802, 803, 804, 805, 806, 807, 808, 809, 810, 811, 812, 813, 814, 815, 816, 817, 818, 819, 820] (by decide +kernel) (by decide +kernel)
set_option maxRecDepth 20000 in
theorem gL_law_X5_room : GoodIn wsL_law (wsV RL 117 RX5 yX5_room wsX5_room) := goodIn_app (goodIn_of _ (by decide +kernel)) ggL_law_X5_room
set_option maxRecDepth 20000 in
theorem ggL_law_L_roomOf : GoodIn wsL_law wsL_roomOf := goodIn_ca (goodIn_r _ [505, 82, 506, 507, 508, 2, 509, 88, 89, 24, 510, 511, 512, 23, 513, 53, 798, 799, 800, 801, 831, 832, 833, 834] (by decide +kernel) (by decide +kernel)) (goodIn_sub (fun _ h => List.mem_append_left _ (List.mem_append_left _ (List.mem_append_right _ h))) (by decide +kernel))
set_option maxRecDepth 20000 in
theorem gL_law_L_roomOf : GoodIn wsL_law (va_wsS RL 118 yL_roomOf wsL_roomOf) := goodIn_app (goodIn_of _ (by decide +kernel)) ggL_law_L_roomOf
set_option maxRecDepth 20000 in
theorem ggL_law_X5_roomOf : GoodIn wsL_law wsX5_roomOf := goodIn_r _ [517, 72, 232, 233, 5, 234, 235, 236, 237, 238, 239, 420, 421, 422, 423, 231, 287, 65, 66, 67, 288, 289, 290, 291, 292, 293, 294, 295, 296, 297, 298, 299, 300, 301, 68, 70, 69, 328, 329, 330, 331, 424, 425, 426, 427, 518, 519, 520, 521, 802, 803, 804, 805, 806, 807, 808, 809, 810, 811, 812, 813, 814, 815, 816, 817, 818, 819, 820] (by decide +kernel) (by decide +kernel)
set_option maxRecDepth 20000 in
theorem gL_law_X5_roomOf : GoodIn wsL_law (wsV RL 120 RX5 yX5_roomOf wsX5_roomOf) := goodIn_app (goodIn_of _ (by decide +kernel)) ggL_law_X5_roomOf
set_option maxRecDepth 20000 in
theorem ggL_law_L_corner : GoodIn wsL_law wsL_corner := goodIn_ca (goodIn_r _ [524, 255, 525, 526, 527, 2, 528, 20, 24, 463, 464, 465, 466, 264, 265, 412, 413, 414, 23, 415, 55, 529, 530, 531, 467, 468, 469, 470, 52, 532, 533, 534, 19, 535, 47, 479, 480, 481, 482, 483, 484, 485, 486, 45, 46, 798, 799, 800, 801, 831, 832, 833, 834, 825, 826, 827, 828, 829, 830] (by decide +kernel) (by decide +kernel)) (goodIn_sub (fun _ h => List.mem_append_right _ h) (by decide +kernel))
set_option maxRecDepth 20000 in
theorem gL_law_L_corner : GoodIn wsL_law (va_wsS RL 121 yL_corner wsL_corner) := goodIn_app (goodIn_of _ (by decide +kernel)) ggL_law_L_corner
set_option maxRecDepth 20000 in
theorem ggL_law_X5_corner : GoodIn wsL_law wsX5_corner := goodIn_r _ [539, 287, 491, 492, 493, 5, 494, 420, 421, 422, 423, 72, 231, 65, 66, 67, 288, 289, 290, 291, 292, 293, 294, 295, 296, 297, 298, 299, 300, 301, 68, 70, 69, 328, 329, 330, 331, 424, 425, 426, 427, 428, 429, 430, 431, 232, 233, 234, 235, 236, 237, 238, 239, 495, 496, 497, 498, 499, 500, 501, 502, 802, 803, 804, 805, 806, 807, 808, 809, 810, 811, 812, 813, 814, 815, 816, 817, 818, 819, 820] (by decide +kernel) (by decide +kernel)
set_option maxRecDepth 20000 in
theorem gL_law_X5_corner : GoodIn wsL_law (wsV RL 123 RX5 yX5_corner wsX5_corner) := goodIn_app (goodIn_of _ (by decide +kernel)) ggL_law_X5_corner
set_option maxRecDepth 20000 in
theorem ggL_law_L_galleries : GoodIn wsL_law wsL_galleries := goodIn_ca (goodIn_r _ [542, 255, 543, 544, 545, 2, 546, 24, 463, 464, 465, 466, 264, 265, 412, 413, 414, 23, 415, 55, 547, 548, 549, 550, 52, 54, 551, 552, 553, 554, 53, 178, 179, 180, 124, 125, 798, 799, 800, 801, 831, 832, 833, 834] (by decide +kernel) (by decide +kernel)) (goodIn_sub (fun _ h => List.mem_append_right _ h) (by decide +kernel))
set_option maxRecDepth 20000 in
theorem gL_law_L_galleries : GoodIn wsL_law (va_wsS RL 124 yL_galleries wsL_galleries) := goodIn_app (goodIn_of _ (by decide +kernel)) ggL_law_L_galleries
set_option maxRecDepth 20000 in
theorem ggL_law_X5_galleries : GoodIn wsL_law wsX5_galleries := goodIn_r _ [558, 73, 491, 492, 493, 5, 494, 420, 421, 422, 423, 72, 231, 287, 65, 66, 67, 288, 289, 290, 291, 292, 293, 294, 295, 296, 297, 298, 299, 300, 301, 68, 70, 69, 328, 329, 330, 331, 424, 425, 426, 427, 428, 429, 430, 431, 232, 233, 234, 235, 236, 237, 238, 239, 495, 496, 497, 498, 559, 560, 561, 562, 802, 803, 804, 805, 806, 807, 808, 809, 810, 811, 812, 813, 814, 815, 816, 817, 818, 819, 820] (by decide +kernel) (by decide +kernel)
set_option maxRecDepth 20000 in
theorem gL_law_X5_galleries : GoodIn wsL_law (wsV RL 126 RX5 yX5_galleries wsX5_galleries) := goodIn_app (goodIn_of _ (by decide +kernel)) ggL_law_X5_galleries
set_option maxRecDepth 20000 in
theorem ggL_law_L_gallery : GoodIn wsL_law wsL_gallery := goodIn_ca (goodIn_r _ [565, 255, 566, 567, 568, 2, 569, 24, 463, 464, 465, 466, 264, 265, 412, 413, 414, 23, 415, 55, 529, 530, 531, 570, 571, 572, 573, 52, 53, 574, 575, 576, 577, 178, 179, 180, 124, 125, 578, 347, 348, 349, 350, 351, 352, 798, 799, 800, 801, 831, 832, 833, 834] (by decide +kernel) (by decide +kernel)) (goodIn_sub (fun _ h => List.mem_append_right _ h) (by decide +kernel))
set_option maxRecDepth 20000 in
theorem gL_law_L_gallery : GoodIn wsL_law (va_wsS RL 127 yL_gallery wsL_gallery) := goodIn_app (goodIn_of _ (by decide +kernel)) ggL_law_L_gallery
set_option maxRecDepth 20000 in
theorem ggL_law_X5_gallery : GoodIn wsL_law wsX5_gallery := goodIn_r _ [582, 231, 72, 73, 491, 492, 493, 5, 494, 420, 421, 422, 423, 287, 65, 66, 67, 288, 289, 290, 291, 292, 293, 294, 295, 296, 297, 298, 299, 300, 301, 68, 70, 69, 328, 329, 330, 331, 424, 425, 426, 427, 428, 429, 430, 431, 232, 233, 234, 235, 236, 237, 238, 239, 495, 496, 497, 498, 559, 560, 561, 562, 518, 519, 520, 521, 802, 803, 804, 805, 806, 807, 808, 809, 810, 811, 812, 813, 814, 815, 816, 817, 818, 819, 820] (by decide +kernel) (by decide +kernel)
set_option maxRecDepth 20000 in
theorem gL_law_X5_gallery : GoodIn wsL_law (wsV RL 129 RX5 yX5_gallery wsX5_gallery) := goodIn_app (goodIn_of _ (by decide +kernel)) ggL_law_X5_gallery
set_option maxRecDepth 20000 in
theorem ggL_law_L_project : GoodIn wsL_law wsL_project := goodIn_ca (goodIn_r _ [585, 255, 586, 587, 588, 2, 589, 24, 20, 463, 464, 465, 466, 264, 265, 412, 413, 414, 23, 415, 55, 309, 310, 311, 312, 282, 171, 172, 19, 173, 47, 467, 468, 469, 470, 52, 590, 484, 485, 486, 45, 46, 510, 511, 512, 513, 53, 798, 799, 800, 801, 831, 832, 833, 834, 825, 826, 827, 828, 829, 830] (by decide +kernel) (by decide +kernel)) (goodIn_sub (fun _ h => List.mem_append_right _ h) (by decide +kernel))
set_option maxRecDepth 20000 in
theorem gL_law_L_project : GoodIn wsL_law (va_wsS RL 130 yL_project wsL_project) := goodIn_app (goodIn_of _ (by decide +kernel)) ggL_law_L_project
set_option maxRecDepth 20000 in
theorem ggL_law_X5_project : GoodIn wsL_law wsX5_project := goodIn_r _ [594, 287, 231, 491, 492, 493, 5, 494, 420, 421, 422, 423, 72, 65, 66, 67, 288, 289, 290, 291, 292, 293, 294, 295, 296, 297, 298, 299, 300, 301, 68, 70, 69, 328, 329, 330, 331, 424, 425, 426, 427, 428, 429, 430, 431, 232, 233, 234, 235, 236, 237, 238, 239, 495, 496, 497, 498, 518, 519, 520, 521, 802, 803, 804, 805, 806, 807, 808, 809, 810, 811, 812, 813, 814, 815, 816, 817, 818, 819, 820] (by decide +kernel) (by decide +kernel)
set_option maxRecDepth 20000 in
theorem gL_law_X5_project : GoodIn wsL_law (wsV RL 132 RX5 yX5_project wsX5_project) := goodIn_app (goodIn_of _ (by decide +kernel)) ggL_law_X5_project
set_option maxRecDepth 20000 in
theorem ggL_law_L_best : GoodIn wsL_law wsL_best := goodIn_ca (goodIn_ca (goodIn_r _ [597, 255, 82, 598, 599, 600, 2, 601, 88, 89, 24, 16, 20, 463, 464, 465, 466, 264, 265, 412, 413, 414, 23, 415, 55, 92, 93, 94, 602, 603, 604, 605, 52, 165, 117, 118, 15, 119, 37, 185, 186, 187, 188, 35, 189, 190, 191, 192, 34, 440, 441, 442, 443, 178, 179, 180, 124, 125, 467, 468, 469, 470, 606, 607, 608, 19, 609, 47, 479, 480, 481, 482, 483, 484, 485, 486, 45, 46, 610, 611, 612, 613, 42, 43, 44, 798, 799, 800, 801, 831, 832, 833, 834, 821, 822, 823, 824, 825, 826, 827, 828, 829, 830] (by decide +kernel) (by decide +kernel)) (goodIn_sub (fun _ h => List.mem_append_left _ (List.mem_append_left _ (List.mem_append_right _ h))) (by decide +kernel))) (goodIn_sub (fun _ h => List.mem_append_right _ h) (by decide +kernel))
set_option maxRecDepth 20000 in
theorem gL_law_L_best : GoodIn wsL_law (va_wsS RL 133 yL_best wsL_best) := goodIn_app (goodIn_of _ (by decide +kernel)) ggL_law_L_best
set_option maxRecDepth 20000 in
theorem ggL_law_X5_best : GoodIn wsL_law wsX5_best := goodIn_r _ [617, 231, 66, 65, 287, 68, 69, 70, 491, 492, 493, 5, 494, 420, 421, 422, 423, 72, 67, 288, 289, 290, 291, 292, 293, 294, 295, 296, 297, 298, 299, 300, 301, 328, 329, 330, 331, 424, 425, 426, 427, 428, 429, 430, 431, 232, 233, 234, 235, 236, 237, 238, 239, 495, 496, 497, 498, 452, 453, 454, 455, 499, 500, 501, 502, 802, 803, 804, 805, 806, 807, 808, 809, 810, 811, 812, 813, 814, 815, 816, 817, 818, 819, 820] (by decide +kernel) (by decide +kernel)
set_option maxRecDepth 20000 in
theorem gL_law_X5_best : GoodIn wsL_law (wsV RL 135 RX5 yX5_best wsX5_best) := goodIn_app (goodIn_of _ (by decide +kernel)) ggL_law_X5_best
set_option maxRecDepth 20000 in
theorem ggL_law_L_reflected : GoodIn wsL_law wsL_reflected := goodIn_ca (goodIn_r _ [620, 255, 621, 622, 623, 2, 624, 16, 260, 261, 262, 263, 264, 265, 226, 117, 118, 15, 119, 37, 625, 626, 627, 628, 34, 35, 36, 629, 100, 101, 102, 798, 799, 800, 801, 821, 822, 823, 824] (by decide +kernel) (by decide +kernel)) (goodIn_sub (fun _ h => List.mem_append_right _ h) (by decide +kernel))
set_option maxRecDepth 20000 in
theorem gL_law_L_reflected : GoodIn wsL_law (va_wsS RL 136 yL_reflected wsL_reflected) := goodIn_app (goodIn_of _ (by decide +kernel)) ggL_law_L_reflected
set_option maxRecDepth 20000 in
theorem ggL_law_X5_reflected : GoodIn wsL_law wsX5_reflected := goodIn_r _ [633, 274, 275, 276, 5, 277, 231, 232, 233, 234, 235, 236, 237, 238, 239, 634, 635, 636, 637, 65, 66, 638, 639, 67, 640, 240, 241, 242, 243, 244, 245, 246, 247, 802, 803, 804, 805, 806, 807, 808, 809, 810, 811, 812, 813, 814, 815, 816, 817, 818, 819, 820] (by decide +kernel) (by decide +kernel)
set_option maxRecDepth 20000 in
theorem gL_law_X5_reflected : GoodIn wsL_law (wsV RL 138 RX5 yX5_reflected wsX5_reflected) := goodIn_app (goodIn_of _ (by decide +kernel)) ggL_law_X5_reflected
set_option maxRecDepth 20000 in
theorem ggL_law_X4_isKaleidoscope : GoodIn wsL_law wsX4_isKaleidoscope := goodIn_r _ [644, 16, 226, 117, 118, 15, 119, 37, 625, 626, 627, 628, 34, 35, 36, 629, 100, 101, 102, 798, 799, 800, 801, 821, 822, 823, 824] (by decide +kernel) (by decide +kernel)
set_option maxRecDepth 20000 in
theorem gL_law_X4_isKaleidoscope : GoodIn wsL_law (wsV RL 139 RX4 yX4_isKaleidoscope wsX4_isKaleidoscope) := goodIn_app (goodIn_of _ (by decide +kernel)) ggL_law_X4_isKaleidoscope
set_option maxRecDepth 20000 in
theorem ggL_law_X5_isKaleidoscope : GoodIn wsL_law wsX5_isKaleidoscope := goodIn_r _ [648, 239, 231, 634, 635, 636, 5, 637, 65, 66, 638, 639, 67, 640, 240, 241, 242, 243, 244, 245, 246, 247, 802, 803, 804, 805, 806, 807, 808, 809, 810, 811, 812, 813, 814, 815, 816, 817, 818, 819, 820] (by decide +kernel) (by decide +kernel)
set_option maxRecDepth 20000 in
theorem gL_law_X5_isKaleidoscope : GoodIn wsL_law (wsV RL 143 RX5 yX5_isKaleidoscope wsX5_isKaleidoscope) := goodIn_app (goodIn_of _ (by decide +kernel)) ggL_law_X5_isKaleidoscope
set_option maxRecDepth 20000 in
theorem ggL_law_X4_pairs : GoodIn wsL_law wsX4_pairs := goodIn_r _ [652, 16, 20, 226, 117, 118, 15, 119, 37, 653, 654, 655, 19, 656, 47, 45, 657, 175, 176, 177, 178, 2, 179, 180, 124, 125, 798, 799, 800, 801, 821, 822, 823, 824, 825, 826, 827, 828, 829, 830] (by decide +kernel) (by decide +kernel)
set_option maxRecDepth 20000 in
theorem gL_law_X4_pairs : GoodIn wsL_law (wsV RL 144 RX4 yX4_pairs wsX4_pairs) := goodIn_app (goodIn_of _ (by decide +kernel)) ggL_law_X4_pairs
set_option maxRecDepth 20000 in
theorem ggL_law_X5_pairs : GoodIn wsL_law wsX5_pairs := goodIn_r _ [661, 239, 231, 288, 289, 290, 5, 291, 287, 65, 66, 67, 292, 293, 294, 295, 296, 297, 298, 299, 300, 301, 68, 70, 69, 662, 663, 664, 665, 324, 325, 326, 327, 328, 329, 330, 331, 802, 803, 804, 805, 806, 807, 808, 809, 810, 811, 812, 813, 814, 815, 816, 817, 818, 819, 820] (by decide +kernel) (by decide +kernel)
set_option maxRecDepth 20000 in
theorem gL_law_X5_pairs : GoodIn wsL_law (wsV RL 147 RX5 yX5_pairs wsX5_pairs) := goodIn_app (goodIn_of _ (by decide +kernel)) ggL_law_X5_pairs
set_option maxRecDepth 20000 in
theorem ggL_law_L_pair : GoodIn wsL_law wsL_pair := goodIn_ca (goodIn_r _ [668, 255, 669, 670, 671, 2, 672, 16, 20, 529, 530, 531, 264, 265, 226, 117, 118, 15, 119, 37, 653, 654, 655, 19, 656, 47, 45, 657, 175, 176, 177, 178, 179, 180, 124, 125, 798, 799, 800, 801, 821, 822, 823, 824, 825, 826, 827, 828, 829, 830] (by decide +kernel) (by decide +kernel)) (goodIn_sub (fun _ h => List.mem_append_right _ h) (by decide +kernel))
set_option maxRecDepth 20000 in
theorem gL_law_L_pair : GoodIn wsL_law (va_wsS RL 148 yL_pair wsL_pair) := goodIn_app (goodIn_of _ (by decide +kernel)) ggL_law_L_pair
set_option maxRecDepth 20000 in
theorem ggL_law_X5_pair : GoodIn wsL_law wsX5_pair := goodIn_r _ [676, 231, 235, 236, 237, 5, 238, 239, 288, 289, 290, 291, 287, 65, 66, 67, 292, 293, 294, 295, 296, 297, 298, 299, 300, 301, 68, 70, 69, 662, 663, 664, 665, 324, 325, 326, 327, 328, 329, 330, 331, 802, 803, 804, 805, 806, 807, 808, 809, 810, 811, 812, 813, 814, 815, 816, 817, 818, 819, 820] (by decide +kernel) (by decide +kernel)
set_option maxRecDepth 20000 in
theorem gL_law_X5_pair : GoodIn wsL_law (wsV RL 150 RX5 yX5_pair wsX5_pair) := goodIn_app (goodIn_of _ (by decide +kernel)) ggL_law_X5_pair
set_option maxRecDepth 20000 in
theorem ggL_law_L_edge : GoodIn wsL_law wsL_edge := goodIn_ca (goodIn_ca (goodIn_r _ [679, 255, 82, 680, 681, 682, 2, 683, 264, 265, 88, 89, 28, 684, 685, 686, 687, 688, 689, 27, 690, 60, 691, 692, 693, 694, 695, 696, 697, 698, 699, 700, 701, 702, 703, 704, 705, 706, 707, 798, 799, 800, 801, 835] (by decide +kernel) (by decide +kernel)) (goodIn_sub (fun _ h => List.mem_append_right _ h) (by decide +kernel))) (goodIn_sub (fun _ h => List.mem_append_left _ (List.mem_append_left _ (List.mem_append_right _ h))) (by decide +kernel))
set_option maxRecDepth 20000 in
theorem gL_law_L_edge : GoodIn wsL_law (va_wsS RL 151 yL_edge wsL_edge) := goodIn_app (goodIn_of _ (by decide +kernel)) ggL_law_L_edge
set_option maxRecDepth 20000 in
theorem ggL_law_X5_edge : GoodIn wsL_law wsX5_edge := goodIn_r _ [711, 712, 74, 75, 232, 233, 5, 234, 235, 236, 237, 238, 239, 802, 803, 804, 805, 806, 807, 808, 809, 810, 811, 812, 813, 814, 815, 816, 817, 818, 819, 820] (by decide +kernel) (by decide +kernel)
set_option maxRecDepth 20000 in
theorem gL_law_X5_edge : GoodIn wsL_law (wsV RL 153 RX5 yX5_edge wsX5_edge) := goodIn_app (goodIn_of _ (by decide +kernel)) ggL_law_X5_edge
set_option maxRecDepth 20000 in
theorem ggL_law_L_colourings : GoodIn wsL_law wsL_colourings := goodIn_ca (goodIn_r _ [715, 82, 716, 717, 718, 2, 719, 28, 720, 721, 722, 88, 89, 723, 724, 725, 27, 726, 60, 727, 728, 729, 730, 731, 732, 694, 695, 696, 798, 799, 800, 801, 835] (by decide +kernel) (by decide +kernel)) (goodIn_sub (fun _ h => List.mem_append_left _ (List.mem_append_left _ (List.mem_append_right _ h))) (by decide +kernel))
set_option maxRecDepth 20000 in
theorem gL_law_L_colourings : GoodIn wsL_law (va_wsS RL 154 yL_colourings wsL_colourings) := goodIn_app (goodIn_of _ (by decide +kernel)) ggL_law_L_colourings
set_option maxRecDepth 20000 in
theorem ggL_law_X5_colourings : GoodIn wsL_law wsX5_colourings := goodIn_r _ [736, 76, 712, 74, 75, 232, 233, 5, 234, 235, 236, 237, 238, 239, 802, 803, 804, 805, 806, 807, 808, 809, 810, 811, 812, 813, 814, 815, 816, 817, 818, 819, 820] (by decide +kernel) (by decide +kernel)
set_option maxRecDepth 20000 in
theorem gL_law_X5_colourings : GoodIn wsL_law (wsV RL 156 RX5 yX5_colourings wsX5_colourings) := goodIn_app (goodIn_of _ (by decide +kernel)) ggL_law_X5_colourings
set_option maxRecDepth 20000 in
theorem ggL_law_L_colouringsAnew : GoodIn wsL_law wsL_colouringsAnew := goodIn_ca (goodIn_r _ [739, 82, 740, 741, 742, 2, 743, 28, 720, 721, 722, 88, 89, 744, 745, 746, 27, 747, 60, 748, 749, 750, 751, 752, 753, 754, 755, 756, 757, 730, 731, 732, 758, 759, 760, 178, 179, 180, 124, 125, 691, 692, 693, 694, 695, 696, 761, 762, 763, 798, 799, 800, 801, 835] (by decide +kernel) (by decide +kernel)) (goodIn_sub (fun _ h => List.mem_append_left _ (List.mem_append_left _ (List.mem_append_right _ h))) (by decide +kernel))
set_option maxRecDepth 20000 in
theorem gL_law_L_colouringsAnew : GoodIn wsL_law (va_wsS RL 157 yL_colouringsAnew wsL_colouringsAnew) := goodIn_app (goodIn_of _ (by decide +kernel)) ggL_law_L_colouringsAnew
set_option maxRecDepth 20000 in
theorem ggL_law_X5_colouringsAnew : GoodIn wsL_law wsX5_colouringsAnew := goodIn_r _ [767, 232, 233, 5, 234, 235, 236, 237, 238, 239, 768, 769, 770, 771, 712, 77, 74, 75, 802, 803, 804, 805, 806, 807, 808, 809, 810, 811, 812, 813, 814, 815, 816, 817, 818, 819, 820] (by decide +kernel) (by decide +kernel)
set_option maxRecDepth 20000 in
theorem gL_law_X5_colouringsAnew : GoodIn wsL_law (wsV RL 159 RX5 yX5_colouringsAnew wsX5_colouringsAnew) := goodIn_app (goodIn_of _ (by decide +kernel)) ggL_law_X5_colouringsAnew
set_option maxRecDepth 20000 in
theorem ggL_law_X4_directions : GoodIn wsL_law wsX4_directions := goodIn_r _ [775, 28, 776, 777, 778, 27, 779, 60, 780, 781, 782, 751, 755, 756, 757, 730, 731, 732, 758, 759, 760, 178, 2, 179, 180, 124, 125, 691, 692, 693, 694, 695, 696, 783, 784, 785, 798, 799, 800, 801, 835] (by decide +kernel) (by decide +kernel)
set_option maxRecDepth 20000 in
theorem gL_law_X4_directions : GoodIn wsL_law (wsV RL 160 RX4 yX4_directions wsX4_directions) := goodIn_app (goodIn_of _ (by decide +kernel)) ggL_law_X4_directions
set_option maxRecDepth 20000 in
theorem ggL_law_X5_directions : GoodIn wsL_law wsX5_directions := goodIn_r _ [789, 239, 712, 75, 74, 802, 803, 804, 805, 806, 807, 808, 809, 810, 811, 812, 813, 814, 815, 816, 817, 818, 819, 820] (by decide +kernel) (by decide +kernel)
set_option maxRecDepth 20000 in
theorem gL_law_X5_directions : GoodIn wsL_law (wsV RL 163 RX5 yX5_directions wsX5_directions) := goodIn_app (goodIn_of _ (by decide +kernel)) ggL_law_X5_directions
set_option maxRecDepth 20000 in
theorem ggL_law_X4_directionsAnew : GoodIn wsL_law wsX4_directionsAnew := goodIn_r _ [793, 28, 744, 745, 746, 27, 747, 60, 748, 749, 750, 751, 752, 753, 754, 755, 756, 757, 730, 731, 732, 758, 759, 760, 178, 2, 179, 180, 124, 125, 691, 692, 693, 694, 695, 696, 761, 762, 763, 798, 799, 800, 801, 835] (by decide +kernel) (by decide +kernel)
set_option maxRecDepth 20000 in
theorem gL_law_X4_directionsAnew : GoodIn wsL_law (wsV RL 164 RX4 yX4_directionsAnew wsX4_directionsAnew) := goodIn_app (goodIn_of _ (by decide +kernel)) ggL_law_X4_directionsAnew
set_option maxRecDepth 20000 in
theorem ggL_law_X5_directionsAnew : GoodIn wsL_law wsX5_directionsAnew := goodIn_r _ [797, 239, 768, 769, 770, 5, 771, 712, 77, 74, 75, 802, 803, 804, 805, 806, 807, 808, 809, 810, 811, 812, 813, 814, 815, 816, 817, 818, 819, 820] (by decide +kernel) (by decide +kernel)
set_option maxRecDepth 20000 in
theorem gL_law_X5_directionsAnew : GoodIn wsL_law (wsV RL 167 RX5 yX5_directionsAnew wsX5_directionsAnew) := goodIn_app (goodIn_of _ (by decide +kernel)) ggL_law_X5_directionsAnew
