set_option maxRecDepth 512
set_option maxRecDepth 20000 in
theorem ggL_law_L_laid : GoodIn wsL_law wsL_laid := goodIn_ca (goodIn_ca (goodIn_r _ [638, 196, 93, 639, 640, 641, 2, 642, 16, 278, 205, 206, 207, 208, 209, 210, 211, 212, 40, 213, 119, 610, 611, 612, 103, 104, 227, 223, 224, 225, 51, 52, 835, 836, 837, 838, 839, 840, 851, 852, 853, 854, 855, 856, 869, 870, 871] (by decide +kernel) (by decide +kernel)) (goodIn_sub (fun _ h => List.mem_append_right _ h) (by decide +kernel))) (goodIn_sub (fun _ h => List.mem_append_left _ (List.mem_append_left _ (List.mem_append_right _ h))) (by decide +kernel))
set_option maxRecDepth 20000 in
theorem gL_law_L_laid : GoodIn wsL_law (va_wsS RL 137 yL_laid wsL_laid) := goodIn_app (goodIn_of _ (by decide +kernel)) ggL_law_L_laid
set_option maxRecDepth 20000 in
theorem ggL_law_X7_laid : GoodIn wsL_law wsX7_laid := goodIn_r _ [646, 82, 168, 169, 5, 170, 175, 176, 177, 178, 179, 287, 288, 289, 841, 842, 843, 844, 845, 846, 847, 848, 849, 850] (by decide +kernel) (by decide +kernel)
set_option maxRecDepth 20000 in
theorem gL_law_X7_laid : GoodIn wsL_law (wsV RL 139 RX7 yX7_laid wsX7_laid) := goodIn_app (goodIn_of _ (by decide +kernel)) ggL_law_X7_laid
set_option maxRecDepth 20000 in
theorem ggL_law_L_count : GoodIn wsL_law wsL_count := goodIn_ca (goodIn_r _ [649, 93, 650, 651, 652, 2, 653, 610, 611, 612, 103, 104, 654, 655, 656, 657, 16, 99, 254, 278, 111, 28, 560, 307, 308, 40, 309, 119, 658, 343, 344, 15, 345, 42, 346, 347, 348, 349, 266, 223, 224, 225, 51, 52, 659, 420, 421, 422, 43, 306, 383, 384, 385, 386, 222, 660, 338, 339, 340, 341, 342, 661, 662, 663, 664, 382, 219, 220, 221, 302, 303, 304, 305, 414, 415, 416, 417, 44, 418, 419, 665, 666, 667, 668, 591, 592, 593, 27, 594, 125, 835, 836, 837, 838, 839, 840, 851, 852, 853, 854, 855, 856, 869, 870, 871, 864, 865, 866] (by decide +kernel) (by decide +kernel)) (goodIn_sub (fun _ h => List.mem_append_left _ (List.mem_append_left _ (List.mem_append_right _ h))) (by decide +kernel))
set_option maxRecDepth 20000 in
theorem gL_law_L_count : GoodIn wsL_law (va_wsS RL 140 yL_count wsL_count) := goodIn_app (goodIn_of _ (by decide +kernel)) ggL_law_L_count
set_option maxRecDepth 20000 in
theorem ggL_law_X7_count : GoodIn wsL_law wsX7_count := goodIn_r _ [672, 168, 169, 5, 170, 175, 176, 177, 178, 179, 673, 674, 675, 676, 82, 429, 184, 471, 472, 473, 474, 677, 678, 679, 680, 287, 288, 289, 447, 448, 449, 450, 244, 245, 246, 171, 172, 173, 174, 467, 468, 469, 470, 681, 682, 683, 684, 685, 686, 687, 688, 841, 842, 843, 844, 845, 846, 847, 848, 849, 850] (by decide +kernel) (by decide +kernel)
set_option maxRecDepth 20000 in
theorem gL_law_X7_count : GoodIn wsL_law (wsV RL 142 RX7 yX7_count wsX7_count) := goodIn_app (goodIn_of _ (by decide +kernel)) ggL_law_X7_count
set_option maxRecDepth 20000 in
theorem ggL_law_L_setting : GoodIn wsL_law wsL_setting := goodIn_ca (goodIn_r _ [691, 196, 692, 693, 694, 2, 695, 488, 489, 490, 208, 209, 495, 496, 497, 498, 16, 486, 487, 835, 836, 837, 838, 839, 840, 851, 852, 853, 854, 855, 856] (by decide +kernel) (by decide +kernel)) (goodIn_sub (fun _ h => List.mem_append_right _ h) (by decide +kernel))
set_option maxRecDepth 20000 in
theorem gL_law_L_setting : GoodIn wsL_law (va_wsS RL 143 yL_setting wsL_setting) := goodIn_app (goodIn_of _ (by decide +kernel)) ggL_law_L_setting
set_option maxRecDepth 20000 in
theorem ggL_law_X7_setting : GoodIn wsL_law wsX7_setting := goodIn_r _ [699, 82, 168, 169, 5, 170, 175, 176, 177, 178, 179, 841, 842, 843, 844, 845, 846, 847, 848, 849, 850] (by decide +kernel) (by decide +kernel)
set_option maxRecDepth 20000 in
theorem gL_law_X7_setting : GoodIn wsL_law (wsV RL 145 RX7 yX7_setting wsX7_setting) := goodIn_app (goodIn_of _ (by decide +kernel)) ggL_law_X7_setting
set_option maxRecDepth 20000 in
theorem ggL_law_X6_ifArrived : GoodIn wsL_law wsX6_ifArrived := goodIn_r _ [703, 16, 20, 321, 322, 323, 2, 324, 24, 325, 326, 327, 23, 328, 329, 330, 331, 332, 333, 334, 335, 336, 337, 63, 338, 339, 340, 15, 341, 342, 343, 344, 345, 42, 346, 347, 348, 40, 349, 119, 266, 223, 224, 225, 51, 52, 350, 351, 352, 19, 353, 57, 58, 354, 355, 356, 357, 358, 359, 360, 361, 218, 219, 220, 221, 222, 362, 363, 364, 365, 704, 705, 706, 707, 418, 44, 43, 419, 420, 421, 422, 306, 307, 308, 309, 383, 384, 385, 386, 378, 379, 380, 381, 382, 387, 388, 389, 390, 374, 375, 376, 377, 370, 371, 372, 373, 391, 392, 393, 394, 395, 396, 397, 301, 127, 128, 129, 45, 398, 399, 400, 401, 406, 407, 408, 409, 835, 836, 837, 838, 839, 840, 862, 863, 851, 852, 853, 854, 855, 856, 869, 870, 871, 857, 858, 859, 860, 861] (by decide +kernel) (by decide +kernel)
set_option maxRecDepth 20000 in
theorem gL_law_X6_ifArrived : GoodIn wsL_law (wsV RL 146 RX6 yX6_ifArrived wsX6_ifArrived) := goodIn_app (goodIn_of _ (by decide +kernel)) ggL_law_X6_ifArrived
