set_option maxRecDepth 512
set_option maxRecDepth 20000 in
theorem ggL_law_X7_settle : GoodIn wsL_law wsX7_settle := goodIn_r _ [426, 82, 427, 87, 88, 428, 429, 430, 431, 432, 5, 433, 434, 86, 168, 169, 170, 435, 436, 437, 438, 439, 440, 441, 442, 236, 237, 238, 239, 232, 233, 234, 235, 171, 172, 173, 174, 175, 176, 177, 178, 179, 180, 181, 182, 183, 184, 185, 186, 187, 188, 443, 444, 445, 446, 447, 448, 449, 450, 244, 245, 246, 451, 452, 453, 454, 455, 456, 457, 458, 459, 460, 461, 462, 463, 464, 465, 466, 467, 468, 469, 470, 471, 472, 473, 474, 475, 476, 477, 478, 287, 288, 289, 841, 842, 843, 844, 845, 846, 847, 848, 849, 850] (by decide +kernel) (by decide +kernel)
set_option maxRecDepth 20000 in
theorem gL_law_X7_settle : GoodIn wsL_law (wsV RL 107 RX7 yX7_settle wsX7_settle) := goodIn_app (goodIn_of _ (by decide +kernel)) ggL_law_X7_settle
set_option maxRecDepth 20000 in
theorem ggL_law_L_set : GoodIn wsL_law wsL_set := goodIn_ca (goodIn_ca (goodIn_ca (goodIn_r _ [481, 196, 93, 94, 482, 483, 484, 2, 485, 103, 104, 28, 16, 486, 487, 488, 489, 490, 208, 209, 491, 492, 493, 494, 105, 106, 107, 108, 109, 110, 111, 120, 121, 122, 27, 123, 124, 125, 126, 127, 128, 129, 130, 131, 132, 133, 69, 134, 135, 136, 15, 137, 42, 43, 44, 138, 45, 46, 139, 140, 141, 40, 142, 119, 52, 143, 144, 145, 146, 147, 495, 496, 497, 498, 835, 836, 837, 838, 839, 840, 851, 852, 853, 854, 855, 856, 864, 865, 866, 869, 870, 871] (by decide +kernel) (by decide +kernel)) (goodIn_sub (fun _ h => List.mem_append_left _ (List.mem_append_left _ (List.mem_append_right _ h))) (by decide +kernel))) (goodIn_sub (fun _ h => List.mem_append_right _ h) (by decide +kernel))) (goodIn_sub (fun _ h => List.mem_append_left _ (List.mem_append_right _ h)) (by decide +kernel))
set_option maxRecDepth 20000 in
theorem gL_law_L_set : GoodIn wsL_law (va_wsS RL 108 yL_set wsL_set) := goodIn_app (goodIn_of _ (by decide +kernel)) ggL_law_L_set
set_option maxRecDepth 20000 in
theorem ggL_law_X7_set : GoodIn wsL_law wsX7_set := goodIn_r _ [502, 503, 82, 168, 169, 5, 170, 171, 172, 173, 174, 175, 176, 177, 178, 179, 180, 181, 182, 183, 184, 185, 186, 187, 188, 841, 842, 843, 844, 845, 846, 847, 848, 849, 850] (by decide +kernel) (by decide +kernel)
set_option maxRecDepth 20000 in
theorem gL_law_X7_set : GoodIn wsL_law (wsV RL 110 RX7 yX7_set wsX7_set) := goodIn_app (goodIn_of _ (by decide +kernel)) ggL_law_X7_set
set_option maxRecDepth 20000 in
theorem ggL_law_L_append : GoodIn wsL_law wsL_append := goodIn_ca (goodIn_ca (goodIn_r _ [506, 93, 94, 507, 508, 509, 2, 510, 103, 104, 109, 110, 24, 511, 512, 513, 23, 514, 329, 63, 515, 516, 517, 518, 357, 358, 359, 360, 835, 836, 837, 838, 839, 840, 862, 863] (by decide +kernel) (by decide +kernel)) (goodIn_sub (fun _ h => List.mem_append_left _ (List.mem_append_left _ (List.mem_append_right _ h))) (by decide +kernel))) (goodIn_sub (fun _ h => List.mem_append_left _ (List.mem_append_right _ h)) (by decide +kernel))
set_option maxRecDepth 20000 in
theorem gL_law_L_append : GoodIn wsL_law (va_wsS RL 111 yL_append wsL_append) := goodIn_app (goodIn_of _ (by decide +kernel)) ggL_law_L_append
set_option maxRecDepth 20000 in
theorem ggL_law_X7_append : GoodIn wsL_law wsX7_append := goodIn_r _ [522, 428, 86, 168, 169, 5, 170, 175, 176, 177, 178, 179, 841, 842, 843, 844, 845, 846, 847, 848, 849, 850] (by decide +kernel) (by decide +kernel)
set_option maxRecDepth 20000 in
theorem gL_law_X7_append : GoodIn wsL_law (wsV RL 113 RX7 yX7_append wsX7_append) := goodIn_app (goodIn_of _ (by decide +kernel)) ggL_law_X7_append
set_option maxRecDepth 20000 in
theorem ggL_law_X6_clearBuffer : GoodIn wsL_law wsX6_clearBuffer := goodIn_r _ [526, 24, 357, 358, 359, 23, 360, 329, 410, 411, 412, 413, 835, 836, 837, 838, 839, 840, 862, 863] (by decide +kernel) (by decide +kernel)
set_option maxRecDepth 20000 in
theorem gL_law_X6_clearBuffer : GoodIn wsL_law (wsV RL 114 RX6 yX6_clearBuffer wsX6_clearBuffer) := goodIn_app (goodIn_of _ (by decide +kernel)) ggL_law_X6_clearBuffer
set_option maxRecDepth 20000 in
theorem ggL_law_X7_clearBuffer : GoodIn wsL_law wsX7_clearBuffer := goodIn_r _ [530, 179, 428, 841, 842, 843, 844, 845, 846, 847, 848, 849, 850] (by decide +kernel) (by decide +kernel)
set_option maxRecDepth 20000 in
theorem gL_law_X7_clearBuffer : GoodIn wsL_law (wsV RL 117 RX7 yX7_clearBuffer wsX7_clearBuffer) := goodIn_app (goodIn_of _ (by decide +kernel)) ggL_law_X7_clearBuffer
set_option maxRecDepth 20000 in
theorem ggL_law_X6_firstError : GoodIn wsL_law wsX6_firstError := goodIn_r _ [534, 24, 535, 331, 332, 23, 333, 329, 334, 335, 336, 337, 63, 835, 836, 837, 838, 839, 840, 862, 863] (by decide +kernel) (by decide +kernel)
set_option maxRecDepth 20000 in
theorem gL_law_X6_firstError : GoodIn wsL_law (wsV RL 118 RX6 yX6_firstError wsX6_firstError) := goodIn_app (goodIn_of _ (by decide +kernel)) ggL_law_X6_firstError
set_option maxRecDepth 20000 in
theorem ggL_law_X7_firstError : GoodIn wsL_law wsX7_firstError := goodIn_r _ [539, 179, 434, 430, 431, 432, 5, 433, 428, 86, 168, 169, 170, 841, 842, 843, 844, 845, 846, 847, 848, 849, 850] (by decide +kernel) (by decide +kernel)
set_option maxRecDepth 20000 in
theorem gL_law_X7_firstError : GoodIn wsL_law (wsV RL 121 RX7 yX7_firstError wsX7_firstError) := goodIn_app (goodIn_of _ (by decide +kernel)) ggL_law_X7_firstError
set_option maxRecDepth 20000 in
theorem ggL_law_L_keep : GoodIn wsL_law wsL_keep := goodIn_ca (goodIn_r _ [542, 93, 543, 544, 545, 2, 546, 16, 254, 547, 548, 549, 103, 104, 550, 551, 552, 553, 32, 33, 554, 555, 556, 31, 557, 76, 558, 559, 135, 136, 15, 137, 42, 43, 44, 138, 45, 46, 139, 140, 141, 40, 142, 119, 52, 143, 127, 128, 129, 144, 145, 146, 147, 560, 307, 308, 309, 835, 836, 837, 838, 839, 840, 851, 852, 853, 854, 855, 856, 867, 868, 869, 870, 871] (by decide +kernel) (by decide +kernel)) (goodIn_sub (fun _ h => List.mem_append_left _ (List.mem_append_left _ (List.mem_append_right _ h))) (by decide +kernel))
set_option maxRecDepth 20000 in
theorem gL_law_L_keep : GoodIn wsL_law (va_wsS RL 122 yL_keep wsL_keep) := goodIn_app (goodIn_of _ (by decide +kernel)) ggL_law_L_keep
