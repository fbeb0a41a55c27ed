set_option maxRecDepth 512
set_option maxRecDepth 20000 in
theorem ggL_law_X7_keep : GoodIn wsL_law wsX7_keep := goodIn_r _ [564, 84, 82, 168, 169, 5, 170, 175, 176, 177, 178, 179, 185, 186, 187, 188, 841, 842, 843, 844, 845, 846, 847, 848, 849, 850] (by decide +kernel) (by decide +kernel)
set_option maxRecDepth 20000 in
theorem gL_law_X7_keep : GoodIn wsL_law (wsV RL 124 RX7 yX7_keep wsX7_keep) := goodIn_app (goodIn_of _ (by decide +kernel)) ggL_law_X7_keep
set_option maxRecDepth 20000 in
theorem ggL_law_L_goBack : GoodIn wsL_law wsL_goBack := goodIn_ca (goodIn_ca (goodIn_r _ [567, 93, 94, 568, 569, 570, 2, 571, 109, 110, 28, 16, 254, 547, 548, 549, 103, 104, 550, 551, 552, 553, 32, 33, 572, 573, 574, 31, 575, 558, 120, 121, 122, 27, 123, 124, 125, 126, 127, 128, 129, 130, 131, 132, 133, 69, 134, 135, 136, 15, 137, 42, 43, 44, 138, 45, 46, 139, 140, 141, 40, 142, 119, 52, 143, 144, 145, 146, 147, 576, 577, 578, 579, 76, 559, 560, 307, 308, 309, 835, 836, 837, 838, 839, 840, 851, 852, 853, 854, 855, 856, 867, 868, 864, 865, 866, 869, 870, 871] (by decide +kernel) (by decide +kernel)) (goodIn_sub (fun _ h => List.mem_append_left _ (List.mem_append_right _ h)) (by decide +kernel))) (goodIn_sub (fun _ h => List.mem_append_left _ (List.mem_append_left _ (List.mem_append_right _ h))) (by decide +kernel))
set_option maxRecDepth 20000 in
theorem gL_law_L_goBack : GoodIn wsL_law (va_wsS RL 125 yL_goBack wsL_goBack) := goodIn_app (goodIn_of _ (by decide +kernel)) ggL_law_L_goBack
set_option maxRecDepth 20000 in
theorem ggL_law_X7_goBack : GoodIn wsL_law wsX7_goBack := goodIn_r _ [583, 84, 82, 168, 169, 5, 170, 175, 176, 177, 178, 179, 180, 181, 182, 183, 184, 185, 186, 187, 188, 841, 842, 843, 844, 845, 846, 847, 848, 849, 850] (by decide +kernel) (by decide +kernel)
set_option maxRecDepth 20000 in
theorem gL_law_X7_goBack : GoodIn wsL_law (wsV RL 127 RX7 yX7_goBack wsX7_goBack) := goodIn_app (goodIn_of _ (by decide +kernel)) ggL_law_X7_goBack
set_option maxRecDepth 20000 in
theorem ggL_law_L_undo : GoodIn wsL_law wsL_undo := goodIn_ca (goodIn_r _ [586, 94, 587, 588, 589, 2, 590, 109, 110, 28, 16, 591, 592, 593, 27, 594, 125, 595, 596, 597, 598, 124, 130, 131, 132, 133, 69, 134, 135, 136, 15, 137, 42, 43, 44, 138, 45, 46, 139, 140, 141, 40, 142, 119, 52, 143, 127, 128, 129, 144, 145, 146, 147, 835, 836, 837, 838, 839, 840, 864, 865, 866, 851, 852, 853, 854, 855, 856, 869, 870, 871] (by decide +kernel) (by decide +kernel)) (goodIn_sub (fun _ h => List.mem_append_left _ (List.mem_append_right _ h)) (by decide +kernel))
set_option maxRecDepth 20000 in
theorem gL_law_L_undo : GoodIn wsL_law (va_wsS RL 128 yL_undo wsL_undo) := goodIn_app (goodIn_of _ (by decide +kernel)) ggL_law_L_undo
set_option maxRecDepth 20000 in
theorem ggL_law_X7_undo : GoodIn wsL_law wsX7_undo := goodIn_r _ [602, 184, 175, 176, 177, 5, 178, 179, 185, 186, 187, 188, 82, 841, 842, 843, 844, 845, 846, 847, 848, 849, 850] (by decide +kernel) (by decide +kernel)
set_option maxRecDepth 20000 in
theorem gL_law_X7_undo : GoodIn wsL_law (wsV RL 130 RX7 yX7_undo wsX7_undo) := goodIn_app (goodIn_of _ (by decide +kernel)) ggL_law_X7_undo
set_option maxRecDepth 20000 in
theorem ggL_law_L_horseOf : GoodIn wsL_law wsL_horseOf := goodIn_ca (goodIn_ca (goodIn_r _ [605, 196, 93, 606, 607, 608, 2, 609, 16, 99, 201, 202, 203, 204, 205, 206, 207, 208, 209, 210, 211, 212, 40, 213, 119, 610, 611, 612, 103, 104, 227, 223, 224, 225, 51, 52, 835, 836, 837, 838, 839, 840, 851, 852, 853, 854, 855, 856, 869, 870, 871] (by decide +kernel) (by decide +kernel)) (goodIn_sub (fun _ h => List.mem_append_right _ h) (by decide +kernel))) (goodIn_sub (fun _ h => List.mem_append_left _ (List.mem_append_left _ (List.mem_append_right _ h))) (by decide +kernel))
set_option maxRecDepth 20000 in
theorem gL_law_L_horseOf : GoodIn wsL_law (va_wsS RL 131 yL_horseOf wsL_horseOf) := goodIn_app (goodIn_of _ (by decide +kernel)) ggL_law_L_horseOf
set_option maxRecDepth 20000 in
theorem ggL_law_X7_horseOf : GoodIn wsL_law wsX7_horseOf := goodIn_r _ [616, 232, 233, 234, 5, 235, 82, 168, 169, 170, 175, 176, 177, 178, 179, 617, 618, 619, 620, 240, 241, 242, 243, 244, 245, 246, 621, 622, 623, 624, 841, 842, 843, 844, 845, 846, 847, 848, 849, 850] (by decide +kernel) (by decide +kernel)
set_option maxRecDepth 20000 in
theorem gL_law_X7_horseOf : GoodIn wsL_law (wsV RL 133 RX7 yX7_horseOf wsX7_horseOf) := goodIn_app (goodIn_of _ (by decide +kernel)) ggL_law_X7_horseOf
set_option maxRecDepth 20000 in
theorem ggL_law_L_bet : GoodIn wsL_law wsL_bet := goodIn_ca (goodIn_ca (goodIn_r _ [627, 196, 93, 628, 629, 630, 2, 631, 16, 254, 205, 206, 207, 208, 209, 210, 211, 212, 40, 213, 119, 610, 611, 612, 103, 104, 227, 223, 224, 225, 51, 52, 835, 836, 837, 838, 839, 840, 851, 852, 853, 854, 855, 856, 869, 870, 871] (by decide +kernel) (by decide +kernel)) (goodIn_sub (fun _ h => List.mem_append_right _ h) (by decide +kernel))) (goodIn_sub (fun _ h => List.mem_append_left _ (List.mem_append_left _ (List.mem_append_right _ h))) (by decide +kernel))
set_option maxRecDepth 20000 in
theorem gL_law_L_bet : GoodIn wsL_law (va_wsS RL 134 yL_bet wsL_bet) := goodIn_app (goodIn_of _ (by decide +kernel)) ggL_law_L_bet
set_option maxRecDepth 20000 in
theorem ggL_law_X7_bet : GoodIn wsL_law wsX7_bet := goodIn_r _ [635, 82, 168, 169, 5, 170, 175, 176, 177, 178, 179, 244, 245, 246, 841, 842, 843, 844, 845, 846, 847, 848, 849, 850] (by decide +kernel) (by decide +kernel)
set_option maxRecDepth 20000 in
theorem gL_law_X7_bet : GoodIn wsL_law (wsV RL 136 RX7 yX7_bet wsX7_bet) := goodIn_app (goodIn_of _ (by decide +kernel)) ggL_law_X7_bet
