set_option maxRecDepth 512
set_option maxRecDepth 20000 in
theorem ggL_dg_4 : GoodIn wsL_law wsX7_digest_r4 := goodIn_r _ [441, 442, 443, 444, 445, 446, 451, 452, 453, 454, 427, 455, 456, 457, 458, 459, 460, 461, 462, 463, 464, 465, 466, 475] (by decide +kernel) (by decide +kernel)
set_option maxRecDepth 20000 in
theorem ggL_dg_5 : GoodIn wsL_law wsX7_digest_r5 := goodIn_r _ [476, 477, 478, 768, 769, 770, 771, 712, 713, 714, 715, 430, 431, 432, 433, 434, 168, 169, 170, 435, 436, 437, 438, 236] (by decide +kernel) (by decide +kernel)
set_option maxRecDepth 20000 in
theorem ggL_dg_6 : GoodIn wsL_law wsX7_digest_r6 := goodIn_r _ [237, 238, 239, 232, 233, 234, 235, 747, 748, 749, 750, 781, 782, 783, 784, 823, 824, 825, 826, 827, 828, 829, 830, 831] (by decide +kernel) (by decide +kernel)
set_option maxRecDepth 20000 in
theorem ggL_dg_7 : GoodIn wsL_law wsX7_digest_r7 := goodIn_r _ [832, 833, 834] (by decide +kernel) (by decide +kernel)
set_option maxRecDepth 20000 in
theorem ggL_dg_8 : GoodIn wsL_law wsX70 := goodIn_r _ [841, 842, 843, 844, 845, 846, 847, 848, 849, 850] (by decide +kernel) (by decide +kernel)
theorem ggL_law_X7_digest : GoodIn wsL_law wsX7_digest := fun w h => (List.mem_cons.mp h).elim (fun e => ggL_dg_0 w (List.mem_cons.mpr (Or.inl e))) (goodIn_app (goodIn_app ggL_dg_1 (goodIn_app ggL_dg_2 (goodIn_app ggL_dg_3 (goodIn_app ggL_dg_4 (goodIn_app ggL_dg_5 (goodIn_app ggL_dg_6 ggL_dg_7)))))) ggL_dg_8 w)
set_option maxRecDepth 20000 in
theorem gL_law_X7_digest : GoodIn wsL_law (wsV RL 169 RX7 yX7_digest wsX7_digest) := goodIn_app (goodIn_of _ (by decide +kernel)) ggL_law_X7_digest
