set_option maxRecDepth 512
set_option maxRecDepth 20000 in
theorem ggL_dg_0 : GoodIn wsL_law [Cond.code yX7_digest cX7_digest 5 (some .long)] := goodIn_r _ [820] (by decide +kernel) (by decide +kernel)
set_option maxRecDepth 20000 in
theorem ggL_dg_1 : GoodIn wsL_law wsX7_digest_r1 := goodIn_r _ [179, 821, 822, 82, 84, 428, 86, 673, 674, 675, 5, 676, 429, 184, 471, 472, 473, 474, 677, 678, 679, 680, 287, 288] (by decide +kernel) (by decide +kernel)
set_option maxRecDepth 20000 in
theorem ggL_dg_2 : GoodIn wsL_law wsX7_digest_r2 := goodIn_r _ [289, 447, 448, 449, 450, 244, 245, 246, 171, 172, 173, 174, 467, 468, 469, 470, 681, 682, 683, 684, 685, 686, 687, 688] (by decide +kernel) (by decide +kernel)
set_option maxRecDepth 20000 in
theorem ggL_dg_3 : GoodIn wsL_law wsX7_digest_r3 := goodIn_r _ [617, 618, 619, 620, 240, 241, 242, 243, 621, 622, 623, 624, 731, 732, 733, 734, 735, 736, 737, 738, 87, 88, 439, 440] (by decide +kernel) (by decide +kernel)
