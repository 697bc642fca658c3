set_option maxRecDepth 20000 in
theorem ggL_law_X4_digest_h : GoodIn wsL_law [.code yX4_digest cX4_digest 2 (some .long)] := goodIn_r _ [933] (by decide +kernel) (by decide +kernel)
set_option maxRecDepth 20000 in
theorem ggL_law_X4_digest_r1 : GoodIn wsL_law wsX4_digest_r1 := goodIn_r _ [70, 934, 935, 395, 63, 651, 652, 653, 5, 654, 59, 139, 266, 267, 268, 185, 186, 187, 269, 270, 271, 272, 273, 274] (by decide +kernel) (by decide +kernel)
set_option maxRecDepth 20000 in
theorem ggL_law_X4_digest_r2 : GoodIn wsL_law wsX4_digest_r2 := goodIn_r _ [275, 276, 277, 262, 263, 264, 265, 278, 279, 280, 655, 656, 657, 658, 936, 937, 938, 939, 940, 941, 942, 943, 944, 584] (by decide +kernel) (by decide +kernel)
set_option maxRecDepth 20000 in
theorem ggL_law_X4_digest_r3 : GoodIn wsL_law wsX4_digest_r3 := goodIn_r _ [585, 586, 587, 588, 589, 590, 591, 592, 593, 594, 595, 596, 597, 598, 599, 623, 624, 625, 626, 883, 884, 885, 886, 887] (by decide +kernel) (by decide +kernel)
set_option maxRecDepth 20000 in
theorem ggL_law_X4_digest_r4 : GoodIn wsL_law wsX4_digest_r4 := goodIn_r _ [888, 889, 890, 945, 946, 947, 948, 832, 949, 833, 834, 674, 675, 676, 677, 60, 369, 678, 679, 680, 681, 365, 366, 367] (by decide +kernel) (by decide +kernel)
set_option maxRecDepth 20000 in
theorem ggL_law_X4_digest_r5 : GoodIn wsL_law wsX4_digest_r5 := goodIn_r _ [368, 336, 370, 371, 372, 337, 338, 339, 340, 341, 342, 343, 344, 345, 346, 347, 348, 775, 776, 777, 778, 65, 779, 780] (by decide +kernel) (by decide +kernel)
set_option maxRecDepth 20000 in
theorem ggL_law_X4_digest_r6 : GoodIn wsL_law wsX4_digest_r6 := goodIn_r _ [781, 782, 783, 784, 785, 64, 68, 67, 786, 787, 788, 789, 790, 791, 792, 793, 66, 794, 795, 796, 797, 798, 799, 800] (by decide +kernel) (by decide +kernel)
set_option maxRecDepth 20000 in
theorem ggL_law_X4_digest_r7 : GoodIn wsL_law wsX4_digest_r7 := goodIn_r _ [801, 802, 803, 804, 805, 806, 807, 808, 835, 836, 837, 838, 839, 840, 841, 842, 140, 141, 142, 851, 852, 853, 854, 899] (by decide +kernel) (by decide +kernel)
set_option maxRecDepth 20000 in
theorem ggL_law_X4_digest_r8 : GoodIn wsL_law wsX4_digest_r8 := goodIn_r _ [900, 901, 902, 950, 951, 952, 953, 954, 955, 956, 957, 958, 959, 960, 961] (by decide +kernel) (by decide +kernel)
set_option maxRecDepth 20000 in
theorem ggL_law_X4_digest : GoodIn wsL_law wsX4_digest := gi_cons ggL_law_X4_digest_h (goodIn_app (goodIn_app ggL_law_X4_digest_r1 (goodIn_app ggL_law_X4_digest_r2 (goodIn_app ggL_law_X4_digest_r3 (goodIn_app ggL_law_X4_digest_r4 (goodIn_app ggL_law_X4_digest_r5 (goodIn_app ggL_law_X4_digest_r6 (goodIn_app ggL_law_X4_digest_r7 ggL_law_X4_digest_r8))))))) (goodIn_sub inlX4 (by decide +kernel)))
set_option maxRecDepth 20000 in
theorem gL_law_X4_digest : GoodIn wsL_law (wsV RL 159 RX4 yX4_digest wsX4_digest) := goodIn_app (goodIn_of _ (by decide +kernel)) ggL_law_X4_digest
