set_option maxRecDepth 20000 in
theorem ggL_law_X4_digest_h : GoodIn wsL_law [.code yX4_digest cX4_digest 2 (some .long)] := goodIn_r _ [932] (by decide +kernel) (by decide +kernel)
set_option maxRecDepth 20000 in
theorem ggL_law_X4_digest_r1 : GoodIn wsL_law wsX4_digest_r1 := goodIn_r _ [70, 933, 934, 395, 63, 650, 651, 652, 5, 653, 59, 139, 266, 267, 268, 185, 186, 187, 269, 270, 271, 272, 273, 274] (by decide +kernel) (by decide +kernel)
set_option maxRecDepth 20000 in
theorem ggL_law_X4_digest_r2 : GoodIn wsL_law wsX4_digest_r2 := goodIn_r _ [275, 276, 277, 262, 263, 264, 265, 278, 279, 280, 654, 655, 656, 657, 935, 936, 937, 938, 939, 940, 941, 942, 943, 583] (by decide +kernel) (by decide +kernel)
set_option maxRecDepth 20000 in
theorem ggL_law_X4_digest_r3 : GoodIn wsL_law wsX4_digest_r3 := goodIn_r _ [584, 585, 586, 587, 588, 589, 590, 591, 592, 593, 594, 595, 596, 597, 598, 622, 623, 624, 625, 882, 883, 884, 885, 886] (by decide +kernel) (by decide +kernel)
set_option maxRecDepth 20000 in
theorem ggL_law_X4_digest_r4 : GoodIn wsL_law wsX4_digest_r4 := goodIn_r _ [887, 888, 889, 944, 945, 946, 947, 831, 948, 832, 833, 673, 674, 675, 676, 60, 369, 677, 678, 679, 680, 365, 366, 367] (by decide +kernel) (by decide +kernel)
set_option maxRecDepth 20000 in
theorem ggL_law_X4_digest_r5 : GoodIn wsL_law wsX4_digest_r5 := goodIn_r _ [368, 336, 370, 371, 372, 337, 338, 339, 340, 341, 342, 343, 344, 345, 346, 347, 348, 774, 775, 776, 777, 65, 778, 779] (by decide +kernel) (by decide +kernel)
set_option maxRecDepth 20000 in
theorem ggL_law_X4_digest_r6 : GoodIn wsL_law wsX4_digest_r6 := goodIn_r _ [780, 781, 782, 783, 784, 64, 68, 67, 785, 786, 787, 788, 789, 790, 791, 792, 66, 793, 794, 795, 796, 797, 798, 799] (by decide +kernel) (by decide +kernel)
set_option maxRecDepth 20000 in
theorem ggL_law_X4_digest_r7 : GoodIn wsL_law wsX4_digest_r7 := goodIn_r _ [800, 801, 802, 803, 804, 805, 806, 807, 834, 835, 836, 837, 838, 839, 840, 841, 140, 141, 142, 850, 851, 852, 853, 898] (by decide +kernel) (by decide +kernel)
set_option maxRecDepth 20000 in
theorem ggL_law_X4_digest_r8 : GoodIn wsL_law wsX4_digest_r8 := goodIn_r _ [899, 900, 901, 949, 950, 951, 952, 953, 954, 955, 956, 957, 958, 959, 960] (by decide +kernel) (by decide +kernel)
set_option maxRecDepth 20000 in
theorem ggL_law_X4_digest : GoodIn wsL_law wsX4_digest := gi_cons ggL_law_X4_digest_h (goodIn_app (goodIn_app ggL_law_X4_digest_r1 (goodIn_app ggL_law_X4_digest_r2 (goodIn_app ggL_law_X4_digest_r3 (goodIn_app ggL_law_X4_digest_r4 (goodIn_app ggL_law_X4_digest_r5 (goodIn_app ggL_law_X4_digest_r6 (goodIn_app ggL_law_X4_digest_r7 ggL_law_X4_digest_r8))))))) (goodIn_sub inlX4 (by decide +kernel)))
set_option maxRecDepth 20000 in
theorem gL_law_X4_digest : GoodIn wsL_law (wsV RL 159 RX4 yX4_digest wsX4_digest) := goodIn_app (goodIn_of _ (by decide +kernel)) ggL_law_X4_digest
