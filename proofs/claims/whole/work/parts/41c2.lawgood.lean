theorem gi_cons {big : List Cond} {a : Cond} {b : List Cond} (ha : GoodIn big [a]) (hb : GoodIn big b) : GoodIn big (a :: b) := goodIn_app (a := [a]) ha hb
set_option maxRecDepth 20000 in
theorem ggL_law_X3_digest_h : GoodIn wsL_law [.code yX3_digest cX3_digest 4 (some .long)] := goodIn_r _ [906] (by decide +kernel) (by decide +kernel)
set_option maxRecDepth 20000 in
theorem ggL_law_X3_digest_r1 : GoodIn wsL_law wsX3_digest_r1 := goodIn_r _ [907, 908, 16, 85, 390, 20, 634, 635, 636, 2, 637, 231, 638, 288, 93, 378, 248, 249, 15, 250, 108, 240, 241, 242] (by decide +kernel) (by decide +kernel)
set_option maxRecDepth 20000 in
theorem ggL_law_X3_digest_r2 : GoodIn wsL_law wsX3_digest_r2 := goodIn_r _ [564, 565, 566, 567, 236, 237, 238, 239, 107, 243, 244, 245, 246, 102, 34, 35, 36, 232, 233, 234, 235, 247, 251, 252] (by decide +kernel) (by decide +kernel)
set_option maxRecDepth 20000 in
theorem ggL_law_X3_digest_r3 : GoodIn wsL_law wsX3_digest_r3 := goodIn_r _ [253, 254, 255, 256, 257, 639, 640, 641, 642, 643, 644, 645, 646, 170, 171, 172, 323, 909, 910, 911, 912, 157, 559, 560] (by decide +kernel) (by decide +kernel)
set_option maxRecDepth 20000 in
theorem ggL_law_X3_digest_r4 : GoodIn wsL_law wsX3_digest_r4 := goodIn_r _ [561, 562, 377, 218, 219, 563, 568, 306, 307, 569, 570, 571, 572, 573, 574, 575, 576, 577, 578, 300, 579, 293, 302, 303] (by decide +kernel) (by decide +kernel)
set_option maxRecDepth 20000 in
theorem ggL_law_X3_digest_r5 : GoodIn wsL_law wsX3_digest_r5 := goodIn_r _ [304, 315, 316, 317, 318, 38, 37, 305, 607, 608, 609, 610, 611, 612, 613, 614, 615, 616, 617, 618, 862, 863, 864, 865] (by decide +kernel) (by decide +kernel)
set_option maxRecDepth 20000 in
theorem ggL_law_X3_digest_r6 : GoodIn wsL_law wsX3_digest_r6 := goodIn_r _ [866, 867, 868, 869, 870, 871, 872, 873, 874, 875, 876, 877, 878, 913, 914, 915, 916, 917, 666, 667, 668, 669, 17, 98] (by decide +kernel) (by decide +kernel)
set_option maxRecDepth 20000 in
theorem ggL_law_X3_digest_r7 : GoodIn wsL_law wsX3_digest_r7 := goodIn_r _ [99, 100, 101, 103, 104, 105, 106, 39, 109, 110, 356, 357, 358, 359, 360, 290, 291, 292, 294, 295, 296, 297, 298, 299] (by decide +kernel) (by decide +kernel)
set_option maxRecDepth 20000 in
theorem ggL_law_X3_digest_r8 : GoodIn wsL_law wsX3_digest_r8 := goodIn_r _ [301, 308, 309, 310, 311, 312, 313, 314, 319, 320, 321, 322, 918, 919, 920, 921, 29, 30, 689, 690, 691, 692, 115, 28] (by decide +kernel) (by decide +kernel)
set_option maxRecDepth 20000 in
theorem ggL_law_X3_digest_r9 : GoodIn wsL_law wsX3_digest_r9 := goodIn_r _ [693, 694, 695, 696, 697, 698, 27, 699, 49, 54, 700, 701, 702, 703, 704, 705, 706, 707, 708, 709, 710, 711, 712, 713] (by decide +kernel) (by decide +kernel)
set_option maxRecDepth 20000 in
theorem ggL_law_X3_digest_r10 : GoodIn wsL_law wsX3_digest_r10 := goodIn_r _ [48, 714, 715, 716, 717, 718, 719, 720, 721, 50, 722, 723, 724, 725, 726, 727, 728, 729, 730, 731, 732, 733, 734, 735] (by decide +kernel) (by decide +kernel)
set_option maxRecDepth 20000 in
theorem ggL_law_X3_digest_r11 : GoodIn wsL_law wsX3_digest_r11 := goodIn_r _ [736, 51, 737, 738, 739, 740, 741, 742, 52, 53, 743, 744, 745, 746, 747, 748, 749, 750, 751, 752, 753, 754, 755, 756] (by decide +kernel) (by decide +kernel)
set_option maxRecDepth 20000 in
theorem ggL_law_X3_digest_r12 : GoodIn wsL_law wsX3_digest_r12 := goodIn_r _ [757, 758, 759, 760, 761, 762, 763, 764, 765, 766, 816, 817, 818, 819, 116, 820, 821, 822, 823, 922, 844, 845, 846, 923] (by decide +kernel) (by decide +kernel)
set_option maxRecDepth 20000 in
theorem ggL_law_X3_digest_r13 : GoodIn wsL_law wsX3_digest_r13 := goodIn_r _ [892, 893, 894, 924, 925, 926, 927, 928, 929] (by decide +kernel) (by decide +kernel)
set_option maxRecDepth 20000 in
theorem ggL_law_X3_digest : GoodIn wsL_law wsX3_digest := gi_cons ggL_law_X3_digest_h (goodIn_app (goodIn_app (goodIn_app (goodIn_app ggL_law_X3_digest_r1 (goodIn_app ggL_law_X3_digest_r2 (goodIn_app ggL_law_X3_digest_r3 (goodIn_app ggL_law_X3_digest_r4 (goodIn_app ggL_law_X3_digest_r5 (goodIn_app ggL_law_X3_digest_r6 (goodIn_app ggL_law_X3_digest_r7 (goodIn_app ggL_law_X3_digest_r8 (goodIn_app ggL_law_X3_digest_r9 (goodIn_app ggL_law_X3_digest_r10 (goodIn_app ggL_law_X3_digest_r11 (goodIn_app ggL_law_X3_digest_r12 ggL_law_X3_digest_r13)))))))))))) (goodIn_sub inlX3 (by decide +kernel))) (goodIn_sub inlX0 (by decide +kernel))) (goodIn_sub inlX2 (by decide +kernel)))
set_option maxRecDepth 20000 in
theorem gL_law_X3_digest : GoodIn wsL_law (wsV RL 155 RX3 yX3_digest wsX3_digest) := goodIn_app (goodIn_of _ (by decide +kernel)) ggL_law_X3_digest
