theorem gi_cons {big : List Cond} {a : Cond} {b : List Cond} (ha : GoodIn big [a]) (hb : GoodIn big b) : GoodIn big (a :: b) := goodIn_app (a := [a]) ha hb
set_option maxRecDepth 20000 in
theorem ggL_law_X3_digest_h : GoodIn wsL_law [.code yX3_digest cX3_digest 4 (some .long)] := goodIn_r _ [905] (by decide +kernel) (by decide +kernel)
set_option maxRecDepth 20000 in
theorem ggL_law_X3_digest_r1 : GoodIn wsL_law wsX3_digest_r1 := goodIn_r _ [906, 907, 16, 85, 390, 20, 633, 634, 635, 2, 636, 231, 637, 288, 93, 378, 248, 249, 15, 250, 108, 240, 241, 242] (by decide +kernel) (by decide +kernel)
set_option maxRecDepth 20000 in
theorem ggL_law_X3_digest_r2 : GoodIn wsL_law wsX3_digest_r2 := goodIn_r _ [563, 564, 565, 566, 236, 237, 238, 239, 107, 243, 244, 245, 246, 102, 34, 35, 36, 232, 233, 234, 235, 247, 251, 252] (by decide +kernel) (by decide +kernel)
set_option maxRecDepth 20000 in
theorem ggL_law_X3_digest_r3 : GoodIn wsL_law wsX3_digest_r3 := goodIn_r _ [253, 254, 255, 256, 257, 638, 639, 640, 641, 642, 643, 644, 645, 170, 171, 172, 323, 908, 909, 910, 911, 157, 558, 559] (by decide +kernel) (by decide +kernel)
set_option maxRecDepth 20000 in
theorem ggL_law_X3_digest_r4 : GoodIn wsL_law wsX3_digest_r4 := goodIn_r _ [560, 561, 377, 218, 219, 562, 567, 306, 307, 568, 569, 570, 571, 572, 573, 574, 575, 576, 577, 300, 578, 293, 302, 303] (by decide +kernel) (by decide +kernel)
set_option maxRecDepth 20000 in
theorem ggL_law_X3_digest_r5 : GoodIn wsL_law wsX3_digest_r5 := goodIn_r _ [304, 315, 316, 317, 318, 38, 37, 305, 606, 607, 608, 609, 610, 611, 612, 613, 614, 615, 616, 617, 861, 862, 863, 864] (by decide +kernel) (by decide +kernel)
set_option maxRecDepth 20000 in
theorem ggL_law_X3_digest_r6 : GoodIn wsL_law wsX3_digest_r6 := goodIn_r _ [865, 866, 867, 868, 869, 870, 871, 872, 873, 874, 875, 876, 877, 912, 913, 914, 915, 916, 665, 666, 667, 668, 17, 98] (by decide +kernel) (by decide +kernel)
set_option maxRecDepth 20000 in
theorem ggL_law_X3_digest_r7 : GoodIn wsL_law wsX3_digest_r7 := goodIn_r _ [99, 100, 101, 103, 104, 105, 106, 39, 109, 110, 356, 357, 358, 359, 360, 290, 291, 292, 294, 295, 296, 297, 298, 299] (by decide +kernel) (by decide +kernel)
set_option maxRecDepth 20000 in
theorem ggL_law_X3_digest_r8 : GoodIn wsL_law wsX3_digest_r8 := goodIn_r _ [301, 308, 309, 310, 311, 312, 313, 314, 319, 320, 321, 322, 917, 918, 919, 920, 29, 30, 688, 689, 690, 691, 115, 28] (by decide +kernel) (by decide +kernel)
set_option maxRecDepth 20000 in
theorem ggL_law_X3_digest_r9 : GoodIn wsL_law wsX3_digest_r9 := goodIn_r _ [692, 693, 694, 695, 696, 697, 27, 698, 49, 54, 699, 700, 701, 702, 703, 704, 705, 706, 707, 708, 709, 710, 711, 712] (by decide +kernel) (by decide +kernel)
set_option maxRecDepth 20000 in
theorem ggL_law_X3_digest_r10 : GoodIn wsL_law wsX3_digest_r10 := goodIn_r _ [48, 713, 714, 715, 716, 717, 718, 719, 720, 50, 721, 722, 723, 724, 725, 726, 727, 728, 729, 730, 731, 732, 733, 734] (by decide +kernel) (by decide +kernel)
set_option maxRecDepth 20000 in
theorem ggL_law_X3_digest_r11 : GoodIn wsL_law wsX3_digest_r11 := goodIn_r _ [735, 51, 736, 737, 738, 739, 740, 741, 52, 53, 742, 743, 744, 745, 746, 747, 748, 749, 750, 751, 752, 753, 754, 755] (by decide +kernel) (by decide +kernel)
set_option maxRecDepth 20000 in
theorem ggL_law_X3_digest_r12 : GoodIn wsL_law wsX3_digest_r12 := goodIn_r _ [756, 757, 758, 759, 760, 761, 762, 763, 764, 765, 815, 816, 817, 818, 116, 819, 820, 821, 822, 921, 843, 844, 845, 922] (by decide +kernel) (by decide +kernel)
set_option maxRecDepth 20000 in
theorem ggL_law_X3_digest_r13 : GoodIn wsL_law wsX3_digest_r13 := goodIn_r _ [891, 892, 893, 923, 924, 925, 926, 927, 928] (by decide +kernel) (by decide +kernel)
set_option maxRecDepth 20000 in
theorem ggL_law_X3_digest : GoodIn wsL_law wsX3_digest := gi_cons ggL_law_X3_digest_h (goodIn_app (goodIn_app (goodIn_app (goodIn_app ggL_law_X3_digest_r1 (goodIn_app ggL_law_X3_digest_r2 (goodIn_app ggL_law_X3_digest_r3 (goodIn_app ggL_law_X3_digest_r4 (goodIn_app ggL_law_X3_digest_r5 (goodIn_app ggL_law_X3_digest_r6 (goodIn_app ggL_law_X3_digest_r7 (goodIn_app ggL_law_X3_digest_r8 (goodIn_app ggL_law_X3_digest_r9 (goodIn_app ggL_law_X3_digest_r10 (goodIn_app ggL_law_X3_digest_r11 (goodIn_app ggL_law_X3_digest_r12 ggL_law_X3_digest_r13)))))))))))) (goodIn_sub inlX3 (by decide +kernel))) (goodIn_sub inlX0 (by decide +kernel))) (goodIn_sub inlX2 (by decide +kernel)))
set_option maxRecDepth 20000 in
theorem gL_law_X3_digest : GoodIn wsL_law (wsV RL 155 RX3 yX3_digest wsX3_digest) := goodIn_app (goodIn_of _ (by decide +kernel)) ggL_law_X3_digest
