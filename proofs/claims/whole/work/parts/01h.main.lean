set_option maxRecDepth 20000 in
theorem ggX3_init_X0_init : GoodIn wsX3_init wsX0_init := goodIn_r _ [23, 24, 2, 3, 10, 25, 26, 27, 28, 29, 30, 46, 47, 48, 49, 50, 51, 52, 53, 54, 55, 56] (by decide +kernel) (by decide +kernel)
set_option maxRecDepth 20000 in
theorem gX3_init_X0_init_n9 : GoodIn wsX3_init (wsX0_init) := ggX3_init_X0_init
set_option maxRecDepth 20000 in
theorem ggX3_init_X1_init : GoodIn wsX3_init wsX1_init := goodIn_r _ [32, 33, 2, 3, 10, 34, 35, 69, 70, 71, 72, 73, 74, 75, 76] (by decide +kernel) (by decide +kernel)
set_option maxRecDepth 20000 in
theorem gX3_init_X1_init_n29 : GoodIn wsX3_init (wsX1_init) := ggX3_init_X1_init
set_option maxRecDepth 20000 in
theorem ggX3_init_X2_init : GoodIn wsX3_init wsX2_init := goodIn_r _ [37, 38, 2, 3, 10, 39, 40, 41, 42, 43, 44, 45, 77, 78, 79, 80, 81, 82, 83, 84, 85, 86, 87] (by decide +kernel) (by decide +kernel)
set_option maxRecDepth 20000 in
theorem gX3_init_X2_init_n36 : GoodIn wsX3_init (wsX2_init) := ggX3_init_X2_init
theorem dX3_init_0 : decode cX3_init 0 = .ok (.aload_n 0, 1) := by decide +kernel
theorem dX3_init_1 : decode cX3_init 1 = .ok (.invokespecial 1, 3) := by decide +kernel
theorem dX3_init_4 : decode cX3_init 4 = .ok (.aload_n 0, 1) := by decide +kernel
theorem dX3_init_5 : decode cX3_init 5 = .ok (.new 7, 3) := by decide +kernel
theorem dX3_init_8 : decode cX3_init 8 = .ok (.dup, 1) := by decide +kernel
theorem dX3_init_9 : decode cX3_init 9 = .ok (.invokespecial 9, 3) := by decide +kernel
theorem dX3_init_12 : decode cX3_init 12 = .ok (.putfield 10, 3) := by decide +kernel
theorem dX3_init_15 : decode cX3_init 15 = .ok (.aload_n 0, 1) := by decide +kernel
theorem dX3_init_16 : decode cX3_init 16 = .ok (.new 7, 3) := by decide +kernel
theorem dX3_init_19 : decode cX3_init 19 = .ok (.dup, 1) := by decide +kernel
theorem dX3_init_20 : decode cX3_init 20 = .ok (.invokespecial 9, 3) := by decide +kernel
theorem dX3_init_23 : decode cX3_init 23 = .ok (.putfield 16, 3) := by decide +kernel
theorem dX3_init_26 : decode cX3_init 26 = .ok (.aload_n 0, 1) := by decide +kernel
theorem dX3_init_27 : decode cX3_init 27 = .ok (.bipush 6, 2) := by decide +kernel
theorem dX3_init_29 : decode cX3_init 29 = .ok (.anewarray 7, 3) := by decide +kernel
theorem dX3_init_32 : decode cX3_init 32 = .ok (.putfield 19, 3) := by decide +kernel
theorem dX3_init_35 : decode cX3_init 35 = .ok (.iconst 0, 1) := by decide +kernel
theorem dX3_init_36 : decode cX3_init 36 = .ok (.istore_n 1, 1) := by decide +kernel
theorem dX3_init_37 : decode cX3_init 37 = .ok (.iload_n 1, 1) := by decide +kernel
theorem dX3_init_38 : decode cX3_init 38 = .ok (.bipush 6, 2) := by decide +kernel
theorem dX3_init_40 : decode cX3_init 40 = .ok (.if_icmp .ge 22, 3) := by decide +kernel
theorem dX3_init_43 : decode cX3_init 43 = .ok (.aload_n 0, 1) := by decide +kernel
theorem dX3_init_44 : decode cX3_init 44 = .ok (.getfield 19, 3) := by decide +kernel
theorem dX3_init_47 : decode cX3_init 47 = .ok (.iload_n 1, 1) := by decide +kernel
theorem dX3_init_48 : decode cX3_init 48 = .ok (.new 7, 3) := by decide +kernel
theorem dX3_init_51 : decode cX3_init 51 = .ok (.dup, 1) := by decide +kernel
theorem dX3_init_52 : decode cX3_init 52 = .ok (.invokespecial 9, 3) := by decide +kernel
theorem dX3_init_55 : decode cX3_init 55 = .ok (.aastore, 1) := by decide +kernel
theorem dX3_init_56 : decode cX3_init 56 = .ok (.iinc 1 1, 3) := by decide +kernel
theorem dX3_init_59 : decode cX3_init 59 = .ok (.goto (-22), 3) := by decide +kernel
theorem dX3_init_62 : decode cX3_init 62 = .ok (.aload_n 0, 1) := by decide +kernel
theorem dX3_init_63 : decode cX3_init 63 = .ok (.bipush 60, 2) := by decide +kernel
theorem dX3_init_65 : decode cX3_init 65 = .ok (.newarray .int, 2) := by decide +kernel
theorem dX3_init_67 : decode cX3_init 67 = .ok (.putfield 23, 3) := by decide +kernel
theorem dX3_init_70 : decode cX3_init 70 = .ok (.aload_n 0, 1) := by decide +kernel
theorem dX3_init_71 : decode cX3_init 71 = .ok (.new 27, 3) := by decide +kernel
theorem dX3_init_74 : decode cX3_init 74 = .ok (.dup, 1) := by decide +kernel
theorem dX3_init_75 : decode cX3_init 75 = .ok (.invokespecial 29, 3) := by decide +kernel
theorem dX3_init_78 : decode cX3_init 78 = .ok (.putfield 30, 3) := by decide +kernel
theorem dX3_init_81 : decode cX3_init 81 = .ok (.aload_n 0, 1) := by decide +kernel
theorem dX3_init_82 : decode cX3_init 82 = .ok (.new 34, 3) := by decide +kernel
theorem dX3_init_85 : decode cX3_init 85 = .ok (.dup, 1) := by decide +kernel
theorem dX3_init_86 : decode cX3_init 86 = .ok (.invokespecial 36, 3) := by decide +kernel
theorem dX3_init_89 : decode cX3_init 89 = .ok (.putfield 37, 3) := by decide +kernel
theorem dX3_init_92 : decode cX3_init 92 = .ok (.aload_n 0, 1) := by decide +kernel
theorem dX3_init_93 : decode cX3_init 93 = .ok (.iconst 5, 1) := by decide +kernel
theorem dX3_init_94 : decode cX3_init 94 = .ok (.newarray .int, 2) := by decide +kernel
theorem dX3_init_96 : decode cX3_init 96 = .ok (.putfield 41, 3) := by decide +kernel
theorem dX3_init_99 : decode cX3_init 99 = .ok (.aload_n 0, 1) := by decide +kernel
theorem dX3_init_100 : decode cX3_init 100 = .ok (.iconst 3, 1) := by decide +kernel
theorem dX3_init_101 : decode cX3_init 101 = .ok (.newarray .int, 2) := by decide +kernel
theorem dX3_init_103 : decode cX3_init 103 = .ok (.putfield 44, 3) := by decide +kernel
theorem dX3_init_106 : decode cX3_init 106 = .ok (.return_, 1) := by decide +kernel
set_option maxRecDepth 20000 in
theorem ggX3_add_X3_isTime : GoodIn wsX3_add wsX3_isTime := goodIn_r _ [10] (by decide +kernel) (by decide +kernel)
set_option maxRecDepth 20000 in
theorem gX3_add_X3_isTime : GoodIn wsX3_add (va_wsS RX3 47 yX3_isTime wsX3_isTime) := goodIn_app (goodIn_of _ (by decide +kernel)) ggX3_add_X3_isTime
set_option maxRecDepth 20000 in
theorem ggX3_add_X3_save : GoodIn wsX3_add wsX3_save := goodIn_r _ [14, 15, 16, 5, 17, 18, 19, 9, 20, 21, 22, 23, 24, 25, 26, 27, 28, 29, 30, 31, 32, 33, 34, 35, 36, 37, 38, 39, 40, 41, 42, 43, 44, 45, 46, 51, 52, 53, 54, 55, 56, 57, 58, 59, 60, 61, 62, 63, 64, 65, 66, 67, 68, 69, 70, 71, 72, 73] (by decide +kernel) (by decide +kernel)
set_option maxRecDepth 20000 in
theorem gX3_add_X3_save : GoodIn wsX3_add (wsV RX3 67 RX3 yX3_save wsX3_save) := goodIn_app (goodIn_of _ (by decide +kernel)) ggX3_add_X3_save
set_option maxRecDepth 20000 in
theorem ggX3_add_X0_addRelay : GoodIn wsX3_add wsX0_addRelay := goodIn_r _ [50, 26, 34, 35, 27, 36, 63, 64, 65, 66, 67, 68, 69, 70, 71, 72, 73] (by decide +kernel) (by decide +kernel)
set_option maxRecDepth 20000 in
theorem gX3_add_X0_addRelay : GoodIn wsX3_add (wsV RX3 70 RX0 yX0_addRelay wsX0_addRelay) := goodIn_app (goodIn_of _ (by decide +kernel)) ggX3_add_X0_addRelay
theorem dX3_add_0 : decode cX3_add 0 = .ok (.iload_n 1, 1) := by decide +kernel
theorem dX3_add_1 : decode cX3_add 1 = .ok (.invokestatic 47, 3) := by decide +kernel
theorem dX3_add_4 : decode cX3_add 4 = .ok (.ifCond .eq 10, 3) := by decide +kernel
theorem dX3_add_7 : decode cX3_add 7 = .ok (.iload_n 2, 1) := by decide +kernel
theorem dX3_add_8 : decode cX3_add 8 = .ok (.invokestatic 47, 3) := by decide +kernel
theorem dX3_add_11 : decode cX3_add 11 = .ok (.ifCond .ne 13, 3) := by decide +kernel
theorem dX3_add_14 : decode cX3_add 14 = .ok (.new 51, 3) := by decide +kernel
theorem dX3_add_17 : decode cX3_add 17 = .ok (.dup, 1) := by decide +kernel
theorem dX3_add_18 : decode cX3_add 18 = .ok (.ldc 53, 2) := by decide +kernel
theorem dX3_add_20 : decode cX3_add 20 = .ok (.invokespecial 55, 3) := by decide +kernel
theorem dX3_add_23 : decode cX3_add 23 = .ok (.athrow, 1) := by decide +kernel
theorem dX3_add_24 : decode cX3_add 24 = .ok (.aload_n 0, 1) := by decide +kernel
theorem dX3_add_25 : decode cX3_add 25 = .ok (.getfield 10, 3) := by decide +kernel
theorem dX3_add_28 : decode cX3_add 28 = .ok (.getfield 58, 3) := by decide +kernel
theorem dX3_add_31 : decode cX3_add 31 = .ok (.bipush 6, 2) := by decide +kernel
theorem dX3_add_33 : decode cX3_add 33 = .ok (.if_icmp .lt 13, 3) := by decide +kernel
theorem dX3_add_36 : decode cX3_add 36 = .ok (.new 62, 3) := by decide +kernel
theorem dX3_add_39 : decode cX3_add 39 = .ok (.dup, 1) := by decide +kernel
theorem dX3_add_40 : decode cX3_add 40 = .ok (.ldc 64, 2) := by decide +kernel
theorem dX3_add_42 : decode cX3_add 42 = .ok (.invokespecial 66, 3) := by decide +kernel
theorem dX3_add_45 : decode cX3_add 45 = .ok (.athrow, 1) := by decide +kernel
theorem dX3_add_46 : decode cX3_add 46 = .ok (.aload_n 0, 1) := by decide +kernel
theorem dX3_add_47 : decode cX3_add 47 = .ok (.invokevirtual 67, 3) := by decide +kernel
theorem dX3_add_50 : decode cX3_add 50 = .ok (.aload_n 0, 1) := by decide +kernel
theorem dX3_add_51 : decode cX3_add 51 = .ok (.getfield 10, 3) := by decide +kernel
theorem dX3_add_54 : decode cX3_add 54 = .ok (.iload_n 1, 1) := by decide +kernel
theorem dX3_add_55 : decode cX3_add 55 = .ok (.iload_n 2, 1) := by decide +kernel
theorem dX3_add_56 : decode cX3_add 56 = .ok (.invokevirtual 70, 3) := by decide +kernel
theorem dX3_add_59 : decode cX3_add 59 = .ok (.ireturn, 1) := by decide +kernel
set_option maxRecDepth 20000 in
theorem ggX3_branch_X0_hasRelay : GoodIn wsX3_branch wsX0_hasRelay := goodIn_r _ [13, 14, 73, 74, 75, 76, 77, 78, 79, 80, 81, 82, 83] (by decide +kernel) (by decide +kernel)
set_option maxRecDepth 20000 in
theorem gX3_branch_X0_hasRelay : GoodIn wsX3_branch (wsV RX3 74 RX0 yX0_hasRelay wsX0_hasRelay) := goodIn_app (goodIn_of _ (by decide +kernel)) ggX3_branch_X0_hasRelay
set_option maxRecDepth 20000 in
theorem ggX3_branch_X0_hasContacts : GoodIn wsX3_branch wsX0_hasContacts := goodIn_r _ [18, 14, 73, 74, 75, 76, 77, 78, 79, 80, 81, 82, 83] (by decide +kernel) (by decide +kernel)
set_option maxRecDepth 20000 in
theorem gX3_branch_X0_hasContacts : GoodIn wsX3_branch (wsV RX3 82 RX0 yX0_hasContacts wsX0_hasContacts) := goodIn_app (goodIn_of _ (by decide +kernel)) ggX3_branch_X0_hasContacts
set_option maxRecDepth 20000 in
theorem ggX3_branch_X3_save : GoodIn wsX3_branch wsX3_save := goodIn_r _ [23, 24, 25, 7, 26, 27, 28, 22, 29, 30, 31, 32, 12, 33, 14, 34, 35, 36, 37, 38, 39, 40, 41, 42, 43, 44, 45, 46, 47, 48, 49, 50, 51, 52, 53, 61, 62, 63, 64, 65, 66, 67, 68, 69, 70, 71, 72, 73, 74, 75, 76, 77, 78, 79, 80, 81, 82, 83] (by decide +kernel) (by decide +kernel)
set_option maxRecDepth 20000 in
theorem gX3_branch_X3_save : GoodIn wsX3_branch (wsV RX3 67 RX3 yX3_save wsX3_save) := goodIn_app (goodIn_of _ (by decide +kernel)) ggX3_branch_X3_save
set_option maxRecDepth 20000 in
theorem ggX3_branch_X0_addBranch : GoodIn wsX3_branch wsX0_addBranch := goodIn_r _ [57, 34, 39, 40, 58, 59, 12, 60, 73, 74, 75, 76, 77, 78, 79, 80, 81, 82, 83] (by decide +kernel) (by decide +kernel)
set_option maxRecDepth 20000 in
theorem gX3_branch_X0_addBranch : GoodIn wsX3_branch (wsV RX3 94 RX0 yX0_addBranch wsX0_addBranch) := goodIn_app (goodIn_of _ (by decide +kernel)) ggX3_branch_X0_addBranch
theorem dX3_branch_0 : decode cX3_branch 0 = .ok (.aload_n 0, 1) := by decide +kernel
theorem dX3_branch_1 : decode cX3_branch 1 = .ok (.getfield 10, 3) := by decide +kernel
theorem dX3_branch_4 : decode cX3_branch 4 = .ok (.iload_n 1, 1) := by decide +kernel
theorem dX3_branch_5 : decode cX3_branch 5 = .ok (.invokevirtual 74, 3) := by decide +kernel
theorem dX3_branch_8 : decode cX3_branch 8 = .ok (.ifCond .ne 13, 3) := by decide +kernel
theorem dX3_branch_11 : decode cX3_branch 11 = .ok (.new 77, 3) := by decide +kernel
theorem dX3_branch_14 : decode cX3_branch 14 = .ok (.dup, 1) := by decide +kernel
theorem dX3_branch_15 : decode cX3_branch 15 = .ok (.ldc 79, 2) := by decide +kernel
theorem dX3_branch_17 : decode cX3_branch 17 = .ok (.invokespecial 81, 3) := by decide +kernel
theorem dX3_branch_20 : decode cX3_branch 20 = .ok (.athrow, 1) := by decide +kernel
theorem dX3_branch_21 : decode cX3_branch 21 = .ok (.aload_n 0, 1) := by decide +kernel
theorem dX3_branch_22 : decode cX3_branch 22 = .ok (.getfield 10, 3) := by decide +kernel
theorem dX3_branch_25 : decode cX3_branch 25 = .ok (.iload_n 2, 1) := by decide +kernel
theorem dX3_branch_26 : decode cX3_branch 26 = .ok (.invokevirtual 82, 3) := by decide +kernel
theorem dX3_branch_29 : decode cX3_branch 29 = .ok (.ifCond .eq 14, 3) := by decide +kernel
theorem dX3_branch_32 : decode cX3_branch 32 = .ok (.aload_n 0, 1) := by decide +kernel
theorem dX3_branch_33 : decode cX3_branch 33 = .ok (.getfield 10, 3) := by decide +kernel
theorem dX3_branch_36 : decode cX3_branch 36 = .ok (.iload_n 3, 1) := by decide +kernel
theorem dX3_branch_37 : decode cX3_branch 37 = .ok (.invokevirtual 82, 3) := by decide +kernel
theorem dX3_branch_40 : decode cX3_branch 40 = .ok (.ifCond .ne 13, 3) := by decide +kernel
theorem dX3_branch_43 : decode cX3_branch 43 = .ok (.new 51, 3) := by decide +kernel
theorem dX3_branch_46 : decode cX3_branch 46 = .ok (.dup, 1) := by decide +kernel
theorem dX3_branch_47 : decode cX3_branch 47 = .ok (.ldc 85, 2) := by decide +kernel
theorem dX3_branch_49 : decode cX3_branch 49 = .ok (.invokespecial 55, 3) := by decide +kernel
theorem dX3_branch_52 : decode cX3_branch 52 = .ok (.athrow, 1) := by decide +kernel
theorem dX3_branch_53 : decode cX3_branch 53 = .ok (.iload_n 2, 1) := by decide +kernel
theorem dX3_branch_54 : decode cX3_branch 54 = .ok (.iload_n 3, 1) := by decide +kernel
theorem dX3_branch_55 : decode cX3_branch 55 = .ok (.ior, 1) := by decide +kernel
theorem dX3_branch_56 : decode cX3_branch 56 = .ok (.ifCond .eq 9, 3) := by decide +kernel
theorem dX3_branch_59 : decode cX3_branch 59 = .ok (.iload_n 2, 1) := by decide +kernel
theorem dX3_branch_60 : decode cX3_branch 60 = .ok (.iload_n 3, 1) := by decide +kernel
theorem dX3_branch_61 : decode cX3_branch 61 = .ok (.iand, 1) := by decide +kernel
theorem dX3_branch_62 : decode cX3_branch 62 = .ok (.ifCond .eq 13, 3) := by decide +kernel
theorem dX3_branch_65 : decode cX3_branch 65 = .ok (.new 51, 3) := by decide +kernel
theorem dX3_branch_68 : decode cX3_branch 68 = .ok (.dup, 1) := by decide +kernel
theorem dX3_branch_69 : decode cX3_branch 69 = .ok (.ldc 87, 2) := by decide +kernel
theorem dX3_branch_71 : decode cX3_branch 71 = .ok (.invokespecial 55, 3) := by decide +kernel
theorem dX3_branch_74 : decode cX3_branch 74 = .ok (.athrow, 1) := by decide +kernel
theorem dX3_branch_75 : decode cX3_branch 75 = .ok (.aload_n 0, 1) := by decide +kernel
theorem dX3_branch_76 : decode cX3_branch 76 = .ok (.getfield 10, 3) := by decide +kernel
theorem dX3_branch_79 : decode cX3_branch 79 = .ok (.getfield 89, 3) := by decide +kernel
theorem dX3_branch_82 : decode cX3_branch 82 = .ok (.iload_n 1, 1) := by decide +kernel
theorem dX3_branch_83 : decode cX3_branch 83 = .ok (.iaload, 1) := by decide +kernel
theorem dX3_branch_84 : decode cX3_branch 84 = .ok (.iconst 4, 1) := by decide +kernel
theorem dX3_branch_85 : decode cX3_branch 85 = .ok (.if_icmp .lt 13, 3) := by decide +kernel
theorem dX3_branch_88 : decode cX3_branch 88 = .ok (.new 62, 3) := by decide +kernel
theorem dX3_branch_91 : decode cX3_branch 91 = .ok (.dup, 1) := by decide +kernel
theorem dX3_branch_92 : decode cX3_branch 92 = .ok (.ldc 92, 2) := by decide +kernel
theorem dX3_branch_94 : decode cX3_branch 94 = .ok (.invokespecial 66, 3) := by decide +kernel
theorem dX3_branch_97 : decode cX3_branch 97 = .ok (.athrow, 1) := by decide +kernel
theorem dX3_branch_98 : decode cX3_branch 98 = .ok (.aload_n 0, 1) := by decide +kernel
theorem dX3_branch_99 : decode cX3_branch 99 = .ok (.invokevirtual 67, 3) := by decide +kernel
theorem dX3_branch_102 : decode cX3_branch 102 = .ok (.aload_n 0, 1) := by decide +kernel
theorem dX3_branch_103 : decode cX3_branch 103 = .ok (.getfield 10, 3) := by decide +kernel
theorem dX3_branch_106 : decode cX3_branch 106 = .ok (.iload_n 1, 1) := by decide +kernel
theorem dX3_branch_107 : decode cX3_branch 107 = .ok (.iload_n 2, 1) := by decide +kernel
theorem dX3_branch_108 : decode cX3_branch 108 = .ok (.iload_n 3, 1) := by decide +kernel
theorem dX3_branch_109 : decode cX3_branch 109 = .ok (.invokevirtual 94, 3) := by decide +kernel
theorem dX3_branch_112 : decode cX3_branch 112 = .ok (.ireturn, 1) := by decide +kernel
set_option maxRecDepth 20000 in
theorem ggX3_strip_X0_hasRelay : GoodIn wsX3_strip wsX0_hasRelay := goodIn_r _ [8, 9, 61, 62, 63, 64, 65, 66, 67, 68, 69, 70, 71] (by decide +kernel) (by decide +kernel)
set_option maxRecDepth 20000 in
theorem gX3_strip_X0_hasRelay : GoodIn wsX3_strip (wsV RX3 74 RX0 yX0_hasRelay wsX0_hasRelay) := goodIn_app (goodIn_of _ (by decide +kernel)) ggX3_strip_X0_hasRelay
set_option maxRecDepth 20000 in
theorem ggX3_strip_X3_save : GoodIn wsX3_strip wsX3_save := goodIn_r _ [14, 15, 16, 3, 17, 18, 19, 13, 20, 21, 22, 23, 7, 24, 9, 25, 26, 27, 28, 29, 30, 31, 32, 33, 34, 35, 36, 37, 38, 39, 40, 41, 42, 43, 44, 49, 50, 51, 52, 53, 54, 55, 56, 57, 58, 59, 60, 61, 62, 63, 64, 65, 66, 67, 68, 69, 70, 71] (by decide +kernel) (by decide +kernel)
set_option maxRecDepth 20000 in
theorem gX3_strip_X3_save : GoodIn wsX3_strip (wsV RX3 67 RX3 yX3_save wsX3_save) := goodIn_app (goodIn_of _ (by decide +kernel)) ggX3_strip_X3_save
set_option maxRecDepth 20000 in
theorem ggX3_strip_X0_dropBranches : GoodIn wsX3_strip wsX0_dropBranches := goodIn_r _ [48, 25, 61, 62, 63, 64, 65, 66, 67, 68, 69, 70, 71] (by decide +kernel) (by decide +kernel)
set_option maxRecDepth 20000 in
theorem gX3_strip_X0_dropBranches : GoodIn wsX3_strip (wsV RX3 98 RX0 yX0_dropBranches wsX0_dropBranches) := goodIn_app (goodIn_of _ (by decide +kernel)) ggX3_strip_X0_dropBranches
theorem dX3_strip_0 : decode cX3_strip 0 = .ok (.aload_n 0, 1) := by decide +kernel
theorem dX3_strip_1 : decode cX3_strip 1 = .ok (.getfield 10, 3) := by decide +kernel
theorem dX3_strip_4 : decode cX3_strip 4 = .ok (.iload_n 1, 1) := by decide +kernel
theorem dX3_strip_5 : decode cX3_strip 5 = .ok (.invokevirtual 74, 3) := by decide +kernel
theorem dX3_strip_8 : decode cX3_strip 8 = .ok (.ifCond .ne 13, 3) := by decide +kernel
theorem dX3_strip_11 : decode cX3_strip 11 = .ok (.new 77, 3) := by decide +kernel
theorem dX3_strip_14 : decode cX3_strip 14 = .ok (.dup, 1) := by decide +kernel
theorem dX3_strip_15 : decode cX3_strip 15 = .ok (.ldc 79, 2) := by decide +kernel
theorem dX3_strip_17 : decode cX3_strip 17 = .ok (.invokespecial 81, 3) := by decide +kernel
theorem dX3_strip_20 : decode cX3_strip 20 = .ok (.athrow, 1) := by decide +kernel
theorem dX3_strip_21 : decode cX3_strip 21 = .ok (.aload_n 0, 1) := by decide +kernel
theorem dX3_strip_22 : decode cX3_strip 22 = .ok (.invokevirtual 67, 3) := by decide +kernel
theorem dX3_strip_25 : decode cX3_strip 25 = .ok (.aload_n 0, 1) := by decide +kernel
theorem dX3_strip_26 : decode cX3_strip 26 = .ok (.getfield 10, 3) := by decide +kernel
theorem dX3_strip_29 : decode cX3_strip 29 = .ok (.iload_n 1, 1) := by decide +kernel
theorem dX3_strip_30 : decode cX3_strip 30 = .ok (.invokevirtual 98, 3) := by decide +kernel
theorem dX3_strip_33 : decode cX3_strip 33 = .ok (.ireturn, 1) := by decide +kernel
set_option maxRecDepth 20000 in
theorem ggX3_delay_X0_hasRelay : GoodIn wsX3_delay wsX0_hasRelay := goodIn_r _ [12, 13, 64, 65, 66, 67, 68, 69, 70, 71, 72, 73, 74] (by decide +kernel) (by decide +kernel)
set_option maxRecDepth 20000 in
theorem gX3_delay_X0_hasRelay : GoodIn wsX3_delay (wsV RX3 74 RX0 yX0_hasRelay wsX0_hasRelay) := goodIn_app (goodIn_of _ (by decide +kernel)) ggX3_delay_X0_hasRelay
set_option maxRecDepth 20000 in
theorem ggX3_delay_X3_isTime : GoodIn wsX3_delay wsX3_isTime := goodIn_r _ [17] (by decide +kernel) (by decide +kernel)
set_option maxRecDepth 20000 in
theorem gX3_delay_X3_isTime : GoodIn wsX3_delay (va_wsS RX3 47 yX3_isTime wsX3_isTime) := goodIn_app (goodIn_of _ (by decide +kernel)) ggX3_delay_X3_isTime
set_option maxRecDepth 20000 in
theorem ggX3_delay_X3_save : GoodIn wsX3_delay wsX3_save := goodIn_r _ [21, 22, 23, 5, 24, 25, 26, 16, 27, 28, 29, 30, 11, 31, 13, 32, 33, 34, 35, 36, 37, 38, 39, 40, 41, 42, 43, 44, 45, 46, 47, 48, 49, 50, 51, 52, 53, 54, 55, 56, 57, 58, 59, 60, 61, 62, 63, 64, 65, 66, 67, 68, 69, 70, 71, 72, 73, 74] (by decide +kernel) (by decide +kernel)
set_option maxRecDepth 20000 in
theorem gX3_delay_X3_save : GoodIn wsX3_delay (wsV RX3 67 RX3 yX3_save wsX3_save) := goodIn_app (goodIn_of _ (by decide +kernel)) ggX3_delay_X3_save
theorem dX3_delay_0 : decode cX3_delay 0 = .ok (.aload_n 0, 1) := by decide +kernel
theorem dX3_delay_1 : decode cX3_delay 1 = .ok (.getfield 10, 3) := by decide +kernel
theorem dX3_delay_4 : decode cX3_delay 4 = .ok (.iload_n 1, 1) := by decide +kernel
theorem dX3_delay_5 : decode cX3_delay 5 = .ok (.invokevirtual 74, 3) := by decide +kernel
theorem dX3_delay_8 : decode cX3_delay 8 = .ok (.ifCond .ne 13, 3) := by decide +kernel
theorem dX3_delay_11 : decode cX3_delay 11 = .ok (.new 77, 3) := by decide +kernel
theorem dX3_delay_14 : decode cX3_delay 14 = .ok (.dup, 1) := by decide +kernel
theorem dX3_delay_15 : decode cX3_delay 15 = .ok (.ldc 79, 2) := by decide +kernel
theorem dX3_delay_17 : decode cX3_delay 17 = .ok (.invokespecial 81, 3) := by decide +kernel
theorem dX3_delay_20 : decode cX3_delay 20 = .ok (.athrow, 1) := by decide +kernel
theorem dX3_delay_21 : decode cX3_delay 21 = .ok (.iload_n 2, 1) := by decide +kernel
theorem dX3_delay_22 : decode cX3_delay 22 = .ok (.invokestatic 47, 3) := by decide +kernel
theorem dX3_delay_25 : decode cX3_delay 25 = .ok (.ifCond .eq 10, 3) := by decide +kernel
theorem dX3_delay_28 : decode cX3_delay 28 = .ok (.iload_n 3, 1) := by decide +kernel
theorem dX3_delay_29 : decode cX3_delay 29 = .ok (.invokestatic 47, 3) := by decide +kernel
theorem dX3_delay_32 : decode cX3_delay 32 = .ok (.ifCond .ne 13, 3) := by decide +kernel
theorem dX3_delay_35 : decode cX3_delay 35 = .ok (.new 51, 3) := by decide +kernel
theorem dX3_delay_38 : decode cX3_delay 38 = .ok (.dup, 1) := by decide +kernel
theorem dX3_delay_39 : decode cX3_delay 39 = .ok (.ldc 53, 2) := by decide +kernel
theorem dX3_delay_41 : decode cX3_delay 41 = .ok (.invokespecial 55, 3) := by decide +kernel
theorem dX3_delay_44 : decode cX3_delay 44 = .ok (.athrow, 1) := by decide +kernel
theorem dX3_delay_45 : decode cX3_delay 45 = .ok (.aload_n 0, 1) := by decide +kernel
theorem dX3_delay_46 : decode cX3_delay 46 = .ok (.invokevirtual 67, 3) := by decide +kernel
theorem dX3_delay_49 : decode cX3_delay 49 = .ok (.aload_n 0, 1) := by decide +kernel
theorem dX3_delay_50 : decode cX3_delay 50 = .ok (.getfield 10, 3) := by decide +kernel
theorem dX3_delay_53 : decode cX3_delay 53 = .ok (.getfield 102, 3) := by decide +kernel
theorem dX3_delay_56 : decode cX3_delay 56 = .ok (.iload_n 1, 1) := by decide +kernel
theorem dX3_delay_57 : decode cX3_delay 57 = .ok (.iaload, 1) := by decide +kernel
theorem dX3_delay_58 : decode cX3_delay 58 = .ok (.istore 4, 2) := by decide +kernel
theorem dX3_delay_60 : decode cX3_delay 60 = .ok (.aload_n 0, 1) := by decide +kernel
theorem dX3_delay_61 : decode cX3_delay 61 = .ok (.getfield 10, 3) := by decide +kernel
theorem dX3_delay_64 : decode cX3_delay 64 = .ok (.getfield 102, 3) := by decide +kernel
theorem dX3_delay_67 : decode cX3_delay 67 = .ok (.iload_n 1, 1) := by decide +kernel
theorem dX3_delay_68 : decode cX3_delay 68 = .ok (.iload_n 2, 1) := by decide +kernel
theorem dX3_delay_69 : decode cX3_delay 69 = .ok (.iastore, 1) := by decide +kernel
theorem dX3_delay_70 : decode cX3_delay 70 = .ok (.aload_n 0, 1) := by decide +kernel
theorem dX3_delay_71 : decode cX3_delay 71 = .ok (.getfield 10, 3) := by decide +kernel
theorem dX3_delay_74 : decode cX3_delay 74 = .ok (.getfield 105, 3) := by decide +kernel
theorem dX3_delay_77 : decode cX3_delay 77 = .ok (.iload_n 1, 1) := by decide +kernel
theorem dX3_delay_78 : decode cX3_delay 78 = .ok (.iload_n 3, 1) := by decide +kernel
theorem dX3_delay_79 : decode cX3_delay 79 = .ok (.iastore, 1) := by decide +kernel
theorem dX3_delay_80 : decode cX3_delay 80 = .ok (.iload 4, 2) := by decide +kernel
theorem dX3_delay_82 : decode cX3_delay 82 = .ok (.ireturn, 1) := by decide +kernel
set_option maxRecDepth 20000 in
theorem ggX3_press_X3_save : GoodIn wsX3_press wsX3_save := goodIn_r _ [9, 10, 11, 3, 12, 13, 14, 8, 15, 16, 17, 18, 19, 20, 21, 22, 23, 24, 25, 26, 27, 28, 29, 30, 31, 32, 33, 34, 35, 36, 37, 38, 39, 40, 41, 68, 69, 70, 71, 72, 73, 74, 75, 76, 77, 78, 79, 80, 81, 82, 83, 84, 85, 86, 87, 88, 89, 90] (by decide +kernel) (by decide +kernel)
set_option maxRecDepth 20000 in
theorem gX3_press_X3_save : GoodIn wsX3_press (wsV RX3 67 RX3 yX3_save wsX3_save) := goodIn_app (goodIn_of _ (by decide +kernel)) ggX3_press_X3_save
set_option maxRecDepth 20000 in
theorem ggX3_press_X0_restless : GoodIn wsX3_press wsX0_restless := goodIn_r _ [45, 46, 47, 48, 19, 49, 32, 33, 50, 51, 52, 53, 54, 55, 56, 21, 22, 27, 28, 57, 58, 59, 60, 80, 81, 82, 83, 84, 85, 86, 87, 88, 89, 90] (by decide +kernel) (by decide +kernel)
set_option maxRecDepth 20000 in
theorem gX3_press_X0_restless : GoodIn wsX3_press (wsV RX3 113 RX0 yX0_restless wsX0_restless) := goodIn_app (goodIn_of _ (by decide +kernel)) ggX3_press_X0_restless
set_option maxRecDepth 20000 in
theorem ggX3_press_J6_bitCount_0f7a4 : GoodIn wsX3_press wsJ6_bitCount_0f7a4 := goodIn_r _ [64, 65, 66, 67] (by decide +kernel) (by decide +kernel)
set_option maxRecDepth 20000 in
theorem gX3_press_J6_bitCount_0f7a4 : GoodIn wsX3_press (va_wsS RX3 117 yJ6_bitCount_0f7a4 wsJ6_bitCount_0f7a4) := goodIn_app (goodIn_of _ (by decide +kernel)) ggX3_press_J6_bitCount_0f7a4
theorem dX3_press_0 : decode cX3_press 0 = .ok (.iload_n 1, 1) := by decide +kernel
theorem dX3_press_1 : decode cX3_press 1 = .ok (.ifCond .lt 8, 3) := by decide +kernel
theorem dX3_press_4 : decode cX3_press 4 = .ok (.iload_n 1, 1) := by decide +kernel
theorem dX3_press_5 : decode cX3_press 5 = .ok (.iconst 4, 1) := by decide +kernel
theorem dX3_press_6 : decode cX3_press 6 = .ok (.if_icmp .lt 13, 3) := by decide +kernel
theorem dX3_press_9 : decode cX3_press 9 = .ok (.new 51, 3) := by decide +kernel
theorem dX3_press_12 : decode cX3_press 12 = .ok (.dup, 1) := by decide +kernel
theorem dX3_press_13 : decode cX3_press 13 = .ok (.ldc 108, 2) := by decide +kernel
theorem dX3_press_15 : decode cX3_press 15 = .ok (.invokespecial 55, 3) := by decide +kernel
theorem dX3_press_18 : decode cX3_press 18 = .ok (.athrow, 1) := by decide +kernel
theorem dX3_press_19 : decode cX3_press 19 = .ok (.aload_n 0, 1) := by decide +kernel
theorem dX3_press_20 : decode cX3_press 20 = .ok (.invokevirtual 67, 3) := by decide +kernel
theorem dX3_press_23 : decode cX3_press 23 = .ok (.aload_n 0, 1) := by decide +kernel
theorem dX3_press_24 : decode cX3_press 24 = .ok (.getfield 10, 3) := by decide +kernel
theorem dX3_press_27 : decode cX3_press 27 = .ok (.dup, 1) := by decide +kernel
theorem dX3_press_28 : decode cX3_press 28 = .ok (.getfield 110, 3) := by decide +kernel
theorem dX3_press_31 : decode cX3_press 31 = .ok (.iconst 1, 1) := by decide +kernel
theorem dX3_press_32 : decode cX3_press 32 = .ok (.iload_n 1, 1) := by decide +kernel
theorem dX3_press_33 : decode cX3_press 33 = .ok (.ishl, 1) := by decide +kernel
theorem dX3_press_34 : decode cX3_press 34 = .ok (.ixor, 1) := by decide +kernel
theorem dX3_press_35 : decode cX3_press 35 = .ok (.putfield 110, 3) := by decide +kernel
theorem dX3_press_38 : decode cX3_press 38 = .ok (.aload_n 0, 1) := by decide +kernel
theorem dX3_press_39 : decode cX3_press 39 = .ok (.getfield 10, 3) := by decide +kernel
theorem dX3_press_42 : decode cX3_press 42 = .ok (.invokevirtual 113, 3) := by decide +kernel
theorem dX3_press_45 : decode cX3_press 45 = .ok (.invokestatic 117, 3) := by decide +kernel
theorem dX3_press_48 : decode cX3_press 48 = .ok (.ireturn, 1) := by decide +kernel
set_option maxRecDepth 20000 in
theorem ggX3_run_X3_save : GoodIn wsX3_run wsX3_save := goodIn_r _ [9, 10, 11, 3, 12, 13, 14, 8, 15, 16, 17, 18, 19, 20, 21, 22, 23, 24, 25, 26, 27, 28, 29, 30, 31, 32, 33, 34, 35, 36, 37, 38, 39, 40, 41, 101, 102, 103, 104, 105, 106, 107, 108, 109, 110, 111, 112, 113, 114, 115, 116, 117, 118, 119, 120, 121, 122, 123] (by decide +kernel) (by decide +kernel)
set_option maxRecDepth 20000 in
theorem gX3_run_X3_save : GoodIn wsX3_run (wsV RX3 67 RX3 yX3_save wsX3_save) := goodIn_app (goodIn_of _ (by decide +kernel)) ggX3_run_X3_save
set_option maxRecDepth 20000 in
theorem ggX3_run_X0_tick : GoodIn wsX3_run wsX0_tick := goodIn_r _ [45, 33, 21, 31, 35, 34, 46, 47, 48, 19, 49, 50, 51, 52, 53, 32, 54, 55, 56, 57, 58, 59, 60, 22, 27, 28, 61, 62, 63, 64, 65, 66, 67, 68, 69, 70, 71, 72, 73, 74, 75, 76, 77, 78, 79, 80, 81, 82, 83, 84, 85, 86, 87, 88, 89, 30, 29, 90, 91, 92, 93, 94, 95, 96, 97, 98, 99, 100, 113, 114, 115, 116, 117, 118, 119, 120, 121, 122, 123] (by decide +kernel) (by decide +kernel)
set_option maxRecDepth 20000 in
theorem gX3_run_X0_tick : GoodIn wsX3_run (wsV RX3 127 RX0 yX0_tick wsX0_tick) := goodIn_app (goodIn_of _ (by decide +kernel)) ggX3_run_X0_tick
theorem dX3_run_0 : decode cX3_run 0 = .ok (.iload_n 1, 1) := by decide +kernel
theorem dX3_run_1 : decode cX3_run 1 = .ok (.iconst 1, 1) := by decide +kernel
theorem dX3_run_2 : decode cX3_run 2 = .ok (.if_icmp .lt 9, 3) := by decide +kernel
theorem dX3_run_5 : decode cX3_run 5 = .ok (.iload_n 1, 1) := by decide +kernel
theorem dX3_run_6 : decode cX3_run 6 = .ok (.bipush 99, 2) := by decide +kernel
theorem dX3_run_8 : decode cX3_run 8 = .ok (.if_icmp .le 13, 3) := by decide +kernel
theorem dX3_run_11 : decode cX3_run 11 = .ok (.new 51, 3) := by decide +kernel
theorem dX3_run_14 : decode cX3_run 14 = .ok (.dup, 1) := by decide +kernel
theorem dX3_run_15 : decode cX3_run 15 = .ok (.ldc 122, 2) := by decide +kernel
theorem dX3_run_17 : decode cX3_run 17 = .ok (.invokespecial 55, 3) := by decide +kernel
theorem dX3_run_20 : decode cX3_run 20 = .ok (.athrow, 1) := by decide +kernel
theorem dX3_run_21 : decode cX3_run 21 = .ok (.aload_n 0, 1) := by decide +kernel
theorem dX3_run_22 : decode cX3_run 22 = .ok (.invokevirtual 67, 3) := by decide +kernel
theorem dX3_run_25 : decode cX3_run 25 = .ok (.aload_n 0, 1) := by decide +kernel
theorem dX3_run_26 : decode cX3_run 26 = .ok (.getfield 10, 3) := by decide +kernel
theorem dX3_run_29 : decode cX3_run 29 = .ok (.getfield 124, 3) := by decide +kernel
theorem dX3_run_32 : decode cX3_run 32 = .ok (.istore_n 2, 1) := by decide +kernel
theorem dX3_run_33 : decode cX3_run 33 = .ok (.iconst 0, 1) := by decide +kernel
theorem dX3_run_34 : decode cX3_run 34 = .ok (.istore_n 3, 1) := by decide +kernel
theorem dX3_run_35 : decode cX3_run 35 = .ok (.iload_n 3, 1) := by decide +kernel
theorem dX3_run_36 : decode cX3_run 36 = .ok (.iload_n 1, 1) := by decide +kernel
theorem dX3_run_37 : decode cX3_run 37 = .ok (.if_icmp .ge 16, 3) := by decide +kernel
theorem dX3_run_40 : decode cX3_run 40 = .ok (.aload_n 0, 1) := by decide +kernel
theorem dX3_run_41 : decode cX3_run 41 = .ok (.getfield 10, 3) := by decide +kernel
theorem dX3_run_44 : decode cX3_run 44 = .ok (.invokevirtual 127, 3) := by decide +kernel
theorem dX3_run_47 : decode cX3_run 47 = .ok (.iinc 3 1, 3) := by decide +kernel
theorem dX3_run_50 : decode cX3_run 50 = .ok (.goto (-15), 3) := by decide +kernel
theorem dX3_run_53 : decode cX3_run 53 = .ok (.aload_n 0, 1) := by decide +kernel
theorem dX3_run_54 : decode cX3_run 54 = .ok (.getfield 10, 3) := by decide +kernel
theorem dX3_run_57 : decode cX3_run 57 = .ok (.getfield 124, 3) := by decide +kernel
theorem dX3_run_60 : decode cX3_run 60 = .ok (.iload_n 2, 1) := by decide +kernel
theorem dX3_run_61 : decode cX3_run 61 = .ok (.isub, 1) := by decide +kernel
theorem dX3_run_62 : decode cX3_run 62 = .ok (.ireturn, 1) := by decide +kernel
set_option maxRecDepth 20000 in
theorem ggX3_settle_X0_copyFrom : GoodIn wsX3_settle wsX0_copyFrom := goodIn_r _ [9, 10, 11, 12, 13, 14, 15, 16, 17, 18, 19, 20, 21, 22, 23, 24, 117, 118, 119, 120, 121, 122, 123, 124, 125, 126, 127] (by decide +kernel) (by decide +kernel)
set_option maxRecDepth 20000 in
theorem gX3_settle_X0_copyFrom : GoodIn wsX3_settle (wsV RX3 130 RX0 yX0_copyFrom wsX0_copyFrom) := goodIn_app (goodIn_of _ (by decide +kernel)) ggX3_settle_X0_copyFrom
set_option maxRecDepth 20000 in
theorem ggX3_settle_X0_ticksToQuiet : GoodIn wsX3_settle wsX0_ticksToQuiet := goodIn_r _ [28, 29, 30, 31, 8, 32, 33, 34, 35, 36, 21, 22, 37, 38, 39, 40, 41, 42, 43, 10, 11, 16, 17, 44, 45, 46, 47, 48, 49, 50, 51, 20, 24, 23, 52, 53, 54, 55, 56, 57, 58, 59, 60, 61, 62, 63, 64, 65, 66, 67, 68, 69, 70, 71, 72, 73, 74, 75, 76, 19, 18, 77, 78, 79, 80, 81, 82, 83, 84, 85, 86, 87, 117, 118, 119, 120, 121, 122, 123, 124, 125, 126, 127] (by decide +kernel) (by decide +kernel)
set_option maxRecDepth 20000 in
theorem gX3_settle_X0_ticksToQuiet : GoodIn wsX3_settle (wsV RX3 134 RX0 yX0_ticksToQuiet wsX0_ticksToQuiet) := goodIn_app (goodIn_of _ (by decide +kernel)) ggX3_settle_X0_ticksToQuiet
set_option maxRecDepth 20000 in
theorem ggX3_settle_X3_save : GoodIn wsX3_settle wsX3_save := goodIn_r _ [92, 93, 94, 4, 95, 96, 97, 91, 98, 5, 6, 7, 8, 9, 10, 11, 12, 13, 14, 15, 16, 17, 18, 19, 20, 21, 22, 23, 24, 99, 100, 101, 102, 103, 104, 105, 106, 107, 108, 109, 110, 111, 112, 113, 114, 115, 116, 117, 118, 119, 120, 121, 122, 123, 124, 125, 126, 127] (by decide +kernel) (by decide +kernel)
set_option maxRecDepth 20000 in
theorem gX3_settle_X3_save : GoodIn wsX3_settle (wsV RX3 67 RX3 yX3_save wsX3_save) := goodIn_app (goodIn_of _ (by decide +kernel)) ggX3_settle_X3_save
theorem dX3_settle_0 : decode cX3_settle 0 = .ok (.aload_n 0, 1) := by decide +kernel
theorem dX3_settle_1 : decode cX3_settle 1 = .ok (.getfield 16, 3) := by decide +kernel
theorem dX3_settle_4 : decode cX3_settle 4 = .ok (.aload_n 0, 1) := by decide +kernel
theorem dX3_settle_5 : decode cX3_settle 5 = .ok (.getfield 10, 3) := by decide +kernel
theorem dX3_settle_8 : decode cX3_settle 8 = .ok (.invokevirtual 130, 3) := by decide +kernel
theorem dX3_settle_11 : decode cX3_settle 11 = .ok (.aload_n 0, 1) := by decide +kernel
theorem dX3_settle_12 : decode cX3_settle 12 = .ok (.getfield 16, 3) := by decide +kernel
theorem dX3_settle_15 : decode cX3_settle 15 = .ok (.invokevirtual 134, 3) := by decide +kernel
theorem dX3_settle_18 : decode cX3_settle 18 = .ok (.istore_n 1, 1) := by decide +kernel
theorem dX3_settle_19 : decode cX3_settle 19 = .ok (.iload_n 1, 1) := by decide +kernel
theorem dX3_settle_20 : decode cX3_settle 20 = .ok (.iconst (-1), 1) := by decide +kernel
theorem dX3_settle_21 : decode cX3_settle 21 = .ok (.if_icmp .ne 13, 3) := by decide +kernel
theorem dX3_settle_24 : decode cX3_settle 24 = .ok (.new 62, 3) := by decide +kernel
theorem dX3_settle_27 : decode cX3_settle 27 = .ok (.dup, 1) := by decide +kernel
theorem dX3_settle_28 : decode cX3_settle 28 = .ok (.ldc 137, 2) := by decide +kernel
theorem dX3_settle_30 : decode cX3_settle 30 = .ok (.invokespecial 66, 3) := by decide +kernel
theorem dX3_settle_33 : decode cX3_settle 33 = .ok (.athrow, 1) := by decide +kernel
theorem dX3_settle_34 : decode cX3_settle 34 = .ok (.aload_n 0, 1) := by decide +kernel
theorem dX3_settle_35 : decode cX3_settle 35 = .ok (.invokevirtual 67, 3) := by decide +kernel
theorem dX3_settle_38 : decode cX3_settle 38 = .ok (.aload_n 0, 1) := by decide +kernel
theorem dX3_settle_39 : decode cX3_settle 39 = .ok (.getfield 10, 3) := by decide +kernel
theorem dX3_settle_42 : decode cX3_settle 42 = .ok (.aload_n 0, 1) := by decide +kernel
theorem dX3_settle_43 : decode cX3_settle 43 = .ok (.getfield 16, 3) := by decide +kernel
theorem dX3_settle_46 : decode cX3_settle 46 = .ok (.invokevirtual 130, 3) := by decide +kernel
theorem dX3_settle_49 : decode cX3_settle 49 = .ok (.iload_n 1, 1) := by decide +kernel
theorem dX3_settle_50 : decode cX3_settle 50 = .ok (.ireturn, 1) := by decide +kernel
set_option maxRecDepth 20000 in
theorem ggX3_reset_X3_save : GoodIn wsX3_reset wsX3_save := goodIn_r _ [7, 8, 9, 1, 10, 11, 12, 6, 13, 14, 15, 16, 17, 18, 19, 20, 21, 22, 23, 24, 25, 26, 27, 28, 29, 30, 31, 32, 33, 34, 35, 36, 37, 38, 39, 54, 55, 56, 57, 58, 59, 60, 61, 62, 63, 64, 65, 66, 67, 68, 69, 70, 71, 72, 73, 74, 75, 76] (by decide +kernel) (by decide +kernel)
set_option maxRecDepth 20000 in
theorem gX3_reset_X3_save : GoodIn wsX3_reset (wsV RX3 67 RX3 yX3_save wsX3_save) := goodIn_app (goodIn_of _ (by decide +kernel)) ggX3_reset_X3_save
set_option maxRecDepth 20000 in
theorem ggX3_reset_X0_up : GoodIn wsX3_reset wsX0_up := goodIn_r _ [43, 31, 44, 45, 17, 46, 66, 67, 68, 69, 70, 71, 72, 73, 74, 75, 76] (by decide +kernel) (by decide +kernel)
set_option maxRecDepth 20000 in
theorem gX3_reset_X0_up : GoodIn wsX3_reset (wsV RX3 139 RX0 yX0_up wsX0_up) := goodIn_app (goodIn_of _ (by decide +kernel)) ggX3_reset_X0_up
set_option maxRecDepth 20000 in
theorem ggX3_reset_J6_bitCount_0f7a4 : GoodIn wsX3_reset wsJ6_bitCount_0f7a4 := goodIn_r _ [50, 51, 52, 53] (by decide +kernel) (by decide +kernel)
set_option maxRecDepth 20000 in
theorem gX3_reset_J6_bitCount_0f7a4 : GoodIn wsX3_reset (va_wsS RX3 117 yJ6_bitCount_0f7a4 wsJ6_bitCount_0f7a4) := goodIn_app (goodIn_of _ (by decide +kernel)) ggX3_reset_J6_bitCount_0f7a4
theorem dX3_reset_0 : decode cX3_reset 0 = .ok (.aload_n 0, 1) := by decide +kernel
theorem dX3_reset_1 : decode cX3_reset 1 = .ok (.invokevirtual 67, 3) := by decide +kernel
theorem dX3_reset_4 : decode cX3_reset 4 = .ok (.aload_n 0, 1) := by decide +kernel
theorem dX3_reset_5 : decode cX3_reset 5 = .ok (.getfield 10, 3) := by decide +kernel
theorem dX3_reset_8 : decode cX3_reset 8 = .ok (.invokevirtual 139, 3) := by decide +kernel
theorem dX3_reset_11 : decode cX3_reset 11 = .ok (.invokestatic 117, 3) := by decide +kernel
theorem dX3_reset_14 : decode cX3_reset 14 = .ok (.istore_n 1, 1) := by decide +kernel
theorem dX3_reset_15 : decode cX3_reset 15 = .ok (.aload_n 0, 1) := by decide +kernel
theorem dX3_reset_16 : decode cX3_reset 16 = .ok (.getfield 10, 3) := by decide +kernel
theorem dX3_reset_19 : decode cX3_reset 19 = .ok (.iconst 0, 1) := by decide +kernel
theorem dX3_reset_20 : decode cX3_reset 20 = .ok (.putfield 142, 3) := by decide +kernel
theorem dX3_reset_23 : decode cX3_reset 23 = .ok (.iload_n 1, 1) := by decide +kernel
theorem dX3_reset_24 : decode cX3_reset 24 = .ok (.ireturn, 1) := by decide +kernel
theorem dX3_append_0 : decode cX3_append 0 = .ok (.iload_n 1, 1) := by decide +kernel
theorem dX3_append_1 : decode cX3_append 1 = .ok (.bipush 33, 2) := by decide +kernel
theorem dX3_append_3 : decode cX3_append 3 = .ok (.if_icmp .lt 9, 3) := by decide +kernel
theorem dX3_append_6 : decode cX3_append 6 = .ok (.iload_n 1, 1) := by decide +kernel
theorem dX3_append_7 : decode cX3_append 7 = .ok (.bipush 126, 2) := by decide +kernel
theorem dX3_append_9 : decode cX3_append 9 = .ok (.if_icmp .le 13, 3) := by decide +kernel
theorem dX3_append_12 : decode cX3_append 12 = .ok (.new 51, 3) := by decide +kernel
theorem dX3_append_15 : decode cX3_append 15 = .ok (.dup, 1) := by decide +kernel
theorem dX3_append_16 : decode cX3_append 16 = .ok (.ldc 145, 2) := by decide +kernel
theorem dX3_append_18 : decode cX3_append 18 = .ok (.invokespecial 55, 3) := by decide +kernel
theorem dX3_append_21 : decode cX3_append 21 = .ok (.athrow, 1) := by decide +kernel
theorem dX3_append_22 : decode cX3_append 22 = .ok (.aload_n 0, 1) := by decide +kernel
theorem dX3_append_23 : decode cX3_append 23 = .ok (.getfield 147, 3) := by decide +kernel
theorem dX3_append_26 : decode cX3_append 26 = .ok (.bipush 60, 2) := by decide +kernel
theorem dX3_append_28 : decode cX3_append 28 = .ok (.if_icmp .lt 13, 3) := by decide +kernel
theorem dX3_append_31 : decode cX3_append 31 = .ok (.new 62, 3) := by decide +kernel
theorem dX3_append_34 : decode cX3_append 34 = .ok (.dup, 1) := by decide +kernel
theorem dX3_append_35 : decode cX3_append 35 = .ok (.ldc 150, 2) := by decide +kernel
theorem dX3_append_37 : decode cX3_append 37 = .ok (.invokespecial 66, 3) := by decide +kernel
theorem dX3_append_40 : decode cX3_append 40 = .ok (.athrow, 1) := by decide +kernel
theorem dX3_append_41 : decode cX3_append 41 = .ok (.aload_n 0, 1) := by decide +kernel
theorem dX3_append_42 : decode cX3_append 42 = .ok (.getfield 23, 3) := by decide +kernel
theorem dX3_append_45 : decode cX3_append 45 = .ok (.aload_n 0, 1) := by decide +kernel
theorem dX3_append_46 : decode cX3_append 46 = .ok (.getfield 147, 3) := by decide +kernel
theorem dX3_append_49 : decode cX3_append 49 = .ok (.iload_n 1, 1) := by decide +kernel
theorem dX3_append_50 : decode cX3_append 50 = .ok (.iastore, 1) := by decide +kernel
theorem dX3_append_51 : decode cX3_append 51 = .ok (.aload_n 0, 1) := by decide +kernel
theorem dX3_append_52 : decode cX3_append 52 = .ok (.dup, 1) := by decide +kernel
theorem dX3_append_53 : decode cX3_append 53 = .ok (.getfield 147, 3) := by decide +kernel
theorem dX3_append_56 : decode cX3_append 56 = .ok (.iconst 1, 1) := by decide +kernel
theorem dX3_append_57 : decode cX3_append 57 = .ok (.iadd, 1) := by decide +kernel
theorem dX3_append_58 : decode cX3_append 58 = .ok (.putfield 147, 3) := by decide +kernel
theorem dX3_append_61 : decode cX3_append 61 = .ok (.aload_n 0, 1) := by decide +kernel
theorem dX3_append_62 : decode cX3_append 62 = .ok (.getfield 147, 3) := by decide +kernel
theorem dX3_append_65 : decode cX3_append 65 = .ok (.ireturn, 1) := by decide +kernel
theorem dX3_clearBuffer_0 : decode cX3_clearBuffer 0 = .ok (.aload_n 0, 1) := by decide +kernel
theorem dX3_clearBuffer_1 : decode cX3_clearBuffer 1 = .ok (.getfield 147, 3) := by decide +kernel
theorem dX3_clearBuffer_4 : decode cX3_clearBuffer 4 = .ok (.istore_n 1, 1) := by decide +kernel
theorem dX3_clearBuffer_5 : decode cX3_clearBuffer 5 = .ok (.aload_n 0, 1) := by decide +kernel
theorem dX3_clearBuffer_6 : decode cX3_clearBuffer 6 = .ok (.iconst 0, 1) := by decide +kernel
theorem dX3_clearBuffer_7 : decode cX3_clearBuffer 7 = .ok (.putfield 147, 3) := by decide +kernel
theorem dX3_clearBuffer_10 : decode cX3_clearBuffer 10 = .ok (.iload_n 1, 1) := by decide +kernel
theorem dX3_clearBuffer_11 : decode cX3_clearBuffer 11 = .ok (.ireturn, 1) := by decide +kernel
set_option maxRecDepth 20000 in
theorem ggX3_firstError_X1_begin : GoodIn wsX3_firstError wsX1_begin := goodIn_r _ [8, 9, 72, 73, 74, 75, 76, 77, 78, 79] (by decide +kernel) (by decide +kernel)
set_option maxRecDepth 20000 in
theorem gX3_firstError_X1_begin : GoodIn wsX3_firstError (wsV RX3 152 RX1 yX1_begin wsX1_begin) := goodIn_app (goodIn_of _ (by decide +kernel)) ggX3_firstError_X1_begin
set_option maxRecDepth 20000 in
theorem ggX3_firstError_X1_take : GoodIn wsX3_firstError wsX1_take := goodIn_r _ [13, 9, 14, 15, 16, 17, 7, 18, 19, 20, 21, 22, 23, 24, 25, 26, 27, 28, 29, 30, 31, 32, 33, 34, 35, 36, 37, 38, 39, 40, 41, 42, 43, 44, 45, 46, 47, 48, 49, 50, 51, 52, 53, 54, 55, 56, 57, 58, 59, 72, 73, 74, 75, 76, 77, 78, 79] (by decide +kernel) (by decide +kernel)
set_option maxRecDepth 20000 in
theorem gX3_firstError_X1_take : GoodIn wsX3_firstError (wsV RX3 155 RX1 yX1_take wsX1_take) := goodIn_app (goodIn_of _ (by decide +kernel)) ggX3_firstError_X1_take
theorem dX3_firstError_0 : decode cX3_firstError 0 = .ok (.aload_n 0, 1) := by decide +kernel
theorem dX3_firstError_1 : decode cX3_firstError 1 = .ok (.getfield 30, 3) := by decide +kernel
theorem dX3_firstError_4 : decode cX3_firstError 4 = .ok (.invokevirtual 152, 3) := by decide +kernel
theorem dX3_firstError_7 : decode cX3_firstError 7 = .ok (.iconst 0, 1) := by decide +kernel
theorem dX3_firstError_8 : decode cX3_firstError 8 = .ok (.istore_n 1, 1) := by decide +kernel
theorem dX3_firstError_9 : decode cX3_firstError 9 = .ok (.iload_n 1, 1) := by decide +kernel
theorem dX3_firstError_10 : decode cX3_firstError 10 = .ok (.aload_n 0, 1) := by decide +kernel
theorem dX3_firstError_11 : decode cX3_firstError 11 = .ok (.getfield 147, 3) := by decide +kernel
theorem dX3_firstError_14 : decode cX3_firstError 14 = .ok (.if_icmp .ge 27, 3) := by decide +kernel
theorem dX3_firstError_17 : decode cX3_firstError 17 = .ok (.aload_n 0, 1) := by decide +kernel
theorem dX3_firstError_18 : decode cX3_firstError 18 = .ok (.getfield 30, 3) := by decide +kernel
theorem dX3_firstError_21 : decode cX3_firstError 21 = .ok (.aload_n 0, 1) := by decide +kernel
theorem dX3_firstError_22 : decode cX3_firstError 22 = .ok (.getfield 23, 3) := by decide +kernel
theorem dX3_firstError_25 : decode cX3_firstError 25 = .ok (.iload_n 1, 1) := by decide +kernel
theorem dX3_firstError_26 : decode cX3_firstError 26 = .ok (.iaload, 1) := by decide +kernel
theorem dX3_firstError_27 : decode cX3_firstError 27 = .ok (.invokevirtual 155, 3) := by decide +kernel
theorem dX3_firstError_30 : decode cX3_firstError 30 = .ok (.ifCond .ne 5, 3) := by decide +kernel
theorem dX3_firstError_33 : decode cX3_firstError 33 = .ok (.iload_n 1, 1) := by decide +kernel
theorem dX3_firstError_34 : decode cX3_firstError 34 = .ok (.ireturn, 1) := by decide +kernel
theorem dX3_firstError_35 : decode cX3_firstError 35 = .ok (.iinc 1 1, 3) := by decide +kernel
theorem dX3_firstError_38 : decode cX3_firstError 38 = .ok (.goto (-29), 3) := by decide +kernel
theorem dX3_firstError_41 : decode cX3_firstError 41 = .ok (.aload_n 0, 1) := by decide +kernel
theorem dX3_firstError_42 : decode cX3_firstError 42 = .ok (.getfield 147, 3) := by decide +kernel
theorem dX3_firstError_45 : decode cX3_firstError 45 = .ok (.ireturn, 1) := by decide +kernel
set_option maxRecDepth 20000 in
theorem ggX3_draw_X3_isCompleteText : GoodIn wsX3_draw wsX3_isCompleteText := goodIn_r _ [8, 3, 9, 10, 11, 12, 7, 13, 14, 15, 16, 17, 18, 19, 20, 21, 22, 23, 24, 25, 26, 27, 28, 29, 30, 31, 32, 33, 34, 35, 36, 37, 38, 39, 40, 41, 42, 43, 44, 45, 46, 47, 48, 49, 50, 51, 52, 53, 54, 55, 56, 57, 58, 59, 60, 61, 62, 63, 64, 65, 66, 67, 68, 69, 70, 71, 72, 73, 74, 151, 152, 153, 154, 155, 156, 157, 158, 159, 160, 161, 162, 163, 164, 165, 166, 167, 168, 169, 170] (by decide +kernel) (by decide +kernel)
set_option maxRecDepth 20000 in
theorem gX3_draw_X3_isCompleteText : GoodIn wsX3_draw (wsV RX3 158 RX3 yX3_isCompleteText wsX3_isCompleteText) := goodIn_app (goodIn_of _ (by decide +kernel)) ggX3_draw_X3_isCompleteText
set_option maxRecDepth 20000 in
theorem ggX3_draw_X3_save : GoodIn wsX3_draw wsX3_save := goodIn_r _ [78, 79, 80, 81, 82, 83, 84, 7, 85, 86, 87, 88, 89, 90, 91, 92, 93, 94, 95, 96, 97, 98, 99, 100, 101, 102, 103, 104, 105, 106, 107, 108, 109, 110, 111, 151, 152, 153, 154, 155, 156, 157, 158, 159, 160, 161, 162, 171, 172, 173, 174, 175, 176, 177, 178, 179, 180, 181] (by decide +kernel) (by decide +kernel)
set_option maxRecDepth 20000 in
theorem gX3_draw_X3_save : GoodIn wsX3_draw (wsV RX3 67 RX3 yX3_save wsX3_save) := goodIn_app (goodIn_of _ (by decide +kernel)) ggX3_draw_X3_save
set_option maxRecDepth 20000 in
theorem ggX3_draw_X3_doOrders : GoodIn wsX3_draw wsX3_doOrders := goodIn_r _ [115, 9, 3, 14, 15, 16, 17, 18, 19, 20, 116, 117, 118, 7, 119, 120, 81, 121, 122, 123, 124, 125, 126, 127, 89, 128, 91, 129, 130, 131, 132, 133, 134, 135, 136, 137, 138, 139, 140, 141, 142, 143, 92, 144, 145, 146, 147, 97, 98, 148, 149, 150, 21, 22, 23, 24, 25, 26, 27, 28, 29, 30, 31, 32, 33, 34, 35, 36, 37, 38, 39, 40, 41, 42, 43, 44, 45, 46, 47, 48, 49, 50, 51, 52, 53, 54, 55, 56, 57, 58, 59, 60, 61, 62, 63, 64, 65, 66, 67, 68, 69, 70, 151, 152, 153, 154, 155, 156, 157, 158, 159, 160, 161, 162, 163, 164, 165, 166, 167, 168, 169, 170, 171, 172, 173, 174, 175, 176, 177, 178, 179, 180, 181] (by decide +kernel) (by decide +kernel)
set_option maxRecDepth 20000 in
theorem gX3_draw_X3_doOrders : GoodIn wsX3_draw (wsV RX3 164 RX3 yX3_doOrders wsX3_doOrders) := goodIn_app (goodIn_of _ (by decide +kernel)) ggX3_draw_X3_doOrders
theorem dX3_draw_0 : decode cX3_draw 0 = .ok (.aload_n 0, 1) := by decide +kernel
theorem dX3_draw_1 : decode cX3_draw 1 = .ok (.invokevirtual 158, 3) := by decide +kernel
theorem dX3_draw_4 : decode cX3_draw 4 = .ok (.ifCond .ne 13, 3) := by decide +kernel
theorem dX3_draw_7 : decode cX3_draw 7 = .ok (.new 51, 3) := by decide +kernel
theorem dX3_draw_10 : decode cX3_draw 10 = .ok (.dup, 1) := by decide +kernel
theorem dX3_draw_11 : decode cX3_draw 11 = .ok (.ldc 162, 2) := by decide +kernel
theorem dX3_draw_13 : decode cX3_draw 13 = .ok (.invokespecial 55, 3) := by decide +kernel
theorem dX3_draw_16 : decode cX3_draw 16 = .ok (.athrow, 1) := by decide +kernel
theorem dX3_draw_17 : decode cX3_draw 17 = .ok (.aload_n 0, 1) := by decide +kernel
theorem dX3_draw_18 : decode cX3_draw 18 = .ok (.invokevirtual 67, 3) := by decide +kernel
theorem dX3_draw_21 : decode cX3_draw 21 = .ok (.aload_n 0, 1) := by decide +kernel
theorem dX3_draw_22 : decode cX3_draw 22 = .ok (.invokevirtual 164, 3) := by decide +kernel
theorem dX3_draw_25 : decode cX3_draw 25 = .ok (.istore_n 1, 1) := by decide +kernel
theorem dX3_draw_26 : decode cX3_draw 26 = .ok (.aload_n 0, 1) := by decide +kernel
theorem dX3_draw_27 : decode cX3_draw 27 = .ok (.iconst 0, 1) := by decide +kernel
theorem dX3_draw_28 : decode cX3_draw 28 = .ok (.putfield 147, 3) := by decide +kernel
theorem dX3_draw_31 : decode cX3_draw 31 = .ok (.iload_n 1, 1) := by decide +kernel
theorem dX3_draw_32 : decode cX3_draw 32 = .ok (.ireturn, 1) := by decide +kernel
set_option maxRecDepth 20000 in
theorem ggX3_undo_X0_copyFrom : GoodIn wsX3_undo wsX0_copyFrom := goodIn_r _ [10, 11, 12, 13, 14, 15, 16, 17, 18, 19, 20, 21, 22, 23, 24, 25, 45, 46, 47, 48, 49, 50, 51, 52, 53, 54, 55] (by decide +kernel) (by decide +kernel)
set_option maxRecDepth 20000 in
theorem gX3_undo_X0_copyFrom : GoodIn wsX3_undo (wsV RX3 130 RX0 yX0_copyFrom wsX0_copyFrom) := goodIn_app (goodIn_of _ (by decide +kernel)) ggX3_undo_X0_copyFrom
set_option maxRecDepth 20000 in
theorem ggX3_undo_X3_forgetAnswers : GoodIn wsX3_undo wsX3_forgetAnswers := goodIn_r _ [30, 31, 32, 33, 34, 35, 36, 37, 38, 39, 40, 41, 42, 43, 44] (by decide +kernel) (by decide +kernel)
set_option maxRecDepth 20000 in
theorem gX3_undo_X3_forgetAnswers : GoodIn wsX3_undo (wsV RX3 172 RX3 yX3_forgetAnswers wsX3_forgetAnswers) := goodIn_app (goodIn_of _ (by decide +kernel)) ggX3_undo_X3_forgetAnswers
theorem dX3_undo_0 : decode cX3_undo 0 = .ok (.aload_n 0, 1) := by decide +kernel
theorem dX3_undo_1 : decode cX3_undo 1 = .ok (.getfield 167, 3) := by decide +kernel
theorem dX3_undo_4 : decode cX3_undo 4 = .ok (.iconst 1, 1) := by decide +kernel
theorem dX3_undo_5 : decode cX3_undo 5 = .ok (.if_icmp .ge 13, 3) := by decide +kernel
theorem dX3_undo_8 : decode cX3_undo 8 = .ok (.new 62, 3) := by decide +kernel
theorem dX3_undo_11 : decode cX3_undo 11 = .ok (.dup, 1) := by decide +kernel
theorem dX3_undo_12 : decode cX3_undo 12 = .ok (.ldc 170, 2) := by decide +kernel
theorem dX3_undo_14 : decode cX3_undo 14 = .ok (.invokespecial 66, 3) := by decide +kernel
theorem dX3_undo_17 : decode cX3_undo 17 = .ok (.athrow, 1) := by decide +kernel
theorem dX3_undo_18 : decode cX3_undo 18 = .ok (.aload_n 0, 1) := by decide +kernel
theorem dX3_undo_19 : decode cX3_undo 19 = .ok (.dup, 1) := by decide +kernel
theorem dX3_undo_20 : decode cX3_undo 20 = .ok (.getfield 167, 3) := by decide +kernel
theorem dX3_undo_23 : decode cX3_undo 23 = .ok (.iconst 1, 1) := by decide +kernel
theorem dX3_undo_24 : decode cX3_undo 24 = .ok (.isub, 1) := by decide +kernel
theorem dX3_undo_25 : decode cX3_undo 25 = .ok (.putfield 167, 3) := by decide +kernel
theorem dX3_undo_28 : decode cX3_undo 28 = .ok (.aload_n 0, 1) := by decide +kernel
theorem dX3_undo_29 : decode cX3_undo 29 = .ok (.getfield 10, 3) := by decide +kernel
theorem dX3_undo_32 : decode cX3_undo 32 = .ok (.aload_n 0, 1) := by decide +kernel
theorem dX3_undo_33 : decode cX3_undo 33 = .ok (.getfield 19, 3) := by decide +kernel
theorem dX3_undo_36 : decode cX3_undo 36 = .ok (.aload_n 0, 1) := by decide +kernel
theorem dX3_undo_37 : decode cX3_undo 37 = .ok (.getfield 167, 3) := by decide +kernel
theorem dX3_undo_40 : decode cX3_undo 40 = .ok (.aaload, 1) := by decide +kernel
theorem dX3_undo_41 : decode cX3_undo 41 = .ok (.invokevirtual 130, 3) := by decide +kernel
theorem dX3_undo_44 : decode cX3_undo 44 = .ok (.aload_n 0, 1) := by decide +kernel
theorem dX3_undo_45 : decode cX3_undo 45 = .ok (.invokevirtual 172, 3) := by decide +kernel
theorem dX3_undo_48 : decode cX3_undo 48 = .ok (.aload_n 0, 1) := by decide +kernel
theorem dX3_undo_49 : decode cX3_undo 49 = .ok (.getfield 167, 3) := by decide +kernel
theorem dX3_undo_52 : decode cX3_undo 52 = .ok (.ireturn, 1) := by decide +kernel
set_option maxRecDepth 20000 in
theorem ggX3_relay_X0_hasRelay : GoodIn wsX3_relay wsX0_hasRelay := goodIn_r _ [10, 11, 91, 92, 93, 94, 95, 96, 97, 98, 99, 100, 101] (by decide +kernel) (by decide +kernel)
set_option maxRecDepth 20000 in
theorem gX3_relay_X0_hasRelay : GoodIn wsX3_relay (wsV RX3 74 RX0 yX0_hasRelay wsX0_hasRelay) := goodIn_app (goodIn_of _ (by decide +kernel)) ggX3_relay_X0_hasRelay
set_option maxRecDepth 20000 in
theorem ggX3_relay_X3_propertyOf : GoodIn wsX3_relay wsX3_propertyOf := goodIn_r _ [16, 5, 17, 18, 19, 20, 21, 22, 23, 24, 9, 25, 26, 27, 28, 29, 30, 31, 32, 33, 34, 35, 36, 37, 38, 39, 40, 41, 42, 11, 43, 44, 45, 46, 47, 48, 49, 50, 51, 52, 53, 54, 55, 56, 57, 58, 59, 60, 61, 62, 63, 64, 65, 66, 67, 68, 69, 70, 71, 72, 73, 74, 75, 76, 77, 78, 79, 80, 81, 82, 83, 84, 85, 86, 87, 88, 89, 90, 91, 92, 93, 94, 95, 96, 97, 98, 99, 100, 101] (by decide +kernel) (by decide +kernel)
set_option maxRecDepth 20000 in
theorem gX3_relay_X3_propertyOf : GoodIn wsX3_relay (wsV RX3 177 RX3 yX3_propertyOf wsX3_propertyOf) := goodIn_app (goodIn_of _ (by decide +kernel)) ggX3_relay_X3_propertyOf
theorem dX3_relay_0 : decode cX3_relay 0 = .ok (.aload_n 0, 1) := by decide +kernel
theorem dX3_relay_1 : decode cX3_relay 1 = .ok (.getfield 10, 3) := by decide +kernel
theorem dX3_relay_4 : decode cX3_relay 4 = .ok (.iload_n 1, 1) := by decide +kernel
theorem dX3_relay_5 : decode cX3_relay 5 = .ok (.invokevirtual 74, 3) := by decide +kernel
theorem dX3_relay_8 : decode cX3_relay 8 = .ok (.ifCond .ne 13, 3) := by decide +kernel
theorem dX3_relay_11 : decode cX3_relay 11 = .ok (.new 77, 3) := by decide +kernel
theorem dX3_relay_14 : decode cX3_relay 14 = .ok (.dup, 1) := by decide +kernel
theorem dX3_relay_15 : decode cX3_relay 15 = .ok (.ldc 79, 2) := by decide +kernel
theorem dX3_relay_17 : decode cX3_relay 17 = .ok (.invokespecial 81, 3) := by decide +kernel
theorem dX3_relay_20 : decode cX3_relay 20 = .ok (.athrow, 1) := by decide +kernel
theorem dX3_relay_21 : decode cX3_relay 21 = .ok (.iload_n 2, 1) := by decide +kernel
theorem dX3_relay_22 : decode cX3_relay 22 = .ok (.ifCond .lt 9, 3) := by decide +kernel
theorem dX3_relay_25 : decode cX3_relay 25 = .ok (.iload_n 2, 1) := by decide +kernel
theorem dX3_relay_26 : decode cX3_relay 26 = .ok (.bipush 9, 2) := by decide +kernel
theorem dX3_relay_28 : decode cX3_relay 28 = .ok (.if_icmp .lt 13, 3) := by decide +kernel
theorem dX3_relay_31 : decode cX3_relay 31 = .ok (.new 51, 3) := by decide +kernel
theorem dX3_relay_34 : decode cX3_relay 34 = .ok (.dup, 1) := by decide +kernel
theorem dX3_relay_35 : decode cX3_relay 35 = .ok (.ldc 175, 2) := by decide +kernel
theorem dX3_relay_37 : decode cX3_relay 37 = .ok (.invokespecial 55, 3) := by decide +kernel
theorem dX3_relay_40 : decode cX3_relay 40 = .ok (.athrow, 1) := by decide +kernel
theorem dX3_relay_41 : decode cX3_relay 41 = .ok (.aload_n 0, 1) := by decide +kernel
theorem dX3_relay_42 : decode cX3_relay 42 = .ok (.iload_n 1, 1) := by decide +kernel
theorem dX3_relay_43 : decode cX3_relay 43 = .ok (.iload_n 2, 1) := by decide +kernel
theorem dX3_relay_44 : decode cX3_relay 44 = .ok (.invokevirtual 177, 3) := by decide +kernel
theorem dX3_relay_47 : decode cX3_relay 47 = .ok (.ireturn, 1) := by decide +kernel
set_option maxRecDepth 20000 in
theorem ggX3_contacts_X0_hasRelay : GoodIn wsX3_contacts wsX0_hasRelay := goodIn_r _ [11, 12, 57, 58, 59, 60, 61, 62, 63, 64, 65, 66, 67] (by decide +kernel) (by decide +kernel)
set_option maxRecDepth 20000 in
theorem gX3_contacts_X0_hasRelay : GoodIn wsX3_contacts (wsV RX3 74 RX0 yX0_hasRelay wsX0_hasRelay) := goodIn_app (goodIn_of _ (by decide +kernel)) ggX3_contacts_X0_hasRelay
set_option maxRecDepth 20000 in
theorem ggX3_contacts_X3_contactAnswer : GoodIn wsX3_contacts wsX3_contactAnswer := goodIn_r _ [17, 5, 18, 19, 20, 21, 10, 22, 23, 24, 25, 26, 27, 28, 29, 30, 31, 32, 33, 34, 35, 36, 37, 38, 39, 40, 41, 42, 43, 44, 45, 46, 47, 48, 49, 50, 51, 52, 53, 54, 55, 56, 57, 58, 59, 60, 61, 62, 63, 64, 65, 66, 67] (by decide +kernel) (by decide +kernel)
set_option maxRecDepth 20000 in
theorem gX3_contacts_X3_contactAnswer : GoodIn wsX3_contacts (wsV RX3 184 RX3 yX3_contactAnswer wsX3_contactAnswer) := goodIn_app (goodIn_of _ (by decide +kernel)) ggX3_contacts_X3_contactAnswer
theorem dX3_contacts_0 : decode cX3_contacts 0 = .ok (.aload_n 0, 1) := by decide +kernel
theorem dX3_contacts_1 : decode cX3_contacts 1 = .ok (.getfield 10, 3) := by decide +kernel
theorem dX3_contacts_4 : decode cX3_contacts 4 = .ok (.iload_n 1, 1) := by decide +kernel
theorem dX3_contacts_5 : decode cX3_contacts 5 = .ok (.invokevirtual 74, 3) := by decide +kernel
theorem dX3_contacts_8 : decode cX3_contacts 8 = .ok (.ifCond .eq 20, 3) := by decide +kernel
theorem dX3_contacts_11 : decode cX3_contacts 11 = .ok (.iload_n 2, 1) := by decide +kernel
theorem dX3_contacts_12 : decode cX3_contacts 12 = .ok (.ifCond .lt 16, 3) := by decide +kernel
theorem dX3_contacts_15 : decode cX3_contacts 15 = .ok (.iload_n 2, 1) := by decide +kernel
theorem dX3_contacts_16 : decode cX3_contacts 16 = .ok (.aload_n 0, 1) := by decide +kernel
theorem dX3_contacts_17 : decode cX3_contacts 17 = .ok (.getfield 10, 3) := by decide +kernel
theorem dX3_contacts_20 : decode cX3_contacts 20 = .ok (.getfield 89, 3) := by decide +kernel
theorem dX3_contacts_23 : decode cX3_contacts 23 = .ok (.iload_n 1, 1) := by decide +kernel
theorem dX3_contacts_24 : decode cX3_contacts 24 = .ok (.iaload, 1) := by decide +kernel
theorem dX3_contacts_25 : decode cX3_contacts 25 = .ok (.if_icmp .lt 13, 3) := by decide +kernel
theorem dX3_contacts_28 : decode cX3_contacts 28 = .ok (.new 77, 3) := by decide +kernel
theorem dX3_contacts_31 : decode cX3_contacts 31 = .ok (.dup, 1) := by decide +kernel
theorem dX3_contacts_32 : decode cX3_contacts 32 = .ok (.ldc 180, 2) := by decide +kernel
theorem dX3_contacts_34 : decode cX3_contacts 34 = .ok (.invokespecial 81, 3) := by decide +kernel
theorem dX3_contacts_37 : decode cX3_contacts 37 = .ok (.athrow, 1) := by decide +kernel
theorem dX3_contacts_38 : decode cX3_contacts 38 = .ok (.iload_n 3, 1) := by decide +kernel
theorem dX3_contacts_39 : decode cX3_contacts 39 = .ok (.ifCond .lt 8, 3) := by decide +kernel
theorem dX3_contacts_42 : decode cX3_contacts 42 = .ok (.iload_n 3, 1) := by decide +kernel
theorem dX3_contacts_43 : decode cX3_contacts 43 = .ok (.iconst 4, 1) := by decide +kernel
theorem dX3_contacts_44 : decode cX3_contacts 44 = .ok (.if_icmp .lt 13, 3) := by decide +kernel
theorem dX3_contacts_47 : decode cX3_contacts 47 = .ok (.new 51, 3) := by decide +kernel
theorem dX3_contacts_50 : decode cX3_contacts 50 = .ok (.dup, 1) := by decide +kernel
theorem dX3_contacts_51 : decode cX3_contacts 51 = .ok (.ldc 182, 2) := by decide +kernel
theorem dX3_contacts_53 : decode cX3_contacts 53 = .ok (.invokespecial 55, 3) := by decide +kernel
theorem dX3_contacts_56 : decode cX3_contacts 56 = .ok (.athrow, 1) := by decide +kernel
theorem dX3_contacts_57 : decode cX3_contacts 57 = .ok (.aload_n 0, 1) := by decide +kernel
theorem dX3_contacts_58 : decode cX3_contacts 58 = .ok (.iload_n 1, 1) := by decide +kernel
theorem dX3_contacts_59 : decode cX3_contacts 59 = .ok (.iload_n 2, 1) := by decide +kernel
theorem dX3_contacts_60 : decode cX3_contacts 60 = .ok (.iload_n 3, 1) := by decide +kernel
theorem dX3_contacts_61 : decode cX3_contacts 61 = .ok (.invokevirtual 184, 3) := by decide +kernel
theorem dX3_contacts_64 : decode cX3_contacts 64 = .ok (.ireturn, 1) := by decide +kernel
set_option maxRecDepth 20000 in
theorem ggX3_count_X3_numberOf : GoodIn wsX3_count wsX3_numberOf := goodIn_r _ [7, 8, 9, 10, 11, 12, 13, 14, 15, 16, 17, 18, 19, 20, 21, 22, 23, 24, 25, 26, 27, 28, 29, 30, 31, 32, 33, 34, 35, 36, 37, 38, 39, 40, 41, 42, 43, 44, 45, 46, 47, 48, 49, 50, 51, 52, 53, 54, 55, 56, 57, 58, 59, 60, 61, 62, 63, 64, 65, 66, 67, 68, 69, 70, 71, 72, 73, 74, 75, 76, 77, 78, 79, 80, 81, 82, 83, 84, 85, 86] (by decide +kernel) (by decide +kernel)
set_option maxRecDepth 20000 in
theorem gX3_count_X3_numberOf : GoodIn wsX3_count (wsV RX3 189 RX3 yX3_numberOf wsX3_numberOf) := goodIn_app (goodIn_of _ (by decide +kernel)) ggX3_count_X3_numberOf
theorem dX3_count_0 : decode cX3_count 0 = .ok (.iload_n 1, 1) := by decide +kernel
theorem dX3_count_1 : decode cX3_count 1 = .ok (.ifCond .lt 9, 3) := by decide +kernel
theorem dX3_count_4 : decode cX3_count 4 = .ok (.iload_n 1, 1) := by decide +kernel
theorem dX3_count_5 : decode cX3_count 5 = .ok (.bipush 10, 2) := by decide +kernel
theorem dX3_count_7 : decode cX3_count 7 = .ok (.if_icmp .lt 13, 3) := by decide +kernel
theorem dX3_count_10 : decode cX3_count 10 = .ok (.new 51, 3) := by decide +kernel
theorem dX3_count_13 : decode cX3_count 13 = .ok (.dup, 1) := by decide +kernel
theorem dX3_count_14 : decode cX3_count 14 = .ok (.ldc 187, 2) := by decide +kernel
theorem dX3_count_16 : decode cX3_count 16 = .ok (.invokespecial 55, 3) := by decide +kernel
theorem dX3_count_19 : decode cX3_count 19 = .ok (.athrow, 1) := by decide +kernel
theorem dX3_count_20 : decode cX3_count 20 = .ok (.aload_n 0, 1) := by decide +kernel
theorem dX3_count_21 : decode cX3_count 21 = .ok (.iload_n 1, 1) := by decide +kernel
theorem dX3_count_22 : decode cX3_count 22 = .ok (.invokevirtual 189, 3) := by decide +kernel
theorem dX3_count_25 : decode cX3_count 25 = .ok (.ireturn, 1) := by decide +kernel
set_option maxRecDepth 20000 in
theorem ggX3_leads_X3_leadAnswer : GoodIn wsX3_leads wsX3_leadAnswer := goodIn_r _ [7, 8, 9, 10, 11, 12, 13, 14, 15, 16, 17, 18, 19, 20, 21, 22, 23, 24, 25, 26, 27, 28, 29, 30, 31, 32, 33, 34, 35, 36, 37, 38, 39, 40, 41, 42, 43, 44, 45, 46, 47, 48, 49, 50, 51, 52, 53, 54, 55, 56, 57, 58, 59, 60, 61, 62, 63, 64, 65, 66, 67, 68, 69, 70, 71, 72, 73, 74, 75, 76, 77, 78, 79, 80, 81, 82, 83, 84, 85, 86, 87, 88, 89, 90, 91, 92, 93, 94, 95, 96, 97, 98, 99, 100, 101, 102, 103, 104, 105, 106, 107, 108, 109, 110, 111, 112, 113, 114, 115, 116, 117] (by decide +kernel) (by decide +kernel)
set_option maxRecDepth 20000 in
theorem gX3_leads_X3_leadAnswer : GoodIn wsX3_leads (wsV RX3 194 RX3 yX3_leadAnswer wsX3_leadAnswer) := goodIn_app (goodIn_of _ (by decide +kernel)) ggX3_leads_X3_leadAnswer
theorem dX3_leads_0 : decode cX3_leads 0 = .ok (.iload_n 1, 1) := by decide +kernel
theorem dX3_leads_1 : decode cX3_leads 1 = .ok (.ifCond .lt 18, 3) := by decide +kernel
theorem dX3_leads_4 : decode cX3_leads 4 = .ok (.iload_n 1, 1) := by decide +kernel
theorem dX3_leads_5 : decode cX3_leads 5 = .ok (.bipush 15, 2) := by decide +kernel
theorem dX3_leads_7 : decode cX3_leads 7 = .ok (.if_icmp .gt 12, 3) := by decide +kernel
theorem dX3_leads_10 : decode cX3_leads 10 = .ok (.iload_n 2, 1) := by decide +kernel
theorem dX3_leads_11 : decode cX3_leads 11 = .ok (.ifCond .lt 8, 3) := by decide +kernel
theorem dX3_leads_14 : decode cX3_leads 14 = .ok (.iload_n 2, 1) := by decide +kernel
theorem dX3_leads_15 : decode cX3_leads 15 = .ok (.iconst 2, 1) := by decide +kernel
theorem dX3_leads_16 : decode cX3_leads 16 = .ok (.if_icmp .lt 13, 3) := by decide +kernel
theorem dX3_leads_19 : decode cX3_leads 19 = .ok (.new 51, 3) := by decide +kernel
theorem dX3_leads_22 : decode cX3_leads 22 = .ok (.dup, 1) := by decide +kernel
theorem dX3_leads_23 : decode cX3_leads 23 = .ok (.ldc 192, 2) := by decide +kernel
theorem dX3_leads_25 : decode cX3_leads 25 = .ok (.invokespecial 55, 3) := by decide +kernel
theorem dX3_leads_28 : decode cX3_leads 28 = .ok (.athrow, 1) := by decide +kernel
theorem dX3_leads_29 : decode cX3_leads 29 = .ok (.aload_n 0, 1) := by decide +kernel
theorem dX3_leads_30 : decode cX3_leads 30 = .ok (.iload_n 1, 1) := by decide +kernel
theorem dX3_leads_31 : decode cX3_leads 31 = .ok (.iload_n 2, 1) := by decide +kernel
theorem dX3_leads_32 : decode cX3_leads 32 = .ok (.invokevirtual 194, 3) := by decide +kernel
theorem dX3_leads_35 : decode cX3_leads 35 = .ok (.ireturn, 1) := by decide +kernel
set_option maxRecDepth 20000 in
theorem ggX3_race_X3_findRace : GoodIn wsX3_race wsX3_findRace := goodIn_r _ [8, 9, 10, 11, 3, 12, 13, 14, 15, 16, 17, 18, 19, 20, 21, 22, 23, 24, 25, 26, 27, 28, 29, 30, 31, 32, 33, 34, 35, 36, 37, 38, 39, 40, 41, 42, 43, 44, 45, 46, 47, 48, 49, 50, 51, 52, 53, 54, 55, 56, 57, 58, 59, 60, 61, 62, 63, 64, 65, 66, 67, 68, 69, 70, 71, 72, 73, 74, 75, 76, 77, 78, 79, 80, 81, 82, 83, 84, 85, 86, 87, 88, 89, 90, 91, 92, 93, 94, 95, 96, 97, 98, 99, 100, 101, 102, 103, 104, 105, 106, 107, 108, 109, 110, 111, 112, 113, 114, 115, 116, 117, 118, 119, 120, 121, 122, 123, 124, 125, 126, 127, 128, 129, 130, 131, 132, 133, 134, 135, 136, 137, 138, 139, 140, 141, 142, 143, 144, 145, 146, 147, 148, 149, 150, 151, 152, 153, 154, 155, 156, 157, 158, 159, 160, 161, 162, 163, 164, 165, 166, 167, 168, 169, 170, 171] (by decide +kernel) (by decide +kernel)
set_option maxRecDepth 20000 in
theorem gX3_race_X3_findRace : GoodIn wsX3_race (wsV RX3 199 RX3 yX3_findRace wsX3_findRace) := goodIn_app (goodIn_of _ (by decide +kernel)) ggX3_race_X3_findRace
theorem dX3_race_0 : decode cX3_race 0 = .ok (.iload_n 1, 1) := by decide +kernel
theorem dX3_race_1 : decode cX3_race 1 = .ok (.ifCond .lt 8, 3) := by decide +kernel
theorem dX3_race_4 : decode cX3_race 4 = .ok (.iload_n 1, 1) := by decide +kernel
theorem dX3_race_5 : decode cX3_race 5 = .ok (.iconst 5, 1) := by decide +kernel
theorem dX3_race_6 : decode cX3_race 6 = .ok (.if_icmp .lt 13, 3) := by decide +kernel
theorem dX3_race_9 : decode cX3_race 9 = .ok (.new 51, 3) := by decide +kernel
theorem dX3_race_12 : decode cX3_race 12 = .ok (.dup, 1) := by decide +kernel
theorem dX3_race_13 : decode cX3_race 13 = .ok (.ldc 197, 2) := by decide +kernel
theorem dX3_race_15 : decode cX3_race 15 = .ok (.invokespecial 55, 3) := by decide +kernel
theorem dX3_race_18 : decode cX3_race 18 = .ok (.athrow, 1) := by decide +kernel
theorem dX3_race_19 : decode cX3_race 19 = .ok (.aload_n 0, 1) := by decide +kernel
theorem dX3_race_20 : decode cX3_race 20 = .ok (.invokevirtual 199, 3) := by decide +kernel
theorem dX3_race_23 : decode cX3_race 23 = .ok (.aload_n 0, 1) := by decide +kernel
theorem dX3_race_24 : decode cX3_race 24 = .ok (.getfield 41, 3) := by decide +kernel
theorem dX3_race_27 : decode cX3_race 27 = .ok (.iload_n 1, 1) := by decide +kernel
theorem dX3_race_28 : decode cX3_race 28 = .ok (.iaload, 1) := by decide +kernel
theorem dX3_race_29 : decode cX3_race 29 = .ok (.ireturn, 1) := by decide +kernel
set_option maxRecDepth 20000 in
theorem ggX3_cure_X3_findCure : GoodIn wsX3_cure wsX3_findCure := goodIn_r _ [8, 9, 3, 10, 11, 12, 13, 14, 15, 16, 17, 18, 7, 19, 20, 21, 22, 23, 24, 25, 26, 27, 28, 29, 30, 31, 32, 33, 34, 35, 36, 37, 38, 39, 40, 41, 42, 43, 44, 45, 46, 47, 48, 49, 50, 51, 52, 53, 54, 55, 56, 57, 58, 59, 60, 61, 62, 63, 64, 65, 66, 67, 68, 69, 70, 71, 72, 73, 74, 75, 76, 77, 78, 79, 80, 81, 82, 83, 84, 85, 86, 87, 88, 89, 90, 91, 92, 93, 94, 95, 96, 97, 98, 99, 100, 101, 102, 103, 104, 105, 106, 107, 108, 109, 110, 111, 112, 113, 114, 115, 116, 117, 118, 119, 120, 121, 122, 123, 124, 125, 126, 127, 128, 129, 130, 131, 132, 133, 134, 135, 136, 137, 138, 139, 140, 141, 142, 143, 144, 145, 146, 147, 148, 149, 150, 151, 152, 153, 154, 155, 156, 157, 158, 159, 160, 161, 162, 163, 164, 165, 166, 167, 168, 169, 170, 171, 172, 173, 174, 175, 176, 177, 178, 179, 180, 181, 182, 183, 184, 185, 186, 187, 188, 189, 190, 191, 192, 193, 194, 195, 196, 197, 198] (by decide +kernel) (by decide +kernel)
set_option maxRecDepth 20000 in
theorem gX3_cure_X3_findCure : GoodIn wsX3_cure (wsV RX3 204 RX3 yX3_findCure wsX3_findCure) := goodIn_app (goodIn_of _ (by decide +kernel)) ggX3_cure_X3_findCure
theorem dX3_cure_0 : decode cX3_cure 0 = .ok (.iload_n 1, 1) := by decide +kernel
theorem dX3_cure_1 : decode cX3_cure 1 = .ok (.ifCond .lt 8, 3) := by decide +kernel
theorem dX3_cure_4 : decode cX3_cure 4 = .ok (.iload_n 1, 1) := by decide +kernel
theorem dX3_cure_5 : decode cX3_cure 5 = .ok (.iconst 3, 1) := by decide +kernel
theorem dX3_cure_6 : decode cX3_cure 6 = .ok (.if_icmp .lt 13, 3) := by decide +kernel
theorem dX3_cure_9 : decode cX3_cure 9 = .ok (.new 51, 3) := by decide +kernel
theorem dX3_cure_12 : decode cX3_cure 12 = .ok (.dup, 1) := by decide +kernel
theorem dX3_cure_13 : decode cX3_cure 13 = .ok (.ldc 202, 2) := by decide +kernel
theorem dX3_cure_15 : decode cX3_cure 15 = .ok (.invokespecial 55, 3) := by decide +kernel
theorem dX3_cure_18 : decode cX3_cure 18 = .ok (.athrow, 1) := by decide +kernel
theorem dX3_cure_19 : decode cX3_cure 19 = .ok (.aload_n 0, 1) := by decide +kernel
theorem dX3_cure_20 : decode cX3_cure 20 = .ok (.invokevirtual 204, 3) := by decide +kernel
theorem dX3_cure_23 : decode cX3_cure 23 = .ok (.aload_n 0, 1) := by decide +kernel
theorem dX3_cure_24 : decode cX3_cure 24 = .ok (.getfield 44, 3) := by decide +kernel
theorem dX3_cure_27 : decode cX3_cure 27 = .ok (.iload_n 1, 1) := by decide +kernel
theorem dX3_cure_28 : decode cX3_cure 28 = .ok (.iaload, 1) := by decide +kernel
theorem dX3_cure_29 : decode cX3_cure 29 = .ok (.ireturn, 1) := by decide +kernel
set_option maxRecDepth 20000 in
theorem ggX3_holding_X3_leadAnswer : GoodIn wsX3_holding wsX3_leadAnswer := goodIn_r _ [6, 7, 1, 8, 9, 10, 11, 12, 13, 14, 15, 16, 17, 18, 19, 20, 21, 22, 23, 24, 25, 26, 27, 28, 29, 30, 31, 32, 33, 34, 35, 36, 37, 38, 39, 40, 41, 42, 43, 44, 45, 46, 47, 48, 49, 50, 51, 52, 53, 54, 55, 56, 57, 58, 59, 60, 61, 62, 63, 64, 65, 66, 67, 68, 69, 70, 71, 72, 73, 74, 75, 76, 77, 78, 79, 80, 81, 82, 83, 84, 85, 86, 87, 88, 89, 90, 91, 92, 93, 94, 95, 96, 97, 98, 99, 100, 101, 102, 103, 104, 105, 106, 107, 108, 109, 110, 111, 112, 113, 114, 115] (by decide +kernel) (by decide +kernel)
set_option maxRecDepth 20000 in
theorem gX3_holding_X3_leadAnswer : GoodIn wsX3_holding (wsV RX3 194 RX3 yX3_leadAnswer wsX3_leadAnswer) := goodIn_app (goodIn_of _ (by decide +kernel)) ggX3_holding_X3_leadAnswer
set_option maxRecDepth 20000 in
theorem ggX3_holding_X0_up : GoodIn wsX3_holding wsX0_up := goodIn_r _ [51, 26, 41, 42, 12, 43, 105, 106, 107, 108, 109, 110, 111, 112, 113, 114, 115] (by decide +kernel) (by decide +kernel)
set_option maxRecDepth 20000 in
theorem gX3_holding_X0_up : GoodIn wsX3_holding (wsV RX3 139 RX0 yX0_up wsX0_up) := goodIn_app (goodIn_of _ (by decide +kernel)) ggX3_holding_X0_up
theorem dX3_holding_0 : decode cX3_holding 0 = .ok (.aload_n 0, 1) := by decide +kernel
theorem dX3_holding_1 : decode cX3_holding 1 = .ok (.iconst 0, 1) := by decide +kernel
theorem dX3_holding_2 : decode cX3_holding 2 = .ok (.iconst 0, 1) := by decide +kernel
theorem dX3_holding_3 : decode cX3_holding 3 = .ok (.invokevirtual 194, 3) := by decide +kernel
theorem dX3_holding_6 : decode cX3_holding 6 = .ok (.istore_n 1, 1) := by decide +kernel
theorem dX3_holding_7 : decode cX3_holding 7 = .ok (.iload_n 1, 1) := by decide +kernel
theorem dX3_holding_8 : decode cX3_holding 8 = .ok (.iconst (-1), 1) := by decide +kernel
theorem dX3_holding_9 : decode cX3_holding 9 = .ok (.if_icmp .ne 7, 3) := by decide +kernel
theorem dX3_holding_12 : decode cX3_holding 12 = .ok (.iconst 0, 1) := by decide +kernel
theorem dX3_holding_13 : decode cX3_holding 13 = .ok (.goto 12, 3) := by decide +kernel
theorem dX3_holding_16 : decode cX3_holding 16 = .ok (.aload_n 0, 1) := by decide +kernel
theorem dX3_holding_17 : decode cX3_holding 17 = .ok (.getfield 10, 3) := by decide +kernel
theorem dX3_holding_20 : decode cX3_holding 20 = .ok (.invokevirtual 139, 3) := by decide +kernel
theorem dX3_holding_23 : decode cX3_holding 23 = .ok (.iload_n 1, 1) := by decide +kernel
theorem dX3_holding_24 : decode cX3_holding 24 = .ok (.iand, 1) := by decide +kernel
theorem dX3_holding_25 : decode cX3_holding 25 = .ok (.ireturn, 1) := by decide +kernel
set_option maxRecDepth 20000 in
theorem ggX3_idle_X0_hasRelay : GoodIn wsX3_idle wsX0_hasRelay := goodIn_r _ [8, 9, 58, 59, 60, 61, 62, 63, 64, 65, 66, 67, 68] (by decide +kernel) (by decide +kernel)
set_option maxRecDepth 20000 in
theorem gX3_idle_X0_hasRelay : GoodIn wsX3_idle (wsV RX3 74 RX0 yX0_hasRelay wsX0_hasRelay) := goodIn_app (goodIn_of _ (by decide +kernel)) ggX3_idle_X0_hasRelay
set_option maxRecDepth 20000 in
theorem ggX3_idle_X0_idleBranch : GoodIn wsX3_idle wsX0_idleBranch := goodIn_r _ [13, 14, 15, 16, 17, 7, 18, 19, 20, 21, 22, 23, 24, 25, 26, 27, 28, 29, 30, 31, 32, 33, 34, 35, 36, 37, 38, 39, 40, 41, 42, 43, 44, 45, 58, 59, 60, 61, 62, 63, 64, 65, 66, 67, 68] (by decide +kernel) (by decide +kernel)
set_option maxRecDepth 20000 in
theorem gX3_idle_X0_idleBranch : GoodIn wsX3_idle (wsV RX3 207 RX0 yX0_idleBranch wsX0_idleBranch) := goodIn_app (goodIn_of _ (by decide +kernel)) ggX3_idle_X0_idleBranch
theorem dX3_idle_0 : decode cX3_idle 0 = .ok (.aload_n 0, 1) := by decide +kernel
theorem dX3_idle_1 : decode cX3_idle 1 = .ok (.getfield 10, 3) := by decide +kernel
theorem dX3_idle_4 : decode cX3_idle 4 = .ok (.iload_n 1, 1) := by decide +kernel
theorem dX3_idle_5 : decode cX3_idle 5 = .ok (.invokevirtual 74, 3) := by decide +kernel
theorem dX3_idle_8 : decode cX3_idle 8 = .ok (.ifCond .ne 13, 3) := by decide +kernel
theorem dX3_idle_11 : decode cX3_idle 11 = .ok (.new 77, 3) := by decide +kernel
theorem dX3_idle_14 : decode cX3_idle 14 = .ok (.dup, 1) := by decide +kernel
theorem dX3_idle_15 : decode cX3_idle 15 = .ok (.ldc 79, 2) := by decide +kernel
theorem dX3_idle_17 : decode cX3_idle 17 = .ok (.invokespecial 81, 3) := by decide +kernel
theorem dX3_idle_20 : decode cX3_idle 20 = .ok (.athrow, 1) := by decide +kernel
theorem dX3_idle_21 : decode cX3_idle 21 = .ok (.aload_n 0, 1) := by decide +kernel
theorem dX3_idle_22 : decode cX3_idle 22 = .ok (.getfield 10, 3) := by decide +kernel
theorem dX3_idle_25 : decode cX3_idle 25 = .ok (.iload_n 1, 1) := by decide +kernel
theorem dX3_idle_26 : decode cX3_idle 26 = .ok (.invokevirtual 207, 3) := by decide +kernel
theorem dX3_idle_29 : decode cX3_idle 29 = .ok (.ireturn, 1) := by decide +kernel
set_option maxRecDepth 20000 in
theorem ggX3_quietShare_X0_restless : GoodIn wsX3_quietShare wsX0_restless := goodIn_r _ [7, 8, 9, 10, 6, 11, 12, 13, 14, 15, 16, 17, 18, 19, 20, 21, 22, 23, 24, 25, 26, 27, 28, 48, 49, 50, 51, 52, 53, 54, 55, 56, 57, 58] (by decide +kernel) (by decide +kernel)
set_option maxRecDepth 20000 in
theorem gX3_quietShare_X0_restless : GoodIn wsX3_quietShare (wsV RX3 113 RX0 yX0_restless wsX0_restless) := goodIn_app (goodIn_of _ (by decide +kernel)) ggX3_quietShare_X0_restless
set_option maxRecDepth 20000 in
theorem ggX3_quietShare_J6_bitCount_0f7a4 : GoodIn wsX3_quietShare wsJ6_bitCount_0f7a4 := goodIn_r _ [32, 33, 34, 35] (by decide +kernel) (by decide +kernel)
set_option maxRecDepth 20000 in
theorem gX3_quietShare_J6_bitCount_0f7a4 : GoodIn wsX3_quietShare (va_wsS RX3 117 yJ6_bitCount_0f7a4 wsJ6_bitCount_0f7a4) := goodIn_app (goodIn_of _ (by decide +kernel)) ggX3_quietShare_J6_bitCount_0f7a4
theorem dX3_quietShare_0 : decode cX3_quietShare 0 = .ok (.aload_n 0, 1) := by decide +kernel
theorem dX3_quietShare_1 : decode cX3_quietShare 1 = .ok (.getfield 10, 3) := by decide +kernel
theorem dX3_quietShare_4 : decode cX3_quietShare 4 = .ok (.getfield 58, 3) := by decide +kernel
theorem dX3_quietShare_7 : decode cX3_quietShare 7 = .ok (.ifCond .gt 5, 3) := by decide +kernel
theorem dX3_quietShare_10 : decode cX3_quietShare 10 = .ok (.dconst 1, 1) := by decide +kernel
theorem dX3_quietShare_11 : decode cX3_quietShare 11 = .ok (.dreturn, 1) := by decide +kernel
theorem dX3_quietShare_12 : decode cX3_quietShare 12 = .ok (.aload_n 0, 1) := by decide +kernel
theorem dX3_quietShare_13 : decode cX3_quietShare 13 = .ok (.getfield 10, 3) := by decide +kernel
theorem dX3_quietShare_16 : decode cX3_quietShare 16 = .ok (.getfield 58, 3) := by decide +kernel
theorem dX3_quietShare_19 : decode cX3_quietShare 19 = .ok (.aload_n 0, 1) := by decide +kernel
theorem dX3_quietShare_20 : decode cX3_quietShare 20 = .ok (.getfield 10, 3) := by decide +kernel
theorem dX3_quietShare_23 : decode cX3_quietShare 23 = .ok (.invokevirtual 113, 3) := by decide +kernel
theorem dX3_quietShare_26 : decode cX3_quietShare 26 = .ok (.invokestatic 117, 3) := by decide +kernel
theorem dX3_quietShare_29 : decode cX3_quietShare 29 = .ok (.isub, 1) := by decide +kernel
theorem dX3_quietShare_30 : decode cX3_quietShare 30 = .ok (.istore_n 1, 1) := by decide +kernel
theorem dX3_quietShare_31 : decode cX3_quietShare 31 = .ok (.iload_n 1, 1) := by decide +kernel
theorem dX3_quietShare_32 : decode cX3_quietShare 32 = .ok (.i2d, 1) := by decide +kernel
theorem dX3_quietShare_33 : decode cX3_quietShare 33 = .ok (.aload_n 0, 1) := by decide +kernel
theorem dX3_quietShare_34 : decode cX3_quietShare 34 = .ok (.getfield 10, 3) := by decide +kernel
theorem dX3_quietShare_37 : decode cX3_quietShare 37 = .ok (.getfield 58, 3) := by decide +kernel
theorem dX3_quietShare_40 : decode cX3_quietShare 40 = .ok (.i2d, 1) := by decide +kernel
theorem dX3_quietShare_41 : decode cX3_quietShare 41 = .ok (.ddiv, 1) := by decide +kernel
theorem dX3_quietShare_42 : decode cX3_quietShare 42 = .ok (.dreturn, 1) := by decide +kernel
set_option maxRecDepth 20000 in
theorem ggX3_digest_X3_numberOf : GoodIn wsX3_digest wsX3_numberOf := goodIn_r _ [11, 3, 4, 12, 13, 14, 15, 16, 17, 18, 19, 20, 21, 22, 23, 24, 25, 26, 27, 28, 29, 30, 31, 32, 33, 34, 35, 36, 37, 38, 39, 40, 41, 42, 43, 44, 45, 46, 47, 48, 49, 50, 51, 52, 53, 54, 55, 56, 57, 58, 59, 60, 61, 62, 63, 64, 65, 298, 299, 300, 301, 302, 303, 304, 305, 306, 307, 308, 309, 310, 311, 312, 313, 314, 315, 316, 317, 318, 319, 320] (by decide +kernel) (by decide +kernel)
set_option maxRecDepth 20000 in
theorem gX3_digest_X3_numberOf : GoodIn wsX3_digest (wsV RX3 189 RX3 yX3_numberOf wsX3_numberOf) := goodIn_app (goodIn_of _ (by decide +kernel)) ggX3_digest_X3_numberOf
set_option maxRecDepth 20000 in
theorem ggX3_digest_X3_hashOfRelay : GoodIn wsX3_digest wsX3_hashOfRelay := goodIn_r _ [69, 2, 3, 70, 71, 72, 73, 10, 74, 75, 76, 77, 78, 16, 17, 18, 19, 20, 21, 22, 23, 24, 25, 26, 27, 28, 29, 30, 31, 32, 33, 34, 35, 36, 37, 38, 39, 40, 41, 79, 80, 81, 82, 83, 84, 85, 62, 63, 64, 86, 87, 88, 89, 90, 91, 92, 93, 94, 43, 44, 45, 46, 95, 96, 97, 98, 99, 100, 101, 102, 103, 104, 105, 106, 107, 108, 109, 110, 111, 112, 113, 114, 115, 116, 47, 48, 49, 50, 51, 52, 53, 117, 118, 119, 120, 121, 122, 123, 124, 125, 126, 127, 128, 129, 130, 131, 132, 133, 65, 298, 299, 300, 301, 302, 303, 304, 305, 306, 307, 308, 309, 310, 311, 312, 313, 314, 315, 316, 317, 318, 319, 320] (by decide +kernel) (by decide +kernel)
set_option maxRecDepth 20000 in
theorem gX3_digest_X3_hashOfRelay : GoodIn wsX3_digest (wsV RX3 214 RX3 yX3_hashOfRelay wsX3_hashOfRelay) := goodIn_app (goodIn_of _ (by decide +kernel)) ggX3_digest_X3_hashOfRelay
set_option maxRecDepth 20000 in
theorem ggX3_digest_X3_hashOfLeads : GoodIn wsX3_digest wsX3_hashOfLeads := goodIn_r _ [137, 138, 2, 139, 140, 141, 10, 142, 143, 3, 12, 144, 145, 146, 19, 147, 38, 39, 148, 149, 150, 151, 40, 41, 103, 102, 152, 33, 21, 153, 154, 155, 156, 157, 158, 94, 43, 44, 45, 29, 30, 31, 32, 22, 23, 24, 34, 35, 36, 37, 46, 17, 18, 20, 159, 160, 161, 162, 163, 164, 165, 166, 167, 168, 92, 169, 95, 96, 97, 104, 80, 81, 170, 171, 172, 173, 174, 175, 176, 98, 99, 100, 101, 177, 178, 179, 180, 65, 48, 49, 50, 51, 52, 53, 16, 298, 299, 300, 301, 302, 303, 304, 305, 306, 307, 308, 309, 310, 311, 312, 313, 314, 315, 316, 317, 318, 319, 320] (by decide +kernel) (by decide +kernel)
set_option maxRecDepth 20000 in
theorem gX3_digest_X3_hashOfLeads : GoodIn wsX3_digest (wsV RX3 218 RX3 yX3_hashOfLeads wsX3_hashOfLeads) := goodIn_app (goodIn_of _ (by decide +kernel)) ggX3_digest_X3_hashOfLeads
set_option maxRecDepth 20000 in
theorem ggX3_digest_X3_hashOfRace : GoodIn wsX3_digest wsX3_hashOfRace := goodIn_r _ [184, 2, 185, 186, 187, 188, 189, 10, 190, 191, 192, 3, 193, 194, 195, 196, 197, 198, 199, 200, 201, 202, 203, 204, 205, 206, 207, 208, 209, 210, 211, 212, 213, 214, 215, 216, 217, 218, 219, 220, 221, 222, 223, 224, 225, 226, 227, 228, 23, 19, 24, 229, 230, 231, 232, 233, 234, 35, 36, 37, 38, 39, 40, 41, 235, 164, 165, 166, 167, 168, 92, 169, 95, 96, 97, 104, 80, 81, 170, 171, 172, 236, 174, 175, 176, 98, 99, 100, 101, 102, 103, 237, 178, 179, 180, 238, 239, 240, 241, 242, 243, 48, 49, 50, 51, 52, 53, 244, 245, 246, 247, 248, 249, 250, 251, 252, 253, 254, 255, 256, 257, 258, 259, 260, 261, 262, 263, 264, 265, 266, 267, 268, 269, 270, 271, 272, 273, 274, 275, 276, 277, 278, 279, 143, 4, 76, 77, 144, 145, 146, 147, 148, 149, 150, 151, 152, 33, 21, 153, 154, 280, 281, 282, 283, 298, 299, 300, 301, 302, 303, 304, 305, 306, 307, 308, 309, 321, 322, 323, 324, 325, 326, 327, 328, 329, 330, 331, 310, 311, 312, 313, 314, 315, 316, 317, 318, 319, 320] (by decide +kernel) (by decide +kernel)
set_option maxRecDepth 20000 in
theorem gX3_digest_X3_hashOfRace : GoodIn wsX3_digest (wsV RX3 222 RX3 yX3_hashOfRace wsX3_hashOfRace) := goodIn_app (goodIn_of _ (by decide +kernel)) ggX3_digest_X3_hashOfRace
set_option maxRecDepth 20000 in
theorem ggX3_digest_X3_holding : GoodIn wsX3_digest wsX3_holding := goodIn_r _ [287, 3, 139, 140, 141, 10, 142, 143, 12, 144, 145, 146, 19, 147, 38, 39, 148, 149, 150, 151, 40, 41, 103, 102, 152, 33, 21, 153, 154, 155, 156, 157, 158, 94, 43, 44, 45, 29, 30, 31, 32, 22, 23, 24, 34, 35, 36, 37, 46, 17, 18, 20, 159, 160, 161, 162, 163, 164, 165, 166, 167, 168, 92, 169, 95, 96, 97, 104, 80, 81, 170, 171, 172, 173, 174, 175, 176, 98, 99, 100, 101, 177, 178, 179, 180, 65, 48, 49, 50, 51, 52, 53, 16, 298, 299, 300, 301, 302, 303, 304, 305, 306, 307, 308, 309, 310, 311, 312, 313, 314, 315, 316, 317, 318, 319, 320] (by decide +kernel) (by decide +kernel)
set_option maxRecDepth 20000 in
theorem gX3_digest_X3_holding : GoodIn wsX3_digest (wsV RX3 225 RX3 yX3_holding wsX3_holding) := goodIn_app (goodIn_of _ (by decide +kernel)) ggX3_digest_X3_holding
set_option maxRecDepth 20000 in
theorem ggX3_digest_X3_quietShare : GoodIn wsX3_digest wsX3_quietShare := goodIn_r _ [291, 3, 4, 42, 43, 44, 19, 45, 29, 30, 31, 32, 33, 21, 22, 23, 24, 34, 35, 36, 37, 38, 39, 40, 41, 46, 17, 18, 20, 47, 48, 49, 50, 51, 52, 53, 298, 299, 300, 301, 302, 303, 304, 305, 306, 307, 308, 309, 310, 311, 312, 313, 314, 315, 316, 317, 318, 319, 320] (by decide +kernel) (by decide +kernel)
set_option maxRecDepth 20000 in
theorem gX3_digest_X3_quietShare : GoodIn wsX3_digest (wsV RX3 228 RX3 yX3_quietShare wsX3_quietShare) := goodIn_app (goodIn_of _ (by decide +kernel)) ggX3_digest_X3_quietShare
set_option maxRecDepth 20000 in
theorem ggX3_digest_X3_bitsOf : GoodIn wsX3_digest wsX3_bitsOf := goodIn_r _ [294, 295, 296, 297] (by decide +kernel) (by decide +kernel)
set_option maxRecDepth 20000 in
theorem gX3_digest_X3_bitsOf : GoodIn wsX3_digest (va_wsS RX3 232 yX3_bitsOf wsX3_bitsOf) := goodIn_app (goodIn_of _ (by decide +kernel)) ggX3_digest_X3_bitsOf
theorem dX3_digest_0 : decode cX3_digest 0 = .ok (.ldc2_w 210, 3) := by decide +kernel
theorem dX3_digest_3 : decode cX3_digest 3 = .ok (.lstore_n 1, 1) := by decide +kernel
theorem dX3_digest_4 : decode cX3_digest 4 = .ok (.iconst 0, 1) := by decide +kernel
theorem dX3_digest_5 : decode cX3_digest 5 = .ok (.istore_n 3, 1) := by decide +kernel
theorem dX3_digest_6 : decode cX3_digest 6 = .ok (.iload_n 3, 1) := by decide +kernel
theorem dX3_digest_7 : decode cX3_digest 7 = .ok (.bipush 10, 2) := by decide +kernel
theorem dX3_digest_9 : decode cX3_digest 9 = .ok (.if_icmp .ge 22, 3) := by decide +kernel
theorem dX3_digest_12 : decode cX3_digest 12 = .ok (.ldc2_w 212, 3) := by decide +kernel
theorem dX3_digest_15 : decode cX3_digest 15 = .ok (.lload_n 1, 1) := by decide +kernel
theorem dX3_digest_16 : decode cX3_digest 16 = .ok (.lmul, 1) := by decide +kernel
theorem dX3_digest_17 : decode cX3_digest 17 = .ok (.aload_n 0, 1) := by decide +kernel
theorem dX3_digest_18 : decode cX3_digest 18 = .ok (.iload_n 3, 1) := by decide +kernel
theorem dX3_digest_19 : decode cX3_digest 19 = .ok (.invokevirtual 189, 3) := by decide +kernel
theorem dX3_digest_22 : decode cX3_digest 22 = .ok (.i2l, 1) := by decide +kernel
theorem dX3_digest_23 : decode cX3_digest 23 = .ok (.ladd, 1) := by decide +kernel
theorem dX3_digest_24 : decode cX3_digest 24 = .ok (.lstore_n 1, 1) := by decide +kernel
theorem dX3_digest_25 : decode cX3_digest 25 = .ok (.iinc 3 1, 3) := by decide +kernel
theorem dX3_digest_28 : decode cX3_digest 28 = .ok (.goto (-22), 3) := by decide +kernel
theorem dX3_digest_31 : decode cX3_digest 31 = .ok (.iconst 0, 1) := by decide +kernel
theorem dX3_digest_32 : decode cX3_digest 32 = .ok (.istore_n 3, 1) := by decide +kernel
theorem dX3_digest_33 : decode cX3_digest 33 = .ok (.iload_n 3, 1) := by decide +kernel
theorem dX3_digest_34 : decode cX3_digest 34 = .ok (.aload_n 0, 1) := by decide +kernel
theorem dX3_digest_35 : decode cX3_digest 35 = .ok (.getfield 10, 3) := by decide +kernel
theorem dX3_digest_38 : decode cX3_digest 38 = .ok (.getfield 58, 3) := by decide +kernel
theorem dX3_digest_41 : decode cX3_digest 41 = .ok (.if_icmp .ge 16, 3) := by decide +kernel
theorem dX3_digest_44 : decode cX3_digest 44 = .ok (.aload_n 0, 1) := by decide +kernel
theorem dX3_digest_45 : decode cX3_digest 45 = .ok (.lload_n 1, 1) := by decide +kernel
theorem dX3_digest_46 : decode cX3_digest 46 = .ok (.iload_n 3, 1) := by decide +kernel
theorem dX3_digest_47 : decode cX3_digest 47 = .ok (.invokevirtual 214, 3) := by decide +kernel
theorem dX3_digest_50 : decode cX3_digest 50 = .ok (.lstore_n 1, 1) := by decide +kernel
theorem dX3_digest_51 : decode cX3_digest 51 = .ok (.iinc 3 1, 3) := by decide +kernel
theorem dX3_digest_54 : decode cX3_digest 54 = .ok (.goto (-21), 3) := by decide +kernel
theorem dX3_digest_57 : decode cX3_digest 57 = .ok (.aload_n 0, 1) := by decide +kernel
theorem dX3_digest_58 : decode cX3_digest 58 = .ok (.lload_n 1, 1) := by decide +kernel
theorem dX3_digest_59 : decode cX3_digest 59 = .ok (.invokevirtual 218, 3) := by decide +kernel
theorem dX3_digest_62 : decode cX3_digest 62 = .ok (.lstore_n 1, 1) := by decide +kernel
theorem dX3_digest_63 : decode cX3_digest 63 = .ok (.aload_n 0, 1) := by decide +kernel
theorem dX3_digest_64 : decode cX3_digest 64 = .ok (.lload_n 1, 1) := by decide +kernel
theorem dX3_digest_65 : decode cX3_digest 65 = .ok (.invokevirtual 222, 3) := by decide +kernel
theorem dX3_digest_68 : decode cX3_digest 68 = .ok (.lstore_n 1, 1) := by decide +kernel
theorem dX3_digest_69 : decode cX3_digest 69 = .ok (.ldc2_w 212, 3) := by decide +kernel
theorem dX3_digest_72 : decode cX3_digest 72 = .ok (.lload_n 1, 1) := by decide +kernel
theorem dX3_digest_73 : decode cX3_digest 73 = .ok (.lmul, 1) := by decide +kernel
theorem dX3_digest_74 : decode cX3_digest 74 = .ok (.aload_n 0, 1) := by decide +kernel
theorem dX3_digest_75 : decode cX3_digest 75 = .ok (.invokevirtual 225, 3) := by decide +kernel
theorem dX3_digest_78 : decode cX3_digest 78 = .ok (.i2l, 1) := by decide +kernel
theorem dX3_digest_79 : decode cX3_digest 79 = .ok (.ladd, 1) := by decide +kernel
theorem dX3_digest_80 : decode cX3_digest 80 = .ok (.lstore_n 1, 1) := by decide +kernel
theorem dX3_digest_81 : decode cX3_digest 81 = .ok (.ldc2_w 212, 3) := by decide +kernel
theorem dX3_digest_84 : decode cX3_digest 84 = .ok (.lload_n 1, 1) := by decide +kernel
theorem dX3_digest_85 : decode cX3_digest 85 = .ok (.lmul, 1) := by decide +kernel
theorem dX3_digest_86 : decode cX3_digest 86 = .ok (.aload_n 0, 1) := by decide +kernel
theorem dX3_digest_87 : decode cX3_digest 87 = .ok (.invokevirtual 228, 3) := by decide +kernel
theorem dX3_digest_90 : decode cX3_digest 90 = .ok (.invokestatic 232, 3) := by decide +kernel
theorem dX3_digest_93 : decode cX3_digest 93 = .ok (.ladd, 1) := by decide +kernel
theorem dX3_digest_94 : decode cX3_digest 94 = .ok (.lstore_n 1, 1) := by decide +kernel
theorem dX3_digest_95 : decode cX3_digest 95 = .ok (.ldc2_w 212, 3) := by decide +kernel
theorem dX3_digest_98 : decode cX3_digest 98 = .ok (.lload_n 1, 1) := by decide +kernel
theorem dX3_digest_99 : decode cX3_digest 99 = .ok (.lmul, 1) := by decide +kernel
theorem dX3_digest_100 : decode cX3_digest 100 = .ok (.aload_n 0, 1) := by decide +kernel
theorem dX3_digest_101 : decode cX3_digest 101 = .ok (.getfield 147, 3) := by decide +kernel
theorem dX3_digest_104 : decode cX3_digest 104 = .ok (.i2l, 1) := by decide +kernel
theorem dX3_digest_105 : decode cX3_digest 105 = .ok (.ladd, 1) := by decide +kernel
theorem dX3_digest_106 : decode cX3_digest 106 = .ok (.lstore_n 1, 1) := by decide +kernel
theorem dX3_digest_107 : decode cX3_digest 107 = .ok (.iconst 0, 1) := by decide +kernel
theorem dX3_digest_108 : decode cX3_digest 108 = .ok (.istore_n 3, 1) := by decide +kernel
theorem dX3_digest_109 : decode cX3_digest 109 = .ok (.iload_n 3, 1) := by decide +kernel
theorem dX3_digest_110 : decode cX3_digest 110 = .ok (.aload_n 0, 1) := by decide +kernel
theorem dX3_digest_111 : decode cX3_digest 111 = .ok (.getfield 147, 3) := by decide +kernel
theorem dX3_digest_114 : decode cX3_digest 114 = .ok (.if_icmp .ge 23, 3) := by decide +kernel
theorem dX3_digest_117 : decode cX3_digest 117 = .ok (.ldc2_w 212, 3) := by decide +kernel
theorem dX3_digest_120 : decode cX3_digest 120 = .ok (.lload_n 1, 1) := by decide +kernel
theorem dX3_digest_121 : decode cX3_digest 121 = .ok (.lmul, 1) := by decide +kernel
theorem dX3_digest_122 : decode cX3_digest 122 = .ok (.aload_n 0, 1) := by decide +kernel
theorem dX3_digest_123 : decode cX3_digest 123 = .ok (.getfield 23, 3) := by decide +kernel
theorem dX3_digest_126 : decode cX3_digest 126 = .ok (.iload_n 3, 1) := by decide +kernel
theorem dX3_digest_127 : decode cX3_digest 127 = .ok (.iaload, 1) := by decide +kernel
theorem dX3_digest_128 : decode cX3_digest 128 = .ok (.i2l, 1) := by decide +kernel
theorem dX3_digest_129 : decode cX3_digest 129 = .ok (.ladd, 1) := by decide +kernel
theorem dX3_digest_130 : decode cX3_digest 130 = .ok (.lstore_n 1, 1) := by decide +kernel
theorem dX3_digest_131 : decode cX3_digest 131 = .ok (.iinc 3 1, 3) := by decide +kernel
theorem dX3_digest_134 : decode cX3_digest 134 = .ok (.goto (-25), 3) := by decide +kernel
theorem dX3_digest_137 : decode cX3_digest 137 = .ok (.lload_n 1, 1) := by decide +kernel
theorem dX3_digest_138 : decode cX3_digest 138 = .ok (.lreturn, 1) := by decide +kernel
theorem dX3_isTime_0 : decode cX3_isTime 0 = .ok (.iload_n 0, 1) := by decide +kernel
theorem dX3_isTime_1 : decode cX3_isTime 1 = .ok (.ifCond .lt 13, 3) := by decide +kernel
theorem dX3_isTime_4 : decode cX3_isTime 4 = .ok (.iload_n 0, 1) := by decide +kernel
theorem dX3_isTime_5 : decode cX3_isTime 5 = .ok (.bipush 9, 2) := by decide +kernel
theorem dX3_isTime_7 : decode cX3_isTime 7 = .ok (.if_icmp .gt 7, 3) := by decide +kernel
theorem dX3_isTime_10 : decode cX3_isTime 10 = .ok (.iconst 1, 1) := by decide +kernel
theorem dX3_isTime_11 : decode cX3_isTime 11 = .ok (.goto 4, 3) := by decide +kernel
theorem dX3_isTime_14 : decode cX3_isTime 14 = .ok (.iconst 0, 1) := by decide +kernel
theorem dX3_isTime_15 : decode cX3_isTime 15 = .ok (.ireturn, 1) := by decide +kernel
set_option maxRecDepth 20000 in
theorem ggX3_save_X3_dropOldestSaved : GoodIn wsX3_save wsX3_dropOldestSaved := goodIn_r _ [8, 2, 1, 35, 36, 37, 38, 39, 40, 41, 42, 43, 44, 45, 46] (by decide +kernel) (by decide +kernel)
set_option maxRecDepth 20000 in
theorem gX3_save_X3_dropOldestSaved : GoodIn wsX3_save (wsV RX3 236 RX3 yX3_dropOldestSaved wsX3_dropOldestSaved) := goodIn_app (goodIn_of _ (by decide +kernel)) ggX3_save_X3_dropOldestSaved
set_option maxRecDepth 20000 in
theorem ggX3_save_X0_copyFrom : GoodIn wsX3_save wsX0_copyFrom := goodIn_r _ [13, 14, 15, 16, 17, 18, 19, 20, 21, 22, 23, 24, 25, 26, 27, 28, 47, 48, 49, 50, 51, 52, 53, 54, 55, 56, 57] (by decide +kernel) (by decide +kernel)
set_option maxRecDepth 20000 in
theorem gX3_save_X0_copyFrom : GoodIn wsX3_save (wsV RX3 130 RX0 yX0_copyFrom wsX0_copyFrom) := goodIn_app (goodIn_of _ (by decide +kernel)) ggX3_save_X0_copyFrom
set_option maxRecDepth 20000 in
theorem ggX3_save_X3_forgetAnswers : GoodIn wsX3_save wsX3_forgetAnswers := goodIn_r _ [32, 33, 34, 35, 36, 37, 38, 39, 40, 41, 42, 43, 44, 45, 46] (by decide +kernel) (by decide +kernel)
set_option maxRecDepth 20000 in
theorem gX3_save_X3_forgetAnswers : GoodIn wsX3_save (wsV RX3 172 RX3 yX3_forgetAnswers wsX3_forgetAnswers) := goodIn_app (goodIn_of _ (by decide +kernel)) ggX3_save_X3_forgetAnswers
theorem dX3_save_0 : decode cX3_save 0 = .ok (.aload_n 0, 1) := by decide +kernel
theorem dX3_save_1 : decode cX3_save 1 = .ok (.getfield 167, 3) := by decide +kernel
theorem dX3_save_4 : decode cX3_save 4 = .ok (.bipush 6, 2) := by decide +kernel
theorem dX3_save_6 : decode cX3_save 6 = .ok (.if_icmp .lt 7, 3) := by decide +kernel
theorem dX3_save_9 : decode cX3_save 9 = .ok (.aload_n 0, 1) := by decide +kernel
theorem dX3_save_10 : decode cX3_save 10 = .ok (.invokevirtual 236, 3) := by decide +kernel
theorem dX3_save_13 : decode cX3_save 13 = .ok (.aload_n 0, 1) := by decide +kernel
theorem dX3_save_14 : decode cX3_save 14 = .ok (.getfield 19, 3) := by decide +kernel
theorem dX3_save_17 : decode cX3_save 17 = .ok (.aload_n 0, 1) := by decide +kernel
theorem dX3_save_18 : decode cX3_save 18 = .ok (.getfield 167, 3) := by decide +kernel
theorem dX3_save_21 : decode cX3_save 21 = .ok (.aaload, 1) := by decide +kernel
theorem dX3_save_22 : decode cX3_save 22 = .ok (.aload_n 0, 1) := by decide +kernel
theorem dX3_save_23 : decode cX3_save 23 = .ok (.getfield 10, 3) := by decide +kernel
theorem dX3_save_26 : decode cX3_save 26 = .ok (.invokevirtual 130, 3) := by decide +kernel
theorem dX3_save_29 : decode cX3_save 29 = .ok (.aload_n 0, 1) := by decide +kernel
theorem dX3_save_30 : decode cX3_save 30 = .ok (.dup, 1) := by decide +kernel
theorem dX3_save_31 : decode cX3_save 31 = .ok (.getfield 167, 3) := by decide +kernel
theorem dX3_save_34 : decode cX3_save 34 = .ok (.iconst 1, 1) := by decide +kernel
theorem dX3_save_35 : decode cX3_save 35 = .ok (.iadd, 1) := by decide +kernel
theorem dX3_save_36 : decode cX3_save 36 = .ok (.putfield 167, 3) := by decide +kernel
theorem dX3_save_39 : decode cX3_save 39 = .ok (.aload_n 0, 1) := by decide +kernel
theorem dX3_save_40 : decode cX3_save 40 = .ok (.invokevirtual 172, 3) := by decide +kernel
theorem dX3_save_43 : decode cX3_save 43 = .ok (.return_, 1) := by decide +kernel
theorem dX3_dropOldestSaved_0 : decode cX3_dropOldestSaved 0 = .ok (.aload_n 0, 1) := by decide +kernel
theorem dX3_dropOldestSaved_1 : decode cX3_dropOldestSaved 1 = .ok (.getfield 19, 3) := by decide +kernel
theorem dX3_dropOldestSaved_4 : decode cX3_dropOldestSaved 4 = .ok (.iconst 0, 1) := by decide +kernel
theorem dX3_dropOldestSaved_5 : decode cX3_dropOldestSaved 5 = .ok (.aaload, 1) := by decide +kernel
theorem dX3_dropOldestSaved_6 : decode cX3_dropOldestSaved 6 = .ok (.astore_n 1, 1) := by decide +kernel
theorem dX3_dropOldestSaved_7 : decode cX3_dropOldestSaved 7 = .ok (.iconst 1, 1) := by decide +kernel
theorem dX3_dropOldestSaved_8 : decode cX3_dropOldestSaved 8 = .ok (.istore_n 2, 1) := by decide +kernel
theorem dX3_dropOldestSaved_9 : decode cX3_dropOldestSaved 9 = .ok (.iload_n 2, 1) := by decide +kernel
theorem dX3_dropOldestSaved_10 : decode cX3_dropOldestSaved 10 = .ok (.bipush 6, 2) := by decide +kernel
theorem dX3_dropOldestSaved_12 : decode cX3_dropOldestSaved 12 = .ok (.if_icmp .ge 23, 3) := by decide +kernel
theorem dX3_dropOldestSaved_15 : decode cX3_dropOldestSaved 15 = .ok (.aload_n 0, 1) := by decide +kernel
theorem dX3_dropOldestSaved_16 : decode cX3_dropOldestSaved 16 = .ok (.getfield 19, 3) := by decide +kernel
theorem dX3_dropOldestSaved_19 : decode cX3_dropOldestSaved 19 = .ok (.iload_n 2, 1) := by decide +kernel
theorem dX3_dropOldestSaved_20 : decode cX3_dropOldestSaved 20 = .ok (.iconst 1, 1) := by decide +kernel
theorem dX3_dropOldestSaved_21 : decode cX3_dropOldestSaved 21 = .ok (.isub, 1) := by decide +kernel
theorem dX3_dropOldestSaved_22 : decode cX3_dropOldestSaved 22 = .ok (.aload_n 0, 1) := by decide +kernel
theorem dX3_dropOldestSaved_23 : decode cX3_dropOldestSaved 23 = .ok (.getfield 19, 3) := by decide +kernel
theorem dX3_dropOldestSaved_26 : decode cX3_dropOldestSaved 26 = .ok (.iload_n 2, 1) := by decide +kernel
theorem dX3_dropOldestSaved_27 : decode cX3_dropOldestSaved 27 = .ok (.aaload, 1) := by decide +kernel
theorem dX3_dropOldestSaved_28 : decode cX3_dropOldestSaved 28 = .ok (.aastore, 1) := by decide +kernel
theorem dX3_dropOldestSaved_29 : decode cX3_dropOldestSaved 29 = .ok (.iinc 2 1, 3) := by decide +kernel
theorem dX3_dropOldestSaved_32 : decode cX3_dropOldestSaved 32 = .ok (.goto (-23), 3) := by decide +kernel
theorem dX3_dropOldestSaved_35 : decode cX3_dropOldestSaved 35 = .ok (.aload_n 0, 1) := by decide +kernel
theorem dX3_dropOldestSaved_36 : decode cX3_dropOldestSaved 36 = .ok (.getfield 19, 3) := by decide +kernel
theorem dX3_dropOldestSaved_39 : decode cX3_dropOldestSaved 39 = .ok (.iconst 5, 1) := by decide +kernel
theorem dX3_dropOldestSaved_40 : decode cX3_dropOldestSaved 40 = .ok (.aload_n 1, 1) := by decide +kernel
theorem dX3_dropOldestSaved_41 : decode cX3_dropOldestSaved 41 = .ok (.aastore, 1) := by decide +kernel
theorem dX3_dropOldestSaved_42 : decode cX3_dropOldestSaved 42 = .ok (.aload_n 0, 1) := by decide +kernel
theorem dX3_dropOldestSaved_43 : decode cX3_dropOldestSaved 43 = .ok (.iconst 5, 1) := by decide +kernel
theorem dX3_dropOldestSaved_44 : decode cX3_dropOldestSaved 44 = .ok (.putfield 167, 3) := by decide +kernel
theorem dX3_dropOldestSaved_47 : decode cX3_dropOldestSaved 47 = .ok (.return_, 1) := by decide +kernel
theorem dX3_forgetAnswers_0 : decode cX3_forgetAnswers 0 = .ok (.aload_n 0, 1) := by decide +kernel
theorem dX3_forgetAnswers_1 : decode cX3_forgetAnswers 1 = .ok (.iconst 0, 1) := by decide +kernel
theorem dX3_forgetAnswers_2 : decode cX3_forgetAnswers 2 = .ok (.putfield 239, 3) := by decide +kernel
theorem dX3_forgetAnswers_5 : decode cX3_forgetAnswers 5 = .ok (.aload_n 0, 1) := by decide +kernel
theorem dX3_forgetAnswers_6 : decode cX3_forgetAnswers 6 = .ok (.iconst 0, 1) := by decide +kernel
theorem dX3_forgetAnswers_7 : decode cX3_forgetAnswers 7 = .ok (.putfield 243, 3) := by decide +kernel
theorem dX3_forgetAnswers_10 : decode cX3_forgetAnswers 10 = .ok (.return_, 1) := by decide +kernel
set_option maxRecDepth 20000 in
theorem ggX3_isCompleteText_X3_firstError : GoodIn wsX3_isCompleteText wsX3_firstError := goodIn_r _ [7, 2, 1, 8, 9, 10, 11, 12, 13, 14, 15, 16, 17, 18, 19, 20, 21, 22, 23, 24, 25, 26, 27, 28, 29, 30, 31, 32, 33, 34, 35, 36, 37, 38, 39, 40, 41, 42, 43, 44, 45, 46, 47, 48, 49, 50, 51, 52, 53, 54, 55, 56, 57, 58, 59, 60, 61, 62, 63, 64, 69, 70, 71, 72, 73, 74, 75, 76, 77, 78, 79, 80, 81, 82, 83, 84, 85, 86, 87, 88] (by decide +kernel) (by decide +kernel)
set_option maxRecDepth 20000 in
theorem gX3_isCompleteText_X3_firstError : GoodIn wsX3_isCompleteText (wsV RX3 246 RX3 yX3_firstError wsX3_firstError) := goodIn_app (goodIn_of _ (by decide +kernel)) ggX3_isCompleteText_X3_firstError
set_option maxRecDepth 20000 in
theorem ggX3_isCompleteText_X1_mayEnd : GoodIn wsX3_isCompleteText wsX1_mayEnd := goodIn_r _ [68, 14, 81, 82, 83, 84, 85, 86, 87, 88] (by decide +kernel) (by decide +kernel)
set_option maxRecDepth 20000 in
theorem gX3_isCompleteText_X1_mayEnd : GoodIn wsX3_isCompleteText (wsV RX3 249 RX1 yX1_mayEnd wsX1_mayEnd) := goodIn_app (goodIn_of _ (by decide +kernel)) ggX3_isCompleteText_X1_mayEnd
theorem dX3_isCompleteText_0 : decode cX3_isCompleteText 0 = .ok (.aload_n 0, 1) := by decide +kernel
theorem dX3_isCompleteText_1 : decode cX3_isCompleteText 1 = .ok (.invokevirtual 246, 3) := by decide +kernel
theorem dX3_isCompleteText_4 : decode cX3_isCompleteText 4 = .ok (.aload_n 0, 1) := by decide +kernel
theorem dX3_isCompleteText_5 : decode cX3_isCompleteText 5 = .ok (.getfield 147, 3) := by decide +kernel
theorem dX3_isCompleteText_8 : decode cX3_isCompleteText 8 = .ok (.if_icmp .ne 17, 3) := by decide +kernel
theorem dX3_isCompleteText_11 : decode cX3_isCompleteText 11 = .ok (.aload_n 0, 1) := by decide +kernel
theorem dX3_isCompleteText_12 : decode cX3_isCompleteText 12 = .ok (.getfield 30, 3) := by decide +kernel
theorem dX3_isCompleteText_15 : decode cX3_isCompleteText 15 = .ok (.invokevirtual 249, 3) := by decide +kernel
theorem dX3_isCompleteText_18 : decode cX3_isCompleteText 18 = .ok (.ifCond .eq 7, 3) := by decide +kernel
theorem dX3_isCompleteText_21 : decode cX3_isCompleteText 21 = .ok (.iconst 1, 1) := by decide +kernel
theorem dX3_isCompleteText_22 : decode cX3_isCompleteText 22 = .ok (.goto 4, 3) := by decide +kernel
theorem dX3_isCompleteText_25 : decode cX3_isCompleteText 25 = .ok (.iconst 0, 1) := by decide +kernel
theorem dX3_isCompleteText_26 : decode cX3_isCompleteText 26 = .ok (.ireturn, 1) := by decide +kernel
set_option maxRecDepth 20000 in
theorem ggX3_doOrders_X1_begin : GoodIn wsX3_doOrders wsX1_begin := goodIn_r _ [8, 9, 114, 115, 116, 117, 118, 119, 120, 121] (by decide +kernel) (by decide +kernel)
set_option maxRecDepth 20000 in
theorem gX3_doOrders_X1_begin : GoodIn wsX3_doOrders (wsV RX3 152 RX1 yX1_begin wsX1_begin) := goodIn_app (goodIn_of _ (by decide +kernel)) ggX3_doOrders_X1_begin
set_option maxRecDepth 20000 in
theorem ggX3_doOrders_X3_doOrder : GoodIn wsX3_doOrders wsX3_doOrder := goodIn_r _ [14, 1, 15, 16, 17, 18, 19, 20, 21, 22, 23, 24, 25, 26, 27, 28, 29, 13, 30, 31, 32, 33, 34, 35, 36, 37, 38, 39, 40, 41, 42, 43, 44, 45, 46, 47, 48, 49, 50, 51, 102, 103, 104, 105, 106, 107, 108, 109, 110, 111, 112, 113, 114, 115, 116, 117, 118, 119, 120, 121, 122, 123, 124, 125, 126, 127, 128, 129, 130, 131, 132] (by decide +kernel) (by decide +kernel)
set_option maxRecDepth 20000 in
theorem gX3_doOrders_X3_doOrder : GoodIn wsX3_doOrders (wsV RX3 252 RX3 yX3_doOrder wsX3_doOrder) := goodIn_app (goodIn_of _ (by decide +kernel)) ggX3_doOrders_X3_doOrder
set_option maxRecDepth 20000 in
theorem ggX3_doOrders_X1_take : GoodIn wsX3_doOrders wsX1_take := goodIn_r _ [55, 9, 56, 57, 58, 59, 7, 60, 61, 62, 63, 64, 65, 66, 67, 68, 69, 70, 71, 72, 73, 74, 75, 76, 77, 78, 79, 80, 81, 82, 83, 84, 85, 86, 87, 88, 89, 90, 91, 92, 93, 94, 95, 96, 97, 98, 99, 100, 101, 114, 115, 116, 117, 118, 119, 120, 121] (by decide +kernel) (by decide +kernel)
set_option maxRecDepth 20000 in
theorem gX3_doOrders_X1_take : GoodIn wsX3_doOrders (wsV RX3 155 RX1 yX1_take wsX1_take) := goodIn_app (goodIn_of _ (by decide +kernel)) ggX3_doOrders_X1_take
theorem dX3_doOrders_0 : decode cX3_doOrders 0 = .ok (.iconst 0, 1) := by decide +kernel
theorem dX3_doOrders_1 : decode cX3_doOrders 1 = .ok (.istore_n 1, 1) := by decide +kernel
theorem dX3_doOrders_2 : decode cX3_doOrders 2 = .ok (.aload_n 0, 1) := by decide +kernel
theorem dX3_doOrders_3 : decode cX3_doOrders 3 = .ok (.getfield 30, 3) := by decide +kernel
theorem dX3_doOrders_6 : decode cX3_doOrders 6 = .ok (.invokevirtual 152, 3) := by decide +kernel
theorem dX3_doOrders_9 : decode cX3_doOrders 9 = .ok (.iconst 0, 1) := by decide +kernel
theorem dX3_doOrders_10 : decode cX3_doOrders 10 = .ok (.istore_n 2, 1) := by decide +kernel
theorem dX3_doOrders_11 : decode cX3_doOrders 11 = .ok (.iload_n 2, 1) := by decide +kernel
theorem dX3_doOrders_12 : decode cX3_doOrders 12 = .ok (.aload_n 0, 1) := by decide +kernel
theorem dX3_doOrders_13 : decode cX3_doOrders 13 = .ok (.getfield 147, 3) := by decide +kernel
theorem dX3_doOrders_16 : decode cX3_doOrders 16 = .ok (.if_icmp .ge 46, 3) := by decide +kernel
theorem dX3_doOrders_19 : decode cX3_doOrders 19 = .ok (.aload_n 0, 1) := by decide +kernel
theorem dX3_doOrders_20 : decode cX3_doOrders 20 = .ok (.getfield 23, 3) := by decide +kernel
theorem dX3_doOrders_23 : decode cX3_doOrders 23 = .ok (.iload_n 2, 1) := by decide +kernel
theorem dX3_doOrders_24 : decode cX3_doOrders 24 = .ok (.iaload, 1) := by decide +kernel
theorem dX3_doOrders_25 : decode cX3_doOrders 25 = .ok (.bipush 59, 2) := by decide +kernel
theorem dX3_doOrders_27 : decode cX3_doOrders 27 = .ok (.if_icmp .ne 15, 3) := by decide +kernel
theorem dX3_doOrders_30 : decode cX3_doOrders 30 = .ok (.aload_n 0, 1) := by decide +kernel
theorem dX3_doOrders_31 : decode cX3_doOrders 31 = .ok (.invokevirtual 252, 3) := by decide +kernel
theorem dX3_doOrders_34 : decode cX3_doOrders 34 = .ok (.ifCond .ne 5, 3) := by decide +kernel
theorem dX3_doOrders_37 : decode cX3_doOrders 37 = .ok (.iload_n 1, 1) := by decide +kernel
theorem dX3_doOrders_38 : decode cX3_doOrders 38 = .ok (.ireturn, 1) := by decide +kernel
theorem dX3_doOrders_39 : decode cX3_doOrders 39 = .ok (.iinc 1 1, 3) := by decide +kernel
theorem dX3_doOrders_42 : decode cX3_doOrders 42 = .ok (.aload_n 0, 1) := by decide +kernel
theorem dX3_doOrders_43 : decode cX3_doOrders 43 = .ok (.getfield 30, 3) := by decide +kernel
theorem dX3_doOrders_46 : decode cX3_doOrders 46 = .ok (.aload_n 0, 1) := by decide +kernel
theorem dX3_doOrders_47 : decode cX3_doOrders 47 = .ok (.getfield 23, 3) := by decide +kernel
theorem dX3_doOrders_50 : decode cX3_doOrders 50 = .ok (.iload_n 2, 1) := by decide +kernel
theorem dX3_doOrders_51 : decode cX3_doOrders 51 = .ok (.iaload, 1) := by decide +kernel
theorem dX3_doOrders_52 : decode cX3_doOrders 52 = .ok (.invokevirtual 155, 3) := by decide +kernel
theorem dX3_doOrders_55 : decode cX3_doOrders 55 = .ok (.pop, 1) := by decide +kernel
theorem dX3_doOrders_56 : decode cX3_doOrders 56 = .ok (.iinc 2 1, 3) := by decide +kernel
theorem dX3_doOrders_59 : decode cX3_doOrders 59 = .ok (.goto (-48), 3) := by decide +kernel
theorem dX3_doOrders_62 : decode cX3_doOrders 62 = .ok (.aload_n 0, 1) := by decide +kernel
theorem dX3_doOrders_63 : decode cX3_doOrders 63 = .ok (.invokevirtual 252, 3) := by decide +kernel
theorem dX3_doOrders_66 : decode cX3_doOrders 66 = .ok (.ifCond .eq 9, 3) := by decide +kernel
theorem dX3_doOrders_69 : decode cX3_doOrders 69 = .ok (.iload_n 1, 1) := by decide +kernel
theorem dX3_doOrders_70 : decode cX3_doOrders 70 = .ok (.iconst 1, 1) := by decide +kernel
theorem dX3_doOrders_71 : decode cX3_doOrders 71 = .ok (.iadd, 1) := by decide +kernel
theorem dX3_doOrders_72 : decode cX3_doOrders 72 = .ok (.goto 4, 3) := by decide +kernel
theorem dX3_doOrders_75 : decode cX3_doOrders 75 = .ok (.iload_n 1, 1) := by decide +kernel
theorem dX3_doOrders_76 : decode cX3_doOrders 76 = .ok (.ireturn, 1) := by decide +kernel
set_option maxRecDepth 20000 in
theorem ggX3_doOrder_X0_hasRelay : GoodIn wsX3_doOrder wsX0_hasRelay := goodIn_r _ [12, 13, 60, 61, 62, 63, 64, 65, 66, 67, 68, 69, 70] (by decide +kernel) (by decide +kernel)
set_option maxRecDepth 20000 in
theorem gX3_doOrder_X0_hasRelay : GoodIn wsX3_doOrder (wsV RX3 74 RX0 yX0_hasRelay wsX0_hasRelay) := goodIn_app (goodIn_of _ (by decide +kernel)) ggX3_doOrder_X0_hasRelay
set_option maxRecDepth 20000 in
theorem ggX3_doOrder_X3_doRung : GoodIn wsX3_doOrder wsX3_doRung := goodIn_r _ [18, 1, 19, 3, 20, 21, 22, 23, 24, 11, 25, 13, 26, 27, 28, 29, 30, 31, 32, 33, 34, 35, 36, 37, 38, 39, 40, 41, 42, 43, 44, 45, 46, 47, 48, 49, 50, 51, 52, 53, 54, 55, 56, 57, 58, 59, 60, 61, 62, 63, 64, 65, 66, 67, 68, 69, 70] (by decide +kernel) (by decide +kernel)
set_option maxRecDepth 20000 in
theorem gX3_doOrder_X3_doRung : GoodIn wsX3_doOrder (wsV RX3 264 RX3 yX3_doRung wsX3_doRung) := goodIn_app (goodIn_of _ (by decide +kernel)) ggX3_doOrder_X3_doRung
theorem dX3_doOrder_0 : decode cX3_doOrder 0 = .ok (.aload_n 0, 1) := by decide +kernel
theorem dX3_doOrder_1 : decode cX3_doOrder 1 = .ok (.getfield 30, 3) := by decide +kernel
theorem dX3_doOrder_4 : decode cX3_doOrder 4 = .ok (.getfield 255, 3) := by decide +kernel
theorem dX3_doOrder_7 : decode cX3_doOrder 7 = .ok (.istore_n 1, 1) := by decide +kernel
theorem dX3_doOrder_8 : decode cX3_doOrder 8 = .ok (.aload_n 0, 1) := by decide +kernel
theorem dX3_doOrder_9 : decode cX3_doOrder 9 = .ok (.getfield 10, 3) := by decide +kernel
theorem dX3_doOrder_12 : decode cX3_doOrder 12 = .ok (.iload_n 1, 1) := by decide +kernel
theorem dX3_doOrder_13 : decode cX3_doOrder 13 = .ok (.invokevirtual 74, 3) := by decide +kernel
theorem dX3_doOrder_16 : decode cX3_doOrder 16 = .ok (.ifCond .ne 5, 3) := by decide +kernel
theorem dX3_doOrder_19 : decode cX3_doOrder 19 = .ok (.iconst 0, 1) := by decide +kernel
theorem dX3_doOrder_20 : decode cX3_doOrder 20 = .ok (.ireturn, 1) := by decide +kernel
theorem dX3_doOrder_21 : decode cX3_doOrder 21 = .ok (.aload_n 0, 1) := by decide +kernel
theorem dX3_doOrder_22 : decode cX3_doOrder 22 = .ok (.getfield 30, 3) := by decide +kernel
theorem dX3_doOrder_25 : decode cX3_doOrder 25 = .ok (.getfield 258, 3) := by decide +kernel
theorem dX3_doOrder_28 : decode cX3_doOrder 28 = .ok (.iconst 1, 1) := by decide +kernel
theorem dX3_doOrder_29 : decode cX3_doOrder 29 = .ok (.if_icmp .ne 21, 3) := by decide +kernel
theorem dX3_doOrder_32 : decode cX3_doOrder 32 = .ok (.aload_n 0, 1) := by decide +kernel
theorem dX3_doOrder_33 : decode cX3_doOrder 33 = .ok (.getfield 10, 3) := by decide +kernel
theorem dX3_doOrder_36 : decode cX3_doOrder 36 = .ok (.getfield 102, 3) := by decide +kernel
theorem dX3_doOrder_39 : decode cX3_doOrder 39 = .ok (.iload_n 1, 1) := by decide +kernel
theorem dX3_doOrder_40 : decode cX3_doOrder 40 = .ok (.aload_n 0, 1) := by decide +kernel
theorem dX3_doOrder_41 : decode cX3_doOrder 41 = .ok (.getfield 30, 3) := by decide +kernel
theorem dX3_doOrder_44 : decode cX3_doOrder 44 = .ok (.getfield 261, 3) := by decide +kernel
theorem dX3_doOrder_47 : decode cX3_doOrder 47 = .ok (.iastore, 1) := by decide +kernel
theorem dX3_doOrder_48 : decode cX3_doOrder 48 = .ok (.iconst 1, 1) := by decide +kernel
theorem dX3_doOrder_49 : decode cX3_doOrder 49 = .ok (.ireturn, 1) := by decide +kernel
theorem dX3_doOrder_50 : decode cX3_doOrder 50 = .ok (.aload_n 0, 1) := by decide +kernel
theorem dX3_doOrder_51 : decode cX3_doOrder 51 = .ok (.getfield 30, 3) := by decide +kernel
theorem dX3_doOrder_54 : decode cX3_doOrder 54 = .ok (.getfield 258, 3) := by decide +kernel
theorem dX3_doOrder_57 : decode cX3_doOrder 57 = .ok (.iconst 2, 1) := by decide +kernel
theorem dX3_doOrder_58 : decode cX3_doOrder 58 = .ok (.if_icmp .ne 21, 3) := by decide +kernel
theorem dX3_doOrder_61 : decode cX3_doOrder 61 = .ok (.aload_n 0, 1) := by decide +kernel
theorem dX3_doOrder_62 : decode cX3_doOrder 62 = .ok (.getfield 10, 3) := by decide +kernel
theorem dX3_doOrder_65 : decode cX3_doOrder 65 = .ok (.getfield 105, 3) := by decide +kernel
theorem dX3_doOrder_68 : decode cX3_doOrder 68 = .ok (.iload_n 1, 1) := by decide +kernel
theorem dX3_doOrder_69 : decode cX3_doOrder 69 = .ok (.aload_n 0, 1) := by decide +kernel
theorem dX3_doOrder_70 : decode cX3_doOrder 70 = .ok (.getfield 30, 3) := by decide +kernel
theorem dX3_doOrder_73 : decode cX3_doOrder 73 = .ok (.getfield 261, 3) := by decide +kernel
theorem dX3_doOrder_76 : decode cX3_doOrder 76 = .ok (.iastore, 1) := by decide +kernel
theorem dX3_doOrder_77 : decode cX3_doOrder 77 = .ok (.iconst 1, 1) := by decide +kernel
theorem dX3_doOrder_78 : decode cX3_doOrder 78 = .ok (.ireturn, 1) := by decide +kernel
theorem dX3_doOrder_79 : decode cX3_doOrder 79 = .ok (.aload_n 0, 1) := by decide +kernel
theorem dX3_doOrder_80 : decode cX3_doOrder 80 = .ok (.iload_n 1, 1) := by decide +kernel
theorem dX3_doOrder_81 : decode cX3_doOrder 81 = .ok (.invokevirtual 264, 3) := by decide +kernel
theorem dX3_doOrder_84 : decode cX3_doOrder 84 = .ok (.ireturn, 1) := by decide +kernel
set_option maxRecDepth 20000 in
theorem ggX3_doRung_X0_hasContacts : GoodIn wsX3_doRung wsX0_hasContacts := goodIn_r _ [10, 11, 46, 47, 48, 49, 50, 51, 52, 53, 54, 55, 56] (by decide +kernel) (by decide +kernel)
set_option maxRecDepth 20000 in
theorem gX3_doRung_X0_hasContacts : GoodIn wsX3_doRung (wsV RX3 82 RX0 yX0_hasContacts wsX0_hasContacts) := goodIn_app (goodIn_of _ (by decide +kernel)) ggX3_doRung_X0_hasContacts
set_option maxRecDepth 20000 in
theorem ggX3_doRung_X0_dropBranches : GoodIn wsX3_doRung wsX0_dropBranches := goodIn_r _ [15, 16, 46, 47, 48, 49, 50, 51, 52, 53, 54, 55, 56] (by decide +kernel) (by decide +kernel)
set_option maxRecDepth 20000 in
theorem gX3_doRung_X0_dropBranches : GoodIn wsX3_doRung (wsV RX3 98 RX0 yX0_dropBranches wsX0_dropBranches) := goodIn_app (goodIn_of _ (by decide +kernel)) ggX3_doRung_X0_dropBranches
set_option maxRecDepth 20000 in
theorem ggX3_doRung_X0_addBranch : GoodIn wsX3_doRung wsX0_addBranch := goodIn_r _ [20, 16, 21, 22, 23, 24, 9, 25, 46, 47, 48, 49, 50, 51, 52, 53, 54, 55, 56] (by decide +kernel) (by decide +kernel)
set_option maxRecDepth 20000 in
theorem gX3_doRung_X0_addBranch : GoodIn wsX3_doRung (wsV RX3 94 RX0 yX0_addBranch wsX0_addBranch) := goodIn_app (goodIn_of _ (by decide +kernel)) ggX3_doRung_X0_addBranch
theorem dX3_doRung_0 : decode cX3_doRung 0 = .ok (.iconst 0, 1) := by decide +kernel
theorem dX3_doRung_1 : decode cX3_doRung 1 = .ok (.istore_n 2, 1) := by decide +kernel
theorem dX3_doRung_2 : decode cX3_doRung 2 = .ok (.iload_n 2, 1) := by decide +kernel
theorem dX3_doRung_3 : decode cX3_doRung 3 = .ok (.aload_n 0, 1) := by decide +kernel
theorem dX3_doRung_4 : decode cX3_doRung 4 = .ok (.getfield 30, 3) := by decide +kernel
theorem dX3_doRung_7 : decode cX3_doRung 7 = .ok (.getfield 267, 3) := by decide +kernel
theorem dX3_doRung_10 : decode cX3_doRung 10 = .ok (.if_icmp .ge 40, 3) := by decide +kernel
theorem dX3_doRung_13 : decode cX3_doRung 13 = .ok (.aload_n 0, 1) := by decide +kernel
theorem dX3_doRung_14 : decode cX3_doRung 14 = .ok (.getfield 10, 3) := by decide +kernel
theorem dX3_doRung_17 : decode cX3_doRung 17 = .ok (.aload_n 0, 1) := by decide +kernel
theorem dX3_doRung_18 : decode cX3_doRung 18 = .ok (.getfield 30, 3) := by decide +kernel
theorem dX3_doRung_21 : decode cX3_doRung 21 = .ok (.getfield 269, 3) := by decide +kernel
theorem dX3_doRung_24 : decode cX3_doRung 24 = .ok (.iload_n 2, 1) := by decide +kernel
theorem dX3_doRung_25 : decode cX3_doRung 25 = .ok (.iaload, 1) := by decide +kernel
theorem dX3_doRung_26 : decode cX3_doRung 26 = .ok (.aload_n 0, 1) := by decide +kernel
theorem dX3_doRung_27 : decode cX3_doRung 27 = .ok (.getfield 30, 3) := by decide +kernel
theorem dX3_doRung_30 : decode cX3_doRung 30 = .ok (.getfield 272, 3) := by decide +kernel
theorem dX3_doRung_33 : decode cX3_doRung 33 = .ok (.iload_n 2, 1) := by decide +kernel
theorem dX3_doRung_34 : decode cX3_doRung 34 = .ok (.iaload, 1) := by decide +kernel
theorem dX3_doRung_35 : decode cX3_doRung 35 = .ok (.ior, 1) := by decide +kernel
theorem dX3_doRung_36 : decode cX3_doRung 36 = .ok (.invokevirtual 82, 3) := by decide +kernel
theorem dX3_doRung_39 : decode cX3_doRung 39 = .ok (.ifCond .ne 5, 3) := by decide +kernel
theorem dX3_doRung_42 : decode cX3_doRung 42 = .ok (.iconst 0, 1) := by decide +kernel
theorem dX3_doRung_43 : decode cX3_doRung 43 = .ok (.ireturn, 1) := by decide +kernel
theorem dX3_doRung_44 : decode cX3_doRung 44 = .ok (.iinc 2 1, 3) := by decide +kernel
theorem dX3_doRung_47 : decode cX3_doRung 47 = .ok (.goto (-45), 3) := by decide +kernel
theorem dX3_doRung_50 : decode cX3_doRung 50 = .ok (.aload_n 0, 1) := by decide +kernel
theorem dX3_doRung_51 : decode cX3_doRung 51 = .ok (.getfield 10, 3) := by decide +kernel
theorem dX3_doRung_54 : decode cX3_doRung 54 = .ok (.iload_n 1, 1) := by decide +kernel
theorem dX3_doRung_55 : decode cX3_doRung 55 = .ok (.invokevirtual 98, 3) := by decide +kernel
theorem dX3_doRung_58 : decode cX3_doRung 58 = .ok (.pop, 1) := by decide +kernel
theorem dX3_doRung_59 : decode cX3_doRung 59 = .ok (.iconst 0, 1) := by decide +kernel
theorem dX3_doRung_60 : decode cX3_doRung 60 = .ok (.istore_n 2, 1) := by decide +kernel
theorem dX3_doRung_61 : decode cX3_doRung 61 = .ok (.iload_n 2, 1) := by decide +kernel
theorem dX3_doRung_62 : decode cX3_doRung 62 = .ok (.aload_n 0, 1) := by decide +kernel
theorem dX3_doRung_63 : decode cX3_doRung 63 = .ok (.getfield 30, 3) := by decide +kernel
theorem dX3_doRung_66 : decode cX3_doRung 66 = .ok (.getfield 267, 3) := by decide +kernel
theorem dX3_doRung_69 : decode cX3_doRung 69 = .ok (.if_icmp .ge 36, 3) := by decide +kernel
theorem dX3_doRung_72 : decode cX3_doRung 72 = .ok (.aload_n 0, 1) := by decide +kernel
theorem dX3_doRung_73 : decode cX3_doRung 73 = .ok (.getfield 10, 3) := by decide +kernel
theorem dX3_doRung_76 : decode cX3_doRung 76 = .ok (.iload_n 1, 1) := by decide +kernel
theorem dX3_doRung_77 : decode cX3_doRung 77 = .ok (.aload_n 0, 1) := by decide +kernel
theorem dX3_doRung_78 : decode cX3_doRung 78 = .ok (.getfield 30, 3) := by decide +kernel
theorem dX3_doRung_81 : decode cX3_doRung 81 = .ok (.getfield 269, 3) := by decide +kernel
theorem dX3_doRung_84 : decode cX3_doRung 84 = .ok (.iload_n 2, 1) := by decide +kernel
theorem dX3_doRung_85 : decode cX3_doRung 85 = .ok (.iaload, 1) := by decide +kernel
theorem dX3_doRung_86 : decode cX3_doRung 86 = .ok (.aload_n 0, 1) := by decide +kernel
theorem dX3_doRung_87 : decode cX3_doRung 87 = .ok (.getfield 30, 3) := by decide +kernel
theorem dX3_doRung_90 : decode cX3_doRung 90 = .ok (.getfield 272, 3) := by decide +kernel
theorem dX3_doRung_93 : decode cX3_doRung 93 = .ok (.iload_n 2, 1) := by decide +kernel
theorem dX3_doRung_94 : decode cX3_doRung 94 = .ok (.iaload, 1) := by decide +kernel
theorem dX3_doRung_95 : decode cX3_doRung 95 = .ok (.invokevirtual 94, 3) := by decide +kernel
theorem dX3_doRung_98 : decode cX3_doRung 98 = .ok (.pop, 1) := by decide +kernel
theorem dX3_doRung_99 : decode cX3_doRung 99 = .ok (.iinc 2 1, 3) := by decide +kernel
theorem dX3_doRung_102 : decode cX3_doRung 102 = .ok (.goto (-41), 3) := by decide +kernel
theorem dX3_doRung_105 : decode cX3_doRung 105 = .ok (.iconst 1, 1) := by decide +kernel
theorem dX3_doRung_106 : decode cX3_doRung 106 = .ok (.ireturn, 1) := by decide +kernel
set_option maxRecDepth 20000 in
theorem ggX3_propertyOf_X0_up : GoodIn wsX3_propertyOf wsX0_up := goodIn_r _ [11, 12, 13, 14, 10, 15, 78, 79, 80, 81, 82, 83, 84, 85, 86, 87, 88] (by decide +kernel) (by decide +kernel)
set_option maxRecDepth 20000 in
theorem gX3_propertyOf_X0_up : GoodIn wsX3_propertyOf (wsV RX3 139 RX0 yX0_up wsX0_up) := goodIn_app (goodIn_of _ (by decide +kernel)) ggX3_propertyOf_X0_up
set_option maxRecDepth 20000 in
theorem ggX3_propertyOf_X0_called : GoodIn wsX3_propertyOf wsX0_called := goodIn_r _ [19, 20, 21, 22, 10, 23, 24, 12, 13, 14, 15, 25, 26, 27, 28, 29, 30, 31, 32, 78, 79, 80, 81, 82, 83, 84, 85, 86, 87, 88] (by decide +kernel) (by decide +kernel)
set_option maxRecDepth 20000 in
theorem gX3_propertyOf_X0_called : GoodIn wsX3_propertyOf (wsV RX3 275 RX0 yX0_called wsX0_called) := goodIn_app (goodIn_of _ (by decide +kernel)) ggX3_propertyOf_X0_called
set_option maxRecDepth 20000 in
theorem ggX3_propertyOf_X0_countIn : GoodIn wsX3_propertyOf wsX0_countIn := goodIn_r _ [35] (by decide +kernel) (by decide +kernel)
set_option maxRecDepth 20000 in
theorem gX3_propertyOf_X0_countIn : GoodIn wsX3_propertyOf (va_wsS RX3 278 yX0_countIn wsX0_countIn) := goodIn_app (goodIn_of _ (by decide +kernel)) ggX3_propertyOf_X0_countIn
set_option maxRecDepth 20000 in
theorem ggX3_propertyOf_X0_holdsItself : GoodIn wsX3_propertyOf wsX0_holdsItself := goodIn_r _ [39, 30, 31, 40, 41, 10, 42, 78, 79, 80, 81, 82, 83, 84, 85, 86, 87, 88] (by decide +kernel) (by decide +kernel)
set_option maxRecDepth 20000 in
theorem gX3_propertyOf_X0_holdsItself : GoodIn wsX3_propertyOf (wsV RX3 281 RX0 yX0_holdsItself wsX0_holdsItself) := goodIn_app (goodIn_of _ (by decide +kernel)) ggX3_propertyOf_X0_holdsItself
set_option maxRecDepth 20000 in
theorem ggX3_propertyOf_X0_ticksUntilDue : GoodIn wsX3_propertyOf wsX0_ticksUntilDue := goodIn_r _ [46, 12, 47, 48, 49, 50, 51, 52, 53, 10, 54, 20, 21, 22, 23, 24, 13, 14, 15, 25, 26, 27, 28, 29, 30, 31, 32, 55, 8, 9, 11, 56, 57, 58, 59, 60, 61, 62, 63, 64, 65, 34, 35, 78, 79, 80, 81, 82, 83, 84, 85, 86, 87, 88] (by decide +kernel) (by decide +kernel)
set_option maxRecDepth 20000 in
theorem gX3_propertyOf_X0_ticksUntilDue : GoodIn wsX3_propertyOf (wsV RX3 287 RX0 yX0_ticksUntilDue wsX0_ticksUntilDue) := goodIn_app (goodIn_of _ (by decide +kernel)) ggX3_propertyOf_X0_ticksUntilDue
theorem dX3_propertyOf_0 : decode cX3_propertyOf 0 = .ok (.iload_n 2, 1) := by decide +kernel
theorem dX3_propertyOf_1 : decode cX3_propertyOf 1 = .ok (.tableswitch 140 0 7 #[47, 59, 71, 83, 93, 103, 113, 130], 47) := by decide +kernel
theorem dX3_propertyOf_48 : decode cX3_propertyOf 48 = .ok (.aload_n 0, 1) := by decide +kernel
theorem dX3_propertyOf_49 : decode cX3_propertyOf 49 = .ok (.getfield 10, 3) := by decide +kernel
theorem dX3_propertyOf_52 : decode cX3_propertyOf 52 = .ok (.invokevirtual 139, 3) := by decide +kernel
theorem dX3_propertyOf_55 : decode cX3_propertyOf 55 = .ok (.iload_n 1, 1) := by decide +kernel
theorem dX3_propertyOf_56 : decode cX3_propertyOf 56 = .ok (.ishr, 1) := by decide +kernel
theorem dX3_propertyOf_57 : decode cX3_propertyOf 57 = .ok (.iconst 1, 1) := by decide +kernel
theorem dX3_propertyOf_58 : decode cX3_propertyOf 58 = .ok (.iand, 1) := by decide +kernel
theorem dX3_propertyOf_59 : decode cX3_propertyOf 59 = .ok (.ireturn, 1) := by decide +kernel
theorem dX3_propertyOf_60 : decode cX3_propertyOf 60 = .ok (.aload_n 0, 1) := by decide +kernel
theorem dX3_propertyOf_61 : decode cX3_propertyOf 61 = .ok (.getfield 10, 3) := by decide +kernel
theorem dX3_propertyOf_64 : decode cX3_propertyOf 64 = .ok (.invokevirtual 275, 3) := by decide +kernel
theorem dX3_propertyOf_67 : decode cX3_propertyOf 67 = .ok (.iload_n 1, 1) := by decide +kernel
theorem dX3_propertyOf_68 : decode cX3_propertyOf 68 = .ok (.ishr, 1) := by decide +kernel
theorem dX3_propertyOf_69 : decode cX3_propertyOf 69 = .ok (.iconst 1, 1) := by decide +kernel
theorem dX3_propertyOf_70 : decode cX3_propertyOf 70 = .ok (.iand, 1) := by decide +kernel
theorem dX3_propertyOf_71 : decode cX3_propertyOf 71 = .ok (.ireturn, 1) := by decide +kernel
theorem dX3_propertyOf_72 : decode cX3_propertyOf 72 = .ok (.aload_n 0, 1) := by decide +kernel
theorem dX3_propertyOf_73 : decode cX3_propertyOf 73 = .ok (.getfield 10, 3) := by decide +kernel
theorem dX3_propertyOf_76 : decode cX3_propertyOf 76 = .ok (.getfield 142, 3) := by decide +kernel
theorem dX3_propertyOf_79 : decode cX3_propertyOf 79 = .ok (.iload_n 1, 1) := by decide +kernel
theorem dX3_propertyOf_80 : decode cX3_propertyOf 80 = .ok (.invokestatic 278, 3) := by decide +kernel
theorem dX3_propertyOf_83 : decode cX3_propertyOf 83 = .ok (.ireturn, 1) := by decide +kernel
theorem dX3_propertyOf_84 : decode cX3_propertyOf 84 = .ok (.aload_n 0, 1) := by decide +kernel
theorem dX3_propertyOf_85 : decode cX3_propertyOf 85 = .ok (.getfield 10, 3) := by decide +kernel
theorem dX3_propertyOf_88 : decode cX3_propertyOf 88 = .ok (.getfield 102, 3) := by decide +kernel
theorem dX3_propertyOf_91 : decode cX3_propertyOf 91 = .ok (.iload_n 1, 1) := by decide +kernel
theorem dX3_propertyOf_92 : decode cX3_propertyOf 92 = .ok (.iaload, 1) := by decide +kernel
theorem dX3_propertyOf_93 : decode cX3_propertyOf 93 = .ok (.ireturn, 1) := by decide +kernel
theorem dX3_propertyOf_94 : decode cX3_propertyOf 94 = .ok (.aload_n 0, 1) := by decide +kernel
theorem dX3_propertyOf_95 : decode cX3_propertyOf 95 = .ok (.getfield 10, 3) := by decide +kernel
theorem dX3_propertyOf_98 : decode cX3_propertyOf 98 = .ok (.getfield 105, 3) := by decide +kernel
theorem dX3_propertyOf_101 : decode cX3_propertyOf 101 = .ok (.iload_n 1, 1) := by decide +kernel
theorem dX3_propertyOf_102 : decode cX3_propertyOf 102 = .ok (.iaload, 1) := by decide +kernel
theorem dX3_propertyOf_103 : decode cX3_propertyOf 103 = .ok (.ireturn, 1) := by decide +kernel
theorem dX3_propertyOf_104 : decode cX3_propertyOf 104 = .ok (.aload_n 0, 1) := by decide +kernel
theorem dX3_propertyOf_105 : decode cX3_propertyOf 105 = .ok (.getfield 10, 3) := by decide +kernel
theorem dX3_propertyOf_108 : decode cX3_propertyOf 108 = .ok (.getfield 89, 3) := by decide +kernel
theorem dX3_propertyOf_111 : decode cX3_propertyOf 111 = .ok (.iload_n 1, 1) := by decide +kernel
theorem dX3_propertyOf_112 : decode cX3_propertyOf 112 = .ok (.iaload, 1) := by decide +kernel
theorem dX3_propertyOf_113 : decode cX3_propertyOf 113 = .ok (.ireturn, 1) := by decide +kernel
theorem dX3_propertyOf_114 : decode cX3_propertyOf 114 = .ok (.aload_n 0, 1) := by decide +kernel
theorem dX3_propertyOf_115 : decode cX3_propertyOf 115 = .ok (.getfield 10, 3) := by decide +kernel
theorem dX3_propertyOf_118 : decode cX3_propertyOf 118 = .ok (.iload_n 1, 1) := by decide +kernel
theorem dX3_propertyOf_119 : decode cX3_propertyOf 119 = .ok (.invokevirtual 281, 3) := by decide +kernel
theorem dX3_propertyOf_122 : decode cX3_propertyOf 122 = .ok (.ifCond .eq 7, 3) := by decide +kernel
theorem dX3_propertyOf_125 : decode cX3_propertyOf 125 = .ok (.iconst 1, 1) := by decide +kernel
theorem dX3_propertyOf_126 : decode cX3_propertyOf 126 = .ok (.goto 4, 3) := by decide +kernel
theorem dX3_propertyOf_129 : decode cX3_propertyOf 129 = .ok (.iconst 0, 1) := by decide +kernel
theorem dX3_propertyOf_130 : decode cX3_propertyOf 130 = .ok (.ireturn, 1) := by decide +kernel
theorem dX3_propertyOf_131 : decode cX3_propertyOf 131 = .ok (.aload_n 0, 1) := by decide +kernel
theorem dX3_propertyOf_132 : decode cX3_propertyOf 132 = .ok (.getfield 10, 3) := by decide +kernel
theorem dX3_propertyOf_135 : decode cX3_propertyOf 135 = .ok (.getfield 284, 3) := by decide +kernel
theorem dX3_propertyOf_138 : decode cX3_propertyOf 138 = .ok (.iload_n 1, 1) := by decide +kernel
theorem dX3_propertyOf_139 : decode cX3_propertyOf 139 = .ok (.iaload, 1) := by decide +kernel
theorem dX3_propertyOf_140 : decode cX3_propertyOf 140 = .ok (.ireturn, 1) := by decide +kernel
theorem dX3_propertyOf_141 : decode cX3_propertyOf 141 = .ok (.aload_n 0, 1) := by decide +kernel
theorem dX3_propertyOf_142 : decode cX3_propertyOf 142 = .ok (.getfield 10, 3) := by decide +kernel
theorem dX3_propertyOf_145 : decode cX3_propertyOf 145 = .ok (.iload_n 1, 1) := by decide +kernel
theorem dX3_propertyOf_146 : decode cX3_propertyOf 146 = .ok (.invokevirtual 287, 3) := by decide +kernel
theorem dX3_propertyOf_149 : decode cX3_propertyOf 149 = .ok (.ireturn, 1) := by decide +kernel
set_option maxRecDepth 20000 in
theorem ggX3_contactAnswer_X0_placeOf : GoodIn wsX3_contactAnswer wsX0_placeOf := goodIn_r _ [7] (by decide +kernel) (by decide +kernel)
set_option maxRecDepth 20000 in
theorem gX3_contactAnswer_X0_placeOf : GoodIn wsX3_contactAnswer (va_wsS RX3 290 yX0_placeOf wsX0_placeOf) := goodIn_app (goodIn_of _ (by decide +kernel)) ggX3_contactAnswer_X0_placeOf
set_option maxRecDepth 20000 in
theorem ggX3_contactAnswer_X0_signals : GoodIn wsX3_contactAnswer wsX0_signals := goodIn_r _ [11, 12, 13, 14, 15, 6, 16, 42, 43, 44, 45, 46, 47, 48, 49, 50, 51, 52] (by decide +kernel) (by decide +kernel)
set_option maxRecDepth 20000 in
theorem gX3_contactAnswer_X0_signals : GoodIn wsX3_contactAnswer (wsV RX3 295 RX0 yX0_signals wsX0_signals) := goodIn_app (goodIn_of _ (by decide +kernel)) ggX3_contactAnswer_X0_signals
set_option maxRecDepth 20000 in
theorem ggX3_contactAnswer_X0_contactsAgainst : GoodIn wsX3_contactAnswer wsX0_contactsAgainst := goodIn_r _ [20, 21, 22, 42, 43, 44, 45, 46, 47, 48, 49, 50, 51, 52] (by decide +kernel) (by decide +kernel)
set_option maxRecDepth 20000 in
theorem gX3_contactAnswer_X0_contactsAgainst : GoodIn wsX3_contactAnswer (wsV RX3 298 RX0 yX0_contactsAgainst wsX0_contactsAgainst) := goodIn_app (goodIn_of _ (by decide +kernel)) ggX3_contactAnswer_X0_contactsAgainst
set_option maxRecDepth 20000 in
theorem ggX3_contactAnswer_J6_bitCount_0f7a4 : GoodIn wsX3_contactAnswer wsJ6_bitCount_0f7a4 := goodIn_r _ [26, 27, 28, 29] (by decide +kernel) (by decide +kernel)
set_option maxRecDepth 20000 in
theorem gX3_contactAnswer_J6_bitCount_0f7a4 : GoodIn wsX3_contactAnswer (va_wsS RX3 117 yJ6_bitCount_0f7a4 wsJ6_bitCount_0f7a4) := goodIn_app (goodIn_of _ (by decide +kernel)) ggX3_contactAnswer_J6_bitCount_0f7a4
theorem dX3_contactAnswer_0 : decode cX3_contactAnswer 0 = .ok (.iload_n 1, 1) := by decide +kernel
theorem dX3_contactAnswer_1 : decode cX3_contactAnswer 1 = .ok (.iload_n 2, 1) := by decide +kernel
theorem dX3_contactAnswer_2 : decode cX3_contactAnswer 2 = .ok (.invokestatic 290, 3) := by decide +kernel
theorem dX3_contactAnswer_5 : decode cX3_contactAnswer 5 = .ok (.istore 4, 2) := by decide +kernel
theorem dX3_contactAnswer_7 : decode cX3_contactAnswer 7 = .ok (.iload_n 3, 1) := by decide +kernel
theorem dX3_contactAnswer_8 : decode cX3_contactAnswer 8 = .ok (.tableswitch 75 0 2 #[28, 39, 50], 28) := by decide +kernel
theorem dX3_contactAnswer_36 : decode cX3_contactAnswer 36 = .ok (.aload_n 0, 1) := by decide +kernel
theorem dX3_contactAnswer_37 : decode cX3_contactAnswer 37 = .ok (.getfield 10, 3) := by decide +kernel
theorem dX3_contactAnswer_40 : decode cX3_contactAnswer 40 = .ok (.getfield 293, 3) := by decide +kernel
theorem dX3_contactAnswer_43 : decode cX3_contactAnswer 43 = .ok (.iload 4, 2) := by decide +kernel
theorem dX3_contactAnswer_45 : decode cX3_contactAnswer 45 = .ok (.iaload, 1) := by decide +kernel
theorem dX3_contactAnswer_46 : decode cX3_contactAnswer 46 = .ok (.ireturn, 1) := by decide +kernel
theorem dX3_contactAnswer_47 : decode cX3_contactAnswer 47 = .ok (.aload_n 0, 1) := by decide +kernel
theorem dX3_contactAnswer_48 : decode cX3_contactAnswer 48 = .ok (.getfield 10, 3) := by decide +kernel
theorem dX3_contactAnswer_51 : decode cX3_contactAnswer 51 = .ok (.getfield 294, 3) := by decide +kernel
theorem dX3_contactAnswer_54 : decode cX3_contactAnswer 54 = .ok (.iload 4, 2) := by decide +kernel
theorem dX3_contactAnswer_56 : decode cX3_contactAnswer 56 = .ok (.iaload, 1) := by decide +kernel
theorem dX3_contactAnswer_57 : decode cX3_contactAnswer 57 = .ok (.ireturn, 1) := by decide +kernel
theorem dX3_contactAnswer_58 : decode cX3_contactAnswer 58 = .ok (.aload_n 0, 1) := by decide +kernel
theorem dX3_contactAnswer_59 : decode cX3_contactAnswer 59 = .ok (.getfield 10, 3) := by decide +kernel
theorem dX3_contactAnswer_62 : decode cX3_contactAnswer 62 = .ok (.iload 4, 2) := by decide +kernel
theorem dX3_contactAnswer_64 : decode cX3_contactAnswer 64 = .ok (.aload_n 0, 1) := by decide +kernel
theorem dX3_contactAnswer_65 : decode cX3_contactAnswer 65 = .ok (.getfield 10, 3) := by decide +kernel
theorem dX3_contactAnswer_68 : decode cX3_contactAnswer 68 = .ok (.invokevirtual 295, 3) := by decide +kernel
theorem dX3_contactAnswer_71 : decode cX3_contactAnswer 71 = .ok (.invokevirtual 298, 3) := by decide +kernel
theorem dX3_contactAnswer_74 : decode cX3_contactAnswer 74 = .ok (.ifCond .ne 7, 3) := by decide +kernel
theorem dX3_contactAnswer_77 : decode cX3_contactAnswer 77 = .ok (.iconst 1, 1) := by decide +kernel
theorem dX3_contactAnswer_78 : decode cX3_contactAnswer 78 = .ok (.goto 4, 3) := by decide +kernel
theorem dX3_contactAnswer_81 : decode cX3_contactAnswer 81 = .ok (.iconst 0, 1) := by decide +kernel
theorem dX3_contactAnswer_82 : decode cX3_contactAnswer 82 = .ok (.ireturn, 1) := by decide +kernel
theorem dX3_contactAnswer_83 : decode cX3_contactAnswer 83 = .ok (.aload_n 0, 1) := by decide +kernel
theorem dX3_contactAnswer_84 : decode cX3_contactAnswer 84 = .ok (.getfield 10, 3) := by decide +kernel
theorem dX3_contactAnswer_87 : decode cX3_contactAnswer 87 = .ok (.iload 4, 2) := by decide +kernel
theorem dX3_contactAnswer_89 : decode cX3_contactAnswer 89 = .ok (.aload_n 0, 1) := by decide +kernel
theorem dX3_contactAnswer_90 : decode cX3_contactAnswer 90 = .ok (.getfield 10, 3) := by decide +kernel
theorem dX3_contactAnswer_93 : decode cX3_contactAnswer 93 = .ok (.invokevirtual 295, 3) := by decide +kernel
theorem dX3_contactAnswer_96 : decode cX3_contactAnswer 96 = .ok (.invokevirtual 298, 3) := by decide +kernel
theorem dX3_contactAnswer_99 : decode cX3_contactAnswer 99 = .ok (.invokestatic 117, 3) := by decide +kernel
theorem dX3_contactAnswer_102 : decode cX3_contactAnswer 102 = .ok (.ireturn, 1) := by decide +kernel
set_option maxRecDepth 20000 in
theorem ggX3_numberOf_X0_up : GoodIn wsX3_numberOf wsX0_up := goodIn_r _ [11, 12, 13, 14, 10, 15, 69, 70, 71, 72, 73, 74, 75, 76, 77, 78, 79] (by decide +kernel) (by decide +kernel)
set_option maxRecDepth 20000 in
theorem gX3_numberOf_X0_up : GoodIn wsX3_numberOf (wsV RX3 139 RX0 yX0_up wsX0_up) := goodIn_app (goodIn_of _ (by decide +kernel)) ggX3_numberOf_X0_up
set_option maxRecDepth 20000 in
theorem ggX3_numberOf_X0_called : GoodIn wsX3_numberOf wsX0_called := goodIn_r _ [19, 20, 21, 22, 10, 23, 24, 12, 13, 14, 15, 25, 26, 27, 28, 29, 30, 31, 32, 69, 70, 71, 72, 73, 74, 75, 76, 77, 78, 79] (by decide +kernel) (by decide +kernel)
set_option maxRecDepth 20000 in
theorem gX3_numberOf_X0_called : GoodIn wsX3_numberOf (wsV RX3 275 RX0 yX0_called wsX0_called) := goodIn_app (goodIn_of _ (by decide +kernel)) ggX3_numberOf_X0_called
set_option maxRecDepth 20000 in
theorem ggX3_numberOf_X0_restless : GoodIn wsX3_numberOf wsX0_restless := goodIn_r _ [36, 20, 21, 22, 10, 23, 24, 12, 13, 14, 15, 25, 26, 27, 28, 29, 30, 31, 32, 37, 8, 9, 11, 69, 70, 71, 72, 73, 74, 75, 76, 77, 78, 79] (by decide +kernel) (by decide +kernel)
set_option maxRecDepth 20000 in
theorem gX3_numberOf_X0_restless : GoodIn wsX3_numberOf (wsV RX3 113 RX0 yX0_restless wsX0_restless) := goodIn_app (goodIn_of _ (by decide +kernel)) ggX3_numberOf_X0_restless
set_option maxRecDepth 20000 in
theorem ggX3_numberOf_J6_bitCount_0f7a4 : GoodIn wsX3_numberOf wsJ6_bitCount_0f7a4 := goodIn_r _ [41, 42, 43, 44] (by decide +kernel) (by decide +kernel)
set_option maxRecDepth 20000 in
theorem gX3_numberOf_J6_bitCount_0f7a4 : GoodIn wsX3_numberOf (va_wsS RX3 117 yJ6_bitCount_0f7a4 wsJ6_bitCount_0f7a4) := goodIn_app (goodIn_of _ (by decide +kernel)) ggX3_numberOf_J6_bitCount_0f7a4
set_option maxRecDepth 20000 in
theorem ggX3_numberOf_X0_allBranches : GoodIn wsX3_numberOf wsX0_allBranches := goodIn_r _ [48, 29, 30, 69, 70, 71, 72, 73, 74, 75, 76, 77, 78, 79] (by decide +kernel) (by decide +kernel)
set_option maxRecDepth 20000 in
theorem gX3_numberOf_X0_allBranches : GoodIn wsX3_numberOf (wsV RX3 301 RX0 yX0_allBranches wsX0_allBranches) := goodIn_app (goodIn_of _ (by decide +kernel)) ggX3_numberOf_X0_allBranches
set_option maxRecDepth 20000 in
theorem ggX3_numberOf_X0_allContacts : GoodIn wsX3_numberOf wsX0_allContacts := goodIn_r _ [52, 29, 30, 31, 32, 53, 54, 10, 55, 56, 39, 40, 41, 42, 43, 44, 69, 70, 71, 72, 73, 74, 75, 76, 77, 78, 79] (by decide +kernel) (by decide +kernel)
set_option maxRecDepth 20000 in
theorem gX3_numberOf_X0_allContacts : GoodIn wsX3_numberOf (wsV RX3 304 RX0 yX0_allContacts wsX0_allContacts) := goodIn_app (goodIn_of _ (by decide +kernel)) ggX3_numberOf_X0_allContacts
theorem dX3_numberOf_0 : decode cX3_numberOf 0 = .ok (.iload_n 1, 1) := by decide +kernel
theorem dX3_numberOf_1 : decode cX3_numberOf 1 = .ok (.tableswitch 126 0 8 #[51, 59, 67, 75, 86, 94, 102, 110, 118], 51) := by decide +kernel
theorem dX3_numberOf_52 : decode cX3_numberOf 52 = .ok (.aload_n 0, 1) := by decide +kernel
theorem dX3_numberOf_53 : decode cX3_numberOf 53 = .ok (.getfield 10, 3) := by decide +kernel
theorem dX3_numberOf_56 : decode cX3_numberOf 56 = .ok (.getfield 58, 3) := by decide +kernel
theorem dX3_numberOf_59 : decode cX3_numberOf 59 = .ok (.ireturn, 1) := by decide +kernel
theorem dX3_numberOf_60 : decode cX3_numberOf 60 = .ok (.aload_n 0, 1) := by decide +kernel
theorem dX3_numberOf_61 : decode cX3_numberOf 61 = .ok (.getfield 10, 3) := by decide +kernel
theorem dX3_numberOf_64 : decode cX3_numberOf 64 = .ok (.invokevirtual 139, 3) := by decide +kernel
theorem dX3_numberOf_67 : decode cX3_numberOf 67 = .ok (.ireturn, 1) := by decide +kernel
theorem dX3_numberOf_68 : decode cX3_numberOf 68 = .ok (.aload_n 0, 1) := by decide +kernel
theorem dX3_numberOf_69 : decode cX3_numberOf 69 = .ok (.getfield 10, 3) := by decide +kernel
theorem dX3_numberOf_72 : decode cX3_numberOf 72 = .ok (.invokevirtual 275, 3) := by decide +kernel
theorem dX3_numberOf_75 : decode cX3_numberOf 75 = .ok (.ireturn, 1) := by decide +kernel
theorem dX3_numberOf_76 : decode cX3_numberOf 76 = .ok (.aload_n 0, 1) := by decide +kernel
theorem dX3_numberOf_77 : decode cX3_numberOf 77 = .ok (.getfield 10, 3) := by decide +kernel
theorem dX3_numberOf_80 : decode cX3_numberOf 80 = .ok (.invokevirtual 113, 3) := by decide +kernel
theorem dX3_numberOf_83 : decode cX3_numberOf 83 = .ok (.invokestatic 117, 3) := by decide +kernel
theorem dX3_numberOf_86 : decode cX3_numberOf 86 = .ok (.ireturn, 1) := by decide +kernel
theorem dX3_numberOf_87 : decode cX3_numberOf 87 = .ok (.aload_n 0, 1) := by decide +kernel
theorem dX3_numberOf_88 : decode cX3_numberOf 88 = .ok (.getfield 10, 3) := by decide +kernel
theorem dX3_numberOf_91 : decode cX3_numberOf 91 = .ok (.getfield 110, 3) := by decide +kernel
theorem dX3_numberOf_94 : decode cX3_numberOf 94 = .ok (.ireturn, 1) := by decide +kernel
theorem dX3_numberOf_95 : decode cX3_numberOf 95 = .ok (.aload_n 0, 1) := by decide +kernel
theorem dX3_numberOf_96 : decode cX3_numberOf 96 = .ok (.getfield 10, 3) := by decide +kernel
theorem dX3_numberOf_99 : decode cX3_numberOf 99 = .ok (.invokevirtual 301, 3) := by decide +kernel
theorem dX3_numberOf_102 : decode cX3_numberOf 102 = .ok (.ireturn, 1) := by decide +kernel
theorem dX3_numberOf_103 : decode cX3_numberOf 103 = .ok (.aload_n 0, 1) := by decide +kernel
theorem dX3_numberOf_104 : decode cX3_numberOf 104 = .ok (.getfield 10, 3) := by decide +kernel
theorem dX3_numberOf_107 : decode cX3_numberOf 107 = .ok (.invokevirtual 304, 3) := by decide +kernel
theorem dX3_numberOf_110 : decode cX3_numberOf 110 = .ok (.ireturn, 1) := by decide +kernel
theorem dX3_numberOf_111 : decode cX3_numberOf 111 = .ok (.aload_n 0, 1) := by decide +kernel
theorem dX3_numberOf_112 : decode cX3_numberOf 112 = .ok (.getfield 10, 3) := by decide +kernel
theorem dX3_numberOf_115 : decode cX3_numberOf 115 = .ok (.getfield 307, 3) := by decide +kernel
theorem dX3_numberOf_118 : decode cX3_numberOf 118 = .ok (.ireturn, 1) := by decide +kernel
theorem dX3_numberOf_119 : decode cX3_numberOf 119 = .ok (.aload_n 0, 1) := by decide +kernel
theorem dX3_numberOf_120 : decode cX3_numberOf 120 = .ok (.getfield 10, 3) := by decide +kernel
theorem dX3_numberOf_123 : decode cX3_numberOf 123 = .ok (.getfield 124, 3) := by decide +kernel
theorem dX3_numberOf_126 : decode cX3_numberOf 126 = .ok (.ireturn, 1) := by decide +kernel
theorem dX3_numberOf_127 : decode cX3_numberOf 127 = .ok (.aload_n 0, 1) := by decide +kernel
theorem dX3_numberOf_128 : decode cX3_numberOf 128 = .ok (.getfield 167, 3) := by decide +kernel
theorem dX3_numberOf_131 : decode cX3_numberOf 131 = .ok (.ireturn, 1) := by decide +kernel
set_option maxRecDepth 20000 in
theorem ggX3_leadAnswer_X0_copyFrom : GoodIn wsX3_leadAnswer wsX0_copyFrom := goodIn_r _ [8, 9, 10, 11, 12, 13, 14, 15, 16, 17, 18, 19, 20, 21, 22, 23, 100, 101, 102, 103, 104, 105, 106, 107, 108, 109, 110] (by decide +kernel) (by decide +kernel)
set_option maxRecDepth 20000 in
theorem gX3_leadAnswer_X0_copyFrom : GoodIn wsX3_leadAnswer (wsV RX3 130 RX0 yX0_copyFrom wsX0_copyFrom) := goodIn_app (goodIn_of _ (by decide +kernel)) ggX3_leadAnswer_X0_copyFrom
set_option maxRecDepth 20000 in
theorem ggX3_leadAnswer_X0_ticksToQuiet : GoodIn wsX3_leadAnswer wsX0_ticksToQuiet := goodIn_r _ [27, 28, 29, 30, 7, 31, 32, 33, 34, 35, 20, 21, 36, 37, 38, 39, 40, 41, 42, 9, 10, 15, 16, 43, 44, 45, 46, 47, 48, 49, 50, 19, 23, 22, 51, 52, 53, 54, 55, 56, 57, 58, 59, 60, 61, 62, 63, 64, 65, 66, 67, 68, 69, 70, 71, 72, 73, 74, 75, 18, 17, 76, 77, 78, 79, 80, 81, 82, 83, 84, 85, 86, 100, 101, 102, 103, 104, 105, 106, 107, 108, 109, 110] (by decide +kernel) (by decide +kernel)
set_option maxRecDepth 20000 in
theorem gX3_leadAnswer_X0_ticksToQuiet : GoodIn wsX3_leadAnswer (wsV RX3 134 RX0 yX0_ticksToQuiet wsX0_ticksToQuiet) := goodIn_app (goodIn_of _ (by decide +kernel)) ggX3_leadAnswer_X0_ticksToQuiet
set_option maxRecDepth 20000 in
theorem ggX3_leadAnswer_X0_up : GoodIn wsX3_leadAnswer wsX0_up := goodIn_r _ [46, 21, 36, 37, 7, 38, 100, 101, 102, 103, 104, 105, 106, 107, 108, 109, 110] (by decide +kernel) (by decide +kernel)
set_option maxRecDepth 20000 in
theorem gX3_leadAnswer_X0_up : GoodIn wsX3_leadAnswer (wsV RX3 139 RX0 yX0_up wsX0_up) := goodIn_app (goodIn_of _ (by decide +kernel)) ggX3_leadAnswer_X0_up
theorem dX3_leadAnswer_0 : decode cX3_leadAnswer 0 = .ok (.aload_n 0, 1) := by decide +kernel
theorem dX3_leadAnswer_1 : decode cX3_leadAnswer 1 = .ok (.getfield 16, 3) := by decide +kernel
theorem dX3_leadAnswer_4 : decode cX3_leadAnswer 4 = .ok (.aload_n 0, 1) := by decide +kernel
theorem dX3_leadAnswer_5 : decode cX3_leadAnswer 5 = .ok (.getfield 10, 3) := by decide +kernel
theorem dX3_leadAnswer_8 : decode cX3_leadAnswer 8 = .ok (.invokevirtual 130, 3) := by decide +kernel
theorem dX3_leadAnswer_11 : decode cX3_leadAnswer 11 = .ok (.aload_n 0, 1) := by decide +kernel
theorem dX3_leadAnswer_12 : decode cX3_leadAnswer 12 = .ok (.getfield 16, 3) := by decide +kernel
theorem dX3_leadAnswer_15 : decode cX3_leadAnswer 15 = .ok (.iload_n 1, 1) := by decide +kernel
theorem dX3_leadAnswer_16 : decode cX3_leadAnswer 16 = .ok (.putfield 110, 3) := by decide +kernel
theorem dX3_leadAnswer_19 : decode cX3_leadAnswer 19 = .ok (.aload_n 0, 1) := by decide +kernel
theorem dX3_leadAnswer_20 : decode cX3_leadAnswer 20 = .ok (.getfield 16, 3) := by decide +kernel
theorem dX3_leadAnswer_23 : decode cX3_leadAnswer 23 = .ok (.invokevirtual 134, 3) := by decide +kernel
theorem dX3_leadAnswer_26 : decode cX3_leadAnswer 26 = .ok (.istore_n 3, 1) := by decide +kernel
theorem dX3_leadAnswer_27 : decode cX3_leadAnswer 27 = .ok (.iload_n 3, 1) := by decide +kernel
theorem dX3_leadAnswer_28 : decode cX3_leadAnswer 28 = .ok (.iconst (-1), 1) := by decide +kernel
theorem dX3_leadAnswer_29 : decode cX3_leadAnswer 29 = .ok (.if_icmp .ne 5, 3) := by decide +kernel
theorem dX3_leadAnswer_32 : decode cX3_leadAnswer 32 = .ok (.iconst (-1), 1) := by decide +kernel
theorem dX3_leadAnswer_33 : decode cX3_leadAnswer 33 = .ok (.ireturn, 1) := by decide +kernel
theorem dX3_leadAnswer_34 : decode cX3_leadAnswer 34 = .ok (.iload_n 2, 1) := by decide +kernel
theorem dX3_leadAnswer_35 : decode cX3_leadAnswer 35 = .ok (.ifCond .ne 13, 3) := by decide +kernel
theorem dX3_leadAnswer_38 : decode cX3_leadAnswer 38 = .ok (.aload_n 0, 1) := by decide +kernel
theorem dX3_leadAnswer_39 : decode cX3_leadAnswer 39 = .ok (.getfield 16, 3) := by decide +kernel
theorem dX3_leadAnswer_42 : decode cX3_leadAnswer 42 = .ok (.invokevirtual 139, 3) := by decide +kernel
theorem dX3_leadAnswer_45 : decode cX3_leadAnswer 45 = .ok (.goto 4, 3) := by decide +kernel
theorem dX3_leadAnswer_48 : decode cX3_leadAnswer 48 = .ok (.iload_n 3, 1) := by decide +kernel
theorem dX3_leadAnswer_49 : decode cX3_leadAnswer 49 = .ok (.ireturn, 1) := by decide +kernel
set_option maxRecDepth 20000 in
theorem ggX3_findRace_X2_lookFrom : GoodIn wsX3_findRace wsX2_lookFrom := goodIn_r _ [12, 13, 14, 15, 16, 17, 18, 19, 20, 21, 22, 23, 24, 25, 26, 11, 27, 28, 29, 30, 31, 32, 33, 34, 35, 36, 37, 38, 39, 40, 41, 42, 43, 44, 45, 46, 47, 48, 49, 50, 51, 52, 53, 54, 55, 56, 57, 58, 59, 60, 61, 62, 63, 64, 65, 66, 67, 68, 69, 70, 71, 72, 73, 74, 75, 76, 77, 78, 79, 80, 81, 82, 83, 84, 85, 86, 87, 88, 89, 90, 91, 92, 93, 94, 95, 96, 97, 98, 99, 100, 101, 102, 103, 104, 105, 106, 107, 108, 109, 110, 143, 144, 145, 146, 147, 148, 149, 150, 151, 152, 153, 154, 155, 156, 157, 158, 159, 160, 161, 162, 163, 164] (by decide +kernel) (by decide +kernel)
set_option maxRecDepth 20000 in
theorem gX3_findRace_X2_lookFrom : GoodIn wsX3_findRace (wsV RX3 310 RX2 yX2_lookFrom wsX2_lookFrom) := goodIn_app (goodIn_of _ (by decide +kernel)) ggX3_findRace_X2_lookFrom
set_option maxRecDepth 20000 in
theorem ggX3_findRace_J7_fill_53178 : GoodIn wsX3_findRace wsJ7_fill_53178 := goodIn_r _ [23] (by decide +kernel) (by decide +kernel)
set_option maxRecDepth 20000 in
theorem gX3_findRace_J7_fill_53178 : GoodIn wsX3_findRace (va_wsS RX3 313 yJ7_fill_53178 wsJ7_fill_53178) := goodIn_app (goodIn_of _ (by decide +kernel)) ggX3_findRace_J7_fill_53178
set_option maxRecDepth 20000 in
theorem ggX3_findRace_X2_unlikeRests : GoodIn wsX3_findRace wsX2_unlikeRests := goodIn_r _ [115, 15, 116, 117, 118, 119, 120, 121, 122, 143, 144, 145, 146, 147, 148, 149, 150, 151, 152, 153] (by decide +kernel) (by decide +kernel)
set_option maxRecDepth 20000 in
theorem gX3_findRace_X2_unlikeRests : GoodIn wsX3_findRace (wsV RX3 322 RX2 yX2_unlikeRests wsX2_unlikeRests) := goodIn_app (goodIn_of _ (by decide +kernel)) ggX3_findRace_X2_unlikeRests
set_option maxRecDepth 20000 in
theorem ggX3_findRace_X2_leastRest : GoodIn wsX3_findRace wsX2_leastRest := goodIn_r _ [126, 15, 143, 144, 145, 146, 147, 148, 149, 150, 151, 152, 153] (by decide +kernel) (by decide +kernel)
set_option maxRecDepth 20000 in
theorem gX3_findRace_X2_leastRest : GoodIn wsX3_findRace (wsV RX3 325 RX2 yX2_leastRest wsX2_leastRest) := goodIn_app (goodIn_of _ (by decide +kernel)) ggX3_findRace_X2_leastRest
set_option maxRecDepth 20000 in
theorem ggX3_findRace_X2_greatestRest : GoodIn wsX3_findRace wsX2_greatestRest := goodIn_r _ [130, 15, 143, 144, 145, 146, 147, 148, 149, 150, 151, 152, 153] (by decide +kernel) (by decide +kernel)
set_option maxRecDepth 20000 in
theorem gX3_findRace_X2_greatestRest : GoodIn wsX3_findRace (wsV RX3 328 RX2 yX2_greatestRest wsX2_greatestRest) := goodIn_app (goodIn_of _ (by decide +kernel)) ggX3_findRace_X2_greatestRest
theorem dX3_findRace_0 : decode cX3_findRace 0 = .ok (.aload_n 0, 1) := by decide +kernel
theorem dX3_findRace_1 : decode cX3_findRace 1 = .ok (.getfield 239, 3) := by decide +kernel
theorem dX3_findRace_4 : decode cX3_findRace 4 = .ok (.ifCond .eq 4, 3) := by decide +kernel
theorem dX3_findRace_7 : decode cX3_findRace 7 = .ok (.return_, 1) := by decide +kernel
theorem dX3_findRace_8 : decode cX3_findRace 8 = .ok (.aload_n 0, 1) := by decide +kernel
theorem dX3_findRace_9 : decode cX3_findRace 9 = .ok (.getfield 37, 3) := by decide +kernel
theorem dX3_findRace_12 : decode cX3_findRace 12 = .ok (.aload_n 0, 1) := by decide +kernel
theorem dX3_findRace_13 : decode cX3_findRace 13 = .ok (.getfield 10, 3) := by decide +kernel
theorem dX3_findRace_16 : decode cX3_findRace 16 = .ok (.invokevirtual 310, 3) := by decide +kernel
theorem dX3_findRace_19 : decode cX3_findRace 19 = .ok (.aload_n 0, 1) := by decide +kernel
theorem dX3_findRace_20 : decode cX3_findRace 20 = .ok (.getfield 41, 3) := by decide +kernel
theorem dX3_findRace_23 : decode cX3_findRace 23 = .ok (.iconst (-1), 1) := by decide +kernel
theorem dX3_findRace_24 : decode cX3_findRace 24 = .ok (.invokestatic 313, 3) := by decide +kernel
theorem dX3_findRace_27 : decode cX3_findRace 27 = .ok (.aload_n 0, 1) := by decide +kernel
theorem dX3_findRace_28 : decode cX3_findRace 28 = .ok (.getfield 37, 3) := by decide +kernel
theorem dX3_findRace_31 : decode cX3_findRace 31 = .ok (.getfield 319, 3) := by decide +kernel
theorem dX3_findRace_34 : decode cX3_findRace 34 = .ok (.ifCond .eq 76, 3) := by decide +kernel
theorem dX3_findRace_37 : decode cX3_findRace 37 = .ok (.aload_n 0, 1) := by decide +kernel
theorem dX3_findRace_38 : decode cX3_findRace 38 = .ok (.getfield 41, 3) := by decide +kernel
theorem dX3_findRace_41 : decode cX3_findRace 41 = .ok (.iconst 0, 1) := by decide +kernel
theorem dX3_findRace_42 : decode cX3_findRace 42 = .ok (.aload_n 0, 1) := by decide +kernel
theorem dX3_findRace_43 : decode cX3_findRace 43 = .ok (.getfield 37, 3) := by decide +kernel
theorem dX3_findRace_46 : decode cX3_findRace 46 = .ok (.invokevirtual 322, 3) := by decide +kernel
theorem dX3_findRace_49 : decode cX3_findRace 49 = .ok (.iastore, 1) := by decide +kernel
theorem dX3_findRace_50 : decode cX3_findRace 50 = .ok (.aload_n 0, 1) := by decide +kernel
theorem dX3_findRace_51 : decode cX3_findRace 51 = .ok (.getfield 41, 3) := by decide +kernel
theorem dX3_findRace_54 : decode cX3_findRace 54 = .ok (.iconst 1, 1) := by decide +kernel
theorem dX3_findRace_55 : decode cX3_findRace 55 = .ok (.aload_n 0, 1) := by decide +kernel
theorem dX3_findRace_56 : decode cX3_findRace 56 = .ok (.getfield 37, 3) := by decide +kernel
theorem dX3_findRace_59 : decode cX3_findRace 59 = .ok (.invokevirtual 325, 3) := by decide +kernel
theorem dX3_findRace_62 : decode cX3_findRace 62 = .ok (.iastore, 1) := by decide +kernel
theorem dX3_findRace_63 : decode cX3_findRace 63 = .ok (.aload_n 0, 1) := by decide +kernel
theorem dX3_findRace_64 : decode cX3_findRace 64 = .ok (.getfield 41, 3) := by decide +kernel
theorem dX3_findRace_67 : decode cX3_findRace 67 = .ok (.iconst 2, 1) := by decide +kernel
theorem dX3_findRace_68 : decode cX3_findRace 68 = .ok (.aload_n 0, 1) := by decide +kernel
theorem dX3_findRace_69 : decode cX3_findRace 69 = .ok (.getfield 37, 3) := by decide +kernel
theorem dX3_findRace_72 : decode cX3_findRace 72 = .ok (.invokevirtual 328, 3) := by decide +kernel
theorem dX3_findRace_75 : decode cX3_findRace 75 = .ok (.iastore, 1) := by decide +kernel
theorem dX3_findRace_76 : decode cX3_findRace 76 = .ok (.aload_n 0, 1) := by decide +kernel
theorem dX3_findRace_77 : decode cX3_findRace 77 = .ok (.getfield 41, 3) := by decide +kernel
theorem dX3_findRace_80 : decode cX3_findRace 80 = .ok (.iconst 3, 1) := by decide +kernel
theorem dX3_findRace_81 : decode cX3_findRace 81 = .ok (.aload_n 0, 1) := by decide +kernel
theorem dX3_findRace_82 : decode cX3_findRace 82 = .ok (.getfield 37, 3) := by decide +kernel
theorem dX3_findRace_85 : decode cX3_findRace 85 = .ok (.getfield 331, 3) := by decide +kernel
theorem dX3_findRace_88 : decode cX3_findRace 88 = .ok (.ifCond .eq 7, 3) := by decide +kernel
theorem dX3_findRace_91 : decode cX3_findRace 91 = .ok (.iconst 1, 1) := by decide +kernel
theorem dX3_findRace_92 : decode cX3_findRace 92 = .ok (.goto 4, 3) := by decide +kernel
theorem dX3_findRace_95 : decode cX3_findRace 95 = .ok (.iconst 0, 1) := by decide +kernel
theorem dX3_findRace_96 : decode cX3_findRace 96 = .ok (.iastore, 1) := by decide +kernel
theorem dX3_findRace_97 : decode cX3_findRace 97 = .ok (.aload_n 0, 1) := by decide +kernel
theorem dX3_findRace_98 : decode cX3_findRace 98 = .ok (.getfield 41, 3) := by decide +kernel
theorem dX3_findRace_101 : decode cX3_findRace 101 = .ok (.iconst 4, 1) := by decide +kernel
theorem dX3_findRace_102 : decode cX3_findRace 102 = .ok (.aload_n 0, 1) := by decide +kernel
theorem dX3_findRace_103 : decode cX3_findRace 103 = .ok (.getfield 37, 3) := by decide +kernel
theorem dX3_findRace_106 : decode cX3_findRace 106 = .ok (.getfield 334, 3) := by decide +kernel
theorem dX3_findRace_109 : decode cX3_findRace 109 = .ok (.iastore, 1) := by decide +kernel
theorem dX3_findRace_110 : decode cX3_findRace 110 = .ok (.aload_n 0, 1) := by decide +kernel
theorem dX3_findRace_111 : decode cX3_findRace 111 = .ok (.iconst 1, 1) := by decide +kernel
theorem dX3_findRace_112 : decode cX3_findRace 112 = .ok (.putfield 239, 3) := by decide +kernel
theorem dX3_findRace_115 : decode cX3_findRace 115 = .ok (.return_, 1) := by decide +kernel
set_option maxRecDepth 20000 in
theorem ggX3_findCure_X3_findRace : GoodIn wsX3_findCure wsX3_findRace := goodIn_r _ [13, 14, 15, 5, 3, 16, 17, 18, 19, 20, 21, 22, 23, 24, 25, 26, 27, 28, 29, 30, 31, 32, 33, 34, 35, 36, 37, 38, 39, 40, 41, 42, 43, 44, 45, 46, 47, 48, 49, 50, 51, 52, 53, 54, 55, 56, 57, 58, 59, 60, 61, 62, 63, 64, 65, 66, 67, 68, 69, 70, 71, 72, 73, 74, 75, 76, 77, 78, 79, 80, 81, 82, 83, 84, 85, 86, 87, 88, 89, 90, 91, 92, 93, 94, 95, 96, 97, 98, 99, 100, 101, 102, 103, 104, 105, 106, 107, 108, 109, 110, 111, 112, 113, 114, 115, 116, 117, 118, 119, 120, 121, 122, 123, 124, 125, 126, 127, 128, 129, 130, 131, 132, 133, 134, 135, 136, 137, 138, 139, 140, 141, 159, 160, 161, 162, 163, 164, 165, 166, 167, 168, 169, 170, 182, 183, 184, 185, 186, 187, 188, 189, 190, 191, 192, 171, 172, 173, 174, 175, 176, 177, 178, 179, 180, 181] (by decide +kernel) (by decide +kernel)
set_option maxRecDepth 20000 in
theorem gX3_findCure_X3_findRace : GoodIn wsX3_findCure (wsV RX3 199 RX3 yX3_findRace wsX3_findRace) := goodIn_app (goodIn_of _ (by decide +kernel)) ggX3_findCure_X3_findRace
set_option maxRecDepth 20000 in
theorem ggX3_findCure_J7_fill_53178 : GoodIn wsX3_findCure wsJ7_fill_53178 := goodIn_r _ [34] (by decide +kernel) (by decide +kernel)
set_option maxRecDepth 20000 in
theorem gX3_findCure_J7_fill_53178 : GoodIn wsX3_findCure (va_wsS RX3 313 yJ7_fill_53178 wsJ7_fill_53178) := goodIn_app (goodIn_of _ (by decide +kernel)) ggX3_findCure_J7_fill_53178
set_option maxRecDepth 20000 in
theorem ggX3_findCure_X0_copyFrom : GoodIn wsX3_findCure wsX0_copyFrom := goodIn_r _ [145, 64, 65, 146, 147, 148, 149, 66, 67, 94, 93, 150, 151, 152, 153, 154, 171, 172, 173, 174, 175, 176, 177, 178, 179, 180, 181] (by decide +kernel) (by decide +kernel)
set_option maxRecDepth 20000 in
theorem gX3_findCure_X0_copyFrom : GoodIn wsX3_findCure (wsV RX3 130 RX0 yX0_copyFrom wsX0_copyFrom) := goodIn_app (goodIn_of _ (by decide +kernel)) ggX3_findCure_X0_copyFrom
set_option maxRecDepth 20000 in
theorem ggX3_findCure_X3_cures : GoodIn wsX3_findCure wsX3_cures := goodIn_r _ [158, 15, 4, 16, 17, 19, 20, 21, 22, 23, 24, 25, 26, 27, 28, 29, 30, 31, 32, 33, 34, 35, 36, 37, 38, 39, 40, 41, 42, 43, 44, 45, 46, 47, 48, 49, 50, 51, 52, 53, 54, 55, 56, 57, 58, 59, 60, 61, 62, 63, 64, 65, 66, 67, 68, 69, 70, 71, 72, 73, 74, 75, 76, 77, 78, 79, 80, 81, 82, 83, 84, 85, 86, 87, 88, 89, 90, 91, 92, 93, 94, 95, 96, 97, 98, 99, 100, 101, 102, 103, 104, 105, 106, 107, 108, 109, 110, 111, 112, 113, 114, 115, 116, 117, 118, 119, 120, 121, 123, 124, 125, 126, 127, 128, 129, 130, 131, 132, 133, 159, 160, 161, 162, 163, 164, 165, 166, 167, 168, 169, 170, 182, 183, 184, 185, 186, 187, 188, 189, 190, 191, 192, 171, 172, 173, 174, 175, 176, 177, 178, 179, 180, 181] (by decide +kernel) (by decide +kernel)
set_option maxRecDepth 20000 in
theorem gX3_findCure_X3_cures : GoodIn wsX3_findCure (wsV RX3 337 RX3 yX3_cures wsX3_cures) := goodIn_app (goodIn_of _ (by decide +kernel)) ggX3_findCure_X3_cures
theorem dX3_findCure_0 : decode cX3_findCure 0 = .ok (.aload_n 0, 1) := by decide +kernel
theorem dX3_findCure_1 : decode cX3_findCure 1 = .ok (.getfield 243, 3) := by decide +kernel
theorem dX3_findCure_4 : decode cX3_findCure 4 = .ok (.ifCond .eq 4, 3) := by decide +kernel
theorem dX3_findCure_7 : decode cX3_findCure 7 = .ok (.return_, 1) := by decide +kernel
theorem dX3_findCure_8 : decode cX3_findCure 8 = .ok (.aload_n 0, 1) := by decide +kernel
theorem dX3_findCure_9 : decode cX3_findCure 9 = .ok (.invokevirtual 199, 3) := by decide +kernel
theorem dX3_findCure_12 : decode cX3_findCure 12 = .ok (.aload_n 0, 1) := by decide +kernel
theorem dX3_findCure_13 : decode cX3_findCure 13 = .ok (.getfield 44, 3) := by decide +kernel
theorem dX3_findCure_16 : decode cX3_findCure 16 = .ok (.iconst (-1), 1) := by decide +kernel
theorem dX3_findCure_17 : decode cX3_findCure 17 = .ok (.invokestatic 313, 3) := by decide +kernel
theorem dX3_findCure_20 : decode cX3_findCure 20 = .ok (.aload_n 0, 1) := by decide +kernel
theorem dX3_findCure_21 : decode cX3_findCure 21 = .ok (.iconst 1, 1) := by decide +kernel
theorem dX3_findCure_22 : decode cX3_findCure 22 = .ok (.putfield 243, 3) := by decide +kernel
theorem dX3_findCure_25 : decode cX3_findCure 25 = .ok (.aload_n 0, 1) := by decide +kernel
theorem dX3_findCure_26 : decode cX3_findCure 26 = .ok (.getfield 41, 3) := by decide +kernel
theorem dX3_findCure_29 : decode cX3_findCure 29 = .ok (.iconst 0, 1) := by decide +kernel
theorem dX3_findCure_30 : decode cX3_findCure 30 = .ok (.iaload, 1) := by decide +kernel
theorem dX3_findCure_31 : decode cX3_findCure 31 = .ok (.iconst 1, 1) := by decide +kernel
theorem dX3_findCure_32 : decode cX3_findCure 32 = .ok (.if_icmp .ne 16, 3) := by decide +kernel
theorem dX3_findCure_35 : decode cX3_findCure 35 = .ok (.aload_n 0, 1) := by decide +kernel
theorem dX3_findCure_36 : decode cX3_findCure 36 = .ok (.getfield 41, 3) := by decide +kernel
theorem dX3_findCure_39 : decode cX3_findCure 39 = .ok (.iconst 3, 1) := by decide +kernel
theorem dX3_findCure_40 : decode cX3_findCure 40 = .ok (.iaload, 1) := by decide +kernel
theorem dX3_findCure_41 : decode cX3_findCure 41 = .ok (.ifCond .ne 7, 3) := by decide +kernel
theorem dX3_findCure_44 : decode cX3_findCure 44 = .ok (.iconst 1, 1) := by decide +kernel
theorem dX3_findCure_45 : decode cX3_findCure 45 = .ok (.goto 4, 3) := by decide +kernel
theorem dX3_findCure_48 : decode cX3_findCure 48 = .ok (.iconst 0, 1) := by decide +kernel
theorem dX3_findCure_49 : decode cX3_findCure 49 = .ok (.istore_n 1, 1) := by decide +kernel
theorem dX3_findCure_50 : decode cX3_findCure 50 = .ok (.aload_n 0, 1) := by decide +kernel
theorem dX3_findCure_51 : decode cX3_findCure 51 = .ok (.getfield 41, 3) := by decide +kernel
theorem dX3_findCure_54 : decode cX3_findCure 54 = .ok (.iconst 0, 1) := by decide +kernel
theorem dX3_findCure_55 : decode cX3_findCure 55 = .ok (.iaload, 1) := by decide +kernel
theorem dX3_findCure_56 : decode cX3_findCure 56 = .ok (.iconst (-1), 1) := by decide +kernel
theorem dX3_findCure_57 : decode cX3_findCure 57 = .ok (.if_icmp .eq 7, 3) := by decide +kernel
theorem dX3_findCure_60 : decode cX3_findCure 60 = .ok (.iload_n 1, 1) := by decide +kernel
theorem dX3_findCure_61 : decode cX3_findCure 61 = .ok (.ifCond .eq 4, 3) := by decide +kernel
theorem dX3_findCure_64 : decode cX3_findCure 64 = .ok (.return_, 1) := by decide +kernel
theorem dX3_findCure_65 : decode cX3_findCure 65 = .ok (.aload_n 0, 1) := by decide +kernel
theorem dX3_findCure_66 : decode cX3_findCure 66 = .ok (.getfield 16, 3) := by decide +kernel
theorem dX3_findCure_69 : decode cX3_findCure 69 = .ok (.aload_n 0, 1) := by decide +kernel
theorem dX3_findCure_70 : decode cX3_findCure 70 = .ok (.getfield 10, 3) := by decide +kernel
theorem dX3_findCure_73 : decode cX3_findCure 73 = .ok (.invokevirtual 130, 3) := by decide +kernel
theorem dX3_findCure_76 : decode cX3_findCure 76 = .ok (.iconst 1, 1) := by decide +kernel
theorem dX3_findCure_77 : decode cX3_findCure 77 = .ok (.istore_n 2, 1) := by decide +kernel
theorem dX3_findCure_78 : decode cX3_findCure 78 = .ok (.iload_n 2, 1) := by decide +kernel
theorem dX3_findCure_79 : decode cX3_findCure 79 = .ok (.bipush 9, 2) := by decide +kernel
theorem dX3_findCure_81 : decode cX3_findCure 81 = .ok (.if_icmp .gt 95, 3) := by decide +kernel
theorem dX3_findCure_84 : decode cX3_findCure 84 = .ok (.iconst 0, 1) := by decide +kernel
theorem dX3_findCure_85 : decode cX3_findCure 85 = .ok (.istore_n 3, 1) := by decide +kernel
theorem dX3_findCure_86 : decode cX3_findCure 86 = .ok (.iload_n 3, 1) := by decide +kernel
theorem dX3_findCure_87 : decode cX3_findCure 87 = .ok (.aload_n 0, 1) := by decide +kernel
theorem dX3_findCure_88 : decode cX3_findCure 88 = .ok (.getfield 16, 3) := by decide +kernel
theorem dX3_findCure_91 : decode cX3_findCure 91 = .ok (.getfield 58, 3) := by decide +kernel
theorem dX3_findCure_94 : decode cX3_findCure 94 = .ok (.if_icmp .ge 76, 3) := by decide +kernel
theorem dX3_findCure_97 : decode cX3_findCure 97 = .ok (.aload_n 0, 1) := by decide +kernel
theorem dX3_findCure_98 : decode cX3_findCure 98 = .ok (.aload_n 0, 1) := by decide +kernel
theorem dX3_findCure_99 : decode cX3_findCure 99 = .ok (.getfield 16, 3) := by decide +kernel
theorem dX3_findCure_102 : decode cX3_findCure 102 = .ok (.getfield 102, 3) := by decide +kernel
theorem dX3_findCure_105 : decode cX3_findCure 105 = .ok (.iload_n 3, 1) := by decide +kernel
theorem dX3_findCure_106 : decode cX3_findCure 106 = .ok (.iload_n 2, 1) := by decide +kernel
theorem dX3_findCure_107 : decode cX3_findCure 107 = .ok (.invokevirtual 337, 3) := by decide +kernel
theorem dX3_findCure_110 : decode cX3_findCure 110 = .ok (.istore 4, 2) := by decide +kernel
theorem dX3_findCure_112 : decode cX3_findCure 112 = .ok (.iload 4, 2) := by decide +kernel
theorem dX3_findCure_114 : decode cX3_findCure 114 = .ok (.ifCond .ne 19, 3) := by decide +kernel
theorem dX3_findCure_117 : decode cX3_findCure 117 = .ok (.aload_n 0, 1) := by decide +kernel
theorem dX3_findCure_118 : decode cX3_findCure 118 = .ok (.aload_n 0, 1) := by decide +kernel
theorem dX3_findCure_119 : decode cX3_findCure 119 = .ok (.getfield 16, 3) := by decide +kernel
theorem dX3_findCure_122 : decode cX3_findCure 122 = .ok (.getfield 105, 3) := by decide +kernel
theorem dX3_findCure_125 : decode cX3_findCure 125 = .ok (.iload_n 3, 1) := by decide +kernel
theorem dX3_findCure_126 : decode cX3_findCure 126 = .ok (.iload_n 2, 1) := by decide +kernel
theorem dX3_findCure_127 : decode cX3_findCure 127 = .ok (.invokevirtual 337, 3) := by decide +kernel
theorem dX3_findCure_130 : decode cX3_findCure 130 = .ok (.ifCond .eq 34, 3) := by decide +kernel
theorem dX3_findCure_133 : decode cX3_findCure 133 = .ok (.aload_n 0, 1) := by decide +kernel
theorem dX3_findCure_134 : decode cX3_findCure 134 = .ok (.getfield 44, 3) := by decide +kernel
theorem dX3_findCure_137 : decode cX3_findCure 137 = .ok (.iconst 0, 1) := by decide +kernel
theorem dX3_findCure_138 : decode cX3_findCure 138 = .ok (.iload_n 2, 1) := by decide +kernel
theorem dX3_findCure_139 : decode cX3_findCure 139 = .ok (.iastore, 1) := by decide +kernel
theorem dX3_findCure_140 : decode cX3_findCure 140 = .ok (.aload_n 0, 1) := by decide +kernel
theorem dX3_findCure_141 : decode cX3_findCure 141 = .ok (.getfield 44, 3) := by decide +kernel
theorem dX3_findCure_144 : decode cX3_findCure 144 = .ok (.iconst 1, 1) := by decide +kernel
theorem dX3_findCure_145 : decode cX3_findCure 145 = .ok (.iload_n 3, 1) := by decide +kernel
theorem dX3_findCure_146 : decode cX3_findCure 146 = .ok (.iastore, 1) := by decide +kernel
theorem dX3_findCure_147 : decode cX3_findCure 147 = .ok (.aload_n 0, 1) := by decide +kernel
theorem dX3_findCure_148 : decode cX3_findCure 148 = .ok (.getfield 44, 3) := by decide +kernel
theorem dX3_findCure_151 : decode cX3_findCure 151 = .ok (.iconst 2, 1) := by decide +kernel
theorem dX3_findCure_152 : decode cX3_findCure 152 = .ok (.iload 4, 2) := by decide +kernel
theorem dX3_findCure_154 : decode cX3_findCure 154 = .ok (.ifCond .eq 7, 3) := by decide +kernel
theorem dX3_findCure_157 : decode cX3_findCure 157 = .ok (.iconst 0, 1) := by decide +kernel
theorem dX3_findCure_158 : decode cX3_findCure 158 = .ok (.goto 4, 3) := by decide +kernel
theorem dX3_findCure_161 : decode cX3_findCure 161 = .ok (.iconst 1, 1) := by decide +kernel
theorem dX3_findCure_162 : decode cX3_findCure 162 = .ok (.iastore, 1) := by decide +kernel
theorem dX3_findCure_163 : decode cX3_findCure 163 = .ok (.return_, 1) := by decide +kernel
theorem dX3_findCure_164 : decode cX3_findCure 164 = .ok (.iinc 3 1, 3) := by decide +kernel
theorem dX3_findCure_167 : decode cX3_findCure 167 = .ok (.goto (-81), 3) := by decide +kernel
theorem dX3_findCure_170 : decode cX3_findCure 170 = .ok (.iinc 2 1, 3) := by decide +kernel
theorem dX3_findCure_173 : decode cX3_findCure 173 = .ok (.goto (-95), 3) := by decide +kernel
theorem dX3_findCure_176 : decode cX3_findCure 176 = .ok (.return_, 1) := by decide +kernel
set_option maxRecDepth 20000 in
theorem ggX3_cures_X2_lookFrom : GoodIn wsX3_cures wsX2_lookFrom := goodIn_r _ [9, 10, 11, 12, 13, 14, 15, 16, 17, 18, 19, 20, 21, 22, 23, 8, 24, 25, 26, 27, 28, 29, 30, 31, 32, 33, 34, 35, 36, 37, 38, 39, 40, 41, 42, 43, 44, 45, 46, 47, 48, 49, 50, 51, 52, 53, 54, 55, 56, 57, 58, 59, 60, 61, 62, 63, 64, 65, 66, 67, 68, 69, 70, 71, 72, 73, 74, 75, 76, 77, 78, 79, 80, 81, 82, 83, 84, 85, 86, 87, 88, 89, 90, 91, 92, 93, 94, 95, 96, 97, 98, 99, 100, 101, 102, 103, 104, 105, 106, 107, 131, 132, 133, 134, 135, 136, 137, 138, 139, 140, 141, 142, 143, 144, 145, 146, 147, 148, 149, 150, 151, 152] (by decide +kernel) (by decide +kernel)
set_option maxRecDepth 20000 in
theorem gX3_cures_X2_lookFrom : GoodIn wsX3_cures (wsV RX3 310 RX2 yX2_lookFrom wsX2_lookFrom) := goodIn_app (goodIn_of _ (by decide +kernel)) ggX3_cures_X2_lookFrom
set_option maxRecDepth 20000 in
theorem ggX3_cures_X2_unlikeRests : GoodIn wsX3_cures wsX2_unlikeRests := goodIn_r _ [111, 12, 112, 113, 114, 115, 116, 117, 118, 131, 132, 133, 134, 135, 136, 137, 138, 139, 140, 141] (by decide +kernel) (by decide +kernel)
set_option maxRecDepth 20000 in
theorem gX3_cures_X2_unlikeRests : GoodIn wsX3_cures (wsV RX3 322 RX2 yX2_unlikeRests wsX2_unlikeRests) := goodIn_app (goodIn_of _ (by decide +kernel)) ggX3_cures_X2_unlikeRests
theorem dX3_cures_0 : decode cX3_cures 0 = .ok (.aload_n 1, 1) := by decide +kernel
theorem dX3_cures_1 : decode cX3_cures 1 = .ok (.iload_n 2, 1) := by decide +kernel
theorem dX3_cures_2 : decode cX3_cures 2 = .ok (.iaload, 1) := by decide +kernel
theorem dX3_cures_3 : decode cX3_cures 3 = .ok (.istore 4, 2) := by decide +kernel
theorem dX3_cures_5 : decode cX3_cures 5 = .ok (.iload 4, 2) := by decide +kernel
theorem dX3_cures_7 : decode cX3_cures 7 = .ok (.iload_n 3, 1) := by decide +kernel
theorem dX3_cures_8 : decode cX3_cures 8 = .ok (.iadd, 1) := by decide +kernel
theorem dX3_cures_9 : decode cX3_cures 9 = .ok (.bipush 9, 2) := by decide +kernel
theorem dX3_cures_11 : decode cX3_cures 11 = .ok (.if_icmp .le 5, 3) := by decide +kernel
theorem dX3_cures_14 : decode cX3_cures 14 = .ok (.iconst 0, 1) := by decide +kernel
theorem dX3_cures_15 : decode cX3_cures 15 = .ok (.ireturn, 1) := by decide +kernel
theorem dX3_cures_16 : decode cX3_cures 16 = .ok (.aload_n 1, 1) := by decide +kernel
theorem dX3_cures_17 : decode cX3_cures 17 = .ok (.iload_n 2, 1) := by decide +kernel
theorem dX3_cures_18 : decode cX3_cures 18 = .ok (.iload 4, 2) := by decide +kernel
theorem dX3_cures_20 : decode cX3_cures 20 = .ok (.iload_n 3, 1) := by decide +kernel
theorem dX3_cures_21 : decode cX3_cures 21 = .ok (.iadd, 1) := by decide +kernel
theorem dX3_cures_22 : decode cX3_cures 22 = .ok (.iastore, 1) := by decide +kernel
theorem dX3_cures_23 : decode cX3_cures 23 = .ok (.aload_n 0, 1) := by decide +kernel
theorem dX3_cures_24 : decode cX3_cures 24 = .ok (.getfield 37, 3) := by decide +kernel
theorem dX3_cures_27 : decode cX3_cures 27 = .ok (.aload_n 0, 1) := by decide +kernel
theorem dX3_cures_28 : decode cX3_cures 28 = .ok (.getfield 16, 3) := by decide +kernel
theorem dX3_cures_31 : decode cX3_cures 31 = .ok (.invokevirtual 310, 3) := by decide +kernel
theorem dX3_cures_34 : decode cX3_cures 34 = .ok (.aload_n 1, 1) := by decide +kernel
theorem dX3_cures_35 : decode cX3_cures 35 = .ok (.iload_n 2, 1) := by decide +kernel
theorem dX3_cures_36 : decode cX3_cures 36 = .ok (.iload 4, 2) := by decide +kernel
theorem dX3_cures_38 : decode cX3_cures 38 = .ok (.iastore, 1) := by decide +kernel
theorem dX3_cures_39 : decode cX3_cures 39 = .ok (.aload_n 0, 1) := by decide +kernel
theorem dX3_cures_40 : decode cX3_cures 40 = .ok (.getfield 37, 3) := by decide +kernel
theorem dX3_cures_43 : decode cX3_cures 43 = .ok (.getfield 319, 3) := by decide +kernel
theorem dX3_cures_46 : decode cX3_cures 46 = .ok (.ifCond .eq 28, 3) := by decide +kernel
theorem dX3_cures_49 : decode cX3_cures 49 = .ok (.aload_n 0, 1) := by decide +kernel
theorem dX3_cures_50 : decode cX3_cures 50 = .ok (.getfield 37, 3) := by decide +kernel
theorem dX3_cures_53 : decode cX3_cures 53 = .ok (.invokevirtual 322, 3) := by decide +kernel
theorem dX3_cures_56 : decode cX3_cures 56 = .ok (.iconst 1, 1) := by decide +kernel
theorem dX3_cures_57 : decode cX3_cures 57 = .ok (.if_icmp .ne 17, 3) := by decide +kernel
theorem dX3_cures_60 : decode cX3_cures 60 = .ok (.aload_n 0, 1) := by decide +kernel
theorem dX3_cures_61 : decode cX3_cures 61 = .ok (.getfield 37, 3) := by decide +kernel
theorem dX3_cures_64 : decode cX3_cures 64 = .ok (.getfield 331, 3) := by decide +kernel
theorem dX3_cures_67 : decode cX3_cures 67 = .ok (.ifCond .ne 7, 3) := by decide +kernel
theorem dX3_cures_70 : decode cX3_cures 70 = .ok (.iconst 1, 1) := by decide +kernel
theorem dX3_cures_71 : decode cX3_cures 71 = .ok (.goto 4, 3) := by decide +kernel
theorem dX3_cures_74 : decode cX3_cures 74 = .ok (.iconst 0, 1) := by decide +kernel
theorem dX3_cures_75 : decode cX3_cures 75 = .ok (.ireturn, 1) := by decide +kernel
set_option maxRecDepth 20000 in
theorem ggX3_hashOfRelay_X3_propertyOf : GoodIn wsX3_hashOfRelay wsX3_propertyOf := goodIn_r _ [8, 2, 9, 10, 11, 3, 12, 13, 14, 15, 16, 17, 18, 19, 20, 21, 22, 23, 24, 25, 26, 27, 28, 29, 30, 31, 32, 33, 34, 35, 36, 37, 38, 39, 40, 41, 42, 43, 44, 45, 46, 47, 48, 49, 50, 51, 52, 53, 54, 55, 56, 57, 58, 59, 60, 61, 62, 63, 64, 65, 66, 67, 68, 69, 70, 71, 109, 110, 111, 112, 113, 114, 115, 116, 117, 118, 119, 120, 121, 122, 123, 124, 125, 126, 127, 128, 129, 130, 131] (by decide +kernel) (by decide +kernel)
set_option maxRecDepth 20000 in
theorem gX3_hashOfRelay_X3_propertyOf : GoodIn wsX3_hashOfRelay (wsV RX3 177 RX3 yX3_propertyOf wsX3_propertyOf) := goodIn_app (goodIn_of _ (by decide +kernel)) ggX3_hashOfRelay_X3_propertyOf
set_option maxRecDepth 20000 in
theorem ggX3_hashOfRelay_X3_contactAnswer : GoodIn wsX3_hashOfRelay wsX3_contactAnswer := goodIn_r _ [75, 2, 76, 77, 78, 47, 16, 48, 79, 27, 28, 29, 30, 18, 19, 20, 21, 80, 81, 82, 83, 37, 38, 84, 85, 86, 87, 88, 89, 90, 109, 110, 111, 112, 113, 114, 115, 116, 117, 118, 119, 120, 121, 122, 123, 124, 125, 126, 127, 128, 129, 130, 131] (by decide +kernel) (by decide +kernel)
set_option maxRecDepth 20000 in
theorem gX3_hashOfRelay_X3_contactAnswer : GoodIn wsX3_hashOfRelay (wsV RX3 184 RX3 yX3_contactAnswer wsX3_contactAnswer) := goodIn_app (goodIn_of _ (by decide +kernel)) ggX3_hashOfRelay_X3_contactAnswer
set_option maxRecDepth 20000 in
theorem ggX3_hashOfRelay_X0_idleBranch : GoodIn wsX3_hashOfRelay wsX0_idleBranch := goodIn_r _ [94, 36, 95, 96, 97, 16, 98, 99, 100, 101, 102, 37, 38, 46, 47, 48, 103, 104, 105, 106, 107, 81, 82, 83, 108, 85, 86, 87, 88, 89, 90, 62, 63, 64, 121, 122, 123, 124, 125, 126, 127, 128, 129, 130, 131] (by decide +kernel) (by decide +kernel)
set_option maxRecDepth 20000 in
theorem gX3_hashOfRelay_X0_idleBranch : GoodIn wsX3_hashOfRelay (wsV RX3 207 RX0 yX0_idleBranch wsX0_idleBranch) := goodIn_app (goodIn_of _ (by decide +kernel)) ggX3_hashOfRelay_X0_idleBranch
theorem dX3_hashOfRelay_0 : decode cX3_hashOfRelay 0 = .ok (.lload_n 1, 1) := by decide +kernel
theorem dX3_hashOfRelay_1 : decode cX3_hashOfRelay 1 = .ok (.lstore 4, 2) := by decide +kernel
theorem dX3_hashOfRelay_3 : decode cX3_hashOfRelay 3 = .ok (.iconst 0, 1) := by decide +kernel
theorem dX3_hashOfRelay_4 : decode cX3_hashOfRelay 4 = .ok (.istore 6, 2) := by decide +kernel
theorem dX3_hashOfRelay_6 : decode cX3_hashOfRelay 6 = .ok (.iload 6, 2) := by decide +kernel
theorem dX3_hashOfRelay_8 : decode cX3_hashOfRelay 8 = .ok (.bipush 9, 2) := by decide +kernel
theorem dX3_hashOfRelay_10 : decode cX3_hashOfRelay 10 = .ok (.if_icmp .ge 26, 3) := by decide +kernel
theorem dX3_hashOfRelay_13 : decode cX3_hashOfRelay 13 = .ok (.ldc2_w 212, 3) := by decide +kernel
theorem dX3_hashOfRelay_16 : decode cX3_hashOfRelay 16 = .ok (.lload 4, 2) := by decide +kernel
theorem dX3_hashOfRelay_18 : decode cX3_hashOfRelay 18 = .ok (.lmul, 1) := by decide +kernel
theorem dX3_hashOfRelay_19 : decode cX3_hashOfRelay 19 = .ok (.aload_n 0, 1) := by decide +kernel
theorem dX3_hashOfRelay_20 : decode cX3_hashOfRelay 20 = .ok (.iload_n 3, 1) := by decide +kernel
theorem dX3_hashOfRelay_21 : decode cX3_hashOfRelay 21 = .ok (.iload 6, 2) := by decide +kernel
theorem dX3_hashOfRelay_23 : decode cX3_hashOfRelay 23 = .ok (.invokevirtual 177, 3) := by decide +kernel
theorem dX3_hashOfRelay_26 : decode cX3_hashOfRelay 26 = .ok (.i2l, 1) := by decide +kernel
theorem dX3_hashOfRelay_27 : decode cX3_hashOfRelay 27 = .ok (.ladd, 1) := by decide +kernel
theorem dX3_hashOfRelay_28 : decode cX3_hashOfRelay 28 = .ok (.lstore 4, 2) := by decide +kernel
theorem dX3_hashOfRelay_30 : decode cX3_hashOfRelay 30 = .ok (.iinc 6 1, 3) := by decide +kernel
theorem dX3_hashOfRelay_33 : decode cX3_hashOfRelay 33 = .ok (.goto (-27), 3) := by decide +kernel
theorem dX3_hashOfRelay_36 : decode cX3_hashOfRelay 36 = .ok (.iconst 0, 1) := by decide +kernel
theorem dX3_hashOfRelay_37 : decode cX3_hashOfRelay 37 = .ok (.istore 6, 2) := by decide +kernel
theorem dX3_hashOfRelay_39 : decode cX3_hashOfRelay 39 = .ok (.iload 6, 2) := by decide +kernel
theorem dX3_hashOfRelay_41 : decode cX3_hashOfRelay 41 = .ok (.aload_n 0, 1) := by decide +kernel
theorem dX3_hashOfRelay_42 : decode cX3_hashOfRelay 42 = .ok (.getfield 10, 3) := by decide +kernel
theorem dX3_hashOfRelay_45 : decode cX3_hashOfRelay 45 = .ok (.getfield 89, 3) := by decide +kernel
theorem dX3_hashOfRelay_48 : decode cX3_hashOfRelay 48 = .ok (.iload_n 3, 1) := by decide +kernel
theorem dX3_hashOfRelay_49 : decode cX3_hashOfRelay 49 = .ok (.iaload, 1) := by decide +kernel
theorem dX3_hashOfRelay_50 : decode cX3_hashOfRelay 50 = .ok (.if_icmp .ge 43, 3) := by decide +kernel
theorem dX3_hashOfRelay_53 : decode cX3_hashOfRelay 53 = .ok (.iconst 0, 1) := by decide +kernel
theorem dX3_hashOfRelay_54 : decode cX3_hashOfRelay 54 = .ok (.istore 7, 2) := by decide +kernel
theorem dX3_hashOfRelay_56 : decode cX3_hashOfRelay 56 = .ok (.iload 7, 2) := by decide +kernel
theorem dX3_hashOfRelay_58 : decode cX3_hashOfRelay 58 = .ok (.iconst 4, 1) := by decide +kernel
theorem dX3_hashOfRelay_59 : decode cX3_hashOfRelay 59 = .ok (.if_icmp .ge 28, 3) := by decide +kernel
theorem dX3_hashOfRelay_62 : decode cX3_hashOfRelay 62 = .ok (.ldc2_w 212, 3) := by decide +kernel
theorem dX3_hashOfRelay_65 : decode cX3_hashOfRelay 65 = .ok (.lload 4, 2) := by decide +kernel
theorem dX3_hashOfRelay_67 : decode cX3_hashOfRelay 67 = .ok (.lmul, 1) := by decide +kernel
theorem dX3_hashOfRelay_68 : decode cX3_hashOfRelay 68 = .ok (.aload_n 0, 1) := by decide +kernel
theorem dX3_hashOfRelay_69 : decode cX3_hashOfRelay 69 = .ok (.iload_n 3, 1) := by decide +kernel
theorem dX3_hashOfRelay_70 : decode cX3_hashOfRelay 70 = .ok (.iload 6, 2) := by decide +kernel
theorem dX3_hashOfRelay_72 : decode cX3_hashOfRelay 72 = .ok (.iload 7, 2) := by decide +kernel
theorem dX3_hashOfRelay_74 : decode cX3_hashOfRelay 74 = .ok (.invokevirtual 184, 3) := by decide +kernel
theorem dX3_hashOfRelay_77 : decode cX3_hashOfRelay 77 = .ok (.i2l, 1) := by decide +kernel
theorem dX3_hashOfRelay_78 : decode cX3_hashOfRelay 78 = .ok (.ladd, 1) := by decide +kernel
theorem dX3_hashOfRelay_79 : decode cX3_hashOfRelay 79 = .ok (.lstore 4, 2) := by decide +kernel
theorem dX3_hashOfRelay_81 : decode cX3_hashOfRelay 81 = .ok (.iinc 7 1, 3) := by decide +kernel
theorem dX3_hashOfRelay_84 : decode cX3_hashOfRelay 84 = .ok (.goto (-28), 3) := by decide +kernel
theorem dX3_hashOfRelay_87 : decode cX3_hashOfRelay 87 = .ok (.iinc 6 1, 3) := by decide +kernel
theorem dX3_hashOfRelay_90 : decode cX3_hashOfRelay 90 = .ok (.goto (-51), 3) := by decide +kernel
theorem dX3_hashOfRelay_93 : decode cX3_hashOfRelay 93 = .ok (.ldc2_w 212, 3) := by decide +kernel
theorem dX3_hashOfRelay_96 : decode cX3_hashOfRelay 96 = .ok (.lload 4, 2) := by decide +kernel
theorem dX3_hashOfRelay_98 : decode cX3_hashOfRelay 98 = .ok (.lmul, 1) := by decide +kernel
theorem dX3_hashOfRelay_99 : decode cX3_hashOfRelay 99 = .ok (.aload_n 0, 1) := by decide +kernel
theorem dX3_hashOfRelay_100 : decode cX3_hashOfRelay 100 = .ok (.getfield 10, 3) := by decide +kernel
theorem dX3_hashOfRelay_103 : decode cX3_hashOfRelay 103 = .ok (.iload_n 3, 1) := by decide +kernel
theorem dX3_hashOfRelay_104 : decode cX3_hashOfRelay 104 = .ok (.invokevirtual 207, 3) := by decide +kernel
theorem dX3_hashOfRelay_107 : decode cX3_hashOfRelay 107 = .ok (.i2l, 1) := by decide +kernel
theorem dX3_hashOfRelay_108 : decode cX3_hashOfRelay 108 = .ok (.ladd, 1) := by decide +kernel
theorem dX3_hashOfRelay_109 : decode cX3_hashOfRelay 109 = .ok (.lreturn, 1) := by decide +kernel
set_option maxRecDepth 20000 in
theorem ggX3_hashOfLeads_X3_leadAnswer : GoodIn wsX3_hashOfLeads wsX3_leadAnswer := goodIn_r _ [7, 8, 9, 10, 11, 12, 13, 14, 15, 16, 17, 18, 19, 20, 21, 22, 23, 24, 25, 26, 27, 28, 29, 30, 31, 32, 33, 34, 35, 36, 37, 38, 39, 40, 41, 42, 43, 44, 45, 46, 47, 48, 49, 50, 51, 52, 53, 54, 55, 56, 57, 58, 59, 60, 61, 62, 63, 64, 65, 66, 67, 68, 69, 70, 71, 72, 73, 74, 75, 76, 77, 78, 79, 80, 81, 82, 83, 84, 85, 86, 87, 88, 89, 90, 91, 92, 93, 94, 95, 96, 97, 98, 99, 100, 101, 102, 103, 104, 105, 106, 107, 108, 109, 110, 111, 112, 113, 114, 115, 116, 117] (by decide +kernel) (by decide +kernel)
set_option maxRecDepth 20000 in
theorem gX3_hashOfLeads_X3_leadAnswer : GoodIn wsX3_hashOfLeads (wsV RX3 194 RX3 yX3_leadAnswer wsX3_leadAnswer) := goodIn_app (goodIn_of _ (by decide +kernel)) ggX3_hashOfLeads_X3_leadAnswer
theorem dX3_hashOfLeads_0 : decode cX3_hashOfLeads 0 = .ok (.lload_n 1, 1) := by decide +kernel
theorem dX3_hashOfLeads_1 : decode cX3_hashOfLeads 1 = .ok (.lstore_n 3, 1) := by decide +kernel
theorem dX3_hashOfLeads_2 : decode cX3_hashOfLeads 2 = .ok (.iconst 0, 1) := by decide +kernel
theorem dX3_hashOfLeads_3 : decode cX3_hashOfLeads 3 = .ok (.istore 5, 2) := by decide +kernel
theorem dX3_hashOfLeads_5 : decode cX3_hashOfLeads 5 = .ok (.iload 5, 2) := by decide +kernel
theorem dX3_hashOfLeads_7 : decode cX3_hashOfLeads 7 = .ok (.getstatic 341, 3) := by decide +kernel
theorem dX3_hashOfLeads_10 : decode cX3_hashOfLeads 10 = .ok (.arraylength, 1) := by decide +kernel
theorem dX3_hashOfLeads_11 : decode cX3_hashOfLeads 11 = .ok (.if_icmp .ge 44, 3) := by decide +kernel
theorem dX3_hashOfLeads_14 : decode cX3_hashOfLeads 14 = .ok (.iconst 0, 1) := by decide +kernel
theorem dX3_hashOfLeads_15 : decode cX3_hashOfLeads 15 = .ok (.istore 6, 2) := by decide +kernel
theorem dX3_hashOfLeads_17 : decode cX3_hashOfLeads 17 = .ok (.iload 6, 2) := by decide +kernel
theorem dX3_hashOfLeads_19 : decode cX3_hashOfLeads 19 = .ok (.iconst 2, 1) := by decide +kernel
theorem dX3_hashOfLeads_20 : decode cX3_hashOfLeads 20 = .ok (.if_icmp .ge 29, 3) := by decide +kernel
theorem dX3_hashOfLeads_23 : decode cX3_hashOfLeads 23 = .ok (.ldc2_w 212, 3) := by decide +kernel
theorem dX3_hashOfLeads_26 : decode cX3_hashOfLeads 26 = .ok (.lload_n 3, 1) := by decide +kernel
theorem dX3_hashOfLeads_27 : decode cX3_hashOfLeads 27 = .ok (.lmul, 1) := by decide +kernel
theorem dX3_hashOfLeads_28 : decode cX3_hashOfLeads 28 = .ok (.aload_n 0, 1) := by decide +kernel
theorem dX3_hashOfLeads_29 : decode cX3_hashOfLeads 29 = .ok (.getstatic 341, 3) := by decide +kernel
theorem dX3_hashOfLeads_32 : decode cX3_hashOfLeads 32 = .ok (.iload 5, 2) := by decide +kernel
theorem dX3_hashOfLeads_34 : decode cX3_hashOfLeads 34 = .ok (.iaload, 1) := by decide +kernel
theorem dX3_hashOfLeads_35 : decode cX3_hashOfLeads 35 = .ok (.iload 6, 2) := by decide +kernel
theorem dX3_hashOfLeads_37 : decode cX3_hashOfLeads 37 = .ok (.invokevirtual 194, 3) := by decide +kernel
theorem dX3_hashOfLeads_40 : decode cX3_hashOfLeads 40 = .ok (.i2l, 1) := by decide +kernel
theorem dX3_hashOfLeads_41 : decode cX3_hashOfLeads 41 = .ok (.ladd, 1) := by decide +kernel
theorem dX3_hashOfLeads_42 : decode cX3_hashOfLeads 42 = .ok (.lstore_n 3, 1) := by decide +kernel
theorem dX3_hashOfLeads_43 : decode cX3_hashOfLeads 43 = .ok (.iinc 6 1, 3) := by decide +kernel
theorem dX3_hashOfLeads_46 : decode cX3_hashOfLeads 46 = .ok (.goto (-29), 3) := by decide +kernel
theorem dX3_hashOfLeads_49 : decode cX3_hashOfLeads 49 = .ok (.iinc 5 1, 3) := by decide +kernel
theorem dX3_hashOfLeads_52 : decode cX3_hashOfLeads 52 = .ok (.goto (-47), 3) := by decide +kernel
theorem dX3_hashOfLeads_55 : decode cX3_hashOfLeads 55 = .ok (.lload_n 3, 1) := by decide +kernel
theorem dX3_hashOfLeads_56 : decode cX3_hashOfLeads 56 = .ok (.lreturn, 1) := by decide +kernel
set_option maxRecDepth 20000 in
theorem ggX3_hashOfRace_X3_findRace : GoodIn wsX3_hashOfRace wsX3_findRace := goodIn_r _ [8, 9, 10, 11, 2, 12, 13, 14, 15, 16, 17, 18, 19, 20, 21, 22, 23, 24, 25, 26, 27, 28, 29, 30, 31, 32, 33, 34, 35, 36, 37, 38, 39, 40, 41, 42, 43, 44, 45, 46, 47, 48, 49, 50, 51, 52, 53, 54, 55, 56, 57, 58, 59, 60, 61, 62, 63, 64, 65, 66, 67, 68, 69, 70, 71, 72, 73, 74, 75, 76, 77, 78, 79, 80, 81, 82, 83, 84, 85, 86, 87, 88, 89, 90, 91, 92, 93, 94, 95, 96, 97, 98, 99, 100, 101, 102, 103, 104, 105, 106, 107, 108, 109, 110, 111, 112, 113, 114, 115, 116, 117, 118, 119, 120, 121, 122, 123, 124, 125, 126, 127, 128, 129, 130, 131, 132, 133, 134, 135, 136, 137, 164, 165, 166, 167, 168, 169, 170, 171, 172, 173, 174, 175, 176, 177, 178, 179, 180, 181, 182, 183, 184, 185, 186, 187, 188, 189, 190, 191, 192, 193, 194, 195, 196, 197] (by decide +kernel) (by decide +kernel)
set_option maxRecDepth 20000 in
theorem gX3_hashOfRace_X3_findRace : GoodIn wsX3_hashOfRace (wsV RX3 199 RX3 yX3_findRace wsX3_findRace) := goodIn_app (goodIn_of _ (by decide +kernel)) ggX3_hashOfRace_X3_findRace
set_option maxRecDepth 20000 in
theorem ggX3_hashOfRace_X3_findCure : GoodIn wsX3_hashOfRace wsX3_findCure := goodIn_r _ [141, 142, 3, 2, 143, 11, 144, 145, 146, 4, 5, 6, 7, 8, 9, 10, 12, 13, 14, 15, 16, 17, 18, 19, 20, 21, 22, 23, 24, 25, 26, 27, 28, 29, 30, 31, 32, 33, 34, 35, 36, 37, 38, 39, 40, 41, 42, 43, 44, 45, 46, 47, 48, 49, 50, 51, 52, 53, 54, 55, 56, 57, 58, 59, 60, 61, 62, 63, 64, 65, 66, 67, 68, 69, 70, 71, 72, 73, 74, 75, 76, 77, 78, 79, 80, 81, 82, 83, 84, 85, 86, 87, 88, 89, 90, 91, 92, 93, 94, 95, 96, 97, 98, 99, 100, 101, 102, 103, 104, 105, 106, 107, 108, 109, 110, 111, 112, 113, 114, 115, 116, 117, 118, 119, 120, 121, 122, 123, 124, 125, 126, 127, 128, 129, 130, 131, 132, 133, 134, 135, 136, 137, 147, 148, 149, 150, 151, 152, 153, 154, 155, 156, 157, 158, 159, 160, 161, 162, 163, 164, 165, 166, 167, 168, 169, 170, 171, 172, 173, 174, 175, 187, 188, 189, 190, 191, 192, 193, 194, 195, 196, 197, 176, 177, 178, 179, 180, 181, 182, 183, 184, 185, 186] (by decide +kernel) (by decide +kernel)
set_option maxRecDepth 20000 in
theorem gX3_hashOfRace_X3_findCure : GoodIn wsX3_hashOfRace (wsV RX3 204 RX3 yX3_findCure wsX3_findCure) := goodIn_app (goodIn_of _ (by decide +kernel)) ggX3_hashOfRace_X3_findCure
theorem dX3_hashOfRace_0 : decode cX3_hashOfRace 0 = .ok (.lload_n 1, 1) := by decide +kernel
theorem dX3_hashOfRace_1 : decode cX3_hashOfRace 1 = .ok (.lstore_n 3, 1) := by decide +kernel
theorem dX3_hashOfRace_2 : decode cX3_hashOfRace 2 = .ok (.aload_n 0, 1) := by decide +kernel
theorem dX3_hashOfRace_3 : decode cX3_hashOfRace 3 = .ok (.invokevirtual 199, 3) := by decide +kernel
theorem dX3_hashOfRace_6 : decode cX3_hashOfRace 6 = .ok (.iconst 0, 1) := by decide +kernel
theorem dX3_hashOfRace_7 : decode cX3_hashOfRace 7 = .ok (.istore 5, 2) := by decide +kernel
theorem dX3_hashOfRace_9 : decode cX3_hashOfRace 9 = .ok (.iload 5, 2) := by decide +kernel
theorem dX3_hashOfRace_11 : decode cX3_hashOfRace 11 = .ok (.iconst 5, 1) := by decide +kernel
theorem dX3_hashOfRace_12 : decode cX3_hashOfRace 12 = .ok (.if_icmp .ge 24, 3) := by decide +kernel
theorem dX3_hashOfRace_15 : decode cX3_hashOfRace 15 = .ok (.ldc2_w 212, 3) := by decide +kernel
theorem dX3_hashOfRace_18 : decode cX3_hashOfRace 18 = .ok (.lload_n 3, 1) := by decide +kernel
theorem dX3_hashOfRace_19 : decode cX3_hashOfRace 19 = .ok (.lmul, 1) := by decide +kernel
theorem dX3_hashOfRace_20 : decode cX3_hashOfRace 20 = .ok (.aload_n 0, 1) := by decide +kernel
theorem dX3_hashOfRace_21 : decode cX3_hashOfRace 21 = .ok (.getfield 41, 3) := by decide +kernel
theorem dX3_hashOfRace_24 : decode cX3_hashOfRace 24 = .ok (.iload 5, 2) := by decide +kernel
theorem dX3_hashOfRace_26 : decode cX3_hashOfRace 26 = .ok (.iaload, 1) := by decide +kernel
theorem dX3_hashOfRace_27 : decode cX3_hashOfRace 27 = .ok (.i2l, 1) := by decide +kernel
theorem dX3_hashOfRace_28 : decode cX3_hashOfRace 28 = .ok (.ladd, 1) := by decide +kernel
theorem dX3_hashOfRace_29 : decode cX3_hashOfRace 29 = .ok (.lstore_n 3, 1) := by decide +kernel
theorem dX3_hashOfRace_30 : decode cX3_hashOfRace 30 = .ok (.iinc 5 1, 3) := by decide +kernel
theorem dX3_hashOfRace_33 : decode cX3_hashOfRace 33 = .ok (.goto (-24), 3) := by decide +kernel
theorem dX3_hashOfRace_36 : decode cX3_hashOfRace 36 = .ok (.aload_n 0, 1) := by decide +kernel
theorem dX3_hashOfRace_37 : decode cX3_hashOfRace 37 = .ok (.invokevirtual 204, 3) := by decide +kernel
theorem dX3_hashOfRace_40 : decode cX3_hashOfRace 40 = .ok (.iconst 0, 1) := by decide +kernel
theorem dX3_hashOfRace_41 : decode cX3_hashOfRace 41 = .ok (.istore 5, 2) := by decide +kernel
theorem dX3_hashOfRace_43 : decode cX3_hashOfRace 43 = .ok (.iload 5, 2) := by decide +kernel
theorem dX3_hashOfRace_45 : decode cX3_hashOfRace 45 = .ok (.iconst 3, 1) := by decide +kernel
theorem dX3_hashOfRace_46 : decode cX3_hashOfRace 46 = .ok (.if_icmp .ge 24, 3) := by decide +kernel
theorem dX3_hashOfRace_49 : decode cX3_hashOfRace 49 = .ok (.ldc2_w 212, 3) := by decide +kernel
theorem dX3_hashOfRace_52 : decode cX3_hashOfRace 52 = .ok (.lload_n 3, 1) := by decide +kernel
theorem dX3_hashOfRace_53 : decode cX3_hashOfRace 53 = .ok (.lmul, 1) := by decide +kernel
theorem dX3_hashOfRace_54 : decode cX3_hashOfRace 54 = .ok (.aload_n 0, 1) := by decide +kernel
theorem dX3_hashOfRace_55 : decode cX3_hashOfRace 55 = .ok (.getfield 44, 3) := by decide +kernel
theorem dX3_hashOfRace_58 : decode cX3_hashOfRace 58 = .ok (.iload 5, 2) := by decide +kernel
theorem dX3_hashOfRace_60 : decode cX3_hashOfRace 60 = .ok (.iaload, 1) := by decide +kernel
theorem dX3_hashOfRace_61 : decode cX3_hashOfRace 61 = .ok (.i2l, 1) := by decide +kernel
theorem dX3_hashOfRace_62 : decode cX3_hashOfRace 62 = .ok (.ladd, 1) := by decide +kernel
theorem dX3_hashOfRace_63 : decode cX3_hashOfRace 63 = .ok (.lstore_n 3, 1) := by decide +kernel
theorem dX3_hashOfRace_64 : decode cX3_hashOfRace 64 = .ok (.iinc 5 1, 3) := by decide +kernel
theorem dX3_hashOfRace_67 : decode cX3_hashOfRace 67 = .ok (.goto (-24), 3) := by decide +kernel
theorem dX3_hashOfRace_70 : decode cX3_hashOfRace 70 = .ok (.lload_n 3, 1) := by decide +kernel
theorem dX3_hashOfRace_71 : decode cX3_hashOfRace 71 = .ok (.lreturn, 1) := by decide +kernel
theorem dX3_bitsOf_0 : decode cX3_bitsOf 0 = .ok (.dload_n 0, 1) := by decide +kernel
theorem dX3_bitsOf_1 : decode cX3_bitsOf 1 = .ok (.dconst 0, 1) := by decide +kernel
theorem dX3_bitsOf_2 : decode cX3_bitsOf 2 = .ok (.dcmp .g, 1) := by decide +kernel
theorem dX3_bitsOf_3 : decode cX3_bitsOf 3 = .ok (.ifCond .gt 5, 3) := by decide +kernel
theorem dX3_bitsOf_6 : decode cX3_bitsOf 6 = .ok (.lconst 0, 1) := by decide +kernel
theorem dX3_bitsOf_7 : decode cX3_bitsOf 7 = .ok (.lreturn, 1) := by decide +kernel
theorem dX3_bitsOf_8 : decode cX3_bitsOf 8 = .ok (.dload_n 0, 1) := by decide +kernel
theorem dX3_bitsOf_9 : decode cX3_bitsOf 9 = .ok (.dstore_n 2, 1) := by decide +kernel
theorem dX3_bitsOf_10 : decode cX3_bitsOf 10 = .ok (.ldc2_w 344, 3) := by decide +kernel
theorem dX3_bitsOf_13 : decode cX3_bitsOf 13 = .ok (.lstore 4, 2) := by decide +kernel
theorem dX3_bitsOf_15 : decode cX3_bitsOf 15 = .ok (.dload_n 2, 1) := by decide +kernel
theorem dX3_bitsOf_16 : decode cX3_bitsOf 16 = .ok (.dconst 1, 1) := by decide +kernel
theorem dX3_bitsOf_17 : decode cX3_bitsOf 17 = .ok (.dcmp .g, 1) := by decide +kernel
theorem dX3_bitsOf_18 : decode cX3_bitsOf 18 = .ok (.ifCond .ge 25, 3) := by decide +kernel
theorem dX3_bitsOf_21 : decode cX3_bitsOf 21 = .ok (.lload 4, 2) := by decide +kernel
theorem dX3_bitsOf_23 : decode cX3_bitsOf 23 = .ok (.lconst 1, 1) := by decide +kernel
theorem dX3_bitsOf_24 : decode cX3_bitsOf 24 = .ok (.lcmp, 1) := by decide +kernel
theorem dX3_bitsOf_25 : decode cX3_bitsOf 25 = .ok (.ifCond .le 18, 3) := by decide +kernel
theorem dX3_bitsOf_28 : decode cX3_bitsOf 28 = .ok (.dload_n 2, 1) := by decide +kernel
theorem dX3_bitsOf_29 : decode cX3_bitsOf 29 = .ok (.ldc2_w 346, 3) := by decide +kernel
theorem dX3_bitsOf_32 : decode cX3_bitsOf 32 = .ok (.dmul, 1) := by decide +kernel
theorem dX3_bitsOf_33 : decode cX3_bitsOf 33 = .ok (.dstore_n 2, 1) := by decide +kernel
theorem dX3_bitsOf_34 : decode cX3_bitsOf 34 = .ok (.lload 4, 2) := by decide +kernel
theorem dX3_bitsOf_36 : decode cX3_bitsOf 36 = .ok (.lconst 1, 1) := by decide +kernel
theorem dX3_bitsOf_37 : decode cX3_bitsOf 37 = .ok (.lsub, 1) := by decide +kernel
theorem dX3_bitsOf_38 : decode cX3_bitsOf 38 = .ok (.lstore 4, 2) := by decide +kernel
theorem dX3_bitsOf_40 : decode cX3_bitsOf 40 = .ok (.goto (-25), 3) := by decide +kernel
theorem dX3_bitsOf_43 : decode cX3_bitsOf 43 = .ok (.lload 4, 2) := by decide +kernel
theorem dX3_bitsOf_45 : decode cX3_bitsOf 45 = .ok (.bipush 52, 2) := by decide +kernel
theorem dX3_bitsOf_47 : decode cX3_bitsOf 47 = .ok (.lshl, 1) := by decide +kernel
theorem dX3_bitsOf_48 : decode cX3_bitsOf 48 = .ok (.dload_n 2, 1) := by decide +kernel
theorem dX3_bitsOf_49 : decode cX3_bitsOf 49 = .ok (.dconst 1, 1) := by decide +kernel
theorem dX3_bitsOf_50 : decode cX3_bitsOf 50 = .ok (.dsub, 1) := by decide +kernel
theorem dX3_bitsOf_51 : decode cX3_bitsOf 51 = .ok (.ldc2_w 348, 3) := by decide +kernel
theorem dX3_bitsOf_54 : decode cX3_bitsOf 54 = .ok (.dmul, 1) := by decide +kernel
theorem dX3_bitsOf_55 : decode cX3_bitsOf 55 = .ok (.d2l, 1) := by decide +kernel
theorem dX3_bitsOf_56 : decode cX3_bitsOf 56 = .ok (.ladd, 1) := by decide +kernel
theorem dX3_bitsOf_57 : decode cX3_bitsOf 57 = .ok (.lreturn, 1) := by decide +kernel
