theorem dX0_init_0 : decode cX0_init 0 = .ok (.aload_n 0, 1) := by decide +kernel
theorem dX0_init_1 : decode cX0_init 1 = .ok (.invokespecial 3, 3) := by decide +kernel
theorem dX0_init_4 : decode cX0_init 4 = .ok (.aload_n 0, 1) := by decide +kernel
theorem dX0_init_5 : decode cX0_init 5 = .ok (.bipush 6, 2) := by decide +kernel
theorem dX0_init_7 : decode cX0_init 7 = .ok (.newarray .int, 2) := by decide +kernel
theorem dX0_init_9 : decode cX0_init 9 = .ok (.putfield 9, 3) := by decide +kernel
theorem dX0_init_12 : decode cX0_init 12 = .ok (.aload_n 0, 1) := by decide +kernel
theorem dX0_init_13 : decode cX0_init 13 = .ok (.bipush 24, 2) := by decide +kernel
theorem dX0_init_15 : decode cX0_init 15 = .ok (.newarray .int, 2) := by decide +kernel
theorem dX0_init_17 : decode cX0_init 17 = .ok (.putfield 15, 3) := by decide +kernel
theorem dX0_init_20 : decode cX0_init 20 = .ok (.aload_n 0, 1) := by decide +kernel
theorem dX0_init_21 : decode cX0_init 21 = .ok (.bipush 24, 2) := by decide +kernel
theorem dX0_init_23 : decode cX0_init 23 = .ok (.newarray .int, 2) := by decide +kernel
theorem dX0_init_25 : decode cX0_init 25 = .ok (.putfield 18, 3) := by decide +kernel
theorem dX0_init_28 : decode cX0_init 28 = .ok (.aload_n 0, 1) := by decide +kernel
theorem dX0_init_29 : decode cX0_init 29 = .ok (.bipush 6, 2) := by decide +kernel
theorem dX0_init_31 : decode cX0_init 31 = .ok (.newarray .int, 2) := by decide +kernel
theorem dX0_init_33 : decode cX0_init 33 = .ok (.putfield 21, 3) := by decide +kernel
theorem dX0_init_36 : decode cX0_init 36 = .ok (.aload_n 0, 1) := by decide +kernel
theorem dX0_init_37 : decode cX0_init 37 = .ok (.bipush 6, 2) := by decide +kernel
theorem dX0_init_39 : decode cX0_init 39 = .ok (.newarray .int, 2) := by decide +kernel
theorem dX0_init_41 : decode cX0_init 41 = .ok (.putfield 24, 3) := by decide +kernel
theorem dX0_init_44 : decode cX0_init 44 = .ok (.aload_n 0, 1) := by decide +kernel
theorem dX0_init_45 : decode cX0_init 45 = .ok (.bipush 6, 2) := by decide +kernel
theorem dX0_init_47 : decode cX0_init 47 = .ok (.newarray .int, 2) := by decide +kernel
theorem dX0_init_49 : decode cX0_init 49 = .ok (.putfield 27, 3) := by decide +kernel
theorem dX0_init_52 : decode cX0_init 52 = .ok (.return_, 1) := by decide +kernel
theorem dX0_copyFrom_0 : decode cX0_copyFrom 0 = .ok (.aload_n 0, 1) := by decide +kernel
theorem dX0_copyFrom_1 : decode cX0_copyFrom 1 = .ok (.aload_n 1, 1) := by decide +kernel
theorem dX0_copyFrom_2 : decode cX0_copyFrom 2 = .ok (.getfield 30, 3) := by decide +kernel
theorem dX0_copyFrom_5 : decode cX0_copyFrom 5 = .ok (.putfield 30, 3) := by decide +kernel
theorem dX0_copyFrom_8 : decode cX0_copyFrom 8 = .ok (.aload_n 1, 1) := by decide +kernel
theorem dX0_copyFrom_9 : decode cX0_copyFrom 9 = .ok (.getfield 9, 3) := by decide +kernel
theorem dX0_copyFrom_12 : decode cX0_copyFrom 12 = .ok (.iconst 0, 1) := by decide +kernel
theorem dX0_copyFrom_13 : decode cX0_copyFrom 13 = .ok (.aload_n 0, 1) := by decide +kernel
theorem dX0_copyFrom_14 : decode cX0_copyFrom 14 = .ok (.getfield 9, 3) := by decide +kernel
theorem dX0_copyFrom_17 : decode cX0_copyFrom 17 = .ok (.iconst 0, 1) := by decide +kernel
theorem dX0_copyFrom_18 : decode cX0_copyFrom 18 = .ok (.bipush 6, 2) := by decide +kernel
theorem dX0_copyFrom_20 : decode cX0_copyFrom 20 = .ok (.invokestatic 34, 3) := by decide +kernel
theorem dX0_copyFrom_23 : decode cX0_copyFrom 23 = .ok (.aload_n 1, 1) := by decide +kernel
theorem dX0_copyFrom_24 : decode cX0_copyFrom 24 = .ok (.getfield 15, 3) := by decide +kernel
theorem dX0_copyFrom_27 : decode cX0_copyFrom 27 = .ok (.iconst 0, 1) := by decide +kernel
theorem dX0_copyFrom_28 : decode cX0_copyFrom 28 = .ok (.aload_n 0, 1) := by decide +kernel
theorem dX0_copyFrom_29 : decode cX0_copyFrom 29 = .ok (.getfield 15, 3) := by decide +kernel
theorem dX0_copyFrom_32 : decode cX0_copyFrom 32 = .ok (.iconst 0, 1) := by decide +kernel
theorem dX0_copyFrom_33 : decode cX0_copyFrom 33 = .ok (.bipush 24, 2) := by decide +kernel
theorem dX0_copyFrom_35 : decode cX0_copyFrom 35 = .ok (.invokestatic 34, 3) := by decide +kernel
theorem dX0_copyFrom_38 : decode cX0_copyFrom 38 = .ok (.aload_n 1, 1) := by decide +kernel
theorem dX0_copyFrom_39 : decode cX0_copyFrom 39 = .ok (.getfield 18, 3) := by decide +kernel
theorem dX0_copyFrom_42 : decode cX0_copyFrom 42 = .ok (.iconst 0, 1) := by decide +kernel
theorem dX0_copyFrom_43 : decode cX0_copyFrom 43 = .ok (.aload_n 0, 1) := by decide +kernel
theorem dX0_copyFrom_44 : decode cX0_copyFrom 44 = .ok (.getfield 18, 3) := by decide +kernel
theorem dX0_copyFrom_47 : decode cX0_copyFrom 47 = .ok (.iconst 0, 1) := by decide +kernel
theorem dX0_copyFrom_48 : decode cX0_copyFrom 48 = .ok (.bipush 24, 2) := by decide +kernel
theorem dX0_copyFrom_50 : decode cX0_copyFrom 50 = .ok (.invokestatic 34, 3) := by decide +kernel
theorem dX0_copyFrom_53 : decode cX0_copyFrom 53 = .ok (.aload_n 1, 1) := by decide +kernel
theorem dX0_copyFrom_54 : decode cX0_copyFrom 54 = .ok (.getfield 21, 3) := by decide +kernel
theorem dX0_copyFrom_57 : decode cX0_copyFrom 57 = .ok (.iconst 0, 1) := by decide +kernel
theorem dX0_copyFrom_58 : decode cX0_copyFrom 58 = .ok (.aload_n 0, 1) := by decide +kernel
theorem dX0_copyFrom_59 : decode cX0_copyFrom 59 = .ok (.getfield 21, 3) := by decide +kernel
theorem dX0_copyFrom_62 : decode cX0_copyFrom 62 = .ok (.iconst 0, 1) := by decide +kernel
theorem dX0_copyFrom_63 : decode cX0_copyFrom 63 = .ok (.bipush 6, 2) := by decide +kernel
theorem dX0_copyFrom_65 : decode cX0_copyFrom 65 = .ok (.invokestatic 34, 3) := by decide +kernel
theorem dX0_copyFrom_68 : decode cX0_copyFrom 68 = .ok (.aload_n 1, 1) := by decide +kernel
theorem dX0_copyFrom_69 : decode cX0_copyFrom 69 = .ok (.getfield 24, 3) := by decide +kernel
theorem dX0_copyFrom_72 : decode cX0_copyFrom 72 = .ok (.iconst 0, 1) := by decide +kernel
theorem dX0_copyFrom_73 : decode cX0_copyFrom 73 = .ok (.aload_n 0, 1) := by decide +kernel
theorem dX0_copyFrom_74 : decode cX0_copyFrom 74 = .ok (.getfield 24, 3) := by decide +kernel
theorem dX0_copyFrom_77 : decode cX0_copyFrom 77 = .ok (.iconst 0, 1) := by decide +kernel
theorem dX0_copyFrom_78 : decode cX0_copyFrom 78 = .ok (.bipush 6, 2) := by decide +kernel
theorem dX0_copyFrom_80 : decode cX0_copyFrom 80 = .ok (.invokestatic 34, 3) := by decide +kernel
theorem dX0_copyFrom_83 : decode cX0_copyFrom 83 = .ok (.aload_n 1, 1) := by decide +kernel
theorem dX0_copyFrom_84 : decode cX0_copyFrom 84 = .ok (.getfield 27, 3) := by decide +kernel
theorem dX0_copyFrom_87 : decode cX0_copyFrom 87 = .ok (.iconst 0, 1) := by decide +kernel
theorem dX0_copyFrom_88 : decode cX0_copyFrom 88 = .ok (.aload_n 0, 1) := by decide +kernel
theorem dX0_copyFrom_89 : decode cX0_copyFrom 89 = .ok (.getfield 27, 3) := by decide +kernel
theorem dX0_copyFrom_92 : decode cX0_copyFrom 92 = .ok (.iconst 0, 1) := by decide +kernel
theorem dX0_copyFrom_93 : decode cX0_copyFrom 93 = .ok (.bipush 6, 2) := by decide +kernel
theorem dX0_copyFrom_95 : decode cX0_copyFrom 95 = .ok (.invokestatic 34, 3) := by decide +kernel
theorem dX0_copyFrom_98 : decode cX0_copyFrom 98 = .ok (.aload_n 0, 1) := by decide +kernel
theorem dX0_copyFrom_99 : decode cX0_copyFrom 99 = .ok (.aload_n 1, 1) := by decide +kernel
theorem dX0_copyFrom_100 : decode cX0_copyFrom 100 = .ok (.getfield 40, 3) := by decide +kernel
theorem dX0_copyFrom_103 : decode cX0_copyFrom 103 = .ok (.putfield 40, 3) := by decide +kernel
theorem dX0_copyFrom_106 : decode cX0_copyFrom 106 = .ok (.aload_n 0, 1) := by decide +kernel
theorem dX0_copyFrom_107 : decode cX0_copyFrom 107 = .ok (.aload_n 1, 1) := by decide +kernel
theorem dX0_copyFrom_108 : decode cX0_copyFrom 108 = .ok (.getfield 43, 3) := by decide +kernel
theorem dX0_copyFrom_111 : decode cX0_copyFrom 111 = .ok (.putfield 43, 3) := by decide +kernel
theorem dX0_copyFrom_114 : decode cX0_copyFrom 114 = .ok (.aload_n 0, 1) := by decide +kernel
theorem dX0_copyFrom_115 : decode cX0_copyFrom 115 = .ok (.aload_n 1, 1) := by decide +kernel
theorem dX0_copyFrom_116 : decode cX0_copyFrom 116 = .ok (.getfield 46, 3) := by decide +kernel
theorem dX0_copyFrom_119 : decode cX0_copyFrom 119 = .ok (.putfield 46, 3) := by decide +kernel
theorem dX0_copyFrom_122 : decode cX0_copyFrom 122 = .ok (.aload_n 0, 1) := by decide +kernel
theorem dX0_copyFrom_123 : decode cX0_copyFrom 123 = .ok (.aload_n 1, 1) := by decide +kernel
theorem dX0_copyFrom_124 : decode cX0_copyFrom 124 = .ok (.getfield 49, 3) := by decide +kernel
theorem dX0_copyFrom_127 : decode cX0_copyFrom 127 = .ok (.putfield 49, 3) := by decide +kernel
theorem dX0_copyFrom_130 : decode cX0_copyFrom 130 = .ok (.return_, 1) := by decide +kernel
theorem dX0_hasRelay_0 : decode cX0_hasRelay 0 = .ok (.iload_n 1, 1) := by decide +kernel
theorem dX0_hasRelay_1 : decode cX0_hasRelay 1 = .ok (.ifCond .lt 15, 3) := by decide +kernel
theorem dX0_hasRelay_4 : decode cX0_hasRelay 4 = .ok (.iload_n 1, 1) := by decide +kernel
theorem dX0_hasRelay_5 : decode cX0_hasRelay 5 = .ok (.aload_n 0, 1) := by decide +kernel
theorem dX0_hasRelay_6 : decode cX0_hasRelay 6 = .ok (.getfield 30, 3) := by decide +kernel
theorem dX0_hasRelay_9 : decode cX0_hasRelay 9 = .ok (.if_icmp .ge 7, 3) := by decide +kernel
theorem dX0_hasRelay_12 : decode cX0_hasRelay 12 = .ok (.iconst 1, 1) := by decide +kernel
theorem dX0_hasRelay_13 : decode cX0_hasRelay 13 = .ok (.goto 4, 3) := by decide +kernel
theorem dX0_hasRelay_16 : decode cX0_hasRelay 16 = .ok (.iconst 0, 1) := by decide +kernel
theorem dX0_hasRelay_17 : decode cX0_hasRelay 17 = .ok (.ireturn, 1) := by decide +kernel
theorem dX0_hasContacts_0 : decode cX0_hasContacts 0 = .ok (.iload_n 1, 1) := by decide +kernel
theorem dX0_hasContacts_1 : decode cX0_hasContacts 1 = .ok (.ifCond .lt 19, 3) := by decide +kernel
theorem dX0_hasContacts_4 : decode cX0_hasContacts 4 = .ok (.iload_n 1, 1) := by decide +kernel
theorem dX0_hasContacts_5 : decode cX0_hasContacts 5 = .ok (.iconst 1, 1) := by decide +kernel
theorem dX0_hasContacts_6 : decode cX0_hasContacts 6 = .ok (.iconst 4, 1) := by decide +kernel
theorem dX0_hasContacts_7 : decode cX0_hasContacts 7 = .ok (.aload_n 0, 1) := by decide +kernel
theorem dX0_hasContacts_8 : decode cX0_hasContacts 8 = .ok (.getfield 30, 3) := by decide +kernel
theorem dX0_hasContacts_11 : decode cX0_hasContacts 11 = .ok (.iadd, 1) := by decide +kernel
theorem dX0_hasContacts_12 : decode cX0_hasContacts 12 = .ok (.ishl, 1) := by decide +kernel
theorem dX0_hasContacts_13 : decode cX0_hasContacts 13 = .ok (.if_icmp .ge 7, 3) := by decide +kernel
theorem dX0_hasContacts_16 : decode cX0_hasContacts 16 = .ok (.iconst 1, 1) := by decide +kernel
theorem dX0_hasContacts_17 : decode cX0_hasContacts 17 = .ok (.goto 4, 3) := by decide +kernel
theorem dX0_hasContacts_20 : decode cX0_hasContacts 20 = .ok (.iconst 0, 1) := by decide +kernel
theorem dX0_hasContacts_21 : decode cX0_hasContacts 21 = .ok (.ireturn, 1) := by decide +kernel
theorem dX0_isIn_0 : decode cX0_isIn 0 = .ok (.iload_n 0, 1) := by decide +kernel
theorem dX0_isIn_1 : decode cX0_isIn 1 = .ok (.iload_n 1, 1) := by decide +kernel
theorem dX0_isIn_2 : decode cX0_isIn 2 = .ok (.ishr, 1) := by decide +kernel
theorem dX0_isIn_3 : decode cX0_isIn 3 = .ok (.iconst 1, 1) := by decide +kernel
theorem dX0_isIn_4 : decode cX0_isIn 4 = .ok (.iand, 1) := by decide +kernel
theorem dX0_isIn_5 : decode cX0_isIn 5 = .ok (.iconst 1, 1) := by decide +kernel
theorem dX0_isIn_6 : decode cX0_isIn 6 = .ok (.if_icmp .ne 7, 3) := by decide +kernel
theorem dX0_isIn_9 : decode cX0_isIn 9 = .ok (.iconst 1, 1) := by decide +kernel
theorem dX0_isIn_10 : decode cX0_isIn 10 = .ok (.goto 4, 3) := by decide +kernel
theorem dX0_isIn_13 : decode cX0_isIn 13 = .ok (.iconst 0, 1) := by decide +kernel
theorem dX0_isIn_14 : decode cX0_isIn 14 = .ok (.ireturn, 1) := by decide +kernel
theorem dX0_placeOf_0 : decode cX0_placeOf 0 = .ok (.iload_n 0, 1) := by decide +kernel
theorem dX0_placeOf_1 : decode cX0_placeOf 1 = .ok (.iconst 4, 1) := by decide +kernel
theorem dX0_placeOf_2 : decode cX0_placeOf 2 = .ok (.imul, 1) := by decide +kernel
theorem dX0_placeOf_3 : decode cX0_placeOf 3 = .ok (.iload_n 1, 1) := by decide +kernel
theorem dX0_placeOf_4 : decode cX0_placeOf 4 = .ok (.iadd, 1) := by decide +kernel
theorem dX0_placeOf_5 : decode cX0_placeOf 5 = .ok (.ireturn, 1) := by decide +kernel
theorem dX0_addRelay_0 : decode cX0_addRelay 0 = .ok (.aload_n 0, 1) := by decide +kernel
theorem dX0_addRelay_1 : decode cX0_addRelay 1 = .ok (.getfield 30, 3) := by decide +kernel
theorem dX0_addRelay_4 : decode cX0_addRelay 4 = .ok (.istore_n 3, 1) := by decide +kernel
theorem dX0_addRelay_5 : decode cX0_addRelay 5 = .ok (.aload_n 0, 1) := by decide +kernel
theorem dX0_addRelay_6 : decode cX0_addRelay 6 = .ok (.getfield 21, 3) := by decide +kernel
theorem dX0_addRelay_9 : decode cX0_addRelay 9 = .ok (.iload_n 3, 1) := by decide +kernel
theorem dX0_addRelay_10 : decode cX0_addRelay 10 = .ok (.iload_n 1, 1) := by decide +kernel
theorem dX0_addRelay_11 : decode cX0_addRelay 11 = .ok (.iastore, 1) := by decide +kernel
theorem dX0_addRelay_12 : decode cX0_addRelay 12 = .ok (.aload_n 0, 1) := by decide +kernel
theorem dX0_addRelay_13 : decode cX0_addRelay 13 = .ok (.getfield 24, 3) := by decide +kernel
theorem dX0_addRelay_16 : decode cX0_addRelay 16 = .ok (.iload_n 3, 1) := by decide +kernel
theorem dX0_addRelay_17 : decode cX0_addRelay 17 = .ok (.iload_n 2, 1) := by decide +kernel
theorem dX0_addRelay_18 : decode cX0_addRelay 18 = .ok (.iastore, 1) := by decide +kernel
theorem dX0_addRelay_19 : decode cX0_addRelay 19 = .ok (.aload_n 0, 1) := by decide +kernel
theorem dX0_addRelay_20 : decode cX0_addRelay 20 = .ok (.getfield 9, 3) := by decide +kernel
theorem dX0_addRelay_23 : decode cX0_addRelay 23 = .ok (.iload_n 3, 1) := by decide +kernel
theorem dX0_addRelay_24 : decode cX0_addRelay 24 = .ok (.iconst 0, 1) := by decide +kernel
theorem dX0_addRelay_25 : decode cX0_addRelay 25 = .ok (.iastore, 1) := by decide +kernel
theorem dX0_addRelay_26 : decode cX0_addRelay 26 = .ok (.aload_n 0, 1) := by decide +kernel
theorem dX0_addRelay_27 : decode cX0_addRelay 27 = .ok (.getfield 27, 3) := by decide +kernel
theorem dX0_addRelay_30 : decode cX0_addRelay 30 = .ok (.iload_n 3, 1) := by decide +kernel
theorem dX0_addRelay_31 : decode cX0_addRelay 31 = .ok (.iconst 0, 1) := by decide +kernel
theorem dX0_addRelay_32 : decode cX0_addRelay 32 = .ok (.iastore, 1) := by decide +kernel
theorem dX0_addRelay_33 : decode cX0_addRelay 33 = .ok (.aload_n 0, 1) := by decide +kernel
theorem dX0_addRelay_34 : decode cX0_addRelay 34 = .ok (.dup, 1) := by decide +kernel
theorem dX0_addRelay_35 : decode cX0_addRelay 35 = .ok (.getfield 30, 3) := by decide +kernel
theorem dX0_addRelay_38 : decode cX0_addRelay 38 = .ok (.iconst 1, 1) := by decide +kernel
theorem dX0_addRelay_39 : decode cX0_addRelay 39 = .ok (.iadd, 1) := by decide +kernel
theorem dX0_addRelay_40 : decode cX0_addRelay 40 = .ok (.putfield 30, 3) := by decide +kernel
theorem dX0_addRelay_43 : decode cX0_addRelay 43 = .ok (.iload_n 3, 1) := by decide +kernel
theorem dX0_addRelay_44 : decode cX0_addRelay 44 = .ok (.ireturn, 1) := by decide +kernel
set_option maxRecDepth 20000 in
theorem ggX0_addBranch_X0_placeOf : GoodIn wsX0_addBranch wsX0_placeOf := goodIn_r _ [7] (by decide +kernel) (by decide +kernel)
set_option maxRecDepth 20000 in
theorem gX0_addBranch_X0_placeOf : GoodIn wsX0_addBranch (va_wsS RX0 52 yX0_placeOf wsX0_placeOf) := goodIn_app (goodIn_of _ (by decide +kernel)) ggX0_addBranch_X0_placeOf
theorem dX0_addBranch_0 : decode cX0_addBranch 0 = .ok (.iload_n 1, 1) := by decide +kernel
theorem dX0_addBranch_1 : decode cX0_addBranch 1 = .ok (.aload_n 0, 1) := by decide +kernel
theorem dX0_addBranch_2 : decode cX0_addBranch 2 = .ok (.getfield 9, 3) := by decide +kernel
theorem dX0_addBranch_5 : decode cX0_addBranch 5 = .ok (.iload_n 1, 1) := by decide +kernel
theorem dX0_addBranch_6 : decode cX0_addBranch 6 = .ok (.iaload, 1) := by decide +kernel
theorem dX0_addBranch_7 : decode cX0_addBranch 7 = .ok (.invokestatic 52, 3) := by decide +kernel
theorem dX0_addBranch_10 : decode cX0_addBranch 10 = .ok (.istore 4, 2) := by decide +kernel
theorem dX0_addBranch_12 : decode cX0_addBranch 12 = .ok (.aload_n 0, 1) := by decide +kernel
theorem dX0_addBranch_13 : decode cX0_addBranch 13 = .ok (.getfield 15, 3) := by decide +kernel
theorem dX0_addBranch_16 : decode cX0_addBranch 16 = .ok (.iload 4, 2) := by decide +kernel
theorem dX0_addBranch_18 : decode cX0_addBranch 18 = .ok (.iload_n 2, 1) := by decide +kernel
theorem dX0_addBranch_19 : decode cX0_addBranch 19 = .ok (.iastore, 1) := by decide +kernel
theorem dX0_addBranch_20 : decode cX0_addBranch 20 = .ok (.aload_n 0, 1) := by decide +kernel
theorem dX0_addBranch_21 : decode cX0_addBranch 21 = .ok (.getfield 18, 3) := by decide +kernel
theorem dX0_addBranch_24 : decode cX0_addBranch 24 = .ok (.iload 4, 2) := by decide +kernel
theorem dX0_addBranch_26 : decode cX0_addBranch 26 = .ok (.iload_n 3, 1) := by decide +kernel
theorem dX0_addBranch_27 : decode cX0_addBranch 27 = .ok (.iastore, 1) := by decide +kernel
theorem dX0_addBranch_28 : decode cX0_addBranch 28 = .ok (.aload_n 0, 1) := by decide +kernel
theorem dX0_addBranch_29 : decode cX0_addBranch 29 = .ok (.getfield 9, 3) := by decide +kernel
theorem dX0_addBranch_32 : decode cX0_addBranch 32 = .ok (.iload_n 1, 1) := by decide +kernel
theorem dX0_addBranch_33 : decode cX0_addBranch 33 = .ok (.dup2, 1) := by decide +kernel
theorem dX0_addBranch_34 : decode cX0_addBranch 34 = .ok (.iaload, 1) := by decide +kernel
theorem dX0_addBranch_35 : decode cX0_addBranch 35 = .ok (.iconst 1, 1) := by decide +kernel
theorem dX0_addBranch_36 : decode cX0_addBranch 36 = .ok (.iadd, 1) := by decide +kernel
theorem dX0_addBranch_37 : decode cX0_addBranch 37 = .ok (.iastore, 1) := by decide +kernel
theorem dX0_addBranch_38 : decode cX0_addBranch 38 = .ok (.aload_n 0, 1) := by decide +kernel
theorem dX0_addBranch_39 : decode cX0_addBranch 39 = .ok (.getfield 9, 3) := by decide +kernel
theorem dX0_addBranch_42 : decode cX0_addBranch 42 = .ok (.iload_n 1, 1) := by decide +kernel
theorem dX0_addBranch_43 : decode cX0_addBranch 43 = .ok (.iaload, 1) := by decide +kernel
theorem dX0_addBranch_44 : decode cX0_addBranch 44 = .ok (.ireturn, 1) := by decide +kernel
theorem dX0_dropBranches_0 : decode cX0_dropBranches 0 = .ok (.aload_n 0, 1) := by decide +kernel
theorem dX0_dropBranches_1 : decode cX0_dropBranches 1 = .ok (.getfield 9, 3) := by decide +kernel
theorem dX0_dropBranches_4 : decode cX0_dropBranches 4 = .ok (.iload_n 1, 1) := by decide +kernel
theorem dX0_dropBranches_5 : decode cX0_dropBranches 5 = .ok (.iaload, 1) := by decide +kernel
theorem dX0_dropBranches_6 : decode cX0_dropBranches 6 = .ok (.istore_n 2, 1) := by decide +kernel
theorem dX0_dropBranches_7 : decode cX0_dropBranches 7 = .ok (.aload_n 0, 1) := by decide +kernel
theorem dX0_dropBranches_8 : decode cX0_dropBranches 8 = .ok (.getfield 9, 3) := by decide +kernel
theorem dX0_dropBranches_11 : decode cX0_dropBranches 11 = .ok (.iload_n 1, 1) := by decide +kernel
theorem dX0_dropBranches_12 : decode cX0_dropBranches 12 = .ok (.iconst 0, 1) := by decide +kernel
theorem dX0_dropBranches_13 : decode cX0_dropBranches 13 = .ok (.iastore, 1) := by decide +kernel
theorem dX0_dropBranches_14 : decode cX0_dropBranches 14 = .ok (.iload_n 2, 1) := by decide +kernel
theorem dX0_dropBranches_15 : decode cX0_dropBranches 15 = .ok (.ireturn, 1) := by decide +kernel
theorem dX0_upIn_0 : decode cX0_upIn 0 = .ok (.iload_n 0, 1) := by decide +kernel
theorem dX0_upIn_1 : decode cX0_upIn 1 = .ok (.bipush 63, 2) := by decide +kernel
theorem dX0_upIn_3 : decode cX0_upIn 3 = .ok (.iand, 1) := by decide +kernel
theorem dX0_upIn_4 : decode cX0_upIn 4 = .ok (.ireturn, 1) := by decide +kernel
theorem dX0_countIn_0 : decode cX0_countIn 0 = .ok (.iload_n 0, 1) := by decide +kernel
theorem dX0_countIn_1 : decode cX0_countIn 1 = .ok (.bipush 6, 2) := by decide +kernel
theorem dX0_countIn_3 : decode cX0_countIn 3 = .ok (.iconst 4, 1) := by decide +kernel
theorem dX0_countIn_4 : decode cX0_countIn 4 = .ok (.iload_n 1, 1) := by decide +kernel
theorem dX0_countIn_5 : decode cX0_countIn 5 = .ok (.imul, 1) := by decide +kernel
theorem dX0_countIn_6 : decode cX0_countIn 6 = .ok (.iadd, 1) := by decide +kernel
theorem dX0_countIn_7 : decode cX0_countIn 7 = .ok (.ishr, 1) := by decide +kernel
theorem dX0_countIn_8 : decode cX0_countIn 8 = .ok (.bipush 15, 2) := by decide +kernel
theorem dX0_countIn_10 : decode cX0_countIn 10 = .ok (.iand, 1) := by decide +kernel
theorem dX0_countIn_11 : decode cX0_countIn 11 = .ok (.ireturn, 1) := by decide +kernel
theorem dX0_withCount_0 : decode cX0_withCount 0 = .ok (.bipush 6, 2) := by decide +kernel
theorem dX0_withCount_2 : decode cX0_withCount 2 = .ok (.iconst 4, 1) := by decide +kernel
theorem dX0_withCount_3 : decode cX0_withCount 3 = .ok (.iload_n 1, 1) := by decide +kernel
theorem dX0_withCount_4 : decode cX0_withCount 4 = .ok (.imul, 1) := by decide +kernel
theorem dX0_withCount_5 : decode cX0_withCount 5 = .ok (.iadd, 1) := by decide +kernel
theorem dX0_withCount_6 : decode cX0_withCount 6 = .ok (.istore_n 3, 1) := by decide +kernel
theorem dX0_withCount_7 : decode cX0_withCount 7 = .ok (.iload_n 0, 1) := by decide +kernel
theorem dX0_withCount_8 : decode cX0_withCount 8 = .ok (.bipush 15, 2) := by decide +kernel
theorem dX0_withCount_10 : decode cX0_withCount 10 = .ok (.iload_n 3, 1) := by decide +kernel
theorem dX0_withCount_11 : decode cX0_withCount 11 = .ok (.ishl, 1) := by decide +kernel
theorem dX0_withCount_12 : decode cX0_withCount 12 = .ok (.iconst (-1), 1) := by decide +kernel
theorem dX0_withCount_13 : decode cX0_withCount 13 = .ok (.ixor, 1) := by decide +kernel
theorem dX0_withCount_14 : decode cX0_withCount 14 = .ok (.iand, 1) := by decide +kernel
theorem dX0_withCount_15 : decode cX0_withCount 15 = .ok (.iload_n 2, 1) := by decide +kernel
theorem dX0_withCount_16 : decode cX0_withCount 16 = .ok (.iload_n 3, 1) := by decide +kernel
theorem dX0_withCount_17 : decode cX0_withCount 17 = .ok (.ishl, 1) := by decide +kernel
theorem dX0_withCount_18 : decode cX0_withCount 18 = .ok (.ior, 1) := by decide +kernel
theorem dX0_withCount_19 : decode cX0_withCount 19 = .ok (.ireturn, 1) := by decide +kernel
set_option maxRecDepth 20000 in
theorem ggX0_up_X0_upIn : GoodIn wsX0_up wsX0_upIn := goodIn_r _ [5] (by decide +kernel) (by decide +kernel)
set_option maxRecDepth 20000 in
theorem gX0_up_X0_upIn : GoodIn wsX0_up (va_wsS RX0 56 yX0_upIn wsX0_upIn) := goodIn_app (goodIn_of _ (by decide +kernel)) ggX0_up_X0_upIn
theorem dX0_up_0 : decode cX0_up 0 = .ok (.aload_n 0, 1) := by decide +kernel
theorem dX0_up_1 : decode cX0_up 1 = .ok (.getfield 43, 3) := by decide +kernel
theorem dX0_up_4 : decode cX0_up 4 = .ok (.invokestatic 56, 3) := by decide +kernel
theorem dX0_up_7 : decode cX0_up 7 = .ok (.ireturn, 1) := by decide +kernel
set_option maxRecDepth 20000 in
theorem ggX0_signals_X0_upIn : GoodIn wsX0_signals wsX0_upIn := goodIn_r _ [6] (by decide +kernel) (by decide +kernel)
set_option maxRecDepth 20000 in
theorem gX0_signals_X0_upIn : GoodIn wsX0_signals (va_wsS RX0 56 yX0_upIn wsX0_upIn) := goodIn_app (goodIn_of _ (by decide +kernel)) ggX0_signals_X0_upIn
theorem dX0_signals_0 : decode cX0_signals 0 = .ok (.aload_n 0, 1) := by decide +kernel
theorem dX0_signals_1 : decode cX0_signals 1 = .ok (.getfield 40, 3) := by decide +kernel
theorem dX0_signals_4 : decode cX0_signals 4 = .ok (.aload_n 0, 1) := by decide +kernel
theorem dX0_signals_5 : decode cX0_signals 5 = .ok (.getfield 43, 3) := by decide +kernel
theorem dX0_signals_8 : decode cX0_signals 8 = .ok (.invokestatic 56, 3) := by decide +kernel
theorem dX0_signals_11 : decode cX0_signals 11 = .ok (.iconst 4, 1) := by decide +kernel
theorem dX0_signals_12 : decode cX0_signals 12 = .ok (.ishl, 1) := by decide +kernel
theorem dX0_signals_13 : decode cX0_signals 13 = .ok (.ior, 1) := by decide +kernel
theorem dX0_signals_14 : decode cX0_signals 14 = .ok (.ireturn, 1) := by decide +kernel
theorem dX0_contactsAgainst_0 : decode cX0_contactsAgainst 0 = .ok (.aload_n 0, 1) := by decide +kernel
theorem dX0_contactsAgainst_1 : decode cX0_contactsAgainst 1 = .ok (.getfield 15, 3) := by decide +kernel
theorem dX0_contactsAgainst_4 : decode cX0_contactsAgainst 4 = .ok (.iload_n 1, 1) := by decide +kernel
theorem dX0_contactsAgainst_5 : decode cX0_contactsAgainst 5 = .ok (.iaload, 1) := by decide +kernel
theorem dX0_contactsAgainst_6 : decode cX0_contactsAgainst 6 = .ok (.iload_n 2, 1) := by decide +kernel
theorem dX0_contactsAgainst_7 : decode cX0_contactsAgainst 7 = .ok (.iconst (-1), 1) := by decide +kernel
theorem dX0_contactsAgainst_8 : decode cX0_contactsAgainst 8 = .ok (.ixor, 1) := by decide +kernel
theorem dX0_contactsAgainst_9 : decode cX0_contactsAgainst 9 = .ok (.iand, 1) := by decide +kernel
theorem dX0_contactsAgainst_10 : decode cX0_contactsAgainst 10 = .ok (.aload_n 0, 1) := by decide +kernel
theorem dX0_contactsAgainst_11 : decode cX0_contactsAgainst 11 = .ok (.getfield 18, 3) := by decide +kernel
theorem dX0_contactsAgainst_14 : decode cX0_contactsAgainst 14 = .ok (.iload_n 1, 1) := by decide +kernel
theorem dX0_contactsAgainst_15 : decode cX0_contactsAgainst 15 = .ok (.iaload, 1) := by decide +kernel
theorem dX0_contactsAgainst_16 : decode cX0_contactsAgainst 16 = .ok (.iload_n 2, 1) := by decide +kernel
theorem dX0_contactsAgainst_17 : decode cX0_contactsAgainst 17 = .ok (.iand, 1) := by decide +kernel
theorem dX0_contactsAgainst_18 : decode cX0_contactsAgainst 18 = .ok (.ior, 1) := by decide +kernel
theorem dX0_contactsAgainst_19 : decode cX0_contactsAgainst 19 = .ok (.ireturn, 1) := by decide +kernel
set_option maxRecDepth 20000 in
theorem ggX0_called_X0_signals : GoodIn wsX0_called wsX0_signals := goodIn_r _ [5, 6, 7, 8, 9, 4, 10, 19, 20, 21, 22, 23, 24, 25, 26, 27, 28, 29] (by decide +kernel) (by decide +kernel)
set_option maxRecDepth 20000 in
theorem gX0_called_X0_signals : GoodIn wsX0_called (wsV RX0 60 RX0 yX0_signals wsX0_signals) := goodIn_app (goodIn_of _ (by decide +kernel)) ggX0_called_X0_signals
set_option maxRecDepth 20000 in
theorem ggX0_called_X0_calledBy : GoodIn wsX0_called wsX0_calledBy := goodIn_r _ [14, 15, 16, 17, 18, 19, 20, 21, 22, 23, 24, 25, 26, 27, 28, 29] (by decide +kernel) (by decide +kernel)
set_option maxRecDepth 20000 in
theorem gX0_called_X0_calledBy : GoodIn wsX0_called (wsV RX0 64 RX0 yX0_calledBy wsX0_calledBy) := goodIn_app (goodIn_of _ (by decide +kernel)) ggX0_called_X0_calledBy
theorem dX0_called_0 : decode cX0_called 0 = .ok (.aload_n 0, 1) := by decide +kernel
theorem dX0_called_1 : decode cX0_called 1 = .ok (.aload_n 0, 1) := by decide +kernel
theorem dX0_called_2 : decode cX0_called 2 = .ok (.invokevirtual 60, 3) := by decide +kernel
theorem dX0_called_5 : decode cX0_called 5 = .ok (.invokevirtual 64, 3) := by decide +kernel
theorem dX0_called_8 : decode cX0_called 8 = .ok (.ireturn, 1) := by decide +kernel
theorem dX0_calledBy_0 : decode cX0_calledBy 0 = .ok (.iconst 0, 1) := by decide +kernel
theorem dX0_calledBy_1 : decode cX0_calledBy 1 = .ok (.istore_n 2, 1) := by decide +kernel
theorem dX0_calledBy_2 : decode cX0_calledBy 2 = .ok (.iconst 0, 1) := by decide +kernel
theorem dX0_calledBy_3 : decode cX0_calledBy 3 = .ok (.istore_n 3, 1) := by decide +kernel
theorem dX0_calledBy_4 : decode cX0_calledBy 4 = .ok (.iload_n 3, 1) := by decide +kernel
theorem dX0_calledBy_5 : decode cX0_calledBy 5 = .ok (.aload_n 0, 1) := by decide +kernel
theorem dX0_calledBy_6 : decode cX0_calledBy 6 = .ok (.getfield 30, 3) := by decide +kernel
theorem dX0_calledBy_9 : decode cX0_calledBy 9 = .ok (.if_icmp .ge 69, 3) := by decide +kernel
theorem dX0_calledBy_12 : decode cX0_calledBy 12 = .ok (.iconst 0, 1) := by decide +kernel
theorem dX0_calledBy_13 : decode cX0_calledBy 13 = .ok (.istore 4, 2) := by decide +kernel
theorem dX0_calledBy_15 : decode cX0_calledBy 15 = .ok (.iload 4, 2) := by decide +kernel
theorem dX0_calledBy_17 : decode cX0_calledBy 17 = .ok (.aload_n 0, 1) := by decide +kernel
theorem dX0_calledBy_18 : decode cX0_calledBy 18 = .ok (.getfield 9, 3) := by decide +kernel
theorem dX0_calledBy_21 : decode cX0_calledBy 21 = .ok (.iload_n 3, 1) := by decide +kernel
theorem dX0_calledBy_22 : decode cX0_calledBy 22 = .ok (.iaload, 1) := by decide +kernel
theorem dX0_calledBy_23 : decode cX0_calledBy 23 = .ok (.if_icmp .ge 49, 3) := by decide +kernel
theorem dX0_calledBy_26 : decode cX0_calledBy 26 = .ok (.iload_n 3, 1) := by decide +kernel
theorem dX0_calledBy_27 : decode cX0_calledBy 27 = .ok (.iconst 4, 1) := by decide +kernel
theorem dX0_calledBy_28 : decode cX0_calledBy 28 = .ok (.imul, 1) := by decide +kernel
theorem dX0_calledBy_29 : decode cX0_calledBy 29 = .ok (.iload 4, 2) := by decide +kernel
theorem dX0_calledBy_31 : decode cX0_calledBy 31 = .ok (.iadd, 1) := by decide +kernel
theorem dX0_calledBy_32 : decode cX0_calledBy 32 = .ok (.istore 5, 2) := by decide +kernel
theorem dX0_calledBy_34 : decode cX0_calledBy 34 = .ok (.aload_n 0, 1) := by decide +kernel
theorem dX0_calledBy_35 : decode cX0_calledBy 35 = .ok (.getfield 15, 3) := by decide +kernel
theorem dX0_calledBy_38 : decode cX0_calledBy 38 = .ok (.iload 5, 2) := by decide +kernel
theorem dX0_calledBy_40 : decode cX0_calledBy 40 = .ok (.iaload, 1) := by decide +kernel
theorem dX0_calledBy_41 : decode cX0_calledBy 41 = .ok (.iload_n 1, 1) := by decide +kernel
theorem dX0_calledBy_42 : decode cX0_calledBy 42 = .ok (.iconst (-1), 1) := by decide +kernel
theorem dX0_calledBy_43 : decode cX0_calledBy 43 = .ok (.ixor, 1) := by decide +kernel
theorem dX0_calledBy_44 : decode cX0_calledBy 44 = .ok (.iand, 1) := by decide +kernel
theorem dX0_calledBy_45 : decode cX0_calledBy 45 = .ok (.ifCond .ne 21, 3) := by decide +kernel
theorem dX0_calledBy_48 : decode cX0_calledBy 48 = .ok (.aload_n 0, 1) := by decide +kernel
theorem dX0_calledBy_49 : decode cX0_calledBy 49 = .ok (.getfield 18, 3) := by decide +kernel
theorem dX0_calledBy_52 : decode cX0_calledBy 52 = .ok (.iload 5, 2) := by decide +kernel
theorem dX0_calledBy_54 : decode cX0_calledBy 54 = .ok (.iaload, 1) := by decide +kernel
theorem dX0_calledBy_55 : decode cX0_calledBy 55 = .ok (.iload_n 1, 1) := by decide +kernel
theorem dX0_calledBy_56 : decode cX0_calledBy 56 = .ok (.iand, 1) := by decide +kernel
theorem dX0_calledBy_57 : decode cX0_calledBy 57 = .ok (.ifCond .ne 9, 3) := by decide +kernel
theorem dX0_calledBy_60 : decode cX0_calledBy 60 = .ok (.iload_n 2, 1) := by decide +kernel
theorem dX0_calledBy_61 : decode cX0_calledBy 61 = .ok (.iconst 1, 1) := by decide +kernel
theorem dX0_calledBy_62 : decode cX0_calledBy 62 = .ok (.iload_n 3, 1) := by decide +kernel
theorem dX0_calledBy_63 : decode cX0_calledBy 63 = .ok (.ishl, 1) := by decide +kernel
theorem dX0_calledBy_64 : decode cX0_calledBy 64 = .ok (.ior, 1) := by decide +kernel
theorem dX0_calledBy_65 : decode cX0_calledBy 65 = .ok (.istore_n 2, 1) := by decide +kernel
theorem dX0_calledBy_66 : decode cX0_calledBy 66 = .ok (.iinc 4 1, 3) := by decide +kernel
theorem dX0_calledBy_69 : decode cX0_calledBy 69 = .ok (.goto (-54), 3) := by decide +kernel
theorem dX0_calledBy_72 : decode cX0_calledBy 72 = .ok (.iinc 3 1, 3) := by decide +kernel
theorem dX0_calledBy_75 : decode cX0_calledBy 75 = .ok (.goto (-71), 3) := by decide +kernel
theorem dX0_calledBy_78 : decode cX0_calledBy 78 = .ok (.iload_n 2, 1) := by decide +kernel
theorem dX0_calledBy_79 : decode cX0_calledBy 79 = .ok (.ireturn, 1) := by decide +kernel
set_option maxRecDepth 20000 in
theorem ggX0_restless_X0_signals : GoodIn wsX0_restless wsX0_signals := goodIn_r _ [5, 6, 7, 8, 9, 4, 10, 23, 24, 25, 26, 27, 28, 29, 30, 31, 32, 33] (by decide +kernel) (by decide +kernel)
set_option maxRecDepth 20000 in
theorem gX0_restless_X0_signals : GoodIn wsX0_restless (wsV RX0 60 RX0 yX0_signals wsX0_signals) := goodIn_app (goodIn_of _ (by decide +kernel)) ggX0_restless_X0_signals
set_option maxRecDepth 20000 in
theorem ggX0_restless_X0_calledBy : GoodIn wsX0_restless wsX0_calledBy := goodIn_r _ [14, 15, 16, 17, 18, 23, 24, 25, 26, 27, 28, 29, 30, 31, 32, 33] (by decide +kernel) (by decide +kernel)
set_option maxRecDepth 20000 in
theorem gX0_restless_X0_calledBy : GoodIn wsX0_restless (wsV RX0 64 RX0 yX0_calledBy wsX0_calledBy) := goodIn_app (goodIn_of _ (by decide +kernel)) ggX0_restless_X0_calledBy
set_option maxRecDepth 20000 in
theorem ggX0_restless_X0_up : GoodIn wsX0_restless wsX0_up := goodIn_r _ [22, 7, 8, 9, 4, 10, 23, 24, 25, 26, 27, 28, 29, 30, 31, 32, 33] (by decide +kernel) (by decide +kernel)
set_option maxRecDepth 20000 in
theorem gX0_restless_X0_up : GoodIn wsX0_restless (wsV RX0 67 RX0 yX0_up wsX0_up) := goodIn_app (goodIn_of _ (by decide +kernel)) ggX0_restless_X0_up
theorem dX0_restless_0 : decode cX0_restless 0 = .ok (.aload_n 0, 1) := by decide +kernel
theorem dX0_restless_1 : decode cX0_restless 1 = .ok (.aload_n 0, 1) := by decide +kernel
theorem dX0_restless_2 : decode cX0_restless 2 = .ok (.invokevirtual 60, 3) := by decide +kernel
theorem dX0_restless_5 : decode cX0_restless 5 = .ok (.invokevirtual 64, 3) := by decide +kernel
theorem dX0_restless_8 : decode cX0_restless 8 = .ok (.aload_n 0, 1) := by decide +kernel
theorem dX0_restless_9 : decode cX0_restless 9 = .ok (.invokevirtual 67, 3) := by decide +kernel
theorem dX0_restless_12 : decode cX0_restless 12 = .ok (.ixor, 1) := by decide +kernel
theorem dX0_restless_13 : decode cX0_restless 13 = .ok (.ireturn, 1) := by decide +kernel
set_option maxRecDepth 20000 in
theorem ggX0_counted_X0_isIn : GoodIn wsX0_counted wsX0_isIn := goodIn_r _ [9] (by decide +kernel) (by decide +kernel)
set_option maxRecDepth 20000 in
theorem gX0_counted_X0_isIn : GoodIn wsX0_counted (va_wsS RX0 70 yX0_isIn wsX0_isIn) := goodIn_app (goodIn_of _ (by decide +kernel)) ggX0_counted_X0_isIn
set_option maxRecDepth 20000 in
theorem ggX0_counted_X0_countIn : GoodIn wsX0_counted wsX0_countIn := goodIn_r _ [12] (by decide +kernel) (by decide +kernel)
set_option maxRecDepth 20000 in
theorem gX0_counted_X0_countIn : GoodIn wsX0_counted (va_wsS RX0 74 yX0_countIn wsX0_countIn) := goodIn_app (goodIn_of _ (by decide +kernel)) ggX0_counted_X0_countIn
set_option maxRecDepth 20000 in
theorem ggX0_counted_X0_withCount : GoodIn wsX0_counted wsX0_withCount := goodIn_r _ [15] (by decide +kernel) (by decide +kernel)
set_option maxRecDepth 20000 in
theorem gX0_counted_X0_withCount : GoodIn wsX0_counted (va_wsS RX0 82 yX0_withCount wsX0_withCount) := goodIn_app (goodIn_of _ (by decide +kernel)) ggX0_counted_X0_withCount
theorem dX0_counted_0 : decode cX0_counted 0 = .ok (.iload_n 1, 1) := by decide +kernel
theorem dX0_counted_1 : decode cX0_counted 1 = .ok (.istore_n 3, 1) := by decide +kernel
theorem dX0_counted_2 : decode cX0_counted 2 = .ok (.iconst 0, 1) := by decide +kernel
theorem dX0_counted_3 : decode cX0_counted 3 = .ok (.istore 4, 2) := by decide +kernel
theorem dX0_counted_5 : decode cX0_counted 5 = .ok (.iload 4, 2) := by decide +kernel
theorem dX0_counted_7 : decode cX0_counted 7 = .ok (.aload_n 0, 1) := by decide +kernel
theorem dX0_counted_8 : decode cX0_counted 8 = .ok (.getfield 30, 3) := by decide +kernel
theorem dX0_counted_11 : decode cX0_counted 11 = .ok (.if_icmp .ge 45, 3) := by decide +kernel
theorem dX0_counted_14 : decode cX0_counted 14 = .ok (.iconst 0, 1) := by decide +kernel
theorem dX0_counted_15 : decode cX0_counted 15 = .ok (.istore 5, 2) := by decide +kernel
theorem dX0_counted_17 : decode cX0_counted 17 = .ok (.iload_n 2, 1) := by decide +kernel
theorem dX0_counted_18 : decode cX0_counted 18 = .ok (.iload 4, 2) := by decide +kernel
theorem dX0_counted_20 : decode cX0_counted 20 = .ok (.invokestatic 70, 3) := by decide +kernel
theorem dX0_counted_23 : decode cX0_counted 23 = .ok (.ifCond .eq 18, 3) := by decide +kernel
theorem dX0_counted_26 : decode cX0_counted 26 = .ok (.iload_n 1, 1) := by decide +kernel
theorem dX0_counted_27 : decode cX0_counted 27 = .ok (.iload 4, 2) := by decide +kernel
theorem dX0_counted_29 : decode cX0_counted 29 = .ok (.invokestatic 74, 3) := by decide +kernel
theorem dX0_counted_32 : decode cX0_counted 32 = .ok (.iconst 1, 1) := by decide +kernel
theorem dX0_counted_33 : decode cX0_counted 33 = .ok (.iadd, 1) := by decide +kernel
theorem dX0_counted_34 : decode cX0_counted 34 = .ok (.bipush 10, 2) := by decide +kernel
theorem dX0_counted_36 : decode cX0_counted 36 = .ok (.invokestatic 77, 3) := by decide +kernel
theorem dX0_counted_39 : decode cX0_counted 39 = .ok (.istore 5, 2) := by decide +kernel
theorem dX0_counted_41 : decode cX0_counted 41 = .ok (.iload_n 3, 1) := by decide +kernel
theorem dX0_counted_42 : decode cX0_counted 42 = .ok (.iload 4, 2) := by decide +kernel
theorem dX0_counted_44 : decode cX0_counted 44 = .ok (.iload 5, 2) := by decide +kernel
theorem dX0_counted_46 : decode cX0_counted 46 = .ok (.invokestatic 82, 3) := by decide +kernel
theorem dX0_counted_49 : decode cX0_counted 49 = .ok (.istore_n 3, 1) := by decide +kernel
theorem dX0_counted_50 : decode cX0_counted 50 = .ok (.iinc 4 1, 3) := by decide +kernel
theorem dX0_counted_53 : decode cX0_counted 53 = .ok (.goto (-48), 3) := by decide +kernel
theorem dX0_counted_56 : decode cX0_counted 56 = .ok (.iload_n 3, 1) := by decide +kernel
theorem dX0_counted_57 : decode cX0_counted 57 = .ok (.ireturn, 1) := by decide +kernel
set_option maxRecDepth 20000 in
theorem ggX0_dueIn_X0_isIn : GoodIn wsX0_dueIn wsX0_isIn := goodIn_r _ [5] (by decide +kernel) (by decide +kernel)
set_option maxRecDepth 20000 in
theorem gX0_dueIn_X0_isIn : GoodIn wsX0_dueIn (va_wsS RX0 70 yX0_isIn wsX0_isIn) := goodIn_app (goodIn_of _ (by decide +kernel)) ggX0_dueIn_X0_isIn
set_option maxRecDepth 20000 in
theorem ggX0_dueIn_X0_countIn : GoodIn wsX0_dueIn wsX0_countIn := goodIn_r _ [8] (by decide +kernel) (by decide +kernel)
set_option maxRecDepth 20000 in
theorem gX0_dueIn_X0_countIn : GoodIn wsX0_dueIn (va_wsS RX0 74 yX0_countIn wsX0_countIn) := goodIn_app (goodIn_of _ (by decide +kernel)) ggX0_dueIn_X0_countIn
set_option maxRecDepth 20000 in
theorem ggX0_dueIn_X0_timeIn : GoodIn wsX0_dueIn wsX0_timeIn := goodIn_r _ [12, 13, 14, 15, 16, 17, 18, 19, 20, 21, 22, 23, 24, 25] (by decide +kernel) (by decide +kernel)
set_option maxRecDepth 20000 in
theorem gX0_dueIn_X0_timeIn : GoodIn wsX0_dueIn (wsV RX0 86 RX0 yX0_timeIn wsX0_timeIn) := goodIn_app (goodIn_of _ (by decide +kernel)) ggX0_dueIn_X0_timeIn
theorem dX0_dueIn_0 : decode cX0_dueIn 0 = .ok (.iconst 0, 1) := by decide +kernel
theorem dX0_dueIn_1 : decode cX0_dueIn 1 = .ok (.istore_n 3, 1) := by decide +kernel
theorem dX0_dueIn_2 : decode cX0_dueIn 2 = .ok (.iconst 0, 1) := by decide +kernel
theorem dX0_dueIn_3 : decode cX0_dueIn 3 = .ok (.istore 4, 2) := by decide +kernel
theorem dX0_dueIn_5 : decode cX0_dueIn 5 = .ok (.iload 4, 2) := by decide +kernel
theorem dX0_dueIn_7 : decode cX0_dueIn 7 = .ok (.aload_n 0, 1) := by decide +kernel
theorem dX0_dueIn_8 : decode cX0_dueIn 8 = .ok (.getfield 30, 3) := by decide +kernel
theorem dX0_dueIn_11 : decode cX0_dueIn 11 = .ok (.if_icmp .ge 41, 3) := by decide +kernel
theorem dX0_dueIn_14 : decode cX0_dueIn 14 = .ok (.iload_n 2, 1) := by decide +kernel
theorem dX0_dueIn_15 : decode cX0_dueIn 15 = .ok (.iload 4, 2) := by decide +kernel
theorem dX0_dueIn_17 : decode cX0_dueIn 17 = .ok (.invokestatic 70, 3) := by decide +kernel
theorem dX0_dueIn_20 : decode cX0_dueIn 20 = .ok (.ifCond .eq 26, 3) := by decide +kernel
theorem dX0_dueIn_23 : decode cX0_dueIn 23 = .ok (.iload_n 1, 1) := by decide +kernel
theorem dX0_dueIn_24 : decode cX0_dueIn 24 = .ok (.iload 4, 2) := by decide +kernel
theorem dX0_dueIn_26 : decode cX0_dueIn 26 = .ok (.invokestatic 74, 3) := by decide +kernel
theorem dX0_dueIn_29 : decode cX0_dueIn 29 = .ok (.aload_n 0, 1) := by decide +kernel
theorem dX0_dueIn_30 : decode cX0_dueIn 30 = .ok (.iload_n 1, 1) := by decide +kernel
theorem dX0_dueIn_31 : decode cX0_dueIn 31 = .ok (.iload 4, 2) := by decide +kernel
theorem dX0_dueIn_33 : decode cX0_dueIn 33 = .ok (.invokevirtual 86, 3) := by decide +kernel
theorem dX0_dueIn_36 : decode cX0_dueIn 36 = .ok (.if_icmp .le 10, 3) := by decide +kernel
theorem dX0_dueIn_39 : decode cX0_dueIn 39 = .ok (.iload_n 3, 1) := by decide +kernel
theorem dX0_dueIn_40 : decode cX0_dueIn 40 = .ok (.iconst 1, 1) := by decide +kernel
theorem dX0_dueIn_41 : decode cX0_dueIn 41 = .ok (.iload 4, 2) := by decide +kernel
theorem dX0_dueIn_43 : decode cX0_dueIn 43 = .ok (.ishl, 1) := by decide +kernel
theorem dX0_dueIn_44 : decode cX0_dueIn 44 = .ok (.ior, 1) := by decide +kernel
theorem dX0_dueIn_45 : decode cX0_dueIn 45 = .ok (.istore_n 3, 1) := by decide +kernel
theorem dX0_dueIn_46 : decode cX0_dueIn 46 = .ok (.iinc 4 1, 3) := by decide +kernel
theorem dX0_dueIn_49 : decode cX0_dueIn 49 = .ok (.goto (-44), 3) := by decide +kernel
theorem dX0_dueIn_52 : decode cX0_dueIn 52 = .ok (.iload_n 3, 1) := by decide +kernel
theorem dX0_dueIn_53 : decode cX0_dueIn 53 = .ok (.ireturn, 1) := by decide +kernel
theorem dX0_timeIn_0 : decode cX0_timeIn 0 = .ok (.iload_n 1, 1) := by decide +kernel
theorem dX0_timeIn_1 : decode cX0_timeIn 1 = .ok (.iload_n 2, 1) := by decide +kernel
theorem dX0_timeIn_2 : decode cX0_timeIn 2 = .ok (.ishr, 1) := by decide +kernel
theorem dX0_timeIn_3 : decode cX0_timeIn 3 = .ok (.iconst 1, 1) := by decide +kernel
theorem dX0_timeIn_4 : decode cX0_timeIn 4 = .ok (.iand, 1) := by decide +kernel
theorem dX0_timeIn_5 : decode cX0_timeIn 5 = .ok (.iconst 1, 1) := by decide +kernel
theorem dX0_timeIn_6 : decode cX0_timeIn 6 = .ok (.if_icmp .ne 12, 3) := by decide +kernel
theorem dX0_timeIn_9 : decode cX0_timeIn 9 = .ok (.aload_n 0, 1) := by decide +kernel
theorem dX0_timeIn_10 : decode cX0_timeIn 10 = .ok (.getfield 24, 3) := by decide +kernel
theorem dX0_timeIn_13 : decode cX0_timeIn 13 = .ok (.iload_n 2, 1) := by decide +kernel
theorem dX0_timeIn_14 : decode cX0_timeIn 14 = .ok (.iaload, 1) := by decide +kernel
theorem dX0_timeIn_15 : decode cX0_timeIn 15 = .ok (.goto 9, 3) := by decide +kernel
theorem dX0_timeIn_18 : decode cX0_timeIn 18 = .ok (.aload_n 0, 1) := by decide +kernel
theorem dX0_timeIn_19 : decode cX0_timeIn 19 = .ok (.getfield 21, 3) := by decide +kernel
theorem dX0_timeIn_22 : decode cX0_timeIn 22 = .ok (.iload_n 2, 1) := by decide +kernel
theorem dX0_timeIn_23 : decode cX0_timeIn 23 = .ok (.iaload, 1) := by decide +kernel
theorem dX0_timeIn_24 : decode cX0_timeIn 24 = .ok (.ireturn, 1) := by decide +kernel
set_option maxRecDepth 20000 in
theorem ggX0_turned_X0_isIn : GoodIn wsX0_turned wsX0_isIn := goodIn_r _ [5] (by decide +kernel) (by decide +kernel)
set_option maxRecDepth 20000 in
theorem gX0_turned_X0_isIn : GoodIn wsX0_turned (va_wsS RX0 70 yX0_isIn wsX0_isIn) := goodIn_app (goodIn_of _ (by decide +kernel)) ggX0_turned_X0_isIn
set_option maxRecDepth 20000 in
theorem ggX0_turned_X0_withCount : GoodIn wsX0_turned wsX0_withCount := goodIn_r _ [8] (by decide +kernel) (by decide +kernel)
set_option maxRecDepth 20000 in
theorem gX0_turned_X0_withCount : GoodIn wsX0_turned (va_wsS RX0 82 yX0_withCount wsX0_withCount) := goodIn_app (goodIn_of _ (by decide +kernel)) ggX0_turned_X0_withCount
theorem dX0_turned_0 : decode cX0_turned 0 = .ok (.iload_n 1, 1) := by decide +kernel
theorem dX0_turned_1 : decode cX0_turned 1 = .ok (.iload_n 2, 1) := by decide +kernel
theorem dX0_turned_2 : decode cX0_turned 2 = .ok (.ixor, 1) := by decide +kernel
theorem dX0_turned_3 : decode cX0_turned 3 = .ok (.istore_n 3, 1) := by decide +kernel
theorem dX0_turned_4 : decode cX0_turned 4 = .ok (.iconst 0, 1) := by decide +kernel
theorem dX0_turned_5 : decode cX0_turned 5 = .ok (.istore 4, 2) := by decide +kernel
theorem dX0_turned_7 : decode cX0_turned 7 = .ok (.iload 4, 2) := by decide +kernel
theorem dX0_turned_9 : decode cX0_turned 9 = .ok (.aload_n 0, 1) := by decide +kernel
theorem dX0_turned_10 : decode cX0_turned 10 = .ok (.getfield 30, 3) := by decide +kernel
theorem dX0_turned_13 : decode cX0_turned 13 = .ok (.if_icmp .ge 26, 3) := by decide +kernel
theorem dX0_turned_16 : decode cX0_turned 16 = .ok (.iload_n 2, 1) := by decide +kernel
theorem dX0_turned_17 : decode cX0_turned 17 = .ok (.iload 4, 2) := by decide +kernel
theorem dX0_turned_19 : decode cX0_turned 19 = .ok (.invokestatic 70, 3) := by decide +kernel
theorem dX0_turned_22 : decode cX0_turned 22 = .ok (.ifCond .eq 11, 3) := by decide +kernel
theorem dX0_turned_25 : decode cX0_turned 25 = .ok (.iload_n 3, 1) := by decide +kernel
theorem dX0_turned_26 : decode cX0_turned 26 = .ok (.iload 4, 2) := by decide +kernel
theorem dX0_turned_28 : decode cX0_turned 28 = .ok (.iconst 0, 1) := by decide +kernel
theorem dX0_turned_29 : decode cX0_turned 29 = .ok (.invokestatic 82, 3) := by decide +kernel
theorem dX0_turned_32 : decode cX0_turned 32 = .ok (.istore_n 3, 1) := by decide +kernel
theorem dX0_turned_33 : decode cX0_turned 33 = .ok (.iinc 4 1, 3) := by decide +kernel
theorem dX0_turned_36 : decode cX0_turned 36 = .ok (.goto (-29), 3) := by decide +kernel
theorem dX0_turned_39 : decode cX0_turned 39 = .ok (.iload_n 3, 1) := by decide +kernel
theorem dX0_turned_40 : decode cX0_turned 40 = .ok (.ireturn, 1) := by decide +kernel
set_option maxRecDepth 20000 in
theorem ggX0_tick_X0_restless : GoodIn wsX0_tick wsX0_restless := goodIn_r _ [10, 11, 12, 13, 9, 14, 15, 1, 16, 17, 18, 19, 20, 21, 22, 2, 23, 24, 25, 26, 27, 28, 29, 68, 69, 70, 71, 72, 73, 74, 75, 76, 77, 78] (by decide +kernel) (by decide +kernel)
set_option maxRecDepth 20000 in
theorem gX0_tick_X0_restless : GoodIn wsX0_tick (wsV RX0 89 RX0 yX0_restless wsX0_restless) := goodIn_app (goodIn_of _ (by decide +kernel)) ggX0_tick_X0_restless
set_option maxRecDepth 20000 in
theorem ggX0_tick_X0_counted : GoodIn wsX0_tick wsX0_counted := goodIn_r _ [33, 2, 34, 35, 36, 37, 38, 39, 9, 40, 41, 42, 43, 44, 45, 46, 68, 69, 70, 71, 72, 73, 74, 75, 76, 77, 78] (by decide +kernel) (by decide +kernel)
set_option maxRecDepth 20000 in
theorem gX0_tick_X0_counted : GoodIn wsX0_tick (wsV RX0 92 RX0 yX0_counted wsX0_counted) := goodIn_app (goodIn_of _ (by decide +kernel)) ggX0_tick_X0_counted
set_option maxRecDepth 20000 in
theorem ggX0_tick_X0_dueIn : GoodIn wsX0_tick wsX0_dueIn := goodIn_r _ [50, 2, 38, 39, 9, 40, 41, 42, 43, 51, 52, 53, 54, 55, 56, 68, 69, 70, 71, 72, 73, 74, 75, 76, 77, 78] (by decide +kernel) (by decide +kernel)
set_option maxRecDepth 20000 in
theorem gX0_tick_X0_dueIn : GoodIn wsX0_tick (wsV RX0 95 RX0 yX0_dueIn wsX0_dueIn) := goodIn_app (goodIn_of _ (by decide +kernel)) ggX0_tick_X0_dueIn
set_option maxRecDepth 20000 in
theorem ggX0_tick_X0_turned : GoodIn wsX0_tick wsX0_turned := goodIn_r _ [60, 2, 38, 39, 9, 40, 44, 45, 46, 68, 69, 70, 71, 72, 73, 74, 75, 76, 77, 78] (by decide +kernel) (by decide +kernel)
set_option maxRecDepth 20000 in
theorem gX0_tick_X0_turned : GoodIn wsX0_tick (wsV RX0 98 RX0 yX0_turned wsX0_turned) := goodIn_app (goodIn_of _ (by decide +kernel)) ggX0_tick_X0_turned
set_option maxRecDepth 20000 in
theorem ggX0_tick_J6_bitCount_0f7a4 : GoodIn wsX0_tick wsJ6_bitCount_0f7a4 := goodIn_r _ [64, 65, 66, 67] (by decide +kernel) (by decide +kernel)
set_option maxRecDepth 20000 in
theorem gX0_tick_J6_bitCount_0f7a4 : GoodIn wsX0_tick (va_wsS RX0 101 yJ6_bitCount_0f7a4 wsJ6_bitCount_0f7a4) := goodIn_app (goodIn_of _ (by decide +kernel)) ggX0_tick_J6_bitCount_0f7a4
theorem dX0_tick_0 : decode cX0_tick 0 = .ok (.aload_n 0, 1) := by decide +kernel
theorem dX0_tick_1 : decode cX0_tick 1 = .ok (.invokevirtual 89, 3) := by decide +kernel
theorem dX0_tick_4 : decode cX0_tick 4 = .ok (.istore_n 1, 1) := by decide +kernel
theorem dX0_tick_5 : decode cX0_tick 5 = .ok (.aload_n 0, 1) := by decide +kernel
theorem dX0_tick_6 : decode cX0_tick 6 = .ok (.aload_n 0, 1) := by decide +kernel
theorem dX0_tick_7 : decode cX0_tick 7 = .ok (.getfield 43, 3) := by decide +kernel
theorem dX0_tick_10 : decode cX0_tick 10 = .ok (.iload_n 1, 1) := by decide +kernel
theorem dX0_tick_11 : decode cX0_tick 11 = .ok (.invokevirtual 92, 3) := by decide +kernel
theorem dX0_tick_14 : decode cX0_tick 14 = .ok (.istore_n 2, 1) := by decide +kernel
theorem dX0_tick_15 : decode cX0_tick 15 = .ok (.aload_n 0, 1) := by decide +kernel
theorem dX0_tick_16 : decode cX0_tick 16 = .ok (.iload_n 2, 1) := by decide +kernel
theorem dX0_tick_17 : decode cX0_tick 17 = .ok (.iload_n 1, 1) := by decide +kernel
theorem dX0_tick_18 : decode cX0_tick 18 = .ok (.invokevirtual 95, 3) := by decide +kernel
theorem dX0_tick_21 : decode cX0_tick 21 = .ok (.istore_n 3, 1) := by decide +kernel
theorem dX0_tick_22 : decode cX0_tick 22 = .ok (.aload_n 0, 1) := by decide +kernel
theorem dX0_tick_23 : decode cX0_tick 23 = .ok (.aload_n 0, 1) := by decide +kernel
theorem dX0_tick_24 : decode cX0_tick 24 = .ok (.iload_n 2, 1) := by decide +kernel
theorem dX0_tick_25 : decode cX0_tick 25 = .ok (.iload_n 3, 1) := by decide +kernel
theorem dX0_tick_26 : decode cX0_tick 26 = .ok (.invokevirtual 98, 3) := by decide +kernel
theorem dX0_tick_29 : decode cX0_tick 29 = .ok (.putfield 43, 3) := by decide +kernel
theorem dX0_tick_32 : decode cX0_tick 32 = .ok (.iconst 0, 1) := by decide +kernel
theorem dX0_tick_33 : decode cX0_tick 33 = .ok (.istore 4, 2) := by decide +kernel
theorem dX0_tick_35 : decode cX0_tick 35 = .ok (.iload 4, 2) := by decide +kernel
theorem dX0_tick_37 : decode cX0_tick 37 = .ok (.aload_n 0, 1) := by decide +kernel
theorem dX0_tick_38 : decode cX0_tick 38 = .ok (.getfield 30, 3) := by decide +kernel
theorem dX0_tick_41 : decode cX0_tick 41 = .ok (.if_icmp .ge 25, 3) := by decide +kernel
theorem dX0_tick_44 : decode cX0_tick 44 = .ok (.aload_n 0, 1) := by decide +kernel
theorem dX0_tick_45 : decode cX0_tick 45 = .ok (.getfield 27, 3) := by decide +kernel
theorem dX0_tick_48 : decode cX0_tick 48 = .ok (.iload 4, 2) := by decide +kernel
theorem dX0_tick_50 : decode cX0_tick 50 = .ok (.dup2, 1) := by decide +kernel
theorem dX0_tick_51 : decode cX0_tick 51 = .ok (.iaload, 1) := by decide +kernel
theorem dX0_tick_52 : decode cX0_tick 52 = .ok (.iload_n 3, 1) := by decide +kernel
theorem dX0_tick_53 : decode cX0_tick 53 = .ok (.iload 4, 2) := by decide +kernel
theorem dX0_tick_55 : decode cX0_tick 55 = .ok (.ishr, 1) := by decide +kernel
theorem dX0_tick_56 : decode cX0_tick 56 = .ok (.iconst 1, 1) := by decide +kernel
theorem dX0_tick_57 : decode cX0_tick 57 = .ok (.iand, 1) := by decide +kernel
theorem dX0_tick_58 : decode cX0_tick 58 = .ok (.iadd, 1) := by decide +kernel
theorem dX0_tick_59 : decode cX0_tick 59 = .ok (.iastore, 1) := by decide +kernel
theorem dX0_tick_60 : decode cX0_tick 60 = .ok (.iinc 4 1, 3) := by decide +kernel
theorem dX0_tick_63 : decode cX0_tick 63 = .ok (.goto (-28), 3) := by decide +kernel
theorem dX0_tick_66 : decode cX0_tick 66 = .ok (.aload_n 0, 1) := by decide +kernel
theorem dX0_tick_67 : decode cX0_tick 67 = .ok (.dup, 1) := by decide +kernel
theorem dX0_tick_68 : decode cX0_tick 68 = .ok (.getfield 49, 3) := by decide +kernel
theorem dX0_tick_71 : decode cX0_tick 71 = .ok (.iload_n 3, 1) := by decide +kernel
theorem dX0_tick_72 : decode cX0_tick 72 = .ok (.invokestatic 101, 3) := by decide +kernel
theorem dX0_tick_75 : decode cX0_tick 75 = .ok (.iadd, 1) := by decide +kernel
theorem dX0_tick_76 : decode cX0_tick 76 = .ok (.putfield 49, 3) := by decide +kernel
theorem dX0_tick_79 : decode cX0_tick 79 = .ok (.aload_n 0, 1) := by decide +kernel
theorem dX0_tick_80 : decode cX0_tick 80 = .ok (.dup, 1) := by decide +kernel
theorem dX0_tick_81 : decode cX0_tick 81 = .ok (.getfield 46, 3) := by decide +kernel
theorem dX0_tick_84 : decode cX0_tick 84 = .ok (.iconst 1, 1) := by decide +kernel
theorem dX0_tick_85 : decode cX0_tick 85 = .ok (.iadd, 1) := by decide +kernel
theorem dX0_tick_86 : decode cX0_tick 86 = .ok (.putfield 46, 3) := by decide +kernel
theorem dX0_tick_89 : decode cX0_tick 89 = .ok (.return_, 1) := by decide +kernel
set_option maxRecDepth 20000 in
theorem ggX0_ticksToQuiet_X0_restless : GoodIn wsX0_ticksToQuiet wsX0_restless := goodIn_r _ [5, 6, 7, 8, 4, 9, 10, 11, 12, 13, 14, 15, 16, 17, 18, 19, 20, 21, 22, 23, 24, 25, 26, 72, 73, 74, 75, 76, 77, 78, 79, 80, 81, 82] (by decide +kernel) (by decide +kernel)
set_option maxRecDepth 20000 in
theorem gX0_ticksToQuiet_X0_restless : GoodIn wsX0_ticksToQuiet (wsV RX0 89 RX0 yX0_restless wsX0_restless) := goodIn_app (goodIn_of _ (by decide +kernel)) ggX0_ticksToQuiet_X0_restless
set_option maxRecDepth 20000 in
theorem ggX0_ticksToQuiet_X0_tick : GoodIn wsX0_ticksToQuiet wsX0_tick := goodIn_r _ [30, 11, 19, 31, 32, 33, 1, 2, 3, 4, 5, 6, 7, 8, 9, 10, 12, 13, 14, 15, 16, 17, 18, 20, 21, 22, 23, 24, 25, 26, 34, 35, 36, 37, 38, 39, 40, 41, 42, 43, 44, 45, 46, 47, 48, 49, 50, 51, 52, 53, 54, 55, 56, 57, 58, 59, 60, 61, 62, 63, 64, 65, 66, 67, 68, 69, 70, 71, 72, 73, 74, 75, 76, 77, 78, 79, 80, 81, 82] (by decide +kernel) (by decide +kernel)
set_option maxRecDepth 20000 in
theorem gX0_ticksToQuiet_X0_tick : GoodIn wsX0_ticksToQuiet (wsV RX0 106 RX0 yX0_tick wsX0_tick) := goodIn_app (goodIn_of _ (by decide +kernel)) ggX0_ticksToQuiet_X0_tick
theorem dX0_ticksToQuiet_0 : decode cX0_ticksToQuiet 0 = .ok (.iconst 0, 1) := by decide +kernel
theorem dX0_ticksToQuiet_1 : decode cX0_ticksToQuiet 1 = .ok (.istore_n 1, 1) := by decide +kernel
theorem dX0_ticksToQuiet_2 : decode cX0_ticksToQuiet 2 = .ok (.iload_n 1, 1) := by decide +kernel
theorem dX0_ticksToQuiet_3 : decode cX0_ticksToQuiet 3 = .ok (.sipush 200, 3) := by decide +kernel
theorem dX0_ticksToQuiet_6 : decode cX0_ticksToQuiet 6 = .ok (.if_icmp .gt 22, 3) := by decide +kernel
theorem dX0_ticksToQuiet_9 : decode cX0_ticksToQuiet 9 = .ok (.aload_n 0, 1) := by decide +kernel
theorem dX0_ticksToQuiet_10 : decode cX0_ticksToQuiet 10 = .ok (.invokevirtual 89, 3) := by decide +kernel
theorem dX0_ticksToQuiet_13 : decode cX0_ticksToQuiet 13 = .ok (.ifCond .ne 5, 3) := by decide +kernel
theorem dX0_ticksToQuiet_16 : decode cX0_ticksToQuiet 16 = .ok (.iload_n 1, 1) := by decide +kernel
theorem dX0_ticksToQuiet_17 : decode cX0_ticksToQuiet 17 = .ok (.ireturn, 1) := by decide +kernel
theorem dX0_ticksToQuiet_18 : decode cX0_ticksToQuiet 18 = .ok (.aload_n 0, 1) := by decide +kernel
theorem dX0_ticksToQuiet_19 : decode cX0_ticksToQuiet 19 = .ok (.invokevirtual 106, 3) := by decide +kernel
theorem dX0_ticksToQuiet_22 : decode cX0_ticksToQuiet 22 = .ok (.iinc 1 1, 3) := by decide +kernel
theorem dX0_ticksToQuiet_25 : decode cX0_ticksToQuiet 25 = .ok (.goto (-23), 3) := by decide +kernel
theorem dX0_ticksToQuiet_28 : decode cX0_ticksToQuiet 28 = .ok (.iconst (-1), 1) := by decide +kernel
theorem dX0_ticksToQuiet_29 : decode cX0_ticksToQuiet 29 = .ok (.ireturn, 1) := by decide +kernel
set_option maxRecDepth 20000 in
theorem ggX0_holdsItself_X0_placeOf : GoodIn wsX0_holdsItself wsX0_placeOf := goodIn_r _ [6] (by decide +kernel) (by decide +kernel)
set_option maxRecDepth 20000 in
theorem gX0_holdsItself_X0_placeOf : GoodIn wsX0_holdsItself (va_wsS RX0 52 yX0_placeOf wsX0_placeOf) := goodIn_app (goodIn_of _ (by decide +kernel)) ggX0_holdsItself_X0_placeOf
theorem dX0_holdsItself_0 : decode cX0_holdsItself 0 = .ok (.iconst 1, 1) := by decide +kernel
theorem dX0_holdsItself_1 : decode cX0_holdsItself 1 = .ok (.iconst 4, 1) := by decide +kernel
theorem dX0_holdsItself_2 : decode cX0_holdsItself 2 = .ok (.iload_n 1, 1) := by decide +kernel
theorem dX0_holdsItself_3 : decode cX0_holdsItself 3 = .ok (.iadd, 1) := by decide +kernel
theorem dX0_holdsItself_4 : decode cX0_holdsItself 4 = .ok (.ishl, 1) := by decide +kernel
theorem dX0_holdsItself_5 : decode cX0_holdsItself 5 = .ok (.istore_n 2, 1) := by decide +kernel
theorem dX0_holdsItself_6 : decode cX0_holdsItself 6 = .ok (.iconst 0, 1) := by decide +kernel
theorem dX0_holdsItself_7 : decode cX0_holdsItself 7 = .ok (.istore_n 3, 1) := by decide +kernel
theorem dX0_holdsItself_8 : decode cX0_holdsItself 8 = .ok (.iload_n 3, 1) := by decide +kernel
theorem dX0_holdsItself_9 : decode cX0_holdsItself 9 = .ok (.aload_n 0, 1) := by decide +kernel
theorem dX0_holdsItself_10 : decode cX0_holdsItself 10 = .ok (.getfield 9, 3) := by decide +kernel
theorem dX0_holdsItself_13 : decode cX0_holdsItself 13 = .ok (.iload_n 1, 1) := by decide +kernel
theorem dX0_holdsItself_14 : decode cX0_holdsItself 14 = .ok (.iaload, 1) := by decide +kernel
theorem dX0_holdsItself_15 : decode cX0_holdsItself 15 = .ok (.if_icmp .ge 26, 3) := by decide +kernel
theorem dX0_holdsItself_18 : decode cX0_holdsItself 18 = .ok (.aload_n 0, 1) := by decide +kernel
theorem dX0_holdsItself_19 : decode cX0_holdsItself 19 = .ok (.getfield 15, 3) := by decide +kernel
theorem dX0_holdsItself_22 : decode cX0_holdsItself 22 = .ok (.iload_n 1, 1) := by decide +kernel
theorem dX0_holdsItself_23 : decode cX0_holdsItself 23 = .ok (.iload_n 3, 1) := by decide +kernel
theorem dX0_holdsItself_24 : decode cX0_holdsItself 24 = .ok (.invokestatic 52, 3) := by decide +kernel
theorem dX0_holdsItself_27 : decode cX0_holdsItself 27 = .ok (.iaload, 1) := by decide +kernel
theorem dX0_holdsItself_28 : decode cX0_holdsItself 28 = .ok (.iload_n 2, 1) := by decide +kernel
theorem dX0_holdsItself_29 : decode cX0_holdsItself 29 = .ok (.iand, 1) := by decide +kernel
theorem dX0_holdsItself_30 : decode cX0_holdsItself 30 = .ok (.ifCond .eq 5, 3) := by decide +kernel
theorem dX0_holdsItself_33 : decode cX0_holdsItself 33 = .ok (.iconst 1, 1) := by decide +kernel
theorem dX0_holdsItself_34 : decode cX0_holdsItself 34 = .ok (.ireturn, 1) := by decide +kernel
theorem dX0_holdsItself_35 : decode cX0_holdsItself 35 = .ok (.iinc 3 1, 3) := by decide +kernel
theorem dX0_holdsItself_38 : decode cX0_holdsItself 38 = .ok (.goto (-30), 3) := by decide +kernel
theorem dX0_holdsItself_41 : decode cX0_holdsItself 41 = .ok (.iconst 0, 1) := by decide +kernel
theorem dX0_holdsItself_42 : decode cX0_holdsItself 42 = .ok (.ireturn, 1) := by decide +kernel
set_option maxRecDepth 20000 in
theorem ggX0_ticksUntilDue_X0_restless : GoodIn wsX0_ticksUntilDue wsX0_restless := goodIn_r _ [10, 11, 12, 13, 9, 14, 15, 1, 16, 17, 18, 19, 20, 21, 22, 23, 24, 25, 26, 27, 28, 29, 30, 43, 44, 45, 46, 47, 48, 49, 50, 51, 52, 53] (by decide +kernel) (by decide +kernel)
set_option maxRecDepth 20000 in
theorem gX0_ticksUntilDue_X0_restless : GoodIn wsX0_ticksUntilDue (wsV RX0 89 RX0 yX0_restless wsX0_restless) := goodIn_app (goodIn_of _ (by decide +kernel)) ggX0_ticksUntilDue_X0_restless
set_option maxRecDepth 20000 in
theorem ggX0_ticksUntilDue_X0_isIn : GoodIn wsX0_ticksUntilDue wsX0_isIn := goodIn_r _ [33] (by decide +kernel) (by decide +kernel)
set_option maxRecDepth 20000 in
theorem gX0_ticksUntilDue_X0_isIn : GoodIn wsX0_ticksUntilDue (va_wsS RX0 70 yX0_isIn wsX0_isIn) := goodIn_app (goodIn_of _ (by decide +kernel)) ggX0_ticksUntilDue_X0_isIn
set_option maxRecDepth 20000 in
theorem ggX0_ticksUntilDue_X0_timeIn : GoodIn wsX0_ticksUntilDue wsX0_timeIn := goodIn_r _ [37, 38, 39, 43, 44, 45, 46, 47, 48, 49, 50, 51, 52, 53] (by decide +kernel) (by decide +kernel)
set_option maxRecDepth 20000 in
theorem gX0_ticksUntilDue_X0_timeIn : GoodIn wsX0_ticksUntilDue (wsV RX0 86 RX0 yX0_timeIn wsX0_timeIn) := goodIn_app (goodIn_of _ (by decide +kernel)) ggX0_ticksUntilDue_X0_timeIn
set_option maxRecDepth 20000 in
theorem ggX0_ticksUntilDue_X0_countIn : GoodIn wsX0_ticksUntilDue wsX0_countIn := goodIn_r _ [42] (by decide +kernel) (by decide +kernel)
set_option maxRecDepth 20000 in
theorem gX0_ticksUntilDue_X0_countIn : GoodIn wsX0_ticksUntilDue (va_wsS RX0 74 yX0_countIn wsX0_countIn) := goodIn_app (goodIn_of _ (by decide +kernel)) ggX0_ticksUntilDue_X0_countIn
theorem dX0_ticksUntilDue_0 : decode cX0_ticksUntilDue 0 = .ok (.aload_n 0, 1) := by decide +kernel
theorem dX0_ticksUntilDue_1 : decode cX0_ticksUntilDue 1 = .ok (.invokevirtual 89, 3) := by decide +kernel
theorem dX0_ticksUntilDue_4 : decode cX0_ticksUntilDue 4 = .ok (.iload_n 1, 1) := by decide +kernel
theorem dX0_ticksUntilDue_5 : decode cX0_ticksUntilDue 5 = .ok (.invokestatic 70, 3) := by decide +kernel
theorem dX0_ticksUntilDue_8 : decode cX0_ticksUntilDue 8 = .ok (.ifCond .ne 5, 3) := by decide +kernel
theorem dX0_ticksUntilDue_11 : decode cX0_ticksUntilDue 11 = .ok (.iconst 0, 1) := by decide +kernel
theorem dX0_ticksUntilDue_12 : decode cX0_ticksUntilDue 12 = .ok (.ireturn, 1) := by decide +kernel
theorem dX0_ticksUntilDue_13 : decode cX0_ticksUntilDue 13 = .ok (.iconst 1, 1) := by decide +kernel
theorem dX0_ticksUntilDue_14 : decode cX0_ticksUntilDue 14 = .ok (.aload_n 0, 1) := by decide +kernel
theorem dX0_ticksUntilDue_15 : decode cX0_ticksUntilDue 15 = .ok (.aload_n 0, 1) := by decide +kernel
theorem dX0_ticksUntilDue_16 : decode cX0_ticksUntilDue 16 = .ok (.getfield 43, 3) := by decide +kernel
theorem dX0_ticksUntilDue_19 : decode cX0_ticksUntilDue 19 = .ok (.iload_n 1, 1) := by decide +kernel
theorem dX0_ticksUntilDue_20 : decode cX0_ticksUntilDue 20 = .ok (.invokevirtual 86, 3) := by decide +kernel
theorem dX0_ticksUntilDue_23 : decode cX0_ticksUntilDue 23 = .ok (.iconst 1, 1) := by decide +kernel
theorem dX0_ticksUntilDue_24 : decode cX0_ticksUntilDue 24 = .ok (.iadd, 1) := by decide +kernel
theorem dX0_ticksUntilDue_25 : decode cX0_ticksUntilDue 25 = .ok (.aload_n 0, 1) := by decide +kernel
theorem dX0_ticksUntilDue_26 : decode cX0_ticksUntilDue 26 = .ok (.getfield 43, 3) := by decide +kernel
theorem dX0_ticksUntilDue_29 : decode cX0_ticksUntilDue 29 = .ok (.iload_n 1, 1) := by decide +kernel
theorem dX0_ticksUntilDue_30 : decode cX0_ticksUntilDue 30 = .ok (.invokestatic 74, 3) := by decide +kernel
theorem dX0_ticksUntilDue_33 : decode cX0_ticksUntilDue 33 = .ok (.isub, 1) := by decide +kernel
theorem dX0_ticksUntilDue_34 : decode cX0_ticksUntilDue 34 = .ok (.invokestatic 109, 3) := by decide +kernel
theorem dX0_ticksUntilDue_37 : decode cX0_ticksUntilDue 37 = .ok (.ireturn, 1) := by decide +kernel
theorem dX0_allBranches_0 : decode cX0_allBranches 0 = .ok (.iconst 0, 1) := by decide +kernel
theorem dX0_allBranches_1 : decode cX0_allBranches 1 = .ok (.istore_n 1, 1) := by decide +kernel
theorem dX0_allBranches_2 : decode cX0_allBranches 2 = .ok (.iconst 0, 1) := by decide +kernel
theorem dX0_allBranches_3 : decode cX0_allBranches 3 = .ok (.istore_n 2, 1) := by decide +kernel
theorem dX0_allBranches_4 : decode cX0_allBranches 4 = .ok (.iload_n 2, 1) := by decide +kernel
theorem dX0_allBranches_5 : decode cX0_allBranches 5 = .ok (.aload_n 0, 1) := by decide +kernel
theorem dX0_allBranches_6 : decode cX0_allBranches 6 = .ok (.getfield 30, 3) := by decide +kernel
theorem dX0_allBranches_9 : decode cX0_allBranches 9 = .ok (.if_icmp .ge 18, 3) := by decide +kernel
theorem dX0_allBranches_12 : decode cX0_allBranches 12 = .ok (.iload_n 1, 1) := by decide +kernel
theorem dX0_allBranches_13 : decode cX0_allBranches 13 = .ok (.aload_n 0, 1) := by decide +kernel
theorem dX0_allBranches_14 : decode cX0_allBranches 14 = .ok (.getfield 9, 3) := by decide +kernel
theorem dX0_allBranches_17 : decode cX0_allBranches 17 = .ok (.iload_n 2, 1) := by decide +kernel
theorem dX0_allBranches_18 : decode cX0_allBranches 18 = .ok (.iaload, 1) := by decide +kernel
theorem dX0_allBranches_19 : decode cX0_allBranches 19 = .ok (.iadd, 1) := by decide +kernel
theorem dX0_allBranches_20 : decode cX0_allBranches 20 = .ok (.istore_n 1, 1) := by decide +kernel
theorem dX0_allBranches_21 : decode cX0_allBranches 21 = .ok (.iinc 2 1, 3) := by decide +kernel
theorem dX0_allBranches_24 : decode cX0_allBranches 24 = .ok (.goto (-20), 3) := by decide +kernel
theorem dX0_allBranches_27 : decode cX0_allBranches 27 = .ok (.iload_n 1, 1) := by decide +kernel
theorem dX0_allBranches_28 : decode cX0_allBranches 28 = .ok (.ireturn, 1) := by decide +kernel
set_option maxRecDepth 20000 in
theorem ggX0_allContacts_X0_placeOf : GoodIn wsX0_allContacts wsX0_placeOf := goodIn_r _ [8] (by decide +kernel) (by decide +kernel)
set_option maxRecDepth 20000 in
theorem gX0_allContacts_X0_placeOf : GoodIn wsX0_allContacts (va_wsS RX0 52 yX0_placeOf wsX0_placeOf) := goodIn_app (goodIn_of _ (by decide +kernel)) ggX0_allContacts_X0_placeOf
set_option maxRecDepth 20000 in
theorem ggX0_allContacts_J6_bitCount_0f7a4 : GoodIn wsX0_allContacts wsJ6_bitCount_0f7a4 := goodIn_r _ [12, 13, 14, 15] (by decide +kernel) (by decide +kernel)
set_option maxRecDepth 20000 in
theorem gX0_allContacts_J6_bitCount_0f7a4 : GoodIn wsX0_allContacts (va_wsS RX0 101 yJ6_bitCount_0f7a4 wsJ6_bitCount_0f7a4) := goodIn_app (goodIn_of _ (by decide +kernel)) ggX0_allContacts_J6_bitCount_0f7a4
theorem dX0_allContacts_0 : decode cX0_allContacts 0 = .ok (.iconst 0, 1) := by decide +kernel
theorem dX0_allContacts_1 : decode cX0_allContacts 1 = .ok (.istore_n 1, 1) := by decide +kernel
theorem dX0_allContacts_2 : decode cX0_allContacts 2 = .ok (.iconst 0, 1) := by decide +kernel
theorem dX0_allContacts_3 : decode cX0_allContacts 3 = .ok (.istore_n 2, 1) := by decide +kernel
theorem dX0_allContacts_4 : decode cX0_allContacts 4 = .ok (.iload_n 2, 1) := by decide +kernel
theorem dX0_allContacts_5 : decode cX0_allContacts 5 = .ok (.aload_n 0, 1) := by decide +kernel
theorem dX0_allContacts_6 : decode cX0_allContacts 6 = .ok (.getfield 30, 3) := by decide +kernel
theorem dX0_allContacts_9 : decode cX0_allContacts 9 = .ok (.if_icmp .ge 58, 3) := by decide +kernel
theorem dX0_allContacts_12 : decode cX0_allContacts 12 = .ok (.iconst 0, 1) := by decide +kernel
theorem dX0_allContacts_13 : decode cX0_allContacts 13 = .ok (.istore_n 3, 1) := by decide +kernel
theorem dX0_allContacts_14 : decode cX0_allContacts 14 = .ok (.iload_n 3, 1) := by decide +kernel
theorem dX0_allContacts_15 : decode cX0_allContacts 15 = .ok (.aload_n 0, 1) := by decide +kernel
theorem dX0_allContacts_16 : decode cX0_allContacts 16 = .ok (.getfield 9, 3) := by decide +kernel
theorem dX0_allContacts_19 : decode cX0_allContacts 19 = .ok (.iload_n 2, 1) := by decide +kernel
theorem dX0_allContacts_20 : decode cX0_allContacts 20 = .ok (.iaload, 1) := by decide +kernel
theorem dX0_allContacts_21 : decode cX0_allContacts 21 = .ok (.if_icmp .ge 40, 3) := by decide +kernel
theorem dX0_allContacts_24 : decode cX0_allContacts 24 = .ok (.iload_n 2, 1) := by decide +kernel
theorem dX0_allContacts_25 : decode cX0_allContacts 25 = .ok (.iload_n 3, 1) := by decide +kernel
theorem dX0_allContacts_26 : decode cX0_allContacts 26 = .ok (.invokestatic 52, 3) := by decide +kernel
theorem dX0_allContacts_29 : decode cX0_allContacts 29 = .ok (.istore 4, 2) := by decide +kernel
theorem dX0_allContacts_31 : decode cX0_allContacts 31 = .ok (.iload_n 1, 1) := by decide +kernel
theorem dX0_allContacts_32 : decode cX0_allContacts 32 = .ok (.aload_n 0, 1) := by decide +kernel
theorem dX0_allContacts_33 : decode cX0_allContacts 33 = .ok (.getfield 15, 3) := by decide +kernel
theorem dX0_allContacts_36 : decode cX0_allContacts 36 = .ok (.iload 4, 2) := by decide +kernel
theorem dX0_allContacts_38 : decode cX0_allContacts 38 = .ok (.iaload, 1) := by decide +kernel
theorem dX0_allContacts_39 : decode cX0_allContacts 39 = .ok (.invokestatic 101, 3) := by decide +kernel
theorem dX0_allContacts_42 : decode cX0_allContacts 42 = .ok (.aload_n 0, 1) := by decide +kernel
theorem dX0_allContacts_43 : decode cX0_allContacts 43 = .ok (.getfield 18, 3) := by decide +kernel
theorem dX0_allContacts_46 : decode cX0_allContacts 46 = .ok (.iload 4, 2) := by decide +kernel
theorem dX0_allContacts_48 : decode cX0_allContacts 48 = .ok (.iaload, 1) := by decide +kernel
theorem dX0_allContacts_49 : decode cX0_allContacts 49 = .ok (.invokestatic 101, 3) := by decide +kernel
theorem dX0_allContacts_52 : decode cX0_allContacts 52 = .ok (.iadd, 1) := by decide +kernel
theorem dX0_allContacts_53 : decode cX0_allContacts 53 = .ok (.iadd, 1) := by decide +kernel
theorem dX0_allContacts_54 : decode cX0_allContacts 54 = .ok (.istore_n 1, 1) := by decide +kernel
theorem dX0_allContacts_55 : decode cX0_allContacts 55 = .ok (.iinc 3 1, 3) := by decide +kernel
theorem dX0_allContacts_58 : decode cX0_allContacts 58 = .ok (.goto (-44), 3) := by decide +kernel
theorem dX0_allContacts_61 : decode cX0_allContacts 61 = .ok (.iinc 2 1, 3) := by decide +kernel
theorem dX0_allContacts_64 : decode cX0_allContacts 64 = .ok (.goto (-60), 3) := by decide +kernel
theorem dX0_allContacts_67 : decode cX0_allContacts 67 = .ok (.iload_n 1, 1) := by decide +kernel
theorem dX0_allContacts_68 : decode cX0_allContacts 68 = .ok (.ireturn, 1) := by decide +kernel
set_option maxRecDepth 20000 in
theorem ggX0_idleBranch_X0_branchesLeadingAlone : GoodIn wsX0_idleBranch wsX0_branchesLeadingAlone := goodIn_r _ [6, 7, 8, 9, 5, 10, 1, 11, 12, 13, 14, 15, 16, 17, 18, 19, 20, 21, 22, 23, 24, 25, 26, 27, 28, 29, 30, 34, 35, 36, 37, 38, 39, 40, 41, 42, 43, 44] (by decide +kernel) (by decide +kernel)
set_option maxRecDepth 20000 in
theorem gX0_idleBranch_X0_branchesLeadingAlone : GoodIn wsX0_idleBranch (wsV RX0 112 RX0 yX0_branchesLeadingAlone wsX0_branchesLeadingAlone) := goodIn_app (goodIn_of _ (by decide +kernel)) ggX0_idleBranch_X0_branchesLeadingAlone
set_option maxRecDepth 20000 in
theorem ggX0_idleBranch_X0_isIn : GoodIn wsX0_idleBranch wsX0_isIn := goodIn_r _ [33] (by decide +kernel) (by decide +kernel)
set_option maxRecDepth 20000 in
theorem gX0_idleBranch_X0_isIn : GoodIn wsX0_idleBranch (va_wsS RX0 70 yX0_isIn wsX0_isIn) := goodIn_app (goodIn_of _ (by decide +kernel)) ggX0_idleBranch_X0_isIn
theorem dX0_idleBranch_0 : decode cX0_idleBranch 0 = .ok (.aload_n 0, 1) := by decide +kernel
theorem dX0_idleBranch_1 : decode cX0_idleBranch 1 = .ok (.iload_n 1, 1) := by decide +kernel
theorem dX0_idleBranch_2 : decode cX0_idleBranch 2 = .ok (.invokevirtual 112, 3) := by decide +kernel
theorem dX0_idleBranch_5 : decode cX0_idleBranch 5 = .ok (.istore_n 2, 1) := by decide +kernel
theorem dX0_idleBranch_6 : decode cX0_idleBranch 6 = .ok (.iconst 0, 1) := by decide +kernel
theorem dX0_idleBranch_7 : decode cX0_idleBranch 7 = .ok (.istore_n 3, 1) := by decide +kernel
theorem dX0_idleBranch_8 : decode cX0_idleBranch 8 = .ok (.iload_n 3, 1) := by decide +kernel
theorem dX0_idleBranch_9 : decode cX0_idleBranch 9 = .ok (.aload_n 0, 1) := by decide +kernel
theorem dX0_idleBranch_10 : decode cX0_idleBranch 10 = .ok (.getfield 9, 3) := by decide +kernel
theorem dX0_idleBranch_13 : decode cX0_idleBranch 13 = .ok (.iload_n 1, 1) := by decide +kernel
theorem dX0_idleBranch_14 : decode cX0_idleBranch 14 = .ok (.iaload, 1) := by decide +kernel
theorem dX0_idleBranch_15 : decode cX0_idleBranch 15 = .ok (.if_icmp .ge 19, 3) := by decide +kernel
theorem dX0_idleBranch_18 : decode cX0_idleBranch 18 = .ok (.iload_n 2, 1) := by decide +kernel
theorem dX0_idleBranch_19 : decode cX0_idleBranch 19 = .ok (.iload_n 3, 1) := by decide +kernel
theorem dX0_idleBranch_20 : decode cX0_idleBranch 20 = .ok (.invokestatic 70, 3) := by decide +kernel
theorem dX0_idleBranch_23 : decode cX0_idleBranch 23 = .ok (.ifCond .ne 5, 3) := by decide +kernel
theorem dX0_idleBranch_26 : decode cX0_idleBranch 26 = .ok (.iload_n 3, 1) := by decide +kernel
theorem dX0_idleBranch_27 : decode cX0_idleBranch 27 = .ok (.ireturn, 1) := by decide +kernel
theorem dX0_idleBranch_28 : decode cX0_idleBranch 28 = .ok (.iinc 3 1, 3) := by decide +kernel
theorem dX0_idleBranch_31 : decode cX0_idleBranch 31 = .ok (.goto (-23), 3) := by decide +kernel
theorem dX0_idleBranch_34 : decode cX0_idleBranch 34 = .ok (.iconst (-1), 1) := by decide +kernel
theorem dX0_idleBranch_35 : decode cX0_idleBranch 35 = .ok (.ireturn, 1) := by decide +kernel
set_option maxRecDepth 20000 in
theorem ggX0_branchesLeadingAlone_X0_contactsOf : GoodIn wsX0_branchesLeadingAlone wsX0_contactsOf := goodIn_r _ [5, 6, 7, 8, 9, 10, 4, 11, 27, 28, 29, 30, 31, 32, 33, 34, 35, 36, 37] (by decide +kernel) (by decide +kernel)
set_option maxRecDepth 20000 in
theorem gX0_branchesLeadingAlone_X0_contactsOf : GoodIn wsX0_branchesLeadingAlone (wsV RX0 115 RX0 yX0_contactsOf wsX0_contactsOf) := goodIn_app (goodIn_of _ (by decide +kernel)) ggX0_branchesLeadingAlone_X0_contactsOf
set_option maxRecDepth 20000 in
theorem ggX0_branchesLeadingAlone_X0_branchesThatLead : GoodIn wsX0_branchesLeadingAlone wsX0_branchesThatLead := goodIn_r _ [15, 6, 9, 10, 4, 11, 16, 17, 18, 19, 7, 8, 27, 28, 29, 30, 31, 32, 33, 34, 35, 36, 37] (by decide +kernel) (by decide +kernel)
set_option maxRecDepth 20000 in
theorem gX0_branchesLeadingAlone_X0_branchesThatLead : GoodIn wsX0_branchesLeadingAlone (wsV RX0 118 RX0 yX0_branchesThatLead wsX0_branchesThatLead) := goodIn_app (goodIn_of _ (by decide +kernel)) ggX0_branchesLeadingAlone_X0_branchesThatLead
set_option maxRecDepth 20000 in
theorem ggX0_branchesLeadingAlone_J6_bitCount_0f7a4 : GoodIn wsX0_branchesLeadingAlone wsJ6_bitCount_0f7a4 := goodIn_r _ [23, 24, 25, 26] (by decide +kernel) (by decide +kernel)
set_option maxRecDepth 20000 in
theorem gX0_branchesLeadingAlone_J6_bitCount_0f7a4 : GoodIn wsX0_branchesLeadingAlone (va_wsS RX0 101 yJ6_bitCount_0f7a4 wsJ6_bitCount_0f7a4) := goodIn_app (goodIn_of _ (by decide +kernel)) ggX0_branchesLeadingAlone_J6_bitCount_0f7a4
theorem dX0_branchesLeadingAlone_0 : decode cX0_branchesLeadingAlone 0 = .ok (.aload_n 0, 1) := by decide +kernel
theorem dX0_branchesLeadingAlone_1 : decode cX0_branchesLeadingAlone 1 = .ok (.iload_n 1, 1) := by decide +kernel
theorem dX0_branchesLeadingAlone_2 : decode cX0_branchesLeadingAlone 2 = .ok (.invokevirtual 115, 3) := by decide +kernel
theorem dX0_branchesLeadingAlone_5 : decode cX0_branchesLeadingAlone 5 = .ok (.istore_n 2, 1) := by decide +kernel
theorem dX0_branchesLeadingAlone_6 : decode cX0_branchesLeadingAlone 6 = .ok (.iconst 0, 1) := by decide +kernel
theorem dX0_branchesLeadingAlone_7 : decode cX0_branchesLeadingAlone 7 = .ok (.istore_n 3, 1) := by decide +kernel
theorem dX0_branchesLeadingAlone_8 : decode cX0_branchesLeadingAlone 8 = .ok (.iconst 0, 1) := by decide +kernel
theorem dX0_branchesLeadingAlone_9 : decode cX0_branchesLeadingAlone 9 = .ok (.istore 4, 2) := by decide +kernel
theorem dX0_branchesLeadingAlone_11 : decode cX0_branchesLeadingAlone 11 = .ok (.iconst 0, 1) := by decide +kernel
theorem dX0_branchesLeadingAlone_12 : decode cX0_branchesLeadingAlone 12 = .ok (.istore 5, 2) := by decide +kernel
theorem dX0_branchesLeadingAlone_14 : decode cX0_branchesLeadingAlone 14 = .ok (.iload 5, 2) := by decide +kernel
theorem dX0_branchesLeadingAlone_16 : decode cX0_branchesLeadingAlone 16 = .ok (.sipush 1023, 3) := by decide +kernel
theorem dX0_branchesLeadingAlone_19 : decode cX0_branchesLeadingAlone 19 = .ok (.if_icmp .gt 48, 3) := by decide +kernel
theorem dX0_branchesLeadingAlone_22 : decode cX0_branchesLeadingAlone 22 = .ok (.aload_n 0, 1) := by decide +kernel
theorem dX0_branchesLeadingAlone_23 : decode cX0_branchesLeadingAlone 23 = .ok (.iload_n 1, 1) := by decide +kernel
theorem dX0_branchesLeadingAlone_24 : decode cX0_branchesLeadingAlone 24 = .ok (.iload 4, 2) := by decide +kernel
theorem dX0_branchesLeadingAlone_26 : decode cX0_branchesLeadingAlone 26 = .ok (.invokevirtual 118, 3) := by decide +kernel
theorem dX0_branchesLeadingAlone_29 : decode cX0_branchesLeadingAlone 29 = .ok (.istore 6, 2) := by decide +kernel
theorem dX0_branchesLeadingAlone_31 : decode cX0_branchesLeadingAlone 31 = .ok (.iload 6, 2) := by decide +kernel
theorem dX0_branchesLeadingAlone_33 : decode cX0_branchesLeadingAlone 33 = .ok (.invokestatic 101, 3) := by decide +kernel
theorem dX0_branchesLeadingAlone_36 : decode cX0_branchesLeadingAlone 36 = .ok (.iconst 1, 1) := by decide +kernel
theorem dX0_branchesLeadingAlone_37 : decode cX0_branchesLeadingAlone 37 = .ok (.if_icmp .ne 8, 3) := by decide +kernel
theorem dX0_branchesLeadingAlone_40 : decode cX0_branchesLeadingAlone 40 = .ok (.iload_n 3, 1) := by decide +kernel
theorem dX0_branchesLeadingAlone_41 : decode cX0_branchesLeadingAlone 41 = .ok (.iload 6, 2) := by decide +kernel
theorem dX0_branchesLeadingAlone_43 : decode cX0_branchesLeadingAlone 43 = .ok (.ior, 1) := by decide +kernel
theorem dX0_branchesLeadingAlone_44 : decode cX0_branchesLeadingAlone 44 = .ok (.istore_n 3, 1) := by decide +kernel
theorem dX0_branchesLeadingAlone_45 : decode cX0_branchesLeadingAlone 45 = .ok (.iload 4, 2) := by decide +kernel
theorem dX0_branchesLeadingAlone_47 : decode cX0_branchesLeadingAlone 47 = .ok (.iload_n 2, 1) := by decide +kernel
theorem dX0_branchesLeadingAlone_48 : decode cX0_branchesLeadingAlone 48 = .ok (.isub, 1) := by decide +kernel
theorem dX0_branchesLeadingAlone_49 : decode cX0_branchesLeadingAlone 49 = .ok (.iload_n 2, 1) := by decide +kernel
theorem dX0_branchesLeadingAlone_50 : decode cX0_branchesLeadingAlone 50 = .ok (.iand, 1) := by decide +kernel
theorem dX0_branchesLeadingAlone_51 : decode cX0_branchesLeadingAlone 51 = .ok (.istore 4, 2) := by decide +kernel
theorem dX0_branchesLeadingAlone_53 : decode cX0_branchesLeadingAlone 53 = .ok (.iload 4, 2) := by decide +kernel
theorem dX0_branchesLeadingAlone_55 : decode cX0_branchesLeadingAlone 55 = .ok (.ifCond .ne 6, 3) := by decide +kernel
theorem dX0_branchesLeadingAlone_58 : decode cX0_branchesLeadingAlone 58 = .ok (.goto 9, 3) := by decide +kernel
theorem dX0_branchesLeadingAlone_61 : decode cX0_branchesLeadingAlone 61 = .ok (.iinc 5 1, 3) := by decide +kernel
theorem dX0_branchesLeadingAlone_64 : decode cX0_branchesLeadingAlone 64 = .ok (.goto (-50), 3) := by decide +kernel
theorem dX0_branchesLeadingAlone_67 : decode cX0_branchesLeadingAlone 67 = .ok (.iload_n 3, 1) := by decide +kernel
theorem dX0_branchesLeadingAlone_68 : decode cX0_branchesLeadingAlone 68 = .ok (.ireturn, 1) := by decide +kernel
set_option maxRecDepth 20000 in
theorem ggX0_branchesThatLead_X0_placeOf : GoodIn wsX0_branchesThatLead wsX0_placeOf := goodIn_r _ [5] (by decide +kernel) (by decide +kernel)
set_option maxRecDepth 20000 in
theorem gX0_branchesThatLead_X0_placeOf : GoodIn wsX0_branchesThatLead (va_wsS RX0 52 yX0_placeOf wsX0_placeOf) := goodIn_app (goodIn_of _ (by decide +kernel)) ggX0_branchesThatLead_X0_placeOf
set_option maxRecDepth 20000 in
theorem ggX0_branchesThatLead_X0_contactsAgainst : GoodIn wsX0_branchesThatLead wsX0_contactsAgainst := goodIn_r _ [9, 10, 11, 12, 13, 14, 15, 16, 17, 18, 19, 20, 21, 22] (by decide +kernel) (by decide +kernel)
set_option maxRecDepth 20000 in
theorem gX0_branchesThatLead_X0_contactsAgainst : GoodIn wsX0_branchesThatLead (wsV RX0 121 RX0 yX0_contactsAgainst wsX0_contactsAgainst) := goodIn_app (goodIn_of _ (by decide +kernel)) ggX0_branchesThatLead_X0_contactsAgainst
theorem dX0_branchesThatLead_0 : decode cX0_branchesThatLead 0 = .ok (.iconst 0, 1) := by decide +kernel
theorem dX0_branchesThatLead_1 : decode cX0_branchesThatLead 1 = .ok (.istore_n 3, 1) := by decide +kernel
theorem dX0_branchesThatLead_2 : decode cX0_branchesThatLead 2 = .ok (.iconst 0, 1) := by decide +kernel
theorem dX0_branchesThatLead_3 : decode cX0_branchesThatLead 3 = .ok (.istore 4, 2) := by decide +kernel
theorem dX0_branchesThatLead_5 : decode cX0_branchesThatLead 5 = .ok (.iload 4, 2) := by decide +kernel
theorem dX0_branchesThatLead_7 : decode cX0_branchesThatLead 7 = .ok (.aload_n 0, 1) := by decide +kernel
theorem dX0_branchesThatLead_8 : decode cX0_branchesThatLead 8 = .ok (.getfield 9, 3) := by decide +kernel
theorem dX0_branchesThatLead_11 : decode cX0_branchesThatLead 11 = .ok (.iload_n 1, 1) := by decide +kernel
theorem dX0_branchesThatLead_12 : decode cX0_branchesThatLead 12 = .ok (.iaload, 1) := by decide +kernel
theorem dX0_branchesThatLead_13 : decode cX0_branchesThatLead 13 = .ok (.if_icmp .ge 30, 3) := by decide +kernel
theorem dX0_branchesThatLead_16 : decode cX0_branchesThatLead 16 = .ok (.aload_n 0, 1) := by decide +kernel
theorem dX0_branchesThatLead_17 : decode cX0_branchesThatLead 17 = .ok (.iload_n 1, 1) := by decide +kernel
theorem dX0_branchesThatLead_18 : decode cX0_branchesThatLead 18 = .ok (.iload 4, 2) := by decide +kernel
theorem dX0_branchesThatLead_20 : decode cX0_branchesThatLead 20 = .ok (.invokestatic 52, 3) := by decide +kernel
theorem dX0_branchesThatLead_23 : decode cX0_branchesThatLead 23 = .ok (.iload_n 2, 1) := by decide +kernel
theorem dX0_branchesThatLead_24 : decode cX0_branchesThatLead 24 = .ok (.invokevirtual 121, 3) := by decide +kernel
theorem dX0_branchesThatLead_27 : decode cX0_branchesThatLead 27 = .ok (.ifCond .ne 10, 3) := by decide +kernel
theorem dX0_branchesThatLead_30 : decode cX0_branchesThatLead 30 = .ok (.iload_n 3, 1) := by decide +kernel
theorem dX0_branchesThatLead_31 : decode cX0_branchesThatLead 31 = .ok (.iconst 1, 1) := by decide +kernel
theorem dX0_branchesThatLead_32 : decode cX0_branchesThatLead 32 = .ok (.iload 4, 2) := by decide +kernel
theorem dX0_branchesThatLead_34 : decode cX0_branchesThatLead 34 = .ok (.ishl, 1) := by decide +kernel
theorem dX0_branchesThatLead_35 : decode cX0_branchesThatLead 35 = .ok (.ior, 1) := by decide +kernel
theorem dX0_branchesThatLead_36 : decode cX0_branchesThatLead 36 = .ok (.istore_n 3, 1) := by decide +kernel
theorem dX0_branchesThatLead_37 : decode cX0_branchesThatLead 37 = .ok (.iinc 4 1, 3) := by decide +kernel
theorem dX0_branchesThatLead_40 : decode cX0_branchesThatLead 40 = .ok (.goto (-35), 3) := by decide +kernel
theorem dX0_branchesThatLead_43 : decode cX0_branchesThatLead 43 = .ok (.iload_n 3, 1) := by decide +kernel
theorem dX0_branchesThatLead_44 : decode cX0_branchesThatLead 44 = .ok (.ireturn, 1) := by decide +kernel
set_option maxRecDepth 20000 in
theorem ggX0_contactsOf_X0_placeOf : GoodIn wsX0_contactsOf wsX0_placeOf := goodIn_r _ [7] (by decide +kernel) (by decide +kernel)
set_option maxRecDepth 20000 in
theorem gX0_contactsOf_X0_placeOf : GoodIn wsX0_contactsOf (va_wsS RX0 52 yX0_placeOf wsX0_placeOf) := goodIn_app (goodIn_of _ (by decide +kernel)) ggX0_contactsOf_X0_placeOf
theorem dX0_contactsOf_0 : decode cX0_contactsOf 0 = .ok (.iconst 0, 1) := by decide +kernel
theorem dX0_contactsOf_1 : decode cX0_contactsOf 1 = .ok (.istore_n 2, 1) := by decide +kernel
theorem dX0_contactsOf_2 : decode cX0_contactsOf 2 = .ok (.iconst 0, 1) := by decide +kernel
theorem dX0_contactsOf_3 : decode cX0_contactsOf 3 = .ok (.istore_n 3, 1) := by decide +kernel
theorem dX0_contactsOf_4 : decode cX0_contactsOf 4 = .ok (.iload_n 3, 1) := by decide +kernel
theorem dX0_contactsOf_5 : decode cX0_contactsOf 5 = .ok (.aload_n 0, 1) := by decide +kernel
theorem dX0_contactsOf_6 : decode cX0_contactsOf 6 = .ok (.getfield 9, 3) := by decide +kernel
theorem dX0_contactsOf_9 : decode cX0_contactsOf 9 = .ok (.iload_n 1, 1) := by decide +kernel
theorem dX0_contactsOf_10 : decode cX0_contactsOf 10 = .ok (.iaload, 1) := by decide +kernel
theorem dX0_contactsOf_11 : decode cX0_contactsOf 11 = .ok (.if_icmp .ge 34, 3) := by decide +kernel
theorem dX0_contactsOf_14 : decode cX0_contactsOf 14 = .ok (.iload_n 1, 1) := by decide +kernel
theorem dX0_contactsOf_15 : decode cX0_contactsOf 15 = .ok (.iload_n 3, 1) := by decide +kernel
theorem dX0_contactsOf_16 : decode cX0_contactsOf 16 = .ok (.invokestatic 52, 3) := by decide +kernel
theorem dX0_contactsOf_19 : decode cX0_contactsOf 19 = .ok (.istore 4, 2) := by decide +kernel
theorem dX0_contactsOf_21 : decode cX0_contactsOf 21 = .ok (.iload_n 2, 1) := by decide +kernel
theorem dX0_contactsOf_22 : decode cX0_contactsOf 22 = .ok (.aload_n 0, 1) := by decide +kernel
theorem dX0_contactsOf_23 : decode cX0_contactsOf 23 = .ok (.getfield 15, 3) := by decide +kernel
theorem dX0_contactsOf_26 : decode cX0_contactsOf 26 = .ok (.iload 4, 2) := by decide +kernel
theorem dX0_contactsOf_28 : decode cX0_contactsOf 28 = .ok (.iaload, 1) := by decide +kernel
theorem dX0_contactsOf_29 : decode cX0_contactsOf 29 = .ok (.aload_n 0, 1) := by decide +kernel
theorem dX0_contactsOf_30 : decode cX0_contactsOf 30 = .ok (.getfield 18, 3) := by decide +kernel
theorem dX0_contactsOf_33 : decode cX0_contactsOf 33 = .ok (.iload 4, 2) := by decide +kernel
theorem dX0_contactsOf_35 : decode cX0_contactsOf 35 = .ok (.iaload, 1) := by decide +kernel
theorem dX0_contactsOf_36 : decode cX0_contactsOf 36 = .ok (.ior, 1) := by decide +kernel
theorem dX0_contactsOf_37 : decode cX0_contactsOf 37 = .ok (.ior, 1) := by decide +kernel
theorem dX0_contactsOf_38 : decode cX0_contactsOf 38 = .ok (.istore_n 2, 1) := by decide +kernel
theorem dX0_contactsOf_39 : decode cX0_contactsOf 39 = .ok (.iinc 3 1, 3) := by decide +kernel
theorem dX0_contactsOf_42 : decode cX0_contactsOf 42 = .ok (.goto (-38), 3) := by decide +kernel
theorem dX0_contactsOf_45 : decode cX0_contactsOf 45 = .ok (.iload_n 2, 1) := by decide +kernel
theorem dX0_contactsOf_46 : decode cX0_contactsOf 46 = .ok (.ireturn, 1) := by decide +kernel
