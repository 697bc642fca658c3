theorem dX2_init_0 : decode cX2_init 0 = .ok (.aload_n 0, 1) := by decide +kernel
theorem dX2_init_1 : decode cX2_init 1 = .ok (.invokespecial 5, 3) := by decide +kernel
theorem dX2_init_4 : decode cX2_init 4 = .ok (.aload_n 0, 1) := by decide +kernel
theorem dX2_init_5 : decode cX2_init 5 = .ok (.sipush 300, 3) := by decide +kernel
theorem dX2_init_8 : decode cX2_init 8 = .ok (.newarray .int, 2) := by decide +kernel
theorem dX2_init_10 : decode cX2_init 10 = .ok (.putfield 11, 3) := by decide +kernel
theorem dX2_init_13 : decode cX2_init 13 = .ok (.aload_n 0, 1) := by decide +kernel
theorem dX2_init_14 : decode cX2_init 14 = .ok (.sipush 512, 3) := by decide +kernel
theorem dX2_init_17 : decode cX2_init 17 = .ok (.newarray .int, 2) := by decide +kernel
theorem dX2_init_19 : decode cX2_init 19 = .ok (.putfield 15, 3) := by decide +kernel
theorem dX2_init_22 : decode cX2_init 22 = .ok (.aload_n 0, 1) := by decide +kernel
theorem dX2_init_23 : decode cX2_init 23 = .ok (.sipush 300, 3) := by decide +kernel
theorem dX2_init_26 : decode cX2_init 26 = .ok (.newarray .int, 2) := by decide +kernel
theorem dX2_init_28 : decode cX2_init 28 = .ok (.putfield 18, 3) := by decide +kernel
theorem dX2_init_31 : decode cX2_init 31 = .ok (.aload_n 0, 1) := by decide +kernel
theorem dX2_init_32 : decode cX2_init 32 = .ok (.sipush 2100, 3) := by decide +kernel
theorem dX2_init_35 : decode cX2_init 35 = .ok (.newarray .int, 2) := by decide +kernel
theorem dX2_init_37 : decode cX2_init 37 = .ok (.putfield 21, 3) := by decide +kernel
theorem dX2_init_40 : decode cX2_init 40 = .ok (.aload_n 0, 1) := by decide +kernel
theorem dX2_init_41 : decode cX2_init 41 = .ok (.sipush 300, 3) := by decide +kernel
theorem dX2_init_44 : decode cX2_init 44 = .ok (.newarray .int, 2) := by decide +kernel
theorem dX2_init_46 : decode cX2_init 46 = .ok (.putfield 24, 3) := by decide +kernel
theorem dX2_init_49 : decode cX2_init 49 = .ok (.aload_n 0, 1) := by decide +kernel
theorem dX2_init_50 : decode cX2_init 50 = .ok (.sipush 300, 3) := by decide +kernel
theorem dX2_init_53 : decode cX2_init 53 = .ok (.newarray .int, 2) := by decide +kernel
theorem dX2_init_55 : decode cX2_init 55 = .ok (.putfield 27, 3) := by decide +kernel
theorem dX2_init_58 : decode cX2_init 58 = .ok (.aload_n 0, 1) := by decide +kernel
theorem dX2_init_59 : decode cX2_init 59 = .ok (.bipush 64, 2) := by decide +kernel
theorem dX2_init_61 : decode cX2_init 61 = .ok (.newarray .int, 2) := by decide +kernel
theorem dX2_init_63 : decode cX2_init 63 = .ok (.putfield 30, 3) := by decide +kernel
theorem dX2_init_66 : decode cX2_init 66 = .ok (.return_, 1) := by decide +kernel
set_option maxRecDepth 20000 in
theorem ggX2_lookFrom_J7_fill_53178 : GoodIn wsX2_lookFrom wsJ7_fill_53178 := goodIn_r _ [11] (by decide +kernel) (by decide +kernel)
set_option maxRecDepth 20000 in
theorem gX2_lookFrom_J7_fill_53178 : GoodIn wsX2_lookFrom (va_wsS RX2 33 yJ7_fill_53178 wsJ7_fill_53178) := goodIn_app (goodIn_of _ (by decide +kernel)) ggX2_lookFrom_J7_fill_53178
set_option maxRecDepth 20000 in
theorem ggX2_lookFrom_X2_slotOf : GoodIn wsX2_lookFrom wsX2_slotOf := goodIn_r _ [16, 17, 1, 18, 100, 101, 102, 103, 104, 105, 106, 107, 108, 109, 110] (by decide +kernel) (by decide +kernel)
set_option maxRecDepth 20000 in
theorem gX2_lookFrom_X2_slotOf : GoodIn wsX2_lookFrom (wsV RX2 56 RX2 yX2_slotOf wsX2_slotOf) := goodIn_app (goodIn_of _ (by decide +kernel)) ggX2_lookFrom_X2_slotOf
set_option maxRecDepth 20000 in
theorem ggX2_lookFrom_X2_meet : GoodIn wsX2_lookFrom wsX2_meet := goodIn_r _ [22, 4, 5, 18, 1, 100, 101, 102, 103, 104, 105, 106, 107, 108, 109, 110] (by decide +kernel) (by decide +kernel)
set_option maxRecDepth 20000 in
theorem gX2_lookFrom_X2_meet : GoodIn wsX2_lookFrom (wsV RX2 60 RX2 yX2_meet wsX2_meet) := goodIn_app (goodIn_of _ (by decide +kernel)) ggX2_lookFrom_X2_meet
set_option maxRecDepth 20000 in
theorem ggX2_lookFrom_X2_goOn : GoodIn wsX2_lookFrom wsX2_goOn := goodIn_r _ [26, 27, 18, 3, 28, 29, 30, 31, 32, 33, 34, 35, 15, 36, 2, 37, 38, 39, 40, 41, 42, 43, 44, 45, 46, 47, 48, 49, 50, 51, 52, 53, 54, 55, 56, 57, 58, 59, 60, 61, 62, 63, 64, 65, 66, 67, 68, 69, 70, 71, 72, 73, 74, 75, 76, 77, 78, 79, 80, 1, 81, 12, 13, 14, 16, 17, 19, 20, 21, 22, 4, 5, 82, 83, 84, 85, 86, 87, 88, 89, 100, 101, 102, 103, 104, 105, 106, 107, 108, 109, 110, 111, 112, 113, 114, 115, 116, 117, 118, 119, 120, 121] (by decide +kernel) (by decide +kernel)
set_option maxRecDepth 20000 in
theorem gX2_lookFrom_X2_goOn : GoodIn wsX2_lookFrom (wsV RX2 64 RX2 yX2_goOn wsX2_goOn) := goodIn_app (goodIn_of _ (by decide +kernel)) ggX2_lookFrom_X2_goOn
set_option maxRecDepth 20000 in
theorem ggX2_lookFrom_X2_hasWheel : GoodIn wsX2_lookFrom wsX2_hasWheel := goodIn_r _ [93, 4, 94, 95, 27, 81, 96, 97, 98, 15, 99, 8, 9, 10, 11, 100, 101, 102, 103, 104, 105, 106, 107, 108, 109, 110] (by decide +kernel) (by decide +kernel)
set_option maxRecDepth 20000 in
theorem gX2_lookFrom_X2_hasWheel : GoodIn wsX2_lookFrom (wsV RX2 68 RX2 yX2_hasWheel wsX2_hasWheel) := goodIn_app (goodIn_of _ (by decide +kernel)) ggX2_lookFrom_X2_hasWheel
theorem dX2_lookFrom_0 : decode cX2_lookFrom 0 = .ok (.aload_n 0, 1) := by decide +kernel
theorem dX2_lookFrom_1 : decode cX2_lookFrom 1 = .ok (.getfield 15, 3) := by decide +kernel
theorem dX2_lookFrom_4 : decode cX2_lookFrom 4 = .ok (.iconst 0, 1) := by decide +kernel
theorem dX2_lookFrom_5 : decode cX2_lookFrom 5 = .ok (.invokestatic 33, 3) := by decide +kernel
theorem dX2_lookFrom_8 : decode cX2_lookFrom 8 = .ok (.aload_n 0, 1) := by decide +kernel
theorem dX2_lookFrom_9 : decode cX2_lookFrom 9 = .ok (.getfield 30, 3) := by decide +kernel
theorem dX2_lookFrom_12 : decode cX2_lookFrom 12 = .ok (.iconst (-1), 1) := by decide +kernel
theorem dX2_lookFrom_13 : decode cX2_lookFrom 13 = .ok (.invokestatic 33, 3) := by decide +kernel
theorem dX2_lookFrom_16 : decode cX2_lookFrom 16 = .ok (.aload_n 0, 1) := by decide +kernel
theorem dX2_lookFrom_17 : decode cX2_lookFrom 17 = .ok (.lconst 0, 1) := by decide +kernel
theorem dX2_lookFrom_18 : decode cX2_lookFrom 18 = .ok (.putfield 39, 3) := by decide +kernel
theorem dX2_lookFrom_21 : decode cX2_lookFrom 21 = .ok (.aload_n 0, 1) := by decide +kernel
theorem dX2_lookFrom_22 : decode cX2_lookFrom 22 = .ok (.iconst 0, 1) := by decide +kernel
theorem dX2_lookFrom_23 : decode cX2_lookFrom 23 = .ok (.putfield 43, 3) := by decide +kernel
theorem dX2_lookFrom_26 : decode cX2_lookFrom 26 = .ok (.aload_n 0, 1) := by decide +kernel
theorem dX2_lookFrom_27 : decode cX2_lookFrom 27 = .ok (.iconst 1, 1) := by decide +kernel
theorem dX2_lookFrom_28 : decode cX2_lookFrom 28 = .ok (.putfield 47, 3) := by decide +kernel
theorem dX2_lookFrom_31 : decode cX2_lookFrom 31 = .ok (.aload_n 0, 1) := by decide +kernel
theorem dX2_lookFrom_32 : decode cX2_lookFrom 32 = .ok (.aload_n 1, 1) := by decide +kernel
theorem dX2_lookFrom_33 : decode cX2_lookFrom 33 = .ok (.getfield 51, 3) := by decide +kernel
theorem dX2_lookFrom_36 : decode cX2_lookFrom 36 = .ok (.aload_n 0, 1) := by decide +kernel
theorem dX2_lookFrom_37 : decode cX2_lookFrom 37 = .ok (.aload_n 1, 1) := by decide +kernel
theorem dX2_lookFrom_38 : decode cX2_lookFrom 38 = .ok (.getfield 51, 3) := by decide +kernel
theorem dX2_lookFrom_41 : decode cX2_lookFrom 41 = .ok (.invokevirtual 56, 3) := by decide +kernel
theorem dX2_lookFrom_44 : decode cX2_lookFrom 44 = .ok (.invokevirtual 60, 3) := by decide +kernel
theorem dX2_lookFrom_47 : decode cX2_lookFrom 47 = .ok (.pop, 1) := by decide +kernel
theorem dX2_lookFrom_48 : decode cX2_lookFrom 48 = .ok (.iconst 0, 1) := by decide +kernel
theorem dX2_lookFrom_49 : decode cX2_lookFrom 49 = .ok (.istore_n 2, 1) := by decide +kernel
theorem dX2_lookFrom_50 : decode cX2_lookFrom 50 = .ok (.aload_n 0, 1) := by decide +kernel
theorem dX2_lookFrom_51 : decode cX2_lookFrom 51 = .ok (.getfield 47, 3) := by decide +kernel
theorem dX2_lookFrom_54 : decode cX2_lookFrom 54 = .ok (.ifCond .eq 30, 3) := by decide +kernel
theorem dX2_lookFrom_57 : decode cX2_lookFrom 57 = .ok (.iload_n 2, 1) := by decide +kernel
theorem dX2_lookFrom_58 : decode cX2_lookFrom 58 = .ok (.aload_n 0, 1) := by decide +kernel
theorem dX2_lookFrom_59 : decode cX2_lookFrom 59 = .ok (.getfield 43, 3) := by decide +kernel
theorem dX2_lookFrom_62 : decode cX2_lookFrom 62 = .ok (.if_icmp .ge 22, 3) := by decide +kernel
theorem dX2_lookFrom_65 : decode cX2_lookFrom 65 = .ok (.iload_n 2, 1) := by decide +kernel
theorem dX2_lookFrom_66 : decode cX2_lookFrom 66 = .ok (.sipush 300, 3) := by decide +kernel
theorem dX2_lookFrom_69 : decode cX2_lookFrom 69 = .ok (.if_icmp .ge 15, 3) := by decide +kernel
theorem dX2_lookFrom_72 : decode cX2_lookFrom 72 = .ok (.aload_n 0, 1) := by decide +kernel
theorem dX2_lookFrom_73 : decode cX2_lookFrom 73 = .ok (.aload_n 1, 1) := by decide +kernel
theorem dX2_lookFrom_74 : decode cX2_lookFrom 74 = .ok (.iload_n 2, 1) := by decide +kernel
theorem dX2_lookFrom_75 : decode cX2_lookFrom 75 = .ok (.invokevirtual 64, 3) := by decide +kernel
theorem dX2_lookFrom_78 : decode cX2_lookFrom 78 = .ok (.iinc 2 1, 3) := by decide +kernel
theorem dX2_lookFrom_81 : decode cX2_lookFrom 81 = .ok (.goto (-31), 3) := by decide +kernel
theorem dX2_lookFrom_84 : decode cX2_lookFrom 84 = .ok (.aload_n 0, 1) := by decide +kernel
theorem dX2_lookFrom_85 : decode cX2_lookFrom 85 = .ok (.aload_n 0, 1) := by decide +kernel
theorem dX2_lookFrom_86 : decode cX2_lookFrom 86 = .ok (.getfield 47, 3) := by decide +kernel
theorem dX2_lookFrom_89 : decode cX2_lookFrom 89 = .ok (.ifCond .eq 14, 3) := by decide +kernel
theorem dX2_lookFrom_92 : decode cX2_lookFrom 92 = .ok (.aload_n 0, 1) := by decide +kernel
theorem dX2_lookFrom_93 : decode cX2_lookFrom 93 = .ok (.invokevirtual 68, 3) := by decide +kernel
theorem dX2_lookFrom_96 : decode cX2_lookFrom 96 = .ok (.ifCond .eq 7, 3) := by decide +kernel
theorem dX2_lookFrom_99 : decode cX2_lookFrom 99 = .ok (.iconst 1, 1) := by decide +kernel
theorem dX2_lookFrom_100 : decode cX2_lookFrom 100 = .ok (.goto 4, 3) := by decide +kernel
theorem dX2_lookFrom_103 : decode cX2_lookFrom 103 = .ok (.iconst 0, 1) := by decide +kernel
theorem dX2_lookFrom_104 : decode cX2_lookFrom 104 = .ok (.putfield 72, 3) := by decide +kernel
theorem dX2_lookFrom_107 : decode cX2_lookFrom 107 = .ok (.return_, 1) := by decide +kernel
set_option maxRecDepth 20000 in
theorem ggX2_goOn_X0_upIn : GoodIn wsX2_goOn wsX0_upIn := goodIn_r _ [8] (by decide +kernel) (by decide +kernel)
set_option maxRecDepth 20000 in
theorem gX2_goOn_X0_upIn : GoodIn wsX2_goOn (va_wsS RX2 75 yX0_upIn wsX0_upIn) := goodIn_app (goodIn_of _ (by decide +kernel)) ggX2_goOn_X0_upIn
set_option maxRecDepth 20000 in
theorem ggX2_goOn_X2_calledWith : GoodIn wsX2_goOn wsX2_calledWith := goodIn_r _ [13, 14, 15, 16, 17, 18, 7, 19, 20, 21, 22, 23, 80, 81, 82, 83, 84, 85, 86, 87, 88, 89, 90, 91, 92, 93, 94, 95, 96, 97, 98, 99, 100, 101] (by decide +kernel) (by decide +kernel)
set_option maxRecDepth 20000 in
theorem gX2_goOn_X2_calledWith : GoodIn wsX2_goOn (wsV RX2 78 RX2 yX2_calledWith wsX2_calledWith) := goodIn_app (goodIn_of _ (by decide +kernel)) ggX2_goOn_X2_calledWith
set_option maxRecDepth 20000 in
theorem ggX2_goOn_X0_counted : GoodIn wsX2_goOn wsX0_counted := goodIn_r _ [27, 20, 28, 29, 30, 31, 32, 33, 7, 34, 35, 36, 37, 38, 39, 40, 91, 92, 93, 94, 95, 96, 97, 98, 99, 100, 101] (by decide +kernel) (by decide +kernel)
set_option maxRecDepth 20000 in
theorem gX2_goOn_X0_counted : GoodIn wsX2_goOn (wsV RX2 82 RX0 yX0_counted wsX0_counted) := goodIn_app (goodIn_of _ (by decide +kernel)) ggX2_goOn_X0_counted
set_option maxRecDepth 20000 in
theorem ggX2_goOn_X0_dueIn : GoodIn wsX2_goOn wsX0_dueIn := goodIn_r _ [44, 20, 32, 33, 7, 34, 35, 36, 37, 45, 46, 47, 48, 49, 50, 91, 92, 93, 94, 95, 96, 97, 98, 99, 100, 101] (by decide +kernel) (by decide +kernel)
set_option maxRecDepth 20000 in
theorem gX2_goOn_X0_dueIn : GoodIn wsX2_goOn (wsV RX2 86 RX0 yX0_dueIn wsX0_dueIn) := goodIn_app (goodIn_of _ (by decide +kernel)) ggX2_goOn_X0_dueIn
set_option maxRecDepth 20000 in
theorem ggX2_goOn_X0_turned : GoodIn wsX2_goOn wsX0_turned := goodIn_r _ [54, 20, 32, 33, 7, 34, 38, 39, 40, 91, 92, 93, 94, 95, 96, 97, 98, 99, 100, 101] (by decide +kernel) (by decide +kernel)
set_option maxRecDepth 20000 in
theorem gX2_goOn_X0_turned : GoodIn wsX2_goOn (wsV RX2 89 RX0 yX0_turned wsX0_turned) := goodIn_app (goodIn_of _ (by decide +kernel)) ggX2_goOn_X0_turned
set_option maxRecDepth 20000 in
theorem ggX2_goOn_X2_goTo : GoodIn wsX2_goOn wsX2_goTo := goodIn_r _ [58, 59, 1, 60, 61, 62, 63, 12, 64, 65, 2, 66, 67, 68, 69, 70, 71, 80, 81, 82, 83, 84, 85, 86, 87, 88, 89, 90] (by decide +kernel) (by decide +kernel)
set_option maxRecDepth 20000 in
theorem gX2_goOn_X2_goTo : GoodIn wsX2_goOn (wsV RX2 92 RX2 yX2_goTo wsX2_goTo) := goodIn_app (goodIn_of _ (by decide +kernel)) ggX2_goOn_X2_goTo
set_option maxRecDepth 20000 in
theorem ggX2_goOn_J6_bitCount_0f7a4 : GoodIn wsX2_goOn wsJ6_bitCount_0f7a4 := goodIn_r _ [75, 76, 77, 78] (by decide +kernel) (by decide +kernel)
set_option maxRecDepth 20000 in
theorem gX2_goOn_J6_bitCount_0f7a4 : GoodIn wsX2_goOn (va_wsS RX2 96 yJ6_bitCount_0f7a4 wsJ6_bitCount_0f7a4) := goodIn_app (goodIn_of _ (by decide +kernel)) ggX2_goOn_J6_bitCount_0f7a4
set_option maxRecDepth 20000 in
theorem ggX2_goOn_X0_isIn : GoodIn wsX2_goOn wsX0_isIn := goodIn_r _ [34] (by decide +kernel) (by decide +kernel)
set_option maxRecDepth 20000 in
theorem gX2_goOn_X0_isIn : GoodIn wsX2_goOn (va_wsS RX2 104 yX0_isIn wsX0_isIn) := goodIn_app (goodIn_of _ (by decide +kernel)) ggX2_goOn_X0_isIn
theorem dX2_goOn_0 : decode cX2_goOn 0 = .ok (.aload_n 0, 1) := by decide +kernel
theorem dX2_goOn_1 : decode cX2_goOn 1 = .ok (.getfield 18, 3) := by decide +kernel
theorem dX2_goOn_4 : decode cX2_goOn 4 = .ok (.iload_n 2, 1) := by decide +kernel
theorem dX2_goOn_5 : decode cX2_goOn 5 = .ok (.iconst 0, 1) := by decide +kernel
theorem dX2_goOn_6 : decode cX2_goOn 6 = .ok (.iastore, 1) := by decide +kernel
theorem dX2_goOn_7 : decode cX2_goOn 7 = .ok (.aload_n 0, 1) := by decide +kernel
theorem dX2_goOn_8 : decode cX2_goOn 8 = .ok (.getfield 11, 3) := by decide +kernel
theorem dX2_goOn_11 : decode cX2_goOn 11 = .ok (.iload_n 2, 1) := by decide +kernel
theorem dX2_goOn_12 : decode cX2_goOn 12 = .ok (.iaload, 1) := by decide +kernel
theorem dX2_goOn_13 : decode cX2_goOn 13 = .ok (.invokestatic 75, 3) := by decide +kernel
theorem dX2_goOn_16 : decode cX2_goOn 16 = .ok (.istore_n 3, 1) := by decide +kernel
theorem dX2_goOn_17 : decode cX2_goOn 17 = .ok (.aload_n 0, 1) := by decide +kernel
theorem dX2_goOn_18 : decode cX2_goOn 18 = .ok (.aload_n 1, 1) := by decide +kernel
theorem dX2_goOn_19 : decode cX2_goOn 19 = .ok (.iload_n 3, 1) := by decide +kernel
theorem dX2_goOn_20 : decode cX2_goOn 20 = .ok (.invokevirtual 78, 3) := by decide +kernel
theorem dX2_goOn_23 : decode cX2_goOn 23 = .ok (.iload_n 3, 1) := by decide +kernel
theorem dX2_goOn_24 : decode cX2_goOn 24 = .ok (.ixor, 1) := by decide +kernel
theorem dX2_goOn_25 : decode cX2_goOn 25 = .ok (.istore 4, 2) := by decide +kernel
theorem dX2_goOn_27 : decode cX2_goOn 27 = .ok (.iload 4, 2) := by decide +kernel
theorem dX2_goOn_29 : decode cX2_goOn 29 = .ok (.ifCond .ne 16, 3) := by decide +kernel
theorem dX2_goOn_32 : decode cX2_goOn 32 = .ok (.aload_n 0, 1) := by decide +kernel
theorem dX2_goOn_33 : decode cX2_goOn 33 = .ok (.dup, 1) := by decide +kernel
theorem dX2_goOn_34 : decode cX2_goOn 34 = .ok (.getfield 39, 3) := by decide +kernel
theorem dX2_goOn_37 : decode cX2_goOn 37 = .ok (.lconst 1, 1) := by decide +kernel
theorem dX2_goOn_38 : decode cX2_goOn 38 = .ok (.iload_n 3, 1) := by decide +kernel
theorem dX2_goOn_39 : decode cX2_goOn 39 = .ok (.lshl, 1) := by decide +kernel
theorem dX2_goOn_40 : decode cX2_goOn 40 = .ok (.lor, 1) := by decide +kernel
theorem dX2_goOn_41 : decode cX2_goOn 41 = .ok (.putfield 39, 3) := by decide +kernel
theorem dX2_goOn_44 : decode cX2_goOn 44 = .ok (.return_, 1) := by decide +kernel
theorem dX2_goOn_45 : decode cX2_goOn 45 = .ok (.aload_n 1, 1) := by decide +kernel
theorem dX2_goOn_46 : decode cX2_goOn 46 = .ok (.aload_n 0, 1) := by decide +kernel
theorem dX2_goOn_47 : decode cX2_goOn 47 = .ok (.getfield 11, 3) := by decide +kernel
theorem dX2_goOn_50 : decode cX2_goOn 50 = .ok (.iload_n 2, 1) := by decide +kernel
theorem dX2_goOn_51 : decode cX2_goOn 51 = .ok (.iaload, 1) := by decide +kernel
theorem dX2_goOn_52 : decode cX2_goOn 52 = .ok (.iload 4, 2) := by decide +kernel
theorem dX2_goOn_54 : decode cX2_goOn 54 = .ok (.invokevirtual 82, 3) := by decide +kernel
theorem dX2_goOn_57 : decode cX2_goOn 57 = .ok (.istore 5, 2) := by decide +kernel
theorem dX2_goOn_59 : decode cX2_goOn 59 = .ok (.aload_n 1, 1) := by decide +kernel
theorem dX2_goOn_60 : decode cX2_goOn 60 = .ok (.iload 5, 2) := by decide +kernel
theorem dX2_goOn_62 : decode cX2_goOn 62 = .ok (.iload 4, 2) := by decide +kernel
theorem dX2_goOn_64 : decode cX2_goOn 64 = .ok (.invokevirtual 86, 3) := by decide +kernel
theorem dX2_goOn_67 : decode cX2_goOn 67 = .ok (.istore 6, 2) := by decide +kernel
theorem dX2_goOn_69 : decode cX2_goOn 69 = .ok (.aload_n 0, 1) := by decide +kernel
theorem dX2_goOn_70 : decode cX2_goOn 70 = .ok (.iload_n 2, 1) := by decide +kernel
theorem dX2_goOn_71 : decode cX2_goOn 71 = .ok (.aload_n 1, 1) := by decide +kernel
theorem dX2_goOn_72 : decode cX2_goOn 72 = .ok (.iload 5, 2) := by decide +kernel
theorem dX2_goOn_74 : decode cX2_goOn 74 = .ok (.iload 6, 2) := by decide +kernel
theorem dX2_goOn_76 : decode cX2_goOn 76 = .ok (.invokevirtual 89, 3) := by decide +kernel
theorem dX2_goOn_79 : decode cX2_goOn 79 = .ok (.invokevirtual 92, 3) := by decide +kernel
theorem dX2_goOn_82 : decode cX2_goOn 82 = .ok (.iload 6, 2) := by decide +kernel
theorem dX2_goOn_84 : decode cX2_goOn 84 = .ok (.invokestatic 96, 3) := by decide +kernel
theorem dX2_goOn_87 : decode cX2_goOn 87 = .ok (.iconst 2, 1) := by decide +kernel
theorem dX2_goOn_88 : decode cX2_goOn 88 = .ok (.if_icmp .ge 4, 3) := by decide +kernel
theorem dX2_goOn_91 : decode cX2_goOn 91 = .ok (.return_, 1) := by decide +kernel
theorem dX2_goOn_92 : decode cX2_goOn 92 = .ok (.iconst 0, 1) := by decide +kernel
theorem dX2_goOn_93 : decode cX2_goOn 93 = .ok (.istore 7, 2) := by decide +kernel
theorem dX2_goOn_95 : decode cX2_goOn 95 = .ok (.iload 7, 2) := by decide +kernel
theorem dX2_goOn_97 : decode cX2_goOn 97 = .ok (.aload_n 1, 1) := by decide +kernel
theorem dX2_goOn_98 : decode cX2_goOn 98 = .ok (.getfield 101, 3) := by decide +kernel
theorem dX2_goOn_101 : decode cX2_goOn 101 = .ok (.if_icmp .ge 34, 3) := by decide +kernel
theorem dX2_goOn_104 : decode cX2_goOn 104 = .ok (.iload 6, 2) := by decide +kernel
theorem dX2_goOn_106 : decode cX2_goOn 106 = .ok (.iload 7, 2) := by decide +kernel
theorem dX2_goOn_108 : decode cX2_goOn 108 = .ok (.invokestatic 104, 3) := by decide +kernel
theorem dX2_goOn_111 : decode cX2_goOn 111 = .ok (.ifCond .eq 18, 3) := by decide +kernel
theorem dX2_goOn_114 : decode cX2_goOn 114 = .ok (.aload_n 0, 1) := by decide +kernel
theorem dX2_goOn_115 : decode cX2_goOn 115 = .ok (.iload_n 2, 1) := by decide +kernel
theorem dX2_goOn_116 : decode cX2_goOn 116 = .ok (.aload_n 1, 1) := by decide +kernel
theorem dX2_goOn_117 : decode cX2_goOn 117 = .ok (.iload 5, 2) := by decide +kernel
theorem dX2_goOn_119 : decode cX2_goOn 119 = .ok (.iconst 1, 1) := by decide +kernel
theorem dX2_goOn_120 : decode cX2_goOn 120 = .ok (.iload 7, 2) := by decide +kernel
theorem dX2_goOn_122 : decode cX2_goOn 122 = .ok (.ishl, 1) := by decide +kernel
theorem dX2_goOn_123 : decode cX2_goOn 123 = .ok (.invokevirtual 89, 3) := by decide +kernel
theorem dX2_goOn_126 : decode cX2_goOn 126 = .ok (.invokevirtual 92, 3) := by decide +kernel
theorem dX2_goOn_129 : decode cX2_goOn 129 = .ok (.iinc 7 1, 3) := by decide +kernel
theorem dX2_goOn_132 : decode cX2_goOn 132 = .ok (.goto (-37), 3) := by decide +kernel
theorem dX2_goOn_135 : decode cX2_goOn 135 = .ok (.return_, 1) := by decide +kernel
set_option maxRecDepth 20000 in
theorem ggX2_calledWith_X0_calledBy : GoodIn wsX2_calledWith wsX0_calledBy := goodIn_r _ [7, 8, 9, 10, 11, 23, 24, 25, 26, 27, 28, 29, 30, 31, 32, 33] (by decide +kernel) (by decide +kernel)
set_option maxRecDepth 20000 in
theorem gX2_calledWith_X0_calledBy : GoodIn wsX2_calledWith (wsV RX2 110 RX0 yX0_calledBy wsX0_calledBy) := goodIn_app (goodIn_of _ (by decide +kernel)) ggX2_calledWith_X0_calledBy
theorem dX2_calledWith_0 : decode cX2_calledWith 0 = .ok (.aload_n 0, 1) := by decide +kernel
theorem dX2_calledWith_1 : decode cX2_calledWith 1 = .ok (.getfield 30, 3) := by decide +kernel
theorem dX2_calledWith_4 : decode cX2_calledWith 4 = .ok (.iload_n 2, 1) := by decide +kernel
theorem dX2_calledWith_5 : decode cX2_calledWith 5 = .ok (.iaload, 1) := by decide +kernel
theorem dX2_calledWith_6 : decode cX2_calledWith 6 = .ok (.iconst (-1), 1) := by decide +kernel
theorem dX2_calledWith_7 : decode cX2_calledWith 7 = .ok (.if_icmp .ne 21, 3) := by decide +kernel
theorem dX2_calledWith_10 : decode cX2_calledWith 10 = .ok (.aload_n 0, 1) := by decide +kernel
theorem dX2_calledWith_11 : decode cX2_calledWith 11 = .ok (.getfield 30, 3) := by decide +kernel
theorem dX2_calledWith_14 : decode cX2_calledWith 14 = .ok (.iload_n 2, 1) := by decide +kernel
theorem dX2_calledWith_15 : decode cX2_calledWith 15 = .ok (.aload_n 1, 1) := by decide +kernel
theorem dX2_calledWith_16 : decode cX2_calledWith 16 = .ok (.aload_n 1, 1) := by decide +kernel
theorem dX2_calledWith_17 : decode cX2_calledWith 17 = .ok (.getfield 107, 3) := by decide +kernel
theorem dX2_calledWith_20 : decode cX2_calledWith 20 = .ok (.iload_n 2, 1) := by decide +kernel
theorem dX2_calledWith_21 : decode cX2_calledWith 21 = .ok (.iconst 4, 1) := by decide +kernel
theorem dX2_calledWith_22 : decode cX2_calledWith 22 = .ok (.ishl, 1) := by decide +kernel
theorem dX2_calledWith_23 : decode cX2_calledWith 23 = .ok (.ior, 1) := by decide +kernel
theorem dX2_calledWith_24 : decode cX2_calledWith 24 = .ok (.invokevirtual 110, 3) := by decide +kernel
theorem dX2_calledWith_27 : decode cX2_calledWith 27 = .ok (.iastore, 1) := by decide +kernel
theorem dX2_calledWith_28 : decode cX2_calledWith 28 = .ok (.aload_n 0, 1) := by decide +kernel
theorem dX2_calledWith_29 : decode cX2_calledWith 29 = .ok (.getfield 30, 3) := by decide +kernel
theorem dX2_calledWith_32 : decode cX2_calledWith 32 = .ok (.iload_n 2, 1) := by decide +kernel
theorem dX2_calledWith_33 : decode cX2_calledWith 33 = .ok (.iaload, 1) := by decide +kernel
theorem dX2_calledWith_34 : decode cX2_calledWith 34 = .ok (.ireturn, 1) := by decide +kernel
set_option maxRecDepth 20000 in
theorem ggX2_goTo_X2_slotOf : GoodIn wsX2_goTo wsX2_slotOf := goodIn_r _ [8, 9, 1, 10, 17, 18, 19, 20, 21, 22, 23, 24, 25, 26, 27] (by decide +kernel) (by decide +kernel)
set_option maxRecDepth 20000 in
theorem gX2_goTo_X2_slotOf : GoodIn wsX2_goTo (wsV RX2 56 RX2 yX2_slotOf wsX2_slotOf) := goodIn_app (goodIn_of _ (by decide +kernel)) ggX2_goTo_X2_slotOf
set_option maxRecDepth 20000 in
theorem ggX2_goTo_X2_meet : GoodIn wsX2_goTo wsX2_meet := goodIn_r _ [14, 15, 16, 10, 1, 17, 18, 19, 20, 21, 22, 23, 24, 25, 26, 27] (by decide +kernel) (by decide +kernel)
set_option maxRecDepth 20000 in
theorem gX2_goTo_X2_meet : GoodIn wsX2_goTo (wsV RX2 60 RX2 yX2_meet wsX2_meet) := goodIn_app (goodIn_of _ (by decide +kernel)) ggX2_goTo_X2_meet
theorem dX2_goTo_0 : decode cX2_goTo 0 = .ok (.aload_n 0, 1) := by decide +kernel
theorem dX2_goTo_1 : decode cX2_goTo 1 = .ok (.iload_n 2, 1) := by decide +kernel
theorem dX2_goTo_2 : decode cX2_goTo 2 = .ok (.invokevirtual 56, 3) := by decide +kernel
theorem dX2_goTo_5 : decode cX2_goTo 5 = .ok (.istore_n 3, 1) := by decide +kernel
theorem dX2_goTo_6 : decode cX2_goTo 6 = .ok (.aload_n 0, 1) := by decide +kernel
theorem dX2_goTo_7 : decode cX2_goTo 7 = .ok (.getfield 15, 3) := by decide +kernel
theorem dX2_goTo_10 : decode cX2_goTo 10 = .ok (.iload_n 3, 1) := by decide +kernel
theorem dX2_goTo_11 : decode cX2_goTo 11 = .ok (.iaload, 1) := by decide +kernel
theorem dX2_goTo_12 : decode cX2_goTo 12 = .ok (.ifCond .ne 13, 3) := by decide +kernel
theorem dX2_goTo_15 : decode cX2_goTo 15 = .ok (.aload_n 0, 1) := by decide +kernel
theorem dX2_goTo_16 : decode cX2_goTo 16 = .ok (.iload_n 2, 1) := by decide +kernel
theorem dX2_goTo_17 : decode cX2_goTo 17 = .ok (.iload_n 3, 1) := by decide +kernel
theorem dX2_goTo_18 : decode cX2_goTo 18 = .ok (.invokevirtual 60, 3) := by decide +kernel
theorem dX2_goTo_21 : decode cX2_goTo 21 = .ok (.ifCond .ne 4, 3) := by decide +kernel
theorem dX2_goTo_24 : decode cX2_goTo 24 = .ok (.return_, 1) := by decide +kernel
theorem dX2_goTo_25 : decode cX2_goTo 25 = .ok (.aload_n 0, 1) := by decide +kernel
theorem dX2_goTo_26 : decode cX2_goTo 26 = .ok (.getfield 18, 3) := by decide +kernel
theorem dX2_goTo_29 : decode cX2_goTo 29 = .ok (.iload_n 1, 1) := by decide +kernel
theorem dX2_goTo_30 : decode cX2_goTo 30 = .ok (.iaload, 1) := by decide +kernel
theorem dX2_goTo_31 : decode cX2_goTo 31 = .ok (.bipush 7, 2) := by decide +kernel
theorem dX2_goTo_33 : decode cX2_goTo 33 = .ok (.if_icmp .ge 37, 3) := by decide +kernel
theorem dX2_goTo_36 : decode cX2_goTo 36 = .ok (.aload_n 0, 1) := by decide +kernel
theorem dX2_goTo_37 : decode cX2_goTo 37 = .ok (.getfield 21, 3) := by decide +kernel
theorem dX2_goTo_40 : decode cX2_goTo 40 = .ok (.iload_n 1, 1) := by decide +kernel
theorem dX2_goTo_41 : decode cX2_goTo 41 = .ok (.bipush 7, 2) := by decide +kernel
theorem dX2_goTo_43 : decode cX2_goTo 43 = .ok (.imul, 1) := by decide +kernel
theorem dX2_goTo_44 : decode cX2_goTo 44 = .ok (.aload_n 0, 1) := by decide +kernel
theorem dX2_goTo_45 : decode cX2_goTo 45 = .ok (.getfield 18, 3) := by decide +kernel
theorem dX2_goTo_48 : decode cX2_goTo 48 = .ok (.iload_n 1, 1) := by decide +kernel
theorem dX2_goTo_49 : decode cX2_goTo 49 = .ok (.iaload, 1) := by decide +kernel
theorem dX2_goTo_50 : decode cX2_goTo 50 = .ok (.iadd, 1) := by decide +kernel
theorem dX2_goTo_51 : decode cX2_goTo 51 = .ok (.aload_n 0, 1) := by decide +kernel
theorem dX2_goTo_52 : decode cX2_goTo 52 = .ok (.getfield 15, 3) := by decide +kernel
theorem dX2_goTo_55 : decode cX2_goTo 55 = .ok (.iload_n 3, 1) := by decide +kernel
theorem dX2_goTo_56 : decode cX2_goTo 56 = .ok (.iaload, 1) := by decide +kernel
theorem dX2_goTo_57 : decode cX2_goTo 57 = .ok (.iconst 1, 1) := by decide +kernel
theorem dX2_goTo_58 : decode cX2_goTo 58 = .ok (.isub, 1) := by decide +kernel
theorem dX2_goTo_59 : decode cX2_goTo 59 = .ok (.iastore, 1) := by decide +kernel
theorem dX2_goTo_60 : decode cX2_goTo 60 = .ok (.aload_n 0, 1) := by decide +kernel
theorem dX2_goTo_61 : decode cX2_goTo 61 = .ok (.getfield 18, 3) := by decide +kernel
theorem dX2_goTo_64 : decode cX2_goTo 64 = .ok (.iload_n 1, 1) := by decide +kernel
theorem dX2_goTo_65 : decode cX2_goTo 65 = .ok (.dup2, 1) := by decide +kernel
theorem dX2_goTo_66 : decode cX2_goTo 66 = .ok (.iaload, 1) := by decide +kernel
theorem dX2_goTo_67 : decode cX2_goTo 67 = .ok (.iconst 1, 1) := by decide +kernel
theorem dX2_goTo_68 : decode cX2_goTo 68 = .ok (.iadd, 1) := by decide +kernel
theorem dX2_goTo_69 : decode cX2_goTo 69 = .ok (.iastore, 1) := by decide +kernel
theorem dX2_goTo_70 : decode cX2_goTo 70 = .ok (.return_, 1) := by decide +kernel
theorem dX2_slotOf_0 : decode cX2_slotOf 0 = .ok (.iload_n 1, 1) := by decide +kernel
theorem dX2_slotOf_1 : decode cX2_slotOf 1 = .ok (.ldc 113, 2) := by decide +kernel
theorem dX2_slotOf_3 : decode cX2_slotOf 3 = .ok (.imul, 1) := by decide +kernel
theorem dX2_slotOf_4 : decode cX2_slotOf 4 = .ok (.bipush 23, 2) := by decide +kernel
theorem dX2_slotOf_6 : decode cX2_slotOf 6 = .ok (.iushr, 1) := by decide +kernel
theorem dX2_slotOf_7 : decode cX2_slotOf 7 = .ok (.istore_n 2, 1) := by decide +kernel
theorem dX2_slotOf_8 : decode cX2_slotOf 8 = .ok (.iconst 0, 1) := by decide +kernel
theorem dX2_slotOf_9 : decode cX2_slotOf 9 = .ok (.istore_n 3, 1) := by decide +kernel
theorem dX2_slotOf_10 : decode cX2_slotOf 10 = .ok (.iload_n 3, 1) := by decide +kernel
theorem dX2_slotOf_11 : decode cX2_slotOf 11 = .ok (.sipush 512, 3) := by decide +kernel
theorem dX2_slotOf_14 : decode cX2_slotOf 14 = .ok (.if_icmp .ge 45, 3) := by decide +kernel
theorem dX2_slotOf_17 : decode cX2_slotOf 17 = .ok (.aload_n 0, 1) := by decide +kernel
theorem dX2_slotOf_18 : decode cX2_slotOf 18 = .ok (.getfield 15, 3) := by decide +kernel
theorem dX2_slotOf_21 : decode cX2_slotOf 21 = .ok (.iload_n 2, 1) := by decide +kernel
theorem dX2_slotOf_22 : decode cX2_slotOf 22 = .ok (.iaload, 1) := by decide +kernel
theorem dX2_slotOf_23 : decode cX2_slotOf 23 = .ok (.ifCond .eq 36, 3) := by decide +kernel
theorem dX2_slotOf_26 : decode cX2_slotOf 26 = .ok (.aload_n 0, 1) := by decide +kernel
theorem dX2_slotOf_27 : decode cX2_slotOf 27 = .ok (.getfield 11, 3) := by decide +kernel
theorem dX2_slotOf_30 : decode cX2_slotOf 30 = .ok (.aload_n 0, 1) := by decide +kernel
theorem dX2_slotOf_31 : decode cX2_slotOf 31 = .ok (.getfield 15, 3) := by decide +kernel
theorem dX2_slotOf_34 : decode cX2_slotOf 34 = .ok (.iload_n 2, 1) := by decide +kernel
theorem dX2_slotOf_35 : decode cX2_slotOf 35 = .ok (.iaload, 1) := by decide +kernel
theorem dX2_slotOf_36 : decode cX2_slotOf 36 = .ok (.iconst 1, 1) := by decide +kernel
theorem dX2_slotOf_37 : decode cX2_slotOf 37 = .ok (.isub, 1) := by decide +kernel
theorem dX2_slotOf_38 : decode cX2_slotOf 38 = .ok (.iaload, 1) := by decide +kernel
theorem dX2_slotOf_39 : decode cX2_slotOf 39 = .ok (.iload_n 1, 1) := by decide +kernel
theorem dX2_slotOf_40 : decode cX2_slotOf 40 = .ok (.if_icmp .ne 5, 3) := by decide +kernel
theorem dX2_slotOf_43 : decode cX2_slotOf 43 = .ok (.iload_n 2, 1) := by decide +kernel
theorem dX2_slotOf_44 : decode cX2_slotOf 44 = .ok (.ireturn, 1) := by decide +kernel
theorem dX2_slotOf_45 : decode cX2_slotOf 45 = .ok (.iload_n 2, 1) := by decide +kernel
theorem dX2_slotOf_46 : decode cX2_slotOf 46 = .ok (.iconst 1, 1) := by decide +kernel
theorem dX2_slotOf_47 : decode cX2_slotOf 47 = .ok (.iadd, 1) := by decide +kernel
theorem dX2_slotOf_48 : decode cX2_slotOf 48 = .ok (.sipush 511, 3) := by decide +kernel
theorem dX2_slotOf_51 : decode cX2_slotOf 51 = .ok (.iand, 1) := by decide +kernel
theorem dX2_slotOf_52 : decode cX2_slotOf 52 = .ok (.istore_n 2, 1) := by decide +kernel
theorem dX2_slotOf_53 : decode cX2_slotOf 53 = .ok (.iinc 3 1, 3) := by decide +kernel
theorem dX2_slotOf_56 : decode cX2_slotOf 56 = .ok (.goto (-46), 3) := by decide +kernel
theorem dX2_slotOf_59 : decode cX2_slotOf 59 = .ok (.iload_n 2, 1) := by decide +kernel
theorem dX2_slotOf_60 : decode cX2_slotOf 60 = .ok (.ireturn, 1) := by decide +kernel
theorem dX2_meet_0 : decode cX2_meet 0 = .ok (.aload_n 0, 1) := by decide +kernel
theorem dX2_meet_1 : decode cX2_meet 1 = .ok (.getfield 43, 3) := by decide +kernel
theorem dX2_meet_4 : decode cX2_meet 4 = .ok (.sipush 300, 3) := by decide +kernel
theorem dX2_meet_7 : decode cX2_meet 7 = .ok (.if_icmp .lt 10, 3) := by decide +kernel
theorem dX2_meet_10 : decode cX2_meet 10 = .ok (.aload_n 0, 1) := by decide +kernel
theorem dX2_meet_11 : decode cX2_meet 11 = .ok (.iconst 0, 1) := by decide +kernel
theorem dX2_meet_12 : decode cX2_meet 12 = .ok (.putfield 47, 3) := by decide +kernel
theorem dX2_meet_15 : decode cX2_meet 15 = .ok (.iconst 0, 1) := by decide +kernel
theorem dX2_meet_16 : decode cX2_meet 16 = .ok (.ireturn, 1) := by decide +kernel
theorem dX2_meet_17 : decode cX2_meet 17 = .ok (.aload_n 0, 1) := by decide +kernel
theorem dX2_meet_18 : decode cX2_meet 18 = .ok (.getfield 11, 3) := by decide +kernel
theorem dX2_meet_21 : decode cX2_meet 21 = .ok (.aload_n 0, 1) := by decide +kernel
theorem dX2_meet_22 : decode cX2_meet 22 = .ok (.getfield 43, 3) := by decide +kernel
theorem dX2_meet_25 : decode cX2_meet 25 = .ok (.iload_n 1, 1) := by decide +kernel
theorem dX2_meet_26 : decode cX2_meet 26 = .ok (.iastore, 1) := by decide +kernel
theorem dX2_meet_27 : decode cX2_meet 27 = .ok (.aload_n 0, 1) := by decide +kernel
theorem dX2_meet_28 : decode cX2_meet 28 = .ok (.dup, 1) := by decide +kernel
theorem dX2_meet_29 : decode cX2_meet 29 = .ok (.getfield 43, 3) := by decide +kernel
theorem dX2_meet_32 : decode cX2_meet 32 = .ok (.iconst 1, 1) := by decide +kernel
theorem dX2_meet_33 : decode cX2_meet 33 = .ok (.iadd, 1) := by decide +kernel
theorem dX2_meet_34 : decode cX2_meet 34 = .ok (.putfield 43, 3) := by decide +kernel
theorem dX2_meet_37 : decode cX2_meet 37 = .ok (.aload_n 0, 1) := by decide +kernel
theorem dX2_meet_38 : decode cX2_meet 38 = .ok (.getfield 15, 3) := by decide +kernel
theorem dX2_meet_41 : decode cX2_meet 41 = .ok (.iload_n 2, 1) := by decide +kernel
theorem dX2_meet_42 : decode cX2_meet 42 = .ok (.aload_n 0, 1) := by decide +kernel
theorem dX2_meet_43 : decode cX2_meet 43 = .ok (.getfield 43, 3) := by decide +kernel
theorem dX2_meet_46 : decode cX2_meet 46 = .ok (.iastore, 1) := by decide +kernel
theorem dX2_meet_47 : decode cX2_meet 47 = .ok (.iconst 1, 1) := by decide +kernel
theorem dX2_meet_48 : decode cX2_meet 48 = .ok (.ireturn, 1) := by decide +kernel
set_option maxRecDepth 20000 in
theorem ggX2_hasWheel_X2_countArrivals : GoodIn wsX2_hasWheel wsX2_countArrivals := goodIn_r _ [10, 2, 1, 4, 5, 11, 12, 13, 14, 15, 16, 17, 18, 19, 20, 21, 22, 23, 24, 25] (by decide +kernel) (by decide +kernel)
set_option maxRecDepth 20000 in
theorem gX2_hasWheel_X2_countArrivals : GoodIn wsX2_hasWheel (wsV RX2 114 RX2 yX2_countArrivals wsX2_countArrivals) := goodIn_app (goodIn_of _ (by decide +kernel)) ggX2_hasWheel_X2_countArrivals
theorem dX2_hasWheel_0 : decode cX2_hasWheel 0 = .ok (.aload_n 0, 1) := by decide +kernel
theorem dX2_hasWheel_1 : decode cX2_hasWheel 1 = .ok (.invokevirtual 114, 3) := by decide +kernel
theorem dX2_hasWheel_4 : decode cX2_hasWheel 4 = .ok (.iconst 0, 1) := by decide +kernel
theorem dX2_hasWheel_5 : decode cX2_hasWheel 5 = .ok (.istore_n 1, 1) := by decide +kernel
theorem dX2_hasWheel_6 : decode cX2_hasWheel 6 = .ok (.iconst 0, 1) := by decide +kernel
theorem dX2_hasWheel_7 : decode cX2_hasWheel 7 = .ok (.istore_n 2, 1) := by decide +kernel
theorem dX2_hasWheel_8 : decode cX2_hasWheel 8 = .ok (.iload_n 2, 1) := by decide +kernel
theorem dX2_hasWheel_9 : decode cX2_hasWheel 9 = .ok (.aload_n 0, 1) := by decide +kernel
theorem dX2_hasWheel_10 : decode cX2_hasWheel 10 = .ok (.getfield 43, 3) := by decide +kernel
theorem dX2_hasWheel_13 : decode cX2_hasWheel 13 = .ok (.if_icmp .ge 28, 3) := by decide +kernel
theorem dX2_hasWheel_16 : decode cX2_hasWheel 16 = .ok (.aload_n 0, 1) := by decide +kernel
theorem dX2_hasWheel_17 : decode cX2_hasWheel 17 = .ok (.getfield 24, 3) := by decide +kernel
theorem dX2_hasWheel_20 : decode cX2_hasWheel 20 = .ok (.iload_n 2, 1) := by decide +kernel
theorem dX2_hasWheel_21 : decode cX2_hasWheel 21 = .ok (.iaload, 1) := by decide +kernel
theorem dX2_hasWheel_22 : decode cX2_hasWheel 22 = .ok (.ifCond .ne 13, 3) := by decide +kernel
theorem dX2_hasWheel_25 : decode cX2_hasWheel 25 = .ok (.aload_n 0, 1) := by decide +kernel
theorem dX2_hasWheel_26 : decode cX2_hasWheel 26 = .ok (.getfield 27, 3) := by decide +kernel
theorem dX2_hasWheel_29 : decode cX2_hasWheel 29 = .ok (.iload_n 1, 1) := by decide +kernel
theorem dX2_hasWheel_30 : decode cX2_hasWheel 30 = .ok (.iload_n 2, 1) := by decide +kernel
theorem dX2_hasWheel_31 : decode cX2_hasWheel 31 = .ok (.iastore, 1) := by decide +kernel
theorem dX2_hasWheel_32 : decode cX2_hasWheel 32 = .ok (.iinc 1 1, 3) := by decide +kernel
theorem dX2_hasWheel_35 : decode cX2_hasWheel 35 = .ok (.iinc 2 1, 3) := by decide +kernel
theorem dX2_hasWheel_38 : decode cX2_hasWheel 38 = .ok (.goto (-30), 3) := by decide +kernel
theorem dX2_hasWheel_41 : decode cX2_hasWheel 41 = .ok (.iconst 0, 1) := by decide +kernel
theorem dX2_hasWheel_42 : decode cX2_hasWheel 42 = .ok (.istore_n 2, 1) := by decide +kernel
theorem dX2_hasWheel_43 : decode cX2_hasWheel 43 = .ok (.iload_n 2, 1) := by decide +kernel
theorem dX2_hasWheel_44 : decode cX2_hasWheel 44 = .ok (.iload_n 1, 1) := by decide +kernel
theorem dX2_hasWheel_45 : decode cX2_hasWheel 45 = .ok (.if_icmp .ge 97, 3) := by decide +kernel
theorem dX2_hasWheel_48 : decode cX2_hasWheel 48 = .ok (.iload_n 2, 1) := by decide +kernel
theorem dX2_hasWheel_49 : decode cX2_hasWheel 49 = .ok (.aload_n 0, 1) := by decide +kernel
theorem dX2_hasWheel_50 : decode cX2_hasWheel 50 = .ok (.getfield 43, 3) := by decide +kernel
theorem dX2_hasWheel_53 : decode cX2_hasWheel 53 = .ok (.if_icmp .ge 89, 3) := by decide +kernel
theorem dX2_hasWheel_56 : decode cX2_hasWheel 56 = .ok (.aload_n 0, 1) := by decide +kernel
theorem dX2_hasWheel_57 : decode cX2_hasWheel 57 = .ok (.getfield 27, 3) := by decide +kernel
theorem dX2_hasWheel_60 : decode cX2_hasWheel 60 = .ok (.iload_n 2, 1) := by decide +kernel
theorem dX2_hasWheel_61 : decode cX2_hasWheel 61 = .ok (.iaload, 1) := by decide +kernel
theorem dX2_hasWheel_62 : decode cX2_hasWheel 62 = .ok (.istore_n 3, 1) := by decide +kernel
theorem dX2_hasWheel_63 : decode cX2_hasWheel 63 = .ok (.iconst 0, 1) := by decide +kernel
theorem dX2_hasWheel_64 : decode cX2_hasWheel 64 = .ok (.istore 4, 2) := by decide +kernel
theorem dX2_hasWheel_66 : decode cX2_hasWheel 66 = .ok (.iload 4, 2) := by decide +kernel
theorem dX2_hasWheel_68 : decode cX2_hasWheel 68 = .ok (.aload_n 0, 1) := by decide +kernel
theorem dX2_hasWheel_69 : decode cX2_hasWheel 69 = .ok (.getfield 18, 3) := by decide +kernel
theorem dX2_hasWheel_72 : decode cX2_hasWheel 72 = .ok (.iload_n 3, 1) := by decide +kernel
theorem dX2_hasWheel_73 : decode cX2_hasWheel 73 = .ok (.iaload, 1) := by decide +kernel
theorem dX2_hasWheel_74 : decode cX2_hasWheel 74 = .ok (.if_icmp .ge 62, 3) := by decide +kernel
theorem dX2_hasWheel_77 : decode cX2_hasWheel 77 = .ok (.aload_n 0, 1) := by decide +kernel
theorem dX2_hasWheel_78 : decode cX2_hasWheel 78 = .ok (.getfield 21, 3) := by decide +kernel
theorem dX2_hasWheel_81 : decode cX2_hasWheel 81 = .ok (.iload_n 3, 1) := by decide +kernel
theorem dX2_hasWheel_82 : decode cX2_hasWheel 82 = .ok (.bipush 7, 2) := by decide +kernel
theorem dX2_hasWheel_84 : decode cX2_hasWheel 84 = .ok (.imul, 1) := by decide +kernel
theorem dX2_hasWheel_85 : decode cX2_hasWheel 85 = .ok (.iload 4, 2) := by decide +kernel
theorem dX2_hasWheel_87 : decode cX2_hasWheel 87 = .ok (.iadd, 1) := by decide +kernel
theorem dX2_hasWheel_88 : decode cX2_hasWheel 88 = .ok (.iaload, 1) := by decide +kernel
theorem dX2_hasWheel_89 : decode cX2_hasWheel 89 = .ok (.istore 5, 2) := by decide +kernel
theorem dX2_hasWheel_91 : decode cX2_hasWheel 91 = .ok (.aload_n 0, 1) := by decide +kernel
theorem dX2_hasWheel_92 : decode cX2_hasWheel 92 = .ok (.getfield 24, 3) := by decide +kernel
theorem dX2_hasWheel_95 : decode cX2_hasWheel 95 = .ok (.iload 5, 2) := by decide +kernel
theorem dX2_hasWheel_97 : decode cX2_hasWheel 97 = .ok (.dup2, 1) := by decide +kernel
theorem dX2_hasWheel_98 : decode cX2_hasWheel 98 = .ok (.iaload, 1) := by decide +kernel
theorem dX2_hasWheel_99 : decode cX2_hasWheel 99 = .ok (.iconst 1, 1) := by decide +kernel
theorem dX2_hasWheel_100 : decode cX2_hasWheel 100 = .ok (.isub, 1) := by decide +kernel
theorem dX2_hasWheel_101 : decode cX2_hasWheel 101 = .ok (.iastore, 1) := by decide +kernel
theorem dX2_hasWheel_102 : decode cX2_hasWheel 102 = .ok (.aload_n 0, 1) := by decide +kernel
theorem dX2_hasWheel_103 : decode cX2_hasWheel 103 = .ok (.getfield 24, 3) := by decide +kernel
theorem dX2_hasWheel_106 : decode cX2_hasWheel 106 = .ok (.iload 5, 2) := by decide +kernel
theorem dX2_hasWheel_108 : decode cX2_hasWheel 108 = .ok (.iaload, 1) := by decide +kernel
theorem dX2_hasWheel_109 : decode cX2_hasWheel 109 = .ok (.ifCond .ne 21, 3) := by decide +kernel
theorem dX2_hasWheel_112 : decode cX2_hasWheel 112 = .ok (.iload_n 1, 1) := by decide +kernel
theorem dX2_hasWheel_113 : decode cX2_hasWheel 113 = .ok (.sipush 300, 3) := by decide +kernel
theorem dX2_hasWheel_116 : decode cX2_hasWheel 116 = .ok (.if_icmp .ge 14, 3) := by decide +kernel
theorem dX2_hasWheel_119 : decode cX2_hasWheel 119 = .ok (.aload_n 0, 1) := by decide +kernel
theorem dX2_hasWheel_120 : decode cX2_hasWheel 120 = .ok (.getfield 27, 3) := by decide +kernel
theorem dX2_hasWheel_123 : decode cX2_hasWheel 123 = .ok (.iload_n 1, 1) := by decide +kernel
theorem dX2_hasWheel_124 : decode cX2_hasWheel 124 = .ok (.iload 5, 2) := by decide +kernel
theorem dX2_hasWheel_126 : decode cX2_hasWheel 126 = .ok (.iastore, 1) := by decide +kernel
theorem dX2_hasWheel_127 : decode cX2_hasWheel 127 = .ok (.iinc 1 1, 3) := by decide +kernel
theorem dX2_hasWheel_130 : decode cX2_hasWheel 130 = .ok (.iinc 4 1, 3) := by decide +kernel
theorem dX2_hasWheel_133 : decode cX2_hasWheel 133 = .ok (.goto (-67), 3) := by decide +kernel
theorem dX2_hasWheel_136 : decode cX2_hasWheel 136 = .ok (.iinc 2 1, 3) := by decide +kernel
theorem dX2_hasWheel_139 : decode cX2_hasWheel 139 = .ok (.goto (-96), 3) := by decide +kernel
theorem dX2_hasWheel_142 : decode cX2_hasWheel 142 = .ok (.iload_n 1, 1) := by decide +kernel
theorem dX2_hasWheel_143 : decode cX2_hasWheel 143 = .ok (.aload_n 0, 1) := by decide +kernel
theorem dX2_hasWheel_144 : decode cX2_hasWheel 144 = .ok (.getfield 43, 3) := by decide +kernel
theorem dX2_hasWheel_147 : decode cX2_hasWheel 147 = .ok (.if_icmp .ge 7, 3) := by decide +kernel
theorem dX2_hasWheel_150 : decode cX2_hasWheel 150 = .ok (.iconst 1, 1) := by decide +kernel
theorem dX2_hasWheel_151 : decode cX2_hasWheel 151 = .ok (.goto 4, 3) := by decide +kernel
theorem dX2_hasWheel_154 : decode cX2_hasWheel 154 = .ok (.iconst 0, 1) := by decide +kernel
theorem dX2_hasWheel_155 : decode cX2_hasWheel 155 = .ok (.ireturn, 1) := by decide +kernel
set_option maxRecDepth 20000 in
theorem ggX2_countArrivals_J7_fill_53178 : GoodIn wsX2_countArrivals wsJ7_fill_53178 := goodIn_r _ [8] (by decide +kernel) (by decide +kernel)
set_option maxRecDepth 20000 in
theorem gX2_countArrivals_J7_fill_53178 : GoodIn wsX2_countArrivals (va_wsS RX2 33 yJ7_fill_53178 wsJ7_fill_53178) := goodIn_app (goodIn_of _ (by decide +kernel)) ggX2_countArrivals_J7_fill_53178
theorem dX2_countArrivals_0 : decode cX2_countArrivals 0 = .ok (.aload_n 0, 1) := by decide +kernel
theorem dX2_countArrivals_1 : decode cX2_countArrivals 1 = .ok (.getfield 24, 3) := by decide +kernel
theorem dX2_countArrivals_4 : decode cX2_countArrivals 4 = .ok (.iconst 0, 1) := by decide +kernel
theorem dX2_countArrivals_5 : decode cX2_countArrivals 5 = .ok (.invokestatic 33, 3) := by decide +kernel
theorem dX2_countArrivals_8 : decode cX2_countArrivals 8 = .ok (.iconst 0, 1) := by decide +kernel
theorem dX2_countArrivals_9 : decode cX2_countArrivals 9 = .ok (.istore_n 1, 1) := by decide +kernel
theorem dX2_countArrivals_10 : decode cX2_countArrivals 10 = .ok (.iload_n 1, 1) := by decide +kernel
theorem dX2_countArrivals_11 : decode cX2_countArrivals 11 = .ok (.aload_n 0, 1) := by decide +kernel
theorem dX2_countArrivals_12 : decode cX2_countArrivals 12 = .ok (.getfield 43, 3) := by decide +kernel
theorem dX2_countArrivals_15 : decode cX2_countArrivals 15 = .ok (.if_icmp .ge 47, 3) := by decide +kernel
theorem dX2_countArrivals_18 : decode cX2_countArrivals 18 = .ok (.iconst 0, 1) := by decide +kernel
theorem dX2_countArrivals_19 : decode cX2_countArrivals 19 = .ok (.istore_n 2, 1) := by decide +kernel
theorem dX2_countArrivals_20 : decode cX2_countArrivals 20 = .ok (.iload_n 2, 1) := by decide +kernel
theorem dX2_countArrivals_21 : decode cX2_countArrivals 21 = .ok (.aload_n 0, 1) := by decide +kernel
theorem dX2_countArrivals_22 : decode cX2_countArrivals 22 = .ok (.getfield 18, 3) := by decide +kernel
theorem dX2_countArrivals_25 : decode cX2_countArrivals 25 = .ok (.iload_n 1, 1) := by decide +kernel
theorem dX2_countArrivals_26 : decode cX2_countArrivals 26 = .ok (.iaload, 1) := by decide +kernel
theorem dX2_countArrivals_27 : decode cX2_countArrivals 27 = .ok (.if_icmp .ge 29, 3) := by decide +kernel
theorem dX2_countArrivals_30 : decode cX2_countArrivals 30 = .ok (.aload_n 0, 1) := by decide +kernel
theorem dX2_countArrivals_31 : decode cX2_countArrivals 31 = .ok (.getfield 24, 3) := by decide +kernel
theorem dX2_countArrivals_34 : decode cX2_countArrivals 34 = .ok (.aload_n 0, 1) := by decide +kernel
theorem dX2_countArrivals_35 : decode cX2_countArrivals 35 = .ok (.getfield 21, 3) := by decide +kernel
theorem dX2_countArrivals_38 : decode cX2_countArrivals 38 = .ok (.iload_n 1, 1) := by decide +kernel
theorem dX2_countArrivals_39 : decode cX2_countArrivals 39 = .ok (.bipush 7, 2) := by decide +kernel
theorem dX2_countArrivals_41 : decode cX2_countArrivals 41 = .ok (.imul, 1) := by decide +kernel
theorem dX2_countArrivals_42 : decode cX2_countArrivals 42 = .ok (.iload_n 2, 1) := by decide +kernel
theorem dX2_countArrivals_43 : decode cX2_countArrivals 43 = .ok (.iadd, 1) := by decide +kernel
theorem dX2_countArrivals_44 : decode cX2_countArrivals 44 = .ok (.iaload, 1) := by decide +kernel
theorem dX2_countArrivals_45 : decode cX2_countArrivals 45 = .ok (.dup2, 1) := by decide +kernel
theorem dX2_countArrivals_46 : decode cX2_countArrivals 46 = .ok (.iaload, 1) := by decide +kernel
theorem dX2_countArrivals_47 : decode cX2_countArrivals 47 = .ok (.iconst 1, 1) := by decide +kernel
theorem dX2_countArrivals_48 : decode cX2_countArrivals 48 = .ok (.iadd, 1) := by decide +kernel
theorem dX2_countArrivals_49 : decode cX2_countArrivals 49 = .ok (.iastore, 1) := by decide +kernel
theorem dX2_countArrivals_50 : decode cX2_countArrivals 50 = .ok (.iinc 2 1, 3) := by decide +kernel
theorem dX2_countArrivals_53 : decode cX2_countArrivals 53 = .ok (.goto (-33), 3) := by decide +kernel
theorem dX2_countArrivals_56 : decode cX2_countArrivals 56 = .ok (.iinc 1 1, 3) := by decide +kernel
theorem dX2_countArrivals_59 : decode cX2_countArrivals 59 = .ok (.goto (-49), 3) := by decide +kernel
theorem dX2_countArrivals_62 : decode cX2_countArrivals 62 = .ok (.return_, 1) := by decide +kernel
set_option maxRecDepth 20000 in
theorem ggX2_unlikeRests_J13_bitCount_95d88 : GoodIn wsX2_unlikeRests wsJ13_bitCount_95d88 := goodIn_r _ [5, 6, 7, 8] (by decide +kernel) (by decide +kernel)
set_option maxRecDepth 20000 in
theorem gX2_unlikeRests_J13_bitCount_95d88 : GoodIn wsX2_unlikeRests (va_wsS RX2 117 yJ13_bitCount_95d88 wsJ13_bitCount_95d88) := goodIn_app (goodIn_of _ (by decide +kernel)) ggX2_unlikeRests_J13_bitCount_95d88
theorem dX2_unlikeRests_0 : decode cX2_unlikeRests 0 = .ok (.aload_n 0, 1) := by decide +kernel
theorem dX2_unlikeRests_1 : decode cX2_unlikeRests 1 = .ok (.getfield 39, 3) := by decide +kernel
theorem dX2_unlikeRests_4 : decode cX2_unlikeRests 4 = .ok (.invokestatic 117, 3) := by decide +kernel
theorem dX2_unlikeRests_7 : decode cX2_unlikeRests 7 = .ok (.ireturn, 1) := by decide +kernel
theorem dX2_leastRest_0 : decode cX2_leastRest 0 = .ok (.iconst 0, 1) := by decide +kernel
theorem dX2_leastRest_1 : decode cX2_leastRest 1 = .ok (.istore_n 1, 1) := by decide +kernel
theorem dX2_leastRest_2 : decode cX2_leastRest 2 = .ok (.iload_n 1, 1) := by decide +kernel
theorem dX2_leastRest_3 : decode cX2_leastRest 3 = .ok (.bipush 64, 2) := by decide +kernel
theorem dX2_leastRest_5 : decode cX2_leastRest 5 = .ok (.if_icmp .ge 24, 3) := by decide +kernel
theorem dX2_leastRest_8 : decode cX2_leastRest 8 = .ok (.aload_n 0, 1) := by decide +kernel
theorem dX2_leastRest_9 : decode cX2_leastRest 9 = .ok (.getfield 39, 3) := by decide +kernel
theorem dX2_leastRest_12 : decode cX2_leastRest 12 = .ok (.iload_n 1, 1) := by decide +kernel
theorem dX2_leastRest_13 : decode cX2_leastRest 13 = .ok (.lshr, 1) := by decide +kernel
theorem dX2_leastRest_14 : decode cX2_leastRest 14 = .ok (.lconst 1, 1) := by decide +kernel
theorem dX2_leastRest_15 : decode cX2_leastRest 15 = .ok (.land, 1) := by decide +kernel
theorem dX2_leastRest_16 : decode cX2_leastRest 16 = .ok (.lconst 1, 1) := by decide +kernel
theorem dX2_leastRest_17 : decode cX2_leastRest 17 = .ok (.lcmp, 1) := by decide +kernel
theorem dX2_leastRest_18 : decode cX2_leastRest 18 = .ok (.ifCond .ne 5, 3) := by decide +kernel
theorem dX2_leastRest_21 : decode cX2_leastRest 21 = .ok (.iload_n 1, 1) := by decide +kernel
theorem dX2_leastRest_22 : decode cX2_leastRest 22 = .ok (.ireturn, 1) := by decide +kernel
theorem dX2_leastRest_23 : decode cX2_leastRest 23 = .ok (.iinc 1 1, 3) := by decide +kernel
theorem dX2_leastRest_26 : decode cX2_leastRest 26 = .ok (.goto (-24), 3) := by decide +kernel
theorem dX2_leastRest_29 : decode cX2_leastRest 29 = .ok (.iconst (-1), 1) := by decide +kernel
theorem dX2_leastRest_30 : decode cX2_leastRest 30 = .ok (.ireturn, 1) := by decide +kernel
theorem dX2_greatestRest_0 : decode cX2_greatestRest 0 = .ok (.bipush 63, 2) := by decide +kernel
theorem dX2_greatestRest_2 : decode cX2_greatestRest 2 = .ok (.istore_n 1, 1) := by decide +kernel
theorem dX2_greatestRest_3 : decode cX2_greatestRest 3 = .ok (.iload_n 1, 1) := by decide +kernel
theorem dX2_greatestRest_4 : decode cX2_greatestRest 4 = .ok (.ifCond .lt 24, 3) := by decide +kernel
theorem dX2_greatestRest_7 : decode cX2_greatestRest 7 = .ok (.aload_n 0, 1) := by decide +kernel
theorem dX2_greatestRest_8 : decode cX2_greatestRest 8 = .ok (.getfield 39, 3) := by decide +kernel
theorem dX2_greatestRest_11 : decode cX2_greatestRest 11 = .ok (.iload_n 1, 1) := by decide +kernel
theorem dX2_greatestRest_12 : decode cX2_greatestRest 12 = .ok (.lshr, 1) := by decide +kernel
theorem dX2_greatestRest_13 : decode cX2_greatestRest 13 = .ok (.lconst 1, 1) := by decide +kernel
theorem dX2_greatestRest_14 : decode cX2_greatestRest 14 = .ok (.land, 1) := by decide +kernel
theorem dX2_greatestRest_15 : decode cX2_greatestRest 15 = .ok (.lconst 1, 1) := by decide +kernel
theorem dX2_greatestRest_16 : decode cX2_greatestRest 16 = .ok (.lcmp, 1) := by decide +kernel
theorem dX2_greatestRest_17 : decode cX2_greatestRest 17 = .ok (.ifCond .ne 5, 3) := by decide +kernel
theorem dX2_greatestRest_20 : decode cX2_greatestRest 20 = .ok (.iload_n 1, 1) := by decide +kernel
theorem dX2_greatestRest_21 : decode cX2_greatestRest 21 = .ok (.ireturn, 1) := by decide +kernel
theorem dX2_greatestRest_22 : decode cX2_greatestRest 22 = .ok (.iinc 1 (-1), 3) := by decide +kernel
theorem dX2_greatestRest_25 : decode cX2_greatestRest 25 = .ok (.goto (-22), 3) := by decide +kernel
theorem dX2_greatestRest_28 : decode cX2_greatestRest 28 = .ok (.iconst (-1), 1) := by decide +kernel
theorem dX2_greatestRest_29 : decode cX2_greatestRest 29 = .ok (.ireturn, 1) := by decide +kernel
