theorem dX1_init_0 : decode cX1_init 0 = .ok (.aload_n 0, 1) := by decide +kernel
theorem dX1_init_1 : decode cX1_init 1 = .ok (.invokespecial 3, 3) := by decide +kernel
theorem dX1_init_4 : decode cX1_init 4 = .ok (.aload_n 0, 1) := by decide +kernel
theorem dX1_init_5 : decode cX1_init 5 = .ok (.iconst 4, 1) := by decide +kernel
theorem dX1_init_6 : decode cX1_init 6 = .ok (.newarray .int, 2) := by decide +kernel
theorem dX1_init_8 : decode cX1_init 8 = .ok (.putfield 9, 3) := by decide +kernel
theorem dX1_init_11 : decode cX1_init 11 = .ok (.aload_n 0, 1) := by decide +kernel
theorem dX1_init_12 : decode cX1_init 12 = .ok (.iconst 4, 1) := by decide +kernel
theorem dX1_init_13 : decode cX1_init 13 = .ok (.newarray .int, 2) := by decide +kernel
theorem dX1_init_15 : decode cX1_init 15 = .ok (.putfield 15, 3) := by decide +kernel
theorem dX1_init_18 : decode cX1_init 18 = .ok (.return_, 1) := by decide +kernel
theorem dX1_begin_0 : decode cX1_begin 0 = .ok (.aload_n 0, 1) := by decide +kernel
theorem dX1_begin_1 : decode cX1_begin 1 = .ok (.iconst 0, 1) := by decide +kernel
theorem dX1_begin_2 : decode cX1_begin 2 = .ok (.putfield 18, 3) := by decide +kernel
theorem dX1_begin_5 : decode cX1_begin 5 = .ok (.return_, 1) := by decide +kernel
theorem dX1_mayEnd_0 : decode cX1_mayEnd 0 = .ok (.aload_n 0, 1) := by decide +kernel
theorem dX1_mayEnd_1 : decode cX1_mayEnd 1 = .ok (.getfield 18, 3) := by decide +kernel
theorem dX1_mayEnd_4 : decode cX1_mayEnd 4 = .ok (.iconst 4, 1) := by decide +kernel
theorem dX1_mayEnd_5 : decode cX1_mayEnd 5 = .ok (.if_icmp .eq 12, 3) := by decide +kernel
theorem dX1_mayEnd_8 : decode cX1_mayEnd 8 = .ok (.aload_n 0, 1) := by decide +kernel
theorem dX1_mayEnd_9 : decode cX1_mayEnd 9 = .ok (.getfield 18, 3) := by decide +kernel
theorem dX1_mayEnd_12 : decode cX1_mayEnd 12 = .ok (.bipush 8, 2) := by decide +kernel
theorem dX1_mayEnd_14 : decode cX1_mayEnd 14 = .ok (.if_icmp .ne 7, 3) := by decide +kernel
theorem dX1_mayEnd_17 : decode cX1_mayEnd 17 = .ok (.iconst 1, 1) := by decide +kernel
theorem dX1_mayEnd_18 : decode cX1_mayEnd 18 = .ok (.goto 4, 3) := by decide +kernel
theorem dX1_mayEnd_21 : decode cX1_mayEnd 21 = .ok (.iconst 0, 1) := by decide +kernel
theorem dX1_mayEnd_22 : decode cX1_mayEnd 22 = .ok (.ireturn, 1) := by decide +kernel
set_option maxRecDepth 20000 in
theorem ggX1_take_X1_takeOrder : GoodIn wsX1_take wsX1_takeOrder := goodIn_r _ [7, 8, 1, 9, 10, 11, 12, 6, 13, 14, 49, 50, 51, 52, 53, 54, 55, 56] (by decide +kernel) (by decide +kernel)
set_option maxRecDepth 20000 in
theorem gX1_take_X1_takeOrder : GoodIn wsX1_take (wsV RX1 22 RX1 yX1_takeOrder wsX1_takeOrder) := goodIn_app (goodIn_of _ (by decide +kernel)) ggX1_take_X1_takeOrder
set_option maxRecDepth 20000 in
theorem ggX1_take_X1_takeMark : GoodIn wsX1_take wsX1_takeMark := goodIn_r _ [18, 1, 49, 50, 51, 52, 53, 54, 55, 56] (by decide +kernel) (by decide +kernel)
set_option maxRecDepth 20000 in
theorem gX1_take_X1_takeMark : GoodIn wsX1_take (wsV RX1 26 RX1 yX1_takeMark wsX1_takeMark) := goodIn_app (goodIn_of _ (by decide +kernel)) ggX1_take_X1_takeMark
set_option maxRecDepth 20000 in
theorem ggX1_take_X1_takeFirstContact : GoodIn wsX1_take wsX1_takeFirstContact := goodIn_r _ [22, 9, 23, 24, 2, 25, 26, 6, 27, 28, 29, 30, 31, 1, 32, 33, 34, 35, 36, 37, 38, 39, 49, 50, 51, 52, 53, 54, 55, 56] (by decide +kernel) (by decide +kernel)
set_option maxRecDepth 20000 in
theorem gX1_take_X1_takeFirstContact : GoodIn wsX1_take (wsV RX1 30 RX1 yX1_takeFirstContact wsX1_takeFirstContact) := goodIn_app (goodIn_of _ (by decide +kernel)) ggX1_take_X1_takeFirstContact
set_option maxRecDepth 20000 in
theorem ggX1_take_X1_takeContact : GoodIn wsX1_take wsX1_takeContact := goodIn_r _ [39, 23, 1, 25, 26, 6, 27, 32, 33, 34, 35, 24, 2, 49, 50, 51, 52, 53, 54, 55, 56] (by decide +kernel) (by decide +kernel)
set_option maxRecDepth 20000 in
theorem gX1_take_X1_takeContact : GoodIn wsX1_take (wsV RX1 33 RX1 yX1_takeContact wsX1_takeContact) := goodIn_app (goodIn_of _ (by decide +kernel)) ggX1_take_X1_takeContact
set_option maxRecDepth 20000 in
theorem ggX1_take_X1_takeMore : GoodIn wsX1_take wsX1_takeMore := goodIn_r _ [43, 1, 9, 24, 28, 29, 30, 6, 31, 32, 33, 34, 35, 23, 2, 36, 37, 38, 39, 25, 26, 27, 49, 50, 51, 52, 53, 54, 55, 56] (by decide +kernel) (by decide +kernel)
set_option maxRecDepth 20000 in
theorem gX1_take_X1_takeMore : GoodIn wsX1_take (wsV RX1 37 RX1 yX1_takeMore wsX1_takeMore) := goodIn_app (goodIn_of _ (by decide +kernel)) ggX1_take_X1_takeMore
set_option maxRecDepth 20000 in
theorem ggX1_take_X1_takeOwner : GoodIn wsX1_take wsX1_takeOwner := goodIn_r _ [13, 14, 1, 49, 50, 51, 52, 53, 54, 55, 56] (by decide +kernel) (by decide +kernel)
set_option maxRecDepth 20000 in
theorem gX1_take_X1_takeOwner : GoodIn wsX1_take (wsV RX1 40 RX1 yX1_takeOwner wsX1_takeOwner) := goodIn_app (goodIn_of _ (by decide +kernel)) ggX1_take_X1_takeOwner
set_option maxRecDepth 20000 in
theorem ggX1_take_X1_takeTime : GoodIn wsX1_take wsX1_takeTime := goodIn_r _ [47, 48, 1, 49, 50, 51, 52, 53, 54, 55, 56] (by decide +kernel) (by decide +kernel)
set_option maxRecDepth 20000 in
theorem gX1_take_X1_takeTime : GoodIn wsX1_take (wsV RX1 44 RX1 yX1_takeTime wsX1_takeTime) := goodIn_app (goodIn_of _ (by decide +kernel)) ggX1_take_X1_takeTime
theorem dX1_take_0 : decode cX1_take 0 = .ok (.aload_n 0, 1) := by decide +kernel
theorem dX1_take_1 : decode cX1_take 1 = .ok (.getfield 18, 3) := by decide +kernel
theorem dX1_take_4 : decode cX1_take 4 = .ok (.tableswitch 109 0 7 #[48, 54, 63, 69, 79, 85, 93, 103], 48) := by decide +kernel
theorem dX1_take_52 : decode cX1_take 52 = .ok (.aload_n 0, 1) := by decide +kernel
theorem dX1_take_53 : decode cX1_take 53 = .ok (.iload_n 1, 1) := by decide +kernel
theorem dX1_take_54 : decode cX1_take 54 = .ok (.invokevirtual 22, 3) := by decide +kernel
theorem dX1_take_57 : decode cX1_take 57 = .ok (.ireturn, 1) := by decide +kernel
theorem dX1_take_58 : decode cX1_take 58 = .ok (.aload_n 0, 1) := by decide +kernel
theorem dX1_take_59 : decode cX1_take 59 = .ok (.iload_n 1, 1) := by decide +kernel
theorem dX1_take_60 : decode cX1_take 60 = .ok (.bipush 61, 2) := by decide +kernel
theorem dX1_take_62 : decode cX1_take 62 = .ok (.iconst 2, 1) := by decide +kernel
theorem dX1_take_63 : decode cX1_take 63 = .ok (.invokevirtual 26, 3) := by decide +kernel
theorem dX1_take_66 : decode cX1_take 66 = .ok (.ireturn, 1) := by decide +kernel
theorem dX1_take_67 : decode cX1_take 67 = .ok (.aload_n 0, 1) := by decide +kernel
theorem dX1_take_68 : decode cX1_take 68 = .ok (.iload_n 1, 1) := by decide +kernel
theorem dX1_take_69 : decode cX1_take 69 = .ok (.invokevirtual 30, 3) := by decide +kernel
theorem dX1_take_72 : decode cX1_take 72 = .ok (.ireturn, 1) := by decide +kernel
theorem dX1_take_73 : decode cX1_take 73 = .ok (.aload_n 0, 1) := by decide +kernel
theorem dX1_take_74 : decode cX1_take 74 = .ok (.iload_n 1, 1) := by decide +kernel
theorem dX1_take_75 : decode cX1_take 75 = .ok (.aload_n 0, 1) := by decide +kernel
theorem dX1_take_76 : decode cX1_take 76 = .ok (.getfield 15, 3) := by decide +kernel
theorem dX1_take_79 : decode cX1_take 79 = .ok (.invokevirtual 33, 3) := by decide +kernel
theorem dX1_take_82 : decode cX1_take 82 = .ok (.ireturn, 1) := by decide +kernel
theorem dX1_take_83 : decode cX1_take 83 = .ok (.aload_n 0, 1) := by decide +kernel
theorem dX1_take_84 : decode cX1_take 84 = .ok (.iload_n 1, 1) := by decide +kernel
theorem dX1_take_85 : decode cX1_take 85 = .ok (.invokevirtual 37, 3) := by decide +kernel
theorem dX1_take_88 : decode cX1_take 88 = .ok (.ireturn, 1) := by decide +kernel
theorem dX1_take_89 : decode cX1_take 89 = .ok (.aload_n 0, 1) := by decide +kernel
theorem dX1_take_90 : decode cX1_take 90 = .ok (.iload_n 1, 1) := by decide +kernel
theorem dX1_take_91 : decode cX1_take 91 = .ok (.bipush 6, 2) := by decide +kernel
theorem dX1_take_93 : decode cX1_take 93 = .ok (.invokevirtual 40, 3) := by decide +kernel
theorem dX1_take_96 : decode cX1_take 96 = .ok (.ireturn, 1) := by decide +kernel
theorem dX1_take_97 : decode cX1_take 97 = .ok (.aload_n 0, 1) := by decide +kernel
theorem dX1_take_98 : decode cX1_take 98 = .ok (.iload_n 1, 1) := by decide +kernel
theorem dX1_take_99 : decode cX1_take 99 = .ok (.bipush 58, 2) := by decide +kernel
theorem dX1_take_101 : decode cX1_take 101 = .ok (.bipush 7, 2) := by decide +kernel
theorem dX1_take_103 : decode cX1_take 103 = .ok (.invokevirtual 26, 3) := by decide +kernel
theorem dX1_take_106 : decode cX1_take 106 = .ok (.ireturn, 1) := by decide +kernel
theorem dX1_take_107 : decode cX1_take 107 = .ok (.aload_n 0, 1) := by decide +kernel
theorem dX1_take_108 : decode cX1_take 108 = .ok (.iload_n 1, 1) := by decide +kernel
theorem dX1_take_109 : decode cX1_take 109 = .ok (.invokevirtual 44, 3) := by decide +kernel
theorem dX1_take_112 : decode cX1_take 112 = .ok (.ireturn, 1) := by decide +kernel
theorem dX1_take_113 : decode cX1_take 113 = .ok (.aload_n 0, 1) := by decide +kernel
theorem dX1_take_114 : decode cX1_take 114 = .ok (.iload_n 1, 1) := by decide +kernel
theorem dX1_take_115 : decode cX1_take 115 = .ok (.bipush 59, 2) := by decide +kernel
theorem dX1_take_117 : decode cX1_take 117 = .ok (.iconst 0, 1) := by decide +kernel
theorem dX1_take_118 : decode cX1_take 118 = .ok (.invokevirtual 26, 3) := by decide +kernel
theorem dX1_take_121 : decode cX1_take 121 = .ok (.ireturn, 1) := by decide +kernel
theorem dX1_takeMark_0 : decode cX1_takeMark 0 = .ok (.iload_n 1, 1) := by decide +kernel
theorem dX1_takeMark_1 : decode cX1_takeMark 1 = .ok (.iload_n 2, 1) := by decide +kernel
theorem dX1_takeMark_2 : decode cX1_takeMark 2 = .ok (.if_icmp .eq 5, 3) := by decide +kernel
theorem dX1_takeMark_5 : decode cX1_takeMark 5 = .ok (.iconst 0, 1) := by decide +kernel
theorem dX1_takeMark_6 : decode cX1_takeMark 6 = .ok (.ireturn, 1) := by decide +kernel
theorem dX1_takeMark_7 : decode cX1_takeMark 7 = .ok (.aload_n 0, 1) := by decide +kernel
theorem dX1_takeMark_8 : decode cX1_takeMark 8 = .ok (.iload_n 3, 1) := by decide +kernel
theorem dX1_takeMark_9 : decode cX1_takeMark 9 = .ok (.putfield 18, 3) := by decide +kernel
theorem dX1_takeMark_12 : decode cX1_takeMark 12 = .ok (.iconst 1, 1) := by decide +kernel
theorem dX1_takeMark_13 : decode cX1_takeMark 13 = .ok (.ireturn, 1) := by decide +kernel
set_option maxRecDepth 20000 in
theorem ggX1_takeOrder_X1_takeOwner : GoodIn wsX1_takeOrder wsX1_takeOwner := goodIn_r _ [8, 9, 2, 10, 11, 12, 13, 14, 15, 16, 17] (by decide +kernel) (by decide +kernel)
set_option maxRecDepth 20000 in
theorem gX1_takeOrder_X1_takeOwner : GoodIn wsX1_takeOrder (wsV RX1 40 RX1 yX1_takeOwner wsX1_takeOwner) := goodIn_app (goodIn_of _ (by decide +kernel)) ggX1_takeOrder_X1_takeOwner
theorem dX1_takeOrder_0 : decode cX1_takeOrder 0 = .ok (.iload_n 1, 1) := by decide +kernel
theorem dX1_takeOrder_1 : decode cX1_takeOrder 1 = .ok (.bipush 117, 2) := by decide +kernel
theorem dX1_takeOrder_3 : decode cX1_takeOrder 3 = .ok (.if_icmp .eq 9, 3) := by decide +kernel
theorem dX1_takeOrder_6 : decode cX1_takeOrder 6 = .ok (.iload_n 1, 1) := by decide +kernel
theorem dX1_takeOrder_7 : decode cX1_takeOrder 7 = .ok (.bipush 118, 2) := by decide +kernel
theorem dX1_takeOrder_9 : decode cX1_takeOrder 9 = .ok (.if_icmp .ne 25, 3) := by decide +kernel
theorem dX1_takeOrder_12 : decode cX1_takeOrder 12 = .ok (.aload_n 0, 1) := by decide +kernel
theorem dX1_takeOrder_13 : decode cX1_takeOrder 13 = .ok (.iload_n 1, 1) := by decide +kernel
theorem dX1_takeOrder_14 : decode cX1_takeOrder 14 = .ok (.bipush 117, 2) := by decide +kernel
theorem dX1_takeOrder_16 : decode cX1_takeOrder 16 = .ok (.if_icmp .ne 7, 3) := by decide +kernel
theorem dX1_takeOrder_19 : decode cX1_takeOrder 19 = .ok (.iconst 1, 1) := by decide +kernel
theorem dX1_takeOrder_20 : decode cX1_takeOrder 20 = .ok (.goto 4, 3) := by decide +kernel
theorem dX1_takeOrder_23 : decode cX1_takeOrder 23 = .ok (.iconst 2, 1) := by decide +kernel
theorem dX1_takeOrder_24 : decode cX1_takeOrder 24 = .ok (.putfield 47, 3) := by decide +kernel
theorem dX1_takeOrder_27 : decode cX1_takeOrder 27 = .ok (.aload_n 0, 1) := by decide +kernel
theorem dX1_takeOrder_28 : decode cX1_takeOrder 28 = .ok (.iconst 5, 1) := by decide +kernel
theorem dX1_takeOrder_29 : decode cX1_takeOrder 29 = .ok (.putfield 18, 3) := by decide +kernel
theorem dX1_takeOrder_32 : decode cX1_takeOrder 32 = .ok (.iconst 1, 1) := by decide +kernel
theorem dX1_takeOrder_33 : decode cX1_takeOrder 33 = .ok (.ireturn, 1) := by decide +kernel
theorem dX1_takeOrder_34 : decode cX1_takeOrder 34 = .ok (.aload_n 0, 1) := by decide +kernel
theorem dX1_takeOrder_35 : decode cX1_takeOrder 35 = .ok (.iconst 0, 1) := by decide +kernel
theorem dX1_takeOrder_36 : decode cX1_takeOrder 36 = .ok (.putfield 47, 3) := by decide +kernel
theorem dX1_takeOrder_39 : decode cX1_takeOrder 39 = .ok (.aload_n 0, 1) := by decide +kernel
theorem dX1_takeOrder_40 : decode cX1_takeOrder 40 = .ok (.iconst 0, 1) := by decide +kernel
theorem dX1_takeOrder_41 : decode cX1_takeOrder 41 = .ok (.putfield 50, 3) := by decide +kernel
theorem dX1_takeOrder_44 : decode cX1_takeOrder 44 = .ok (.aload_n 0, 1) := by decide +kernel
theorem dX1_takeOrder_45 : decode cX1_takeOrder 45 = .ok (.iload_n 1, 1) := by decide +kernel
theorem dX1_takeOrder_46 : decode cX1_takeOrder 46 = .ok (.iconst 1, 1) := by decide +kernel
theorem dX1_takeOrder_47 : decode cX1_takeOrder 47 = .ok (.invokevirtual 40, 3) := by decide +kernel
theorem dX1_takeOrder_50 : decode cX1_takeOrder 50 = .ok (.ireturn, 1) := by decide +kernel
theorem dX1_takeOwner_0 : decode cX1_takeOwner 0 = .ok (.iload_n 1, 1) := by decide +kernel
theorem dX1_takeOwner_1 : decode cX1_takeOwner 1 = .ok (.bipush 48, 2) := by decide +kernel
theorem dX1_takeOwner_3 : decode cX1_takeOwner 3 = .ok (.if_icmp .lt 9, 3) := by decide +kernel
theorem dX1_takeOwner_6 : decode cX1_takeOwner 6 = .ok (.iload_n 1, 1) := by decide +kernel
theorem dX1_takeOwner_7 : decode cX1_takeOwner 7 = .ok (.bipush 54, 2) := by decide +kernel
theorem dX1_takeOwner_9 : decode cX1_takeOwner 9 = .ok (.if_icmp .lt 5, 3) := by decide +kernel
theorem dX1_takeOwner_12 : decode cX1_takeOwner 12 = .ok (.iconst 0, 1) := by decide +kernel
theorem dX1_takeOwner_13 : decode cX1_takeOwner 13 = .ok (.ireturn, 1) := by decide +kernel
theorem dX1_takeOwner_14 : decode cX1_takeOwner 14 = .ok (.aload_n 0, 1) := by decide +kernel
theorem dX1_takeOwner_15 : decode cX1_takeOwner 15 = .ok (.iload_n 1, 1) := by decide +kernel
theorem dX1_takeOwner_16 : decode cX1_takeOwner 16 = .ok (.bipush 48, 2) := by decide +kernel
theorem dX1_takeOwner_18 : decode cX1_takeOwner 18 = .ok (.isub, 1) := by decide +kernel
theorem dX1_takeOwner_19 : decode cX1_takeOwner 19 = .ok (.putfield 53, 3) := by decide +kernel
theorem dX1_takeOwner_22 : decode cX1_takeOwner 22 = .ok (.aload_n 0, 1) := by decide +kernel
theorem dX1_takeOwner_23 : decode cX1_takeOwner 23 = .ok (.iload_n 2, 1) := by decide +kernel
theorem dX1_takeOwner_24 : decode cX1_takeOwner 24 = .ok (.putfield 18, 3) := by decide +kernel
theorem dX1_takeOwner_27 : decode cX1_takeOwner 27 = .ok (.iconst 1, 1) := by decide +kernel
theorem dX1_takeOwner_28 : decode cX1_takeOwner 28 = .ok (.ireturn, 1) := by decide +kernel
theorem dX1_takeTime_0 : decode cX1_takeTime 0 = .ok (.iload_n 1, 1) := by decide +kernel
theorem dX1_takeTime_1 : decode cX1_takeTime 1 = .ok (.bipush 48, 2) := by decide +kernel
theorem dX1_takeTime_3 : decode cX1_takeTime 3 = .ok (.if_icmp .lt 9, 3) := by decide +kernel
theorem dX1_takeTime_6 : decode cX1_takeTime 6 = .ok (.iload_n 1, 1) := by decide +kernel
theorem dX1_takeTime_7 : decode cX1_takeTime 7 = .ok (.bipush 57, 2) := by decide +kernel
theorem dX1_takeTime_9 : decode cX1_takeTime 9 = .ok (.if_icmp .le 5, 3) := by decide +kernel
theorem dX1_takeTime_12 : decode cX1_takeTime 12 = .ok (.iconst 0, 1) := by decide +kernel
theorem dX1_takeTime_13 : decode cX1_takeTime 13 = .ok (.ireturn, 1) := by decide +kernel
theorem dX1_takeTime_14 : decode cX1_takeTime 14 = .ok (.aload_n 0, 1) := by decide +kernel
theorem dX1_takeTime_15 : decode cX1_takeTime 15 = .ok (.iload_n 1, 1) := by decide +kernel
theorem dX1_takeTime_16 : decode cX1_takeTime 16 = .ok (.bipush 48, 2) := by decide +kernel
theorem dX1_takeTime_18 : decode cX1_takeTime 18 = .ok (.isub, 1) := by decide +kernel
theorem dX1_takeTime_19 : decode cX1_takeTime 19 = .ok (.putfield 56, 3) := by decide +kernel
theorem dX1_takeTime_22 : decode cX1_takeTime 22 = .ok (.aload_n 0, 1) := by decide +kernel
theorem dX1_takeTime_23 : decode cX1_takeTime 23 = .ok (.bipush 8, 2) := by decide +kernel
theorem dX1_takeTime_25 : decode cX1_takeTime 25 = .ok (.putfield 18, 3) := by decide +kernel
theorem dX1_takeTime_28 : decode cX1_takeTime 28 = .ok (.iconst 1, 1) := by decide +kernel
theorem dX1_takeTime_29 : decode cX1_takeTime 29 = .ok (.ireturn, 1) := by decide +kernel
set_option maxRecDepth 20000 in
theorem ggX1_takeFirstContact_X1_contactOf : GoodIn wsX1_takeFirstContact wsX1_contactOf := goodIn_r _ [8] (by decide +kernel) (by decide +kernel)
set_option maxRecDepth 20000 in
theorem gX1_takeFirstContact_X1_contactOf : GoodIn wsX1_takeFirstContact (va_wsS RX1 59 yX1_contactOf wsX1_contactOf) := goodIn_app (goodIn_of _ (by decide +kernel)) ggX1_takeFirstContact_X1_contactOf
set_option maxRecDepth 20000 in
theorem ggX1_takeFirstContact_X1_takeNot : GoodIn wsX1_takeFirstContact wsX1_takeNot := goodIn_r _ [12, 13, 14, 15, 16, 7, 17, 3, 2, 4, 22, 23, 24, 25, 26, 27, 28, 29] (by decide +kernel) (by decide +kernel)
set_option maxRecDepth 20000 in
theorem gX1_takeFirstContact_X1_takeNot : GoodIn wsX1_takeFirstContact (wsV RX1 66 RX1 yX1_takeNot wsX1_takeNot) := goodIn_app (goodIn_of _ (by decide +kernel)) ggX1_takeFirstContact_X1_takeNot
set_option maxRecDepth 20000 in
theorem ggX1_takeFirstContact_X1_takeContact : GoodIn wsX1_takeFirstContact wsX1_takeContact := goodIn_r _ [21, 2, 13, 5, 6, 7, 8, 14, 15, 16, 17, 3, 4, 22, 23, 24, 25, 26, 27, 28, 29] (by decide +kernel) (by decide +kernel)
set_option maxRecDepth 20000 in
theorem gX1_takeFirstContact_X1_takeContact : GoodIn wsX1_takeFirstContact (wsV RX1 33 RX1 yX1_takeContact wsX1_takeContact) := goodIn_app (goodIn_of _ (by decide +kernel)) ggX1_takeFirstContact_X1_takeContact
theorem dX1_takeFirstContact_0 : decode cX1_takeFirstContact 0 = .ok (.aload_n 0, 1) := by decide +kernel
theorem dX1_takeFirstContact_1 : decode cX1_takeFirstContact 1 = .ok (.getfield 50, 3) := by decide +kernel
theorem dX1_takeFirstContact_4 : decode cX1_takeFirstContact 4 = .ok (.iconst 4, 1) := by decide +kernel
theorem dX1_takeFirstContact_5 : decode cX1_takeFirstContact 5 = .ok (.if_icmp .lt 5, 3) := by decide +kernel
theorem dX1_takeFirstContact_8 : decode cX1_takeFirstContact 8 = .ok (.iconst 0, 1) := by decide +kernel
theorem dX1_takeFirstContact_9 : decode cX1_takeFirstContact 9 = .ok (.ireturn, 1) := by decide +kernel
theorem dX1_takeFirstContact_10 : decode cX1_takeFirstContact 10 = .ok (.iload_n 1, 1) := by decide +kernel
theorem dX1_takeFirstContact_11 : decode cX1_takeFirstContact 11 = .ok (.bipush 33, 2) := by decide +kernel
theorem dX1_takeFirstContact_13 : decode cX1_takeFirstContact 13 = .ok (.if_icmp .eq 12, 3) := by decide +kernel
theorem dX1_takeFirstContact_16 : decode cX1_takeFirstContact 16 = .ok (.iload_n 1, 1) := by decide +kernel
theorem dX1_takeFirstContact_17 : decode cX1_takeFirstContact 17 = .ok (.invokestatic 59, 3) := by decide +kernel
theorem dX1_takeFirstContact_20 : decode cX1_takeFirstContact 20 = .ok (.ifCond .ne 5, 3) := by decide +kernel
theorem dX1_takeFirstContact_23 : decode cX1_takeFirstContact 23 = .ok (.iconst 0, 1) := by decide +kernel
theorem dX1_takeFirstContact_24 : decode cX1_takeFirstContact 24 = .ok (.ireturn, 1) := by decide +kernel
theorem dX1_takeFirstContact_25 : decode cX1_takeFirstContact 25 = .ok (.aload_n 0, 1) := by decide +kernel
theorem dX1_takeFirstContact_26 : decode cX1_takeFirstContact 26 = .ok (.aload_n 0, 1) := by decide +kernel
theorem dX1_takeFirstContact_27 : decode cX1_takeFirstContact 27 = .ok (.getfield 50, 3) := by decide +kernel
theorem dX1_takeFirstContact_30 : decode cX1_takeFirstContact 30 = .ok (.putfield 63, 3) := by decide +kernel
theorem dX1_takeFirstContact_33 : decode cX1_takeFirstContact 33 = .ok (.aload_n 0, 1) := by decide +kernel
theorem dX1_takeFirstContact_34 : decode cX1_takeFirstContact 34 = .ok (.dup, 1) := by decide +kernel
theorem dX1_takeFirstContact_35 : decode cX1_takeFirstContact 35 = .ok (.getfield 50, 3) := by decide +kernel
theorem dX1_takeFirstContact_38 : decode cX1_takeFirstContact 38 = .ok (.iconst 1, 1) := by decide +kernel
theorem dX1_takeFirstContact_39 : decode cX1_takeFirstContact 39 = .ok (.iadd, 1) := by decide +kernel
theorem dX1_takeFirstContact_40 : decode cX1_takeFirstContact 40 = .ok (.putfield 50, 3) := by decide +kernel
theorem dX1_takeFirstContact_43 : decode cX1_takeFirstContact 43 = .ok (.aload_n 0, 1) := by decide +kernel
theorem dX1_takeFirstContact_44 : decode cX1_takeFirstContact 44 = .ok (.getfield 9, 3) := by decide +kernel
theorem dX1_takeFirstContact_47 : decode cX1_takeFirstContact 47 = .ok (.aload_n 0, 1) := by decide +kernel
theorem dX1_takeFirstContact_48 : decode cX1_takeFirstContact 48 = .ok (.getfield 63, 3) := by decide +kernel
theorem dX1_takeFirstContact_51 : decode cX1_takeFirstContact 51 = .ok (.iconst 0, 1) := by decide +kernel
theorem dX1_takeFirstContact_52 : decode cX1_takeFirstContact 52 = .ok (.iastore, 1) := by decide +kernel
theorem dX1_takeFirstContact_53 : decode cX1_takeFirstContact 53 = .ok (.aload_n 0, 1) := by decide +kernel
theorem dX1_takeFirstContact_54 : decode cX1_takeFirstContact 54 = .ok (.getfield 15, 3) := by decide +kernel
theorem dX1_takeFirstContact_57 : decode cX1_takeFirstContact 57 = .ok (.aload_n 0, 1) := by decide +kernel
theorem dX1_takeFirstContact_58 : decode cX1_takeFirstContact 58 = .ok (.getfield 63, 3) := by decide +kernel
theorem dX1_takeFirstContact_61 : decode cX1_takeFirstContact 61 = .ok (.iconst 0, 1) := by decide +kernel
theorem dX1_takeFirstContact_62 : decode cX1_takeFirstContact 62 = .ok (.iastore, 1) := by decide +kernel
theorem dX1_takeFirstContact_63 : decode cX1_takeFirstContact 63 = .ok (.aload_n 0, 1) := by decide +kernel
theorem dX1_takeFirstContact_64 : decode cX1_takeFirstContact 64 = .ok (.iload_n 1, 1) := by decide +kernel
theorem dX1_takeFirstContact_65 : decode cX1_takeFirstContact 65 = .ok (.invokevirtual 66, 3) := by decide +kernel
theorem dX1_takeFirstContact_68 : decode cX1_takeFirstContact 68 = .ok (.ifCond .ne 15, 3) := by decide +kernel
theorem dX1_takeFirstContact_71 : decode cX1_takeFirstContact 71 = .ok (.aload_n 0, 1) := by decide +kernel
theorem dX1_takeFirstContact_72 : decode cX1_takeFirstContact 72 = .ok (.iload_n 1, 1) := by decide +kernel
theorem dX1_takeFirstContact_73 : decode cX1_takeFirstContact 73 = .ok (.aload_n 0, 1) := by decide +kernel
theorem dX1_takeFirstContact_74 : decode cX1_takeFirstContact 74 = .ok (.getfield 9, 3) := by decide +kernel
theorem dX1_takeFirstContact_77 : decode cX1_takeFirstContact 77 = .ok (.invokevirtual 33, 3) := by decide +kernel
theorem dX1_takeFirstContact_80 : decode cX1_takeFirstContact 80 = .ok (.ifCond .eq 7, 3) := by decide +kernel
theorem dX1_takeFirstContact_83 : decode cX1_takeFirstContact 83 = .ok (.iconst 1, 1) := by decide +kernel
theorem dX1_takeFirstContact_84 : decode cX1_takeFirstContact 84 = .ok (.goto 4, 3) := by decide +kernel
theorem dX1_takeFirstContact_87 : decode cX1_takeFirstContact 87 = .ok (.iconst 0, 1) := by decide +kernel
theorem dX1_takeFirstContact_88 : decode cX1_takeFirstContact 88 = .ok (.ireturn, 1) := by decide +kernel
set_option maxRecDepth 20000 in
theorem ggX1_takeMore_X1_takeNot : GoodIn wsX1_takeMore wsX1_takeNot := goodIn_r _ [8, 1, 9, 10, 11, 7, 12, 3, 13, 14, 22, 23, 24, 25, 26, 27, 28, 29] (by decide +kernel) (by decide +kernel)
set_option maxRecDepth 20000 in
theorem gX1_takeMore_X1_takeNot : GoodIn wsX1_takeMore (wsV RX1 66 RX1 yX1_takeNot wsX1_takeNot) := goodIn_app (goodIn_of _ (by decide +kernel)) ggX1_takeMore_X1_takeNot
set_option maxRecDepth 20000 in
theorem ggX1_takeMore_X1_takeContact : GoodIn wsX1_takeMore wsX1_takeContact := goodIn_r _ [18, 13, 1, 19, 20, 7, 21, 9, 10, 11, 12, 3, 14, 22, 23, 24, 25, 26, 27, 28, 29] (by decide +kernel) (by decide +kernel)
set_option maxRecDepth 20000 in
theorem gX1_takeMore_X1_takeContact : GoodIn wsX1_takeMore (wsV RX1 33 RX1 yX1_takeContact wsX1_takeContact) := goodIn_app (goodIn_of _ (by decide +kernel)) ggX1_takeMore_X1_takeContact
theorem dX1_takeMore_0 : decode cX1_takeMore 0 = .ok (.iload_n 1, 1) := by decide +kernel
theorem dX1_takeMore_1 : decode cX1_takeMore 1 = .ok (.bipush 59, 2) := by decide +kernel
theorem dX1_takeMore_3 : decode cX1_takeMore 3 = .ok (.if_icmp .ne 10, 3) := by decide +kernel
theorem dX1_takeMore_6 : decode cX1_takeMore 6 = .ok (.aload_n 0, 1) := by decide +kernel
theorem dX1_takeMore_7 : decode cX1_takeMore 7 = .ok (.iconst 0, 1) := by decide +kernel
theorem dX1_takeMore_8 : decode cX1_takeMore 8 = .ok (.putfield 18, 3) := by decide +kernel
theorem dX1_takeMore_11 : decode cX1_takeMore 11 = .ok (.iconst 1, 1) := by decide +kernel
theorem dX1_takeMore_12 : decode cX1_takeMore 12 = .ok (.ireturn, 1) := by decide +kernel
theorem dX1_takeMore_13 : decode cX1_takeMore 13 = .ok (.iload_n 1, 1) := by decide +kernel
theorem dX1_takeMore_14 : decode cX1_takeMore 14 = .ok (.bipush 43, 2) := by decide +kernel
theorem dX1_takeMore_16 : decode cX1_takeMore 16 = .ok (.if_icmp .ne 18, 3) := by decide +kernel
theorem dX1_takeMore_19 : decode cX1_takeMore 19 = .ok (.aload_n 0, 1) := by decide +kernel
theorem dX1_takeMore_20 : decode cX1_takeMore 20 = .ok (.getfield 50, 3) := by decide +kernel
theorem dX1_takeMore_23 : decode cX1_takeMore 23 = .ok (.iconst 4, 1) := by decide +kernel
theorem dX1_takeMore_24 : decode cX1_takeMore 24 = .ok (.if_icmp .ge 10, 3) := by decide +kernel
theorem dX1_takeMore_27 : decode cX1_takeMore 27 = .ok (.aload_n 0, 1) := by decide +kernel
theorem dX1_takeMore_28 : decode cX1_takeMore 28 = .ok (.iconst 2, 1) := by decide +kernel
theorem dX1_takeMore_29 : decode cX1_takeMore 29 = .ok (.putfield 18, 3) := by decide +kernel
theorem dX1_takeMore_32 : decode cX1_takeMore 32 = .ok (.iconst 1, 1) := by decide +kernel
theorem dX1_takeMore_33 : decode cX1_takeMore 33 = .ok (.ireturn, 1) := by decide +kernel
theorem dX1_takeMore_34 : decode cX1_takeMore 34 = .ok (.aload_n 0, 1) := by decide +kernel
theorem dX1_takeMore_35 : decode cX1_takeMore 35 = .ok (.iload_n 1, 1) := by decide +kernel
theorem dX1_takeMore_36 : decode cX1_takeMore 36 = .ok (.invokevirtual 66, 3) := by decide +kernel
theorem dX1_takeMore_39 : decode cX1_takeMore 39 = .ok (.ifCond .ne 15, 3) := by decide +kernel
theorem dX1_takeMore_42 : decode cX1_takeMore 42 = .ok (.aload_n 0, 1) := by decide +kernel
theorem dX1_takeMore_43 : decode cX1_takeMore 43 = .ok (.iload_n 1, 1) := by decide +kernel
theorem dX1_takeMore_44 : decode cX1_takeMore 44 = .ok (.aload_n 0, 1) := by decide +kernel
theorem dX1_takeMore_45 : decode cX1_takeMore 45 = .ok (.getfield 9, 3) := by decide +kernel
theorem dX1_takeMore_48 : decode cX1_takeMore 48 = .ok (.invokevirtual 33, 3) := by decide +kernel
theorem dX1_takeMore_51 : decode cX1_takeMore 51 = .ok (.ifCond .eq 7, 3) := by decide +kernel
theorem dX1_takeMore_54 : decode cX1_takeMore 54 = .ok (.iconst 1, 1) := by decide +kernel
theorem dX1_takeMore_55 : decode cX1_takeMore 55 = .ok (.goto 4, 3) := by decide +kernel
theorem dX1_takeMore_58 : decode cX1_takeMore 58 = .ok (.iconst 0, 1) := by decide +kernel
theorem dX1_takeMore_59 : decode cX1_takeMore 59 = .ok (.ireturn, 1) := by decide +kernel
set_option maxRecDepth 20000 in
theorem ggX1_takeNot_X1_contactsOfBranch : GoodIn wsX1_takeNot wsX1_contactsOfBranch := goodIn_r _ [6, 7, 8, 9, 10, 11, 12, 13, 14, 15, 16, 17] (by decide +kernel) (by decide +kernel)
set_option maxRecDepth 20000 in
theorem gX1_takeNot_X1_contactsOfBranch : GoodIn wsX1_takeNot (wsV RX1 69 RX1 yX1_contactsOfBranch wsX1_contactsOfBranch) := goodIn_app (goodIn_of _ (by decide +kernel)) ggX1_takeNot_X1_contactsOfBranch
theorem dX1_takeNot_0 : decode cX1_takeNot 0 = .ok (.iload_n 1, 1) := by decide +kernel
theorem dX1_takeNot_1 : decode cX1_takeNot 1 = .ok (.bipush 33, 2) := by decide +kernel
theorem dX1_takeNot_3 : decode cX1_takeNot 3 = .ok (.if_icmp .ne 13, 3) := by decide +kernel
theorem dX1_takeNot_6 : decode cX1_takeNot 6 = .ok (.aload_n 0, 1) := by decide +kernel
theorem dX1_takeNot_7 : decode cX1_takeNot 7 = .ok (.invokevirtual 69, 3) := by decide +kernel
theorem dX1_takeNot_10 : decode cX1_takeNot 10 = .ok (.sipush 1023, 3) := by decide +kernel
theorem dX1_takeNot_13 : decode cX1_takeNot 13 = .ok (.if_icmp .ne 5, 3) := by decide +kernel
theorem dX1_takeNot_16 : decode cX1_takeNot 16 = .ok (.iconst 0, 1) := by decide +kernel
theorem dX1_takeNot_17 : decode cX1_takeNot 17 = .ok (.ireturn, 1) := by decide +kernel
theorem dX1_takeNot_18 : decode cX1_takeNot 18 = .ok (.aload_n 0, 1) := by decide +kernel
theorem dX1_takeNot_19 : decode cX1_takeNot 19 = .ok (.iconst 3, 1) := by decide +kernel
theorem dX1_takeNot_20 : decode cX1_takeNot 20 = .ok (.putfield 18, 3) := by decide +kernel
theorem dX1_takeNot_23 : decode cX1_takeNot 23 = .ok (.iconst 1, 1) := by decide +kernel
theorem dX1_takeNot_24 : decode cX1_takeNot 24 = .ok (.ireturn, 1) := by decide +kernel
set_option maxRecDepth 20000 in
theorem ggX1_takeContact_X1_contactOf : GoodIn wsX1_takeContact wsX1_contactOf := goodIn_r _ [6] (by decide +kernel) (by decide +kernel)
set_option maxRecDepth 20000 in
theorem gX1_takeContact_X1_contactOf : GoodIn wsX1_takeContact (va_wsS RX1 59 yX1_contactOf wsX1_contactOf) := goodIn_app (goodIn_of _ (by decide +kernel)) ggX1_takeContact_X1_contactOf
set_option maxRecDepth 20000 in
theorem ggX1_takeContact_X1_contactsOfBranch : GoodIn wsX1_takeContact wsX1_contactsOfBranch := goodIn_r _ [10, 11, 1, 12, 13, 14, 15, 16, 17, 18, 19, 20] (by decide +kernel) (by decide +kernel)
set_option maxRecDepth 20000 in
theorem gX1_takeContact_X1_contactsOfBranch : GoodIn wsX1_takeContact (wsV RX1 69 RX1 yX1_contactsOfBranch wsX1_contactsOfBranch) := goodIn_app (goodIn_of _ (by decide +kernel)) ggX1_takeContact_X1_contactsOfBranch
theorem dX1_takeContact_0 : decode cX1_takeContact 0 = .ok (.iload_n 1, 1) := by decide +kernel
theorem dX1_takeContact_1 : decode cX1_takeContact 1 = .ok (.invokestatic 59, 3) := by decide +kernel
theorem dX1_takeContact_4 : decode cX1_takeContact 4 = .ok (.istore_n 3, 1) := by decide +kernel
theorem dX1_takeContact_5 : decode cX1_takeContact 5 = .ok (.iload_n 3, 1) := by decide +kernel
theorem dX1_takeContact_6 : decode cX1_takeContact 6 = .ok (.ifCond .eq 12, 3) := by decide +kernel
theorem dX1_takeContact_9 : decode cX1_takeContact 9 = .ok (.aload_n 0, 1) := by decide +kernel
theorem dX1_takeContact_10 : decode cX1_takeContact 10 = .ok (.invokevirtual 69, 3) := by decide +kernel
theorem dX1_takeContact_13 : decode cX1_takeContact 13 = .ok (.iload_n 3, 1) := by decide +kernel
theorem dX1_takeContact_14 : decode cX1_takeContact 14 = .ok (.iand, 1) := by decide +kernel
theorem dX1_takeContact_15 : decode cX1_takeContact 15 = .ok (.ifCond .eq 5, 3) := by decide +kernel
theorem dX1_takeContact_18 : decode cX1_takeContact 18 = .ok (.iconst 0, 1) := by decide +kernel
theorem dX1_takeContact_19 : decode cX1_takeContact 19 = .ok (.ireturn, 1) := by decide +kernel
theorem dX1_takeContact_20 : decode cX1_takeContact 20 = .ok (.aload_n 2, 1) := by decide +kernel
theorem dX1_takeContact_21 : decode cX1_takeContact 21 = .ok (.aload_n 0, 1) := by decide +kernel
theorem dX1_takeContact_22 : decode cX1_takeContact 22 = .ok (.getfield 63, 3) := by decide +kernel
theorem dX1_takeContact_25 : decode cX1_takeContact 25 = .ok (.dup2, 1) := by decide +kernel
theorem dX1_takeContact_26 : decode cX1_takeContact 26 = .ok (.iaload, 1) := by decide +kernel
theorem dX1_takeContact_27 : decode cX1_takeContact 27 = .ok (.iload_n 3, 1) := by decide +kernel
theorem dX1_takeContact_28 : decode cX1_takeContact 28 = .ok (.ior, 1) := by decide +kernel
theorem dX1_takeContact_29 : decode cX1_takeContact 29 = .ok (.iastore, 1) := by decide +kernel
theorem dX1_takeContact_30 : decode cX1_takeContact 30 = .ok (.aload_n 0, 1) := by decide +kernel
theorem dX1_takeContact_31 : decode cX1_takeContact 31 = .ok (.iconst 4, 1) := by decide +kernel
theorem dX1_takeContact_32 : decode cX1_takeContact 32 = .ok (.putfield 18, 3) := by decide +kernel
theorem dX1_takeContact_35 : decode cX1_takeContact 35 = .ok (.iconst 1, 1) := by decide +kernel
theorem dX1_takeContact_36 : decode cX1_takeContact 36 = .ok (.ireturn, 1) := by decide +kernel
theorem dX1_contactsOfBranch_0 : decode cX1_contactsOfBranch 0 = .ok (.aload_n 0, 1) := by decide +kernel
theorem dX1_contactsOfBranch_1 : decode cX1_contactsOfBranch 1 = .ok (.getfield 9, 3) := by decide +kernel
theorem dX1_contactsOfBranch_4 : decode cX1_contactsOfBranch 4 = .ok (.aload_n 0, 1) := by decide +kernel
theorem dX1_contactsOfBranch_5 : decode cX1_contactsOfBranch 5 = .ok (.getfield 63, 3) := by decide +kernel
theorem dX1_contactsOfBranch_8 : decode cX1_contactsOfBranch 8 = .ok (.iaload, 1) := by decide +kernel
theorem dX1_contactsOfBranch_9 : decode cX1_contactsOfBranch 9 = .ok (.aload_n 0, 1) := by decide +kernel
theorem dX1_contactsOfBranch_10 : decode cX1_contactsOfBranch 10 = .ok (.getfield 15, 3) := by decide +kernel
theorem dX1_contactsOfBranch_13 : decode cX1_contactsOfBranch 13 = .ok (.aload_n 0, 1) := by decide +kernel
theorem dX1_contactsOfBranch_14 : decode cX1_contactsOfBranch 14 = .ok (.getfield 63, 3) := by decide +kernel
theorem dX1_contactsOfBranch_17 : decode cX1_contactsOfBranch 17 = .ok (.iaload, 1) := by decide +kernel
theorem dX1_contactsOfBranch_18 : decode cX1_contactsOfBranch 18 = .ok (.ior, 1) := by decide +kernel
theorem dX1_contactsOfBranch_19 : decode cX1_contactsOfBranch 19 = .ok (.ireturn, 1) := by decide +kernel
theorem dX1_contactOf_0 : decode cX1_contactOf 0 = .ok (.iload_n 0, 1) := by decide +kernel
theorem dX1_contactOf_1 : decode cX1_contactOf 1 = .ok (.bipush 97, 2) := by decide +kernel
theorem dX1_contactOf_3 : decode cX1_contactOf 3 = .ok (.if_icmp .lt 16, 3) := by decide +kernel
theorem dX1_contactOf_6 : decode cX1_contactOf 6 = .ok (.iload_n 0, 1) := by decide +kernel
theorem dX1_contactOf_7 : decode cX1_contactOf 7 = .ok (.bipush 101, 2) := by decide +kernel
theorem dX1_contactOf_9 : decode cX1_contactOf 9 = .ok (.if_icmp .ge 10, 3) := by decide +kernel
theorem dX1_contactOf_12 : decode cX1_contactOf 12 = .ok (.iconst 1, 1) := by decide +kernel
theorem dX1_contactOf_13 : decode cX1_contactOf 13 = .ok (.iload_n 0, 1) := by decide +kernel
theorem dX1_contactOf_14 : decode cX1_contactOf 14 = .ok (.bipush 97, 2) := by decide +kernel
theorem dX1_contactOf_16 : decode cX1_contactOf 16 = .ok (.isub, 1) := by decide +kernel
theorem dX1_contactOf_17 : decode cX1_contactOf 17 = .ok (.ishl, 1) := by decide +kernel
theorem dX1_contactOf_18 : decode cX1_contactOf 18 = .ok (.ireturn, 1) := by decide +kernel
theorem dX1_contactOf_19 : decode cX1_contactOf 19 = .ok (.iload_n 0, 1) := by decide +kernel
theorem dX1_contactOf_20 : decode cX1_contactOf 20 = .ok (.bipush 48, 2) := by decide +kernel
theorem dX1_contactOf_22 : decode cX1_contactOf 22 = .ok (.if_icmp .lt 18, 3) := by decide +kernel
theorem dX1_contactOf_25 : decode cX1_contactOf 25 = .ok (.iload_n 0, 1) := by decide +kernel
theorem dX1_contactOf_26 : decode cX1_contactOf 26 = .ok (.bipush 54, 2) := by decide +kernel
theorem dX1_contactOf_28 : decode cX1_contactOf 28 = .ok (.if_icmp .ge 12, 3) := by decide +kernel
theorem dX1_contactOf_31 : decode cX1_contactOf 31 = .ok (.iconst 1, 1) := by decide +kernel
theorem dX1_contactOf_32 : decode cX1_contactOf 32 = .ok (.iconst 4, 1) := by decide +kernel
theorem dX1_contactOf_33 : decode cX1_contactOf 33 = .ok (.iload_n 0, 1) := by decide +kernel
theorem dX1_contactOf_34 : decode cX1_contactOf 34 = .ok (.iadd, 1) := by decide +kernel
theorem dX1_contactOf_35 : decode cX1_contactOf 35 = .ok (.bipush 48, 2) := by decide +kernel
theorem dX1_contactOf_37 : decode cX1_contactOf 37 = .ok (.isub, 1) := by decide +kernel
theorem dX1_contactOf_38 : decode cX1_contactOf 38 = .ok (.ishl, 1) := by decide +kernel
theorem dX1_contactOf_39 : decode cX1_contactOf 39 = .ok (.ireturn, 1) := by decide +kernel
theorem dX1_contactOf_40 : decode cX1_contactOf 40 = .ok (.iconst 0, 1) := by decide +kernel
theorem dX1_contactOf_41 : decode cX1_contactOf 41 = .ok (.ireturn, 1) := by decide +kernel
