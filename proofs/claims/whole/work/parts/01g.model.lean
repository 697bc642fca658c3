theorem dX4_init_0 : decode cX4_init 0 = .ok (.aload_n 0, 1) := by decide +kernel
theorem dX4_init_1 : decode cX4_init 1 = .ok (.invokespecial 1, 3) := by decide +kernel
theorem dX4_init_4 : decode cX4_init 4 = .ok (.aload_n 0, 1) := by decide +kernel
theorem dX4_init_5 : decode cX4_init 5 = .ok (.bipush 88, 2) := by decide +kernel
theorem dX4_init_7 : decode cX4_init 7 = .ok (.newarray .int, 2) := by decide +kernel
theorem dX4_init_9 : decode cX4_init 9 = .ok (.putfield 7, 3) := by decide +kernel
theorem dX4_init_12 : decode cX4_init 12 = .ok (.aload_n 0, 1) := by decide +kernel
theorem dX4_init_13 : decode cX4_init 13 = .ok (.bipush 88, 2) := by decide +kernel
theorem dX4_init_15 : decode cX4_init 15 = .ok (.newarray .int, 2) := by decide +kernel
theorem dX4_init_17 : decode cX4_init 17 = .ok (.putfield 13, 3) := by decide +kernel
theorem dX4_init_20 : decode cX4_init 20 = .ok (.aload_n 0, 1) := by decide +kernel
theorem dX4_init_21 : decode cX4_init 21 = .ok (.sipush 528, 3) := by decide +kernel
theorem dX4_init_24 : decode cX4_init 24 = .ok (.newarray .int, 2) := by decide +kernel
theorem dX4_init_26 : decode cX4_init 26 = .ok (.putfield 16, 3) := by decide +kernel
theorem dX4_init_29 : decode cX4_init 29 = .ok (.aload_n 0, 1) := by decide +kernel
theorem dX4_init_30 : decode cX4_init 30 = .ok (.bipush 60, 2) := by decide +kernel
theorem dX4_init_32 : decode cX4_init 32 = .ok (.newarray .char, 2) := by decide +kernel
theorem dX4_init_34 : decode cX4_init 34 = .ok (.putfield 19, 3) := by decide +kernel
theorem dX4_init_37 : decode cX4_init 37 = .ok (.aload_n 0, 1) := by decide +kernel
theorem dX4_init_38 : decode cX4_init 38 = .ok (.sipush 301, 3) := by decide +kernel
theorem dX4_init_41 : decode cX4_init 41 = .ok (.newarray .int, 2) := by decide +kernel
theorem dX4_init_43 : decode cX4_init 43 = .ok (.putfield 23, 3) := by decide +kernel
theorem dX4_init_46 : decode cX4_init 46 = .ok (.aload_n 0, 1) := by decide +kernel
theorem dX4_init_47 : decode cX4_init 47 = .ok (.sipush 1024, 3) := by decide +kernel
theorem dX4_init_50 : decode cX4_init 50 = .ok (.newarray .int, 2) := by decide +kernel
theorem dX4_init_52 : decode cX4_init 52 = .ok (.putfield 26, 3) := by decide +kernel
theorem dX4_init_55 : decode cX4_init 55 = .ok (.aload_n 0, 1) := by decide +kernel
theorem dX4_init_56 : decode cX4_init 56 = .ok (.sipush 2107, 3) := by decide +kernel
theorem dX4_init_59 : decode cX4_init 59 = .ok (.newarray .int, 2) := by decide +kernel
theorem dX4_init_61 : decode cX4_init 61 = .ok (.putfield 29, 3) := by decide +kernel
theorem dX4_init_64 : decode cX4_init 64 = .ok (.aload_n 0, 1) := by decide +kernel
theorem dX4_init_65 : decode cX4_init 65 = .ok (.sipush 301, 3) := by decide +kernel
theorem dX4_init_68 : decode cX4_init 68 = .ok (.newarray .int, 2) := by decide +kernel
theorem dX4_init_70 : decode cX4_init 70 = .ok (.putfield 32, 3) := by decide +kernel
theorem dX4_init_73 : decode cX4_init 73 = .ok (.aload_n 0, 1) := by decide +kernel
theorem dX4_init_74 : decode cX4_init 74 = .ok (.sipush 301, 3) := by decide +kernel
theorem dX4_init_77 : decode cX4_init 77 = .ok (.newarray .int, 2) := by decide +kernel
theorem dX4_init_79 : decode cX4_init 79 = .ok (.putfield 35, 3) := by decide +kernel
theorem dX4_init_82 : decode cX4_init 82 = .ok (.aload_n 0, 1) := by decide +kernel
theorem dX4_init_83 : decode cX4_init 83 = .ok (.sipush 176, 3) := by decide +kernel
theorem dX4_init_86 : decode cX4_init 86 = .ok (.newarray .int, 2) := by decide +kernel
theorem dX4_init_88 : decode cX4_init 88 = .ok (.putfield 38, 3) := by decide +kernel
theorem dX4_init_91 : decode cX4_init 91 = .ok (.aload_n 0, 1) := by decide +kernel
theorem dX4_init_92 : decode cX4_init 92 = .ok (.iconst 0, 1) := by decide +kernel
theorem dX4_init_93 : decode cX4_init 93 = .ok (.putfield 41, 3) := by decide +kernel
theorem dX4_init_96 : decode cX4_init 96 = .ok (.return_, 1) := by decide +kernel
theorem dX4_thrown_0 : decode cX4_thrown 0 = .ok (.aload_n 0, 1) := by decide +kernel
theorem dX4_thrown_1 : decode cX4_thrown 1 = .ok (.getfield 41, 3) := by decide +kernel
theorem dX4_thrown_4 : decode cX4_thrown 4 = .ok (.ireturn, 1) := by decide +kernel
theorem dX4_in_0 : decode cX4_in 0 = .ok (.iload_n 0, 1) := by decide +kernel
theorem dX4_in_1 : decode cX4_in 1 = .ok (.iload_n 1, 1) := by decide +kernel
theorem dX4_in_2 : decode cX4_in 2 = .ok (.if_icmp .lt 12, 3) := by decide +kernel
theorem dX4_in_5 : decode cX4_in 5 = .ok (.iload_n 0, 1) := by decide +kernel
theorem dX4_in_6 : decode cX4_in 6 = .ok (.iload_n 2, 1) := by decide +kernel
theorem dX4_in_7 : decode cX4_in 7 = .ok (.if_icmp .gt 7, 3) := by decide +kernel
theorem dX4_in_10 : decode cX4_in 10 = .ok (.iconst 1, 1) := by decide +kernel
theorem dX4_in_11 : decode cX4_in 11 = .ok (.goto 4, 3) := by decide +kernel
theorem dX4_in_14 : decode cX4_in 14 = .ok (.iconst 0, 1) := by decide +kernel
theorem dX4_in_15 : decode cX4_in 15 = .ok (.ireturn, 1) := by decide +kernel
theorem dX4_refuses_0 : decode cX4_refuses 0 = .ok (.aload_n 0, 1) := by decide +kernel
theorem dX4_refuses_1 : decode cX4_refuses 1 = .ok (.iload_n 1, 1) := by decide +kernel
theorem dX4_refuses_2 : decode cX4_refuses 2 = .ok (.putfield 41, 3) := by decide +kernel
theorem dX4_refuses_5 : decode cX4_refuses 5 = .ok (.iload_n 1, 1) := by decide +kernel
theorem dX4_refuses_6 : decode cX4_refuses 6 = .ok (.ifCond .le 7, 3) := by decide +kernel
theorem dX4_refuses_9 : decode cX4_refuses 9 = .ok (.iconst 1, 1) := by decide +kernel
theorem dX4_refuses_10 : decode cX4_refuses 10 = .ok (.goto 4, 3) := by decide +kernel
theorem dX4_refuses_13 : decode cX4_refuses 13 = .ok (.iconst 0, 1) := by decide +kernel
theorem dX4_refuses_14 : decode cX4_refuses 14 = .ok (.ireturn, 1) := by decide +kernel
theorem dX4_saves_0 : decode cX4_saves 0 = .ok (.aload_n 0, 1) := by decide +kernel
theorem dX4_saves_1 : decode cX4_saves 1 = .ok (.getfield 45, 3) := by decide +kernel
theorem dX4_saves_4 : decode cX4_saves 4 = .ok (.bipush 6, 2) := by decide +kernel
theorem dX4_saves_6 : decode cX4_saves 6 = .ok (.if_icmp .ne 43, 3) := by decide +kernel
theorem dX4_saves_9 : decode cX4_saves 9 = .ok (.iconst 0, 1) := by decide +kernel
theorem dX4_saves_10 : decode cX4_saves 10 = .ok (.istore_n 1, 1) := by decide +kernel
theorem dX4_saves_11 : decode cX4_saves 11 = .ok (.iload_n 1, 1) := by decide +kernel
theorem dX4_saves_12 : decode cX4_saves 12 = .ok (.sipush 440, 3) := by decide +kernel
theorem dX4_saves_15 : decode cX4_saves 15 = .ok (.if_icmp .ge 24, 3) := by decide +kernel
theorem dX4_saves_18 : decode cX4_saves 18 = .ok (.aload_n 0, 1) := by decide +kernel
theorem dX4_saves_19 : decode cX4_saves 19 = .ok (.getfield 16, 3) := by decide +kernel
theorem dX4_saves_22 : decode cX4_saves 22 = .ok (.iload_n 1, 1) := by decide +kernel
theorem dX4_saves_23 : decode cX4_saves 23 = .ok (.aload_n 0, 1) := by decide +kernel
theorem dX4_saves_24 : decode cX4_saves 24 = .ok (.getfield 16, 3) := by decide +kernel
theorem dX4_saves_27 : decode cX4_saves 27 = .ok (.iload_n 1, 1) := by decide +kernel
theorem dX4_saves_28 : decode cX4_saves 28 = .ok (.bipush 88, 2) := by decide +kernel
theorem dX4_saves_30 : decode cX4_saves 30 = .ok (.iadd, 1) := by decide +kernel
theorem dX4_saves_31 : decode cX4_saves 31 = .ok (.iaload, 1) := by decide +kernel
theorem dX4_saves_32 : decode cX4_saves 32 = .ok (.iastore, 1) := by decide +kernel
theorem dX4_saves_33 : decode cX4_saves 33 = .ok (.iinc 1 1, 3) := by decide +kernel
theorem dX4_saves_36 : decode cX4_saves 36 = .ok (.goto (-25), 3) := by decide +kernel
theorem dX4_saves_39 : decode cX4_saves 39 = .ok (.aload_n 0, 1) := by decide +kernel
theorem dX4_saves_40 : decode cX4_saves 40 = .ok (.dup, 1) := by decide +kernel
theorem dX4_saves_41 : decode cX4_saves 41 = .ok (.getfield 45, 3) := by decide +kernel
theorem dX4_saves_44 : decode cX4_saves 44 = .ok (.iconst 1, 1) := by decide +kernel
theorem dX4_saves_45 : decode cX4_saves 45 = .ok (.isub, 1) := by decide +kernel
theorem dX4_saves_46 : decode cX4_saves 46 = .ok (.putfield 45, 3) := by decide +kernel
theorem dX4_saves_49 : decode cX4_saves 49 = .ok (.iconst 0, 1) := by decide +kernel
theorem dX4_saves_50 : decode cX4_saves 50 = .ok (.istore_n 1, 1) := by decide +kernel
theorem dX4_saves_51 : decode cX4_saves 51 = .ok (.iload_n 1, 1) := by decide +kernel
theorem dX4_saves_52 : decode cX4_saves 52 = .ok (.bipush 88, 2) := by decide +kernel
theorem dX4_saves_54 : decode cX4_saves 54 = .ok (.if_icmp .ge 29, 3) := by decide +kernel
theorem dX4_saves_57 : decode cX4_saves 57 = .ok (.aload_n 0, 1) := by decide +kernel
theorem dX4_saves_58 : decode cX4_saves 58 = .ok (.getfield 16, 3) := by decide +kernel
theorem dX4_saves_61 : decode cX4_saves 61 = .ok (.bipush 88, 2) := by decide +kernel
theorem dX4_saves_63 : decode cX4_saves 63 = .ok (.aload_n 0, 1) := by decide +kernel
theorem dX4_saves_64 : decode cX4_saves 64 = .ok (.getfield 45, 3) := by decide +kernel
theorem dX4_saves_67 : decode cX4_saves 67 = .ok (.imul, 1) := by decide +kernel
theorem dX4_saves_68 : decode cX4_saves 68 = .ok (.iload_n 1, 1) := by decide +kernel
theorem dX4_saves_69 : decode cX4_saves 69 = .ok (.iadd, 1) := by decide +kernel
theorem dX4_saves_70 : decode cX4_saves 70 = .ok (.aload_n 0, 1) := by decide +kernel
theorem dX4_saves_71 : decode cX4_saves 71 = .ok (.getfield 7, 3) := by decide +kernel
theorem dX4_saves_74 : decode cX4_saves 74 = .ok (.iload_n 1, 1) := by decide +kernel
theorem dX4_saves_75 : decode cX4_saves 75 = .ok (.iaload, 1) := by decide +kernel
theorem dX4_saves_76 : decode cX4_saves 76 = .ok (.iastore, 1) := by decide +kernel
theorem dX4_saves_77 : decode cX4_saves 77 = .ok (.iinc 1 1, 3) := by decide +kernel
theorem dX4_saves_80 : decode cX4_saves 80 = .ok (.goto (-29), 3) := by decide +kernel
theorem dX4_saves_83 : decode cX4_saves 83 = .ok (.aload_n 0, 1) := by decide +kernel
theorem dX4_saves_84 : decode cX4_saves 84 = .ok (.dup, 1) := by decide +kernel
theorem dX4_saves_85 : decode cX4_saves 85 = .ok (.getfield 45, 3) := by decide +kernel
theorem dX4_saves_88 : decode cX4_saves 88 = .ok (.iconst 1, 1) := by decide +kernel
theorem dX4_saves_89 : decode cX4_saves 89 = .ok (.iadd, 1) := by decide +kernel
theorem dX4_saves_90 : decode cX4_saves 90 = .ok (.putfield 45, 3) := by decide +kernel
theorem dX4_saves_93 : decode cX4_saves 93 = .ok (.return_, 1) := by decide +kernel
set_option maxRecDepth 20000 in
theorem ggX4_undo_X4_refuses : GoodIn wsX4_undo wsX4_refuses := goodIn_r _ [8, 9, 10, 11, 12, 13, 14, 15, 16, 17, 18, 19, 20, 21, 22, 23, 24, 25, 26, 27, 28, 29, 30, 31, 32, 33, 34, 35, 36, 37] (by decide +kernel) (by decide +kernel)
set_option maxRecDepth 20000 in
theorem gX4_undo_X4_refuses : GoodIn wsX4_undo (wsV RX4 48 RX4 yX4_refuses wsX4_refuses) := goodIn_app (goodIn_of _ (by decide +kernel)) ggX4_undo_X4_refuses
theorem dX4_undo_0 : decode cX4_undo 0 = .ok (.aload_n 0, 1) := by decide +kernel
theorem dX4_undo_1 : decode cX4_undo 1 = .ok (.aload_n 0, 1) := by decide +kernel
theorem dX4_undo_2 : decode cX4_undo 2 = .ok (.getfield 45, 3) := by decide +kernel
theorem dX4_undo_5 : decode cX4_undo 5 = .ok (.ifCond .ne 7, 3) := by decide +kernel
theorem dX4_undo_8 : decode cX4_undo 8 = .ok (.iconst 1, 1) := by decide +kernel
theorem dX4_undo_9 : decode cX4_undo 9 = .ok (.goto 4, 3) := by decide +kernel
theorem dX4_undo_12 : decode cX4_undo 12 = .ok (.iconst 0, 1) := by decide +kernel
theorem dX4_undo_13 : decode cX4_undo 13 = .ok (.invokevirtual 48, 3) := by decide +kernel
theorem dX4_undo_16 : decode cX4_undo 16 = .ok (.ifCond .eq 5, 3) := by decide +kernel
theorem dX4_undo_19 : decode cX4_undo 19 = .ok (.iconst 0, 1) := by decide +kernel
theorem dX4_undo_20 : decode cX4_undo 20 = .ok (.ireturn, 1) := by decide +kernel
theorem dX4_undo_21 : decode cX4_undo 21 = .ok (.aload_n 0, 1) := by decide +kernel
theorem dX4_undo_22 : decode cX4_undo 22 = .ok (.dup, 1) := by decide +kernel
theorem dX4_undo_23 : decode cX4_undo 23 = .ok (.getfield 45, 3) := by decide +kernel
theorem dX4_undo_26 : decode cX4_undo 26 = .ok (.iconst 1, 1) := by decide +kernel
theorem dX4_undo_27 : decode cX4_undo 27 = .ok (.isub, 1) := by decide +kernel
theorem dX4_undo_28 : decode cX4_undo 28 = .ok (.putfield 45, 3) := by decide +kernel
theorem dX4_undo_31 : decode cX4_undo 31 = .ok (.iconst 0, 1) := by decide +kernel
theorem dX4_undo_32 : decode cX4_undo 32 = .ok (.istore_n 1, 1) := by decide +kernel
theorem dX4_undo_33 : decode cX4_undo 33 = .ok (.iload_n 1, 1) := by decide +kernel
theorem dX4_undo_34 : decode cX4_undo 34 = .ok (.bipush 88, 2) := by decide +kernel
theorem dX4_undo_36 : decode cX4_undo 36 = .ok (.if_icmp .ge 29, 3) := by decide +kernel
theorem dX4_undo_39 : decode cX4_undo 39 = .ok (.aload_n 0, 1) := by decide +kernel
theorem dX4_undo_40 : decode cX4_undo 40 = .ok (.getfield 7, 3) := by decide +kernel
theorem dX4_undo_43 : decode cX4_undo 43 = .ok (.iload_n 1, 1) := by decide +kernel
theorem dX4_undo_44 : decode cX4_undo 44 = .ok (.aload_n 0, 1) := by decide +kernel
theorem dX4_undo_45 : decode cX4_undo 45 = .ok (.getfield 16, 3) := by decide +kernel
theorem dX4_undo_48 : decode cX4_undo 48 = .ok (.bipush 88, 2) := by decide +kernel
theorem dX4_undo_50 : decode cX4_undo 50 = .ok (.aload_n 0, 1) := by decide +kernel
theorem dX4_undo_51 : decode cX4_undo 51 = .ok (.getfield 45, 3) := by decide +kernel
theorem dX4_undo_54 : decode cX4_undo 54 = .ok (.imul, 1) := by decide +kernel
theorem dX4_undo_55 : decode cX4_undo 55 = .ok (.iload_n 1, 1) := by decide +kernel
theorem dX4_undo_56 : decode cX4_undo 56 = .ok (.iadd, 1) := by decide +kernel
theorem dX4_undo_57 : decode cX4_undo 57 = .ok (.iaload, 1) := by decide +kernel
theorem dX4_undo_58 : decode cX4_undo 58 = .ok (.iastore, 1) := by decide +kernel
theorem dX4_undo_59 : decode cX4_undo 59 = .ok (.iinc 1 1, 3) := by decide +kernel
theorem dX4_undo_62 : decode cX4_undo 62 = .ok (.goto (-29), 3) := by decide +kernel
theorem dX4_undo_65 : decode cX4_undo 65 = .ok (.aload_n 0, 1) := by decide +kernel
theorem dX4_undo_66 : decode cX4_undo 66 = .ok (.getfield 45, 3) := by decide +kernel
theorem dX4_undo_69 : decode cX4_undo 69 = .ok (.ireturn, 1) := by decide +kernel
theorem dX4_of_0 : decode cX4_of 0 = .ok (.aload_n 0, 1) := by decide +kernel
theorem dX4_of_1 : decode cX4_of 1 = .ok (.iconst 4, 1) := by decide +kernel
theorem dX4_of_2 : decode cX4_of 2 = .ok (.bipush 14, 2) := by decide +kernel
theorem dX4_of_4 : decode cX4_of 4 = .ok (.iload_n 1, 1) := by decide +kernel
theorem dX4_of_5 : decode cX4_of 5 = .ok (.imul, 1) := by decide +kernel
theorem dX4_of_6 : decode cX4_of 6 = .ok (.iadd, 1) := by decide +kernel
theorem dX4_of_7 : decode cX4_of 7 = .ok (.iload_n 2, 1) := by decide +kernel
theorem dX4_of_8 : decode cX4_of 8 = .ok (.iadd, 1) := by decide +kernel
theorem dX4_of_9 : decode cX4_of 9 = .ok (.iaload, 1) := by decide +kernel
theorem dX4_of_10 : decode cX4_of 10 = .ok (.ireturn, 1) := by decide +kernel
theorem dX4_puts_0 : decode cX4_puts 0 = .ok (.aload_n 0, 1) := by decide +kernel
theorem dX4_puts_1 : decode cX4_puts 1 = .ok (.iconst 4, 1) := by decide +kernel
theorem dX4_puts_2 : decode cX4_puts 2 = .ok (.bipush 14, 2) := by decide +kernel
theorem dX4_puts_4 : decode cX4_puts 4 = .ok (.iload_n 1, 1) := by decide +kernel
theorem dX4_puts_5 : decode cX4_puts 5 = .ok (.imul, 1) := by decide +kernel
theorem dX4_puts_6 : decode cX4_puts 6 = .ok (.iadd, 1) := by decide +kernel
theorem dX4_puts_7 : decode cX4_puts 7 = .ok (.iload_n 2, 1) := by decide +kernel
theorem dX4_puts_8 : decode cX4_puts 8 = .ok (.iadd, 1) := by decide +kernel
theorem dX4_puts_9 : decode cX4_puts 9 = .ok (.iload_n 3, 1) := by decide +kernel
theorem dX4_puts_10 : decode cX4_puts 10 = .ok (.iastore, 1) := by decide +kernel
theorem dX4_puts_11 : decode cX4_puts 11 = .ok (.return_, 1) := by decide +kernel
set_option maxRecDepth 20000 in
theorem ggX4_isRelay_X4_in : GoodIn wsX4_isRelay wsX4_in := goodIn_r _ [5] (by decide +kernel) (by decide +kernel)
set_option maxRecDepth 20000 in
theorem gX4_isRelay_X4_in : GoodIn wsX4_isRelay (va_wsS RX4 52 yX4_in wsX4_in) := goodIn_app (goodIn_of _ (by decide +kernel)) ggX4_isRelay_X4_in
theorem dX4_isRelay_0 : decode cX4_isRelay 0 = .ok (.iload_n 1, 1) := by decide +kernel
theorem dX4_isRelay_1 : decode cX4_isRelay 1 = .ok (.iconst 0, 1) := by decide +kernel
theorem dX4_isRelay_2 : decode cX4_isRelay 2 = .ok (.aload_n 0, 1) := by decide +kernel
theorem dX4_isRelay_3 : decode cX4_isRelay 3 = .ok (.getfield 7, 3) := by decide +kernel
theorem dX4_isRelay_6 : decode cX4_isRelay 6 = .ok (.iconst 0, 1) := by decide +kernel
theorem dX4_isRelay_7 : decode cX4_isRelay 7 = .ok (.iaload, 1) := by decide +kernel
theorem dX4_isRelay_8 : decode cX4_isRelay 8 = .ok (.iconst 1, 1) := by decide +kernel
theorem dX4_isRelay_9 : decode cX4_isRelay 9 = .ok (.isub, 1) := by decide +kernel
theorem dX4_isRelay_10 : decode cX4_isRelay 10 = .ok (.invokestatic 52, 3) := by decide +kernel
theorem dX4_isRelay_13 : decode cX4_isRelay 13 = .ok (.ireturn, 1) := by decide +kernel
set_option maxRecDepth 20000 in
theorem ggX4_isTime_X4_in : GoodIn wsX4_isTime wsX4_in := goodIn_r _ [4] (by decide +kernel) (by decide +kernel)
set_option maxRecDepth 20000 in
theorem gX4_isTime_X4_in : GoodIn wsX4_isTime (va_wsS RX4 52 yX4_in wsX4_in) := goodIn_app (goodIn_of _ (by decide +kernel)) ggX4_isTime_X4_in
theorem dX4_isTime_0 : decode cX4_isTime 0 = .ok (.iload_n 0, 1) := by decide +kernel
theorem dX4_isTime_1 : decode cX4_isTime 1 = .ok (.iconst 0, 1) := by decide +kernel
theorem dX4_isTime_2 : decode cX4_isTime 2 = .ok (.bipush 9, 2) := by decide +kernel
theorem dX4_isTime_4 : decode cX4_isTime 4 = .ok (.invokestatic 52, 3) := by decide +kernel
theorem dX4_isTime_7 : decode cX4_isTime 7 = .ok (.ireturn, 1) := by decide +kernel
theorem dX4_ones_0 : decode cX4_ones 0 = .ok (.iconst 0, 1) := by decide +kernel
theorem dX4_ones_1 : decode cX4_ones 1 = .ok (.istore_n 1, 1) := by decide +kernel
theorem dX4_ones_2 : decode cX4_ones 2 = .ok (.iconst 0, 1) := by decide +kernel
theorem dX4_ones_3 : decode cX4_ones 3 = .ok (.istore_n 2, 1) := by decide +kernel
theorem dX4_ones_4 : decode cX4_ones 4 = .ok (.iload_n 2, 1) := by decide +kernel
theorem dX4_ones_5 : decode cX4_ones 5 = .ok (.bipush 16, 2) := by decide +kernel
theorem dX4_ones_7 : decode cX4_ones 7 = .ok (.if_icmp .ge 17, 3) := by decide +kernel
theorem dX4_ones_10 : decode cX4_ones 10 = .ok (.iload_n 1, 1) := by decide +kernel
theorem dX4_ones_11 : decode cX4_ones 11 = .ok (.iload_n 0, 1) := by decide +kernel
theorem dX4_ones_12 : decode cX4_ones 12 = .ok (.iload_n 2, 1) := by decide +kernel
theorem dX4_ones_13 : decode cX4_ones 13 = .ok (.ishr, 1) := by decide +kernel
theorem dX4_ones_14 : decode cX4_ones 14 = .ok (.iconst 1, 1) := by decide +kernel
theorem dX4_ones_15 : decode cX4_ones 15 = .ok (.iand, 1) := by decide +kernel
theorem dX4_ones_16 : decode cX4_ones 16 = .ok (.iadd, 1) := by decide +kernel
theorem dX4_ones_17 : decode cX4_ones 17 = .ok (.istore_n 1, 1) := by decide +kernel
theorem dX4_ones_18 : decode cX4_ones 18 = .ok (.iinc 2 1, 3) := by decide +kernel
theorem dX4_ones_21 : decode cX4_ones 21 = .ok (.goto (-17), 3) := by decide +kernel
theorem dX4_ones_24 : decode cX4_ones 24 = .ok (.iload_n 1, 1) := by decide +kernel
theorem dX4_ones_25 : decode cX4_ones 25 = .ok (.ireturn, 1) := by decide +kernel
set_option maxRecDepth 20000 in
theorem ggX4_isLeading_X4_of : GoodIn wsX4_isLeading wsX4_of := goodIn_r _ [4] (by decide +kernel) (by decide +kernel)
set_option maxRecDepth 20000 in
theorem gX4_isLeading_X4_of : GoodIn wsX4_isLeading (va_wsS RX4 56 yX4_of wsX4_of) := goodIn_app (goodIn_of _ (by decide +kernel)) ggX4_isLeading_X4_of
theorem dX4_isLeading_0 : decode cX4_isLeading 0 = .ok (.aload_n 0, 1) := by decide +kernel
theorem dX4_isLeading_1 : decode cX4_isLeading 1 = .ok (.iload_n 1, 1) := by decide +kernel
theorem dX4_isLeading_2 : decode cX4_isLeading 2 = .ok (.bipush 6, 2) := by decide +kernel
theorem dX4_isLeading_4 : decode cX4_isLeading 4 = .ok (.iconst 2, 1) := by decide +kernel
theorem dX4_isLeading_5 : decode cX4_isLeading 5 = .ok (.iload_n 2, 1) := by decide +kernel
theorem dX4_isLeading_6 : decode cX4_isLeading 6 = .ok (.imul, 1) := by decide +kernel
theorem dX4_isLeading_7 : decode cX4_isLeading 7 = .ok (.iadd, 1) := by decide +kernel
theorem dX4_isLeading_8 : decode cX4_isLeading 8 = .ok (.invokestatic 56, 3) := by decide +kernel
theorem dX4_isLeading_11 : decode cX4_isLeading 11 = .ok (.istore 4, 2) := by decide +kernel
theorem dX4_isLeading_13 : decode cX4_isLeading 13 = .ok (.iload 4, 2) := by decide +kernel
theorem dX4_isLeading_15 : decode cX4_isLeading 15 = .ok (.iload_n 3, 1) := by decide +kernel
theorem dX4_isLeading_16 : decode cX4_isLeading 16 = .ok (.iand, 1) := by decide +kernel
theorem dX4_isLeading_17 : decode cX4_isLeading 17 = .ok (.iload 4, 2) := by decide +kernel
theorem dX4_isLeading_19 : decode cX4_isLeading 19 = .ok (.if_icmp .ne 25, 3) := by decide +kernel
theorem dX4_isLeading_22 : decode cX4_isLeading 22 = .ok (.aload_n 0, 1) := by decide +kernel
theorem dX4_isLeading_23 : decode cX4_isLeading 23 = .ok (.iload_n 1, 1) := by decide +kernel
theorem dX4_isLeading_24 : decode cX4_isLeading 24 = .ok (.bipush 6, 2) := by decide +kernel
theorem dX4_isLeading_26 : decode cX4_isLeading 26 = .ok (.iconst 2, 1) := by decide +kernel
theorem dX4_isLeading_27 : decode cX4_isLeading 27 = .ok (.iload_n 2, 1) := by decide +kernel
theorem dX4_isLeading_28 : decode cX4_isLeading 28 = .ok (.imul, 1) := by decide +kernel
theorem dX4_isLeading_29 : decode cX4_isLeading 29 = .ok (.iadd, 1) := by decide +kernel
theorem dX4_isLeading_30 : decode cX4_isLeading 30 = .ok (.iconst 1, 1) := by decide +kernel
theorem dX4_isLeading_31 : decode cX4_isLeading 31 = .ok (.iadd, 1) := by decide +kernel
theorem dX4_isLeading_32 : decode cX4_isLeading 32 = .ok (.invokestatic 56, 3) := by decide +kernel
theorem dX4_isLeading_35 : decode cX4_isLeading 35 = .ok (.iload_n 3, 1) := by decide +kernel
theorem dX4_isLeading_36 : decode cX4_isLeading 36 = .ok (.iand, 1) := by decide +kernel
theorem dX4_isLeading_37 : decode cX4_isLeading 37 = .ok (.ifCond .ne 7, 3) := by decide +kernel
theorem dX4_isLeading_40 : decode cX4_isLeading 40 = .ok (.iconst 1, 1) := by decide +kernel
theorem dX4_isLeading_41 : decode cX4_isLeading 41 = .ok (.goto 4, 3) := by decide +kernel
theorem dX4_isLeading_44 : decode cX4_isLeading 44 = .ok (.iconst 0, 1) := by decide +kernel
theorem dX4_isLeading_45 : decode cX4_isLeading 45 = .ok (.ireturn, 1) := by decide +kernel
set_option maxRecDepth 20000 in
theorem ggX4_calledBy_X4_of : GoodIn wsX4_calledBy wsX4_of := goodIn_r _ [4] (by decide +kernel) (by decide +kernel)
set_option maxRecDepth 20000 in
theorem gX4_calledBy_X4_of : GoodIn wsX4_calledBy (va_wsS RX4 56 yX4_of wsX4_of) := goodIn_app (goodIn_of _ (by decide +kernel)) ggX4_calledBy_X4_of
set_option maxRecDepth 20000 in
theorem ggX4_calledBy_X4_isLeading : GoodIn wsX4_calledBy wsX4_isLeading := goodIn_r _ [7, 1, 2, 3, 4] (by decide +kernel) (by decide +kernel)
set_option maxRecDepth 20000 in
theorem gX4_calledBy_X4_isLeading : GoodIn wsX4_calledBy (va_wsS RX4 60 yX4_isLeading wsX4_isLeading) := goodIn_app (goodIn_of _ (by decide +kernel)) ggX4_calledBy_X4_isLeading
theorem dX4_calledBy_0 : decode cX4_calledBy 0 = .ok (.aload_n 0, 1) := by decide +kernel
theorem dX4_calledBy_1 : decode cX4_calledBy 1 = .ok (.iconst 1, 1) := by decide +kernel
theorem dX4_calledBy_2 : decode cX4_calledBy 2 = .ok (.iaload, 1) := by decide +kernel
theorem dX4_calledBy_3 : decode cX4_calledBy 3 = .ok (.iload_n 1, 1) := by decide +kernel
theorem dX4_calledBy_4 : decode cX4_calledBy 4 = .ok (.iconst 4, 1) := by decide +kernel
theorem dX4_calledBy_5 : decode cX4_calledBy 5 = .ok (.ishl, 1) := by decide +kernel
theorem dX4_calledBy_6 : decode cX4_calledBy 6 = .ok (.ior, 1) := by decide +kernel
theorem dX4_calledBy_7 : decode cX4_calledBy 7 = .ok (.istore_n 2, 1) := by decide +kernel
theorem dX4_calledBy_8 : decode cX4_calledBy 8 = .ok (.iconst 0, 1) := by decide +kernel
theorem dX4_calledBy_9 : decode cX4_calledBy 9 = .ok (.istore_n 3, 1) := by decide +kernel
theorem dX4_calledBy_10 : decode cX4_calledBy 10 = .ok (.iconst 0, 1) := by decide +kernel
theorem dX4_calledBy_11 : decode cX4_calledBy 11 = .ok (.istore 4, 2) := by decide +kernel
theorem dX4_calledBy_13 : decode cX4_calledBy 13 = .ok (.iload 4, 2) := by decide +kernel
theorem dX4_calledBy_15 : decode cX4_calledBy 15 = .ok (.aload_n 0, 1) := by decide +kernel
theorem dX4_calledBy_16 : decode cX4_calledBy 16 = .ok (.iconst 0, 1) := by decide +kernel
theorem dX4_calledBy_17 : decode cX4_calledBy 17 = .ok (.iaload, 1) := by decide +kernel
theorem dX4_calledBy_18 : decode cX4_calledBy 18 = .ok (.if_icmp .ge 53, 3) := by decide +kernel
theorem dX4_calledBy_21 : decode cX4_calledBy 21 = .ok (.iconst 0, 1) := by decide +kernel
theorem dX4_calledBy_22 : decode cX4_calledBy 22 = .ok (.istore 5, 2) := by decide +kernel
theorem dX4_calledBy_24 : decode cX4_calledBy 24 = .ok (.iload 5, 2) := by decide +kernel
theorem dX4_calledBy_26 : decode cX4_calledBy 26 = .ok (.aload_n 0, 1) := by decide +kernel
theorem dX4_calledBy_27 : decode cX4_calledBy 27 = .ok (.iload 4, 2) := by decide +kernel
theorem dX4_calledBy_29 : decode cX4_calledBy 29 = .ok (.iconst 4, 1) := by decide +kernel
theorem dX4_calledBy_30 : decode cX4_calledBy 30 = .ok (.invokestatic 56, 3) := by decide +kernel
theorem dX4_calledBy_33 : decode cX4_calledBy 33 = .ok (.if_icmp .ge 32, 3) := by decide +kernel
theorem dX4_calledBy_36 : decode cX4_calledBy 36 = .ok (.iload_n 3, 1) := by decide +kernel
theorem dX4_calledBy_37 : decode cX4_calledBy 37 = .ok (.aload_n 0, 1) := by decide +kernel
theorem dX4_calledBy_38 : decode cX4_calledBy 38 = .ok (.iload 4, 2) := by decide +kernel
theorem dX4_calledBy_40 : decode cX4_calledBy 40 = .ok (.iload 5, 2) := by decide +kernel
theorem dX4_calledBy_42 : decode cX4_calledBy 42 = .ok (.iload_n 2, 1) := by decide +kernel
theorem dX4_calledBy_43 : decode cX4_calledBy 43 = .ok (.invokestatic 60, 3) := by decide +kernel
theorem dX4_calledBy_46 : decode cX4_calledBy 46 = .ok (.ifCond .eq 10, 3) := by decide +kernel
theorem dX4_calledBy_49 : decode cX4_calledBy 49 = .ok (.iconst 1, 1) := by decide +kernel
theorem dX4_calledBy_50 : decode cX4_calledBy 50 = .ok (.iload 4, 2) := by decide +kernel
theorem dX4_calledBy_52 : decode cX4_calledBy 52 = .ok (.ishl, 1) := by decide +kernel
theorem dX4_calledBy_53 : decode cX4_calledBy 53 = .ok (.goto 4, 3) := by decide +kernel
theorem dX4_calledBy_56 : decode cX4_calledBy 56 = .ok (.iconst 0, 1) := by decide +kernel
theorem dX4_calledBy_57 : decode cX4_calledBy 57 = .ok (.ior, 1) := by decide +kernel
theorem dX4_calledBy_58 : decode cX4_calledBy 58 = .ok (.istore_n 3, 1) := by decide +kernel
theorem dX4_calledBy_59 : decode cX4_calledBy 59 = .ok (.iinc 5 1, 3) := by decide +kernel
theorem dX4_calledBy_62 : decode cX4_calledBy 62 = .ok (.goto (-38), 3) := by decide +kernel
theorem dX4_calledBy_65 : decode cX4_calledBy 65 = .ok (.iinc 4 1, 3) := by decide +kernel
theorem dX4_calledBy_68 : decode cX4_calledBy 68 = .ok (.goto (-55), 3) := by decide +kernel
theorem dX4_calledBy_71 : decode cX4_calledBy 71 = .ok (.iload_n 3, 1) := by decide +kernel
theorem dX4_calledBy_72 : decode cX4_calledBy 72 = .ok (.ireturn, 1) := by decide +kernel
theorem dX4_upOf_0 : decode cX4_upOf 0 = .ok (.iload_n 0, 1) := by decide +kernel
theorem dX4_upOf_1 : decode cX4_upOf 1 = .ok (.bipush 63, 2) := by decide +kernel
theorem dX4_upOf_3 : decode cX4_upOf 3 = .ok (.iand, 1) := by decide +kernel
theorem dX4_upOf_4 : decode cX4_upOf 4 = .ok (.ireturn, 1) := by decide +kernel
theorem dX4_countOf_0 : decode cX4_countOf 0 = .ok (.iload_n 0, 1) := by decide +kernel
theorem dX4_countOf_1 : decode cX4_countOf 1 = .ok (.bipush 6, 2) := by decide +kernel
theorem dX4_countOf_3 : decode cX4_countOf 3 = .ok (.iconst 4, 1) := by decide +kernel
theorem dX4_countOf_4 : decode cX4_countOf 4 = .ok (.iload_n 1, 1) := by decide +kernel
theorem dX4_countOf_5 : decode cX4_countOf 5 = .ok (.imul, 1) := by decide +kernel
theorem dX4_countOf_6 : decode cX4_countOf 6 = .ok (.iadd, 1) := by decide +kernel
theorem dX4_countOf_7 : decode cX4_countOf 7 = .ok (.ishr, 1) := by decide +kernel
theorem dX4_countOf_8 : decode cX4_countOf 8 = .ok (.bipush 15, 2) := by decide +kernel
theorem dX4_countOf_10 : decode cX4_countOf 10 = .ok (.iand, 1) := by decide +kernel
theorem dX4_countOf_11 : decode cX4_countOf 11 = .ok (.ireturn, 1) := by decide +kernel
set_option maxRecDepth 20000 in
theorem ggX4_codeOf_X4_of : GoodIn wsX4_codeOf wsX4_of := goodIn_r _ [4] (by decide +kernel) (by decide +kernel)
set_option maxRecDepth 20000 in
theorem gX4_codeOf_X4_of : GoodIn wsX4_codeOf (va_wsS RX4 56 yX4_of wsX4_of) := goodIn_app (goodIn_of _ (by decide +kernel)) ggX4_codeOf_X4_of
theorem dX4_codeOf_0 : decode cX4_codeOf 0 = .ok (.iconst 0, 1) := by decide +kernel
theorem dX4_codeOf_1 : decode cX4_codeOf 1 = .ok (.istore_n 1, 1) := by decide +kernel
theorem dX4_codeOf_2 : decode cX4_codeOf 2 = .ok (.iconst 0, 1) := by decide +kernel
theorem dX4_codeOf_3 : decode cX4_codeOf 3 = .ok (.istore_n 2, 1) := by decide +kernel
theorem dX4_codeOf_4 : decode cX4_codeOf 4 = .ok (.iload_n 2, 1) := by decide +kernel
theorem dX4_codeOf_5 : decode cX4_codeOf 5 = .ok (.aload_n 0, 1) := by decide +kernel
theorem dX4_codeOf_6 : decode cX4_codeOf 6 = .ok (.iconst 0, 1) := by decide +kernel
theorem dX4_codeOf_7 : decode cX4_codeOf 7 = .ok (.iaload, 1) := by decide +kernel
theorem dX4_codeOf_8 : decode cX4_codeOf 8 = .ok (.if_icmp .ge 34, 3) := by decide +kernel
theorem dX4_codeOf_11 : decode cX4_codeOf 11 = .ok (.iload_n 1, 1) := by decide +kernel
theorem dX4_codeOf_12 : decode cX4_codeOf 12 = .ok (.aload_n 0, 1) := by decide +kernel
theorem dX4_codeOf_13 : decode cX4_codeOf 13 = .ok (.iload_n 2, 1) := by decide +kernel
theorem dX4_codeOf_14 : decode cX4_codeOf 14 = .ok (.iconst 0, 1) := by decide +kernel
theorem dX4_codeOf_15 : decode cX4_codeOf 15 = .ok (.invokestatic 56, 3) := by decide +kernel
theorem dX4_codeOf_18 : decode cX4_codeOf 18 = .ok (.iload_n 2, 1) := by decide +kernel
theorem dX4_codeOf_19 : decode cX4_codeOf 19 = .ok (.ishl, 1) := by decide +kernel
theorem dX4_codeOf_20 : decode cX4_codeOf 20 = .ok (.aload_n 0, 1) := by decide +kernel
theorem dX4_codeOf_21 : decode cX4_codeOf 21 = .ok (.iload_n 2, 1) := by decide +kernel
theorem dX4_codeOf_22 : decode cX4_codeOf 22 = .ok (.iconst 1, 1) := by decide +kernel
theorem dX4_codeOf_23 : decode cX4_codeOf 23 = .ok (.invokestatic 56, 3) := by decide +kernel
theorem dX4_codeOf_26 : decode cX4_codeOf 26 = .ok (.bipush 6, 2) := by decide +kernel
theorem dX4_codeOf_28 : decode cX4_codeOf 28 = .ok (.iconst 4, 1) := by decide +kernel
theorem dX4_codeOf_29 : decode cX4_codeOf 29 = .ok (.iload_n 2, 1) := by decide +kernel
theorem dX4_codeOf_30 : decode cX4_codeOf 30 = .ok (.imul, 1) := by decide +kernel
theorem dX4_codeOf_31 : decode cX4_codeOf 31 = .ok (.iadd, 1) := by decide +kernel
theorem dX4_codeOf_32 : decode cX4_codeOf 32 = .ok (.ishl, 1) := by decide +kernel
theorem dX4_codeOf_33 : decode cX4_codeOf 33 = .ok (.ior, 1) := by decide +kernel
theorem dX4_codeOf_34 : decode cX4_codeOf 34 = .ok (.ior, 1) := by decide +kernel
theorem dX4_codeOf_35 : decode cX4_codeOf 35 = .ok (.istore_n 1, 1) := by decide +kernel
theorem dX4_codeOf_36 : decode cX4_codeOf 36 = .ok (.iinc 2 1, 3) := by decide +kernel
theorem dX4_codeOf_39 : decode cX4_codeOf 39 = .ok (.goto (-35), 3) := by decide +kernel
theorem dX4_codeOf_42 : decode cX4_codeOf 42 = .ok (.iload_n 1, 1) := by decide +kernel
theorem dX4_codeOf_43 : decode cX4_codeOf 43 = .ok (.ireturn, 1) := by decide +kernel
set_option maxRecDepth 20000 in
theorem ggX4_isQuiet_X4_upOf : GoodIn wsX4_isQuiet wsX4_upOf := goodIn_r _ [4] (by decide +kernel) (by decide +kernel)
set_option maxRecDepth 20000 in
theorem gX4_isQuiet_X4_upOf : GoodIn wsX4_isQuiet (va_wsS RX4 64 yX4_upOf wsX4_upOf) := goodIn_app (goodIn_of _ (by decide +kernel)) ggX4_isQuiet_X4_upOf
set_option maxRecDepth 20000 in
theorem ggX4_isQuiet_X4_calledBy : GoodIn wsX4_isQuiet wsX4_calledBy := goodIn_r _ [7, 8, 9, 3, 10, 11, 12, 13] (by decide +kernel) (by decide +kernel)
set_option maxRecDepth 20000 in
theorem gX4_isQuiet_X4_calledBy : GoodIn wsX4_isQuiet (va_wsS RX4 68 yX4_calledBy wsX4_calledBy) := goodIn_app (goodIn_of _ (by decide +kernel)) ggX4_isQuiet_X4_calledBy
theorem dX4_isQuiet_0 : decode cX4_isQuiet 0 = .ok (.aload_n 0, 1) := by decide +kernel
theorem dX4_isQuiet_1 : decode cX4_isQuiet 1 = .ok (.iload_n 1, 1) := by decide +kernel
theorem dX4_isQuiet_2 : decode cX4_isQuiet 2 = .ok (.invokestatic 64, 3) := by decide +kernel
theorem dX4_isQuiet_5 : decode cX4_isQuiet 5 = .ok (.invokestatic 68, 3) := by decide +kernel
theorem dX4_isQuiet_8 : decode cX4_isQuiet 8 = .ok (.iload_n 1, 1) := by decide +kernel
theorem dX4_isQuiet_9 : decode cX4_isQuiet 9 = .ok (.invokestatic 64, 3) := by decide +kernel
theorem dX4_isQuiet_12 : decode cX4_isQuiet 12 = .ok (.if_icmp .ne 7, 3) := by decide +kernel
theorem dX4_isQuiet_15 : decode cX4_isQuiet 15 = .ok (.iconst 1, 1) := by decide +kernel
theorem dX4_isQuiet_16 : decode cX4_isQuiet 16 = .ok (.goto 4, 3) := by decide +kernel
theorem dX4_isQuiet_19 : decode cX4_isQuiet 19 = .ok (.iconst 0, 1) := by decide +kernel
theorem dX4_isQuiet_20 : decode cX4_isQuiet 20 = .ok (.ireturn, 1) := by decide +kernel
set_option maxRecDepth 20000 in
theorem ggX4_ticks_X4_upOf : GoodIn wsX4_ticks wsX4_upOf := goodIn_r _ [6] (by decide +kernel) (by decide +kernel)
set_option maxRecDepth 20000 in
theorem gX4_ticks_X4_upOf : GoodIn wsX4_ticks (va_wsS RX4 64 yX4_upOf wsX4_upOf) := goodIn_app (goodIn_of _ (by decide +kernel)) ggX4_ticks_X4_upOf
set_option maxRecDepth 20000 in
theorem ggX4_ticks_X4_calledBy : GoodIn wsX4_ticks wsX4_calledBy := goodIn_r _ [9, 10, 11, 5, 12, 13, 14, 15] (by decide +kernel) (by decide +kernel)
set_option maxRecDepth 20000 in
theorem gX4_ticks_X4_calledBy : GoodIn wsX4_ticks (va_wsS RX4 68 yX4_calledBy wsX4_calledBy) := goodIn_app (goodIn_of _ (by decide +kernel)) ggX4_ticks_X4_calledBy
set_option maxRecDepth 20000 in
theorem ggX4_ticks_X4_countOf : GoodIn wsX4_ticks wsX4_countOf := goodIn_r _ [18] (by decide +kernel) (by decide +kernel)
set_option maxRecDepth 20000 in
theorem gX4_ticks_X4_countOf : GoodIn wsX4_ticks (va_wsS RX4 78 yX4_countOf wsX4_countOf) := goodIn_app (goodIn_of _ (by decide +kernel)) ggX4_ticks_X4_countOf
set_option maxRecDepth 20000 in
theorem ggX4_ticks_X4_of : GoodIn wsX4_ticks wsX4_of := goodIn_r _ [12] (by decide +kernel) (by decide +kernel)
set_option maxRecDepth 20000 in
theorem gX4_ticks_X4_of : GoodIn wsX4_ticks (va_wsS RX4 56 yX4_of wsX4_of) := goodIn_app (goodIn_of _ (by decide +kernel)) ggX4_ticks_X4_of
theorem dX4_ticks_0 : decode cX4_ticks 0 = .ok (.aload_n 1, 1) := by decide +kernel
theorem dX4_ticks_1 : decode cX4_ticks 1 = .ok (.iload_n 2, 1) := by decide +kernel
theorem dX4_ticks_2 : decode cX4_ticks 2 = .ok (.invokestatic 64, 3) := by decide +kernel
theorem dX4_ticks_5 : decode cX4_ticks 5 = .ok (.invokestatic 68, 3) := by decide +kernel
theorem dX4_ticks_8 : decode cX4_ticks 8 = .ok (.iload_n 2, 1) := by decide +kernel
theorem dX4_ticks_9 : decode cX4_ticks 9 = .ok (.invokestatic 64, 3) := by decide +kernel
theorem dX4_ticks_12 : decode cX4_ticks 12 = .ok (.ixor, 1) := by decide +kernel
theorem dX4_ticks_13 : decode cX4_ticks 13 = .ok (.istore_n 3, 1) := by decide +kernel
theorem dX4_ticks_14 : decode cX4_ticks 14 = .ok (.aload_n 0, 1) := by decide +kernel
theorem dX4_ticks_15 : decode cX4_ticks 15 = .ok (.iload_n 2, 1) := by decide +kernel
theorem dX4_ticks_16 : decode cX4_ticks 16 = .ok (.invokestatic 64, 3) := by decide +kernel
theorem dX4_ticks_19 : decode cX4_ticks 19 = .ok (.putfield 72, 3) := by decide +kernel
theorem dX4_ticks_22 : decode cX4_ticks 22 = .ok (.aload_n 0, 1) := by decide +kernel
theorem dX4_ticks_23 : decode cX4_ticks 23 = .ok (.iconst 0, 1) := by decide +kernel
theorem dX4_ticks_24 : decode cX4_ticks 24 = .ok (.putfield 75, 3) := by decide +kernel
theorem dX4_ticks_27 : decode cX4_ticks 27 = .ok (.iconst 0, 1) := by decide +kernel
theorem dX4_ticks_28 : decode cX4_ticks 28 = .ok (.istore 4, 2) := by decide +kernel
theorem dX4_ticks_30 : decode cX4_ticks 30 = .ok (.iload 4, 2) := by decide +kernel
theorem dX4_ticks_32 : decode cX4_ticks 32 = .ok (.aload_n 1, 1) := by decide +kernel
theorem dX4_ticks_33 : decode cX4_ticks 33 = .ok (.iconst 0, 1) := by decide +kernel
theorem dX4_ticks_34 : decode cX4_ticks 34 = .ok (.iaload, 1) := by decide +kernel
theorem dX4_ticks_35 : decode cX4_ticks 35 = .ok (.if_icmp .ge 119, 3) := by decide +kernel
theorem dX4_ticks_38 : decode cX4_ticks 38 = .ok (.iload_n 3, 1) := by decide +kernel
theorem dX4_ticks_39 : decode cX4_ticks 39 = .ok (.iload 4, 2) := by decide +kernel
theorem dX4_ticks_41 : decode cX4_ticks 41 = .ok (.ishr, 1) := by decide +kernel
theorem dX4_ticks_42 : decode cX4_ticks 42 = .ok (.iconst 1, 1) := by decide +kernel
theorem dX4_ticks_43 : decode cX4_ticks 43 = .ok (.iand, 1) := by decide +kernel
theorem dX4_ticks_44 : decode cX4_ticks 44 = .ok (.iconst 1, 1) := by decide +kernel
theorem dX4_ticks_45 : decode cX4_ticks 45 = .ok (.if_icmp .ne 103, 3) := by decide +kernel
theorem dX4_ticks_48 : decode cX4_ticks 48 = .ok (.iload_n 2, 1) := by decide +kernel
theorem dX4_ticks_49 : decode cX4_ticks 49 = .ok (.iload 4, 2) := by decide +kernel
theorem dX4_ticks_51 : decode cX4_ticks 51 = .ok (.invokestatic 78, 3) := by decide +kernel
theorem dX4_ticks_54 : decode cX4_ticks 54 = .ok (.bipush 10, 2) := by decide +kernel
theorem dX4_ticks_56 : decode cX4_ticks 56 = .ok (.if_icmp .ge 14, 3) := by decide +kernel
theorem dX4_ticks_59 : decode cX4_ticks 59 = .ok (.iload_n 2, 1) := by decide +kernel
theorem dX4_ticks_60 : decode cX4_ticks 60 = .ok (.iload 4, 2) := by decide +kernel
theorem dX4_ticks_62 : decode cX4_ticks 62 = .ok (.invokestatic 78, 3) := by decide +kernel
theorem dX4_ticks_65 : decode cX4_ticks 65 = .ok (.iconst 1, 1) := by decide +kernel
theorem dX4_ticks_66 : decode cX4_ticks 66 = .ok (.iadd, 1) := by decide +kernel
theorem dX4_ticks_67 : decode cX4_ticks 67 = .ok (.goto 5, 3) := by decide +kernel
theorem dX4_ticks_70 : decode cX4_ticks 70 = .ok (.bipush 10, 2) := by decide +kernel
theorem dX4_ticks_72 : decode cX4_ticks 72 = .ok (.istore 5, 2) := by decide +kernel
theorem dX4_ticks_74 : decode cX4_ticks 74 = .ok (.iload_n 2, 1) := by decide +kernel
theorem dX4_ticks_75 : decode cX4_ticks 75 = .ok (.iload 4, 2) := by decide +kernel
theorem dX4_ticks_77 : decode cX4_ticks 77 = .ok (.ishr, 1) := by decide +kernel
theorem dX4_ticks_78 : decode cX4_ticks 78 = .ok (.iconst 1, 1) := by decide +kernel
theorem dX4_ticks_79 : decode cX4_ticks 79 = .ok (.iand, 1) := by decide +kernel
theorem dX4_ticks_80 : decode cX4_ticks 80 = .ok (.iconst 1, 1) := by decide +kernel
theorem dX4_ticks_81 : decode cX4_ticks 81 = .ok (.if_icmp .ne 7, 3) := by decide +kernel
theorem dX4_ticks_84 : decode cX4_ticks 84 = .ok (.iconst 1, 1) := by decide +kernel
theorem dX4_ticks_85 : decode cX4_ticks 85 = .ok (.goto 4, 3) := by decide +kernel
theorem dX4_ticks_88 : decode cX4_ticks 88 = .ok (.iconst 0, 1) := by decide +kernel
theorem dX4_ticks_89 : decode cX4_ticks 89 = .ok (.istore 6, 2) := by decide +kernel
theorem dX4_ticks_91 : decode cX4_ticks 91 = .ok (.aload_n 0, 1) := by decide +kernel
theorem dX4_ticks_92 : decode cX4_ticks 92 = .ok (.dup, 1) := by decide +kernel
theorem dX4_ticks_93 : decode cX4_ticks 93 = .ok (.getfield 72, 3) := by decide +kernel
theorem dX4_ticks_96 : decode cX4_ticks 96 = .ok (.iload 5, 2) := by decide +kernel
theorem dX4_ticks_98 : decode cX4_ticks 98 = .ok (.bipush 6, 2) := by decide +kernel
theorem dX4_ticks_100 : decode cX4_ticks 100 = .ok (.iconst 4, 1) := by decide +kernel
theorem dX4_ticks_101 : decode cX4_ticks 101 = .ok (.iload 4, 2) := by decide +kernel
theorem dX4_ticks_103 : decode cX4_ticks 103 = .ok (.imul, 1) := by decide +kernel
theorem dX4_ticks_104 : decode cX4_ticks 104 = .ok (.iadd, 1) := by decide +kernel
theorem dX4_ticks_105 : decode cX4_ticks 105 = .ok (.ishl, 1) := by decide +kernel
theorem dX4_ticks_106 : decode cX4_ticks 106 = .ok (.ior, 1) := by decide +kernel
theorem dX4_ticks_107 : decode cX4_ticks 107 = .ok (.putfield 72, 3) := by decide +kernel
theorem dX4_ticks_110 : decode cX4_ticks 110 = .ok (.aload_n 0, 1) := by decide +kernel
theorem dX4_ticks_111 : decode cX4_ticks 111 = .ok (.dup, 1) := by decide +kernel
theorem dX4_ticks_112 : decode cX4_ticks 112 = .ok (.getfield 75, 3) := by decide +kernel
theorem dX4_ticks_115 : decode cX4_ticks 115 = .ok (.iload 5, 2) := by decide +kernel
theorem dX4_ticks_117 : decode cX4_ticks 117 = .ok (.aload_n 1, 1) := by decide +kernel
theorem dX4_ticks_118 : decode cX4_ticks 118 = .ok (.iload 4, 2) := by decide +kernel
theorem dX4_ticks_120 : decode cX4_ticks 120 = .ok (.iload 6, 2) := by decide +kernel
theorem dX4_ticks_122 : decode cX4_ticks 122 = .ok (.ifCond .eq 7, 3) := by decide +kernel
theorem dX4_ticks_125 : decode cX4_ticks 125 = .ok (.iconst 3, 1) := by decide +kernel
theorem dX4_ticks_126 : decode cX4_ticks 126 = .ok (.goto 4, 3) := by decide +kernel
theorem dX4_ticks_129 : decode cX4_ticks 129 = .ok (.iconst 2, 1) := by decide +kernel
theorem dX4_ticks_130 : decode cX4_ticks 130 = .ok (.invokestatic 56, 3) := by decide +kernel
theorem dX4_ticks_133 : decode cX4_ticks 133 = .ok (.if_icmp .le 10, 3) := by decide +kernel
theorem dX4_ticks_136 : decode cX4_ticks 136 = .ok (.iconst 1, 1) := by decide +kernel
theorem dX4_ticks_137 : decode cX4_ticks 137 = .ok (.iload 4, 2) := by decide +kernel
theorem dX4_ticks_139 : decode cX4_ticks 139 = .ok (.ishl, 1) := by decide +kernel
theorem dX4_ticks_140 : decode cX4_ticks 140 = .ok (.goto 4, 3) := by decide +kernel
theorem dX4_ticks_143 : decode cX4_ticks 143 = .ok (.iconst 0, 1) := by decide +kernel
theorem dX4_ticks_144 : decode cX4_ticks 144 = .ok (.ior, 1) := by decide +kernel
theorem dX4_ticks_145 : decode cX4_ticks 145 = .ok (.putfield 75, 3) := by decide +kernel
theorem dX4_ticks_148 : decode cX4_ticks 148 = .ok (.iinc 4 1, 3) := by decide +kernel
theorem dX4_ticks_151 : decode cX4_ticks 151 = .ok (.goto (-121), 3) := by decide +kernel
theorem dX4_ticks_154 : decode cX4_ticks 154 = .ok (.return_, 1) := by decide +kernel
theorem dX4_changed_0 : decode cX4_changed 0 = .ok (.aload_n 0, 1) := by decide +kernel
theorem dX4_changed_1 : decode cX4_changed 1 = .ok (.getfield 72, 3) := by decide +kernel
theorem dX4_changed_4 : decode cX4_changed 4 = .ok (.iload_n 1, 1) := by decide +kernel
theorem dX4_changed_5 : decode cX4_changed 5 = .ok (.ixor, 1) := by decide +kernel
theorem dX4_changed_6 : decode cX4_changed 6 = .ok (.istore_n 2, 1) := by decide +kernel
theorem dX4_changed_7 : decode cX4_changed 7 = .ok (.iconst 0, 1) := by decide +kernel
theorem dX4_changed_8 : decode cX4_changed 8 = .ok (.istore_n 3, 1) := by decide +kernel
theorem dX4_changed_9 : decode cX4_changed 9 = .ok (.iload_n 3, 1) := by decide +kernel
theorem dX4_changed_10 : decode cX4_changed 10 = .ok (.bipush 6, 2) := by decide +kernel
theorem dX4_changed_12 : decode cX4_changed 12 = .ok (.if_icmp .ge 36, 3) := by decide +kernel
theorem dX4_changed_15 : decode cX4_changed 15 = .ok (.iload_n 2, 1) := by decide +kernel
theorem dX4_changed_16 : decode cX4_changed 16 = .ok (.iload_n 1, 1) := by decide +kernel
theorem dX4_changed_17 : decode cX4_changed 17 = .ok (.iload_n 3, 1) := by decide +kernel
theorem dX4_changed_18 : decode cX4_changed 18 = .ok (.ishr, 1) := by decide +kernel
theorem dX4_changed_19 : decode cX4_changed 19 = .ok (.iconst 1, 1) := by decide +kernel
theorem dX4_changed_20 : decode cX4_changed 20 = .ok (.iand, 1) := by decide +kernel
theorem dX4_changed_21 : decode cX4_changed 21 = .ok (.iconst 1, 1) := by decide +kernel
theorem dX4_changed_22 : decode cX4_changed 22 = .ok (.if_icmp .ne 17, 3) := by decide +kernel
theorem dX4_changed_25 : decode cX4_changed 25 = .ok (.bipush 15, 2) := by decide +kernel
theorem dX4_changed_27 : decode cX4_changed 27 = .ok (.bipush 6, 2) := by decide +kernel
theorem dX4_changed_29 : decode cX4_changed 29 = .ok (.iconst 4, 1) := by decide +kernel
theorem dX4_changed_30 : decode cX4_changed 30 = .ok (.iload_n 3, 1) := by decide +kernel
theorem dX4_changed_31 : decode cX4_changed 31 = .ok (.imul, 1) := by decide +kernel
theorem dX4_changed_32 : decode cX4_changed 32 = .ok (.iadd, 1) := by decide +kernel
theorem dX4_changed_33 : decode cX4_changed 33 = .ok (.ishl, 1) := by decide +kernel
theorem dX4_changed_34 : decode cX4_changed 34 = .ok (.iconst (-1), 1) := by decide +kernel
theorem dX4_changed_35 : decode cX4_changed 35 = .ok (.ixor, 1) := by decide +kernel
theorem dX4_changed_36 : decode cX4_changed 36 = .ok (.goto 4, 3) := by decide +kernel
theorem dX4_changed_39 : decode cX4_changed 39 = .ok (.iconst (-1), 1) := by decide +kernel
theorem dX4_changed_40 : decode cX4_changed 40 = .ok (.iand, 1) := by decide +kernel
theorem dX4_changed_41 : decode cX4_changed 41 = .ok (.istore_n 2, 1) := by decide +kernel
theorem dX4_changed_42 : decode cX4_changed 42 = .ok (.iinc 3 1, 3) := by decide +kernel
theorem dX4_changed_45 : decode cX4_changed 45 = .ok (.goto (-36), 3) := by decide +kernel
theorem dX4_changed_48 : decode cX4_changed 48 = .ok (.iload_n 2, 1) := by decide +kernel
theorem dX4_changed_49 : decode cX4_changed 49 = .ok (.ireturn, 1) := by decide +kernel
theorem dX4_metAt_0 : decode cX4_metAt 0 = .ok (.iload_n 1, 1) := by decide +kernel
theorem dX4_metAt_1 : decode cX4_metAt 1 = .ok (.bipush 31, 2) := by decide +kernel
theorem dX4_metAt_3 : decode cX4_metAt 3 = .ok (.imul, 1) := by decide +kernel
theorem dX4_metAt_4 : decode cX4_metAt 4 = .ok (.sipush 1023, 3) := by decide +kernel
theorem dX4_metAt_7 : decode cX4_metAt 7 = .ok (.iand, 1) := by decide +kernel
theorem dX4_metAt_8 : decode cX4_metAt 8 = .ok (.istore_n 2, 1) := by decide +kernel
theorem dX4_metAt_9 : decode cX4_metAt 9 = .ok (.iload_n 2, 1) := by decide +kernel
theorem dX4_metAt_10 : decode cX4_metAt 10 = .ok (.iload_n 1, 1) := by decide +kernel
theorem dX4_metAt_11 : decode cX4_metAt 11 = .ok (.bipush 9, 2) := by decide +kernel
theorem dX4_metAt_13 : decode cX4_metAt 13 = .ok (.ishr, 1) := by decide +kernel
theorem dX4_metAt_14 : decode cX4_metAt 14 = .ok (.ixor, 1) := by decide +kernel
theorem dX4_metAt_15 : decode cX4_metAt 15 = .ok (.iload_n 1, 1) := by decide +kernel
theorem dX4_metAt_16 : decode cX4_metAt 16 = .ok (.bipush 17, 2) := by decide +kernel
theorem dX4_metAt_18 : decode cX4_metAt 18 = .ok (.ishr, 1) := by decide +kernel
theorem dX4_metAt_19 : decode cX4_metAt 19 = .ok (.ixor, 1) := by decide +kernel
theorem dX4_metAt_20 : decode cX4_metAt 20 = .ok (.sipush 1023, 3) := by decide +kernel
theorem dX4_metAt_23 : decode cX4_metAt 23 = .ok (.iand, 1) := by decide +kernel
theorem dX4_metAt_24 : decode cX4_metAt 24 = .ok (.istore_n 2, 1) := by decide +kernel
theorem dX4_metAt_25 : decode cX4_metAt 25 = .ok (.aload_n 0, 1) := by decide +kernel
theorem dX4_metAt_26 : decode cX4_metAt 26 = .ok (.getfield 26, 3) := by decide +kernel
theorem dX4_metAt_29 : decode cX4_metAt 29 = .ok (.iload_n 2, 1) := by decide +kernel
theorem dX4_metAt_30 : decode cX4_metAt 30 = .ok (.iaload, 1) := by decide +kernel
theorem dX4_metAt_31 : decode cX4_metAt 31 = .ok (.ifCond .le 31, 3) := by decide +kernel
theorem dX4_metAt_34 : decode cX4_metAt 34 = .ok (.aload_n 0, 1) := by decide +kernel
theorem dX4_metAt_35 : decode cX4_metAt 35 = .ok (.getfield 23, 3) := by decide +kernel
theorem dX4_metAt_38 : decode cX4_metAt 38 = .ok (.aload_n 0, 1) := by decide +kernel
theorem dX4_metAt_39 : decode cX4_metAt 39 = .ok (.getfield 26, 3) := by decide +kernel
theorem dX4_metAt_42 : decode cX4_metAt 42 = .ok (.iload_n 2, 1) := by decide +kernel
theorem dX4_metAt_43 : decode cX4_metAt 43 = .ok (.iaload, 1) := by decide +kernel
theorem dX4_metAt_44 : decode cX4_metAt 44 = .ok (.iconst 1, 1) := by decide +kernel
theorem dX4_metAt_45 : decode cX4_metAt 45 = .ok (.isub, 1) := by decide +kernel
theorem dX4_metAt_46 : decode cX4_metAt 46 = .ok (.iaload, 1) := by decide +kernel
theorem dX4_metAt_47 : decode cX4_metAt 47 = .ok (.iload_n 1, 1) := by decide +kernel
theorem dX4_metAt_48 : decode cX4_metAt 48 = .ok (.if_icmp .eq 14, 3) := by decide +kernel
theorem dX4_metAt_51 : decode cX4_metAt 51 = .ok (.iload_n 2, 1) := by decide +kernel
theorem dX4_metAt_52 : decode cX4_metAt 52 = .ok (.iconst 1, 1) := by decide +kernel
theorem dX4_metAt_53 : decode cX4_metAt 53 = .ok (.iadd, 1) := by decide +kernel
theorem dX4_metAt_54 : decode cX4_metAt 54 = .ok (.sipush 1023, 3) := by decide +kernel
theorem dX4_metAt_57 : decode cX4_metAt 57 = .ok (.iand, 1) := by decide +kernel
theorem dX4_metAt_58 : decode cX4_metAt 58 = .ok (.istore_n 2, 1) := by decide +kernel
theorem dX4_metAt_59 : decode cX4_metAt 59 = .ok (.goto (-34), 3) := by decide +kernel
theorem dX4_metAt_62 : decode cX4_metAt 62 = .ok (.aload_n 0, 1) := by decide +kernel
theorem dX4_metAt_63 : decode cX4_metAt 63 = .ok (.getfield 26, 3) := by decide +kernel
theorem dX4_metAt_66 : decode cX4_metAt 66 = .ok (.iload_n 2, 1) := by decide +kernel
theorem dX4_metAt_67 : decode cX4_metAt 67 = .ok (.iaload, 1) := by decide +kernel
theorem dX4_metAt_68 : decode cX4_metAt 68 = .ok (.ifCond .ne 53, 3) := by decide +kernel
theorem dX4_metAt_71 : decode cX4_metAt 71 = .ok (.aload_n 0, 1) := by decide +kernel
theorem dX4_metAt_72 : decode cX4_metAt 72 = .ok (.getfield 23, 3) := by decide +kernel
theorem dX4_metAt_75 : decode cX4_metAt 75 = .ok (.aload_n 0, 1) := by decide +kernel
theorem dX4_metAt_76 : decode cX4_metAt 76 = .ok (.getfield 82, 3) := by decide +kernel
theorem dX4_metAt_79 : decode cX4_metAt 79 = .ok (.iload_n 1, 1) := by decide +kernel
theorem dX4_metAt_80 : decode cX4_metAt 80 = .ok (.iastore, 1) := by decide +kernel
theorem dX4_metAt_81 : decode cX4_metAt 81 = .ok (.aload_n 0, 1) := by decide +kernel
theorem dX4_metAt_82 : decode cX4_metAt 82 = .ok (.getfield 35, 3) := by decide +kernel
theorem dX4_metAt_85 : decode cX4_metAt 85 = .ok (.aload_n 0, 1) := by decide +kernel
theorem dX4_metAt_86 : decode cX4_metAt 86 = .ok (.getfield 82, 3) := by decide +kernel
theorem dX4_metAt_89 : decode cX4_metAt 89 = .ok (.iconst 0, 1) := by decide +kernel
theorem dX4_metAt_90 : decode cX4_metAt 90 = .ok (.iastore, 1) := by decide +kernel
theorem dX4_metAt_91 : decode cX4_metAt 91 = .ok (.aload_n 0, 1) := by decide +kernel
theorem dX4_metAt_92 : decode cX4_metAt 92 = .ok (.getfield 32, 3) := by decide +kernel
theorem dX4_metAt_95 : decode cX4_metAt 95 = .ok (.aload_n 0, 1) := by decide +kernel
theorem dX4_metAt_96 : decode cX4_metAt 96 = .ok (.getfield 82, 3) := by decide +kernel
theorem dX4_metAt_99 : decode cX4_metAt 99 = .ok (.iconst 0, 1) := by decide +kernel
theorem dX4_metAt_100 : decode cX4_metAt 100 = .ok (.iastore, 1) := by decide +kernel
theorem dX4_metAt_101 : decode cX4_metAt 101 = .ok (.aload_n 0, 1) := by decide +kernel
theorem dX4_metAt_102 : decode cX4_metAt 102 = .ok (.dup, 1) := by decide +kernel
theorem dX4_metAt_103 : decode cX4_metAt 103 = .ok (.getfield 82, 3) := by decide +kernel
theorem dX4_metAt_106 : decode cX4_metAt 106 = .ok (.iconst 1, 1) := by decide +kernel
theorem dX4_metAt_107 : decode cX4_metAt 107 = .ok (.iadd, 1) := by decide +kernel
theorem dX4_metAt_108 : decode cX4_metAt 108 = .ok (.putfield 82, 3) := by decide +kernel
theorem dX4_metAt_111 : decode cX4_metAt 111 = .ok (.aload_n 0, 1) := by decide +kernel
theorem dX4_metAt_112 : decode cX4_metAt 112 = .ok (.getfield 26, 3) := by decide +kernel
theorem dX4_metAt_115 : decode cX4_metAt 115 = .ok (.iload_n 2, 1) := by decide +kernel
theorem dX4_metAt_116 : decode cX4_metAt 116 = .ok (.aload_n 0, 1) := by decide +kernel
theorem dX4_metAt_117 : decode cX4_metAt 117 = .ok (.getfield 82, 3) := by decide +kernel
theorem dX4_metAt_120 : decode cX4_metAt 120 = .ok (.iastore, 1) := by decide +kernel
theorem dX4_metAt_121 : decode cX4_metAt 121 = .ok (.aload_n 0, 1) := by decide +kernel
theorem dX4_metAt_122 : decode cX4_metAt 122 = .ok (.getfield 26, 3) := by decide +kernel
theorem dX4_metAt_125 : decode cX4_metAt 125 = .ok (.iload_n 2, 1) := by decide +kernel
theorem dX4_metAt_126 : decode cX4_metAt 126 = .ok (.iaload, 1) := by decide +kernel
theorem dX4_metAt_127 : decode cX4_metAt 127 = .ok (.iconst 1, 1) := by decide +kernel
theorem dX4_metAt_128 : decode cX4_metAt 128 = .ok (.isub, 1) := by decide +kernel
theorem dX4_metAt_129 : decode cX4_metAt 129 = .ok (.ireturn, 1) := by decide +kernel
set_option maxRecDepth 20000 in
theorem ggX4_laysWay_X4_metAt : GoodIn wsX4_laysWay wsX4_metAt := goodIn_r _ [9, 10, 11, 1, 4, 3, 12, 13, 14, 15, 16, 17, 18, 19, 20, 21, 22, 23, 24, 25, 26, 27, 28, 29, 30, 31, 32, 33, 34, 35, 36, 37, 38, 39] (by decide +kernel) (by decide +kernel)
set_option maxRecDepth 20000 in
theorem gX4_laysWay_X4_metAt : GoodIn wsX4_laysWay (wsV RX4 85 RX4 yX4_metAt wsX4_metAt) := goodIn_app (goodIn_of _ (by decide +kernel)) ggX4_laysWay_X4_metAt
theorem dX4_laysWay_0 : decode cX4_laysWay 0 = .ok (.aload_n 0, 1) := by decide +kernel
theorem dX4_laysWay_1 : decode cX4_laysWay 1 = .ok (.getfield 82, 3) := by decide +kernel
theorem dX4_laysWay_4 : decode cX4_laysWay 4 = .ok (.sipush 300, 3) := by decide +kernel
theorem dX4_laysWay_7 : decode cX4_laysWay 7 = .ok (.if_icmp .gt 46, 3) := by decide +kernel
theorem dX4_laysWay_10 : decode cX4_laysWay 10 = .ok (.aload_n 0, 1) := by decide +kernel
theorem dX4_laysWay_11 : decode cX4_laysWay 11 = .ok (.iload_n 2, 1) := by decide +kernel
theorem dX4_laysWay_12 : decode cX4_laysWay 12 = .ok (.invokevirtual 85, 3) := by decide +kernel
theorem dX4_laysWay_15 : decode cX4_laysWay 15 = .ok (.istore_n 3, 1) := by decide +kernel
theorem dX4_laysWay_16 : decode cX4_laysWay 16 = .ok (.aload_n 0, 1) := by decide +kernel
theorem dX4_laysWay_17 : decode cX4_laysWay 17 = .ok (.getfield 29, 3) := by decide +kernel
theorem dX4_laysWay_20 : decode cX4_laysWay 20 = .ok (.bipush 7, 2) := by decide +kernel
theorem dX4_laysWay_22 : decode cX4_laysWay 22 = .ok (.iload_n 1, 1) := by decide +kernel
theorem dX4_laysWay_23 : decode cX4_laysWay 23 = .ok (.imul, 1) := by decide +kernel
theorem dX4_laysWay_24 : decode cX4_laysWay 24 = .ok (.aload_n 0, 1) := by decide +kernel
theorem dX4_laysWay_25 : decode cX4_laysWay 25 = .ok (.getfield 32, 3) := by decide +kernel
theorem dX4_laysWay_28 : decode cX4_laysWay 28 = .ok (.iload_n 1, 1) := by decide +kernel
theorem dX4_laysWay_29 : decode cX4_laysWay 29 = .ok (.iaload, 1) := by decide +kernel
theorem dX4_laysWay_30 : decode cX4_laysWay 30 = .ok (.iadd, 1) := by decide +kernel
theorem dX4_laysWay_31 : decode cX4_laysWay 31 = .ok (.iload_n 3, 1) := by decide +kernel
theorem dX4_laysWay_32 : decode cX4_laysWay 32 = .ok (.iastore, 1) := by decide +kernel
theorem dX4_laysWay_33 : decode cX4_laysWay 33 = .ok (.aload_n 0, 1) := by decide +kernel
theorem dX4_laysWay_34 : decode cX4_laysWay 34 = .ok (.getfield 32, 3) := by decide +kernel
theorem dX4_laysWay_37 : decode cX4_laysWay 37 = .ok (.iload_n 1, 1) := by decide +kernel
theorem dX4_laysWay_38 : decode cX4_laysWay 38 = .ok (.dup2, 1) := by decide +kernel
theorem dX4_laysWay_39 : decode cX4_laysWay 39 = .ok (.iaload, 1) := by decide +kernel
theorem dX4_laysWay_40 : decode cX4_laysWay 40 = .ok (.iconst 1, 1) := by decide +kernel
theorem dX4_laysWay_41 : decode cX4_laysWay 41 = .ok (.iadd, 1) := by decide +kernel
theorem dX4_laysWay_42 : decode cX4_laysWay 42 = .ok (.iastore, 1) := by decide +kernel
theorem dX4_laysWay_43 : decode cX4_laysWay 43 = .ok (.aload_n 0, 1) := by decide +kernel
theorem dX4_laysWay_44 : decode cX4_laysWay 44 = .ok (.getfield 35, 3) := by decide +kernel
theorem dX4_laysWay_47 : decode cX4_laysWay 47 = .ok (.iload_n 3, 1) := by decide +kernel
theorem dX4_laysWay_48 : decode cX4_laysWay 48 = .ok (.dup2, 1) := by decide +kernel
theorem dX4_laysWay_49 : decode cX4_laysWay 49 = .ok (.iaload, 1) := by decide +kernel
theorem dX4_laysWay_50 : decode cX4_laysWay 50 = .ok (.iconst 1, 1) := by decide +kernel
theorem dX4_laysWay_51 : decode cX4_laysWay 51 = .ok (.iadd, 1) := by decide +kernel
theorem dX4_laysWay_52 : decode cX4_laysWay 52 = .ok (.iastore, 1) := by decide +kernel
theorem dX4_laysWay_53 : decode cX4_laysWay 53 = .ok (.return_, 1) := by decide +kernel
set_option maxRecDepth 20000 in
theorem ggX4_laysWays_X4_isQuiet : GoodIn wsX4_laysWays wsX4_isQuiet := goodIn_r _ [7, 8, 9, 6, 10, 11, 12, 13, 14, 15, 16, 17, 18, 19] (by decide +kernel) (by decide +kernel)
set_option maxRecDepth 20000 in
theorem gX4_laysWays_X4_isQuiet : GoodIn wsX4_laysWays (va_wsS RX4 88 yX4_isQuiet wsX4_isQuiet) := goodIn_app (goodIn_of _ (by decide +kernel)) ggX4_laysWays_X4_isQuiet
set_option maxRecDepth 20000 in
theorem ggX4_laysWays_X4_ticks : GoodIn wsX4_laysWays wsX4_ticks := goodIn_r _ [23, 3, 2, 8, 9, 6, 10, 11, 12, 13, 14, 15, 16, 17, 18, 19, 24, 25, 26, 47, 48, 49, 50, 51, 52, 53, 54, 55, 56, 57, 58, 59, 60, 61, 62, 63, 64, 65, 66, 67, 68, 69, 70, 71, 72, 73, 74] (by decide +kernel) (by decide +kernel)
set_option maxRecDepth 20000 in
theorem gX4_laysWays_X4_ticks : GoodIn wsX4_laysWays (wsV RX4 92 RX4 yX4_ticks wsX4_ticks) := goodIn_app (goodIn_of _ (by decide +kernel)) ggX4_laysWays_X4_ticks
set_option maxRecDepth 20000 in
theorem ggX4_laysWays_X4_changed : GoodIn wsX4_laysWays wsX4_changed := goodIn_r _ [30, 3, 47, 48, 49, 50, 51, 52, 53, 54, 55, 56, 57, 58, 59, 60, 61, 62, 63, 64, 65, 66, 67, 68, 69, 70, 71, 72, 73, 74] (by decide +kernel) (by decide +kernel)
set_option maxRecDepth 20000 in
theorem gX4_laysWays_X4_changed : GoodIn wsX4_laysWays (wsV RX4 96 RX4 yX4_changed wsX4_changed) := goodIn_app (goodIn_of _ (by decide +kernel)) ggX4_laysWays_X4_changed
set_option maxRecDepth 20000 in
theorem ggX4_laysWays_X4_laysWay : GoodIn wsX4_laysWays wsX4_laysWay := goodIn_r _ [34, 35, 36, 37, 38, 39, 40, 41, 6, 42, 43, 1, 47, 48, 49, 50, 51, 52, 53, 54, 55, 56, 57, 58, 59, 60, 61, 62, 63, 64, 65, 66, 67, 68, 69, 70, 71, 72, 73, 74] (by decide +kernel) (by decide +kernel)
set_option maxRecDepth 20000 in
theorem gX4_laysWays_X4_laysWay : GoodIn wsX4_laysWays (wsV RX4 99 RX4 yX4_laysWay wsX4_laysWay) := goodIn_app (goodIn_of _ (by decide +kernel)) ggX4_laysWays_X4_laysWay
set_option maxRecDepth 20000 in
theorem ggX4_laysWays_X4_ones : GoodIn wsX4_laysWays wsX4_ones := goodIn_r _ [46] (by decide +kernel) (by decide +kernel)
set_option maxRecDepth 20000 in
theorem gX4_laysWays_X4_ones : GoodIn wsX4_laysWays (va_wsS RX4 103 yX4_ones wsX4_ones) := goodIn_app (goodIn_of _ (by decide +kernel)) ggX4_laysWays_X4_ones
theorem dX4_laysWays_0 : decode cX4_laysWays 0 = .ok (.aload_n 0, 1) := by decide +kernel
theorem dX4_laysWays_1 : decode cX4_laysWays 1 = .ok (.getfield 23, 3) := by decide +kernel
theorem dX4_laysWays_4 : decode cX4_laysWays 4 = .ok (.iload_n 2, 1) := by decide +kernel
theorem dX4_laysWays_5 : decode cX4_laysWays 5 = .ok (.iaload, 1) := by decide +kernel
theorem dX4_laysWays_6 : decode cX4_laysWays 6 = .ok (.istore_n 3, 1) := by decide +kernel
theorem dX4_laysWays_7 : decode cX4_laysWays 7 = .ok (.aload_n 1, 1) := by decide +kernel
theorem dX4_laysWays_8 : decode cX4_laysWays 8 = .ok (.iload_n 3, 1) := by decide +kernel
theorem dX4_laysWays_9 : decode cX4_laysWays 9 = .ok (.invokestatic 88, 3) := by decide +kernel
theorem dX4_laysWays_12 : decode cX4_laysWays 12 = .ok (.ifCond .eq 4, 3) := by decide +kernel
theorem dX4_laysWays_15 : decode cX4_laysWays 15 = .ok (.return_, 1) := by decide +kernel
theorem dX4_laysWays_16 : decode cX4_laysWays 16 = .ok (.aload_n 0, 1) := by decide +kernel
theorem dX4_laysWays_17 : decode cX4_laysWays 17 = .ok (.aload_n 1, 1) := by decide +kernel
theorem dX4_laysWays_18 : decode cX4_laysWays 18 = .ok (.iload_n 3, 1) := by decide +kernel
theorem dX4_laysWays_19 : decode cX4_laysWays 19 = .ok (.invokevirtual 92, 3) := by decide +kernel
theorem dX4_laysWays_22 : decode cX4_laysWays 22 = .ok (.aload_n 0, 1) := by decide +kernel
theorem dX4_laysWays_23 : decode cX4_laysWays 23 = .ok (.getfield 75, 3) := by decide +kernel
theorem dX4_laysWays_26 : decode cX4_laysWays 26 = .ok (.istore 4, 2) := by decide +kernel
theorem dX4_laysWays_28 : decode cX4_laysWays 28 = .ok (.aload_n 0, 1) := by decide +kernel
theorem dX4_laysWays_29 : decode cX4_laysWays 29 = .ok (.getfield 72, 3) := by decide +kernel
theorem dX4_laysWays_32 : decode cX4_laysWays 32 = .ok (.istore 5, 2) := by decide +kernel
theorem dX4_laysWays_34 : decode cX4_laysWays 34 = .ok (.aload_n 0, 1) := by decide +kernel
theorem dX4_laysWays_35 : decode cX4_laysWays 35 = .ok (.iload_n 2, 1) := by decide +kernel
theorem dX4_laysWays_36 : decode cX4_laysWays 36 = .ok (.aload_n 0, 1) := by decide +kernel
theorem dX4_laysWays_37 : decode cX4_laysWays 37 = .ok (.iload 4, 2) := by decide +kernel
theorem dX4_laysWays_39 : decode cX4_laysWays 39 = .ok (.invokevirtual 96, 3) := by decide +kernel
theorem dX4_laysWays_42 : decode cX4_laysWays 42 = .ok (.invokevirtual 99, 3) := by decide +kernel
theorem dX4_laysWays_45 : decode cX4_laysWays 45 = .ok (.iconst 0, 1) := by decide +kernel
theorem dX4_laysWays_46 : decode cX4_laysWays 46 = .ok (.istore 6, 2) := by decide +kernel
theorem dX4_laysWays_48 : decode cX4_laysWays 48 = .ok (.iload 6, 2) := by decide +kernel
theorem dX4_laysWays_50 : decode cX4_laysWays 50 = .ok (.bipush 6, 2) := by decide +kernel
theorem dX4_laysWays_52 : decode cX4_laysWays 52 = .ok (.if_icmp .ge 48, 3) := by decide +kernel
theorem dX4_laysWays_55 : decode cX4_laysWays 55 = .ok (.iload 4, 2) := by decide +kernel
theorem dX4_laysWays_57 : decode cX4_laysWays 57 = .ok (.invokestatic 103, 3) := by decide +kernel
theorem dX4_laysWays_60 : decode cX4_laysWays 60 = .ok (.iconst 1, 1) := by decide +kernel
theorem dX4_laysWays_61 : decode cX4_laysWays 61 = .ok (.if_icmp .le 39, 3) := by decide +kernel
theorem dX4_laysWays_64 : decode cX4_laysWays 64 = .ok (.aload_n 0, 1) := by decide +kernel
theorem dX4_laysWays_65 : decode cX4_laysWays 65 = .ok (.iload 5, 2) := by decide +kernel
theorem dX4_laysWays_67 : decode cX4_laysWays 67 = .ok (.putfield 72, 3) := by decide +kernel
theorem dX4_laysWays_70 : decode cX4_laysWays 70 = .ok (.iload 4, 2) := by decide +kernel
theorem dX4_laysWays_72 : decode cX4_laysWays 72 = .ok (.iload 6, 2) := by decide +kernel
theorem dX4_laysWays_74 : decode cX4_laysWays 74 = .ok (.ishr, 1) := by decide +kernel
theorem dX4_laysWays_75 : decode cX4_laysWays 75 = .ok (.iconst 1, 1) := by decide +kernel
theorem dX4_laysWays_76 : decode cX4_laysWays 76 = .ok (.iand, 1) := by decide +kernel
theorem dX4_laysWays_77 : decode cX4_laysWays 77 = .ok (.iconst 1, 1) := by decide +kernel
theorem dX4_laysWays_78 : decode cX4_laysWays 78 = .ok (.if_icmp .ne 16, 3) := by decide +kernel
theorem dX4_laysWays_81 : decode cX4_laysWays 81 = .ok (.aload_n 0, 1) := by decide +kernel
theorem dX4_laysWays_82 : decode cX4_laysWays 82 = .ok (.iload_n 2, 1) := by decide +kernel
theorem dX4_laysWays_83 : decode cX4_laysWays 83 = .ok (.aload_n 0, 1) := by decide +kernel
theorem dX4_laysWays_84 : decode cX4_laysWays 84 = .ok (.iconst 1, 1) := by decide +kernel
theorem dX4_laysWays_85 : decode cX4_laysWays 85 = .ok (.iload 6, 2) := by decide +kernel
theorem dX4_laysWays_87 : decode cX4_laysWays 87 = .ok (.ishl, 1) := by decide +kernel
theorem dX4_laysWays_88 : decode cX4_laysWays 88 = .ok (.invokevirtual 96, 3) := by decide +kernel
theorem dX4_laysWays_91 : decode cX4_laysWays 91 = .ok (.invokevirtual 99, 3) := by decide +kernel
theorem dX4_laysWays_94 : decode cX4_laysWays 94 = .ok (.iinc 6 1, 3) := by decide +kernel
theorem dX4_laysWays_97 : decode cX4_laysWays 97 = .ok (.goto (-49), 3) := by decide +kernel
theorem dX4_laysWays_100 : decode cX4_laysWays 100 = .ok (.return_, 1) := by decide +kernel
theorem dX4_hasWheel_0 : decode cX4_hasWheel 0 = .ok (.iconst 0, 1) := by decide +kernel
theorem dX4_hasWheel_1 : decode cX4_hasWheel 1 = .ok (.istore_n 1, 1) := by decide +kernel
theorem dX4_hasWheel_2 : decode cX4_hasWheel 2 = .ok (.iconst 0, 1) := by decide +kernel
theorem dX4_hasWheel_3 : decode cX4_hasWheel 3 = .ok (.istore_n 2, 1) := by decide +kernel
theorem dX4_hasWheel_4 : decode cX4_hasWheel 4 = .ok (.iload_n 2, 1) := by decide +kernel
theorem dX4_hasWheel_5 : decode cX4_hasWheel 5 = .ok (.aload_n 0, 1) := by decide +kernel
theorem dX4_hasWheel_6 : decode cX4_hasWheel 6 = .ok (.getfield 82, 3) := by decide +kernel
theorem dX4_hasWheel_9 : decode cX4_hasWheel 9 = .ok (.if_icmp .ge 28, 3) := by decide +kernel
theorem dX4_hasWheel_12 : decode cX4_hasWheel 12 = .ok (.aload_n 0, 1) := by decide +kernel
theorem dX4_hasWheel_13 : decode cX4_hasWheel 13 = .ok (.getfield 35, 3) := by decide +kernel
theorem dX4_hasWheel_16 : decode cX4_hasWheel 16 = .ok (.iload_n 2, 1) := by decide +kernel
theorem dX4_hasWheel_17 : decode cX4_hasWheel 17 = .ok (.iaload, 1) := by decide +kernel
theorem dX4_hasWheel_18 : decode cX4_hasWheel 18 = .ok (.ifCond .ne 13, 3) := by decide +kernel
theorem dX4_hasWheel_21 : decode cX4_hasWheel 21 = .ok (.aload_n 0, 1) := by decide +kernel
theorem dX4_hasWheel_22 : decode cX4_hasWheel 22 = .ok (.getfield 26, 3) := by decide +kernel
theorem dX4_hasWheel_25 : decode cX4_hasWheel 25 = .ok (.iload_n 1, 1) := by decide +kernel
theorem dX4_hasWheel_26 : decode cX4_hasWheel 26 = .ok (.iload_n 2, 1) := by decide +kernel
theorem dX4_hasWheel_27 : decode cX4_hasWheel 27 = .ok (.iastore, 1) := by decide +kernel
theorem dX4_hasWheel_28 : decode cX4_hasWheel 28 = .ok (.iinc 1 1, 3) := by decide +kernel
theorem dX4_hasWheel_31 : decode cX4_hasWheel 31 = .ok (.iinc 2 1, 3) := by decide +kernel
theorem dX4_hasWheel_34 : decode cX4_hasWheel 34 = .ok (.goto (-30), 3) := by decide +kernel
theorem dX4_hasWheel_37 : decode cX4_hasWheel 37 = .ok (.iconst 0, 1) := by decide +kernel
theorem dX4_hasWheel_38 : decode cX4_hasWheel 38 = .ok (.istore_n 2, 1) := by decide +kernel
theorem dX4_hasWheel_39 : decode cX4_hasWheel 39 = .ok (.iload_n 2, 1) := by decide +kernel
theorem dX4_hasWheel_40 : decode cX4_hasWheel 40 = .ok (.iload_n 1, 1) := by decide +kernel
theorem dX4_hasWheel_41 : decode cX4_hasWheel 41 = .ok (.if_icmp .ge 82, 3) := by decide +kernel
theorem dX4_hasWheel_44 : decode cX4_hasWheel 44 = .ok (.aload_n 0, 1) := by decide +kernel
theorem dX4_hasWheel_45 : decode cX4_hasWheel 45 = .ok (.getfield 26, 3) := by decide +kernel
theorem dX4_hasWheel_48 : decode cX4_hasWheel 48 = .ok (.iload_n 2, 1) := by decide +kernel
theorem dX4_hasWheel_49 : decode cX4_hasWheel 49 = .ok (.iaload, 1) := by decide +kernel
theorem dX4_hasWheel_50 : decode cX4_hasWheel 50 = .ok (.istore_n 3, 1) := by decide +kernel
theorem dX4_hasWheel_51 : decode cX4_hasWheel 51 = .ok (.iconst 0, 1) := by decide +kernel
theorem dX4_hasWheel_52 : decode cX4_hasWheel 52 = .ok (.istore 4, 2) := by decide +kernel
theorem dX4_hasWheel_54 : decode cX4_hasWheel 54 = .ok (.iload 4, 2) := by decide +kernel
theorem dX4_hasWheel_56 : decode cX4_hasWheel 56 = .ok (.aload_n 0, 1) := by decide +kernel
theorem dX4_hasWheel_57 : decode cX4_hasWheel 57 = .ok (.getfield 32, 3) := by decide +kernel
theorem dX4_hasWheel_60 : decode cX4_hasWheel 60 = .ok (.iload_n 3, 1) := by decide +kernel
theorem dX4_hasWheel_61 : decode cX4_hasWheel 61 = .ok (.iaload, 1) := by decide +kernel
theorem dX4_hasWheel_62 : decode cX4_hasWheel 62 = .ok (.if_icmp .ge 55, 3) := by decide +kernel
theorem dX4_hasWheel_65 : decode cX4_hasWheel 65 = .ok (.aload_n 0, 1) := by decide +kernel
theorem dX4_hasWheel_66 : decode cX4_hasWheel 66 = .ok (.getfield 29, 3) := by decide +kernel
theorem dX4_hasWheel_69 : decode cX4_hasWheel 69 = .ok (.bipush 7, 2) := by decide +kernel
theorem dX4_hasWheel_71 : decode cX4_hasWheel 71 = .ok (.iload_n 3, 1) := by decide +kernel
theorem dX4_hasWheel_72 : decode cX4_hasWheel 72 = .ok (.imul, 1) := by decide +kernel
theorem dX4_hasWheel_73 : decode cX4_hasWheel 73 = .ok (.iload 4, 2) := by decide +kernel
theorem dX4_hasWheel_75 : decode cX4_hasWheel 75 = .ok (.iadd, 1) := by decide +kernel
theorem dX4_hasWheel_76 : decode cX4_hasWheel 76 = .ok (.iaload, 1) := by decide +kernel
theorem dX4_hasWheel_77 : decode cX4_hasWheel 77 = .ok (.istore 5, 2) := by decide +kernel
theorem dX4_hasWheel_79 : decode cX4_hasWheel 79 = .ok (.aload_n 0, 1) := by decide +kernel
theorem dX4_hasWheel_80 : decode cX4_hasWheel 80 = .ok (.getfield 35, 3) := by decide +kernel
theorem dX4_hasWheel_83 : decode cX4_hasWheel 83 = .ok (.iload 5, 2) := by decide +kernel
theorem dX4_hasWheel_85 : decode cX4_hasWheel 85 = .ok (.dup2, 1) := by decide +kernel
theorem dX4_hasWheel_86 : decode cX4_hasWheel 86 = .ok (.iaload, 1) := by decide +kernel
theorem dX4_hasWheel_87 : decode cX4_hasWheel 87 = .ok (.iconst 1, 1) := by decide +kernel
theorem dX4_hasWheel_88 : decode cX4_hasWheel 88 = .ok (.isub, 1) := by decide +kernel
theorem dX4_hasWheel_89 : decode cX4_hasWheel 89 = .ok (.iastore, 1) := by decide +kernel
theorem dX4_hasWheel_90 : decode cX4_hasWheel 90 = .ok (.aload_n 0, 1) := by decide +kernel
theorem dX4_hasWheel_91 : decode cX4_hasWheel 91 = .ok (.getfield 35, 3) := by decide +kernel
theorem dX4_hasWheel_94 : decode cX4_hasWheel 94 = .ok (.iload 5, 2) := by decide +kernel
theorem dX4_hasWheel_96 : decode cX4_hasWheel 96 = .ok (.iaload, 1) := by decide +kernel
theorem dX4_hasWheel_97 : decode cX4_hasWheel 97 = .ok (.ifCond .ne 14, 3) := by decide +kernel
theorem dX4_hasWheel_100 : decode cX4_hasWheel 100 = .ok (.aload_n 0, 1) := by decide +kernel
theorem dX4_hasWheel_101 : decode cX4_hasWheel 101 = .ok (.getfield 26, 3) := by decide +kernel
theorem dX4_hasWheel_104 : decode cX4_hasWheel 104 = .ok (.iload_n 1, 1) := by decide +kernel
theorem dX4_hasWheel_105 : decode cX4_hasWheel 105 = .ok (.iload 5, 2) := by decide +kernel
theorem dX4_hasWheel_107 : decode cX4_hasWheel 107 = .ok (.iastore, 1) := by decide +kernel
theorem dX4_hasWheel_108 : decode cX4_hasWheel 108 = .ok (.iinc 1 1, 3) := by decide +kernel
theorem dX4_hasWheel_111 : decode cX4_hasWheel 111 = .ok (.iinc 4 1, 3) := by decide +kernel
theorem dX4_hasWheel_114 : decode cX4_hasWheel 114 = .ok (.goto (-60), 3) := by decide +kernel
theorem dX4_hasWheel_117 : decode cX4_hasWheel 117 = .ok (.iinc 2 1, 3) := by decide +kernel
theorem dX4_hasWheel_120 : decode cX4_hasWheel 120 = .ok (.goto (-81), 3) := by decide +kernel
theorem dX4_hasWheel_123 : decode cX4_hasWheel 123 = .ok (.iload_n 1, 1) := by decide +kernel
theorem dX4_hasWheel_124 : decode cX4_hasWheel 124 = .ok (.aload_n 0, 1) := by decide +kernel
theorem dX4_hasWheel_125 : decode cX4_hasWheel 125 = .ok (.getfield 82, 3) := by decide +kernel
theorem dX4_hasWheel_128 : decode cX4_hasWheel 128 = .ok (.if_icmp .ge 7, 3) := by decide +kernel
theorem dX4_hasWheel_131 : decode cX4_hasWheel 131 = .ok (.iconst 1, 1) := by decide +kernel
theorem dX4_hasWheel_132 : decode cX4_hasWheel 132 = .ok (.goto 4, 3) := by decide +kernel
theorem dX4_hasWheel_135 : decode cX4_hasWheel 135 = .ok (.iconst 0, 1) := by decide +kernel
theorem dX4_hasWheel_136 : decode cX4_hasWheel 136 = .ok (.ireturn, 1) := by decide +kernel
set_option maxRecDepth 20000 in
theorem ggX4_looksAtRests_X4_upOf : GoodIn wsX4_looksAtRests wsX4_upOf := goodIn_r _ [9] (by decide +kernel) (by decide +kernel)
set_option maxRecDepth 20000 in
theorem gX4_looksAtRests_X4_upOf : GoodIn wsX4_looksAtRests (va_wsS RX4 64 yX4_upOf wsX4_upOf) := goodIn_app (goodIn_of _ (by decide +kernel)) ggX4_looksAtRests_X4_upOf
set_option maxRecDepth 20000 in
theorem ggX4_looksAtRests_X4_isQuiet : GoodIn wsX4_looksAtRests wsX4_isQuiet := goodIn_r _ [12, 6, 7, 8, 9, 13, 14, 15, 16, 17, 18, 19, 20, 21] (by decide +kernel) (by decide +kernel)
set_option maxRecDepth 20000 in
theorem gX4_looksAtRests_X4_isQuiet : GoodIn wsX4_looksAtRests (va_wsS RX4 88 yX4_isQuiet wsX4_isQuiet) := goodIn_app (goodIn_of _ (by decide +kernel)) ggX4_looksAtRests_X4_isQuiet
theorem dX4_looksAtRests_0 : decode cX4_looksAtRests 0 = .ok (.lconst 0, 1) := by decide +kernel
theorem dX4_looksAtRests_1 : decode cX4_looksAtRests 1 = .ok (.lstore_n 2, 1) := by decide +kernel
theorem dX4_looksAtRests_2 : decode cX4_looksAtRests 2 = .ok (.aload_n 0, 1) := by decide +kernel
theorem dX4_looksAtRests_3 : decode cX4_looksAtRests 3 = .ok (.iconst 0, 1) := by decide +kernel
theorem dX4_looksAtRests_4 : decode cX4_looksAtRests 4 = .ok (.putfield 106, 3) := by decide +kernel
theorem dX4_looksAtRests_7 : decode cX4_looksAtRests 7 = .ok (.aload_n 0, 1) := by decide +kernel
theorem dX4_looksAtRests_8 : decode cX4_looksAtRests 8 = .ok (.iconst (-1), 1) := by decide +kernel
theorem dX4_looksAtRests_9 : decode cX4_looksAtRests 9 = .ok (.putfield 109, 3) := by decide +kernel
theorem dX4_looksAtRests_12 : decode cX4_looksAtRests 12 = .ok (.aload_n 0, 1) := by decide +kernel
theorem dX4_looksAtRests_13 : decode cX4_looksAtRests 13 = .ok (.iconst (-1), 1) := by decide +kernel
theorem dX4_looksAtRests_14 : decode cX4_looksAtRests 14 = .ok (.putfield 112, 3) := by decide +kernel
theorem dX4_looksAtRests_17 : decode cX4_looksAtRests 17 = .ok (.iconst 0, 1) := by decide +kernel
theorem dX4_looksAtRests_18 : decode cX4_looksAtRests 18 = .ok (.istore 4, 2) := by decide +kernel
theorem dX4_looksAtRests_20 : decode cX4_looksAtRests 20 = .ok (.iload 4, 2) := by decide +kernel
theorem dX4_looksAtRests_22 : decode cX4_looksAtRests 22 = .ok (.aload_n 0, 1) := by decide +kernel
theorem dX4_looksAtRests_23 : decode cX4_looksAtRests 23 = .ok (.getfield 82, 3) := by decide +kernel
theorem dX4_looksAtRests_26 : decode cX4_looksAtRests 26 = .ok (.if_icmp .ge 115, 3) := by decide +kernel
theorem dX4_looksAtRests_29 : decode cX4_looksAtRests 29 = .ok (.aload_n 0, 1) := by decide +kernel
theorem dX4_looksAtRests_30 : decode cX4_looksAtRests 30 = .ok (.getfield 23, 3) := by decide +kernel
theorem dX4_looksAtRests_33 : decode cX4_looksAtRests 33 = .ok (.iload 4, 2) := by decide +kernel
theorem dX4_looksAtRests_35 : decode cX4_looksAtRests 35 = .ok (.iaload, 1) := by decide +kernel
theorem dX4_looksAtRests_36 : decode cX4_looksAtRests 36 = .ok (.invokestatic 64, 3) := by decide +kernel
theorem dX4_looksAtRests_39 : decode cX4_looksAtRests 39 = .ok (.istore 5, 2) := by decide +kernel
theorem dX4_looksAtRests_41 : decode cX4_looksAtRests 41 = .ok (.aload_n 1, 1) := by decide +kernel
theorem dX4_looksAtRests_42 : decode cX4_looksAtRests 42 = .ok (.aload_n 0, 1) := by decide +kernel
theorem dX4_looksAtRests_43 : decode cX4_looksAtRests 43 = .ok (.getfield 23, 3) := by decide +kernel
theorem dX4_looksAtRests_46 : decode cX4_looksAtRests 46 = .ok (.iload 4, 2) := by decide +kernel
theorem dX4_looksAtRests_48 : decode cX4_looksAtRests 48 = .ok (.iaload, 1) := by decide +kernel
theorem dX4_looksAtRests_49 : decode cX4_looksAtRests 49 = .ok (.invokestatic 88, 3) := by decide +kernel
theorem dX4_looksAtRests_52 : decode cX4_looksAtRests 52 = .ok (.ifCond .eq 83, 3) := by decide +kernel
theorem dX4_looksAtRests_55 : decode cX4_looksAtRests 55 = .ok (.lload_n 2, 1) := by decide +kernel
theorem dX4_looksAtRests_56 : decode cX4_looksAtRests 56 = .ok (.iload 5, 2) := by decide +kernel
theorem dX4_looksAtRests_58 : decode cX4_looksAtRests 58 = .ok (.lshr, 1) := by decide +kernel
theorem dX4_looksAtRests_59 : decode cX4_looksAtRests 59 = .ok (.lconst 1, 1) := by decide +kernel
theorem dX4_looksAtRests_60 : decode cX4_looksAtRests 60 = .ok (.land, 1) := by decide +kernel
theorem dX4_looksAtRests_61 : decode cX4_looksAtRests 61 = .ok (.lconst 0, 1) := by decide +kernel
theorem dX4_looksAtRests_62 : decode cX4_looksAtRests 62 = .ok (.lcmp, 1) := by decide +kernel
theorem dX4_looksAtRests_63 : decode cX4_looksAtRests 63 = .ok (.ifCond .ne 72, 3) := by decide +kernel
theorem dX4_looksAtRests_66 : decode cX4_looksAtRests 66 = .ok (.lload_n 2, 1) := by decide +kernel
theorem dX4_looksAtRests_67 : decode cX4_looksAtRests 67 = .ok (.lconst 1, 1) := by decide +kernel
theorem dX4_looksAtRests_68 : decode cX4_looksAtRests 68 = .ok (.iload 5, 2) := by decide +kernel
theorem dX4_looksAtRests_70 : decode cX4_looksAtRests 70 = .ok (.lshl, 1) := by decide +kernel
theorem dX4_looksAtRests_71 : decode cX4_looksAtRests 71 = .ok (.lor, 1) := by decide +kernel
theorem dX4_looksAtRests_72 : decode cX4_looksAtRests 72 = .ok (.lstore_n 2, 1) := by decide +kernel
theorem dX4_looksAtRests_73 : decode cX4_looksAtRests 73 = .ok (.aload_n 0, 1) := by decide +kernel
theorem dX4_looksAtRests_74 : decode cX4_looksAtRests 74 = .ok (.dup, 1) := by decide +kernel
theorem dX4_looksAtRests_75 : decode cX4_looksAtRests 75 = .ok (.getfield 106, 3) := by decide +kernel
theorem dX4_looksAtRests_78 : decode cX4_looksAtRests 78 = .ok (.iconst 1, 1) := by decide +kernel
theorem dX4_looksAtRests_79 : decode cX4_looksAtRests 79 = .ok (.iadd, 1) := by decide +kernel
theorem dX4_looksAtRests_80 : decode cX4_looksAtRests 80 = .ok (.putfield 106, 3) := by decide +kernel
theorem dX4_looksAtRests_83 : decode cX4_looksAtRests 83 = .ok (.aload_n 0, 1) := by decide +kernel
theorem dX4_looksAtRests_84 : decode cX4_looksAtRests 84 = .ok (.aload_n 0, 1) := by decide +kernel
theorem dX4_looksAtRests_85 : decode cX4_looksAtRests 85 = .ok (.getfield 109, 3) := by decide +kernel
theorem dX4_looksAtRests_88 : decode cX4_looksAtRests 88 = .ok (.iconst (-1), 1) := by decide +kernel
theorem dX4_looksAtRests_89 : decode cX4_looksAtRests 89 = .ok (.if_icmp .eq 12, 3) := by decide +kernel
theorem dX4_looksAtRests_92 : decode cX4_looksAtRests 92 = .ok (.iload 5, 2) := by decide +kernel
theorem dX4_looksAtRests_94 : decode cX4_looksAtRests 94 = .ok (.aload_n 0, 1) := by decide +kernel
theorem dX4_looksAtRests_95 : decode cX4_looksAtRests 95 = .ok (.getfield 109, 3) := by decide +kernel
theorem dX4_looksAtRests_98 : decode cX4_looksAtRests 98 = .ok (.if_icmp .ge 8, 3) := by decide +kernel
theorem dX4_looksAtRests_101 : decode cX4_looksAtRests 101 = .ok (.iload 5, 2) := by decide +kernel
theorem dX4_looksAtRests_103 : decode cX4_looksAtRests 103 = .ok (.goto 7, 3) := by decide +kernel
theorem dX4_looksAtRests_106 : decode cX4_looksAtRests 106 = .ok (.aload_n 0, 1) := by decide +kernel
theorem dX4_looksAtRests_107 : decode cX4_looksAtRests 107 = .ok (.getfield 109, 3) := by decide +kernel
theorem dX4_looksAtRests_110 : decode cX4_looksAtRests 110 = .ok (.putfield 109, 3) := by decide +kernel
theorem dX4_looksAtRests_113 : decode cX4_looksAtRests 113 = .ok (.aload_n 0, 1) := by decide +kernel
theorem dX4_looksAtRests_114 : decode cX4_looksAtRests 114 = .ok (.iload 5, 2) := by decide +kernel
theorem dX4_looksAtRests_116 : decode cX4_looksAtRests 116 = .ok (.aload_n 0, 1) := by decide +kernel
theorem dX4_looksAtRests_117 : decode cX4_looksAtRests 117 = .ok (.getfield 112, 3) := by decide +kernel
theorem dX4_looksAtRests_120 : decode cX4_looksAtRests 120 = .ok (.if_icmp .le 8, 3) := by decide +kernel
theorem dX4_looksAtRests_123 : decode cX4_looksAtRests 123 = .ok (.iload 5, 2) := by decide +kernel
theorem dX4_looksAtRests_125 : decode cX4_looksAtRests 125 = .ok (.goto 7, 3) := by decide +kernel
theorem dX4_looksAtRests_128 : decode cX4_looksAtRests 128 = .ok (.aload_n 0, 1) := by decide +kernel
theorem dX4_looksAtRests_129 : decode cX4_looksAtRests 129 = .ok (.getfield 112, 3) := by decide +kernel
theorem dX4_looksAtRests_132 : decode cX4_looksAtRests 132 = .ok (.putfield 112, 3) := by decide +kernel
theorem dX4_looksAtRests_135 : decode cX4_looksAtRests 135 = .ok (.iinc 4 1, 3) := by decide +kernel
theorem dX4_looksAtRests_138 : decode cX4_looksAtRests 138 = .ok (.goto (-118), 3) := by decide +kernel
theorem dX4_looksAtRests_141 : decode cX4_looksAtRests 141 = .ok (.return_, 1) := by decide +kernel
set_option maxRecDepth 20000 in
theorem ggX4_races_X4_codeOf : GoodIn wsX4_races wsX4_codeOf := goodIn_r _ [8, 9, 10, 7, 11] (by decide +kernel) (by decide +kernel)
set_option maxRecDepth 20000 in
theorem gX4_races_X4_codeOf : GoodIn wsX4_races (va_wsS RX4 115 yX4_codeOf wsX4_codeOf) := goodIn_app (goodIn_of _ (by decide +kernel)) ggX4_races_X4_codeOf
set_option maxRecDepth 20000 in
theorem ggX4_races_X4_metAt : GoodIn wsX4_races wsX4_metAt := goodIn_r _ [15, 1, 16, 2, 17, 18, 67, 68, 69, 70, 71, 72, 73, 74, 75, 76, 77, 78, 79, 80, 81, 82, 83, 84, 85, 86, 87, 88, 89, 90, 91, 92, 93, 94] (by decide +kernel) (by decide +kernel)
set_option maxRecDepth 20000 in
theorem gX4_races_X4_metAt : GoodIn wsX4_races (wsV RX4 85 RX4 yX4_metAt wsX4_metAt) := goodIn_app (goodIn_of _ (by decide +kernel)) ggX4_races_X4_metAt
set_option maxRecDepth 20000 in
theorem ggX4_races_X4_laysWays : GoodIn wsX4_races wsX4_laysWays := goodIn_r _ [22, 16, 23, 24, 25, 26, 7, 27, 28, 29, 30, 31, 32, 33, 9, 10, 11, 34, 35, 36, 37, 38, 39, 40, 41, 42, 43, 44, 45, 46, 47, 48, 49, 50, 51, 2, 52, 18, 17, 12, 13, 14, 15, 1, 53, 54, 55, 67, 68, 69, 70, 71, 72, 73, 74, 75, 76, 77, 78, 79, 80, 81, 82, 83, 84, 85, 86, 87, 88, 89, 90, 91, 92, 93, 94] (by decide +kernel) (by decide +kernel)
set_option maxRecDepth 20000 in
theorem gX4_races_X4_laysWays : GoodIn wsX4_races (wsV RX4 119 RX4 yX4_laysWays wsX4_laysWays) := goodIn_app (goodIn_of _ (by decide +kernel)) ggX4_races_X4_laysWays
set_option maxRecDepth 20000 in
theorem ggX4_races_X4_looksAtRests : GoodIn wsX4_races wsX4_looksAtRests := goodIn_r _ [59, 60, 61, 62, 2, 16, 28, 29, 7, 30, 25, 26, 27, 31, 32, 33, 9, 10, 11, 34, 35, 36, 67, 68, 69, 70, 71, 72, 73, 74, 75, 76, 77, 78, 79, 80, 81, 82, 83, 84, 85, 86, 87, 88, 89, 90, 91, 92, 93, 94] (by decide +kernel) (by decide +kernel)
set_option maxRecDepth 20000 in
theorem gX4_races_X4_looksAtRests : GoodIn wsX4_races (wsV RX4 126 RX4 yX4_looksAtRests wsX4_looksAtRests) := goodIn_app (goodIn_of _ (by decide +kernel)) ggX4_races_X4_looksAtRests
set_option maxRecDepth 20000 in
theorem ggX4_races_X4_hasWheel : GoodIn wsX4_races wsX4_hasWheel := goodIn_r _ [66, 2, 17, 1, 18, 52, 67, 68, 69, 70, 71, 72, 73, 74, 75, 76, 77, 78, 79, 80, 81, 82, 83, 84, 85, 86, 87, 88, 89, 90, 91, 92, 93, 94] (by decide +kernel) (by decide +kernel)
set_option maxRecDepth 20000 in
theorem gX4_races_X4_hasWheel : GoodIn wsX4_races (wsV RX4 130 RX4 yX4_hasWheel wsX4_hasWheel) := goodIn_app (goodIn_of _ (by decide +kernel)) ggX4_races_X4_hasWheel
theorem dX4_races_0 : decode cX4_races 0 = .ok (.iconst 0, 1) := by decide +kernel
theorem dX4_races_1 : decode cX4_races 1 = .ok (.istore_n 2, 1) := by decide +kernel
theorem dX4_races_2 : decode cX4_races 2 = .ok (.iload_n 2, 1) := by decide +kernel
theorem dX4_races_3 : decode cX4_races 3 = .ok (.sipush 1024, 3) := by decide +kernel
theorem dX4_races_6 : decode cX4_races 6 = .ok (.if_icmp .ge 16, 3) := by decide +kernel
theorem dX4_races_9 : decode cX4_races 9 = .ok (.aload_n 0, 1) := by decide +kernel
theorem dX4_races_10 : decode cX4_races 10 = .ok (.getfield 26, 3) := by decide +kernel
theorem dX4_races_13 : decode cX4_races 13 = .ok (.iload_n 2, 1) := by decide +kernel
theorem dX4_races_14 : decode cX4_races 14 = .ok (.iconst 0, 1) := by decide +kernel
theorem dX4_races_15 : decode cX4_races 15 = .ok (.iastore, 1) := by decide +kernel
theorem dX4_races_16 : decode cX4_races 16 = .ok (.iinc 2 1, 3) := by decide +kernel
theorem dX4_races_19 : decode cX4_races 19 = .ok (.goto (-17), 3) := by decide +kernel
theorem dX4_races_22 : decode cX4_races 22 = .ok (.aload_n 0, 1) := by decide +kernel
theorem dX4_races_23 : decode cX4_races 23 = .ok (.iconst 0, 1) := by decide +kernel
theorem dX4_races_24 : decode cX4_races 24 = .ok (.putfield 82, 3) := by decide +kernel
theorem dX4_races_27 : decode cX4_races 27 = .ok (.aload_n 0, 1) := by decide +kernel
theorem dX4_races_28 : decode cX4_races 28 = .ok (.aload_n 1, 1) := by decide +kernel
theorem dX4_races_29 : decode cX4_races 29 = .ok (.invokestatic 115, 3) := by decide +kernel
theorem dX4_races_32 : decode cX4_races 32 = .ok (.invokevirtual 85, 3) := by decide +kernel
theorem dX4_races_35 : decode cX4_races 35 = .ok (.istore_n 2, 1) := by decide +kernel
theorem dX4_races_36 : decode cX4_races 36 = .ok (.iload_n 2, 1) := by decide +kernel
theorem dX4_races_37 : decode cX4_races 37 = .ok (.istore_n 3, 1) := by decide +kernel
theorem dX4_races_38 : decode cX4_races 38 = .ok (.iload_n 3, 1) := by decide +kernel
theorem dX4_races_39 : decode cX4_races 39 = .ok (.aload_n 0, 1) := by decide +kernel
theorem dX4_races_40 : decode cX4_races 40 = .ok (.getfield 82, 3) := by decide +kernel
theorem dX4_races_43 : decode cX4_races 43 = .ok (.if_icmp .ge 25, 3) := by decide +kernel
theorem dX4_races_46 : decode cX4_races 46 = .ok (.aload_n 0, 1) := by decide +kernel
theorem dX4_races_47 : decode cX4_races 47 = .ok (.getfield 82, 3) := by decide +kernel
theorem dX4_races_50 : decode cX4_races 50 = .ok (.sipush 300, 3) := by decide +kernel
theorem dX4_races_53 : decode cX4_races 53 = .ok (.if_icmp .gt 15, 3) := by decide +kernel
theorem dX4_races_56 : decode cX4_races 56 = .ok (.aload_n 0, 1) := by decide +kernel
theorem dX4_races_57 : decode cX4_races 57 = .ok (.aload_n 1, 1) := by decide +kernel
theorem dX4_races_58 : decode cX4_races 58 = .ok (.iload_n 3, 1) := by decide +kernel
theorem dX4_races_59 : decode cX4_races 59 = .ok (.invokevirtual 119, 3) := by decide +kernel
theorem dX4_races_62 : decode cX4_races 62 = .ok (.iinc 3 1, 3) := by decide +kernel
theorem dX4_races_65 : decode cX4_races 65 = .ok (.goto (-27), 3) := by decide +kernel
theorem dX4_races_68 : decode cX4_races 68 = .ok (.aload_n 0, 1) := by decide +kernel
theorem dX4_races_69 : decode cX4_races 69 = .ok (.aload_n 0, 1) := by decide +kernel
theorem dX4_races_70 : decode cX4_races 70 = .ok (.getfield 82, 3) := by decide +kernel
theorem dX4_races_73 : decode cX4_races 73 = .ok (.sipush 300, 3) := by decide +kernel
theorem dX4_races_76 : decode cX4_races 76 = .ok (.if_icmp .gt 7, 3) := by decide +kernel
theorem dX4_races_79 : decode cX4_races 79 = .ok (.iconst 1, 1) := by decide +kernel
theorem dX4_races_80 : decode cX4_races 80 = .ok (.goto 4, 3) := by decide +kernel
theorem dX4_races_83 : decode cX4_races 83 = .ok (.iconst 0, 1) := by decide +kernel
theorem dX4_races_84 : decode cX4_races 84 = .ok (.putfield 122, 3) := by decide +kernel
theorem dX4_races_87 : decode cX4_races 87 = .ok (.aload_n 0, 1) := by decide +kernel
theorem dX4_races_88 : decode cX4_races 88 = .ok (.getfield 122, 3) := by decide +kernel
theorem dX4_races_91 : decode cX4_races 91 = .ok (.ifCond .eq 16, 3) := by decide +kernel
theorem dX4_races_94 : decode cX4_races 94 = .ok (.aload_n 0, 1) := by decide +kernel
theorem dX4_races_95 : decode cX4_races 95 = .ok (.aload_n 1, 1) := by decide +kernel
theorem dX4_races_96 : decode cX4_races 96 = .ok (.invokevirtual 126, 3) := by decide +kernel
theorem dX4_races_99 : decode cX4_races 99 = .ok (.aload_n 0, 1) := by decide +kernel
theorem dX4_races_100 : decode cX4_races 100 = .ok (.aload_n 0, 1) := by decide +kernel
theorem dX4_races_101 : decode cX4_races 101 = .ok (.invokevirtual 130, 3) := by decide +kernel
theorem dX4_races_104 : decode cX4_races 104 = .ok (.putfield 134, 3) := by decide +kernel
theorem dX4_races_107 : decode cX4_races 107 = .ok (.return_, 1) := by decide +kernel
theorem dX4_isCured_0 : decode cX4_isCured 0 = .ok (.aload_n 0, 1) := by decide +kernel
theorem dX4_isCured_1 : decode cX4_isCured 1 = .ok (.getfield 122, 3) := by decide +kernel
theorem dX4_isCured_4 : decode cX4_isCured 4 = .ok (.ifCond .eq 22, 3) := by decide +kernel
theorem dX4_isCured_7 : decode cX4_isCured 7 = .ok (.aload_n 0, 1) := by decide +kernel
theorem dX4_isCured_8 : decode cX4_isCured 8 = .ok (.getfield 106, 3) := by decide +kernel
theorem dX4_isCured_11 : decode cX4_isCured 11 = .ok (.iconst 1, 1) := by decide +kernel
theorem dX4_isCured_12 : decode cX4_isCured 12 = .ok (.if_icmp .ne 14, 3) := by decide +kernel
theorem dX4_isCured_15 : decode cX4_isCured 15 = .ok (.aload_n 0, 1) := by decide +kernel
theorem dX4_isCured_16 : decode cX4_isCured 16 = .ok (.getfield 134, 3) := by decide +kernel
theorem dX4_isCured_19 : decode cX4_isCured 19 = .ok (.ifCond .ne 7, 3) := by decide +kernel
theorem dX4_isCured_22 : decode cX4_isCured 22 = .ok (.iconst 1, 1) := by decide +kernel
theorem dX4_isCured_23 : decode cX4_isCured 23 = .ok (.goto 4, 3) := by decide +kernel
theorem dX4_isCured_26 : decode cX4_isCured 26 = .ok (.iconst 0, 1) := by decide +kernel
theorem dX4_isCured_27 : decode cX4_isCured 27 = .ok (.ireturn, 1) := by decide +kernel
set_option maxRecDepth 20000 in
theorem ggX4_add_X4_isTime : GoodIn wsX4_add wsX4_isTime := goodIn_r _ [5, 6, 7, 4, 8] (by decide +kernel) (by decide +kernel)
set_option maxRecDepth 20000 in
theorem gX4_add_X4_isTime : GoodIn wsX4_add (va_wsS RX4 137 yX4_isTime wsX4_isTime) := goodIn_app (goodIn_of _ (by decide +kernel)) ggX4_add_X4_isTime
set_option maxRecDepth 20000 in
theorem ggX4_add_X4_refuses : GoodIn wsX4_add wsX4_refuses := goodIn_r _ [12, 13, 23, 24, 25, 26, 27, 28, 29, 30, 31, 32, 33, 34, 35, 36, 37, 38, 39, 40, 41, 42, 43, 44, 45, 46, 47, 48, 49, 50] (by decide +kernel) (by decide +kernel)
set_option maxRecDepth 20000 in
theorem gX4_add_X4_refuses : GoodIn wsX4_add (wsV RX4 48 RX4 yX4_refuses wsX4_refuses) := goodIn_app (goodIn_of _ (by decide +kernel)) ggX4_add_X4_refuses
set_option maxRecDepth 20000 in
theorem ggX4_add_X4_saves : GoodIn wsX4_add wsX4_saves := goodIn_r _ [17, 18, 19, 1, 23, 24, 25, 26, 27, 28, 29, 30, 31, 32, 33, 34, 35, 36, 37, 38, 39, 40, 41, 42, 43, 44, 45, 46, 47, 48, 49, 50] (by decide +kernel) (by decide +kernel)
set_option maxRecDepth 20000 in
theorem gX4_add_X4_saves : GoodIn wsX4_add (wsV RX4 140 RX4 yX4_saves wsX4_saves) := goodIn_app (goodIn_of _ (by decide +kernel)) ggX4_add_X4_saves
set_option maxRecDepth 20000 in
theorem ggX4_add_X4_puts : GoodIn wsX4_add wsX4_puts := goodIn_r _ [22] (by decide +kernel) (by decide +kernel)
set_option maxRecDepth 20000 in
theorem gX4_add_X4_puts : GoodIn wsX4_add (va_wsS RX4 143 yX4_puts wsX4_puts) := goodIn_app (goodIn_of _ (by decide +kernel)) ggX4_add_X4_puts
theorem dX4_add_0 : decode cX4_add 0 = .ok (.iload_n 1, 1) := by decide +kernel
theorem dX4_add_1 : decode cX4_add 1 = .ok (.invokestatic 137, 3) := by decide +kernel
theorem dX4_add_4 : decode cX4_add 4 = .ok (.ifCond .eq 14, 3) := by decide +kernel
theorem dX4_add_7 : decode cX4_add 7 = .ok (.iload_n 2, 1) := by decide +kernel
theorem dX4_add_8 : decode cX4_add 8 = .ok (.invokestatic 137, 3) := by decide +kernel
theorem dX4_add_11 : decode cX4_add 11 = .ok (.ifCond .eq 7, 3) := by decide +kernel
theorem dX4_add_14 : decode cX4_add 14 = .ok (.iconst 1, 1) := by decide +kernel
theorem dX4_add_15 : decode cX4_add 15 = .ok (.goto 4, 3) := by decide +kernel
theorem dX4_add_18 : decode cX4_add 18 = .ok (.iconst 0, 1) := by decide +kernel
theorem dX4_add_19 : decode cX4_add 19 = .ok (.istore_n 3, 1) := by decide +kernel
theorem dX4_add_20 : decode cX4_add 20 = .ok (.aload_n 0, 1) := by decide +kernel
theorem dX4_add_21 : decode cX4_add 21 = .ok (.iload_n 3, 1) := by decide +kernel
theorem dX4_add_22 : decode cX4_add 22 = .ok (.ifCond .ne 7, 3) := by decide +kernel
theorem dX4_add_25 : decode cX4_add 25 = .ok (.iconst 1, 1) := by decide +kernel
theorem dX4_add_26 : decode cX4_add 26 = .ok (.goto 19, 3) := by decide +kernel
theorem dX4_add_29 : decode cX4_add 29 = .ok (.aload_n 0, 1) := by decide +kernel
theorem dX4_add_30 : decode cX4_add 30 = .ok (.getfield 7, 3) := by decide +kernel
theorem dX4_add_33 : decode cX4_add 33 = .ok (.iconst 0, 1) := by decide +kernel
theorem dX4_add_34 : decode cX4_add 34 = .ok (.iaload, 1) := by decide +kernel
theorem dX4_add_35 : decode cX4_add 35 = .ok (.bipush 6, 2) := by decide +kernel
theorem dX4_add_37 : decode cX4_add 37 = .ok (.if_icmp .ne 7, 3) := by decide +kernel
theorem dX4_add_40 : decode cX4_add 40 = .ok (.iconst 2, 1) := by decide +kernel
theorem dX4_add_41 : decode cX4_add 41 = .ok (.goto 4, 3) := by decide +kernel
theorem dX4_add_44 : decode cX4_add 44 = .ok (.iconst 0, 1) := by decide +kernel
theorem dX4_add_45 : decode cX4_add 45 = .ok (.invokevirtual 48, 3) := by decide +kernel
theorem dX4_add_48 : decode cX4_add 48 = .ok (.ifCond .eq 5, 3) := by decide +kernel
theorem dX4_add_51 : decode cX4_add 51 = .ok (.iconst 0, 1) := by decide +kernel
theorem dX4_add_52 : decode cX4_add 52 = .ok (.ireturn, 1) := by decide +kernel
theorem dX4_add_53 : decode cX4_add 53 = .ok (.aload_n 0, 1) := by decide +kernel
theorem dX4_add_54 : decode cX4_add 54 = .ok (.invokevirtual 140, 3) := by decide +kernel
theorem dX4_add_57 : decode cX4_add 57 = .ok (.aload_n 0, 1) := by decide +kernel
theorem dX4_add_58 : decode cX4_add 58 = .ok (.getfield 7, 3) := by decide +kernel
theorem dX4_add_61 : decode cX4_add 61 = .ok (.iconst 0, 1) := by decide +kernel
theorem dX4_add_62 : decode cX4_add 62 = .ok (.iaload, 1) := by decide +kernel
theorem dX4_add_63 : decode cX4_add 63 = .ok (.istore 4, 2) := by decide +kernel
theorem dX4_add_65 : decode cX4_add 65 = .ok (.iconst 0, 1) := by decide +kernel
theorem dX4_add_66 : decode cX4_add 66 = .ok (.istore 5, 2) := by decide +kernel
theorem dX4_add_68 : decode cX4_add 68 = .ok (.iload 5, 2) := by decide +kernel
theorem dX4_add_70 : decode cX4_add 70 = .ok (.bipush 14, 2) := by decide +kernel
theorem dX4_add_72 : decode cX4_add 72 = .ok (.if_icmp .ge 21, 3) := by decide +kernel
theorem dX4_add_75 : decode cX4_add 75 = .ok (.aload_n 0, 1) := by decide +kernel
theorem dX4_add_76 : decode cX4_add 76 = .ok (.getfield 7, 3) := by decide +kernel
theorem dX4_add_79 : decode cX4_add 79 = .ok (.iload 4, 2) := by decide +kernel
theorem dX4_add_81 : decode cX4_add 81 = .ok (.iload 5, 2) := by decide +kernel
theorem dX4_add_83 : decode cX4_add 83 = .ok (.iconst 0, 1) := by decide +kernel
theorem dX4_add_84 : decode cX4_add 84 = .ok (.invokestatic 143, 3) := by decide +kernel
theorem dX4_add_87 : decode cX4_add 87 = .ok (.iinc 5 1, 3) := by decide +kernel
theorem dX4_add_90 : decode cX4_add 90 = .ok (.goto (-22), 3) := by decide +kernel
theorem dX4_add_93 : decode cX4_add 93 = .ok (.aload_n 0, 1) := by decide +kernel
theorem dX4_add_94 : decode cX4_add 94 = .ok (.getfield 7, 3) := by decide +kernel
theorem dX4_add_97 : decode cX4_add 97 = .ok (.iload 4, 2) := by decide +kernel
theorem dX4_add_99 : decode cX4_add 99 = .ok (.iconst 2, 1) := by decide +kernel
theorem dX4_add_100 : decode cX4_add 100 = .ok (.iload_n 1, 1) := by decide +kernel
theorem dX4_add_101 : decode cX4_add 101 = .ok (.invokestatic 143, 3) := by decide +kernel
theorem dX4_add_104 : decode cX4_add 104 = .ok (.aload_n 0, 1) := by decide +kernel
theorem dX4_add_105 : decode cX4_add 105 = .ok (.getfield 7, 3) := by decide +kernel
theorem dX4_add_108 : decode cX4_add 108 = .ok (.iload 4, 2) := by decide +kernel
theorem dX4_add_110 : decode cX4_add 110 = .ok (.iconst 3, 1) := by decide +kernel
theorem dX4_add_111 : decode cX4_add 111 = .ok (.iload_n 2, 1) := by decide +kernel
theorem dX4_add_112 : decode cX4_add 112 = .ok (.invokestatic 143, 3) := by decide +kernel
theorem dX4_add_115 : decode cX4_add 115 = .ok (.aload_n 0, 1) := by decide +kernel
theorem dX4_add_116 : decode cX4_add 116 = .ok (.getfield 7, 3) := by decide +kernel
theorem dX4_add_119 : decode cX4_add 119 = .ok (.iconst 0, 1) := by decide +kernel
theorem dX4_add_120 : decode cX4_add 120 = .ok (.dup2, 1) := by decide +kernel
theorem dX4_add_121 : decode cX4_add 121 = .ok (.iaload, 1) := by decide +kernel
theorem dX4_add_122 : decode cX4_add 122 = .ok (.iconst 1, 1) := by decide +kernel
theorem dX4_add_123 : decode cX4_add 123 = .ok (.iadd, 1) := by decide +kernel
theorem dX4_add_124 : decode cX4_add 124 = .ok (.iastore, 1) := by decide +kernel
theorem dX4_add_125 : decode cX4_add 125 = .ok (.iload 4, 2) := by decide +kernel
theorem dX4_add_127 : decode cX4_add 127 = .ok (.ireturn, 1) := by decide +kernel
theorem dX4_areContacts_0 : decode cX4_areContacts 0 = .ok (.iload_n 1, 1) := by decide +kernel
theorem dX4_areContacts_1 : decode cX4_areContacts 1 = .ok (.ifCond .lt 21, 3) := by decide +kernel
theorem dX4_areContacts_4 : decode cX4_areContacts 4 = .ok (.iload_n 1, 1) := by decide +kernel
theorem dX4_areContacts_5 : decode cX4_areContacts 5 = .ok (.iconst 1, 1) := by decide +kernel
theorem dX4_areContacts_6 : decode cX4_areContacts 6 = .ok (.iconst 4, 1) := by decide +kernel
theorem dX4_areContacts_7 : decode cX4_areContacts 7 = .ok (.aload_n 0, 1) := by decide +kernel
theorem dX4_areContacts_8 : decode cX4_areContacts 8 = .ok (.getfield 7, 3) := by decide +kernel
theorem dX4_areContacts_11 : decode cX4_areContacts 11 = .ok (.iconst 0, 1) := by decide +kernel
theorem dX4_areContacts_12 : decode cX4_areContacts 12 = .ok (.iaload, 1) := by decide +kernel
theorem dX4_areContacts_13 : decode cX4_areContacts 13 = .ok (.iadd, 1) := by decide +kernel
theorem dX4_areContacts_14 : decode cX4_areContacts 14 = .ok (.ishl, 1) := by decide +kernel
theorem dX4_areContacts_15 : decode cX4_areContacts 15 = .ok (.if_icmp .ge 7, 3) := by decide +kernel
theorem dX4_areContacts_18 : decode cX4_areContacts 18 = .ok (.iconst 1, 1) := by decide +kernel
theorem dX4_areContacts_19 : decode cX4_areContacts 19 = .ok (.goto 4, 3) := by decide +kernel
theorem dX4_areContacts_22 : decode cX4_areContacts 22 = .ok (.iconst 0, 1) := by decide +kernel
theorem dX4_areContacts_23 : decode cX4_areContacts 23 = .ok (.ireturn, 1) := by decide +kernel
set_option maxRecDepth 20000 in
theorem ggX4_lays_X4_of : GoodIn wsX4_lays wsX4_of := goodIn_r _ [5] (by decide +kernel) (by decide +kernel)
set_option maxRecDepth 20000 in
theorem gX4_lays_X4_of : GoodIn wsX4_lays (va_wsS RX4 56 yX4_of wsX4_of) := goodIn_app (goodIn_of _ (by decide +kernel)) ggX4_lays_X4_of
set_option maxRecDepth 20000 in
theorem ggX4_lays_X4_puts : GoodIn wsX4_lays wsX4_puts := goodIn_r _ [8] (by decide +kernel) (by decide +kernel)
set_option maxRecDepth 20000 in
theorem gX4_lays_X4_puts : GoodIn wsX4_lays (va_wsS RX4 143 yX4_puts wsX4_puts) := goodIn_app (goodIn_of _ (by decide +kernel)) ggX4_lays_X4_puts
theorem dX4_lays_0 : decode cX4_lays 0 = .ok (.aload_n 0, 1) := by decide +kernel
theorem dX4_lays_1 : decode cX4_lays 1 = .ok (.getfield 7, 3) := by decide +kernel
theorem dX4_lays_4 : decode cX4_lays 4 = .ok (.iload_n 1, 1) := by decide +kernel
theorem dX4_lays_5 : decode cX4_lays 5 = .ok (.iconst 4, 1) := by decide +kernel
theorem dX4_lays_6 : decode cX4_lays 6 = .ok (.invokestatic 56, 3) := by decide +kernel
theorem dX4_lays_9 : decode cX4_lays 9 = .ok (.istore 4, 2) := by decide +kernel
theorem dX4_lays_11 : decode cX4_lays 11 = .ok (.aload_n 0, 1) := by decide +kernel
theorem dX4_lays_12 : decode cX4_lays 12 = .ok (.getfield 7, 3) := by decide +kernel
theorem dX4_lays_15 : decode cX4_lays 15 = .ok (.iload_n 1, 1) := by decide +kernel
theorem dX4_lays_16 : decode cX4_lays 16 = .ok (.bipush 6, 2) := by decide +kernel
theorem dX4_lays_18 : decode cX4_lays 18 = .ok (.iconst 2, 1) := by decide +kernel
theorem dX4_lays_19 : decode cX4_lays 19 = .ok (.iload 4, 2) := by decide +kernel
theorem dX4_lays_21 : decode cX4_lays 21 = .ok (.imul, 1) := by decide +kernel
theorem dX4_lays_22 : decode cX4_lays 22 = .ok (.iadd, 1) := by decide +kernel
theorem dX4_lays_23 : decode cX4_lays 23 = .ok (.iload_n 2, 1) := by decide +kernel
theorem dX4_lays_24 : decode cX4_lays 24 = .ok (.invokestatic 143, 3) := by decide +kernel
theorem dX4_lays_27 : decode cX4_lays 27 = .ok (.aload_n 0, 1) := by decide +kernel
theorem dX4_lays_28 : decode cX4_lays 28 = .ok (.getfield 7, 3) := by decide +kernel
theorem dX4_lays_31 : decode cX4_lays 31 = .ok (.iload_n 1, 1) := by decide +kernel
theorem dX4_lays_32 : decode cX4_lays 32 = .ok (.bipush 6, 2) := by decide +kernel
theorem dX4_lays_34 : decode cX4_lays 34 = .ok (.iconst 2, 1) := by decide +kernel
theorem dX4_lays_35 : decode cX4_lays 35 = .ok (.iload 4, 2) := by decide +kernel
theorem dX4_lays_37 : decode cX4_lays 37 = .ok (.imul, 1) := by decide +kernel
theorem dX4_lays_38 : decode cX4_lays 38 = .ok (.iadd, 1) := by decide +kernel
theorem dX4_lays_39 : decode cX4_lays 39 = .ok (.iconst 1, 1) := by decide +kernel
theorem dX4_lays_40 : decode cX4_lays 40 = .ok (.iadd, 1) := by decide +kernel
theorem dX4_lays_41 : decode cX4_lays 41 = .ok (.iload_n 3, 1) := by decide +kernel
theorem dX4_lays_42 : decode cX4_lays 42 = .ok (.invokestatic 143, 3) := by decide +kernel
theorem dX4_lays_45 : decode cX4_lays 45 = .ok (.aload_n 0, 1) := by decide +kernel
theorem dX4_lays_46 : decode cX4_lays 46 = .ok (.getfield 7, 3) := by decide +kernel
theorem dX4_lays_49 : decode cX4_lays 49 = .ok (.iload_n 1, 1) := by decide +kernel
theorem dX4_lays_50 : decode cX4_lays 50 = .ok (.iconst 4, 1) := by decide +kernel
theorem dX4_lays_51 : decode cX4_lays 51 = .ok (.iload 4, 2) := by decide +kernel
theorem dX4_lays_53 : decode cX4_lays 53 = .ok (.iconst 1, 1) := by decide +kernel
theorem dX4_lays_54 : decode cX4_lays 54 = .ok (.iadd, 1) := by decide +kernel
theorem dX4_lays_55 : decode cX4_lays 55 = .ok (.invokestatic 143, 3) := by decide +kernel
theorem dX4_lays_58 : decode cX4_lays 58 = .ok (.iload 4, 2) := by decide +kernel
theorem dX4_lays_60 : decode cX4_lays 60 = .ok (.iconst 1, 1) := by decide +kernel
theorem dX4_lays_61 : decode cX4_lays 61 = .ok (.iadd, 1) := by decide +kernel
theorem dX4_lays_62 : decode cX4_lays 62 = .ok (.ireturn, 1) := by decide +kernel
set_option maxRecDepth 20000 in
theorem ggX4_branch_X4_areContacts : GoodIn wsX4_branch wsX4_areContacts := goodIn_r _ [6, 1, 35, 36, 37, 38, 39, 40, 41, 42, 43, 44, 45, 46, 47, 48, 49, 50, 51, 52, 53, 54, 55, 56, 57, 58, 59, 60, 61, 62] (by decide +kernel) (by decide +kernel)
set_option maxRecDepth 20000 in
theorem gX4_branch_X4_areContacts : GoodIn wsX4_branch (wsV RX4 147 RX4 yX4_areContacts wsX4_areContacts) := goodIn_app (goodIn_of _ (by decide +kernel)) ggX4_branch_X4_areContacts
set_option maxRecDepth 20000 in
theorem ggX4_branch_X4_isRelay : GoodIn wsX4_branch wsX4_isRelay := goodIn_r _ [10, 1, 11, 12, 5, 13, 35, 36, 37, 38, 39, 40, 41, 42, 43, 44, 45, 46, 47, 48, 49, 50, 51, 52, 53, 54, 55, 56, 57, 58, 59, 60, 61, 62] (by decide +kernel) (by decide +kernel)
set_option maxRecDepth 20000 in
theorem gX4_branch_X4_isRelay : GoodIn wsX4_branch (wsV RX4 150 RX4 yX4_isRelay wsX4_isRelay) := goodIn_app (goodIn_of _ (by decide +kernel)) ggX4_branch_X4_isRelay
set_option maxRecDepth 20000 in
theorem ggX4_branch_X4_of : GoodIn wsX4_branch wsX4_of := goodIn_r _ [16] (by decide +kernel) (by decide +kernel)
set_option maxRecDepth 20000 in
theorem gX4_branch_X4_of : GoodIn wsX4_branch (va_wsS RX4 56 yX4_of wsX4_of) := goodIn_app (goodIn_of _ (by decide +kernel)) ggX4_branch_X4_of
set_option maxRecDepth 20000 in
theorem ggX4_branch_X4_refuses : GoodIn wsX4_branch wsX4_refuses := goodIn_r _ [20, 21, 35, 36, 37, 38, 39, 40, 41, 42, 43, 44, 45, 46, 47, 48, 49, 50, 51, 52, 53, 54, 55, 56, 57, 58, 59, 60, 61, 62] (by decide +kernel) (by decide +kernel)
set_option maxRecDepth 20000 in
theorem gX4_branch_X4_refuses : GoodIn wsX4_branch (wsV RX4 48 RX4 yX4_refuses wsX4_refuses) := goodIn_app (goodIn_of _ (by decide +kernel)) ggX4_branch_X4_refuses
set_option maxRecDepth 20000 in
theorem ggX4_branch_X4_saves : GoodIn wsX4_branch wsX4_saves := goodIn_r _ [25, 26, 27, 1, 35, 36, 37, 38, 39, 40, 41, 42, 43, 44, 45, 46, 47, 48, 49, 50, 51, 52, 53, 54, 55, 56, 57, 58, 59, 60, 61, 62] (by decide +kernel) (by decide +kernel)
set_option maxRecDepth 20000 in
theorem gX4_branch_X4_saves : GoodIn wsX4_branch (wsV RX4 140 RX4 yX4_saves wsX4_saves) := goodIn_app (goodIn_of _ (by decide +kernel)) ggX4_branch_X4_saves
set_option maxRecDepth 20000 in
theorem ggX4_branch_X4_lays : GoodIn wsX4_branch wsX4_lays := goodIn_r _ [31, 1, 14, 15, 5, 16, 32, 33, 34, 35, 36, 37, 38, 39, 40, 41, 42, 43, 44, 45, 46, 47, 48, 49, 50, 51, 52, 53, 54, 55, 56, 57, 58, 59, 60, 61, 62] (by decide +kernel) (by decide +kernel)
set_option maxRecDepth 20000 in
theorem gX4_branch_X4_lays : GoodIn wsX4_branch (wsV RX4 153 RX4 yX4_lays wsX4_lays) := goodIn_app (goodIn_of _ (by decide +kernel)) ggX4_branch_X4_lays
theorem dX4_branch_0 : decode cX4_branch 0 = .ok (.aload_n 0, 1) := by decide +kernel
theorem dX4_branch_1 : decode cX4_branch 1 = .ok (.iload_n 2, 1) := by decide +kernel
theorem dX4_branch_2 : decode cX4_branch 2 = .ok (.invokevirtual 147, 3) := by decide +kernel
theorem dX4_branch_5 : decode cX4_branch 5 = .ok (.ifCond .eq 27, 3) := by decide +kernel
theorem dX4_branch_8 : decode cX4_branch 8 = .ok (.aload_n 0, 1) := by decide +kernel
theorem dX4_branch_9 : decode cX4_branch 9 = .ok (.iload_n 3, 1) := by decide +kernel
theorem dX4_branch_10 : decode cX4_branch 10 = .ok (.invokevirtual 147, 3) := by decide +kernel
theorem dX4_branch_13 : decode cX4_branch 13 = .ok (.ifCond .eq 19, 3) := by decide +kernel
theorem dX4_branch_16 : decode cX4_branch 16 = .ok (.iload_n 2, 1) := by decide +kernel
theorem dX4_branch_17 : decode cX4_branch 17 = .ok (.iload_n 3, 1) := by decide +kernel
theorem dX4_branch_18 : decode cX4_branch 18 = .ok (.ior, 1) := by decide +kernel
theorem dX4_branch_19 : decode cX4_branch 19 = .ok (.ifCond .eq 13, 3) := by decide +kernel
theorem dX4_branch_22 : decode cX4_branch 22 = .ok (.iload_n 2, 1) := by decide +kernel
theorem dX4_branch_23 : decode cX4_branch 23 = .ok (.iload_n 3, 1) := by decide +kernel
theorem dX4_branch_24 : decode cX4_branch 24 = .ok (.iand, 1) := by decide +kernel
theorem dX4_branch_25 : decode cX4_branch 25 = .ok (.ifCond .ne 7, 3) := by decide +kernel
theorem dX4_branch_28 : decode cX4_branch 28 = .ok (.iconst 1, 1) := by decide +kernel
theorem dX4_branch_29 : decode cX4_branch 29 = .ok (.goto 4, 3) := by decide +kernel
theorem dX4_branch_32 : decode cX4_branch 32 = .ok (.iconst 0, 1) := by decide +kernel
theorem dX4_branch_33 : decode cX4_branch 33 = .ok (.istore 4, 2) := by decide +kernel
theorem dX4_branch_35 : decode cX4_branch 35 = .ok (.aload_n 0, 1) := by decide +kernel
theorem dX4_branch_36 : decode cX4_branch 36 = .ok (.aload_n 0, 1) := by decide +kernel
theorem dX4_branch_37 : decode cX4_branch 37 = .ok (.iload_n 1, 1) := by decide +kernel
theorem dX4_branch_38 : decode cX4_branch 38 = .ok (.invokevirtual 150, 3) := by decide +kernel
theorem dX4_branch_41 : decode cX4_branch 41 = .ok (.ifCond .ne 7, 3) := by decide +kernel
theorem dX4_branch_44 : decode cX4_branch 44 = .ok (.iconst 1, 1) := by decide +kernel
theorem dX4_branch_45 : decode cX4_branch 45 = .ok (.goto 30, 3) := by decide +kernel
theorem dX4_branch_48 : decode cX4_branch 48 = .ok (.iload 4, 2) := by decide +kernel
theorem dX4_branch_50 : decode cX4_branch 50 = .ok (.ifCond .ne 7, 3) := by decide +kernel
theorem dX4_branch_53 : decode cX4_branch 53 = .ok (.iconst 2, 1) := by decide +kernel
theorem dX4_branch_54 : decode cX4_branch 54 = .ok (.goto 21, 3) := by decide +kernel
theorem dX4_branch_57 : decode cX4_branch 57 = .ok (.aload_n 0, 1) := by decide +kernel
theorem dX4_branch_58 : decode cX4_branch 58 = .ok (.getfield 7, 3) := by decide +kernel
theorem dX4_branch_61 : decode cX4_branch 61 = .ok (.iload_n 1, 1) := by decide +kernel
theorem dX4_branch_62 : decode cX4_branch 62 = .ok (.iconst 4, 1) := by decide +kernel
theorem dX4_branch_63 : decode cX4_branch 63 = .ok (.invokestatic 56, 3) := by decide +kernel
theorem dX4_branch_66 : decode cX4_branch 66 = .ok (.iconst 4, 1) := by decide +kernel
theorem dX4_branch_67 : decode cX4_branch 67 = .ok (.if_icmp .ne 7, 3) := by decide +kernel
theorem dX4_branch_70 : decode cX4_branch 70 = .ok (.iconst 3, 1) := by decide +kernel
theorem dX4_branch_71 : decode cX4_branch 71 = .ok (.goto 4, 3) := by decide +kernel
theorem dX4_branch_74 : decode cX4_branch 74 = .ok (.iconst 0, 1) := by decide +kernel
theorem dX4_branch_75 : decode cX4_branch 75 = .ok (.invokevirtual 48, 3) := by decide +kernel
theorem dX4_branch_78 : decode cX4_branch 78 = .ok (.ifCond .eq 5, 3) := by decide +kernel
theorem dX4_branch_81 : decode cX4_branch 81 = .ok (.iconst 0, 1) := by decide +kernel
theorem dX4_branch_82 : decode cX4_branch 82 = .ok (.ireturn, 1) := by decide +kernel
theorem dX4_branch_83 : decode cX4_branch 83 = .ok (.aload_n 0, 1) := by decide +kernel
theorem dX4_branch_84 : decode cX4_branch 84 = .ok (.invokevirtual 140, 3) := by decide +kernel
theorem dX4_branch_87 : decode cX4_branch 87 = .ok (.aload_n 0, 1) := by decide +kernel
theorem dX4_branch_88 : decode cX4_branch 88 = .ok (.iload_n 1, 1) := by decide +kernel
theorem dX4_branch_89 : decode cX4_branch 89 = .ok (.iload_n 2, 1) := by decide +kernel
theorem dX4_branch_90 : decode cX4_branch 90 = .ok (.iload_n 3, 1) := by decide +kernel
theorem dX4_branch_91 : decode cX4_branch 91 = .ok (.invokevirtual 153, 3) := by decide +kernel
theorem dX4_branch_94 : decode cX4_branch 94 = .ok (.ireturn, 1) := by decide +kernel
set_option maxRecDepth 20000 in
theorem ggX4_strips_X4_of : GoodIn wsX4_strips wsX4_of := goodIn_r _ [5] (by decide +kernel) (by decide +kernel)
set_option maxRecDepth 20000 in
theorem gX4_strips_X4_of : GoodIn wsX4_strips (va_wsS RX4 56 yX4_of wsX4_of) := goodIn_app (goodIn_of _ (by decide +kernel)) ggX4_strips_X4_of
set_option maxRecDepth 20000 in
theorem ggX4_strips_X4_puts : GoodIn wsX4_strips wsX4_puts := goodIn_r _ [8] (by decide +kernel) (by decide +kernel)
set_option maxRecDepth 20000 in
theorem gX4_strips_X4_puts : GoodIn wsX4_strips (va_wsS RX4 143 yX4_puts wsX4_puts) := goodIn_app (goodIn_of _ (by decide +kernel)) ggX4_strips_X4_puts
theorem dX4_strips_0 : decode cX4_strips 0 = .ok (.aload_n 0, 1) := by decide +kernel
theorem dX4_strips_1 : decode cX4_strips 1 = .ok (.getfield 7, 3) := by decide +kernel
theorem dX4_strips_4 : decode cX4_strips 4 = .ok (.iload_n 1, 1) := by decide +kernel
theorem dX4_strips_5 : decode cX4_strips 5 = .ok (.iconst 4, 1) := by decide +kernel
theorem dX4_strips_6 : decode cX4_strips 6 = .ok (.invokestatic 56, 3) := by decide +kernel
theorem dX4_strips_9 : decode cX4_strips 9 = .ok (.istore_n 2, 1) := by decide +kernel
theorem dX4_strips_10 : decode cX4_strips 10 = .ok (.bipush 6, 2) := by decide +kernel
theorem dX4_strips_12 : decode cX4_strips 12 = .ok (.istore_n 3, 1) := by decide +kernel
theorem dX4_strips_13 : decode cX4_strips 13 = .ok (.iload_n 3, 1) := by decide +kernel
theorem dX4_strips_14 : decode cX4_strips 14 = .ok (.bipush 14, 2) := by decide +kernel
theorem dX4_strips_16 : decode cX4_strips 16 = .ok (.if_icmp .ge 19, 3) := by decide +kernel
theorem dX4_strips_19 : decode cX4_strips 19 = .ok (.aload_n 0, 1) := by decide +kernel
theorem dX4_strips_20 : decode cX4_strips 20 = .ok (.getfield 7, 3) := by decide +kernel
theorem dX4_strips_23 : decode cX4_strips 23 = .ok (.iload_n 1, 1) := by decide +kernel
theorem dX4_strips_24 : decode cX4_strips 24 = .ok (.iload_n 3, 1) := by decide +kernel
theorem dX4_strips_25 : decode cX4_strips 25 = .ok (.iconst 0, 1) := by decide +kernel
theorem dX4_strips_26 : decode cX4_strips 26 = .ok (.invokestatic 143, 3) := by decide +kernel
theorem dX4_strips_29 : decode cX4_strips 29 = .ok (.iinc 3 1, 3) := by decide +kernel
theorem dX4_strips_32 : decode cX4_strips 32 = .ok (.goto (-19), 3) := by decide +kernel
theorem dX4_strips_35 : decode cX4_strips 35 = .ok (.aload_n 0, 1) := by decide +kernel
theorem dX4_strips_36 : decode cX4_strips 36 = .ok (.getfield 7, 3) := by decide +kernel
theorem dX4_strips_39 : decode cX4_strips 39 = .ok (.iload_n 1, 1) := by decide +kernel
theorem dX4_strips_40 : decode cX4_strips 40 = .ok (.iconst 4, 1) := by decide +kernel
theorem dX4_strips_41 : decode cX4_strips 41 = .ok (.iconst 0, 1) := by decide +kernel
theorem dX4_strips_42 : decode cX4_strips 42 = .ok (.invokestatic 143, 3) := by decide +kernel
theorem dX4_strips_45 : decode cX4_strips 45 = .ok (.iload_n 2, 1) := by decide +kernel
theorem dX4_strips_46 : decode cX4_strips 46 = .ok (.ireturn, 1) := by decide +kernel
set_option maxRecDepth 20000 in
theorem ggX4_strip_X4_isRelay : GoodIn wsX4_strip wsX4_isRelay := goodIn_r _ [5, 6, 7, 8, 4, 9, 31, 32, 33, 34, 35, 36, 37, 38, 39, 40, 41, 42, 43, 44, 45, 46, 47, 48, 49, 50, 51, 52, 53, 54, 55, 56, 57, 58] (by decide +kernel) (by decide +kernel)
set_option maxRecDepth 20000 in
theorem gX4_strip_X4_isRelay : GoodIn wsX4_strip (wsV RX4 150 RX4 yX4_isRelay wsX4_isRelay) := goodIn_app (goodIn_of _ (by decide +kernel)) ggX4_strip_X4_isRelay
set_option maxRecDepth 20000 in
theorem ggX4_strip_X4_refuses : GoodIn wsX4_strip wsX4_refuses := goodIn_r _ [13, 14, 31, 32, 33, 34, 35, 36, 37, 38, 39, 40, 41, 42, 43, 44, 45, 46, 47, 48, 49, 50, 51, 52, 53, 54, 55, 56, 57, 58] (by decide +kernel) (by decide +kernel)
set_option maxRecDepth 20000 in
theorem gX4_strip_X4_refuses : GoodIn wsX4_strip (wsV RX4 48 RX4 yX4_refuses wsX4_refuses) := goodIn_app (goodIn_of _ (by decide +kernel)) ggX4_strip_X4_refuses
set_option maxRecDepth 20000 in
theorem ggX4_strip_X4_saves : GoodIn wsX4_strip wsX4_saves := goodIn_r _ [18, 19, 20, 6, 31, 32, 33, 34, 35, 36, 37, 38, 39, 40, 41, 42, 43, 44, 45, 46, 47, 48, 49, 50, 51, 52, 53, 54, 55, 56, 57, 58] (by decide +kernel) (by decide +kernel)
set_option maxRecDepth 20000 in
theorem gX4_strip_X4_saves : GoodIn wsX4_strip (wsV RX4 140 RX4 yX4_saves wsX4_saves) := goodIn_app (goodIn_of _ (by decide +kernel)) ggX4_strip_X4_saves
set_option maxRecDepth 20000 in
theorem ggX4_strip_X4_strips : GoodIn wsX4_strip wsX4_strips := goodIn_r _ [24, 6, 25, 26, 4, 27, 28, 29, 30, 31, 32, 33, 34, 35, 36, 37, 38, 39, 40, 41, 42, 43, 44, 45, 46, 47, 48, 49, 50, 51, 52, 53, 54, 55, 56, 57, 58] (by decide +kernel) (by decide +kernel)
set_option maxRecDepth 20000 in
theorem gX4_strip_X4_strips : GoodIn wsX4_strip (wsV RX4 157 RX4 yX4_strips wsX4_strips) := goodIn_app (goodIn_of _ (by decide +kernel)) ggX4_strip_X4_strips
theorem dX4_strip_0 : decode cX4_strip 0 = .ok (.aload_n 0, 1) := by decide +kernel
theorem dX4_strip_1 : decode cX4_strip 1 = .ok (.aload_n 0, 1) := by decide +kernel
theorem dX4_strip_2 : decode cX4_strip 2 = .ok (.iload_n 1, 1) := by decide +kernel
theorem dX4_strip_3 : decode cX4_strip 3 = .ok (.invokevirtual 150, 3) := by decide +kernel
theorem dX4_strip_6 : decode cX4_strip 6 = .ok (.ifCond .eq 7, 3) := by decide +kernel
theorem dX4_strip_9 : decode cX4_strip 9 = .ok (.iconst 0, 1) := by decide +kernel
theorem dX4_strip_10 : decode cX4_strip 10 = .ok (.goto 4, 3) := by decide +kernel
theorem dX4_strip_13 : decode cX4_strip 13 = .ok (.iconst 1, 1) := by decide +kernel
theorem dX4_strip_14 : decode cX4_strip 14 = .ok (.invokevirtual 48, 3) := by decide +kernel
theorem dX4_strip_17 : decode cX4_strip 17 = .ok (.ifCond .eq 5, 3) := by decide +kernel
theorem dX4_strip_20 : decode cX4_strip 20 = .ok (.iconst 0, 1) := by decide +kernel
theorem dX4_strip_21 : decode cX4_strip 21 = .ok (.ireturn, 1) := by decide +kernel
theorem dX4_strip_22 : decode cX4_strip 22 = .ok (.aload_n 0, 1) := by decide +kernel
theorem dX4_strip_23 : decode cX4_strip 23 = .ok (.invokevirtual 140, 3) := by decide +kernel
theorem dX4_strip_26 : decode cX4_strip 26 = .ok (.aload_n 0, 1) := by decide +kernel
theorem dX4_strip_27 : decode cX4_strip 27 = .ok (.iload_n 1, 1) := by decide +kernel
theorem dX4_strip_28 : decode cX4_strip 28 = .ok (.invokevirtual 157, 3) := by decide +kernel
theorem dX4_strip_31 : decode cX4_strip 31 = .ok (.ireturn, 1) := by decide +kernel
set_option maxRecDepth 20000 in
theorem ggX4_delay_X4_isTime : GoodIn wsX4_delay wsX4_isTime := goodIn_r _ [5, 6, 7, 4, 8] (by decide +kernel) (by decide +kernel)
set_option maxRecDepth 20000 in
theorem gX4_delay_X4_isTime : GoodIn wsX4_delay (va_wsS RX4 137 yX4_isTime wsX4_isTime) := goodIn_app (goodIn_of _ (by decide +kernel)) ggX4_delay_X4_isTime
set_option maxRecDepth 20000 in
theorem ggX4_delay_X4_isRelay : GoodIn wsX4_delay wsX4_isRelay := goodIn_r _ [12, 1, 6, 7, 4, 8, 30, 31, 32, 33, 34, 35, 36, 37, 38, 39, 40, 41, 42, 43, 44, 45, 46, 47, 48, 49, 50, 51, 52, 53, 54, 55, 56, 57] (by decide +kernel) (by decide +kernel)
set_option maxRecDepth 20000 in
theorem gX4_delay_X4_isRelay : GoodIn wsX4_delay (wsV RX4 150 RX4 yX4_isRelay wsX4_isRelay) := goodIn_app (goodIn_of _ (by decide +kernel)) ggX4_delay_X4_isRelay
set_option maxRecDepth 20000 in
theorem ggX4_delay_X4_refuses : GoodIn wsX4_delay wsX4_refuses := goodIn_r _ [16, 17, 30, 31, 32, 33, 34, 35, 36, 37, 38, 39, 40, 41, 42, 43, 44, 45, 46, 47, 48, 49, 50, 51, 52, 53, 54, 55, 56, 57] (by decide +kernel) (by decide +kernel)
set_option maxRecDepth 20000 in
theorem gX4_delay_X4_refuses : GoodIn wsX4_delay (wsV RX4 48 RX4 yX4_refuses wsX4_refuses) := goodIn_app (goodIn_of _ (by decide +kernel)) ggX4_delay_X4_refuses
set_option maxRecDepth 20000 in
theorem ggX4_delay_X4_saves : GoodIn wsX4_delay wsX4_saves := goodIn_r _ [21, 22, 23, 1, 30, 31, 32, 33, 34, 35, 36, 37, 38, 39, 40, 41, 42, 43, 44, 45, 46, 47, 48, 49, 50, 51, 52, 53, 54, 55, 56, 57] (by decide +kernel) (by decide +kernel)
set_option maxRecDepth 20000 in
theorem gX4_delay_X4_saves : GoodIn wsX4_delay (wsV RX4 140 RX4 yX4_saves wsX4_saves) := goodIn_app (goodIn_of _ (by decide +kernel)) ggX4_delay_X4_saves
set_option maxRecDepth 20000 in
theorem ggX4_delay_X4_of : GoodIn wsX4_delay wsX4_of := goodIn_r _ [26] (by decide +kernel) (by decide +kernel)
set_option maxRecDepth 20000 in
theorem gX4_delay_X4_of : GoodIn wsX4_delay (va_wsS RX4 56 yX4_of wsX4_of) := goodIn_app (goodIn_of _ (by decide +kernel)) ggX4_delay_X4_of
set_option maxRecDepth 20000 in
theorem ggX4_delay_X4_puts : GoodIn wsX4_delay wsX4_puts := goodIn_r _ [29] (by decide +kernel) (by decide +kernel)
set_option maxRecDepth 20000 in
theorem gX4_delay_X4_puts : GoodIn wsX4_delay (va_wsS RX4 143 yX4_puts wsX4_puts) := goodIn_app (goodIn_of _ (by decide +kernel)) ggX4_delay_X4_puts
theorem dX4_delay_0 : decode cX4_delay 0 = .ok (.iload_n 2, 1) := by decide +kernel
theorem dX4_delay_1 : decode cX4_delay 1 = .ok (.invokestatic 137, 3) := by decide +kernel
theorem dX4_delay_4 : decode cX4_delay 4 = .ok (.ifCond .eq 14, 3) := by decide +kernel
theorem dX4_delay_7 : decode cX4_delay 7 = .ok (.iload_n 3, 1) := by decide +kernel
theorem dX4_delay_8 : decode cX4_delay 8 = .ok (.invokestatic 137, 3) := by decide +kernel
theorem dX4_delay_11 : decode cX4_delay 11 = .ok (.ifCond .eq 7, 3) := by decide +kernel
theorem dX4_delay_14 : decode cX4_delay 14 = .ok (.iconst 1, 1) := by decide +kernel
theorem dX4_delay_15 : decode cX4_delay 15 = .ok (.goto 4, 3) := by decide +kernel
theorem dX4_delay_18 : decode cX4_delay 18 = .ok (.iconst 0, 1) := by decide +kernel
theorem dX4_delay_19 : decode cX4_delay 19 = .ok (.istore 4, 2) := by decide +kernel
theorem dX4_delay_21 : decode cX4_delay 21 = .ok (.aload_n 0, 1) := by decide +kernel
theorem dX4_delay_22 : decode cX4_delay 22 = .ok (.aload_n 0, 1) := by decide +kernel
theorem dX4_delay_23 : decode cX4_delay 23 = .ok (.iload_n 1, 1) := by decide +kernel
theorem dX4_delay_24 : decode cX4_delay 24 = .ok (.invokevirtual 150, 3) := by decide +kernel
theorem dX4_delay_27 : decode cX4_delay 27 = .ok (.ifCond .ne 7, 3) := by decide +kernel
theorem dX4_delay_30 : decode cX4_delay 30 = .ok (.iconst 1, 1) := by decide +kernel
theorem dX4_delay_31 : decode cX4_delay 31 = .ok (.goto 13, 3) := by decide +kernel
theorem dX4_delay_34 : decode cX4_delay 34 = .ok (.iload 4, 2) := by decide +kernel
theorem dX4_delay_36 : decode cX4_delay 36 = .ok (.ifCond .eq 7, 3) := by decide +kernel
theorem dX4_delay_39 : decode cX4_delay 39 = .ok (.iconst 0, 1) := by decide +kernel
theorem dX4_delay_40 : decode cX4_delay 40 = .ok (.goto 4, 3) := by decide +kernel
theorem dX4_delay_43 : decode cX4_delay 43 = .ok (.iconst 2, 1) := by decide +kernel
theorem dX4_delay_44 : decode cX4_delay 44 = .ok (.invokevirtual 48, 3) := by decide +kernel
theorem dX4_delay_47 : decode cX4_delay 47 = .ok (.ifCond .eq 5, 3) := by decide +kernel
theorem dX4_delay_50 : decode cX4_delay 50 = .ok (.iconst 0, 1) := by decide +kernel
theorem dX4_delay_51 : decode cX4_delay 51 = .ok (.ireturn, 1) := by decide +kernel
theorem dX4_delay_52 : decode cX4_delay 52 = .ok (.aload_n 0, 1) := by decide +kernel
theorem dX4_delay_53 : decode cX4_delay 53 = .ok (.invokevirtual 140, 3) := by decide +kernel
theorem dX4_delay_56 : decode cX4_delay 56 = .ok (.aload_n 0, 1) := by decide +kernel
theorem dX4_delay_57 : decode cX4_delay 57 = .ok (.getfield 7, 3) := by decide +kernel
theorem dX4_delay_60 : decode cX4_delay 60 = .ok (.iload_n 1, 1) := by decide +kernel
theorem dX4_delay_61 : decode cX4_delay 61 = .ok (.iconst 2, 1) := by decide +kernel
theorem dX4_delay_62 : decode cX4_delay 62 = .ok (.invokestatic 56, 3) := by decide +kernel
theorem dX4_delay_65 : decode cX4_delay 65 = .ok (.istore 5, 2) := by decide +kernel
theorem dX4_delay_67 : decode cX4_delay 67 = .ok (.aload_n 0, 1) := by decide +kernel
theorem dX4_delay_68 : decode cX4_delay 68 = .ok (.getfield 7, 3) := by decide +kernel
theorem dX4_delay_71 : decode cX4_delay 71 = .ok (.iload_n 1, 1) := by decide +kernel
theorem dX4_delay_72 : decode cX4_delay 72 = .ok (.iconst 2, 1) := by decide +kernel
theorem dX4_delay_73 : decode cX4_delay 73 = .ok (.iload_n 2, 1) := by decide +kernel
theorem dX4_delay_74 : decode cX4_delay 74 = .ok (.invokestatic 143, 3) := by decide +kernel
theorem dX4_delay_77 : decode cX4_delay 77 = .ok (.aload_n 0, 1) := by decide +kernel
theorem dX4_delay_78 : decode cX4_delay 78 = .ok (.getfield 7, 3) := by decide +kernel
theorem dX4_delay_81 : decode cX4_delay 81 = .ok (.iload_n 1, 1) := by decide +kernel
theorem dX4_delay_82 : decode cX4_delay 82 = .ok (.iconst 3, 1) := by decide +kernel
theorem dX4_delay_83 : decode cX4_delay 83 = .ok (.iload_n 3, 1) := by decide +kernel
theorem dX4_delay_84 : decode cX4_delay 84 = .ok (.invokestatic 143, 3) := by decide +kernel
theorem dX4_delay_87 : decode cX4_delay 87 = .ok (.iload 5, 2) := by decide +kernel
theorem dX4_delay_89 : decode cX4_delay 89 = .ok (.ireturn, 1) := by decide +kernel
set_option maxRecDepth 20000 in
theorem ggX4_unquiet_X4_codeOf : GoodIn wsX4_unquiet wsX4_codeOf := goodIn_r _ [5, 6, 7, 4, 8] (by decide +kernel) (by decide +kernel)
set_option maxRecDepth 20000 in
theorem gX4_unquiet_X4_codeOf : GoodIn wsX4_unquiet (va_wsS RX4 115 yX4_codeOf wsX4_codeOf) := goodIn_app (goodIn_of _ (by decide +kernel)) ggX4_unquiet_X4_codeOf
set_option maxRecDepth 20000 in
theorem ggX4_unquiet_X4_upOf : GoodIn wsX4_unquiet wsX4_upOf := goodIn_r _ [11] (by decide +kernel) (by decide +kernel)
set_option maxRecDepth 20000 in
theorem gX4_unquiet_X4_upOf : GoodIn wsX4_unquiet (va_wsS RX4 64 yX4_upOf wsX4_upOf) := goodIn_app (goodIn_of _ (by decide +kernel)) ggX4_unquiet_X4_upOf
set_option maxRecDepth 20000 in
theorem ggX4_unquiet_X4_calledBy : GoodIn wsX4_unquiet wsX4_calledBy := goodIn_r _ [14, 6, 7, 4, 8, 15, 16, 17] (by decide +kernel) (by decide +kernel)
set_option maxRecDepth 20000 in
theorem gX4_unquiet_X4_calledBy : GoodIn wsX4_unquiet (va_wsS RX4 68 yX4_calledBy wsX4_calledBy) := goodIn_app (goodIn_of _ (by decide +kernel)) ggX4_unquiet_X4_calledBy
set_option maxRecDepth 20000 in
theorem ggX4_unquiet_X4_ones : GoodIn wsX4_unquiet wsX4_ones := goodIn_r _ [20] (by decide +kernel) (by decide +kernel)
set_option maxRecDepth 20000 in
theorem gX4_unquiet_X4_ones : GoodIn wsX4_unquiet (va_wsS RX4 103 yX4_ones wsX4_ones) := goodIn_app (goodIn_of _ (by decide +kernel)) ggX4_unquiet_X4_ones
theorem dX4_unquiet_0 : decode cX4_unquiet 0 = .ok (.aload_n 0, 1) := by decide +kernel
theorem dX4_unquiet_1 : decode cX4_unquiet 1 = .ok (.getfield 7, 3) := by decide +kernel
theorem dX4_unquiet_4 : decode cX4_unquiet 4 = .ok (.invokestatic 115, 3) := by decide +kernel
theorem dX4_unquiet_7 : decode cX4_unquiet 7 = .ok (.invokestatic 64, 3) := by decide +kernel
theorem dX4_unquiet_10 : decode cX4_unquiet 10 = .ok (.istore_n 1, 1) := by decide +kernel
theorem dX4_unquiet_11 : decode cX4_unquiet 11 = .ok (.aload_n 0, 1) := by decide +kernel
theorem dX4_unquiet_12 : decode cX4_unquiet 12 = .ok (.getfield 7, 3) := by decide +kernel
theorem dX4_unquiet_15 : decode cX4_unquiet 15 = .ok (.iload_n 1, 1) := by decide +kernel
theorem dX4_unquiet_16 : decode cX4_unquiet 16 = .ok (.invokestatic 68, 3) := by decide +kernel
theorem dX4_unquiet_19 : decode cX4_unquiet 19 = .ok (.iload_n 1, 1) := by decide +kernel
theorem dX4_unquiet_20 : decode cX4_unquiet 20 = .ok (.ixor, 1) := by decide +kernel
theorem dX4_unquiet_21 : decode cX4_unquiet 21 = .ok (.invokestatic 103, 3) := by decide +kernel
theorem dX4_unquiet_24 : decode cX4_unquiet 24 = .ok (.ireturn, 1) := by decide +kernel
set_option maxRecDepth 20000 in
theorem ggX4_press_X4_in : GoodIn wsX4_press wsX4_in := goodIn_r _ [5] (by decide +kernel) (by decide +kernel)
set_option maxRecDepth 20000 in
theorem gX4_press_X4_in : GoodIn wsX4_press (va_wsS RX4 52 yX4_in wsX4_in) := goodIn_app (goodIn_of _ (by decide +kernel)) ggX4_press_X4_in
set_option maxRecDepth 20000 in
theorem ggX4_press_X4_refuses : GoodIn wsX4_press wsX4_refuses := goodIn_r _ [9, 10, 39, 40, 41, 42, 43, 44, 45, 46, 47, 48, 49, 50, 51, 52, 53, 54, 55, 56, 57, 58, 59, 60, 61, 62, 63, 64, 65, 66] (by decide +kernel) (by decide +kernel)
set_option maxRecDepth 20000 in
theorem gX4_press_X4_refuses : GoodIn wsX4_press (wsV RX4 48 RX4 yX4_refuses wsX4_refuses) := goodIn_app (goodIn_of _ (by decide +kernel)) ggX4_press_X4_refuses
set_option maxRecDepth 20000 in
theorem ggX4_press_X4_saves : GoodIn wsX4_press wsX4_saves := goodIn_r _ [14, 15, 16, 1, 39, 40, 41, 42, 43, 44, 45, 46, 47, 48, 49, 50, 51, 52, 53, 54, 55, 56, 57, 58, 59, 60, 61, 62, 63, 64, 65, 66] (by decide +kernel) (by decide +kernel)
set_option maxRecDepth 20000 in
theorem gX4_press_X4_saves : GoodIn wsX4_press (wsV RX4 140 RX4 yX4_saves wsX4_saves) := goodIn_app (goodIn_of _ (by decide +kernel)) ggX4_press_X4_saves
set_option maxRecDepth 20000 in
theorem ggX4_press_X4_unquiet : GoodIn wsX4_press wsX4_unquiet := goodIn_r _ [20, 1, 21, 22, 4, 23, 24, 25, 26, 27, 28, 29, 30, 31, 32, 33, 34, 35, 36, 37, 38, 39, 40, 41, 42, 43, 44, 45, 46, 47, 48, 49, 50, 51, 52, 53, 54, 55, 56, 57, 58, 59, 60, 61, 62, 63, 64, 65, 66] (by decide +kernel) (by decide +kernel)
set_option maxRecDepth 20000 in
theorem gX4_press_X4_unquiet : GoodIn wsX4_press (wsV RX4 160 RX4 yX4_unquiet wsX4_unquiet) := goodIn_app (goodIn_of _ (by decide +kernel)) ggX4_press_X4_unquiet
theorem dX4_press_0 : decode cX4_press 0 = .ok (.aload_n 0, 1) := by decide +kernel
theorem dX4_press_1 : decode cX4_press 1 = .ok (.iload_n 1, 1) := by decide +kernel
theorem dX4_press_2 : decode cX4_press 2 = .ok (.iconst 0, 1) := by decide +kernel
theorem dX4_press_3 : decode cX4_press 3 = .ok (.iconst 3, 1) := by decide +kernel
theorem dX4_press_4 : decode cX4_press 4 = .ok (.invokestatic 52, 3) := by decide +kernel
theorem dX4_press_7 : decode cX4_press 7 = .ok (.ifCond .eq 7, 3) := by decide +kernel
theorem dX4_press_10 : decode cX4_press 10 = .ok (.iconst 0, 1) := by decide +kernel
theorem dX4_press_11 : decode cX4_press 11 = .ok (.goto 4, 3) := by decide +kernel
theorem dX4_press_14 : decode cX4_press 14 = .ok (.iconst 1, 1) := by decide +kernel
theorem dX4_press_15 : decode cX4_press 15 = .ok (.invokevirtual 48, 3) := by decide +kernel
theorem dX4_press_18 : decode cX4_press 18 = .ok (.ifCond .eq 5, 3) := by decide +kernel
theorem dX4_press_21 : decode cX4_press 21 = .ok (.iconst 0, 1) := by decide +kernel
theorem dX4_press_22 : decode cX4_press 22 = .ok (.ireturn, 1) := by decide +kernel
theorem dX4_press_23 : decode cX4_press 23 = .ok (.aload_n 0, 1) := by decide +kernel
theorem dX4_press_24 : decode cX4_press 24 = .ok (.invokevirtual 140, 3) := by decide +kernel
theorem dX4_press_27 : decode cX4_press 27 = .ok (.aload_n 0, 1) := by decide +kernel
theorem dX4_press_28 : decode cX4_press 28 = .ok (.getfield 7, 3) := by decide +kernel
theorem dX4_press_31 : decode cX4_press 31 = .ok (.iconst 1, 1) := by decide +kernel
theorem dX4_press_32 : decode cX4_press 32 = .ok (.dup2, 1) := by decide +kernel
theorem dX4_press_33 : decode cX4_press 33 = .ok (.iaload, 1) := by decide +kernel
theorem dX4_press_34 : decode cX4_press 34 = .ok (.iconst 1, 1) := by decide +kernel
theorem dX4_press_35 : decode cX4_press 35 = .ok (.iload_n 1, 1) := by decide +kernel
theorem dX4_press_36 : decode cX4_press 36 = .ok (.ishl, 1) := by decide +kernel
theorem dX4_press_37 : decode cX4_press 37 = .ok (.ixor, 1) := by decide +kernel
theorem dX4_press_38 : decode cX4_press 38 = .ok (.iastore, 1) := by decide +kernel
theorem dX4_press_39 : decode cX4_press 39 = .ok (.aload_n 0, 1) := by decide +kernel
theorem dX4_press_40 : decode cX4_press 40 = .ok (.invokevirtual 160, 3) := by decide +kernel
theorem dX4_press_43 : decode cX4_press 43 = .ok (.ireturn, 1) := by decide +kernel
set_option maxRecDepth 20000 in
theorem ggX4_goes_X4_codeOf : GoodIn wsX4_goes wsX4_codeOf := goodIn_r _ [6, 7, 8, 5, 9] (by decide +kernel) (by decide +kernel)
set_option maxRecDepth 20000 in
theorem gX4_goes_X4_codeOf : GoodIn wsX4_goes (va_wsS RX4 115 yX4_codeOf wsX4_codeOf) := goodIn_app (goodIn_of _ (by decide +kernel)) ggX4_goes_X4_codeOf
set_option maxRecDepth 20000 in
theorem ggX4_goes_X4_ticks : GoodIn wsX4_goes wsX4_ticks := goodIn_r _ [13, 14, 2, 15, 16, 5, 17, 18, 19, 20, 7, 8, 9, 21, 22, 23, 24, 25, 26, 37, 38, 39, 40, 41, 42, 43, 44, 45, 46, 47, 48, 49, 50, 51, 52, 53, 54, 55, 56, 57, 58, 59, 60, 61, 62, 63, 64] (by decide +kernel) (by decide +kernel)
set_option maxRecDepth 20000 in
theorem gX4_goes_X4_ticks : GoodIn wsX4_goes (wsV RX4 92 RX4 yX4_ticks wsX4_ticks) := goodIn_app (goodIn_of _ (by decide +kernel)) ggX4_goes_X4_ticks
set_option maxRecDepth 20000 in
theorem ggX4_goes_X4_changed : GoodIn wsX4_goes wsX4_changed := goodIn_r _ [30, 14, 37, 38, 39, 40, 41, 42, 43, 44, 45, 46, 47, 48, 49, 50, 51, 52, 53, 54, 55, 56, 57, 58, 59, 60, 61, 62, 63, 64] (by decide +kernel) (by decide +kernel)
set_option maxRecDepth 20000 in
theorem gX4_goes_X4_changed : GoodIn wsX4_goes (wsV RX4 96 RX4 yX4_changed wsX4_changed) := goodIn_app (goodIn_of _ (by decide +kernel)) ggX4_goes_X4_changed
set_option maxRecDepth 20000 in
theorem ggX4_goes_X4_puts : GoodIn wsX4_goes wsX4_puts := goodIn_r _ [33] (by decide +kernel) (by decide +kernel)
set_option maxRecDepth 20000 in
theorem gX4_goes_X4_puts : GoodIn wsX4_goes (va_wsS RX4 143 yX4_puts wsX4_puts) := goodIn_app (goodIn_of _ (by decide +kernel)) ggX4_goes_X4_puts
set_option maxRecDepth 20000 in
theorem ggX4_goes_X4_countOf : GoodIn wsX4_goes wsX4_countOf := goodIn_r _ [26] (by decide +kernel) (by decide +kernel)
set_option maxRecDepth 20000 in
theorem gX4_goes_X4_countOf : GoodIn wsX4_goes (va_wsS RX4 78 yX4_countOf wsX4_countOf) := goodIn_app (goodIn_of _ (by decide +kernel)) ggX4_goes_X4_countOf
set_option maxRecDepth 20000 in
theorem ggX4_goes_X4_of : GoodIn wsX4_goes wsX4_of := goodIn_r _ [9] (by decide +kernel) (by decide +kernel)
set_option maxRecDepth 20000 in
theorem gX4_goes_X4_of : GoodIn wsX4_goes (va_wsS RX4 56 yX4_of wsX4_of) := goodIn_app (goodIn_of _ (by decide +kernel)) ggX4_goes_X4_of
set_option maxRecDepth 20000 in
theorem ggX4_goes_X4_ones : GoodIn wsX4_goes wsX4_ones := goodIn_r _ [36] (by decide +kernel) (by decide +kernel)
set_option maxRecDepth 20000 in
theorem gX4_goes_X4_ones : GoodIn wsX4_goes (va_wsS RX4 103 yX4_ones wsX4_ones) := goodIn_app (goodIn_of _ (by decide +kernel)) ggX4_goes_X4_ones
theorem dX4_goes_0 : decode cX4_goes 0 = .ok (.aload_n 0, 1) := by decide +kernel
theorem dX4_goes_1 : decode cX4_goes 1 = .ok (.aload_n 0, 1) := by decide +kernel
theorem dX4_goes_2 : decode cX4_goes 2 = .ok (.getfield 7, 3) := by decide +kernel
theorem dX4_goes_5 : decode cX4_goes 5 = .ok (.aload_n 0, 1) := by decide +kernel
theorem dX4_goes_6 : decode cX4_goes 6 = .ok (.getfield 7, 3) := by decide +kernel
theorem dX4_goes_9 : decode cX4_goes 9 = .ok (.invokestatic 115, 3) := by decide +kernel
theorem dX4_goes_12 : decode cX4_goes 12 = .ok (.invokevirtual 92, 3) := by decide +kernel
theorem dX4_goes_15 : decode cX4_goes 15 = .ok (.aload_n 0, 1) := by decide +kernel
theorem dX4_goes_16 : decode cX4_goes 16 = .ok (.getfield 75, 3) := by decide +kernel
theorem dX4_goes_19 : decode cX4_goes 19 = .ok (.istore_n 1, 1) := by decide +kernel
theorem dX4_goes_20 : decode cX4_goes 20 = .ok (.aload_n 0, 1) := by decide +kernel
theorem dX4_goes_21 : decode cX4_goes 21 = .ok (.iload_n 1, 1) := by decide +kernel
theorem dX4_goes_22 : decode cX4_goes 22 = .ok (.invokevirtual 96, 3) := by decide +kernel
theorem dX4_goes_25 : decode cX4_goes 25 = .ok (.istore_n 2, 1) := by decide +kernel
theorem dX4_goes_26 : decode cX4_goes 26 = .ok (.iconst 0, 1) := by decide +kernel
theorem dX4_goes_27 : decode cX4_goes 27 = .ok (.istore_n 3, 1) := by decide +kernel
theorem dX4_goes_28 : decode cX4_goes 28 = .ok (.iload_n 3, 1) := by decide +kernel
theorem dX4_goes_29 : decode cX4_goes 29 = .ok (.aload_n 0, 1) := by decide +kernel
theorem dX4_goes_30 : decode cX4_goes 30 = .ok (.getfield 7, 3) := by decide +kernel
theorem dX4_goes_33 : decode cX4_goes 33 = .ok (.iconst 0, 1) := by decide +kernel
theorem dX4_goes_34 : decode cX4_goes 34 = .ok (.iaload, 1) := by decide +kernel
theorem dX4_goes_35 : decode cX4_goes 35 = .ok (.if_icmp .ge 61, 3) := by decide +kernel
theorem dX4_goes_38 : decode cX4_goes 38 = .ok (.aload_n 0, 1) := by decide +kernel
theorem dX4_goes_39 : decode cX4_goes 39 = .ok (.getfield 7, 3) := by decide +kernel
theorem dX4_goes_42 : decode cX4_goes 42 = .ok (.iload_n 3, 1) := by decide +kernel
theorem dX4_goes_43 : decode cX4_goes 43 = .ok (.iconst 0, 1) := by decide +kernel
theorem dX4_goes_44 : decode cX4_goes 44 = .ok (.iload_n 2, 1) := by decide +kernel
theorem dX4_goes_45 : decode cX4_goes 45 = .ok (.iload_n 3, 1) := by decide +kernel
theorem dX4_goes_46 : decode cX4_goes 46 = .ok (.ishr, 1) := by decide +kernel
theorem dX4_goes_47 : decode cX4_goes 47 = .ok (.iconst 1, 1) := by decide +kernel
theorem dX4_goes_48 : decode cX4_goes 48 = .ok (.iand, 1) := by decide +kernel
theorem dX4_goes_49 : decode cX4_goes 49 = .ok (.invokestatic 143, 3) := by decide +kernel
theorem dX4_goes_52 : decode cX4_goes 52 = .ok (.aload_n 0, 1) := by decide +kernel
theorem dX4_goes_53 : decode cX4_goes 53 = .ok (.getfield 7, 3) := by decide +kernel
theorem dX4_goes_56 : decode cX4_goes 56 = .ok (.iload_n 3, 1) := by decide +kernel
theorem dX4_goes_57 : decode cX4_goes 57 = .ok (.iconst 1, 1) := by decide +kernel
theorem dX4_goes_58 : decode cX4_goes 58 = .ok (.iload_n 2, 1) := by decide +kernel
theorem dX4_goes_59 : decode cX4_goes 59 = .ok (.iload_n 3, 1) := by decide +kernel
theorem dX4_goes_60 : decode cX4_goes 60 = .ok (.invokestatic 78, 3) := by decide +kernel
theorem dX4_goes_63 : decode cX4_goes 63 = .ok (.invokestatic 143, 3) := by decide +kernel
theorem dX4_goes_66 : decode cX4_goes 66 = .ok (.aload_n 0, 1) := by decide +kernel
theorem dX4_goes_67 : decode cX4_goes 67 = .ok (.getfield 7, 3) := by decide +kernel
theorem dX4_goes_70 : decode cX4_goes 70 = .ok (.iload_n 3, 1) := by decide +kernel
theorem dX4_goes_71 : decode cX4_goes 71 = .ok (.iconst 5, 1) := by decide +kernel
theorem dX4_goes_72 : decode cX4_goes 72 = .ok (.aload_n 0, 1) := by decide +kernel
theorem dX4_goes_73 : decode cX4_goes 73 = .ok (.getfield 7, 3) := by decide +kernel
theorem dX4_goes_76 : decode cX4_goes 76 = .ok (.iload_n 3, 1) := by decide +kernel
theorem dX4_goes_77 : decode cX4_goes 77 = .ok (.iconst 5, 1) := by decide +kernel
theorem dX4_goes_78 : decode cX4_goes 78 = .ok (.invokestatic 56, 3) := by decide +kernel
theorem dX4_goes_81 : decode cX4_goes 81 = .ok (.iload_n 1, 1) := by decide +kernel
theorem dX4_goes_82 : decode cX4_goes 82 = .ok (.iload_n 3, 1) := by decide +kernel
theorem dX4_goes_83 : decode cX4_goes 83 = .ok (.ishr, 1) := by decide +kernel
theorem dX4_goes_84 : decode cX4_goes 84 = .ok (.iconst 1, 1) := by decide +kernel
theorem dX4_goes_85 : decode cX4_goes 85 = .ok (.iand, 1) := by decide +kernel
theorem dX4_goes_86 : decode cX4_goes 86 = .ok (.iadd, 1) := by decide +kernel
theorem dX4_goes_87 : decode cX4_goes 87 = .ok (.invokestatic 143, 3) := by decide +kernel
theorem dX4_goes_90 : decode cX4_goes 90 = .ok (.iinc 3 1, 3) := by decide +kernel
theorem dX4_goes_93 : decode cX4_goes 93 = .ok (.goto (-65), 3) := by decide +kernel
theorem dX4_goes_96 : decode cX4_goes 96 = .ok (.aload_n 0, 1) := by decide +kernel
theorem dX4_goes_97 : decode cX4_goes 97 = .ok (.getfield 7, 3) := by decide +kernel
theorem dX4_goes_100 : decode cX4_goes 100 = .ok (.iconst 2, 1) := by decide +kernel
theorem dX4_goes_101 : decode cX4_goes 101 = .ok (.dup2, 1) := by decide +kernel
theorem dX4_goes_102 : decode cX4_goes 102 = .ok (.iaload, 1) := by decide +kernel
theorem dX4_goes_103 : decode cX4_goes 103 = .ok (.iconst 1, 1) := by decide +kernel
theorem dX4_goes_104 : decode cX4_goes 104 = .ok (.iadd, 1) := by decide +kernel
theorem dX4_goes_105 : decode cX4_goes 105 = .ok (.iastore, 1) := by decide +kernel
theorem dX4_goes_106 : decode cX4_goes 106 = .ok (.aload_n 0, 1) := by decide +kernel
theorem dX4_goes_107 : decode cX4_goes 107 = .ok (.getfield 7, 3) := by decide +kernel
theorem dX4_goes_110 : decode cX4_goes 110 = .ok (.iconst 3, 1) := by decide +kernel
theorem dX4_goes_111 : decode cX4_goes 111 = .ok (.dup2, 1) := by decide +kernel
theorem dX4_goes_112 : decode cX4_goes 112 = .ok (.iaload, 1) := by decide +kernel
theorem dX4_goes_113 : decode cX4_goes 113 = .ok (.iload_n 1, 1) := by decide +kernel
theorem dX4_goes_114 : decode cX4_goes 114 = .ok (.invokestatic 103, 3) := by decide +kernel
theorem dX4_goes_117 : decode cX4_goes 117 = .ok (.iadd, 1) := by decide +kernel
theorem dX4_goes_118 : decode cX4_goes 118 = .ok (.iastore, 1) := by decide +kernel
theorem dX4_goes_119 : decode cX4_goes 119 = .ok (.iload_n 1, 1) := by decide +kernel
theorem dX4_goes_120 : decode cX4_goes 120 = .ok (.invokestatic 103, 3) := by decide +kernel
theorem dX4_goes_123 : decode cX4_goes 123 = .ok (.ireturn, 1) := by decide +kernel
set_option maxRecDepth 20000 in
theorem ggX4_runs_X4_goes : GoodIn wsX4_runs wsX4_goes := goodIn_r _ [5, 6, 7, 8, 9, 4, 10, 11, 12, 13, 14, 15, 16, 17, 18, 19, 20, 21, 22, 23, 24, 25, 26, 27, 28, 29, 30, 31, 32, 33, 34, 35, 36, 37, 38, 39, 40, 41, 42, 43, 44, 45, 46, 47, 48, 49, 50, 51, 52, 53, 54, 55, 56, 57, 58, 59, 60, 61, 62, 63, 64, 65, 66, 67, 68] (by decide +kernel) (by decide +kernel)
set_option maxRecDepth 20000 in
theorem gX4_runs_X4_goes : GoodIn wsX4_runs (wsV RX4 164 RX4 yX4_goes wsX4_goes) := goodIn_app (goodIn_of _ (by decide +kernel)) ggX4_runs_X4_goes
theorem dX4_runs_0 : decode cX4_runs 0 = .ok (.iconst 0, 1) := by decide +kernel
theorem dX4_runs_1 : decode cX4_runs 1 = .ok (.istore_n 2, 1) := by decide +kernel
theorem dX4_runs_2 : decode cX4_runs 2 = .ok (.iconst 0, 1) := by decide +kernel
theorem dX4_runs_3 : decode cX4_runs 3 = .ok (.istore_n 3, 1) := by decide +kernel
theorem dX4_runs_4 : decode cX4_runs 4 = .ok (.iload_n 3, 1) := by decide +kernel
theorem dX4_runs_5 : decode cX4_runs 5 = .ok (.iload_n 1, 1) := by decide +kernel
theorem dX4_runs_6 : decode cX4_runs 6 = .ok (.if_icmp .ge 16, 3) := by decide +kernel
theorem dX4_runs_9 : decode cX4_runs 9 = .ok (.iload_n 2, 1) := by decide +kernel
theorem dX4_runs_10 : decode cX4_runs 10 = .ok (.aload_n 0, 1) := by decide +kernel
theorem dX4_runs_11 : decode cX4_runs 11 = .ok (.invokevirtual 164, 3) := by decide +kernel
theorem dX4_runs_14 : decode cX4_runs 14 = .ok (.iadd, 1) := by decide +kernel
theorem dX4_runs_15 : decode cX4_runs 15 = .ok (.istore_n 2, 1) := by decide +kernel
theorem dX4_runs_16 : decode cX4_runs 16 = .ok (.iinc 3 1, 3) := by decide +kernel
theorem dX4_runs_19 : decode cX4_runs 19 = .ok (.goto (-15), 3) := by decide +kernel
theorem dX4_runs_22 : decode cX4_runs 22 = .ok (.iload_n 2, 1) := by decide +kernel
theorem dX4_runs_23 : decode cX4_runs 23 = .ok (.ireturn, 1) := by decide +kernel
set_option maxRecDepth 20000 in
theorem ggX4_run_X4_in : GoodIn wsX4_run wsX4_in := goodIn_r _ [4] (by decide +kernel) (by decide +kernel)
set_option maxRecDepth 20000 in
theorem gX4_run_X4_in : GoodIn wsX4_run (va_wsS RX4 52 yX4_in wsX4_in) := goodIn_app (goodIn_of _ (by decide +kernel)) ggX4_run_X4_in
set_option maxRecDepth 20000 in
theorem ggX4_run_X4_refuses : GoodIn wsX4_run wsX4_refuses := goodIn_r _ [8, 9, 59, 60, 61, 62, 63, 64, 65, 66, 67, 68, 69, 70, 71, 72, 73, 74, 75, 76, 77, 78, 79, 80, 81, 82, 83, 84, 85, 86] (by decide +kernel) (by decide +kernel)
set_option maxRecDepth 20000 in
theorem gX4_run_X4_refuses : GoodIn wsX4_run (wsV RX4 48 RX4 yX4_refuses wsX4_refuses) := goodIn_app (goodIn_of _ (by decide +kernel)) ggX4_run_X4_refuses
set_option maxRecDepth 20000 in
theorem ggX4_run_X4_saves : GoodIn wsX4_run wsX4_saves := goodIn_r _ [13, 14, 15, 16, 59, 60, 61, 62, 63, 64, 65, 66, 67, 68, 69, 70, 71, 72, 73, 74, 75, 76, 77, 78, 79, 80, 81, 82, 83, 84, 85, 86] (by decide +kernel) (by decide +kernel)
set_option maxRecDepth 20000 in
theorem gX4_run_X4_saves : GoodIn wsX4_run (wsV RX4 140 RX4 yX4_saves wsX4_saves) := goodIn_app (goodIn_of _ (by decide +kernel)) ggX4_run_X4_saves
set_option maxRecDepth 20000 in
theorem ggX4_run_X4_runs : GoodIn wsX4_run wsX4_runs := goodIn_r _ [20, 21, 22, 23, 3, 24, 16, 25, 26, 27, 28, 29, 30, 31, 32, 33, 34, 35, 36, 37, 38, 39, 40, 41, 42, 43, 44, 45, 46, 47, 48, 49, 50, 51, 52, 53, 54, 55, 56, 57, 58, 59, 60, 61, 62, 63, 64, 65, 66, 67, 68, 69, 70, 71, 72, 73, 74, 75, 76, 77, 78, 79, 80, 81, 82, 83, 84, 85, 86] (by decide +kernel) (by decide +kernel)
set_option maxRecDepth 20000 in
theorem gX4_run_X4_runs : GoodIn wsX4_run (wsV RX4 167 RX4 yX4_runs wsX4_runs) := goodIn_app (goodIn_of _ (by decide +kernel)) ggX4_run_X4_runs
theorem dX4_run_0 : decode cX4_run 0 = .ok (.aload_n 0, 1) := by decide +kernel
theorem dX4_run_1 : decode cX4_run 1 = .ok (.iload_n 1, 1) := by decide +kernel
theorem dX4_run_2 : decode cX4_run 2 = .ok (.iconst 1, 1) := by decide +kernel
theorem dX4_run_3 : decode cX4_run 3 = .ok (.bipush 99, 2) := by decide +kernel
theorem dX4_run_5 : decode cX4_run 5 = .ok (.invokestatic 52, 3) := by decide +kernel
theorem dX4_run_8 : decode cX4_run 8 = .ok (.ifCond .eq 7, 3) := by decide +kernel
theorem dX4_run_11 : decode cX4_run 11 = .ok (.iconst 0, 1) := by decide +kernel
theorem dX4_run_12 : decode cX4_run 12 = .ok (.goto 4, 3) := by decide +kernel
theorem dX4_run_15 : decode cX4_run 15 = .ok (.iconst 1, 1) := by decide +kernel
theorem dX4_run_16 : decode cX4_run 16 = .ok (.invokevirtual 48, 3) := by decide +kernel
theorem dX4_run_19 : decode cX4_run 19 = .ok (.ifCond .eq 5, 3) := by decide +kernel
theorem dX4_run_22 : decode cX4_run 22 = .ok (.iconst 0, 1) := by decide +kernel
theorem dX4_run_23 : decode cX4_run 23 = .ok (.ireturn, 1) := by decide +kernel
theorem dX4_run_24 : decode cX4_run 24 = .ok (.aload_n 0, 1) := by decide +kernel
theorem dX4_run_25 : decode cX4_run 25 = .ok (.invokevirtual 140, 3) := by decide +kernel
theorem dX4_run_28 : decode cX4_run 28 = .ok (.aload_n 0, 1) := by decide +kernel
theorem dX4_run_29 : decode cX4_run 29 = .ok (.iload_n 1, 1) := by decide +kernel
theorem dX4_run_30 : decode cX4_run 30 = .ok (.invokevirtual 167, 3) := by decide +kernel
theorem dX4_run_33 : decode cX4_run 33 = .ok (.ireturn, 1) := by decide +kernel
set_option maxRecDepth 20000 in
theorem ggX4_quietIn_X4_codeOf : GoodIn wsX4_quietIn wsX4_codeOf := goodIn_r _ [6, 7, 8, 5, 9] (by decide +kernel) (by decide +kernel)
set_option maxRecDepth 20000 in
theorem gX4_quietIn_X4_codeOf : GoodIn wsX4_quietIn (va_wsS RX4 115 yX4_codeOf wsX4_codeOf) := goodIn_app (goodIn_of _ (by decide +kernel)) ggX4_quietIn_X4_codeOf
set_option maxRecDepth 20000 in
theorem ggX4_quietIn_X4_isQuiet : GoodIn wsX4_quietIn wsX4_isQuiet := goodIn_r _ [12, 13, 14, 5, 15, 16, 17, 18, 7, 8, 9, 19, 20, 21] (by decide +kernel) (by decide +kernel)
set_option maxRecDepth 20000 in
theorem gX4_quietIn_X4_isQuiet : GoodIn wsX4_quietIn (va_wsS RX4 88 yX4_isQuiet wsX4_isQuiet) := goodIn_app (goodIn_of _ (by decide +kernel)) ggX4_quietIn_X4_isQuiet
set_option maxRecDepth 20000 in
theorem ggX4_quietIn_X4_ticks : GoodIn wsX4_quietIn wsX4_ticks := goodIn_r _ [25, 26, 1, 13, 14, 5, 15, 16, 17, 18, 7, 8, 9, 19, 20, 21, 27, 28, 29, 34, 35, 36, 37, 38, 39, 40, 41, 42, 43, 44, 45, 46, 47, 48, 49, 50, 51, 52, 53, 54, 55, 56, 57, 58, 59, 60, 61] (by decide +kernel) (by decide +kernel)
set_option maxRecDepth 20000 in
theorem gX4_quietIn_X4_ticks : GoodIn wsX4_quietIn (wsV RX4 92 RX4 yX4_ticks wsX4_ticks) := goodIn_app (goodIn_of _ (by decide +kernel)) ggX4_quietIn_X4_ticks
set_option maxRecDepth 20000 in
theorem ggX4_quietIn_X4_changed : GoodIn wsX4_quietIn wsX4_changed := goodIn_r _ [33, 26, 34, 35, 36, 37, 38, 39, 40, 41, 42, 43, 44, 45, 46, 47, 48, 49, 50, 51, 52, 53, 54, 55, 56, 57, 58, 59, 60, 61] (by decide +kernel) (by decide +kernel)
set_option maxRecDepth 20000 in
theorem gX4_quietIn_X4_changed : GoodIn wsX4_quietIn (wsV RX4 96 RX4 yX4_changed wsX4_changed) := goodIn_app (goodIn_of _ (by decide +kernel)) ggX4_quietIn_X4_changed
set_option maxRecDepth 20000 in
theorem ggX4_quietIn_X4_upOf : GoodIn wsX4_quietIn wsX4_upOf := goodIn_r _ [15] (by decide +kernel) (by decide +kernel)
set_option maxRecDepth 20000 in
theorem gX4_quietIn_X4_upOf : GoodIn wsX4_quietIn (va_wsS RX4 64 yX4_upOf wsX4_upOf) := goodIn_app (goodIn_of _ (by decide +kernel)) ggX4_quietIn_X4_upOf
theorem dX4_quietIn_0 : decode cX4_quietIn 0 = .ok (.aload_n 1, 1) := by decide +kernel
theorem dX4_quietIn_1 : decode cX4_quietIn 1 = .ok (.invokestatic 115, 3) := by decide +kernel
theorem dX4_quietIn_4 : decode cX4_quietIn 4 = .ok (.istore_n 2, 1) := by decide +kernel
theorem dX4_quietIn_5 : decode cX4_quietIn 5 = .ok (.iconst 0, 1) := by decide +kernel
theorem dX4_quietIn_6 : decode cX4_quietIn 6 = .ok (.istore_n 3, 1) := by decide +kernel
theorem dX4_quietIn_7 : decode cX4_quietIn 7 = .ok (.iload_n 3, 1) := by decide +kernel
theorem dX4_quietIn_8 : decode cX4_quietIn 8 = .ok (.sipush 200, 3) := by decide +kernel
theorem dX4_quietIn_11 : decode cX4_quietIn 11 = .ok (.if_icmp .ge 32, 3) := by decide +kernel
theorem dX4_quietIn_14 : decode cX4_quietIn 14 = .ok (.aload_n 1, 1) := by decide +kernel
theorem dX4_quietIn_15 : decode cX4_quietIn 15 = .ok (.iload_n 2, 1) := by decide +kernel
theorem dX4_quietIn_16 : decode cX4_quietIn 16 = .ok (.invokestatic 88, 3) := by decide +kernel
theorem dX4_quietIn_19 : decode cX4_quietIn 19 = .ok (.ifCond .ne 24, 3) := by decide +kernel
theorem dX4_quietIn_22 : decode cX4_quietIn 22 = .ok (.aload_n 0, 1) := by decide +kernel
theorem dX4_quietIn_23 : decode cX4_quietIn 23 = .ok (.aload_n 1, 1) := by decide +kernel
theorem dX4_quietIn_24 : decode cX4_quietIn 24 = .ok (.iload_n 2, 1) := by decide +kernel
theorem dX4_quietIn_25 : decode cX4_quietIn 25 = .ok (.invokevirtual 92, 3) := by decide +kernel
theorem dX4_quietIn_28 : decode cX4_quietIn 28 = .ok (.aload_n 0, 1) := by decide +kernel
theorem dX4_quietIn_29 : decode cX4_quietIn 29 = .ok (.aload_n 0, 1) := by decide +kernel
theorem dX4_quietIn_30 : decode cX4_quietIn 30 = .ok (.getfield 75, 3) := by decide +kernel
theorem dX4_quietIn_33 : decode cX4_quietIn 33 = .ok (.invokevirtual 96, 3) := by decide +kernel
theorem dX4_quietIn_36 : decode cX4_quietIn 36 = .ok (.istore_n 2, 1) := by decide +kernel
theorem dX4_quietIn_37 : decode cX4_quietIn 37 = .ok (.iinc 3 1, 3) := by decide +kernel
theorem dX4_quietIn_40 : decode cX4_quietIn 40 = .ok (.goto (-33), 3) := by decide +kernel
theorem dX4_quietIn_43 : decode cX4_quietIn 43 = .ok (.aload_n 0, 1) := by decide +kernel
theorem dX4_quietIn_44 : decode cX4_quietIn 44 = .ok (.iload_n 2, 1) := by decide +kernel
theorem dX4_quietIn_45 : decode cX4_quietIn 45 = .ok (.invokestatic 64, 3) := by decide +kernel
theorem dX4_quietIn_48 : decode cX4_quietIn 48 = .ok (.putfield 170, 3) := by decide +kernel
theorem dX4_quietIn_51 : decode cX4_quietIn 51 = .ok (.aload_n 1, 1) := by decide +kernel
theorem dX4_quietIn_52 : decode cX4_quietIn 52 = .ok (.iload_n 2, 1) := by decide +kernel
theorem dX4_quietIn_53 : decode cX4_quietIn 53 = .ok (.invokestatic 88, 3) := by decide +kernel
theorem dX4_quietIn_56 : decode cX4_quietIn 56 = .ok (.ifCond .eq 7, 3) := by decide +kernel
theorem dX4_quietIn_59 : decode cX4_quietIn 59 = .ok (.iload_n 3, 1) := by decide +kernel
theorem dX4_quietIn_60 : decode cX4_quietIn 60 = .ok (.goto 4, 3) := by decide +kernel
theorem dX4_quietIn_63 : decode cX4_quietIn 63 = .ok (.iconst (-1), 1) := by decide +kernel
theorem dX4_quietIn_64 : decode cX4_quietIn 64 = .ok (.ireturn, 1) := by decide +kernel
set_option maxRecDepth 20000 in
theorem ggX4_settle_X4_quietIn : GoodIn wsX4_settle wsX4_quietIn := goodIn_r _ [6, 7, 8, 9, 10, 5, 11, 12, 13, 14, 15, 16, 17, 18, 19, 20, 21, 22, 23, 24, 25, 26, 27, 28, 29, 30, 31, 32, 33, 34, 35, 36, 37, 38, 64, 65, 66, 67, 68, 69, 70, 71, 72, 73, 74, 75, 76, 77, 78, 79, 80, 81, 82, 83, 84, 85, 86, 87, 88, 89, 90, 91] (by decide +kernel) (by decide +kernel)
set_option maxRecDepth 20000 in
theorem gX4_settle_X4_quietIn : GoodIn wsX4_settle (wsV RX4 173 RX4 yX4_quietIn wsX4_quietIn) := goodIn_app (goodIn_of _ (by decide +kernel)) ggX4_settle_X4_quietIn
set_option maxRecDepth 20000 in
theorem ggX4_settle_X4_refuses : GoodIn wsX4_settle wsX4_refuses := goodIn_r _ [42, 43, 64, 65, 66, 67, 68, 69, 70, 71, 72, 73, 74, 75, 76, 77, 78, 79, 80, 81, 82, 83, 84, 85, 86, 87, 88, 89, 90, 91] (by decide +kernel) (by decide +kernel)
set_option maxRecDepth 20000 in
theorem gX4_settle_X4_refuses : GoodIn wsX4_settle (wsV RX4 48 RX4 yX4_refuses wsX4_refuses) := goodIn_app (goodIn_of _ (by decide +kernel)) ggX4_settle_X4_refuses
set_option maxRecDepth 20000 in
theorem ggX4_settle_X4_saves : GoodIn wsX4_settle wsX4_saves := goodIn_r _ [47, 48, 49, 1, 64, 65, 66, 67, 68, 69, 70, 71, 72, 73, 74, 75, 76, 77, 78, 79, 80, 81, 82, 83, 84, 85, 86, 87, 88, 89, 90, 91] (by decide +kernel) (by decide +kernel)
set_option maxRecDepth 20000 in
theorem gX4_settle_X4_saves : GoodIn wsX4_settle (wsV RX4 140 RX4 yX4_saves wsX4_saves) := goodIn_app (goodIn_of _ (by decide +kernel)) ggX4_settle_X4_saves
set_option maxRecDepth 20000 in
theorem ggX4_settle_X4_runs : GoodIn wsX4_settle wsX4_runs := goodIn_r _ [53, 54, 55, 56, 5, 57, 1, 7, 9, 10, 11, 12, 13, 14, 27, 28, 29, 30, 31, 18, 19, 20, 21, 22, 23, 24, 25, 26, 32, 33, 34, 35, 36, 37, 38, 58, 59, 60, 61, 62, 63, 64, 65, 66, 67, 68, 69, 70, 71, 72, 73, 74, 75, 76, 77, 78, 79, 80, 81, 82, 83, 84, 85, 86, 87, 88, 89, 90, 91] (by decide +kernel) (by decide +kernel)
set_option maxRecDepth 20000 in
theorem gX4_settle_X4_runs : GoodIn wsX4_settle (wsV RX4 167 RX4 yX4_runs wsX4_runs) := goodIn_app (goodIn_of _ (by decide +kernel)) ggX4_settle_X4_runs
theorem dX4_settle_0 : decode cX4_settle 0 = .ok (.aload_n 0, 1) := by decide +kernel
theorem dX4_settle_1 : decode cX4_settle 1 = .ok (.aload_n 0, 1) := by decide +kernel
theorem dX4_settle_2 : decode cX4_settle 2 = .ok (.getfield 7, 3) := by decide +kernel
theorem dX4_settle_5 : decode cX4_settle 5 = .ok (.invokevirtual 173, 3) := by decide +kernel
theorem dX4_settle_8 : decode cX4_settle 8 = .ok (.istore_n 1, 1) := by decide +kernel
theorem dX4_settle_9 : decode cX4_settle 9 = .ok (.aload_n 0, 1) := by decide +kernel
theorem dX4_settle_10 : decode cX4_settle 10 = .ok (.iload_n 1, 1) := by decide +kernel
theorem dX4_settle_11 : decode cX4_settle 11 = .ok (.iconst (-1), 1) := by decide +kernel
theorem dX4_settle_12 : decode cX4_settle 12 = .ok (.if_icmp .ne 7, 3) := by decide +kernel
theorem dX4_settle_15 : decode cX4_settle 15 = .ok (.iconst 1, 1) := by decide +kernel
theorem dX4_settle_16 : decode cX4_settle 16 = .ok (.goto 4, 3) := by decide +kernel
theorem dX4_settle_19 : decode cX4_settle 19 = .ok (.iconst 0, 1) := by decide +kernel
theorem dX4_settle_20 : decode cX4_settle 20 = .ok (.invokevirtual 48, 3) := by decide +kernel
theorem dX4_settle_23 : decode cX4_settle 23 = .ok (.ifCond .eq 5, 3) := by decide +kernel
theorem dX4_settle_26 : decode cX4_settle 26 = .ok (.iconst 0, 1) := by decide +kernel
theorem dX4_settle_27 : decode cX4_settle 27 = .ok (.ireturn, 1) := by decide +kernel
theorem dX4_settle_28 : decode cX4_settle 28 = .ok (.aload_n 0, 1) := by decide +kernel
theorem dX4_settle_29 : decode cX4_settle 29 = .ok (.invokevirtual 140, 3) := by decide +kernel
theorem dX4_settle_32 : decode cX4_settle 32 = .ok (.aload_n 0, 1) := by decide +kernel
theorem dX4_settle_33 : decode cX4_settle 33 = .ok (.iload_n 1, 1) := by decide +kernel
theorem dX4_settle_34 : decode cX4_settle 34 = .ok (.invokevirtual 167, 3) := by decide +kernel
theorem dX4_settle_37 : decode cX4_settle 37 = .ok (.istore_n 2, 1) := by decide +kernel
theorem dX4_settle_38 : decode cX4_settle 38 = .ok (.iload_n 2, 1) := by decide +kernel
theorem dX4_settle_39 : decode cX4_settle 39 = .ok (.ifCond .ge 7, 3) := by decide +kernel
theorem dX4_settle_42 : decode cX4_settle 42 = .ok (.iconst 0, 1) := by decide +kernel
theorem dX4_settle_43 : decode cX4_settle 43 = .ok (.goto 4, 3) := by decide +kernel
theorem dX4_settle_46 : decode cX4_settle 46 = .ok (.iload_n 1, 1) := by decide +kernel
theorem dX4_settle_47 : decode cX4_settle 47 = .ok (.ireturn, 1) := by decide +kernel
set_option maxRecDepth 20000 in
theorem ggX4_reset_X4_saves : GoodIn wsX4_reset wsX4_saves := goodIn_r _ [7, 8, 9, 2, 16, 17, 18, 19, 20, 21, 22, 23, 24, 25, 26, 27, 28, 29, 30, 31, 32, 33, 34, 35, 36, 37, 38, 39, 40, 41, 42, 43] (by decide +kernel) (by decide +kernel)
set_option maxRecDepth 20000 in
theorem gX4_reset_X4_saves : GoodIn wsX4_reset (wsV RX4 140 RX4 yX4_saves wsX4_saves) := goodIn_app (goodIn_of _ (by decide +kernel)) ggX4_reset_X4_saves
set_option maxRecDepth 20000 in
theorem ggX4_reset_X4_of : GoodIn wsX4_reset wsX4_of := goodIn_r _ [12] (by decide +kernel) (by decide +kernel)
set_option maxRecDepth 20000 in
theorem gX4_reset_X4_of : GoodIn wsX4_reset (va_wsS RX4 56 yX4_of wsX4_of) := goodIn_app (goodIn_of _ (by decide +kernel)) ggX4_reset_X4_of
set_option maxRecDepth 20000 in
theorem ggX4_reset_X4_puts : GoodIn wsX4_reset wsX4_puts := goodIn_r _ [15] (by decide +kernel) (by decide +kernel)
set_option maxRecDepth 20000 in
theorem gX4_reset_X4_puts : GoodIn wsX4_reset (va_wsS RX4 143 yX4_puts wsX4_puts) := goodIn_app (goodIn_of _ (by decide +kernel)) ggX4_reset_X4_puts
theorem dX4_reset_0 : decode cX4_reset 0 = .ok (.aload_n 0, 1) := by decide +kernel
theorem dX4_reset_1 : decode cX4_reset 1 = .ok (.iconst 0, 1) := by decide +kernel
theorem dX4_reset_2 : decode cX4_reset 2 = .ok (.putfield 41, 3) := by decide +kernel
theorem dX4_reset_5 : decode cX4_reset 5 = .ok (.aload_n 0, 1) := by decide +kernel
theorem dX4_reset_6 : decode cX4_reset 6 = .ok (.invokevirtual 140, 3) := by decide +kernel
theorem dX4_reset_9 : decode cX4_reset 9 = .ok (.iconst 0, 1) := by decide +kernel
theorem dX4_reset_10 : decode cX4_reset 10 = .ok (.istore_n 1, 1) := by decide +kernel
theorem dX4_reset_11 : decode cX4_reset 11 = .ok (.iconst 0, 1) := by decide +kernel
theorem dX4_reset_12 : decode cX4_reset 12 = .ok (.istore_n 2, 1) := by decide +kernel
theorem dX4_reset_13 : decode cX4_reset 13 = .ok (.iload_n 2, 1) := by decide +kernel
theorem dX4_reset_14 : decode cX4_reset 14 = .ok (.aload_n 0, 1) := by decide +kernel
theorem dX4_reset_15 : decode cX4_reset 15 = .ok (.getfield 7, 3) := by decide +kernel
theorem dX4_reset_18 : decode cX4_reset 18 = .ok (.iconst 0, 1) := by decide +kernel
theorem dX4_reset_19 : decode cX4_reset 19 = .ok (.iaload, 1) := by decide +kernel
theorem dX4_reset_20 : decode cX4_reset 20 = .ok (.if_icmp .ge 41, 3) := by decide +kernel
theorem dX4_reset_23 : decode cX4_reset 23 = .ok (.iload_n 1, 1) := by decide +kernel
theorem dX4_reset_24 : decode cX4_reset 24 = .ok (.aload_n 0, 1) := by decide +kernel
theorem dX4_reset_25 : decode cX4_reset 25 = .ok (.getfield 7, 3) := by decide +kernel
theorem dX4_reset_28 : decode cX4_reset 28 = .ok (.iload_n 2, 1) := by decide +kernel
theorem dX4_reset_29 : decode cX4_reset 29 = .ok (.iconst 0, 1) := by decide +kernel
theorem dX4_reset_30 : decode cX4_reset 30 = .ok (.invokestatic 56, 3) := by decide +kernel
theorem dX4_reset_33 : decode cX4_reset 33 = .ok (.iadd, 1) := by decide +kernel
theorem dX4_reset_34 : decode cX4_reset 34 = .ok (.istore_n 1, 1) := by decide +kernel
theorem dX4_reset_35 : decode cX4_reset 35 = .ok (.aload_n 0, 1) := by decide +kernel
theorem dX4_reset_36 : decode cX4_reset 36 = .ok (.getfield 7, 3) := by decide +kernel
theorem dX4_reset_39 : decode cX4_reset 39 = .ok (.iload_n 2, 1) := by decide +kernel
theorem dX4_reset_40 : decode cX4_reset 40 = .ok (.iconst 0, 1) := by decide +kernel
theorem dX4_reset_41 : decode cX4_reset 41 = .ok (.iconst 0, 1) := by decide +kernel
theorem dX4_reset_42 : decode cX4_reset 42 = .ok (.invokestatic 143, 3) := by decide +kernel
theorem dX4_reset_45 : decode cX4_reset 45 = .ok (.aload_n 0, 1) := by decide +kernel
theorem dX4_reset_46 : decode cX4_reset 46 = .ok (.getfield 7, 3) := by decide +kernel
theorem dX4_reset_49 : decode cX4_reset 49 = .ok (.iload_n 2, 1) := by decide +kernel
theorem dX4_reset_50 : decode cX4_reset 50 = .ok (.iconst 1, 1) := by decide +kernel
theorem dX4_reset_51 : decode cX4_reset 51 = .ok (.iconst 0, 1) := by decide +kernel
theorem dX4_reset_52 : decode cX4_reset 52 = .ok (.invokestatic 143, 3) := by decide +kernel
theorem dX4_reset_55 : decode cX4_reset 55 = .ok (.iinc 2 1, 3) := by decide +kernel
theorem dX4_reset_58 : decode cX4_reset 58 = .ok (.goto (-45), 3) := by decide +kernel
theorem dX4_reset_61 : decode cX4_reset 61 = .ok (.iload_n 1, 1) := by decide +kernel
theorem dX4_reset_62 : decode cX4_reset 62 = .ok (.ireturn, 1) := by decide +kernel
set_option maxRecDepth 20000 in
theorem ggX4_append_X4_in : GoodIn wsX4_append wsX4_in := goodIn_r _ [6] (by decide +kernel) (by decide +kernel)
set_option maxRecDepth 20000 in
theorem gX4_append_X4_in : GoodIn wsX4_append (va_wsS RX4 52 yX4_in wsX4_in) := goodIn_app (goodIn_of _ (by decide +kernel)) ggX4_append_X4_in
set_option maxRecDepth 20000 in
theorem ggX4_append_X4_refuses : GoodIn wsX4_append wsX4_refuses := goodIn_r _ [10, 11, 12, 13, 14, 15, 16, 17, 18, 19, 20, 21, 22, 23, 24, 25, 26, 27, 28, 29, 30, 31, 32, 33, 34, 35, 36, 37, 38, 39] (by decide +kernel) (by decide +kernel)
set_option maxRecDepth 20000 in
theorem gX4_append_X4_refuses : GoodIn wsX4_append (wsV RX4 48 RX4 yX4_refuses wsX4_refuses) := goodIn_app (goodIn_of _ (by decide +kernel)) ggX4_append_X4_refuses
theorem dX4_append_0 : decode cX4_append 0 = .ok (.aload_n 0, 1) := by decide +kernel
theorem dX4_append_1 : decode cX4_append 1 = .ok (.iload_n 1, 1) := by decide +kernel
theorem dX4_append_2 : decode cX4_append 2 = .ok (.bipush 33, 2) := by decide +kernel
theorem dX4_append_4 : decode cX4_append 4 = .ok (.bipush 126, 2) := by decide +kernel
theorem dX4_append_6 : decode cX4_append 6 = .ok (.invokestatic 52, 3) := by decide +kernel
theorem dX4_append_9 : decode cX4_append 9 = .ok (.ifCond .ne 7, 3) := by decide +kernel
theorem dX4_append_12 : decode cX4_append 12 = .ok (.iconst 1, 1) := by decide +kernel
theorem dX4_append_13 : decode cX4_append 13 = .ok (.goto 17, 3) := by decide +kernel
theorem dX4_append_16 : decode cX4_append 16 = .ok (.aload_n 0, 1) := by decide +kernel
theorem dX4_append_17 : decode cX4_append 17 = .ok (.getfield 176, 3) := by decide +kernel
theorem dX4_append_20 : decode cX4_append 20 = .ok (.bipush 60, 2) := by decide +kernel
theorem dX4_append_22 : decode cX4_append 22 = .ok (.if_icmp .ne 7, 3) := by decide +kernel
theorem dX4_append_25 : decode cX4_append 25 = .ok (.iconst 2, 1) := by decide +kernel
theorem dX4_append_26 : decode cX4_append 26 = .ok (.goto 4, 3) := by decide +kernel
theorem dX4_append_29 : decode cX4_append 29 = .ok (.iconst 0, 1) := by decide +kernel
theorem dX4_append_30 : decode cX4_append 30 = .ok (.invokevirtual 48, 3) := by decide +kernel
theorem dX4_append_33 : decode cX4_append 33 = .ok (.ifCond .eq 5, 3) := by decide +kernel
theorem dX4_append_36 : decode cX4_append 36 = .ok (.iconst 0, 1) := by decide +kernel
theorem dX4_append_37 : decode cX4_append 37 = .ok (.ireturn, 1) := by decide +kernel
theorem dX4_append_38 : decode cX4_append 38 = .ok (.aload_n 0, 1) := by decide +kernel
theorem dX4_append_39 : decode cX4_append 39 = .ok (.getfield 19, 3) := by decide +kernel
theorem dX4_append_42 : decode cX4_append 42 = .ok (.aload_n 0, 1) := by decide +kernel
theorem dX4_append_43 : decode cX4_append 43 = .ok (.getfield 176, 3) := by decide +kernel
theorem dX4_append_46 : decode cX4_append 46 = .ok (.iload_n 1, 1) := by decide +kernel
theorem dX4_append_47 : decode cX4_append 47 = .ok (.i2c, 1) := by decide +kernel
theorem dX4_append_48 : decode cX4_append 48 = .ok (.castore, 1) := by decide +kernel
theorem dX4_append_49 : decode cX4_append 49 = .ok (.aload_n 0, 1) := by decide +kernel
theorem dX4_append_50 : decode cX4_append 50 = .ok (.dup, 1) := by decide +kernel
theorem dX4_append_51 : decode cX4_append 51 = .ok (.getfield 176, 3) := by decide +kernel
theorem dX4_append_54 : decode cX4_append 54 = .ok (.iconst 1, 1) := by decide +kernel
theorem dX4_append_55 : decode cX4_append 55 = .ok (.iadd, 1) := by decide +kernel
theorem dX4_append_56 : decode cX4_append 56 = .ok (.putfield 176, 3) := by decide +kernel
theorem dX4_append_59 : decode cX4_append 59 = .ok (.aload_n 0, 1) := by decide +kernel
theorem dX4_append_60 : decode cX4_append 60 = .ok (.getfield 176, 3) := by decide +kernel
theorem dX4_append_63 : decode cX4_append 63 = .ok (.ireturn, 1) := by decide +kernel
theorem dX4_clearBuffer_0 : decode cX4_clearBuffer 0 = .ok (.aload_n 0, 1) := by decide +kernel
theorem dX4_clearBuffer_1 : decode cX4_clearBuffer 1 = .ok (.iconst 0, 1) := by decide +kernel
theorem dX4_clearBuffer_2 : decode cX4_clearBuffer 2 = .ok (.putfield 41, 3) := by decide +kernel
theorem dX4_clearBuffer_5 : decode cX4_clearBuffer 5 = .ok (.aload_n 0, 1) := by decide +kernel
theorem dX4_clearBuffer_6 : decode cX4_clearBuffer 6 = .ok (.getfield 176, 3) := by decide +kernel
theorem dX4_clearBuffer_9 : decode cX4_clearBuffer 9 = .ok (.istore_n 1, 1) := by decide +kernel
theorem dX4_clearBuffer_10 : decode cX4_clearBuffer 10 = .ok (.aload_n 0, 1) := by decide +kernel
theorem dX4_clearBuffer_11 : decode cX4_clearBuffer 11 = .ok (.iconst 0, 1) := by decide +kernel
theorem dX4_clearBuffer_12 : decode cX4_clearBuffer 12 = .ok (.putfield 176, 3) := by decide +kernel
theorem dX4_clearBuffer_15 : decode cX4_clearBuffer 15 = .ok (.iload_n 1, 1) := by decide +kernel
theorem dX4_clearBuffer_16 : decode cX4_clearBuffer 16 = .ok (.ireturn, 1) := by decide +kernel
set_option maxRecDepth 20000 in
theorem ggX4_sees_X4_in : GoodIn wsX4_sees wsX4_in := goodIn_r _ [7] (by decide +kernel) (by decide +kernel)
set_option maxRecDepth 20000 in
theorem gX4_sees_X4_in : GoodIn wsX4_sees (va_wsS RX4 52 yX4_in wsX4_in) := goodIn_app (goodIn_of _ (by decide +kernel)) ggX4_sees_X4_in
theorem dX4_sees_0 : decode cX4_sees 0 = .ok (.aload_n 0, 1) := by decide +kernel
theorem dX4_sees_1 : decode cX4_sees 1 = .ok (.getfield 179, 3) := by decide +kernel
theorem dX4_sees_4 : decode cX4_sees 4 = .ok (.aload_n 0, 1) := by decide +kernel
theorem dX4_sees_5 : decode cX4_sees 5 = .ok (.getfield 176, 3) := by decide +kernel
theorem dX4_sees_8 : decode cX4_sees 8 = .ok (.if_icmp .ge 24, 3) := by decide +kernel
theorem dX4_sees_11 : decode cX4_sees 11 = .ok (.aload_n 0, 1) := by decide +kernel
theorem dX4_sees_12 : decode cX4_sees 12 = .ok (.getfield 19, 3) := by decide +kernel
theorem dX4_sees_15 : decode cX4_sees 15 = .ok (.aload_n 0, 1) := by decide +kernel
theorem dX4_sees_16 : decode cX4_sees 16 = .ok (.getfield 179, 3) := by decide +kernel
theorem dX4_sees_19 : decode cX4_sees 19 = .ok (.caload, 1) := by decide +kernel
theorem dX4_sees_20 : decode cX4_sees 20 = .ok (.iload_n 1, 1) := by decide +kernel
theorem dX4_sees_21 : decode cX4_sees 21 = .ok (.iload_n 2, 1) := by decide +kernel
theorem dX4_sees_22 : decode cX4_sees 22 = .ok (.invokestatic 52, 3) := by decide +kernel
theorem dX4_sees_25 : decode cX4_sees 25 = .ok (.ifCond .eq 7, 3) := by decide +kernel
theorem dX4_sees_28 : decode cX4_sees 28 = .ok (.iconst 1, 1) := by decide +kernel
theorem dX4_sees_29 : decode cX4_sees 29 = .ok (.goto 4, 3) := by decide +kernel
theorem dX4_sees_32 : decode cX4_sees 32 = .ok (.iconst 0, 1) := by decide +kernel
theorem dX4_sees_33 : decode cX4_sees 33 = .ok (.ireturn, 1) := by decide +kernel
set_option maxRecDepth 20000 in
theorem ggX4_takes_X4_sees : GoodIn wsX4_takes wsX4_sees := goodIn_r _ [6, 1, 7, 8, 9, 10, 5, 11, 12, 13, 14, 15, 16, 17, 18, 19, 20, 21, 22, 23, 24, 25, 26, 27, 28, 29, 30, 31, 32, 33, 34, 35, 36, 37, 38, 39] (by decide +kernel) (by decide +kernel)
set_option maxRecDepth 20000 in
theorem gX4_takes_X4_sees : GoodIn wsX4_takes (wsV RX4 182 RX4 yX4_sees wsX4_sees) := goodIn_app (goodIn_of _ (by decide +kernel)) ggX4_takes_X4_sees
theorem dX4_takes_0 : decode cX4_takes 0 = .ok (.aload_n 0, 1) := by decide +kernel
theorem dX4_takes_1 : decode cX4_takes 1 = .ok (.iload_n 1, 1) := by decide +kernel
theorem dX4_takes_2 : decode cX4_takes 2 = .ok (.iload_n 1, 1) := by decide +kernel
theorem dX4_takes_3 : decode cX4_takes 3 = .ok (.invokevirtual 182, 3) := by decide +kernel
theorem dX4_takes_6 : decode cX4_takes 6 = .ok (.istore_n 2, 1) := by decide +kernel
theorem dX4_takes_7 : decode cX4_takes 7 = .ok (.aload_n 0, 1) := by decide +kernel
theorem dX4_takes_8 : decode cX4_takes 8 = .ok (.dup, 1) := by decide +kernel
theorem dX4_takes_9 : decode cX4_takes 9 = .ok (.getfield 179, 3) := by decide +kernel
theorem dX4_takes_12 : decode cX4_takes 12 = .ok (.iload_n 2, 1) := by decide +kernel
theorem dX4_takes_13 : decode cX4_takes 13 = .ok (.ifCond .eq 7, 3) := by decide +kernel
theorem dX4_takes_16 : decode cX4_takes 16 = .ok (.iconst 1, 1) := by decide +kernel
theorem dX4_takes_17 : decode cX4_takes 17 = .ok (.goto 4, 3) := by decide +kernel
theorem dX4_takes_20 : decode cX4_takes 20 = .ok (.iconst 0, 1) := by decide +kernel
theorem dX4_takes_21 : decode cX4_takes 21 = .ok (.iadd, 1) := by decide +kernel
theorem dX4_takes_22 : decode cX4_takes 22 = .ok (.putfield 179, 3) := by decide +kernel
theorem dX4_takes_25 : decode cX4_takes 25 = .ok (.iload_n 2, 1) := by decide +kernel
theorem dX4_takes_26 : decode cX4_takes 26 = .ok (.ireturn, 1) := by decide +kernel
set_option maxRecDepth 20000 in
theorem ggX4_readsDigit_X4_sees : GoodIn wsX4_readsDigit wsX4_sees := goodIn_r _ [9, 4, 10, 3, 11, 12, 8, 13, 14, 15, 16, 17, 18, 19, 20, 21, 22, 23, 24, 25, 26, 27, 28, 29, 30, 31, 32, 33, 34, 35, 36, 37, 38, 39, 40, 41] (by decide +kernel) (by decide +kernel)
set_option maxRecDepth 20000 in
theorem gX4_readsDigit_X4_sees : GoodIn wsX4_readsDigit (wsV RX4 182 RX4 yX4_sees wsX4_sees) := goodIn_app (goodIn_of _ (by decide +kernel)) ggX4_readsDigit_X4_sees
theorem dX4_readsDigit_0 : decode cX4_readsDigit 0 = .ok (.aload_n 0, 1) := by decide +kernel
theorem dX4_readsDigit_1 : decode cX4_readsDigit 1 = .ok (.bipush 48, 2) := by decide +kernel
theorem dX4_readsDigit_3 : decode cX4_readsDigit 3 = .ok (.iload_n 2, 1) := by decide +kernel
theorem dX4_readsDigit_4 : decode cX4_readsDigit 4 = .ok (.invokevirtual 182, 3) := by decide +kernel
theorem dX4_readsDigit_7 : decode cX4_readsDigit 7 = .ok (.ifCond .ne 5, 3) := by decide +kernel
theorem dX4_readsDigit_10 : decode cX4_readsDigit 10 = .ok (.iconst 0, 1) := by decide +kernel
theorem dX4_readsDigit_11 : decode cX4_readsDigit 11 = .ok (.ireturn, 1) := by decide +kernel
theorem dX4_readsDigit_12 : decode cX4_readsDigit 12 = .ok (.aload_n 0, 1) := by decide +kernel
theorem dX4_readsDigit_13 : decode cX4_readsDigit 13 = .ok (.getfield 38, 3) := by decide +kernel
theorem dX4_readsDigit_16 : decode cX4_readsDigit 16 = .ok (.bipush 11, 2) := by decide +kernel
theorem dX4_readsDigit_18 : decode cX4_readsDigit 18 = .ok (.aload_n 0, 1) := by decide +kernel
theorem dX4_readsDigit_19 : decode cX4_readsDigit 19 = .ok (.getfield 186, 3) := by decide +kernel
theorem dX4_readsDigit_22 : decode cX4_readsDigit 22 = .ok (.imul, 1) := by decide +kernel
theorem dX4_readsDigit_23 : decode cX4_readsDigit 23 = .ok (.iload_n 1, 1) := by decide +kernel
theorem dX4_readsDigit_24 : decode cX4_readsDigit 24 = .ok (.iadd, 1) := by decide +kernel
theorem dX4_readsDigit_25 : decode cX4_readsDigit 25 = .ok (.aload_n 0, 1) := by decide +kernel
theorem dX4_readsDigit_26 : decode cX4_readsDigit 26 = .ok (.getfield 19, 3) := by decide +kernel
theorem dX4_readsDigit_29 : decode cX4_readsDigit 29 = .ok (.aload_n 0, 1) := by decide +kernel
theorem dX4_readsDigit_30 : decode cX4_readsDigit 30 = .ok (.getfield 179, 3) := by decide +kernel
theorem dX4_readsDigit_33 : decode cX4_readsDigit 33 = .ok (.caload, 1) := by decide +kernel
theorem dX4_readsDigit_34 : decode cX4_readsDigit 34 = .ok (.bipush 48, 2) := by decide +kernel
theorem dX4_readsDigit_36 : decode cX4_readsDigit 36 = .ok (.isub, 1) := by decide +kernel
theorem dX4_readsDigit_37 : decode cX4_readsDigit 37 = .ok (.iastore, 1) := by decide +kernel
theorem dX4_readsDigit_38 : decode cX4_readsDigit 38 = .ok (.aload_n 0, 1) := by decide +kernel
theorem dX4_readsDigit_39 : decode cX4_readsDigit 39 = .ok (.dup, 1) := by decide +kernel
theorem dX4_readsDigit_40 : decode cX4_readsDigit 40 = .ok (.getfield 179, 3) := by decide +kernel
theorem dX4_readsDigit_43 : decode cX4_readsDigit 43 = .ok (.iconst 1, 1) := by decide +kernel
theorem dX4_readsDigit_44 : decode cX4_readsDigit 44 = .ok (.iadd, 1) := by decide +kernel
theorem dX4_readsDigit_45 : decode cX4_readsDigit 45 = .ok (.putfield 179, 3) := by decide +kernel
theorem dX4_readsDigit_48 : decode cX4_readsDigit 48 = .ok (.iconst 1, 1) := by decide +kernel
theorem dX4_readsDigit_49 : decode cX4_readsDigit 49 = .ok (.ireturn, 1) := by decide +kernel
set_option maxRecDepth 20000 in
theorem ggX4_readsBranch_X4_takes : GoodIn wsX4_readsBranch wsX4_takes := goodIn_r _ [9, 4, 10, 11, 12, 8, 13, 14, 3, 15, 16, 17, 18, 19, 20, 21, 22, 23, 24, 25, 26, 27, 28, 29, 30, 31, 32, 33, 34, 35, 36, 37, 38, 39, 40, 41, 42, 43, 44, 45] (by decide +kernel) (by decide +kernel)
set_option maxRecDepth 20000 in
theorem gX4_readsBranch_X4_takes : GoodIn wsX4_readsBranch (wsV RX4 189 RX4 yX4_takes wsX4_takes) := goodIn_app (goodIn_of _ (by decide +kernel)) ggX4_readsBranch_X4_takes
set_option maxRecDepth 20000 in
theorem ggX4_readsBranch_X4_sees : GoodIn wsX4_readsBranch wsX4_sees := goodIn_r _ [13, 4, 14, 3, 15, 16, 8, 17, 18, 19, 20, 21, 22, 23, 24, 25, 26, 27, 28, 29, 30, 31, 32, 33, 34, 35, 36, 37, 38, 39, 40, 41, 42, 43, 44, 45] (by decide +kernel) (by decide +kernel)
set_option maxRecDepth 20000 in
theorem gX4_readsBranch_X4_sees : GoodIn wsX4_readsBranch (wsV RX4 182 RX4 yX4_sees wsX4_sees) := goodIn_app (goodIn_of _ (by decide +kernel)) ggX4_readsBranch_X4_sees
theorem dX4_readsBranch_0 : decode cX4_readsBranch 0 = .ok (.bipush 11, 2) := by decide +kernel
theorem dX4_readsBranch_2 : decode cX4_readsBranch 2 = .ok (.aload_n 0, 1) := by decide +kernel
theorem dX4_readsBranch_3 : decode cX4_readsBranch 3 = .ok (.getfield 186, 3) := by decide +kernel
theorem dX4_readsBranch_6 : decode cX4_readsBranch 6 = .ok (.imul, 1) := by decide +kernel
theorem dX4_readsBranch_7 : decode cX4_readsBranch 7 = .ok (.iconst 3, 1) := by decide +kernel
theorem dX4_readsBranch_8 : decode cX4_readsBranch 8 = .ok (.iadd, 1) := by decide +kernel
theorem dX4_readsBranch_9 : decode cX4_readsBranch 9 = .ok (.iconst 2, 1) := by decide +kernel
theorem dX4_readsBranch_10 : decode cX4_readsBranch 10 = .ok (.iload_n 1, 1) := by decide +kernel
theorem dX4_readsBranch_11 : decode cX4_readsBranch 11 = .ok (.imul, 1) := by decide +kernel
theorem dX4_readsBranch_12 : decode cX4_readsBranch 12 = .ok (.iadd, 1) := by decide +kernel
theorem dX4_readsBranch_13 : decode cX4_readsBranch 13 = .ok (.istore_n 2, 1) := by decide +kernel
theorem dX4_readsBranch_14 : decode cX4_readsBranch 14 = .ok (.aload_n 0, 1) := by decide +kernel
theorem dX4_readsBranch_15 : decode cX4_readsBranch 15 = .ok (.getfield 38, 3) := by decide +kernel
theorem dX4_readsBranch_18 : decode cX4_readsBranch 18 = .ok (.iload_n 2, 1) := by decide +kernel
theorem dX4_readsBranch_19 : decode cX4_readsBranch 19 = .ok (.iconst 0, 1) := by decide +kernel
theorem dX4_readsBranch_20 : decode cX4_readsBranch 20 = .ok (.iastore, 1) := by decide +kernel
theorem dX4_readsBranch_21 : decode cX4_readsBranch 21 = .ok (.aload_n 0, 1) := by decide +kernel
theorem dX4_readsBranch_22 : decode cX4_readsBranch 22 = .ok (.getfield 38, 3) := by decide +kernel
theorem dX4_readsBranch_25 : decode cX4_readsBranch 25 = .ok (.iload_n 2, 1) := by decide +kernel
theorem dX4_readsBranch_26 : decode cX4_readsBranch 26 = .ok (.iconst 1, 1) := by decide +kernel
theorem dX4_readsBranch_27 : decode cX4_readsBranch 27 = .ok (.iadd, 1) := by decide +kernel
theorem dX4_readsBranch_28 : decode cX4_readsBranch 28 = .ok (.iconst 0, 1) := by decide +kernel
theorem dX4_readsBranch_29 : decode cX4_readsBranch 29 = .ok (.iastore, 1) := by decide +kernel
theorem dX4_readsBranch_30 : decode cX4_readsBranch 30 = .ok (.iconst 1, 1) := by decide +kernel
theorem dX4_readsBranch_31 : decode cX4_readsBranch 31 = .ok (.istore_n 3, 1) := by decide +kernel
theorem dX4_readsBranch_32 : decode cX4_readsBranch 32 = .ok (.iload_n 3, 1) := by decide +kernel
theorem dX4_readsBranch_33 : decode cX4_readsBranch 33 = .ok (.ifCond .eq 197, 3) := by decide +kernel
theorem dX4_readsBranch_36 : decode cX4_readsBranch 36 = .ok (.aload_n 0, 1) := by decide +kernel
theorem dX4_readsBranch_37 : decode cX4_readsBranch 37 = .ok (.getfield 38, 3) := by decide +kernel
theorem dX4_readsBranch_40 : decode cX4_readsBranch 40 = .ok (.iload_n 2, 1) := by decide +kernel
theorem dX4_readsBranch_41 : decode cX4_readsBranch 41 = .ok (.iaload, 1) := by decide +kernel
theorem dX4_readsBranch_42 : decode cX4_readsBranch 42 = .ok (.aload_n 0, 1) := by decide +kernel
theorem dX4_readsBranch_43 : decode cX4_readsBranch 43 = .ok (.getfield 38, 3) := by decide +kernel
theorem dX4_readsBranch_46 : decode cX4_readsBranch 46 = .ok (.iload_n 2, 1) := by decide +kernel
theorem dX4_readsBranch_47 : decode cX4_readsBranch 47 = .ok (.iconst 1, 1) := by decide +kernel
theorem dX4_readsBranch_48 : decode cX4_readsBranch 48 = .ok (.iadd, 1) := by decide +kernel
theorem dX4_readsBranch_49 : decode cX4_readsBranch 49 = .ok (.iaload, 1) := by decide +kernel
theorem dX4_readsBranch_50 : decode cX4_readsBranch 50 = .ok (.ior, 1) := by decide +kernel
theorem dX4_readsBranch_51 : decode cX4_readsBranch 51 = .ok (.sipush 1023, 3) := by decide +kernel
theorem dX4_readsBranch_54 : decode cX4_readsBranch 54 = .ok (.if_icmp .eq 16, 3) := by decide +kernel
theorem dX4_readsBranch_57 : decode cX4_readsBranch 57 = .ok (.aload_n 0, 1) := by decide +kernel
theorem dX4_readsBranch_58 : decode cX4_readsBranch 58 = .ok (.bipush 33, 2) := by decide +kernel
theorem dX4_readsBranch_60 : decode cX4_readsBranch 60 = .ok (.invokevirtual 189, 3) := by decide +kernel
theorem dX4_readsBranch_63 : decode cX4_readsBranch 63 = .ok (.ifCond .eq 7, 3) := by decide +kernel
theorem dX4_readsBranch_66 : decode cX4_readsBranch 66 = .ok (.iconst 1, 1) := by decide +kernel
theorem dX4_readsBranch_67 : decode cX4_readsBranch 67 = .ok (.goto 4, 3) := by decide +kernel
theorem dX4_readsBranch_70 : decode cX4_readsBranch 70 = .ok (.iconst 0, 1) := by decide +kernel
theorem dX4_readsBranch_71 : decode cX4_readsBranch 71 = .ok (.istore 4, 2) := by decide +kernel
theorem dX4_readsBranch_73 : decode cX4_readsBranch 73 = .ok (.aload_n 0, 1) := by decide +kernel
theorem dX4_readsBranch_74 : decode cX4_readsBranch 74 = .ok (.bipush 97, 2) := by decide +kernel
theorem dX4_readsBranch_76 : decode cX4_readsBranch 76 = .ok (.bipush 100, 2) := by decide +kernel
theorem dX4_readsBranch_78 : decode cX4_readsBranch 78 = .ok (.invokevirtual 182, 3) := by decide +kernel
theorem dX4_readsBranch_81 : decode cX4_readsBranch 81 = .ok (.ifCond .eq 18, 3) := by decide +kernel
theorem dX4_readsBranch_84 : decode cX4_readsBranch 84 = .ok (.aload_n 0, 1) := by decide +kernel
theorem dX4_readsBranch_85 : decode cX4_readsBranch 85 = .ok (.getfield 19, 3) := by decide +kernel
theorem dX4_readsBranch_88 : decode cX4_readsBranch 88 = .ok (.aload_n 0, 1) := by decide +kernel
theorem dX4_readsBranch_89 : decode cX4_readsBranch 89 = .ok (.getfield 179, 3) := by decide +kernel
theorem dX4_readsBranch_92 : decode cX4_readsBranch 92 = .ok (.caload, 1) := by decide +kernel
theorem dX4_readsBranch_93 : decode cX4_readsBranch 93 = .ok (.bipush 97, 2) := by decide +kernel
theorem dX4_readsBranch_95 : decode cX4_readsBranch 95 = .ok (.isub, 1) := by decide +kernel
theorem dX4_readsBranch_96 : decode cX4_readsBranch 96 = .ok (.goto 32, 3) := by decide +kernel
theorem dX4_readsBranch_99 : decode cX4_readsBranch 99 = .ok (.aload_n 0, 1) := by decide +kernel
theorem dX4_readsBranch_100 : decode cX4_readsBranch 100 = .ok (.bipush 48, 2) := by decide +kernel
theorem dX4_readsBranch_102 : decode cX4_readsBranch 102 = .ok (.bipush 53, 2) := by decide +kernel
theorem dX4_readsBranch_104 : decode cX4_readsBranch 104 = .ok (.invokevirtual 182, 3) := by decide +kernel
theorem dX4_readsBranch_107 : decode cX4_readsBranch 107 = .ok (.ifCond .eq 20, 3) := by decide +kernel
theorem dX4_readsBranch_110 : decode cX4_readsBranch 110 = .ok (.iconst 4, 1) := by decide +kernel
theorem dX4_readsBranch_111 : decode cX4_readsBranch 111 = .ok (.aload_n 0, 1) := by decide +kernel
theorem dX4_readsBranch_112 : decode cX4_readsBranch 112 = .ok (.getfield 19, 3) := by decide +kernel
theorem dX4_readsBranch_115 : decode cX4_readsBranch 115 = .ok (.aload_n 0, 1) := by decide +kernel
theorem dX4_readsBranch_116 : decode cX4_readsBranch 116 = .ok (.getfield 179, 3) := by decide +kernel
theorem dX4_readsBranch_119 : decode cX4_readsBranch 119 = .ok (.caload, 1) := by decide +kernel
theorem dX4_readsBranch_120 : decode cX4_readsBranch 120 = .ok (.iadd, 1) := by decide +kernel
theorem dX4_readsBranch_121 : decode cX4_readsBranch 121 = .ok (.bipush 48, 2) := by decide +kernel
theorem dX4_readsBranch_123 : decode cX4_readsBranch 123 = .ok (.isub, 1) := by decide +kernel
theorem dX4_readsBranch_124 : decode cX4_readsBranch 124 = .ok (.goto 4, 3) := by decide +kernel
theorem dX4_readsBranch_127 : decode cX4_readsBranch 127 = .ok (.iconst (-1), 1) := by decide +kernel
theorem dX4_readsBranch_128 : decode cX4_readsBranch 128 = .ok (.istore 5, 2) := by decide +kernel
theorem dX4_readsBranch_130 : decode cX4_readsBranch 130 = .ok (.iload 5, 2) := by decide +kernel
theorem dX4_readsBranch_132 : decode cX4_readsBranch 132 = .ok (.iconst (-1), 1) := by decide +kernel
theorem dX4_readsBranch_133 : decode cX4_readsBranch 133 = .ok (.if_icmp .eq 27, 3) := by decide +kernel
theorem dX4_readsBranch_136 : decode cX4_readsBranch 136 = .ok (.aload_n 0, 1) := by decide +kernel
theorem dX4_readsBranch_137 : decode cX4_readsBranch 137 = .ok (.getfield 38, 3) := by decide +kernel
theorem dX4_readsBranch_140 : decode cX4_readsBranch 140 = .ok (.iload_n 2, 1) := by decide +kernel
theorem dX4_readsBranch_141 : decode cX4_readsBranch 141 = .ok (.iaload, 1) := by decide +kernel
theorem dX4_readsBranch_142 : decode cX4_readsBranch 142 = .ok (.aload_n 0, 1) := by decide +kernel
theorem dX4_readsBranch_143 : decode cX4_readsBranch 143 = .ok (.getfield 38, 3) := by decide +kernel
theorem dX4_readsBranch_146 : decode cX4_readsBranch 146 = .ok (.iload_n 2, 1) := by decide +kernel
theorem dX4_readsBranch_147 : decode cX4_readsBranch 147 = .ok (.iconst 1, 1) := by decide +kernel
theorem dX4_readsBranch_148 : decode cX4_readsBranch 148 = .ok (.iadd, 1) := by decide +kernel
theorem dX4_readsBranch_149 : decode cX4_readsBranch 149 = .ok (.iaload, 1) := by decide +kernel
theorem dX4_readsBranch_150 : decode cX4_readsBranch 150 = .ok (.ior, 1) := by decide +kernel
theorem dX4_readsBranch_151 : decode cX4_readsBranch 151 = .ok (.iload 5, 2) := by decide +kernel
theorem dX4_readsBranch_153 : decode cX4_readsBranch 153 = .ok (.ishr, 1) := by decide +kernel
theorem dX4_readsBranch_154 : decode cX4_readsBranch 154 = .ok (.iconst 1, 1) := by decide +kernel
theorem dX4_readsBranch_155 : decode cX4_readsBranch 155 = .ok (.iand, 1) := by decide +kernel
theorem dX4_readsBranch_156 : decode cX4_readsBranch 156 = .ok (.iconst 1, 1) := by decide +kernel
theorem dX4_readsBranch_157 : decode cX4_readsBranch 157 = .ok (.if_icmp .ne 5, 3) := by decide +kernel
theorem dX4_readsBranch_160 : decode cX4_readsBranch 160 = .ok (.iconst 0, 1) := by decide +kernel
theorem dX4_readsBranch_161 : decode cX4_readsBranch 161 = .ok (.ireturn, 1) := by decide +kernel
theorem dX4_readsBranch_162 : decode cX4_readsBranch 162 = .ok (.aload_n 0, 1) := by decide +kernel
theorem dX4_readsBranch_163 : decode cX4_readsBranch 163 = .ok (.getfield 38, 3) := by decide +kernel
theorem dX4_readsBranch_166 : decode cX4_readsBranch 166 = .ok (.iload_n 2, 1) := by decide +kernel
theorem dX4_readsBranch_167 : decode cX4_readsBranch 167 = .ok (.iload 4, 2) := by decide +kernel
theorem dX4_readsBranch_169 : decode cX4_readsBranch 169 = .ok (.iadd, 1) := by decide +kernel
theorem dX4_readsBranch_170 : decode cX4_readsBranch 170 = .ok (.dup2, 1) := by decide +kernel
theorem dX4_readsBranch_171 : decode cX4_readsBranch 171 = .ok (.iaload, 1) := by decide +kernel
theorem dX4_readsBranch_172 : decode cX4_readsBranch 172 = .ok (.iconst 1, 1) := by decide +kernel
theorem dX4_readsBranch_173 : decode cX4_readsBranch 173 = .ok (.iload 5, 2) := by decide +kernel
theorem dX4_readsBranch_175 : decode cX4_readsBranch 175 = .ok (.ishl, 1) := by decide +kernel
theorem dX4_readsBranch_176 : decode cX4_readsBranch 176 = .ok (.ior, 1) := by decide +kernel
theorem dX4_readsBranch_177 : decode cX4_readsBranch 177 = .ok (.iastore, 1) := by decide +kernel
theorem dX4_readsBranch_178 : decode cX4_readsBranch 178 = .ok (.aload_n 0, 1) := by decide +kernel
theorem dX4_readsBranch_179 : decode cX4_readsBranch 179 = .ok (.dup, 1) := by decide +kernel
theorem dX4_readsBranch_180 : decode cX4_readsBranch 180 = .ok (.getfield 179, 3) := by decide +kernel
theorem dX4_readsBranch_183 : decode cX4_readsBranch 183 = .ok (.iconst 1, 1) := by decide +kernel
theorem dX4_readsBranch_184 : decode cX4_readsBranch 184 = .ok (.iadd, 1) := by decide +kernel
theorem dX4_readsBranch_185 : decode cX4_readsBranch 185 = .ok (.putfield 179, 3) := by decide +kernel
theorem dX4_readsBranch_188 : decode cX4_readsBranch 188 = .ok (.aload_n 0, 1) := by decide +kernel
theorem dX4_readsBranch_189 : decode cX4_readsBranch 189 = .ok (.bipush 33, 2) := by decide +kernel
theorem dX4_readsBranch_191 : decode cX4_readsBranch 191 = .ok (.bipush 33, 2) := by decide +kernel
theorem dX4_readsBranch_193 : decode cX4_readsBranch 193 = .ok (.invokevirtual 182, 3) := by decide +kernel
theorem dX4_readsBranch_196 : decode cX4_readsBranch 196 = .ok (.ifCond .ne 25, 3) := by decide +kernel
theorem dX4_readsBranch_199 : decode cX4_readsBranch 199 = .ok (.aload_n 0, 1) := by decide +kernel
theorem dX4_readsBranch_200 : decode cX4_readsBranch 200 = .ok (.bipush 97, 2) := by decide +kernel
theorem dX4_readsBranch_202 : decode cX4_readsBranch 202 = .ok (.bipush 100, 2) := by decide +kernel
theorem dX4_readsBranch_204 : decode cX4_readsBranch 204 = .ok (.invokevirtual 182, 3) := by decide +kernel
theorem dX4_readsBranch_207 : decode cX4_readsBranch 207 = .ok (.ifCond .ne 14, 3) := by decide +kernel
theorem dX4_readsBranch_210 : decode cX4_readsBranch 210 = .ok (.aload_n 0, 1) := by decide +kernel
theorem dX4_readsBranch_211 : decode cX4_readsBranch 211 = .ok (.bipush 48, 2) := by decide +kernel
theorem dX4_readsBranch_213 : decode cX4_readsBranch 213 = .ok (.bipush 57, 2) := by decide +kernel
theorem dX4_readsBranch_215 : decode cX4_readsBranch 215 = .ok (.invokevirtual 182, 3) := by decide +kernel
theorem dX4_readsBranch_218 : decode cX4_readsBranch 218 = .ok (.ifCond .eq 7, 3) := by decide +kernel
theorem dX4_readsBranch_221 : decode cX4_readsBranch 221 = .ok (.iconst 1, 1) := by decide +kernel
theorem dX4_readsBranch_222 : decode cX4_readsBranch 222 = .ok (.goto 4, 3) := by decide +kernel
theorem dX4_readsBranch_225 : decode cX4_readsBranch 225 = .ok (.iconst 0, 1) := by decide +kernel
theorem dX4_readsBranch_226 : decode cX4_readsBranch 226 = .ok (.istore_n 3, 1) := by decide +kernel
theorem dX4_readsBranch_227 : decode cX4_readsBranch 227 = .ok (.goto (-195), 3) := by decide +kernel
theorem dX4_readsBranch_230 : decode cX4_readsBranch 230 = .ok (.iconst 1, 1) := by decide +kernel
theorem dX4_readsBranch_231 : decode cX4_readsBranch 231 = .ok (.ireturn, 1) := by decide +kernel
set_option maxRecDepth 20000 in
theorem ggX4_readsRung_X4_readsDigit : GoodIn wsX4_readsRung wsX4_readsDigit := goodIn_r _ [7, 1, 2, 8, 9, 10, 11, 12, 6, 13, 14, 15, 16, 17, 26, 27, 28, 29, 30, 31, 32, 33, 34, 35, 36, 37, 38, 39, 40, 41, 42, 43, 44, 45, 46, 47, 48, 49, 50, 51, 52, 53] (by decide +kernel) (by decide +kernel)
set_option maxRecDepth 20000 in
theorem gX4_readsRung_X4_readsDigit : GoodIn wsX4_readsRung (wsV RX4 192 RX4 yX4_readsDigit wsX4_readsDigit) := goodIn_app (goodIn_of _ (by decide +kernel)) ggX4_readsRung_X4_readsDigit
set_option maxRecDepth 20000 in
theorem ggX4_readsRung_X4_takes : GoodIn wsX4_readsRung wsX4_takes := goodIn_r _ [21, 9, 10, 11, 12, 6, 13, 14, 8, 15, 16, 17, 26, 27, 28, 29, 30, 31, 32, 33, 34, 35, 36, 37, 38, 39, 40, 41, 42, 43, 44, 45, 46, 47, 48, 49, 50, 51, 52, 53] (by decide +kernel) (by decide +kernel)
set_option maxRecDepth 20000 in
theorem gX4_readsRung_X4_takes : GoodIn wsX4_readsRung (wsV RX4 189 RX4 yX4_takes wsX4_takes) := goodIn_app (goodIn_of _ (by decide +kernel)) ggX4_readsRung_X4_takes
set_option maxRecDepth 20000 in
theorem ggX4_readsRung_X4_readsBranch : GoodIn wsX4_readsRung wsX4_readsBranch := goodIn_r _ [25, 2, 1, 8, 9, 18, 19, 20, 6, 21, 10, 11, 12, 13, 14, 15, 16, 17, 26, 27, 28, 29, 30, 31, 32, 33, 34, 35, 36, 37, 38, 39, 40, 41, 42, 43, 44, 45, 46, 47, 48, 49, 50, 51, 52, 53] (by decide +kernel) (by decide +kernel)
set_option maxRecDepth 20000 in
theorem gX4_readsRung_X4_readsBranch : GoodIn wsX4_readsRung (wsV RX4 196 RX4 yX4_readsBranch wsX4_readsBranch) := goodIn_app (goodIn_of _ (by decide +kernel)) ggX4_readsRung_X4_readsBranch
theorem dX4_readsRung_0 : decode cX4_readsRung 0 = .ok (.aload_n 0, 1) := by decide +kernel
theorem dX4_readsRung_1 : decode cX4_readsRung 1 = .ok (.getfield 38, 3) := by decide +kernel
theorem dX4_readsRung_4 : decode cX4_readsRung 4 = .ok (.bipush 11, 2) := by decide +kernel
theorem dX4_readsRung_6 : decode cX4_readsRung 6 = .ok (.aload_n 0, 1) := by decide +kernel
theorem dX4_readsRung_7 : decode cX4_readsRung 7 = .ok (.getfield 186, 3) := by decide +kernel
theorem dX4_readsRung_10 : decode cX4_readsRung 10 = .ok (.imul, 1) := by decide +kernel
theorem dX4_readsRung_11 : decode cX4_readsRung 11 = .ok (.bipush 61, 2) := by decide +kernel
theorem dX4_readsRung_13 : decode cX4_readsRung 13 = .ok (.iastore, 1) := by decide +kernel
theorem dX4_readsRung_14 : decode cX4_readsRung 14 = .ok (.aload_n 0, 1) := by decide +kernel
theorem dX4_readsRung_15 : decode cX4_readsRung 15 = .ok (.iconst 1, 1) := by decide +kernel
theorem dX4_readsRung_16 : decode cX4_readsRung 16 = .ok (.bipush 53, 2) := by decide +kernel
theorem dX4_readsRung_18 : decode cX4_readsRung 18 = .ok (.invokevirtual 192, 3) := by decide +kernel
theorem dX4_readsRung_21 : decode cX4_readsRung 21 = .ok (.ifCond .eq 12, 3) := by decide +kernel
theorem dX4_readsRung_24 : decode cX4_readsRung 24 = .ok (.aload_n 0, 1) := by decide +kernel
theorem dX4_readsRung_25 : decode cX4_readsRung 25 = .ok (.bipush 61, 2) := by decide +kernel
theorem dX4_readsRung_27 : decode cX4_readsRung 27 = .ok (.invokevirtual 189, 3) := by decide +kernel
theorem dX4_readsRung_30 : decode cX4_readsRung 30 = .ok (.ifCond .ne 5, 3) := by decide +kernel
theorem dX4_readsRung_33 : decode cX4_readsRung 33 = .ok (.iconst 0, 1) := by decide +kernel
theorem dX4_readsRung_34 : decode cX4_readsRung 34 = .ok (.ireturn, 1) := by decide +kernel
theorem dX4_readsRung_35 : decode cX4_readsRung 35 = .ok (.iconst 0, 1) := by decide +kernel
theorem dX4_readsRung_36 : decode cX4_readsRung 36 = .ok (.istore_n 1, 1) := by decide +kernel
theorem dX4_readsRung_37 : decode cX4_readsRung 37 = .ok (.iconst 1, 1) := by decide +kernel
theorem dX4_readsRung_38 : decode cX4_readsRung 38 = .ok (.istore_n 2, 1) := by decide +kernel
theorem dX4_readsRung_39 : decode cX4_readsRung 39 = .ok (.iload_n 2, 1) := by decide +kernel
theorem dX4_readsRung_40 : decode cX4_readsRung 40 = .ok (.ifCond .eq 39, 3) := by decide +kernel
theorem dX4_readsRung_43 : decode cX4_readsRung 43 = .ok (.aload_n 0, 1) := by decide +kernel
theorem dX4_readsRung_44 : decode cX4_readsRung 44 = .ok (.iload_n 1, 1) := by decide +kernel
theorem dX4_readsRung_45 : decode cX4_readsRung 45 = .ok (.invokevirtual 196, 3) := by decide +kernel
theorem dX4_readsRung_48 : decode cX4_readsRung 48 = .ok (.ifCond .ne 5, 3) := by decide +kernel
theorem dX4_readsRung_51 : decode cX4_readsRung 51 = .ok (.iconst 0, 1) := by decide +kernel
theorem dX4_readsRung_52 : decode cX4_readsRung 52 = .ok (.ireturn, 1) := by decide +kernel
theorem dX4_readsRung_53 : decode cX4_readsRung 53 = .ok (.iinc 1 1, 3) := by decide +kernel
theorem dX4_readsRung_56 : decode cX4_readsRung 56 = .ok (.iload_n 1, 1) := by decide +kernel
theorem dX4_readsRung_57 : decode cX4_readsRung 57 = .ok (.iconst 4, 1) := by decide +kernel
theorem dX4_readsRung_58 : decode cX4_readsRung 58 = .ok (.if_icmp .ge 16, 3) := by decide +kernel
theorem dX4_readsRung_61 : decode cX4_readsRung 61 = .ok (.aload_n 0, 1) := by decide +kernel
theorem dX4_readsRung_62 : decode cX4_readsRung 62 = .ok (.bipush 43, 2) := by decide +kernel
theorem dX4_readsRung_64 : decode cX4_readsRung 64 = .ok (.invokevirtual 189, 3) := by decide +kernel
theorem dX4_readsRung_67 : decode cX4_readsRung 67 = .ok (.ifCond .eq 7, 3) := by decide +kernel
theorem dX4_readsRung_70 : decode cX4_readsRung 70 = .ok (.iconst 1, 1) := by decide +kernel
theorem dX4_readsRung_71 : decode cX4_readsRung 71 = .ok (.goto 4, 3) := by decide +kernel
theorem dX4_readsRung_74 : decode cX4_readsRung 74 = .ok (.iconst 0, 1) := by decide +kernel
theorem dX4_readsRung_75 : decode cX4_readsRung 75 = .ok (.istore_n 2, 1) := by decide +kernel
theorem dX4_readsRung_76 : decode cX4_readsRung 76 = .ok (.goto (-37), 3) := by decide +kernel
theorem dX4_readsRung_79 : decode cX4_readsRung 79 = .ok (.aload_n 0, 1) := by decide +kernel
theorem dX4_readsRung_80 : decode cX4_readsRung 80 = .ok (.getfield 38, 3) := by decide +kernel
theorem dX4_readsRung_83 : decode cX4_readsRung 83 = .ok (.bipush 11, 2) := by decide +kernel
theorem dX4_readsRung_85 : decode cX4_readsRung 85 = .ok (.aload_n 0, 1) := by decide +kernel
theorem dX4_readsRung_86 : decode cX4_readsRung 86 = .ok (.getfield 186, 3) := by decide +kernel
theorem dX4_readsRung_89 : decode cX4_readsRung 89 = .ok (.imul, 1) := by decide +kernel
theorem dX4_readsRung_90 : decode cX4_readsRung 90 = .ok (.iconst 2, 1) := by decide +kernel
theorem dX4_readsRung_91 : decode cX4_readsRung 91 = .ok (.iadd, 1) := by decide +kernel
theorem dX4_readsRung_92 : decode cX4_readsRung 92 = .ok (.iload_n 1, 1) := by decide +kernel
theorem dX4_readsRung_93 : decode cX4_readsRung 93 = .ok (.iastore, 1) := by decide +kernel
theorem dX4_readsRung_94 : decode cX4_readsRung 94 = .ok (.iconst 1, 1) := by decide +kernel
theorem dX4_readsRung_95 : decode cX4_readsRung 95 = .ok (.ireturn, 1) := by decide +kernel
set_option maxRecDepth 20000 in
theorem ggX4_readsOrder_X4_takes : GoodIn wsX4_readsOrder wsX4_takes := goodIn_r _ [7, 8, 9, 10, 11, 6, 12, 13, 14, 15, 16, 17, 30, 31, 32, 33, 34, 35, 36, 37, 38, 39, 40, 41, 42, 43, 44, 45, 46, 47, 48, 49, 50, 51, 52, 53, 54, 55, 56, 57] (by decide +kernel) (by decide +kernel)
set_option maxRecDepth 20000 in
theorem gX4_readsOrder_X4_takes : GoodIn wsX4_readsOrder (wsV RX4 189 RX4 yX4_takes wsX4_takes) := goodIn_app (goodIn_of _ (by decide +kernel)) ggX4_readsOrder_X4_takes
set_option maxRecDepth 20000 in
theorem ggX4_readsOrder_X4_readsRung : GoodIn wsX4_readsOrder wsX4_readsRung := goodIn_r _ [21, 1, 2, 22, 23, 24, 6, 25, 14, 8, 9, 10, 11, 12, 13, 15, 16, 17, 3, 4, 5, 7, 26, 27, 28, 29, 30, 31, 32, 33, 34, 35, 36, 37, 38, 39, 40, 41, 42, 43, 44, 45, 46, 47, 48, 49, 50, 51, 52, 53, 54, 55, 56, 57] (by decide +kernel) (by decide +kernel)
set_option maxRecDepth 20000 in
theorem gX4_readsOrder_X4_readsRung : GoodIn wsX4_readsOrder (wsV RX4 199 RX4 yX4_readsRung wsX4_readsRung) := goodIn_app (goodIn_of _ (by decide +kernel)) ggX4_readsOrder_X4_readsRung
set_option maxRecDepth 20000 in
theorem ggX4_readsOrder_X4_readsDigit : GoodIn wsX4_readsOrder wsX4_readsDigit := goodIn_r _ [25, 1, 2, 14, 8, 9, 10, 11, 6, 12, 13, 15, 16, 17, 30, 31, 32, 33, 34, 35, 36, 37, 38, 39, 40, 41, 42, 43, 44, 45, 46, 47, 48, 49, 50, 51, 52, 53, 54, 55, 56, 57] (by decide +kernel) (by decide +kernel)
set_option maxRecDepth 20000 in
theorem gX4_readsOrder_X4_readsDigit : GoodIn wsX4_readsOrder (wsV RX4 192 RX4 yX4_readsDigit wsX4_readsDigit) := goodIn_app (goodIn_of _ (by decide +kernel)) ggX4_readsOrder_X4_readsDigit
theorem dX4_readsOrder_0 : decode cX4_readsOrder 0 = .ok (.aload_n 0, 1) := by decide +kernel
theorem dX4_readsOrder_1 : decode cX4_readsOrder 1 = .ok (.bipush 117, 2) := by decide +kernel
theorem dX4_readsOrder_3 : decode cX4_readsOrder 3 = .ok (.invokevirtual 189, 3) := by decide +kernel
theorem dX4_readsOrder_6 : decode cX4_readsOrder 6 = .ok (.istore_n 1, 1) := by decide +kernel
theorem dX4_readsOrder_7 : decode cX4_readsOrder 7 = .ok (.iload_n 1, 1) := by decide +kernel
theorem dX4_readsOrder_8 : decode cX4_readsOrder 8 = .ok (.ifCond .ne 17, 3) := by decide +kernel
theorem dX4_readsOrder_11 : decode cX4_readsOrder 11 = .ok (.aload_n 0, 1) := by decide +kernel
theorem dX4_readsOrder_12 : decode cX4_readsOrder 12 = .ok (.bipush 118, 2) := by decide +kernel
theorem dX4_readsOrder_14 : decode cX4_readsOrder 14 = .ok (.invokevirtual 189, 3) := by decide +kernel
theorem dX4_readsOrder_17 : decode cX4_readsOrder 17 = .ok (.ifCond .ne 8, 3) := by decide +kernel
theorem dX4_readsOrder_20 : decode cX4_readsOrder 20 = .ok (.aload_n 0, 1) := by decide +kernel
theorem dX4_readsOrder_21 : decode cX4_readsOrder 21 = .ok (.invokevirtual 199, 3) := by decide +kernel
theorem dX4_readsOrder_24 : decode cX4_readsOrder 24 = .ok (.ireturn, 1) := by decide +kernel
theorem dX4_readsOrder_25 : decode cX4_readsOrder 25 = .ok (.aload_n 0, 1) := by decide +kernel
theorem dX4_readsOrder_26 : decode cX4_readsOrder 26 = .ok (.getfield 38, 3) := by decide +kernel
theorem dX4_readsOrder_29 : decode cX4_readsOrder 29 = .ok (.bipush 11, 2) := by decide +kernel
theorem dX4_readsOrder_31 : decode cX4_readsOrder 31 = .ok (.aload_n 0, 1) := by decide +kernel
theorem dX4_readsOrder_32 : decode cX4_readsOrder 32 = .ok (.getfield 186, 3) := by decide +kernel
theorem dX4_readsOrder_35 : decode cX4_readsOrder 35 = .ok (.imul, 1) := by decide +kernel
theorem dX4_readsOrder_36 : decode cX4_readsOrder 36 = .ok (.iload_n 1, 1) := by decide +kernel
theorem dX4_readsOrder_37 : decode cX4_readsOrder 37 = .ok (.ifCond .eq 8, 3) := by decide +kernel
theorem dX4_readsOrder_40 : decode cX4_readsOrder 40 = .ok (.bipush 117, 2) := by decide +kernel
theorem dX4_readsOrder_42 : decode cX4_readsOrder 42 = .ok (.goto 5, 3) := by decide +kernel
theorem dX4_readsOrder_45 : decode cX4_readsOrder 45 = .ok (.bipush 118, 2) := by decide +kernel
theorem dX4_readsOrder_47 : decode cX4_readsOrder 47 = .ok (.iastore, 1) := by decide +kernel
theorem dX4_readsOrder_48 : decode cX4_readsOrder 48 = .ok (.aload_n 0, 1) := by decide +kernel
theorem dX4_readsOrder_49 : decode cX4_readsOrder 49 = .ok (.iconst 1, 1) := by decide +kernel
theorem dX4_readsOrder_50 : decode cX4_readsOrder 50 = .ok (.bipush 53, 2) := by decide +kernel
theorem dX4_readsOrder_52 : decode cX4_readsOrder 52 = .ok (.invokevirtual 192, 3) := by decide +kernel
theorem dX4_readsOrder_55 : decode cX4_readsOrder 55 = .ok (.ifCond .eq 26, 3) := by decide +kernel
theorem dX4_readsOrder_58 : decode cX4_readsOrder 58 = .ok (.aload_n 0, 1) := by decide +kernel
theorem dX4_readsOrder_59 : decode cX4_readsOrder 59 = .ok (.bipush 58, 2) := by decide +kernel
theorem dX4_readsOrder_61 : decode cX4_readsOrder 61 = .ok (.invokevirtual 189, 3) := by decide +kernel
theorem dX4_readsOrder_64 : decode cX4_readsOrder 64 = .ok (.ifCond .eq 17, 3) := by decide +kernel
theorem dX4_readsOrder_67 : decode cX4_readsOrder 67 = .ok (.aload_n 0, 1) := by decide +kernel
theorem dX4_readsOrder_68 : decode cX4_readsOrder 68 = .ok (.iconst 2, 1) := by decide +kernel
theorem dX4_readsOrder_69 : decode cX4_readsOrder 69 = .ok (.bipush 57, 2) := by decide +kernel
theorem dX4_readsOrder_71 : decode cX4_readsOrder 71 = .ok (.invokevirtual 192, 3) := by decide +kernel
theorem dX4_readsOrder_74 : decode cX4_readsOrder 74 = .ok (.ifCond .eq 7, 3) := by decide +kernel
theorem dX4_readsOrder_77 : decode cX4_readsOrder 77 = .ok (.iconst 1, 1) := by decide +kernel
theorem dX4_readsOrder_78 : decode cX4_readsOrder 78 = .ok (.goto 4, 3) := by decide +kernel
theorem dX4_readsOrder_81 : decode cX4_readsOrder 81 = .ok (.iconst 0, 1) := by decide +kernel
theorem dX4_readsOrder_82 : decode cX4_readsOrder 82 = .ok (.ireturn, 1) := by decide +kernel
set_option maxRecDepth 20000 in
theorem ggX4_isText_X4_readsOrder : GoodIn wsX4_isText wsX4_readsOrder := goodIn_r _ [8, 9, 2, 10, 11, 12, 7, 13, 1, 14, 15, 16, 17, 3, 18, 19, 20, 21, 22, 23, 24, 25, 26, 27, 28, 29, 30, 31, 32, 33, 34, 35, 36, 37, 38, 39, 40, 41, 42, 43, 44, 45, 46, 47, 48, 49, 50, 51, 52, 53, 54, 55, 56, 57, 58, 59, 60, 61] (by decide +kernel) (by decide +kernel)
set_option maxRecDepth 20000 in
theorem gX4_isText_X4_readsOrder : GoodIn wsX4_isText (wsV RX4 202 RX4 yX4_readsOrder wsX4_readsOrder) := goodIn_app (goodIn_of _ (by decide +kernel)) ggX4_isText_X4_readsOrder
set_option maxRecDepth 20000 in
theorem ggX4_isText_X4_takes : GoodIn wsX4_isText wsX4_takes := goodIn_r _ [13, 1, 14, 15, 16, 7, 17, 3, 18, 19, 20, 21, 34, 35, 36, 37, 38, 39, 40, 41, 42, 43, 44, 45, 46, 47, 48, 49, 50, 51, 52, 53, 54, 55, 56, 57, 58, 59, 60, 61] (by decide +kernel) (by decide +kernel)
set_option maxRecDepth 20000 in
theorem gX4_isText_X4_takes : GoodIn wsX4_isText (wsV RX4 189 RX4 yX4_takes wsX4_takes) := goodIn_app (goodIn_of _ (by decide +kernel)) ggX4_isText_X4_takes
theorem dX4_isText_0 : decode cX4_isText 0 = .ok (.aload_n 0, 1) := by decide +kernel
theorem dX4_isText_1 : decode cX4_isText 1 = .ok (.iconst 0, 1) := by decide +kernel
theorem dX4_isText_2 : decode cX4_isText 2 = .ok (.putfield 179, 3) := by decide +kernel
theorem dX4_isText_5 : decode cX4_isText 5 = .ok (.aload_n 0, 1) := by decide +kernel
theorem dX4_isText_6 : decode cX4_isText 6 = .ok (.iconst 0, 1) := by decide +kernel
theorem dX4_isText_7 : decode cX4_isText 7 = .ok (.putfield 186, 3) := by decide +kernel
theorem dX4_isText_10 : decode cX4_isText 10 = .ok (.iconst 1, 1) := by decide +kernel
theorem dX4_isText_11 : decode cX4_isText 11 = .ok (.istore_n 1, 1) := by decide +kernel
theorem dX4_isText_12 : decode cX4_isText 12 = .ok (.iload_n 1, 1) := by decide +kernel
theorem dX4_isText_13 : decode cX4_isText 13 = .ok (.ifCond .eq 32, 3) := by decide +kernel
theorem dX4_isText_16 : decode cX4_isText 16 = .ok (.aload_n 0, 1) := by decide +kernel
theorem dX4_isText_17 : decode cX4_isText 17 = .ok (.invokevirtual 202, 3) := by decide +kernel
theorem dX4_isText_20 : decode cX4_isText 20 = .ok (.ifCond .ne 5, 3) := by decide +kernel
theorem dX4_isText_23 : decode cX4_isText 23 = .ok (.iconst 0, 1) := by decide +kernel
theorem dX4_isText_24 : decode cX4_isText 24 = .ok (.ireturn, 1) := by decide +kernel
theorem dX4_isText_25 : decode cX4_isText 25 = .ok (.aload_n 0, 1) := by decide +kernel
theorem dX4_isText_26 : decode cX4_isText 26 = .ok (.dup, 1) := by decide +kernel
theorem dX4_isText_27 : decode cX4_isText 27 = .ok (.getfield 186, 3) := by decide +kernel
theorem dX4_isText_30 : decode cX4_isText 30 = .ok (.iconst 1, 1) := by decide +kernel
theorem dX4_isText_31 : decode cX4_isText 31 = .ok (.iadd, 1) := by decide +kernel
theorem dX4_isText_32 : decode cX4_isText 32 = .ok (.putfield 186, 3) := by decide +kernel
theorem dX4_isText_35 : decode cX4_isText 35 = .ok (.aload_n 0, 1) := by decide +kernel
theorem dX4_isText_36 : decode cX4_isText 36 = .ok (.bipush 59, 2) := by decide +kernel
theorem dX4_isText_38 : decode cX4_isText 38 = .ok (.invokevirtual 189, 3) := by decide +kernel
theorem dX4_isText_41 : decode cX4_isText 41 = .ok (.istore_n 1, 1) := by decide +kernel
theorem dX4_isText_42 : decode cX4_isText 42 = .ok (.goto (-30), 3) := by decide +kernel
theorem dX4_isText_45 : decode cX4_isText 45 = .ok (.aload_n 0, 1) := by decide +kernel
theorem dX4_isText_46 : decode cX4_isText 46 = .ok (.getfield 179, 3) := by decide +kernel
theorem dX4_isText_49 : decode cX4_isText 49 = .ok (.aload_n 0, 1) := by decide +kernel
theorem dX4_isText_50 : decode cX4_isText 50 = .ok (.getfield 176, 3) := by decide +kernel
theorem dX4_isText_53 : decode cX4_isText 53 = .ok (.if_icmp .ne 7, 3) := by decide +kernel
theorem dX4_isText_56 : decode cX4_isText 56 = .ok (.iconst 1, 1) := by decide +kernel
theorem dX4_isText_57 : decode cX4_isText 57 = .ok (.goto 4, 3) := by decide +kernel
theorem dX4_isText_60 : decode cX4_isText 60 = .ok (.iconst 0, 1) := by decide +kernel
theorem dX4_isText_61 : decode cX4_isText 61 = .ok (.ireturn, 1) := by decide +kernel
set_option maxRecDepth 20000 in
theorem ggX4_firstError_X4_isText : GoodIn wsX4_firstError wsX4_isText := goodIn_r _ [8, 3, 9, 2, 10, 11, 12, 7, 13, 14, 15, 16, 17, 18, 19, 20, 21, 22, 23, 24, 25, 26, 27, 28, 29, 30, 31, 32, 33, 34, 35, 36, 37, 38, 39, 40, 41, 42, 43, 44, 45, 46, 47, 48, 49, 50, 51, 52, 53, 54, 55, 56, 57, 58, 59, 60, 61, 62, 63, 64, 65, 66] (by decide +kernel) (by decide +kernel)
set_option maxRecDepth 20000 in
theorem gX4_firstError_X4_isText : GoodIn wsX4_firstError (wsV RX4 205 RX4 yX4_isText wsX4_isText) := goodIn_app (goodIn_of _ (by decide +kernel)) ggX4_firstError_X4_isText
theorem dX4_firstError_0 : decode cX4_firstError 0 = .ok (.aload_n 0, 1) := by decide +kernel
theorem dX4_firstError_1 : decode cX4_firstError 1 = .ok (.iconst 0, 1) := by decide +kernel
theorem dX4_firstError_2 : decode cX4_firstError 2 = .ok (.putfield 41, 3) := by decide +kernel
theorem dX4_firstError_5 : decode cX4_firstError 5 = .ok (.aload_n 0, 1) := by decide +kernel
theorem dX4_firstError_6 : decode cX4_firstError 6 = .ok (.invokevirtual 205, 3) := by decide +kernel
theorem dX4_firstError_9 : decode cX4_firstError 9 = .ok (.istore_n 1, 1) := by decide +kernel
theorem dX4_firstError_10 : decode cX4_firstError 10 = .ok (.iload_n 1, 1) := by decide +kernel
theorem dX4_firstError_11 : decode cX4_firstError 11 = .ok (.ifCond .eq 10, 3) := by decide +kernel
theorem dX4_firstError_14 : decode cX4_firstError 14 = .ok (.aload_n 0, 1) := by decide +kernel
theorem dX4_firstError_15 : decode cX4_firstError 15 = .ok (.getfield 176, 3) := by decide +kernel
theorem dX4_firstError_18 : decode cX4_firstError 18 = .ok (.goto 7, 3) := by decide +kernel
theorem dX4_firstError_21 : decode cX4_firstError 21 = .ok (.aload_n 0, 1) := by decide +kernel
theorem dX4_firstError_22 : decode cX4_firstError 22 = .ok (.getfield 179, 3) := by decide +kernel
theorem dX4_firstError_25 : decode cX4_firstError 25 = .ok (.ireturn, 1) := by decide +kernel
set_option maxRecDepth 20000 in
theorem ggX4_canDo_X4_isRelay : GoodIn wsX4_canDo wsX4_isRelay := goodIn_r _ [6, 7, 8, 9, 5, 10, 15, 16, 17, 18, 19, 20, 21, 22, 23, 24, 25, 26, 27, 28, 29, 30, 31, 32, 33, 34, 35, 36, 37, 38, 39, 40, 41, 42] (by decide +kernel) (by decide +kernel)
set_option maxRecDepth 20000 in
theorem gX4_canDo_X4_isRelay : GoodIn wsX4_canDo (wsV RX4 150 RX4 yX4_isRelay wsX4_isRelay) := goodIn_app (goodIn_of _ (by decide +kernel)) ggX4_canDo_X4_isRelay
set_option maxRecDepth 20000 in
theorem ggX4_canDo_X4_areContacts : GoodIn wsX4_canDo wsX4_areContacts := goodIn_r _ [14, 7, 15, 16, 17, 18, 19, 20, 21, 22, 23, 24, 25, 26, 27, 28, 29, 30, 31, 32, 33, 34, 35, 36, 37, 38, 39, 40, 41, 42] (by decide +kernel) (by decide +kernel)
set_option maxRecDepth 20000 in
theorem gX4_canDo_X4_areContacts : GoodIn wsX4_canDo (wsV RX4 147 RX4 yX4_areContacts wsX4_areContacts) := goodIn_app (goodIn_of _ (by decide +kernel)) ggX4_canDo_X4_areContacts
theorem dX4_canDo_0 : decode cX4_canDo 0 = .ok (.aload_n 0, 1) := by decide +kernel
theorem dX4_canDo_1 : decode cX4_canDo 1 = .ok (.aload_n 0, 1) := by decide +kernel
theorem dX4_canDo_2 : decode cX4_canDo 2 = .ok (.getfield 38, 3) := by decide +kernel
theorem dX4_canDo_5 : decode cX4_canDo 5 = .ok (.iload_n 1, 1) := by decide +kernel
theorem dX4_canDo_6 : decode cX4_canDo 6 = .ok (.iconst 1, 1) := by decide +kernel
theorem dX4_canDo_7 : decode cX4_canDo 7 = .ok (.iadd, 1) := by decide +kernel
theorem dX4_canDo_8 : decode cX4_canDo 8 = .ok (.iaload, 1) := by decide +kernel
theorem dX4_canDo_9 : decode cX4_canDo 9 = .ok (.invokevirtual 150, 3) := by decide +kernel
theorem dX4_canDo_12 : decode cX4_canDo 12 = .ok (.istore_n 2, 1) := by decide +kernel
theorem dX4_canDo_13 : decode cX4_canDo 13 = .ok (.iconst 0, 1) := by decide +kernel
theorem dX4_canDo_14 : decode cX4_canDo 14 = .ok (.istore_n 3, 1) := by decide +kernel
theorem dX4_canDo_15 : decode cX4_canDo 15 = .ok (.iload_n 3, 1) := by decide +kernel
theorem dX4_canDo_16 : decode cX4_canDo 16 = .ok (.iconst 2, 1) := by decide +kernel
theorem dX4_canDo_17 : decode cX4_canDo 17 = .ok (.aload_n 0, 1) := by decide +kernel
theorem dX4_canDo_18 : decode cX4_canDo 18 = .ok (.getfield 38, 3) := by decide +kernel
theorem dX4_canDo_21 : decode cX4_canDo 21 = .ok (.iload_n 1, 1) := by decide +kernel
theorem dX4_canDo_22 : decode cX4_canDo 22 = .ok (.iconst 2, 1) := by decide +kernel
theorem dX4_canDo_23 : decode cX4_canDo 23 = .ok (.iadd, 1) := by decide +kernel
theorem dX4_canDo_24 : decode cX4_canDo 24 = .ok (.iaload, 1) := by decide +kernel
theorem dX4_canDo_25 : decode cX4_canDo 25 = .ok (.imul, 1) := by decide +kernel
theorem dX4_canDo_26 : decode cX4_canDo 26 = .ok (.if_icmp .ge 47, 3) := by decide +kernel
theorem dX4_canDo_29 : decode cX4_canDo 29 = .ok (.aload_n 0, 1) := by decide +kernel
theorem dX4_canDo_30 : decode cX4_canDo 30 = .ok (.getfield 38, 3) := by decide +kernel
theorem dX4_canDo_33 : decode cX4_canDo 33 = .ok (.iload_n 1, 1) := by decide +kernel
theorem dX4_canDo_34 : decode cX4_canDo 34 = .ok (.iaload, 1) := by decide +kernel
theorem dX4_canDo_35 : decode cX4_canDo 35 = .ok (.bipush 61, 2) := by decide +kernel
theorem dX4_canDo_37 : decode cX4_canDo 37 = .ok (.if_icmp .ne 36, 3) := by decide +kernel
theorem dX4_canDo_40 : decode cX4_canDo 40 = .ok (.iload_n 2, 1) := by decide +kernel
theorem dX4_canDo_41 : decode cX4_canDo 41 = .ok (.ifCond .eq 24, 3) := by decide +kernel
theorem dX4_canDo_44 : decode cX4_canDo 44 = .ok (.aload_n 0, 1) := by decide +kernel
theorem dX4_canDo_45 : decode cX4_canDo 45 = .ok (.aload_n 0, 1) := by decide +kernel
theorem dX4_canDo_46 : decode cX4_canDo 46 = .ok (.getfield 38, 3) := by decide +kernel
theorem dX4_canDo_49 : decode cX4_canDo 49 = .ok (.iload_n 1, 1) := by decide +kernel
theorem dX4_canDo_50 : decode cX4_canDo 50 = .ok (.iconst 3, 1) := by decide +kernel
theorem dX4_canDo_51 : decode cX4_canDo 51 = .ok (.iadd, 1) := by decide +kernel
theorem dX4_canDo_52 : decode cX4_canDo 52 = .ok (.iload_n 3, 1) := by decide +kernel
theorem dX4_canDo_53 : decode cX4_canDo 53 = .ok (.iadd, 1) := by decide +kernel
theorem dX4_canDo_54 : decode cX4_canDo 54 = .ok (.iaload, 1) := by decide +kernel
theorem dX4_canDo_55 : decode cX4_canDo 55 = .ok (.invokevirtual 147, 3) := by decide +kernel
theorem dX4_canDo_58 : decode cX4_canDo 58 = .ok (.ifCond .eq 7, 3) := by decide +kernel
theorem dX4_canDo_61 : decode cX4_canDo 61 = .ok (.iconst 1, 1) := by decide +kernel
theorem dX4_canDo_62 : decode cX4_canDo 62 = .ok (.goto 4, 3) := by decide +kernel
theorem dX4_canDo_65 : decode cX4_canDo 65 = .ok (.iconst 0, 1) := by decide +kernel
theorem dX4_canDo_66 : decode cX4_canDo 66 = .ok (.istore_n 2, 1) := by decide +kernel
theorem dX4_canDo_67 : decode cX4_canDo 67 = .ok (.iinc 3 1, 3) := by decide +kernel
theorem dX4_canDo_70 : decode cX4_canDo 70 = .ok (.goto (-55), 3) := by decide +kernel
theorem dX4_canDo_73 : decode cX4_canDo 73 = .ok (.iload_n 2, 1) := by decide +kernel
theorem dX4_canDo_74 : decode cX4_canDo 74 = .ok (.ireturn, 1) := by decide +kernel
set_option maxRecDepth 20000 in
theorem ggX4_does_X4_puts : GoodIn wsX4_does wsX4_puts := goodIn_r _ [6] (by decide +kernel) (by decide +kernel)
set_option maxRecDepth 20000 in
theorem gX4_does_X4_puts : GoodIn wsX4_does (va_wsS RX4 143 yX4_puts wsX4_puts) := goodIn_app (goodIn_of _ (by decide +kernel)) ggX4_does_X4_puts
set_option maxRecDepth 20000 in
theorem ggX4_does_X4_strips : GoodIn wsX4_does wsX4_strips := goodIn_r _ [10, 2, 11, 12, 5, 13, 3, 4, 6, 18, 19, 20, 21, 22, 23, 24, 25, 26, 27, 28, 29, 30, 31, 32, 33, 34, 35, 36, 37, 38, 39, 40, 41, 42, 43, 44, 45] (by decide +kernel) (by decide +kernel)
set_option maxRecDepth 20000 in
theorem gX4_does_X4_strips : GoodIn wsX4_does (wsV RX4 157 RX4 yX4_strips wsX4_strips) := goodIn_app (goodIn_of _ (by decide +kernel)) ggX4_does_X4_strips
set_option maxRecDepth 20000 in
theorem ggX4_does_X4_lays : GoodIn wsX4_does wsX4_lays := goodIn_r _ [17, 2, 11, 12, 5, 13, 3, 4, 6, 18, 19, 20, 21, 22, 23, 24, 25, 26, 27, 28, 29, 30, 31, 32, 33, 34, 35, 36, 37, 38, 39, 40, 41, 42, 43, 44, 45] (by decide +kernel) (by decide +kernel)
set_option maxRecDepth 20000 in
theorem gX4_does_X4_lays : GoodIn wsX4_does (wsV RX4 153 RX4 yX4_lays wsX4_lays) := goodIn_app (goodIn_of _ (by decide +kernel)) ggX4_does_X4_lays
theorem dX4_does_0 : decode cX4_does 0 = .ok (.aload_n 0, 1) := by decide +kernel
theorem dX4_does_1 : decode cX4_does 1 = .ok (.getfield 38, 3) := by decide +kernel
theorem dX4_does_4 : decode cX4_does 4 = .ok (.iload_n 1, 1) := by decide +kernel
theorem dX4_does_5 : decode cX4_does 5 = .ok (.iconst 1, 1) := by decide +kernel
theorem dX4_does_6 : decode cX4_does 6 = .ok (.iadd, 1) := by decide +kernel
theorem dX4_does_7 : decode cX4_does 7 = .ok (.iaload, 1) := by decide +kernel
theorem dX4_does_8 : decode cX4_does 8 = .ok (.istore_n 2, 1) := by decide +kernel
theorem dX4_does_9 : decode cX4_does 9 = .ok (.aload_n 0, 1) := by decide +kernel
theorem dX4_does_10 : decode cX4_does 10 = .ok (.getfield 38, 3) := by decide +kernel
theorem dX4_does_13 : decode cX4_does 13 = .ok (.iload_n 1, 1) := by decide +kernel
theorem dX4_does_14 : decode cX4_does 14 = .ok (.iaload, 1) := by decide +kernel
theorem dX4_does_15 : decode cX4_does 15 = .ok (.bipush 61, 2) := by decide +kernel
theorem dX4_does_17 : decode cX4_does 17 = .ok (.if_icmp .eq 36, 3) := by decide +kernel
theorem dX4_does_20 : decode cX4_does 20 = .ok (.aload_n 0, 1) := by decide +kernel
theorem dX4_does_21 : decode cX4_does 21 = .ok (.getfield 7, 3) := by decide +kernel
theorem dX4_does_24 : decode cX4_does 24 = .ok (.iload_n 2, 1) := by decide +kernel
theorem dX4_does_25 : decode cX4_does 25 = .ok (.aload_n 0, 1) := by decide +kernel
theorem dX4_does_26 : decode cX4_does 26 = .ok (.getfield 38, 3) := by decide +kernel
theorem dX4_does_29 : decode cX4_does 29 = .ok (.iload_n 1, 1) := by decide +kernel
theorem dX4_does_30 : decode cX4_does 30 = .ok (.iaload, 1) := by decide +kernel
theorem dX4_does_31 : decode cX4_does 31 = .ok (.bipush 117, 2) := by decide +kernel
theorem dX4_does_33 : decode cX4_does 33 = .ok (.if_icmp .ne 7, 3) := by decide +kernel
theorem dX4_does_36 : decode cX4_does 36 = .ok (.iconst 2, 1) := by decide +kernel
theorem dX4_does_37 : decode cX4_does 37 = .ok (.goto 4, 3) := by decide +kernel
theorem dX4_does_40 : decode cX4_does 40 = .ok (.iconst 3, 1) := by decide +kernel
theorem dX4_does_41 : decode cX4_does 41 = .ok (.aload_n 0, 1) := by decide +kernel
theorem dX4_does_42 : decode cX4_does 42 = .ok (.getfield 38, 3) := by decide +kernel
theorem dX4_does_45 : decode cX4_does 45 = .ok (.iload_n 1, 1) := by decide +kernel
theorem dX4_does_46 : decode cX4_does 46 = .ok (.iconst 2, 1) := by decide +kernel
theorem dX4_does_47 : decode cX4_does 47 = .ok (.iadd, 1) := by decide +kernel
theorem dX4_does_48 : decode cX4_does 48 = .ok (.iaload, 1) := by decide +kernel
theorem dX4_does_49 : decode cX4_does 49 = .ok (.invokestatic 143, 3) := by decide +kernel
theorem dX4_does_52 : decode cX4_does 52 = .ok (.return_, 1) := by decide +kernel
theorem dX4_does_53 : decode cX4_does 53 = .ok (.aload_n 0, 1) := by decide +kernel
theorem dX4_does_54 : decode cX4_does 54 = .ok (.iload_n 2, 1) := by decide +kernel
theorem dX4_does_55 : decode cX4_does 55 = .ok (.invokevirtual 157, 3) := by decide +kernel
theorem dX4_does_58 : decode cX4_does 58 = .ok (.istore_n 3, 1) := by decide +kernel
theorem dX4_does_59 : decode cX4_does 59 = .ok (.iconst 0, 1) := by decide +kernel
theorem dX4_does_60 : decode cX4_does 60 = .ok (.istore 4, 2) := by decide +kernel
theorem dX4_does_62 : decode cX4_does 62 = .ok (.iload 4, 2) := by decide +kernel
theorem dX4_does_64 : decode cX4_does 64 = .ok (.aload_n 0, 1) := by decide +kernel
theorem dX4_does_65 : decode cX4_does 65 = .ok (.getfield 38, 3) := by decide +kernel
theorem dX4_does_68 : decode cX4_does 68 = .ok (.iload_n 1, 1) := by decide +kernel
theorem dX4_does_69 : decode cX4_does 69 = .ok (.iconst 2, 1) := by decide +kernel
theorem dX4_does_70 : decode cX4_does 70 = .ok (.iadd, 1) := by decide +kernel
theorem dX4_does_71 : decode cX4_does 71 = .ok (.iaload, 1) := by decide +kernel
theorem dX4_does_72 : decode cX4_does 72 = .ok (.if_icmp .ge 41, 3) := by decide +kernel
theorem dX4_does_75 : decode cX4_does 75 = .ok (.aload_n 0, 1) := by decide +kernel
theorem dX4_does_76 : decode cX4_does 76 = .ok (.iload_n 2, 1) := by decide +kernel
theorem dX4_does_77 : decode cX4_does 77 = .ok (.aload_n 0, 1) := by decide +kernel
theorem dX4_does_78 : decode cX4_does 78 = .ok (.getfield 38, 3) := by decide +kernel
theorem dX4_does_81 : decode cX4_does 81 = .ok (.iload_n 1, 1) := by decide +kernel
theorem dX4_does_82 : decode cX4_does 82 = .ok (.iconst 3, 1) := by decide +kernel
theorem dX4_does_83 : decode cX4_does 83 = .ok (.iadd, 1) := by decide +kernel
theorem dX4_does_84 : decode cX4_does 84 = .ok (.iconst 2, 1) := by decide +kernel
theorem dX4_does_85 : decode cX4_does 85 = .ok (.iload 4, 2) := by decide +kernel
theorem dX4_does_87 : decode cX4_does 87 = .ok (.imul, 1) := by decide +kernel
theorem dX4_does_88 : decode cX4_does 88 = .ok (.iadd, 1) := by decide +kernel
theorem dX4_does_89 : decode cX4_does 89 = .ok (.iaload, 1) := by decide +kernel
theorem dX4_does_90 : decode cX4_does 90 = .ok (.aload_n 0, 1) := by decide +kernel
theorem dX4_does_91 : decode cX4_does 91 = .ok (.getfield 38, 3) := by decide +kernel
theorem dX4_does_94 : decode cX4_does 94 = .ok (.iload_n 1, 1) := by decide +kernel
theorem dX4_does_95 : decode cX4_does 95 = .ok (.iconst 4, 1) := by decide +kernel
theorem dX4_does_96 : decode cX4_does 96 = .ok (.iadd, 1) := by decide +kernel
theorem dX4_does_97 : decode cX4_does 97 = .ok (.iconst 2, 1) := by decide +kernel
theorem dX4_does_98 : decode cX4_does 98 = .ok (.iload 4, 2) := by decide +kernel
theorem dX4_does_100 : decode cX4_does 100 = .ok (.imul, 1) := by decide +kernel
theorem dX4_does_101 : decode cX4_does 101 = .ok (.iadd, 1) := by decide +kernel
theorem dX4_does_102 : decode cX4_does 102 = .ok (.iaload, 1) := by decide +kernel
theorem dX4_does_103 : decode cX4_does 103 = .ok (.invokevirtual 153, 3) := by decide +kernel
theorem dX4_does_106 : decode cX4_does 106 = .ok (.istore_n 3, 1) := by decide +kernel
theorem dX4_does_107 : decode cX4_does 107 = .ok (.iinc 4 1, 3) := by decide +kernel
theorem dX4_does_110 : decode cX4_does 110 = .ok (.goto (-48), 3) := by decide +kernel
theorem dX4_does_113 : decode cX4_does 113 = .ok (.return_, 1) := by decide +kernel
set_option maxRecDepth 20000 in
theorem ggX4_draw_X4_isText : GoodIn wsX4_draw wsX4_isText := goodIn_r _ [7, 8, 2, 1, 9, 10, 11, 6, 12, 13, 14, 15, 16, 17, 18, 19, 20, 21, 22, 23, 24, 25, 26, 27, 28, 29, 30, 31, 32, 33, 34, 35, 36, 37, 80, 81, 82, 83, 84, 85, 86, 87, 88, 89, 90, 91, 92, 93, 94, 95, 96, 97, 98, 99, 100, 101, 102, 103, 104, 105, 106, 107] (by decide +kernel) (by decide +kernel)
set_option maxRecDepth 20000 in
theorem gX4_draw_X4_isText : GoodIn wsX4_draw (wsV RX4 205 RX4 yX4_isText wsX4_isText) := goodIn_app (goodIn_of _ (by decide +kernel)) ggX4_draw_X4_isText
set_option maxRecDepth 20000 in
theorem ggX4_draw_X4_refuses : GoodIn wsX4_draw wsX4_refuses := goodIn_r _ [41, 42, 80, 81, 82, 83, 84, 85, 86, 87, 88, 89, 90, 91, 92, 93, 94, 95, 96, 97, 98, 99, 100, 101, 102, 103, 104, 105, 106, 107] (by decide +kernel) (by decide +kernel)
set_option maxRecDepth 20000 in
theorem gX4_draw_X4_refuses : GoodIn wsX4_draw (wsV RX4 48 RX4 yX4_refuses wsX4_refuses) := goodIn_app (goodIn_of _ (by decide +kernel)) ggX4_draw_X4_refuses
set_option maxRecDepth 20000 in
theorem ggX4_draw_X4_saves : GoodIn wsX4_draw wsX4_saves := goodIn_r _ [46, 47, 48, 49, 80, 81, 82, 83, 84, 85, 86, 87, 88, 89, 90, 91, 92, 93, 94, 95, 96, 97, 98, 99, 100, 101, 102, 103, 104, 105, 106, 107] (by decide +kernel) (by decide +kernel)
set_option maxRecDepth 20000 in
theorem gX4_draw_X4_saves : GoodIn wsX4_draw (wsV RX4 140 RX4 yX4_saves wsX4_saves) := goodIn_app (goodIn_of _ (by decide +kernel)) ggX4_draw_X4_saves
set_option maxRecDepth 20000 in
theorem ggX4_draw_X4_canDo : GoodIn wsX4_draw wsX4_canDo := goodIn_r _ [53, 13, 54, 55, 56, 6, 57, 49, 23, 24, 25, 58, 59, 60, 61, 80, 81, 82, 83, 84, 85, 86, 87, 88, 89, 90, 91, 92, 93, 94, 95, 96, 97, 98, 99, 100, 101, 102, 103, 104, 105, 106, 107] (by decide +kernel) (by decide +kernel)
set_option maxRecDepth 20000 in
theorem gX4_draw_X4_canDo : GoodIn wsX4_draw (wsV RX4 208 RX4 yX4_canDo wsX4_canDo) := goodIn_app (goodIn_of _ (by decide +kernel)) ggX4_draw_X4_canDo
set_option maxRecDepth 20000 in
theorem ggX4_draw_X4_does : GoodIn wsX4_draw wsX4_does := goodIn_r _ [65, 13, 49, 66, 67, 6, 68, 69, 70, 71, 72, 73, 74, 75, 76, 77, 78, 79, 80, 81, 82, 83, 84, 85, 86, 87, 88, 89, 90, 91, 92, 93, 94, 95, 96, 97, 98, 99, 100, 101, 102, 103, 104, 105, 106, 107] (by decide +kernel) (by decide +kernel)
set_option maxRecDepth 20000 in
theorem gX4_draw_X4_does : GoodIn wsX4_draw (wsV RX4 211 RX4 yX4_does wsX4_does) := goodIn_app (goodIn_of _ (by decide +kernel)) ggX4_draw_X4_does
theorem dX4_draw_0 : decode cX4_draw 0 = .ok (.aload_n 0, 1) := by decide +kernel
theorem dX4_draw_1 : decode cX4_draw 1 = .ok (.aload_n 0, 1) := by decide +kernel
theorem dX4_draw_2 : decode cX4_draw 2 = .ok (.invokevirtual 205, 3) := by decide +kernel
theorem dX4_draw_5 : decode cX4_draw 5 = .ok (.ifCond .eq 7, 3) := by decide +kernel
theorem dX4_draw_8 : decode cX4_draw 8 = .ok (.iconst 0, 1) := by decide +kernel
theorem dX4_draw_9 : decode cX4_draw 9 = .ok (.goto 4, 3) := by decide +kernel
theorem dX4_draw_12 : decode cX4_draw 12 = .ok (.iconst 1, 1) := by decide +kernel
theorem dX4_draw_13 : decode cX4_draw 13 = .ok (.invokevirtual 48, 3) := by decide +kernel
theorem dX4_draw_16 : decode cX4_draw 16 = .ok (.ifCond .eq 5, 3) := by decide +kernel
theorem dX4_draw_19 : decode cX4_draw 19 = .ok (.iconst 0, 1) := by decide +kernel
theorem dX4_draw_20 : decode cX4_draw 20 = .ok (.ireturn, 1) := by decide +kernel
theorem dX4_draw_21 : decode cX4_draw 21 = .ok (.aload_n 0, 1) := by decide +kernel
theorem dX4_draw_22 : decode cX4_draw 22 = .ok (.invokevirtual 140, 3) := by decide +kernel
theorem dX4_draw_25 : decode cX4_draw 25 = .ok (.aload_n 0, 1) := by decide +kernel
theorem dX4_draw_26 : decode cX4_draw 26 = .ok (.iconst 0, 1) := by decide +kernel
theorem dX4_draw_27 : decode cX4_draw 27 = .ok (.putfield 176, 3) := by decide +kernel
theorem dX4_draw_30 : decode cX4_draw 30 = .ok (.iconst 0, 1) := by decide +kernel
theorem dX4_draw_31 : decode cX4_draw 31 = .ok (.istore_n 1, 1) := by decide +kernel
theorem dX4_draw_32 : decode cX4_draw 32 = .ok (.iload_n 1, 1) := by decide +kernel
theorem dX4_draw_33 : decode cX4_draw 33 = .ok (.aload_n 0, 1) := by decide +kernel
theorem dX4_draw_34 : decode cX4_draw 34 = .ok (.getfield 186, 3) := by decide +kernel
theorem dX4_draw_37 : decode cX4_draw 37 = .ok (.if_icmp .ge 28, 3) := by decide +kernel
theorem dX4_draw_40 : decode cX4_draw 40 = .ok (.aload_n 0, 1) := by decide +kernel
theorem dX4_draw_41 : decode cX4_draw 41 = .ok (.bipush 11, 2) := by decide +kernel
theorem dX4_draw_43 : decode cX4_draw 43 = .ok (.iload_n 1, 1) := by decide +kernel
theorem dX4_draw_44 : decode cX4_draw 44 = .ok (.imul, 1) := by decide +kernel
theorem dX4_draw_45 : decode cX4_draw 45 = .ok (.invokevirtual 208, 3) := by decide +kernel
theorem dX4_draw_48 : decode cX4_draw 48 = .ok (.ifCond .eq 17, 3) := by decide +kernel
theorem dX4_draw_51 : decode cX4_draw 51 = .ok (.aload_n 0, 1) := by decide +kernel
theorem dX4_draw_52 : decode cX4_draw 52 = .ok (.bipush 11, 2) := by decide +kernel
theorem dX4_draw_54 : decode cX4_draw 54 = .ok (.iload_n 1, 1) := by decide +kernel
theorem dX4_draw_55 : decode cX4_draw 55 = .ok (.imul, 1) := by decide +kernel
theorem dX4_draw_56 : decode cX4_draw 56 = .ok (.invokevirtual 211, 3) := by decide +kernel
theorem dX4_draw_59 : decode cX4_draw 59 = .ok (.iinc 1 1, 3) := by decide +kernel
theorem dX4_draw_62 : decode cX4_draw 62 = .ok (.goto (-30), 3) := by decide +kernel
theorem dX4_draw_65 : decode cX4_draw 65 = .ok (.iload_n 1, 1) := by decide +kernel
theorem dX4_draw_66 : decode cX4_draw 66 = .ok (.ireturn, 1) := by decide +kernel
set_option maxRecDepth 20000 in
theorem ggX4_holdsItself_X4_of : GoodIn wsX4_holdsItself wsX4_of := goodIn_r _ [5] (by decide +kernel) (by decide +kernel)
set_option maxRecDepth 20000 in
theorem gX4_holdsItself_X4_of : GoodIn wsX4_holdsItself (va_wsS RX4 56 yX4_of wsX4_of) := goodIn_app (goodIn_of _ (by decide +kernel)) ggX4_holdsItself_X4_of
theorem dX4_holdsItself_0 : decode cX4_holdsItself 0 = .ok (.iconst 0, 1) := by decide +kernel
theorem dX4_holdsItself_1 : decode cX4_holdsItself 1 = .ok (.istore_n 2, 1) := by decide +kernel
theorem dX4_holdsItself_2 : decode cX4_holdsItself 2 = .ok (.iconst 0, 1) := by decide +kernel
theorem dX4_holdsItself_3 : decode cX4_holdsItself 3 = .ok (.istore_n 3, 1) := by decide +kernel
theorem dX4_holdsItself_4 : decode cX4_holdsItself 4 = .ok (.iload_n 3, 1) := by decide +kernel
theorem dX4_holdsItself_5 : decode cX4_holdsItself 5 = .ok (.aload_n 0, 1) := by decide +kernel
theorem dX4_holdsItself_6 : decode cX4_holdsItself 6 = .ok (.getfield 7, 3) := by decide +kernel
theorem dX4_holdsItself_9 : decode cX4_holdsItself 9 = .ok (.iload_n 1, 1) := by decide +kernel
theorem dX4_holdsItself_10 : decode cX4_holdsItself 10 = .ok (.iconst 4, 1) := by decide +kernel
theorem dX4_holdsItself_11 : decode cX4_holdsItself 11 = .ok (.invokestatic 56, 3) := by decide +kernel
theorem dX4_holdsItself_14 : decode cX4_holdsItself 14 = .ok (.if_icmp .ge 43, 3) := by decide +kernel
theorem dX4_holdsItself_17 : decode cX4_holdsItself 17 = .ok (.iload_n 2, 1) := by decide +kernel
theorem dX4_holdsItself_18 : decode cX4_holdsItself 18 = .ok (.ifCond .ne 27, 3) := by decide +kernel
theorem dX4_holdsItself_21 : decode cX4_holdsItself 21 = .ok (.aload_n 0, 1) := by decide +kernel
theorem dX4_holdsItself_22 : decode cX4_holdsItself 22 = .ok (.getfield 7, 3) := by decide +kernel
theorem dX4_holdsItself_25 : decode cX4_holdsItself 25 = .ok (.iload_n 1, 1) := by decide +kernel
theorem dX4_holdsItself_26 : decode cX4_holdsItself 26 = .ok (.bipush 6, 2) := by decide +kernel
theorem dX4_holdsItself_28 : decode cX4_holdsItself 28 = .ok (.iconst 2, 1) := by decide +kernel
theorem dX4_holdsItself_29 : decode cX4_holdsItself 29 = .ok (.iload_n 3, 1) := by decide +kernel
theorem dX4_holdsItself_30 : decode cX4_holdsItself 30 = .ok (.imul, 1) := by decide +kernel
theorem dX4_holdsItself_31 : decode cX4_holdsItself 31 = .ok (.iadd, 1) := by decide +kernel
theorem dX4_holdsItself_32 : decode cX4_holdsItself 32 = .ok (.invokestatic 56, 3) := by decide +kernel
theorem dX4_holdsItself_35 : decode cX4_holdsItself 35 = .ok (.iconst 4, 1) := by decide +kernel
theorem dX4_holdsItself_36 : decode cX4_holdsItself 36 = .ok (.iload_n 1, 1) := by decide +kernel
theorem dX4_holdsItself_37 : decode cX4_holdsItself 37 = .ok (.iadd, 1) := by decide +kernel
theorem dX4_holdsItself_38 : decode cX4_holdsItself 38 = .ok (.ishr, 1) := by decide +kernel
theorem dX4_holdsItself_39 : decode cX4_holdsItself 39 = .ok (.iconst 1, 1) := by decide +kernel
theorem dX4_holdsItself_40 : decode cX4_holdsItself 40 = .ok (.iand, 1) := by decide +kernel
theorem dX4_holdsItself_41 : decode cX4_holdsItself 41 = .ok (.iconst 1, 1) := by decide +kernel
theorem dX4_holdsItself_42 : decode cX4_holdsItself 42 = .ok (.if_icmp .ne 7, 3) := by decide +kernel
theorem dX4_holdsItself_45 : decode cX4_holdsItself 45 = .ok (.iconst 1, 1) := by decide +kernel
theorem dX4_holdsItself_46 : decode cX4_holdsItself 46 = .ok (.goto 4, 3) := by decide +kernel
theorem dX4_holdsItself_49 : decode cX4_holdsItself 49 = .ok (.iconst 0, 1) := by decide +kernel
theorem dX4_holdsItself_50 : decode cX4_holdsItself 50 = .ok (.istore_n 2, 1) := by decide +kernel
theorem dX4_holdsItself_51 : decode cX4_holdsItself 51 = .ok (.iinc 3 1, 3) := by decide +kernel
theorem dX4_holdsItself_54 : decode cX4_holdsItself 54 = .ok (.goto (-50), 3) := by decide +kernel
theorem dX4_holdsItself_57 : decode cX4_holdsItself 57 = .ok (.iload_n 2, 1) := by decide +kernel
theorem dX4_holdsItself_58 : decode cX4_holdsItself 58 = .ok (.ireturn, 1) := by decide +kernel
set_option maxRecDepth 20000 in
theorem ggX4_isCalled_X4_codeOf : GoodIn wsX4_isCalled wsX4_codeOf := goodIn_r _ [5, 6, 7, 4, 8] (by decide +kernel) (by decide +kernel)
set_option maxRecDepth 20000 in
theorem gX4_isCalled_X4_codeOf : GoodIn wsX4_isCalled (va_wsS RX4 115 yX4_codeOf wsX4_codeOf) := goodIn_app (goodIn_of _ (by decide +kernel)) ggX4_isCalled_X4_codeOf
set_option maxRecDepth 20000 in
theorem ggX4_isCalled_X4_upOf : GoodIn wsX4_isCalled wsX4_upOf := goodIn_r _ [11] (by decide +kernel) (by decide +kernel)
set_option maxRecDepth 20000 in
theorem gX4_isCalled_X4_upOf : GoodIn wsX4_isCalled (va_wsS RX4 64 yX4_upOf wsX4_upOf) := goodIn_app (goodIn_of _ (by decide +kernel)) ggX4_isCalled_X4_upOf
set_option maxRecDepth 20000 in
theorem ggX4_isCalled_X4_calledBy : GoodIn wsX4_isCalled wsX4_calledBy := goodIn_r _ [14, 6, 7, 4, 8, 15, 16, 17] (by decide +kernel) (by decide +kernel)
set_option maxRecDepth 20000 in
theorem gX4_isCalled_X4_calledBy : GoodIn wsX4_isCalled (va_wsS RX4 68 yX4_calledBy wsX4_calledBy) := goodIn_app (goodIn_of _ (by decide +kernel)) ggX4_isCalled_X4_calledBy
theorem dX4_isCalled_0 : decode cX4_isCalled 0 = .ok (.aload_n 0, 1) := by decide +kernel
theorem dX4_isCalled_1 : decode cX4_isCalled 1 = .ok (.getfield 7, 3) := by decide +kernel
theorem dX4_isCalled_4 : decode cX4_isCalled 4 = .ok (.aload_n 0, 1) := by decide +kernel
theorem dX4_isCalled_5 : decode cX4_isCalled 5 = .ok (.getfield 7, 3) := by decide +kernel
theorem dX4_isCalled_8 : decode cX4_isCalled 8 = .ok (.invokestatic 115, 3) := by decide +kernel
theorem dX4_isCalled_11 : decode cX4_isCalled 11 = .ok (.invokestatic 64, 3) := by decide +kernel
theorem dX4_isCalled_14 : decode cX4_isCalled 14 = .ok (.invokestatic 68, 3) := by decide +kernel
theorem dX4_isCalled_17 : decode cX4_isCalled 17 = .ok (.iload_n 1, 1) := by decide +kernel
theorem dX4_isCalled_18 : decode cX4_isCalled 18 = .ok (.ishr, 1) := by decide +kernel
theorem dX4_isCalled_19 : decode cX4_isCalled 19 = .ok (.iconst 1, 1) := by decide +kernel
theorem dX4_isCalled_20 : decode cX4_isCalled 20 = .ok (.iand, 1) := by decide +kernel
theorem dX4_isCalled_21 : decode cX4_isCalled 21 = .ok (.ireturn, 1) := by decide +kernel
set_option maxRecDepth 20000 in
theorem ggX4_ticksTo_X4_of : GoodIn wsX4_ticksTo wsX4_of := goodIn_r _ [5] (by decide +kernel) (by decide +kernel)
set_option maxRecDepth 20000 in
theorem gX4_ticksTo_X4_of : GoodIn wsX4_ticksTo (va_wsS RX4 56 yX4_of wsX4_of) := goodIn_app (goodIn_of _ (by decide +kernel)) ggX4_ticksTo_X4_of
set_option maxRecDepth 20000 in
theorem ggX4_ticksTo_X4_isCalled : GoodIn wsX4_ticksTo wsX4_isCalled := goodIn_r _ [9, 1, 10, 11, 4, 12, 2, 3, 5, 13, 14, 15, 16, 17, 18, 19, 20, 21, 22, 23, 24, 25, 26, 27, 28, 29, 30, 31, 32, 33, 34, 35, 36, 37, 38, 39, 40, 41, 42, 43, 44, 45, 46, 47, 48, 49] (by decide +kernel) (by decide +kernel)
set_option maxRecDepth 20000 in
theorem gX4_ticksTo_X4_isCalled : GoodIn wsX4_ticksTo (wsV RX4 215 RX4 yX4_isCalled wsX4_isCalled) := goodIn_app (goodIn_of _ (by decide +kernel)) ggX4_ticksTo_X4_isCalled
theorem dX4_ticksTo_0 : decode cX4_ticksTo 0 = .ok (.aload_n 0, 1) := by decide +kernel
theorem dX4_ticksTo_1 : decode cX4_ticksTo 1 = .ok (.getfield 7, 3) := by decide +kernel
theorem dX4_ticksTo_4 : decode cX4_ticksTo 4 = .ok (.iload_n 1, 1) := by decide +kernel
theorem dX4_ticksTo_5 : decode cX4_ticksTo 5 = .ok (.iconst 0, 1) := by decide +kernel
theorem dX4_ticksTo_6 : decode cX4_ticksTo 6 = .ok (.invokestatic 56, 3) := by decide +kernel
theorem dX4_ticksTo_9 : decode cX4_ticksTo 9 = .ok (.iconst 1, 1) := by decide +kernel
theorem dX4_ticksTo_10 : decode cX4_ticksTo 10 = .ok (.if_icmp .ne 7, 3) := by decide +kernel
theorem dX4_ticksTo_13 : decode cX4_ticksTo 13 = .ok (.iconst 1, 1) := by decide +kernel
theorem dX4_ticksTo_14 : decode cX4_ticksTo 14 = .ok (.goto 4, 3) := by decide +kernel
theorem dX4_ticksTo_17 : decode cX4_ticksTo 17 = .ok (.iconst 0, 1) := by decide +kernel
theorem dX4_ticksTo_18 : decode cX4_ticksTo 18 = .ok (.istore_n 2, 1) := by decide +kernel
theorem dX4_ticksTo_19 : decode cX4_ticksTo 19 = .ok (.aload_n 0, 1) := by decide +kernel
theorem dX4_ticksTo_20 : decode cX4_ticksTo 20 = .ok (.iload_n 1, 1) := by decide +kernel
theorem dX4_ticksTo_21 : decode cX4_ticksTo 21 = .ok (.invokevirtual 215, 3) := by decide +kernel
theorem dX4_ticksTo_24 : decode cX4_ticksTo 24 = .ok (.aload_n 0, 1) := by decide +kernel
theorem dX4_ticksTo_25 : decode cX4_ticksTo 25 = .ok (.getfield 7, 3) := by decide +kernel
theorem dX4_ticksTo_28 : decode cX4_ticksTo 28 = .ok (.iload_n 1, 1) := by decide +kernel
theorem dX4_ticksTo_29 : decode cX4_ticksTo 29 = .ok (.iconst 0, 1) := by decide +kernel
theorem dX4_ticksTo_30 : decode cX4_ticksTo 30 = .ok (.invokestatic 56, 3) := by decide +kernel
theorem dX4_ticksTo_33 : decode cX4_ticksTo 33 = .ok (.if_icmp .ne 5, 3) := by decide +kernel
theorem dX4_ticksTo_36 : decode cX4_ticksTo 36 = .ok (.iconst 0, 1) := by decide +kernel
theorem dX4_ticksTo_37 : decode cX4_ticksTo 37 = .ok (.ireturn, 1) := by decide +kernel
theorem dX4_ticksTo_38 : decode cX4_ticksTo 38 = .ok (.aload_n 0, 1) := by decide +kernel
theorem dX4_ticksTo_39 : decode cX4_ticksTo 39 = .ok (.getfield 7, 3) := by decide +kernel
theorem dX4_ticksTo_42 : decode cX4_ticksTo 42 = .ok (.iload_n 1, 1) := by decide +kernel
theorem dX4_ticksTo_43 : decode cX4_ticksTo 43 = .ok (.iload_n 2, 1) := by decide +kernel
theorem dX4_ticksTo_44 : decode cX4_ticksTo 44 = .ok (.ifCond .eq 7, 3) := by decide +kernel
theorem dX4_ticksTo_47 : decode cX4_ticksTo 47 = .ok (.iconst 3, 1) := by decide +kernel
theorem dX4_ticksTo_48 : decode cX4_ticksTo 48 = .ok (.goto 4, 3) := by decide +kernel
theorem dX4_ticksTo_51 : decode cX4_ticksTo 51 = .ok (.iconst 2, 1) := by decide +kernel
theorem dX4_ticksTo_52 : decode cX4_ticksTo 52 = .ok (.invokestatic 56, 3) := by decide +kernel
theorem dX4_ticksTo_55 : decode cX4_ticksTo 55 = .ok (.iconst 1, 1) := by decide +kernel
theorem dX4_ticksTo_56 : decode cX4_ticksTo 56 = .ok (.iadd, 1) := by decide +kernel
theorem dX4_ticksTo_57 : decode cX4_ticksTo 57 = .ok (.aload_n 0, 1) := by decide +kernel
theorem dX4_ticksTo_58 : decode cX4_ticksTo 58 = .ok (.getfield 7, 3) := by decide +kernel
theorem dX4_ticksTo_61 : decode cX4_ticksTo 61 = .ok (.iload_n 1, 1) := by decide +kernel
theorem dX4_ticksTo_62 : decode cX4_ticksTo 62 = .ok (.iconst 1, 1) := by decide +kernel
theorem dX4_ticksTo_63 : decode cX4_ticksTo 63 = .ok (.invokestatic 56, 3) := by decide +kernel
theorem dX4_ticksTo_66 : decode cX4_ticksTo 66 = .ok (.isub, 1) := by decide +kernel
theorem dX4_ticksTo_67 : decode cX4_ticksTo 67 = .ok (.istore_n 3, 1) := by decide +kernel
theorem dX4_ticksTo_68 : decode cX4_ticksTo 68 = .ok (.iload_n 3, 1) := by decide +kernel
theorem dX4_ticksTo_69 : decode cX4_ticksTo 69 = .ok (.iconst 1, 1) := by decide +kernel
theorem dX4_ticksTo_70 : decode cX4_ticksTo 70 = .ok (.if_icmp .ge 7, 3) := by decide +kernel
theorem dX4_ticksTo_73 : decode cX4_ticksTo 73 = .ok (.iconst 1, 1) := by decide +kernel
theorem dX4_ticksTo_74 : decode cX4_ticksTo 74 = .ok (.goto 4, 3) := by decide +kernel
theorem dX4_ticksTo_77 : decode cX4_ticksTo 77 = .ok (.iload_n 3, 1) := by decide +kernel
theorem dX4_ticksTo_78 : decode cX4_ticksTo 78 = .ok (.ireturn, 1) := by decide +kernel
set_option maxRecDepth 20000 in
theorem ggX4_ofRelay_X4_of : GoodIn wsX4_ofRelay wsX4_of := goodIn_r _ [5] (by decide +kernel) (by decide +kernel)
set_option maxRecDepth 20000 in
theorem gX4_ofRelay_X4_of : GoodIn wsX4_ofRelay (va_wsS RX4 56 yX4_of wsX4_of) := goodIn_app (goodIn_of _ (by decide +kernel)) ggX4_ofRelay_X4_of
set_option maxRecDepth 20000 in
theorem ggX4_ofRelay_X4_isCalled : GoodIn wsX4_ofRelay wsX4_isCalled := goodIn_r _ [9, 1, 10, 11, 4, 12, 2, 3, 5, 13, 14, 15, 16, 17, 18, 19, 20, 21, 30, 31, 32, 33, 34, 35, 36, 37, 38, 39, 40, 41, 42, 43, 44, 45, 46, 47, 48, 49, 50, 51, 52, 53, 54, 55, 56, 57] (by decide +kernel) (by decide +kernel)
set_option maxRecDepth 20000 in
theorem gX4_ofRelay_X4_isCalled : GoodIn wsX4_ofRelay (wsV RX4 215 RX4 yX4_isCalled wsX4_isCalled) := goodIn_app (goodIn_of _ (by decide +kernel)) ggX4_ofRelay_X4_isCalled
set_option maxRecDepth 20000 in
theorem ggX4_ofRelay_X4_holdsItself : GoodIn wsX4_ofRelay wsX4_holdsItself := goodIn_r _ [25, 1, 2, 3, 4, 5, 30, 31, 32, 33, 34, 35, 36, 37, 38, 39, 40, 41, 42, 43, 44, 45, 46, 47, 48, 49, 50, 51, 52, 53, 54, 55, 56, 57] (by decide +kernel) (by decide +kernel)
set_option maxRecDepth 20000 in
theorem gX4_ofRelay_X4_holdsItself : GoodIn wsX4_ofRelay (wsV RX4 218 RX4 yX4_holdsItself wsX4_holdsItself) := goodIn_app (goodIn_of _ (by decide +kernel)) ggX4_ofRelay_X4_holdsItself
set_option maxRecDepth 20000 in
theorem ggX4_ofRelay_X4_ticksTo : GoodIn wsX4_ofRelay wsX4_ticksTo := goodIn_r _ [29, 1, 2, 3, 4, 5, 6, 7, 8, 9, 10, 11, 12, 13, 14, 15, 16, 17, 18, 19, 20, 21, 30, 31, 32, 33, 34, 35, 36, 37, 38, 39, 40, 41, 42, 43, 44, 45, 46, 47, 48, 49, 50, 51, 52, 53, 54, 55, 56, 57] (by decide +kernel) (by decide +kernel)
set_option maxRecDepth 20000 in
theorem gX4_ofRelay_X4_ticksTo : GoodIn wsX4_ofRelay (wsV RX4 221 RX4 yX4_ticksTo wsX4_ticksTo) := goodIn_app (goodIn_of _ (by decide +kernel)) ggX4_ofRelay_X4_ticksTo
theorem dX4_ofRelay_0 : decode cX4_ofRelay 0 = .ok (.iload_n 2, 1) := by decide +kernel
theorem dX4_ofRelay_1 : decode cX4_ofRelay 1 = .ok (.tableswitch 127 0 7 #[47, 57, 63, 73, 83, 93, 103, 117], 47) := by decide +kernel
theorem dX4_ofRelay_48 : decode cX4_ofRelay 48 = .ok (.aload_n 0, 1) := by decide +kernel
theorem dX4_ofRelay_49 : decode cX4_ofRelay 49 = .ok (.getfield 7, 3) := by decide +kernel
theorem dX4_ofRelay_52 : decode cX4_ofRelay 52 = .ok (.iload_n 1, 1) := by decide +kernel
theorem dX4_ofRelay_53 : decode cX4_ofRelay 53 = .ok (.iconst 0, 1) := by decide +kernel
theorem dX4_ofRelay_54 : decode cX4_ofRelay 54 = .ok (.invokestatic 56, 3) := by decide +kernel
theorem dX4_ofRelay_57 : decode cX4_ofRelay 57 = .ok (.ireturn, 1) := by decide +kernel
theorem dX4_ofRelay_58 : decode cX4_ofRelay 58 = .ok (.aload_n 0, 1) := by decide +kernel
theorem dX4_ofRelay_59 : decode cX4_ofRelay 59 = .ok (.iload_n 1, 1) := by decide +kernel
theorem dX4_ofRelay_60 : decode cX4_ofRelay 60 = .ok (.invokevirtual 215, 3) := by decide +kernel
theorem dX4_ofRelay_63 : decode cX4_ofRelay 63 = .ok (.ireturn, 1) := by decide +kernel
theorem dX4_ofRelay_64 : decode cX4_ofRelay 64 = .ok (.aload_n 0, 1) := by decide +kernel
theorem dX4_ofRelay_65 : decode cX4_ofRelay 65 = .ok (.getfield 7, 3) := by decide +kernel
theorem dX4_ofRelay_68 : decode cX4_ofRelay 68 = .ok (.iload_n 1, 1) := by decide +kernel
theorem dX4_ofRelay_69 : decode cX4_ofRelay 69 = .ok (.iconst 1, 1) := by decide +kernel
theorem dX4_ofRelay_70 : decode cX4_ofRelay 70 = .ok (.invokestatic 56, 3) := by decide +kernel
theorem dX4_ofRelay_73 : decode cX4_ofRelay 73 = .ok (.ireturn, 1) := by decide +kernel
theorem dX4_ofRelay_74 : decode cX4_ofRelay 74 = .ok (.aload_n 0, 1) := by decide +kernel
theorem dX4_ofRelay_75 : decode cX4_ofRelay 75 = .ok (.getfield 7, 3) := by decide +kernel
theorem dX4_ofRelay_78 : decode cX4_ofRelay 78 = .ok (.iload_n 1, 1) := by decide +kernel
theorem dX4_ofRelay_79 : decode cX4_ofRelay 79 = .ok (.iconst 2, 1) := by decide +kernel
theorem dX4_ofRelay_80 : decode cX4_ofRelay 80 = .ok (.invokestatic 56, 3) := by decide +kernel
theorem dX4_ofRelay_83 : decode cX4_ofRelay 83 = .ok (.ireturn, 1) := by decide +kernel
theorem dX4_ofRelay_84 : decode cX4_ofRelay 84 = .ok (.aload_n 0, 1) := by decide +kernel
theorem dX4_ofRelay_85 : decode cX4_ofRelay 85 = .ok (.getfield 7, 3) := by decide +kernel
theorem dX4_ofRelay_88 : decode cX4_ofRelay 88 = .ok (.iload_n 1, 1) := by decide +kernel
theorem dX4_ofRelay_89 : decode cX4_ofRelay 89 = .ok (.iconst 3, 1) := by decide +kernel
theorem dX4_ofRelay_90 : decode cX4_ofRelay 90 = .ok (.invokestatic 56, 3) := by decide +kernel
theorem dX4_ofRelay_93 : decode cX4_ofRelay 93 = .ok (.ireturn, 1) := by decide +kernel
theorem dX4_ofRelay_94 : decode cX4_ofRelay 94 = .ok (.aload_n 0, 1) := by decide +kernel
theorem dX4_ofRelay_95 : decode cX4_ofRelay 95 = .ok (.getfield 7, 3) := by decide +kernel
theorem dX4_ofRelay_98 : decode cX4_ofRelay 98 = .ok (.iload_n 1, 1) := by decide +kernel
theorem dX4_ofRelay_99 : decode cX4_ofRelay 99 = .ok (.iconst 4, 1) := by decide +kernel
theorem dX4_ofRelay_100 : decode cX4_ofRelay 100 = .ok (.invokestatic 56, 3) := by decide +kernel
theorem dX4_ofRelay_103 : decode cX4_ofRelay 103 = .ok (.ireturn, 1) := by decide +kernel
theorem dX4_ofRelay_104 : decode cX4_ofRelay 104 = .ok (.aload_n 0, 1) := by decide +kernel
theorem dX4_ofRelay_105 : decode cX4_ofRelay 105 = .ok (.iload_n 1, 1) := by decide +kernel
theorem dX4_ofRelay_106 : decode cX4_ofRelay 106 = .ok (.invokevirtual 218, 3) := by decide +kernel
theorem dX4_ofRelay_109 : decode cX4_ofRelay 109 = .ok (.ifCond .eq 7, 3) := by decide +kernel
theorem dX4_ofRelay_112 : decode cX4_ofRelay 112 = .ok (.iconst 1, 1) := by decide +kernel
theorem dX4_ofRelay_113 : decode cX4_ofRelay 113 = .ok (.goto 4, 3) := by decide +kernel
theorem dX4_ofRelay_116 : decode cX4_ofRelay 116 = .ok (.iconst 0, 1) := by decide +kernel
theorem dX4_ofRelay_117 : decode cX4_ofRelay 117 = .ok (.ireturn, 1) := by decide +kernel
theorem dX4_ofRelay_118 : decode cX4_ofRelay 118 = .ok (.aload_n 0, 1) := by decide +kernel
theorem dX4_ofRelay_119 : decode cX4_ofRelay 119 = .ok (.getfield 7, 3) := by decide +kernel
theorem dX4_ofRelay_122 : decode cX4_ofRelay 122 = .ok (.iload_n 1, 1) := by decide +kernel
theorem dX4_ofRelay_123 : decode cX4_ofRelay 123 = .ok (.iconst 5, 1) := by decide +kernel
theorem dX4_ofRelay_124 : decode cX4_ofRelay 124 = .ok (.invokestatic 56, 3) := by decide +kernel
theorem dX4_ofRelay_127 : decode cX4_ofRelay 127 = .ok (.ireturn, 1) := by decide +kernel
theorem dX4_ofRelay_128 : decode cX4_ofRelay 128 = .ok (.aload_n 0, 1) := by decide +kernel
theorem dX4_ofRelay_129 : decode cX4_ofRelay 129 = .ok (.iload_n 1, 1) := by decide +kernel
theorem dX4_ofRelay_130 : decode cX4_ofRelay 130 = .ok (.invokevirtual 221, 3) := by decide +kernel
theorem dX4_ofRelay_133 : decode cX4_ofRelay 133 = .ok (.ireturn, 1) := by decide +kernel
set_option maxRecDepth 20000 in
theorem ggX4_relay_X4_isRelay : GoodIn wsX4_relay wsX4_isRelay := goodIn_r _ [5, 6, 7, 8, 4, 9, 46, 47, 48, 49, 50, 51, 52, 53, 54, 55, 56, 57, 58, 59, 60, 61, 62, 63, 64, 65, 66, 67, 68, 69, 70, 71, 72, 73] (by decide +kernel) (by decide +kernel)
set_option maxRecDepth 20000 in
theorem gX4_relay_X4_isRelay : GoodIn wsX4_relay (wsV RX4 150 RX4 yX4_isRelay wsX4_isRelay) := goodIn_app (goodIn_of _ (by decide +kernel)) ggX4_relay_X4_isRelay
set_option maxRecDepth 20000 in
theorem ggX4_relay_X4_in : GoodIn wsX4_relay wsX4_in := goodIn_r _ [9] (by decide +kernel) (by decide +kernel)
set_option maxRecDepth 20000 in
theorem gX4_relay_X4_in : GoodIn wsX4_relay (va_wsS RX4 52 yX4_in wsX4_in) := goodIn_app (goodIn_of _ (by decide +kernel)) ggX4_relay_X4_in
set_option maxRecDepth 20000 in
theorem ggX4_relay_X4_refuses : GoodIn wsX4_relay wsX4_refuses := goodIn_r _ [13, 14, 46, 47, 48, 49, 50, 51, 52, 53, 54, 55, 56, 57, 58, 59, 60, 61, 62, 63, 64, 65, 66, 67, 68, 69, 70, 71, 72, 73] (by decide +kernel) (by decide +kernel)
set_option maxRecDepth 20000 in
theorem gX4_relay_X4_refuses : GoodIn wsX4_relay (wsV RX4 48 RX4 yX4_refuses wsX4_refuses) := goodIn_app (goodIn_of _ (by decide +kernel)) ggX4_relay_X4_refuses
set_option maxRecDepth 20000 in
theorem ggX4_relay_X4_ofRelay : GoodIn wsX4_relay wsX4_ofRelay := goodIn_r _ [18, 6, 19, 20, 4, 21, 22, 23, 24, 25, 26, 27, 28, 29, 30, 31, 32, 33, 34, 35, 36, 37, 38, 39, 40, 41, 42, 43, 44, 45, 46, 47, 48, 49, 50, 51, 52, 53, 54, 55, 56, 57, 58, 59, 60, 61, 62, 63, 64, 65, 66, 67, 68, 69, 70, 71, 72, 73] (by decide +kernel) (by decide +kernel)
set_option maxRecDepth 20000 in
theorem gX4_relay_X4_ofRelay : GoodIn wsX4_relay (wsV RX4 224 RX4 yX4_ofRelay wsX4_ofRelay) := goodIn_app (goodIn_of _ (by decide +kernel)) ggX4_relay_X4_ofRelay
theorem dX4_relay_0 : decode cX4_relay 0 = .ok (.aload_n 0, 1) := by decide +kernel
theorem dX4_relay_1 : decode cX4_relay 1 = .ok (.aload_n 0, 1) := by decide +kernel
theorem dX4_relay_2 : decode cX4_relay 2 = .ok (.iload_n 1, 1) := by decide +kernel
theorem dX4_relay_3 : decode cX4_relay 3 = .ok (.invokevirtual 150, 3) := by decide +kernel
theorem dX4_relay_6 : decode cX4_relay 6 = .ok (.ifCond .ne 7, 3) := by decide +kernel
theorem dX4_relay_9 : decode cX4_relay 9 = .ok (.iconst 1, 1) := by decide +kernel
theorem dX4_relay_10 : decode cX4_relay 10 = .ok (.goto 18, 3) := by decide +kernel
theorem dX4_relay_13 : decode cX4_relay 13 = .ok (.iload_n 2, 1) := by decide +kernel
theorem dX4_relay_14 : decode cX4_relay 14 = .ok (.iconst 0, 1) := by decide +kernel
theorem dX4_relay_15 : decode cX4_relay 15 = .ok (.bipush 8, 2) := by decide +kernel
theorem dX4_relay_17 : decode cX4_relay 17 = .ok (.invokestatic 52, 3) := by decide +kernel
theorem dX4_relay_20 : decode cX4_relay 20 = .ok (.ifCond .eq 7, 3) := by decide +kernel
theorem dX4_relay_23 : decode cX4_relay 23 = .ok (.iconst 0, 1) := by decide +kernel
theorem dX4_relay_24 : decode cX4_relay 24 = .ok (.goto 4, 3) := by decide +kernel
theorem dX4_relay_27 : decode cX4_relay 27 = .ok (.iconst 2, 1) := by decide +kernel
theorem dX4_relay_28 : decode cX4_relay 28 = .ok (.invokevirtual 48, 3) := by decide +kernel
theorem dX4_relay_31 : decode cX4_relay 31 = .ok (.ifCond .eq 7, 3) := by decide +kernel
theorem dX4_relay_34 : decode cX4_relay 34 = .ok (.iconst 0, 1) := by decide +kernel
theorem dX4_relay_35 : decode cX4_relay 35 = .ok (.goto 9, 3) := by decide +kernel
theorem dX4_relay_38 : decode cX4_relay 38 = .ok (.aload_n 0, 1) := by decide +kernel
theorem dX4_relay_39 : decode cX4_relay 39 = .ok (.iload_n 1, 1) := by decide +kernel
theorem dX4_relay_40 : decode cX4_relay 40 = .ok (.iload_n 2, 1) := by decide +kernel
theorem dX4_relay_41 : decode cX4_relay 41 = .ok (.invokevirtual 224, 3) := by decide +kernel
theorem dX4_relay_44 : decode cX4_relay 44 = .ok (.ireturn, 1) := by decide +kernel
set_option maxRecDepth 20000 in
theorem ggX4_ofBranch_X4_of : GoodIn wsX4_ofBranch wsX4_of := goodIn_r _ [5] (by decide +kernel) (by decide +kernel)
set_option maxRecDepth 20000 in
theorem gX4_ofBranch_X4_of : GoodIn wsX4_ofBranch (va_wsS RX4 56 yX4_of wsX4_of) := goodIn_app (goodIn_of _ (by decide +kernel)) ggX4_ofBranch_X4_of
set_option maxRecDepth 20000 in
theorem ggX4_ofBranch_X4_codeOf : GoodIn wsX4_ofBranch wsX4_codeOf := goodIn_r _ [8, 2, 3, 4, 5] (by decide +kernel) (by decide +kernel)
set_option maxRecDepth 20000 in
theorem gX4_ofBranch_X4_codeOf : GoodIn wsX4_ofBranch (va_wsS RX4 115 yX4_codeOf wsX4_codeOf) := goodIn_app (goodIn_of _ (by decide +kernel)) ggX4_ofBranch_X4_codeOf
set_option maxRecDepth 20000 in
theorem ggX4_ofBranch_X4_upOf : GoodIn wsX4_ofBranch wsX4_upOf := goodIn_r _ [11] (by decide +kernel) (by decide +kernel)
set_option maxRecDepth 20000 in
theorem gX4_ofBranch_X4_upOf : GoodIn wsX4_ofBranch (va_wsS RX4 64 yX4_upOf wsX4_upOf) := goodIn_app (goodIn_of _ (by decide +kernel)) ggX4_ofBranch_X4_upOf
set_option maxRecDepth 20000 in
theorem ggX4_ofBranch_X4_ones : GoodIn wsX4_ofBranch wsX4_ones := goodIn_r _ [14] (by decide +kernel) (by decide +kernel)
set_option maxRecDepth 20000 in
theorem gX4_ofBranch_X4_ones : GoodIn wsX4_ofBranch (va_wsS RX4 103 yX4_ones wsX4_ones) := goodIn_app (goodIn_of _ (by decide +kernel)) ggX4_ofBranch_X4_ones
theorem dX4_ofBranch_0 : decode cX4_ofBranch 0 = .ok (.aload_n 0, 1) := by decide +kernel
theorem dX4_ofBranch_1 : decode cX4_ofBranch 1 = .ok (.getfield 7, 3) := by decide +kernel
theorem dX4_ofBranch_4 : decode cX4_ofBranch 4 = .ok (.iload_n 1, 1) := by decide +kernel
theorem dX4_ofBranch_5 : decode cX4_ofBranch 5 = .ok (.bipush 6, 2) := by decide +kernel
theorem dX4_ofBranch_7 : decode cX4_ofBranch 7 = .ok (.iconst 2, 1) := by decide +kernel
theorem dX4_ofBranch_8 : decode cX4_ofBranch 8 = .ok (.iload_n 2, 1) := by decide +kernel
theorem dX4_ofBranch_9 : decode cX4_ofBranch 9 = .ok (.imul, 1) := by decide +kernel
theorem dX4_ofBranch_10 : decode cX4_ofBranch 10 = .ok (.iadd, 1) := by decide +kernel
theorem dX4_ofBranch_11 : decode cX4_ofBranch 11 = .ok (.invokestatic 56, 3) := by decide +kernel
theorem dX4_ofBranch_14 : decode cX4_ofBranch 14 = .ok (.istore 4, 2) := by decide +kernel
theorem dX4_ofBranch_16 : decode cX4_ofBranch 16 = .ok (.aload_n 0, 1) := by decide +kernel
theorem dX4_ofBranch_17 : decode cX4_ofBranch 17 = .ok (.getfield 7, 3) := by decide +kernel
theorem dX4_ofBranch_20 : decode cX4_ofBranch 20 = .ok (.iload_n 1, 1) := by decide +kernel
theorem dX4_ofBranch_21 : decode cX4_ofBranch 21 = .ok (.bipush 6, 2) := by decide +kernel
theorem dX4_ofBranch_23 : decode cX4_ofBranch 23 = .ok (.iconst 2, 1) := by decide +kernel
theorem dX4_ofBranch_24 : decode cX4_ofBranch 24 = .ok (.iload_n 2, 1) := by decide +kernel
theorem dX4_ofBranch_25 : decode cX4_ofBranch 25 = .ok (.imul, 1) := by decide +kernel
theorem dX4_ofBranch_26 : decode cX4_ofBranch 26 = .ok (.iadd, 1) := by decide +kernel
theorem dX4_ofBranch_27 : decode cX4_ofBranch 27 = .ok (.iconst 1, 1) := by decide +kernel
theorem dX4_ofBranch_28 : decode cX4_ofBranch 28 = .ok (.iadd, 1) := by decide +kernel
theorem dX4_ofBranch_29 : decode cX4_ofBranch 29 = .ok (.invokestatic 56, 3) := by decide +kernel
theorem dX4_ofBranch_32 : decode cX4_ofBranch 32 = .ok (.istore 5, 2) := by decide +kernel
theorem dX4_ofBranch_34 : decode cX4_ofBranch 34 = .ok (.aload_n 0, 1) := by decide +kernel
theorem dX4_ofBranch_35 : decode cX4_ofBranch 35 = .ok (.getfield 7, 3) := by decide +kernel
theorem dX4_ofBranch_38 : decode cX4_ofBranch 38 = .ok (.iconst 1, 1) := by decide +kernel
theorem dX4_ofBranch_39 : decode cX4_ofBranch 39 = .ok (.iaload, 1) := by decide +kernel
theorem dX4_ofBranch_40 : decode cX4_ofBranch 40 = .ok (.aload_n 0, 1) := by decide +kernel
theorem dX4_ofBranch_41 : decode cX4_ofBranch 41 = .ok (.getfield 7, 3) := by decide +kernel
theorem dX4_ofBranch_44 : decode cX4_ofBranch 44 = .ok (.invokestatic 115, 3) := by decide +kernel
theorem dX4_ofBranch_47 : decode cX4_ofBranch 47 = .ok (.invokestatic 64, 3) := by decide +kernel
theorem dX4_ofBranch_50 : decode cX4_ofBranch 50 = .ok (.iconst 4, 1) := by decide +kernel
theorem dX4_ofBranch_51 : decode cX4_ofBranch 51 = .ok (.ishl, 1) := by decide +kernel
theorem dX4_ofBranch_52 : decode cX4_ofBranch 52 = .ok (.ior, 1) := by decide +kernel
theorem dX4_ofBranch_53 : decode cX4_ofBranch 53 = .ok (.istore 6, 2) := by decide +kernel
theorem dX4_ofBranch_55 : decode cX4_ofBranch 55 = .ok (.iload 4, 2) := by decide +kernel
theorem dX4_ofBranch_57 : decode cX4_ofBranch 57 = .ok (.iload 6, 2) := by decide +kernel
theorem dX4_ofBranch_59 : decode cX4_ofBranch 59 = .ok (.iconst (-1), 1) := by decide +kernel
theorem dX4_ofBranch_60 : decode cX4_ofBranch 60 = .ok (.ixor, 1) := by decide +kernel
theorem dX4_ofBranch_61 : decode cX4_ofBranch 61 = .ok (.iand, 1) := by decide +kernel
theorem dX4_ofBranch_62 : decode cX4_ofBranch 62 = .ok (.invokestatic 103, 3) := by decide +kernel
theorem dX4_ofBranch_65 : decode cX4_ofBranch 65 = .ok (.iload 5, 2) := by decide +kernel
theorem dX4_ofBranch_67 : decode cX4_ofBranch 67 = .ok (.iload 6, 2) := by decide +kernel
theorem dX4_ofBranch_69 : decode cX4_ofBranch 69 = .ok (.iand, 1) := by decide +kernel
theorem dX4_ofBranch_70 : decode cX4_ofBranch 70 = .ok (.invokestatic 103, 3) := by decide +kernel
theorem dX4_ofBranch_73 : decode cX4_ofBranch 73 = .ok (.iadd, 1) := by decide +kernel
theorem dX4_ofBranch_74 : decode cX4_ofBranch 74 = .ok (.istore 7, 2) := by decide +kernel
theorem dX4_ofBranch_76 : decode cX4_ofBranch 76 = .ok (.iload_n 3, 1) := by decide +kernel
theorem dX4_ofBranch_77 : decode cX4_ofBranch 77 = .ok (.ifCond .ne 8, 3) := by decide +kernel
theorem dX4_ofBranch_80 : decode cX4_ofBranch 80 = .ok (.iload 4, 2) := by decide +kernel
theorem dX4_ofBranch_82 : decode cX4_ofBranch 82 = .ok (.goto 33, 3) := by decide +kernel
theorem dX4_ofBranch_85 : decode cX4_ofBranch 85 = .ok (.iload_n 3, 1) := by decide +kernel
theorem dX4_ofBranch_86 : decode cX4_ofBranch 86 = .ok (.iconst 1, 1) := by decide +kernel
theorem dX4_ofBranch_87 : decode cX4_ofBranch 87 = .ok (.if_icmp .ne 8, 3) := by decide +kernel
theorem dX4_ofBranch_90 : decode cX4_ofBranch 90 = .ok (.iload 5, 2) := by decide +kernel
theorem dX4_ofBranch_92 : decode cX4_ofBranch 92 = .ok (.goto 23, 3) := by decide +kernel
theorem dX4_ofBranch_95 : decode cX4_ofBranch 95 = .ok (.iload_n 3, 1) := by decide +kernel
theorem dX4_ofBranch_96 : decode cX4_ofBranch 96 = .ok (.iconst 2, 1) := by decide +kernel
theorem dX4_ofBranch_97 : decode cX4_ofBranch 97 = .ok (.if_icmp .ne 16, 3) := by decide +kernel
theorem dX4_ofBranch_100 : decode cX4_ofBranch 100 = .ok (.iload 7, 2) := by decide +kernel
theorem dX4_ofBranch_102 : decode cX4_ofBranch 102 = .ok (.ifCond .ne 7, 3) := by decide +kernel
theorem dX4_ofBranch_105 : decode cX4_ofBranch 105 = .ok (.iconst 1, 1) := by decide +kernel
theorem dX4_ofBranch_106 : decode cX4_ofBranch 106 = .ok (.goto 9, 3) := by decide +kernel
theorem dX4_ofBranch_109 : decode cX4_ofBranch 109 = .ok (.iconst 0, 1) := by decide +kernel
theorem dX4_ofBranch_110 : decode cX4_ofBranch 110 = .ok (.goto 5, 3) := by decide +kernel
theorem dX4_ofBranch_113 : decode cX4_ofBranch 113 = .ok (.iload 7, 2) := by decide +kernel
theorem dX4_ofBranch_115 : decode cX4_ofBranch 115 = .ok (.ireturn, 1) := by decide +kernel
set_option maxRecDepth 20000 in
theorem ggX4_contacts_X4_isRelay : GoodIn wsX4_contacts wsX4_isRelay := goodIn_r _ [6, 1, 7, 8, 5, 9, 31, 32, 33, 34, 35, 36, 37, 38, 39, 40, 41, 42, 43, 44, 45, 46, 47, 48, 49, 50, 51, 52, 53, 54, 55, 56, 57, 58] (by decide +kernel) (by decide +kernel)
set_option maxRecDepth 20000 in
theorem gX4_contacts_X4_isRelay : GoodIn wsX4_contacts (wsV RX4 150 RX4 yX4_isRelay wsX4_isRelay) := goodIn_app (goodIn_of _ (by decide +kernel)) ggX4_contacts_X4_isRelay
set_option maxRecDepth 20000 in
theorem ggX4_contacts_X4_of : GoodIn wsX4_contacts wsX4_of := goodIn_r _ [12] (by decide +kernel) (by decide +kernel)
set_option maxRecDepth 20000 in
theorem gX4_contacts_X4_of : GoodIn wsX4_contacts (va_wsS RX4 56 yX4_of wsX4_of) := goodIn_app (goodIn_of _ (by decide +kernel)) ggX4_contacts_X4_of
set_option maxRecDepth 20000 in
theorem ggX4_contacts_X4_in : GoodIn wsX4_contacts wsX4_in := goodIn_r _ [9] (by decide +kernel) (by decide +kernel)
set_option maxRecDepth 20000 in
theorem gX4_contacts_X4_in : GoodIn wsX4_contacts (va_wsS RX4 52 yX4_in wsX4_in) := goodIn_app (goodIn_of _ (by decide +kernel)) ggX4_contacts_X4_in
set_option maxRecDepth 20000 in
theorem ggX4_contacts_X4_refuses : GoodIn wsX4_contacts wsX4_refuses := goodIn_r _ [16, 17, 31, 32, 33, 34, 35, 36, 37, 38, 39, 40, 41, 42, 43, 44, 45, 46, 47, 48, 49, 50, 51, 52, 53, 54, 55, 56, 57, 58] (by decide +kernel) (by decide +kernel)
set_option maxRecDepth 20000 in
theorem gX4_contacts_X4_refuses : GoodIn wsX4_contacts (wsV RX4 48 RX4 yX4_refuses wsX4_refuses) := goodIn_app (goodIn_of _ (by decide +kernel)) ggX4_contacts_X4_refuses
set_option maxRecDepth 20000 in
theorem ggX4_contacts_X4_ofBranch : GoodIn wsX4_contacts wsX4_ofBranch := goodIn_r _ [21, 1, 10, 11, 5, 12, 22, 23, 24, 25, 26, 27, 28, 29, 30, 31, 32, 33, 34, 35, 36, 37, 38, 39, 40, 41, 42, 43, 44, 45, 46, 47, 48, 49, 50, 51, 52, 53, 54, 55, 56, 57, 58] (by decide +kernel) (by decide +kernel)
set_option maxRecDepth 20000 in
theorem gX4_contacts_X4_ofBranch : GoodIn wsX4_contacts (wsV RX4 227 RX4 yX4_ofBranch wsX4_ofBranch) := goodIn_app (goodIn_of _ (by decide +kernel)) ggX4_contacts_X4_ofBranch
theorem dX4_contacts_0 : decode cX4_contacts 0 = .ok (.aload_n 0, 1) := by decide +kernel
theorem dX4_contacts_1 : decode cX4_contacts 1 = .ok (.iload_n 1, 1) := by decide +kernel
theorem dX4_contacts_2 : decode cX4_contacts 2 = .ok (.invokevirtual 150, 3) := by decide +kernel
theorem dX4_contacts_5 : decode cX4_contacts 5 = .ok (.ifCond .eq 26, 3) := by decide +kernel
theorem dX4_contacts_8 : decode cX4_contacts 8 = .ok (.iload_n 2, 1) := by decide +kernel
theorem dX4_contacts_9 : decode cX4_contacts 9 = .ok (.iconst 0, 1) := by decide +kernel
theorem dX4_contacts_10 : decode cX4_contacts 10 = .ok (.aload_n 0, 1) := by decide +kernel
theorem dX4_contacts_11 : decode cX4_contacts 11 = .ok (.getfield 7, 3) := by decide +kernel
theorem dX4_contacts_14 : decode cX4_contacts 14 = .ok (.iload_n 1, 1) := by decide +kernel
theorem dX4_contacts_15 : decode cX4_contacts 15 = .ok (.iconst 4, 1) := by decide +kernel
theorem dX4_contacts_16 : decode cX4_contacts 16 = .ok (.invokestatic 56, 3) := by decide +kernel
theorem dX4_contacts_19 : decode cX4_contacts 19 = .ok (.iconst 1, 1) := by decide +kernel
theorem dX4_contacts_20 : decode cX4_contacts 20 = .ok (.isub, 1) := by decide +kernel
theorem dX4_contacts_21 : decode cX4_contacts 21 = .ok (.invokestatic 52, 3) := by decide +kernel
theorem dX4_contacts_24 : decode cX4_contacts 24 = .ok (.ifCond .eq 7, 3) := by decide +kernel
theorem dX4_contacts_27 : decode cX4_contacts 27 = .ok (.iconst 1, 1) := by decide +kernel
theorem dX4_contacts_28 : decode cX4_contacts 28 = .ok (.goto 4, 3) := by decide +kernel
theorem dX4_contacts_31 : decode cX4_contacts 31 = .ok (.iconst 0, 1) := by decide +kernel
theorem dX4_contacts_32 : decode cX4_contacts 32 = .ok (.istore 4, 2) := by decide +kernel
theorem dX4_contacts_34 : decode cX4_contacts 34 = .ok (.aload_n 0, 1) := by decide +kernel
theorem dX4_contacts_35 : decode cX4_contacts 35 = .ok (.iload 4, 2) := by decide +kernel
theorem dX4_contacts_37 : decode cX4_contacts 37 = .ok (.ifCond .ne 7, 3) := by decide +kernel
theorem dX4_contacts_40 : decode cX4_contacts 40 = .ok (.iconst 1, 1) := by decide +kernel
theorem dX4_contacts_41 : decode cX4_contacts 41 = .ok (.goto 17, 3) := by decide +kernel
theorem dX4_contacts_44 : decode cX4_contacts 44 = .ok (.iload_n 3, 1) := by decide +kernel
theorem dX4_contacts_45 : decode cX4_contacts 45 = .ok (.iconst 0, 1) := by decide +kernel
theorem dX4_contacts_46 : decode cX4_contacts 46 = .ok (.iconst 3, 1) := by decide +kernel
theorem dX4_contacts_47 : decode cX4_contacts 47 = .ok (.invokestatic 52, 3) := by decide +kernel
theorem dX4_contacts_50 : decode cX4_contacts 50 = .ok (.ifCond .eq 7, 3) := by decide +kernel
theorem dX4_contacts_53 : decode cX4_contacts 53 = .ok (.iconst 0, 1) := by decide +kernel
theorem dX4_contacts_54 : decode cX4_contacts 54 = .ok (.goto 4, 3) := by decide +kernel
theorem dX4_contacts_57 : decode cX4_contacts 57 = .ok (.iconst 2, 1) := by decide +kernel
theorem dX4_contacts_58 : decode cX4_contacts 58 = .ok (.invokevirtual 48, 3) := by decide +kernel
theorem dX4_contacts_61 : decode cX4_contacts 61 = .ok (.ifCond .eq 7, 3) := by decide +kernel
theorem dX4_contacts_64 : decode cX4_contacts 64 = .ok (.iconst 0, 1) := by decide +kernel
theorem dX4_contacts_65 : decode cX4_contacts 65 = .ok (.goto 10, 3) := by decide +kernel
theorem dX4_contacts_68 : decode cX4_contacts 68 = .ok (.aload_n 0, 1) := by decide +kernel
theorem dX4_contacts_69 : decode cX4_contacts 69 = .ok (.iload_n 1, 1) := by decide +kernel
theorem dX4_contacts_70 : decode cX4_contacts 70 = .ok (.iload_n 2, 1) := by decide +kernel
theorem dX4_contacts_71 : decode cX4_contacts 71 = .ok (.iload_n 3, 1) := by decide +kernel
theorem dX4_contacts_72 : decode cX4_contacts 72 = .ok (.invokevirtual 227, 3) := by decide +kernel
theorem dX4_contacts_75 : decode cX4_contacts 75 = .ok (.ireturn, 1) := by decide +kernel
set_option maxRecDepth 20000 in
theorem ggX4_inRungs_X4_of : GoodIn wsX4_inRungs wsX4_of := goodIn_r _ [5] (by decide +kernel) (by decide +kernel)
set_option maxRecDepth 20000 in
theorem gX4_inRungs_X4_of : GoodIn wsX4_inRungs (va_wsS RX4 56 yX4_of wsX4_of) := goodIn_app (goodIn_of _ (by decide +kernel)) ggX4_inRungs_X4_of
set_option maxRecDepth 20000 in
theorem ggX4_inRungs_X4_ones : GoodIn wsX4_inRungs wsX4_ones := goodIn_r _ [8] (by decide +kernel) (by decide +kernel)
set_option maxRecDepth 20000 in
theorem gX4_inRungs_X4_ones : GoodIn wsX4_inRungs (va_wsS RX4 103 yX4_ones wsX4_ones) := goodIn_app (goodIn_of _ (by decide +kernel)) ggX4_inRungs_X4_ones
theorem dX4_inRungs_0 : decode cX4_inRungs 0 = .ok (.iconst 0, 1) := by decide +kernel
theorem dX4_inRungs_1 : decode cX4_inRungs 1 = .ok (.istore_n 2, 1) := by decide +kernel
theorem dX4_inRungs_2 : decode cX4_inRungs 2 = .ok (.iconst 0, 1) := by decide +kernel
theorem dX4_inRungs_3 : decode cX4_inRungs 3 = .ok (.istore_n 3, 1) := by decide +kernel
theorem dX4_inRungs_4 : decode cX4_inRungs 4 = .ok (.iload_n 3, 1) := by decide +kernel
theorem dX4_inRungs_5 : decode cX4_inRungs 5 = .ok (.aload_n 0, 1) := by decide +kernel
theorem dX4_inRungs_6 : decode cX4_inRungs 6 = .ok (.getfield 7, 3) := by decide +kernel
theorem dX4_inRungs_9 : decode cX4_inRungs 9 = .ok (.iconst 0, 1) := by decide +kernel
theorem dX4_inRungs_10 : decode cX4_inRungs 10 = .ok (.iaload, 1) := by decide +kernel
theorem dX4_inRungs_11 : decode cX4_inRungs 11 = .ok (.if_icmp .ge 66, 3) := by decide +kernel
theorem dX4_inRungs_14 : decode cX4_inRungs 14 = .ok (.iload_n 2, 1) := by decide +kernel
theorem dX4_inRungs_15 : decode cX4_inRungs 15 = .ok (.iload_n 1, 1) := by decide +kernel
theorem dX4_inRungs_16 : decode cX4_inRungs 16 = .ok (.ifCond .eq 7, 3) := by decide +kernel
theorem dX4_inRungs_19 : decode cX4_inRungs 19 = .ok (.iconst 0, 1) := by decide +kernel
theorem dX4_inRungs_20 : decode cX4_inRungs 20 = .ok (.goto 12, 3) := by decide +kernel
theorem dX4_inRungs_23 : decode cX4_inRungs 23 = .ok (.aload_n 0, 1) := by decide +kernel
theorem dX4_inRungs_24 : decode cX4_inRungs 24 = .ok (.getfield 7, 3) := by decide +kernel
theorem dX4_inRungs_27 : decode cX4_inRungs 27 = .ok (.iload_n 3, 1) := by decide +kernel
theorem dX4_inRungs_28 : decode cX4_inRungs 28 = .ok (.iconst 4, 1) := by decide +kernel
theorem dX4_inRungs_29 : decode cX4_inRungs 29 = .ok (.invokestatic 56, 3) := by decide +kernel
theorem dX4_inRungs_32 : decode cX4_inRungs 32 = .ok (.iadd, 1) := by decide +kernel
theorem dX4_inRungs_33 : decode cX4_inRungs 33 = .ok (.istore_n 2, 1) := by decide +kernel
theorem dX4_inRungs_34 : decode cX4_inRungs 34 = .ok (.bipush 6, 2) := by decide +kernel
theorem dX4_inRungs_36 : decode cX4_inRungs 36 = .ok (.istore 4, 2) := by decide +kernel
theorem dX4_inRungs_38 : decode cX4_inRungs 38 = .ok (.iload 4, 2) := by decide +kernel
theorem dX4_inRungs_40 : decode cX4_inRungs 40 = .ok (.bipush 14, 2) := by decide +kernel
theorem dX4_inRungs_42 : decode cX4_inRungs 42 = .ok (.if_icmp .ge 29, 3) := by decide +kernel
theorem dX4_inRungs_45 : decode cX4_inRungs 45 = .ok (.iload_n 1, 1) := by decide +kernel
theorem dX4_inRungs_46 : decode cX4_inRungs 46 = .ok (.ifCond .eq 25, 3) := by decide +kernel
theorem dX4_inRungs_49 : decode cX4_inRungs 49 = .ok (.iload_n 2, 1) := by decide +kernel
theorem dX4_inRungs_50 : decode cX4_inRungs 50 = .ok (.aload_n 0, 1) := by decide +kernel
theorem dX4_inRungs_51 : decode cX4_inRungs 51 = .ok (.getfield 7, 3) := by decide +kernel
theorem dX4_inRungs_54 : decode cX4_inRungs 54 = .ok (.iload_n 3, 1) := by decide +kernel
theorem dX4_inRungs_55 : decode cX4_inRungs 55 = .ok (.iload 4, 2) := by decide +kernel
theorem dX4_inRungs_57 : decode cX4_inRungs 57 = .ok (.invokestatic 56, 3) := by decide +kernel
theorem dX4_inRungs_60 : decode cX4_inRungs 60 = .ok (.invokestatic 103, 3) := by decide +kernel
theorem dX4_inRungs_63 : decode cX4_inRungs 63 = .ok (.iadd, 1) := by decide +kernel
theorem dX4_inRungs_64 : decode cX4_inRungs 64 = .ok (.istore_n 2, 1) := by decide +kernel
theorem dX4_inRungs_65 : decode cX4_inRungs 65 = .ok (.iinc 4 1, 3) := by decide +kernel
theorem dX4_inRungs_68 : decode cX4_inRungs 68 = .ok (.goto (-30), 3) := by decide +kernel
theorem dX4_inRungs_71 : decode cX4_inRungs 71 = .ok (.iinc 3 1, 3) := by decide +kernel
theorem dX4_inRungs_74 : decode cX4_inRungs 74 = .ok (.goto (-70), 3) := by decide +kernel
theorem dX4_inRungs_77 : decode cX4_inRungs 77 = .ok (.iload_n 2, 1) := by decide +kernel
theorem dX4_inRungs_78 : decode cX4_inRungs 78 = .ok (.ireturn, 1) := by decide +kernel
set_option maxRecDepth 20000 in
theorem ggX4_counts_X4_codeOf : GoodIn wsX4_counts wsX4_codeOf := goodIn_r _ [6, 7, 8, 5, 9] (by decide +kernel) (by decide +kernel)
set_option maxRecDepth 20000 in
theorem gX4_counts_X4_codeOf : GoodIn wsX4_counts (va_wsS RX4 115 yX4_codeOf wsX4_codeOf) := goodIn_app (goodIn_of _ (by decide +kernel)) ggX4_counts_X4_codeOf
set_option maxRecDepth 20000 in
theorem ggX4_counts_X4_upOf : GoodIn wsX4_counts wsX4_upOf := goodIn_r _ [12] (by decide +kernel) (by decide +kernel)
set_option maxRecDepth 20000 in
theorem gX4_counts_X4_upOf : GoodIn wsX4_counts (va_wsS RX4 64 yX4_upOf wsX4_upOf) := goodIn_app (goodIn_of _ (by decide +kernel)) ggX4_counts_X4_upOf
set_option maxRecDepth 20000 in
theorem ggX4_counts_X4_calledBy : GoodIn wsX4_counts wsX4_calledBy := goodIn_r _ [15, 7, 8, 5, 9, 16, 17, 18] (by decide +kernel) (by decide +kernel)
set_option maxRecDepth 20000 in
theorem gX4_counts_X4_calledBy : GoodIn wsX4_counts (va_wsS RX4 68 yX4_calledBy wsX4_calledBy) := goodIn_app (goodIn_of _ (by decide +kernel)) ggX4_counts_X4_calledBy
set_option maxRecDepth 20000 in
theorem ggX4_counts_X4_unquiet : GoodIn wsX4_counts wsX4_unquiet := goodIn_r _ [22, 1, 3, 4, 5, 6, 7, 8, 9, 10, 11, 12, 13, 14, 15, 16, 17, 18, 23, 24, 25, 30, 31, 32, 33, 34, 35, 36, 37, 38, 39, 40, 41, 42, 43, 44, 45, 46, 47, 48, 49, 50, 51, 52, 53, 54, 55, 56, 57] (by decide +kernel) (by decide +kernel)
set_option maxRecDepth 20000 in
theorem gX4_counts_X4_unquiet : GoodIn wsX4_counts (wsV RX4 160 RX4 yX4_unquiet wsX4_unquiet) := goodIn_app (goodIn_of _ (by decide +kernel)) ggX4_counts_X4_unquiet
set_option maxRecDepth 20000 in
theorem ggX4_counts_X4_inRungs : GoodIn wsX4_counts wsX4_inRungs := goodIn_r _ [29, 1, 7, 8, 5, 9, 23, 24, 25, 30, 31, 32, 33, 34, 35, 36, 37, 38, 39, 40, 41, 42, 43, 44, 45, 46, 47, 48, 49, 50, 51, 52, 53, 54, 55, 56, 57] (by decide +kernel) (by decide +kernel)
set_option maxRecDepth 20000 in
theorem gX4_counts_X4_inRungs : GoodIn wsX4_counts (wsV RX4 230 RX4 yX4_inRungs wsX4_inRungs) := goodIn_app (goodIn_of _ (by decide +kernel)) ggX4_counts_X4_inRungs
theorem dX4_counts_0 : decode cX4_counts 0 = .ok (.aload_n 0, 1) := by decide +kernel
theorem dX4_counts_1 : decode cX4_counts 1 = .ok (.getfield 7, 3) := by decide +kernel
theorem dX4_counts_4 : decode cX4_counts 4 = .ok (.invokestatic 115, 3) := by decide +kernel
theorem dX4_counts_7 : decode cX4_counts 7 = .ok (.invokestatic 64, 3) := by decide +kernel
theorem dX4_counts_10 : decode cX4_counts 10 = .ok (.istore_n 2, 1) := by decide +kernel
theorem dX4_counts_11 : decode cX4_counts 11 = .ok (.iload_n 1, 1) := by decide +kernel
theorem dX4_counts_12 : decode cX4_counts 12 = .ok (.tableswitch 112 0 8 #[52, 59, 61, 70, 75, 82, 82, 98, 105], 52) := by decide +kernel
theorem dX4_counts_64 : decode cX4_counts 64 = .ok (.aload_n 0, 1) := by decide +kernel
theorem dX4_counts_65 : decode cX4_counts 65 = .ok (.getfield 7, 3) := by decide +kernel
theorem dX4_counts_68 : decode cX4_counts 68 = .ok (.iconst 0, 1) := by decide +kernel
theorem dX4_counts_69 : decode cX4_counts 69 = .ok (.iaload, 1) := by decide +kernel
theorem dX4_counts_70 : decode cX4_counts 70 = .ok (.ireturn, 1) := by decide +kernel
theorem dX4_counts_71 : decode cX4_counts 71 = .ok (.iload_n 2, 1) := by decide +kernel
theorem dX4_counts_72 : decode cX4_counts 72 = .ok (.ireturn, 1) := by decide +kernel
theorem dX4_counts_73 : decode cX4_counts 73 = .ok (.aload_n 0, 1) := by decide +kernel
theorem dX4_counts_74 : decode cX4_counts 74 = .ok (.getfield 7, 3) := by decide +kernel
theorem dX4_counts_77 : decode cX4_counts 77 = .ok (.iload_n 2, 1) := by decide +kernel
theorem dX4_counts_78 : decode cX4_counts 78 = .ok (.invokestatic 68, 3) := by decide +kernel
theorem dX4_counts_81 : decode cX4_counts 81 = .ok (.ireturn, 1) := by decide +kernel
theorem dX4_counts_82 : decode cX4_counts 82 = .ok (.aload_n 0, 1) := by decide +kernel
theorem dX4_counts_83 : decode cX4_counts 83 = .ok (.invokevirtual 160, 3) := by decide +kernel
theorem dX4_counts_86 : decode cX4_counts 86 = .ok (.ireturn, 1) := by decide +kernel
theorem dX4_counts_87 : decode cX4_counts 87 = .ok (.aload_n 0, 1) := by decide +kernel
theorem dX4_counts_88 : decode cX4_counts 88 = .ok (.getfield 7, 3) := by decide +kernel
theorem dX4_counts_91 : decode cX4_counts 91 = .ok (.iconst 1, 1) := by decide +kernel
theorem dX4_counts_92 : decode cX4_counts 92 = .ok (.iaload, 1) := by decide +kernel
theorem dX4_counts_93 : decode cX4_counts 93 = .ok (.ireturn, 1) := by decide +kernel
theorem dX4_counts_94 : decode cX4_counts 94 = .ok (.aload_n 0, 1) := by decide +kernel
theorem dX4_counts_95 : decode cX4_counts 95 = .ok (.iload_n 1, 1) := by decide +kernel
theorem dX4_counts_96 : decode cX4_counts 96 = .ok (.bipush 6, 2) := by decide +kernel
theorem dX4_counts_98 : decode cX4_counts 98 = .ok (.if_icmp .ne 7, 3) := by decide +kernel
theorem dX4_counts_101 : decode cX4_counts 101 = .ok (.iconst 1, 1) := by decide +kernel
theorem dX4_counts_102 : decode cX4_counts 102 = .ok (.goto 4, 3) := by decide +kernel
theorem dX4_counts_105 : decode cX4_counts 105 = .ok (.iconst 0, 1) := by decide +kernel
theorem dX4_counts_106 : decode cX4_counts 106 = .ok (.invokevirtual 230, 3) := by decide +kernel
theorem dX4_counts_109 : decode cX4_counts 109 = .ok (.ireturn, 1) := by decide +kernel
theorem dX4_counts_110 : decode cX4_counts 110 = .ok (.aload_n 0, 1) := by decide +kernel
theorem dX4_counts_111 : decode cX4_counts 111 = .ok (.getfield 7, 3) := by decide +kernel
theorem dX4_counts_114 : decode cX4_counts 114 = .ok (.iconst 2, 1) := by decide +kernel
theorem dX4_counts_115 : decode cX4_counts 115 = .ok (.iaload, 1) := by decide +kernel
theorem dX4_counts_116 : decode cX4_counts 116 = .ok (.ireturn, 1) := by decide +kernel
theorem dX4_counts_117 : decode cX4_counts 117 = .ok (.aload_n 0, 1) := by decide +kernel
theorem dX4_counts_118 : decode cX4_counts 118 = .ok (.getfield 7, 3) := by decide +kernel
theorem dX4_counts_121 : decode cX4_counts 121 = .ok (.iconst 3, 1) := by decide +kernel
theorem dX4_counts_122 : decode cX4_counts 122 = .ok (.iaload, 1) := by decide +kernel
theorem dX4_counts_123 : decode cX4_counts 123 = .ok (.ireturn, 1) := by decide +kernel
theorem dX4_counts_124 : decode cX4_counts 124 = .ok (.aload_n 0, 1) := by decide +kernel
theorem dX4_counts_125 : decode cX4_counts 125 = .ok (.getfield 45, 3) := by decide +kernel
theorem dX4_counts_128 : decode cX4_counts 128 = .ok (.ireturn, 1) := by decide +kernel
set_option maxRecDepth 20000 in
theorem ggX4_count_X4_in : GoodIn wsX4_count wsX4_in := goodIn_r _ [4] (by decide +kernel) (by decide +kernel)
set_option maxRecDepth 20000 in
theorem gX4_count_X4_in : GoodIn wsX4_count (va_wsS RX4 52 yX4_in wsX4_in) := goodIn_app (goodIn_of _ (by decide +kernel)) ggX4_count_X4_in
set_option maxRecDepth 20000 in
theorem ggX4_count_X4_refuses : GoodIn wsX4_count wsX4_refuses := goodIn_r _ [8, 9, 42, 43, 44, 45, 46, 47, 48, 49, 50, 51, 52, 53, 54, 55, 56, 57, 58, 59, 60, 61, 62, 63, 64, 65, 66, 67, 68, 69] (by decide +kernel) (by decide +kernel)
set_option maxRecDepth 20000 in
theorem gX4_count_X4_refuses : GoodIn wsX4_count (wsV RX4 48 RX4 yX4_refuses wsX4_refuses) := goodIn_app (goodIn_of _ (by decide +kernel)) ggX4_count_X4_refuses
set_option maxRecDepth 20000 in
theorem ggX4_count_X4_counts : GoodIn wsX4_count wsX4_counts := goodIn_r _ [13, 14, 15, 16, 17, 3, 18, 19, 20, 21, 22, 23, 24, 25, 26, 27, 28, 29, 30, 31, 32, 33, 34, 35, 36, 37, 38, 39, 40, 41, 42, 43, 44, 45, 46, 47, 48, 49, 50, 51, 52, 53, 54, 55, 56, 57, 58, 59, 60, 61, 62, 63, 64, 65, 66, 67, 68, 69] (by decide +kernel) (by decide +kernel)
set_option maxRecDepth 20000 in
theorem gX4_count_X4_counts : GoodIn wsX4_count (wsV RX4 234 RX4 yX4_counts wsX4_counts) := goodIn_app (goodIn_of _ (by decide +kernel)) ggX4_count_X4_counts
theorem dX4_count_0 : decode cX4_count 0 = .ok (.aload_n 0, 1) := by decide +kernel
theorem dX4_count_1 : decode cX4_count 1 = .ok (.iload_n 1, 1) := by decide +kernel
theorem dX4_count_2 : decode cX4_count 2 = .ok (.iconst 0, 1) := by decide +kernel
theorem dX4_count_3 : decode cX4_count 3 = .ok (.bipush 9, 2) := by decide +kernel
theorem dX4_count_5 : decode cX4_count 5 = .ok (.invokestatic 52, 3) := by decide +kernel
theorem dX4_count_8 : decode cX4_count 8 = .ok (.ifCond .eq 7, 3) := by decide +kernel
theorem dX4_count_11 : decode cX4_count 11 = .ok (.iconst 0, 1) := by decide +kernel
theorem dX4_count_12 : decode cX4_count 12 = .ok (.goto 4, 3) := by decide +kernel
theorem dX4_count_15 : decode cX4_count 15 = .ok (.iconst 1, 1) := by decide +kernel
theorem dX4_count_16 : decode cX4_count 16 = .ok (.invokevirtual 48, 3) := by decide +kernel
theorem dX4_count_19 : decode cX4_count 19 = .ok (.ifCond .eq 7, 3) := by decide +kernel
theorem dX4_count_22 : decode cX4_count 22 = .ok (.iconst 0, 1) := by decide +kernel
theorem dX4_count_23 : decode cX4_count 23 = .ok (.goto 8, 3) := by decide +kernel
theorem dX4_count_26 : decode cX4_count 26 = .ok (.aload_n 0, 1) := by decide +kernel
theorem dX4_count_27 : decode cX4_count 27 = .ok (.iload_n 1, 1) := by decide +kernel
theorem dX4_count_28 : decode cX4_count 28 = .ok (.invokevirtual 234, 3) := by decide +kernel
theorem dX4_count_31 : decode cX4_count 31 = .ok (.ireturn, 1) := by decide +kernel
theorem dX4_tries_0 : decode cX4_tries 0 = .ok (.iconst 0, 1) := by decide +kernel
theorem dX4_tries_1 : decode cX4_tries 1 = .ok (.istore_n 1, 1) := by decide +kernel
theorem dX4_tries_2 : decode cX4_tries 2 = .ok (.iload_n 1, 1) := by decide +kernel
theorem dX4_tries_3 : decode cX4_tries 3 = .ok (.bipush 88, 2) := by decide +kernel
theorem dX4_tries_5 : decode cX4_tries 5 = .ok (.if_icmp .ge 21, 3) := by decide +kernel
theorem dX4_tries_8 : decode cX4_tries 8 = .ok (.aload_n 0, 1) := by decide +kernel
theorem dX4_tries_9 : decode cX4_tries 9 = .ok (.getfield 13, 3) := by decide +kernel
theorem dX4_tries_12 : decode cX4_tries 12 = .ok (.iload_n 1, 1) := by decide +kernel
theorem dX4_tries_13 : decode cX4_tries 13 = .ok (.aload_n 0, 1) := by decide +kernel
theorem dX4_tries_14 : decode cX4_tries 14 = .ok (.getfield 7, 3) := by decide +kernel
theorem dX4_tries_17 : decode cX4_tries 17 = .ok (.iload_n 1, 1) := by decide +kernel
theorem dX4_tries_18 : decode cX4_tries 18 = .ok (.iaload, 1) := by decide +kernel
theorem dX4_tries_19 : decode cX4_tries 19 = .ok (.iastore, 1) := by decide +kernel
theorem dX4_tries_20 : decode cX4_tries 20 = .ok (.iinc 1 1, 3) := by decide +kernel
theorem dX4_tries_23 : decode cX4_tries 23 = .ok (.goto (-21), 3) := by decide +kernel
theorem dX4_tries_26 : decode cX4_tries 26 = .ok (.return_, 1) := by decide +kernel
set_option maxRecDepth 20000 in
theorem ggX4_leadsTo_X4_tries : GoodIn wsX4_leadsTo wsX4_tries := goodIn_r _ [7, 1, 8, 44, 45, 46, 47, 48, 49, 50, 51, 52, 53, 54, 55, 56, 57, 58, 59, 60, 61, 62, 63, 64, 65, 66, 67, 68, 69, 70, 71] (by decide +kernel) (by decide +kernel)
set_option maxRecDepth 20000 in
theorem gX4_leadsTo_X4_tries : GoodIn wsX4_leadsTo (wsV RX4 237 RX4 yX4_tries wsX4_tries) := goodIn_app (goodIn_of _ (by decide +kernel)) ggX4_leadsTo_X4_tries
set_option maxRecDepth 20000 in
theorem ggX4_leadsTo_X4_quietIn : GoodIn wsX4_leadsTo wsX4_quietIn := goodIn_r _ [12, 13, 2, 14, 15, 6, 16, 17, 18, 19, 20, 21, 22, 23, 24, 25, 26, 27, 28, 29, 30, 31, 32, 33, 34, 35, 36, 37, 38, 39, 40, 41, 42, 43, 44, 45, 46, 47, 48, 49, 50, 51, 52, 53, 54, 55, 56, 57, 58, 59, 60, 61, 62, 63, 64, 65, 66, 67, 68, 69, 70, 71] (by decide +kernel) (by decide +kernel)
set_option maxRecDepth 20000 in
theorem gX4_leadsTo_X4_quietIn : GoodIn wsX4_leadsTo (wsV RX4 173 RX4 yX4_quietIn wsX4_quietIn) := goodIn_app (goodIn_of _ (by decide +kernel)) ggX4_leadsTo_X4_quietIn
theorem dX4_leadsTo_0 : decode cX4_leadsTo 0 = .ok (.aload_n 0, 1) := by decide +kernel
theorem dX4_leadsTo_1 : decode cX4_leadsTo 1 = .ok (.invokevirtual 237, 3) := by decide +kernel
theorem dX4_leadsTo_4 : decode cX4_leadsTo 4 = .ok (.aload_n 0, 1) := by decide +kernel
theorem dX4_leadsTo_5 : decode cX4_leadsTo 5 = .ok (.getfield 13, 3) := by decide +kernel
theorem dX4_leadsTo_8 : decode cX4_leadsTo 8 = .ok (.iconst 1, 1) := by decide +kernel
theorem dX4_leadsTo_9 : decode cX4_leadsTo 9 = .ok (.iload_n 1, 1) := by decide +kernel
theorem dX4_leadsTo_10 : decode cX4_leadsTo 10 = .ok (.iastore, 1) := by decide +kernel
theorem dX4_leadsTo_11 : decode cX4_leadsTo 11 = .ok (.aload_n 0, 1) := by decide +kernel
theorem dX4_leadsTo_12 : decode cX4_leadsTo 12 = .ok (.aload_n 0, 1) := by decide +kernel
theorem dX4_leadsTo_13 : decode cX4_leadsTo 13 = .ok (.getfield 13, 3) := by decide +kernel
theorem dX4_leadsTo_16 : decode cX4_leadsTo 16 = .ok (.invokevirtual 173, 3) := by decide +kernel
theorem dX4_leadsTo_19 : decode cX4_leadsTo 19 = .ok (.istore_n 3, 1) := by decide +kernel
theorem dX4_leadsTo_20 : decode cX4_leadsTo 20 = .ok (.iload_n 3, 1) := by decide +kernel
theorem dX4_leadsTo_21 : decode cX4_leadsTo 21 = .ok (.iconst (-1), 1) := by decide +kernel
theorem dX4_leadsTo_22 : decode cX4_leadsTo 22 = .ok (.if_icmp .eq 8, 3) := by decide +kernel
theorem dX4_leadsTo_25 : decode cX4_leadsTo 25 = .ok (.iload_n 2, 1) := by decide +kernel
theorem dX4_leadsTo_26 : decode cX4_leadsTo 26 = .ok (.iconst 1, 1) := by decide +kernel
theorem dX4_leadsTo_27 : decode cX4_leadsTo 27 = .ok (.if_icmp .ne 7, 3) := by decide +kernel
theorem dX4_leadsTo_30 : decode cX4_leadsTo 30 = .ok (.iload_n 3, 1) := by decide +kernel
theorem dX4_leadsTo_31 : decode cX4_leadsTo 31 = .ok (.goto 7, 3) := by decide +kernel
theorem dX4_leadsTo_34 : decode cX4_leadsTo 34 = .ok (.aload_n 0, 1) := by decide +kernel
theorem dX4_leadsTo_35 : decode cX4_leadsTo 35 = .ok (.getfield 170, 3) := by decide +kernel
theorem dX4_leadsTo_38 : decode cX4_leadsTo 38 = .ok (.ireturn, 1) := by decide +kernel
set_option maxRecDepth 20000 in
theorem ggX4_leads_X4_in : GoodIn wsX4_leads wsX4_in := goodIn_r _ [4] (by decide +kernel) (by decide +kernel)
set_option maxRecDepth 20000 in
theorem gX4_leads_X4_in : GoodIn wsX4_leads (va_wsS RX4 52 yX4_in wsX4_in) := goodIn_app (goodIn_of _ (by decide +kernel)) ggX4_leads_X4_in
set_option maxRecDepth 20000 in
theorem ggX4_leads_X4_refuses : GoodIn wsX4_leads wsX4_refuses := goodIn_r _ [8, 9, 56, 57, 58, 59, 60, 61, 62, 63, 64, 65, 66, 67, 68, 69, 70, 71, 72, 73, 74, 75, 76, 77, 78, 79, 80, 81, 82, 83] (by decide +kernel) (by decide +kernel)
set_option maxRecDepth 20000 in
theorem gX4_leads_X4_refuses : GoodIn wsX4_leads (wsV RX4 48 RX4 yX4_refuses wsX4_refuses) := goodIn_app (goodIn_of _ (by decide +kernel)) ggX4_leads_X4_refuses
set_option maxRecDepth 20000 in
theorem ggX4_leads_X4_leadsTo : GoodIn wsX4_leads wsX4_leadsTo := goodIn_r _ [13, 14, 15, 16, 17, 18, 3, 19, 20, 21, 22, 23, 24, 25, 26, 27, 28, 29, 30, 31, 32, 33, 34, 35, 36, 37, 38, 39, 40, 41, 42, 43, 44, 45, 46, 47, 48, 49, 50, 51, 52, 53, 54, 55, 56, 57, 58, 59, 60, 61, 62, 63, 64, 65, 66, 67, 68, 69, 70, 71, 72, 73, 74, 75, 76, 77, 78, 79, 80, 81, 82, 83] (by decide +kernel) (by decide +kernel)
set_option maxRecDepth 20000 in
theorem gX4_leads_X4_leadsTo : GoodIn wsX4_leads (wsV RX4 240 RX4 yX4_leadsTo wsX4_leadsTo) := goodIn_app (goodIn_of _ (by decide +kernel)) ggX4_leads_X4_leadsTo
theorem dX4_leads_0 : decode cX4_leads 0 = .ok (.aload_n 0, 1) := by decide +kernel
theorem dX4_leads_1 : decode cX4_leads 1 = .ok (.iload_n 1, 1) := by decide +kernel
theorem dX4_leads_2 : decode cX4_leads 2 = .ok (.iconst 0, 1) := by decide +kernel
theorem dX4_leads_3 : decode cX4_leads 3 = .ok (.bipush 15, 2) := by decide +kernel
theorem dX4_leads_5 : decode cX4_leads 5 = .ok (.invokestatic 52, 3) := by decide +kernel
theorem dX4_leads_8 : decode cX4_leads 8 = .ok (.ifCond .eq 16, 3) := by decide +kernel
theorem dX4_leads_11 : decode cX4_leads 11 = .ok (.iload_n 2, 1) := by decide +kernel
theorem dX4_leads_12 : decode cX4_leads 12 = .ok (.iconst 0, 1) := by decide +kernel
theorem dX4_leads_13 : decode cX4_leads 13 = .ok (.iconst 1, 1) := by decide +kernel
theorem dX4_leads_14 : decode cX4_leads 14 = .ok (.invokestatic 52, 3) := by decide +kernel
theorem dX4_leads_17 : decode cX4_leads 17 = .ok (.ifCond .eq 7, 3) := by decide +kernel
theorem dX4_leads_20 : decode cX4_leads 20 = .ok (.iconst 0, 1) := by decide +kernel
theorem dX4_leads_21 : decode cX4_leads 21 = .ok (.goto 4, 3) := by decide +kernel
theorem dX4_leads_24 : decode cX4_leads 24 = .ok (.iconst 1, 1) := by decide +kernel
theorem dX4_leads_25 : decode cX4_leads 25 = .ok (.invokevirtual 48, 3) := by decide +kernel
theorem dX4_leads_28 : decode cX4_leads 28 = .ok (.ifCond .eq 7, 3) := by decide +kernel
theorem dX4_leads_31 : decode cX4_leads 31 = .ok (.iconst 0, 1) := by decide +kernel
theorem dX4_leads_32 : decode cX4_leads 32 = .ok (.goto 9, 3) := by decide +kernel
theorem dX4_leads_35 : decode cX4_leads 35 = .ok (.aload_n 0, 1) := by decide +kernel
theorem dX4_leads_36 : decode cX4_leads 36 = .ok (.iload_n 1, 1) := by decide +kernel
theorem dX4_leads_37 : decode cX4_leads 37 = .ok (.iload_n 2, 1) := by decide +kernel
theorem dX4_leads_38 : decode cX4_leads 38 = .ok (.invokevirtual 240, 3) := by decide +kernel
theorem dX4_leads_41 : decode cX4_leads 41 = .ok (.ireturn, 1) := by decide +kernel
theorem dX4_raced_0 : decode cX4_raced 0 = .ok (.aload_n 0, 1) := by decide +kernel
theorem dX4_raced_1 : decode cX4_raced 1 = .ok (.getfield 122, 3) := by decide +kernel
theorem dX4_raced_4 : decode cX4_raced 4 = .ok (.ifCond .ne 5, 3) := by decide +kernel
theorem dX4_raced_7 : decode cX4_raced 7 = .ok (.iconst (-1), 1) := by decide +kernel
theorem dX4_raced_8 : decode cX4_raced 8 = .ok (.ireturn, 1) := by decide +kernel
theorem dX4_raced_9 : decode cX4_raced 9 = .ok (.iload_n 1, 1) := by decide +kernel
theorem dX4_raced_10 : decode cX4_raced 10 = .ok (.ifCond .ne 10, 3) := by decide +kernel
theorem dX4_raced_13 : decode cX4_raced 13 = .ok (.aload_n 0, 1) := by decide +kernel
theorem dX4_raced_14 : decode cX4_raced 14 = .ok (.getfield 106, 3) := by decide +kernel
theorem dX4_raced_17 : decode cX4_raced 17 = .ok (.goto 51, 3) := by decide +kernel
theorem dX4_raced_20 : decode cX4_raced 20 = .ok (.iload_n 1, 1) := by decide +kernel
theorem dX4_raced_21 : decode cX4_raced 21 = .ok (.iconst 1, 1) := by decide +kernel
theorem dX4_raced_22 : decode cX4_raced 22 = .ok (.if_icmp .ne 10, 3) := by decide +kernel
theorem dX4_raced_25 : decode cX4_raced 25 = .ok (.aload_n 0, 1) := by decide +kernel
theorem dX4_raced_26 : decode cX4_raced 26 = .ok (.getfield 109, 3) := by decide +kernel
theorem dX4_raced_29 : decode cX4_raced 29 = .ok (.goto 39, 3) := by decide +kernel
theorem dX4_raced_32 : decode cX4_raced 32 = .ok (.iload_n 1, 1) := by decide +kernel
theorem dX4_raced_33 : decode cX4_raced 33 = .ok (.iconst 2, 1) := by decide +kernel
theorem dX4_raced_34 : decode cX4_raced 34 = .ok (.if_icmp .ne 10, 3) := by decide +kernel
theorem dX4_raced_37 : decode cX4_raced 37 = .ok (.aload_n 0, 1) := by decide +kernel
theorem dX4_raced_38 : decode cX4_raced 38 = .ok (.getfield 112, 3) := by decide +kernel
theorem dX4_raced_41 : decode cX4_raced 41 = .ok (.goto 27, 3) := by decide +kernel
theorem dX4_raced_44 : decode cX4_raced 44 = .ok (.iload_n 1, 1) := by decide +kernel
theorem dX4_raced_45 : decode cX4_raced 45 = .ok (.iconst 3, 1) := by decide +kernel
theorem dX4_raced_46 : decode cX4_raced 46 = .ok (.if_icmp .ne 18, 3) := by decide +kernel
theorem dX4_raced_49 : decode cX4_raced 49 = .ok (.aload_n 0, 1) := by decide +kernel
theorem dX4_raced_50 : decode cX4_raced 50 = .ok (.getfield 134, 3) := by decide +kernel
theorem dX4_raced_53 : decode cX4_raced 53 = .ok (.ifCond .eq 7, 3) := by decide +kernel
theorem dX4_raced_56 : decode cX4_raced 56 = .ok (.iconst 1, 1) := by decide +kernel
theorem dX4_raced_57 : decode cX4_raced 57 = .ok (.goto 11, 3) := by decide +kernel
theorem dX4_raced_60 : decode cX4_raced 60 = .ok (.iconst 0, 1) := by decide +kernel
theorem dX4_raced_61 : decode cX4_raced 61 = .ok (.goto 7, 3) := by decide +kernel
theorem dX4_raced_64 : decode cX4_raced 64 = .ok (.aload_n 0, 1) := by decide +kernel
theorem dX4_raced_65 : decode cX4_raced 65 = .ok (.getfield 82, 3) := by decide +kernel
theorem dX4_raced_68 : decode cX4_raced 68 = .ok (.ireturn, 1) := by decide +kernel
set_option maxRecDepth 20000 in
theorem ggX4_racesNow_X4_races : GoodIn wsX4_racesNow wsX4_races := goodIn_r _ [6, 7, 8, 9, 10, 11, 12, 5, 13, 14, 15, 16, 17, 18, 19, 20, 21, 22, 23, 24, 25, 26, 27, 28, 29, 30, 31, 32, 33, 34, 35, 36, 37, 38, 39, 40, 41, 42, 43, 44, 45, 46, 47, 48, 49, 50, 51, 52, 53, 54, 55, 56, 57, 58, 59, 60, 61, 62, 63, 64, 65, 66, 67, 68, 69, 70, 71, 76, 77, 78, 79, 80, 81, 82, 83, 84, 85, 86, 87, 88, 89, 90, 91, 92, 93, 94, 95, 96, 97, 98, 99, 100, 101, 102, 103] (by decide +kernel) (by decide +kernel)
set_option maxRecDepth 20000 in
theorem gX4_racesNow_X4_races : GoodIn wsX4_racesNow (wsV RX4 243 RX4 yX4_races wsX4_races) := goodIn_app (goodIn_of _ (by decide +kernel)) ggX4_racesNow_X4_races
set_option maxRecDepth 20000 in
theorem ggX4_racesNow_X4_raced : GoodIn wsX4_racesNow wsX4_raced := goodIn_r _ [75, 9, 65, 66, 67, 10, 8, 76, 77, 78, 79, 80, 81, 82, 83, 84, 85, 86, 87, 88, 89, 90, 91, 92, 93, 94, 95, 96, 97, 98, 99, 100, 101, 102, 103] (by decide +kernel) (by decide +kernel)
set_option maxRecDepth 20000 in
theorem gX4_racesNow_X4_raced : GoodIn wsX4_racesNow (wsV RX4 246 RX4 yX4_raced wsX4_raced) := goodIn_app (goodIn_of _ (by decide +kernel)) ggX4_racesNow_X4_raced
theorem dX4_racesNow_0 : decode cX4_racesNow 0 = .ok (.aload_n 0, 1) := by decide +kernel
theorem dX4_racesNow_1 : decode cX4_racesNow 1 = .ok (.aload_n 0, 1) := by decide +kernel
theorem dX4_racesNow_2 : decode cX4_racesNow 2 = .ok (.getfield 7, 3) := by decide +kernel
theorem dX4_racesNow_5 : decode cX4_racesNow 5 = .ok (.invokevirtual 243, 3) := by decide +kernel
theorem dX4_racesNow_8 : decode cX4_racesNow 8 = .ok (.aload_n 0, 1) := by decide +kernel
theorem dX4_racesNow_9 : decode cX4_racesNow 9 = .ok (.iload_n 1, 1) := by decide +kernel
theorem dX4_racesNow_10 : decode cX4_racesNow 10 = .ok (.invokevirtual 246, 3) := by decide +kernel
theorem dX4_racesNow_13 : decode cX4_racesNow 13 = .ok (.ireturn, 1) := by decide +kernel
set_option maxRecDepth 20000 in
theorem ggX4_race_X4_in : GoodIn wsX4_race wsX4_in := goodIn_r _ [4] (by decide +kernel) (by decide +kernel)
set_option maxRecDepth 20000 in
theorem gX4_race_X4_in : GoodIn wsX4_race (va_wsS RX4 52 yX4_in wsX4_in) := goodIn_app (goodIn_of _ (by decide +kernel)) ggX4_race_X4_in
set_option maxRecDepth 20000 in
theorem ggX4_race_X4_refuses : GoodIn wsX4_race wsX4_refuses := goodIn_r _ [8, 9, 88, 89, 90, 91, 92, 93, 94, 95, 96, 97, 98, 99, 100, 101, 102, 103, 104, 105, 106, 107, 108, 109, 110, 111, 112, 113, 114, 115] (by decide +kernel) (by decide +kernel)
set_option maxRecDepth 20000 in
theorem gX4_race_X4_refuses : GoodIn wsX4_race (wsV RX4 48 RX4 yX4_refuses wsX4_refuses) := goodIn_app (goodIn_of _ (by decide +kernel)) ggX4_race_X4_refuses
set_option maxRecDepth 20000 in
theorem ggX4_race_X4_racesNow : GoodIn wsX4_race wsX4_racesNow := goodIn_r _ [13, 14, 15, 16, 17, 3, 18, 19, 20, 21, 22, 23, 24, 25, 26, 27, 28, 29, 30, 31, 32, 33, 34, 35, 36, 37, 38, 39, 40, 41, 42, 43, 44, 45, 46, 47, 48, 49, 50, 51, 52, 53, 54, 55, 56, 57, 58, 59, 60, 61, 62, 63, 64, 65, 66, 67, 68, 69, 70, 71, 72, 73, 74, 75, 76, 77, 78, 79, 80, 81, 82, 83, 84, 85, 86, 87, 88, 89, 90, 91, 92, 93, 94, 95, 96, 97, 98, 99, 100, 101, 102, 103, 104, 105, 106, 107, 108, 109, 110, 111, 112, 113, 114, 115] (by decide +kernel) (by decide +kernel)
set_option maxRecDepth 20000 in
theorem gX4_race_X4_racesNow : GoodIn wsX4_race (wsV RX4 249 RX4 yX4_racesNow wsX4_racesNow) := goodIn_app (goodIn_of _ (by decide +kernel)) ggX4_race_X4_racesNow
theorem dX4_race_0 : decode cX4_race 0 = .ok (.aload_n 0, 1) := by decide +kernel
theorem dX4_race_1 : decode cX4_race 1 = .ok (.iload_n 1, 1) := by decide +kernel
theorem dX4_race_2 : decode cX4_race 2 = .ok (.iconst 0, 1) := by decide +kernel
theorem dX4_race_3 : decode cX4_race 3 = .ok (.iconst 4, 1) := by decide +kernel
theorem dX4_race_4 : decode cX4_race 4 = .ok (.invokestatic 52, 3) := by decide +kernel
theorem dX4_race_7 : decode cX4_race 7 = .ok (.ifCond .eq 7, 3) := by decide +kernel
theorem dX4_race_10 : decode cX4_race 10 = .ok (.iconst 0, 1) := by decide +kernel
theorem dX4_race_11 : decode cX4_race 11 = .ok (.goto 4, 3) := by decide +kernel
theorem dX4_race_14 : decode cX4_race 14 = .ok (.iconst 1, 1) := by decide +kernel
theorem dX4_race_15 : decode cX4_race 15 = .ok (.invokevirtual 48, 3) := by decide +kernel
theorem dX4_race_18 : decode cX4_race 18 = .ok (.ifCond .eq 7, 3) := by decide +kernel
theorem dX4_race_21 : decode cX4_race 21 = .ok (.iconst 0, 1) := by decide +kernel
theorem dX4_race_22 : decode cX4_race 22 = .ok (.goto 8, 3) := by decide +kernel
theorem dX4_race_25 : decode cX4_race 25 = .ok (.aload_n 0, 1) := by decide +kernel
theorem dX4_race_26 : decode cX4_race 26 = .ok (.iload_n 1, 1) := by decide +kernel
theorem dX4_race_27 : decode cX4_race 27 = .ok (.invokevirtual 249, 3) := by decide +kernel
theorem dX4_race_30 : decode cX4_race 30 = .ok (.ireturn, 1) := by decide +kernel
set_option maxRecDepth 20000 in
theorem ggX4_findsCure_X4_races : GoodIn wsX4_findsCure wsX4_races := goodIn_r _ [11, 12, 13, 2, 14, 15, 16, 10, 17, 18, 19, 20, 21, 22, 23, 24, 25, 26, 27, 28, 29, 30, 31, 32, 33, 34, 35, 36, 37, 38, 39, 40, 41, 42, 43, 44, 45, 46, 47, 48, 49, 50, 51, 52, 53, 54, 55, 56, 57, 58, 59, 60, 61, 62, 63, 64, 65, 66, 67, 68, 69, 70, 71, 72, 73, 74, 75, 87, 88, 89, 90, 91, 92, 93, 94, 95, 96, 97, 98, 99, 100, 101, 102, 103, 104, 105, 106, 107, 108, 109, 110, 111, 112, 113, 114] (by decide +kernel) (by decide +kernel)
set_option maxRecDepth 20000 in
theorem gX4_findsCure_X4_races : GoodIn wsX4_findsCure (wsV RX4 243 RX4 yX4_races wsX4_races) := goodIn_app (goodIn_of _ (by decide +kernel)) ggX4_findsCure_X4_races
set_option maxRecDepth 20000 in
theorem ggX4_findsCure_X4_isCured : GoodIn wsX4_findsCure wsX4_isCured := goodIn_r _ [79, 2, 69, 14, 87, 88, 89, 90, 91, 92, 93, 94, 95, 96, 97, 98, 99, 100, 101, 102, 103, 104, 105, 106, 107, 108, 109, 110, 111, 112, 113, 114] (by decide +kernel) (by decide +kernel)
set_option maxRecDepth 20000 in
theorem gX4_findsCure_X4_isCured : GoodIn wsX4_findsCure (wsV RX4 252 RX4 yX4_isCured wsX4_isCured) := goodIn_app (goodIn_of _ (by decide +kernel)) ggX4_findsCure_X4_isCured
set_option maxRecDepth 20000 in
theorem ggX4_findsCure_X4_tries : GoodIn wsX4_findsCure wsX4_tries := goodIn_r _ [83, 6, 1, 87, 88, 89, 90, 91, 92, 93, 94, 95, 96, 97, 98, 99, 100, 101, 102, 103, 104, 105, 106, 107, 108, 109, 110, 111, 112, 113, 114] (by decide +kernel) (by decide +kernel)
set_option maxRecDepth 20000 in
theorem gX4_findsCure_X4_tries : GoodIn wsX4_findsCure (wsV RX4 237 RX4 yX4_tries wsX4_tries) := goodIn_app (goodIn_of _ (by decide +kernel)) ggX4_findsCure_X4_tries
set_option maxRecDepth 20000 in
theorem ggX4_findsCure_X4_of : GoodIn wsX4_findsCure wsX4_of := goodIn_r _ [20] (by decide +kernel) (by decide +kernel)
set_option maxRecDepth 20000 in
theorem gX4_findsCure_X4_of : GoodIn wsX4_findsCure (va_wsS RX4 56 yX4_of wsX4_of) := goodIn_app (goodIn_of _ (by decide +kernel)) ggX4_findsCure_X4_of
set_option maxRecDepth 20000 in
theorem ggX4_findsCure_X4_puts : GoodIn wsX4_findsCure wsX4_puts := goodIn_r _ [86] (by decide +kernel) (by decide +kernel)
set_option maxRecDepth 20000 in
theorem gX4_findsCure_X4_puts : GoodIn wsX4_findsCure (va_wsS RX4 143 yX4_puts wsX4_puts) := goodIn_app (goodIn_of _ (by decide +kernel)) ggX4_findsCure_X4_puts
theorem dX4_findsCure_0 : decode cX4_findsCure 0 = .ok (.aload_n 0, 1) := by decide +kernel
theorem dX4_findsCure_1 : decode cX4_findsCure 1 = .ok (.aload_n 0, 1) := by decide +kernel
theorem dX4_findsCure_2 : decode cX4_findsCure 2 = .ok (.getfield 7, 3) := by decide +kernel
theorem dX4_findsCure_5 : decode cX4_findsCure 5 = .ok (.invokevirtual 243, 3) := by decide +kernel
theorem dX4_findsCure_8 : decode cX4_findsCure 8 = .ok (.aload_n 0, 1) := by decide +kernel
theorem dX4_findsCure_9 : decode cX4_findsCure 9 = .ok (.getfield 122, 3) := by decide +kernel
theorem dX4_findsCure_12 : decode cX4_findsCure 12 = .ok (.ifCond .eq 10, 3) := by decide +kernel
theorem dX4_findsCure_15 : decode cX4_findsCure 15 = .ok (.aload_n 0, 1) := by decide +kernel
theorem dX4_findsCure_16 : decode cX4_findsCure 16 = .ok (.invokevirtual 252, 3) := by decide +kernel
theorem dX4_findsCure_19 : decode cX4_findsCure 19 = .ok (.ifCond .eq 5, 3) := by decide +kernel
theorem dX4_findsCure_22 : decode cX4_findsCure 22 = .ok (.iconst 0, 1) := by decide +kernel
theorem dX4_findsCure_23 : decode cX4_findsCure 23 = .ok (.ireturn, 1) := by decide +kernel
theorem dX4_findsCure_24 : decode cX4_findsCure 24 = .ok (.aload_n 0, 1) := by decide +kernel
theorem dX4_findsCure_25 : decode cX4_findsCure 25 = .ok (.invokevirtual 237, 3) := by decide +kernel
theorem dX4_findsCure_28 : decode cX4_findsCure 28 = .ok (.iconst 0, 1) := by decide +kernel
theorem dX4_findsCure_29 : decode cX4_findsCure 29 = .ok (.istore_n 1, 1) := by decide +kernel
theorem dX4_findsCure_30 : decode cX4_findsCure 30 = .ok (.iload_n 1, 1) := by decide +kernel
theorem dX4_findsCure_31 : decode cX4_findsCure 31 = .ok (.bipush 18, 2) := by decide +kernel
theorem dX4_findsCure_33 : decode cX4_findsCure 33 = .ok (.aload_n 0, 1) := by decide +kernel
theorem dX4_findsCure_34 : decode cX4_findsCure 34 = .ok (.getfield 7, 3) := by decide +kernel
theorem dX4_findsCure_37 : decode cX4_findsCure 37 = .ok (.iconst 0, 1) := by decide +kernel
theorem dX4_findsCure_38 : decode cX4_findsCure 38 = .ok (.iaload, 1) := by decide +kernel
theorem dX4_findsCure_39 : decode cX4_findsCure 39 = .ok (.imul, 1) := by decide +kernel
theorem dX4_findsCure_40 : decode cX4_findsCure 40 = .ok (.if_icmp .ge 135, 3) := by decide +kernel
theorem dX4_findsCure_43 : decode cX4_findsCure 43 = .ok (.aload_n 0, 1) := by decide +kernel
theorem dX4_findsCure_44 : decode cX4_findsCure 44 = .ok (.iconst 1, 1) := by decide +kernel
theorem dX4_findsCure_45 : decode cX4_findsCure 45 = .ok (.iload_n 1, 1) := by decide +kernel
theorem dX4_findsCure_46 : decode cX4_findsCure 46 = .ok (.iconst 2, 1) := by decide +kernel
theorem dX4_findsCure_47 : decode cX4_findsCure 47 = .ok (.aload_n 0, 1) := by decide +kernel
theorem dX4_findsCure_48 : decode cX4_findsCure 48 = .ok (.getfield 7, 3) := by decide +kernel
theorem dX4_findsCure_51 : decode cX4_findsCure 51 = .ok (.iconst 0, 1) := by decide +kernel
theorem dX4_findsCure_52 : decode cX4_findsCure 52 = .ok (.iaload, 1) := by decide +kernel
theorem dX4_findsCure_53 : decode cX4_findsCure 53 = .ok (.imul, 1) := by decide +kernel
theorem dX4_findsCure_54 : decode cX4_findsCure 54 = .ok (.idiv, 1) := by decide +kernel
theorem dX4_findsCure_55 : decode cX4_findsCure 55 = .ok (.iadd, 1) := by decide +kernel
theorem dX4_findsCure_56 : decode cX4_findsCure 56 = .ok (.putfield 255, 3) := by decide +kernel
theorem dX4_findsCure_59 : decode cX4_findsCure 59 = .ok (.aload_n 0, 1) := by decide +kernel
theorem dX4_findsCure_60 : decode cX4_findsCure 60 = .ok (.iload_n 1, 1) := by decide +kernel
theorem dX4_findsCure_61 : decode cX4_findsCure 61 = .ok (.iconst 2, 1) := by decide +kernel
theorem dX4_findsCure_62 : decode cX4_findsCure 62 = .ok (.aload_n 0, 1) := by decide +kernel
theorem dX4_findsCure_63 : decode cX4_findsCure 63 = .ok (.getfield 7, 3) := by decide +kernel
theorem dX4_findsCure_66 : decode cX4_findsCure 66 = .ok (.iconst 0, 1) := by decide +kernel
theorem dX4_findsCure_67 : decode cX4_findsCure 67 = .ok (.iaload, 1) := by decide +kernel
theorem dX4_findsCure_68 : decode cX4_findsCure 68 = .ok (.imul, 1) := by decide +kernel
theorem dX4_findsCure_69 : decode cX4_findsCure 69 = .ok (.irem, 1) := by decide +kernel
theorem dX4_findsCure_70 : decode cX4_findsCure 70 = .ok (.iconst 2, 1) := by decide +kernel
theorem dX4_findsCure_71 : decode cX4_findsCure 71 = .ok (.idiv, 1) := by decide +kernel
theorem dX4_findsCure_72 : decode cX4_findsCure 72 = .ok (.putfield 258, 3) := by decide +kernel
theorem dX4_findsCure_75 : decode cX4_findsCure 75 = .ok (.aload_n 0, 1) := by decide +kernel
theorem dX4_findsCure_76 : decode cX4_findsCure 76 = .ok (.iload_n 1, 1) := by decide +kernel
theorem dX4_findsCure_77 : decode cX4_findsCure 77 = .ok (.iconst 2, 1) := by decide +kernel
theorem dX4_findsCure_78 : decode cX4_findsCure 78 = .ok (.irem, 1) := by decide +kernel
theorem dX4_findsCure_79 : decode cX4_findsCure 79 = .ok (.putfield 261, 3) := by decide +kernel
theorem dX4_findsCure_82 : decode cX4_findsCure 82 = .ok (.aload_n 0, 1) := by decide +kernel
theorem dX4_findsCure_83 : decode cX4_findsCure 83 = .ok (.getfield 7, 3) := by decide +kernel
theorem dX4_findsCure_86 : decode cX4_findsCure 86 = .ok (.aload_n 0, 1) := by decide +kernel
theorem dX4_findsCure_87 : decode cX4_findsCure 87 = .ok (.getfield 258, 3) := by decide +kernel
theorem dX4_findsCure_90 : decode cX4_findsCure 90 = .ok (.iconst 2, 1) := by decide +kernel
theorem dX4_findsCure_91 : decode cX4_findsCure 91 = .ok (.aload_n 0, 1) := by decide +kernel
theorem dX4_findsCure_92 : decode cX4_findsCure 92 = .ok (.getfield 261, 3) := by decide +kernel
theorem dX4_findsCure_95 : decode cX4_findsCure 95 = .ok (.iadd, 1) := by decide +kernel
theorem dX4_findsCure_96 : decode cX4_findsCure 96 = .ok (.invokestatic 56, 3) := by decide +kernel
theorem dX4_findsCure_99 : decode cX4_findsCure 99 = .ok (.istore_n 2, 1) := by decide +kernel
theorem dX4_findsCure_100 : decode cX4_findsCure 100 = .ok (.iload_n 2, 1) := by decide +kernel
theorem dX4_findsCure_101 : decode cX4_findsCure 101 = .ok (.aload_n 0, 1) := by decide +kernel
theorem dX4_findsCure_102 : decode cX4_findsCure 102 = .ok (.getfield 255, 3) := by decide +kernel
theorem dX4_findsCure_105 : decode cX4_findsCure 105 = .ok (.iadd, 1) := by decide +kernel
theorem dX4_findsCure_106 : decode cX4_findsCure 106 = .ok (.bipush 9, 2) := by decide +kernel
theorem dX4_findsCure_108 : decode cX4_findsCure 108 = .ok (.if_icmp .gt 61, 3) := by decide +kernel
theorem dX4_findsCure_111 : decode cX4_findsCure 111 = .ok (.aload_n 0, 1) := by decide +kernel
theorem dX4_findsCure_112 : decode cX4_findsCure 112 = .ok (.getfield 13, 3) := by decide +kernel
theorem dX4_findsCure_115 : decode cX4_findsCure 115 = .ok (.aload_n 0, 1) := by decide +kernel
theorem dX4_findsCure_116 : decode cX4_findsCure 116 = .ok (.getfield 258, 3) := by decide +kernel
theorem dX4_findsCure_119 : decode cX4_findsCure 119 = .ok (.iconst 2, 1) := by decide +kernel
theorem dX4_findsCure_120 : decode cX4_findsCure 120 = .ok (.aload_n 0, 1) := by decide +kernel
theorem dX4_findsCure_121 : decode cX4_findsCure 121 = .ok (.getfield 261, 3) := by decide +kernel
theorem dX4_findsCure_124 : decode cX4_findsCure 124 = .ok (.iadd, 1) := by decide +kernel
theorem dX4_findsCure_125 : decode cX4_findsCure 125 = .ok (.iload_n 2, 1) := by decide +kernel
theorem dX4_findsCure_126 : decode cX4_findsCure 126 = .ok (.aload_n 0, 1) := by decide +kernel
theorem dX4_findsCure_127 : decode cX4_findsCure 127 = .ok (.getfield 255, 3) := by decide +kernel
theorem dX4_findsCure_130 : decode cX4_findsCure 130 = .ok (.iadd, 1) := by decide +kernel
theorem dX4_findsCure_131 : decode cX4_findsCure 131 = .ok (.invokestatic 143, 3) := by decide +kernel
theorem dX4_findsCure_134 : decode cX4_findsCure 134 = .ok (.aload_n 0, 1) := by decide +kernel
theorem dX4_findsCure_135 : decode cX4_findsCure 135 = .ok (.aload_n 0, 1) := by decide +kernel
theorem dX4_findsCure_136 : decode cX4_findsCure 136 = .ok (.getfield 13, 3) := by decide +kernel
theorem dX4_findsCure_139 : decode cX4_findsCure 139 = .ok (.invokevirtual 243, 3) := by decide +kernel
theorem dX4_findsCure_142 : decode cX4_findsCure 142 = .ok (.aload_n 0, 1) := by decide +kernel
theorem dX4_findsCure_143 : decode cX4_findsCure 143 = .ok (.getfield 13, 3) := by decide +kernel
theorem dX4_findsCure_146 : decode cX4_findsCure 146 = .ok (.aload_n 0, 1) := by decide +kernel
theorem dX4_findsCure_147 : decode cX4_findsCure 147 = .ok (.getfield 258, 3) := by decide +kernel
theorem dX4_findsCure_150 : decode cX4_findsCure 150 = .ok (.iconst 2, 1) := by decide +kernel
theorem dX4_findsCure_151 : decode cX4_findsCure 151 = .ok (.aload_n 0, 1) := by decide +kernel
theorem dX4_findsCure_152 : decode cX4_findsCure 152 = .ok (.getfield 261, 3) := by decide +kernel
theorem dX4_findsCure_155 : decode cX4_findsCure 155 = .ok (.iadd, 1) := by decide +kernel
theorem dX4_findsCure_156 : decode cX4_findsCure 156 = .ok (.iload_n 2, 1) := by decide +kernel
theorem dX4_findsCure_157 : decode cX4_findsCure 157 = .ok (.invokestatic 143, 3) := by decide +kernel
theorem dX4_findsCure_160 : decode cX4_findsCure 160 = .ok (.aload_n 0, 1) := by decide +kernel
theorem dX4_findsCure_161 : decode cX4_findsCure 161 = .ok (.invokevirtual 252, 3) := by decide +kernel
theorem dX4_findsCure_164 : decode cX4_findsCure 164 = .ok (.ifCond .eq 5, 3) := by decide +kernel
theorem dX4_findsCure_167 : decode cX4_findsCure 167 = .ok (.iconst 1, 1) := by decide +kernel
theorem dX4_findsCure_168 : decode cX4_findsCure 168 = .ok (.ireturn, 1) := by decide +kernel
theorem dX4_findsCure_169 : decode cX4_findsCure 169 = .ok (.iinc 1 1, 3) := by decide +kernel
theorem dX4_findsCure_172 : decode cX4_findsCure 172 = .ok (.goto (-142), 3) := by decide +kernel
theorem dX4_findsCure_175 : decode cX4_findsCure 175 = .ok (.iconst 0, 1) := by decide +kernel
theorem dX4_findsCure_176 : decode cX4_findsCure 176 = .ok (.ireturn, 1) := by decide +kernel
set_option maxRecDepth 20000 in
theorem ggX4_cures_X4_findsCure : GoodIn wsX4_cures wsX4_findsCure := goodIn_r _ [8, 9, 10, 1, 2, 3, 11, 12, 13, 14, 7, 15, 16, 17, 18, 19, 20, 21, 22, 23, 24, 25, 26, 27, 28, 29, 30, 31, 32, 33, 34, 35, 36, 37, 38, 39, 40, 41, 42, 43, 44, 45, 46, 47, 48, 49, 50, 51, 52, 53, 54, 55, 56, 57, 58, 59, 60, 61, 62, 63, 64, 65, 66, 67, 68, 69, 70, 71, 72, 73, 74, 75, 76, 77, 78, 79, 80, 81, 82, 83, 84, 85, 86, 87, 88, 89, 90, 91, 92, 93, 94, 95, 96, 97, 98, 99, 100, 101, 102, 103, 104, 105, 106, 107, 108, 109, 110, 111, 112, 113, 114, 115, 116, 117, 118] (by decide +kernel) (by decide +kernel)
set_option maxRecDepth 20000 in
theorem gX4_cures_X4_findsCure : GoodIn wsX4_cures (wsV RX4 264 RX4 yX4_findsCure wsX4_findsCure) := goodIn_app (goodIn_of _ (by decide +kernel)) ggX4_cures_X4_findsCure
theorem dX4_cures_0 : decode cX4_cures 0 = .ok (.aload_n 0, 1) := by decide +kernel
theorem dX4_cures_1 : decode cX4_cures 1 = .ok (.invokevirtual 264, 3) := by decide +kernel
theorem dX4_cures_4 : decode cX4_cures 4 = .ok (.ifCond .ne 5, 3) := by decide +kernel
theorem dX4_cures_7 : decode cX4_cures 7 = .ok (.iconst (-1), 1) := by decide +kernel
theorem dX4_cures_8 : decode cX4_cures 8 = .ok (.ireturn, 1) := by decide +kernel
theorem dX4_cures_9 : decode cX4_cures 9 = .ok (.iload_n 1, 1) := by decide +kernel
theorem dX4_cures_10 : decode cX4_cures 10 = .ok (.ifCond .ne 10, 3) := by decide +kernel
theorem dX4_cures_13 : decode cX4_cures 13 = .ok (.aload_n 0, 1) := by decide +kernel
theorem dX4_cures_14 : decode cX4_cures 14 = .ok (.getfield 255, 3) := by decide +kernel
theorem dX4_cures_17 : decode cX4_cures 17 = .ok (.goto 19, 3) := by decide +kernel
theorem dX4_cures_20 : decode cX4_cures 20 = .ok (.iload_n 1, 1) := by decide +kernel
theorem dX4_cures_21 : decode cX4_cures 21 = .ok (.iconst 1, 1) := by decide +kernel
theorem dX4_cures_22 : decode cX4_cures 22 = .ok (.if_icmp .ne 10, 3) := by decide +kernel
theorem dX4_cures_25 : decode cX4_cures 25 = .ok (.aload_n 0, 1) := by decide +kernel
theorem dX4_cures_26 : decode cX4_cures 26 = .ok (.getfield 258, 3) := by decide +kernel
theorem dX4_cures_29 : decode cX4_cures 29 = .ok (.goto 7, 3) := by decide +kernel
theorem dX4_cures_32 : decode cX4_cures 32 = .ok (.aload_n 0, 1) := by decide +kernel
theorem dX4_cures_33 : decode cX4_cures 33 = .ok (.getfield 261, 3) := by decide +kernel
theorem dX4_cures_36 : decode cX4_cures 36 = .ok (.ireturn, 1) := by decide +kernel
set_option maxRecDepth 20000 in
theorem ggX4_cure_X4_in : GoodIn wsX4_cure wsX4_in := goodIn_r _ [4] (by decide +kernel) (by decide +kernel)
set_option maxRecDepth 20000 in
theorem gX4_cure_X4_in : GoodIn wsX4_cure (va_wsS RX4 52 yX4_in wsX4_in) := goodIn_app (goodIn_of _ (by decide +kernel)) ggX4_cure_X4_in
set_option maxRecDepth 20000 in
theorem ggX4_cure_X4_refuses : GoodIn wsX4_cure wsX4_refuses := goodIn_r _ [8, 9, 103, 104, 105, 106, 107, 108, 109, 110, 111, 112, 113, 114, 115, 116, 117, 118, 119, 120, 121, 122, 123, 124, 125, 126, 127, 128, 129, 130] (by decide +kernel) (by decide +kernel)
set_option maxRecDepth 20000 in
theorem gX4_cure_X4_refuses : GoodIn wsX4_cure (wsV RX4 48 RX4 yX4_refuses wsX4_refuses) := goodIn_app (goodIn_of _ (by decide +kernel)) ggX4_cure_X4_refuses
set_option maxRecDepth 20000 in
theorem ggX4_cure_X4_cures : GoodIn wsX4_cure wsX4_cures := goodIn_r _ [13, 14, 15, 16, 17, 18, 19, 3, 20, 21, 22, 23, 24, 25, 26, 27, 28, 29, 30, 31, 32, 33, 34, 35, 36, 37, 38, 39, 40, 41, 42, 43, 44, 45, 46, 47, 48, 49, 50, 51, 52, 53, 54, 55, 56, 57, 58, 59, 60, 61, 62, 63, 64, 65, 66, 67, 68, 69, 70, 71, 72, 73, 74, 75, 76, 77, 78, 79, 80, 81, 82, 83, 84, 85, 86, 87, 88, 89, 90, 91, 92, 93, 94, 95, 96, 97, 98, 99, 100, 101, 102, 103, 104, 105, 106, 107, 108, 109, 110, 111, 112, 113, 114, 115, 116, 117, 118, 119, 120, 121, 122, 123, 124, 125, 126, 127, 128, 129, 130] (by decide +kernel) (by decide +kernel)
set_option maxRecDepth 20000 in
theorem gX4_cure_X4_cures : GoodIn wsX4_cure (wsV RX4 267 RX4 yX4_cures wsX4_cures) := goodIn_app (goodIn_of _ (by decide +kernel)) ggX4_cure_X4_cures
theorem dX4_cure_0 : decode cX4_cure 0 = .ok (.aload_n 0, 1) := by decide +kernel
theorem dX4_cure_1 : decode cX4_cure 1 = .ok (.iload_n 1, 1) := by decide +kernel
theorem dX4_cure_2 : decode cX4_cure 2 = .ok (.iconst 0, 1) := by decide +kernel
theorem dX4_cure_3 : decode cX4_cure 3 = .ok (.iconst 2, 1) := by decide +kernel
theorem dX4_cure_4 : decode cX4_cure 4 = .ok (.invokestatic 52, 3) := by decide +kernel
theorem dX4_cure_7 : decode cX4_cure 7 = .ok (.ifCond .eq 7, 3) := by decide +kernel
theorem dX4_cure_10 : decode cX4_cure 10 = .ok (.iconst 0, 1) := by decide +kernel
theorem dX4_cure_11 : decode cX4_cure 11 = .ok (.goto 4, 3) := by decide +kernel
theorem dX4_cure_14 : decode cX4_cure 14 = .ok (.iconst 1, 1) := by decide +kernel
theorem dX4_cure_15 : decode cX4_cure 15 = .ok (.invokevirtual 48, 3) := by decide +kernel
theorem dX4_cure_18 : decode cX4_cure 18 = .ok (.ifCond .eq 7, 3) := by decide +kernel
theorem dX4_cure_21 : decode cX4_cure 21 = .ok (.iconst 0, 1) := by decide +kernel
theorem dX4_cure_22 : decode cX4_cure 22 = .ok (.goto 8, 3) := by decide +kernel
theorem dX4_cure_25 : decode cX4_cure 25 = .ok (.aload_n 0, 1) := by decide +kernel
theorem dX4_cure_26 : decode cX4_cure 26 = .ok (.iload_n 1, 1) := by decide +kernel
theorem dX4_cure_27 : decode cX4_cure 27 = .ok (.invokevirtual 267, 3) := by decide +kernel
theorem dX4_cure_30 : decode cX4_cure 30 = .ok (.ireturn, 1) := by decide +kernel
set_option maxRecDepth 20000 in
theorem ggX4_holds_X4_leadsTo : GoodIn wsX4_holds wsX4_leadsTo := goodIn_r _ [6, 7, 8, 9, 10, 11, 5, 12, 1, 13, 14, 15, 16, 17, 18, 19, 20, 21, 22, 23, 24, 25, 26, 27, 28, 29, 30, 31, 32, 33, 34, 35, 36, 37, 38, 39, 40, 41, 42, 43, 44, 45, 46, 47, 48, 49, 50, 51, 52, 53, 54, 55, 56, 57, 58, 59, 60, 61, 62, 63, 64, 65, 66, 67, 68, 69, 70, 71, 72, 73, 74, 75] (by decide +kernel) (by decide +kernel)
set_option maxRecDepth 20000 in
theorem gX4_holds_X4_leadsTo : GoodIn wsX4_holds (wsV RX4 240 RX4 yX4_leadsTo wsX4_leadsTo) := goodIn_app (goodIn_of _ (by decide +kernel)) ggX4_holds_X4_leadsTo
set_option maxRecDepth 20000 in
theorem ggX4_holds_X4_codeOf : GoodIn wsX4_holds wsX4_codeOf := goodIn_r _ [20, 21, 22, 5, 23] (by decide +kernel) (by decide +kernel)
set_option maxRecDepth 20000 in
theorem gX4_holds_X4_codeOf : GoodIn wsX4_holds (va_wsS RX4 115 yX4_codeOf wsX4_codeOf) := goodIn_app (goodIn_of _ (by decide +kernel)) ggX4_holds_X4_codeOf
set_option maxRecDepth 20000 in
theorem ggX4_holds_X4_upOf : GoodIn wsX4_holds wsX4_upOf := goodIn_r _ [29] (by decide +kernel) (by decide +kernel)
set_option maxRecDepth 20000 in
theorem gX4_holds_X4_upOf : GoodIn wsX4_holds (va_wsS RX4 64 yX4_upOf wsX4_upOf) := goodIn_app (goodIn_of _ (by decide +kernel)) ggX4_holds_X4_upOf
theorem dX4_holds_0 : decode cX4_holds 0 = .ok (.aload_n 0, 1) := by decide +kernel
theorem dX4_holds_1 : decode cX4_holds 1 = .ok (.iconst 0, 1) := by decide +kernel
theorem dX4_holds_2 : decode cX4_holds 2 = .ok (.iconst 0, 1) := by decide +kernel
theorem dX4_holds_3 : decode cX4_holds 3 = .ok (.invokevirtual 240, 3) := by decide +kernel
theorem dX4_holds_6 : decode cX4_holds 6 = .ok (.istore_n 1, 1) := by decide +kernel
theorem dX4_holds_7 : decode cX4_holds 7 = .ok (.iload_n 1, 1) := by decide +kernel
theorem dX4_holds_8 : decode cX4_holds 8 = .ok (.iconst (-1), 1) := by decide +kernel
theorem dX4_holds_9 : decode cX4_holds 9 = .ok (.if_icmp .ne 7, 3) := by decide +kernel
theorem dX4_holds_12 : decode cX4_holds 12 = .ok (.iconst 0, 1) := by decide +kernel
theorem dX4_holds_13 : decode cX4_holds 13 = .ok (.goto 15, 3) := by decide +kernel
theorem dX4_holds_16 : decode cX4_holds 16 = .ok (.iload_n 1, 1) := by decide +kernel
theorem dX4_holds_17 : decode cX4_holds 17 = .ok (.aload_n 0, 1) := by decide +kernel
theorem dX4_holds_18 : decode cX4_holds 18 = .ok (.getfield 7, 3) := by decide +kernel
theorem dX4_holds_21 : decode cX4_holds 21 = .ok (.invokestatic 115, 3) := by decide +kernel
theorem dX4_holds_24 : decode cX4_holds 24 = .ok (.invokestatic 64, 3) := by decide +kernel
theorem dX4_holds_27 : decode cX4_holds 27 = .ok (.iand, 1) := by decide +kernel
theorem dX4_holds_28 : decode cX4_holds 28 = .ok (.ireturn, 1) := by decide +kernel
set_option maxRecDepth 20000 in
theorem ggX4_holding_X4_holds : GoodIn wsX4_holding wsX4_holds := goodIn_r _ [6, 7, 8, 9, 10, 5, 11, 12, 13, 14, 15, 16, 17, 18, 19, 20, 21, 22, 23, 24, 25, 26, 27, 28, 29, 30, 31, 32, 33, 34, 35, 36, 37, 38, 39, 40, 41, 42, 43, 44, 45, 46, 47, 48, 49, 50, 51, 52, 53, 54, 55, 56, 57, 58, 59, 60, 61, 62, 63, 64, 65, 66, 67, 68, 69, 70, 71, 72, 73, 74, 75, 76, 77, 78, 79, 80] (by decide +kernel) (by decide +kernel)
set_option maxRecDepth 20000 in
theorem gX4_holding_X4_holds : GoodIn wsX4_holding (wsV RX4 270 RX4 yX4_holds wsX4_holds) := goodIn_app (goodIn_of _ (by decide +kernel)) ggX4_holding_X4_holds
theorem dX4_holding_0 : decode cX4_holding 0 = .ok (.aload_n 0, 1) := by decide +kernel
theorem dX4_holding_1 : decode cX4_holding 1 = .ok (.iconst 0, 1) := by decide +kernel
theorem dX4_holding_2 : decode cX4_holding 2 = .ok (.putfield 41, 3) := by decide +kernel
theorem dX4_holding_5 : decode cX4_holding 5 = .ok (.aload_n 0, 1) := by decide +kernel
theorem dX4_holding_6 : decode cX4_holding 6 = .ok (.invokevirtual 270, 3) := by decide +kernel
theorem dX4_holding_9 : decode cX4_holding 9 = .ok (.ireturn, 1) := by decide +kernel
set_option maxRecDepth 20000 in
theorem ggX4_isNeeded_X4_isLeading : GoodIn wsX4_isNeeded wsX4_isLeading := goodIn_r _ [5, 6, 7, 4, 8] (by decide +kernel) (by decide +kernel)
set_option maxRecDepth 20000 in
theorem gX4_isNeeded_X4_isLeading : GoodIn wsX4_isNeeded (va_wsS RX4 60 yX4_isLeading wsX4_isLeading) := goodIn_app (goodIn_of _ (by decide +kernel)) ggX4_isNeeded_X4_isLeading
set_option maxRecDepth 20000 in
theorem ggX4_isNeeded_X4_of : GoodIn wsX4_isNeeded wsX4_of := goodIn_r _ [8] (by decide +kernel) (by decide +kernel)
set_option maxRecDepth 20000 in
theorem gX4_isNeeded_X4_of : GoodIn wsX4_isNeeded (va_wsS RX4 56 yX4_of wsX4_of) := goodIn_app (goodIn_of _ (by decide +kernel)) ggX4_isNeeded_X4_of
theorem dX4_isNeeded_0 : decode cX4_isNeeded 0 = .ok (.iconst 0, 1) := by decide +kernel
theorem dX4_isNeeded_1 : decode cX4_isNeeded 1 = .ok (.istore_n 3, 1) := by decide +kernel
theorem dX4_isNeeded_2 : decode cX4_isNeeded 2 = .ok (.iload_n 3, 1) := by decide +kernel
theorem dX4_isNeeded_3 : decode cX4_isNeeded 3 = .ok (.iconst 1, 1) := by decide +kernel
theorem dX4_isNeeded_4 : decode cX4_isNeeded 4 = .ok (.iconst 4, 1) := by decide +kernel
theorem dX4_isNeeded_5 : decode cX4_isNeeded 5 = .ok (.aload_n 0, 1) := by decide +kernel
theorem dX4_isNeeded_6 : decode cX4_isNeeded 6 = .ok (.getfield 7, 3) := by decide +kernel
theorem dX4_isNeeded_9 : decode cX4_isNeeded 9 = .ok (.iconst 0, 1) := by decide +kernel
theorem dX4_isNeeded_10 : decode cX4_isNeeded 10 = .ok (.iaload, 1) := by decide +kernel
theorem dX4_isNeeded_11 : decode cX4_isNeeded 11 = .ok (.iadd, 1) := by decide +kernel
theorem dX4_isNeeded_12 : decode cX4_isNeeded 12 = .ok (.ishl, 1) := by decide +kernel
theorem dX4_isNeeded_13 : decode cX4_isNeeded 13 = .ok (.if_icmp .ge 83, 3) := by decide +kernel
theorem dX4_isNeeded_16 : decode cX4_isNeeded 16 = .ok (.aload_n 0, 1) := by decide +kernel
theorem dX4_isNeeded_17 : decode cX4_isNeeded 17 = .ok (.getfield 7, 3) := by decide +kernel
theorem dX4_isNeeded_20 : decode cX4_isNeeded 20 = .ok (.iload_n 1, 1) := by decide +kernel
theorem dX4_isNeeded_21 : decode cX4_isNeeded 21 = .ok (.iload_n 2, 1) := by decide +kernel
theorem dX4_isNeeded_22 : decode cX4_isNeeded 22 = .ok (.iload_n 3, 1) := by decide +kernel
theorem dX4_isNeeded_23 : decode cX4_isNeeded 23 = .ok (.invokestatic 60, 3) := by decide +kernel
theorem dX4_isNeeded_26 : decode cX4_isNeeded 26 = .ok (.istore 4, 2) := by decide +kernel
theorem dX4_isNeeded_28 : decode cX4_isNeeded 28 = .ok (.iconst 0, 1) := by decide +kernel
theorem dX4_isNeeded_29 : decode cX4_isNeeded 29 = .ok (.istore 5, 2) := by decide +kernel
theorem dX4_isNeeded_31 : decode cX4_isNeeded 31 = .ok (.iload 5, 2) := by decide +kernel
theorem dX4_isNeeded_33 : decode cX4_isNeeded 33 = .ok (.aload_n 0, 1) := by decide +kernel
theorem dX4_isNeeded_34 : decode cX4_isNeeded 34 = .ok (.getfield 7, 3) := by decide +kernel
theorem dX4_isNeeded_37 : decode cX4_isNeeded 37 = .ok (.iload_n 1, 1) := by decide +kernel
theorem dX4_isNeeded_38 : decode cX4_isNeeded 38 = .ok (.iconst 4, 1) := by decide +kernel
theorem dX4_isNeeded_39 : decode cX4_isNeeded 39 = .ok (.invokestatic 56, 3) := by decide +kernel
theorem dX4_isNeeded_42 : decode cX4_isNeeded 42 = .ok (.if_icmp .ge 41, 3) := by decide +kernel
theorem dX4_isNeeded_45 : decode cX4_isNeeded 45 = .ok (.iload 4, 2) := by decide +kernel
theorem dX4_isNeeded_47 : decode cX4_isNeeded 47 = .ok (.ifCond .eq 36, 3) := by decide +kernel
theorem dX4_isNeeded_50 : decode cX4_isNeeded 50 = .ok (.iload 5, 2) := by decide +kernel
theorem dX4_isNeeded_52 : decode cX4_isNeeded 52 = .ok (.iload_n 2, 1) := by decide +kernel
theorem dX4_isNeeded_53 : decode cX4_isNeeded 53 = .ok (.if_icmp .eq 17, 3) := by decide +kernel
theorem dX4_isNeeded_56 : decode cX4_isNeeded 56 = .ok (.aload_n 0, 1) := by decide +kernel
theorem dX4_isNeeded_57 : decode cX4_isNeeded 57 = .ok (.getfield 7, 3) := by decide +kernel
theorem dX4_isNeeded_60 : decode cX4_isNeeded 60 = .ok (.iload_n 1, 1) := by decide +kernel
theorem dX4_isNeeded_61 : decode cX4_isNeeded 61 = .ok (.iload 5, 2) := by decide +kernel
theorem dX4_isNeeded_63 : decode cX4_isNeeded 63 = .ok (.iload_n 3, 1) := by decide +kernel
theorem dX4_isNeeded_64 : decode cX4_isNeeded 64 = .ok (.invokestatic 60, 3) := by decide +kernel
theorem dX4_isNeeded_67 : decode cX4_isNeeded 67 = .ok (.ifCond .ne 7, 3) := by decide +kernel
theorem dX4_isNeeded_70 : decode cX4_isNeeded 70 = .ok (.iconst 1, 1) := by decide +kernel
theorem dX4_isNeeded_71 : decode cX4_isNeeded 71 = .ok (.goto 4, 3) := by decide +kernel
theorem dX4_isNeeded_74 : decode cX4_isNeeded 74 = .ok (.iconst 0, 1) := by decide +kernel
theorem dX4_isNeeded_75 : decode cX4_isNeeded 75 = .ok (.istore 4, 2) := by decide +kernel
theorem dX4_isNeeded_77 : decode cX4_isNeeded 77 = .ok (.iinc 5 1, 3) := by decide +kernel
theorem dX4_isNeeded_80 : decode cX4_isNeeded 80 = .ok (.goto (-49), 3) := by decide +kernel
theorem dX4_isNeeded_83 : decode cX4_isNeeded 83 = .ok (.iload 4, 2) := by decide +kernel
theorem dX4_isNeeded_85 : decode cX4_isNeeded 85 = .ok (.ifCond .eq 5, 3) := by decide +kernel
theorem dX4_isNeeded_88 : decode cX4_isNeeded 88 = .ok (.iconst 1, 1) := by decide +kernel
theorem dX4_isNeeded_89 : decode cX4_isNeeded 89 = .ok (.ireturn, 1) := by decide +kernel
theorem dX4_isNeeded_90 : decode cX4_isNeeded 90 = .ok (.iinc 3 1, 3) := by decide +kernel
theorem dX4_isNeeded_93 : decode cX4_isNeeded 93 = .ok (.goto (-91), 3) := by decide +kernel
theorem dX4_isNeeded_96 : decode cX4_isNeeded 96 = .ok (.iconst 0, 1) := by decide +kernel
theorem dX4_isNeeded_97 : decode cX4_isNeeded 97 = .ok (.ireturn, 1) := by decide +kernel
set_option maxRecDepth 20000 in
theorem ggX4_idles_X4_of : GoodIn wsX4_idles wsX4_of := goodIn_r _ [5] (by decide +kernel) (by decide +kernel)
set_option maxRecDepth 20000 in
theorem gX4_idles_X4_of : GoodIn wsX4_idles (va_wsS RX4 56 yX4_of wsX4_of) := goodIn_app (goodIn_of _ (by decide +kernel)) ggX4_idles_X4_of
set_option maxRecDepth 20000 in
theorem ggX4_idles_X4_isNeeded : GoodIn wsX4_idles wsX4_isNeeded := goodIn_r _ [9, 1, 10, 11, 4, 12, 2, 3, 5, 13, 14, 15, 16, 17, 18, 19, 20, 21, 22, 23, 24, 25, 26, 27, 28, 29, 30, 31, 32, 33, 34, 35, 36, 37, 38, 39, 40] (by decide +kernel) (by decide +kernel)
set_option maxRecDepth 20000 in
theorem gX4_idles_X4_isNeeded : GoodIn wsX4_idles (wsV RX4 273 RX4 yX4_isNeeded wsX4_isNeeded) := goodIn_app (goodIn_of _ (by decide +kernel)) ggX4_idles_X4_isNeeded
theorem dX4_idles_0 : decode cX4_idles 0 = .ok (.iconst 0, 1) := by decide +kernel
theorem dX4_idles_1 : decode cX4_idles 1 = .ok (.istore_n 2, 1) := by decide +kernel
theorem dX4_idles_2 : decode cX4_idles 2 = .ok (.iload_n 2, 1) := by decide +kernel
theorem dX4_idles_3 : decode cX4_idles 3 = .ok (.aload_n 0, 1) := by decide +kernel
theorem dX4_idles_4 : decode cX4_idles 4 = .ok (.getfield 7, 3) := by decide +kernel
theorem dX4_idles_7 : decode cX4_idles 7 = .ok (.iload_n 1, 1) := by decide +kernel
theorem dX4_idles_8 : decode cX4_idles 8 = .ok (.iconst 4, 1) := by decide +kernel
theorem dX4_idles_9 : decode cX4_idles 9 = .ok (.invokestatic 56, 3) := by decide +kernel
theorem dX4_idles_12 : decode cX4_idles 12 = .ok (.if_icmp .ge 20, 3) := by decide +kernel
theorem dX4_idles_15 : decode cX4_idles 15 = .ok (.aload_n 0, 1) := by decide +kernel
theorem dX4_idles_16 : decode cX4_idles 16 = .ok (.iload_n 1, 1) := by decide +kernel
theorem dX4_idles_17 : decode cX4_idles 17 = .ok (.iload_n 2, 1) := by decide +kernel
theorem dX4_idles_18 : decode cX4_idles 18 = .ok (.invokevirtual 273, 3) := by decide +kernel
theorem dX4_idles_21 : decode cX4_idles 21 = .ok (.ifCond .ne 5, 3) := by decide +kernel
theorem dX4_idles_24 : decode cX4_idles 24 = .ok (.iload_n 2, 1) := by decide +kernel
theorem dX4_idles_25 : decode cX4_idles 25 = .ok (.ireturn, 1) := by decide +kernel
theorem dX4_idles_26 : decode cX4_idles 26 = .ok (.iinc 2 1, 3) := by decide +kernel
theorem dX4_idles_29 : decode cX4_idles 29 = .ok (.goto (-27), 3) := by decide +kernel
theorem dX4_idles_32 : decode cX4_idles 32 = .ok (.iconst (-1), 1) := by decide +kernel
theorem dX4_idles_33 : decode cX4_idles 33 = .ok (.ireturn, 1) := by decide +kernel
set_option maxRecDepth 20000 in
theorem ggX4_idle_X4_isRelay : GoodIn wsX4_idle wsX4_isRelay := goodIn_r _ [5, 6, 7, 8, 4, 9, 29, 30, 31, 32, 33, 34, 35, 36, 37, 38, 39, 40, 41, 42, 43, 44, 45, 46, 47, 48, 49, 50, 51, 52, 53, 54, 55, 56] (by decide +kernel) (by decide +kernel)
set_option maxRecDepth 20000 in
theorem gX4_idle_X4_isRelay : GoodIn wsX4_idle (wsV RX4 150 RX4 yX4_isRelay wsX4_isRelay) := goodIn_app (goodIn_of _ (by decide +kernel)) ggX4_idle_X4_isRelay
set_option maxRecDepth 20000 in
theorem ggX4_idle_X4_refuses : GoodIn wsX4_idle wsX4_refuses := goodIn_r _ [13, 14, 29, 30, 31, 32, 33, 34, 35, 36, 37, 38, 39, 40, 41, 42, 43, 44, 45, 46, 47, 48, 49, 50, 51, 52, 53, 54, 55, 56] (by decide +kernel) (by decide +kernel)
set_option maxRecDepth 20000 in
theorem gX4_idle_X4_refuses : GoodIn wsX4_idle (wsV RX4 48 RX4 yX4_refuses wsX4_refuses) := goodIn_app (goodIn_of _ (by decide +kernel)) ggX4_idle_X4_refuses
set_option maxRecDepth 20000 in
theorem ggX4_idle_X4_idles : GoodIn wsX4_idle wsX4_idles := goodIn_r _ [18, 6, 19, 20, 4, 21, 22, 23, 24, 25, 26, 27, 28, 29, 30, 31, 32, 33, 34, 35, 36, 37, 38, 39, 40, 41, 42, 43, 44, 45, 46, 47, 48, 49, 50, 51, 52, 53, 54, 55, 56] (by decide +kernel) (by decide +kernel)
set_option maxRecDepth 20000 in
theorem gX4_idle_X4_idles : GoodIn wsX4_idle (wsV RX4 276 RX4 yX4_idles wsX4_idles) := goodIn_app (goodIn_of _ (by decide +kernel)) ggX4_idle_X4_idles
theorem dX4_idle_0 : decode cX4_idle 0 = .ok (.aload_n 0, 1) := by decide +kernel
theorem dX4_idle_1 : decode cX4_idle 1 = .ok (.aload_n 0, 1) := by decide +kernel
theorem dX4_idle_2 : decode cX4_idle 2 = .ok (.iload_n 1, 1) := by decide +kernel
theorem dX4_idle_3 : decode cX4_idle 3 = .ok (.invokevirtual 150, 3) := by decide +kernel
theorem dX4_idle_6 : decode cX4_idle 6 = .ok (.ifCond .eq 7, 3) := by decide +kernel
theorem dX4_idle_9 : decode cX4_idle 9 = .ok (.iconst 0, 1) := by decide +kernel
theorem dX4_idle_10 : decode cX4_idle 10 = .ok (.goto 4, 3) := by decide +kernel
theorem dX4_idle_13 : decode cX4_idle 13 = .ok (.iconst 1, 1) := by decide +kernel
theorem dX4_idle_14 : decode cX4_idle 14 = .ok (.invokevirtual 48, 3) := by decide +kernel
theorem dX4_idle_17 : decode cX4_idle 17 = .ok (.ifCond .eq 7, 3) := by decide +kernel
theorem dX4_idle_20 : decode cX4_idle 20 = .ok (.iconst 0, 1) := by decide +kernel
theorem dX4_idle_21 : decode cX4_idle 21 = .ok (.goto 8, 3) := by decide +kernel
theorem dX4_idle_24 : decode cX4_idle 24 = .ok (.aload_n 0, 1) := by decide +kernel
theorem dX4_idle_25 : decode cX4_idle 25 = .ok (.iload_n 1, 1) := by decide +kernel
theorem dX4_idle_26 : decode cX4_idle 26 = .ok (.invokevirtual 276, 3) := by decide +kernel
theorem dX4_idle_29 : decode cX4_idle 29 = .ok (.ireturn, 1) := by decide +kernel
set_option maxRecDepth 20000 in
theorem ggX4_share_X4_unquiet : GoodIn wsX4_share wsX4_unquiet := goodIn_r _ [6, 1, 7, 8, 5, 9, 10, 11, 12, 13, 14, 15, 16, 17, 18, 19, 20, 21, 22, 23, 24, 25, 26, 27, 28, 29, 30, 31, 32, 33, 34, 35, 36, 37, 38, 39, 40, 41, 42, 43, 44, 45, 46, 47, 48, 49, 50, 51, 52] (by decide +kernel) (by decide +kernel)
set_option maxRecDepth 20000 in
theorem gX4_share_X4_unquiet : GoodIn wsX4_share (wsV RX4 160 RX4 yX4_unquiet wsX4_unquiet) := goodIn_app (goodIn_of _ (by decide +kernel)) ggX4_share_X4_unquiet
theorem dX4_share_0 : decode cX4_share 0 = .ok (.aload_n 0, 1) := by decide +kernel
theorem dX4_share_1 : decode cX4_share 1 = .ok (.getfield 7, 3) := by decide +kernel
theorem dX4_share_4 : decode cX4_share 4 = .ok (.iconst 0, 1) := by decide +kernel
theorem dX4_share_5 : decode cX4_share 5 = .ok (.iaload, 1) := by decide +kernel
theorem dX4_share_6 : decode cX4_share 6 = .ok (.ifCond .ne 7, 3) := by decide +kernel
theorem dX4_share_9 : decode cX4_share 9 = .ok (.dconst 1, 1) := by decide +kernel
theorem dX4_share_10 : decode cX4_share 10 = .ok (.goto 23, 3) := by decide +kernel
theorem dX4_share_13 : decode cX4_share 13 = .ok (.aload_n 0, 1) := by decide +kernel
theorem dX4_share_14 : decode cX4_share 14 = .ok (.getfield 7, 3) := by decide +kernel
theorem dX4_share_17 : decode cX4_share 17 = .ok (.iconst 0, 1) := by decide +kernel
theorem dX4_share_18 : decode cX4_share 18 = .ok (.iaload, 1) := by decide +kernel
theorem dX4_share_19 : decode cX4_share 19 = .ok (.aload_n 0, 1) := by decide +kernel
theorem dX4_share_20 : decode cX4_share 20 = .ok (.invokevirtual 160, 3) := by decide +kernel
theorem dX4_share_23 : decode cX4_share 23 = .ok (.isub, 1) := by decide +kernel
theorem dX4_share_24 : decode cX4_share 24 = .ok (.i2d, 1) := by decide +kernel
theorem dX4_share_25 : decode cX4_share 25 = .ok (.aload_n 0, 1) := by decide +kernel
theorem dX4_share_26 : decode cX4_share 26 = .ok (.getfield 7, 3) := by decide +kernel
theorem dX4_share_29 : decode cX4_share 29 = .ok (.iconst 0, 1) := by decide +kernel
theorem dX4_share_30 : decode cX4_share 30 = .ok (.iaload, 1) := by decide +kernel
theorem dX4_share_31 : decode cX4_share 31 = .ok (.i2d, 1) := by decide +kernel
theorem dX4_share_32 : decode cX4_share 32 = .ok (.ddiv, 1) := by decide +kernel
theorem dX4_share_33 : decode cX4_share 33 = .ok (.dreturn, 1) := by decide +kernel
set_option maxRecDepth 20000 in
theorem ggX4_quietShare_X4_share : GoodIn wsX4_quietShare wsX4_share := goodIn_r _ [6, 7, 8, 9, 10, 5, 11, 12, 13, 14, 15, 16, 17, 18, 19, 20, 21, 22, 23, 24, 25, 26, 27, 28, 29, 30, 31, 32, 33, 34, 35, 36, 37, 38, 39, 40, 41, 42, 43, 44, 45, 46, 47, 48, 49, 50, 51, 52, 53, 54, 55, 56, 57] (by decide +kernel) (by decide +kernel)
set_option maxRecDepth 20000 in
theorem gX4_quietShare_X4_share : GoodIn wsX4_quietShare (wsV RX4 279 RX4 yX4_share wsX4_share) := goodIn_app (goodIn_of _ (by decide +kernel)) ggX4_quietShare_X4_share
theorem dX4_quietShare_0 : decode cX4_quietShare 0 = .ok (.aload_n 0, 1) := by decide +kernel
theorem dX4_quietShare_1 : decode cX4_quietShare 1 = .ok (.iconst 0, 1) := by decide +kernel
theorem dX4_quietShare_2 : decode cX4_quietShare 2 = .ok (.putfield 41, 3) := by decide +kernel
theorem dX4_quietShare_5 : decode cX4_quietShare 5 = .ok (.aload_n 0, 1) := by decide +kernel
theorem dX4_quietShare_6 : decode cX4_quietShare 6 = .ok (.invokevirtual 279, 3) := by decide +kernel
theorem dX4_quietShare_9 : decode cX4_quietShare 9 = .ok (.dreturn, 1) := by decide +kernel
theorem dX4_mixes_0 : decode cX4_mixes 0 = .ok (.aload_n 0, 1) := by decide +kernel
theorem dX4_mixes_1 : decode cX4_mixes 1 = .ok (.ldc2_w 283, 3) := by decide +kernel
theorem dX4_mixes_4 : decode cX4_mixes 4 = .ok (.aload_n 0, 1) := by decide +kernel
theorem dX4_mixes_5 : decode cX4_mixes 5 = .ok (.getfield 285, 3) := by decide +kernel
theorem dX4_mixes_8 : decode cX4_mixes 8 = .ok (.lmul, 1) := by decide +kernel
theorem dX4_mixes_9 : decode cX4_mixes 9 = .ok (.lload_n 1, 1) := by decide +kernel
theorem dX4_mixes_10 : decode cX4_mixes 10 = .ok (.ladd, 1) := by decide +kernel
theorem dX4_mixes_11 : decode cX4_mixes 11 = .ok (.putfield 285, 3) := by decide +kernel
theorem dX4_mixes_14 : decode cX4_mixes 14 = .ok (.return_, 1) := by decide +kernel
set_option maxRecDepth 20000 in
theorem ggX4_mixesRelays_X4_ofRelay : GoodIn wsX4_mixesRelays wsX4_ofRelay := goodIn_r _ [6, 1, 7, 8, 5, 9, 10, 11, 12, 13, 14, 15, 16, 17, 18, 19, 20, 21, 22, 23, 24, 25, 26, 27, 28, 29, 30, 31, 32, 33, 55, 56, 57, 58, 59, 60, 61, 62, 63, 64, 65, 66, 67, 68, 69, 70, 71, 72, 73, 74, 75, 76, 77, 78, 79, 80, 81, 82] (by decide +kernel) (by decide +kernel)
set_option maxRecDepth 20000 in
theorem gX4_mixesRelays_X4_ofRelay : GoodIn wsX4_mixesRelays (wsV RX4 224 RX4 yX4_ofRelay wsX4_ofRelay) := goodIn_app (goodIn_of _ (by decide +kernel)) ggX4_mixesRelays_X4_ofRelay
set_option maxRecDepth 20000 in
theorem ggX4_mixesRelays_X4_mixes : GoodIn wsX4_mixesRelays wsX4_mixes := goodIn_r _ [37, 38, 39, 55, 56, 57, 58, 59, 60, 61, 62, 63, 64, 65, 66, 67, 68, 69, 70, 71, 72, 73, 74, 75, 76, 77, 78, 79, 80, 81, 82] (by decide +kernel) (by decide +kernel)
set_option maxRecDepth 20000 in
theorem gX4_mixesRelays_X4_mixes : GoodIn wsX4_mixesRelays (wsV RX4 289 RX4 yX4_mixes wsX4_mixes) := goodIn_app (goodIn_of _ (by decide +kernel)) ggX4_mixesRelays_X4_mixes
set_option maxRecDepth 20000 in
theorem ggX4_mixesRelays_X4_of : GoodIn wsX4_mixesRelays wsX4_of := goodIn_r _ [9] (by decide +kernel) (by decide +kernel)
set_option maxRecDepth 20000 in
theorem gX4_mixesRelays_X4_of : GoodIn wsX4_mixesRelays (va_wsS RX4 56 yX4_of wsX4_of) := goodIn_app (goodIn_of _ (by decide +kernel)) ggX4_mixesRelays_X4_of
set_option maxRecDepth 20000 in
theorem ggX4_mixesRelays_X4_ofBranch : GoodIn wsX4_mixesRelays wsX4_ofBranch := goodIn_r _ [43, 1, 7, 8, 5, 9, 14, 15, 16, 17, 18, 19, 44, 45, 46, 55, 56, 57, 58, 59, 60, 61, 62, 63, 64, 65, 66, 67, 68, 69, 70, 71, 72, 73, 74, 75, 76, 77, 78, 79, 80, 81, 82] (by decide +kernel) (by decide +kernel)
set_option maxRecDepth 20000 in
theorem gX4_mixesRelays_X4_ofBranch : GoodIn wsX4_mixesRelays (wsV RX4 227 RX4 yX4_ofBranch wsX4_ofBranch) := goodIn_app (goodIn_of _ (by decide +kernel)) ggX4_mixesRelays_X4_ofBranch
set_option maxRecDepth 20000 in
theorem ggX4_mixesRelays_X4_idles : GoodIn wsX4_mixesRelays wsX4_idles := goodIn_r _ [50, 1, 7, 8, 5, 9, 51, 52, 53, 54, 23, 24, 25, 55, 56, 57, 58, 59, 60, 61, 62, 63, 64, 65, 66, 67, 68, 69, 70, 71, 72, 73, 74, 75, 76, 77, 78, 79, 80, 81, 82] (by decide +kernel) (by decide +kernel)
set_option maxRecDepth 20000 in
theorem gX4_mixesRelays_X4_idles : GoodIn wsX4_mixesRelays (wsV RX4 276 RX4 yX4_idles wsX4_idles) := goodIn_app (goodIn_of _ (by decide +kernel)) ggX4_mixesRelays_X4_idles
theorem dX4_mixesRelays_0 : decode cX4_mixesRelays 0 = .ok (.iconst 0, 1) := by decide +kernel
theorem dX4_mixesRelays_1 : decode cX4_mixesRelays 1 = .ok (.istore_n 1, 1) := by decide +kernel
theorem dX4_mixesRelays_2 : decode cX4_mixesRelays 2 = .ok (.iload_n 1, 1) := by decide +kernel
theorem dX4_mixesRelays_3 : decode cX4_mixesRelays 3 = .ok (.aload_n 0, 1) := by decide +kernel
theorem dX4_mixesRelays_4 : decode cX4_mixesRelays 4 = .ok (.getfield 7, 3) := by decide +kernel
theorem dX4_mixesRelays_7 : decode cX4_mixesRelays 7 = .ok (.iconst 0, 1) := by decide +kernel
theorem dX4_mixesRelays_8 : decode cX4_mixesRelays 8 = .ok (.iaload, 1) := by decide +kernel
theorem dX4_mixesRelays_9 : decode cX4_mixesRelays 9 = .ok (.if_icmp .ge 83, 3) := by decide +kernel
theorem dX4_mixesRelays_12 : decode cX4_mixesRelays 12 = .ok (.iconst 0, 1) := by decide +kernel
theorem dX4_mixesRelays_13 : decode cX4_mixesRelays 13 = .ok (.istore_n 2, 1) := by decide +kernel
theorem dX4_mixesRelays_14 : decode cX4_mixesRelays 14 = .ok (.iload_n 2, 1) := by decide +kernel
theorem dX4_mixesRelays_15 : decode cX4_mixesRelays 15 = .ok (.bipush 9, 2) := by decide +kernel
theorem dX4_mixesRelays_17 : decode cX4_mixesRelays 17 = .ok (.if_icmp .ge 20, 3) := by decide +kernel
theorem dX4_mixesRelays_20 : decode cX4_mixesRelays 20 = .ok (.aload_n 0, 1) := by decide +kernel
theorem dX4_mixesRelays_21 : decode cX4_mixesRelays 21 = .ok (.aload_n 0, 1) := by decide +kernel
theorem dX4_mixesRelays_22 : decode cX4_mixesRelays 22 = .ok (.iload_n 1, 1) := by decide +kernel
theorem dX4_mixesRelays_23 : decode cX4_mixesRelays 23 = .ok (.iload_n 2, 1) := by decide +kernel
theorem dX4_mixesRelays_24 : decode cX4_mixesRelays 24 = .ok (.invokevirtual 224, 3) := by decide +kernel
theorem dX4_mixesRelays_27 : decode cX4_mixesRelays 27 = .ok (.i2l, 1) := by decide +kernel
theorem dX4_mixesRelays_28 : decode cX4_mixesRelays 28 = .ok (.invokevirtual 289, 3) := by decide +kernel
theorem dX4_mixesRelays_31 : decode cX4_mixesRelays 31 = .ok (.iinc 2 1, 3) := by decide +kernel
theorem dX4_mixesRelays_34 : decode cX4_mixesRelays 34 = .ok (.goto (-20), 3) := by decide +kernel
theorem dX4_mixesRelays_37 : decode cX4_mixesRelays 37 = .ok (.iconst 0, 1) := by decide +kernel
theorem dX4_mixesRelays_38 : decode cX4_mixesRelays 38 = .ok (.istore_n 2, 1) := by decide +kernel
theorem dX4_mixesRelays_39 : decode cX4_mixesRelays 39 = .ok (.iload_n 2, 1) := by decide +kernel
theorem dX4_mixesRelays_40 : decode cX4_mixesRelays 40 = .ok (.iconst 4, 1) := by decide +kernel
theorem dX4_mixesRelays_41 : decode cX4_mixesRelays 41 = .ok (.aload_n 0, 1) := by decide +kernel
theorem dX4_mixesRelays_42 : decode cX4_mixesRelays 42 = .ok (.getfield 7, 3) := by decide +kernel
theorem dX4_mixesRelays_45 : decode cX4_mixesRelays 45 = .ok (.iload_n 1, 1) := by decide +kernel
theorem dX4_mixesRelays_46 : decode cX4_mixesRelays 46 = .ok (.iconst 4, 1) := by decide +kernel
theorem dX4_mixesRelays_47 : decode cX4_mixesRelays 47 = .ok (.invokestatic 56, 3) := by decide +kernel
theorem dX4_mixesRelays_50 : decode cX4_mixesRelays 50 = .ok (.imul, 1) := by decide +kernel
theorem dX4_mixesRelays_51 : decode cX4_mixesRelays 51 = .ok (.if_icmp .ge 25, 3) := by decide +kernel
theorem dX4_mixesRelays_54 : decode cX4_mixesRelays 54 = .ok (.aload_n 0, 1) := by decide +kernel
theorem dX4_mixesRelays_55 : decode cX4_mixesRelays 55 = .ok (.aload_n 0, 1) := by decide +kernel
theorem dX4_mixesRelays_56 : decode cX4_mixesRelays 56 = .ok (.iload_n 1, 1) := by decide +kernel
theorem dX4_mixesRelays_57 : decode cX4_mixesRelays 57 = .ok (.iload_n 2, 1) := by decide +kernel
theorem dX4_mixesRelays_58 : decode cX4_mixesRelays 58 = .ok (.iconst 4, 1) := by decide +kernel
theorem dX4_mixesRelays_59 : decode cX4_mixesRelays 59 = .ok (.idiv, 1) := by decide +kernel
theorem dX4_mixesRelays_60 : decode cX4_mixesRelays 60 = .ok (.iload_n 2, 1) := by decide +kernel
theorem dX4_mixesRelays_61 : decode cX4_mixesRelays 61 = .ok (.iconst 4, 1) := by decide +kernel
theorem dX4_mixesRelays_62 : decode cX4_mixesRelays 62 = .ok (.irem, 1) := by decide +kernel
theorem dX4_mixesRelays_63 : decode cX4_mixesRelays 63 = .ok (.invokevirtual 227, 3) := by decide +kernel
theorem dX4_mixesRelays_66 : decode cX4_mixesRelays 66 = .ok (.i2l, 1) := by decide +kernel
theorem dX4_mixesRelays_67 : decode cX4_mixesRelays 67 = .ok (.invokevirtual 289, 3) := by decide +kernel
theorem dX4_mixesRelays_70 : decode cX4_mixesRelays 70 = .ok (.iinc 2 1, 3) := by decide +kernel
theorem dX4_mixesRelays_73 : decode cX4_mixesRelays 73 = .ok (.goto (-34), 3) := by decide +kernel
theorem dX4_mixesRelays_76 : decode cX4_mixesRelays 76 = .ok (.aload_n 0, 1) := by decide +kernel
theorem dX4_mixesRelays_77 : decode cX4_mixesRelays 77 = .ok (.aload_n 0, 1) := by decide +kernel
theorem dX4_mixesRelays_78 : decode cX4_mixesRelays 78 = .ok (.iload_n 1, 1) := by decide +kernel
theorem dX4_mixesRelays_79 : decode cX4_mixesRelays 79 = .ok (.invokevirtual 276, 3) := by decide +kernel
theorem dX4_mixesRelays_82 : decode cX4_mixesRelays 82 = .ok (.i2l, 1) := by decide +kernel
theorem dX4_mixesRelays_83 : decode cX4_mixesRelays 83 = .ok (.invokevirtual 289, 3) := by decide +kernel
theorem dX4_mixesRelays_86 : decode cX4_mixesRelays 86 = .ok (.iinc 1 1, 3) := by decide +kernel
theorem dX4_mixesRelays_89 : decode cX4_mixesRelays 89 = .ok (.goto (-87), 3) := by decide +kernel
theorem dX4_mixesRelays_92 : decode cX4_mixesRelays 92 = .ok (.return_, 1) := by decide +kernel
set_option maxRecDepth 20000 in
theorem ggX4_mixesWays_X4_leadsTo : GoodIn wsX4_mixesWays wsX4_leadsTo := goodIn_r _ [10, 11, 12, 13, 14, 15, 9, 16, 1, 17, 18, 19, 20, 21, 22, 23, 24, 25, 26, 27, 28, 29, 30, 31, 32, 33, 34, 35, 36, 37, 38, 39, 40, 41, 42, 43, 44, 45, 46, 47, 48, 49, 50, 51, 115, 116, 117, 118, 119, 120, 121, 122, 123, 124, 125, 126, 127, 128, 129, 130, 131, 132, 133, 134, 135, 136, 137, 138, 139, 140, 141, 142] (by decide +kernel) (by decide +kernel)
set_option maxRecDepth 20000 in
theorem gX4_mixesWays_X4_leadsTo : GoodIn wsX4_mixesWays (wsV RX4 240 RX4 yX4_leadsTo wsX4_leadsTo) := goodIn_app (goodIn_of _ (by decide +kernel)) ggX4_mixesWays_X4_leadsTo
set_option maxRecDepth 20000 in
theorem ggX4_mixesWays_X4_mixes : GoodIn wsX4_mixesWays wsX4_mixes := goodIn_r _ [55, 56, 57, 115, 116, 117, 118, 119, 120, 121, 122, 123, 124, 125, 126, 127, 128, 129, 130, 131, 132, 133, 134, 135, 136, 137, 138, 139, 140, 141, 142] (by decide +kernel) (by decide +kernel)
set_option maxRecDepth 20000 in
theorem gX4_mixesWays_X4_mixes : GoodIn wsX4_mixesWays (wsV RX4 289 RX4 yX4_mixes wsX4_mixes) := goodIn_app (goodIn_of _ (by decide +kernel)) ggX4_mixesWays_X4_mixes
set_option maxRecDepth 20000 in
theorem ggX4_mixesWays_X4_races : GoodIn wsX4_mixesWays wsX4_races := goodIn_r _ [61, 62, 63, 64, 65, 22, 23, 9, 24, 25, 26, 27, 66, 67, 68, 69, 70, 71, 72, 73, 74, 75, 76, 21, 44, 28, 29, 30, 31, 32, 33, 34, 35, 36, 37, 38, 39, 40, 41, 42, 43, 45, 46, 47, 48, 49, 50, 51, 77, 78, 79, 80, 81, 82, 83, 84, 85, 86, 87, 88, 89, 90, 91, 92, 93, 94, 95, 115, 116, 117, 118, 119, 120, 121, 122, 123, 124, 125, 126, 127, 128, 129, 130, 131, 132, 133, 134, 135, 136, 137, 138, 139, 140, 141, 142] (by decide +kernel) (by decide +kernel)
set_option maxRecDepth 20000 in
theorem gX4_mixesWays_X4_races : GoodIn wsX4_mixesWays (wsV RX4 243 RX4 yX4_races wsX4_races) := goodIn_app (goodIn_of _ (by decide +kernel)) ggX4_mixesWays_X4_races
set_option maxRecDepth 20000 in
theorem ggX4_mixesWays_X4_raced : GoodIn wsX4_mixesWays wsX4_raced := goodIn_r _ [99, 64, 89, 90, 91, 65, 63, 115, 116, 117, 118, 119, 120, 121, 122, 123, 124, 125, 126, 127, 128, 129, 130, 131, 132, 133, 134, 135, 136, 137, 138, 139, 140, 141, 142] (by decide +kernel) (by decide +kernel)
set_option maxRecDepth 20000 in
theorem gX4_mixesWays_X4_raced : GoodIn wsX4_mixesWays (wsV RX4 246 RX4 yX4_raced wsX4_raced) := goodIn_app (goodIn_of _ (by decide +kernel)) ggX4_mixesWays_X4_raced
set_option maxRecDepth 20000 in
theorem ggX4_mixesWays_X4_findsCure : GoodIn wsX4_mixesWays wsX4_findsCure := goodIn_r _ [103, 1, 64, 2, 4, 5, 11, 58, 59, 60, 9, 61, 62, 63, 65, 22, 23, 24, 25, 26, 27, 66, 67, 68, 69, 70, 71, 72, 73, 74, 75, 76, 21, 44, 28, 29, 30, 31, 32, 33, 34, 35, 36, 37, 38, 39, 40, 41, 42, 43, 45, 46, 47, 48, 49, 50, 51, 77, 78, 79, 80, 81, 82, 83, 84, 85, 86, 87, 88, 89, 90, 91, 92, 93, 94, 95, 104, 105, 106, 107, 13, 14, 15, 16, 108, 109, 110, 115, 116, 117, 118, 119, 120, 121, 122, 123, 124, 125, 126, 127, 128, 129, 130, 131, 132, 133, 134, 135, 136, 137, 138, 139, 140, 141, 142] (by decide +kernel) (by decide +kernel)
set_option maxRecDepth 20000 in
theorem gX4_mixesWays_X4_findsCure : GoodIn wsX4_mixesWays (wsV RX4 264 RX4 yX4_findsCure wsX4_findsCure) := goodIn_app (goodIn_of _ (by decide +kernel)) ggX4_mixesWays_X4_findsCure
set_option maxRecDepth 20000 in
theorem ggX4_mixesWays_X4_holds : GoodIn wsX4_mixesWays wsX4_holds := goodIn_r _ [114, 1, 6, 7, 8, 9, 10, 11, 12, 13, 14, 15, 16, 17, 18, 19, 20, 21, 22, 23, 24, 25, 26, 27, 28, 29, 30, 31, 32, 33, 34, 35, 36, 37, 38, 39, 40, 41, 42, 43, 44, 45, 46, 47, 48, 49, 50, 51, 115, 116, 117, 118, 119, 120, 121, 122, 123, 124, 125, 126, 127, 128, 129, 130, 131, 132, 133, 134, 135, 136, 137, 138, 139, 140, 141, 142] (by decide +kernel) (by decide +kernel)
set_option maxRecDepth 20000 in
theorem gX4_mixesWays_X4_holds : GoodIn wsX4_mixesWays (wsV RX4 270 RX4 yX4_holds wsX4_holds) := goodIn_app (goodIn_of _ (by decide +kernel)) ggX4_mixesWays_X4_holds
theorem dX4_mixesWays_0 : decode cX4_mixesWays 0 = .ok (.iconst 0, 1) := by decide +kernel
theorem dX4_mixesWays_1 : decode cX4_mixesWays 1 = .ok (.istore_n 1, 1) := by decide +kernel
theorem dX4_mixesWays_2 : decode cX4_mixesWays 2 = .ok (.iload_n 1, 1) := by decide +kernel
theorem dX4_mixesWays_3 : decode cX4_mixesWays 3 = .ok (.bipush 8, 2) := by decide +kernel
theorem dX4_mixesWays_5 : decode cX4_mixesWays 5 = .ok (.if_icmp .ge 45, 3) := by decide +kernel
theorem dX4_mixesWays_8 : decode cX4_mixesWays 8 = .ok (.aload_n 0, 1) := by decide +kernel
theorem dX4_mixesWays_9 : decode cX4_mixesWays 9 = .ok (.aload_n 0, 1) := by decide +kernel
theorem dX4_mixesWays_10 : decode cX4_mixesWays 10 = .ok (.iload_n 1, 1) := by decide +kernel
theorem dX4_mixesWays_11 : decode cX4_mixesWays 11 = .ok (.iconst 4, 1) := by decide +kernel
theorem dX4_mixesWays_12 : decode cX4_mixesWays 12 = .ok (.if_icmp .ge 9, 3) := by decide +kernel
theorem dX4_mixesWays_15 : decode cX4_mixesWays 15 = .ok (.iload_n 1, 1) := by decide +kernel
theorem dX4_mixesWays_16 : decode cX4_mixesWays 16 = .ok (.iconst 2, 1) := by decide +kernel
theorem dX4_mixesWays_17 : decode cX4_mixesWays 17 = .ok (.idiv, 1) := by decide +kernel
theorem dX4_mixesWays_18 : decode cX4_mixesWays 18 = .ok (.goto 16, 3) := by decide +kernel
theorem dX4_mixesWays_21 : decode cX4_mixesWays 21 = .ok (.iload_n 1, 1) := by decide +kernel
theorem dX4_mixesWays_22 : decode cX4_mixesWays 22 = .ok (.bipush 6, 2) := by decide +kernel
theorem dX4_mixesWays_24 : decode cX4_mixesWays 24 = .ok (.if_icmp .ge 8, 3) := by decide +kernel
theorem dX4_mixesWays_27 : decode cX4_mixesWays 27 = .ok (.bipush 6, 2) := by decide +kernel
theorem dX4_mixesWays_29 : decode cX4_mixesWays 29 = .ok (.goto 5, 3) := by decide +kernel
theorem dX4_mixesWays_32 : decode cX4_mixesWays 32 = .ok (.bipush 15, 2) := by decide +kernel
theorem dX4_mixesWays_34 : decode cX4_mixesWays 34 = .ok (.iload_n 1, 1) := by decide +kernel
theorem dX4_mixesWays_35 : decode cX4_mixesWays 35 = .ok (.iconst 2, 1) := by decide +kernel
theorem dX4_mixesWays_36 : decode cX4_mixesWays 36 = .ok (.irem, 1) := by decide +kernel
theorem dX4_mixesWays_37 : decode cX4_mixesWays 37 = .ok (.invokevirtual 240, 3) := by decide +kernel
theorem dX4_mixesWays_40 : decode cX4_mixesWays 40 = .ok (.i2l, 1) := by decide +kernel
theorem dX4_mixesWays_41 : decode cX4_mixesWays 41 = .ok (.invokevirtual 289, 3) := by decide +kernel
theorem dX4_mixesWays_44 : decode cX4_mixesWays 44 = .ok (.iinc 1 1, 3) := by decide +kernel
theorem dX4_mixesWays_47 : decode cX4_mixesWays 47 = .ok (.goto (-45), 3) := by decide +kernel
theorem dX4_mixesWays_50 : decode cX4_mixesWays 50 = .ok (.aload_n 0, 1) := by decide +kernel
theorem dX4_mixesWays_51 : decode cX4_mixesWays 51 = .ok (.aload_n 0, 1) := by decide +kernel
theorem dX4_mixesWays_52 : decode cX4_mixesWays 52 = .ok (.getfield 7, 3) := by decide +kernel
theorem dX4_mixesWays_55 : decode cX4_mixesWays 55 = .ok (.invokevirtual 243, 3) := by decide +kernel
theorem dX4_mixesWays_58 : decode cX4_mixesWays 58 = .ok (.iconst 0, 1) := by decide +kernel
theorem dX4_mixesWays_59 : decode cX4_mixesWays 59 = .ok (.istore_n 1, 1) := by decide +kernel
theorem dX4_mixesWays_60 : decode cX4_mixesWays 60 = .ok (.iload_n 1, 1) := by decide +kernel
theorem dX4_mixesWays_61 : decode cX4_mixesWays 61 = .ok (.iconst 5, 1) := by decide +kernel
theorem dX4_mixesWays_62 : decode cX4_mixesWays 62 = .ok (.if_icmp .ge 19, 3) := by decide +kernel
theorem dX4_mixesWays_65 : decode cX4_mixesWays 65 = .ok (.aload_n 0, 1) := by decide +kernel
theorem dX4_mixesWays_66 : decode cX4_mixesWays 66 = .ok (.aload_n 0, 1) := by decide +kernel
theorem dX4_mixesWays_67 : decode cX4_mixesWays 67 = .ok (.iload_n 1, 1) := by decide +kernel
theorem dX4_mixesWays_68 : decode cX4_mixesWays 68 = .ok (.invokevirtual 246, 3) := by decide +kernel
theorem dX4_mixesWays_71 : decode cX4_mixesWays 71 = .ok (.i2l, 1) := by decide +kernel
theorem dX4_mixesWays_72 : decode cX4_mixesWays 72 = .ok (.invokevirtual 289, 3) := by decide +kernel
theorem dX4_mixesWays_75 : decode cX4_mixesWays 75 = .ok (.iinc 1 1, 3) := by decide +kernel
theorem dX4_mixesWays_78 : decode cX4_mixesWays 78 = .ok (.goto (-18), 3) := by decide +kernel
theorem dX4_mixesWays_81 : decode cX4_mixesWays 81 = .ok (.aload_n 0, 1) := by decide +kernel
theorem dX4_mixesWays_82 : decode cX4_mixesWays 82 = .ok (.invokevirtual 264, 3) := by decide +kernel
theorem dX4_mixesWays_85 : decode cX4_mixesWays 85 = .ok (.istore_n 1, 1) := by decide +kernel
theorem dX4_mixesWays_86 : decode cX4_mixesWays 86 = .ok (.aload_n 0, 1) := by decide +kernel
theorem dX4_mixesWays_87 : decode cX4_mixesWays 87 = .ok (.iload_n 1, 1) := by decide +kernel
theorem dX4_mixesWays_88 : decode cX4_mixesWays 88 = .ok (.ifCond .eq 11, 3) := by decide +kernel
theorem dX4_mixesWays_91 : decode cX4_mixesWays 91 = .ok (.aload_n 0, 1) := by decide +kernel
theorem dX4_mixesWays_92 : decode cX4_mixesWays 92 = .ok (.getfield 255, 3) := by decide +kernel
theorem dX4_mixesWays_95 : decode cX4_mixesWays 95 = .ok (.i2l, 1) := by decide +kernel
theorem dX4_mixesWays_96 : decode cX4_mixesWays 96 = .ok (.goto 6, 3) := by decide +kernel
theorem dX4_mixesWays_99 : decode cX4_mixesWays 99 = .ok (.ldc2_w 293, 3) := by decide +kernel
theorem dX4_mixesWays_102 : decode cX4_mixesWays 102 = .ok (.invokevirtual 289, 3) := by decide +kernel
theorem dX4_mixesWays_105 : decode cX4_mixesWays 105 = .ok (.aload_n 0, 1) := by decide +kernel
theorem dX4_mixesWays_106 : decode cX4_mixesWays 106 = .ok (.iload_n 1, 1) := by decide +kernel
theorem dX4_mixesWays_107 : decode cX4_mixesWays 107 = .ok (.ifCond .eq 11, 3) := by decide +kernel
theorem dX4_mixesWays_110 : decode cX4_mixesWays 110 = .ok (.aload_n 0, 1) := by decide +kernel
theorem dX4_mixesWays_111 : decode cX4_mixesWays 111 = .ok (.getfield 258, 3) := by decide +kernel
theorem dX4_mixesWays_114 : decode cX4_mixesWays 114 = .ok (.i2l, 1) := by decide +kernel
theorem dX4_mixesWays_115 : decode cX4_mixesWays 115 = .ok (.goto 6, 3) := by decide +kernel
theorem dX4_mixesWays_118 : decode cX4_mixesWays 118 = .ok (.ldc2_w 293, 3) := by decide +kernel
theorem dX4_mixesWays_121 : decode cX4_mixesWays 121 = .ok (.invokevirtual 289, 3) := by decide +kernel
theorem dX4_mixesWays_124 : decode cX4_mixesWays 124 = .ok (.aload_n 0, 1) := by decide +kernel
theorem dX4_mixesWays_125 : decode cX4_mixesWays 125 = .ok (.iload_n 1, 1) := by decide +kernel
theorem dX4_mixesWays_126 : decode cX4_mixesWays 126 = .ok (.ifCond .eq 11, 3) := by decide +kernel
theorem dX4_mixesWays_129 : decode cX4_mixesWays 129 = .ok (.aload_n 0, 1) := by decide +kernel
theorem dX4_mixesWays_130 : decode cX4_mixesWays 130 = .ok (.getfield 261, 3) := by decide +kernel
theorem dX4_mixesWays_133 : decode cX4_mixesWays 133 = .ok (.i2l, 1) := by decide +kernel
theorem dX4_mixesWays_134 : decode cX4_mixesWays 134 = .ok (.goto 6, 3) := by decide +kernel
theorem dX4_mixesWays_137 : decode cX4_mixesWays 137 = .ok (.ldc2_w 293, 3) := by decide +kernel
theorem dX4_mixesWays_140 : decode cX4_mixesWays 140 = .ok (.invokevirtual 289, 3) := by decide +kernel
theorem dX4_mixesWays_143 : decode cX4_mixesWays 143 = .ok (.aload_n 0, 1) := by decide +kernel
theorem dX4_mixesWays_144 : decode cX4_mixesWays 144 = .ok (.aload_n 0, 1) := by decide +kernel
theorem dX4_mixesWays_145 : decode cX4_mixesWays 145 = .ok (.invokevirtual 270, 3) := by decide +kernel
theorem dX4_mixesWays_148 : decode cX4_mixesWays 148 = .ok (.i2l, 1) := by decide +kernel
theorem dX4_mixesWays_149 : decode cX4_mixesWays 149 = .ok (.invokevirtual 289, 3) := by decide +kernel
theorem dX4_mixesWays_152 : decode cX4_mixesWays 152 = .ok (.return_, 1) := by decide +kernel
set_option maxRecDepth 20000 in
theorem ggX4_digest_X4_counts : GoodIn wsX4_digest wsX4_counts := goodIn_r _ [10, 11, 12, 13, 14, 9, 15, 16, 17, 18, 19, 20, 21, 22, 23, 24, 25, 26, 27, 28, 29, 30, 31, 32, 33, 34, 35, 36, 37, 38, 184, 185, 186, 187, 188, 189, 190, 191, 192, 193, 194, 195, 196, 197, 198, 199, 200, 201, 202, 203, 204, 205, 206, 207, 208, 209, 210, 211] (by decide +kernel) (by decide +kernel)
set_option maxRecDepth 20000 in
theorem gX4_digest_X4_counts : GoodIn wsX4_digest (wsV RX4 234 RX4 yX4_counts wsX4_counts) := goodIn_app (goodIn_of _ (by decide +kernel)) ggX4_digest_X4_counts
set_option maxRecDepth 20000 in
theorem ggX4_digest_X4_mixes : GoodIn wsX4_digest wsX4_mixes := goodIn_r _ [42, 43, 3, 184, 185, 186, 187, 188, 189, 190, 191, 192, 193, 194, 195, 196, 197, 198, 199, 200, 201, 202, 203, 204, 205, 206, 207, 208, 209, 210, 211] (by decide +kernel) (by decide +kernel)
set_option maxRecDepth 20000 in
theorem gX4_digest_X4_mixes : GoodIn wsX4_digest (wsV RX4 289 RX4 yX4_mixes wsX4_mixes) := goodIn_app (goodIn_of _ (by decide +kernel)) ggX4_digest_X4_mixes
set_option maxRecDepth 20000 in
theorem ggX4_digest_X4_mixesRelays : GoodIn wsX4_digest wsX4_mixesRelays := goodIn_r _ [47, 11, 48, 49, 50, 9, 51, 16, 17, 18, 52, 53, 54, 55, 13, 14, 15, 19, 20, 21, 22, 23, 24, 25, 26, 27, 56, 57, 58, 59, 60, 61, 62, 63, 39, 40, 41, 42, 43, 3, 64, 65, 66, 67, 32, 33, 34, 68, 69, 70, 71, 72, 73, 74, 75, 184, 185, 186, 187, 188, 189, 190, 191, 192, 193, 194, 195, 196, 197, 198, 199, 200, 201, 202, 203, 204, 205, 206, 207, 208, 209, 210, 211] (by decide +kernel) (by decide +kernel)
set_option maxRecDepth 20000 in
theorem gX4_digest_X4_mixesRelays : GoodIn wsX4_digest (wsV RX4 297 RX4 yX4_mixesRelays wsX4_mixesRelays) := goodIn_app (goodIn_of _ (by decide +kernel)) ggX4_digest_X4_mixesRelays
set_option maxRecDepth 20000 in
theorem ggX4_digest_X4_mixesWays : GoodIn wsX4_digest wsX4_mixesWays := goodIn_r _ [79, 11, 80, 81, 82, 83, 84, 85, 86, 9, 87, 88, 89, 90, 91, 92, 93, 94, 95, 96, 97, 98, 13, 14, 15, 16, 17, 18, 99, 100, 101, 19, 20, 21, 22, 23, 24, 25, 26, 27, 102, 103, 104, 105, 106, 107, 108, 109, 110, 111, 112, 113, 39, 40, 41, 42, 43, 3, 114, 115, 116, 117, 118, 119, 120, 121, 122, 123, 124, 125, 126, 127, 128, 129, 130, 131, 132, 133, 134, 135, 136, 137, 32, 33, 34, 138, 139, 140, 141, 142, 143, 144, 145, 146, 147, 148, 149, 150, 151, 152, 153, 154, 155, 156, 157, 158, 159, 160, 161, 162, 163, 164, 165, 166, 167, 184, 185, 186, 187, 188, 189, 190, 191, 192, 193, 194, 195, 196, 197, 198, 199, 200, 201, 202, 203, 204, 205, 206, 207, 208, 209, 210, 211] (by decide +kernel) (by decide +kernel)
set_option maxRecDepth 20000 in
theorem gX4_digest_X4_mixesWays : GoodIn wsX4_digest (wsV RX4 300 RX4 yX4_mixesWays wsX4_mixesWays) := goodIn_app (goodIn_of _ (by decide +kernel)) ggX4_digest_X4_mixesWays
set_option maxRecDepth 20000 in
theorem ggX4_digest_X4_share : GoodIn wsX4_digest wsX4_share := goodIn_r _ [171, 11, 28, 29, 30, 9, 31, 13, 14, 15, 16, 17, 18, 19, 20, 21, 22, 23, 24, 25, 26, 27, 32, 33, 34, 184, 185, 186, 187, 188, 189, 190, 191, 192, 193, 194, 195, 196, 197, 198, 199, 200, 201, 202, 203, 204, 205, 206, 207, 208, 209, 210, 211] (by decide +kernel) (by decide +kernel)
set_option maxRecDepth 20000 in
theorem gX4_digest_X4_share : GoodIn wsX4_digest (wsV RX4 279 RX4 yX4_share wsX4_share) := goodIn_app (goodIn_of _ (by decide +kernel)) ggX4_digest_X4_share
set_option maxRecDepth 20000 in
theorem ggX4_digest_Jxe99ae_doubleToLongBits_ccdee : GoodIn wsX4_digest wsJxe99ae_doubleToLongBits_ccdee := goodIn_r _ [175, 176, 177, 178, 179, 180, 181, 182, 174, 183] (by decide +kernel) (by decide +kernel)
set_option maxRecDepth 20000 in
theorem gX4_digest_Jxe99ae_doubleToLongBits_ccdee : GoodIn wsX4_digest (va_wsS RX4 303 yJxe99ae_doubleToLongBits_ccdee wsJxe99ae_doubleToLongBits_ccdee) := goodIn_app (goodIn_of _ (by decide +kernel)) ggX4_digest_Jxe99ae_doubleToLongBits_ccdee
theorem dX4_digest_0 : decode cX4_digest 0 = .ok (.aload_n 0, 1) := by decide +kernel
theorem dX4_digest_1 : decode cX4_digest 1 = .ok (.iconst 0, 1) := by decide +kernel
theorem dX4_digest_2 : decode cX4_digest 2 = .ok (.putfield 41, 3) := by decide +kernel
theorem dX4_digest_5 : decode cX4_digest 5 = .ok (.aload_n 0, 1) := by decide +kernel
theorem dX4_digest_6 : decode cX4_digest 6 = .ok (.ldc2_w 295, 3) := by decide +kernel
theorem dX4_digest_9 : decode cX4_digest 9 = .ok (.putfield 285, 3) := by decide +kernel
theorem dX4_digest_12 : decode cX4_digest 12 = .ok (.iconst 0, 1) := by decide +kernel
theorem dX4_digest_13 : decode cX4_digest 13 = .ok (.istore_n 1, 1) := by decide +kernel
theorem dX4_digest_14 : decode cX4_digest 14 = .ok (.iload_n 1, 1) := by decide +kernel
theorem dX4_digest_15 : decode cX4_digest 15 = .ok (.bipush 10, 2) := by decide +kernel
theorem dX4_digest_17 : decode cX4_digest 17 = .ok (.if_icmp .ge 19, 3) := by decide +kernel
theorem dX4_digest_20 : decode cX4_digest 20 = .ok (.aload_n 0, 1) := by decide +kernel
theorem dX4_digest_21 : decode cX4_digest 21 = .ok (.aload_n 0, 1) := by decide +kernel
theorem dX4_digest_22 : decode cX4_digest 22 = .ok (.iload_n 1, 1) := by decide +kernel
theorem dX4_digest_23 : decode cX4_digest 23 = .ok (.invokevirtual 234, 3) := by decide +kernel
theorem dX4_digest_26 : decode cX4_digest 26 = .ok (.i2l, 1) := by decide +kernel
theorem dX4_digest_27 : decode cX4_digest 27 = .ok (.invokevirtual 289, 3) := by decide +kernel
theorem dX4_digest_30 : decode cX4_digest 30 = .ok (.iinc 1 1, 3) := by decide +kernel
theorem dX4_digest_33 : decode cX4_digest 33 = .ok (.goto (-19), 3) := by decide +kernel
theorem dX4_digest_36 : decode cX4_digest 36 = .ok (.aload_n 0, 1) := by decide +kernel
theorem dX4_digest_37 : decode cX4_digest 37 = .ok (.invokevirtual 297, 3) := by decide +kernel
theorem dX4_digest_40 : decode cX4_digest 40 = .ok (.aload_n 0, 1) := by decide +kernel
theorem dX4_digest_41 : decode cX4_digest 41 = .ok (.invokevirtual 300, 3) := by decide +kernel
theorem dX4_digest_44 : decode cX4_digest 44 = .ok (.aload_n 0, 1) := by decide +kernel
theorem dX4_digest_45 : decode cX4_digest 45 = .ok (.aload_n 0, 1) := by decide +kernel
theorem dX4_digest_46 : decode cX4_digest 46 = .ok (.invokevirtual 279, 3) := by decide +kernel
theorem dX4_digest_49 : decode cX4_digest 49 = .ok (.invokestatic 303, 3) := by decide +kernel
theorem dX4_digest_52 : decode cX4_digest 52 = .ok (.invokevirtual 289, 3) := by decide +kernel
theorem dX4_digest_55 : decode cX4_digest 55 = .ok (.aload_n 0, 1) := by decide +kernel
theorem dX4_digest_56 : decode cX4_digest 56 = .ok (.aload_n 0, 1) := by decide +kernel
theorem dX4_digest_57 : decode cX4_digest 57 = .ok (.getfield 176, 3) := by decide +kernel
theorem dX4_digest_60 : decode cX4_digest 60 = .ok (.i2l, 1) := by decide +kernel
theorem dX4_digest_61 : decode cX4_digest 61 = .ok (.invokevirtual 289, 3) := by decide +kernel
theorem dX4_digest_64 : decode cX4_digest 64 = .ok (.iconst 0, 1) := by decide +kernel
theorem dX4_digest_65 : decode cX4_digest 65 = .ok (.istore_n 1, 1) := by decide +kernel
theorem dX4_digest_66 : decode cX4_digest 66 = .ok (.iload_n 1, 1) := by decide +kernel
theorem dX4_digest_67 : decode cX4_digest 67 = .ok (.aload_n 0, 1) := by decide +kernel
theorem dX4_digest_68 : decode cX4_digest 68 = .ok (.getfield 176, 3) := by decide +kernel
theorem dX4_digest_71 : decode cX4_digest 71 = .ok (.if_icmp .ge 20, 3) := by decide +kernel
theorem dX4_digest_74 : decode cX4_digest 74 = .ok (.aload_n 0, 1) := by decide +kernel
theorem dX4_digest_75 : decode cX4_digest 75 = .ok (.aload_n 0, 1) := by decide +kernel
theorem dX4_digest_76 : decode cX4_digest 76 = .ok (.getfield 19, 3) := by decide +kernel
theorem dX4_digest_79 : decode cX4_digest 79 = .ok (.iload_n 1, 1) := by decide +kernel
theorem dX4_digest_80 : decode cX4_digest 80 = .ok (.caload, 1) := by decide +kernel
theorem dX4_digest_81 : decode cX4_digest 81 = .ok (.i2l, 1) := by decide +kernel
theorem dX4_digest_82 : decode cX4_digest 82 = .ok (.invokevirtual 289, 3) := by decide +kernel
theorem dX4_digest_85 : decode cX4_digest 85 = .ok (.iinc 1 1, 3) := by decide +kernel
theorem dX4_digest_88 : decode cX4_digest 88 = .ok (.goto (-22), 3) := by decide +kernel
theorem dX4_digest_91 : decode cX4_digest 91 = .ok (.aload_n 0, 1) := by decide +kernel
theorem dX4_digest_92 : decode cX4_digest 92 = .ok (.getfield 285, 3) := by decide +kernel
theorem dX4_digest_95 : decode cX4_digest 95 = .ok (.lreturn, 1) := by decide +kernel
