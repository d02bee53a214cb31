theorem dX9_readEater_45 : decode cX9_readEater 45 = .ok (.invokevirtual 62, 3) := by decide +kernel
theorem dX9_readEater_48 : decode cX9_readEater 48 = .ok (.aload_n 0, 1) := by decide +kernel
theorem dX9_readEater_49 : decode cX9_readEater 49 = .ok (.getfield 22, 3) := by decide +kernel
theorem dX9_readEater_52 : decode cX9_readEater 52 = .ok (.ifCond .ne 9, 3) := by decide +kernel
theorem dX9_readEater_55 : decode cX9_readEater 55 = .ok (.aload_n 1, 1) := by decide +kernel
theorem dX9_readEater_56 : decode cX9_readEater 56 = .ok (.iload_n 2, 1) := by decide +kernel
theorem dX9_readEater_57 : decode cX9_readEater 57 = .ok (.iload_n 3, 1) := by decide +kernel
theorem dX9_readEater_58 : decode cX9_readEater 58 = .ok (.invokevirtual 78, 3) := by decide +kernel
theorem dX9_readEater_61 : decode cX9_readEater 61 = .ok (.return_, 1) := by decide +kernel
set_option maxRecDepth 20000 in
theorem ggX9_readNumber_X9_skipBlanks : GoodIn wsX9_readNumber wsX9_skipBlanks := goodIn_r _ [7, 2, 8, 9, 10, 11, 6, 12, 13, 25, 26, 27, 28, 29] (by decide +kernel) (by decide +kernel)
set_option maxRecDepth 20000 in
theorem gX9_readNumber_X9_skipBlanks : GoodIn wsX9_readNumber (wsV RX9 33 RX9 yX9_skipBlanks wsX9_skipBlanks) := goodIn_app (goodIn_of _ (by decide +kernel)) ggX9_readNumber_X9_skipBlanks
set_option maxRecDepth 20000 in
theorem ggX9_readNumber_X9_isFigure : GoodIn wsX9_readNumber wsX9_isFigure := goodIn_r _ [16] (by decide +kernel) (by decide +kernel)
set_option maxRecDepth 20000 in
theorem gX9_readNumber_X9_isFigure : GoodIn wsX9_readNumber (va_wsS RX9 81 yX9_isFigure wsX9_isFigure) := goodIn_app (goodIn_of _ (by decide +kernel)) ggX9_readNumber_X9_isFigure
set_option maxRecDepth 20000 in
theorem ggX9_readNumber_X9_letterAt : GoodIn wsX9_readNumber wsX9_letterAt := goodIn_r _ [12, 8, 13, 25, 26, 27, 28, 29] (by decide +kernel) (by decide +kernel)
set_option maxRecDepth 20000 in
theorem gX9_readNumber_X9_letterAt : GoodIn wsX9_readNumber (wsV RX9 85 RX9 yX9_letterAt wsX9_letterAt) := goodIn_app (goodIn_of _ (by decide +kernel)) ggX9_readNumber_X9_letterAt
set_option maxRecDepth 20000 in
theorem ggX9_readNumber_X9_find : GoodIn wsX9_readNumber wsX9_find := goodIn_r _ [20, 1, 21, 25, 26, 27, 28, 29] (by decide +kernel) (by decide +kernel)
set_option maxRecDepth 20000 in
theorem gX9_readNumber_X9_find : GoodIn wsX9_readNumber (wsV RX9 45 RX9 yX9_find wsX9_find) := goodIn_app (goodIn_of _ (by decide +kernel)) ggX9_readNumber_X9_find
set_option maxRecDepth 20000 in
theorem ggX9_readNumber_X10_isWithin : GoodIn wsX9_readNumber wsX10_isWithin := goodIn_r _ [24] (by decide +kernel) (by decide +kernel)
set_option maxRecDepth 20000 in
theorem gX9_readNumber_X10_isWithin_n89 : GoodIn wsX9_readNumber (wsX10_isWithin) := ggX9_readNumber_X10_isWithin
theorem dX9_readNumber_0 : decode cX9_readNumber 0 = .ok (.aload_n 0, 1) := by decide +kernel
theorem dX9_readNumber_1 : decode cX9_readNumber 1 = .ok (.getfield 22, 3) := by decide +kernel
theorem dX9_readNumber_4 : decode cX9_readNumber 4 = .ok (.ifCond .eq 5, 3) := by decide +kernel
theorem dX9_readNumber_7 : decode cX9_readNumber 7 = .ok (.iconst 0, 1) := by decide +kernel
theorem dX9_readNumber_8 : decode cX9_readNumber 8 = .ok (.ireturn, 1) := by decide +kernel
theorem dX9_readNumber_9 : decode cX9_readNumber 9 = .ok (.aload_n 0, 1) := by decide +kernel
theorem dX9_readNumber_10 : decode cX9_readNumber 10 = .ok (.invokevirtual 33, 3) := by decide +kernel
theorem dX9_readNumber_13 : decode cX9_readNumber 13 = .ok (.istore_n 3, 1) := by decide +kernel
theorem dX9_readNumber_14 : decode cX9_readNumber 14 = .ok (.aload_n 0, 1) := by decide +kernel
theorem dX9_readNumber_15 : decode cX9_readNumber 15 = .ok (.getfield 19, 3) := by decide +kernel
theorem dX9_readNumber_18 : decode cX9_readNumber 18 = .ok (.istore 4, 2) := by decide +kernel
theorem dX9_readNumber_20 : decode cX9_readNumber 20 = .ok (.iconst 0, 1) := by decide +kernel
theorem dX9_readNumber_21 : decode cX9_readNumber 21 = .ok (.istore 5, 2) := by decide +kernel
theorem dX9_readNumber_23 : decode cX9_readNumber 23 = .ok (.iconst 0, 1) := by decide +kernel
theorem dX9_readNumber_24 : decode cX9_readNumber 24 = .ok (.istore 6, 2) := by decide +kernel
theorem dX9_readNumber_26 : decode cX9_readNumber 26 = .ok (.iload 5, 2) := by decide +kernel
theorem dX9_readNumber_28 : decode cX9_readNumber 28 = .ok (.sipush 240, 3) := by decide +kernel
theorem dX9_readNumber_31 : decode cX9_readNumber 31 = .ok (.if_icmp .ge 58, 3) := by decide +kernel
theorem dX9_readNumber_34 : decode cX9_readNumber 34 = .ok (.iload_n 3, 1) := by decide +kernel
theorem dX9_readNumber_35 : decode cX9_readNumber 35 = .ok (.invokestatic 81, 3) := by decide +kernel
theorem dX9_readNumber_38 : decode cX9_readNumber 38 = .ok (.ifCond .eq 51, 3) := by decide +kernel
theorem dX9_readNumber_41 : decode cX9_readNumber 41 = .ok (.iload 5, 2) := by decide +kernel
theorem dX9_readNumber_43 : decode cX9_readNumber 43 = .ok (.iconst 3, 1) := by decide +kernel
theorem dX9_readNumber_44 : decode cX9_readNumber 44 = .ok (.if_icmp .ge 16, 3) := by decide +kernel
theorem dX9_readNumber_47 : decode cX9_readNumber 47 = .ok (.iload 6, 2) := by decide +kernel
theorem dX9_readNumber_49 : decode cX9_readNumber 49 = .ok (.bipush 10, 2) := by decide +kernel
theorem dX9_readNumber_51 : decode cX9_readNumber 51 = .ok (.imul, 1) := by decide +kernel
theorem dX9_readNumber_52 : decode cX9_readNumber 52 = .ok (.iload_n 3, 1) := by decide +kernel
theorem dX9_readNumber_53 : decode cX9_readNumber 53 = .ok (.iadd, 1) := by decide +kernel
theorem dX9_readNumber_54 : decode cX9_readNumber 54 = .ok (.bipush 48, 2) := by decide +kernel
theorem dX9_readNumber_56 : decode cX9_readNumber 56 = .ok (.isub, 1) := by decide +kernel
theorem dX9_readNumber_57 : decode cX9_readNumber 57 = .ok (.goto 5, 3) := by decide +kernel
theorem dX9_readNumber_60 : decode cX9_readNumber 60 = .ok (.iload 6, 2) := by decide +kernel
theorem dX9_readNumber_62 : decode cX9_readNumber 62 = .ok (.istore 6, 2) := by decide +kernel
theorem dX9_readNumber_64 : decode cX9_readNumber 64 = .ok (.iinc 5 1, 3) := by decide +kernel
theorem dX9_readNumber_67 : decode cX9_readNumber 67 = .ok (.aload_n 0, 1) := by decide +kernel
theorem dX9_readNumber_68 : decode cX9_readNumber 68 = .ok (.dup, 1) := by decide +kernel
theorem dX9_readNumber_69 : decode cX9_readNumber 69 = .ok (.getfield 19, 3) := by decide +kernel
theorem dX9_readNumber_72 : decode cX9_readNumber 72 = .ok (.iconst 1, 1) := by decide +kernel
theorem dX9_readNumber_73 : decode cX9_readNumber 73 = .ok (.iadd, 1) := by decide +kernel
theorem dX9_readNumber_74 : decode cX9_readNumber 74 = .ok (.putfield 19, 3) := by decide +kernel
theorem dX9_readNumber_77 : decode cX9_readNumber 77 = .ok (.aload_n 0, 1) := by decide +kernel
theorem dX9_readNumber_78 : decode cX9_readNumber 78 = .ok (.aload_n 0, 1) := by decide +kernel
theorem dX9_readNumber_79 : decode cX9_readNumber 79 = .ok (.getfield 19, 3) := by decide +kernel
theorem dX9_readNumber_82 : decode cX9_readNumber 82 = .ok (.invokevirtual 85, 3) := by decide +kernel
theorem dX9_readNumber_85 : decode cX9_readNumber 85 = .ok (.istore_n 3, 1) := by decide +kernel
theorem dX9_readNumber_86 : decode cX9_readNumber 86 = .ok (.goto (-60), 3) := by decide +kernel
theorem dX9_readNumber_89 : decode cX9_readNumber 89 = .ok (.iload 5, 2) := by decide +kernel
theorem dX9_readNumber_91 : decode cX9_readNumber 91 = .ok (.ifCond .ne 13, 3) := by decide +kernel
theorem dX9_readNumber_94 : decode cX9_readNumber 94 = .ok (.aload_n 0, 1) := by decide +kernel
theorem dX9_readNumber_95 : decode cX9_readNumber 95 = .ok (.iconst 1, 1) := by decide +kernel
theorem dX9_readNumber_96 : decode cX9_readNumber 96 = .ok (.iload 4, 2) := by decide +kernel
theorem dX9_readNumber_98 : decode cX9_readNumber 98 = .ok (.invokevirtual 45, 3) := by decide +kernel
theorem dX9_readNumber_101 : decode cX9_readNumber 101 = .ok (.goto 26, 3) := by decide +kernel
theorem dX9_readNumber_104 : decode cX9_readNumber 104 = .ok (.iload 5, 2) := by decide +kernel
theorem dX9_readNumber_106 : decode cX9_readNumber 106 = .ok (.iconst 3, 1) := by decide +kernel
theorem dX9_readNumber_107 : decode cX9_readNumber 107 = .ok (.if_icmp .gt 13, 3) := by decide +kernel
theorem dX9_readNumber_110 : decode cX9_readNumber 110 = .ok (.iload 6, 2) := by decide +kernel
theorem dX9_readNumber_112 : decode cX9_readNumber 112 = .ok (.iload_n 1, 1) := by decide +kernel
theorem dX9_readNumber_113 : decode cX9_readNumber 113 = .ok (.iload_n 2, 1) := by decide +kernel
theorem dX9_readNumber_114 : decode cX9_readNumber 114 = .ok (.invokestatic 89, 3) := by decide +kernel
theorem dX9_readNumber_117 : decode cX9_readNumber 117 = .ok (.ifCond .ne 10, 3) := by decide +kernel
theorem dX9_readNumber_120 : decode cX9_readNumber 120 = .ok (.aload_n 0, 1) := by decide +kernel
theorem dX9_readNumber_121 : decode cX9_readNumber 121 = .ok (.iconst 2, 1) := by decide +kernel
theorem dX9_readNumber_122 : decode cX9_readNumber 122 = .ok (.iload 4, 2) := by decide +kernel
theorem dX9_readNumber_124 : decode cX9_readNumber 124 = .ok (.invokevirtual 45, 3) := by decide +kernel
theorem dX9_readNumber_127 : decode cX9_readNumber 127 = .ok (.iload 6, 2) := by decide +kernel
theorem dX9_readNumber_129 : decode cX9_readNumber 129 = .ok (.ireturn, 1) := by decide +kernel
set_option maxRecDepth 20000 in
theorem ggX9_readSemicolon_X9_skipBlanks : GoodIn wsX9_readSemicolon wsX9_skipBlanks := goodIn_r _ [7, 2, 8, 9, 10, 11, 6, 12, 13, 19, 20, 21, 22, 23] (by decide +kernel) (by decide +kernel)
set_option maxRecDepth 20000 in
theorem gX9_readSemicolon_X9_skipBlanks : GoodIn wsX9_readSemicolon (wsV RX9 33 RX9 yX9_skipBlanks wsX9_skipBlanks) := goodIn_app (goodIn_of _ (by decide +kernel)) ggX9_readSemicolon_X9_skipBlanks
set_option maxRecDepth 20000 in
theorem ggX9_readSemicolon_X9_find : GoodIn wsX9_readSemicolon wsX9_find := goodIn_r _ [17, 1, 18, 19, 20, 21, 22, 23] (by decide +kernel) (by decide +kernel)
set_option maxRecDepth 20000 in
theorem gX9_readSemicolon_X9_find : GoodIn wsX9_readSemicolon (wsV RX9 45 RX9 yX9_find wsX9_find) := goodIn_app (goodIn_of _ (by decide +kernel)) ggX9_readSemicolon_X9_find
theorem dX9_readSemicolon_0 : decode cX9_readSemicolon 0 = .ok (.aload_n 0, 1) := by decide +kernel
theorem dX9_readSemicolon_1 : decode cX9_readSemicolon 1 = .ok (.getfield 22, 3) := by decide +kernel
theorem dX9_readSemicolon_4 : decode cX9_readSemicolon 4 = .ok (.ifCond .eq 4, 3) := by decide +kernel
theorem dX9_readSemicolon_7 : decode cX9_readSemicolon 7 = .ok (.return_, 1) := by decide +kernel
theorem dX9_readSemicolon_8 : decode cX9_readSemicolon 8 = .ok (.aload_n 0, 1) := by decide +kernel
theorem dX9_readSemicolon_9 : decode cX9_readSemicolon 9 = .ok (.invokevirtual 33, 3) := by decide +kernel
theorem dX9_readSemicolon_12 : decode cX9_readSemicolon 12 = .ok (.bipush 59, 2) := by decide +kernel
theorem dX9_readSemicolon_14 : decode cX9_readSemicolon 14 = .ok (.if_icmp .ne 16, 3) := by decide +kernel
theorem dX9_readSemicolon_17 : decode cX9_readSemicolon 17 = .ok (.aload_n 0, 1) := by decide +kernel
theorem dX9_readSemicolon_18 : decode cX9_readSemicolon 18 = .ok (.dup, 1) := by decide +kernel
theorem dX9_readSemicolon_19 : decode cX9_readSemicolon 19 = .ok (.getfield 19, 3) := by decide +kernel
theorem dX9_readSemicolon_22 : decode cX9_readSemicolon 22 = .ok (.iconst 1, 1) := by decide +kernel
theorem dX9_readSemicolon_23 : decode cX9_readSemicolon 23 = .ok (.iadd, 1) := by decide +kernel
theorem dX9_readSemicolon_24 : decode cX9_readSemicolon 24 = .ok (.putfield 19, 3) := by decide +kernel
theorem dX9_readSemicolon_27 : decode cX9_readSemicolon 27 = .ok (.goto 12, 3) := by decide +kernel
theorem dX9_readSemicolon_30 : decode cX9_readSemicolon 30 = .ok (.aload_n 0, 1) := by decide +kernel
theorem dX9_readSemicolon_31 : decode cX9_readSemicolon 31 = .ok (.iconst 1, 1) := by decide +kernel
theorem dX9_readSemicolon_32 : decode cX9_readSemicolon 32 = .ok (.aload_n 0, 1) := by decide +kernel
theorem dX9_readSemicolon_33 : decode cX9_readSemicolon 33 = .ok (.getfield 19, 3) := by decide +kernel
theorem dX9_readSemicolon_36 : decode cX9_readSemicolon 36 = .ok (.invokevirtual 45, 3) := by decide +kernel
theorem dX9_readSemicolon_39 : decode cX9_readSemicolon 39 = .ok (.return_, 1) := by decide +kernel
theorem dX9_find_0 : decode cX9_find 0 = .ok (.aload_n 0, 1) := by decide +kernel
theorem dX9_find_1 : decode cX9_find 1 = .ok (.iload_n 1, 1) := by decide +kernel
theorem dX9_find_2 : decode cX9_find 2 = .ok (.putfield 22, 3) := by decide +kernel
theorem dX9_find_5 : decode cX9_find 5 = .ok (.aload_n 0, 1) := by decide +kernel
theorem dX9_find_6 : decode cX9_find 6 = .ok (.iload_n 2, 1) := by decide +kernel
theorem dX9_find_7 : decode cX9_find 7 = .ok (.putfield 25, 3) := by decide +kernel
theorem dX9_find_10 : decode cX9_find 10 = .ok (.return_, 1) := by decide +kernel
set_option maxRecDepth 20000 in
theorem ggX9_skipBlanks_X9_letterAt : GoodIn wsX9_skipBlanks wsX9_letterAt := goodIn_r _ [7, 2, 8, 9, 10, 11, 12, 13] (by decide +kernel) (by decide +kernel)
set_option maxRecDepth 20000 in
theorem gX9_skipBlanks_X9_letterAt : GoodIn wsX9_skipBlanks (wsV RX9 85 RX9 yX9_letterAt wsX9_letterAt) := goodIn_app (goodIn_of _ (by decide +kernel)) ggX9_skipBlanks_X9_letterAt
theorem dX9_skipBlanks_0 : decode cX9_skipBlanks 0 = .ok (.aload_n 0, 1) := by decide +kernel
theorem dX9_skipBlanks_1 : decode cX9_skipBlanks 1 = .ok (.getfield 19, 3) := by decide +kernel
theorem dX9_skipBlanks_4 : decode cX9_skipBlanks 4 = .ok (.aload_n 0, 1) := by decide +kernel
theorem dX9_skipBlanks_5 : decode cX9_skipBlanks 5 = .ok (.getfield 15, 3) := by decide +kernel
theorem dX9_skipBlanks_8 : decode cX9_skipBlanks 8 = .ok (.if_icmp .ge 29, 3) := by decide +kernel
theorem dX9_skipBlanks_11 : decode cX9_skipBlanks 11 = .ok (.aload_n 0, 1) := by decide +kernel
theorem dX9_skipBlanks_12 : decode cX9_skipBlanks 12 = .ok (.aload_n 0, 1) := by decide +kernel
theorem dX9_skipBlanks_13 : decode cX9_skipBlanks 13 = .ok (.getfield 19, 3) := by decide +kernel
theorem dX9_skipBlanks_16 : decode cX9_skipBlanks 16 = .ok (.invokevirtual 85, 3) := by decide +kernel
theorem dX9_skipBlanks_19 : decode cX9_skipBlanks 19 = .ok (.bipush 32, 2) := by decide +kernel
theorem dX9_skipBlanks_21 : decode cX9_skipBlanks 21 = .ok (.if_icmp .ne 16, 3) := by decide +kernel
theorem dX9_skipBlanks_24 : decode cX9_skipBlanks 24 = .ok (.aload_n 0, 1) := by decide +kernel
theorem dX9_skipBlanks_25 : decode cX9_skipBlanks 25 = .ok (.dup, 1) := by decide +kernel
theorem dX9_skipBlanks_26 : decode cX9_skipBlanks 26 = .ok (.getfield 19, 3) := by decide +kernel
theorem dX9_skipBlanks_29 : decode cX9_skipBlanks 29 = .ok (.iconst 1, 1) := by decide +kernel
theorem dX9_skipBlanks_30 : decode cX9_skipBlanks 30 = .ok (.iadd, 1) := by decide +kernel
theorem dX9_skipBlanks_31 : decode cX9_skipBlanks 31 = .ok (.putfield 19, 3) := by decide +kernel
theorem dX9_skipBlanks_34 : decode cX9_skipBlanks 34 = .ok (.goto (-34), 3) := by decide +kernel
theorem dX9_skipBlanks_37 : decode cX9_skipBlanks 37 = .ok (.aload_n 0, 1) := by decide +kernel
theorem dX9_skipBlanks_38 : decode cX9_skipBlanks 38 = .ok (.aload_n 0, 1) := by decide +kernel
theorem dX9_skipBlanks_39 : decode cX9_skipBlanks 39 = .ok (.getfield 19, 3) := by decide +kernel
theorem dX9_skipBlanks_42 : decode cX9_skipBlanks 42 = .ok (.invokevirtual 85, 3) := by decide +kernel
theorem dX9_skipBlanks_45 : decode cX9_skipBlanks 45 = .ok (.ireturn, 1) := by decide +kernel
theorem dX9_letterAt_0 : decode cX9_letterAt 0 = .ok (.iload_n 1, 1) := by decide +kernel
theorem dX9_letterAt_1 : decode cX9_letterAt 1 = .ok (.ifCond .lt 27, 3) := by decide +kernel
theorem dX9_letterAt_4 : decode cX9_letterAt 4 = .ok (.iload_n 1, 1) := by decide +kernel
theorem dX9_letterAt_5 : decode cX9_letterAt 5 = .ok (.aload_n 0, 1) := by decide +kernel
theorem dX9_letterAt_6 : decode cX9_letterAt 6 = .ok (.getfield 15, 3) := by decide +kernel
theorem dX9_letterAt_9 : decode cX9_letterAt 9 = .ok (.if_icmp .ge 19, 3) := by decide +kernel
theorem dX9_letterAt_12 : decode cX9_letterAt 12 = .ok (.iload_n 1, 1) := by decide +kernel
theorem dX9_letterAt_13 : decode cX9_letterAt 13 = .ok (.sipush 240, 3) := by decide +kernel
theorem dX9_letterAt_16 : decode cX9_letterAt 16 = .ok (.if_icmp .ge 12, 3) := by decide +kernel
theorem dX9_letterAt_19 : decode cX9_letterAt 19 = .ok (.aload_n 0, 1) := by decide +kernel
theorem dX9_letterAt_20 : decode cX9_letterAt 20 = .ok (.getfield 9, 3) := by decide +kernel
theorem dX9_letterAt_23 : decode cX9_letterAt 23 = .ok (.iload_n 1, 1) := by decide +kernel
theorem dX9_letterAt_24 : decode cX9_letterAt 24 = .ok (.iaload, 1) := by decide +kernel
theorem dX9_letterAt_25 : decode cX9_letterAt 25 = .ok (.goto 4, 3) := by decide +kernel
theorem dX9_letterAt_28 : decode cX9_letterAt 28 = .ok (.iconst (-1), 1) := by decide +kernel
theorem dX9_letterAt_29 : decode cX9_letterAt 29 = .ok (.ireturn, 1) := by decide +kernel
theorem dX9_isFigure_0 : decode cX9_isFigure 0 = .ok (.iload_n 0, 1) := by decide +kernel
theorem dX9_isFigure_1 : decode cX9_isFigure 1 = .ok (.bipush 48, 2) := by decide +kernel
theorem dX9_isFigure_3 : decode cX9_isFigure 3 = .ok (.if_icmp .lt 13, 3) := by decide +kernel
theorem dX9_isFigure_6 : decode cX9_isFigure 6 = .ok (.iload_n 0, 1) := by decide +kernel
theorem dX9_isFigure_7 : decode cX9_isFigure 7 = .ok (.bipush 57, 2) := by decide +kernel
theorem dX9_isFigure_9 : decode cX9_isFigure 9 = .ok (.if_icmp .gt 7, 3) := by decide +kernel
theorem dX9_isFigure_12 : decode cX9_isFigure 12 = .ok (.iconst 1, 1) := by decide +kernel
theorem dX9_isFigure_13 : decode cX9_isFigure 13 = .ok (.goto 4, 3) := by decide +kernel
theorem dX9_isFigure_16 : decode cX9_isFigure 16 = .ok (.iconst 0, 1) := by decide +kernel
theorem dX9_isFigure_17 : decode cX9_isFigure 17 = .ok (.ireturn, 1) := by decide +kernel
set_option maxRecDepth 20000 in
theorem ggX10_init_X8_init : GoodIn wsX10_init wsX8_init := goodIn_r _ [49, 50, 2, 3, 51, 52, 53, 54, 55, 56, 57, 58, 59, 60, 61, 135, 136, 137, 138, 139, 140, 141, 142, 143, 144] (by decide +kernel) (by decide +kernel)
set_option maxRecDepth 20000 in
theorem gX10_init_X8_init : GoodIn wsX10_init (wsX8_init) := ggX10_init_X8_init
set_option maxRecDepth 20000 in
theorem ggX10_init_X9_init : GoodIn wsX10_init wsX9_init := goodIn_r _ [64, 65, 2, 3, 51, 66, 67, 68, 69, 70, 145, 146, 147, 148, 149] (by decide +kernel) (by decide +kernel)
set_option maxRecDepth 20000 in
theorem gX10_init_X9_init : GoodIn wsX10_init (wsX9_init) := ggX10_init_X9_init
set_option maxRecDepth 20000 in
theorem ggX10_init_X4_init : GoodIn wsX10_init wsX4_init := goodIn_r _ [73, 74, 2, 3, 75, 51, 76, 77, 78, 79, 80, 81, 82, 83, 163, 164, 165, 166, 167, 168, 169, 170, 171] (by decide +kernel) (by decide +kernel)
set_option maxRecDepth 20000 in
theorem gX10_init_X4_init : GoodIn wsX10_init (wsX4_init) := ggX10_init_X4_init
set_option maxRecDepth 20000 in
theorem ggX10_init_X5_init : GoodIn wsX10_init wsX5_init := goodIn_r _ [86, 87, 2, 3, 51, 88, 89, 90, 172, 173, 174] (by decide +kernel) (by decide +kernel)
set_option maxRecDepth 20000 in
theorem gX10_init_X5_init : GoodIn wsX10_init (wsX5_init) := ggX10_init_X5_init
set_option maxRecDepth 20000 in
theorem ggX10_init_X3_init : GoodIn wsX10_init wsX3_init := goodIn_r _ [93, 94, 2, 3, 51, 95, 96, 97, 98, 175, 176, 177] (by decide +kernel) (by decide +kernel)
set_option maxRecDepth 20000 in
theorem gX10_init_X3_init : GoodIn wsX10_init (wsX3_init) := ggX10_init_X3_init
set_option maxRecDepth 20000 in
theorem ggX10_init_X2_init : GoodIn wsX10_init wsX2_init := goodIn_r _ [101, 102, 2, 3, 51, 103, 104, 105, 178, 179, 180] (by decide +kernel) (by decide +kernel)
set_option maxRecDepth 20000 in
theorem gX10_init_X2_init : GoodIn wsX10_init (wsX2_init) := ggX10_init_X2_init
set_option maxRecDepth 20000 in
theorem ggX10_init_X1_init : GoodIn wsX10_init wsX1_init := goodIn_r _ [108, 109, 2, 3, 51, 110, 111, 112, 181, 182, 183] (by decide +kernel) (by decide +kernel)
set_option maxRecDepth 20000 in
theorem gX10_init_X1_init : GoodIn wsX10_init (wsX1_init) := ggX10_init_X1_init
set_option maxRecDepth 20000 in
theorem ggX10_init_X0_init : GoodIn wsX10_init wsX0_init := goodIn_r _ [115, 116, 2, 3, 51, 117, 118, 119, 120, 121, 122, 184, 185, 186, 187, 188, 189] (by decide +kernel) (by decide +kernel)
set_option maxRecDepth 20000 in
theorem gX10_init_X0_init : GoodIn wsX10_init (wsX0_init) := ggX10_init_X0_init
set_option maxRecDepth 20000 in
theorem ggX10_init_X7_init : GoodIn wsX10_init wsX7_init := goodIn_r _ [125, 126, 2, 3, 127, 128, 129, 190, 191, 192] (by decide +kernel) (by decide +kernel)
set_option maxRecDepth 20000 in
theorem gX10_init_X7_init : GoodIn wsX10_init (wsX7_init) := ggX10_init_X7_init
set_option maxRecDepth 20000 in
theorem ggX10_init_X6_init : GoodIn wsX10_init wsX6_init := goodIn_r _ [132, 133, 2, 3, 51, 134, 193] (by decide +kernel) (by decide +kernel)
set_option maxRecDepth 20000 in
theorem gX10_init_X6_init : GoodIn wsX10_init (wsX6_init) := ggX10_init_X6_init
theorem dX10_init_0 : decode cX10_init 0 = .ok (.aload_n 0, 1) := by decide +kernel
theorem dX10_init_1 : decode cX10_init 1 = .ok (.invokespecial 1, 3) := by decide +kernel
theorem dX10_init_4 : decode cX10_init 4 = .ok (.new 7, 3) := by decide +kernel
theorem dX10_init_7 : decode cX10_init 7 = .ok (.dup, 1) := by decide +kernel
theorem dX10_init_8 : decode cX10_init 8 = .ok (.invokespecial 9, 3) := by decide +kernel
theorem dX10_init_11 : decode cX10_init 11 = .ok (.astore_n 1, 1) := by decide +kernel
theorem dX10_init_12 : decode cX10_init 12 = .ok (.aload_n 0, 1) := by decide +kernel
theorem dX10_init_13 : decode cX10_init 13 = .ok (.new 10, 3) := by decide +kernel
theorem dX10_init_16 : decode cX10_init 16 = .ok (.dup, 1) := by decide +kernel
theorem dX10_init_17 : decode cX10_init 17 = .ok (.invokespecial 12, 3) := by decide +kernel
theorem dX10_init_20 : decode cX10_init 20 = .ok (.putfield 13, 3) := by decide +kernel
theorem dX10_init_23 : decode cX10_init 23 = .ok (.aload_n 0, 1) := by decide +kernel
theorem dX10_init_24 : decode cX10_init 24 = .ok (.aload_n 1, 1) := by decide +kernel
theorem dX10_init_25 : decode cX10_init 25 = .ok (.putfield 19, 3) := by decide +kernel
theorem dX10_init_28 : decode cX10_init 28 = .ok (.aload_n 0, 1) := by decide +kernel
theorem dX10_init_29 : decode cX10_init 29 = .ok (.new 7, 3) := by decide +kernel
theorem dX10_init_32 : decode cX10_init 32 = .ok (.dup, 1) := by decide +kernel
theorem dX10_init_33 : decode cX10_init 33 = .ok (.invokespecial 9, 3) := by decide +kernel
theorem dX10_init_36 : decode cX10_init 36 = .ok (.putfield 23, 3) := by decide +kernel
theorem dX10_init_39 : decode cX10_init 39 = .ok (.aload_n 0, 1) := by decide +kernel
theorem dX10_init_40 : decode cX10_init 40 = .ok (.new 26, 3) := by decide +kernel
theorem dX10_init_43 : decode cX10_init 43 = .ok (.dup, 1) := by decide +kernel
theorem dX10_init_44 : decode cX10_init 44 = .ok (.aload_n 1, 1) := by decide +kernel
theorem dX10_init_45 : decode cX10_init 45 = .ok (.invokespecial 28, 3) := by decide +kernel
theorem dX10_init_48 : decode cX10_init 48 = .ok (.putfield 31, 3) := by decide +kernel
theorem dX10_init_51 : decode cX10_init 51 = .ok (.aload_n 0, 1) := by decide +kernel
theorem dX10_init_52 : decode cX10_init 52 = .ok (.new 35, 3) := by decide +kernel
theorem dX10_init_55 : decode cX10_init 55 = .ok (.dup, 1) := by decide +kernel
theorem dX10_init_56 : decode cX10_init 56 = .ok (.invokespecial 37, 3) := by decide +kernel
theorem dX10_init_59 : decode cX10_init 59 = .ok (.putfield 38, 3) := by decide +kernel
theorem dX10_init_62 : decode cX10_init 62 = .ok (.aload_n 0, 1) := by decide +kernel
theorem dX10_init_63 : decode cX10_init 63 = .ok (.new 42, 3) := by decide +kernel
theorem dX10_init_66 : decode cX10_init 66 = .ok (.dup, 1) := by decide +kernel
theorem dX10_init_67 : decode cX10_init 67 = .ok (.invokespecial 44, 3) := by decide +kernel
theorem dX10_init_70 : decode cX10_init 70 = .ok (.putfield 45, 3) := by decide +kernel
theorem dX10_init_73 : decode cX10_init 73 = .ok (.aload_n 0, 1) := by decide +kernel
theorem dX10_init_74 : decode cX10_init 74 = .ok (.new 49, 3) := by decide +kernel
theorem dX10_init_77 : decode cX10_init 77 = .ok (.dup, 1) := by decide +kernel
theorem dX10_init_78 : decode cX10_init 78 = .ok (.invokespecial 51, 3) := by decide +kernel
theorem dX10_init_81 : decode cX10_init 81 = .ok (.putfield 52, 3) := by decide +kernel
theorem dX10_init_84 : decode cX10_init 84 = .ok (.aload_n 0, 1) := by decide +kernel
theorem dX10_init_85 : decode cX10_init 85 = .ok (.new 56, 3) := by decide +kernel
theorem dX10_init_88 : decode cX10_init 88 = .ok (.dup, 1) := by decide +kernel
theorem dX10_init_89 : decode cX10_init 89 = .ok (.invokespecial 58, 3) := by decide +kernel
theorem dX10_init_92 : decode cX10_init 92 = .ok (.putfield 59, 3) := by decide +kernel
theorem dX10_init_95 : decode cX10_init 95 = .ok (.aload_n 0, 1) := by decide +kernel
theorem dX10_init_96 : decode cX10_init 96 = .ok (.new 63, 3) := by decide +kernel
theorem dX10_init_99 : decode cX10_init 99 = .ok (.dup, 1) := by decide +kernel
theorem dX10_init_100 : decode cX10_init 100 = .ok (.invokespecial 65, 3) := by decide +kernel
theorem dX10_init_103 : decode cX10_init 103 = .ok (.putfield 66, 3) := by decide +kernel
theorem dX10_init_106 : decode cX10_init 106 = .ok (.aload_n 0, 1) := by decide +kernel
theorem dX10_init_107 : decode cX10_init 107 = .ok (.new 70, 3) := by decide +kernel
theorem dX10_init_110 : decode cX10_init 110 = .ok (.dup, 1) := by decide +kernel
theorem dX10_init_111 : decode cX10_init 111 = .ok (.invokespecial 72, 3) := by decide +kernel
theorem dX10_init_114 : decode cX10_init 114 = .ok (.putfield 73, 3) := by decide +kernel
theorem dX10_init_117 : decode cX10_init 117 = .ok (.aload_n 0, 1) := by decide +kernel
theorem dX10_init_118 : decode cX10_init 118 = .ok (.new 77, 3) := by decide +kernel
theorem dX10_init_121 : decode cX10_init 121 = .ok (.dup, 1) := by decide +kernel
theorem dX10_init_122 : decode cX10_init 122 = .ok (.invokespecial 79, 3) := by decide +kernel
theorem dX10_init_125 : decode cX10_init 125 = .ok (.putfield 80, 3) := by decide +kernel
theorem dX10_init_128 : decode cX10_init 128 = .ok (.aload_n 0, 1) := by decide +kernel
theorem dX10_init_129 : decode cX10_init 129 = .ok (.iconst (-1), 1) := by decide +kernel
theorem dX10_init_130 : decode cX10_init 130 = .ok (.putfield 84, 3) := by decide +kernel
theorem dX10_init_133 : decode cX10_init 133 = .ok (.aload_n 0, 1) := by decide +kernel
theorem dX10_init_134 : decode cX10_init 134 = .ok (.iconst 0, 1) := by decide +kernel
theorem dX10_init_135 : decode cX10_init 135 = .ok (.putfield 88, 3) := by decide +kernel
theorem dX10_init_138 : decode cX10_init 138 = .ok (.return_, 1) := by decide +kernel
set_option maxRecDepth 20000 in
theorem ggX10_feed_X10_isWithin : GoodIn wsX10_feed wsX10_isWithin := goodIn_r _ [7] (by decide +kernel) (by decide +kernel)
set_option maxRecDepth 20000 in
theorem gX10_feed_X10_isWithin : GoodIn wsX10_feed (va_wsS RX10 91 yX10_isWithin wsX10_isWithin) := goodIn_app (goodIn_of _ (by decide +kernel)) ggX10_feed_X10_isWithin
set_option maxRecDepth 20000 in
theorem ggX10_feed_X9_add : GoodIn wsX10_feed wsX9_add := goodIn_r _ [12, 13, 14, 32, 33, 34, 35, 36] (by decide +kernel) (by decide +kernel)
set_option maxRecDepth 20000 in
theorem gX10_feed_X9_add : GoodIn wsX10_feed (wsV RX10 96 RX9 yX9_add wsX9_add) := goodIn_app (goodIn_of _ (by decide +kernel)) ggX10_feed_X9_add
set_option maxRecDepth 20000 in
theorem ggX10_feed_X9_length : GoodIn wsX10_feed wsX9_length := goodIn_r _ [18, 13, 32, 33, 34, 35, 36] (by decide +kernel) (by decide +kernel)
set_option maxRecDepth 20000 in
theorem gX10_feed_X9_length : GoodIn wsX10_feed (wsV RX10 100 RX9 yX9_length wsX9_length) := goodIn_app (goodIn_of _ (by decide +kernel)) ggX10_feed_X9_length
theorem dX10_feed_0 : decode cX10_feed 0 = .ok (.iload_n 1, 1) := by decide +kernel
theorem dX10_feed_1 : decode cX10_feed 1 = .ok (.iconst 0, 1) := by decide +kernel
theorem dX10_feed_2 : decode cX10_feed 2 = .ok (.sipush 255, 3) := by decide +kernel
theorem dX10_feed_5 : decode cX10_feed 5 = .ok (.invokestatic 91, 3) := by decide +kernel
theorem dX10_feed_8 : decode cX10_feed 8 = .ok (.ifCond .ne 6, 3) := by decide +kernel
theorem dX10_feed_11 : decode cX10_feed 11 = .ok (.ldc 95, 2) := by decide +kernel
theorem dX10_feed_13 : decode cX10_feed 13 = .ok (.ireturn, 1) := by decide +kernel
theorem dX10_feed_14 : decode cX10_feed 14 = .ok (.aload_n 0, 1) := by decide +kernel
theorem dX10_feed_15 : decode cX10_feed 15 = .ok (.getfield 13, 3) := by decide +kernel
theorem dX10_feed_18 : decode cX10_feed 18 = .ok (.iload_n 1, 1) := by decide +kernel
theorem dX10_feed_19 : decode cX10_feed 19 = .ok (.invokevirtual 96, 3) := by decide +kernel
theorem dX10_feed_22 : decode cX10_feed 22 = .ok (.ifCond .eq 13, 3) := by decide +kernel
theorem dX10_feed_25 : decode cX10_feed 25 = .ok (.aload_n 0, 1) := by decide +kernel
theorem dX10_feed_26 : decode cX10_feed 26 = .ok (.getfield 13, 3) := by decide +kernel
theorem dX10_feed_29 : decode cX10_feed 29 = .ok (.invokevirtual 100, 3) := by decide +kernel
theorem dX10_feed_32 : decode cX10_feed 32 = .ok (.goto 5, 3) := by decide +kernel
theorem dX10_feed_35 : decode cX10_feed 35 = .ok (.ldc 104, 2) := by decide +kernel
theorem dX10_feed_37 : decode cX10_feed 37 = .ok (.ireturn, 1) := by decide +kernel
set_option maxRecDepth 20000 in
theorem ggX10_table_X9_readInto : GoodIn wsX10_table wsX9_readInto := goodIn_r _ [14, 15, 16, 17, 18, 19, 20, 21, 22, 23, 24, 25, 26, 27, 28, 29, 30, 13, 31, 32, 33, 34, 35, 36, 37, 38, 39, 40, 41, 42, 43, 44, 45, 46, 47, 48, 49, 50, 51, 52, 53, 54, 55, 56, 57, 58, 59, 60, 61, 62, 63, 64, 65, 66, 67, 68, 69, 70, 71, 72, 73, 74, 75, 76, 77, 78, 79, 80, 81, 82, 83, 84, 85, 86, 87, 88, 89, 90, 91, 92, 172, 173, 174, 175, 176, 162, 163, 164, 165, 166, 167, 168, 169, 170, 171] (by decide +kernel) (by decide +kernel)
set_option maxRecDepth 20000 in
theorem gX10_table_X9_readInto : GoodIn wsX10_table (wsV RX10 105 RX9 yX9_readInto wsX9_readInto) := goodIn_app (goodIn_of _ (by decide +kernel)) ggX10_table_X9_readInto
set_option maxRecDepth 20000 in
theorem ggX10_table_X9_faultPlace : GoodIn wsX10_table wsX9_faultPlace := goodIn_r _ [96, 17, 172, 173, 174, 175, 176] (by decide +kernel) (by decide +kernel)
set_option maxRecDepth 20000 in
theorem gX10_table_X9_faultPlace : GoodIn wsX10_table (wsV RX10 109 RX9 yX9_faultPlace wsX9_faultPlace) := goodIn_app (goodIn_of _ (by decide +kernel)) ggX10_table_X9_faultPlace
set_option maxRecDepth 20000 in
theorem ggX10_table_X9_empty : GoodIn wsX10_table wsX9_empty := goodIn_r _ [100, 32, 172, 173, 174, 175, 176] (by decide +kernel) (by decide +kernel)
set_option maxRecDepth 20000 in
theorem gX10_table_X9_empty : GoodIn wsX10_table (wsV RX10 112 RX9 yX9_empty wsX9_empty) := goodIn_app (goodIn_of _ (by decide +kernel)) ggX10_table_X9_empty
set_option maxRecDepth 20000 in
theorem ggX10_table_X8_become : GoodIn wsX10_table wsX8_become := goodIn_r _ [104, 23, 24, 25, 26, 27, 80, 105, 106, 107, 108, 81, 82, 91, 92, 109, 69, 70, 21, 71, 162, 163, 164, 165, 166, 167, 168, 169, 170, 171] (by decide +kernel) (by decide +kernel)
set_option maxRecDepth 20000 in
theorem gX10_table_X8_become : GoodIn wsX10_table (wsV RX10 115 RX8 yX8_become wsX8_become) := goodIn_app (goodIn_of _ (by decide +kernel)) ggX10_table_X8_become
set_option maxRecDepth 20000 in
theorem ggX10_table_X4_begin : GoodIn wsX10_table wsX4_begin := goodIn_r _ [114, 115, 116, 117, 118, 119, 120, 121, 122, 123, 177, 178, 179, 180, 181, 182, 183, 184, 185, 162, 163, 164, 165, 166, 167, 168, 169, 170, 171] (by decide +kernel) (by decide +kernel)
set_option maxRecDepth 20000 in
theorem gX10_table_X4_begin : GoodIn wsX10_table (wsV RX10 118 RX4 yX4_begin wsX4_begin) := goodIn_app (goodIn_of _ (by decide +kernel)) ggX10_table_X4_begin
set_option maxRecDepth 20000 in
theorem ggX10_table_X5_forget : GoodIn wsX10_table wsX5_forget := goodIn_r _ [128, 129, 130, 186, 187, 188] (by decide +kernel) (by decide +kernel)
set_option maxRecDepth 20000 in
theorem gX10_table_X5_forget : GoodIn wsX10_table (wsV RX10 121 RX5 yX5_forget wsX5_forget) := goodIn_app (goodIn_of _ (by decide +kernel)) ggX10_table_X5_forget
set_option maxRecDepth 20000 in
theorem ggX10_table_X3_forget : GoodIn wsX10_table wsX3_forget := goodIn_r _ [135, 136, 189, 190, 191] (by decide +kernel) (by decide +kernel)
set_option maxRecDepth 20000 in
theorem gX10_table_X3_forget : GoodIn wsX10_table (wsV RX10 124 RX3 yX3_forget wsX3_forget) := goodIn_app (goodIn_of _ (by decide +kernel)) ggX10_table_X3_forget
set_option maxRecDepth 20000 in
theorem ggX10_table_X2_forget : GoodIn wsX10_table wsX2_forget := goodIn_r _ [141, 142, 192, 193, 194] (by decide +kernel) (by decide +kernel)
set_option maxRecDepth 20000 in
theorem gX10_table_X2_forget : GoodIn wsX10_table (wsV RX10 125 RX2 yX2_forget wsX2_forget) := goodIn_app (goodIn_of _ (by decide +kernel)) ggX10_table_X2_forget
set_option maxRecDepth 20000 in
theorem ggX10_table_X1_forget : GoodIn wsX10_table wsX1_forget := goodIn_r _ [147, 148, 195, 196, 197] (by decide +kernel) (by decide +kernel)
set_option maxRecDepth 20000 in
theorem gX10_table_X1_forget : GoodIn wsX10_table (wsV RX10 126 RX1 yX1_forget wsX1_forget) := goodIn_app (goodIn_of _ (by decide +kernel)) ggX10_table_X1_forget
theorem dX10_table_0 : decode cX10_table 0 = .ok (.aload_n 0, 1) := by decide +kernel
theorem dX10_table_1 : decode cX10_table 1 = .ok (.getfield 13, 3) := by decide +kernel
theorem dX10_table_4 : decode cX10_table 4 = .ok (.aload_n 0, 1) := by decide +kernel
theorem dX10_table_5 : decode cX10_table 5 = .ok (.getfield 23, 3) := by decide +kernel
theorem dX10_table_8 : decode cX10_table 8 = .ok (.invokevirtual 105, 3) := by decide +kernel
theorem dX10_table_11 : decode cX10_table 11 = .ok (.istore_n 1, 1) := by decide +kernel
theorem dX10_table_12 : decode cX10_table 12 = .ok (.aload_n 0, 1) := by decide +kernel
theorem dX10_table_13 : decode cX10_table 13 = .ok (.aload_n 0, 1) := by decide +kernel
theorem dX10_table_14 : decode cX10_table 14 = .ok (.getfield 13, 3) := by decide +kernel
theorem dX10_table_17 : decode cX10_table 17 = .ok (.invokevirtual 109, 3) := by decide +kernel
theorem dX10_table_20 : decode cX10_table 20 = .ok (.putfield 84, 3) := by decide +kernel
theorem dX10_table_23 : decode cX10_table 23 = .ok (.aload_n 0, 1) := by decide +kernel
theorem dX10_table_24 : decode cX10_table 24 = .ok (.getfield 13, 3) := by decide +kernel
theorem dX10_table_27 : decode cX10_table 27 = .ok (.invokevirtual 112, 3) := by decide +kernel
theorem dX10_table_30 : decode cX10_table 30 = .ok (.iload_n 1, 1) := by decide +kernel
theorem dX10_table_31 : decode cX10_table 31 = .ok (.ifCond .eq 8, 3) := by decide +kernel
theorem dX10_table_34 : decode cX10_table 34 = .ok (.bipush (-10), 2) := by decide +kernel
theorem dX10_table_36 : decode cX10_table 36 = .ok (.iload_n 1, 1) := by decide +kernel
theorem dX10_table_37 : decode cX10_table 37 = .ok (.isub, 1) := by decide +kernel
theorem dX10_table_38 : decode cX10_table 38 = .ok (.ireturn, 1) := by decide +kernel
theorem dX10_table_39 : decode cX10_table 39 = .ok (.aload_n 0, 1) := by decide +kernel
theorem dX10_table_40 : decode cX10_table 40 = .ok (.getfield 19, 3) := by decide +kernel
theorem dX10_table_43 : decode cX10_table 43 = .ok (.aload_n 0, 1) := by decide +kernel
theorem dX10_table_44 : decode cX10_table 44 = .ok (.getfield 23, 3) := by decide +kernel
theorem dX10_table_47 : decode cX10_table 47 = .ok (.invokevirtual 115, 3) := by decide +kernel
theorem dX10_table_50 : decode cX10_table 50 = .ok (.aload_n 0, 1) := by decide +kernel
theorem dX10_table_51 : decode cX10_table 51 = .ok (.getfield 31, 3) := by decide +kernel
theorem dX10_table_54 : decode cX10_table 54 = .ok (.invokevirtual 118, 3) := by decide +kernel
theorem dX10_table_57 : decode cX10_table 57 = .ok (.aload_n 0, 1) := by decide +kernel
theorem dX10_table_58 : decode cX10_table 58 = .ok (.getfield 38, 3) := by decide +kernel
theorem dX10_table_61 : decode cX10_table 61 = .ok (.invokevirtual 121, 3) := by decide +kernel
theorem dX10_table_64 : decode cX10_table 64 = .ok (.aload_n 0, 1) := by decide +kernel
theorem dX10_table_65 : decode cX10_table 65 = .ok (.getfield 45, 3) := by decide +kernel
theorem dX10_table_68 : decode cX10_table 68 = .ok (.invokevirtual 124, 3) := by decide +kernel
theorem dX10_table_71 : decode cX10_table 71 = .ok (.aload_n 0, 1) := by decide +kernel
theorem dX10_table_72 : decode cX10_table 72 = .ok (.getfield 52, 3) := by decide +kernel
theorem dX10_table_75 : decode cX10_table 75 = .ok (.invokevirtual 125, 3) := by decide +kernel
theorem dX10_table_78 : decode cX10_table 78 = .ok (.aload_n 0, 1) := by decide +kernel
theorem dX10_table_79 : decode cX10_table 79 = .ok (.getfield 59, 3) := by decide +kernel
theorem dX10_table_82 : decode cX10_table 82 = .ok (.invokevirtual 126, 3) := by decide +kernel
theorem dX10_table_85 : decode cX10_table 85 = .ok (.aload_n 0, 1) := by decide +kernel
theorem dX10_table_86 : decode cX10_table 86 = .ok (.getfield 19, 3) := by decide +kernel
theorem dX10_table_89 : decode cX10_table 89 = .ok (.getfield 127, 3) := by decide +kernel
theorem dX10_table_92 : decode cX10_table 92 = .ok (.ireturn, 1) := by decide +kernel
theorem dX10_fault_0 : decode cX10_fault 0 = .ok (.aload_n 0, 1) := by decide +kernel
theorem dX10_fault_1 : decode cX10_fault 1 = .ok (.getfield 84, 3) := by decide +kernel
theorem dX10_fault_4 : decode cX10_fault 4 = .ok (.ireturn, 1) := by decide +kernel
set_option maxRecDepth 20000 in
theorem ggX10_told_X9_length : GoodIn wsX10_told wsX9_length := goodIn_r _ [12, 13, 116, 117, 118, 119, 120] (by decide +kernel) (by decide +kernel)
set_option maxRecDepth 20000 in
theorem gX10_told_X9_length : GoodIn wsX10_told (wsV RX10 100 RX9 yX9_length wsX9_length) := goodIn_app (goodIn_of _ (by decide +kernel)) ggX10_told_X9_length
set_option maxRecDepth 20000 in
theorem ggX10_told_X4_setThatIs : GoodIn wsX10_told wsX4_setThatIs := goodIn_r _ [18, 19, 20, 21, 17, 22, 23, 24, 25, 26, 27, 28, 29, 30, 98, 99, 100, 101, 102, 103, 104, 105, 106, 88, 89, 90, 91, 92, 93, 94, 95, 96, 97] (by decide +kernel) (by decide +kernel)
set_option maxRecDepth 20000 in
theorem gX10_told_X4_setThatIs : GoodIn wsX10_told (wsV RX10 157 RX4 yX4_setThatIs wsX4_setThatIs) := goodIn_app (goodIn_of _ (by decide +kernel)) ggX10_told_X4_setThatIs
set_option maxRecDepth 20000 in
theorem ggX10_told_X4_pretenders : GoodIn wsX10_told wsX4_pretenders := goodIn_r _ [34, 19, 20, 21, 17, 22, 23, 24, 25, 26, 27, 28, 29, 30, 35, 36, 37, 38, 39, 40, 41, 42, 43, 44, 45, 46, 47, 48, 49, 50, 51, 52, 53, 54, 55, 56, 57, 98, 99, 100, 101, 102, 103, 104, 105, 106, 88, 89, 90, 91, 92, 93, 94, 95, 96, 97] (by decide +kernel) (by decide +kernel)
set_option maxRecDepth 20000 in
theorem gX10_told_X4_pretenders : GoodIn wsX10_told (wsV RX10 161 RX4 yX4_pretenders wsX4_pretenders) := goodIn_app (goodIn_of _ (by decide +kernel)) ggX10_told_X4_pretenders
set_option maxRecDepth 20000 in
theorem ggX10_told_X4_heir : GoodIn wsX10_told wsX4_heir := goodIn_r _ [61, 19, 20, 21, 17, 22, 23, 24, 25, 26, 27, 28, 29, 30, 62, 63, 64, 65, 39, 40, 41, 42, 43, 66, 67, 68, 69, 70, 45, 46, 47, 48, 49, 50, 51, 52, 53, 54, 55, 56, 57, 71, 72, 73, 74, 98, 99, 100, 101, 102, 103, 104, 105, 106, 88, 89, 90, 91, 92, 93, 94, 95, 96, 97] (by decide +kernel) (by decide +kernel)
set_option maxRecDepth 20000 in
theorem gX10_told_X4_heir : GoodIn wsX10_told (wsV RX10 164 RX4 yX4_heir wsX4_heir) := goodIn_app (goodIn_of _ (by decide +kernel)) ggX10_told_X4_heir
theorem dX10_told_0 : decode cX10_told 0 = .ok (.iload_n 1, 1) := by decide +kernel
theorem dX10_told_1 : decode cX10_told 1 = .ok (.tableswitch 233 0 17 #[87, 95, 103, 111, 119, 127, 135, 143, 151, 159, 167, 175, 184, 193, 201, 209, 217, 225], 87) := by decide +kernel
theorem dX10_told_88 : decode cX10_told 88 = .ok (.aload_n 0, 1) := by decide +kernel
theorem dX10_told_89 : decode cX10_told 89 = .ok (.getfield 19, 3) := by decide +kernel
theorem dX10_told_92 : decode cX10_told 92 = .ok (.getfield 130, 3) := by decide +kernel
theorem dX10_told_95 : decode cX10_told 95 = .ok (.ireturn, 1) := by decide +kernel
theorem dX10_told_96 : decode cX10_told 96 = .ok (.aload_n 0, 1) := by decide +kernel
theorem dX10_told_97 : decode cX10_told 97 = .ok (.getfield 31, 3) := by decide +kernel
theorem dX10_told_100 : decode cX10_told 100 = .ok (.getfield 133, 3) := by decide +kernel
theorem dX10_told_103 : decode cX10_told 103 = .ok (.ireturn, 1) := by decide +kernel
theorem dX10_told_104 : decode cX10_told 104 = .ok (.aload_n 0, 1) := by decide +kernel
theorem dX10_told_105 : decode cX10_told 105 = .ok (.getfield 19, 3) := by decide +kernel
theorem dX10_told_108 : decode cX10_told 108 = .ok (.getfield 136, 3) := by decide +kernel
theorem dX10_told_111 : decode cX10_told 111 = .ok (.ireturn, 1) := by decide +kernel
theorem dX10_told_112 : decode cX10_told 112 = .ok (.aload_n 0, 1) := by decide +kernel
theorem dX10_told_113 : decode cX10_told 113 = .ok (.getfield 19, 3) := by decide +kernel
theorem dX10_told_116 : decode cX10_told 116 = .ok (.getfield 127, 3) := by decide +kernel
theorem dX10_told_119 : decode cX10_told 119 = .ok (.ireturn, 1) := by decide +kernel
theorem dX10_told_120 : decode cX10_told 120 = .ok (.aload_n 0, 1) := by decide +kernel
theorem dX10_told_121 : decode cX10_told 121 = .ok (.getfield 19, 3) := by decide +kernel
theorem dX10_told_124 : decode cX10_told 124 = .ok (.getfield 139, 3) := by decide +kernel
theorem dX10_told_127 : decode cX10_told 127 = .ok (.ireturn, 1) := by decide +kernel
theorem dX10_told_128 : decode cX10_told 128 = .ok (.aload_n 0, 1) := by decide +kernel
theorem dX10_told_129 : decode cX10_told 129 = .ok (.getfield 13, 3) := by decide +kernel
theorem dX10_told_132 : decode cX10_told 132 = .ok (.invokevirtual 100, 3) := by decide +kernel
theorem dX10_told_135 : decode cX10_told 135 = .ok (.ireturn, 1) := by decide +kernel
theorem dX10_told_136 : decode cX10_told 136 = .ok (.aload_n 0, 1) := by decide +kernel
theorem dX10_told_137 : decode cX10_told 137 = .ok (.getfield 31, 3) := by decide +kernel
theorem dX10_told_140 : decode cX10_told 140 = .ok (.getfield 142, 3) := by decide +kernel
theorem dX10_told_143 : decode cX10_told 143 = .ok (.ireturn, 1) := by decide +kernel
theorem dX10_told_144 : decode cX10_told 144 = .ok (.aload_n 0, 1) := by decide +kernel
theorem dX10_told_145 : decode cX10_told 145 = .ok (.getfield 31, 3) := by decide +kernel
theorem dX10_told_148 : decode cX10_told 148 = .ok (.getfield 145, 3) := by decide +kernel
theorem dX10_told_151 : decode cX10_told 151 = .ok (.ireturn, 1) := by decide +kernel
theorem dX10_told_152 : decode cX10_told 152 = .ok (.aload_n 0, 1) := by decide +kernel
theorem dX10_told_153 : decode cX10_told 153 = .ok (.getfield 31, 3) := by decide +kernel
theorem dX10_told_156 : decode cX10_told 156 = .ok (.getfield 148, 3) := by decide +kernel
theorem dX10_told_159 : decode cX10_told 159 = .ok (.ireturn, 1) := by decide +kernel
theorem dX10_told_160 : decode cX10_told 160 = .ok (.aload_n 0, 1) := by decide +kernel
theorem dX10_told_161 : decode cX10_told 161 = .ok (.getfield 31, 3) := by decide +kernel
theorem dX10_told_164 : decode cX10_told 164 = .ok (.getfield 151, 3) := by decide +kernel
theorem dX10_told_167 : decode cX10_told 167 = .ok (.ireturn, 1) := by decide +kernel
theorem dX10_told_168 : decode cX10_told 168 = .ok (.aload_n 0, 1) := by decide +kernel
theorem dX10_told_169 : decode cX10_told 169 = .ok (.getfield 31, 3) := by decide +kernel
theorem dX10_told_172 : decode cX10_told 172 = .ok (.getfield 154, 3) := by decide +kernel
theorem dX10_told_175 : decode cX10_told 175 = .ok (.ireturn, 1) := by decide +kernel
theorem dX10_told_176 : decode cX10_told 176 = .ok (.aload_n 0, 1) := by decide +kernel
theorem dX10_told_177 : decode cX10_told 177 = .ok (.getfield 31, 3) := by decide +kernel
theorem dX10_told_180 : decode cX10_told 180 = .ok (.iconst 1, 1) := by decide +kernel
theorem dX10_told_181 : decode cX10_told 181 = .ok (.invokevirtual 157, 3) := by decide +kernel
theorem dX10_told_184 : decode cX10_told 184 = .ok (.ireturn, 1) := by decide +kernel
theorem dX10_told_185 : decode cX10_told 185 = .ok (.aload_n 0, 1) := by decide +kernel
theorem dX10_told_186 : decode cX10_told 186 = .ok (.getfield 31, 3) := by decide +kernel
theorem dX10_told_189 : decode cX10_told 189 = .ok (.iconst 2, 1) := by decide +kernel
theorem dX10_told_190 : decode cX10_told 190 = .ok (.invokevirtual 157, 3) := by decide +kernel
theorem dX10_told_193 : decode cX10_told 193 = .ok (.ireturn, 1) := by decide +kernel
theorem dX10_told_194 : decode cX10_told 194 = .ok (.aload_n 0, 1) := by decide +kernel
theorem dX10_told_195 : decode cX10_told 195 = .ok (.getfield 31, 3) := by decide +kernel
theorem dX10_told_198 : decode cX10_told 198 = .ok (.invokevirtual 161, 3) := by decide +kernel
theorem dX10_told_201 : decode cX10_told 201 = .ok (.ireturn, 1) := by decide +kernel
theorem dX10_told_202 : decode cX10_told 202 = .ok (.aload_n 0, 1) := by decide +kernel
theorem dX10_told_203 : decode cX10_told 203 = .ok (.getfield 31, 3) := by decide +kernel
theorem dX10_told_206 : decode cX10_told 206 = .ok (.invokevirtual 164, 3) := by decide +kernel
theorem dX10_told_209 : decode cX10_told 209 = .ok (.ireturn, 1) := by decide +kernel
theorem dX10_told_210 : decode cX10_told 210 = .ok (.aload_n 0, 1) := by decide +kernel
theorem dX10_told_211 : decode cX10_told 211 = .ok (.getfield 52, 3) := by decide +kernel
theorem dX10_told_214 : decode cX10_told 214 = .ok (.getfield 167, 3) := by decide +kernel
theorem dX10_told_217 : decode cX10_told 217 = .ok (.ireturn, 1) := by decide +kernel
theorem dX10_told_218 : decode cX10_told 218 = .ok (.aload_n 0, 1) := by decide +kernel
theorem dX10_told_219 : decode cX10_told 219 = .ok (.getfield 59, 3) := by decide +kernel
theorem dX10_told_222 : decode cX10_told 222 = .ok (.getfield 170, 3) := by decide +kernel
theorem dX10_told_225 : decode cX10_told 225 = .ok (.ireturn, 1) := by decide +kernel
theorem dX10_told_226 : decode cX10_told 226 = .ok (.aload_n 0, 1) := by decide +kernel
theorem dX10_told_227 : decode cX10_told 227 = .ok (.getfield 38, 3) := by decide +kernel
theorem dX10_told_230 : decode cX10_told 230 = .ok (.getfield 171, 3) := by decide +kernel
theorem dX10_told_233 : decode cX10_told 233 = .ok (.ireturn, 1) := by decide +kernel
theorem dX10_told_234 : decode cX10_told 234 = .ok (.ldc 95, 2) := by decide +kernel
theorem dX10_told_236 : decode cX10_told 236 = .ok (.ireturn, 1) := by decide +kernel
set_option maxRecDepth 20000 in
theorem ggX10_egg_X8_hasEgg : GoodIn wsX10_egg wsX8_hasEgg := goodIn_r _ [9, 10, 79, 80, 81, 82, 83, 84, 85, 86, 87, 88] (by decide +kernel) (by decide +kernel)
set_option maxRecDepth 20000 in
theorem gX10_egg_X8_hasEgg : GoodIn wsX10_egg (wsV RX10 172 RX8 yX8_hasEgg wsX8_hasEgg) := goodIn_app (goodIn_of _ (by decide +kernel)) ggX10_egg_X8_hasEgg
set_option maxRecDepth 20000 in
theorem ggX10_egg_X8_ageOf : GoodIn wsX10_egg wsX8_ageOf := goodIn_r _ [14, 15, 16, 6, 7, 8, 9, 10, 79, 80, 81, 82, 83, 84, 85, 86, 87, 88] (by decide +kernel) (by decide +kernel)
set_option maxRecDepth 20000 in
theorem gX10_egg_X8_ageOf : GoodIn wsX10_egg (wsV RX10 176 RX8 yX8_ageOf wsX8_ageOf) := goodIn_app (goodIn_of _ (by decide +kernel)) ggX10_egg_X8_ageOf
set_option maxRecDepth 20000 in
theorem ggX10_egg_X8_sizeOf : GoodIn wsX10_egg wsX8_sizeOf := goodIn_r _ [20, 21, 16, 6, 7, 8, 9, 10, 79, 80, 81, 82, 83, 84, 85, 86, 87, 88] (by decide +kernel) (by decide +kernel)
set_option maxRecDepth 20000 in
theorem gX10_egg_X8_sizeOf : GoodIn wsX10_egg (wsV RX10 179 RX8 yX8_sizeOf wsX8_sizeOf) := goodIn_app (goodIn_of _ (by decide +kernel)) ggX10_egg_X8_sizeOf
set_option maxRecDepth 20000 in
theorem ggX10_egg_X4_stateOf : GoodIn wsX10_egg wsX4_stateOf := goodIn_r _ [26, 27, 28, 29, 6, 7, 8, 9, 10, 89, 90, 91, 92, 93, 94, 95, 96, 97, 79, 80, 81, 82, 83, 84, 85, 86, 87, 88] (by decide +kernel) (by decide +kernel)
set_option maxRecDepth 20000 in
theorem gX10_egg_X4_stateOf : GoodIn wsX10_egg (wsV RX10 182 RX4 yX4_stateOf wsX4_stateOf) := goodIn_app (goodIn_of _ (by decide +kernel)) ggX10_egg_X4_stateOf
set_option maxRecDepth 20000 in
theorem ggX10_egg_X4_boiledOf : GoodIn wsX10_egg wsX4_boiledOf := goodIn_r _ [33, 27, 34, 29, 6, 7, 8, 9, 10, 89, 90, 91, 92, 93, 94, 95, 96, 97, 79, 80, 81, 82, 83, 84, 85, 86, 87, 88] (by decide +kernel) (by decide +kernel)
set_option maxRecDepth 20000 in
theorem gX10_egg_X4_boiledOf : GoodIn wsX10_egg (wsV RX10 185 RX4 yX4_boiledOf wsX4_boiledOf) := goodIn_app (goodIn_of _ (by decide +kernel)) ggX10_egg_X4_boiledOf
set_option maxRecDepth 20000 in
theorem ggX10_egg_X4_hardnessOf : GoodIn wsX10_egg wsX4_hardnessOf := goodIn_r _ [38, 27, 39, 31, 32, 25, 33, 34, 29, 6, 7, 8, 9, 10, 40, 41, 42, 43, 21, 15, 44, 45, 46, 47, 48, 49, 50, 16, 89, 90, 91, 92, 93, 94, 95, 96, 97, 79, 80, 81, 82, 83, 84, 85, 86, 87, 88] (by decide +kernel) (by decide +kernel)
set_option maxRecDepth 20000 in
theorem gX10_egg_X4_hardnessOf : GoodIn wsX10_egg (wsV RX10 188 RX4 yX4_hardnessOf wsX4_hardnessOf) := goodIn_app (goodIn_of _ (by decide +kernel)) ggX10_egg_X4_hardnessOf
set_option maxRecDepth 20000 in
theorem ggX10_egg_X4_reignOf : GoodIn wsX10_egg wsX4_reignOf := goodIn_r _ [54, 27, 39, 31, 32, 25, 33, 34, 29, 6, 7, 8, 9, 10, 55, 56, 57, 58, 59, 41, 42, 43, 21, 15, 44, 45, 46, 47, 48, 49, 50, 16, 60, 18, 19, 20, 89, 90, 91, 92, 93, 94, 95, 96, 97, 79, 80, 81, 82, 83, 84, 85, 86, 87, 88] (by decide +kernel) (by decide +kernel)
set_option maxRecDepth 20000 in
theorem gX10_egg_X4_reignOf : GoodIn wsX10_egg (wsV RX10 191 RX4 yX4_reignOf wsX4_reignOf) := goodIn_app (goodIn_of _ (by decide +kernel)) ggX10_egg_X4_reignOf
set_option maxRecDepth 20000 in
theorem ggX10_egg_X8_wishOf : GoodIn wsX10_egg wsX8_wishOf := goodIn_r _ [64, 65, 16, 6, 7, 8, 9, 10, 79, 80, 81, 82, 83, 84, 85, 86, 87, 88] (by decide +kernel) (by decide +kernel)
set_option maxRecDepth 20000 in
theorem gX10_egg_X8_wishOf : GoodIn wsX10_egg (wsV RX10 194 RX8 yX8_wishOf wsX8_wishOf) := goodIn_app (goodIn_of _ (by decide +kernel)) ggX10_egg_X8_wishOf
theorem dX10_egg_0 : decode cX10_egg 0 = .ok (.aload_n 0, 1) := by decide +kernel
theorem dX10_egg_1 : decode cX10_egg 1 = .ok (.getfield 19, 3) := by decide +kernel
theorem dX10_egg_4 : decode cX10_egg 4 = .ok (.iload_n 1, 1) := by decide +kernel
theorem dX10_egg_5 : decode cX10_egg 5 = .ok (.invokevirtual 172, 3) := by decide +kernel
theorem dX10_egg_8 : decode cX10_egg 8 = .ok (.ifCond .ne 6, 3) := by decide +kernel
theorem dX10_egg_11 : decode cX10_egg 11 = .ok (.ldc 175, 2) := by decide +kernel
theorem dX10_egg_13 : decode cX10_egg 13 = .ok (.ireturn, 1) := by decide +kernel
theorem dX10_egg_14 : decode cX10_egg 14 = .ok (.iload_n 2, 1) := by decide +kernel
theorem dX10_egg_15 : decode cX10_egg 15 = .ok (.tableswitch 104 0 6 #[41, 50, 59, 68, 77, 86, 95], 41) := by decide +kernel
theorem dX10_egg_56 : decode cX10_egg 56 = .ok (.aload_n 0, 1) := by decide +kernel
theorem dX10_egg_57 : decode cX10_egg 57 = .ok (.getfield 19, 3) := by decide +kernel
theorem dX10_egg_60 : decode cX10_egg 60 = .ok (.iload_n 1, 1) := by decide +kernel
theorem dX10_egg_61 : decode cX10_egg 61 = .ok (.invokevirtual 176, 3) := by decide +kernel
theorem dX10_egg_64 : decode cX10_egg 64 = .ok (.ireturn, 1) := by decide +kernel
theorem dX10_egg_65 : decode cX10_egg 65 = .ok (.aload_n 0, 1) := by decide +kernel
theorem dX10_egg_66 : decode cX10_egg 66 = .ok (.getfield 19, 3) := by decide +kernel
theorem dX10_egg_69 : decode cX10_egg 69 = .ok (.iload_n 1, 1) := by decide +kernel
theorem dX10_egg_70 : decode cX10_egg 70 = .ok (.invokevirtual 179, 3) := by decide +kernel
theorem dX10_egg_73 : decode cX10_egg 73 = .ok (.ireturn, 1) := by decide +kernel
theorem dX10_egg_74 : decode cX10_egg 74 = .ok (.aload_n 0, 1) := by decide +kernel
theorem dX10_egg_75 : decode cX10_egg 75 = .ok (.getfield 31, 3) := by decide +kernel
theorem dX10_egg_78 : decode cX10_egg 78 = .ok (.iload_n 1, 1) := by decide +kernel
theorem dX10_egg_79 : decode cX10_egg 79 = .ok (.invokevirtual 182, 3) := by decide +kernel
theorem dX10_egg_82 : decode cX10_egg 82 = .ok (.ireturn, 1) := by decide +kernel
theorem dX10_egg_83 : decode cX10_egg 83 = .ok (.aload_n 0, 1) := by decide +kernel
theorem dX10_egg_84 : decode cX10_egg 84 = .ok (.getfield 31, 3) := by decide +kernel
theorem dX10_egg_87 : decode cX10_egg 87 = .ok (.iload_n 1, 1) := by decide +kernel
theorem dX10_egg_88 : decode cX10_egg 88 = .ok (.invokevirtual 185, 3) := by decide +kernel
theorem dX10_egg_91 : decode cX10_egg 91 = .ok (.ireturn, 1) := by decide +kernel
theorem dX10_egg_92 : decode cX10_egg 92 = .ok (.aload_n 0, 1) := by decide +kernel
theorem dX10_egg_93 : decode cX10_egg 93 = .ok (.getfield 31, 3) := by decide +kernel
theorem dX10_egg_96 : decode cX10_egg 96 = .ok (.iload_n 1, 1) := by decide +kernel
theorem dX10_egg_97 : decode cX10_egg 97 = .ok (.invokevirtual 188, 3) := by decide +kernel
theorem dX10_egg_100 : decode cX10_egg 100 = .ok (.ireturn, 1) := by decide +kernel
theorem dX10_egg_101 : decode cX10_egg 101 = .ok (.aload_n 0, 1) := by decide +kernel
theorem dX10_egg_102 : decode cX10_egg 102 = .ok (.getfield 31, 3) := by decide +kernel
theorem dX10_egg_105 : decode cX10_egg 105 = .ok (.iload_n 1, 1) := by decide +kernel
theorem dX10_egg_106 : decode cX10_egg 106 = .ok (.invokevirtual 191, 3) := by decide +kernel
theorem dX10_egg_109 : decode cX10_egg 109 = .ok (.ireturn, 1) := by decide +kernel
theorem dX10_egg_110 : decode cX10_egg 110 = .ok (.aload_n 0, 1) := by decide +kernel
theorem dX10_egg_111 : decode cX10_egg 111 = .ok (.getfield 19, 3) := by decide +kernel
theorem dX10_egg_114 : decode cX10_egg 114 = .ok (.iload_n 1, 1) := by decide +kernel
theorem dX10_egg_115 : decode cX10_egg 115 = .ok (.invokevirtual 194, 3) := by decide +kernel
theorem dX10_egg_118 : decode cX10_egg 118 = .ok (.ireturn, 1) := by decide +kernel
theorem dX10_egg_119 : decode cX10_egg 119 = .ok (.ldc 95, 2) := by decide +kernel
theorem dX10_egg_121 : decode cX10_egg 121 = .ok (.ireturn, 1) := by decide +kernel
set_option maxRecDepth 20000 in
theorem ggX10_eater_X8_hasEater : GoodIn wsX10_eater wsX8_hasEater := goodIn_r _ [8, 9, 34, 35, 36, 37, 38, 39, 40, 41, 42, 43] (by decide +kernel) (by decide +kernel)
set_option maxRecDepth 20000 in
theorem gX10_eater_X8_hasEater : GoodIn wsX10_eater (wsV RX10 197 RX8 yX8_hasEater wsX8_hasEater) := goodIn_app (goodIn_of _ (by decide +kernel)) ggX10_eater_X8_hasEater
set_option maxRecDepth 20000 in
theorem ggX10_eater_X8_softestFor : GoodIn wsX10_eater wsX8_softestFor := goodIn_r _ [13, 14, 15, 5, 6, 7, 8, 9, 34, 35, 36, 37, 38, 39, 40, 41, 42, 43] (by decide +kernel) (by decide +kernel)
set_option maxRecDepth 20000 in
theorem gX10_eater_X8_softestFor : GoodIn wsX10_eater (wsV RX10 200 RX8 yX8_softestFor wsX8_softestFor) := goodIn_app (goodIn_of _ (by decide +kernel)) ggX10_eater_X8_softestFor
set_option maxRecDepth 20000 in
theorem ggX10_eater_X8_hardestFor : GoodIn wsX10_eater wsX8_hardestFor := goodIn_r _ [19, 20, 15, 5, 6, 7, 8, 9, 34, 35, 36, 37, 38, 39, 40, 41, 42, 43] (by decide +kernel) (by decide +kernel)
set_option maxRecDepth 20000 in
theorem gX10_eater_X8_hardestFor : GoodIn wsX10_eater (wsV RX10 203 RX8 yX8_hardestFor wsX8_hardestFor) := goodIn_app (goodIn_of _ (by decide +kernel)) ggX10_eater_X8_hardestFor
theorem dX10_eater_0 : decode cX10_eater 0 = .ok (.aload_n 0, 1) := by decide +kernel
theorem dX10_eater_1 : decode cX10_eater 1 = .ok (.getfield 19, 3) := by decide +kernel
theorem dX10_eater_4 : decode cX10_eater 4 = .ok (.iload_n 1, 1) := by decide +kernel
theorem dX10_eater_5 : decode cX10_eater 5 = .ok (.invokevirtual 197, 3) := by decide +kernel
theorem dX10_eater_8 : decode cX10_eater 8 = .ok (.ifCond .ne 6, 3) := by decide +kernel
theorem dX10_eater_11 : decode cX10_eater 11 = .ok (.ldc 175, 2) := by decide +kernel
theorem dX10_eater_13 : decode cX10_eater 13 = .ok (.ireturn, 1) := by decide +kernel
theorem dX10_eater_14 : decode cX10_eater 14 = .ok (.iload_n 2, 1) := by decide +kernel
theorem dX10_eater_15 : decode cX10_eater 15 = .ok (.lookupswitch 43 #[(0, 25), (1, 34)], 25) := by decide +kernel
theorem dX10_eater_40 : decode cX10_eater 40 = .ok (.aload_n 0, 1) := by decide +kernel
theorem dX10_eater_41 : decode cX10_eater 41 = .ok (.getfield 19, 3) := by decide +kernel
theorem dX10_eater_44 : decode cX10_eater 44 = .ok (.iload_n 1, 1) := by decide +kernel
theorem dX10_eater_45 : decode cX10_eater 45 = .ok (.invokevirtual 200, 3) := by decide +kernel
theorem dX10_eater_48 : decode cX10_eater 48 = .ok (.ireturn, 1) := by decide +kernel
theorem dX10_eater_49 : decode cX10_eater 49 = .ok (.aload_n 0, 1) := by decide +kernel
theorem dX10_eater_50 : decode cX10_eater 50 = .ok (.getfield 19, 3) := by decide +kernel
theorem dX10_eater_53 : decode cX10_eater 53 = .ok (.iload_n 1, 1) := by decide +kernel
theorem dX10_eater_54 : decode cX10_eater 54 = .ok (.invokevirtual 203, 3) := by decide +kernel
theorem dX10_eater_57 : decode cX10_eater 57 = .ok (.ireturn, 1) := by decide +kernel
theorem dX10_eater_58 : decode cX10_eater 58 = .ok (.ldc 95, 2) := by decide +kernel
theorem dX10_eater_60 : decode cX10_eater 60 = .ok (.ireturn, 1) := by decide +kernel
set_option maxRecDepth 20000 in
theorem ggX10_minute_X10_refusalOfMinutes : GoodIn wsX10_minute wsX10_refusalOfMinutes := goodIn_r _ [7, 8, 9, 10, 2, 11, 12, 13, 6, 14, 15, 16, 17, 18, 19, 20, 79, 80, 81, 82, 83, 84, 85, 86, 87, 88, 89, 90, 91, 92, 93, 94, 95, 96, 97, 98, 99, 100, 101, 102, 103, 104, 105, 106, 107, 108, 109, 110] (by decide +kernel) (by decide +kernel)
set_option maxRecDepth 20000 in
theorem gX10_minute_X10_refusalOfMinutes : GoodIn wsX10_minute (wsV RX10 206 RX10 yX10_refusalOfMinutes wsX10_refusalOfMinutes) := goodIn_app (goodIn_of _ (by decide +kernel)) ggX10_minute_X10_refusalOfMinutes
set_option maxRecDepth 20000 in
theorem ggX10_minute_X5_remember : GoodIn wsX10_minute wsX5_remember := goodIn_r _ [25, 26, 27, 28, 29, 30, 31, 32, 33, 34, 35, 36, 37, 38, 39, 40, 41, 42, 43, 44, 45, 46, 47, 48, 111, 112, 113, 92, 93, 94, 95, 96, 97, 98, 99, 100] (by decide +kernel) (by decide +kernel)
set_option maxRecDepth 20000 in
theorem gX10_minute_X5_remember : GoodIn wsX10_minute (wsV RX10 209 RX5 yX5_remember wsX5_remember) := goodIn_app (goodIn_of _ (by decide +kernel)) ggX10_minute_X5_remember
set_option maxRecDepth 20000 in
theorem ggX10_minute_X4_passMinute : GoodIn wsX10_minute wsX4_passMinute := goodIn_r _ [52, 43, 40, 53, 54, 55, 32, 56, 57, 34, 58, 59, 60, 18, 61, 62, 63, 64, 65, 66, 39, 67, 68, 69, 70, 42, 44, 41, 45, 71, 72, 73, 74, 75, 76, 77, 78, 92, 93, 94, 95, 96, 97, 98, 99, 100, 101, 102, 103, 104, 105, 106, 107, 108, 109, 110] (by decide +kernel) (by decide +kernel)
set_option maxRecDepth 20000 in
theorem gX10_minute_X4_passMinute : GoodIn wsX10_minute (wsV RX10 213 RX4 yX4_passMinute wsX4_passMinute) := goodIn_app (goodIn_of _ (by decide +kernel)) ggX10_minute_X4_passMinute
theorem dX10_minute_0 : decode cX10_minute 0 = .ok (.aload_n 0, 1) := by decide +kernel
theorem dX10_minute_1 : decode cX10_minute 1 = .ok (.iload_n 1, 1) := by decide +kernel
theorem dX10_minute_2 : decode cX10_minute 2 = .ok (.invokevirtual 206, 3) := by decide +kernel
theorem dX10_minute_5 : decode cX10_minute 5 = .ok (.istore_n 2, 1) := by decide +kernel
theorem dX10_minute_6 : decode cX10_minute 6 = .ok (.iload_n 2, 1) := by decide +kernel
theorem dX10_minute_7 : decode cX10_minute 7 = .ok (.ifCond .eq 5, 3) := by decide +kernel
theorem dX10_minute_10 : decode cX10_minute 10 = .ok (.iload_n 2, 1) := by decide +kernel
theorem dX10_minute_11 : decode cX10_minute 11 = .ok (.ireturn, 1) := by decide +kernel
theorem dX10_minute_12 : decode cX10_minute 12 = .ok (.aload_n 0, 1) := by decide +kernel
theorem dX10_minute_13 : decode cX10_minute 13 = .ok (.getfield 38, 3) := by decide +kernel
theorem dX10_minute_16 : decode cX10_minute 16 = .ok (.aload_n 0, 1) := by decide +kernel
theorem dX10_minute_17 : decode cX10_minute 17 = .ok (.getfield 31, 3) := by decide +kernel
theorem dX10_minute_20 : decode cX10_minute 20 = .ok (.invokevirtual 209, 3) := by decide +kernel
theorem dX10_minute_23 : decode cX10_minute 23 = .ok (.iconst 0, 1) := by decide +kernel
theorem dX10_minute_24 : decode cX10_minute 24 = .ok (.istore_n 3, 1) := by decide +kernel
theorem dX10_minute_25 : decode cX10_minute 25 = .ok (.iload_n 3, 1) := by decide +kernel
theorem dX10_minute_26 : decode cX10_minute 26 = .ok (.iload_n 1, 1) := by decide +kernel
theorem dX10_minute_27 : decode cX10_minute 27 = .ok (.if_icmp .ge 16, 3) := by decide +kernel
theorem dX10_minute_30 : decode cX10_minute 30 = .ok (.aload_n 0, 1) := by decide +kernel
theorem dX10_minute_31 : decode cX10_minute 31 = .ok (.getfield 31, 3) := by decide +kernel
theorem dX10_minute_34 : decode cX10_minute 34 = .ok (.invokevirtual 213, 3) := by decide +kernel
theorem dX10_minute_37 : decode cX10_minute 37 = .ok (.iinc 3 1, 3) := by decide +kernel
theorem dX10_minute_40 : decode cX10_minute 40 = .ok (.goto (-15), 3) := by decide +kernel
theorem dX10_minute_43 : decode cX10_minute 43 = .ok (.aload_n 0, 1) := by decide +kernel
theorem dX10_minute_44 : decode cX10_minute 44 = .ok (.getfield 31, 3) := by decide +kernel
theorem dX10_minute_47 : decode cX10_minute 47 = .ok (.getfield 142, 3) := by decide +kernel
theorem dX10_minute_50 : decode cX10_minute 50 = .ok (.ireturn, 1) := by decide +kernel
set_option maxRecDepth 20000 in
theorem ggX10_put_X8_hasEgg : GoodIn wsX10_put wsX8_hasEgg := goodIn_r _ [10, 11, 87, 88, 89, 90, 91, 92, 93, 94, 95, 96] (by decide +kernel) (by decide +kernel)
set_option maxRecDepth 20000 in
theorem gX10_put_X8_hasEgg : GoodIn wsX10_put (wsV RX10 172 RX8 yX8_hasEgg wsX8_hasEgg) := goodIn_app (goodIn_of _ (by decide +kernel)) ggX10_put_X8_hasEgg
set_option maxRecDepth 20000 in
theorem ggX10_put_X4_canGoIn : GoodIn wsX10_put wsX4_canGoIn := goodIn_r _ [16, 17, 18, 19, 20, 15, 21, 22, 23, 7, 8, 9, 10, 11, 24, 25, 26, 27, 28, 29, 30, 31, 32, 33, 34, 35, 36, 37, 38, 97, 98, 99, 100, 101, 102, 103, 104, 105, 87, 88, 89, 90, 91, 92, 93, 94, 95, 96] (by decide +kernel) (by decide +kernel)
set_option maxRecDepth 20000 in
theorem gX10_put_X4_canGoIn : GoodIn wsX10_put (wsV RX10 216 RX4 yX4_canGoIn wsX4_canGoIn) := goodIn_app (goodIn_of _ (by decide +kernel)) ggX10_put_X4_canGoIn
set_option maxRecDepth 20000 in
theorem ggX10_put_X5_remember : GoodIn wsX10_put wsX5_remember := goodIn_r _ [43, 44, 45, 46, 47, 48, 49, 15, 50, 22, 51, 52, 53, 54, 55, 56, 57, 58, 59, 60, 61, 62, 63, 64, 106, 107, 108, 97, 98, 99, 100, 101, 102, 103, 104, 105] (by decide +kernel) (by decide +kernel)
set_option maxRecDepth 20000 in
theorem gX10_put_X5_remember : GoodIn wsX10_put (wsV RX10 209 RX5 yX5_remember wsX5_remember) := goodIn_app (goodIn_of _ (by decide +kernel)) ggX10_put_X5_remember
set_option maxRecDepth 20000 in
theorem ggX10_put_X4_goIn : GoodIn wsX10_put wsX4_goIn := goodIn_r _ [68, 69, 70, 71, 15, 72, 17, 22, 23, 7, 8, 9, 10, 11, 97, 98, 99, 100, 101, 102, 103, 104, 105, 87, 88, 89, 90, 91, 92, 93, 94, 95, 96] (by decide +kernel) (by decide +kernel)
set_option maxRecDepth 20000 in
theorem gX10_put_X4_goIn : GoodIn wsX10_put (wsV RX10 220 RX4 yX4_goIn wsX4_goIn) := goodIn_app (goodIn_of _ (by decide +kernel)) ggX10_put_X4_goIn
set_option maxRecDepth 20000 in
theorem ggX10_put_X4_howManyInPan : GoodIn wsX10_put wsX4_howManyInPan := goodIn_r _ [27, 28, 29, 30, 15, 31, 18, 19, 20, 21, 17, 22, 23, 7, 8, 9, 10, 11, 32, 33, 34, 35, 36, 37, 38, 97, 98, 99, 100, 101, 102, 103, 104, 105, 87, 88, 89, 90, 91, 92, 93, 94, 95, 96] (by decide +kernel) (by decide +kernel)
set_option maxRecDepth 20000 in
theorem gX10_put_X4_howManyInPan : GoodIn wsX10_put (wsV RX10 224 RX4 yX4_howManyInPan wsX4_howManyInPan) := goodIn_app (goodIn_of _ (by decide +kernel)) ggX10_put_X4_howManyInPan
theorem dX10_put_0 : decode cX10_put 0 = .ok (.aload_n 0, 1) := by decide +kernel
theorem dX10_put_1 : decode cX10_put 1 = .ok (.getfield 19, 3) := by decide +kernel
theorem dX10_put_4 : decode cX10_put 4 = .ok (.iload_n 1, 1) := by decide +kernel
theorem dX10_put_5 : decode cX10_put 5 = .ok (.invokevirtual 172, 3) := by decide +kernel
theorem dX10_put_8 : decode cX10_put 8 = .ok (.ifCond .ne 6, 3) := by decide +kernel
theorem dX10_put_11 : decode cX10_put 11 = .ok (.ldc 175, 2) := by decide +kernel
theorem dX10_put_13 : decode cX10_put 13 = .ok (.ireturn, 1) := by decide +kernel
theorem dX10_put_14 : decode cX10_put 14 = .ok (.aload_n 0, 1) := by decide +kernel
theorem dX10_put_15 : decode cX10_put 15 = .ok (.getfield 31, 3) := by decide +kernel
theorem dX10_put_18 : decode cX10_put 18 = .ok (.iload_n 1, 1) := by decide +kernel
theorem dX10_put_19 : decode cX10_put 19 = .ok (.invokevirtual 216, 3) := by decide +kernel
theorem dX10_put_22 : decode cX10_put 22 = .ok (.ifCond .ne 6, 3) := by decide +kernel
theorem dX10_put_25 : decode cX10_put 25 = .ok (.ldc 219, 2) := by decide +kernel
theorem dX10_put_27 : decode cX10_put 27 = .ok (.ireturn, 1) := by decide +kernel
theorem dX10_put_28 : decode cX10_put 28 = .ok (.aload_n 0, 1) := by decide +kernel
theorem dX10_put_29 : decode cX10_put 29 = .ok (.getfield 38, 3) := by decide +kernel
theorem dX10_put_32 : decode cX10_put 32 = .ok (.aload_n 0, 1) := by decide +kernel
theorem dX10_put_33 : decode cX10_put 33 = .ok (.getfield 31, 3) := by decide +kernel
theorem dX10_put_36 : decode cX10_put 36 = .ok (.invokevirtual 209, 3) := by decide +kernel
theorem dX10_put_39 : decode cX10_put 39 = .ok (.aload_n 0, 1) := by decide +kernel
theorem dX10_put_40 : decode cX10_put 40 = .ok (.getfield 31, 3) := by decide +kernel
theorem dX10_put_43 : decode cX10_put 43 = .ok (.iload_n 1, 1) := by decide +kernel
theorem dX10_put_44 : decode cX10_put 44 = .ok (.invokevirtual 220, 3) := by decide +kernel
theorem dX10_put_47 : decode cX10_put 47 = .ok (.aload_n 0, 1) := by decide +kernel
theorem dX10_put_48 : decode cX10_put 48 = .ok (.getfield 31, 3) := by decide +kernel
theorem dX10_put_51 : decode cX10_put 51 = .ok (.invokevirtual 224, 3) := by decide +kernel
theorem dX10_put_54 : decode cX10_put 54 = .ok (.ireturn, 1) := by decide +kernel
set_option maxRecDepth 20000 in
theorem ggX10_takeOut_X8_hasEgg : GoodIn wsX10_takeOut wsX8_hasEgg := goodIn_r _ [10, 11, 93, 94, 95, 96, 97, 98, 99, 100, 101, 102] (by decide +kernel) (by decide +kernel)
set_option maxRecDepth 20000 in
theorem gX10_takeOut_X8_hasEgg : GoodIn wsX10_takeOut (wsV RX10 172 RX8 yX8_hasEgg wsX8_hasEgg) := goodIn_app (goodIn_of _ (by decide +kernel)) ggX10_takeOut_X8_hasEgg
set_option maxRecDepth 20000 in
theorem ggX10_takeOut_X4_canComeOut : GoodIn wsX10_takeOut wsX4_canComeOut := goodIn_r _ [16, 17, 18, 19, 15, 20, 21, 22, 23, 7, 8, 9, 10, 11, 103, 104, 105, 106, 107, 108, 109, 110, 111, 93, 94, 95, 96, 97, 98, 99, 100, 101, 102] (by decide +kernel) (by decide +kernel)
set_option maxRecDepth 20000 in
theorem gX10_takeOut_X4_canComeOut : GoodIn wsX10_takeOut (wsV RX10 227 RX4 yX4_canComeOut wsX4_canComeOut) := goodIn_app (goodIn_of _ (by decide +kernel)) ggX10_takeOut_X4_canComeOut
set_option maxRecDepth 20000 in
theorem ggX10_takeOut_X5_remember : GoodIn wsX10_takeOut wsX5_remember := goodIn_r _ [28, 29, 30, 31, 32, 33, 34, 15, 35, 22, 36, 37, 38, 39, 40, 41, 42, 43, 44, 45, 46, 47, 48, 49, 112, 113, 114, 103, 104, 105, 106, 107, 108, 109, 110, 111] (by decide +kernel) (by decide +kernel)
set_option maxRecDepth 20000 in
theorem gX10_takeOut_X5_remember : GoodIn wsX10_takeOut (wsV RX10 209 RX5 yX5_remember wsX5_remember) := goodIn_app (goodIn_of _ (by decide +kernel)) ggX10_takeOut_X5_remember
set_option maxRecDepth 20000 in
theorem ggX10_takeOut_X4_comeOut : GoodIn wsX10_takeOut wsX4_comeOut := goodIn_r _ [53, 54, 55, 56, 15, 57, 21, 22, 23, 7, 8, 9, 10, 11, 103, 104, 105, 106, 107, 108, 109, 110, 111, 93, 94, 95, 96, 97, 98, 99, 100, 101, 102] (by decide +kernel) (by decide +kernel)
set_option maxRecDepth 20000 in
theorem gX10_takeOut_X4_comeOut : GoodIn wsX10_takeOut (wsV RX10 230 RX4 yX4_comeOut wsX4_comeOut) := goodIn_app (goodIn_of _ (by decide +kernel)) ggX10_takeOut_X4_comeOut
set_option maxRecDepth 20000 in
theorem ggX10_takeOut_X4_hardnessOf : GoodIn wsX10_takeOut wsX4_hardnessOf := goodIn_r _ [61, 21, 62, 63, 64, 15, 65, 40, 23, 7, 8, 9, 10, 11, 66, 67, 68, 69, 70, 71, 72, 73, 74, 75, 76, 77, 78, 79, 103, 104, 105, 106, 107, 108, 109, 110, 111, 93, 94, 95, 96, 97, 98, 99, 100, 101, 102] (by decide +kernel) (by decide +kernel)
set_option maxRecDepth 20000 in
theorem gX10_takeOut_X4_hardnessOf : GoodIn wsX10_takeOut (wsV RX10 188 RX4 yX4_hardnessOf wsX4_hardnessOf) := goodIn_app (goodIn_of _ (by decide +kernel)) ggX10_takeOut_X4_hardnessOf
theorem dX10_takeOut_0 : decode cX10_takeOut 0 = .ok (.aload_n 0, 1) := by decide +kernel
theorem dX10_takeOut_1 : decode cX10_takeOut 1 = .ok (.getfield 19, 3) := by decide +kernel
theorem dX10_takeOut_4 : decode cX10_takeOut 4 = .ok (.iload_n 1, 1) := by decide +kernel
theorem dX10_takeOut_5 : decode cX10_takeOut 5 = .ok (.invokevirtual 172, 3) := by decide +kernel
theorem dX10_takeOut_8 : decode cX10_takeOut 8 = .ok (.ifCond .ne 6, 3) := by decide +kernel
theorem dX10_takeOut_11 : decode cX10_takeOut 11 = .ok (.ldc 175, 2) := by decide +kernel
theorem dX10_takeOut_13 : decode cX10_takeOut 13 = .ok (.ireturn, 1) := by decide +kernel
theorem dX10_takeOut_14 : decode cX10_takeOut 14 = .ok (.aload_n 0, 1) := by decide +kernel
theorem dX10_takeOut_15 : decode cX10_takeOut 15 = .ok (.getfield 31, 3) := by decide +kernel
theorem dX10_takeOut_18 : decode cX10_takeOut 18 = .ok (.iload_n 1, 1) := by decide +kernel
theorem dX10_takeOut_19 : decode cX10_takeOut 19 = .ok (.invokevirtual 227, 3) := by decide +kernel
theorem dX10_takeOut_22 : decode cX10_takeOut 22 = .ok (.ifCond .ne 6, 3) := by decide +kernel
theorem dX10_takeOut_25 : decode cX10_takeOut 25 = .ok (.ldc 219, 2) := by decide +kernel
theorem dX10_takeOut_27 : decode cX10_takeOut 27 = .ok (.ireturn, 1) := by decide +kernel
theorem dX10_takeOut_28 : decode cX10_takeOut 28 = .ok (.aload_n 0, 1) := by decide +kernel
theorem dX10_takeOut_29 : decode cX10_takeOut 29 = .ok (.getfield 38, 3) := by decide +kernel
theorem dX10_takeOut_32 : decode cX10_takeOut 32 = .ok (.aload_n 0, 1) := by decide +kernel
theorem dX10_takeOut_33 : decode cX10_takeOut 33 = .ok (.getfield 31, 3) := by decide +kernel
theorem dX10_takeOut_36 : decode cX10_takeOut 36 = .ok (.invokevirtual 209, 3) := by decide +kernel
theorem dX10_takeOut_39 : decode cX10_takeOut 39 = .ok (.aload_n 0, 1) := by decide +kernel
theorem dX10_takeOut_40 : decode cX10_takeOut 40 = .ok (.getfield 31, 3) := by decide +kernel
theorem dX10_takeOut_43 : decode cX10_takeOut 43 = .ok (.iload_n 1, 1) := by decide +kernel
theorem dX10_takeOut_44 : decode cX10_takeOut 44 = .ok (.invokevirtual 230, 3) := by decide +kernel
theorem dX10_takeOut_47 : decode cX10_takeOut 47 = .ok (.aload_n 0, 1) := by decide +kernel
theorem dX10_takeOut_48 : decode cX10_takeOut 48 = .ok (.getfield 31, 3) := by decide +kernel
theorem dX10_takeOut_51 : decode cX10_takeOut 51 = .ok (.iload_n 1, 1) := by decide +kernel
theorem dX10_takeOut_52 : decode cX10_takeOut 52 = .ok (.invokevirtual 188, 3) := by decide +kernel
theorem dX10_takeOut_55 : decode cX10_takeOut 55 = .ok (.ireturn, 1) := by decide +kernel
set_option maxRecDepth 20000 in
theorem ggX10_crown_X8_hasEgg : GoodIn wsX10_crown wsX8_hasEgg := goodIn_r _ [10, 11, 110, 111, 112, 113, 114, 115, 116, 117, 118, 119] (by decide +kernel) (by decide +kernel)
set_option maxRecDepth 20000 in
theorem gX10_crown_X8_hasEgg : GoodIn wsX10_crown (wsV RX10 172 RX8 yX8_hasEgg wsX8_hasEgg) := goodIn_app (goodIn_of _ (by decide +kernel)) ggX10_crown_X8_hasEgg
set_option maxRecDepth 20000 in
theorem ggX10_crown_X4_canBeKing : GoodIn wsX10_crown wsX4_canBeKing := goodIn_r _ [16, 17, 18, 19, 20, 15, 21, 22, 23, 24, 7, 8, 9, 10, 11, 101, 102, 103, 104, 105, 106, 107, 108, 109, 110, 111, 112, 113, 114, 115, 116, 117, 118, 119] (by decide +kernel) (by decide +kernel)
set_option maxRecDepth 20000 in
theorem gX10_crown_X4_canBeKing : GoodIn wsX10_crown (wsV RX10 233 RX4 yX4_canBeKing wsX4_canBeKing) := goodIn_app (goodIn_of _ (by decide +kernel)) ggX10_crown_X4_canBeKing
set_option maxRecDepth 20000 in
theorem ggX10_crown_X5_remember : GoodIn wsX10_crown wsX5_remember := goodIn_r _ [29, 30, 31, 32, 33, 34, 35, 15, 36, 23, 37, 38, 39, 40, 41, 17, 42, 43, 44, 45, 46, 47, 48, 49, 120, 121, 122, 101, 102, 103, 104, 105, 106, 107, 108, 109] (by decide +kernel) (by decide +kernel)
set_option maxRecDepth 20000 in
theorem gX10_crown_X5_remember : GoodIn wsX10_crown (wsV RX10 209 RX5 yX5_remember wsX5_remember) := goodIn_app (goodIn_of _ (by decide +kernel)) ggX10_crown_X5_remember
set_option maxRecDepth 20000 in
theorem ggX10_crown_X4_becomeKing : GoodIn wsX10_crown wsX4_becomeKing := goodIn_r _ [53, 17, 42, 54, 55, 56, 15, 57, 22, 23, 24, 7, 8, 9, 10, 11, 58, 59, 60, 61, 62, 63, 64, 65, 41, 66, 67, 68, 69, 70, 71, 72, 73, 74, 75, 76, 77, 78, 79, 80, 81, 82, 83, 84, 85, 86, 87, 101, 102, 103, 104, 105, 106, 107, 108, 109, 110, 111, 112, 113, 114, 115, 116, 117, 118, 119] (by decide +kernel) (by decide +kernel)
set_option maxRecDepth 20000 in
theorem gX10_crown_X4_becomeKing : GoodIn wsX10_crown (wsV RX10 236 RX4 yX4_becomeKing wsX4_becomeKing) := goodIn_app (goodIn_of _ (by decide +kernel)) ggX10_crown_X4_becomeKing
theorem dX10_crown_0 : decode cX10_crown 0 = .ok (.aload_n 0, 1) := by decide +kernel
theorem dX10_crown_1 : decode cX10_crown 1 = .ok (.getfield 19, 3) := by decide +kernel
theorem dX10_crown_4 : decode cX10_crown 4 = .ok (.iload_n 1, 1) := by decide +kernel
theorem dX10_crown_5 : decode cX10_crown 5 = .ok (.invokevirtual 172, 3) := by decide +kernel
theorem dX10_crown_8 : decode cX10_crown 8 = .ok (.ifCond .ne 6, 3) := by decide +kernel
theorem dX10_crown_11 : decode cX10_crown 11 = .ok (.ldc 175, 2) := by decide +kernel
theorem dX10_crown_13 : decode cX10_crown 13 = .ok (.ireturn, 1) := by decide +kernel
theorem dX10_crown_14 : decode cX10_crown 14 = .ok (.aload_n 0, 1) := by decide +kernel
theorem dX10_crown_15 : decode cX10_crown 15 = .ok (.getfield 31, 3) := by decide +kernel
theorem dX10_crown_18 : decode cX10_crown 18 = .ok (.iload_n 1, 1) := by decide +kernel
theorem dX10_crown_19 : decode cX10_crown 19 = .ok (.invokevirtual 233, 3) := by decide +kernel
theorem dX10_crown_22 : decode cX10_crown 22 = .ok (.ifCond .ne 6, 3) := by decide +kernel
theorem dX10_crown_25 : decode cX10_crown 25 = .ok (.ldc 219, 2) := by decide +kernel
theorem dX10_crown_27 : decode cX10_crown 27 = .ok (.ireturn, 1) := by decide +kernel
theorem dX10_crown_28 : decode cX10_crown 28 = .ok (.aload_n 0, 1) := by decide +kernel
theorem dX10_crown_29 : decode cX10_crown 29 = .ok (.getfield 38, 3) := by decide +kernel
theorem dX10_crown_32 : decode cX10_crown 32 = .ok (.aload_n 0, 1) := by decide +kernel
theorem dX10_crown_33 : decode cX10_crown 33 = .ok (.getfield 31, 3) := by decide +kernel
theorem dX10_crown_36 : decode cX10_crown 36 = .ok (.invokevirtual 209, 3) := by decide +kernel
theorem dX10_crown_39 : decode cX10_crown 39 = .ok (.aload_n 0, 1) := by decide +kernel
theorem dX10_crown_40 : decode cX10_crown 40 = .ok (.getfield 31, 3) := by decide +kernel
theorem dX10_crown_43 : decode cX10_crown 43 = .ok (.iload_n 1, 1) := by decide +kernel
theorem dX10_crown_44 : decode cX10_crown 44 = .ok (.invokevirtual 236, 3) := by decide +kernel
theorem dX10_crown_47 : decode cX10_crown 47 = .ok (.aload_n 0, 1) := by decide +kernel
theorem dX10_crown_48 : decode cX10_crown 48 = .ok (.getfield 31, 3) := by decide +kernel
theorem dX10_crown_51 : decode cX10_crown 51 = .ok (.getfield 148, 3) := by decide +kernel
theorem dX10_crown_54 : decode cX10_crown 54 = .ok (.ireturn, 1) := by decide +kernel
set_option maxRecDepth 20000 in
theorem ggX10_cutToast_X10_isWithin : GoodIn wsX10_cutToast wsX10_isWithin := goodIn_r _ [13] (by decide +kernel) (by decide +kernel)
set_option maxRecDepth 20000 in
theorem gX10_cutToast_X10_isWithin : GoodIn wsX10_cutToast (va_wsS RX10 91 yX10_isWithin wsX10_isWithin) := goodIn_app (goodIn_of _ (by decide +kernel)) ggX10_cutToast_X10_isWithin
set_option maxRecDepth 20000 in
theorem ggX10_cutToast_X8_isLaid : GoodIn wsX10_cutToast wsX8_isLaid := goodIn_r _ [18, 19, 70, 71, 72, 73, 74, 75, 76, 77, 78, 79] (by decide +kernel) (by decide +kernel)
set_option maxRecDepth 20000 in
theorem gX10_cutToast_X8_isLaid : GoodIn wsX10_cutToast (wsV RX10 239 RX8 yX8_isLaid wsX8_isLaid) := goodIn_app (goodIn_of _ (by decide +kernel)) ggX10_cutToast_X8_isLaid
set_option maxRecDepth 20000 in
theorem ggX10_cutToast_X5_remember : GoodIn wsX10_cutToast wsX5_remember := goodIn_r _ [24, 25, 26, 27, 28, 29, 30, 31, 32, 33, 34, 35, 36, 37, 38, 39, 40, 41, 42, 43, 44, 45, 46, 47, 80, 81, 82, 61, 62, 63, 64, 65, 66, 67, 68, 69] (by decide +kernel) (by decide +kernel)
set_option maxRecDepth 20000 in
theorem gX10_cutToast_X5_remember : GoodIn wsX10_cutToast (wsV RX10 209 RX5 yX5_remember wsX5_remember) := goodIn_app (goodIn_of _ (by decide +kernel)) ggX10_cutToast_X5_remember
theorem dX10_cutToast_0 : decode cX10_cutToast 0 = .ok (.iload_n 1, 1) := by decide +kernel
theorem dX10_cutToast_1 : decode cX10_cutToast 1 = .ok (.iconst 1, 1) := by decide +kernel
theorem dX10_cutToast_2 : decode cX10_cutToast 2 = .ok (.bipush 99, 2) := by decide +kernel
theorem dX10_cutToast_4 : decode cX10_cutToast 4 = .ok (.invokestatic 91, 3) := by decide +kernel
theorem dX10_cutToast_7 : decode cX10_cutToast 7 = .ok (.ifCond .ne 6, 3) := by decide +kernel
theorem dX10_cutToast_10 : decode cX10_cutToast 10 = .ok (.ldc 95, 2) := by decide +kernel
theorem dX10_cutToast_12 : decode cX10_cutToast 12 = .ok (.ireturn, 1) := by decide +kernel
theorem dX10_cutToast_13 : decode cX10_cutToast 13 = .ok (.aload_n 0, 1) := by decide +kernel
theorem dX10_cutToast_14 : decode cX10_cutToast 14 = .ok (.getfield 19, 3) := by decide +kernel
theorem dX10_cutToast_17 : decode cX10_cutToast 17 = .ok (.invokevirtual 239, 3) := by decide +kernel
theorem dX10_cutToast_20 : decode cX10_cutToast 20 = .ok (.ifCond .ne 6, 3) := by decide +kernel
theorem dX10_cutToast_23 : decode cX10_cutToast 23 = .ok (.ldc 219, 2) := by decide +kernel
theorem dX10_cutToast_25 : decode cX10_cutToast 25 = .ok (.ireturn, 1) := by decide +kernel
theorem dX10_cutToast_26 : decode cX10_cutToast 26 = .ok (.aload_n 0, 1) := by decide +kernel
theorem dX10_cutToast_27 : decode cX10_cutToast 27 = .ok (.getfield 38, 3) := by decide +kernel
theorem dX10_cutToast_30 : decode cX10_cutToast 30 = .ok (.aload_n 0, 1) := by decide +kernel
theorem dX10_cutToast_31 : decode cX10_cutToast 31 = .ok (.getfield 31, 3) := by decide +kernel
theorem dX10_cutToast_34 : decode cX10_cutToast 34 = .ok (.invokevirtual 209, 3) := by decide +kernel
theorem dX10_cutToast_37 : decode cX10_cutToast 37 = .ok (.aload_n 0, 1) := by decide +kernel
theorem dX10_cutToast_38 : decode cX10_cutToast 38 = .ok (.getfield 31, 3) := by decide +kernel
theorem dX10_cutToast_41 : decode cX10_cutToast 41 = .ok (.sipush 999, 3) := by decide +kernel
theorem dX10_cutToast_44 : decode cX10_cutToast 44 = .ok (.aload_n 0, 1) := by decide +kernel
theorem dX10_cutToast_45 : decode cX10_cutToast 45 = .ok (.getfield 31, 3) := by decide +kernel
theorem dX10_cutToast_48 : decode cX10_cutToast 48 = .ok (.getfield 133, 3) := by decide +kernel
theorem dX10_cutToast_51 : decode cX10_cutToast 51 = .ok (.iload_n 1, 1) := by decide +kernel
theorem dX10_cutToast_52 : decode cX10_cutToast 52 = .ok (.iadd, 1) := by decide +kernel
theorem dX10_cutToast_53 : decode cX10_cutToast 53 = .ok (.invokestatic 243, 3) := by decide +kernel
theorem dX10_cutToast_56 : decode cX10_cutToast 56 = .ok (.putfield 133, 3) := by decide +kernel
theorem dX10_cutToast_59 : decode cX10_cutToast 59 = .ok (.aload_n 0, 1) := by decide +kernel
theorem dX10_cutToast_60 : decode cX10_cutToast 60 = .ok (.getfield 31, 3) := by decide +kernel
theorem dX10_cutToast_63 : decode cX10_cutToast 63 = .ok (.getfield 133, 3) := by decide +kernel
theorem dX10_cutToast_66 : decode cX10_cutToast 66 = .ok (.ireturn, 1) := by decide +kernel
set_option maxRecDepth 20000 in
theorem ggX10_drift_X10_refusalOfMinutes : GoodIn wsX10_drift wsX10_refusalOfMinutes := goodIn_r _ [7, 8, 9, 10, 2, 11, 12, 13, 6, 14, 15, 16, 17, 18, 19, 20, 161, 162, 163, 164, 165, 166, 167, 168, 169, 170, 171, 172, 173, 174, 175, 176, 177, 178, 179, 180, 181, 182, 183, 184, 185, 186, 187, 188, 189, 190, 191, 192] (by decide +kernel) (by decide +kernel)
set_option maxRecDepth 20000 in
theorem gX10_drift_X10_refusalOfMinutes : GoodIn wsX10_drift (wsV RX10 206 RX10 yX10_refusalOfMinutes wsX10_refusalOfMinutes) := goodIn_app (goodIn_of _ (by decide +kernel)) ggX10_drift_X10_refusalOfMinutes
set_option maxRecDepth 20000 in
theorem ggX10_drift_X5_remember : GoodIn wsX10_drift wsX5_remember := goodIn_r _ [25, 26, 27, 28, 29, 30, 31, 32, 33, 34, 35, 36, 37, 38, 39, 40, 41, 42, 43, 44, 45, 46, 47, 48, 193, 194, 195, 174, 175, 176, 177, 178, 179, 180, 181, 182] (by decide +kernel) (by decide +kernel)
set_option maxRecDepth 20000 in
theorem gX10_drift_X5_remember : GoodIn wsX10_drift (wsV RX10 209 RX5 yX5_remember wsX5_remember) := goodIn_app (goodIn_of _ (by decide +kernel)) ggX10_drift_X5_remember
set_option maxRecDepth 20000 in
theorem ggX10_drift_X10_actByDraws : GoodIn wsX10_drift wsX10_actByDraws := goodIn_r _ [52, 9, 2, 53, 54, 55, 6, 56, 57, 58, 59, 60, 61, 62, 63, 64, 32, 65, 66, 67, 68, 69, 70, 34, 71, 72, 73, 18, 74, 75, 76, 77, 78, 79, 80, 81, 82, 83, 84, 85, 86, 87, 88, 89, 90, 91, 92, 93, 94, 95, 96, 97, 98, 99, 100, 101, 102, 103, 104, 105, 106, 107, 108, 109, 110, 40, 111, 112, 113, 114, 41, 115, 116, 117, 118, 119, 120, 121, 122, 39, 123, 124, 125, 126, 127, 128, 129, 130, 131, 132, 133, 134, 135, 136, 137, 138, 139, 140, 141, 142, 143, 144, 161, 162, 163, 164, 165, 166, 167, 168, 169, 170, 171, 172, 173, 183, 184, 185, 186, 187, 188, 189, 190, 191, 192, 174, 175, 176, 177, 178, 179, 180, 181, 182] (by decide +kernel) (by decide +kernel)
set_option maxRecDepth 20000 in
theorem gX10_drift_X10_actByDraws : GoodIn wsX10_drift (wsV RX10 249 RX10 yX10_actByDraws wsX10_actByDraws) := goodIn_app (goodIn_of _ (by decide +kernel)) ggX10_drift_X10_actByDraws
set_option maxRecDepth 20000 in
theorem ggX10_drift_X4_passMinute : GoodIn wsX10_drift wsX4_passMinute := goodIn_r _ [148, 43, 40, 67, 68, 69, 32, 70, 66, 34, 71, 72, 73, 18, 74, 75, 149, 150, 151, 152, 39, 153, 154, 155, 156, 42, 44, 41, 45, 157, 158, 159, 160, 95, 96, 97, 98, 174, 175, 176, 177, 178, 179, 180, 181, 182, 183, 184, 185, 186, 187, 188, 189, 190, 191, 192] (by decide +kernel) (by decide +kernel)
set_option maxRecDepth 20000 in
theorem gX10_drift_X4_passMinute : GoodIn wsX10_drift (wsV RX10 213 RX4 yX4_passMinute wsX4_passMinute) := goodIn_app (goodIn_of _ (by decide +kernel)) ggX10_drift_X4_passMinute
theorem dX10_drift_0 : decode cX10_drift 0 = .ok (.aload_n 0, 1) := by decide +kernel
theorem dX10_drift_1 : decode cX10_drift 1 = .ok (.iload_n 1, 1) := by decide +kernel
theorem dX10_drift_2 : decode cX10_drift 2 = .ok (.invokevirtual 206, 3) := by decide +kernel
theorem dX10_drift_5 : decode cX10_drift 5 = .ok (.istore_n 2, 1) := by decide +kernel
theorem dX10_drift_6 : decode cX10_drift 6 = .ok (.iload_n 2, 1) := by decide +kernel
theorem dX10_drift_7 : decode cX10_drift 7 = .ok (.ifCond .eq 5, 3) := by decide +kernel
theorem dX10_drift_10 : decode cX10_drift 10 = .ok (.iload_n 2, 1) := by decide +kernel
theorem dX10_drift_11 : decode cX10_drift 11 = .ok (.ireturn, 1) := by decide +kernel
theorem dX10_drift_12 : decode cX10_drift 12 = .ok (.aload_n 0, 1) := by decide +kernel
theorem dX10_drift_13 : decode cX10_drift 13 = .ok (.getfield 38, 3) := by decide +kernel
theorem dX10_drift_16 : decode cX10_drift 16 = .ok (.aload_n 0, 1) := by decide +kernel
theorem dX10_drift_17 : decode cX10_drift 17 = .ok (.getfield 31, 3) := by decide +kernel
theorem dX10_drift_20 : decode cX10_drift 20 = .ok (.invokevirtual 209, 3) := by decide +kernel
theorem dX10_drift_23 : decode cX10_drift 23 = .ok (.iconst 0, 1) := by decide +kernel
theorem dX10_drift_24 : decode cX10_drift 24 = .ok (.istore_n 3, 1) := by decide +kernel
theorem dX10_drift_25 : decode cX10_drift 25 = .ok (.iload_n 3, 1) := by decide +kernel
theorem dX10_drift_26 : decode cX10_drift 26 = .ok (.iload_n 1, 1) := by decide +kernel
theorem dX10_drift_27 : decode cX10_drift 27 = .ok (.if_icmp .ge 20, 3) := by decide +kernel
theorem dX10_drift_30 : decode cX10_drift 30 = .ok (.aload_n 0, 1) := by decide +kernel
theorem dX10_drift_31 : decode cX10_drift 31 = .ok (.invokevirtual 249, 3) := by decide +kernel
theorem dX10_drift_34 : decode cX10_drift 34 = .ok (.aload_n 0, 1) := by decide +kernel
theorem dX10_drift_35 : decode cX10_drift 35 = .ok (.getfield 31, 3) := by decide +kernel
theorem dX10_drift_38 : decode cX10_drift 38 = .ok (.invokevirtual 213, 3) := by decide +kernel
theorem dX10_drift_41 : decode cX10_drift 41 = .ok (.iinc 3 1, 3) := by decide +kernel
theorem dX10_drift_44 : decode cX10_drift 44 = .ok (.goto (-19), 3) := by decide +kernel
theorem dX10_drift_47 : decode cX10_drift 47 = .ok (.aload_n 0, 1) := by decide +kernel
theorem dX10_drift_48 : decode cX10_drift 48 = .ok (.getfield 31, 3) := by decide +kernel
theorem dX10_drift_51 : decode cX10_drift 51 = .ok (.getfield 151, 3) := by decide +kernel
theorem dX10_drift_54 : decode cX10_drift 54 = .ok (.ireturn, 1) := by decide +kernel
set_option maxRecDepth 20000 in
theorem ggX10_undo_X5_bringBack : GoodIn wsX10_undo wsX5_bringBack := goodIn_r _ [8, 9, 10, 11, 12, 13, 14, 15, 16, 17, 18, 19, 20, 21, 22, 23, 24, 25, 26, 27, 28, 29, 30, 31, 45, 46, 47, 48, 49, 50, 51, 52, 53, 54, 55, 56] (by decide +kernel) (by decide +kernel)
set_option maxRecDepth 20000 in
theorem gX10_undo_X5_bringBack : GoodIn wsX10_undo (wsV RX10 252 RX5 yX5_bringBack wsX5_bringBack) := goodIn_app (goodIn_of _ (by decide +kernel)) ggX10_undo_X5_bringBack
theorem dX10_undo_0 : decode cX10_undo 0 = .ok (.aload_n 0, 1) := by decide +kernel
theorem dX10_undo_1 : decode cX10_undo 1 = .ok (.getfield 38, 3) := by decide +kernel
theorem dX10_undo_4 : decode cX10_undo 4 = .ok (.aload_n 0, 1) := by decide +kernel
theorem dX10_undo_5 : decode cX10_undo 5 = .ok (.getfield 31, 3) := by decide +kernel
theorem dX10_undo_8 : decode cX10_undo 8 = .ok (.invokevirtual 252, 3) := by decide +kernel
theorem dX10_undo_11 : decode cX10_undo 11 = .ok (.ifCond .eq 13, 3) := by decide +kernel
theorem dX10_undo_14 : decode cX10_undo 14 = .ok (.aload_n 0, 1) := by decide +kernel
theorem dX10_undo_15 : decode cX10_undo 15 = .ok (.getfield 38, 3) := by decide +kernel
theorem dX10_undo_18 : decode cX10_undo 18 = .ok (.getfield 171, 3) := by decide +kernel
theorem dX10_undo_21 : decode cX10_undo 21 = .ok (.goto 5, 3) := by decide +kernel
theorem dX10_undo_24 : decode cX10_undo 24 = .ok (.ldc 219, 2) := by decide +kernel
theorem dX10_undo_26 : decode cX10_undo 26 = .ok (.ireturn, 1) := by decide +kernel
set_option maxRecDepth 20000 in
theorem ggX10_wish_X8_hasEgg : GoodIn wsX10_wish wsX8_hasEgg := goodIn_r _ [8, 9, 37, 38, 39, 40, 41, 42, 43, 44, 45, 46] (by decide +kernel) (by decide +kernel)
set_option maxRecDepth 20000 in
theorem gX10_wish_X8_hasEgg : GoodIn wsX10_wish (wsV RX10 172 RX8 yX8_hasEgg wsX8_hasEgg) := goodIn_app (goodIn_of _ (by decide +kernel)) ggX10_wish_X8_hasEgg
set_option maxRecDepth 20000 in
theorem ggX10_wish_X10_isWithin : GoodIn wsX10_wish wsX10_isWithin := goodIn_r _ [13] (by decide +kernel) (by decide +kernel)
set_option maxRecDepth 20000 in
theorem gX10_wish_X10_isWithin : GoodIn wsX10_wish (va_wsS RX10 91 yX10_isWithin wsX10_isWithin) := goodIn_app (goodIn_of _ (by decide +kernel)) ggX10_wish_X10_isWithin
set_option maxRecDepth 20000 in
theorem ggX10_wish_X8_wishOf : GoodIn wsX10_wish wsX8_wishOf := goodIn_r _ [17, 18, 19, 5, 6, 7, 8, 9, 37, 38, 39, 40, 41, 42, 43, 44, 45, 46] (by decide +kernel) (by decide +kernel)
set_option maxRecDepth 20000 in
theorem gX10_wish_X8_wishOf : GoodIn wsX10_wish (wsV RX10 194 RX8 yX8_wishOf wsX8_wishOf) := goodIn_app (goodIn_of _ (by decide +kernel)) ggX10_wish_X8_wishOf
set_option maxRecDepth 20000 in
theorem ggX10_wish_X8_setWish : GoodIn wsX10_wish wsX8_setWish := goodIn_r _ [23, 18, 19, 5, 6, 7, 8, 9, 37, 38, 39, 40, 41, 42, 43, 44, 45, 46] (by decide +kernel) (by decide +kernel)
set_option maxRecDepth 20000 in
theorem gX10_wish_X8_setWish : GoodIn wsX10_wish (wsV RX10 256 RX8 yX8_setWish wsX8_setWish) := goodIn_app (goodIn_of _ (by decide +kernel)) ggX10_wish_X8_setWish
theorem dX10_wish_0 : decode cX10_wish 0 = .ok (.aload_n 0, 1) := by decide +kernel
theorem dX10_wish_1 : decode cX10_wish 1 = .ok (.getfield 19, 3) := by decide +kernel
theorem dX10_wish_4 : decode cX10_wish 4 = .ok (.iload_n 1, 1) := by decide +kernel
theorem dX10_wish_5 : decode cX10_wish 5 = .ok (.invokevirtual 172, 3) := by decide +kernel
theorem dX10_wish_8 : decode cX10_wish 8 = .ok (.ifCond .ne 6, 3) := by decide +kernel
theorem dX10_wish_11 : decode cX10_wish 11 = .ok (.ldc 175, 2) := by decide +kernel
theorem dX10_wish_13 : decode cX10_wish 13 = .ok (.ireturn, 1) := by decide +kernel
theorem dX10_wish_14 : decode cX10_wish 14 = .ok (.iload_n 2, 1) := by decide +kernel
theorem dX10_wish_15 : decode cX10_wish 15 = .ok (.iconst 1, 1) := by decide +kernel
theorem dX10_wish_16 : decode cX10_wish 16 = .ok (.aload_n 0, 1) := by decide +kernel
theorem dX10_wish_17 : decode cX10_wish 17 = .ok (.getfield 19, 3) := by decide +kernel
theorem dX10_wish_20 : decode cX10_wish 20 = .ok (.getfield 136, 3) := by decide +kernel
theorem dX10_wish_23 : decode cX10_wish 23 = .ok (.invokestatic 91, 3) := by decide +kernel
theorem dX10_wish_26 : decode cX10_wish 26 = .ok (.ifCond .ne 6, 3) := by decide +kernel
theorem dX10_wish_29 : decode cX10_wish 29 = .ok (.ldc 95, 2) := by decide +kernel
theorem dX10_wish_31 : decode cX10_wish 31 = .ok (.ireturn, 1) := by decide +kernel
theorem dX10_wish_32 : decode cX10_wish 32 = .ok (.aload_n 0, 1) := by decide +kernel
theorem dX10_wish_33 : decode cX10_wish 33 = .ok (.getfield 19, 3) := by decide +kernel
theorem dX10_wish_36 : decode cX10_wish 36 = .ok (.iload_n 1, 1) := by decide +kernel
theorem dX10_wish_37 : decode cX10_wish 37 = .ok (.invokevirtual 194, 3) := by decide +kernel
theorem dX10_wish_40 : decode cX10_wish 40 = .ok (.istore_n 3, 1) := by decide +kernel
theorem dX10_wish_41 : decode cX10_wish 41 = .ok (.aload_n 0, 1) := by decide +kernel
theorem dX10_wish_42 : decode cX10_wish 42 = .ok (.getfield 19, 3) := by decide +kernel
theorem dX10_wish_45 : decode cX10_wish 45 = .ok (.iload_n 1, 1) := by decide +kernel
theorem dX10_wish_46 : decode cX10_wish 46 = .ok (.iload_n 2, 1) := by decide +kernel
theorem dX10_wish_47 : decode cX10_wish 47 = .ok (.invokevirtual 256, 3) := by decide +kernel
theorem dX10_wish_50 : decode cX10_wish 50 = .ok (.iload_n 3, 1) := by decide +kernel
theorem dX10_wish_51 : decode cX10_wish 51 = .ok (.ireturn, 1) := by decide +kernel
set_option maxRecDepth 20000 in
theorem ggX10_needs_X8_hasEgg : GoodIn wsX10_needs wsX8_hasEgg := goodIn_r _ [8, 9, 49, 50, 51, 52, 53, 54, 55, 56, 57, 58] (by decide +kernel) (by decide +kernel)
set_option maxRecDepth 20000 in
theorem gX10_needs_X8_hasEgg : GoodIn wsX10_needs (wsV RX10 172 RX8 yX8_hasEgg wsX8_hasEgg) := goodIn_app (goodIn_of _ (by decide +kernel)) ggX10_needs_X8_hasEgg
set_option maxRecDepth 20000 in
theorem ggX10_needs_X10_isWithin : GoodIn wsX10_needs wsX10_isWithin := goodIn_r _ [13] (by decide +kernel) (by decide +kernel)
set_option maxRecDepth 20000 in
theorem gX10_needs_X10_isWithin : GoodIn wsX10_needs (va_wsS RX10 91 yX10_isWithin wsX10_isWithin) := goodIn_app (goodIn_of _ (by decide +kernel)) ggX10_needs_X10_isWithin
set_option maxRecDepth 20000 in
theorem ggX10_needs_X8_reign : GoodIn wsX10_needs wsX8_reign := goodIn_r _ [17, 18, 19, 20, 7, 21, 22, 23, 24, 25, 26, 27, 28, 29, 30, 31, 5, 6, 8, 9, 32, 33, 34, 35, 49, 50, 51, 52, 53, 54, 55, 56, 57, 58] (by decide +kernel) (by decide +kernel)
set_option maxRecDepth 20000 in
theorem gX10_needs_X8_reign : GoodIn wsX10_needs (wsV RX10 260 RX8 yX8_reign wsX8_reign) := goodIn_app (goodIn_of _ (by decide +kernel)) ggX10_needs_X8_reign
theorem dX10_needs_0 : decode cX10_needs 0 = .ok (.aload_n 0, 1) := by decide +kernel
theorem dX10_needs_1 : decode cX10_needs 1 = .ok (.getfield 19, 3) := by decide +kernel
theorem dX10_needs_4 : decode cX10_needs 4 = .ok (.iload_n 1, 1) := by decide +kernel
theorem dX10_needs_5 : decode cX10_needs 5 = .ok (.invokevirtual 172, 3) := by decide +kernel
theorem dX10_needs_8 : decode cX10_needs 8 = .ok (.ifCond .ne 6, 3) := by decide +kernel
theorem dX10_needs_11 : decode cX10_needs 11 = .ok (.ldc 175, 2) := by decide +kernel
theorem dX10_needs_13 : decode cX10_needs 13 = .ok (.ireturn, 1) := by decide +kernel
theorem dX10_needs_14 : decode cX10_needs 14 = .ok (.iload_n 2, 1) := by decide +kernel
theorem dX10_needs_15 : decode cX10_needs 15 = .ok (.iconst 1, 1) := by decide +kernel
theorem dX10_needs_16 : decode cX10_needs 16 = .ok (.bipush 99, 2) := by decide +kernel
theorem dX10_needs_18 : decode cX10_needs 18 = .ok (.invokestatic 91, 3) := by decide +kernel
theorem dX10_needs_21 : decode cX10_needs 21 = .ok (.ifCond .ne 6, 3) := by decide +kernel
theorem dX10_needs_24 : decode cX10_needs 24 = .ok (.ldc 95, 2) := by decide +kernel
theorem dX10_needs_26 : decode cX10_needs 26 = .ok (.ireturn, 1) := by decide +kernel
theorem dX10_needs_27 : decode cX10_needs 27 = .ok (.iconst 0, 1) := by decide +kernel
theorem dX10_needs_28 : decode cX10_needs 28 = .ok (.istore_n 3, 1) := by decide +kernel
theorem dX10_needs_29 : decode cX10_needs 29 = .ok (.iload_n 3, 1) := by decide +kernel
theorem dX10_needs_30 : decode cX10_needs 30 = .ok (.aload_n 0, 1) := by decide +kernel
theorem dX10_needs_31 : decode cX10_needs 31 = .ok (.getfield 19, 3) := by decide +kernel
theorem dX10_needs_34 : decode cX10_needs 34 = .ok (.getfield 136, 3) := by decide +kernel
theorem dX10_needs_37 : decode cX10_needs 37 = .ok (.if_icmp .gt 24, 3) := by decide +kernel
theorem dX10_needs_40 : decode cX10_needs 40 = .ok (.aload_n 0, 1) := by decide +kernel
theorem dX10_needs_41 : decode cX10_needs 41 = .ok (.getfield 19, 3) := by decide +kernel
theorem dX10_needs_44 : decode cX10_needs 44 = .ok (.iload_n 1, 1) := by decide +kernel
theorem dX10_needs_45 : decode cX10_needs 45 = .ok (.iload_n 3, 1) := by decide +kernel
theorem dX10_needs_46 : decode cX10_needs 46 = .ok (.invokevirtual 260, 3) := by decide +kernel
theorem dX10_needs_49 : decode cX10_needs 49 = .ok (.iload_n 2, 1) := by decide +kernel
theorem dX10_needs_50 : decode cX10_needs 50 = .ok (.if_icmp .lt 5, 3) := by decide +kernel
theorem dX10_needs_53 : decode cX10_needs 53 = .ok (.iload_n 3, 1) := by decide +kernel
theorem dX10_needs_54 : decode cX10_needs 54 = .ok (.ireturn, 1) := by decide +kernel
theorem dX10_needs_55 : decode cX10_needs 55 = .ok (.iinc 3 1, 3) := by decide +kernel
theorem dX10_needs_58 : decode cX10_needs 58 = .ok (.goto (-29), 3) := by decide +kernel
theorem dX10_needs_61 : decode cX10_needs 61 = .ok (.iconst (-1), 1) := by decide +kernel
theorem dX10_needs_62 : decode cX10_needs 62 = .ok (.ireturn, 1) := by decide +kernel
set_option maxRecDepth 20000 in
theorem ggX10_allBoiled_X8_hasEggs : GoodIn wsX10_allBoiled wsX8_hasEggs := goodIn_r _ [9, 10, 11, 12, 13, 14, 78, 79, 80, 81, 82, 83, 84, 85, 86, 87] (by decide +kernel) (by decide +kernel)
set_option maxRecDepth 20000 in
theorem gX10_allBoiled_X8_hasEggs : GoodIn wsX10_allBoiled (wsV RX10 263 RX8 yX8_hasEggs wsX8_hasEggs) := goodIn_app (goodIn_of _ (by decide +kernel)) ggX10_allBoiled_X8_hasEggs
set_option maxRecDepth 20000 in
theorem ggX10_allBoiled_X8_hasEgg : GoodIn wsX10_allBoiled wsX8_hasEgg := goodIn_r _ [18, 10, 78, 79, 80, 81, 82, 83, 84, 85, 86, 87] (by decide +kernel) (by decide +kernel)
set_option maxRecDepth 20000 in
theorem gX10_allBoiled_X8_hasEgg : GoodIn wsX10_allBoiled (wsV RX10 172 RX8 yX8_hasEgg wsX8_hasEgg) := goodIn_app (goodIn_of _ (by decide +kernel)) ggX10_allBoiled_X8_hasEgg
set_option maxRecDepth 20000 in
theorem ggX10_allBoiled_X8_isLaid : GoodIn wsX10_allBoiled wsX8_isLaid := goodIn_r _ [22, 23, 78, 79, 80, 81, 82, 83, 84, 85, 86, 87] (by decide +kernel) (by decide +kernel)
set_option maxRecDepth 20000 in
theorem gX10_allBoiled_X8_isLaid : GoodIn wsX10_allBoiled (wsV RX10 239 RX8 yX8_isLaid wsX8_isLaid) := goodIn_app (goodIn_of _ (by decide +kernel)) ggX10_allBoiled_X8_isLaid
set_option maxRecDepth 20000 in
theorem ggX10_allBoiled_X0_tryAll : GoodIn wsX10_allBoiled wsX0_tryAll := goodIn_r _ [28, 29, 12, 13, 14, 30, 31, 32, 33, 34, 35, 36, 37, 38, 8, 39, 40, 41, 16, 17, 18, 10, 42, 43, 27, 44, 45, 46, 47, 48, 49, 50, 51, 52, 53, 54, 55, 56, 78, 79, 80, 81, 82, 83, 84, 85, 86, 87, 88, 89, 90, 91, 92, 93] (by decide +kernel) (by decide +kernel)
set_option maxRecDepth 20000 in
theorem gX10_allBoiled_X0_tryAll : GoodIn wsX10_allBoiled (wsV RX10 266 RX0 yX0_tryAll wsX0_tryAll) := goodIn_app (goodIn_of _ (by decide +kernel)) ggX10_allBoiled_X0_tryAll
set_option maxRecDepth 20000 in
theorem ggX10_allBoiled_X0_fewest : GoodIn wsX10_allBoiled wsX0_fewest := goodIn_r _ [60, 32, 88, 89, 90, 91, 92, 93] (by decide +kernel) (by decide +kernel)
set_option maxRecDepth 20000 in
theorem gX10_allBoiled_X0_fewest : GoodIn wsX10_allBoiled (wsV RX10 270 RX0 yX0_fewest wsX0_fewest) := goodIn_app (goodIn_of _ (by decide +kernel)) ggX10_allBoiled_X0_fewest
set_option maxRecDepth 20000 in
theorem ggX10_allBoiled_X0_placeOf : GoodIn wsX10_allBoiled wsX0_placeOf := goodIn_r _ [64, 52, 88, 89, 90, 91, 92, 93] (by decide +kernel) (by decide +kernel)
set_option maxRecDepth 20000 in
theorem gX10_allBoiled_X0_placeOf : GoodIn wsX10_allBoiled (wsV RX10 273 RX0 yX0_placeOf wsX0_placeOf) := goodIn_app (goodIn_of _ (by decide +kernel)) ggX10_allBoiled_X0_placeOf
theorem dX10_allBoiled_0 : decode cX10_allBoiled 0 = .ok (.iload_n 2, 1) := by decide +kernel
theorem dX10_allBoiled_1 : decode cX10_allBoiled 1 = .ok (.iconst (-1), 1) := by decide +kernel
theorem dX10_allBoiled_2 : decode cX10_allBoiled 2 = .ok (.if_icmp .ne 7, 3) := by decide +kernel
theorem dX10_allBoiled_5 : decode cX10_allBoiled 5 = .ok (.iconst 1, 1) := by decide +kernel
theorem dX10_allBoiled_6 : decode cX10_allBoiled 6 = .ok (.goto 4, 3) := by decide +kernel
theorem dX10_allBoiled_9 : decode cX10_allBoiled 9 = .ok (.iconst 0, 1) := by decide +kernel
theorem dX10_allBoiled_10 : decode cX10_allBoiled 10 = .ok (.istore_n 3, 1) := by decide +kernel
theorem dX10_allBoiled_11 : decode cX10_allBoiled 11 = .ok (.aload_n 0, 1) := by decide +kernel
theorem dX10_allBoiled_12 : decode cX10_allBoiled 12 = .ok (.getfield 19, 3) := by decide +kernel
theorem dX10_allBoiled_15 : decode cX10_allBoiled 15 = .ok (.iload_n 1, 1) := by decide +kernel
theorem dX10_allBoiled_16 : decode cX10_allBoiled 16 = .ok (.invokevirtual 263, 3) := by decide +kernel
theorem dX10_allBoiled_19 : decode cX10_allBoiled 19 = .ok (.ifCond .eq 18, 3) := by decide +kernel
theorem dX10_allBoiled_22 : decode cX10_allBoiled 22 = .ok (.iload_n 3, 1) := by decide +kernel
theorem dX10_allBoiled_23 : decode cX10_allBoiled 23 = .ok (.ifCond .ne 17, 3) := by decide +kernel
theorem dX10_allBoiled_26 : decode cX10_allBoiled 26 = .ok (.aload_n 0, 1) := by decide +kernel
theorem dX10_allBoiled_27 : decode cX10_allBoiled 27 = .ok (.getfield 19, 3) := by decide +kernel
theorem dX10_allBoiled_30 : decode cX10_allBoiled 30 = .ok (.iload_n 2, 1) := by decide +kernel
theorem dX10_allBoiled_31 : decode cX10_allBoiled 31 = .ok (.invokevirtual 172, 3) := by decide +kernel
theorem dX10_allBoiled_34 : decode cX10_allBoiled 34 = .ok (.ifCond .ne 6, 3) := by decide +kernel
theorem dX10_allBoiled_37 : decode cX10_allBoiled 37 = .ok (.ldc 175, 2) := by decide +kernel
theorem dX10_allBoiled_39 : decode cX10_allBoiled 39 = .ok (.ireturn, 1) := by decide +kernel
theorem dX10_allBoiled_40 : decode cX10_allBoiled 40 = .ok (.aload_n 0, 1) := by decide +kernel
theorem dX10_allBoiled_41 : decode cX10_allBoiled 41 = .ok (.getfield 19, 3) := by decide +kernel
theorem dX10_allBoiled_44 : decode cX10_allBoiled 44 = .ok (.invokevirtual 239, 3) := by decide +kernel
theorem dX10_allBoiled_47 : decode cX10_allBoiled 47 = .ok (.ifCond .ne 6, 3) := by decide +kernel
theorem dX10_allBoiled_50 : decode cX10_allBoiled 50 = .ok (.ldc 219, 2) := by decide +kernel
theorem dX10_allBoiled_52 : decode cX10_allBoiled 52 = .ok (.ireturn, 1) := by decide +kernel
theorem dX10_allBoiled_53 : decode cX10_allBoiled 53 = .ok (.aload_n 0, 1) := by decide +kernel
theorem dX10_allBoiled_54 : decode cX10_allBoiled 54 = .ok (.getfield 66, 3) := by decide +kernel
theorem dX10_allBoiled_57 : decode cX10_allBoiled 57 = .ok (.aload_n 0, 1) := by decide +kernel
theorem dX10_allBoiled_58 : decode cX10_allBoiled 58 = .ok (.getfield 19, 3) := by decide +kernel
theorem dX10_allBoiled_61 : decode cX10_allBoiled 61 = .ok (.iload_n 1, 1) := by decide +kernel
theorem dX10_allBoiled_62 : decode cX10_allBoiled 62 = .ok (.invokevirtual 266, 3) := by decide +kernel
theorem dX10_allBoiled_65 : decode cX10_allBoiled 65 = .ok (.iload_n 3, 1) := by decide +kernel
theorem dX10_allBoiled_66 : decode cX10_allBoiled 66 = .ok (.ifCond .eq 13, 3) := by decide +kernel
theorem dX10_allBoiled_69 : decode cX10_allBoiled 69 = .ok (.aload_n 0, 1) := by decide +kernel
theorem dX10_allBoiled_70 : decode cX10_allBoiled 70 = .ok (.getfield 66, 3) := by decide +kernel
theorem dX10_allBoiled_73 : decode cX10_allBoiled 73 = .ok (.invokevirtual 270, 3) := by decide +kernel
theorem dX10_allBoiled_76 : decode cX10_allBoiled 76 = .ok (.goto 11, 3) := by decide +kernel
theorem dX10_allBoiled_79 : decode cX10_allBoiled 79 = .ok (.aload_n 0, 1) := by decide +kernel
theorem dX10_allBoiled_80 : decode cX10_allBoiled 80 = .ok (.getfield 66, 3) := by decide +kernel
theorem dX10_allBoiled_83 : decode cX10_allBoiled 83 = .ok (.iload_n 2, 1) := by decide +kernel
theorem dX10_allBoiled_84 : decode cX10_allBoiled 84 = .ok (.invokevirtual 273, 3) := by decide +kernel
theorem dX10_allBoiled_87 : decode cX10_allBoiled 87 = .ok (.ireturn, 1) := by decide +kernel
set_option maxRecDepth 20000 in
theorem ggX10_dynasty_X10_isWithin : GoodIn wsX10_dynasty wsX10_isWithin := goodIn_r _ [7] (by decide +kernel) (by decide +kernel)
set_option maxRecDepth 20000 in
theorem gX10_dynasty_X10_isWithin : GoodIn wsX10_dynasty (va_wsS RX10 91 yX10_isWithin wsX10_isWithin) := goodIn_app (goodIn_of _ (by decide +kernel)) ggX10_dynasty_X10_isWithin
set_option maxRecDepth 20000 in
theorem ggX10_dynasty_X7_tryAll : GoodIn wsX10_dynasty wsX7_tryAll := goodIn_r _ [12, 13, 14, 15, 16, 17, 18, 19, 20, 21, 22, 23, 24, 25, 26, 27, 28, 29, 30, 31, 32, 33, 34, 35, 11, 36, 37, 38, 39, 40, 41, 42, 43, 44, 45, 46, 47, 48, 49, 50, 51, 52, 53, 54, 55, 56, 57, 58, 59, 60, 61, 62, 63, 64, 65, 66, 67, 68, 69, 70, 71, 72, 73, 74, 88, 89, 90, 91, 92, 93, 94, 95, 96, 97, 98, 99, 100, 101, 102, 103, 104, 105, 106, 107, 108, 109] (by decide +kernel) (by decide +kernel)
set_option maxRecDepth 20000 in
theorem gX10_dynasty_X7_tryAll : GoodIn wsX10_dynasty (wsV RX10 276 RX7 yX7_tryAll wsX7_tryAll) := goodIn_app (goodIn_of _ (by decide +kernel)) ggX10_dynasty_X7_tryAll
theorem dX10_dynasty_0 : decode cX10_dynasty 0 = .ok (.iload_n 1, 1) := by decide +kernel
theorem dX10_dynasty_1 : decode cX10_dynasty 1 = .ok (.iconst 0, 1) := by decide +kernel
theorem dX10_dynasty_2 : decode cX10_dynasty 2 = .ok (.iconst 2, 1) := by decide +kernel
theorem dX10_dynasty_3 : decode cX10_dynasty 3 = .ok (.invokestatic 91, 3) := by decide +kernel
theorem dX10_dynasty_6 : decode cX10_dynasty 6 = .ok (.ifCond .ne 6, 3) := by decide +kernel
theorem dX10_dynasty_9 : decode cX10_dynasty 9 = .ok (.ldc 95, 2) := by decide +kernel
theorem dX10_dynasty_11 : decode cX10_dynasty 11 = .ok (.ireturn, 1) := by decide +kernel
theorem dX10_dynasty_12 : decode cX10_dynasty 12 = .ok (.aload_n 0, 1) := by decide +kernel
theorem dX10_dynasty_13 : decode cX10_dynasty 13 = .ok (.getfield 73, 3) := by decide +kernel
theorem dX10_dynasty_16 : decode cX10_dynasty 16 = .ok (.aload_n 0, 1) := by decide +kernel
theorem dX10_dynasty_17 : decode cX10_dynasty 17 = .ok (.getfield 31, 3) := by decide +kernel
theorem dX10_dynasty_20 : decode cX10_dynasty 20 = .ok (.invokevirtual 276, 3) := by decide +kernel
theorem dX10_dynasty_23 : decode cX10_dynasty 23 = .ok (.iload_n 1, 1) := by decide +kernel
theorem dX10_dynasty_24 : decode cX10_dynasty 24 = .ok (.lookupswitch 44 #[(0, 28), (1, 36)], 28) := by decide +kernel
theorem dX10_dynasty_52 : decode cX10_dynasty 52 = .ok (.aload_n 0, 1) := by decide +kernel
theorem dX10_dynasty_53 : decode cX10_dynasty 53 = .ok (.getfield 73, 3) := by decide +kernel
theorem dX10_dynasty_56 : decode cX10_dynasty 56 = .ok (.getfield 278, 3) := by decide +kernel
theorem dX10_dynasty_59 : decode cX10_dynasty 59 = .ok (.ireturn, 1) := by decide +kernel
theorem dX10_dynasty_60 : decode cX10_dynasty 60 = .ok (.aload_n 0, 1) := by decide +kernel
theorem dX10_dynasty_61 : decode cX10_dynasty 61 = .ok (.getfield 73, 3) := by decide +kernel
theorem dX10_dynasty_64 : decode cX10_dynasty 64 = .ok (.getfield 281, 3) := by decide +kernel
theorem dX10_dynasty_67 : decode cX10_dynasty 67 = .ok (.ireturn, 1) := by decide +kernel
theorem dX10_dynasty_68 : decode cX10_dynasty 68 = .ok (.aload_n 0, 1) := by decide +kernel
theorem dX10_dynasty_69 : decode cX10_dynasty 69 = .ok (.getfield 73, 3) := by decide +kernel
theorem dX10_dynasty_72 : decode cX10_dynasty 72 = .ok (.getfield 282, 3) := by decide +kernel
theorem dX10_dynasty_75 : decode cX10_dynasty 75 = .ok (.ireturn, 1) := by decide +kernel
set_option maxRecDepth 20000 in
theorem ggX10_liked_X8_hasEater : GoodIn wsX10_liked wsX8_hasEater := goodIn_r _ [9, 10, 108, 109, 110, 111, 112, 113, 114, 115, 116, 117] (by decide +kernel) (by decide +kernel)
set_option maxRecDepth 20000 in
theorem gX10_liked_X8_hasEater : GoodIn wsX10_liked (wsV RX10 197 RX8 yX8_hasEater wsX8_hasEater) := goodIn_app (goodIn_of _ (by decide +kernel)) ggX10_liked_X8_hasEater
set_option maxRecDepth 20000 in
theorem ggX10_liked_X6_ask : GoodIn wsX10_liked wsX6_ask := goodIn_r _ [15, 16, 17, 6, 7, 8, 9, 10, 18, 19, 14, 20, 21, 22, 23, 24, 25, 26, 27, 28, 29, 30, 31, 32, 33, 34, 35, 36, 37, 38, 39, 40, 41, 42, 43, 44, 45, 46, 47, 48, 49, 50, 51, 52, 53, 54, 55, 56, 57, 58, 59, 60, 61, 62, 63, 64, 65, 66, 67, 68, 69, 118, 108, 109, 110, 111, 112, 113, 114, 115, 116, 117, 119, 120, 121, 122, 123, 124, 125, 126, 127] (by decide +kernel) (by decide +kernel)
set_option maxRecDepth 20000 in
theorem gX10_liked_X6_ask : GoodIn wsX10_liked (wsV RX10 285 RX6 yX6_ask wsX6_ask) := goodIn_app (goodIn_of _ (by decide +kernel)) ggX10_liked_X6_ask
set_option maxRecDepth 20000 in
theorem ggX10_liked_X6_most : GoodIn wsX10_liked wsX6_most := goodIn_r _ [73, 16, 74, 75, 14, 76, 77, 49, 50, 51, 78, 53, 54, 79, 80, 81, 82, 83, 84, 85, 118] (by decide +kernel) (by decide +kernel)
set_option maxRecDepth 20000 in
theorem gX10_liked_X6_most : GoodIn wsX10_liked (wsV RX10 289 RX6 yX6_most wsX6_most) := goodIn_app (goodIn_of _ (by decide +kernel)) ggX10_liked_X6_most
set_option maxRecDepth 20000 in
theorem ggX10_liked_X6_eggFor : GoodIn wsX10_liked wsX6_eggFor := goodIn_r _ [89, 90, 71, 72, 14, 73, 16, 74, 75, 76, 77, 49, 50, 51, 78, 53, 54, 79, 80, 81, 82, 83, 84, 85, 91, 92, 93, 94, 118] (by decide +kernel) (by decide +kernel)
set_option maxRecDepth 20000 in
theorem gX10_liked_X6_eggFor : GoodIn wsX10_liked (wsV RX10 292 RX6 yX6_eggFor wsX6_eggFor) := goodIn_app (goodIn_of _ (by decide +kernel)) ggX10_liked_X6_eggFor
theorem dX10_liked_0 : decode cX10_liked 0 = .ok (.iload_n 1, 1) := by decide +kernel
theorem dX10_liked_1 : decode cX10_liked 1 = .ok (.iconst (-1), 1) := by decide +kernel
theorem dX10_liked_2 : decode cX10_liked 2 = .ok (.if_icmp .ne 7, 3) := by decide +kernel
theorem dX10_liked_5 : decode cX10_liked 5 = .ok (.iconst 1, 1) := by decide +kernel
theorem dX10_liked_6 : decode cX10_liked 6 = .ok (.goto 4, 3) := by decide +kernel
theorem dX10_liked_9 : decode cX10_liked 9 = .ok (.iconst 0, 1) := by decide +kernel
theorem dX10_liked_10 : decode cX10_liked 10 = .ok (.istore_n 2, 1) := by decide +kernel
theorem dX10_liked_11 : decode cX10_liked 11 = .ok (.iload_n 2, 1) := by decide +kernel
theorem dX10_liked_12 : decode cX10_liked 12 = .ok (.ifCond .ne 17, 3) := by decide +kernel
theorem dX10_liked_15 : decode cX10_liked 15 = .ok (.aload_n 0, 1) := by decide +kernel
theorem dX10_liked_16 : decode cX10_liked 16 = .ok (.getfield 19, 3) := by decide +kernel
theorem dX10_liked_19 : decode cX10_liked 19 = .ok (.iload_n 1, 1) := by decide +kernel
theorem dX10_liked_20 : decode cX10_liked 20 = .ok (.invokevirtual 197, 3) := by decide +kernel
theorem dX10_liked_23 : decode cX10_liked 23 = .ok (.ifCond .ne 6, 3) := by decide +kernel
theorem dX10_liked_26 : decode cX10_liked 26 = .ok (.ldc 175, 2) := by decide +kernel
theorem dX10_liked_28 : decode cX10_liked 28 = .ok (.ireturn, 1) := by decide +kernel
theorem dX10_liked_29 : decode cX10_liked 29 = .ok (.aload_n 0, 1) := by decide +kernel
theorem dX10_liked_30 : decode cX10_liked 30 = .ok (.getfield 80, 3) := by decide +kernel
theorem dX10_liked_33 : decode cX10_liked 33 = .ok (.aload_n 0, 1) := by decide +kernel
theorem dX10_liked_34 : decode cX10_liked 34 = .ok (.getfield 19, 3) := by decide +kernel
theorem dX10_liked_37 : decode cX10_liked 37 = .ok (.aload_n 0, 1) := by decide +kernel
theorem dX10_liked_38 : decode cX10_liked 38 = .ok (.getfield 31, 3) := by decide +kernel
theorem dX10_liked_41 : decode cX10_liked 41 = .ok (.invokevirtual 285, 3) := by decide +kernel
theorem dX10_liked_44 : decode cX10_liked 44 = .ok (.iload_n 2, 1) := by decide +kernel
theorem dX10_liked_45 : decode cX10_liked 45 = .ok (.ifCond .eq 13, 3) := by decide +kernel
theorem dX10_liked_48 : decode cX10_liked 48 = .ok (.aload_n 0, 1) := by decide +kernel
theorem dX10_liked_49 : decode cX10_liked 49 = .ok (.getfield 80, 3) := by decide +kernel
theorem dX10_liked_52 : decode cX10_liked 52 = .ok (.invokevirtual 289, 3) := by decide +kernel
theorem dX10_liked_55 : decode cX10_liked 55 = .ok (.goto 11, 3) := by decide +kernel
theorem dX10_liked_58 : decode cX10_liked 58 = .ok (.aload_n 0, 1) := by decide +kernel
theorem dX10_liked_59 : decode cX10_liked 59 = .ok (.getfield 80, 3) := by decide +kernel
theorem dX10_liked_62 : decode cX10_liked 62 = .ok (.iload_n 1, 1) := by decide +kernel
theorem dX10_liked_63 : decode cX10_liked 63 = .ok (.invokevirtual 292, 3) := by decide +kernel
theorem dX10_liked_66 : decode cX10_liked 66 = .ok (.ireturn, 1) := by decide +kernel
set_option maxRecDepth 20000 in
theorem ggX10_goose_X8_hasEater : GoodIn wsX10_goose wsX8_hasEater := goodIn_r _ [8, 9, 27, 28, 29, 30, 31, 32, 33, 34, 35, 36] (by decide +kernel) (by decide +kernel)
set_option maxRecDepth 20000 in
theorem gX10_goose_X8_hasEater : GoodIn wsX10_goose (wsV RX10 197 RX8 yX8_hasEater wsX8_hasEater) := goodIn_app (goodIn_of _ (by decide +kernel)) ggX10_goose_X8_hasEater
set_option maxRecDepth 20000 in
theorem ggX10_goose_X10_isWithin : GoodIn wsX10_goose wsX10_isWithin := goodIn_r _ [13] (by decide +kernel) (by decide +kernel)
set_option maxRecDepth 20000 in
theorem gX10_goose_X10_isWithin : GoodIn wsX10_goose (va_wsS RX10 91 yX10_isWithin wsX10_isWithin) := goodIn_app (goodIn_of _ (by decide +kernel)) ggX10_goose_X10_isWithin
theorem dX10_goose_0 : decode cX10_goose 0 = .ok (.aload_n 0, 1) := by decide +kernel
theorem dX10_goose_1 : decode cX10_goose 1 = .ok (.getfield 19, 3) := by decide +kernel
theorem dX10_goose_4 : decode cX10_goose 4 = .ok (.iload_n 2, 1) := by decide +kernel
theorem dX10_goose_5 : decode cX10_goose 5 = .ok (.invokevirtual 197, 3) := by decide +kernel
theorem dX10_goose_8 : decode cX10_goose 8 = .ok (.ifCond .eq 13, 3) := by decide +kernel
theorem dX10_goose_11 : decode cX10_goose 11 = .ok (.aload_n 0, 1) := by decide +kernel
theorem dX10_goose_12 : decode cX10_goose 12 = .ok (.getfield 19, 3) := by decide +kernel
theorem dX10_goose_15 : decode cX10_goose 15 = .ok (.getfield 139, 3) := by decide +kernel
theorem dX10_goose_18 : decode cX10_goose 18 = .ok (.ifCond .gt 6, 3) := by decide +kernel
theorem dX10_goose_21 : decode cX10_goose 21 = .ok (.ldc 175, 2) := by decide +kernel
theorem dX10_goose_23 : decode cX10_goose 23 = .ok (.ireturn, 1) := by decide +kernel
theorem dX10_goose_24 : decode cX10_goose 24 = .ok (.iload_n 1, 1) := by decide +kernel
theorem dX10_goose_25 : decode cX10_goose 25 = .ok (.iconst 0, 1) := by decide +kernel
theorem dX10_goose_26 : decode cX10_goose 26 = .ok (.sipush 999, 3) := by decide +kernel
theorem dX10_goose_29 : decode cX10_goose 29 = .ok (.invokestatic 91, 3) := by decide +kernel
theorem dX10_goose_32 : decode cX10_goose 32 = .ok (.ifCond .ne 6, 3) := by decide +kernel
theorem dX10_goose_35 : decode cX10_goose 35 = .ok (.ldc 95, 2) := by decide +kernel
theorem dX10_goose_37 : decode cX10_goose 37 = .ok (.ireturn, 1) := by decide +kernel
theorem dX10_goose_38 : decode cX10_goose 38 = .ok (.iload_n 1, 1) := by decide +kernel
theorem dX10_goose_39 : decode cX10_goose 39 = .ok (.aload_n 0, 1) := by decide +kernel
theorem dX10_goose_40 : decode cX10_goose 40 = .ok (.getfield 19, 3) := by decide +kernel
theorem dX10_goose_43 : decode cX10_goose 43 = .ok (.getfield 139, 3) := by decide +kernel
theorem dX10_goose_46 : decode cX10_goose 46 = .ok (.irem, 1) := by decide +kernel
theorem dX10_goose_47 : decode cX10_goose 47 = .ok (.istore_n 3, 1) := by decide +kernel
theorem dX10_goose_48 : decode cX10_goose 48 = .ok (.iload_n 1, 1) := by decide +kernel
theorem dX10_goose_49 : decode cX10_goose 49 = .ok (.aload_n 0, 1) := by decide +kernel
theorem dX10_goose_50 : decode cX10_goose 50 = .ok (.getfield 19, 3) := by decide +kernel
theorem dX10_goose_53 : decode cX10_goose 53 = .ok (.getfield 139, 3) := by decide +kernel
theorem dX10_goose_56 : decode cX10_goose 56 = .ok (.idiv, 1) := by decide +kernel
theorem dX10_goose_57 : decode cX10_goose 57 = .ok (.iload_n 2, 1) := by decide +kernel
theorem dX10_goose_58 : decode cX10_goose 58 = .ok (.iload_n 3, 1) := by decide +kernel
theorem dX10_goose_59 : decode cX10_goose 59 = .ok (.if_icmp .ge 7, 3) := by decide +kernel
theorem dX10_goose_62 : decode cX10_goose 62 = .ok (.iconst 1, 1) := by decide +kernel
theorem dX10_goose_63 : decode cX10_goose 63 = .ok (.goto 4, 3) := by decide +kernel
theorem dX10_goose_66 : decode cX10_goose 66 = .ok (.iconst 0, 1) := by decide +kernel
theorem dX10_goose_67 : decode cX10_goose 67 = .ok (.iadd, 1) := by decide +kernel
theorem dX10_goose_68 : decode cX10_goose 68 = .ok (.ireturn, 1) := by decide +kernel
set_option maxRecDepth 20000 in
theorem ggX10_whole_X10_isWithin : GoodIn wsX10_whole wsX10_isWithin := goodIn_r _ [7] (by decide +kernel) (by decide +kernel)
set_option maxRecDepth 20000 in
theorem gX10_whole_X10_isWithin : GoodIn wsX10_whole (va_wsS RX10 91 yX10_isWithin wsX10_isWithin) := goodIn_app (goodIn_of _ (by decide +kernel)) ggX10_whole_X10_isWithin
theorem dX10_whole_0 : decode cX10_whole 0 = .ok (.iload_n 1, 1) := by decide +kernel
theorem dX10_whole_1 : decode cX10_whole 1 = .ok (.iconst 0, 1) := by decide +kernel
theorem dX10_whole_2 : decode cX10_whole 2 = .ok (.bipush 60, 2) := by decide +kernel
theorem dX10_whole_4 : decode cX10_whole 4 = .ok (.invokestatic 91, 3) := by decide +kernel
theorem dX10_whole_7 : decode cX10_whole 7 = .ok (.ifCond .eq 13, 3) := by decide +kernel
theorem dX10_whole_10 : decode cX10_whole 10 = .ok (.iload_n 2, 1) := by decide +kernel
theorem dX10_whole_11 : decode cX10_whole 11 = .ok (.iconst 0, 1) := by decide +kernel
theorem dX10_whole_12 : decode cX10_whole 12 = .ok (.bipush 100, 2) := by decide +kernel
theorem dX10_whole_14 : decode cX10_whole 14 = .ok (.invokestatic 91, 3) := by decide +kernel
theorem dX10_whole_17 : decode cX10_whole 17 = .ok (.ifCond .ne 6, 3) := by decide +kernel
theorem dX10_whole_20 : decode cX10_whole 20 = .ok (.ldc 95, 2) := by decide +kernel
theorem dX10_whole_22 : decode cX10_whole 22 = .ok (.ireturn, 1) := by decide +kernel
theorem dX10_whole_23 : decode cX10_whole 23 = .ok (.ldc2_w 295, 3) := by decide +kernel
theorem dX10_whole_26 : decode cX10_whole 26 = .ok (.lstore_n 3, 1) := by decide +kernel
theorem dX10_whole_27 : decode cX10_whole 27 = .ok (.iconst 0, 1) := by decide +kernel
theorem dX10_whole_28 : decode cX10_whole 28 = .ok (.istore 5, 2) := by decide +kernel
theorem dX10_whole_30 : decode cX10_whole 30 = .ok (.iload 5, 2) := by decide +kernel
theorem dX10_whole_32 : decode cX10_whole 32 = .ok (.iload_n 1, 1) := by decide +kernel
theorem dX10_whole_33 : decode cX10_whole 33 = .ok (.if_icmp .ge 21, 3) := by decide +kernel
theorem dX10_whole_36 : decode cX10_whole 36 = .ok (.lload_n 3, 1) := by decide +kernel
theorem dX10_whole_37 : decode cX10_whole 37 = .ok (.bipush 100, 2) := by decide +kernel
theorem dX10_whole_39 : decode cX10_whole 39 = .ok (.iload_n 2, 1) := by decide +kernel
theorem dX10_whole_40 : decode cX10_whole 40 = .ok (.isub, 1) := by decide +kernel
theorem dX10_whole_41 : decode cX10_whole 41 = .ok (.i2l, 1) := by decide +kernel
theorem dX10_whole_42 : decode cX10_whole 42 = .ok (.lmul, 1) := by decide +kernel
theorem dX10_whole_43 : decode cX10_whole 43 = .ok (.ldc2_w 297, 3) := by decide +kernel
theorem dX10_whole_46 : decode cX10_whole 46 = .ok (.ldiv, 1) := by decide +kernel
theorem dX10_whole_47 : decode cX10_whole 47 = .ok (.lstore_n 3, 1) := by decide +kernel
theorem dX10_whole_48 : decode cX10_whole 48 = .ok (.iinc 5 1, 3) := by decide +kernel
theorem dX10_whole_51 : decode cX10_whole 51 = .ok (.goto (-21), 3) := by decide +kernel
theorem dX10_whole_54 : decode cX10_whole 54 = .ok (.lload_n 3, 1) := by decide +kernel
theorem dX10_whole_55 : decode cX10_whole 55 = .ok (.l2i, 1) := by decide +kernel
theorem dX10_whole_56 : decode cX10_whole 56 = .ok (.ireturn, 1) := by decide +kernel
set_option maxRecDepth 20000 in
theorem ggX10_see_X10_isWithin : GoodIn wsX10_see wsX10_isWithin := goodIn_r _ [7] (by decide +kernel) (by decide +kernel)
set_option maxRecDepth 20000 in
theorem gX10_see_X10_isWithin : GoodIn wsX10_see (va_wsS RX10 91 yX10_isWithin wsX10_isWithin) := goodIn_app (goodIn_of _ (by decide +kernel)) ggX10_see_X10_isWithin
set_option maxRecDepth 20000 in
theorem ggX10_see_X2_add : GoodIn wsX10_see wsX2_add := goodIn_r _ [12, 13, 14, 15, 29, 30, 31] (by decide +kernel) (by decide +kernel)
set_option maxRecDepth 20000 in
theorem gX10_see_X2_add : GoodIn wsX10_see (wsV RX10 299 RX2 yX2_add wsX2_add) := goodIn_app (goodIn_of _ (by decide +kernel)) ggX10_see_X2_add
theorem dX10_see_0 : decode cX10_see 0 = .ok (.iload_n 1, 1) := by decide +kernel
theorem dX10_see_1 : decode cX10_see 1 = .ok (.iconst 1, 1) := by decide +kernel
theorem dX10_see_2 : decode cX10_see 2 = .ok (.bipush 9, 2) := by decide +kernel
theorem dX10_see_4 : decode cX10_see 4 = .ok (.invokestatic 91, 3) := by decide +kernel
theorem dX10_see_7 : decode cX10_see 7 = .ok (.ifCond .eq 13, 3) := by decide +kernel
theorem dX10_see_10 : decode cX10_see 10 = .ok (.iload_n 2, 1) := by decide +kernel
theorem dX10_see_11 : decode cX10_see 11 = .ok (.iconst 0, 1) := by decide +kernel
theorem dX10_see_12 : decode cX10_see 12 = .ok (.bipush 30, 2) := by decide +kernel
theorem dX10_see_14 : decode cX10_see 14 = .ok (.invokestatic 91, 3) := by decide +kernel
theorem dX10_see_17 : decode cX10_see 17 = .ok (.ifCond .ne 6, 3) := by decide +kernel
theorem dX10_see_20 : decode cX10_see 20 = .ok (.ldc 95, 2) := by decide +kernel
theorem dX10_see_22 : decode cX10_see 22 = .ok (.ireturn, 1) := by decide +kernel
theorem dX10_see_23 : decode cX10_see 23 = .ok (.aload_n 0, 1) := by decide +kernel
theorem dX10_see_24 : decode cX10_see 24 = .ok (.getfield 52, 3) := by decide +kernel
theorem dX10_see_27 : decode cX10_see 27 = .ok (.iload_n 1, 1) := by decide +kernel
theorem dX10_see_28 : decode cX10_see 28 = .ok (.iload_n 2, 1) := by decide +kernel
theorem dX10_see_29 : decode cX10_see 29 = .ok (.invokevirtual 299, 3) := by decide +kernel
theorem dX10_see_32 : decode cX10_see 32 = .ok (.ifCond .eq 13, 3) := by decide +kernel
theorem dX10_see_35 : decode cX10_see 35 = .ok (.aload_n 0, 1) := by decide +kernel
theorem dX10_see_36 : decode cX10_see 36 = .ok (.getfield 52, 3) := by decide +kernel
theorem dX10_see_39 : decode cX10_see 39 = .ok (.getfield 167, 3) := by decide +kernel
theorem dX10_see_42 : decode cX10_see 42 = .ok (.goto 5, 3) := by decide +kernel
theorem dX10_see_45 : decode cX10_see 45 = .ok (.ldc 104, 2) := by decide +kernel
theorem dX10_see_47 : decode cX10_see 47 = .ok (.ireturn, 1) := by decide +kernel
set_option maxRecDepth 20000 in
theorem ggX10_ages_X2_fittingAges : GoodIn wsX10_ages wsX2_fittingAges := goodIn_r _ [6, 7, 8, 9, 5, 10, 11, 12, 13, 27, 28, 29] (by decide +kernel) (by decide +kernel)
set_option maxRecDepth 20000 in
theorem gX10_ages_X2_fittingAges : GoodIn wsX10_ages (wsV RX10 302 RX2 yX2_fittingAges wsX2_fittingAges) := goodIn_app (goodIn_of _ (by decide +kernel)) ggX10_ages_X2_fittingAges
theorem dX10_ages_0 : decode cX10_ages 0 = .ok (.aload_n 0, 1) := by decide +kernel
theorem dX10_ages_1 : decode cX10_ages 1 = .ok (.getfield 52, 3) := by decide +kernel
theorem dX10_ages_4 : decode cX10_ages 4 = .ok (.invokevirtual 302, 3) := by decide +kernel
theorem dX10_ages_7 : decode cX10_ages 7 = .ok (.ireturn, 1) := by decide +kernel
set_option maxRecDepth 20000 in
theorem ggX10_testNext_X2_bestTest : GoodIn wsX10_testNext wsX2_bestTest := goodIn_r _ [6, 7, 8, 9, 5, 10, 11, 12, 13, 14, 15, 16, 17, 18, 19, 20, 21, 22, 23, 24, 25, 26, 27, 28, 29, 30, 31, 45, 46, 47] (by decide +kernel) (by decide +kernel)
set_option maxRecDepth 20000 in
theorem gX10_testNext_X2_bestTest : GoodIn wsX10_testNext (wsV RX10 305 RX2 yX2_bestTest wsX2_bestTest) := goodIn_app (goodIn_of _ (by decide +kernel)) ggX10_testNext_X2_bestTest
theorem dX10_testNext_0 : decode cX10_testNext 0 = .ok (.aload_n 0, 1) := by decide +kernel
theorem dX10_testNext_1 : decode cX10_testNext 1 = .ok (.getfield 52, 3) := by decide +kernel
theorem dX10_testNext_4 : decode cX10_testNext 4 = .ok (.invokevirtual 305, 3) := by decide +kernel
theorem dX10_testNext_7 : decode cX10_testNext 7 = .ok (.ireturn, 1) := by decide +kernel
set_option maxRecDepth 20000 in
theorem ggX10_write_X8_hasEgg : GoodIn wsX10_write wsX8_hasEgg := goodIn_r _ [10, 11, 40, 41, 42, 43, 44, 45, 46, 47, 48, 49] (by decide +kernel) (by decide +kernel)
set_option maxRecDepth 20000 in
theorem gX10_write_X8_hasEgg : GoodIn wsX10_write (wsV RX10 172 RX8 yX8_hasEgg wsX8_hasEgg) := goodIn_app (goodIn_of _ (by decide +kernel)) ggX10_write_X8_hasEgg
set_option maxRecDepth 20000 in
theorem ggX10_write_X10_isWithin : GoodIn wsX10_write wsX10_isWithin := goodIn_r _ [15] (by decide +kernel) (by decide +kernel)
set_option maxRecDepth 20000 in
theorem gX10_write_X10_isWithin : GoodIn wsX10_write (va_wsS RX10 91 yX10_isWithin wsX10_isWithin) := goodIn_app (goodIn_of _ (by decide +kernel)) ggX10_write_X10_isWithin
set_option maxRecDepth 20000 in
theorem ggX10_write_X1_add : GoodIn wsX10_write wsX1_add := goodIn_r _ [20, 21, 22, 23, 37, 38, 39] (by decide +kernel) (by decide +kernel)
set_option maxRecDepth 20000 in
theorem gX10_write_X1_add : GoodIn wsX10_write (wsV RX10 308 RX1 yX1_add wsX1_add) := goodIn_app (goodIn_of _ (by decide +kernel)) ggX10_write_X1_add
theorem dX10_write_0 : decode cX10_write 0 = .ok (.aload_n 0, 1) := by decide +kernel
theorem dX10_write_1 : decode cX10_write 1 = .ok (.getfield 19, 3) := by decide +kernel
theorem dX10_write_4 : decode cX10_write 4 = .ok (.iload_n 1, 1) := by decide +kernel
theorem dX10_write_5 : decode cX10_write 5 = .ok (.invokevirtual 172, 3) := by decide +kernel
theorem dX10_write_8 : decode cX10_write 8 = .ok (.ifCond .ne 6, 3) := by decide +kernel
theorem dX10_write_11 : decode cX10_write 11 = .ok (.ldc 175, 2) := by decide +kernel
theorem dX10_write_13 : decode cX10_write 13 = .ok (.ireturn, 1) := by decide +kernel
theorem dX10_write_14 : decode cX10_write 14 = .ok (.iload_n 2, 1) := by decide +kernel
theorem dX10_write_15 : decode cX10_write 15 = .ok (.iconst 0, 1) := by decide +kernel
theorem dX10_write_16 : decode cX10_write 16 = .ok (.iconst 5, 1) := by decide +kernel
theorem dX10_write_17 : decode cX10_write 17 = .ok (.invokestatic 91, 3) := by decide +kernel
theorem dX10_write_20 : decode cX10_write 20 = .ok (.ifCond .ne 6, 3) := by decide +kernel
theorem dX10_write_23 : decode cX10_write 23 = .ok (.ldc 95, 2) := by decide +kernel
theorem dX10_write_25 : decode cX10_write 25 = .ok (.ireturn, 1) := by decide +kernel
theorem dX10_write_26 : decode cX10_write 26 = .ok (.aload_n 0, 1) := by decide +kernel
theorem dX10_write_27 : decode cX10_write 27 = .ok (.getfield 59, 3) := by decide +kernel
theorem dX10_write_30 : decode cX10_write 30 = .ok (.iload_n 1, 1) := by decide +kernel
theorem dX10_write_31 : decode cX10_write 31 = .ok (.iload_n 2, 1) := by decide +kernel
theorem dX10_write_32 : decode cX10_write 32 = .ok (.invokevirtual 308, 3) := by decide +kernel
theorem dX10_write_35 : decode cX10_write 35 = .ok (.ifCond .eq 13, 3) := by decide +kernel
theorem dX10_write_38 : decode cX10_write 38 = .ok (.aload_n 0, 1) := by decide +kernel
theorem dX10_write_39 : decode cX10_write 39 = .ok (.getfield 59, 3) := by decide +kernel
theorem dX10_write_42 : decode cX10_write 42 = .ok (.getfield 170, 3) := by decide +kernel
theorem dX10_write_45 : decode cX10_write 45 = .ok (.goto 5, 3) := by decide +kernel
theorem dX10_write_48 : decode cX10_write 48 = .ok (.ldc 104, 2) := by decide +kernel
theorem dX10_write_50 : decode cX10_write 50 = .ok (.ireturn, 1) := by decide +kernel
set_option maxRecDepth 20000 in
theorem ggX10_tear_X2_forget : GoodIn wsX10_tear wsX2_forget := goodIn_r _ [7, 8, 28, 29, 30] (by decide +kernel) (by decide +kernel)
set_option maxRecDepth 20000 in
theorem gX10_tear_X2_forget : GoodIn wsX10_tear (wsV RX10 125 RX2 yX2_forget wsX2_forget) := goodIn_app (goodIn_of _ (by decide +kernel)) ggX10_tear_X2_forget
set_option maxRecDepth 20000 in
theorem ggX10_tear_X1_forget : GoodIn wsX10_tear wsX1_forget := goodIn_r _ [13, 14, 31, 32, 33] (by decide +kernel) (by decide +kernel)
set_option maxRecDepth 20000 in
theorem gX10_tear_X1_forget : GoodIn wsX10_tear (wsV RX10 126 RX1 yX1_forget wsX1_forget) := goodIn_app (goodIn_of _ (by decide +kernel)) ggX10_tear_X1_forget
theorem dX10_tear_0 : decode cX10_tear 0 = .ok (.aload_n 0, 1) := by decide +kernel
theorem dX10_tear_1 : decode cX10_tear 1 = .ok (.getfield 52, 3) := by decide +kernel
theorem dX10_tear_4 : decode cX10_tear 4 = .ok (.getfield 167, 3) := by decide +kernel
theorem dX10_tear_7 : decode cX10_tear 7 = .ok (.aload_n 0, 1) := by decide +kernel
theorem dX10_tear_8 : decode cX10_tear 8 = .ok (.getfield 59, 3) := by decide +kernel
theorem dX10_tear_11 : decode cX10_tear 11 = .ok (.getfield 170, 3) := by decide +kernel
theorem dX10_tear_14 : decode cX10_tear 14 = .ok (.iadd, 1) := by decide +kernel
theorem dX10_tear_15 : decode cX10_tear 15 = .ok (.istore_n 1, 1) := by decide +kernel
theorem dX10_tear_16 : decode cX10_tear 16 = .ok (.aload_n 0, 1) := by decide +kernel
theorem dX10_tear_17 : decode cX10_tear 17 = .ok (.getfield 52, 3) := by decide +kernel
theorem dX10_tear_20 : decode cX10_tear 20 = .ok (.invokevirtual 125, 3) := by decide +kernel
theorem dX10_tear_23 : decode cX10_tear 23 = .ok (.aload_n 0, 1) := by decide +kernel
theorem dX10_tear_24 : decode cX10_tear 24 = .ok (.getfield 59, 3) := by decide +kernel
theorem dX10_tear_27 : decode cX10_tear 27 = .ok (.invokevirtual 126, 3) := by decide +kernel
theorem dX10_tear_30 : decode cX10_tear 30 = .ok (.iload_n 1, 1) := by decide +kernel
theorem dX10_tear_31 : decode cX10_tear 31 = .ok (.ireturn, 1) := by decide +kernel
set_option maxRecDepth 20000 in
theorem ggX10_judge_X1_firstWrong : GoodIn wsX10_judge wsX1_firstWrong := goodIn_r _ [7, 8, 9, 10, 11, 12, 13, 14, 15, 16, 17, 18, 19, 20, 21, 22, 23, 37, 38, 39, 40, 41, 42, 43, 44, 45, 46, 47, 48, 49, 50, 51, 52, 53, 54, 55, 56, 57, 58] (by decide +kernel) (by decide +kernel)
set_option maxRecDepth 20000 in
theorem gX10_judge_X1_firstWrong : GoodIn wsX10_judge (wsV RX10 309 RX1 yX1_firstWrong wsX1_firstWrong) := goodIn_app (goodIn_of _ (by decide +kernel)) ggX10_judge_X1_firstWrong
theorem dX10_judge_0 : decode cX10_judge 0 = .ok (.aload_n 0, 1) := by decide +kernel
theorem dX10_judge_1 : decode cX10_judge 1 = .ok (.getfield 59, 3) := by decide +kernel
theorem dX10_judge_4 : decode cX10_judge 4 = .ok (.aload_n 0, 1) := by decide +kernel
theorem dX10_judge_5 : decode cX10_judge 5 = .ok (.getfield 31, 3) := by decide +kernel
theorem dX10_judge_8 : decode cX10_judge 8 = .ok (.invokevirtual 309, 3) := by decide +kernel
theorem dX10_judge_11 : decode cX10_judge 11 = .ok (.ireturn, 1) := by decide +kernel
theorem dX10_seed_0 : decode cX10_seed 0 = .ok (.iload_n 1, 1) := by decide +kernel
theorem dX10_seed_1 : decode cX10_seed 1 = .ok (.ifCond .ge 6, 3) := by decide +kernel
theorem dX10_seed_4 : decode cX10_seed 4 = .ok (.ldc 95, 2) := by decide +kernel
theorem dX10_seed_6 : decode cX10_seed 6 = .ok (.ireturn, 1) := by decide +kernel
theorem dX10_seed_7 : decode cX10_seed 7 = .ok (.aload_n 0, 1) := by decide +kernel
theorem dX10_seed_8 : decode cX10_seed 8 = .ok (.getfield 88, 3) := by decide +kernel
theorem dX10_seed_11 : decode cX10_seed 11 = .ok (.istore_n 2, 1) := by decide +kernel
theorem dX10_seed_12 : decode cX10_seed 12 = .ok (.aload_n 0, 1) := by decide +kernel
theorem dX10_seed_13 : decode cX10_seed 13 = .ok (.iload_n 1, 1) := by decide +kernel
theorem dX10_seed_14 : decode cX10_seed 14 = .ok (.putfield 88, 3) := by decide +kernel
theorem dX10_seed_17 : decode cX10_seed 17 = .ok (.iload_n 2, 1) := by decide +kernel
theorem dX10_seed_18 : decode cX10_seed 18 = .ok (.ireturn, 1) := by decide +kernel
set_option maxRecDepth 20000 in
theorem ggX10_keep_X10_isWithin : GoodIn wsX10_keep wsX10_isWithin := goodIn_r _ [9] (by decide +kernel) (by decide +kernel)
set_option maxRecDepth 20000 in
theorem gX10_keep_X10_isWithin : GoodIn wsX10_keep (va_wsS RX10 91 yX10_isWithin wsX10_isWithin) := goodIn_app (goodIn_of _ (by decide +kernel)) ggX10_keep_X10_isWithin
set_option maxRecDepth 20000 in
theorem ggX10_keep_X3_take : GoodIn wsX10_keep wsX3_take := goodIn_r _ [14, 15, 16, 17, 18, 19, 20, 21, 22, 23, 24, 25, 26, 27, 28, 29, 30, 31, 32, 33, 34, 35, 36, 37, 58, 59, 60, 61, 62, 63, 64, 65, 66, 67, 68, 69] (by decide +kernel) (by decide +kernel)
set_option maxRecDepth 20000 in
theorem gX10_keep_X3_take : GoodIn wsX10_keep (wsV RX10 313 RX3 yX3_take wsX3_take) := goodIn_app (goodIn_of _ (by decide +kernel)) ggX10_keep_X3_take
set_option maxRecDepth 20000 in
theorem ggX10_keep_X5_forget : GoodIn wsX10_keep wsX5_forget := goodIn_r _ [42, 43, 44, 70, 71, 72] (by decide +kernel) (by decide +kernel)
set_option maxRecDepth 20000 in
theorem gX10_keep_X5_forget : GoodIn wsX10_keep (wsV RX10 121 RX5 yX5_forget wsX5_forget) := goodIn_app (goodIn_of _ (by decide +kernel)) ggX10_keep_X5_forget
theorem dX10_keep_0 : decode cX10_keep 0 = .ok (.iload_n 1, 1) := by decide +kernel
theorem dX10_keep_1 : decode cX10_keep 1 = .ok (.iconst 0, 1) := by decide +kernel
theorem dX10_keep_2 : decode cX10_keep 2 = .ok (.iconst 1, 1) := by decide +kernel
theorem dX10_keep_3 : decode cX10_keep 3 = .ok (.invokestatic 91, 3) := by decide +kernel
theorem dX10_keep_6 : decode cX10_keep 6 = .ok (.ifCond .ne 6, 3) := by decide +kernel
theorem dX10_keep_9 : decode cX10_keep 9 = .ok (.ldc 175, 2) := by decide +kernel
theorem dX10_keep_11 : decode cX10_keep 11 = .ok (.ireturn, 1) := by decide +kernel
theorem dX10_keep_12 : decode cX10_keep 12 = .ok (.aload_n 0, 1) := by decide +kernel
theorem dX10_keep_13 : decode cX10_keep 13 = .ok (.getfield 45, 3) := by decide +kernel
theorem dX10_keep_16 : decode cX10_keep 16 = .ok (.iload_n 1, 1) := by decide +kernel
theorem dX10_keep_17 : decode cX10_keep 17 = .ok (.aload_n 0, 1) := by decide +kernel
theorem dX10_keep_18 : decode cX10_keep 18 = .ok (.getfield 31, 3) := by decide +kernel
theorem dX10_keep_21 : decode cX10_keep 21 = .ok (.aload_n 0, 1) := by decide +kernel
theorem dX10_keep_22 : decode cX10_keep 22 = .ok (.getfield 88, 3) := by decide +kernel
theorem dX10_keep_25 : decode cX10_keep 25 = .ok (.invokevirtual 313, 3) := by decide +kernel
theorem dX10_keep_28 : decode cX10_keep 28 = .ok (.aload_n 0, 1) := by decide +kernel
theorem dX10_keep_29 : decode cX10_keep 29 = .ok (.getfield 38, 3) := by decide +kernel
theorem dX10_keep_32 : decode cX10_keep 32 = .ok (.invokevirtual 121, 3) := by decide +kernel
theorem dX10_keep_35 : decode cX10_keep 35 = .ok (.iconst 1, 1) := by decide +kernel
theorem dX10_keep_36 : decode cX10_keep 36 = .ok (.ireturn, 1) := by decide +kernel
set_option maxRecDepth 20000 in
theorem ggX10_goBack_X10_isWithin : GoodIn wsX10_goBack wsX10_isWithin := goodIn_r _ [10] (by decide +kernel) (by decide +kernel)
set_option maxRecDepth 20000 in
theorem gX10_goBack_X10_isWithin : GoodIn wsX10_goBack (va_wsS RX10 91 yX10_isWithin wsX10_isWithin) := goodIn_app (goodIn_of _ (by decide +kernel)) ggX10_goBack_X10_isWithin
set_option maxRecDepth 20000 in
theorem ggX10_goBack_X3_has : GoodIn wsX10_goBack wsX3_has := goodIn_r _ [15, 16, 68, 69, 70] (by decide +kernel) (by decide +kernel)
set_option maxRecDepth 20000 in
theorem gX10_goBack_X3_has : GoodIn wsX10_goBack (wsV RX10 317 RX3 yX3_has wsX3_has) := goodIn_app (goodIn_of _ (by decide +kernel)) ggX10_goBack_X3_has
set_option maxRecDepth 20000 in
theorem ggX10_goBack_X3_show : GoodIn wsX10_goBack wsX3_show := goodIn_r _ [20, 21, 22, 12, 13, 14, 15, 16, 23, 24, 25, 26, 27, 28, 29, 30, 31, 32, 33, 34, 35, 36, 37, 38, 39, 40, 41, 42, 68, 69, 70, 71, 72, 73, 74, 75, 76, 77, 78, 79] (by decide +kernel) (by decide +kernel)
set_option maxRecDepth 20000 in
theorem gX10_goBack_X3_show : GoodIn wsX10_goBack (wsV RX10 320 RX3 yX3_show wsX3_show) := goodIn_app (goodIn_of _ (by decide +kernel)) ggX10_goBack_X3_show
set_option maxRecDepth 20000 in
theorem ggX10_goBack_X3_seedOf : GoodIn wsX10_goBack wsX3_seedOf := goodIn_r _ [46, 47, 22, 12, 13, 14, 15, 16, 68, 69, 70] (by decide +kernel) (by decide +kernel)
set_option maxRecDepth 20000 in
theorem gX10_goBack_X3_seedOf : GoodIn wsX10_goBack (wsV RX10 324 RX3 yX3_seedOf wsX3_seedOf) := goodIn_app (goodIn_of _ (by decide +kernel)) ggX10_goBack_X3_seedOf
set_option maxRecDepth 20000 in
theorem ggX10_goBack_X5_forget : GoodIn wsX10_goBack wsX5_forget := goodIn_r _ [52, 53, 54, 80, 81, 82] (by decide +kernel) (by decide +kernel)
set_option maxRecDepth 20000 in
theorem gX10_goBack_X5_forget : GoodIn wsX10_goBack (wsV RX10 121 RX5 yX5_forget wsX5_forget) := goodIn_app (goodIn_of _ (by decide +kernel)) ggX10_goBack_X5_forget
theorem dX10_goBack_0 : decode cX10_goBack 0 = .ok (.iload_n 1, 1) := by decide +kernel
theorem dX10_goBack_1 : decode cX10_goBack 1 = .ok (.iconst 0, 1) := by decide +kernel
theorem dX10_goBack_2 : decode cX10_goBack 2 = .ok (.iconst 1, 1) := by decide +kernel
theorem dX10_goBack_3 : decode cX10_goBack 3 = .ok (.invokestatic 91, 3) := by decide +kernel
theorem dX10_goBack_6 : decode cX10_goBack 6 = .ok (.ifCond .ne 6, 3) := by decide +kernel
theorem dX10_goBack_9 : decode cX10_goBack 9 = .ok (.ldc 175, 2) := by decide +kernel
theorem dX10_goBack_11 : decode cX10_goBack 11 = .ok (.ireturn, 1) := by decide +kernel
theorem dX10_goBack_12 : decode cX10_goBack 12 = .ok (.aload_n 0, 1) := by decide +kernel
theorem dX10_goBack_13 : decode cX10_goBack 13 = .ok (.getfield 45, 3) := by decide +kernel
theorem dX10_goBack_16 : decode cX10_goBack 16 = .ok (.iload_n 1, 1) := by decide +kernel
theorem dX10_goBack_17 : decode cX10_goBack 17 = .ok (.invokevirtual 317, 3) := by decide +kernel
theorem dX10_goBack_20 : decode cX10_goBack 20 = .ok (.ifCond .ne 6, 3) := by decide +kernel
theorem dX10_goBack_23 : decode cX10_goBack 23 = .ok (.ldc 219, 2) := by decide +kernel
theorem dX10_goBack_25 : decode cX10_goBack 25 = .ok (.ireturn, 1) := by decide +kernel
theorem dX10_goBack_26 : decode cX10_goBack 26 = .ok (.aload_n 0, 1) := by decide +kernel
theorem dX10_goBack_27 : decode cX10_goBack 27 = .ok (.getfield 45, 3) := by decide +kernel
theorem dX10_goBack_30 : decode cX10_goBack 30 = .ok (.iload_n 1, 1) := by decide +kernel
theorem dX10_goBack_31 : decode cX10_goBack 31 = .ok (.aload_n 0, 1) := by decide +kernel
theorem dX10_goBack_32 : decode cX10_goBack 32 = .ok (.getfield 31, 3) := by decide +kernel
theorem dX10_goBack_35 : decode cX10_goBack 35 = .ok (.invokevirtual 320, 3) := by decide +kernel
theorem dX10_goBack_38 : decode cX10_goBack 38 = .ok (.aload_n 0, 1) := by decide +kernel
theorem dX10_goBack_39 : decode cX10_goBack 39 = .ok (.aload_n 0, 1) := by decide +kernel
theorem dX10_goBack_40 : decode cX10_goBack 40 = .ok (.getfield 45, 3) := by decide +kernel
theorem dX10_goBack_43 : decode cX10_goBack 43 = .ok (.iload_n 1, 1) := by decide +kernel
theorem dX10_goBack_44 : decode cX10_goBack 44 = .ok (.invokevirtual 324, 3) := by decide +kernel
theorem dX10_goBack_47 : decode cX10_goBack 47 = .ok (.putfield 88, 3) := by decide +kernel
theorem dX10_goBack_50 : decode cX10_goBack 50 = .ok (.aload_n 0, 1) := by decide +kernel
theorem dX10_goBack_51 : decode cX10_goBack 51 = .ok (.getfield 38, 3) := by decide +kernel
theorem dX10_goBack_54 : decode cX10_goBack 54 = .ok (.invokevirtual 121, 3) := by decide +kernel
theorem dX10_goBack_57 : decode cX10_goBack 57 = .ok (.iconst 1, 1) := by decide +kernel
theorem dX10_goBack_58 : decode cX10_goBack 58 = .ok (.ireturn, 1) := by decide +kernel
theorem dX10_isWithin_0 : decode cX10_isWithin 0 = .ok (.iload_n 0, 1) := by decide +kernel
theorem dX10_isWithin_1 : decode cX10_isWithin 1 = .ok (.iload_n 1, 1) := by decide +kernel
theorem dX10_isWithin_2 : decode cX10_isWithin 2 = .ok (.if_icmp .lt 12, 3) := by decide +kernel
theorem dX10_isWithin_5 : decode cX10_isWithin 5 = .ok (.iload_n 0, 1) := by decide +kernel
theorem dX10_isWithin_6 : decode cX10_isWithin 6 = .ok (.iload_n 2, 1) := by decide +kernel
theorem dX10_isWithin_7 : decode cX10_isWithin 7 = .ok (.if_icmp .gt 7, 3) := by decide +kernel
theorem dX10_isWithin_10 : decode cX10_isWithin 10 = .ok (.iconst 1, 1) := by decide +kernel
theorem dX10_isWithin_11 : decode cX10_isWithin 11 = .ok (.goto 4, 3) := by decide +kernel
theorem dX10_isWithin_14 : decode cX10_isWithin 14 = .ok (.iconst 0, 1) := by decide +kernel
theorem dX10_isWithin_15 : decode cX10_isWithin 15 = .ok (.ireturn, 1) := by decide +kernel
set_option maxRecDepth 20000 in
theorem ggX10_refusalOfMinutes_X10_isWithin : GoodIn wsX10_refusalOfMinutes wsX10_isWithin := goodIn_r _ [9] (by decide +kernel) (by decide +kernel)
set_option maxRecDepth 20000 in
theorem gX10_refusalOfMinutes_X10_isWithin : GoodIn wsX10_refusalOfMinutes (va_wsS RX10 91 yX10_isWithin wsX10_isWithin) := goodIn_app (goodIn_of _ (by decide +kernel)) ggX10_refusalOfMinutes_X10_isWithin
set_option maxRecDepth 20000 in
theorem ggX10_refusalOfMinutes_X8_isLaid : GoodIn wsX10_refusalOfMinutes wsX8_isLaid := goodIn_r _ [14, 15, 38, 39, 40, 41, 42, 43, 44, 45, 46, 47] (by decide +kernel) (by decide +kernel)
set_option maxRecDepth 20000 in
theorem gX10_refusalOfMinutes_X8_isLaid : GoodIn wsX10_refusalOfMinutes (wsV RX10 239 RX8 yX8_isLaid wsX8_isLaid) := goodIn_app (goodIn_of _ (by decide +kernel)) ggX10_refusalOfMinutes_X8_isLaid
theorem dX10_refusalOfMinutes_0 : decode cX10_refusalOfMinutes 0 = .ok (.iload_n 1, 1) := by decide +kernel
theorem dX10_refusalOfMinutes_1 : decode cX10_refusalOfMinutes 1 = .ok (.iconst 1, 1) := by decide +kernel
theorem dX10_refusalOfMinutes_2 : decode cX10_refusalOfMinutes 2 = .ok (.bipush 60, 2) := by decide +kernel
theorem dX10_refusalOfMinutes_4 : decode cX10_refusalOfMinutes 4 = .ok (.invokestatic 91, 3) := by decide +kernel
theorem dX10_refusalOfMinutes_7 : decode cX10_refusalOfMinutes 7 = .ok (.ifCond .ne 6, 3) := by decide +kernel
theorem dX10_refusalOfMinutes_10 : decode cX10_refusalOfMinutes 10 = .ok (.ldc 95, 2) := by decide +kernel
theorem dX10_refusalOfMinutes_12 : decode cX10_refusalOfMinutes 12 = .ok (.ireturn, 1) := by decide +kernel
theorem dX10_refusalOfMinutes_13 : decode cX10_refusalOfMinutes 13 = .ok (.aload_n 0, 1) := by decide +kernel
theorem dX10_refusalOfMinutes_14 : decode cX10_refusalOfMinutes 14 = .ok (.getfield 19, 3) := by decide +kernel
theorem dX10_refusalOfMinutes_17 : decode cX10_refusalOfMinutes 17 = .ok (.invokevirtual 239, 3) := by decide +kernel
theorem dX10_refusalOfMinutes_20 : decode cX10_refusalOfMinutes 20 = .ok (.ifCond .ne 6, 3) := by decide +kernel
theorem dX10_refusalOfMinutes_23 : decode cX10_refusalOfMinutes 23 = .ok (.ldc 219, 2) := by decide +kernel
theorem dX10_refusalOfMinutes_25 : decode cX10_refusalOfMinutes 25 = .ok (.ireturn, 1) := by decide +kernel
theorem dX10_refusalOfMinutes_26 : decode cX10_refusalOfMinutes 26 = .ok (.aload_n 0, 1) := by decide +kernel
theorem dX10_refusalOfMinutes_27 : decode cX10_refusalOfMinutes 27 = .ok (.getfield 31, 3) := by decide +kernel
theorem dX10_refusalOfMinutes_30 : decode cX10_refusalOfMinutes 30 = .ok (.getfield 142, 3) := by decide +kernel
theorem dX10_refusalOfMinutes_33 : decode cX10_refusalOfMinutes 33 = .ok (.sipush 9000, 3) := by decide +kernel
theorem dX10_refusalOfMinutes_36 : decode cX10_refusalOfMinutes 36 = .ok (.if_icmp .le 8, 3) := by decide +kernel
theorem dX10_refusalOfMinutes_39 : decode cX10_refusalOfMinutes 39 = .ok (.ldc 104, 2) := by decide +kernel
theorem dX10_refusalOfMinutes_41 : decode cX10_refusalOfMinutes 41 = .ok (.goto 4, 3) := by decide +kernel
theorem dX10_refusalOfMinutes_44 : decode cX10_refusalOfMinutes 44 = .ok (.iconst 0, 1) := by decide +kernel
theorem dX10_refusalOfMinutes_45 : decode cX10_refusalOfMinutes 45 = .ok (.ireturn, 1) := by decide +kernel
set_option maxRecDepth 20000 in
theorem ggX10_actByDraws_X10_draw : GoodIn wsX10_actByDraws wsX10_draw := goodIn_r _ [7, 8, 9, 10, 11, 12, 102, 103, 104, 105, 106, 107, 108, 109, 110, 111, 112, 113, 114] (by decide +kernel) (by decide +kernel)
set_option maxRecDepth 20000 in
theorem gX10_actByDraws_X10_draw : GoodIn wsX10_actByDraws (wsV RX10 327 RX10 yX10_draw wsX10_draw) := goodIn_app (goodIn_of _ (by decide +kernel)) ggX10_actByDraws_X10_draw
set_option maxRecDepth 20000 in
theorem ggX10_actByDraws_X4_canGoIn : GoodIn wsX10_actByDraws wsX4_canGoIn := goodIn_r _ [17, 18, 19, 20, 21, 16, 22, 23, 24, 25, 26, 27, 28, 29, 30, 31, 32, 33, 34, 35, 36, 37, 38, 39, 40, 41, 42, 43, 44, 125, 126, 127, 128, 129, 130, 131, 132, 133, 115, 116, 117, 118, 119, 120, 121, 122, 123, 124] (by decide +kernel) (by decide +kernel)
set_option maxRecDepth 20000 in
theorem gX10_actByDraws_X4_canGoIn : GoodIn wsX10_actByDraws (wsV RX10 216 RX4 yX4_canGoIn wsX4_canGoIn) := goodIn_app (goodIn_of _ (by decide +kernel)) ggX10_actByDraws_X4_canGoIn
set_option maxRecDepth 20000 in
theorem ggX10_actByDraws_X4_goIn : GoodIn wsX10_actByDraws wsX4_goIn := goodIn_r _ [48, 49, 50, 51, 16, 52, 18, 23, 24, 25, 26, 27, 28, 29, 125, 126, 127, 128, 129, 130, 131, 132, 133, 115, 116, 117, 118, 119, 120, 121, 122, 123, 124] (by decide +kernel) (by decide +kernel)
set_option maxRecDepth 20000 in
theorem gX10_actByDraws_X4_goIn : GoodIn wsX10_actByDraws (wsV RX10 220 RX4 yX4_goIn wsX4_goIn) := goodIn_app (goodIn_of _ (by decide +kernel)) ggX10_actByDraws_X4_goIn
set_option maxRecDepth 20000 in
theorem ggX10_actByDraws_X4_canComeOut : GoodIn wsX10_actByDraws wsX4_canComeOut := goodIn_r _ [56, 19, 20, 21, 16, 22, 18, 23, 24, 25, 26, 27, 28, 29, 125, 126, 127, 128, 129, 130, 131, 132, 133, 115, 116, 117, 118, 119, 120, 121, 122, 123, 124] (by decide +kernel) (by decide +kernel)
set_option maxRecDepth 20000 in
theorem gX10_actByDraws_X4_canComeOut : GoodIn wsX10_actByDraws (wsV RX10 227 RX4 yX4_canComeOut wsX4_canComeOut) := goodIn_app (goodIn_of _ (by decide +kernel)) ggX10_actByDraws_X4_canComeOut
set_option maxRecDepth 20000 in
theorem ggX10_actByDraws_X4_comeOut : GoodIn wsX10_actByDraws wsX4_comeOut := goodIn_r _ [60, 49, 50, 51, 16, 52, 18, 23, 24, 25, 26, 27, 28, 29, 125, 126, 127, 128, 129, 130, 131, 132, 133, 115, 116, 117, 118, 119, 120, 121, 122, 123, 124] (by decide +kernel) (by decide +kernel)
set_option maxRecDepth 20000 in
theorem gX10_actByDraws_X4_comeOut : GoodIn wsX10_actByDraws (wsV RX10 230 RX4 yX4_comeOut wsX4_comeOut) := goodIn_app (goodIn_of _ (by decide +kernel)) ggX10_actByDraws_X4_comeOut
set_option maxRecDepth 20000 in
theorem ggX10_actByDraws_X4_canBeKing : GoodIn wsX10_actByDraws wsX4_canBeKing := goodIn_r _ [64, 65, 19, 20, 21, 16, 22, 18, 23, 24, 25, 26, 27, 28, 29, 125, 126, 127, 128, 129, 130, 131, 132, 133, 115, 116, 117, 118, 119, 120, 121, 122, 123, 124] (by decide +kernel) (by decide +kernel)
set_option maxRecDepth 20000 in
theorem gX10_actByDraws_X4_canBeKing : GoodIn wsX10_actByDraws (wsV RX10 233 RX4 yX4_canBeKing wsX4_canBeKing) := goodIn_app (goodIn_of _ (by decide +kernel)) ggX10_actByDraws_X4_canBeKing
set_option maxRecDepth 20000 in
theorem ggX10_actByDraws_X4_becomeKing : GoodIn wsX10_actByDraws wsX4_becomeKing := goodIn_r _ [69, 65, 70, 49, 50, 51, 16, 52, 18, 23, 24, 25, 26, 27, 28, 29, 71, 72, 73, 74, 75, 76, 77, 78, 79, 80, 81, 82, 83, 84, 85, 86, 87, 88, 89, 90, 91, 92, 93, 94, 95, 96, 97, 98, 99, 100, 101, 125, 126, 127, 128, 129, 130, 131, 132, 133, 115, 116, 117, 118, 119, 120, 121, 122, 123, 124] (by decide +kernel) (by decide +kernel)
set_option maxRecDepth 20000 in
theorem gX10_actByDraws_X4_becomeKing : GoodIn wsX10_actByDraws (wsV RX10 236 RX4 yX4_becomeKing wsX4_becomeKing) := goodIn_app (goodIn_of _ (by decide +kernel)) ggX10_actByDraws_X4_becomeKing
theorem dX10_actByDraws_0 : decode cX10_actByDraws 0 = .ok (.aload_n 0, 1) := by decide +kernel
theorem dX10_actByDraws_1 : decode cX10_actByDraws 1 = .ok (.getfield 19, 3) := by decide +kernel
theorem dX10_actByDraws_4 : decode cX10_actByDraws 4 = .ok (.getfield 127, 3) := by decide +kernel
theorem dX10_actByDraws_7 : decode cX10_actByDraws 7 = .ok (.ifCond .gt 4, 3) := by decide +kernel
theorem dX10_actByDraws_10 : decode cX10_actByDraws 10 = .ok (.return_, 1) := by decide +kernel
theorem dX10_actByDraws_11 : decode cX10_actByDraws 11 = .ok (.aload_n 0, 1) := by decide +kernel
theorem dX10_actByDraws_12 : decode cX10_actByDraws 12 = .ok (.aload_n 0, 1) := by decide +kernel
theorem dX10_actByDraws_13 : decode cX10_actByDraws 13 = .ok (.getfield 19, 3) := by decide +kernel
theorem dX10_actByDraws_16 : decode cX10_actByDraws 16 = .ok (.getfield 127, 3) := by decide +kernel
theorem dX10_actByDraws_19 : decode cX10_actByDraws 19 = .ok (.invokevirtual 327, 3) := by decide +kernel
theorem dX10_actByDraws_22 : decode cX10_actByDraws 22 = .ok (.istore_n 1, 1) := by decide +kernel
theorem dX10_actByDraws_23 : decode cX10_actByDraws 23 = .ok (.aload_n 0, 1) := by decide +kernel
theorem dX10_actByDraws_24 : decode cX10_actByDraws 24 = .ok (.iconst 3, 1) := by decide +kernel
theorem dX10_actByDraws_25 : decode cX10_actByDraws 25 = .ok (.invokevirtual 327, 3) := by decide +kernel
theorem dX10_actByDraws_28 : decode cX10_actByDraws 28 = .ok (.istore_n 2, 1) := by decide +kernel
theorem dX10_actByDraws_29 : decode cX10_actByDraws 29 = .ok (.iload_n 2, 1) := by decide +kernel
theorem dX10_actByDraws_30 : decode cX10_actByDraws 30 = .ok (.ifCond .ne 25, 3) := by decide +kernel
theorem dX10_actByDraws_33 : decode cX10_actByDraws 33 = .ok (.aload_n 0, 1) := by decide +kernel
theorem dX10_actByDraws_34 : decode cX10_actByDraws 34 = .ok (.getfield 31, 3) := by decide +kernel
theorem dX10_actByDraws_37 : decode cX10_actByDraws 37 = .ok (.iload_n 1, 1) := by decide +kernel
theorem dX10_actByDraws_38 : decode cX10_actByDraws 38 = .ok (.invokevirtual 216, 3) := by decide +kernel
theorem dX10_actByDraws_41 : decode cX10_actByDraws 41 = .ok (.ifCond .eq 14, 3) := by decide +kernel
theorem dX10_actByDraws_44 : decode cX10_actByDraws 44 = .ok (.aload_n 0, 1) := by decide +kernel
theorem dX10_actByDraws_45 : decode cX10_actByDraws 45 = .ok (.getfield 31, 3) := by decide +kernel
theorem dX10_actByDraws_48 : decode cX10_actByDraws 48 = .ok (.iload_n 1, 1) := by decide +kernel
theorem dX10_actByDraws_49 : decode cX10_actByDraws 49 = .ok (.invokevirtual 220, 3) := by decide +kernel
theorem dX10_actByDraws_52 : decode cX10_actByDraws 52 = .ok (.goto 54, 3) := by decide +kernel
theorem dX10_actByDraws_55 : decode cX10_actByDraws 55 = .ok (.iload_n 2, 1) := by decide +kernel
theorem dX10_actByDraws_56 : decode cX10_actByDraws 56 = .ok (.iconst 1, 1) := by decide +kernel
theorem dX10_actByDraws_57 : decode cX10_actByDraws 57 = .ok (.if_icmp .ne 25, 3) := by decide +kernel
theorem dX10_actByDraws_60 : decode cX10_actByDraws 60 = .ok (.aload_n 0, 1) := by decide +kernel
theorem dX10_actByDraws_61 : decode cX10_actByDraws 61 = .ok (.getfield 31, 3) := by decide +kernel
theorem dX10_actByDraws_64 : decode cX10_actByDraws 64 = .ok (.iload_n 1, 1) := by decide +kernel
theorem dX10_actByDraws_65 : decode cX10_actByDraws 65 = .ok (.invokevirtual 227, 3) := by decide +kernel
theorem dX10_actByDraws_68 : decode cX10_actByDraws 68 = .ok (.ifCond .eq 14, 3) := by decide +kernel
theorem dX10_actByDraws_71 : decode cX10_actByDraws 71 = .ok (.aload_n 0, 1) := by decide +kernel
theorem dX10_actByDraws_72 : decode cX10_actByDraws 72 = .ok (.getfield 31, 3) := by decide +kernel
theorem dX10_actByDraws_75 : decode cX10_actByDraws 75 = .ok (.iload_n 1, 1) := by decide +kernel
theorem dX10_actByDraws_76 : decode cX10_actByDraws 76 = .ok (.invokevirtual 230, 3) := by decide +kernel
theorem dX10_actByDraws_79 : decode cX10_actByDraws 79 = .ok (.goto 27, 3) := by decide +kernel
theorem dX10_actByDraws_82 : decode cX10_actByDraws 82 = .ok (.iload_n 2, 1) := by decide +kernel
theorem dX10_actByDraws_83 : decode cX10_actByDraws 83 = .ok (.iconst 2, 1) := by decide +kernel
theorem dX10_actByDraws_84 : decode cX10_actByDraws 84 = .ok (.if_icmp .ne 22, 3) := by decide +kernel
theorem dX10_actByDraws_87 : decode cX10_actByDraws 87 = .ok (.aload_n 0, 1) := by decide +kernel
theorem dX10_actByDraws_88 : decode cX10_actByDraws 88 = .ok (.getfield 31, 3) := by decide +kernel
theorem dX10_actByDraws_91 : decode cX10_actByDraws 91 = .ok (.iload_n 1, 1) := by decide +kernel
theorem dX10_actByDraws_92 : decode cX10_actByDraws 92 = .ok (.invokevirtual 233, 3) := by decide +kernel
theorem dX10_actByDraws_95 : decode cX10_actByDraws 95 = .ok (.ifCond .eq 11, 3) := by decide +kernel
theorem dX10_actByDraws_98 : decode cX10_actByDraws 98 = .ok (.aload_n 0, 1) := by decide +kernel
theorem dX10_actByDraws_99 : decode cX10_actByDraws 99 = .ok (.getfield 31, 3) := by decide +kernel
theorem dX10_actByDraws_102 : decode cX10_actByDraws 102 = .ok (.iload_n 1, 1) := by decide +kernel
theorem dX10_actByDraws_103 : decode cX10_actByDraws 103 = .ok (.invokevirtual 236, 3) := by decide +kernel
theorem dX10_actByDraws_106 : decode cX10_actByDraws 106 = .ok (.return_, 1) := by decide +kernel
theorem dX10_draw_0 : decode cX10_draw 0 = .ok (.aload_n 0, 1) := by decide +kernel
theorem dX10_draw_1 : decode cX10_draw 1 = .ok (.aload_n 0, 1) := by decide +kernel
theorem dX10_draw_2 : decode cX10_draw 2 = .ok (.getfield 88, 3) := by decide +kernel
theorem dX10_draw_5 : decode cX10_draw 5 = .ok (.i2l, 1) := by decide +kernel
theorem dX10_draw_6 : decode cX10_draw 6 = .ok (.ldc2_w 330, 3) := by decide +kernel
theorem dX10_draw_9 : decode cX10_draw 9 = .ok (.lmul, 1) := by decide +kernel
theorem dX10_draw_10 : decode cX10_draw 10 = .ok (.ldc2_w 332, 3) := by decide +kernel
theorem dX10_draw_13 : decode cX10_draw 13 = .ok (.ladd, 1) := by decide +kernel
theorem dX10_draw_14 : decode cX10_draw 14 = .ok (.ldc2_w 334, 3) := by decide +kernel
theorem dX10_draw_17 : decode cX10_draw 17 = .ok (.land, 1) := by decide +kernel
theorem dX10_draw_18 : decode cX10_draw 18 = .ok (.l2i, 1) := by decide +kernel
theorem dX10_draw_19 : decode cX10_draw 19 = .ok (.putfield 88, 3) := by decide +kernel
theorem dX10_draw_22 : decode cX10_draw 22 = .ok (.iload_n 1, 1) := by decide +kernel
theorem dX10_draw_23 : decode cX10_draw 23 = .ok (.ifCond .le 16, 3) := by decide +kernel
theorem dX10_draw_26 : decode cX10_draw 26 = .ok (.aload_n 0, 1) := by decide +kernel
theorem dX10_draw_27 : decode cX10_draw 27 = .ok (.getfield 88, 3) := by decide +kernel
theorem dX10_draw_30 : decode cX10_draw 30 = .ok (.ldc_w 336, 3) := by decide +kernel
theorem dX10_draw_33 : decode cX10_draw 33 = .ok (.idiv, 1) := by decide +kernel
theorem dX10_draw_34 : decode cX10_draw 34 = .ok (.iload_n 1, 1) := by decide +kernel
theorem dX10_draw_35 : decode cX10_draw 35 = .ok (.irem, 1) := by decide +kernel
theorem dX10_draw_36 : decode cX10_draw 36 = .ok (.goto 4, 3) := by decide +kernel
theorem dX10_draw_39 : decode cX10_draw 39 = .ok (.iconst 0, 1) := by decide +kernel
theorem dX10_draw_40 : decode cX10_draw 40 = .ok (.ireturn, 1) := by decide +kernel
theorem dX11_init_0 : decode cX11_init 0 = .ok (.aload_n 0, 1) := by decide +kernel
theorem dX11_init_1 : decode cX11_init 1 = .ok (.invokespecial 1, 3) := by decide +kernel
theorem dX11_init_4 : decode cX11_init 4 = .ok (.aload_n 0, 1) := by decide +kernel
theorem dX11_init_5 : decode cX11_init 5 = .ok (.bipush 7, 2) := by decide +kernel
theorem dX11_init_7 : decode cX11_init 7 = .ok (.newarray .int, 2) := by decide +kernel
theorem dX11_init_9 : decode cX11_init 9 = .ok (.putfield 7, 3) := by decide +kernel
theorem dX11_init_12 : decode cX11_init 12 = .ok (.aload_n 0, 1) := by decide +kernel
theorem dX11_init_13 : decode cX11_init 13 = .ok (.bipush 7, 2) := by decide +kernel
theorem dX11_init_15 : decode cX11_init 15 = .ok (.newarray .int, 2) := by decide +kernel
theorem dX11_init_17 : decode cX11_init 17 = .ok (.putfield 13, 3) := by decide +kernel
theorem dX11_init_20 : decode cX11_init 20 = .ok (.aload_n 0, 1) := by decide +kernel
theorem dX11_init_21 : decode cX11_init 21 = .ok (.iconst 5, 1) := by decide +kernel
theorem dX11_init_22 : decode cX11_init 22 = .ok (.newarray .int, 2) := by decide +kernel
theorem dX11_init_24 : decode cX11_init 24 = .ok (.putfield 16, 3) := by decide +kernel
theorem dX11_init_27 : decode cX11_init 27 = .ok (.aload_n 0, 1) := by decide +kernel
theorem dX11_init_28 : decode cX11_init 28 = .ok (.iconst 5, 1) := by decide +kernel
theorem dX11_init_29 : decode cX11_init 29 = .ok (.newarray .int, 2) := by decide +kernel
theorem dX11_init_31 : decode cX11_init 31 = .ok (.putfield 19, 3) := by decide +kernel
theorem dX11_init_34 : decode cX11_init 34 = .ok (.aload_n 0, 1) := by decide +kernel
theorem dX11_init_35 : decode cX11_init 35 = .ok (.bipush 7, 2) := by decide +kernel
theorem dX11_init_37 : decode cX11_init 37 = .ok (.newarray .int, 2) := by decide +kernel
theorem dX11_init_39 : decode cX11_init 39 = .ok (.putfield 22, 3) := by decide +kernel
theorem dX11_init_42 : decode cX11_init 42 = .ok (.aload_n 0, 1) := by decide +kernel
theorem dX11_init_43 : decode cX11_init 43 = .ok (.bipush 19, 2) := by decide +kernel
theorem dX11_init_45 : decode cX11_init 45 = .ok (.newarray .int, 2) := by decide +kernel
theorem dX11_init_47 : decode cX11_init 47 = .ok (.putfield 25, 3) := by decide +kernel
theorem dX11_init_50 : decode cX11_init 50 = .ok (.aload_n 0, 1) := by decide +kernel
theorem dX11_init_51 : decode cX11_init 51 = .ok (.sipush 240, 3) := by decide +kernel
theorem dX11_init_54 : decode cX11_init 54 = .ok (.newarray .int, 2) := by decide +kernel
theorem dX11_init_56 : decode cX11_init 56 = .ok (.putfield 28, 3) := by decide +kernel
theorem dX11_init_59 : decode cX11_init 59 = .ok (.aload_n 0, 1) := by decide +kernel
theorem dX11_init_60 : decode cX11_init 60 = .ok (.iconst (-1), 1) := by decide +kernel
theorem dX11_init_61 : decode cX11_init 61 = .ok (.putfield 31, 3) := by decide +kernel
theorem dX11_init_64 : decode cX11_init 64 = .ok (.aload_n 0, 1) := by decide +kernel
theorem dX11_init_65 : decode cX11_init 65 = .ok (.iconst 3, 1) := by decide +kernel
theorem dX11_init_66 : decode cX11_init 66 = .ok (.newarray .int, 2) := by decide +kernel
theorem dX11_init_68 : decode cX11_init 68 = .ok (.putfield 35, 3) := by decide +kernel
theorem dX11_init_71 : decode cX11_init 71 = .ok (.aload_n 0, 1) := by decide +kernel
theorem dX11_init_72 : decode cX11_init 72 = .ok (.bipush 7, 2) := by decide +kernel
theorem dX11_init_74 : decode cX11_init 74 = .ok (.newarray .int, 2) := by decide +kernel
theorem dX11_init_76 : decode cX11_init 76 = .ok (.putfield 38, 3) := by decide +kernel
theorem dX11_init_79 : decode cX11_init 79 = .ok (.aload_n 0, 1) := by decide +kernel
theorem dX11_init_80 : decode cX11_init 80 = .ok (.bipush 7, 2) := by decide +kernel
theorem dX11_init_82 : decode cX11_init 82 = .ok (.newarray .int, 2) := by decide +kernel
theorem dX11_init_84 : decode cX11_init 84 = .ok (.putfield 41, 3) := by decide +kernel
theorem dX11_init_87 : decode cX11_init 87 = .ok (.aload_n 0, 1) := by decide +kernel
theorem dX11_init_88 : decode cX11_init 88 = .ok (.iconst 5, 1) := by decide +kernel
theorem dX11_init_89 : decode cX11_init 89 = .ok (.newarray .int, 2) := by decide +kernel
theorem dX11_init_91 : decode cX11_init 91 = .ok (.putfield 44, 3) := by decide +kernel
theorem dX11_init_94 : decode cX11_init 94 = .ok (.aload_n 0, 1) := by decide +kernel
theorem dX11_init_95 : decode cX11_init 95 = .ok (.iconst 5, 1) := by decide +kernel
theorem dX11_init_96 : decode cX11_init 96 = .ok (.newarray .int, 2) := by decide +kernel
theorem dX11_init_98 : decode cX11_init 98 = .ok (.putfield 47, 3) := by decide +kernel
theorem dX11_init_101 : decode cX11_init 101 = .ok (.aload_n 0, 1) := by decide +kernel
theorem dX11_init_102 : decode cX11_init 102 = .ok (.sipush 380, 3) := by decide +kernel
theorem dX11_init_105 : decode cX11_init 105 = .ok (.newarray .int, 2) := by decide +kernel
theorem dX11_init_107 : decode cX11_init 107 = .ok (.putfield 50, 3) := by decide +kernel
theorem dX11_init_110 : decode cX11_init 110 = .ok (.aload_n 0, 1) := by decide +kernel
theorem dX11_init_111 : decode cX11_init 111 = .ok (.bipush 7, 2) := by decide +kernel
theorem dX11_init_113 : decode cX11_init 113 = .ok (.newarray .int, 2) := by decide +kernel
theorem dX11_init_115 : decode cX11_init 115 = .ok (.putfield 53, 3) := by decide +kernel
theorem dX11_init_118 : decode cX11_init 118 = .ok (.aload_n 0, 1) := by decide +kernel
theorem dX11_init_119 : decode cX11_init 119 = .ok (.bipush 7, 2) := by decide +kernel
theorem dX11_init_121 : decode cX11_init 121 = .ok (.newarray .int, 2) := by decide +kernel
theorem dX11_init_123 : decode cX11_init 123 = .ok (.putfield 56, 3) := by decide +kernel
theorem dX11_init_126 : decode cX11_init 126 = .ok (.aload_n 0, 1) := by decide +kernel
theorem dX11_init_127 : decode cX11_init 127 = .ok (.iconst 3, 1) := by decide +kernel
theorem dX11_init_128 : decode cX11_init 128 = .ok (.newarray .int, 2) := by decide +kernel
theorem dX11_init_130 : decode cX11_init 130 = .ok (.putfield 59, 3) := by decide +kernel
theorem dX11_init_133 : decode cX11_init 133 = .ok (.aload_n 0, 1) := by decide +kernel
theorem dX11_init_134 : decode cX11_init 134 = .ok (.iconst 5, 1) := by decide +kernel
theorem dX11_init_135 : decode cX11_init 135 = .ok (.newarray .int, 2) := by decide +kernel
theorem dX11_init_137 : decode cX11_init 137 = .ok (.putfield 62, 3) := by decide +kernel
theorem dX11_init_140 : decode cX11_init 140 = .ok (.aload_n 0, 1) := by decide +kernel
theorem dX11_init_141 : decode cX11_init 141 = .ok (.iconst 5, 1) := by decide +kernel
theorem dX11_init_142 : decode cX11_init 142 = .ok (.newarray .int, 2) := by decide +kernel
theorem dX11_init_144 : decode cX11_init 144 = .ok (.putfield 65, 3) := by decide +kernel
theorem dX11_init_147 : decode cX11_init 147 = .ok (.aload_n 0, 1) := by decide +kernel
theorem dX11_init_148 : decode cX11_init 148 = .ok (.bipush 6, 2) := by decide +kernel
theorem dX11_init_150 : decode cX11_init 150 = .ok (.newarray .int, 2) := by decide +kernel
theorem dX11_init_152 : decode cX11_init 152 = .ok (.putfield 68, 3) := by decide +kernel
theorem dX11_init_155 : decode cX11_init 155 = .ok (.aload_n 0, 1) := by decide +kernel
theorem dX11_init_156 : decode cX11_init 156 = .ok (.bipush 6, 2) := by decide +kernel
theorem dX11_init_158 : decode cX11_init 158 = .ok (.newarray .int, 2) := by decide +kernel
theorem dX11_init_160 : decode cX11_init 160 = .ok (.putfield 71, 3) := by decide +kernel
theorem dX11_init_163 : decode cX11_init 163 = .ok (.aload_n 0, 1) := by decide +kernel
theorem dX11_init_164 : decode cX11_init 164 = .ok (.bipush 31, 2) := by decide +kernel
theorem dX11_init_166 : decode cX11_init 166 = .ok (.newarray .int, 2) := by decide +kernel
theorem dX11_init_168 : decode cX11_init 168 = .ok (.putfield 74, 3) := by decide +kernel
theorem dX11_init_171 : decode cX11_init 171 = .ok (.aload_n 0, 1) := by decide +kernel
theorem dX11_init_172 : decode cX11_init 172 = .ok (.bipush 15, 2) := by decide +kernel
theorem dX11_init_174 : decode cX11_init 174 = .ok (.newarray .int, 2) := by decide +kernel
theorem dX11_init_176 : decode cX11_init 176 = .ok (.putfield 77, 3) := by decide +kernel
theorem dX11_init_179 : decode cX11_init 179 = .ok (.aload_n 0, 1) := by decide +kernel
theorem dX11_init_180 : decode cX11_init 180 = .ok (.bipush 15, 2) := by decide +kernel
theorem dX11_init_182 : decode cX11_init 182 = .ok (.newarray .int, 2) := by decide +kernel
theorem dX11_init_184 : decode cX11_init 184 = .ok (.putfield 80, 3) := by decide +kernel
theorem dX11_init_187 : decode cX11_init 187 = .ok (.aload_n 0, 1) := by decide +kernel
theorem dX11_init_188 : decode cX11_init 188 = .ok (.bipush 40, 2) := by decide +kernel
theorem dX11_init_190 : decode cX11_init 190 = .ok (.newarray .int, 2) := by decide +kernel
theorem dX11_init_192 : decode cX11_init 192 = .ok (.putfield 83, 3) := by decide +kernel
theorem dX11_init_195 : decode cX11_init 195 = .ok (.aload_n 0, 1) := by decide +kernel
theorem dX11_init_196 : decode cX11_init 196 = .ok (.iconst 2, 1) := by decide +kernel
theorem dX11_init_197 : decode cX11_init 197 = .ok (.newarray .boolean, 2) := by decide +kernel
theorem dX11_init_199 : decode cX11_init 199 = .ok (.putfield 86, 3) := by decide +kernel
theorem dX11_init_202 : decode cX11_init 202 = .ok (.aload_n 0, 1) := by decide +kernel
theorem dX11_init_203 : decode cX11_init 203 = .ok (.iconst 0, 1) := by decide +kernel
theorem dX11_init_204 : decode cX11_init 204 = .ok (.putfield 90, 3) := by decide +kernel
theorem dX11_init_207 : decode cX11_init 207 = .ok (.return_, 1) := by decide +kernel
theorem dX11_in_0 : decode cX11_in 0 = .ok (.lload_n 0, 1) := by decide +kernel
theorem dX11_in_1 : decode cX11_in 1 = .ok (.lload_n 2, 1) := by decide +kernel
theorem dX11_in_2 : decode cX11_in 2 = .ok (.lcmp, 1) := by decide +kernel
theorem dX11_in_3 : decode cX11_in 3 = .ok (.ifCond .lt 14, 3) := by decide +kernel
theorem dX11_in_6 : decode cX11_in 6 = .ok (.lload_n 0, 1) := by decide +kernel
theorem dX11_in_7 : decode cX11_in 7 = .ok (.lload 4, 2) := by decide +kernel
theorem dX11_in_9 : decode cX11_in 9 = .ok (.lcmp, 1) := by decide +kernel
theorem dX11_in_10 : decode cX11_in 10 = .ok (.ifCond .gt 7, 3) := by decide +kernel
theorem dX11_in_13 : decode cX11_in 13 = .ok (.iconst 1, 1) := by decide +kernel
theorem dX11_in_14 : decode cX11_in 14 = .ok (.goto 4, 3) := by decide +kernel
theorem dX11_in_17 : decode cX11_in 17 = .ok (.iconst 0, 1) := by decide +kernel
theorem dX11_in_18 : decode cX11_in 18 = .ok (.ireturn, 1) := by decide +kernel
theorem dX11_has_0 : decode cX11_has 0 = .ok (.iload_n 0, 1) := by decide +kernel
theorem dX11_has_1 : decode cX11_has 1 = .ok (.iload_n 1, 1) := by decide +kernel
theorem dX11_has_2 : decode cX11_has 2 = .ok (.ishr, 1) := by decide +kernel
theorem dX11_has_3 : decode cX11_has 3 = .ok (.iconst 1, 1) := by decide +kernel
theorem dX11_has_4 : decode cX11_has 4 = .ok (.iand, 1) := by decide +kernel
theorem dX11_has_5 : decode cX11_has 5 = .ok (.iconst 1, 1) := by decide +kernel
theorem dX11_has_6 : decode cX11_has 6 = .ok (.if_icmp .ne 7, 3) := by decide +kernel
theorem dX11_has_9 : decode cX11_has 9 = .ok (.iconst 1, 1) := by decide +kernel
theorem dX11_has_10 : decode cX11_has 10 = .ok (.goto 4, 3) := by decide +kernel
theorem dX11_has_13 : decode cX11_has 13 = .ok (.iconst 0, 1) := by decide +kernel
theorem dX11_has_14 : decode cX11_has 14 = .ok (.ireturn, 1) := by decide +kernel
set_option maxRecDepth 20000 in
theorem ggX11_isEgg_X11_in : GoodIn wsX11_isEgg wsX11_in := goodIn_r _ [5] (by decide +kernel) (by decide +kernel)
set_option maxRecDepth 20000 in
theorem gX11_isEgg_X11_in : GoodIn wsX11_isEgg (va_wsS RX11 96 yX11_in wsX11_in) := goodIn_app (goodIn_of _ (by decide +kernel)) ggX11_isEgg_X11_in
theorem dX11_isEgg_0 : decode cX11_isEgg 0 = .ok (.iload_n 1, 1) := by decide +kernel
theorem dX11_isEgg_1 : decode cX11_isEgg 1 = .ok (.i2l, 1) := by decide +kernel
theorem dX11_isEgg_2 : decode cX11_isEgg 2 = .ok (.lconst 0, 1) := by decide +kernel
theorem dX11_isEgg_3 : decode cX11_isEgg 3 = .ok (.aload_n 0, 1) := by decide +kernel
theorem dX11_isEgg_4 : decode cX11_isEgg 4 = .ok (.getfield 93, 3) := by decide +kernel
theorem dX11_isEgg_7 : decode cX11_isEgg 7 = .ok (.iconst 1, 1) := by decide +kernel
theorem dX11_isEgg_8 : decode cX11_isEgg 8 = .ok (.isub, 1) := by decide +kernel
theorem dX11_isEgg_9 : decode cX11_isEgg 9 = .ok (.i2l, 1) := by decide +kernel
theorem dX11_isEgg_10 : decode cX11_isEgg 10 = .ok (.invokestatic 96, 3) := by decide +kernel
theorem dX11_isEgg_13 : decode cX11_isEgg 13 = .ok (.ireturn, 1) := by decide +kernel
set_option maxRecDepth 20000 in
theorem ggX11_isEater_X11_in : GoodIn wsX11_isEater wsX11_in := goodIn_r _ [5] (by decide +kernel) (by decide +kernel)
set_option maxRecDepth 20000 in
theorem gX11_isEater_X11_in : GoodIn wsX11_isEater (va_wsS RX11 96 yX11_in wsX11_in) := goodIn_app (goodIn_of _ (by decide +kernel)) ggX11_isEater_X11_in
theorem dX11_isEater_0 : decode cX11_isEater 0 = .ok (.iload_n 1, 1) := by decide +kernel
theorem dX11_isEater_1 : decode cX11_isEater 1 = .ok (.i2l, 1) := by decide +kernel
theorem dX11_isEater_2 : decode cX11_isEater 2 = .ok (.lconst 0, 1) := by decide +kernel
theorem dX11_isEater_3 : decode cX11_isEater 3 = .ok (.aload_n 0, 1) := by decide +kernel
theorem dX11_isEater_4 : decode cX11_isEater 4 = .ok (.getfield 100, 3) := by decide +kernel
theorem dX11_isEater_7 : decode cX11_isEater 7 = .ok (.iconst 1, 1) := by decide +kernel
theorem dX11_isEater_8 : decode cX11_isEater 8 = .ok (.isub, 1) := by decide +kernel
theorem dX11_isEater_9 : decode cX11_isEater 9 = .ok (.i2l, 1) := by decide +kernel
theorem dX11_isEater_10 : decode cX11_isEater 10 = .ok (.invokestatic 96, 3) := by decide +kernel
theorem dX11_isEater_13 : decode cX11_isEater 13 = .ok (.ireturn, 1) := by decide +kernel
set_option maxRecDepth 20000 in
theorem ggX11_feed_X11_in : GoodIn wsX11_feed wsX11_in := goodIn_r _ [9] (by decide +kernel) (by decide +kernel)
set_option maxRecDepth 20000 in
theorem gX11_feed_X11_in : GoodIn wsX11_feed (va_wsS RX11 96 yX11_in wsX11_in) := goodIn_app (goodIn_of _ (by decide +kernel)) ggX11_feed_X11_in
theorem dX11_feed_0 : decode cX11_feed 0 = .ok (.iload_n 1, 1) := by decide +kernel
theorem dX11_feed_1 : decode cX11_feed 1 = .ok (.i2l, 1) := by decide +kernel
theorem dX11_feed_2 : decode cX11_feed 2 = .ok (.lconst 0, 1) := by decide +kernel
theorem dX11_feed_3 : decode cX11_feed 3 = .ok (.ldc2_w 103, 3) := by decide +kernel
theorem dX11_feed_6 : decode cX11_feed 6 = .ok (.invokestatic 96, 3) := by decide +kernel
theorem dX11_feed_9 : decode cX11_feed 9 = .ok (.ifCond .ne 6, 3) := by decide +kernel
theorem dX11_feed_12 : decode cX11_feed 12 = .ok (.ldc 105, 2) := by decide +kernel
theorem dX11_feed_14 : decode cX11_feed 14 = .ok (.ireturn, 1) := by decide +kernel
theorem dX11_feed_15 : decode cX11_feed 15 = .ok (.aload_n 0, 1) := by decide +kernel
theorem dX11_feed_16 : decode cX11_feed 16 = .ok (.getfield 106, 3) := by decide +kernel
theorem dX11_feed_19 : decode cX11_feed 19 = .ok (.sipush 240, 3) := by decide +kernel
theorem dX11_feed_22 : decode cX11_feed 22 = .ok (.if_icmp .ne 6, 3) := by decide +kernel
theorem dX11_feed_25 : decode cX11_feed 25 = .ok (.ldc 109, 2) := by decide +kernel
theorem dX11_feed_27 : decode cX11_feed 27 = .ok (.ireturn, 1) := by decide +kernel
theorem dX11_feed_28 : decode cX11_feed 28 = .ok (.aload_n 0, 1) := by decide +kernel
theorem dX11_feed_29 : decode cX11_feed 29 = .ok (.getfield 28, 3) := by decide +kernel
theorem dX11_feed_32 : decode cX11_feed 32 = .ok (.aload_n 0, 1) := by decide +kernel
theorem dX11_feed_33 : decode cX11_feed 33 = .ok (.getfield 106, 3) := by decide +kernel
theorem dX11_feed_36 : decode cX11_feed 36 = .ok (.iload_n 1, 1) := by decide +kernel
theorem dX11_feed_37 : decode cX11_feed 37 = .ok (.iastore, 1) := by decide +kernel
theorem dX11_feed_38 : decode cX11_feed 38 = .ok (.aload_n 0, 1) := by decide +kernel
theorem dX11_feed_39 : decode cX11_feed 39 = .ok (.dup, 1) := by decide +kernel
theorem dX11_feed_40 : decode cX11_feed 40 = .ok (.getfield 106, 3) := by decide +kernel
theorem dX11_feed_43 : decode cX11_feed 43 = .ok (.iconst 1, 1) := by decide +kernel
theorem dX11_feed_44 : decode cX11_feed 44 = .ok (.iadd, 1) := by decide +kernel
theorem dX11_feed_45 : decode cX11_feed 45 = .ok (.putfield 106, 3) := by decide +kernel
theorem dX11_feed_48 : decode cX11_feed 48 = .ok (.aload_n 0, 1) := by decide +kernel
theorem dX11_feed_49 : decode cX11_feed 49 = .ok (.getfield 106, 3) := by decide +kernel
theorem dX11_feed_52 : decode cX11_feed 52 = .ok (.ireturn, 1) := by decide +kernel
theorem dX11_here_0 : decode cX11_here 0 = .ok (.aload_n 0, 1) := by decide +kernel
theorem dX11_here_1 : decode cX11_here 1 = .ok (.getfield 110, 3) := by decide +kernel
theorem dX11_here_4 : decode cX11_here 4 = .ok (.aload_n 0, 1) := by decide +kernel
theorem dX11_here_5 : decode cX11_here 5 = .ok (.getfield 106, 3) := by decide +kernel
theorem dX11_here_8 : decode cX11_here 8 = .ok (.if_icmp .ge 30, 3) := by decide +kernel
theorem dX11_here_11 : decode cX11_here 11 = .ok (.aload_n 0, 1) := by decide +kernel
theorem dX11_here_12 : decode cX11_here 12 = .ok (.getfield 28, 3) := by decide +kernel
theorem dX11_here_15 : decode cX11_here 15 = .ok (.aload_n 0, 1) := by decide +kernel
theorem dX11_here_16 : decode cX11_here 16 = .ok (.getfield 110, 3) := by decide +kernel
theorem dX11_here_19 : decode cX11_here 19 = .ok (.iaload, 1) := by decide +kernel
theorem dX11_here_20 : decode cX11_here 20 = .ok (.bipush 32, 2) := by decide +kernel
theorem dX11_here_22 : decode cX11_here 22 = .ok (.if_icmp .ne 16, 3) := by decide +kernel
theorem dX11_here_25 : decode cX11_here 25 = .ok (.aload_n 0, 1) := by decide +kernel
theorem dX11_here_26 : decode cX11_here 26 = .ok (.dup, 1) := by decide +kernel
theorem dX11_here_27 : decode cX11_here 27 = .ok (.getfield 110, 3) := by decide +kernel
theorem dX11_here_30 : decode cX11_here 30 = .ok (.iconst 1, 1) := by decide +kernel
theorem dX11_here_31 : decode cX11_here 31 = .ok (.iadd, 1) := by decide +kernel
theorem dX11_here_32 : decode cX11_here 32 = .ok (.putfield 110, 3) := by decide +kernel
theorem dX11_here_35 : decode cX11_here 35 = .ok (.goto (-35), 3) := by decide +kernel
theorem dX11_here_38 : decode cX11_here 38 = .ok (.aload_n 0, 1) := by decide +kernel
theorem dX11_here_39 : decode cX11_here 39 = .ok (.getfield 110, 3) := by decide +kernel
theorem dX11_here_42 : decode cX11_here 42 = .ok (.aload_n 0, 1) := by decide +kernel
theorem dX11_here_43 : decode cX11_here 43 = .ok (.getfield 106, 3) := by decide +kernel
theorem dX11_here_46 : decode cX11_here 46 = .ok (.if_icmp .ge 15, 3) := by decide +kernel
theorem dX11_here_49 : decode cX11_here 49 = .ok (.aload_n 0, 1) := by decide +kernel
theorem dX11_here_50 : decode cX11_here 50 = .ok (.getfield 28, 3) := by decide +kernel
theorem dX11_here_53 : decode cX11_here 53 = .ok (.aload_n 0, 1) := by decide +kernel
theorem dX11_here_54 : decode cX11_here 54 = .ok (.getfield 110, 3) := by decide +kernel
theorem dX11_here_57 : decode cX11_here 57 = .ok (.iaload, 1) := by decide +kernel
theorem dX11_here_58 : decode cX11_here 58 = .ok (.goto 4, 3) := by decide +kernel
theorem dX11_here_61 : decode cX11_here 61 = .ok (.iconst (-1), 1) := by decide +kernel
theorem dX11_here_62 : decode cX11_here 62 = .ok (.ireturn, 1) := by decide +kernel
theorem dX11_fails_0 : decode cX11_fails 0 = .ok (.aload_n 0, 1) := by decide +kernel
theorem dX11_fails_1 : decode cX11_fails 1 = .ok (.iload_n 2, 1) := by decide +kernel
theorem dX11_fails_2 : decode cX11_fails 2 = .ok (.putfield 31, 3) := by decide +kernel
theorem dX11_fails_5 : decode cX11_fails 5 = .ok (.iload_n 1, 1) := by decide +kernel
theorem dX11_fails_6 : decode cX11_fails 6 = .ok (.ireturn, 1) := by decide +kernel
set_option maxRecDepth 20000 in
theorem ggX11_takeNumber_X11_here : GoodIn wsX11_takeNumber wsX11_here := goodIn_r _ [12, 3, 6, 7, 21, 22, 23, 24, 25, 26, 27, 28, 29, 30, 31, 32, 33, 34, 35, 36, 37, 38, 39, 40, 41, 42, 43, 44, 45, 46, 47, 48, 49, 50, 51, 52, 53, 54, 55, 56, 57, 58, 59, 60] (by decide +kernel) (by decide +kernel)
set_option maxRecDepth 20000 in
theorem gX11_takeNumber_X11_here : GoodIn wsX11_takeNumber (wsV RX11 113 RX11 yX11_here wsX11_here) := goodIn_app (goodIn_of _ (by decide +kernel)) ggX11_takeNumber_X11_here
set_option maxRecDepth 20000 in
theorem ggX11_takeNumber_X11_in : GoodIn wsX11_takeNumber wsX11_in := goodIn_r _ [15] (by decide +kernel) (by decide +kernel)
set_option maxRecDepth 20000 in
theorem gX11_takeNumber_X11_in : GoodIn wsX11_takeNumber (va_wsS RX11 96 yX11_in wsX11_in) := goodIn_app (goodIn_of _ (by decide +kernel)) ggX11_takeNumber_X11_in
set_option maxRecDepth 20000 in
theorem ggX11_takeNumber_X11_fails : GoodIn wsX11_takeNumber wsX11_fails := goodIn_r _ [19, 20, 21, 22, 23, 24, 25, 26, 27, 28, 29, 30, 31, 32, 33, 34, 35, 36, 37, 38, 39, 40, 41, 42, 43, 44, 45, 46, 47, 48, 49, 50, 51, 52, 53, 54, 55, 56, 57, 58, 59, 60] (by decide +kernel) (by decide +kernel)
set_option maxRecDepth 20000 in
theorem gX11_takeNumber_X11_fails : GoodIn wsX11_takeNumber (wsV RX11 121 RX11 yX11_fails wsX11_fails) := goodIn_app (goodIn_of _ (by decide +kernel)) ggX11_takeNumber_X11_fails
theorem dX11_takeNumber_0 : decode cX11_takeNumber 0 = .ok (.aload_n 0, 1) := by decide +kernel
theorem dX11_takeNumber_1 : decode cX11_takeNumber 1 = .ok (.invokevirtual 113, 3) := by decide +kernel
theorem dX11_takeNumber_4 : decode cX11_takeNumber 4 = .ok (.istore_n 3, 1) := by decide +kernel
theorem dX11_takeNumber_5 : decode cX11_takeNumber 5 = .ok (.iload_n 3, 1) := by decide +kernel
theorem dX11_takeNumber_6 : decode cX11_takeNumber 6 = .ok (.i2l, 1) := by decide +kernel
theorem dX11_takeNumber_7 : decode cX11_takeNumber 7 = .ok (.ldc2_w 117, 3) := by decide +kernel
theorem dX11_takeNumber_10 : decode cX11_takeNumber 10 = .ok (.ldc2_w 119, 3) := by decide +kernel
theorem dX11_takeNumber_13 : decode cX11_takeNumber 13 = .ok (.invokestatic 96, 3) := by decide +kernel
theorem dX11_takeNumber_16 : decode cX11_takeNumber 16 = .ok (.ifCond .ne 13, 3) := by decide +kernel
theorem dX11_takeNumber_19 : decode cX11_takeNumber 19 = .ok (.aload_n 0, 1) := by decide +kernel
theorem dX11_takeNumber_20 : decode cX11_takeNumber 20 = .ok (.iconst 1, 1) := by decide +kernel
theorem dX11_takeNumber_21 : decode cX11_takeNumber 21 = .ok (.aload_n 0, 1) := by decide +kernel
theorem dX11_takeNumber_22 : decode cX11_takeNumber 22 = .ok (.getfield 110, 3) := by decide +kernel
theorem dX11_takeNumber_25 : decode cX11_takeNumber 25 = .ok (.invokevirtual 121, 3) := by decide +kernel
theorem dX11_takeNumber_28 : decode cX11_takeNumber 28 = .ok (.ireturn, 1) := by decide +kernel
theorem dX11_takeNumber_29 : decode cX11_takeNumber 29 = .ok (.aload_n 0, 1) := by decide +kernel
theorem dX11_takeNumber_30 : decode cX11_takeNumber 30 = .ok (.aload_n 0, 1) := by decide +kernel
theorem dX11_takeNumber_31 : decode cX11_takeNumber 31 = .ok (.getfield 110, 3) := by decide +kernel
theorem dX11_takeNumber_34 : decode cX11_takeNumber 34 = .ok (.putfield 125, 3) := by decide +kernel
theorem dX11_takeNumber_37 : decode cX11_takeNumber 37 = .ok (.aload_n 0, 1) := by decide +kernel
theorem dX11_takeNumber_38 : decode cX11_takeNumber 38 = .ok (.iconst 0, 1) := by decide +kernel
theorem dX11_takeNumber_39 : decode cX11_takeNumber 39 = .ok (.putfield 128, 3) := by decide +kernel
theorem dX11_takeNumber_42 : decode cX11_takeNumber 42 = .ok (.aload_n 0, 1) := by decide +kernel
theorem dX11_takeNumber_43 : decode cX11_takeNumber 43 = .ok (.getfield 110, 3) := by decide +kernel
theorem dX11_takeNumber_46 : decode cX11_takeNumber 46 = .ok (.aload_n 0, 1) := by decide +kernel
theorem dX11_takeNumber_47 : decode cX11_takeNumber 47 = .ok (.getfield 106, 3) := by decide +kernel
theorem dX11_takeNumber_50 : decode cX11_takeNumber 50 = .ok (.if_icmp .ge 79, 3) := by decide +kernel
theorem dX11_takeNumber_53 : decode cX11_takeNumber 53 = .ok (.aload_n 0, 1) := by decide +kernel
theorem dX11_takeNumber_54 : decode cX11_takeNumber 54 = .ok (.getfield 28, 3) := by decide +kernel
theorem dX11_takeNumber_57 : decode cX11_takeNumber 57 = .ok (.aload_n 0, 1) := by decide +kernel
theorem dX11_takeNumber_58 : decode cX11_takeNumber 58 = .ok (.getfield 110, 3) := by decide +kernel
theorem dX11_takeNumber_61 : decode cX11_takeNumber 61 = .ok (.iaload, 1) := by decide +kernel
theorem dX11_takeNumber_62 : decode cX11_takeNumber 62 = .ok (.i2l, 1) := by decide +kernel
theorem dX11_takeNumber_63 : decode cX11_takeNumber 63 = .ok (.ldc2_w 117, 3) := by decide +kernel
theorem dX11_takeNumber_66 : decode cX11_takeNumber 66 = .ok (.ldc2_w 119, 3) := by decide +kernel
theorem dX11_takeNumber_69 : decode cX11_takeNumber 69 = .ok (.invokestatic 96, 3) := by decide +kernel
theorem dX11_takeNumber_72 : decode cX11_takeNumber 72 = .ok (.ifCond .eq 57, 3) := by decide +kernel
theorem dX11_takeNumber_75 : decode cX11_takeNumber 75 = .ok (.aload_n 0, 1) := by decide +kernel
theorem dX11_takeNumber_76 : decode cX11_takeNumber 76 = .ok (.aload_n 0, 1) := by decide +kernel
theorem dX11_takeNumber_77 : decode cX11_takeNumber 77 = .ok (.getfield 128, 3) := by decide +kernel
theorem dX11_takeNumber_80 : decode cX11_takeNumber 80 = .ok (.sipush 10000, 3) := by decide +kernel
theorem dX11_takeNumber_83 : decode cX11_takeNumber 83 = .ok (.if_icmp .le 10, 3) := by decide +kernel
theorem dX11_takeNumber_86 : decode cX11_takeNumber 86 = .ok (.aload_n 0, 1) := by decide +kernel
theorem dX11_takeNumber_87 : decode cX11_takeNumber 87 = .ok (.getfield 128, 3) := by decide +kernel
theorem dX11_takeNumber_90 : decode cX11_takeNumber 90 = .ok (.goto 23, 3) := by decide +kernel
theorem dX11_takeNumber_93 : decode cX11_takeNumber 93 = .ok (.bipush 10, 2) := by decide +kernel
theorem dX11_takeNumber_95 : decode cX11_takeNumber 95 = .ok (.aload_n 0, 1) := by decide +kernel
theorem dX11_takeNumber_96 : decode cX11_takeNumber 96 = .ok (.getfield 128, 3) := by decide +kernel
theorem dX11_takeNumber_99 : decode cX11_takeNumber 99 = .ok (.imul, 1) := by decide +kernel
theorem dX11_takeNumber_100 : decode cX11_takeNumber 100 = .ok (.aload_n 0, 1) := by decide +kernel
theorem dX11_takeNumber_101 : decode cX11_takeNumber 101 = .ok (.getfield 28, 3) := by decide +kernel
theorem dX11_takeNumber_104 : decode cX11_takeNumber 104 = .ok (.aload_n 0, 1) := by decide +kernel
theorem dX11_takeNumber_105 : decode cX11_takeNumber 105 = .ok (.getfield 110, 3) := by decide +kernel
theorem dX11_takeNumber_108 : decode cX11_takeNumber 108 = .ok (.iaload, 1) := by decide +kernel
theorem dX11_takeNumber_109 : decode cX11_takeNumber 109 = .ok (.iadd, 1) := by decide +kernel
theorem dX11_takeNumber_110 : decode cX11_takeNumber 110 = .ok (.bipush 48, 2) := by decide +kernel
theorem dX11_takeNumber_112 : decode cX11_takeNumber 112 = .ok (.isub, 1) := by decide +kernel
theorem dX11_takeNumber_113 : decode cX11_takeNumber 113 = .ok (.putfield 128, 3) := by decide +kernel
theorem dX11_takeNumber_116 : decode cX11_takeNumber 116 = .ok (.aload_n 0, 1) := by decide +kernel
theorem dX11_takeNumber_117 : decode cX11_takeNumber 117 = .ok (.dup, 1) := by decide +kernel
theorem dX11_takeNumber_118 : decode cX11_takeNumber 118 = .ok (.getfield 110, 3) := by decide +kernel
theorem dX11_takeNumber_121 : decode cX11_takeNumber 121 = .ok (.iconst 1, 1) := by decide +kernel
theorem dX11_takeNumber_122 : decode cX11_takeNumber 122 = .ok (.iadd, 1) := by decide +kernel
theorem dX11_takeNumber_123 : decode cX11_takeNumber 123 = .ok (.putfield 110, 3) := by decide +kernel
theorem dX11_takeNumber_126 : decode cX11_takeNumber 126 = .ok (.goto (-84), 3) := by decide +kernel
theorem dX11_takeNumber_129 : decode cX11_takeNumber 129 = .ok (.aload_n 0, 1) := by decide +kernel
theorem dX11_takeNumber_130 : decode cX11_takeNumber 130 = .ok (.getfield 110, 3) := by decide +kernel
theorem dX11_takeNumber_133 : decode cX11_takeNumber 133 = .ok (.aload_n 0, 1) := by decide +kernel
theorem dX11_takeNumber_134 : decode cX11_takeNumber 134 = .ok (.getfield 125, 3) := by decide +kernel
theorem dX11_takeNumber_137 : decode cX11_takeNumber 137 = .ok (.isub, 1) := by decide +kernel
theorem dX11_takeNumber_138 : decode cX11_takeNumber 138 = .ok (.iconst 3, 1) := by decide +kernel
theorem dX11_takeNumber_139 : decode cX11_takeNumber 139 = .ok (.if_icmp .gt 18, 3) := by decide +kernel
theorem dX11_takeNumber_142 : decode cX11_takeNumber 142 = .ok (.aload_n 0, 1) := by decide +kernel
theorem dX11_takeNumber_143 : decode cX11_takeNumber 143 = .ok (.getfield 128, 3) := by decide +kernel
theorem dX11_takeNumber_146 : decode cX11_takeNumber 146 = .ok (.i2l, 1) := by decide +kernel
theorem dX11_takeNumber_147 : decode cX11_takeNumber 147 = .ok (.iload_n 1, 1) := by decide +kernel
theorem dX11_takeNumber_148 : decode cX11_takeNumber 148 = .ok (.i2l, 1) := by decide +kernel
theorem dX11_takeNumber_149 : decode cX11_takeNumber 149 = .ok (.iload_n 2, 1) := by decide +kernel
theorem dX11_takeNumber_150 : decode cX11_takeNumber 150 = .ok (.i2l, 1) := by decide +kernel
theorem dX11_takeNumber_151 : decode cX11_takeNumber 151 = .ok (.invokestatic 96, 3) := by decide +kernel
theorem dX11_takeNumber_154 : decode cX11_takeNumber 154 = .ok (.ifCond .ne 15, 3) := by decide +kernel
theorem dX11_takeNumber_157 : decode cX11_takeNumber 157 = .ok (.aload_n 0, 1) := by decide +kernel
theorem dX11_takeNumber_158 : decode cX11_takeNumber 158 = .ok (.iconst 2, 1) := by decide +kernel
theorem dX11_takeNumber_159 : decode cX11_takeNumber 159 = .ok (.aload_n 0, 1) := by decide +kernel
theorem dX11_takeNumber_160 : decode cX11_takeNumber 160 = .ok (.getfield 125, 3) := by decide +kernel
theorem dX11_takeNumber_163 : decode cX11_takeNumber 163 = .ok (.invokevirtual 121, 3) := by decide +kernel
theorem dX11_takeNumber_166 : decode cX11_takeNumber 166 = .ok (.goto 4, 3) := by decide +kernel
theorem dX11_takeNumber_169 : decode cX11_takeNumber 169 = .ok (.iconst 0, 1) := by decide +kernel
theorem dX11_takeNumber_170 : decode cX11_takeNumber 170 = .ok (.ireturn, 1) := by decide +kernel
set_option maxRecDepth 20000 in
theorem ggX11_into_X11_takeNumber : GoodIn wsX11_into wsX11_takeNumber := goodIn_r _ [6, 7, 8, 9, 10, 1, 11, 12, 13, 14, 15, 5, 16, 17, 18, 19, 20, 21, 22, 23, 24, 25, 26, 27, 28, 29, 30, 31, 32, 33, 34, 35, 36, 37, 38, 39, 40, 41, 42, 43, 44, 45, 46, 47, 48, 49, 50, 51, 52, 53, 54, 55, 56, 57, 58, 59, 60, 61, 62, 63, 64] (by decide +kernel) (by decide +kernel)
set_option maxRecDepth 20000 in
theorem gX11_into_X11_takeNumber : GoodIn wsX11_into (wsV RX11 131 RX11 yX11_takeNumber wsX11_takeNumber) := goodIn_app (goodIn_of _ (by decide +kernel)) ggX11_into_X11_takeNumber
theorem dX11_into_0 : decode cX11_into 0 = .ok (.aload_n 0, 1) := by decide +kernel
theorem dX11_into_1 : decode cX11_into 1 = .ok (.iload_n 3, 1) := by decide +kernel
theorem dX11_into_2 : decode cX11_into 2 = .ok (.iload 4, 2) := by decide +kernel
theorem dX11_into_4 : decode cX11_into 4 = .ok (.invokevirtual 131, 3) := by decide +kernel
theorem dX11_into_7 : decode cX11_into 7 = .ok (.istore 5, 2) := by decide +kernel
theorem dX11_into_9 : decode cX11_into 9 = .ok (.aload_n 1, 1) := by decide +kernel
theorem dX11_into_10 : decode cX11_into 10 = .ok (.iload_n 2, 1) := by decide +kernel
theorem dX11_into_11 : decode cX11_into 11 = .ok (.aload_n 0, 1) := by decide +kernel
theorem dX11_into_12 : decode cX11_into 12 = .ok (.getfield 128, 3) := by decide +kernel
theorem dX11_into_15 : decode cX11_into 15 = .ok (.iastore, 1) := by decide +kernel
theorem dX11_into_16 : decode cX11_into 16 = .ok (.iload 5, 2) := by decide +kernel
theorem dX11_into_18 : decode cX11_into 18 = .ok (.ireturn, 1) := by decide +kernel
set_option maxRecDepth 20000 in
theorem ggX11_takePan_X11_into : GoodIn wsX11_takePan wsX11_into := goodIn_r _ [6, 7, 8, 9, 10, 5, 11, 12, 13, 14, 15, 16, 17, 18, 19, 20, 21, 22, 23, 24, 25, 26, 27, 28, 29, 30, 31, 32, 33, 34, 35, 36, 37, 38, 39, 40, 41, 42, 43, 44, 45, 46, 47, 48, 49, 50, 51, 52, 53, 54, 55, 56, 57, 58, 59, 60, 61, 62, 63, 64, 65, 66, 67, 68, 69] (by decide +kernel) (by decide +kernel)
set_option maxRecDepth 20000 in
theorem gX11_takePan_X11_into : GoodIn wsX11_takePan (wsV RX11 134 RX11 yX11_into wsX11_into) := goodIn_app (goodIn_of _ (by decide +kernel)) ggX11_takePan_X11_into
theorem dX11_takePan_0 : decode cX11_takePan 0 = .ok (.aload_n 0, 1) := by decide +kernel
theorem dX11_takePan_1 : decode cX11_takePan 1 = .ok (.aload_n 0, 1) := by decide +kernel
theorem dX11_takePan_2 : decode cX11_takePan 2 = .ok (.getfield 35, 3) := by decide +kernel
theorem dX11_takePan_5 : decode cX11_takePan 5 = .ok (.iconst 0, 1) := by decide +kernel
theorem dX11_takePan_6 : decode cX11_takePan 6 = .ok (.iconst 1, 1) := by decide +kernel
theorem dX11_takePan_7 : decode cX11_takePan 7 = .ok (.iconst 3, 1) := by decide +kernel
theorem dX11_takePan_8 : decode cX11_takePan 8 = .ok (.invokevirtual 134, 3) := by decide +kernel
theorem dX11_takePan_11 : decode cX11_takePan 11 = .ok (.istore_n 1, 1) := by decide +kernel
theorem dX11_takePan_12 : decode cX11_takePan 12 = .ok (.iload_n 1, 1) := by decide +kernel
theorem dX11_takePan_13 : decode cX11_takePan 13 = .ok (.ifCond .le 7, 3) := by decide +kernel
theorem dX11_takePan_16 : decode cX11_takePan 16 = .ok (.iload_n 1, 1) := by decide +kernel
theorem dX11_takePan_17 : decode cX11_takePan 17 = .ok (.goto 15, 3) := by decide +kernel
theorem dX11_takePan_20 : decode cX11_takePan 20 = .ok (.aload_n 0, 1) := by decide +kernel
theorem dX11_takePan_21 : decode cX11_takePan 21 = .ok (.aload_n 0, 1) := by decide +kernel
theorem dX11_takePan_22 : decode cX11_takePan 22 = .ok (.getfield 35, 3) := by decide +kernel
theorem dX11_takePan_25 : decode cX11_takePan 25 = .ok (.iconst 1, 1) := by decide +kernel
theorem dX11_takePan_26 : decode cX11_takePan 26 = .ok (.iconst 0, 1) := by decide +kernel
theorem dX11_takePan_27 : decode cX11_takePan 27 = .ok (.bipush 99, 2) := by decide +kernel
theorem dX11_takePan_29 : decode cX11_takePan 29 = .ok (.invokevirtual 134, 3) := by decide +kernel
theorem dX11_takePan_32 : decode cX11_takePan 32 = .ok (.istore_n 1, 1) := by decide +kernel
theorem dX11_takePan_33 : decode cX11_takePan 33 = .ok (.iload_n 1, 1) := by decide +kernel
theorem dX11_takePan_34 : decode cX11_takePan 34 = .ok (.ifCond .le 7, 3) := by decide +kernel
theorem dX11_takePan_37 : decode cX11_takePan 37 = .ok (.iload_n 1, 1) := by decide +kernel
theorem dX11_takePan_38 : decode cX11_takePan 38 = .ok (.goto 15, 3) := by decide +kernel
theorem dX11_takePan_41 : decode cX11_takePan 41 = .ok (.aload_n 0, 1) := by decide +kernel
theorem dX11_takePan_42 : decode cX11_takePan 42 = .ok (.aload_n 0, 1) := by decide +kernel
theorem dX11_takePan_43 : decode cX11_takePan 43 = .ok (.getfield 35, 3) := by decide +kernel
theorem dX11_takePan_46 : decode cX11_takePan 46 = .ok (.iconst 2, 1) := by decide +kernel
theorem dX11_takePan_47 : decode cX11_takePan 47 = .ok (.iconst 1, 1) := by decide +kernel
theorem dX11_takePan_48 : decode cX11_takePan 48 = .ok (.bipush 30, 2) := by decide +kernel
theorem dX11_takePan_50 : decode cX11_takePan 50 = .ok (.invokevirtual 134, 3) := by decide +kernel
theorem dX11_takePan_53 : decode cX11_takePan 53 = .ok (.ireturn, 1) := by decide +kernel
set_option maxRecDepth 20000 in
theorem ggX11_takeEgg_X11_into : GoodIn wsX11_takeEgg wsX11_into := goodIn_r _ [8, 9, 10, 11, 12, 7, 13, 14, 15, 16, 17, 18, 19, 20, 21, 22, 23, 24, 25, 26, 27, 28, 29, 30, 31, 32, 33, 34, 35, 36, 37, 38, 39, 40, 41, 42, 43, 44, 45, 46, 47, 48, 49, 50, 51, 52, 53, 54, 55, 56, 57, 58, 59, 60, 61, 62, 63, 64, 65, 66, 67, 68, 69, 70, 71] (by decide +kernel) (by decide +kernel)
set_option maxRecDepth 20000 in
theorem gX11_takeEgg_X11_into : GoodIn wsX11_takeEgg (wsV RX11 134 RX11 yX11_into wsX11_into) := goodIn_app (goodIn_of _ (by decide +kernel)) ggX11_takeEgg_X11_into
theorem dX11_takeEgg_0 : decode cX11_takeEgg 0 = .ok (.aload_n 0, 1) := by decide +kernel
theorem dX11_takeEgg_1 : decode cX11_takeEgg 1 = .ok (.getfield 138, 3) := by decide +kernel
theorem dX11_takeEgg_4 : decode cX11_takeEgg 4 = .ok (.istore_n 1, 1) := by decide +kernel
theorem dX11_takeEgg_5 : decode cX11_takeEgg 5 = .ok (.aload_n 0, 1) := by decide +kernel
theorem dX11_takeEgg_6 : decode cX11_takeEgg 6 = .ok (.dup, 1) := by decide +kernel
theorem dX11_takeEgg_7 : decode cX11_takeEgg 7 = .ok (.getfield 138, 3) := by decide +kernel
theorem dX11_takeEgg_10 : decode cX11_takeEgg 10 = .ok (.iconst 1, 1) := by decide +kernel
theorem dX11_takeEgg_11 : decode cX11_takeEgg 11 = .ok (.iadd, 1) := by decide +kernel
theorem dX11_takeEgg_12 : decode cX11_takeEgg 12 = .ok (.putfield 138, 3) := by decide +kernel
theorem dX11_takeEgg_15 : decode cX11_takeEgg 15 = .ok (.aload_n 0, 1) := by decide +kernel
theorem dX11_takeEgg_16 : decode cX11_takeEgg 16 = .ok (.aload_n 0, 1) := by decide +kernel
theorem dX11_takeEgg_17 : decode cX11_takeEgg 17 = .ok (.getfield 38, 3) := by decide +kernel
theorem dX11_takeEgg_20 : decode cX11_takeEgg 20 = .ok (.iload_n 1, 1) := by decide +kernel
theorem dX11_takeEgg_21 : decode cX11_takeEgg 21 = .ok (.iconst 0, 1) := by decide +kernel
theorem dX11_takeEgg_22 : decode cX11_takeEgg 22 = .ok (.bipush 30, 2) := by decide +kernel
theorem dX11_takeEgg_24 : decode cX11_takeEgg 24 = .ok (.invokevirtual 134, 3) := by decide +kernel
theorem dX11_takeEgg_27 : decode cX11_takeEgg 27 = .ok (.istore_n 2, 1) := by decide +kernel
theorem dX11_takeEgg_28 : decode cX11_takeEgg 28 = .ok (.iload_n 2, 1) := by decide +kernel
theorem dX11_takeEgg_29 : decode cX11_takeEgg 29 = .ok (.ifCond .le 7, 3) := by decide +kernel
theorem dX11_takeEgg_32 : decode cX11_takeEgg 32 = .ok (.iload_n 2, 1) := by decide +kernel
theorem dX11_takeEgg_33 : decode cX11_takeEgg 33 = .ok (.goto 14, 3) := by decide +kernel
theorem dX11_takeEgg_36 : decode cX11_takeEgg 36 = .ok (.aload_n 0, 1) := by decide +kernel
theorem dX11_takeEgg_37 : decode cX11_takeEgg 37 = .ok (.aload_n 0, 1) := by decide +kernel
theorem dX11_takeEgg_38 : decode cX11_takeEgg 38 = .ok (.getfield 41, 3) := by decide +kernel
theorem dX11_takeEgg_41 : decode cX11_takeEgg 41 = .ok (.iload_n 1, 1) := by decide +kernel
theorem dX11_takeEgg_42 : decode cX11_takeEgg 42 = .ok (.iconst 1, 1) := by decide +kernel
theorem dX11_takeEgg_43 : decode cX11_takeEgg 43 = .ok (.iconst 5, 1) := by decide +kernel
theorem dX11_takeEgg_44 : decode cX11_takeEgg 44 = .ok (.invokevirtual 134, 3) := by decide +kernel
theorem dX11_takeEgg_47 : decode cX11_takeEgg 47 = .ok (.ireturn, 1) := by decide +kernel
set_option maxRecDepth 20000 in
theorem ggX11_takeEater_X11_into : GoodIn wsX11_takeEater wsX11_into := goodIn_r _ [8, 9, 10, 11, 12, 7, 13, 14, 15, 16, 17, 18, 19, 20, 21, 22, 23, 24, 25, 26, 27, 28, 29, 30, 31, 32, 33, 34, 35, 36, 37, 38, 39, 40, 41, 42, 43, 44, 45, 46, 47, 48, 49, 50, 51, 52, 53, 54, 55, 56, 57, 58, 59, 60, 61, 62, 63, 64, 65, 66, 67, 68, 69, 70, 71] (by decide +kernel) (by decide +kernel)
set_option maxRecDepth 20000 in
theorem gX11_takeEater_X11_into : GoodIn wsX11_takeEater (wsV RX11 134 RX11 yX11_into wsX11_into) := goodIn_app (goodIn_of _ (by decide +kernel)) ggX11_takeEater_X11_into
theorem dX11_takeEater_0 : decode cX11_takeEater 0 = .ok (.aload_n 0, 1) := by decide +kernel
theorem dX11_takeEater_1 : decode cX11_takeEater 1 = .ok (.getfield 141, 3) := by decide +kernel
theorem dX11_takeEater_4 : decode cX11_takeEater 4 = .ok (.istore_n 1, 1) := by decide +kernel
theorem dX11_takeEater_5 : decode cX11_takeEater 5 = .ok (.aload_n 0, 1) := by decide +kernel
theorem dX11_takeEater_6 : decode cX11_takeEater 6 = .ok (.dup, 1) := by decide +kernel
theorem dX11_takeEater_7 : decode cX11_takeEater 7 = .ok (.getfield 141, 3) := by decide +kernel
theorem dX11_takeEater_10 : decode cX11_takeEater 10 = .ok (.iconst 1, 1) := by decide +kernel
theorem dX11_takeEater_11 : decode cX11_takeEater 11 = .ok (.iadd, 1) := by decide +kernel
theorem dX11_takeEater_12 : decode cX11_takeEater 12 = .ok (.putfield 141, 3) := by decide +kernel
theorem dX11_takeEater_15 : decode cX11_takeEater 15 = .ok (.aload_n 0, 1) := by decide +kernel
theorem dX11_takeEater_16 : decode cX11_takeEater 16 = .ok (.aload_n 0, 1) := by decide +kernel
theorem dX11_takeEater_17 : decode cX11_takeEater 17 = .ok (.getfield 44, 3) := by decide +kernel
theorem dX11_takeEater_20 : decode cX11_takeEater 20 = .ok (.iload_n 1, 1) := by decide +kernel
theorem dX11_takeEater_21 : decode cX11_takeEater 21 = .ok (.iconst 0, 1) := by decide +kernel
theorem dX11_takeEater_22 : decode cX11_takeEater 22 = .ok (.bipush 99, 2) := by decide +kernel
theorem dX11_takeEater_24 : decode cX11_takeEater 24 = .ok (.invokevirtual 134, 3) := by decide +kernel
theorem dX11_takeEater_27 : decode cX11_takeEater 27 = .ok (.istore_n 2, 1) := by decide +kernel
theorem dX11_takeEater_28 : decode cX11_takeEater 28 = .ok (.iload_n 2, 1) := by decide +kernel
theorem dX11_takeEater_29 : decode cX11_takeEater 29 = .ok (.ifCond .le 7, 3) := by decide +kernel
theorem dX11_takeEater_32 : decode cX11_takeEater 32 = .ok (.iload_n 2, 1) := by decide +kernel
theorem dX11_takeEater_33 : decode cX11_takeEater 33 = .ok (.goto 20, 3) := by decide +kernel
theorem dX11_takeEater_36 : decode cX11_takeEater 36 = .ok (.aload_n 0, 1) := by decide +kernel
theorem dX11_takeEater_37 : decode cX11_takeEater 37 = .ok (.aload_n 0, 1) := by decide +kernel
theorem dX11_takeEater_38 : decode cX11_takeEater 38 = .ok (.getfield 47, 3) := by decide +kernel
theorem dX11_takeEater_41 : decode cX11_takeEater 41 = .ok (.iload_n 1, 1) := by decide +kernel
theorem dX11_takeEater_42 : decode cX11_takeEater 42 = .ok (.aload_n 0, 1) := by decide +kernel
theorem dX11_takeEater_43 : decode cX11_takeEater 43 = .ok (.getfield 44, 3) := by decide +kernel
theorem dX11_takeEater_46 : decode cX11_takeEater 46 = .ok (.iload_n 1, 1) := by decide +kernel
theorem dX11_takeEater_47 : decode cX11_takeEater 47 = .ok (.iaload, 1) := by decide +kernel
theorem dX11_takeEater_48 : decode cX11_takeEater 48 = .ok (.bipush 99, 2) := by decide +kernel
theorem dX11_takeEater_50 : decode cX11_takeEater 50 = .ok (.invokevirtual 134, 3) := by decide +kernel
theorem dX11_takeEater_53 : decode cX11_takeEater 53 = .ok (.ireturn, 1) := by decide +kernel
set_option maxRecDepth 20000 in
theorem ggX11_takeClause_X11_here : GoodIn wsX11_takeClause wsX11_here := goodIn_r _ [9, 2, 10, 11, 48, 49, 50, 51, 52, 53, 54, 55, 56, 57, 58, 59, 60, 61, 62, 63, 64, 65, 66, 67, 68, 69, 70, 71, 72, 73, 74, 75, 76, 77, 78, 79, 80, 81, 82, 83, 84, 85, 86, 87] (by decide +kernel) (by decide +kernel)
set_option maxRecDepth 20000 in
theorem gX11_takeClause_X11_here : GoodIn wsX11_takeClause (wsV RX11 113 RX11 yX11_here wsX11_here) := goodIn_app (goodIn_of _ (by decide +kernel)) ggX11_takeClause_X11_here
set_option maxRecDepth 20000 in
theorem ggX11_takeClause_X11_fails : GoodIn wsX11_takeClause wsX11_fails := goodIn_r _ [15, 16, 48, 49, 50, 51, 52, 53, 54, 55, 56, 57, 58, 59, 60, 61, 62, 63, 64, 65, 66, 67, 68, 69, 70, 71, 72, 73, 74, 75, 76, 77, 78, 79, 80, 81, 82, 83, 84, 85, 86, 87] (by decide +kernel) (by decide +kernel)
set_option maxRecDepth 20000 in
theorem gX11_takeClause_X11_fails : GoodIn wsX11_takeClause (wsV RX11 121 RX11 yX11_fails wsX11_fails) := goodIn_app (goodIn_of _ (by decide +kernel)) ggX11_takeClause_X11_fails
set_option maxRecDepth 20000 in
theorem ggX11_takeClause_X11_takePan : GoodIn wsX11_takeClause wsX11_takePan := goodIn_r _ [20, 1, 21, 22, 23, 8, 24, 25, 26, 27, 28, 29, 30, 31, 2, 32, 10, 11, 5, 6, 7, 9, 33, 34, 35, 12, 13, 14, 15, 16, 48, 49, 50, 51, 52, 53, 54, 55, 56, 57, 58, 59, 60, 61, 62, 63, 64, 65, 66, 67, 68, 69, 70, 71, 72, 73, 74, 75, 76, 77, 78, 79, 80, 81, 82, 83, 84, 85, 86, 87] (by decide +kernel) (by decide +kernel)
set_option maxRecDepth 20000 in
theorem gX11_takeClause_X11_takePan : GoodIn wsX11_takeClause (wsV RX11 144 RX11 yX11_takePan wsX11_takePan) := goodIn_app (goodIn_of _ (by decide +kernel)) ggX11_takeClause_X11_takePan
set_option maxRecDepth 20000 in
theorem ggX11_takeClause_X11_takeEgg : GoodIn wsX11_takeClause wsX11_takeEgg := goodIn_r _ [39, 3, 40, 41, 21, 22, 23, 8, 24, 25, 26, 27, 28, 29, 30, 31, 2, 32, 10, 11, 5, 6, 7, 9, 33, 34, 35, 12, 13, 14, 15, 16, 48, 49, 50, 51, 52, 53, 54, 55, 56, 57, 58, 59, 60, 61, 62, 63, 64, 65, 66, 67, 68, 69, 70, 71, 72, 73, 74, 75, 76, 77, 78, 79, 80, 81, 82, 83, 84, 85, 86, 87] (by decide +kernel) (by decide +kernel)
set_option maxRecDepth 20000 in
theorem gX11_takeClause_X11_takeEgg : GoodIn wsX11_takeClause (wsV RX11 147 RX11 yX11_takeEgg wsX11_takeEgg) := goodIn_app (goodIn_of _ (by decide +kernel)) ggX11_takeClause_X11_takeEgg
set_option maxRecDepth 20000 in
theorem ggX11_takeClause_X11_takeEater : GoodIn wsX11_takeClause wsX11_takeEater := goodIn_r _ [45, 4, 46, 47, 21, 22, 23, 8, 24, 25, 26, 27, 28, 29, 30, 31, 2, 32, 10, 11, 5, 6, 7, 9, 33, 34, 35, 12, 13, 14, 15, 16, 48, 49, 50, 51, 52, 53, 54, 55, 56, 57, 58, 59, 60, 61, 62, 63, 64, 65, 66, 67, 68, 69, 70, 71, 72, 73, 74, 75, 76, 77, 78, 79, 80, 81, 82, 83, 84, 85, 86, 87] (by decide +kernel) (by decide +kernel)
set_option maxRecDepth 20000 in
theorem gX11_takeClause_X11_takeEater : GoodIn wsX11_takeClause (wsV RX11 150 RX11 yX11_takeEater wsX11_takeEater) := goodIn_app (goodIn_of _ (by decide +kernel)) ggX11_takeClause_X11_takeEater
theorem dX11_takeClause_0 : decode cX11_takeClause 0 = .ok (.aload_n 0, 1) := by decide +kernel
theorem dX11_takeClause_1 : decode cX11_takeClause 1 = .ok (.invokevirtual 113, 3) := by decide +kernel
theorem dX11_takeClause_4 : decode cX11_takeClause 4 = .ok (.istore_n 1, 1) := by decide +kernel
theorem dX11_takeClause_5 : decode cX11_takeClause 5 = .ok (.iload_n 1, 1) := by decide +kernel
theorem dX11_takeClause_6 : decode cX11_takeClause 6 = .ok (.bipush 112, 2) := by decide +kernel
theorem dX11_takeClause_8 : decode cX11_takeClause 8 = .ok (.if_icmp .ne 7, 3) := by decide +kernel
theorem dX11_takeClause_11 : decode cX11_takeClause 11 = .ok (.iconst 0, 1) := by decide +kernel
theorem dX11_takeClause_12 : decode cX11_takeClause 12 = .ok (.goto 24, 3) := by decide +kernel
theorem dX11_takeClause_15 : decode cX11_takeClause 15 = .ok (.iload_n 1, 1) := by decide +kernel
theorem dX11_takeClause_16 : decode cX11_takeClause 16 = .ok (.bipush 101, 2) := by decide +kernel
theorem dX11_takeClause_18 : decode cX11_takeClause 18 = .ok (.if_icmp .ne 7, 3) := by decide +kernel
theorem dX11_takeClause_21 : decode cX11_takeClause 21 = .ok (.iconst 1, 1) := by decide +kernel
theorem dX11_takeClause_22 : decode cX11_takeClause 22 = .ok (.goto 14, 3) := by decide +kernel
theorem dX11_takeClause_25 : decode cX11_takeClause 25 = .ok (.iload_n 1, 1) := by decide +kernel
theorem dX11_takeClause_26 : decode cX11_takeClause 26 = .ok (.bipush 109, 2) := by decide +kernel
theorem dX11_takeClause_28 : decode cX11_takeClause 28 = .ok (.if_icmp .ne 7, 3) := by decide +kernel
theorem dX11_takeClause_31 : decode cX11_takeClause 31 = .ok (.iconst 2, 1) := by decide +kernel
theorem dX11_takeClause_32 : decode cX11_takeClause 32 = .ok (.goto 4, 3) := by decide +kernel
theorem dX11_takeClause_35 : decode cX11_takeClause 35 = .ok (.iconst (-1), 1) := by decide +kernel
theorem dX11_takeClause_36 : decode cX11_takeClause 36 = .ok (.istore_n 2, 1) := by decide +kernel
theorem dX11_takeClause_37 : decode cX11_takeClause 37 = .ok (.iload_n 2, 1) := by decide +kernel
theorem dX11_takeClause_38 : decode cX11_takeClause 38 = .ok (.ifCond .lt 16, 3) := by decide +kernel
theorem dX11_takeClause_41 : decode cX11_takeClause 41 = .ok (.iload_n 2, 1) := by decide +kernel
theorem dX11_takeClause_42 : decode cX11_takeClause 42 = .ok (.ifCond .le 22, 3) := by decide +kernel
theorem dX11_takeClause_45 : decode cX11_takeClause 45 = .ok (.aload_n 0, 1) := by decide +kernel
theorem dX11_takeClause_46 : decode cX11_takeClause 46 = .ok (.getfield 35, 3) := by decide +kernel
theorem dX11_takeClause_49 : decode cX11_takeClause 49 = .ok (.iconst 0, 1) := by decide +kernel
theorem dX11_takeClause_50 : decode cX11_takeClause 50 = .ok (.iaload, 1) := by decide +kernel
theorem dX11_takeClause_51 : decode cX11_takeClause 51 = .ok (.ifCond .ne 13, 3) := by decide +kernel
theorem dX11_takeClause_54 : decode cX11_takeClause 54 = .ok (.aload_n 0, 1) := by decide +kernel
theorem dX11_takeClause_55 : decode cX11_takeClause 55 = .ok (.iconst 1, 1) := by decide +kernel
theorem dX11_takeClause_56 : decode cX11_takeClause 56 = .ok (.aload_n 0, 1) := by decide +kernel
theorem dX11_takeClause_57 : decode cX11_takeClause 57 = .ok (.getfield 110, 3) := by decide +kernel
theorem dX11_takeClause_60 : decode cX11_takeClause 60 = .ok (.invokevirtual 121, 3) := by decide +kernel
theorem dX11_takeClause_63 : decode cX11_takeClause 63 = .ok (.ireturn, 1) := by decide +kernel
theorem dX11_takeClause_64 : decode cX11_takeClause 64 = .ok (.iload_n 2, 1) := by decide +kernel
theorem dX11_takeClause_65 : decode cX11_takeClause 65 = .ok (.ifCond .ne 20, 3) := by decide +kernel
theorem dX11_takeClause_68 : decode cX11_takeClause 68 = .ok (.aload_n 0, 1) := by decide +kernel
theorem dX11_takeClause_69 : decode cX11_takeClause 69 = .ok (.getfield 35, 3) := by decide +kernel
theorem dX11_takeClause_72 : decode cX11_takeClause 72 = .ok (.iconst 0, 1) := by decide +kernel
theorem dX11_takeClause_73 : decode cX11_takeClause 73 = .ok (.iaload, 1) := by decide +kernel
theorem dX11_takeClause_74 : decode cX11_takeClause 74 = .ok (.ifCond .le 7, 3) := by decide +kernel
theorem dX11_takeClause_77 : decode cX11_takeClause 77 = .ok (.iconst 1, 1) := by decide +kernel
theorem dX11_takeClause_78 : decode cX11_takeClause 78 = .ok (.goto 42, 3) := by decide +kernel
theorem dX11_takeClause_81 : decode cX11_takeClause 81 = .ok (.iconst 0, 1) := by decide +kernel
theorem dX11_takeClause_82 : decode cX11_takeClause 82 = .ok (.goto 38, 3) := by decide +kernel
theorem dX11_takeClause_85 : decode cX11_takeClause 85 = .ok (.iload_n 2, 1) := by decide +kernel
theorem dX11_takeClause_86 : decode cX11_takeClause 86 = .ok (.iconst 1, 1) := by decide +kernel
theorem dX11_takeClause_87 : decode cX11_takeClause 87 = .ok (.if_icmp .ne 20, 3) := by decide +kernel
theorem dX11_takeClause_90 : decode cX11_takeClause 90 = .ok (.aload_n 0, 1) := by decide +kernel
theorem dX11_takeClause_91 : decode cX11_takeClause 91 = .ok (.getfield 138, 3) := by decide +kernel
theorem dX11_takeClause_94 : decode cX11_takeClause 94 = .ok (.bipush 7, 2) := by decide +kernel
theorem dX11_takeClause_96 : decode cX11_takeClause 96 = .ok (.if_icmp .ne 7, 3) := by decide +kernel
theorem dX11_takeClause_99 : decode cX11_takeClause 99 = .ok (.iconst 1, 1) := by decide +kernel
theorem dX11_takeClause_100 : decode cX11_takeClause 100 = .ok (.goto 20, 3) := by decide +kernel
theorem dX11_takeClause_103 : decode cX11_takeClause 103 = .ok (.iconst 0, 1) := by decide +kernel
theorem dX11_takeClause_104 : decode cX11_takeClause 104 = .ok (.goto 16, 3) := by decide +kernel
theorem dX11_takeClause_107 : decode cX11_takeClause 107 = .ok (.aload_n 0, 1) := by decide +kernel
theorem dX11_takeClause_108 : decode cX11_takeClause 108 = .ok (.getfield 141, 3) := by decide +kernel
theorem dX11_takeClause_111 : decode cX11_takeClause 111 = .ok (.iconst 5, 1) := by decide +kernel
theorem dX11_takeClause_112 : decode cX11_takeClause 112 = .ok (.if_icmp .ne 7, 3) := by decide +kernel
theorem dX11_takeClause_115 : decode cX11_takeClause 115 = .ok (.iconst 1, 1) := by decide +kernel
theorem dX11_takeClause_116 : decode cX11_takeClause 116 = .ok (.goto 4, 3) := by decide +kernel
theorem dX11_takeClause_119 : decode cX11_takeClause 119 = .ok (.iconst 0, 1) := by decide +kernel
theorem dX11_takeClause_120 : decode cX11_takeClause 120 = .ok (.istore_n 3, 1) := by decide +kernel
theorem dX11_takeClause_121 : decode cX11_takeClause 121 = .ok (.iload_n 3, 1) := by decide +kernel
theorem dX11_takeClause_122 : decode cX11_takeClause 122 = .ok (.ifCond .eq 13, 3) := by decide +kernel
theorem dX11_takeClause_125 : decode cX11_takeClause 125 = .ok (.aload_n 0, 1) := by decide +kernel
theorem dX11_takeClause_126 : decode cX11_takeClause 126 = .ok (.iconst 3, 1) := by decide +kernel
theorem dX11_takeClause_127 : decode cX11_takeClause 127 = .ok (.aload_n 0, 1) := by decide +kernel
theorem dX11_takeClause_128 : decode cX11_takeClause 128 = .ok (.getfield 110, 3) := by decide +kernel
theorem dX11_takeClause_131 : decode cX11_takeClause 131 = .ok (.invokevirtual 121, 3) := by decide +kernel
theorem dX11_takeClause_134 : decode cX11_takeClause 134 = .ok (.ireturn, 1) := by decide +kernel
theorem dX11_takeClause_135 : decode cX11_takeClause 135 = .ok (.aload_n 0, 1) := by decide +kernel
theorem dX11_takeClause_136 : decode cX11_takeClause 136 = .ok (.dup, 1) := by decide +kernel
theorem dX11_takeClause_137 : decode cX11_takeClause 137 = .ok (.getfield 110, 3) := by decide +kernel
theorem dX11_takeClause_140 : decode cX11_takeClause 140 = .ok (.iconst 1, 1) := by decide +kernel
theorem dX11_takeClause_141 : decode cX11_takeClause 141 = .ok (.iadd, 1) := by decide +kernel
theorem dX11_takeClause_142 : decode cX11_takeClause 142 = .ok (.putfield 110, 3) := by decide +kernel
theorem dX11_takeClause_145 : decode cX11_takeClause 145 = .ok (.iload_n 2, 1) := by decide +kernel
theorem dX11_takeClause_146 : decode cX11_takeClause 146 = .ok (.ifCond .ne 10, 3) := by decide +kernel
theorem dX11_takeClause_149 : decode cX11_takeClause 149 = .ok (.aload_n 0, 1) := by decide +kernel
theorem dX11_takeClause_150 : decode cX11_takeClause 150 = .ok (.invokevirtual 144, 3) := by decide +kernel
theorem dX11_takeClause_153 : decode cX11_takeClause 153 = .ok (.goto 19, 3) := by decide +kernel
theorem dX11_takeClause_156 : decode cX11_takeClause 156 = .ok (.iload_n 2, 1) := by decide +kernel
theorem dX11_takeClause_157 : decode cX11_takeClause 157 = .ok (.iconst 1, 1) := by decide +kernel
theorem dX11_takeClause_158 : decode cX11_takeClause 158 = .ok (.if_icmp .ne 10, 3) := by decide +kernel
theorem dX11_takeClause_161 : decode cX11_takeClause 161 = .ok (.aload_n 0, 1) := by decide +kernel
theorem dX11_takeClause_162 : decode cX11_takeClause 162 = .ok (.invokevirtual 147, 3) := by decide +kernel
theorem dX11_takeClause_165 : decode cX11_takeClause 165 = .ok (.goto 7, 3) := by decide +kernel
theorem dX11_takeClause_168 : decode cX11_takeClause 168 = .ok (.aload_n 0, 1) := by decide +kernel
theorem dX11_takeClause_169 : decode cX11_takeClause 169 = .ok (.invokevirtual 150, 3) := by decide +kernel
theorem dX11_takeClause_172 : decode cX11_takeClause 172 = .ok (.istore 4, 2) := by decide +kernel
theorem dX11_takeClause_174 : decode cX11_takeClause 174 = .ok (.iload 4, 2) := by decide +kernel
theorem dX11_takeClause_176 : decode cX11_takeClause 176 = .ok (.ifCond .ne 22, 3) := by decide +kernel
theorem dX11_takeClause_179 : decode cX11_takeClause 179 = .ok (.aload_n 0, 1) := by decide +kernel
theorem dX11_takeClause_180 : decode cX11_takeClause 180 = .ok (.invokevirtual 113, 3) := by decide +kernel
theorem dX11_takeClause_183 : decode cX11_takeClause 183 = .ok (.bipush 59, 2) := by decide +kernel
theorem dX11_takeClause_185 : decode cX11_takeClause 185 = .ok (.if_icmp .eq 13, 3) := by decide +kernel
theorem dX11_takeClause_188 : decode cX11_takeClause 188 = .ok (.aload_n 0, 1) := by decide +kernel
theorem dX11_takeClause_189 : decode cX11_takeClause 189 = .ok (.iconst 1, 1) := by decide +kernel
theorem dX11_takeClause_190 : decode cX11_takeClause 190 = .ok (.aload_n 0, 1) := by decide +kernel
theorem dX11_takeClause_191 : decode cX11_takeClause 191 = .ok (.getfield 110, 3) := by decide +kernel
theorem dX11_takeClause_194 : decode cX11_takeClause 194 = .ok (.invokevirtual 121, 3) := by decide +kernel
theorem dX11_takeClause_197 : decode cX11_takeClause 197 = .ok (.ireturn, 1) := by decide +kernel
theorem dX11_takeClause_198 : decode cX11_takeClause 198 = .ok (.aload_n 0, 1) := by decide +kernel
theorem dX11_takeClause_199 : decode cX11_takeClause 199 = .ok (.dup, 1) := by decide +kernel
theorem dX11_takeClause_200 : decode cX11_takeClause 200 = .ok (.getfield 110, 3) := by decide +kernel
theorem dX11_takeClause_203 : decode cX11_takeClause 203 = .ok (.iconst 1, 1) := by decide +kernel
theorem dX11_takeClause_204 : decode cX11_takeClause 204 = .ok (.iadd, 1) := by decide +kernel
theorem dX11_takeClause_205 : decode cX11_takeClause 205 = .ok (.putfield 110, 3) := by decide +kernel
theorem dX11_takeClause_208 : decode cX11_takeClause 208 = .ok (.iload 4, 2) := by decide +kernel
theorem dX11_takeClause_210 : decode cX11_takeClause 210 = .ok (.ireturn, 1) := by decide +kernel
theorem dX11_takeRead_0 : decode cX11_takeRead 0 = .ok (.aload_n 0, 1) := by decide +kernel
theorem dX11_takeRead_1 : decode cX11_takeRead 1 = .ok (.aload_n 0, 1) := by decide +kernel
theorem dX11_takeRead_2 : decode cX11_takeRead 2 = .ok (.getfield 35, 3) := by decide +kernel
theorem dX11_takeRead_5 : decode cX11_takeRead 5 = .ok (.iconst 0, 1) := by decide +kernel
theorem dX11_takeRead_6 : decode cX11_takeRead 6 = .ok (.iaload, 1) := by decide +kernel
theorem dX11_takeRead_7 : decode cX11_takeRead 7 = .ok (.putfield 90, 3) := by decide +kernel
theorem dX11_takeRead_10 : decode cX11_takeRead 10 = .ok (.aload_n 0, 1) := by decide +kernel
theorem dX11_takeRead_11 : decode cX11_takeRead 11 = .ok (.aload_n 0, 1) := by decide +kernel
theorem dX11_takeRead_12 : decode cX11_takeRead 12 = .ok (.getfield 35, 3) := by decide +kernel
theorem dX11_takeRead_15 : decode cX11_takeRead 15 = .ok (.iconst 2, 1) := by decide +kernel
theorem dX11_takeRead_16 : decode cX11_takeRead 16 = .ok (.iaload, 1) := by decide +kernel
theorem dX11_takeRead_17 : decode cX11_takeRead 17 = .ok (.putfield 153, 3) := by decide +kernel
theorem dX11_takeRead_20 : decode cX11_takeRead 20 = .ok (.aload_n 0, 1) := by decide +kernel
theorem dX11_takeRead_21 : decode cX11_takeRead 21 = .ok (.aload_n 0, 1) := by decide +kernel
theorem dX11_takeRead_22 : decode cX11_takeRead 22 = .ok (.getfield 138, 3) := by decide +kernel
theorem dX11_takeRead_25 : decode cX11_takeRead 25 = .ok (.putfield 93, 3) := by decide +kernel
theorem dX11_takeRead_28 : decode cX11_takeRead 28 = .ok (.aload_n 0, 1) := by decide +kernel
theorem dX11_takeRead_29 : decode cX11_takeRead 29 = .ok (.aload_n 0, 1) := by decide +kernel
theorem dX11_takeRead_30 : decode cX11_takeRead 30 = .ok (.getfield 141, 3) := by decide +kernel
theorem dX11_takeRead_33 : decode cX11_takeRead 33 = .ok (.putfield 100, 3) := by decide +kernel
theorem dX11_takeRead_36 : decode cX11_takeRead 36 = .ok (.iconst 0, 1) := by decide +kernel
theorem dX11_takeRead_37 : decode cX11_takeRead 37 = .ok (.istore_n 1, 1) := by decide +kernel
theorem dX11_takeRead_38 : decode cX11_takeRead 38 = .ok (.iload_n 1, 1) := by decide +kernel
theorem dX11_takeRead_39 : decode cX11_takeRead 39 = .ok (.bipush 19, 2) := by decide +kernel
theorem dX11_takeRead_41 : decode cX11_takeRead 41 = .ok (.if_icmp .ge 16, 3) := by decide +kernel
theorem dX11_takeRead_44 : decode cX11_takeRead 44 = .ok (.aload_n 0, 1) := by decide +kernel
theorem dX11_takeRead_45 : decode cX11_takeRead 45 = .ok (.getfield 25, 3) := by decide +kernel
theorem dX11_takeRead_48 : decode cX11_takeRead 48 = .ok (.iload_n 1, 1) := by decide +kernel
theorem dX11_takeRead_49 : decode cX11_takeRead 49 = .ok (.iconst 0, 1) := by decide +kernel
theorem dX11_takeRead_50 : decode cX11_takeRead 50 = .ok (.iastore, 1) := by decide +kernel
theorem dX11_takeRead_51 : decode cX11_takeRead 51 = .ok (.iinc 1 1, 3) := by decide +kernel
theorem dX11_takeRead_54 : decode cX11_takeRead 54 = .ok (.goto (-16), 3) := by decide +kernel
theorem dX11_takeRead_57 : decode cX11_takeRead 57 = .ok (.aload_n 0, 1) := by decide +kernel
theorem dX11_takeRead_58 : decode cX11_takeRead 58 = .ok (.getfield 25, 3) := by decide +kernel
theorem dX11_takeRead_61 : decode cX11_takeRead 61 = .ok (.bipush 14, 2) := by decide +kernel
theorem dX11_takeRead_63 : decode cX11_takeRead 63 = .ok (.aload_n 0, 1) := by decide +kernel
theorem dX11_takeRead_64 : decode cX11_takeRead 64 = .ok (.getfield 35, 3) := by decide +kernel
theorem dX11_takeRead_67 : decode cX11_takeRead 67 = .ok (.iconst 1, 1) := by decide +kernel
theorem dX11_takeRead_68 : decode cX11_takeRead 68 = .ok (.iaload, 1) := by decide +kernel
theorem dX11_takeRead_69 : decode cX11_takeRead 69 = .ok (.iastore, 1) := by decide +kernel
theorem dX11_takeRead_70 : decode cX11_takeRead 70 = .ok (.iconst 0, 1) := by decide +kernel
theorem dX11_takeRead_71 : decode cX11_takeRead 71 = .ok (.istore_n 1, 1) := by decide +kernel
theorem dX11_takeRead_72 : decode cX11_takeRead 72 = .ok (.iload_n 1, 1) := by decide +kernel
theorem dX11_takeRead_73 : decode cX11_takeRead 73 = .ok (.bipush 7, 2) := by decide +kernel
theorem dX11_takeRead_75 : decode cX11_takeRead 75 = .ok (.if_icmp .ge 40, 3) := by decide +kernel
theorem dX11_takeRead_78 : decode cX11_takeRead 78 = .ok (.aload_n 0, 1) := by decide +kernel
theorem dX11_takeRead_79 : decode cX11_takeRead 79 = .ok (.getfield 7, 3) := by decide +kernel
theorem dX11_takeRead_82 : decode cX11_takeRead 82 = .ok (.iload_n 1, 1) := by decide +kernel
theorem dX11_takeRead_83 : decode cX11_takeRead 83 = .ok (.aload_n 0, 1) := by decide +kernel
theorem dX11_takeRead_84 : decode cX11_takeRead 84 = .ok (.getfield 38, 3) := by decide +kernel
theorem dX11_takeRead_87 : decode cX11_takeRead 87 = .ok (.iload_n 1, 1) := by decide +kernel
theorem dX11_takeRead_88 : decode cX11_takeRead 88 = .ok (.iaload, 1) := by decide +kernel
theorem dX11_takeRead_89 : decode cX11_takeRead 89 = .ok (.iastore, 1) := by decide +kernel
theorem dX11_takeRead_90 : decode cX11_takeRead 90 = .ok (.aload_n 0, 1) := by decide +kernel
theorem dX11_takeRead_91 : decode cX11_takeRead 91 = .ok (.getfield 13, 3) := by decide +kernel
theorem dX11_takeRead_94 : decode cX11_takeRead 94 = .ok (.iload_n 1, 1) := by decide +kernel
theorem dX11_takeRead_95 : decode cX11_takeRead 95 = .ok (.aload_n 0, 1) := by decide +kernel
theorem dX11_takeRead_96 : decode cX11_takeRead 96 = .ok (.getfield 41, 3) := by decide +kernel
theorem dX11_takeRead_99 : decode cX11_takeRead 99 = .ok (.iload_n 1, 1) := by decide +kernel
theorem dX11_takeRead_100 : decode cX11_takeRead 100 = .ok (.iaload, 1) := by decide +kernel
theorem dX11_takeRead_101 : decode cX11_takeRead 101 = .ok (.iastore, 1) := by decide +kernel
theorem dX11_takeRead_102 : decode cX11_takeRead 102 = .ok (.aload_n 0, 1) := by decide +kernel
theorem dX11_takeRead_103 : decode cX11_takeRead 103 = .ok (.getfield 22, 3) := by decide +kernel
theorem dX11_takeRead_106 : decode cX11_takeRead 106 = .ok (.iload_n 1, 1) := by decide +kernel
theorem dX11_takeRead_107 : decode cX11_takeRead 107 = .ok (.iconst 1, 1) := by decide +kernel
theorem dX11_takeRead_108 : decode cX11_takeRead 108 = .ok (.iastore, 1) := by decide +kernel
theorem dX11_takeRead_109 : decode cX11_takeRead 109 = .ok (.iinc 1 1, 3) := by decide +kernel
theorem dX11_takeRead_112 : decode cX11_takeRead 112 = .ok (.goto (-40), 3) := by decide +kernel
theorem dX11_takeRead_115 : decode cX11_takeRead 115 = .ok (.iconst 0, 1) := by decide +kernel
theorem dX11_takeRead_116 : decode cX11_takeRead 116 = .ok (.istore_n 1, 1) := by decide +kernel
theorem dX11_takeRead_117 : decode cX11_takeRead 117 = .ok (.iload_n 1, 1) := by decide +kernel
theorem dX11_takeRead_118 : decode cX11_takeRead 118 = .ok (.iconst 5, 1) := by decide +kernel
theorem dX11_takeRead_119 : decode cX11_takeRead 119 = .ok (.if_icmp .ge 33, 3) := by decide +kernel
theorem dX11_takeRead_122 : decode cX11_takeRead 122 = .ok (.aload_n 0, 1) := by decide +kernel
theorem dX11_takeRead_123 : decode cX11_takeRead 123 = .ok (.getfield 16, 3) := by decide +kernel
theorem dX11_takeRead_126 : decode cX11_takeRead 126 = .ok (.iload_n 1, 1) := by decide +kernel
theorem dX11_takeRead_127 : decode cX11_takeRead 127 = .ok (.aload_n 0, 1) := by decide +kernel
theorem dX11_takeRead_128 : decode cX11_takeRead 128 = .ok (.getfield 44, 3) := by decide +kernel
theorem dX11_takeRead_131 : decode cX11_takeRead 131 = .ok (.iload_n 1, 1) := by decide +kernel
theorem dX11_takeRead_132 : decode cX11_takeRead 132 = .ok (.iaload, 1) := by decide +kernel
theorem dX11_takeRead_133 : decode cX11_takeRead 133 = .ok (.iastore, 1) := by decide +kernel
theorem dX11_takeRead_134 : decode cX11_takeRead 134 = .ok (.aload_n 0, 1) := by decide +kernel
theorem dX11_takeRead_135 : decode cX11_takeRead 135 = .ok (.getfield 19, 3) := by decide +kernel
theorem dX11_takeRead_138 : decode cX11_takeRead 138 = .ok (.iload_n 1, 1) := by decide +kernel
theorem dX11_takeRead_139 : decode cX11_takeRead 139 = .ok (.aload_n 0, 1) := by decide +kernel
theorem dX11_takeRead_140 : decode cX11_takeRead 140 = .ok (.getfield 47, 3) := by decide +kernel
theorem dX11_takeRead_143 : decode cX11_takeRead 143 = .ok (.iload_n 1, 1) := by decide +kernel
theorem dX11_takeRead_144 : decode cX11_takeRead 144 = .ok (.iaload, 1) := by decide +kernel
theorem dX11_takeRead_145 : decode cX11_takeRead 145 = .ok (.iastore, 1) := by decide +kernel
theorem dX11_takeRead_146 : decode cX11_takeRead 146 = .ok (.iinc 1 1, 3) := by decide +kernel
theorem dX11_takeRead_149 : decode cX11_takeRead 149 = .ok (.goto (-32), 3) := by decide +kernel
theorem dX11_takeRead_152 : decode cX11_takeRead 152 = .ok (.return_, 1) := by decide +kernel
set_option maxRecDepth 20000 in
theorem ggX11_table_X11_here : GoodIn wsX11_table wsX11_here := goodIn_r _ [16, 2, 6, 17, 70, 71, 72, 73, 74, 75, 76, 77, 78, 79, 80, 81, 82, 83, 84, 85, 86, 87, 88, 89, 90, 91, 92, 93, 94, 95, 96, 97, 98, 99, 100, 101, 102, 103, 104, 105, 106, 107, 108, 109] (by decide +kernel) (by decide +kernel)
set_option maxRecDepth 20000 in
theorem gX11_table_X11_here : GoodIn wsX11_table (wsV RX11 113 RX11 yX11_here wsX11_here) := goodIn_app (goodIn_of _ (by decide +kernel)) ggX11_table_X11_here
set_option maxRecDepth 20000 in
theorem ggX11_table_X11_takeClause : GoodIn wsX11_table wsX11_takeClause := goodIn_r _ [21, 3, 2, 4, 5, 12, 13, 14, 15, 16, 6, 17, 22, 23, 24, 25, 1, 26, 27, 28, 29, 30, 31, 32, 33, 34, 35, 36, 37, 38, 39, 40, 41, 42, 43, 44, 45, 46, 47, 48, 49, 50, 51, 52, 53, 54, 55, 56, 70, 71, 72, 73, 74, 75, 76, 77, 78, 79, 80, 81, 82, 83, 84, 85, 86, 87, 88, 89, 90, 91, 92, 93, 94, 95, 96, 97, 98, 99, 100, 101, 102, 103, 104, 105, 106, 107, 108, 109] (by decide +kernel) (by decide +kernel)
set_option maxRecDepth 20000 in
theorem gX11_table_X11_takeClause : GoodIn wsX11_table (wsV RX11 156 RX11 yX11_takeClause wsX11_takeClause) := goodIn_app (goodIn_of _ (by decide +kernel)) ggX11_table_X11_takeClause
set_option maxRecDepth 20000 in
theorem ggX11_table_X11_takeRead : GoodIn wsX11_table wsX11_takeRead := goodIn_r _ [60, 3, 61, 62, 4, 11, 5, 63, 64, 65, 49, 66, 50, 67, 68, 55, 69, 56, 70, 71, 72, 73, 74, 75, 76, 77, 78, 79, 80, 81, 82, 83, 84, 85, 86, 87, 88, 89, 90, 91, 92, 93, 94, 95, 96, 97, 98, 99, 100, 101, 102, 103, 104, 105, 106, 107, 108, 109] (by decide +kernel) (by decide +kernel)
set_option maxRecDepth 20000 in
theorem gX11_table_X11_takeRead : GoodIn wsX11_table (wsV RX11 159 RX11 yX11_takeRead wsX11_takeRead) := goodIn_app (goodIn_of _ (by decide +kernel)) ggX11_table_X11_takeRead
theorem dX11_table_0 : decode cX11_table 0 = .ok (.aload_n 0, 1) := by decide +kernel
theorem dX11_table_1 : decode cX11_table 1 = .ok (.iconst (-1), 1) := by decide +kernel
theorem dX11_table_2 : decode cX11_table 2 = .ok (.putfield 31, 3) := by decide +kernel
theorem dX11_table_5 : decode cX11_table 5 = .ok (.aload_n 0, 1) := by decide +kernel
theorem dX11_table_6 : decode cX11_table 6 = .ok (.iconst 0, 1) := by decide +kernel
theorem dX11_table_7 : decode cX11_table 7 = .ok (.putfield 110, 3) := by decide +kernel
theorem dX11_table_10 : decode cX11_table 10 = .ok (.iconst 0, 1) := by decide +kernel
theorem dX11_table_11 : decode cX11_table 11 = .ok (.istore_n 1, 1) := by decide +kernel
theorem dX11_table_12 : decode cX11_table 12 = .ok (.iload_n 1, 1) := by decide +kernel
theorem dX11_table_13 : decode cX11_table 13 = .ok (.iconst 3, 1) := by decide +kernel
theorem dX11_table_14 : decode cX11_table 14 = .ok (.if_icmp .ge 16, 3) := by decide +kernel
theorem dX11_table_17 : decode cX11_table 17 = .ok (.aload_n 0, 1) := by decide +kernel
theorem dX11_table_18 : decode cX11_table 18 = .ok (.getfield 35, 3) := by decide +kernel
theorem dX11_table_21 : decode cX11_table 21 = .ok (.iload_n 1, 1) := by decide +kernel
theorem dX11_table_22 : decode cX11_table 22 = .ok (.iconst 0, 1) := by decide +kernel
theorem dX11_table_23 : decode cX11_table 23 = .ok (.iastore, 1) := by decide +kernel
theorem dX11_table_24 : decode cX11_table 24 = .ok (.iinc 1 1, 3) := by decide +kernel
theorem dX11_table_27 : decode cX11_table 27 = .ok (.goto (-15), 3) := by decide +kernel
theorem dX11_table_30 : decode cX11_table 30 = .ok (.aload_n 0, 1) := by decide +kernel
theorem dX11_table_31 : decode cX11_table 31 = .ok (.iconst 0, 1) := by decide +kernel
theorem dX11_table_32 : decode cX11_table 32 = .ok (.putfield 138, 3) := by decide +kernel
theorem dX11_table_35 : decode cX11_table 35 = .ok (.aload_n 0, 1) := by decide +kernel
theorem dX11_table_36 : decode cX11_table 36 = .ok (.iconst 0, 1) := by decide +kernel
theorem dX11_table_37 : decode cX11_table 37 = .ok (.putfield 141, 3) := by decide +kernel
theorem dX11_table_40 : decode cX11_table 40 = .ok (.iconst 0, 1) := by decide +kernel
theorem dX11_table_41 : decode cX11_table 41 = .ok (.istore_n 1, 1) := by decide +kernel
theorem dX11_table_42 : decode cX11_table 42 = .ok (.iload_n 1, 1) := by decide +kernel
theorem dX11_table_43 : decode cX11_table 43 = .ok (.ifCond .ne 18, 3) := by decide +kernel
theorem dX11_table_46 : decode cX11_table 46 = .ok (.aload_n 0, 1) := by decide +kernel
theorem dX11_table_47 : decode cX11_table 47 = .ok (.invokevirtual 113, 3) := by decide +kernel
theorem dX11_table_50 : decode cX11_table 50 = .ok (.ifCond .lt 11, 3) := by decide +kernel
theorem dX11_table_53 : decode cX11_table 53 = .ok (.aload_n 0, 1) := by decide +kernel
theorem dX11_table_54 : decode cX11_table 54 = .ok (.invokevirtual 156, 3) := by decide +kernel
theorem dX11_table_57 : decode cX11_table 57 = .ok (.istore_n 1, 1) := by decide +kernel
theorem dX11_table_58 : decode cX11_table 58 = .ok (.goto (-16), 3) := by decide +kernel
theorem dX11_table_61 : decode cX11_table 61 = .ok (.aload_n 0, 1) := by decide +kernel
theorem dX11_table_62 : decode cX11_table 62 = .ok (.iconst 0, 1) := by decide +kernel
theorem dX11_table_63 : decode cX11_table 63 = .ok (.putfield 106, 3) := by decide +kernel
theorem dX11_table_66 : decode cX11_table 66 = .ok (.iload_n 1, 1) := by decide +kernel
theorem dX11_table_67 : decode cX11_table 67 = .ok (.ifCond .le 8, 3) := by decide +kernel
theorem dX11_table_70 : decode cX11_table 70 = .ok (.bipush (-10), 2) := by decide +kernel
theorem dX11_table_72 : decode cX11_table 72 = .ok (.iload_n 1, 1) := by decide +kernel
theorem dX11_table_73 : decode cX11_table 73 = .ok (.isub, 1) := by decide +kernel
theorem dX11_table_74 : decode cX11_table 74 = .ok (.ireturn, 1) := by decide +kernel
theorem dX11_table_75 : decode cX11_table 75 = .ok (.aload_n 0, 1) := by decide +kernel
theorem dX11_table_76 : decode cX11_table 76 = .ok (.invokevirtual 159, 3) := by decide +kernel
theorem dX11_table_79 : decode cX11_table 79 = .ok (.aload_n 0, 1) := by decide +kernel
theorem dX11_table_80 : decode cX11_table 80 = .ok (.iconst 0, 1) := by decide +kernel
theorem dX11_table_81 : decode cX11_table 81 = .ok (.putfield 162, 3) := by decide +kernel
theorem dX11_table_84 : decode cX11_table 84 = .ok (.aload_n 0, 1) := by decide +kernel
theorem dX11_table_85 : decode cX11_table 85 = .ok (.iconst 0, 1) := by decide +kernel
theorem dX11_table_86 : decode cX11_table 86 = .ok (.putfield 165, 3) := by decide +kernel
theorem dX11_table_89 : decode cX11_table 89 = .ok (.aload_n 0, 1) := by decide +kernel
theorem dX11_table_90 : decode cX11_table 90 = .ok (.iconst 0, 1) := by decide +kernel
theorem dX11_table_91 : decode cX11_table 91 = .ok (.putfield 168, 3) := by decide +kernel
theorem dX11_table_94 : decode cX11_table 94 = .ok (.aload_n 0, 1) := by decide +kernel
theorem dX11_table_95 : decode cX11_table 95 = .ok (.getfield 86, 3) := by decide +kernel
theorem dX11_table_98 : decode cX11_table 98 = .ok (.iconst 0, 1) := by decide +kernel
theorem dX11_table_99 : decode cX11_table 99 = .ok (.iconst 0, 1) := by decide +kernel
theorem dX11_table_100 : decode cX11_table 100 = .ok (.bastore, 1) := by decide +kernel
theorem dX11_table_101 : decode cX11_table 101 = .ok (.aload_n 0, 1) := by decide +kernel
theorem dX11_table_102 : decode cX11_table 102 = .ok (.getfield 86, 3) := by decide +kernel
theorem dX11_table_105 : decode cX11_table 105 = .ok (.iconst 1, 1) := by decide +kernel
theorem dX11_table_106 : decode cX11_table 106 = .ok (.iconst 0, 1) := by decide +kernel
theorem dX11_table_107 : decode cX11_table 107 = .ok (.bastore, 1) := by decide +kernel
theorem dX11_table_108 : decode cX11_table 108 = .ok (.aload_n 0, 1) := by decide +kernel
theorem dX11_table_109 : decode cX11_table 109 = .ok (.getfield 93, 3) := by decide +kernel
theorem dX11_table_112 : decode cX11_table 112 = .ok (.ireturn, 1) := by decide +kernel
theorem dX11_fault_0 : decode cX11_fault 0 = .ok (.aload_n 0, 1) := by decide +kernel
theorem dX11_fault_1 : decode cX11_fault 1 = .ok (.getfield 31, 3) := by decide +kernel
theorem dX11_fault_4 : decode cX11_fault 4 = .ok (.ireturn, 1) := by decide +kernel
theorem dX11_hardBy_0 : decode cX11_hardBy 0 = .ok (.bipush 10, 2) := by decide +kernel
theorem dX11_hardBy_2 : decode cX11_hardBy 2 = .ok (.iload_n 2, 1) := by decide +kernel
theorem dX11_hardBy_3 : decode cX11_hardBy 3 = .ok (.imul, 1) := by decide +kernel
theorem dX11_hardBy_4 : decode cX11_hardBy 4 = .ok (.iconst 5, 1) := by decide +kernel
theorem dX11_hardBy_5 : decode cX11_hardBy 5 = .ok (.aload_n 0, 1) := by decide +kernel
theorem dX11_hardBy_6 : decode cX11_hardBy 6 = .ok (.getfield 13, 3) := by decide +kernel
theorem dX11_hardBy_9 : decode cX11_hardBy 9 = .ok (.iload_n 1, 1) := by decide +kernel
theorem dX11_hardBy_10 : decode cX11_hardBy 10 = .ok (.iaload, 1) := by decide +kernel
theorem dX11_hardBy_11 : decode cX11_hardBy 11 = .ok (.imul, 1) := by decide +kernel
theorem dX11_hardBy_12 : decode cX11_hardBy 12 = .ok (.isub, 1) := by decide +kernel
theorem dX11_hardBy_13 : decode cX11_hardBy 13 = .ok (.aload_n 0, 1) := by decide +kernel
theorem dX11_hardBy_14 : decode cX11_hardBy 14 = .ok (.getfield 7, 3) := by decide +kernel
theorem dX11_hardBy_17 : decode cX11_hardBy 17 = .ok (.iload_n 1, 1) := by decide +kernel
theorem dX11_hardBy_18 : decode cX11_hardBy 18 = .ok (.iaload, 1) := by decide +kernel
theorem dX11_hardBy_19 : decode cX11_hardBy 19 = .ok (.iconst 3, 1) := by decide +kernel
theorem dX11_hardBy_20 : decode cX11_hardBy 20 = .ok (.idiv, 1) := by decide +kernel
theorem dX11_hardBy_21 : decode cX11_hardBy 21 = .ok (.iadd, 1) := by decide +kernel
theorem dX11_hardBy_22 : decode cX11_hardBy 22 = .ok (.istore_n 3, 1) := by decide +kernel
theorem dX11_hardBy_23 : decode cX11_hardBy 23 = .ok (.iload_n 3, 1) := by decide +kernel
theorem dX11_hardBy_24 : decode cX11_hardBy 24 = .ok (.ifCond .ge 7, 3) := by decide +kernel
theorem dX11_hardBy_27 : decode cX11_hardBy 27 = .ok (.iconst 0, 1) := by decide +kernel
theorem dX11_hardBy_28 : decode cX11_hardBy 28 = .ok (.goto 15, 3) := by decide +kernel
theorem dX11_hardBy_31 : decode cX11_hardBy 31 = .ok (.iload_n 3, 1) := by decide +kernel
theorem dX11_hardBy_32 : decode cX11_hardBy 32 = .ok (.bipush 99, 2) := by decide +kernel
theorem dX11_hardBy_34 : decode cX11_hardBy 34 = .ok (.if_icmp .ge 7, 3) := by decide +kernel
theorem dX11_hardBy_37 : decode cX11_hardBy 37 = .ok (.iload_n 3, 1) := by decide +kernel
theorem dX11_hardBy_38 : decode cX11_hardBy 38 = .ok (.goto 5, 3) := by decide +kernel
theorem dX11_hardBy_41 : decode cX11_hardBy 41 = .ok (.bipush 99, 2) := by decide +kernel
theorem dX11_hardBy_43 : decode cX11_hardBy 43 = .ok (.ireturn, 1) := by decide +kernel
set_option maxRecDepth 20000 in
theorem ggX11_hard_X11_hardBy : GoodIn wsX11_hard wsX11_hardBy := goodIn_r _ [6, 7, 8, 9, 10, 11, 12, 13, 14, 15, 16, 17, 18, 19, 20, 21, 22, 23, 24, 25, 26, 27, 28, 29, 30, 31, 32, 33, 34, 35, 36, 37, 38, 39, 40, 41, 42, 43, 44, 45, 46, 47, 48] (by decide +kernel) (by decide +kernel)
set_option maxRecDepth 20000 in
theorem gX11_hard_X11_hardBy : GoodIn wsX11_hard (wsV RX11 171 RX11 yX11_hardBy wsX11_hardBy) := goodIn_app (goodIn_of _ (by decide +kernel)) ggX11_hard_X11_hardBy
theorem dX11_hard_0 : decode cX11_hard 0 = .ok (.aload_n 0, 1) := by decide +kernel
theorem dX11_hard_1 : decode cX11_hard 1 = .ok (.iload_n 1, 1) := by decide +kernel
theorem dX11_hard_2 : decode cX11_hard 2 = .ok (.aload_n 0, 1) := by decide +kernel
theorem dX11_hard_3 : decode cX11_hard 3 = .ok (.getfield 25, 3) := by decide +kernel
theorem dX11_hard_6 : decode cX11_hard 6 = .ok (.bipush 7, 2) := by decide +kernel
theorem dX11_hard_8 : decode cX11_hard 8 = .ok (.iload_n 1, 1) := by decide +kernel
theorem dX11_hard_9 : decode cX11_hard 9 = .ok (.iadd, 1) := by decide +kernel
theorem dX11_hard_10 : decode cX11_hard 10 = .ok (.iaload, 1) := by decide +kernel
theorem dX11_hard_11 : decode cX11_hard 11 = .ok (.invokevirtual 171, 3) := by decide +kernel
theorem dX11_hard_14 : decode cX11_hard 14 = .ok (.ireturn, 1) := by decide +kernel
set_option maxRecDepth 20000 in
theorem ggX11_reignBy_X11_hardBy : GoodIn wsX11_reignBy wsX11_hardBy := goodIn_r _ [6, 1, 7, 8, 9, 10, 11, 12, 13, 14, 15, 16, 17, 18, 19, 20, 21, 22, 23, 24, 25, 26, 27, 28, 29, 30, 31, 32, 33, 34, 35, 36, 37, 38, 39, 40, 41, 42, 43, 44, 45, 46, 47] (by decide +kernel) (by decide +kernel)
set_option maxRecDepth 20000 in
theorem gX11_reignBy_X11_hardBy : GoodIn wsX11_reignBy (wsV RX11 171 RX11 yX11_hardBy wsX11_hardBy) := goodIn_app (goodIn_of _ (by decide +kernel)) ggX11_reignBy_X11_hardBy
theorem dX11_reignBy_0 : decode cX11_reignBy 0 = .ok (.iconst 1, 1) := by decide +kernel
theorem dX11_reignBy_1 : decode cX11_reignBy 1 = .ok (.aload_n 0, 1) := by decide +kernel
theorem dX11_reignBy_2 : decode cX11_reignBy 2 = .ok (.iload_n 1, 1) := by decide +kernel
theorem dX11_reignBy_3 : decode cX11_reignBy 3 = .ok (.iload_n 2, 1) := by decide +kernel
theorem dX11_reignBy_4 : decode cX11_reignBy 4 = .ok (.invokevirtual 171, 3) := by decide +kernel
theorem dX11_reignBy_7 : decode cX11_reignBy 7 = .ok (.bipush 10, 2) := by decide +kernel
theorem dX11_reignBy_9 : decode cX11_reignBy 9 = .ok (.idiv, 1) := by decide +kernel
theorem dX11_reignBy_10 : decode cX11_reignBy 10 = .ok (.iadd, 1) := by decide +kernel
theorem dX11_reignBy_11 : decode cX11_reignBy 11 = .ok (.aload_n 0, 1) := by decide +kernel
theorem dX11_reignBy_12 : decode cX11_reignBy 12 = .ok (.getfield 13, 3) := by decide +kernel
theorem dX11_reignBy_15 : decode cX11_reignBy 15 = .ok (.iload_n 1, 1) := by decide +kernel
theorem dX11_reignBy_16 : decode cX11_reignBy 16 = .ok (.iaload, 1) := by decide +kernel
theorem dX11_reignBy_17 : decode cX11_reignBy 17 = .ok (.iadd, 1) := by decide +kernel
theorem dX11_reignBy_18 : decode cX11_reignBy 18 = .ok (.ireturn, 1) := by decide +kernel
set_option maxRecDepth 20000 in
theorem ggX11_reign_X11_reignBy : GoodIn wsX11_reign wsX11_reignBy := goodIn_r _ [6, 7, 8, 9, 10, 5, 11, 12, 13, 14, 15, 16, 17, 18, 19, 20, 21, 22, 23, 24, 25, 26, 27, 28, 29, 30, 31, 32, 33, 34, 35, 36, 37, 38, 39, 40, 41, 42, 43, 44, 45, 46, 47, 48, 49, 50, 51, 52] (by decide +kernel) (by decide +kernel)
set_option maxRecDepth 20000 in
theorem gX11_reign_X11_reignBy : GoodIn wsX11_reign (wsV RX11 174 RX11 yX11_reignBy wsX11_reignBy) := goodIn_app (goodIn_of _ (by decide +kernel)) ggX11_reign_X11_reignBy
