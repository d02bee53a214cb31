theorem dX0_init_0 : decode cX0_init 0 = .ok (.aload_n 0, 1) := by decide +kernel
theorem dX0_init_1 : decode cX0_init 1 = .ok (.invokespecial 3, 3) := by decide +kernel
theorem dX0_init_4 : decode cX0_init 4 = .ok (.aload_n 0, 1) := by decide +kernel
theorem dX0_init_5 : decode cX0_init 5 = .ok (.bipush 7, 2) := by decide +kernel
theorem dX0_init_7 : decode cX0_init 7 = .ok (.newarray .int, 2) := by decide +kernel
theorem dX0_init_9 : decode cX0_init 9 = .ok (.putfield 9, 3) := by decide +kernel
theorem dX0_init_12 : decode cX0_init 12 = .ok (.aload_n 0, 1) := by decide +kernel
theorem dX0_init_13 : decode cX0_init 13 = .ok (.iconst 3, 1) := by decide +kernel
theorem dX0_init_14 : decode cX0_init 14 = .ok (.newarray .int, 2) := by decide +kernel
theorem dX0_init_16 : decode cX0_init 16 = .ok (.putfield 15, 3) := by decide +kernel
theorem dX0_init_19 : decode cX0_init 19 = .ok (.aload_n 0, 1) := by decide +kernel
theorem dX0_init_20 : decode cX0_init 20 = .ok (.bipush 7, 2) := by decide +kernel
theorem dX0_init_22 : decode cX0_init 22 = .ok (.newarray .int, 2) := by decide +kernel
theorem dX0_init_24 : decode cX0_init 24 = .ok (.putfield 18, 3) := by decide +kernel
theorem dX0_init_27 : decode cX0_init 27 = .ok (.aload_n 0, 1) := by decide +kernel
theorem dX0_init_28 : decode cX0_init 28 = .ok (.bipush 7, 2) := by decide +kernel
theorem dX0_init_30 : decode cX0_init 30 = .ok (.newarray .int, 2) := by decide +kernel
theorem dX0_init_32 : decode cX0_init 32 = .ok (.putfield 21, 3) := by decide +kernel
theorem dX0_init_35 : decode cX0_init 35 = .ok (.aload_n 0, 1) := by decide +kernel
theorem dX0_init_36 : decode cX0_init 36 = .ok (.iconst 0, 1) := by decide +kernel
theorem dX0_init_37 : decode cX0_init 37 = .ok (.putfield 24, 3) := by decide +kernel
theorem dX0_init_40 : decode cX0_init 40 = .ok (.aload_n 0, 1) := by decide +kernel
theorem dX0_init_41 : decode cX0_init 41 = .ok (.iconst 0, 1) := by decide +kernel
theorem dX0_init_42 : decode cX0_init 42 = .ok (.putfield 28, 3) := by decide +kernel
theorem dX0_init_45 : decode cX0_init 45 = .ok (.return_, 1) := by decide +kernel
theorem dX0_fewest_0 : decode cX0_fewest 0 = .ok (.aload_n 0, 1) := by decide +kernel
theorem dX0_fewest_1 : decode cX0_fewest 1 = .ok (.getfield 28, 3) := by decide +kernel
theorem dX0_fewest_4 : decode cX0_fewest 4 = .ok (.ireturn, 1) := by decide +kernel
theorem dX0_placeOf_0 : decode cX0_placeOf 0 = .ok (.iload_n 1, 1) := by decide +kernel
theorem dX0_placeOf_1 : decode cX0_placeOf 1 = .ok (.ifCond .lt 18, 3) := by decide +kernel
theorem dX0_placeOf_4 : decode cX0_placeOf 4 = .ok (.iload_n 1, 1) := by decide +kernel
theorem dX0_placeOf_5 : decode cX0_placeOf 5 = .ok (.bipush 7, 2) := by decide +kernel
theorem dX0_placeOf_7 : decode cX0_placeOf 7 = .ok (.if_icmp .ge 12, 3) := by decide +kernel
theorem dX0_placeOf_10 : decode cX0_placeOf 10 = .ok (.aload_n 0, 1) := by decide +kernel
theorem dX0_placeOf_11 : decode cX0_placeOf 11 = .ok (.getfield 21, 3) := by decide +kernel
theorem dX0_placeOf_14 : decode cX0_placeOf 14 = .ok (.iload_n 1, 1) := by decide +kernel
theorem dX0_placeOf_15 : decode cX0_placeOf 15 = .ok (.iaload, 1) := by decide +kernel
theorem dX0_placeOf_16 : decode cX0_placeOf 16 = .ok (.goto 4, 3) := by decide +kernel
theorem dX0_placeOf_19 : decode cX0_placeOf 19 = .ok (.iconst (-1), 1) := by decide +kernel
theorem dX0_placeOf_20 : decode cX0_placeOf 20 = .ok (.ireturn, 1) := by decide +kernel
set_option maxRecDepth 20000 in
theorem ggX0_tryAll_X8_wishOf : GoodIn wsX0_tryAll wsX8_wishOf := goodIn_r _ [15, 16, 17, 18, 19, 14, 20, 21, 38, 39, 40, 41, 42, 43, 44, 45, 46, 47] (by decide +kernel) (by decide +kernel)
set_option maxRecDepth 20000 in
theorem gX0_tryAll_X8_wishOf : GoodIn wsX0_tryAll (wsV RX0 41 RX8 yX8_wishOf wsX8_wishOf) := goodIn_app (goodIn_of _ (by decide +kernel)) ggX0_tryAll_X8_wishOf
set_option maxRecDepth 20000 in
theorem ggX0_tryAll_X0_tryFrom : GoodIn wsX0_tryAll wsX0_tryFrom := goodIn_r _ [25, 8, 5, 10, 7, 9, 26, 27, 28, 24, 29, 30, 31, 3, 32, 33, 34, 35, 36, 37, 22, 23, 48, 49, 50, 51, 52, 53] (by decide +kernel) (by decide +kernel)
set_option maxRecDepth 20000 in
theorem gX0_tryAll_X0_tryFrom : GoodIn wsX0_tryAll (va_wsS RX0 45 yX0_tryFrom wsX0_tryFrom) := goodIn_app (goodIn_of _ (by decide +kernel)) ggX0_tryAll_X0_tryFrom
theorem dX0_tryAll_0 : decode cX0_tryAll 0 = .ok (.aload_n 0, 1) := by decide +kernel
theorem dX0_tryAll_1 : decode cX0_tryAll 1 = .ok (.aload_n 1, 1) := by decide +kernel
theorem dX0_tryAll_2 : decode cX0_tryAll 2 = .ok (.getfield 31, 3) := by decide +kernel
theorem dX0_tryAll_5 : decode cX0_tryAll 5 = .ok (.iconst 3, 1) := by decide +kernel
theorem dX0_tryAll_6 : decode cX0_tryAll 6 = .ok (.invokestatic 34, 3) := by decide +kernel
theorem dX0_tryAll_9 : decode cX0_tryAll 9 = .ok (.putfield 24, 3) := by decide +kernel
theorem dX0_tryAll_12 : decode cX0_tryAll 12 = .ok (.aload_n 0, 1) := by decide +kernel
theorem dX0_tryAll_13 : decode cX0_tryAll 13 = .ok (.ldc 40, 2) := by decide +kernel
theorem dX0_tryAll_15 : decode cX0_tryAll 15 = .ok (.putfield 28, 3) := by decide +kernel
theorem dX0_tryAll_18 : decode cX0_tryAll 18 = .ok (.iconst 0, 1) := by decide +kernel
theorem dX0_tryAll_19 : decode cX0_tryAll 19 = .ok (.istore_n 3, 1) := by decide +kernel
theorem dX0_tryAll_20 : decode cX0_tryAll 20 = .ok (.iload_n 3, 1) := by decide +kernel
theorem dX0_tryAll_21 : decode cX0_tryAll 21 = .ok (.bipush 7, 2) := by decide +kernel
theorem dX0_tryAll_23 : decode cX0_tryAll 23 = .ok (.if_icmp .ge 40, 3) := by decide +kernel
theorem dX0_tryAll_26 : decode cX0_tryAll 26 = .ok (.aload_n 0, 1) := by decide +kernel
theorem dX0_tryAll_27 : decode cX0_tryAll 27 = .ok (.getfield 9, 3) := by decide +kernel
theorem dX0_tryAll_30 : decode cX0_tryAll 30 = .ok (.iload_n 3, 1) := by decide +kernel
theorem dX0_tryAll_31 : decode cX0_tryAll 31 = .ok (.iload_n 2, 1) := by decide +kernel
theorem dX0_tryAll_32 : decode cX0_tryAll 32 = .ok (.iload_n 3, 1) := by decide +kernel
theorem dX0_tryAll_33 : decode cX0_tryAll 33 = .ok (.ishr, 1) := by decide +kernel
theorem dX0_tryAll_34 : decode cX0_tryAll 34 = .ok (.iconst 1, 1) := by decide +kernel
theorem dX0_tryAll_35 : decode cX0_tryAll 35 = .ok (.iand, 1) := by decide +kernel
theorem dX0_tryAll_36 : decode cX0_tryAll 36 = .ok (.iconst 1, 1) := by decide +kernel
theorem dX0_tryAll_37 : decode cX0_tryAll 37 = .ok (.if_icmp .ne 11, 3) := by decide +kernel
theorem dX0_tryAll_40 : decode cX0_tryAll 40 = .ok (.aload_n 1, 1) := by decide +kernel
theorem dX0_tryAll_41 : decode cX0_tryAll 41 = .ok (.iload_n 3, 1) := by decide +kernel
theorem dX0_tryAll_42 : decode cX0_tryAll 42 = .ok (.invokevirtual 41, 3) := by decide +kernel
theorem dX0_tryAll_45 : decode cX0_tryAll 45 = .ok (.goto 4, 3) := by decide +kernel
theorem dX0_tryAll_48 : decode cX0_tryAll 48 = .ok (.iconst 0, 1) := by decide +kernel
theorem dX0_tryAll_49 : decode cX0_tryAll 49 = .ok (.iastore, 1) := by decide +kernel
theorem dX0_tryAll_50 : decode cX0_tryAll 50 = .ok (.aload_n 0, 1) := by decide +kernel
theorem dX0_tryAll_51 : decode cX0_tryAll 51 = .ok (.getfield 18, 3) := by decide +kernel
theorem dX0_tryAll_54 : decode cX0_tryAll 54 = .ok (.iload_n 3, 1) := by decide +kernel
theorem dX0_tryAll_55 : decode cX0_tryAll 55 = .ok (.iconst (-1), 1) := by decide +kernel
theorem dX0_tryAll_56 : decode cX0_tryAll 56 = .ok (.iastore, 1) := by decide +kernel
theorem dX0_tryAll_57 : decode cX0_tryAll 57 = .ok (.iinc 3 1, 3) := by decide +kernel
theorem dX0_tryAll_60 : decode cX0_tryAll 60 = .ok (.goto (-40), 3) := by decide +kernel
theorem dX0_tryAll_63 : decode cX0_tryAll 63 = .ok (.iconst 0, 1) := by decide +kernel
theorem dX0_tryAll_64 : decode cX0_tryAll 64 = .ok (.istore_n 3, 1) := by decide +kernel
theorem dX0_tryAll_65 : decode cX0_tryAll 65 = .ok (.iload_n 3, 1) := by decide +kernel
theorem dX0_tryAll_66 : decode cX0_tryAll 66 = .ok (.iconst 3, 1) := by decide +kernel
theorem dX0_tryAll_67 : decode cX0_tryAll 67 = .ok (.if_icmp .ge 16, 3) := by decide +kernel
theorem dX0_tryAll_70 : decode cX0_tryAll 70 = .ok (.aload_n 0, 1) := by decide +kernel
theorem dX0_tryAll_71 : decode cX0_tryAll 71 = .ok (.getfield 15, 3) := by decide +kernel
theorem dX0_tryAll_74 : decode cX0_tryAll 74 = .ok (.iload_n 3, 1) := by decide +kernel
theorem dX0_tryAll_75 : decode cX0_tryAll 75 = .ok (.iconst 0, 1) := by decide +kernel
theorem dX0_tryAll_76 : decode cX0_tryAll 76 = .ok (.iastore, 1) := by decide +kernel
theorem dX0_tryAll_77 : decode cX0_tryAll 77 = .ok (.iinc 3 1, 3) := by decide +kernel
theorem dX0_tryAll_80 : decode cX0_tryAll 80 = .ok (.goto (-15), 3) := by decide +kernel
theorem dX0_tryAll_83 : decode cX0_tryAll 83 = .ok (.aload_n 0, 1) := by decide +kernel
theorem dX0_tryAll_84 : decode cX0_tryAll 84 = .ok (.iconst 0, 1) := by decide +kernel
theorem dX0_tryAll_85 : decode cX0_tryAll 85 = .ok (.invokestatic 45, 3) := by decide +kernel
theorem dX0_tryAll_88 : decode cX0_tryAll 88 = .ok (.return_, 1) := by decide +kernel
set_option maxRecDepth 20000 in
theorem ggX0_tryFrom_X0_takeOver : GoodIn wsX0_tryFrom wsX0_takeOver := goodIn_r _ [10, 3, 11, 12, 13, 14, 4, 5, 15, 16, 17, 18, 19, 22, 23, 24, 25, 26, 27] (by decide +kernel) (by decide +kernel)
set_option maxRecDepth 20000 in
theorem gX0_tryFrom_X0_takeOver : GoodIn wsX0_tryFrom (wsV RX0 49 RX0 yX0_takeOver wsX0_takeOver) := goodIn_app (goodIn_of _ (by decide +kernel)) ggX0_tryFrom_X0_takeOver
set_option maxRecDepth 20000 in
theorem ggX0_tryFrom_X0_tryFrom : GoodIn wsX0_tryFrom wsX0_tryFrom := goodIn_r _ [0, 1, 2, 3, 4, 5, 6, 7, 8, 9, 10, 11, 12, 13, 14, 15, 16, 17, 18, 19, 20, 21, 22, 23, 24, 25, 26, 27] (by decide +kernel) (by decide +kernel)
set_option maxRecDepth 20000 in
theorem gX0_tryFrom_X0_tryFrom : GoodIn wsX0_tryFrom (va_wsS RX0 45 yX0_tryFrom wsX0_tryFrom) := goodIn_app (goodIn_of _ (by decide +kernel)) ggX0_tryFrom_X0_tryFrom
theorem dX0_tryFrom_0 : decode cX0_tryFrom 0 = .ok (.iload_n 1, 1) := by decide +kernel
theorem dX0_tryFrom_1 : decode cX0_tryFrom 1 = .ok (.ifCond .lt 9, 3) := by decide +kernel
theorem dX0_tryFrom_4 : decode cX0_tryFrom 4 = .ok (.iload_n 1, 1) := by decide +kernel
theorem dX0_tryFrom_5 : decode cX0_tryFrom 5 = .ok (.bipush 7, 2) := by decide +kernel
theorem dX0_tryFrom_7 : decode cX0_tryFrom 7 = .ok (.if_icmp .lt 8, 3) := by decide +kernel
theorem dX0_tryFrom_10 : decode cX0_tryFrom 10 = .ok (.aload_n 0, 1) := by decide +kernel
theorem dX0_tryFrom_11 : decode cX0_tryFrom 11 = .ok (.invokevirtual 49, 3) := by decide +kernel
theorem dX0_tryFrom_14 : decode cX0_tryFrom 14 = .ok (.return_, 1) := by decide +kernel
theorem dX0_tryFrom_15 : decode cX0_tryFrom 15 = .ok (.aload_n 0, 1) := by decide +kernel
theorem dX0_tryFrom_16 : decode cX0_tryFrom 16 = .ok (.getfield 9, 3) := by decide +kernel
theorem dX0_tryFrom_19 : decode cX0_tryFrom 19 = .ok (.iload_n 1, 1) := by decide +kernel
theorem dX0_tryFrom_20 : decode cX0_tryFrom 20 = .ok (.iaload, 1) := by decide +kernel
theorem dX0_tryFrom_21 : decode cX0_tryFrom 21 = .ok (.ifCond .ne 11, 3) := by decide +kernel
theorem dX0_tryFrom_24 : decode cX0_tryFrom 24 = .ok (.aload_n 0, 1) := by decide +kernel
theorem dX0_tryFrom_25 : decode cX0_tryFrom 25 = .ok (.iload_n 1, 1) := by decide +kernel
theorem dX0_tryFrom_26 : decode cX0_tryFrom 26 = .ok (.iconst 1, 1) := by decide +kernel
theorem dX0_tryFrom_27 : decode cX0_tryFrom 27 = .ok (.iadd, 1) := by decide +kernel
theorem dX0_tryFrom_28 : decode cX0_tryFrom 28 = .ok (.invokestatic 45, 3) := by decide +kernel
theorem dX0_tryFrom_31 : decode cX0_tryFrom 31 = .ok (.return_, 1) := by decide +kernel
theorem dX0_tryFrom_32 : decode cX0_tryFrom 32 = .ok (.iconst 0, 1) := by decide +kernel
theorem dX0_tryFrom_33 : decode cX0_tryFrom 33 = .ok (.istore_n 2, 1) := by decide +kernel
theorem dX0_tryFrom_34 : decode cX0_tryFrom 34 = .ok (.iload_n 2, 1) := by decide +kernel
theorem dX0_tryFrom_35 : decode cX0_tryFrom 35 = .ok (.aload_n 0, 1) := by decide +kernel
theorem dX0_tryFrom_36 : decode cX0_tryFrom 36 = .ok (.getfield 24, 3) := by decide +kernel
theorem dX0_tryFrom_39 : decode cX0_tryFrom 39 = .ok (.if_icmp .ge 71, 3) := by decide +kernel
theorem dX0_tryFrom_42 : decode cX0_tryFrom 42 = .ok (.iload_n 2, 1) := by decide +kernel
theorem dX0_tryFrom_43 : decode cX0_tryFrom 43 = .ok (.iconst 3, 1) := by decide +kernel
theorem dX0_tryFrom_44 : decode cX0_tryFrom 44 = .ok (.if_icmp .ge 66, 3) := by decide +kernel
theorem dX0_tryFrom_47 : decode cX0_tryFrom 47 = .ok (.aload_n 0, 1) := by decide +kernel
theorem dX0_tryFrom_48 : decode cX0_tryFrom 48 = .ok (.getfield 15, 3) := by decide +kernel
theorem dX0_tryFrom_51 : decode cX0_tryFrom 51 = .ok (.iload_n 2, 1) := by decide +kernel
theorem dX0_tryFrom_52 : decode cX0_tryFrom 52 = .ok (.iaload, 1) := by decide +kernel
theorem dX0_tryFrom_53 : decode cX0_tryFrom 53 = .ok (.istore_n 3, 1) := by decide +kernel
theorem dX0_tryFrom_54 : decode cX0_tryFrom 54 = .ok (.iload_n 3, 1) := by decide +kernel
theorem dX0_tryFrom_55 : decode cX0_tryFrom 55 = .ok (.aload_n 0, 1) := by decide +kernel
theorem dX0_tryFrom_56 : decode cX0_tryFrom 56 = .ok (.getfield 9, 3) := by decide +kernel
theorem dX0_tryFrom_59 : decode cX0_tryFrom 59 = .ok (.iload_n 1, 1) := by decide +kernel
theorem dX0_tryFrom_60 : decode cX0_tryFrom 60 = .ok (.iaload, 1) := by decide +kernel
theorem dX0_tryFrom_61 : decode cX0_tryFrom 61 = .ok (.iadd, 1) := by decide +kernel
theorem dX0_tryFrom_62 : decode cX0_tryFrom 62 = .ok (.aload_n 0, 1) := by decide +kernel
theorem dX0_tryFrom_63 : decode cX0_tryFrom 63 = .ok (.getfield 28, 3) := by decide +kernel
theorem dX0_tryFrom_66 : decode cX0_tryFrom 66 = .ok (.if_icmp .ge 38, 3) := by decide +kernel
theorem dX0_tryFrom_69 : decode cX0_tryFrom 69 = .ok (.aload_n 0, 1) := by decide +kernel
theorem dX0_tryFrom_70 : decode cX0_tryFrom 70 = .ok (.getfield 15, 3) := by decide +kernel
theorem dX0_tryFrom_73 : decode cX0_tryFrom 73 = .ok (.iload_n 2, 1) := by decide +kernel
theorem dX0_tryFrom_74 : decode cX0_tryFrom 74 = .ok (.iload_n 3, 1) := by decide +kernel
theorem dX0_tryFrom_75 : decode cX0_tryFrom 75 = .ok (.aload_n 0, 1) := by decide +kernel
theorem dX0_tryFrom_76 : decode cX0_tryFrom 76 = .ok (.getfield 9, 3) := by decide +kernel
theorem dX0_tryFrom_79 : decode cX0_tryFrom 79 = .ok (.iload_n 1, 1) := by decide +kernel
theorem dX0_tryFrom_80 : decode cX0_tryFrom 80 = .ok (.iaload, 1) := by decide +kernel
theorem dX0_tryFrom_81 : decode cX0_tryFrom 81 = .ok (.iadd, 1) := by decide +kernel
theorem dX0_tryFrom_82 : decode cX0_tryFrom 82 = .ok (.iastore, 1) := by decide +kernel
theorem dX0_tryFrom_83 : decode cX0_tryFrom 83 = .ok (.aload_n 0, 1) := by decide +kernel
theorem dX0_tryFrom_84 : decode cX0_tryFrom 84 = .ok (.getfield 18, 3) := by decide +kernel
theorem dX0_tryFrom_87 : decode cX0_tryFrom 87 = .ok (.iload_n 1, 1) := by decide +kernel
theorem dX0_tryFrom_88 : decode cX0_tryFrom 88 = .ok (.iload_n 2, 1) := by decide +kernel
theorem dX0_tryFrom_89 : decode cX0_tryFrom 89 = .ok (.iastore, 1) := by decide +kernel
theorem dX0_tryFrom_90 : decode cX0_tryFrom 90 = .ok (.aload_n 0, 1) := by decide +kernel
theorem dX0_tryFrom_91 : decode cX0_tryFrom 91 = .ok (.iload_n 1, 1) := by decide +kernel
theorem dX0_tryFrom_92 : decode cX0_tryFrom 92 = .ok (.iconst 1, 1) := by decide +kernel
theorem dX0_tryFrom_93 : decode cX0_tryFrom 93 = .ok (.iadd, 1) := by decide +kernel
theorem dX0_tryFrom_94 : decode cX0_tryFrom 94 = .ok (.invokestatic 45, 3) := by decide +kernel
theorem dX0_tryFrom_97 : decode cX0_tryFrom 97 = .ok (.aload_n 0, 1) := by decide +kernel
theorem dX0_tryFrom_98 : decode cX0_tryFrom 98 = .ok (.getfield 15, 3) := by decide +kernel
theorem dX0_tryFrom_101 : decode cX0_tryFrom 101 = .ok (.iload_n 2, 1) := by decide +kernel
theorem dX0_tryFrom_102 : decode cX0_tryFrom 102 = .ok (.iload_n 3, 1) := by decide +kernel
theorem dX0_tryFrom_103 : decode cX0_tryFrom 103 = .ok (.iastore, 1) := by decide +kernel
theorem dX0_tryFrom_104 : decode cX0_tryFrom 104 = .ok (.iinc 2 1, 3) := by decide +kernel
theorem dX0_tryFrom_107 : decode cX0_tryFrom 107 = .ok (.goto (-73), 3) := by decide +kernel
theorem dX0_tryFrom_110 : decode cX0_tryFrom 110 = .ok (.return_, 1) := by decide +kernel
theorem dX0_takeOver_0 : decode cX0_takeOver 0 = .ok (.iconst 0, 1) := by decide +kernel
theorem dX0_takeOver_1 : decode cX0_takeOver 1 = .ok (.istore_n 1, 1) := by decide +kernel
theorem dX0_takeOver_2 : decode cX0_takeOver 2 = .ok (.iconst 0, 1) := by decide +kernel
theorem dX0_takeOver_3 : decode cX0_takeOver 3 = .ok (.istore_n 2, 1) := by decide +kernel
theorem dX0_takeOver_4 : decode cX0_takeOver 4 = .ok (.iload_n 2, 1) := by decide +kernel
theorem dX0_takeOver_5 : decode cX0_takeOver 5 = .ok (.iconst 3, 1) := by decide +kernel
theorem dX0_takeOver_6 : decode cX0_takeOver 6 = .ok (.if_icmp .ge 20, 3) := by decide +kernel
theorem dX0_takeOver_9 : decode cX0_takeOver 9 = .ok (.iload_n 1, 1) := by decide +kernel
theorem dX0_takeOver_10 : decode cX0_takeOver 10 = .ok (.aload_n 0, 1) := by decide +kernel
theorem dX0_takeOver_11 : decode cX0_takeOver 11 = .ok (.getfield 15, 3) := by decide +kernel
theorem dX0_takeOver_14 : decode cX0_takeOver 14 = .ok (.iload_n 2, 1) := by decide +kernel
theorem dX0_takeOver_15 : decode cX0_takeOver 15 = .ok (.iaload, 1) := by decide +kernel
theorem dX0_takeOver_16 : decode cX0_takeOver 16 = .ok (.invokestatic 52, 3) := by decide +kernel
theorem dX0_takeOver_19 : decode cX0_takeOver 19 = .ok (.istore_n 1, 1) := by decide +kernel
theorem dX0_takeOver_20 : decode cX0_takeOver 20 = .ok (.iinc 2 1, 3) := by decide +kernel
theorem dX0_takeOver_23 : decode cX0_takeOver 23 = .ok (.goto (-19), 3) := by decide +kernel
theorem dX0_takeOver_26 : decode cX0_takeOver 26 = .ok (.iload_n 1, 1) := by decide +kernel
theorem dX0_takeOver_27 : decode cX0_takeOver 27 = .ok (.aload_n 0, 1) := by decide +kernel
theorem dX0_takeOver_28 : decode cX0_takeOver 28 = .ok (.getfield 28, 3) := by decide +kernel
theorem dX0_takeOver_31 : decode cX0_takeOver 31 = .ok (.if_icmp .ge 23, 3) := by decide +kernel
theorem dX0_takeOver_34 : decode cX0_takeOver 34 = .ok (.aload_n 0, 1) := by decide +kernel
theorem dX0_takeOver_35 : decode cX0_takeOver 35 = .ok (.iload_n 1, 1) := by decide +kernel
theorem dX0_takeOver_36 : decode cX0_takeOver 36 = .ok (.putfield 28, 3) := by decide +kernel
theorem dX0_takeOver_39 : decode cX0_takeOver 39 = .ok (.aload_n 0, 1) := by decide +kernel
theorem dX0_takeOver_40 : decode cX0_takeOver 40 = .ok (.getfield 18, 3) := by decide +kernel
theorem dX0_takeOver_43 : decode cX0_takeOver 43 = .ok (.iconst 0, 1) := by decide +kernel
theorem dX0_takeOver_44 : decode cX0_takeOver 44 = .ok (.aload_n 0, 1) := by decide +kernel
theorem dX0_takeOver_45 : decode cX0_takeOver 45 = .ok (.getfield 21, 3) := by decide +kernel
theorem dX0_takeOver_48 : decode cX0_takeOver 48 = .ok (.iconst 0, 1) := by decide +kernel
theorem dX0_takeOver_49 : decode cX0_takeOver 49 = .ok (.bipush 7, 2) := by decide +kernel
theorem dX0_takeOver_51 : decode cX0_takeOver 51 = .ok (.invokestatic 55, 3) := by decide +kernel
theorem dX0_takeOver_54 : decode cX0_takeOver 54 = .ok (.return_, 1) := by decide +kernel
theorem dX1_init_0 : decode cX1_init 0 = .ok (.aload_n 0, 1) := by decide +kernel
theorem dX1_init_1 : decode cX1_init 1 = .ok (.invokespecial 3, 3) := by decide +kernel
theorem dX1_init_4 : decode cX1_init 4 = .ok (.aload_n 0, 1) := by decide +kernel
theorem dX1_init_5 : decode cX1_init 5 = .ok (.bipush 15, 2) := by decide +kernel
theorem dX1_init_7 : decode cX1_init 7 = .ok (.newarray .int, 2) := by decide +kernel
theorem dX1_init_9 : decode cX1_init 9 = .ok (.putfield 9, 3) := by decide +kernel
theorem dX1_init_12 : decode cX1_init 12 = .ok (.aload_n 0, 1) := by decide +kernel
theorem dX1_init_13 : decode cX1_init 13 = .ok (.bipush 15, 2) := by decide +kernel
theorem dX1_init_15 : decode cX1_init 15 = .ok (.newarray .int, 2) := by decide +kernel
theorem dX1_init_17 : decode cX1_init 17 = .ok (.putfield 15, 3) := by decide +kernel
theorem dX1_init_20 : decode cX1_init 20 = .ok (.aload_n 0, 1) := by decide +kernel
theorem dX1_init_21 : decode cX1_init 21 = .ok (.iconst 0, 1) := by decide +kernel
theorem dX1_init_22 : decode cX1_init 22 = .ok (.putfield 18, 3) := by decide +kernel
theorem dX1_init_25 : decode cX1_init 25 = .ok (.return_, 1) := by decide +kernel
theorem dX1_forget_0 : decode cX1_forget 0 = .ok (.aload_n 0, 1) := by decide +kernel
theorem dX1_forget_1 : decode cX1_forget 1 = .ok (.iconst 0, 1) := by decide +kernel
theorem dX1_forget_2 : decode cX1_forget 2 = .ok (.putfield 18, 3) := by decide +kernel
theorem dX1_forget_5 : decode cX1_forget 5 = .ok (.return_, 1) := by decide +kernel
theorem dX1_add_0 : decode cX1_add 0 = .ok (.aload_n 0, 1) := by decide +kernel
theorem dX1_add_1 : decode cX1_add 1 = .ok (.getfield 18, 3) := by decide +kernel
theorem dX1_add_4 : decode cX1_add 4 = .ok (.ifCond .lt 12, 3) := by decide +kernel
theorem dX1_add_7 : decode cX1_add 7 = .ok (.aload_n 0, 1) := by decide +kernel
theorem dX1_add_8 : decode cX1_add 8 = .ok (.getfield 18, 3) := by decide +kernel
theorem dX1_add_11 : decode cX1_add 11 = .ok (.bipush 15, 2) := by decide +kernel
theorem dX1_add_13 : decode cX1_add 13 = .ok (.if_icmp .lt 5, 3) := by decide +kernel
theorem dX1_add_16 : decode cX1_add 16 = .ok (.iconst 0, 1) := by decide +kernel
theorem dX1_add_17 : decode cX1_add 17 = .ok (.ireturn, 1) := by decide +kernel
theorem dX1_add_18 : decode cX1_add 18 = .ok (.aload_n 0, 1) := by decide +kernel
theorem dX1_add_19 : decode cX1_add 19 = .ok (.getfield 9, 3) := by decide +kernel
theorem dX1_add_22 : decode cX1_add 22 = .ok (.aload_n 0, 1) := by decide +kernel
theorem dX1_add_23 : decode cX1_add 23 = .ok (.getfield 18, 3) := by decide +kernel
theorem dX1_add_26 : decode cX1_add 26 = .ok (.iload_n 1, 1) := by decide +kernel
theorem dX1_add_27 : decode cX1_add 27 = .ok (.iastore, 1) := by decide +kernel
theorem dX1_add_28 : decode cX1_add 28 = .ok (.aload_n 0, 1) := by decide +kernel
theorem dX1_add_29 : decode cX1_add 29 = .ok (.getfield 15, 3) := by decide +kernel
theorem dX1_add_32 : decode cX1_add 32 = .ok (.aload_n 0, 1) := by decide +kernel
theorem dX1_add_33 : decode cX1_add 33 = .ok (.getfield 18, 3) := by decide +kernel
theorem dX1_add_36 : decode cX1_add 36 = .ok (.iload_n 2, 1) := by decide +kernel
theorem dX1_add_37 : decode cX1_add 37 = .ok (.iastore, 1) := by decide +kernel
theorem dX1_add_38 : decode cX1_add 38 = .ok (.aload_n 0, 1) := by decide +kernel
theorem dX1_add_39 : decode cX1_add 39 = .ok (.dup, 1) := by decide +kernel
theorem dX1_add_40 : decode cX1_add 40 = .ok (.getfield 18, 3) := by decide +kernel
theorem dX1_add_43 : decode cX1_add 43 = .ok (.iconst 1, 1) := by decide +kernel
theorem dX1_add_44 : decode cX1_add 44 = .ok (.iadd, 1) := by decide +kernel
theorem dX1_add_45 : decode cX1_add 45 = .ok (.putfield 18, 3) := by decide +kernel
theorem dX1_add_48 : decode cX1_add 48 = .ok (.iconst 1, 1) := by decide +kernel
theorem dX1_add_49 : decode cX1_add 49 = .ok (.ireturn, 1) := by decide +kernel
set_option maxRecDepth 20000 in
theorem ggX1_firstWrong_X4_stateOf : GoodIn wsX1_firstWrong wsX4_stateOf := goodIn_r _ [8, 9, 10, 11, 12, 13, 14, 15, 16, 20, 21, 22, 23, 24, 25, 26, 27, 28, 29, 30, 31, 32, 33, 34, 35, 36, 37, 38] (by decide +kernel) (by decide +kernel)
set_option maxRecDepth 20000 in
theorem gX1_firstWrong_X4_stateOf : GoodIn wsX1_firstWrong (wsV RX1 22 RX4 yX4_stateOf wsX4_stateOf) := goodIn_app (goodIn_of _ (by decide +kernel)) ggX1_firstWrong_X4_stateOf
theorem dX1_firstWrong_0 : decode cX1_firstWrong 0 = .ok (.iconst 0, 1) := by decide +kernel
theorem dX1_firstWrong_1 : decode cX1_firstWrong 1 = .ok (.istore_n 2, 1) := by decide +kernel
theorem dX1_firstWrong_2 : decode cX1_firstWrong 2 = .ok (.iload_n 2, 1) := by decide +kernel
theorem dX1_firstWrong_3 : decode cX1_firstWrong 3 = .ok (.aload_n 0, 1) := by decide +kernel
theorem dX1_firstWrong_4 : decode cX1_firstWrong 4 = .ok (.getfield 18, 3) := by decide +kernel
theorem dX1_firstWrong_7 : decode cX1_firstWrong 7 = .ok (.if_icmp .ge 36, 3) := by decide +kernel
theorem dX1_firstWrong_10 : decode cX1_firstWrong 10 = .ok (.iload_n 2, 1) := by decide +kernel
theorem dX1_firstWrong_11 : decode cX1_firstWrong 11 = .ok (.bipush 15, 2) := by decide +kernel
theorem dX1_firstWrong_13 : decode cX1_firstWrong 13 = .ok (.if_icmp .ge 30, 3) := by decide +kernel
theorem dX1_firstWrong_16 : decode cX1_firstWrong 16 = .ok (.aload_n 1, 1) := by decide +kernel
theorem dX1_firstWrong_17 : decode cX1_firstWrong 17 = .ok (.aload_n 0, 1) := by decide +kernel
theorem dX1_firstWrong_18 : decode cX1_firstWrong 18 = .ok (.getfield 9, 3) := by decide +kernel
theorem dX1_firstWrong_21 : decode cX1_firstWrong 21 = .ok (.iload_n 2, 1) := by decide +kernel
theorem dX1_firstWrong_22 : decode cX1_firstWrong 22 = .ok (.iaload, 1) := by decide +kernel
theorem dX1_firstWrong_23 : decode cX1_firstWrong 23 = .ok (.invokevirtual 22, 3) := by decide +kernel
theorem dX1_firstWrong_26 : decode cX1_firstWrong 26 = .ok (.aload_n 0, 1) := by decide +kernel
theorem dX1_firstWrong_27 : decode cX1_firstWrong 27 = .ok (.getfield 15, 3) := by decide +kernel
theorem dX1_firstWrong_30 : decode cX1_firstWrong 30 = .ok (.iload_n 2, 1) := by decide +kernel
theorem dX1_firstWrong_31 : decode cX1_firstWrong 31 = .ok (.iaload, 1) := by decide +kernel
theorem dX1_firstWrong_32 : decode cX1_firstWrong 32 = .ok (.if_icmp .eq 5, 3) := by decide +kernel
theorem dX1_firstWrong_35 : decode cX1_firstWrong 35 = .ok (.iload_n 2, 1) := by decide +kernel
theorem dX1_firstWrong_36 : decode cX1_firstWrong 36 = .ok (.ireturn, 1) := by decide +kernel
theorem dX1_firstWrong_37 : decode cX1_firstWrong 37 = .ok (.iinc 2 1, 3) := by decide +kernel
theorem dX1_firstWrong_40 : decode cX1_firstWrong 40 = .ok (.goto (-38), 3) := by decide +kernel
theorem dX1_firstWrong_43 : decode cX1_firstWrong 43 = .ok (.iconst (-1), 1) := by decide +kernel
theorem dX1_firstWrong_44 : decode cX1_firstWrong 44 = .ok (.ireturn, 1) := by decide +kernel
theorem dX2_init_0 : decode cX2_init 0 = .ok (.aload_n 0, 1) := by decide +kernel
theorem dX2_init_1 : decode cX2_init 1 = .ok (.invokespecial 3, 3) := by decide +kernel
theorem dX2_init_4 : decode cX2_init 4 = .ok (.aload_n 0, 1) := by decide +kernel
theorem dX2_init_5 : decode cX2_init 5 = .ok (.bipush 6, 2) := by decide +kernel
theorem dX2_init_7 : decode cX2_init 7 = .ok (.newarray .int, 2) := by decide +kernel
theorem dX2_init_9 : decode cX2_init 9 = .ok (.putfield 9, 3) := by decide +kernel
theorem dX2_init_12 : decode cX2_init 12 = .ok (.aload_n 0, 1) := by decide +kernel
theorem dX2_init_13 : decode cX2_init 13 = .ok (.bipush 6, 2) := by decide +kernel
theorem dX2_init_15 : decode cX2_init 15 = .ok (.newarray .int, 2) := by decide +kernel
theorem dX2_init_17 : decode cX2_init 17 = .ok (.putfield 15, 3) := by decide +kernel
theorem dX2_init_20 : decode cX2_init 20 = .ok (.aload_n 0, 1) := by decide +kernel
theorem dX2_init_21 : decode cX2_init 21 = .ok (.iconst 0, 1) := by decide +kernel
theorem dX2_init_22 : decode cX2_init 22 = .ok (.putfield 18, 3) := by decide +kernel
theorem dX2_init_25 : decode cX2_init 25 = .ok (.return_, 1) := by decide +kernel
theorem dX2_forget_0 : decode cX2_forget 0 = .ok (.aload_n 0, 1) := by decide +kernel
theorem dX2_forget_1 : decode cX2_forget 1 = .ok (.iconst 0, 1) := by decide +kernel
theorem dX2_forget_2 : decode cX2_forget 2 = .ok (.putfield 18, 3) := by decide +kernel
theorem dX2_forget_5 : decode cX2_forget 5 = .ok (.return_, 1) := by decide +kernel
theorem dX2_add_0 : decode cX2_add 0 = .ok (.aload_n 0, 1) := by decide +kernel
theorem dX2_add_1 : decode cX2_add 1 = .ok (.getfield 18, 3) := by decide +kernel
theorem dX2_add_4 : decode cX2_add 4 = .ok (.ifCond .lt 12, 3) := by decide +kernel
theorem dX2_add_7 : decode cX2_add 7 = .ok (.aload_n 0, 1) := by decide +kernel
theorem dX2_add_8 : decode cX2_add 8 = .ok (.getfield 18, 3) := by decide +kernel
theorem dX2_add_11 : decode cX2_add 11 = .ok (.bipush 6, 2) := by decide +kernel
theorem dX2_add_13 : decode cX2_add 13 = .ok (.if_icmp .lt 5, 3) := by decide +kernel
theorem dX2_add_16 : decode cX2_add 16 = .ok (.iconst 0, 1) := by decide +kernel
theorem dX2_add_17 : decode cX2_add 17 = .ok (.ireturn, 1) := by decide +kernel
theorem dX2_add_18 : decode cX2_add 18 = .ok (.aload_n 0, 1) := by decide +kernel
theorem dX2_add_19 : decode cX2_add 19 = .ok (.getfield 9, 3) := by decide +kernel
theorem dX2_add_22 : decode cX2_add 22 = .ok (.aload_n 0, 1) := by decide +kernel
theorem dX2_add_23 : decode cX2_add 23 = .ok (.getfield 18, 3) := by decide +kernel
theorem dX2_add_26 : decode cX2_add 26 = .ok (.iload_n 1, 1) := by decide +kernel
theorem dX2_add_27 : decode cX2_add 27 = .ok (.iastore, 1) := by decide +kernel
theorem dX2_add_28 : decode cX2_add 28 = .ok (.aload_n 0, 1) := by decide +kernel
theorem dX2_add_29 : decode cX2_add 29 = .ok (.getfield 15, 3) := by decide +kernel
theorem dX2_add_32 : decode cX2_add 32 = .ok (.aload_n 0, 1) := by decide +kernel
theorem dX2_add_33 : decode cX2_add 33 = .ok (.getfield 18, 3) := by decide +kernel
theorem dX2_add_36 : decode cX2_add 36 = .ok (.iload_n 2, 1) := by decide +kernel
theorem dX2_add_37 : decode cX2_add 37 = .ok (.iastore, 1) := by decide +kernel
theorem dX2_add_38 : decode cX2_add 38 = .ok (.aload_n 0, 1) := by decide +kernel
theorem dX2_add_39 : decode cX2_add 39 = .ok (.dup, 1) := by decide +kernel
theorem dX2_add_40 : decode cX2_add 40 = .ok (.getfield 18, 3) := by decide +kernel
theorem dX2_add_43 : decode cX2_add 43 = .ok (.iconst 1, 1) := by decide +kernel
theorem dX2_add_44 : decode cX2_add 44 = .ok (.iadd, 1) := by decide +kernel
theorem dX2_add_45 : decode cX2_add 45 = .ok (.putfield 18, 3) := by decide +kernel
theorem dX2_add_48 : decode cX2_add 48 = .ok (.iconst 1, 1) := by decide +kernel
theorem dX2_add_49 : decode cX2_add 49 = .ok (.ireturn, 1) := by decide +kernel
set_option maxRecDepth 20000 in
theorem ggX2_fittingAges_X2_fits : GoodIn wsX2_fittingAges wsX2_fits := goodIn_r _ [5, 6, 7, 8, 9, 10, 11] (by decide +kernel) (by decide +kernel)
set_option maxRecDepth 20000 in
theorem gX2_fittingAges_X2_fits : GoodIn wsX2_fittingAges (wsV RX2 22 RX2 yX2_fits wsX2_fits) := goodIn_app (goodIn_of _ (by decide +kernel)) ggX2_fittingAges_X2_fits
theorem dX2_fittingAges_0 : decode cX2_fittingAges 0 = .ok (.iconst 0, 1) := by decide +kernel
theorem dX2_fittingAges_1 : decode cX2_fittingAges 1 = .ok (.istore_n 1, 1) := by decide +kernel
theorem dX2_fittingAges_2 : decode cX2_fittingAges 2 = .ok (.iconst 0, 1) := by decide +kernel
theorem dX2_fittingAges_3 : decode cX2_fittingAges 3 = .ok (.istore_n 2, 1) := by decide +kernel
theorem dX2_fittingAges_4 : decode cX2_fittingAges 4 = .ok (.iload_n 2, 1) := by decide +kernel
theorem dX2_fittingAges_5 : decode cX2_fittingAges 5 = .ok (.bipush 30, 2) := by decide +kernel
theorem dX2_fittingAges_7 : decode cX2_fittingAges 7 = .ok (.if_icmp .gt 27, 3) := by decide +kernel
theorem dX2_fittingAges_10 : decode cX2_fittingAges 10 = .ok (.iload_n 1, 1) := by decide +kernel
theorem dX2_fittingAges_11 : decode cX2_fittingAges 11 = .ok (.aload_n 0, 1) := by decide +kernel
theorem dX2_fittingAges_12 : decode cX2_fittingAges 12 = .ok (.iload_n 2, 1) := by decide +kernel
theorem dX2_fittingAges_13 : decode cX2_fittingAges 13 = .ok (.invokevirtual 22, 3) := by decide +kernel
theorem dX2_fittingAges_16 : decode cX2_fittingAges 16 = .ok (.ifCond .eq 9, 3) := by decide +kernel
theorem dX2_fittingAges_19 : decode cX2_fittingAges 19 = .ok (.iconst 1, 1) := by decide +kernel
theorem dX2_fittingAges_20 : decode cX2_fittingAges 20 = .ok (.iload_n 2, 1) := by decide +kernel
theorem dX2_fittingAges_21 : decode cX2_fittingAges 21 = .ok (.ishl, 1) := by decide +kernel
theorem dX2_fittingAges_22 : decode cX2_fittingAges 22 = .ok (.goto 4, 3) := by decide +kernel
theorem dX2_fittingAges_25 : decode cX2_fittingAges 25 = .ok (.iconst 0, 1) := by decide +kernel
theorem dX2_fittingAges_26 : decode cX2_fittingAges 26 = .ok (.ior, 1) := by decide +kernel
theorem dX2_fittingAges_27 : decode cX2_fittingAges 27 = .ok (.istore_n 1, 1) := by decide +kernel
theorem dX2_fittingAges_28 : decode cX2_fittingAges 28 = .ok (.iinc 2 1, 3) := by decide +kernel
theorem dX2_fittingAges_31 : decode cX2_fittingAges 31 = .ok (.goto (-27), 3) := by decide +kernel
theorem dX2_fittingAges_34 : decode cX2_fittingAges 34 = .ok (.iload_n 1, 1) := by decide +kernel
theorem dX2_fittingAges_35 : decode cX2_fittingAges 35 = .ok (.ireturn, 1) := by decide +kernel
theorem dX2_fits_0 : decode cX2_fits 0 = .ok (.iconst 0, 1) := by decide +kernel
theorem dX2_fits_1 : decode cX2_fits 1 = .ok (.istore_n 2, 1) := by decide +kernel
theorem dX2_fits_2 : decode cX2_fits 2 = .ok (.iload_n 2, 1) := by decide +kernel
theorem dX2_fits_3 : decode cX2_fits 3 = .ok (.aload_n 0, 1) := by decide +kernel
theorem dX2_fits_4 : decode cX2_fits 4 = .ok (.getfield 18, 3) := by decide +kernel
theorem dX2_fits_7 : decode cX2_fits 7 = .ok (.if_icmp .ge 43, 3) := by decide +kernel
theorem dX2_fits_10 : decode cX2_fits 10 = .ok (.iload_n 2, 1) := by decide +kernel
theorem dX2_fits_11 : decode cX2_fits 11 = .ok (.bipush 6, 2) := by decide +kernel
theorem dX2_fits_13 : decode cX2_fits 13 = .ok (.if_icmp .ge 37, 3) := by decide +kernel
theorem dX2_fits_16 : decode cX2_fits 16 = .ok (.aload_n 0, 1) := by decide +kernel
theorem dX2_fits_17 : decode cX2_fits 17 = .ok (.getfield 9, 3) := by decide +kernel
theorem dX2_fits_20 : decode cX2_fits 20 = .ok (.iload_n 2, 1) := by decide +kernel
theorem dX2_fits_21 : decode cX2_fits 21 = .ok (.iaload, 1) := by decide +kernel
theorem dX2_fits_22 : decode cX2_fits 22 = .ok (.ifCond .le 20, 3) := by decide +kernel
theorem dX2_fits_25 : decode cX2_fits 25 = .ok (.iload_n 1, 1) := by decide +kernel
theorem dX2_fits_26 : decode cX2_fits 26 = .ok (.aload_n 0, 1) := by decide +kernel
theorem dX2_fits_27 : decode cX2_fits 27 = .ok (.getfield 9, 3) := by decide +kernel
theorem dX2_fits_30 : decode cX2_fits 30 = .ok (.iload_n 2, 1) := by decide +kernel
theorem dX2_fits_31 : decode cX2_fits 31 = .ok (.iaload, 1) := by decide +kernel
theorem dX2_fits_32 : decode cX2_fits 32 = .ok (.idiv, 1) := by decide +kernel
theorem dX2_fits_33 : decode cX2_fits 33 = .ok (.aload_n 0, 1) := by decide +kernel
theorem dX2_fits_34 : decode cX2_fits 34 = .ok (.getfield 15, 3) := by decide +kernel
theorem dX2_fits_37 : decode cX2_fits 37 = .ok (.iload_n 2, 1) := by decide +kernel
theorem dX2_fits_38 : decode cX2_fits 38 = .ok (.iaload, 1) := by decide +kernel
theorem dX2_fits_39 : decode cX2_fits 39 = .ok (.if_icmp .eq 5, 3) := by decide +kernel
theorem dX2_fits_42 : decode cX2_fits 42 = .ok (.iconst 0, 1) := by decide +kernel
theorem dX2_fits_43 : decode cX2_fits 43 = .ok (.ireturn, 1) := by decide +kernel
theorem dX2_fits_44 : decode cX2_fits 44 = .ok (.iinc 2 1, 3) := by decide +kernel
theorem dX2_fits_47 : decode cX2_fits 47 = .ok (.goto (-45), 3) := by decide +kernel
theorem dX2_fits_50 : decode cX2_fits 50 = .ok (.iconst 1, 1) := by decide +kernel
theorem dX2_fits_51 : decode cX2_fits 51 = .ok (.ireturn, 1) := by decide +kernel
set_option maxRecDepth 20000 in
theorem ggX2_bestTest_X2_fittingAges : GoodIn wsX2_bestTest wsX2_fittingAges := goodIn_r _ [5, 6, 7, 8, 4, 9, 10, 11, 12, 27, 28, 29] (by decide +kernel) (by decide +kernel)
set_option maxRecDepth 20000 in
theorem gX2_bestTest_X2_fittingAges : GoodIn wsX2_bestTest (wsV RX2 26 RX2 yX2_fittingAges wsX2_fittingAges) := goodIn_app (goodIn_of _ (by decide +kernel)) ggX2_bestTest_X2_fittingAges
set_option maxRecDepth 20000 in
theorem ggX2_bestTest_J6_bitCount_0f7a4 : GoodIn wsX2_bestTest wsJ6_bitCount_0f7a4 := goodIn_r _ [16, 17, 18, 19] (by decide +kernel) (by decide +kernel)
set_option maxRecDepth 20000 in
theorem gX2_bestTest_J6_bitCount_0f7a4 : GoodIn wsX2_bestTest (va_wsS RX2 30 yJ6_bitCount_0f7a4 wsJ6_bitCount_0f7a4) := goodIn_app (goodIn_of _ (by decide +kernel)) ggX2_bestTest_J6_bitCount_0f7a4
set_option maxRecDepth 20000 in
theorem ggX2_bestTest_X2_greatestPart : GoodIn wsX2_bestTest wsX2_greatestPart := goodIn_r _ [22, 23, 24, 25, 26] (by decide +kernel) (by decide +kernel)
set_option maxRecDepth 20000 in
theorem gX2_bestTest_X2_greatestPart : GoodIn wsX2_bestTest (va_wsS RX2 36 yX2_greatestPart wsX2_greatestPart) := goodIn_app (goodIn_of _ (by decide +kernel)) ggX2_bestTest_X2_greatestPart
theorem dX2_bestTest_0 : decode cX2_bestTest 0 = .ok (.aload_n 0, 1) := by decide +kernel
theorem dX2_bestTest_1 : decode cX2_bestTest 1 = .ok (.invokevirtual 26, 3) := by decide +kernel
theorem dX2_bestTest_4 : decode cX2_bestTest 4 = .ok (.istore_n 1, 1) := by decide +kernel
theorem dX2_bestTest_5 : decode cX2_bestTest 5 = .ok (.iconst (-1), 1) := by decide +kernel
theorem dX2_bestTest_6 : decode cX2_bestTest 6 = .ok (.istore_n 2, 1) := by decide +kernel
theorem dX2_bestTest_7 : decode cX2_bestTest 7 = .ok (.iload_n 1, 1) := by decide +kernel
theorem dX2_bestTest_8 : decode cX2_bestTest 8 = .ok (.invokestatic 30, 3) := by decide +kernel
theorem dX2_bestTest_11 : decode cX2_bestTest 11 = .ok (.istore_n 3, 1) := by decide +kernel
theorem dX2_bestTest_12 : decode cX2_bestTest 12 = .ok (.iconst 1, 1) := by decide +kernel
theorem dX2_bestTest_13 : decode cX2_bestTest 13 = .ok (.istore 4, 2) := by decide +kernel
theorem dX2_bestTest_15 : decode cX2_bestTest 15 = .ok (.iload 4, 2) := by decide +kernel
theorem dX2_bestTest_17 : decode cX2_bestTest 17 = .ok (.bipush 9, 2) := by decide +kernel
theorem dX2_bestTest_19 : decode cX2_bestTest 19 = .ok (.if_icmp .gt 29, 3) := by decide +kernel
theorem dX2_bestTest_22 : decode cX2_bestTest 22 = .ok (.iload_n 1, 1) := by decide +kernel
theorem dX2_bestTest_23 : decode cX2_bestTest 23 = .ok (.iload 4, 2) := by decide +kernel
theorem dX2_bestTest_25 : decode cX2_bestTest 25 = .ok (.invokestatic 36, 3) := by decide +kernel
theorem dX2_bestTest_28 : decode cX2_bestTest 28 = .ok (.istore 5, 2) := by decide +kernel
theorem dX2_bestTest_30 : decode cX2_bestTest 30 = .ok (.iload 5, 2) := by decide +kernel
theorem dX2_bestTest_32 : decode cX2_bestTest 32 = .ok (.iload_n 3, 1) := by decide +kernel
theorem dX2_bestTest_33 : decode cX2_bestTest 33 = .ok (.if_icmp .ge 9, 3) := by decide +kernel
theorem dX2_bestTest_36 : decode cX2_bestTest 36 = .ok (.iload 5, 2) := by decide +kernel
theorem dX2_bestTest_38 : decode cX2_bestTest 38 = .ok (.istore_n 3, 1) := by decide +kernel
theorem dX2_bestTest_39 : decode cX2_bestTest 39 = .ok (.iload 4, 2) := by decide +kernel
theorem dX2_bestTest_41 : decode cX2_bestTest 41 = .ok (.istore_n 2, 1) := by decide +kernel
theorem dX2_bestTest_42 : decode cX2_bestTest 42 = .ok (.iinc 4 1, 3) := by decide +kernel
theorem dX2_bestTest_45 : decode cX2_bestTest 45 = .ok (.goto (-30), 3) := by decide +kernel
theorem dX2_bestTest_48 : decode cX2_bestTest 48 = .ok (.iload_n 2, 1) := by decide +kernel
theorem dX2_bestTest_49 : decode cX2_bestTest 49 = .ok (.ireturn, 1) := by decide +kernel
theorem dX2_greatestPart_0 : decode cX2_greatestPart 0 = .ok (.iconst 0, 1) := by decide +kernel
theorem dX2_greatestPart_1 : decode cX2_greatestPart 1 = .ok (.istore_n 2, 1) := by decide +kernel
theorem dX2_greatestPart_2 : decode cX2_greatestPart 2 = .ok (.iconst 0, 1) := by decide +kernel
theorem dX2_greatestPart_3 : decode cX2_greatestPart 3 = .ok (.istore_n 3, 1) := by decide +kernel
theorem dX2_greatestPart_4 : decode cX2_greatestPart 4 = .ok (.iconst 0, 1) := by decide +kernel
theorem dX2_greatestPart_5 : decode cX2_greatestPart 5 = .ok (.istore 4, 2) := by decide +kernel
theorem dX2_greatestPart_7 : decode cX2_greatestPart 7 = .ok (.iload 4, 2) := by decide +kernel
theorem dX2_greatestPart_9 : decode cX2_greatestPart 9 = .ok (.bipush 30, 2) := by decide +kernel
theorem dX2_greatestPart_11 : decode cX2_greatestPart 11 = .ok (.if_icmp .gt 37, 3) := by decide +kernel
theorem dX2_greatestPart_14 : decode cX2_greatestPart 14 = .ok (.iload_n 1, 1) := by decide +kernel
theorem dX2_greatestPart_15 : decode cX2_greatestPart 15 = .ok (.ifCond .le 10, 3) := by decide +kernel
theorem dX2_greatestPart_18 : decode cX2_greatestPart 18 = .ok (.iload 4, 2) := by decide +kernel
theorem dX2_greatestPart_20 : decode cX2_greatestPart 20 = .ok (.iload_n 1, 1) := by decide +kernel
theorem dX2_greatestPart_21 : decode cX2_greatestPart 21 = .ok (.irem, 1) := by decide +kernel
theorem dX2_greatestPart_22 : decode cX2_greatestPart 22 = .ok (.ifCond .ne 5, 3) := by decide +kernel
theorem dX2_greatestPart_25 : decode cX2_greatestPart 25 = .ok (.iconst 0, 1) := by decide +kernel
theorem dX2_greatestPart_26 : decode cX2_greatestPart 26 = .ok (.istore_n 3, 1) := by decide +kernel
theorem dX2_greatestPart_27 : decode cX2_greatestPart 27 = .ok (.iload_n 3, 1) := by decide +kernel
theorem dX2_greatestPart_28 : decode cX2_greatestPart 28 = .ok (.iload_n 0, 1) := by decide +kernel
theorem dX2_greatestPart_29 : decode cX2_greatestPart 29 = .ok (.iload 4, 2) := by decide +kernel
theorem dX2_greatestPart_31 : decode cX2_greatestPart 31 = .ok (.ishr, 1) := by decide +kernel
theorem dX2_greatestPart_32 : decode cX2_greatestPart 32 = .ok (.iconst 1, 1) := by decide +kernel
theorem dX2_greatestPart_33 : decode cX2_greatestPart 33 = .ok (.iand, 1) := by decide +kernel
theorem dX2_greatestPart_34 : decode cX2_greatestPart 34 = .ok (.iadd, 1) := by decide +kernel
theorem dX2_greatestPart_35 : decode cX2_greatestPart 35 = .ok (.istore_n 3, 1) := by decide +kernel
theorem dX2_greatestPart_36 : decode cX2_greatestPart 36 = .ok (.iload_n 2, 1) := by decide +kernel
theorem dX2_greatestPart_37 : decode cX2_greatestPart 37 = .ok (.iload_n 3, 1) := by decide +kernel
theorem dX2_greatestPart_38 : decode cX2_greatestPart 38 = .ok (.invokestatic 40, 3) := by decide +kernel
theorem dX2_greatestPart_41 : decode cX2_greatestPart 41 = .ok (.istore_n 2, 1) := by decide +kernel
theorem dX2_greatestPart_42 : decode cX2_greatestPart 42 = .ok (.iinc 4 1, 3) := by decide +kernel
theorem dX2_greatestPart_45 : decode cX2_greatestPart 45 = .ok (.goto (-38), 3) := by decide +kernel
theorem dX2_greatestPart_48 : decode cX2_greatestPart 48 = .ok (.iload_n 2, 1) := by decide +kernel
theorem dX2_greatestPart_49 : decode cX2_greatestPart 49 = .ok (.ireturn, 1) := by decide +kernel
theorem dX3_init_0 : decode cX3_init 0 = .ok (.aload_n 0, 1) := by decide +kernel
theorem dX3_init_1 : decode cX3_init 1 = .ok (.invokespecial 3, 3) := by decide +kernel
theorem dX3_init_4 : decode cX3_init 4 = .ok (.aload_n 0, 1) := by decide +kernel
theorem dX3_init_5 : decode cX3_init 5 = .ok (.bipush 40, 2) := by decide +kernel
theorem dX3_init_7 : decode cX3_init 7 = .ok (.newarray .int, 2) := by decide +kernel
theorem dX3_init_9 : decode cX3_init 9 = .ok (.putfield 11, 3) := by decide +kernel
theorem dX3_init_12 : decode cX3_init 12 = .ok (.aload_n 0, 1) := by decide +kernel
theorem dX3_init_13 : decode cX3_init 13 = .ok (.iconst 2, 1) := by decide +kernel
theorem dX3_init_14 : decode cX3_init 14 = .ok (.newarray .int, 2) := by decide +kernel
theorem dX3_init_16 : decode cX3_init 16 = .ok (.putfield 17, 3) := by decide +kernel
theorem dX3_init_19 : decode cX3_init 19 = .ok (.aload_n 0, 1) := by decide +kernel
theorem dX3_init_20 : decode cX3_init 20 = .ok (.iconst 2, 1) := by decide +kernel
theorem dX3_init_21 : decode cX3_init 21 = .ok (.newarray .boolean, 2) := by decide +kernel
theorem dX3_init_23 : decode cX3_init 23 = .ok (.putfield 20, 3) := by decide +kernel
theorem dX3_init_26 : decode cX3_init 26 = .ok (.return_, 1) := by decide +kernel
theorem dX3_forget_0 : decode cX3_forget 0 = .ok (.iconst 0, 1) := by decide +kernel
theorem dX3_forget_1 : decode cX3_forget 1 = .ok (.istore_n 1, 1) := by decide +kernel
theorem dX3_forget_2 : decode cX3_forget 2 = .ok (.iload_n 1, 1) := by decide +kernel
theorem dX3_forget_3 : decode cX3_forget 3 = .ok (.iconst 2, 1) := by decide +kernel
theorem dX3_forget_4 : decode cX3_forget 4 = .ok (.if_icmp .ge 16, 3) := by decide +kernel
theorem dX3_forget_7 : decode cX3_forget 7 = .ok (.aload_n 0, 1) := by decide +kernel
theorem dX3_forget_8 : decode cX3_forget 8 = .ok (.getfield 20, 3) := by decide +kernel
theorem dX3_forget_11 : decode cX3_forget 11 = .ok (.iload_n 1, 1) := by decide +kernel
theorem dX3_forget_12 : decode cX3_forget 12 = .ok (.iconst 0, 1) := by decide +kernel
theorem dX3_forget_13 : decode cX3_forget 13 = .ok (.bastore, 1) := by decide +kernel
theorem dX3_forget_14 : decode cX3_forget 14 = .ok (.iinc 1 1, 3) := by decide +kernel
theorem dX3_forget_17 : decode cX3_forget 17 = .ok (.goto (-15), 3) := by decide +kernel
theorem dX3_forget_20 : decode cX3_forget 20 = .ok (.return_, 1) := by decide +kernel
theorem dX3_has_0 : decode cX3_has 0 = .ok (.iload_n 1, 1) := by decide +kernel
theorem dX3_has_1 : decode cX3_has 1 = .ok (.ifCond .lt 21, 3) := by decide +kernel
theorem dX3_has_4 : decode cX3_has 4 = .ok (.iload_n 1, 1) := by decide +kernel
theorem dX3_has_5 : decode cX3_has 5 = .ok (.iconst 2, 1) := by decide +kernel
theorem dX3_has_6 : decode cX3_has 6 = .ok (.if_icmp .ge 16, 3) := by decide +kernel
theorem dX3_has_9 : decode cX3_has 9 = .ok (.aload_n 0, 1) := by decide +kernel
theorem dX3_has_10 : decode cX3_has 10 = .ok (.getfield 20, 3) := by decide +kernel
theorem dX3_has_13 : decode cX3_has 13 = .ok (.iload_n 1, 1) := by decide +kernel
theorem dX3_has_14 : decode cX3_has 14 = .ok (.baload, 1) := by decide +kernel
theorem dX3_has_15 : decode cX3_has 15 = .ok (.ifCond .eq 7, 3) := by decide +kernel
theorem dX3_has_18 : decode cX3_has 18 = .ok (.iconst 1, 1) := by decide +kernel
theorem dX3_has_19 : decode cX3_has 19 = .ok (.goto 4, 3) := by decide +kernel
theorem dX3_has_22 : decode cX3_has 22 = .ok (.iconst 0, 1) := by decide +kernel
theorem dX3_has_23 : decode cX3_has 23 = .ok (.ireturn, 1) := by decide +kernel
set_option maxRecDepth 20000 in
theorem ggX3_take_X4_saveTo : GoodIn wsX3_take wsX4_saveTo := goodIn_r _ [8, 9, 10, 11, 12, 13, 14, 15, 16, 17, 18, 19, 20, 21, 22, 7, 23, 27, 28, 29, 30, 31, 32, 33, 34, 35] (by decide +kernel) (by decide +kernel)
set_option maxRecDepth 20000 in
theorem gX3_take_X4_saveTo : GoodIn wsX3_take (wsV RX3 24 RX4 yX4_saveTo wsX4_saveTo) := goodIn_app (goodIn_of _ (by decide +kernel)) ggX3_take_X4_saveTo
theorem dX3_take_0 : decode cX3_take 0 = .ok (.iload_n 1, 1) := by decide +kernel
theorem dX3_take_1 : decode cX3_take 1 = .ok (.ifCond .lt 34, 3) := by decide +kernel
theorem dX3_take_4 : decode cX3_take 4 = .ok (.iload_n 1, 1) := by decide +kernel
theorem dX3_take_5 : decode cX3_take 5 = .ok (.iconst 2, 1) := by decide +kernel
theorem dX3_take_6 : decode cX3_take 6 = .ok (.if_icmp .ge 29, 3) := by decide +kernel
theorem dX3_take_9 : decode cX3_take 9 = .ok (.aload_n 2, 1) := by decide +kernel
theorem dX3_take_10 : decode cX3_take 10 = .ok (.aload_n 0, 1) := by decide +kernel
theorem dX3_take_11 : decode cX3_take 11 = .ok (.getfield 11, 3) := by decide +kernel
theorem dX3_take_14 : decode cX3_take 14 = .ok (.iload_n 1, 1) := by decide +kernel
theorem dX3_take_15 : decode cX3_take 15 = .ok (.bipush 20, 2) := by decide +kernel
theorem dX3_take_17 : decode cX3_take 17 = .ok (.imul, 1) := by decide +kernel
theorem dX3_take_18 : decode cX3_take 18 = .ok (.invokevirtual 24, 3) := by decide +kernel
theorem dX3_take_21 : decode cX3_take 21 = .ok (.aload_n 0, 1) := by decide +kernel
theorem dX3_take_22 : decode cX3_take 22 = .ok (.getfield 17, 3) := by decide +kernel
theorem dX3_take_25 : decode cX3_take 25 = .ok (.iload_n 1, 1) := by decide +kernel
theorem dX3_take_26 : decode cX3_take 26 = .ok (.iload_n 3, 1) := by decide +kernel
theorem dX3_take_27 : decode cX3_take 27 = .ok (.iastore, 1) := by decide +kernel
theorem dX3_take_28 : decode cX3_take 28 = .ok (.aload_n 0, 1) := by decide +kernel
theorem dX3_take_29 : decode cX3_take 29 = .ok (.getfield 20, 3) := by decide +kernel
theorem dX3_take_32 : decode cX3_take 32 = .ok (.iload_n 1, 1) := by decide +kernel
theorem dX3_take_33 : decode cX3_take 33 = .ok (.iconst 1, 1) := by decide +kernel
theorem dX3_take_34 : decode cX3_take 34 = .ok (.bastore, 1) := by decide +kernel
theorem dX3_take_35 : decode cX3_take 35 = .ok (.return_, 1) := by decide +kernel
set_option maxRecDepth 20000 in
theorem ggX3_show_X3_has : GoodIn wsX3_show wsX3_has := goodIn_r _ [6, 7, 28, 29, 30] (by decide +kernel) (by decide +kernel)
set_option maxRecDepth 20000 in
theorem gX3_show_X3_has : GoodIn wsX3_show (wsV RX3 28 RX3 yX3_has wsX3_has) := goodIn_app (goodIn_of _ (by decide +kernel)) ggX3_show_X3_has
set_option maxRecDepth 20000 in
theorem ggX3_show_X4_loadFrom : GoodIn wsX3_show wsX4_loadFrom := goodIn_r _ [12, 13, 14, 15, 16, 17, 18, 19, 20, 21, 22, 23, 24, 25, 26, 11, 27, 31, 32, 33, 34, 35, 36, 37, 38, 39] (by decide +kernel) (by decide +kernel)
set_option maxRecDepth 20000 in
theorem gX3_show_X4_loadFrom : GoodIn wsX3_show (wsV RX3 32 RX4 yX4_loadFrom wsX4_loadFrom) := goodIn_app (goodIn_of _ (by decide +kernel)) ggX3_show_X4_loadFrom
theorem dX3_show_0 : decode cX3_show 0 = .ok (.aload_n 0, 1) := by decide +kernel
theorem dX3_show_1 : decode cX3_show 1 = .ok (.iload_n 1, 1) := by decide +kernel
theorem dX3_show_2 : decode cX3_show 2 = .ok (.invokevirtual 28, 3) := by decide +kernel
theorem dX3_show_5 : decode cX3_show 5 = .ok (.ifCond .eq 15, 3) := by decide +kernel
theorem dX3_show_8 : decode cX3_show 8 = .ok (.aload_n 2, 1) := by decide +kernel
theorem dX3_show_9 : decode cX3_show 9 = .ok (.aload_n 0, 1) := by decide +kernel
theorem dX3_show_10 : decode cX3_show 10 = .ok (.getfield 11, 3) := by decide +kernel
theorem dX3_show_13 : decode cX3_show 13 = .ok (.iload_n 1, 1) := by decide +kernel
theorem dX3_show_14 : decode cX3_show 14 = .ok (.bipush 20, 2) := by decide +kernel
theorem dX3_show_16 : decode cX3_show 16 = .ok (.imul, 1) := by decide +kernel
theorem dX3_show_17 : decode cX3_show 17 = .ok (.invokevirtual 32, 3) := by decide +kernel
theorem dX3_show_20 : decode cX3_show 20 = .ok (.return_, 1) := by decide +kernel
set_option maxRecDepth 20000 in
theorem ggX3_seedOf_X3_has : GoodIn wsX3_seedOf wsX3_has := goodIn_r _ [6, 7, 8, 9, 10] (by decide +kernel) (by decide +kernel)
set_option maxRecDepth 20000 in
theorem gX3_seedOf_X3_has : GoodIn wsX3_seedOf (wsV RX3 28 RX3 yX3_has wsX3_has) := goodIn_app (goodIn_of _ (by decide +kernel)) ggX3_seedOf_X3_has
theorem dX3_seedOf_0 : decode cX3_seedOf 0 = .ok (.aload_n 0, 1) := by decide +kernel
theorem dX3_seedOf_1 : decode cX3_seedOf 1 = .ok (.iload_n 1, 1) := by decide +kernel
theorem dX3_seedOf_2 : decode cX3_seedOf 2 = .ok (.invokevirtual 28, 3) := by decide +kernel
theorem dX3_seedOf_5 : decode cX3_seedOf 5 = .ok (.ifCond .eq 12, 3) := by decide +kernel
theorem dX3_seedOf_8 : decode cX3_seedOf 8 = .ok (.aload_n 0, 1) := by decide +kernel
theorem dX3_seedOf_9 : decode cX3_seedOf 9 = .ok (.getfield 17, 3) := by decide +kernel
theorem dX3_seedOf_12 : decode cX3_seedOf 12 = .ok (.iload_n 1, 1) := by decide +kernel
theorem dX3_seedOf_13 : decode cX3_seedOf 13 = .ok (.iaload, 1) := by decide +kernel
theorem dX3_seedOf_14 : decode cX3_seedOf 14 = .ok (.goto 4, 3) := by decide +kernel
theorem dX3_seedOf_17 : decode cX3_seedOf 17 = .ok (.iconst 0, 1) := by decide +kernel
theorem dX3_seedOf_18 : decode cX3_seedOf 18 = .ok (.ireturn, 1) := by decide +kernel
theorem dX4_init_0 : decode cX4_init 0 = .ok (.aload_n 0, 1) := by decide +kernel
theorem dX4_init_1 : decode cX4_init 1 = .ok (.invokespecial 3, 3) := by decide +kernel
theorem dX4_init_4 : decode cX4_init 4 = .ok (.aload_n 0, 1) := by decide +kernel
theorem dX4_init_5 : decode cX4_init 5 = .ok (.aload_n 1, 1) := by decide +kernel
theorem dX4_init_6 : decode cX4_init 6 = .ok (.putfield 9, 3) := by decide +kernel
theorem dX4_init_9 : decode cX4_init 9 = .ok (.aload_n 0, 1) := by decide +kernel
theorem dX4_init_10 : decode cX4_init 10 = .ok (.bipush 7, 2) := by decide +kernel
theorem dX4_init_12 : decode cX4_init 12 = .ok (.newarray .int, 2) := by decide +kernel
theorem dX4_init_14 : decode cX4_init 14 = .ok (.putfield 15, 3) := by decide +kernel
theorem dX4_init_17 : decode cX4_init 17 = .ok (.aload_n 0, 1) := by decide +kernel
theorem dX4_init_18 : decode cX4_init 18 = .ok (.bipush 7, 2) := by decide +kernel
theorem dX4_init_20 : decode cX4_init 20 = .ok (.newarray .int, 2) := by decide +kernel
theorem dX4_init_22 : decode cX4_init 22 = .ok (.putfield 19, 3) := by decide +kernel
theorem dX4_init_25 : decode cX4_init 25 = .ok (.aload_n 0, 1) := by decide +kernel
theorem dX4_init_26 : decode cX4_init 26 = .ok (.iconst (-1), 1) := by decide +kernel
theorem dX4_init_27 : decode cX4_init 27 = .ok (.putfield 22, 3) := by decide +kernel
theorem dX4_init_30 : decode cX4_init 30 = .ok (.aload_n 0, 1) := by decide +kernel
theorem dX4_init_31 : decode cX4_init 31 = .ok (.iconst 0, 1) := by decide +kernel
theorem dX4_init_32 : decode cX4_init 32 = .ok (.putfield 26, 3) := by decide +kernel
theorem dX4_init_35 : decode cX4_init 35 = .ok (.aload_n 0, 1) := by decide +kernel
theorem dX4_init_36 : decode cX4_init 36 = .ok (.iconst 0, 1) := by decide +kernel
theorem dX4_init_37 : decode cX4_init 37 = .ok (.putfield 29, 3) := by decide +kernel
theorem dX4_init_40 : decode cX4_init 40 = .ok (.aload_n 0, 1) := by decide +kernel
theorem dX4_init_41 : decode cX4_init 41 = .ok (.iconst 0, 1) := by decide +kernel
theorem dX4_init_42 : decode cX4_init 42 = .ok (.putfield 32, 3) := by decide +kernel
theorem dX4_init_45 : decode cX4_init 45 = .ok (.aload_n 0, 1) := by decide +kernel
theorem dX4_init_46 : decode cX4_init 46 = .ok (.iconst 0, 1) := by decide +kernel
theorem dX4_init_47 : decode cX4_init 47 = .ok (.putfield 35, 3) := by decide +kernel
theorem dX4_init_50 : decode cX4_init 50 = .ok (.aload_n 0, 1) := by decide +kernel
theorem dX4_init_51 : decode cX4_init 51 = .ok (.iconst 0, 1) := by decide +kernel
theorem dX4_init_52 : decode cX4_init 52 = .ok (.putfield 38, 3) := by decide +kernel
theorem dX4_init_55 : decode cX4_init 55 = .ok (.return_, 1) := by decide +kernel
theorem dX4_begin_0 : decode cX4_begin 0 = .ok (.iconst 0, 1) := by decide +kernel
theorem dX4_begin_1 : decode cX4_begin 1 = .ok (.istore_n 1, 1) := by decide +kernel
theorem dX4_begin_2 : decode cX4_begin 2 = .ok (.iload_n 1, 1) := by decide +kernel
theorem dX4_begin_3 : decode cX4_begin 3 = .ok (.bipush 7, 2) := by decide +kernel
theorem dX4_begin_5 : decode cX4_begin 5 = .ok (.if_icmp .ge 23, 3) := by decide +kernel
theorem dX4_begin_8 : decode cX4_begin 8 = .ok (.aload_n 0, 1) := by decide +kernel
theorem dX4_begin_9 : decode cX4_begin 9 = .ok (.getfield 15, 3) := by decide +kernel
theorem dX4_begin_12 : decode cX4_begin 12 = .ok (.iload_n 1, 1) := by decide +kernel
theorem dX4_begin_13 : decode cX4_begin 13 = .ok (.iconst 0, 1) := by decide +kernel
theorem dX4_begin_14 : decode cX4_begin 14 = .ok (.iastore, 1) := by decide +kernel
theorem dX4_begin_15 : decode cX4_begin 15 = .ok (.aload_n 0, 1) := by decide +kernel
theorem dX4_begin_16 : decode cX4_begin 16 = .ok (.getfield 19, 3) := by decide +kernel
theorem dX4_begin_19 : decode cX4_begin 19 = .ok (.iload_n 1, 1) := by decide +kernel
theorem dX4_begin_20 : decode cX4_begin 20 = .ok (.iconst 0, 1) := by decide +kernel
theorem dX4_begin_21 : decode cX4_begin 21 = .ok (.iastore, 1) := by decide +kernel
theorem dX4_begin_22 : decode cX4_begin 22 = .ok (.iinc 1 1, 3) := by decide +kernel
theorem dX4_begin_25 : decode cX4_begin 25 = .ok (.goto (-23), 3) := by decide +kernel
theorem dX4_begin_28 : decode cX4_begin 28 = .ok (.aload_n 0, 1) := by decide +kernel
theorem dX4_begin_29 : decode cX4_begin 29 = .ok (.iconst (-1), 1) := by decide +kernel
theorem dX4_begin_30 : decode cX4_begin 30 = .ok (.putfield 22, 3) := by decide +kernel
theorem dX4_begin_33 : decode cX4_begin 33 = .ok (.aload_n 0, 1) := by decide +kernel
theorem dX4_begin_34 : decode cX4_begin 34 = .ok (.iconst 0, 1) := by decide +kernel
theorem dX4_begin_35 : decode cX4_begin 35 = .ok (.putfield 26, 3) := by decide +kernel
theorem dX4_begin_38 : decode cX4_begin 38 = .ok (.aload_n 0, 1) := by decide +kernel
theorem dX4_begin_39 : decode cX4_begin 39 = .ok (.aload_n 0, 1) := by decide +kernel
theorem dX4_begin_40 : decode cX4_begin 40 = .ok (.getfield 9, 3) := by decide +kernel
theorem dX4_begin_43 : decode cX4_begin 43 = .ok (.getfield 41, 3) := by decide +kernel
theorem dX4_begin_46 : decode cX4_begin 46 = .ok (.putfield 29, 3) := by decide +kernel
theorem dX4_begin_49 : decode cX4_begin 49 = .ok (.aload_n 0, 1) := by decide +kernel
theorem dX4_begin_50 : decode cX4_begin 50 = .ok (.iconst 0, 1) := by decide +kernel
theorem dX4_begin_51 : decode cX4_begin 51 = .ok (.putfield 32, 3) := by decide +kernel
theorem dX4_begin_54 : decode cX4_begin 54 = .ok (.aload_n 0, 1) := by decide +kernel
theorem dX4_begin_55 : decode cX4_begin 55 = .ok (.iconst 0, 1) := by decide +kernel
theorem dX4_begin_56 : decode cX4_begin 56 = .ok (.putfield 35, 3) := by decide +kernel
theorem dX4_begin_59 : decode cX4_begin 59 = .ok (.aload_n 0, 1) := by decide +kernel
theorem dX4_begin_60 : decode cX4_begin 60 = .ok (.iconst 0, 1) := by decide +kernel
theorem dX4_begin_61 : decode cX4_begin 61 = .ok (.putfield 38, 3) := by decide +kernel
theorem dX4_begin_64 : decode cX4_begin 64 = .ok (.return_, 1) := by decide +kernel
set_option maxRecDepth 20000 in
theorem ggX4_stateOf_X8_hasEgg : GoodIn wsX4_stateOf wsX8_hasEgg := goodIn_r _ [7, 8, 18, 19, 20, 21, 22, 23, 24, 25, 26, 27] (by decide +kernel) (by decide +kernel)
set_option maxRecDepth 20000 in
theorem gX4_stateOf_X8_hasEgg : GoodIn wsX4_stateOf (wsV RX4 46 RX8 yX8_hasEgg wsX8_hasEgg) := goodIn_app (goodIn_of _ (by decide +kernel)) ggX4_stateOf_X8_hasEgg
theorem dX4_stateOf_0 : decode cX4_stateOf 0 = .ok (.aload_n 0, 1) := by decide +kernel
theorem dX4_stateOf_1 : decode cX4_stateOf 1 = .ok (.getfield 9, 3) := by decide +kernel
theorem dX4_stateOf_4 : decode cX4_stateOf 4 = .ok (.iload_n 1, 1) := by decide +kernel
theorem dX4_stateOf_5 : decode cX4_stateOf 5 = .ok (.invokevirtual 46, 3) := by decide +kernel
theorem dX4_stateOf_8 : decode cX4_stateOf 8 = .ok (.ifCond .eq 12, 3) := by decide +kernel
theorem dX4_stateOf_11 : decode cX4_stateOf 11 = .ok (.aload_n 0, 1) := by decide +kernel
theorem dX4_stateOf_12 : decode cX4_stateOf 12 = .ok (.getfield 15, 3) := by decide +kernel
theorem dX4_stateOf_15 : decode cX4_stateOf 15 = .ok (.iload_n 1, 1) := by decide +kernel
theorem dX4_stateOf_16 : decode cX4_stateOf 16 = .ok (.iaload, 1) := by decide +kernel
theorem dX4_stateOf_17 : decode cX4_stateOf 17 = .ok (.goto 4, 3) := by decide +kernel
theorem dX4_stateOf_20 : decode cX4_stateOf 20 = .ok (.iconst (-1), 1) := by decide +kernel
theorem dX4_stateOf_21 : decode cX4_stateOf 21 = .ok (.ireturn, 1) := by decide +kernel
set_option maxRecDepth 20000 in
theorem ggX4_boiledOf_X8_hasEgg : GoodIn wsX4_boiledOf wsX8_hasEgg := goodIn_r _ [7, 8, 18, 19, 20, 21, 22, 23, 24, 25, 26, 27] (by decide +kernel) (by decide +kernel)
set_option maxRecDepth 20000 in
theorem gX4_boiledOf_X8_hasEgg : GoodIn wsX4_boiledOf (wsV RX4 46 RX8 yX8_hasEgg wsX8_hasEgg) := goodIn_app (goodIn_of _ (by decide +kernel)) ggX4_boiledOf_X8_hasEgg
theorem dX4_boiledOf_0 : decode cX4_boiledOf 0 = .ok (.aload_n 0, 1) := by decide +kernel
theorem dX4_boiledOf_1 : decode cX4_boiledOf 1 = .ok (.getfield 9, 3) := by decide +kernel
theorem dX4_boiledOf_4 : decode cX4_boiledOf 4 = .ok (.iload_n 1, 1) := by decide +kernel
theorem dX4_boiledOf_5 : decode cX4_boiledOf 5 = .ok (.invokevirtual 46, 3) := by decide +kernel
theorem dX4_boiledOf_8 : decode cX4_boiledOf 8 = .ok (.ifCond .eq 12, 3) := by decide +kernel
theorem dX4_boiledOf_11 : decode cX4_boiledOf 11 = .ok (.aload_n 0, 1) := by decide +kernel
theorem dX4_boiledOf_12 : decode cX4_boiledOf 12 = .ok (.getfield 19, 3) := by decide +kernel
theorem dX4_boiledOf_15 : decode cX4_boiledOf 15 = .ok (.iload_n 1, 1) := by decide +kernel
theorem dX4_boiledOf_16 : decode cX4_boiledOf 16 = .ok (.iaload, 1) := by decide +kernel
theorem dX4_boiledOf_17 : decode cX4_boiledOf 17 = .ok (.goto 4, 3) := by decide +kernel
theorem dX4_boiledOf_20 : decode cX4_boiledOf 20 = .ok (.iconst 0, 1) := by decide +kernel
theorem dX4_boiledOf_21 : decode cX4_boiledOf 21 = .ok (.ireturn, 1) := by decide +kernel
set_option maxRecDepth 20000 in
theorem ggX4_hardnessOf_X4_boiledOf : GoodIn wsX4_hardnessOf wsX4_boiledOf := goodIn_r _ [6, 1, 7, 8, 9, 10, 11, 12, 13, 28, 29, 30, 31, 32, 33, 34, 35, 36, 37, 38, 39, 40, 41, 42, 43, 44, 45, 46] (by decide +kernel) (by decide +kernel)
set_option maxRecDepth 20000 in
theorem gX4_hardnessOf_X4_boiledOf : GoodIn wsX4_hardnessOf (wsV RX4 50 RX4 yX4_boiledOf wsX4_boiledOf) := goodIn_app (goodIn_of _ (by decide +kernel)) ggX4_hardnessOf_X4_boiledOf
set_option maxRecDepth 20000 in
theorem ggX4_hardnessOf_X8_hardness : GoodIn wsX4_hardnessOf wsX8_hardness := goodIn_r _ [17, 18, 19, 20, 21, 22, 23, 24, 25, 26, 27, 9, 10, 11, 12, 13, 37, 38, 39, 40, 41, 42, 43, 44, 45, 46] (by decide +kernel) (by decide +kernel)
set_option maxRecDepth 20000 in
theorem gX4_hardnessOf_X8_hardness : GoodIn wsX4_hardnessOf (wsV RX4 54 RX8 yX8_hardness wsX8_hardness) := goodIn_app (goodIn_of _ (by decide +kernel)) ggX4_hardnessOf_X8_hardness
theorem dX4_hardnessOf_0 : decode cX4_hardnessOf 0 = .ok (.aload_n 0, 1) := by decide +kernel
theorem dX4_hardnessOf_1 : decode cX4_hardnessOf 1 = .ok (.getfield 9, 3) := by decide +kernel
theorem dX4_hardnessOf_4 : decode cX4_hardnessOf 4 = .ok (.iload_n 1, 1) := by decide +kernel
theorem dX4_hardnessOf_5 : decode cX4_hardnessOf 5 = .ok (.aload_n 0, 1) := by decide +kernel
theorem dX4_hardnessOf_6 : decode cX4_hardnessOf 6 = .ok (.iload_n 1, 1) := by decide +kernel
theorem dX4_hardnessOf_7 : decode cX4_hardnessOf 7 = .ok (.invokevirtual 50, 3) := by decide +kernel
theorem dX4_hardnessOf_10 : decode cX4_hardnessOf 10 = .ok (.invokevirtual 54, 3) := by decide +kernel
theorem dX4_hardnessOf_13 : decode cX4_hardnessOf 13 = .ok (.ireturn, 1) := by decide +kernel
set_option maxRecDepth 20000 in
theorem ggX4_reignOf_X4_boiledOf : GoodIn wsX4_reignOf wsX4_boiledOf := goodIn_r _ [6, 1, 7, 8, 9, 10, 11, 12, 13, 36, 37, 38, 39, 40, 41, 42, 43, 44, 45, 46, 47, 48, 49, 50, 51, 52, 53, 54] (by decide +kernel) (by decide +kernel)
set_option maxRecDepth 20000 in
theorem gX4_reignOf_X4_boiledOf : GoodIn wsX4_reignOf (wsV RX4 50 RX4 yX4_boiledOf wsX4_boiledOf) := goodIn_app (goodIn_of _ (by decide +kernel)) ggX4_reignOf_X4_boiledOf
set_option maxRecDepth 20000 in
theorem ggX4_reignOf_X8_reign : GoodIn wsX4_reignOf wsX8_reign := goodIn_r _ [17, 18, 19, 20, 11, 21, 22, 23, 24, 25, 26, 27, 28, 29, 30, 31, 9, 10, 12, 13, 32, 33, 34, 35, 45, 46, 47, 48, 49, 50, 51, 52, 53, 54] (by decide +kernel) (by decide +kernel)
set_option maxRecDepth 20000 in
theorem gX4_reignOf_X8_reign : GoodIn wsX4_reignOf (wsV RX4 58 RX8 yX8_reign wsX8_reign) := goodIn_app (goodIn_of _ (by decide +kernel)) ggX4_reignOf_X8_reign
theorem dX4_reignOf_0 : decode cX4_reignOf 0 = .ok (.aload_n 0, 1) := by decide +kernel
theorem dX4_reignOf_1 : decode cX4_reignOf 1 = .ok (.getfield 9, 3) := by decide +kernel
theorem dX4_reignOf_4 : decode cX4_reignOf 4 = .ok (.iload_n 1, 1) := by decide +kernel
theorem dX4_reignOf_5 : decode cX4_reignOf 5 = .ok (.aload_n 0, 1) := by decide +kernel
theorem dX4_reignOf_6 : decode cX4_reignOf 6 = .ok (.iload_n 1, 1) := by decide +kernel
theorem dX4_reignOf_7 : decode cX4_reignOf 7 = .ok (.invokevirtual 50, 3) := by decide +kernel
theorem dX4_reignOf_10 : decode cX4_reignOf 10 = .ok (.invokevirtual 58, 3) := by decide +kernel
theorem dX4_reignOf_13 : decode cX4_reignOf 13 = .ok (.ireturn, 1) := by decide +kernel
set_option maxRecDepth 20000 in
theorem ggX4_setThatIs_X4_stateOf : GoodIn wsX4_setThatIs wsX4_stateOf := goodIn_r _ [5, 6, 7, 8, 9, 10, 11, 12, 13, 14, 15, 16, 17, 18, 19, 20, 21, 22, 23, 24, 25, 26, 27, 28, 29, 30, 31, 32] (by decide +kernel) (by decide +kernel)
set_option maxRecDepth 20000 in
theorem gX4_setThatIs_X4_stateOf : GoodIn wsX4_setThatIs (wsV RX4 61 RX4 yX4_stateOf wsX4_stateOf) := goodIn_app (goodIn_of _ (by decide +kernel)) ggX4_setThatIs_X4_stateOf
theorem dX4_setThatIs_0 : decode cX4_setThatIs 0 = .ok (.iconst 0, 1) := by decide +kernel
theorem dX4_setThatIs_1 : decode cX4_setThatIs 1 = .ok (.istore_n 2, 1) := by decide +kernel
theorem dX4_setThatIs_2 : decode cX4_setThatIs 2 = .ok (.iconst 0, 1) := by decide +kernel
theorem dX4_setThatIs_3 : decode cX4_setThatIs 3 = .ok (.istore_n 3, 1) := by decide +kernel
theorem dX4_setThatIs_4 : decode cX4_setThatIs 4 = .ok (.iload_n 3, 1) := by decide +kernel
theorem dX4_setThatIs_5 : decode cX4_setThatIs 5 = .ok (.bipush 7, 2) := by decide +kernel
theorem dX4_setThatIs_7 : decode cX4_setThatIs 7 = .ok (.if_icmp .ge 28, 3) := by decide +kernel
theorem dX4_setThatIs_10 : decode cX4_setThatIs 10 = .ok (.iload_n 2, 1) := by decide +kernel
theorem dX4_setThatIs_11 : decode cX4_setThatIs 11 = .ok (.aload_n 0, 1) := by decide +kernel
theorem dX4_setThatIs_12 : decode cX4_setThatIs 12 = .ok (.iload_n 3, 1) := by decide +kernel
theorem dX4_setThatIs_13 : decode cX4_setThatIs 13 = .ok (.invokevirtual 61, 3) := by decide +kernel
theorem dX4_setThatIs_16 : decode cX4_setThatIs 16 = .ok (.iload_n 1, 1) := by decide +kernel
theorem dX4_setThatIs_17 : decode cX4_setThatIs 17 = .ok (.if_icmp .ne 9, 3) := by decide +kernel
theorem dX4_setThatIs_20 : decode cX4_setThatIs 20 = .ok (.iconst 1, 1) := by decide +kernel
theorem dX4_setThatIs_21 : decode cX4_setThatIs 21 = .ok (.iload_n 3, 1) := by decide +kernel
theorem dX4_setThatIs_22 : decode cX4_setThatIs 22 = .ok (.ishl, 1) := by decide +kernel
theorem dX4_setThatIs_23 : decode cX4_setThatIs 23 = .ok (.goto 4, 3) := by decide +kernel
theorem dX4_setThatIs_26 : decode cX4_setThatIs 26 = .ok (.iconst 0, 1) := by decide +kernel
theorem dX4_setThatIs_27 : decode cX4_setThatIs 27 = .ok (.ior, 1) := by decide +kernel
theorem dX4_setThatIs_28 : decode cX4_setThatIs 28 = .ok (.istore_n 2, 1) := by decide +kernel
theorem dX4_setThatIs_29 : decode cX4_setThatIs 29 = .ok (.iinc 3 1, 3) := by decide +kernel
theorem dX4_setThatIs_32 : decode cX4_setThatIs 32 = .ok (.goto (-28), 3) := by decide +kernel
theorem dX4_setThatIs_35 : decode cX4_setThatIs 35 = .ok (.iload_n 2, 1) := by decide +kernel
theorem dX4_setThatIs_36 : decode cX4_setThatIs 36 = .ok (.ireturn, 1) := by decide +kernel
set_option maxRecDepth 20000 in
theorem ggX4_howManyInPan_X4_setThatIs : GoodIn wsX4_howManyInPan wsX4_setThatIs := goodIn_r _ [5, 6, 7, 8, 4, 9, 10, 11, 12, 13, 14, 15, 16, 17, 25, 26, 27, 28, 29, 30, 31, 32, 33, 34, 35, 36, 37, 38, 39, 40, 41, 42, 43] (by decide +kernel) (by decide +kernel)
set_option maxRecDepth 20000 in
theorem gX4_howManyInPan_X4_setThatIs : GoodIn wsX4_howManyInPan (wsV RX4 64 RX4 yX4_setThatIs wsX4_setThatIs) := goodIn_app (goodIn_of _ (by decide +kernel)) ggX4_howManyInPan_X4_setThatIs
set_option maxRecDepth 20000 in
theorem ggX4_howManyInPan_J6_bitCount_0f7a4 : GoodIn wsX4_howManyInPan wsJ6_bitCount_0f7a4 := goodIn_r _ [21, 22, 23, 24] (by decide +kernel) (by decide +kernel)
set_option maxRecDepth 20000 in
theorem gX4_howManyInPan_J6_bitCount_0f7a4 : GoodIn wsX4_howManyInPan (va_wsS RX4 67 yJ6_bitCount_0f7a4 wsJ6_bitCount_0f7a4) := goodIn_app (goodIn_of _ (by decide +kernel)) ggX4_howManyInPan_J6_bitCount_0f7a4
theorem dX4_howManyInPan_0 : decode cX4_howManyInPan 0 = .ok (.aload_n 0, 1) := by decide +kernel
theorem dX4_howManyInPan_1 : decode cX4_howManyInPan 1 = .ok (.iconst 1, 1) := by decide +kernel
theorem dX4_howManyInPan_2 : decode cX4_howManyInPan 2 = .ok (.invokevirtual 64, 3) := by decide +kernel
theorem dX4_howManyInPan_5 : decode cX4_howManyInPan 5 = .ok (.invokestatic 67, 3) := by decide +kernel
theorem dX4_howManyInPan_8 : decode cX4_howManyInPan 8 = .ok (.ireturn, 1) := by decide +kernel
set_option maxRecDepth 20000 in
theorem ggX4_pretenders_X4_stateOf : GoodIn wsX4_pretenders wsX4_stateOf := goodIn_r _ [5, 6, 7, 8, 9, 10, 11, 12, 13, 37, 38, 39, 40, 41, 42, 43, 44, 45, 46, 47, 48, 49, 50, 51, 52, 53, 54, 55] (by decide +kernel) (by decide +kernel)
set_option maxRecDepth 20000 in
theorem gX4_pretenders_X4_stateOf : GoodIn wsX4_pretenders (wsV RX4 61 RX4 yX4_stateOf wsX4_stateOf) := goodIn_app (goodIn_of _ (by decide +kernel)) ggX4_pretenders_X4_stateOf
set_option maxRecDepth 20000 in
theorem ggX4_pretenders_X4_hardnessOf : GoodIn wsX4_pretenders wsX4_hardnessOf := goodIn_r _ [17, 6, 18, 19, 20, 4, 21, 22, 8, 9, 10, 11, 12, 13, 23, 24, 25, 26, 27, 28, 29, 30, 31, 32, 33, 34, 35, 36, 37, 38, 39, 40, 41, 42, 43, 44, 45, 46, 47, 48, 49, 50, 51, 52, 53, 54, 55] (by decide +kernel) (by decide +kernel)
set_option maxRecDepth 20000 in
theorem gX4_pretenders_X4_hardnessOf : GoodIn wsX4_pretenders (wsV RX4 72 RX4 yX4_hardnessOf wsX4_hardnessOf) := goodIn_app (goodIn_of _ (by decide +kernel)) ggX4_pretenders_X4_hardnessOf
theorem dX4_pretenders_0 : decode cX4_pretenders 0 = .ok (.iconst 0, 1) := by decide +kernel
theorem dX4_pretenders_1 : decode cX4_pretenders 1 = .ok (.istore_n 1, 1) := by decide +kernel
theorem dX4_pretenders_2 : decode cX4_pretenders 2 = .ok (.iconst 0, 1) := by decide +kernel
theorem dX4_pretenders_3 : decode cX4_pretenders 3 = .ok (.istore_n 2, 1) := by decide +kernel
theorem dX4_pretenders_4 : decode cX4_pretenders 4 = .ok (.iload_n 2, 1) := by decide +kernel
theorem dX4_pretenders_5 : decode cX4_pretenders 5 = .ok (.bipush 7, 2) := by decide +kernel
theorem dX4_pretenders_7 : decode cX4_pretenders 7 = .ok (.if_icmp .ge 36, 3) := by decide +kernel
theorem dX4_pretenders_10 : decode cX4_pretenders 10 = .ok (.iload_n 1, 1) := by decide +kernel
theorem dX4_pretenders_11 : decode cX4_pretenders 11 = .ok (.aload_n 0, 1) := by decide +kernel
theorem dX4_pretenders_12 : decode cX4_pretenders 12 = .ok (.iload_n 2, 1) := by decide +kernel
theorem dX4_pretenders_13 : decode cX4_pretenders 13 = .ok (.invokevirtual 61, 3) := by decide +kernel
theorem dX4_pretenders_16 : decode cX4_pretenders 16 = .ok (.iconst 2, 1) := by decide +kernel
theorem dX4_pretenders_17 : decode cX4_pretenders 17 = .ok (.if_icmp .ne 17, 3) := by decide +kernel
theorem dX4_pretenders_20 : decode cX4_pretenders 20 = .ok (.aload_n 0, 1) := by decide +kernel
theorem dX4_pretenders_21 : decode cX4_pretenders 21 = .ok (.iload_n 2, 1) := by decide +kernel
theorem dX4_pretenders_22 : decode cX4_pretenders 22 = .ok (.invokevirtual 72, 3) := by decide +kernel
theorem dX4_pretenders_25 : decode cX4_pretenders 25 = .ok (.ifCond .ne 9, 3) := by decide +kernel
theorem dX4_pretenders_28 : decode cX4_pretenders 28 = .ok (.iconst 1, 1) := by decide +kernel
theorem dX4_pretenders_29 : decode cX4_pretenders 29 = .ok (.iload_n 2, 1) := by decide +kernel
theorem dX4_pretenders_30 : decode cX4_pretenders 30 = .ok (.ishl, 1) := by decide +kernel
theorem dX4_pretenders_31 : decode cX4_pretenders 31 = .ok (.goto 4, 3) := by decide +kernel
theorem dX4_pretenders_34 : decode cX4_pretenders 34 = .ok (.iconst 0, 1) := by decide +kernel
theorem dX4_pretenders_35 : decode cX4_pretenders 35 = .ok (.ior, 1) := by decide +kernel
theorem dX4_pretenders_36 : decode cX4_pretenders 36 = .ok (.istore_n 1, 1) := by decide +kernel
theorem dX4_pretenders_37 : decode cX4_pretenders 37 = .ok (.iinc 2 1, 3) := by decide +kernel
theorem dX4_pretenders_40 : decode cX4_pretenders 40 = .ok (.goto (-36), 3) := by decide +kernel
theorem dX4_pretenders_43 : decode cX4_pretenders 43 = .ok (.iload_n 1, 1) := by decide +kernel
theorem dX4_pretenders_44 : decode cX4_pretenders 44 = .ok (.ireturn, 1) := by decide +kernel
set_option maxRecDepth 20000 in
theorem ggX4_heir_X4_stateOf : GoodIn wsX4_heir wsX4_stateOf := goodIn_r _ [5, 6, 7, 8, 9, 10, 11, 12, 13, 45, 46, 47, 48, 49, 50, 51, 52, 53, 54, 55, 56, 57, 58, 59, 60, 61, 62, 63] (by decide +kernel) (by decide +kernel)
set_option maxRecDepth 20000 in
theorem gX4_heir_X4_stateOf : GoodIn wsX4_heir (wsV RX4 61 RX4 yX4_stateOf wsX4_stateOf) := goodIn_app (goodIn_of _ (by decide +kernel)) ggX4_heir_X4_stateOf
set_option maxRecDepth 20000 in
theorem ggX4_heir_X4_reignOf : GoodIn wsX4_heir wsX4_reignOf := goodIn_r _ [17, 6, 18, 19, 20, 4, 21, 22, 8, 9, 10, 11, 12, 13, 23, 24, 25, 26, 27, 28, 29, 30, 31, 32, 33, 34, 35, 36, 37, 38, 39, 40, 41, 42, 43, 44, 45, 46, 47, 48, 49, 50, 51, 52, 53, 54, 55, 56, 57, 58, 59, 60, 61, 62, 63] (by decide +kernel) (by decide +kernel)
set_option maxRecDepth 20000 in
theorem gX4_heir_X4_reignOf : GoodIn wsX4_heir (wsV RX4 75 RX4 yX4_reignOf wsX4_reignOf) := goodIn_app (goodIn_of _ (by decide +kernel)) ggX4_heir_X4_reignOf
theorem dX4_heir_0 : decode cX4_heir 0 = .ok (.iconst (-1), 1) := by decide +kernel
theorem dX4_heir_1 : decode cX4_heir 1 = .ok (.istore_n 1, 1) := by decide +kernel
theorem dX4_heir_2 : decode cX4_heir 2 = .ok (.iconst 0, 1) := by decide +kernel
theorem dX4_heir_3 : decode cX4_heir 3 = .ok (.istore_n 2, 1) := by decide +kernel
theorem dX4_heir_4 : decode cX4_heir 4 = .ok (.iload_n 2, 1) := by decide +kernel
theorem dX4_heir_5 : decode cX4_heir 5 = .ok (.bipush 7, 2) := by decide +kernel
theorem dX4_heir_7 : decode cX4_heir 7 = .ok (.if_icmp .ge 38, 3) := by decide +kernel
theorem dX4_heir_10 : decode cX4_heir 10 = .ok (.aload_n 0, 1) := by decide +kernel
theorem dX4_heir_11 : decode cX4_heir 11 = .ok (.iload_n 2, 1) := by decide +kernel
theorem dX4_heir_12 : decode cX4_heir 12 = .ok (.invokevirtual 61, 3) := by decide +kernel
theorem dX4_heir_15 : decode cX4_heir 15 = .ok (.iconst 2, 1) := by decide +kernel
theorem dX4_heir_16 : decode cX4_heir 16 = .ok (.if_icmp .ne 23, 3) := by decide +kernel
theorem dX4_heir_19 : decode cX4_heir 19 = .ok (.iload_n 1, 1) := by decide +kernel
theorem dX4_heir_20 : decode cX4_heir 20 = .ok (.iconst (-1), 1) := by decide +kernel
theorem dX4_heir_21 : decode cX4_heir 21 = .ok (.if_icmp .eq 16, 3) := by decide +kernel
theorem dX4_heir_24 : decode cX4_heir 24 = .ok (.aload_n 0, 1) := by decide +kernel
theorem dX4_heir_25 : decode cX4_heir 25 = .ok (.iload_n 2, 1) := by decide +kernel
theorem dX4_heir_26 : decode cX4_heir 26 = .ok (.invokevirtual 75, 3) := by decide +kernel
theorem dX4_heir_29 : decode cX4_heir 29 = .ok (.aload_n 0, 1) := by decide +kernel
theorem dX4_heir_30 : decode cX4_heir 30 = .ok (.iload_n 1, 1) := by decide +kernel
theorem dX4_heir_31 : decode cX4_heir 31 = .ok (.invokevirtual 75, 3) := by decide +kernel
theorem dX4_heir_34 : decode cX4_heir 34 = .ok (.if_icmp .le 5, 3) := by decide +kernel
theorem dX4_heir_37 : decode cX4_heir 37 = .ok (.iload_n 2, 1) := by decide +kernel
theorem dX4_heir_38 : decode cX4_heir 38 = .ok (.istore_n 1, 1) := by decide +kernel
theorem dX4_heir_39 : decode cX4_heir 39 = .ok (.iinc 2 1, 3) := by decide +kernel
theorem dX4_heir_42 : decode cX4_heir 42 = .ok (.goto (-38), 3) := by decide +kernel
theorem dX4_heir_45 : decode cX4_heir 45 = .ok (.iload_n 1, 1) := by decide +kernel
theorem dX4_heir_46 : decode cX4_heir 46 = .ok (.ireturn, 1) := by decide +kernel
set_option maxRecDepth 20000 in
theorem ggX4_canGoIn_X4_stateOf : GoodIn wsX4_canGoIn wsX4_stateOf := goodIn_r _ [6, 1, 7, 8, 9, 10, 11, 12, 13, 29, 30, 31, 32, 33, 34, 35, 36, 37, 38, 39, 40, 41, 42, 43, 44, 45, 46, 47] (by decide +kernel) (by decide +kernel)
set_option maxRecDepth 20000 in
theorem gX4_canGoIn_X4_stateOf : GoodIn wsX4_canGoIn (wsV RX4 61 RX4 yX4_stateOf wsX4_stateOf) := goodIn_app (goodIn_of _ (by decide +kernel)) ggX4_canGoIn_X4_stateOf
set_option maxRecDepth 20000 in
theorem ggX4_canGoIn_X4_howManyInPan : GoodIn wsX4_canGoIn wsX4_howManyInPan := goodIn_r _ [17, 18, 19, 20, 5, 21, 2, 3, 4, 6, 1, 7, 8, 9, 10, 11, 12, 13, 22, 23, 24, 25, 26, 27, 28, 29, 30, 31, 32, 33, 34, 35, 36, 37, 38, 39, 40, 41, 42, 43, 44, 45, 46, 47] (by decide +kernel) (by decide +kernel)
set_option maxRecDepth 20000 in
theorem gX4_canGoIn_X4_howManyInPan : GoodIn wsX4_canGoIn (wsV RX4 78 RX4 yX4_howManyInPan wsX4_howManyInPan) := goodIn_app (goodIn_of _ (by decide +kernel)) ggX4_canGoIn_X4_howManyInPan
theorem dX4_canGoIn_0 : decode cX4_canGoIn 0 = .ok (.aload_n 0, 1) := by decide +kernel
theorem dX4_canGoIn_1 : decode cX4_canGoIn 1 = .ok (.iload_n 1, 1) := by decide +kernel
theorem dX4_canGoIn_2 : decode cX4_canGoIn 2 = .ok (.invokevirtual 61, 3) := by decide +kernel
theorem dX4_canGoIn_5 : decode cX4_canGoIn 5 = .ok (.istore_n 2, 1) := by decide +kernel
theorem dX4_canGoIn_6 : decode cX4_canGoIn 6 = .ok (.iload_n 2, 1) := by decide +kernel
theorem dX4_canGoIn_7 : decode cX4_canGoIn 7 = .ok (.ifCond .eq 8, 3) := by decide +kernel
theorem dX4_canGoIn_10 : decode cX4_canGoIn 10 = .ok (.iload_n 2, 1) := by decide +kernel
theorem dX4_canGoIn_11 : decode cX4_canGoIn 11 = .ok (.iconst 2, 1) := by decide +kernel
theorem dX4_canGoIn_12 : decode cX4_canGoIn 12 = .ok (.if_icmp .ne 21, 3) := by decide +kernel
theorem dX4_canGoIn_15 : decode cX4_canGoIn 15 = .ok (.aload_n 0, 1) := by decide +kernel
theorem dX4_canGoIn_16 : decode cX4_canGoIn 16 = .ok (.invokevirtual 78, 3) := by decide +kernel
theorem dX4_canGoIn_19 : decode cX4_canGoIn 19 = .ok (.aload_n 0, 1) := by decide +kernel
theorem dX4_canGoIn_20 : decode cX4_canGoIn 20 = .ok (.getfield 9, 3) := by decide +kernel
theorem dX4_canGoIn_23 : decode cX4_canGoIn 23 = .ok (.getfield 82, 3) := by decide +kernel
theorem dX4_canGoIn_26 : decode cX4_canGoIn 26 = .ok (.if_icmp .ge 7, 3) := by decide +kernel
theorem dX4_canGoIn_29 : decode cX4_canGoIn 29 = .ok (.iconst 1, 1) := by decide +kernel
theorem dX4_canGoIn_30 : decode cX4_canGoIn 30 = .ok (.goto 4, 3) := by decide +kernel
theorem dX4_canGoIn_33 : decode cX4_canGoIn 33 = .ok (.iconst 0, 1) := by decide +kernel
theorem dX4_canGoIn_34 : decode cX4_canGoIn 34 = .ok (.ireturn, 1) := by decide +kernel
set_option maxRecDepth 20000 in
theorem ggX4_goIn_X4_setState : GoodIn wsX4_goIn wsX4_setState := goodIn_r _ [5, 6, 7, 8, 9, 10, 11, 12, 13, 14, 15, 16, 17, 18, 19, 20, 21, 22, 23, 24, 25, 26, 27, 28, 29, 30, 31, 32] (by decide +kernel) (by decide +kernel)
set_option maxRecDepth 20000 in
theorem gX4_goIn_X4_setState : GoodIn wsX4_goIn (wsV RX4 85 RX4 yX4_setState wsX4_setState) := goodIn_app (goodIn_of _ (by decide +kernel)) ggX4_goIn_X4_setState
theorem dX4_goIn_0 : decode cX4_goIn 0 = .ok (.aload_n 0, 1) := by decide +kernel
theorem dX4_goIn_1 : decode cX4_goIn 1 = .ok (.iload_n 1, 1) := by decide +kernel
theorem dX4_goIn_2 : decode cX4_goIn 2 = .ok (.iconst 1, 1) := by decide +kernel
theorem dX4_goIn_3 : decode cX4_goIn 3 = .ok (.invokevirtual 85, 3) := by decide +kernel
theorem dX4_goIn_6 : decode cX4_goIn 6 = .ok (.return_, 1) := by decide +kernel
set_option maxRecDepth 20000 in
theorem ggX4_canComeOut_X4_stateOf : GoodIn wsX4_canComeOut wsX4_stateOf := goodIn_r _ [5, 6, 7, 8, 9, 10, 11, 12, 13, 14, 15, 16, 17, 18, 19, 20, 21, 22, 23, 24, 25, 26, 27, 28, 29, 30, 31, 32] (by decide +kernel) (by decide +kernel)
set_option maxRecDepth 20000 in
theorem gX4_canComeOut_X4_stateOf : GoodIn wsX4_canComeOut (wsV RX4 61 RX4 yX4_stateOf wsX4_stateOf) := goodIn_app (goodIn_of _ (by decide +kernel)) ggX4_canComeOut_X4_stateOf
theorem dX4_canComeOut_0 : decode cX4_canComeOut 0 = .ok (.aload_n 0, 1) := by decide +kernel
theorem dX4_canComeOut_1 : decode cX4_canComeOut 1 = .ok (.iload_n 1, 1) := by decide +kernel
theorem dX4_canComeOut_2 : decode cX4_canComeOut 2 = .ok (.invokevirtual 61, 3) := by decide +kernel
theorem dX4_canComeOut_5 : decode cX4_canComeOut 5 = .ok (.iconst 1, 1) := by decide +kernel
theorem dX4_canComeOut_6 : decode cX4_canComeOut 6 = .ok (.if_icmp .ne 7, 3) := by decide +kernel
theorem dX4_canComeOut_9 : decode cX4_canComeOut 9 = .ok (.iconst 1, 1) := by decide +kernel
theorem dX4_canComeOut_10 : decode cX4_canComeOut 10 = .ok (.goto 4, 3) := by decide +kernel
theorem dX4_canComeOut_13 : decode cX4_canComeOut 13 = .ok (.iconst 0, 1) := by decide +kernel
theorem dX4_canComeOut_14 : decode cX4_canComeOut 14 = .ok (.ireturn, 1) := by decide +kernel
set_option maxRecDepth 20000 in
theorem ggX4_comeOut_X4_setState : GoodIn wsX4_comeOut wsX4_setState := goodIn_r _ [5, 6, 7, 8, 9, 10, 11, 12, 13, 14, 15, 16, 17, 18, 19, 20, 21, 22, 23, 24, 25, 26, 27, 28, 29, 30, 31, 32] (by decide +kernel) (by decide +kernel)
set_option maxRecDepth 20000 in
theorem gX4_comeOut_X4_setState : GoodIn wsX4_comeOut (wsV RX4 85 RX4 yX4_setState wsX4_setState) := goodIn_app (goodIn_of _ (by decide +kernel)) ggX4_comeOut_X4_setState
theorem dX4_comeOut_0 : decode cX4_comeOut 0 = .ok (.aload_n 0, 1) := by decide +kernel
theorem dX4_comeOut_1 : decode cX4_comeOut 1 = .ok (.iload_n 1, 1) := by decide +kernel
theorem dX4_comeOut_2 : decode cX4_comeOut 2 = .ok (.iconst 2, 1) := by decide +kernel
theorem dX4_comeOut_3 : decode cX4_comeOut 3 = .ok (.invokevirtual 85, 3) := by decide +kernel
theorem dX4_comeOut_6 : decode cX4_comeOut 6 = .ok (.return_, 1) := by decide +kernel
set_option maxRecDepth 20000 in
theorem ggX4_canBeKing_X4_stateOf : GoodIn wsX4_canBeKing wsX4_stateOf := goodIn_r _ [6, 7, 8, 9, 10, 11, 12, 13, 14, 15, 16, 17, 18, 19, 20, 21, 22, 23, 24, 25, 26, 27, 28, 29, 30, 31, 32, 33] (by decide +kernel) (by decide +kernel)
set_option maxRecDepth 20000 in
theorem gX4_canBeKing_X4_stateOf : GoodIn wsX4_canBeKing (wsV RX4 61 RX4 yX4_stateOf wsX4_stateOf) := goodIn_app (goodIn_of _ (by decide +kernel)) ggX4_canBeKing_X4_stateOf
theorem dX4_canBeKing_0 : decode cX4_canBeKing 0 = .ok (.aload_n 0, 1) := by decide +kernel
theorem dX4_canBeKing_1 : decode cX4_canBeKing 1 = .ok (.iload_n 1, 1) := by decide +kernel
theorem dX4_canBeKing_2 : decode cX4_canBeKing 2 = .ok (.invokevirtual 61, 3) := by decide +kernel
theorem dX4_canBeKing_5 : decode cX4_canBeKing 5 = .ok (.iconst 2, 1) := by decide +kernel
theorem dX4_canBeKing_6 : decode cX4_canBeKing 6 = .ok (.if_icmp .ne 15, 3) := by decide +kernel
theorem dX4_canBeKing_9 : decode cX4_canBeKing 9 = .ok (.aload_n 0, 1) := by decide +kernel
theorem dX4_canBeKing_10 : decode cX4_canBeKing 10 = .ok (.getfield 22, 3) := by decide +kernel
theorem dX4_canBeKing_13 : decode cX4_canBeKing 13 = .ok (.iconst (-1), 1) := by decide +kernel
theorem dX4_canBeKing_14 : decode cX4_canBeKing 14 = .ok (.if_icmp .ne 7, 3) := by decide +kernel
theorem dX4_canBeKing_17 : decode cX4_canBeKing 17 = .ok (.iconst 1, 1) := by decide +kernel
theorem dX4_canBeKing_18 : decode cX4_canBeKing 18 = .ok (.goto 4, 3) := by decide +kernel
theorem dX4_canBeKing_21 : decode cX4_canBeKing 21 = .ok (.iconst 0, 1) := by decide +kernel
theorem dX4_canBeKing_22 : decode cX4_canBeKing 22 = .ok (.ireturn, 1) := by decide +kernel
set_option maxRecDepth 20000 in
theorem ggX4_becomeKing_X4_setState : GoodIn wsX4_becomeKing wsX4_setState := goodIn_r _ [7, 8, 9, 10, 11, 12, 13, 14, 15, 47, 48, 49, 50, 51, 52, 53, 54, 55, 56, 57, 58, 59, 60, 61, 62, 63, 64, 65] (by decide +kernel) (by decide +kernel)
set_option maxRecDepth 20000 in
theorem gX4_becomeKing_X4_setState : GoodIn wsX4_becomeKing (wsV RX4 85 RX4 yX4_setState wsX4_setState) := goodIn_app (goodIn_of _ (by decide +kernel)) ggX4_becomeKing_X4_setState
set_option maxRecDepth 20000 in
theorem ggX4_becomeKing_X4_reignOf : GoodIn wsX4_becomeKing wsX4_reignOf := goodIn_r _ [19, 8, 20, 21, 22, 6, 23, 24, 10, 11, 12, 13, 14, 15, 25, 26, 27, 28, 29, 30, 31, 32, 33, 34, 35, 36, 37, 38, 39, 40, 41, 42, 43, 44, 45, 46, 47, 48, 49, 50, 51, 52, 53, 54, 55, 56, 57, 58, 59, 60, 61, 62, 63, 64, 65] (by decide +kernel) (by decide +kernel)
set_option maxRecDepth 20000 in
theorem gX4_becomeKing_X4_reignOf : GoodIn wsX4_becomeKing (wsV RX4 75 RX4 yX4_reignOf wsX4_reignOf) := goodIn_app (goodIn_of _ (by decide +kernel)) ggX4_becomeKing_X4_reignOf
theorem dX4_becomeKing_0 : decode cX4_becomeKing 0 = .ok (.aload_n 0, 1) := by decide +kernel
theorem dX4_becomeKing_1 : decode cX4_becomeKing 1 = .ok (.iload_n 1, 1) := by decide +kernel
theorem dX4_becomeKing_2 : decode cX4_becomeKing 2 = .ok (.iconst 3, 1) := by decide +kernel
theorem dX4_becomeKing_3 : decode cX4_becomeKing 3 = .ok (.invokevirtual 85, 3) := by decide +kernel
theorem dX4_becomeKing_6 : decode cX4_becomeKing 6 = .ok (.aload_n 0, 1) := by decide +kernel
theorem dX4_becomeKing_7 : decode cX4_becomeKing 7 = .ok (.iload_n 1, 1) := by decide +kernel
theorem dX4_becomeKing_8 : decode cX4_becomeKing 8 = .ok (.putfield 22, 3) := by decide +kernel
theorem dX4_becomeKing_11 : decode cX4_becomeKing 11 = .ok (.aload_n 0, 1) := by decide +kernel
theorem dX4_becomeKing_12 : decode cX4_becomeKing 12 = .ok (.aload_n 0, 1) := by decide +kernel
theorem dX4_becomeKing_13 : decode cX4_becomeKing 13 = .ok (.iload_n 1, 1) := by decide +kernel
theorem dX4_becomeKing_14 : decode cX4_becomeKing 14 = .ok (.invokevirtual 75, 3) := by decide +kernel
theorem dX4_becomeKing_17 : decode cX4_becomeKing 17 = .ok (.putfield 26, 3) := by decide +kernel
theorem dX4_becomeKing_20 : decode cX4_becomeKing 20 = .ok (.return_, 1) := by decide +kernel
set_option maxRecDepth 20000 in
theorem ggX4_passMinute_X4_stateOf : GoodIn wsX4_passMinute wsX4_stateOf := goodIn_r _ [7, 8, 9, 10, 11, 12, 13, 14, 15, 37, 38, 39, 40, 41, 42, 43, 44, 45, 46, 47, 48, 49, 50, 51, 52, 53, 54, 55] (by decide +kernel) (by decide +kernel)
set_option maxRecDepth 20000 in
theorem gX4_passMinute_X4_stateOf : GoodIn wsX4_passMinute (wsV RX4 61 RX4 yX4_stateOf wsX4_stateOf) := goodIn_app (goodIn_of _ (by decide +kernel)) ggX4_passMinute_X4_stateOf
set_option maxRecDepth 20000 in
theorem ggX4_passMinute_X4_boilOneMore : GoodIn wsX4_passMinute wsX4_boilOneMore := goodIn_r _ [19, 8, 20, 9, 10, 11, 12, 13, 14, 15, 37, 38, 39, 40, 41, 42, 43, 44, 45, 46, 47, 48, 49, 50, 51, 52, 53, 54, 55] (by decide +kernel) (by decide +kernel)
set_option maxRecDepth 20000 in
theorem gX4_passMinute_X4_boilOneMore : GoodIn wsX4_passMinute (wsV RX4 89 RX4 yX4_boilOneMore wsX4_boilOneMore) := goodIn_app (goodIn_of _ (by decide +kernel)) ggX4_passMinute_X4_boilOneMore
set_option maxRecDepth 20000 in
theorem ggX4_passMinute_X4_passMinuteOfKing : GoodIn wsX4_passMinute wsX4_passMinuteOfKing := goodIn_r _ [24, 25, 26, 27, 28, 29, 30, 31, 6, 32, 2, 33, 34, 35, 36, 8, 9, 10, 11, 12, 13, 14, 15, 37, 38, 39, 40, 41, 42, 43, 44, 45, 46, 47, 48, 49, 50, 51, 52, 53, 54, 55] (by decide +kernel) (by decide +kernel)
set_option maxRecDepth 20000 in
theorem gX4_passMinute_X4_passMinuteOfKing : GoodIn wsX4_passMinute (wsV RX4 93 RX4 yX4_passMinuteOfKing wsX4_passMinuteOfKing) := goodIn_app (goodIn_of _ (by decide +kernel)) ggX4_passMinute_X4_passMinuteOfKing
theorem dX4_passMinute_0 : decode cX4_passMinute 0 = .ok (.aload_n 0, 1) := by decide +kernel
theorem dX4_passMinute_1 : decode cX4_passMinute 1 = .ok (.dup, 1) := by decide +kernel
theorem dX4_passMinute_2 : decode cX4_passMinute 2 = .ok (.getfield 32, 3) := by decide +kernel
theorem dX4_passMinute_5 : decode cX4_passMinute 5 = .ok (.iconst 1, 1) := by decide +kernel
theorem dX4_passMinute_6 : decode cX4_passMinute 6 = .ok (.iadd, 1) := by decide +kernel
theorem dX4_passMinute_7 : decode cX4_passMinute 7 = .ok (.putfield 32, 3) := by decide +kernel
theorem dX4_passMinute_10 : decode cX4_passMinute 10 = .ok (.iconst 0, 1) := by decide +kernel
theorem dX4_passMinute_11 : decode cX4_passMinute 11 = .ok (.istore_n 1, 1) := by decide +kernel
theorem dX4_passMinute_12 : decode cX4_passMinute 12 = .ok (.iload_n 1, 1) := by decide +kernel
theorem dX4_passMinute_13 : decode cX4_passMinute 13 = .ok (.bipush 7, 2) := by decide +kernel
theorem dX4_passMinute_15 : decode cX4_passMinute 15 = .ok (.if_icmp .ge 23, 3) := by decide +kernel
theorem dX4_passMinute_18 : decode cX4_passMinute 18 = .ok (.aload_n 0, 1) := by decide +kernel
theorem dX4_passMinute_19 : decode cX4_passMinute 19 = .ok (.iload_n 1, 1) := by decide +kernel
theorem dX4_passMinute_20 : decode cX4_passMinute 20 = .ok (.invokevirtual 61, 3) := by decide +kernel
theorem dX4_passMinute_23 : decode cX4_passMinute 23 = .ok (.iconst 1, 1) := by decide +kernel
theorem dX4_passMinute_24 : decode cX4_passMinute 24 = .ok (.if_icmp .ne 8, 3) := by decide +kernel
theorem dX4_passMinute_27 : decode cX4_passMinute 27 = .ok (.aload_n 0, 1) := by decide +kernel
theorem dX4_passMinute_28 : decode cX4_passMinute 28 = .ok (.iload_n 1, 1) := by decide +kernel
theorem dX4_passMinute_29 : decode cX4_passMinute 29 = .ok (.invokevirtual 89, 3) := by decide +kernel
theorem dX4_passMinute_32 : decode cX4_passMinute 32 = .ok (.iinc 1 1, 3) := by decide +kernel
theorem dX4_passMinute_35 : decode cX4_passMinute 35 = .ok (.goto (-23), 3) := by decide +kernel
theorem dX4_passMinute_38 : decode cX4_passMinute 38 = .ok (.aload_n 0, 1) := by decide +kernel
theorem dX4_passMinute_39 : decode cX4_passMinute 39 = .ok (.getfield 22, 3) := by decide +kernel
theorem dX4_passMinute_42 : decode cX4_passMinute 42 = .ok (.iconst (-1), 1) := by decide +kernel
theorem dX4_passMinute_43 : decode cX4_passMinute 43 = .ok (.if_icmp .eq 7, 3) := by decide +kernel
theorem dX4_passMinute_46 : decode cX4_passMinute 46 = .ok (.aload_n 0, 1) := by decide +kernel
theorem dX4_passMinute_47 : decode cX4_passMinute 47 = .ok (.invokevirtual 93, 3) := by decide +kernel
theorem dX4_passMinute_50 : decode cX4_passMinute 50 = .ok (.return_, 1) := by decide +kernel
set_option maxRecDepth 20000 in
theorem ggX4_boilOneMore_X8_hasEgg : GoodIn wsX4_boilOneMore wsX8_hasEgg := goodIn_r _ [8, 9, 19, 20, 21, 22, 23, 24, 25, 26, 27, 28] (by decide +kernel) (by decide +kernel)
set_option maxRecDepth 20000 in
theorem gX4_boilOneMore_X8_hasEgg : GoodIn wsX4_boilOneMore (wsV RX4 46 RX8 yX8_hasEgg wsX8_hasEgg) := goodIn_app (goodIn_of _ (by decide +kernel)) ggX4_boilOneMore_X8_hasEgg
theorem dX4_boilOneMore_0 : decode cX4_boilOneMore 0 = .ok (.aload_n 0, 1) := by decide +kernel
theorem dX4_boilOneMore_1 : decode cX4_boilOneMore 1 = .ok (.getfield 9, 3) := by decide +kernel
theorem dX4_boilOneMore_4 : decode cX4_boilOneMore 4 = .ok (.iload_n 1, 1) := by decide +kernel
theorem dX4_boilOneMore_5 : decode cX4_boilOneMore 5 = .ok (.invokevirtual 46, 3) := by decide +kernel
theorem dX4_boilOneMore_8 : decode cX4_boilOneMore 8 = .ok (.ifCond .eq 40, 3) := by decide +kernel
theorem dX4_boilOneMore_11 : decode cX4_boilOneMore 11 = .ok (.aload_n 0, 1) := by decide +kernel
theorem dX4_boilOneMore_12 : decode cX4_boilOneMore 12 = .ok (.getfield 19, 3) := by decide +kernel
theorem dX4_boilOneMore_15 : decode cX4_boilOneMore 15 = .ok (.iload_n 1, 1) := by decide +kernel
theorem dX4_boilOneMore_16 : decode cX4_boilOneMore 16 = .ok (.dup2, 1) := by decide +kernel
theorem dX4_boilOneMore_17 : decode cX4_boilOneMore 17 = .ok (.iaload, 1) := by decide +kernel
theorem dX4_boilOneMore_18 : decode cX4_boilOneMore 18 = .ok (.iconst 1, 1) := by decide +kernel
theorem dX4_boilOneMore_19 : decode cX4_boilOneMore 19 = .ok (.iadd, 1) := by decide +kernel
theorem dX4_boilOneMore_20 : decode cX4_boilOneMore 20 = .ok (.iastore, 1) := by decide +kernel
theorem dX4_boilOneMore_21 : decode cX4_boilOneMore 21 = .ok (.aload_n 0, 1) := by decide +kernel
theorem dX4_boilOneMore_22 : decode cX4_boilOneMore 22 = .ok (.getfield 15, 3) := by decide +kernel
theorem dX4_boilOneMore_25 : decode cX4_boilOneMore 25 = .ok (.iload_n 1, 1) := by decide +kernel
theorem dX4_boilOneMore_26 : decode cX4_boilOneMore 26 = .ok (.aload_n 0, 1) := by decide +kernel
theorem dX4_boilOneMore_27 : decode cX4_boilOneMore 27 = .ok (.getfield 19, 3) := by decide +kernel
theorem dX4_boilOneMore_30 : decode cX4_boilOneMore 30 = .ok (.iload_n 1, 1) := by decide +kernel
theorem dX4_boilOneMore_31 : decode cX4_boilOneMore 31 = .ok (.iaload, 1) := by decide +kernel
theorem dX4_boilOneMore_32 : decode cX4_boilOneMore 32 = .ok (.aload_n 0, 1) := by decide +kernel
theorem dX4_boilOneMore_33 : decode cX4_boilOneMore 33 = .ok (.getfield 9, 3) := by decide +kernel
theorem dX4_boilOneMore_36 : decode cX4_boilOneMore 36 = .ok (.getfield 96, 3) := by decide +kernel
theorem dX4_boilOneMore_39 : decode cX4_boilOneMore 39 = .ok (.if_icmp .le 7, 3) := by decide +kernel
theorem dX4_boilOneMore_42 : decode cX4_boilOneMore 42 = .ok (.iconst 5, 1) := by decide +kernel
theorem dX4_boilOneMore_43 : decode cX4_boilOneMore 43 = .ok (.goto 4, 3) := by decide +kernel
theorem dX4_boilOneMore_46 : decode cX4_boilOneMore 46 = .ok (.iconst 1, 1) := by decide +kernel
theorem dX4_boilOneMore_47 : decode cX4_boilOneMore 47 = .ok (.iastore, 1) := by decide +kernel
theorem dX4_boilOneMore_48 : decode cX4_boilOneMore 48 = .ok (.return_, 1) := by decide +kernel
set_option maxRecDepth 20000 in
theorem ggX4_passMinuteOfKing_X4_endReign : GoodIn wsX4_passMinuteOfKing wsX4_endReign := goodIn_r _ [9, 10, 3, 11, 12, 13, 8, 14, 15, 16, 17, 18, 19, 20, 21, 22, 23, 24, 25, 26, 27, 28, 29, 30, 31, 32, 33, 34, 35, 36, 37, 38, 39, 40, 41] (by decide +kernel) (by decide +kernel)
set_option maxRecDepth 20000 in
theorem gX4_passMinuteOfKing_X4_endReign : GoodIn wsX4_passMinuteOfKing (wsV RX4 99 RX4 yX4_endReign wsX4_endReign) := goodIn_app (goodIn_of _ (by decide +kernel)) ggX4_passMinuteOfKing_X4_endReign
theorem dX4_passMinuteOfKing_0 : decode cX4_passMinuteOfKing 0 = .ok (.aload_n 0, 1) := by decide +kernel
theorem dX4_passMinuteOfKing_1 : decode cX4_passMinuteOfKing 1 = .ok (.getfield 29, 3) := by decide +kernel
theorem dX4_passMinuteOfKing_4 : decode cX4_passMinuteOfKing 4 = .ok (.iconst 2, 1) := by decide +kernel
theorem dX4_passMinuteOfKing_5 : decode cX4_passMinuteOfKing 5 = .ok (.if_icmp .ge 9, 3) := by decide +kernel
theorem dX4_passMinuteOfKing_8 : decode cX4_passMinuteOfKing 8 = .ok (.aload_n 0, 1) := by decide +kernel
theorem dX4_passMinuteOfKing_9 : decode cX4_passMinuteOfKing 9 = .ok (.iconst 0, 1) := by decide +kernel
theorem dX4_passMinuteOfKing_10 : decode cX4_passMinuteOfKing 10 = .ok (.invokevirtual 99, 3) := by decide +kernel
theorem dX4_passMinuteOfKing_13 : decode cX4_passMinuteOfKing 13 = .ok (.return_, 1) := by decide +kernel
theorem dX4_passMinuteOfKing_14 : decode cX4_passMinuteOfKing 14 = .ok (.aload_n 0, 1) := by decide +kernel
theorem dX4_passMinuteOfKing_15 : decode cX4_passMinuteOfKing 15 = .ok (.dup, 1) := by decide +kernel
theorem dX4_passMinuteOfKing_16 : decode cX4_passMinuteOfKing 16 = .ok (.getfield 29, 3) := by decide +kernel
theorem dX4_passMinuteOfKing_19 : decode cX4_passMinuteOfKing 19 = .ok (.iconst 2, 1) := by decide +kernel
theorem dX4_passMinuteOfKing_20 : decode cX4_passMinuteOfKing 20 = .ok (.isub, 1) := by decide +kernel
theorem dX4_passMinuteOfKing_21 : decode cX4_passMinuteOfKing 21 = .ok (.putfield 29, 3) := by decide +kernel
theorem dX4_passMinuteOfKing_24 : decode cX4_passMinuteOfKing 24 = .ok (.aload_n 0, 1) := by decide +kernel
theorem dX4_passMinuteOfKing_25 : decode cX4_passMinuteOfKing 25 = .ok (.dup, 1) := by decide +kernel
theorem dX4_passMinuteOfKing_26 : decode cX4_passMinuteOfKing 26 = .ok (.getfield 35, 3) := by decide +kernel
theorem dX4_passMinuteOfKing_29 : decode cX4_passMinuteOfKing 29 = .ok (.iconst 1, 1) := by decide +kernel
theorem dX4_passMinuteOfKing_30 : decode cX4_passMinuteOfKing 30 = .ok (.iadd, 1) := by decide +kernel
theorem dX4_passMinuteOfKing_31 : decode cX4_passMinuteOfKing 31 = .ok (.putfield 35, 3) := by decide +kernel
theorem dX4_passMinuteOfKing_34 : decode cX4_passMinuteOfKing 34 = .ok (.aload_n 0, 1) := by decide +kernel
theorem dX4_passMinuteOfKing_35 : decode cX4_passMinuteOfKing 35 = .ok (.dup, 1) := by decide +kernel
theorem dX4_passMinuteOfKing_36 : decode cX4_passMinuteOfKing 36 = .ok (.getfield 26, 3) := by decide +kernel
theorem dX4_passMinuteOfKing_39 : decode cX4_passMinuteOfKing 39 = .ok (.iconst 1, 1) := by decide +kernel
theorem dX4_passMinuteOfKing_40 : decode cX4_passMinuteOfKing 40 = .ok (.isub, 1) := by decide +kernel
theorem dX4_passMinuteOfKing_41 : decode cX4_passMinuteOfKing 41 = .ok (.putfield 26, 3) := by decide +kernel
theorem dX4_passMinuteOfKing_44 : decode cX4_passMinuteOfKing 44 = .ok (.aload_n 0, 1) := by decide +kernel
theorem dX4_passMinuteOfKing_45 : decode cX4_passMinuteOfKing 45 = .ok (.getfield 26, 3) := by decide +kernel
theorem dX4_passMinuteOfKing_48 : decode cX4_passMinuteOfKing 48 = .ok (.ifCond .gt 18, 3) := by decide +kernel
theorem dX4_passMinuteOfKing_51 : decode cX4_passMinuteOfKing 51 = .ok (.aload_n 0, 1) := by decide +kernel
theorem dX4_passMinuteOfKing_52 : decode cX4_passMinuteOfKing 52 = .ok (.dup, 1) := by decide +kernel
theorem dX4_passMinuteOfKing_53 : decode cX4_passMinuteOfKing 53 = .ok (.getfield 38, 3) := by decide +kernel
theorem dX4_passMinuteOfKing_56 : decode cX4_passMinuteOfKing 56 = .ok (.iconst 1, 1) := by decide +kernel
theorem dX4_passMinuteOfKing_57 : decode cX4_passMinuteOfKing 57 = .ok (.iadd, 1) := by decide +kernel
theorem dX4_passMinuteOfKing_58 : decode cX4_passMinuteOfKing 58 = .ok (.putfield 38, 3) := by decide +kernel
theorem dX4_passMinuteOfKing_61 : decode cX4_passMinuteOfKing 61 = .ok (.aload_n 0, 1) := by decide +kernel
theorem dX4_passMinuteOfKing_62 : decode cX4_passMinuteOfKing 62 = .ok (.iconst 4, 1) := by decide +kernel
theorem dX4_passMinuteOfKing_63 : decode cX4_passMinuteOfKing 63 = .ok (.invokevirtual 99, 3) := by decide +kernel
theorem dX4_passMinuteOfKing_66 : decode cX4_passMinuteOfKing 66 = .ok (.return_, 1) := by decide +kernel
set_option maxRecDepth 20000 in
theorem ggX4_endReign_X4_setState : GoodIn wsX4_endReign wsX4_setState := goodIn_r _ [7, 8, 9, 10, 11, 12, 13, 14, 15, 16, 17, 18, 19, 20, 21, 22, 23, 24, 25, 26, 27, 28, 29, 30, 31, 32, 33, 34] (by decide +kernel) (by decide +kernel)
set_option maxRecDepth 20000 in
theorem gX4_endReign_X4_setState : GoodIn wsX4_endReign (wsV RX4 85 RX4 yX4_setState wsX4_setState) := goodIn_app (goodIn_of _ (by decide +kernel)) ggX4_endReign_X4_setState
theorem dX4_endReign_0 : decode cX4_endReign 0 = .ok (.aload_n 0, 1) := by decide +kernel
theorem dX4_endReign_1 : decode cX4_endReign 1 = .ok (.aload_n 0, 1) := by decide +kernel
theorem dX4_endReign_2 : decode cX4_endReign 2 = .ok (.getfield 22, 3) := by decide +kernel
theorem dX4_endReign_5 : decode cX4_endReign 5 = .ok (.iload_n 1, 1) := by decide +kernel
theorem dX4_endReign_6 : decode cX4_endReign 6 = .ok (.invokevirtual 85, 3) := by decide +kernel
theorem dX4_endReign_9 : decode cX4_endReign 9 = .ok (.aload_n 0, 1) := by decide +kernel
theorem dX4_endReign_10 : decode cX4_endReign 10 = .ok (.iconst (-1), 1) := by decide +kernel
theorem dX4_endReign_11 : decode cX4_endReign 11 = .ok (.putfield 22, 3) := by decide +kernel
theorem dX4_endReign_14 : decode cX4_endReign 14 = .ok (.aload_n 0, 1) := by decide +kernel
theorem dX4_endReign_15 : decode cX4_endReign 15 = .ok (.iconst 0, 1) := by decide +kernel
theorem dX4_endReign_16 : decode cX4_endReign 16 = .ok (.putfield 26, 3) := by decide +kernel
theorem dX4_endReign_19 : decode cX4_endReign 19 = .ok (.return_, 1) := by decide +kernel
set_option maxRecDepth 20000 in
theorem ggX4_setState_X8_hasEgg : GoodIn wsX4_setState wsX8_hasEgg := goodIn_r _ [7, 8, 18, 19, 20, 21, 22, 23, 24, 25, 26, 27] (by decide +kernel) (by decide +kernel)
set_option maxRecDepth 20000 in
theorem gX4_setState_X8_hasEgg : GoodIn wsX4_setState (wsV RX4 46 RX8 yX8_hasEgg wsX8_hasEgg) := goodIn_app (goodIn_of _ (by decide +kernel)) ggX4_setState_X8_hasEgg
theorem dX4_setState_0 : decode cX4_setState 0 = .ok (.aload_n 0, 1) := by decide +kernel
theorem dX4_setState_1 : decode cX4_setState 1 = .ok (.getfield 9, 3) := by decide +kernel
theorem dX4_setState_4 : decode cX4_setState 4 = .ok (.iload_n 1, 1) := by decide +kernel
theorem dX4_setState_5 : decode cX4_setState 5 = .ok (.invokevirtual 46, 3) := by decide +kernel
theorem dX4_setState_8 : decode cX4_setState 8 = .ok (.ifCond .eq 10, 3) := by decide +kernel
theorem dX4_setState_11 : decode cX4_setState 11 = .ok (.aload_n 0, 1) := by decide +kernel
theorem dX4_setState_12 : decode cX4_setState 12 = .ok (.getfield 15, 3) := by decide +kernel
theorem dX4_setState_15 : decode cX4_setState 15 = .ok (.iload_n 1, 1) := by decide +kernel
theorem dX4_setState_16 : decode cX4_setState 16 = .ok (.iload_n 2, 1) := by decide +kernel
theorem dX4_setState_17 : decode cX4_setState 17 = .ok (.iastore, 1) := by decide +kernel
theorem dX4_setState_18 : decode cX4_setState 18 = .ok (.return_, 1) := by decide +kernel
set_option maxRecDepth 20000 in
theorem ggX4_saveTo_X4_isRow : GoodIn wsX4_saveTo wsX4_isRow := goodIn_r _ [16] (by decide +kernel) (by decide +kernel)
set_option maxRecDepth 20000 in
theorem gX4_saveTo_X4_isRow : GoodIn wsX4_saveTo (va_wsS RX4 102 yX4_isRow wsX4_isRow) := goodIn_app (goodIn_of _ (by decide +kernel)) ggX4_saveTo_X4_isRow
theorem dX4_saveTo_0 : decode cX4_saveTo 0 = .ok (.aload_n 1, 1) := by decide +kernel
theorem dX4_saveTo_1 : decode cX4_saveTo 1 = .ok (.iload_n 2, 1) := by decide +kernel
theorem dX4_saveTo_2 : decode cX4_saveTo 2 = .ok (.invokestatic 102, 3) := by decide +kernel
theorem dX4_saveTo_5 : decode cX4_saveTo 5 = .ok (.ifCond .ne 4, 3) := by decide +kernel
theorem dX4_saveTo_8 : decode cX4_saveTo 8 = .ok (.return_, 1) := by decide +kernel
theorem dX4_saveTo_9 : decode cX4_saveTo 9 = .ok (.aload_n 0, 1) := by decide +kernel
theorem dX4_saveTo_10 : decode cX4_saveTo 10 = .ok (.getfield 15, 3) := by decide +kernel
theorem dX4_saveTo_13 : decode cX4_saveTo 13 = .ok (.iconst 0, 1) := by decide +kernel
theorem dX4_saveTo_14 : decode cX4_saveTo 14 = .ok (.aload_n 1, 1) := by decide +kernel
theorem dX4_saveTo_15 : decode cX4_saveTo 15 = .ok (.iload_n 2, 1) := by decide +kernel
theorem dX4_saveTo_16 : decode cX4_saveTo 16 = .ok (.bipush 7, 2) := by decide +kernel
theorem dX4_saveTo_18 : decode cX4_saveTo 18 = .ok (.invokestatic 106, 3) := by decide +kernel
theorem dX4_saveTo_21 : decode cX4_saveTo 21 = .ok (.aload_n 0, 1) := by decide +kernel
theorem dX4_saveTo_22 : decode cX4_saveTo 22 = .ok (.getfield 19, 3) := by decide +kernel
theorem dX4_saveTo_25 : decode cX4_saveTo 25 = .ok (.iconst 0, 1) := by decide +kernel
theorem dX4_saveTo_26 : decode cX4_saveTo 26 = .ok (.aload_n 1, 1) := by decide +kernel
theorem dX4_saveTo_27 : decode cX4_saveTo 27 = .ok (.iload_n 2, 1) := by decide +kernel
theorem dX4_saveTo_28 : decode cX4_saveTo 28 = .ok (.bipush 7, 2) := by decide +kernel
theorem dX4_saveTo_30 : decode cX4_saveTo 30 = .ok (.iadd, 1) := by decide +kernel
theorem dX4_saveTo_31 : decode cX4_saveTo 31 = .ok (.bipush 7, 2) := by decide +kernel
theorem dX4_saveTo_33 : decode cX4_saveTo 33 = .ok (.invokestatic 106, 3) := by decide +kernel
theorem dX4_saveTo_36 : decode cX4_saveTo 36 = .ok (.iload_n 2, 1) := by decide +kernel
theorem dX4_saveTo_37 : decode cX4_saveTo 37 = .ok (.bipush 14, 2) := by decide +kernel
theorem dX4_saveTo_39 : decode cX4_saveTo 39 = .ok (.iadd, 1) := by decide +kernel
theorem dX4_saveTo_40 : decode cX4_saveTo 40 = .ok (.istore_n 3, 1) := by decide +kernel
theorem dX4_saveTo_41 : decode cX4_saveTo 41 = .ok (.aload_n 1, 1) := by decide +kernel
theorem dX4_saveTo_42 : decode cX4_saveTo 42 = .ok (.iload_n 3, 1) := by decide +kernel
theorem dX4_saveTo_43 : decode cX4_saveTo 43 = .ok (.aload_n 0, 1) := by decide +kernel
theorem dX4_saveTo_44 : decode cX4_saveTo 44 = .ok (.getfield 22, 3) := by decide +kernel
theorem dX4_saveTo_47 : decode cX4_saveTo 47 = .ok (.iastore, 1) := by decide +kernel
theorem dX4_saveTo_48 : decode cX4_saveTo 48 = .ok (.aload_n 1, 1) := by decide +kernel
theorem dX4_saveTo_49 : decode cX4_saveTo 49 = .ok (.iload_n 3, 1) := by decide +kernel
theorem dX4_saveTo_50 : decode cX4_saveTo 50 = .ok (.iconst 1, 1) := by decide +kernel
theorem dX4_saveTo_51 : decode cX4_saveTo 51 = .ok (.iadd, 1) := by decide +kernel
theorem dX4_saveTo_52 : decode cX4_saveTo 52 = .ok (.aload_n 0, 1) := by decide +kernel
theorem dX4_saveTo_53 : decode cX4_saveTo 53 = .ok (.getfield 26, 3) := by decide +kernel
theorem dX4_saveTo_56 : decode cX4_saveTo 56 = .ok (.iastore, 1) := by decide +kernel
theorem dX4_saveTo_57 : decode cX4_saveTo 57 = .ok (.aload_n 1, 1) := by decide +kernel
theorem dX4_saveTo_58 : decode cX4_saveTo 58 = .ok (.iload_n 3, 1) := by decide +kernel
theorem dX4_saveTo_59 : decode cX4_saveTo 59 = .ok (.iconst 2, 1) := by decide +kernel
theorem dX4_saveTo_60 : decode cX4_saveTo 60 = .ok (.iadd, 1) := by decide +kernel
theorem dX4_saveTo_61 : decode cX4_saveTo 61 = .ok (.aload_n 0, 1) := by decide +kernel
theorem dX4_saveTo_62 : decode cX4_saveTo 62 = .ok (.getfield 29, 3) := by decide +kernel
theorem dX4_saveTo_65 : decode cX4_saveTo 65 = .ok (.iastore, 1) := by decide +kernel
theorem dX4_saveTo_66 : decode cX4_saveTo 66 = .ok (.aload_n 1, 1) := by decide +kernel
theorem dX4_saveTo_67 : decode cX4_saveTo 67 = .ok (.iload_n 3, 1) := by decide +kernel
theorem dX4_saveTo_68 : decode cX4_saveTo 68 = .ok (.iconst 3, 1) := by decide +kernel
theorem dX4_saveTo_69 : decode cX4_saveTo 69 = .ok (.iadd, 1) := by decide +kernel
theorem dX4_saveTo_70 : decode cX4_saveTo 70 = .ok (.aload_n 0, 1) := by decide +kernel
theorem dX4_saveTo_71 : decode cX4_saveTo 71 = .ok (.getfield 32, 3) := by decide +kernel
theorem dX4_saveTo_74 : decode cX4_saveTo 74 = .ok (.iastore, 1) := by decide +kernel
theorem dX4_saveTo_75 : decode cX4_saveTo 75 = .ok (.aload_n 1, 1) := by decide +kernel
theorem dX4_saveTo_76 : decode cX4_saveTo 76 = .ok (.iload_n 3, 1) := by decide +kernel
theorem dX4_saveTo_77 : decode cX4_saveTo 77 = .ok (.iconst 4, 1) := by decide +kernel
theorem dX4_saveTo_78 : decode cX4_saveTo 78 = .ok (.iadd, 1) := by decide +kernel
theorem dX4_saveTo_79 : decode cX4_saveTo 79 = .ok (.aload_n 0, 1) := by decide +kernel
theorem dX4_saveTo_80 : decode cX4_saveTo 80 = .ok (.getfield 35, 3) := by decide +kernel
theorem dX4_saveTo_83 : decode cX4_saveTo 83 = .ok (.iastore, 1) := by decide +kernel
theorem dX4_saveTo_84 : decode cX4_saveTo 84 = .ok (.aload_n 1, 1) := by decide +kernel
theorem dX4_saveTo_85 : decode cX4_saveTo 85 = .ok (.iload_n 3, 1) := by decide +kernel
theorem dX4_saveTo_86 : decode cX4_saveTo 86 = .ok (.iconst 5, 1) := by decide +kernel
theorem dX4_saveTo_87 : decode cX4_saveTo 87 = .ok (.iadd, 1) := by decide +kernel
theorem dX4_saveTo_88 : decode cX4_saveTo 88 = .ok (.aload_n 0, 1) := by decide +kernel
theorem dX4_saveTo_89 : decode cX4_saveTo 89 = .ok (.getfield 38, 3) := by decide +kernel
theorem dX4_saveTo_92 : decode cX4_saveTo 92 = .ok (.iastore, 1) := by decide +kernel
theorem dX4_saveTo_93 : decode cX4_saveTo 93 = .ok (.return_, 1) := by decide +kernel
set_option maxRecDepth 20000 in
theorem ggX4_loadFrom_X4_isRow : GoodIn wsX4_loadFrom wsX4_isRow := goodIn_r _ [16] (by decide +kernel) (by decide +kernel)
set_option maxRecDepth 20000 in
theorem gX4_loadFrom_X4_isRow : GoodIn wsX4_loadFrom (va_wsS RX4 102 yX4_isRow wsX4_isRow) := goodIn_app (goodIn_of _ (by decide +kernel)) ggX4_loadFrom_X4_isRow
theorem dX4_loadFrom_0 : decode cX4_loadFrom 0 = .ok (.aload_n 1, 1) := by decide +kernel
theorem dX4_loadFrom_1 : decode cX4_loadFrom 1 = .ok (.iload_n 2, 1) := by decide +kernel
theorem dX4_loadFrom_2 : decode cX4_loadFrom 2 = .ok (.invokestatic 102, 3) := by decide +kernel
theorem dX4_loadFrom_5 : decode cX4_loadFrom 5 = .ok (.ifCond .ne 4, 3) := by decide +kernel
theorem dX4_loadFrom_8 : decode cX4_loadFrom 8 = .ok (.return_, 1) := by decide +kernel
theorem dX4_loadFrom_9 : decode cX4_loadFrom 9 = .ok (.aload_n 1, 1) := by decide +kernel
theorem dX4_loadFrom_10 : decode cX4_loadFrom 10 = .ok (.iload_n 2, 1) := by decide +kernel
theorem dX4_loadFrom_11 : decode cX4_loadFrom 11 = .ok (.aload_n 0, 1) := by decide +kernel
theorem dX4_loadFrom_12 : decode cX4_loadFrom 12 = .ok (.getfield 15, 3) := by decide +kernel
theorem dX4_loadFrom_15 : decode cX4_loadFrom 15 = .ok (.iconst 0, 1) := by decide +kernel
theorem dX4_loadFrom_16 : decode cX4_loadFrom 16 = .ok (.bipush 7, 2) := by decide +kernel
theorem dX4_loadFrom_18 : decode cX4_loadFrom 18 = .ok (.invokestatic 106, 3) := by decide +kernel
theorem dX4_loadFrom_21 : decode cX4_loadFrom 21 = .ok (.aload_n 1, 1) := by decide +kernel
theorem dX4_loadFrom_22 : decode cX4_loadFrom 22 = .ok (.iload_n 2, 1) := by decide +kernel
theorem dX4_loadFrom_23 : decode cX4_loadFrom 23 = .ok (.bipush 7, 2) := by decide +kernel
theorem dX4_loadFrom_25 : decode cX4_loadFrom 25 = .ok (.iadd, 1) := by decide +kernel
theorem dX4_loadFrom_26 : decode cX4_loadFrom 26 = .ok (.aload_n 0, 1) := by decide +kernel
theorem dX4_loadFrom_27 : decode cX4_loadFrom 27 = .ok (.getfield 19, 3) := by decide +kernel
theorem dX4_loadFrom_30 : decode cX4_loadFrom 30 = .ok (.iconst 0, 1) := by decide +kernel
theorem dX4_loadFrom_31 : decode cX4_loadFrom 31 = .ok (.bipush 7, 2) := by decide +kernel
theorem dX4_loadFrom_33 : decode cX4_loadFrom 33 = .ok (.invokestatic 106, 3) := by decide +kernel
theorem dX4_loadFrom_36 : decode cX4_loadFrom 36 = .ok (.iload_n 2, 1) := by decide +kernel
theorem dX4_loadFrom_37 : decode cX4_loadFrom 37 = .ok (.bipush 14, 2) := by decide +kernel
theorem dX4_loadFrom_39 : decode cX4_loadFrom 39 = .ok (.iadd, 1) := by decide +kernel
theorem dX4_loadFrom_40 : decode cX4_loadFrom 40 = .ok (.istore_n 3, 1) := by decide +kernel
theorem dX4_loadFrom_41 : decode cX4_loadFrom 41 = .ok (.aload_n 0, 1) := by decide +kernel
theorem dX4_loadFrom_42 : decode cX4_loadFrom 42 = .ok (.aload_n 1, 1) := by decide +kernel
theorem dX4_loadFrom_43 : decode cX4_loadFrom 43 = .ok (.iload_n 3, 1) := by decide +kernel
theorem dX4_loadFrom_44 : decode cX4_loadFrom 44 = .ok (.iaload, 1) := by decide +kernel
theorem dX4_loadFrom_45 : decode cX4_loadFrom 45 = .ok (.putfield 22, 3) := by decide +kernel
theorem dX4_loadFrom_48 : decode cX4_loadFrom 48 = .ok (.aload_n 0, 1) := by decide +kernel
theorem dX4_loadFrom_49 : decode cX4_loadFrom 49 = .ok (.aload_n 1, 1) := by decide +kernel
theorem dX4_loadFrom_50 : decode cX4_loadFrom 50 = .ok (.iload_n 3, 1) := by decide +kernel
theorem dX4_loadFrom_51 : decode cX4_loadFrom 51 = .ok (.iconst 1, 1) := by decide +kernel
theorem dX4_loadFrom_52 : decode cX4_loadFrom 52 = .ok (.iadd, 1) := by decide +kernel
theorem dX4_loadFrom_53 : decode cX4_loadFrom 53 = .ok (.iaload, 1) := by decide +kernel
theorem dX4_loadFrom_54 : decode cX4_loadFrom 54 = .ok (.putfield 26, 3) := by decide +kernel
theorem dX4_loadFrom_57 : decode cX4_loadFrom 57 = .ok (.aload_n 0, 1) := by decide +kernel
theorem dX4_loadFrom_58 : decode cX4_loadFrom 58 = .ok (.aload_n 1, 1) := by decide +kernel
theorem dX4_loadFrom_59 : decode cX4_loadFrom 59 = .ok (.iload_n 3, 1) := by decide +kernel
theorem dX4_loadFrom_60 : decode cX4_loadFrom 60 = .ok (.iconst 2, 1) := by decide +kernel
theorem dX4_loadFrom_61 : decode cX4_loadFrom 61 = .ok (.iadd, 1) := by decide +kernel
theorem dX4_loadFrom_62 : decode cX4_loadFrom 62 = .ok (.iaload, 1) := by decide +kernel
theorem dX4_loadFrom_63 : decode cX4_loadFrom 63 = .ok (.putfield 29, 3) := by decide +kernel
theorem dX4_loadFrom_66 : decode cX4_loadFrom 66 = .ok (.aload_n 0, 1) := by decide +kernel
theorem dX4_loadFrom_67 : decode cX4_loadFrom 67 = .ok (.aload_n 1, 1) := by decide +kernel
theorem dX4_loadFrom_68 : decode cX4_loadFrom 68 = .ok (.iload_n 3, 1) := by decide +kernel
theorem dX4_loadFrom_69 : decode cX4_loadFrom 69 = .ok (.iconst 3, 1) := by decide +kernel
theorem dX4_loadFrom_70 : decode cX4_loadFrom 70 = .ok (.iadd, 1) := by decide +kernel
theorem dX4_loadFrom_71 : decode cX4_loadFrom 71 = .ok (.iaload, 1) := by decide +kernel
theorem dX4_loadFrom_72 : decode cX4_loadFrom 72 = .ok (.putfield 32, 3) := by decide +kernel
theorem dX4_loadFrom_75 : decode cX4_loadFrom 75 = .ok (.aload_n 0, 1) := by decide +kernel
theorem dX4_loadFrom_76 : decode cX4_loadFrom 76 = .ok (.aload_n 1, 1) := by decide +kernel
theorem dX4_loadFrom_77 : decode cX4_loadFrom 77 = .ok (.iload_n 3, 1) := by decide +kernel
theorem dX4_loadFrom_78 : decode cX4_loadFrom 78 = .ok (.iconst 4, 1) := by decide +kernel
theorem dX4_loadFrom_79 : decode cX4_loadFrom 79 = .ok (.iadd, 1) := by decide +kernel
theorem dX4_loadFrom_80 : decode cX4_loadFrom 80 = .ok (.iaload, 1) := by decide +kernel
theorem dX4_loadFrom_81 : decode cX4_loadFrom 81 = .ok (.putfield 35, 3) := by decide +kernel
theorem dX4_loadFrom_84 : decode cX4_loadFrom 84 = .ok (.aload_n 0, 1) := by decide +kernel
theorem dX4_loadFrom_85 : decode cX4_loadFrom 85 = .ok (.aload_n 1, 1) := by decide +kernel
theorem dX4_loadFrom_86 : decode cX4_loadFrom 86 = .ok (.iload_n 3, 1) := by decide +kernel
theorem dX4_loadFrom_87 : decode cX4_loadFrom 87 = .ok (.iconst 5, 1) := by decide +kernel
theorem dX4_loadFrom_88 : decode cX4_loadFrom 88 = .ok (.iadd, 1) := by decide +kernel
theorem dX4_loadFrom_89 : decode cX4_loadFrom 89 = .ok (.iaload, 1) := by decide +kernel
theorem dX4_loadFrom_90 : decode cX4_loadFrom 90 = .ok (.putfield 38, 3) := by decide +kernel
theorem dX4_loadFrom_93 : decode cX4_loadFrom 93 = .ok (.return_, 1) := by decide +kernel
theorem dX4_isRow_0 : decode cX4_isRow 0 = .ok (.aload_n 0, 1) := by decide +kernel
theorem dX4_isRow_1 : decode cX4_isRow 1 = .ok (.ifnull 20, 3) := by decide +kernel
theorem dX4_isRow_4 : decode cX4_isRow 4 = .ok (.iload_n 1, 1) := by decide +kernel
theorem dX4_isRow_5 : decode cX4_isRow 5 = .ok (.ifCond .lt 16, 3) := by decide +kernel
theorem dX4_isRow_8 : decode cX4_isRow 8 = .ok (.iload_n 1, 1) := by decide +kernel
theorem dX4_isRow_9 : decode cX4_isRow 9 = .ok (.aload_n 0, 1) := by decide +kernel
theorem dX4_isRow_10 : decode cX4_isRow 10 = .ok (.arraylength, 1) := by decide +kernel
theorem dX4_isRow_11 : decode cX4_isRow 11 = .ok (.bipush 20, 2) := by decide +kernel
theorem dX4_isRow_13 : decode cX4_isRow 13 = .ok (.isub, 1) := by decide +kernel
theorem dX4_isRow_14 : decode cX4_isRow 14 = .ok (.if_icmp .gt 7, 3) := by decide +kernel
theorem dX4_isRow_17 : decode cX4_isRow 17 = .ok (.iconst 1, 1) := by decide +kernel
theorem dX4_isRow_18 : decode cX4_isRow 18 = .ok (.goto 4, 3) := by decide +kernel
theorem dX4_isRow_21 : decode cX4_isRow 21 = .ok (.iconst 0, 1) := by decide +kernel
theorem dX4_isRow_22 : decode cX4_isRow 22 = .ok (.ireturn, 1) := by decide +kernel
theorem dX5_init_0 : decode cX5_init 0 = .ok (.aload_n 0, 1) := by decide +kernel
theorem dX5_init_1 : decode cX5_init 1 = .ok (.invokespecial 3, 3) := by decide +kernel
theorem dX5_init_4 : decode cX5_init 4 = .ok (.aload_n 0, 1) := by decide +kernel
theorem dX5_init_5 : decode cX5_init 5 = .ok (.sipush 400, 3) := by decide +kernel
theorem dX5_init_8 : decode cX5_init 8 = .ok (.newarray .int, 2) := by decide +kernel
theorem dX5_init_10 : decode cX5_init 10 = .ok (.putfield 11, 3) := by decide +kernel
theorem dX5_init_13 : decode cX5_init 13 = .ok (.aload_n 0, 1) := by decide +kernel
theorem dX5_init_14 : decode cX5_init 14 = .ok (.iconst 0, 1) := by decide +kernel
theorem dX5_init_15 : decode cX5_init 15 = .ok (.putfield 17, 3) := by decide +kernel
theorem dX5_init_18 : decode cX5_init 18 = .ok (.aload_n 0, 1) := by decide +kernel
theorem dX5_init_19 : decode cX5_init 19 = .ok (.iconst 0, 1) := by decide +kernel
theorem dX5_init_20 : decode cX5_init 20 = .ok (.putfield 21, 3) := by decide +kernel
theorem dX5_init_23 : decode cX5_init 23 = .ok (.return_, 1) := by decide +kernel
theorem dX5_forget_0 : decode cX5_forget 0 = .ok (.aload_n 0, 1) := by decide +kernel
theorem dX5_forget_1 : decode cX5_forget 1 = .ok (.iconst 0, 1) := by decide +kernel
theorem dX5_forget_2 : decode cX5_forget 2 = .ok (.putfield 17, 3) := by decide +kernel
theorem dX5_forget_5 : decode cX5_forget 5 = .ok (.aload_n 0, 1) := by decide +kernel
theorem dX5_forget_6 : decode cX5_forget 6 = .ok (.iconst 0, 1) := by decide +kernel
theorem dX5_forget_7 : decode cX5_forget 7 = .ok (.putfield 21, 3) := by decide +kernel
theorem dX5_forget_10 : decode cX5_forget 10 = .ok (.return_, 1) := by decide +kernel
set_option maxRecDepth 20000 in
theorem ggX5_remember_X4_saveTo : GoodIn wsX5_remember wsX4_saveTo := goodIn_r _ [8, 9, 10, 11, 12, 13, 14, 15, 16, 17, 18, 19, 20, 21, 22, 7, 23, 27, 28, 29, 30, 31, 32, 33, 34, 35] (by decide +kernel) (by decide +kernel)
set_option maxRecDepth 20000 in
theorem gX5_remember_X4_saveTo : GoodIn wsX5_remember (wsV RX5 24 RX4 yX4_saveTo wsX4_saveTo) := goodIn_app (goodIn_of _ (by decide +kernel)) ggX5_remember_X4_saveTo
theorem dX5_remember_0 : decode cX5_remember 0 = .ok (.aload_n 0, 1) := by decide +kernel
theorem dX5_remember_1 : decode cX5_remember 1 = .ok (.getfield 17, 3) := by decide +kernel
theorem dX5_remember_4 : decode cX5_remember 4 = .ok (.aload_n 0, 1) := by decide +kernel
theorem dX5_remember_5 : decode cX5_remember 5 = .ok (.getfield 21, 3) := by decide +kernel
theorem dX5_remember_8 : decode cX5_remember 8 = .ok (.iadd, 1) := by decide +kernel
theorem dX5_remember_9 : decode cX5_remember 9 = .ok (.bipush 20, 2) := by decide +kernel
theorem dX5_remember_11 : decode cX5_remember 11 = .ok (.irem, 1) := by decide +kernel
theorem dX5_remember_12 : decode cX5_remember 12 = .ok (.istore_n 2, 1) := by decide +kernel
theorem dX5_remember_13 : decode cX5_remember 13 = .ok (.aload_n 1, 1) := by decide +kernel
theorem dX5_remember_14 : decode cX5_remember 14 = .ok (.aload_n 0, 1) := by decide +kernel
theorem dX5_remember_15 : decode cX5_remember 15 = .ok (.getfield 11, 3) := by decide +kernel
theorem dX5_remember_18 : decode cX5_remember 18 = .ok (.iload_n 2, 1) := by decide +kernel
theorem dX5_remember_19 : decode cX5_remember 19 = .ok (.bipush 20, 2) := by decide +kernel
theorem dX5_remember_21 : decode cX5_remember 21 = .ok (.imul, 1) := by decide +kernel
theorem dX5_remember_22 : decode cX5_remember 22 = .ok (.invokevirtual 24, 3) := by decide +kernel
theorem dX5_remember_25 : decode cX5_remember 25 = .ok (.aload_n 0, 1) := by decide +kernel
theorem dX5_remember_26 : decode cX5_remember 26 = .ok (.getfield 21, 3) := by decide +kernel
theorem dX5_remember_29 : decode cX5_remember 29 = .ok (.bipush 20, 2) := by decide +kernel
theorem dX5_remember_31 : decode cX5_remember 31 = .ok (.if_icmp .ge 16, 3) := by decide +kernel
theorem dX5_remember_34 : decode cX5_remember 34 = .ok (.aload_n 0, 1) := by decide +kernel
theorem dX5_remember_35 : decode cX5_remember 35 = .ok (.dup, 1) := by decide +kernel
theorem dX5_remember_36 : decode cX5_remember 36 = .ok (.getfield 21, 3) := by decide +kernel
theorem dX5_remember_39 : decode cX5_remember 39 = .ok (.iconst 1, 1) := by decide +kernel
theorem dX5_remember_40 : decode cX5_remember 40 = .ok (.iadd, 1) := by decide +kernel
theorem dX5_remember_41 : decode cX5_remember 41 = .ok (.putfield 21, 3) := by decide +kernel
theorem dX5_remember_44 : decode cX5_remember 44 = .ok (.goto 16, 3) := by decide +kernel
theorem dX5_remember_47 : decode cX5_remember 47 = .ok (.aload_n 0, 1) := by decide +kernel
theorem dX5_remember_48 : decode cX5_remember 48 = .ok (.aload_n 0, 1) := by decide +kernel
theorem dX5_remember_49 : decode cX5_remember 49 = .ok (.getfield 17, 3) := by decide +kernel
theorem dX5_remember_52 : decode cX5_remember 52 = .ok (.iconst 1, 1) := by decide +kernel
theorem dX5_remember_53 : decode cX5_remember 53 = .ok (.iadd, 1) := by decide +kernel
theorem dX5_remember_54 : decode cX5_remember 54 = .ok (.bipush 20, 2) := by decide +kernel
theorem dX5_remember_56 : decode cX5_remember 56 = .ok (.irem, 1) := by decide +kernel
theorem dX5_remember_57 : decode cX5_remember 57 = .ok (.putfield 17, 3) := by decide +kernel
theorem dX5_remember_60 : decode cX5_remember 60 = .ok (.return_, 1) := by decide +kernel
set_option maxRecDepth 20000 in
theorem ggX5_bringBack_X4_loadFrom : GoodIn wsX5_bringBack wsX4_loadFrom := goodIn_r _ [8, 9, 10, 11, 12, 13, 14, 15, 16, 17, 18, 19, 20, 21, 22, 7, 23, 27, 28, 29, 30, 31, 32, 33, 34, 35] (by decide +kernel) (by decide +kernel)
set_option maxRecDepth 20000 in
theorem gX5_bringBack_X4_loadFrom : GoodIn wsX5_bringBack (wsV RX5 28 RX4 yX4_loadFrom wsX4_loadFrom) := goodIn_app (goodIn_of _ (by decide +kernel)) ggX5_bringBack_X4_loadFrom
theorem dX5_bringBack_0 : decode cX5_bringBack 0 = .ok (.aload_n 0, 1) := by decide +kernel
theorem dX5_bringBack_1 : decode cX5_bringBack 1 = .ok (.getfield 21, 3) := by decide +kernel
theorem dX5_bringBack_4 : decode cX5_bringBack 4 = .ok (.ifCond .gt 5, 3) := by decide +kernel
theorem dX5_bringBack_7 : decode cX5_bringBack 7 = .ok (.iconst 0, 1) := by decide +kernel
theorem dX5_bringBack_8 : decode cX5_bringBack 8 = .ok (.ireturn, 1) := by decide +kernel
theorem dX5_bringBack_9 : decode cX5_bringBack 9 = .ok (.aload_n 0, 1) := by decide +kernel
theorem dX5_bringBack_10 : decode cX5_bringBack 10 = .ok (.dup, 1) := by decide +kernel
theorem dX5_bringBack_11 : decode cX5_bringBack 11 = .ok (.getfield 21, 3) := by decide +kernel
theorem dX5_bringBack_14 : decode cX5_bringBack 14 = .ok (.iconst 1, 1) := by decide +kernel
theorem dX5_bringBack_15 : decode cX5_bringBack 15 = .ok (.isub, 1) := by decide +kernel
theorem dX5_bringBack_16 : decode cX5_bringBack 16 = .ok (.putfield 21, 3) := by decide +kernel
theorem dX5_bringBack_19 : decode cX5_bringBack 19 = .ok (.aload_n 0, 1) := by decide +kernel
theorem dX5_bringBack_20 : decode cX5_bringBack 20 = .ok (.getfield 17, 3) := by decide +kernel
theorem dX5_bringBack_23 : decode cX5_bringBack 23 = .ok (.aload_n 0, 1) := by decide +kernel
theorem dX5_bringBack_24 : decode cX5_bringBack 24 = .ok (.getfield 21, 3) := by decide +kernel
theorem dX5_bringBack_27 : decode cX5_bringBack 27 = .ok (.iadd, 1) := by decide +kernel
theorem dX5_bringBack_28 : decode cX5_bringBack 28 = .ok (.bipush 20, 2) := by decide +kernel
theorem dX5_bringBack_30 : decode cX5_bringBack 30 = .ok (.irem, 1) := by decide +kernel
theorem dX5_bringBack_31 : decode cX5_bringBack 31 = .ok (.istore_n 2, 1) := by decide +kernel
theorem dX5_bringBack_32 : decode cX5_bringBack 32 = .ok (.aload_n 1, 1) := by decide +kernel
theorem dX5_bringBack_33 : decode cX5_bringBack 33 = .ok (.aload_n 0, 1) := by decide +kernel
theorem dX5_bringBack_34 : decode cX5_bringBack 34 = .ok (.getfield 11, 3) := by decide +kernel
theorem dX5_bringBack_37 : decode cX5_bringBack 37 = .ok (.iload_n 2, 1) := by decide +kernel
theorem dX5_bringBack_38 : decode cX5_bringBack 38 = .ok (.bipush 20, 2) := by decide +kernel
theorem dX5_bringBack_40 : decode cX5_bringBack 40 = .ok (.imul, 1) := by decide +kernel
theorem dX5_bringBack_41 : decode cX5_bringBack 41 = .ok (.invokevirtual 28, 3) := by decide +kernel
theorem dX5_bringBack_44 : decode cX5_bringBack 44 = .ok (.iconst 1, 1) := by decide +kernel
theorem dX5_bringBack_45 : decode cX5_bringBack 45 = .ok (.ireturn, 1) := by decide +kernel
theorem dX6_init_0 : decode cX6_init 0 = .ok (.aload_n 0, 1) := by decide +kernel
theorem dX6_init_1 : decode cX6_init 1 = .ok (.invokespecial 3, 3) := by decide +kernel
theorem dX6_init_4 : decode cX6_init 4 = .ok (.aload_n 0, 1) := by decide +kernel
theorem dX6_init_5 : decode cX6_init 5 = .ok (.iconst 5, 1) := by decide +kernel
theorem dX6_init_6 : decode cX6_init 6 = .ok (.newarray .int, 2) := by decide +kernel
theorem dX6_init_8 : decode cX6_init 8 = .ok (.putfield 9, 3) := by decide +kernel
theorem dX6_init_11 : decode cX6_init 11 = .ok (.return_, 1) := by decide +kernel
set_option maxRecDepth 20000 in
theorem ggX6_ask_X8_hasEater : GoodIn wsX6_ask wsX8_hasEater := goodIn_r _ [6, 7, 62, 63, 64, 65, 66, 67, 68, 69, 70, 71] (by decide +kernel) (by decide +kernel)
set_option maxRecDepth 20000 in
theorem gX6_ask_X8_hasEater : GoodIn wsX6_ask (wsV RX6 15 RX8 yX8_hasEater wsX8_hasEater) := goodIn_app (goodIn_of _ (by decide +kernel)) ggX6_ask_X8_hasEater
set_option maxRecDepth 20000 in
theorem ggX6_ask_X6_liking : GoodIn wsX6_ask wsX6_liking := goodIn_r _ [11, 12, 13, 14, 15, 16, 17, 18, 19, 20, 21, 5, 22, 23, 24, 25, 26, 27, 28, 29, 30, 31, 32, 33, 34, 35, 36, 37, 38, 39, 40, 41, 42, 43, 44, 45, 46, 47, 48, 49, 50, 51, 52, 3, 4, 6, 7, 53, 54, 55, 56, 57, 58, 59, 60, 72, 73, 74, 75, 76, 77, 78, 79, 80, 62, 63, 64, 65, 66, 67, 68, 69, 70, 71] (by decide +kernel) (by decide +kernel)
set_option maxRecDepth 20000 in
theorem gX6_ask_X6_liking : GoodIn wsX6_ask (va_wsS RX6 21 yX6_liking wsX6_liking) := goodIn_app (goodIn_of _ (by decide +kernel)) ggX6_ask_X6_liking
theorem dX6_ask_0 : decode cX6_ask 0 = .ok (.iconst 0, 1) := by decide +kernel
theorem dX6_ask_1 : decode cX6_ask 1 = .ok (.istore_n 3, 1) := by decide +kernel
theorem dX6_ask_2 : decode cX6_ask 2 = .ok (.iload_n 3, 1) := by decide +kernel
theorem dX6_ask_3 : decode cX6_ask 3 = .ok (.iconst 5, 1) := by decide +kernel
theorem dX6_ask_4 : decode cX6_ask 4 = .ok (.if_icmp .ge 33, 3) := by decide +kernel
theorem dX6_ask_7 : decode cX6_ask 7 = .ok (.aload_n 0, 1) := by decide +kernel
theorem dX6_ask_8 : decode cX6_ask 8 = .ok (.getfield 9, 3) := by decide +kernel
theorem dX6_ask_11 : decode cX6_ask 11 = .ok (.iload_n 3, 1) := by decide +kernel
theorem dX6_ask_12 : decode cX6_ask 12 = .ok (.aload_n 1, 1) := by decide +kernel
theorem dX6_ask_13 : decode cX6_ask 13 = .ok (.iload_n 3, 1) := by decide +kernel
theorem dX6_ask_14 : decode cX6_ask 14 = .ok (.invokevirtual 15, 3) := by decide +kernel
theorem dX6_ask_17 : decode cX6_ask 17 = .ok (.ifCond .eq 12, 3) := by decide +kernel
theorem dX6_ask_20 : decode cX6_ask 20 = .ok (.aload_n 1, 1) := by decide +kernel
theorem dX6_ask_21 : decode cX6_ask 21 = .ok (.aload_n 2, 1) := by decide +kernel
theorem dX6_ask_22 : decode cX6_ask 22 = .ok (.iload_n 3, 1) := by decide +kernel
theorem dX6_ask_23 : decode cX6_ask 23 = .ok (.invokestatic 21, 3) := by decide +kernel
theorem dX6_ask_26 : decode cX6_ask 26 = .ok (.goto 4, 3) := by decide +kernel
theorem dX6_ask_29 : decode cX6_ask 29 = .ok (.iconst 0, 1) := by decide +kernel
theorem dX6_ask_30 : decode cX6_ask 30 = .ok (.iastore, 1) := by decide +kernel
theorem dX6_ask_31 : decode cX6_ask 31 = .ok (.iinc 3 1, 3) := by decide +kernel
theorem dX6_ask_34 : decode cX6_ask 34 = .ok (.goto (-32), 3) := by decide +kernel
theorem dX6_ask_37 : decode cX6_ask 37 = .ok (.return_, 1) := by decide +kernel
set_option maxRecDepth 20000 in
theorem ggX6_liking_X4_stateOf : GoodIn wsX6_liking wsX4_stateOf := goodIn_r _ [5, 6, 7, 8, 9, 10, 11, 12, 13, 55, 56, 57, 58, 59, 60, 61, 62, 63, 64, 65, 66, 67, 68, 69, 70, 71, 72, 73] (by decide +kernel) (by decide +kernel)
set_option maxRecDepth 20000 in
theorem gX6_liking_X4_stateOf : GoodIn wsX6_liking (wsV RX6 25 RX4 yX4_stateOf wsX4_stateOf) := goodIn_app (goodIn_of _ (by decide +kernel)) ggX6_liking_X4_stateOf
set_option maxRecDepth 20000 in
theorem ggX6_liking_X4_hardnessOf : GoodIn wsX6_liking wsX4_hardnessOf := goodIn_r _ [17, 6, 18, 19, 20, 4, 21, 22, 8, 9, 10, 11, 12, 13, 23, 24, 25, 26, 27, 28, 29, 30, 31, 32, 33, 34, 35, 36, 55, 56, 57, 58, 59, 60, 61, 62, 63, 64, 65, 66, 67, 68, 69, 70, 71, 72, 73] (by decide +kernel) (by decide +kernel)
set_option maxRecDepth 20000 in
theorem gX6_liking_X4_hardnessOf : GoodIn wsX6_liking (wsV RX6 31 RX4 yX4_hardnessOf wsX4_hardnessOf) := goodIn_app (goodIn_of _ (by decide +kernel)) ggX6_liking_X4_hardnessOf
set_option maxRecDepth 20000 in
theorem ggX6_liking_X8_softestFor : GoodIn wsX6_liking wsX8_softestFor := goodIn_r _ [40, 41, 42, 43, 44, 11, 45, 46, 64, 65, 66, 67, 68, 69, 70, 71, 72, 73] (by decide +kernel) (by decide +kernel)
set_option maxRecDepth 20000 in
theorem gX6_liking_X8_softestFor : GoodIn wsX6_liking (wsV RX6 34 RX8 yX8_softestFor wsX8_softestFor) := goodIn_app (goodIn_of _ (by decide +kernel)) ggX6_liking_X8_softestFor
set_option maxRecDepth 20000 in
theorem ggX6_liking_X8_hardestFor : GoodIn wsX6_liking wsX8_hardestFor := goodIn_r _ [50, 51, 42, 43, 44, 11, 45, 46, 64, 65, 66, 67, 68, 69, 70, 71, 72, 73] (by decide +kernel) (by decide +kernel)
set_option maxRecDepth 20000 in
theorem gX6_liking_X8_hardestFor : GoodIn wsX6_liking (wsV RX6 37 RX8 yX8_hardestFor wsX8_hardestFor) := goodIn_app (goodIn_of _ (by decide +kernel)) ggX6_liking_X8_hardestFor
set_option maxRecDepth 20000 in
theorem ggX6_liking_X10_isWithin : GoodIn wsX6_liking wsX10_isWithin := goodIn_r _ [54] (by decide +kernel) (by decide +kernel)
set_option maxRecDepth 20000 in
theorem gX6_liking_X10_isWithin_n40 : GoodIn wsX6_liking (wsX10_isWithin) := ggX6_liking_X10_isWithin
theorem dX6_liking_0 : decode cX6_liking 0 = .ok (.iconst 0, 1) := by decide +kernel
theorem dX6_liking_1 : decode cX6_liking 1 = .ok (.istore_n 3, 1) := by decide +kernel
theorem dX6_liking_2 : decode cX6_liking 2 = .ok (.iconst 0, 1) := by decide +kernel
theorem dX6_liking_3 : decode cX6_liking 3 = .ok (.istore 4, 2) := by decide +kernel
theorem dX6_liking_5 : decode cX6_liking 5 = .ok (.iload 4, 2) := by decide +kernel
theorem dX6_liking_7 : decode cX6_liking 7 = .ok (.bipush 7, 2) := by decide +kernel
theorem dX6_liking_9 : decode cX6_liking 9 = .ok (.if_icmp .ge 64, 3) := by decide +kernel
theorem dX6_liking_12 : decode cX6_liking 12 = .ok (.aload_n 1, 1) := by decide +kernel
theorem dX6_liking_13 : decode cX6_liking 13 = .ok (.iload 4, 2) := by decide +kernel
theorem dX6_liking_15 : decode cX6_liking 15 = .ok (.invokevirtual 25, 3) := by decide +kernel
theorem dX6_liking_18 : decode cX6_liking 18 = .ok (.iconst 2, 1) := by decide +kernel
theorem dX6_liking_19 : decode cX6_liking 19 = .ok (.if_icmp .ne 29, 3) := by decide +kernel
theorem dX6_liking_22 : decode cX6_liking 22 = .ok (.aload_n 1, 1) := by decide +kernel
theorem dX6_liking_23 : decode cX6_liking 23 = .ok (.iload 4, 2) := by decide +kernel
theorem dX6_liking_25 : decode cX6_liking 25 = .ok (.invokevirtual 31, 3) := by decide +kernel
theorem dX6_liking_28 : decode cX6_liking 28 = .ok (.aload_n 0, 1) := by decide +kernel
theorem dX6_liking_29 : decode cX6_liking 29 = .ok (.iload_n 2, 1) := by decide +kernel
theorem dX6_liking_30 : decode cX6_liking 30 = .ok (.invokevirtual 34, 3) := by decide +kernel
theorem dX6_liking_33 : decode cX6_liking 33 = .ok (.aload_n 0, 1) := by decide +kernel
theorem dX6_liking_34 : decode cX6_liking 34 = .ok (.iload_n 2, 1) := by decide +kernel
theorem dX6_liking_35 : decode cX6_liking 35 = .ok (.invokevirtual 37, 3) := by decide +kernel
theorem dX6_liking_38 : decode cX6_liking 38 = .ok (.invokestatic 40, 3) := by decide +kernel
theorem dX6_liking_41 : decode cX6_liking 41 = .ok (.ifCond .eq 7, 3) := by decide +kernel
theorem dX6_liking_44 : decode cX6_liking 44 = .ok (.iconst 1, 1) := by decide +kernel
theorem dX6_liking_45 : decode cX6_liking 45 = .ok (.goto 4, 3) := by decide +kernel
theorem dX6_liking_48 : decode cX6_liking 48 = .ok (.iconst 0, 1) := by decide +kernel
theorem dX6_liking_49 : decode cX6_liking 49 = .ok (.istore 5, 2) := by decide +kernel
theorem dX6_liking_51 : decode cX6_liking 51 = .ok (.iload_n 3, 1) := by decide +kernel
theorem dX6_liking_52 : decode cX6_liking 52 = .ok (.iload 5, 2) := by decide +kernel
theorem dX6_liking_54 : decode cX6_liking 54 = .ok (.ifCond .eq 10, 3) := by decide +kernel
theorem dX6_liking_57 : decode cX6_liking 57 = .ok (.iconst 1, 1) := by decide +kernel
theorem dX6_liking_58 : decode cX6_liking 58 = .ok (.iload 4, 2) := by decide +kernel
theorem dX6_liking_60 : decode cX6_liking 60 = .ok (.ishl, 1) := by decide +kernel
theorem dX6_liking_61 : decode cX6_liking 61 = .ok (.goto 4, 3) := by decide +kernel
theorem dX6_liking_64 : decode cX6_liking 64 = .ok (.iconst 0, 1) := by decide +kernel
theorem dX6_liking_65 : decode cX6_liking 65 = .ok (.ior, 1) := by decide +kernel
theorem dX6_liking_66 : decode cX6_liking 66 = .ok (.istore_n 3, 1) := by decide +kernel
theorem dX6_liking_67 : decode cX6_liking 67 = .ok (.iinc 4 1, 3) := by decide +kernel
theorem dX6_liking_70 : decode cX6_liking 70 = .ok (.goto (-65), 3) := by decide +kernel
theorem dX6_liking_73 : decode cX6_liking 73 = .ok (.iload_n 3, 1) := by decide +kernel
theorem dX6_liking_74 : decode cX6_liking 74 = .ok (.ireturn, 1) := by decide +kernel
set_option maxRecDepth 20000 in
theorem ggX6_most_X6_mostPairs : GoodIn wsX6_most wsX6_mostPairs := goodIn_r _ [5, 6, 7, 8, 9, 10, 11, 12, 2, 3, 4, 13, 14, 15, 16, 17, 18, 19] (by decide +kernel) (by decide +kernel)
set_option maxRecDepth 20000 in
theorem gX6_most_X6_mostPairs : GoodIn wsX6_most (va_wsS RX6 44 yX6_mostPairs wsX6_mostPairs) := goodIn_app (goodIn_of _ (by decide +kernel)) ggX6_most_X6_mostPairs
theorem dX6_most_0 : decode cX6_most 0 = .ok (.aload_n 0, 1) := by decide +kernel
theorem dX6_most_1 : decode cX6_most 1 = .ok (.getfield 9, 3) := by decide +kernel
theorem dX6_most_4 : decode cX6_most 4 = .ok (.iconst 0, 1) := by decide +kernel
theorem dX6_most_5 : decode cX6_most 5 = .ok (.bipush 127, 2) := by decide +kernel
theorem dX6_most_7 : decode cX6_most 7 = .ok (.invokestatic 44, 3) := by decide +kernel
theorem dX6_most_10 : decode cX6_most 10 = .ok (.ireturn, 1) := by decide +kernel
set_option maxRecDepth 20000 in
theorem ggX6_eggFor_X6_most : GoodIn wsX6_eggFor wsX6_most := goodIn_r _ [5, 6, 7, 8, 4, 9, 10, 11, 12, 13, 14, 15, 16, 17, 18, 19, 20, 21, 22, 23, 28] (by decide +kernel) (by decide +kernel)
set_option maxRecDepth 20000 in
theorem gX6_eggFor_X6_most : GoodIn wsX6_eggFor (wsV RX6 48 RX6 yX6_most wsX6_most) := goodIn_app (goodIn_of _ (by decide +kernel)) ggX6_eggFor_X6_most
set_option maxRecDepth 20000 in
theorem ggX6_eggFor_X6_firstEgg : GoodIn wsX6_eggFor wsX6_firstEgg := goodIn_r _ [27, 6, 7, 8, 4, 9, 10, 11, 12, 13, 14, 15, 16, 17, 18, 19, 20, 21, 22, 23, 28] (by decide +kernel) (by decide +kernel)
set_option maxRecDepth 20000 in
theorem gX6_eggFor_X6_firstEgg : GoodIn wsX6_eggFor (wsV RX6 52 RX6 yX6_firstEgg wsX6_firstEgg) := goodIn_app (goodIn_of _ (by decide +kernel)) ggX6_eggFor_X6_firstEgg
theorem dX6_eggFor_0 : decode cX6_eggFor 0 = .ok (.bipush 127, 2) := by decide +kernel
theorem dX6_eggFor_2 : decode cX6_eggFor 2 = .ok (.istore_n 2, 1) := by decide +kernel
theorem dX6_eggFor_3 : decode cX6_eggFor 3 = .ok (.aload_n 0, 1) := by decide +kernel
theorem dX6_eggFor_4 : decode cX6_eggFor 4 = .ok (.invokevirtual 48, 3) := by decide +kernel
theorem dX6_eggFor_7 : decode cX6_eggFor 7 = .ok (.istore_n 3, 1) := by decide +kernel
theorem dX6_eggFor_8 : decode cX6_eggFor 8 = .ok (.iconst (-1), 1) := by decide +kernel
theorem dX6_eggFor_9 : decode cX6_eggFor 9 = .ok (.istore 4, 2) := by decide +kernel
theorem dX6_eggFor_11 : decode cX6_eggFor 11 = .ok (.iconst 0, 1) := by decide +kernel
theorem dX6_eggFor_12 : decode cX6_eggFor 12 = .ok (.istore 5, 2) := by decide +kernel
theorem dX6_eggFor_14 : decode cX6_eggFor 14 = .ok (.iload 5, 2) := by decide +kernel
theorem dX6_eggFor_16 : decode cX6_eggFor 16 = .ok (.iload_n 1, 1) := by decide +kernel
theorem dX6_eggFor_17 : decode cX6_eggFor 17 = .ok (.if_icmp .gt 43, 3) := by decide +kernel
theorem dX6_eggFor_20 : decode cX6_eggFor 20 = .ok (.iload 5, 2) := by decide +kernel
theorem dX6_eggFor_22 : decode cX6_eggFor 22 = .ok (.iconst 5, 1) := by decide +kernel
theorem dX6_eggFor_23 : decode cX6_eggFor 23 = .ok (.if_icmp .ge 37, 3) := by decide +kernel
theorem dX6_eggFor_26 : decode cX6_eggFor 26 = .ok (.aload_n 0, 1) := by decide +kernel
theorem dX6_eggFor_27 : decode cX6_eggFor 27 = .ok (.iload 5, 2) := by decide +kernel
theorem dX6_eggFor_29 : decode cX6_eggFor 29 = .ok (.iload_n 2, 1) := by decide +kernel
theorem dX6_eggFor_30 : decode cX6_eggFor 30 = .ok (.iload_n 3, 1) := by decide +kernel
theorem dX6_eggFor_31 : decode cX6_eggFor 31 = .ok (.invokevirtual 52, 3) := by decide +kernel
theorem dX6_eggFor_34 : decode cX6_eggFor 34 = .ok (.istore 4, 2) := by decide +kernel
theorem dX6_eggFor_36 : decode cX6_eggFor 36 = .ok (.iload 4, 2) := by decide +kernel
theorem dX6_eggFor_38 : decode cX6_eggFor 38 = .ok (.iconst (-1), 1) := by decide +kernel
theorem dX6_eggFor_39 : decode cX6_eggFor 39 = .ok (.if_icmp .eq 15, 3) := by decide +kernel
theorem dX6_eggFor_42 : decode cX6_eggFor 42 = .ok (.iload_n 2, 1) := by decide +kernel
theorem dX6_eggFor_43 : decode cX6_eggFor 43 = .ok (.iconst 1, 1) := by decide +kernel
theorem dX6_eggFor_44 : decode cX6_eggFor 44 = .ok (.iload 4, 2) := by decide +kernel
theorem dX6_eggFor_46 : decode cX6_eggFor 46 = .ok (.ishl, 1) := by decide +kernel
theorem dX6_eggFor_47 : decode cX6_eggFor 47 = .ok (.iconst (-1), 1) := by decide +kernel
theorem dX6_eggFor_48 : decode cX6_eggFor 48 = .ok (.ixor, 1) := by decide +kernel
theorem dX6_eggFor_49 : decode cX6_eggFor 49 = .ok (.iand, 1) := by decide +kernel
theorem dX6_eggFor_50 : decode cX6_eggFor 50 = .ok (.istore_n 2, 1) := by decide +kernel
theorem dX6_eggFor_51 : decode cX6_eggFor 51 = .ok (.iinc 3 (-1), 3) := by decide +kernel
theorem dX6_eggFor_54 : decode cX6_eggFor 54 = .ok (.iinc 5 1, 3) := by decide +kernel
theorem dX6_eggFor_57 : decode cX6_eggFor 57 = .ok (.goto (-43), 3) := by decide +kernel
theorem dX6_eggFor_60 : decode cX6_eggFor 60 = .ok (.iload 4, 2) := by decide +kernel
theorem dX6_eggFor_62 : decode cX6_eggFor 62 = .ok (.ireturn, 1) := by decide +kernel
set_option maxRecDepth 20000 in
theorem ggX6_firstEgg_X6_mostPairs : GoodIn wsX6_firstEgg wsX6_mostPairs := goodIn_r _ [5, 6, 7, 8, 9, 10, 11, 12, 2, 3, 4, 13, 14, 15, 16, 17, 18, 19] (by decide +kernel) (by decide +kernel)
set_option maxRecDepth 20000 in
theorem gX6_firstEgg_X6_mostPairs : GoodIn wsX6_firstEgg (va_wsS RX6 44 yX6_mostPairs wsX6_mostPairs) := goodIn_app (goodIn_of _ (by decide +kernel)) ggX6_firstEgg_X6_mostPairs
theorem dX6_firstEgg_0 : decode cX6_firstEgg 0 = .ok (.iload_n 1, 1) := by decide +kernel
theorem dX6_firstEgg_1 : decode cX6_firstEgg 1 = .ok (.ifCond .lt 19, 3) := by decide +kernel
theorem dX6_firstEgg_4 : decode cX6_firstEgg 4 = .ok (.iload_n 1, 1) := by decide +kernel
theorem dX6_firstEgg_5 : decode cX6_firstEgg 5 = .ok (.iconst 5, 1) := by decide +kernel
theorem dX6_firstEgg_6 : decode cX6_firstEgg 6 = .ok (.if_icmp .ge 14, 3) := by decide +kernel
theorem dX6_firstEgg_9 : decode cX6_firstEgg 9 = .ok (.aload_n 0, 1) := by decide +kernel
theorem dX6_firstEgg_10 : decode cX6_firstEgg 10 = .ok (.getfield 9, 3) := by decide +kernel
theorem dX6_firstEgg_13 : decode cX6_firstEgg 13 = .ok (.iload_n 1, 1) := by decide +kernel
theorem dX6_firstEgg_14 : decode cX6_firstEgg 14 = .ok (.iaload, 1) := by decide +kernel
theorem dX6_firstEgg_15 : decode cX6_firstEgg 15 = .ok (.iload_n 2, 1) := by decide +kernel
theorem dX6_firstEgg_16 : decode cX6_firstEgg 16 = .ok (.iand, 1) := by decide +kernel
theorem dX6_firstEgg_17 : decode cX6_firstEgg 17 = .ok (.goto 4, 3) := by decide +kernel
theorem dX6_firstEgg_20 : decode cX6_firstEgg 20 = .ok (.iconst 0, 1) := by decide +kernel
theorem dX6_firstEgg_21 : decode cX6_firstEgg 21 = .ok (.istore 4, 2) := by decide +kernel
theorem dX6_firstEgg_23 : decode cX6_firstEgg 23 = .ok (.iconst 0, 1) := by decide +kernel
theorem dX6_firstEgg_24 : decode cX6_firstEgg 24 = .ok (.istore 5, 2) := by decide +kernel
theorem dX6_firstEgg_26 : decode cX6_firstEgg 26 = .ok (.iload 5, 2) := by decide +kernel
theorem dX6_firstEgg_28 : decode cX6_firstEgg 28 = .ok (.bipush 7, 2) := by decide +kernel
theorem dX6_firstEgg_30 : decode cX6_firstEgg 30 = .ok (.if_icmp .ge 59, 3) := by decide +kernel
theorem dX6_firstEgg_33 : decode cX6_firstEgg 33 = .ok (.iload 4, 2) := by decide +kernel
theorem dX6_firstEgg_35 : decode cX6_firstEgg 35 = .ok (.iload 5, 2) := by decide +kernel
theorem dX6_firstEgg_37 : decode cX6_firstEgg 37 = .ok (.ishr, 1) := by decide +kernel
theorem dX6_firstEgg_38 : decode cX6_firstEgg 38 = .ok (.iconst 1, 1) := by decide +kernel
theorem dX6_firstEgg_39 : decode cX6_firstEgg 39 = .ok (.iand, 1) := by decide +kernel
theorem dX6_firstEgg_40 : decode cX6_firstEgg 40 = .ok (.iconst 1, 1) := by decide +kernel
theorem dX6_firstEgg_41 : decode cX6_firstEgg 41 = .ok (.if_icmp .ne 7, 3) := by decide +kernel
theorem dX6_firstEgg_44 : decode cX6_firstEgg 44 = .ok (.iconst 1, 1) := by decide +kernel
theorem dX6_firstEgg_45 : decode cX6_firstEgg 45 = .ok (.goto 4, 3) := by decide +kernel
theorem dX6_firstEgg_48 : decode cX6_firstEgg 48 = .ok (.iconst 0, 1) := by decide +kernel
theorem dX6_firstEgg_49 : decode cX6_firstEgg 49 = .ok (.istore 6, 2) := by decide +kernel
theorem dX6_firstEgg_51 : decode cX6_firstEgg 51 = .ok (.iload 6, 2) := by decide +kernel
theorem dX6_firstEgg_53 : decode cX6_firstEgg 53 = .ok (.ifCond .eq 30, 3) := by decide +kernel
theorem dX6_firstEgg_56 : decode cX6_firstEgg 56 = .ok (.iconst 1, 1) := by decide +kernel
theorem dX6_firstEgg_57 : decode cX6_firstEgg 57 = .ok (.aload_n 0, 1) := by decide +kernel
theorem dX6_firstEgg_58 : decode cX6_firstEgg 58 = .ok (.getfield 9, 3) := by decide +kernel
theorem dX6_firstEgg_61 : decode cX6_firstEgg 61 = .ok (.iload_n 1, 1) := by decide +kernel
theorem dX6_firstEgg_62 : decode cX6_firstEgg 62 = .ok (.iconst 1, 1) := by decide +kernel
theorem dX6_firstEgg_63 : decode cX6_firstEgg 63 = .ok (.iadd, 1) := by decide +kernel
theorem dX6_firstEgg_64 : decode cX6_firstEgg 64 = .ok (.iload_n 2, 1) := by decide +kernel
theorem dX6_firstEgg_65 : decode cX6_firstEgg 65 = .ok (.iconst 1, 1) := by decide +kernel
theorem dX6_firstEgg_66 : decode cX6_firstEgg 66 = .ok (.iload 5, 2) := by decide +kernel
theorem dX6_firstEgg_68 : decode cX6_firstEgg 68 = .ok (.ishl, 1) := by decide +kernel
theorem dX6_firstEgg_69 : decode cX6_firstEgg 69 = .ok (.iconst (-1), 1) := by decide +kernel
theorem dX6_firstEgg_70 : decode cX6_firstEgg 70 = .ok (.ixor, 1) := by decide +kernel
theorem dX6_firstEgg_71 : decode cX6_firstEgg 71 = .ok (.iand, 1) := by decide +kernel
theorem dX6_firstEgg_72 : decode cX6_firstEgg 72 = .ok (.invokestatic 44, 3) := by decide +kernel
theorem dX6_firstEgg_75 : decode cX6_firstEgg 75 = .ok (.iadd, 1) := by decide +kernel
theorem dX6_firstEgg_76 : decode cX6_firstEgg 76 = .ok (.iload_n 3, 1) := by decide +kernel
theorem dX6_firstEgg_77 : decode cX6_firstEgg 77 = .ok (.if_icmp .ne 6, 3) := by decide +kernel
theorem dX6_firstEgg_80 : decode cX6_firstEgg 80 = .ok (.iload 5, 2) := by decide +kernel
theorem dX6_firstEgg_82 : decode cX6_firstEgg 82 = .ok (.ireturn, 1) := by decide +kernel
theorem dX6_firstEgg_83 : decode cX6_firstEgg 83 = .ok (.iinc 5 1, 3) := by decide +kernel
theorem dX6_firstEgg_86 : decode cX6_firstEgg 86 = .ok (.goto (-60), 3) := by decide +kernel
theorem dX6_firstEgg_89 : decode cX6_firstEgg 89 = .ok (.iconst (-1), 1) := by decide +kernel
theorem dX6_firstEgg_90 : decode cX6_firstEgg 90 = .ok (.ireturn, 1) := by decide +kernel
set_option maxRecDepth 20000 in
theorem ggX6_mostPairs_X6_mostPairs : GoodIn wsX6_mostPairs wsX6_mostPairs := goodIn_r _ [0, 1, 2, 3, 4, 5, 6, 7, 8, 9, 10, 11, 12, 13, 14, 15, 16, 17] (by decide +kernel) (by decide +kernel)
set_option maxRecDepth 20000 in
theorem gX6_mostPairs_X6_mostPairs : GoodIn wsX6_mostPairs (va_wsS RX6 44 yX6_mostPairs wsX6_mostPairs) := goodIn_app (goodIn_of _ (by decide +kernel)) ggX6_mostPairs_X6_mostPairs
set_option maxRecDepth 20000 in
theorem ggX6_mostPairs_J6_bitCount_0f7a4 : GoodIn wsX6_mostPairs wsJ6_bitCount_0f7a4 := goodIn_r _ [14, 15, 16, 17] (by decide +kernel) (by decide +kernel)
set_option maxRecDepth 20000 in
theorem gX6_mostPairs_J6_bitCount_0f7a4 : GoodIn wsX6_mostPairs (va_wsS RX6 56 yJ6_bitCount_0f7a4 wsJ6_bitCount_0f7a4) := goodIn_app (goodIn_of _ (by decide +kernel)) ggX6_mostPairs_J6_bitCount_0f7a4
theorem dX6_mostPairs_0 : decode cX6_mostPairs 0 = .ok (.iload_n 1, 1) := by decide +kernel
theorem dX6_mostPairs_1 : decode cX6_mostPairs 1 = .ok (.ifCond .lt 9, 3) := by decide +kernel
theorem dX6_mostPairs_4 : decode cX6_mostPairs 4 = .ok (.iload_n 1, 1) := by decide +kernel
theorem dX6_mostPairs_5 : decode cX6_mostPairs 5 = .ok (.aload_n 0, 1) := by decide +kernel
theorem dX6_mostPairs_6 : decode cX6_mostPairs 6 = .ok (.arraylength, 1) := by decide +kernel
theorem dX6_mostPairs_7 : decode cX6_mostPairs 7 = .ok (.if_icmp .lt 5, 3) := by decide +kernel
theorem dX6_mostPairs_10 : decode cX6_mostPairs 10 = .ok (.iconst 0, 1) := by decide +kernel
theorem dX6_mostPairs_11 : decode cX6_mostPairs 11 = .ok (.ireturn, 1) := by decide +kernel
theorem dX6_mostPairs_12 : decode cX6_mostPairs 12 = .ok (.aload_n 0, 1) := by decide +kernel
theorem dX6_mostPairs_13 : decode cX6_mostPairs 13 = .ok (.iload_n 1, 1) := by decide +kernel
theorem dX6_mostPairs_14 : decode cX6_mostPairs 14 = .ok (.iconst 1, 1) := by decide +kernel
theorem dX6_mostPairs_15 : decode cX6_mostPairs 15 = .ok (.iadd, 1) := by decide +kernel
theorem dX6_mostPairs_16 : decode cX6_mostPairs 16 = .ok (.iload_n 2, 1) := by decide +kernel
theorem dX6_mostPairs_17 : decode cX6_mostPairs 17 = .ok (.invokestatic 44, 3) := by decide +kernel
theorem dX6_mostPairs_20 : decode cX6_mostPairs 20 = .ok (.istore_n 3, 1) := by decide +kernel
theorem dX6_mostPairs_21 : decode cX6_mostPairs 21 = .ok (.aload_n 0, 1) := by decide +kernel
theorem dX6_mostPairs_22 : decode cX6_mostPairs 22 = .ok (.iload_n 1, 1) := by decide +kernel
theorem dX6_mostPairs_23 : decode cX6_mostPairs 23 = .ok (.iaload, 1) := by decide +kernel
theorem dX6_mostPairs_24 : decode cX6_mostPairs 24 = .ok (.iload_n 2, 1) := by decide +kernel
theorem dX6_mostPairs_25 : decode cX6_mostPairs 25 = .ok (.iand, 1) := by decide +kernel
theorem dX6_mostPairs_26 : decode cX6_mostPairs 26 = .ok (.istore 4, 2) := by decide +kernel
theorem dX6_mostPairs_28 : decode cX6_mostPairs 28 = .ok (.aload_n 0, 1) := by decide +kernel
theorem dX6_mostPairs_29 : decode cX6_mostPairs 29 = .ok (.arraylength, 1) := by decide +kernel
theorem dX6_mostPairs_30 : decode cX6_mostPairs 30 = .ok (.iload_n 1, 1) := by decide +kernel
theorem dX6_mostPairs_31 : decode cX6_mostPairs 31 = .ok (.isub, 1) := by decide +kernel
theorem dX6_mostPairs_32 : decode cX6_mostPairs 32 = .ok (.iload_n 2, 1) := by decide +kernel
theorem dX6_mostPairs_33 : decode cX6_mostPairs 33 = .ok (.invokestatic 56, 3) := by decide +kernel
theorem dX6_mostPairs_36 : decode cX6_mostPairs 36 = .ok (.invokestatic 61, 3) := by decide +kernel
theorem dX6_mostPairs_39 : decode cX6_mostPairs 39 = .ok (.istore 5, 2) := by decide +kernel
theorem dX6_mostPairs_41 : decode cX6_mostPairs 41 = .ok (.iconst 0, 1) := by decide +kernel
theorem dX6_mostPairs_42 : decode cX6_mostPairs 42 = .ok (.istore 6, 2) := by decide +kernel
theorem dX6_mostPairs_44 : decode cX6_mostPairs 44 = .ok (.iload 6, 2) := by decide +kernel
theorem dX6_mostPairs_46 : decode cX6_mostPairs 46 = .ok (.bipush 7, 2) := by decide +kernel
theorem dX6_mostPairs_48 : decode cX6_mostPairs 48 = .ok (.if_icmp .ge 48, 3) := by decide +kernel
theorem dX6_mostPairs_51 : decode cX6_mostPairs 51 = .ok (.iload_n 3, 1) := by decide +kernel
theorem dX6_mostPairs_52 : decode cX6_mostPairs 52 = .ok (.iload 5, 2) := by decide +kernel
theorem dX6_mostPairs_54 : decode cX6_mostPairs 54 = .ok (.if_icmp .ge 42, 3) := by decide +kernel
theorem dX6_mostPairs_57 : decode cX6_mostPairs 57 = .ok (.iload 4, 2) := by decide +kernel
theorem dX6_mostPairs_59 : decode cX6_mostPairs 59 = .ok (.iload 6, 2) := by decide +kernel
theorem dX6_mostPairs_61 : decode cX6_mostPairs 61 = .ok (.ishr, 1) := by decide +kernel
theorem dX6_mostPairs_62 : decode cX6_mostPairs 62 = .ok (.iconst 1, 1) := by decide +kernel
theorem dX6_mostPairs_63 : decode cX6_mostPairs 63 = .ok (.iand, 1) := by decide +kernel
theorem dX6_mostPairs_64 : decode cX6_mostPairs 64 = .ok (.iconst 1, 1) := by decide +kernel
theorem dX6_mostPairs_65 : decode cX6_mostPairs 65 = .ok (.if_icmp .ne 25, 3) := by decide +kernel
theorem dX6_mostPairs_68 : decode cX6_mostPairs 68 = .ok (.iload_n 3, 1) := by decide +kernel
theorem dX6_mostPairs_69 : decode cX6_mostPairs 69 = .ok (.iconst 1, 1) := by decide +kernel
theorem dX6_mostPairs_70 : decode cX6_mostPairs 70 = .ok (.aload_n 0, 1) := by decide +kernel
theorem dX6_mostPairs_71 : decode cX6_mostPairs 71 = .ok (.iload_n 1, 1) := by decide +kernel
theorem dX6_mostPairs_72 : decode cX6_mostPairs 72 = .ok (.iconst 1, 1) := by decide +kernel
theorem dX6_mostPairs_73 : decode cX6_mostPairs 73 = .ok (.iadd, 1) := by decide +kernel
theorem dX6_mostPairs_74 : decode cX6_mostPairs 74 = .ok (.iload_n 2, 1) := by decide +kernel
theorem dX6_mostPairs_75 : decode cX6_mostPairs 75 = .ok (.iconst 1, 1) := by decide +kernel
theorem dX6_mostPairs_76 : decode cX6_mostPairs 76 = .ok (.iload 6, 2) := by decide +kernel
theorem dX6_mostPairs_78 : decode cX6_mostPairs 78 = .ok (.ishl, 1) := by decide +kernel
theorem dX6_mostPairs_79 : decode cX6_mostPairs 79 = .ok (.iconst (-1), 1) := by decide +kernel
theorem dX6_mostPairs_80 : decode cX6_mostPairs 80 = .ok (.ixor, 1) := by decide +kernel
theorem dX6_mostPairs_81 : decode cX6_mostPairs 81 = .ok (.iand, 1) := by decide +kernel
theorem dX6_mostPairs_82 : decode cX6_mostPairs 82 = .ok (.invokestatic 44, 3) := by decide +kernel
theorem dX6_mostPairs_85 : decode cX6_mostPairs 85 = .ok (.iadd, 1) := by decide +kernel
theorem dX6_mostPairs_86 : decode cX6_mostPairs 86 = .ok (.invokestatic 67, 3) := by decide +kernel
theorem dX6_mostPairs_89 : decode cX6_mostPairs 89 = .ok (.istore_n 3, 1) := by decide +kernel
theorem dX6_mostPairs_90 : decode cX6_mostPairs 90 = .ok (.iinc 6 1, 3) := by decide +kernel
theorem dX6_mostPairs_93 : decode cX6_mostPairs 93 = .ok (.goto (-49), 3) := by decide +kernel
theorem dX6_mostPairs_96 : decode cX6_mostPairs 96 = .ok (.iload_n 3, 1) := by decide +kernel
theorem dX6_mostPairs_97 : decode cX6_mostPairs 97 = .ok (.ireturn, 1) := by decide +kernel
theorem dX7_init_0 : decode cX7_init 0 = .ok (.aload_n 0, 1) := by decide +kernel
theorem dX7_init_1 : decode cX7_init 1 = .ok (.invokespecial 3, 3) := by decide +kernel
theorem dX7_init_4 : decode cX7_init 4 = .ok (.aload_n 0, 1) := by decide +kernel
theorem dX7_init_5 : decode cX7_init 5 = .ok (.iconst 0, 1) := by decide +kernel
theorem dX7_init_6 : decode cX7_init 6 = .ok (.putfield 9, 3) := by decide +kernel
theorem dX7_init_9 : decode cX7_init 9 = .ok (.aload_n 0, 1) := by decide +kernel
theorem dX7_init_10 : decode cX7_init 10 = .ok (.iconst 0, 1) := by decide +kernel
theorem dX7_init_11 : decode cX7_init 11 = .ok (.putfield 15, 3) := by decide +kernel
theorem dX7_init_14 : decode cX7_init 14 = .ok (.aload_n 0, 1) := by decide +kernel
theorem dX7_init_15 : decode cX7_init 15 = .ok (.iconst 0, 1) := by decide +kernel
theorem dX7_init_16 : decode cX7_init 16 = .ok (.putfield 18, 3) := by decide +kernel
theorem dX7_init_19 : decode cX7_init 19 = .ok (.return_, 1) := by decide +kernel
set_option maxRecDepth 20000 in
theorem ggX7_tryAll_X4_setThatIs : GoodIn wsX7_tryAll wsX4_setThatIs := goodIn_r _ [8, 9, 10, 11, 7, 12, 13, 14, 15, 16, 17, 18, 19, 20, 67, 68, 69, 70, 71, 72, 73, 74, 75, 76, 77, 78, 79, 80, 81, 82, 83, 84, 85] (by decide +kernel) (by decide +kernel)
set_option maxRecDepth 20000 in
theorem gX7_tryAll_X4_setThatIs : GoodIn wsX7_tryAll (wsV RX7 21 RX4 yX4_setThatIs wsX4_setThatIs) := goodIn_app (goodIn_of _ (by decide +kernel)) ggX7_tryAll_X4_setThatIs
set_option maxRecDepth 20000 in
theorem ggX7_tryAll_X7_weigh : GoodIn wsX7_tryAll wsX7_weigh := goodIn_r _ [25, 1, 2, 3, 26, 27, 28, 29, 30, 31, 32, 33, 34, 35, 7, 36, 13, 37, 38, 39, 40, 41, 15, 16, 17, 18, 19, 20, 42, 43, 44, 45, 46, 47, 48, 49, 50, 51, 52, 53, 54, 55, 56, 57, 58, 59, 60, 61, 62, 63, 67, 68, 69, 70, 71, 72, 73, 74, 75, 64, 65, 66, 76, 77, 78, 79, 80, 81, 82, 83, 84, 85] (by decide +kernel) (by decide +kernel)
set_option maxRecDepth 20000 in
theorem gX7_tryAll_X7_weigh : GoodIn wsX7_tryAll (wsV RX7 27 RX7 yX7_weigh wsX7_weigh) := goodIn_app (goodIn_of _ (by decide +kernel)) ggX7_tryAll_X7_weigh
theorem dX7_tryAll_0 : decode cX7_tryAll 0 = .ok (.aload_n 0, 1) := by decide +kernel
theorem dX7_tryAll_1 : decode cX7_tryAll 1 = .ok (.iconst 0, 1) := by decide +kernel
theorem dX7_tryAll_2 : decode cX7_tryAll 2 = .ok (.putfield 9, 3) := by decide +kernel
theorem dX7_tryAll_5 : decode cX7_tryAll 5 = .ok (.aload_n 0, 1) := by decide +kernel
theorem dX7_tryAll_6 : decode cX7_tryAll 6 = .ok (.iconst 0, 1) := by decide +kernel
theorem dX7_tryAll_7 : decode cX7_tryAll 7 = .ok (.putfield 15, 3) := by decide +kernel
theorem dX7_tryAll_10 : decode cX7_tryAll 10 = .ok (.aload_n 0, 1) := by decide +kernel
theorem dX7_tryAll_11 : decode cX7_tryAll 11 = .ok (.iconst 0, 1) := by decide +kernel
theorem dX7_tryAll_12 : decode cX7_tryAll 12 = .ok (.putfield 18, 3) := by decide +kernel
theorem dX7_tryAll_15 : decode cX7_tryAll 15 = .ok (.aload_n 1, 1) := by decide +kernel
theorem dX7_tryAll_16 : decode cX7_tryAll 16 = .ok (.iconst 2, 1) := by decide +kernel
theorem dX7_tryAll_17 : decode cX7_tryAll 17 = .ok (.invokevirtual 21, 3) := by decide +kernel
theorem dX7_tryAll_20 : decode cX7_tryAll 20 = .ok (.istore_n 2, 1) := by decide +kernel
theorem dX7_tryAll_21 : decode cX7_tryAll 21 = .ok (.iconst 1, 1) := by decide +kernel
theorem dX7_tryAll_22 : decode cX7_tryAll 22 = .ok (.istore_n 3, 1) := by decide +kernel
theorem dX7_tryAll_23 : decode cX7_tryAll 23 = .ok (.iload_n 3, 1) := by decide +kernel
theorem dX7_tryAll_24 : decode cX7_tryAll 24 = .ok (.sipush 128, 3) := by decide +kernel
theorem dX7_tryAll_27 : decode cX7_tryAll 27 = .ok (.if_icmp .ge 23, 3) := by decide +kernel
theorem dX7_tryAll_30 : decode cX7_tryAll 30 = .ok (.iload_n 3, 1) := by decide +kernel
theorem dX7_tryAll_31 : decode cX7_tryAll 31 = .ok (.iload_n 2, 1) := by decide +kernel
theorem dX7_tryAll_32 : decode cX7_tryAll 32 = .ok (.iconst (-1), 1) := by decide +kernel
theorem dX7_tryAll_33 : decode cX7_tryAll 33 = .ok (.ixor, 1) := by decide +kernel
theorem dX7_tryAll_34 : decode cX7_tryAll 34 = .ok (.iand, 1) := by decide +kernel
theorem dX7_tryAll_35 : decode cX7_tryAll 35 = .ok (.ifCond .ne 9, 3) := by decide +kernel
theorem dX7_tryAll_38 : decode cX7_tryAll 38 = .ok (.aload_n 0, 1) := by decide +kernel
theorem dX7_tryAll_39 : decode cX7_tryAll 39 = .ok (.aload_n 1, 1) := by decide +kernel
theorem dX7_tryAll_40 : decode cX7_tryAll 40 = .ok (.iload_n 3, 1) := by decide +kernel
theorem dX7_tryAll_41 : decode cX7_tryAll 41 = .ok (.invokevirtual 27, 3) := by decide +kernel
theorem dX7_tryAll_44 : decode cX7_tryAll 44 = .ok (.iinc 3 1, 3) := by decide +kernel
theorem dX7_tryAll_47 : decode cX7_tryAll 47 = .ok (.goto (-24), 3) := by decide +kernel
theorem dX7_tryAll_50 : decode cX7_tryAll 50 = .ok (.return_, 1) := by decide +kernel
set_option maxRecDepth 20000 in
theorem ggX7_weigh_J6_bitCount_0f7a4 : GoodIn wsX7_weigh wsJ6_bitCount_0f7a4 := goodIn_r _ [7, 8, 9, 10] (by decide +kernel) (by decide +kernel)
set_option maxRecDepth 20000 in
theorem gX7_weigh_J6_bitCount_0f7a4 : GoodIn wsX7_weigh (va_wsS RX7 31 yJ6_bitCount_0f7a4 wsJ6_bitCount_0f7a4) := goodIn_app (goodIn_of _ (by decide +kernel)) ggX7_weigh_J6_bitCount_0f7a4
set_option maxRecDepth 20000 in
theorem ggX7_weigh_X4_reignOf : GoodIn wsX7_weigh wsX4_reignOf := goodIn_r _ [15, 16, 17, 18, 19, 14, 20, 21, 22, 23, 24, 25, 26, 27, 28, 29, 30, 31, 32, 33, 34, 35, 36, 37, 38, 39, 40, 41, 42, 43, 44, 45, 46, 47, 48, 49, 50, 51, 52, 53, 54, 55, 56, 57, 58, 62, 63, 64, 65, 66, 67, 68, 69, 70, 71] (by decide +kernel) (by decide +kernel)
set_option maxRecDepth 20000 in
theorem gX7_weigh_X4_reignOf : GoodIn wsX7_weigh (wsV RX7 36 RX4 yX4_reignOf wsX4_reignOf) := goodIn_app (goodIn_of _ (by decide +kernel)) ggX7_weigh_X4_reignOf
theorem dX7_weigh_0 : decode cX7_weigh 0 = .ok (.iload_n 2, 1) := by decide +kernel
theorem dX7_weigh_1 : decode cX7_weigh 1 = .ok (.invokestatic 31, 3) := by decide +kernel
theorem dX7_weigh_4 : decode cX7_weigh 4 = .ok (.istore_n 3, 1) := by decide +kernel
theorem dX7_weigh_5 : decode cX7_weigh 5 = .ok (.iconst 0, 1) := by decide +kernel
theorem dX7_weigh_6 : decode cX7_weigh 6 = .ok (.istore 4, 2) := by decide +kernel
theorem dX7_weigh_8 : decode cX7_weigh 8 = .ok (.iconst 0, 1) := by decide +kernel
theorem dX7_weigh_9 : decode cX7_weigh 9 = .ok (.istore 5, 2) := by decide +kernel
theorem dX7_weigh_11 : decode cX7_weigh 11 = .ok (.iload 5, 2) := by decide +kernel
theorem dX7_weigh_13 : decode cX7_weigh 13 = .ok (.bipush 7, 2) := by decide +kernel
theorem dX7_weigh_15 : decode cX7_weigh 15 = .ok (.if_icmp .ge 34, 3) := by decide +kernel
theorem dX7_weigh_18 : decode cX7_weigh 18 = .ok (.iload 4, 2) := by decide +kernel
theorem dX7_weigh_20 : decode cX7_weigh 20 = .ok (.iload_n 2, 1) := by decide +kernel
theorem dX7_weigh_21 : decode cX7_weigh 21 = .ok (.iload 5, 2) := by decide +kernel
theorem dX7_weigh_23 : decode cX7_weigh 23 = .ok (.ishr, 1) := by decide +kernel
theorem dX7_weigh_24 : decode cX7_weigh 24 = .ok (.iconst 1, 1) := by decide +kernel
theorem dX7_weigh_25 : decode cX7_weigh 25 = .ok (.iand, 1) := by decide +kernel
theorem dX7_weigh_26 : decode cX7_weigh 26 = .ok (.iconst 1, 1) := by decide +kernel
theorem dX7_weigh_27 : decode cX7_weigh 27 = .ok (.if_icmp .ne 12, 3) := by decide +kernel
theorem dX7_weigh_30 : decode cX7_weigh 30 = .ok (.aload_n 1, 1) := by decide +kernel
theorem dX7_weigh_31 : decode cX7_weigh 31 = .ok (.iload 5, 2) := by decide +kernel
theorem dX7_weigh_33 : decode cX7_weigh 33 = .ok (.invokevirtual 36, 3) := by decide +kernel
theorem dX7_weigh_36 : decode cX7_weigh 36 = .ok (.goto 4, 3) := by decide +kernel
theorem dX7_weigh_39 : decode cX7_weigh 39 = .ok (.iconst 0, 1) := by decide +kernel
theorem dX7_weigh_40 : decode cX7_weigh 40 = .ok (.iadd, 1) := by decide +kernel
theorem dX7_weigh_41 : decode cX7_weigh 41 = .ok (.istore 4, 2) := by decide +kernel
theorem dX7_weigh_43 : decode cX7_weigh 43 = .ok (.iinc 5 1, 3) := by decide +kernel
theorem dX7_weigh_46 : decode cX7_weigh 46 = .ok (.goto (-35), 3) := by decide +kernel
theorem dX7_weigh_49 : decode cX7_weigh 49 = .ok (.iconst 2, 1) := by decide +kernel
theorem dX7_weigh_50 : decode cX7_weigh 50 = .ok (.iload 4, 2) := by decide +kernel
theorem dX7_weigh_52 : decode cX7_weigh 52 = .ok (.imul, 1) := by decide +kernel
theorem dX7_weigh_53 : decode cX7_weigh 53 = .ok (.aload_n 1, 1) := by decide +kernel
theorem dX7_weigh_54 : decode cX7_weigh 54 = .ok (.getfield 39, 3) := by decide +kernel
theorem dX7_weigh_57 : decode cX7_weigh 57 = .ok (.if_icmp .gt 7, 3) := by decide +kernel
theorem dX7_weigh_60 : decode cX7_weigh 60 = .ok (.iconst 1, 1) := by decide +kernel
theorem dX7_weigh_61 : decode cX7_weigh 61 = .ok (.goto 4, 3) := by decide +kernel
theorem dX7_weigh_64 : decode cX7_weigh 64 = .ok (.iconst 0, 1) := by decide +kernel
theorem dX7_weigh_65 : decode cX7_weigh 65 = .ok (.istore 5, 2) := by decide +kernel
theorem dX7_weigh_67 : decode cX7_weigh 67 = .ok (.iload 5, 2) := by decide +kernel
theorem dX7_weigh_69 : decode cX7_weigh 69 = .ok (.ifCond .eq 44, 3) := by decide +kernel
theorem dX7_weigh_72 : decode cX7_weigh 72 = .ok (.iload_n 3, 1) := by decide +kernel
theorem dX7_weigh_73 : decode cX7_weigh 73 = .ok (.aload_n 0, 1) := by decide +kernel
theorem dX7_weigh_74 : decode cX7_weigh 74 = .ok (.getfield 9, 3) := by decide +kernel
theorem dX7_weigh_77 : decode cX7_weigh 77 = .ok (.if_icmp .gt 20, 3) := by decide +kernel
theorem dX7_weigh_80 : decode cX7_weigh 80 = .ok (.iload_n 3, 1) := by decide +kernel
theorem dX7_weigh_81 : decode cX7_weigh 81 = .ok (.aload_n 0, 1) := by decide +kernel
theorem dX7_weigh_82 : decode cX7_weigh 82 = .ok (.getfield 9, 3) := by decide +kernel
theorem dX7_weigh_85 : decode cX7_weigh 85 = .ok (.if_icmp .ne 28, 3) := by decide +kernel
theorem dX7_weigh_88 : decode cX7_weigh 88 = .ok (.iload 4, 2) := by decide +kernel
theorem dX7_weigh_90 : decode cX7_weigh 90 = .ok (.aload_n 0, 1) := by decide +kernel
theorem dX7_weigh_91 : decode cX7_weigh 91 = .ok (.getfield 15, 3) := by decide +kernel
theorem dX7_weigh_94 : decode cX7_weigh 94 = .ok (.if_icmp .le 19, 3) := by decide +kernel
theorem dX7_weigh_97 : decode cX7_weigh 97 = .ok (.aload_n 0, 1) := by decide +kernel
theorem dX7_weigh_98 : decode cX7_weigh 98 = .ok (.iload_n 3, 1) := by decide +kernel
theorem dX7_weigh_99 : decode cX7_weigh 99 = .ok (.putfield 9, 3) := by decide +kernel
theorem dX7_weigh_102 : decode cX7_weigh 102 = .ok (.aload_n 0, 1) := by decide +kernel
theorem dX7_weigh_103 : decode cX7_weigh 103 = .ok (.iload 4, 2) := by decide +kernel
theorem dX7_weigh_105 : decode cX7_weigh 105 = .ok (.putfield 15, 3) := by decide +kernel
theorem dX7_weigh_108 : decode cX7_weigh 108 = .ok (.aload_n 0, 1) := by decide +kernel
theorem dX7_weigh_109 : decode cX7_weigh 109 = .ok (.iload_n 2, 1) := by decide +kernel
theorem dX7_weigh_110 : decode cX7_weigh 110 = .ok (.putfield 18, 3) := by decide +kernel
theorem dX7_weigh_113 : decode cX7_weigh 113 = .ok (.return_, 1) := by decide +kernel
theorem dX8_init_0 : decode cX8_init 0 = .ok (.aload_n 0, 1) := by decide +kernel
theorem dX8_init_1 : decode cX8_init 1 = .ok (.invokespecial 3, 3) := by decide +kernel
theorem dX8_init_4 : decode cX8_init 4 = .ok (.aload_n 0, 1) := by decide +kernel
theorem dX8_init_5 : decode cX8_init 5 = .ok (.bipush 7, 2) := by decide +kernel
theorem dX8_init_7 : decode cX8_init 7 = .ok (.newarray .int, 2) := by decide +kernel
theorem dX8_init_9 : decode cX8_init 9 = .ok (.putfield 9, 3) := by decide +kernel
theorem dX8_init_12 : decode cX8_init 12 = .ok (.aload_n 0, 1) := by decide +kernel
theorem dX8_init_13 : decode cX8_init 13 = .ok (.bipush 7, 2) := by decide +kernel
theorem dX8_init_15 : decode cX8_init 15 = .ok (.newarray .int, 2) := by decide +kernel
theorem dX8_init_17 : decode cX8_init 17 = .ok (.putfield 15, 3) := by decide +kernel
theorem dX8_init_20 : decode cX8_init 20 = .ok (.aload_n 0, 1) := by decide +kernel
theorem dX8_init_21 : decode cX8_init 21 = .ok (.bipush 7, 2) := by decide +kernel
theorem dX8_init_23 : decode cX8_init 23 = .ok (.newarray .int, 2) := by decide +kernel
theorem dX8_init_25 : decode cX8_init 25 = .ok (.putfield 18, 3) := by decide +kernel
theorem dX8_init_28 : decode cX8_init 28 = .ok (.aload_n 0, 1) := by decide +kernel
theorem dX8_init_29 : decode cX8_init 29 = .ok (.iconst 5, 1) := by decide +kernel
theorem dX8_init_30 : decode cX8_init 30 = .ok (.newarray .int, 2) := by decide +kernel
theorem dX8_init_32 : decode cX8_init 32 = .ok (.putfield 21, 3) := by decide +kernel
theorem dX8_init_35 : decode cX8_init 35 = .ok (.aload_n 0, 1) := by decide +kernel
theorem dX8_init_36 : decode cX8_init 36 = .ok (.iconst 5, 1) := by decide +kernel
theorem dX8_init_37 : decode cX8_init 37 = .ok (.newarray .int, 2) := by decide +kernel
theorem dX8_init_39 : decode cX8_init 39 = .ok (.putfield 24, 3) := by decide +kernel
theorem dX8_init_42 : decode cX8_init 42 = .ok (.aload_n 0, 1) := by decide +kernel
theorem dX8_init_43 : decode cX8_init 43 = .ok (.iconst 0, 1) := by decide +kernel
theorem dX8_init_44 : decode cX8_init 44 = .ok (.putfield 27, 3) := by decide +kernel
theorem dX8_init_47 : decode cX8_init 47 = .ok (.aload_n 0, 1) := by decide +kernel
theorem dX8_init_48 : decode cX8_init 48 = .ok (.iconst 0, 1) := by decide +kernel
theorem dX8_init_49 : decode cX8_init 49 = .ok (.putfield 31, 3) := by decide +kernel
theorem dX8_init_52 : decode cX8_init 52 = .ok (.aload_n 0, 1) := by decide +kernel
theorem dX8_init_53 : decode cX8_init 53 = .ok (.iconst 0, 1) := by decide +kernel
theorem dX8_init_54 : decode cX8_init 54 = .ok (.putfield 34, 3) := by decide +kernel
theorem dX8_init_57 : decode cX8_init 57 = .ok (.aload_n 0, 1) := by decide +kernel
theorem dX8_init_58 : decode cX8_init 58 = .ok (.iconst 0, 1) := by decide +kernel
theorem dX8_init_59 : decode cX8_init 59 = .ok (.putfield 37, 3) := by decide +kernel
theorem dX8_init_62 : decode cX8_init 62 = .ok (.aload_n 0, 1) := by decide +kernel
theorem dX8_init_63 : decode cX8_init 63 = .ok (.iconst 0, 1) := by decide +kernel
theorem dX8_init_64 : decode cX8_init 64 = .ok (.putfield 40, 3) := by decide +kernel
theorem dX8_init_67 : decode cX8_init 67 = .ok (.return_, 1) := by decide +kernel
theorem dX8_clear_0 : decode cX8_clear 0 = .ok (.aload_n 0, 1) := by decide +kernel
theorem dX8_clear_1 : decode cX8_clear 1 = .ok (.iconst 0, 1) := by decide +kernel
theorem dX8_clear_2 : decode cX8_clear 2 = .ok (.putfield 27, 3) := by decide +kernel
theorem dX8_clear_5 : decode cX8_clear 5 = .ok (.aload_n 0, 1) := by decide +kernel
theorem dX8_clear_6 : decode cX8_clear 6 = .ok (.iconst 0, 1) := by decide +kernel
theorem dX8_clear_7 : decode cX8_clear 7 = .ok (.putfield 31, 3) := by decide +kernel
theorem dX8_clear_10 : decode cX8_clear 10 = .ok (.aload_n 0, 1) := by decide +kernel
theorem dX8_clear_11 : decode cX8_clear 11 = .ok (.iconst 0, 1) := by decide +kernel
theorem dX8_clear_12 : decode cX8_clear 12 = .ok (.putfield 34, 3) := by decide +kernel
theorem dX8_clear_15 : decode cX8_clear 15 = .ok (.aload_n 0, 1) := by decide +kernel
theorem dX8_clear_16 : decode cX8_clear 16 = .ok (.iconst 0, 1) := by decide +kernel
theorem dX8_clear_17 : decode cX8_clear 17 = .ok (.putfield 37, 3) := by decide +kernel
theorem dX8_clear_20 : decode cX8_clear 20 = .ok (.aload_n 0, 1) := by decide +kernel
theorem dX8_clear_21 : decode cX8_clear 21 = .ok (.iconst 0, 1) := by decide +kernel
theorem dX8_clear_22 : decode cX8_clear 22 = .ok (.putfield 40, 3) := by decide +kernel
theorem dX8_clear_25 : decode cX8_clear 25 = .ok (.return_, 1) := by decide +kernel
theorem dX8_layPan_0 : decode cX8_layPan 0 = .ok (.aload_n 0, 1) := by decide +kernel
theorem dX8_layPan_1 : decode cX8_layPan 1 = .ok (.iload_n 1, 1) := by decide +kernel
theorem dX8_layPan_2 : decode cX8_layPan 2 = .ok (.putfield 27, 3) := by decide +kernel
theorem dX8_layPan_5 : decode cX8_layPan 5 = .ok (.aload_n 0, 1) := by decide +kernel
theorem dX8_layPan_6 : decode cX8_layPan 6 = .ok (.iload_n 2, 1) := by decide +kernel
theorem dX8_layPan_7 : decode cX8_layPan 7 = .ok (.putfield 31, 3) := by decide +kernel
theorem dX8_layPan_10 : decode cX8_layPan 10 = .ok (.aload_n 0, 1) := by decide +kernel
theorem dX8_layPan_11 : decode cX8_layPan 11 = .ok (.iload_n 3, 1) := by decide +kernel
theorem dX8_layPan_12 : decode cX8_layPan 12 = .ok (.putfield 34, 3) := by decide +kernel
theorem dX8_layPan_15 : decode cX8_layPan 15 = .ok (.return_, 1) := by decide +kernel
theorem dX8_addEgg_0 : decode cX8_addEgg 0 = .ok (.aload_n 0, 1) := by decide +kernel
theorem dX8_addEgg_1 : decode cX8_addEgg 1 = .ok (.getfield 37, 3) := by decide +kernel
theorem dX8_addEgg_4 : decode cX8_addEgg 4 = .ok (.ifCond .lt 52, 3) := by decide +kernel
theorem dX8_addEgg_7 : decode cX8_addEgg 7 = .ok (.aload_n 0, 1) := by decide +kernel
theorem dX8_addEgg_8 : decode cX8_addEgg 8 = .ok (.getfield 37, 3) := by decide +kernel
theorem dX8_addEgg_11 : decode cX8_addEgg 11 = .ok (.bipush 7, 2) := by decide +kernel
theorem dX8_addEgg_13 : decode cX8_addEgg 13 = .ok (.if_icmp .ge 43, 3) := by decide +kernel
theorem dX8_addEgg_16 : decode cX8_addEgg 16 = .ok (.aload_n 0, 1) := by decide +kernel
theorem dX8_addEgg_17 : decode cX8_addEgg 17 = .ok (.getfield 9, 3) := by decide +kernel
theorem dX8_addEgg_20 : decode cX8_addEgg 20 = .ok (.aload_n 0, 1) := by decide +kernel
theorem dX8_addEgg_21 : decode cX8_addEgg 21 = .ok (.getfield 37, 3) := by decide +kernel
theorem dX8_addEgg_24 : decode cX8_addEgg 24 = .ok (.iload_n 1, 1) := by decide +kernel
theorem dX8_addEgg_25 : decode cX8_addEgg 25 = .ok (.iastore, 1) := by decide +kernel
theorem dX8_addEgg_26 : decode cX8_addEgg 26 = .ok (.aload_n 0, 1) := by decide +kernel
theorem dX8_addEgg_27 : decode cX8_addEgg 27 = .ok (.getfield 15, 3) := by decide +kernel
theorem dX8_addEgg_30 : decode cX8_addEgg 30 = .ok (.aload_n 0, 1) := by decide +kernel
theorem dX8_addEgg_31 : decode cX8_addEgg 31 = .ok (.getfield 37, 3) := by decide +kernel
theorem dX8_addEgg_34 : decode cX8_addEgg 34 = .ok (.iload_n 2, 1) := by decide +kernel
theorem dX8_addEgg_35 : decode cX8_addEgg 35 = .ok (.iastore, 1) := by decide +kernel
theorem dX8_addEgg_36 : decode cX8_addEgg 36 = .ok (.aload_n 0, 1) := by decide +kernel
theorem dX8_addEgg_37 : decode cX8_addEgg 37 = .ok (.getfield 18, 3) := by decide +kernel
theorem dX8_addEgg_40 : decode cX8_addEgg 40 = .ok (.aload_n 0, 1) := by decide +kernel
theorem dX8_addEgg_41 : decode cX8_addEgg 41 = .ok (.getfield 37, 3) := by decide +kernel
theorem dX8_addEgg_44 : decode cX8_addEgg 44 = .ok (.iconst 1, 1) := by decide +kernel
theorem dX8_addEgg_45 : decode cX8_addEgg 45 = .ok (.iastore, 1) := by decide +kernel
theorem dX8_addEgg_46 : decode cX8_addEgg 46 = .ok (.aload_n 0, 1) := by decide +kernel
theorem dX8_addEgg_47 : decode cX8_addEgg 47 = .ok (.dup, 1) := by decide +kernel
theorem dX8_addEgg_48 : decode cX8_addEgg 48 = .ok (.getfield 37, 3) := by decide +kernel
theorem dX8_addEgg_51 : decode cX8_addEgg 51 = .ok (.iconst 1, 1) := by decide +kernel
theorem dX8_addEgg_52 : decode cX8_addEgg 52 = .ok (.iadd, 1) := by decide +kernel
theorem dX8_addEgg_53 : decode cX8_addEgg 53 = .ok (.putfield 37, 3) := by decide +kernel
theorem dX8_addEgg_56 : decode cX8_addEgg 56 = .ok (.return_, 1) := by decide +kernel
theorem dX8_addEater_0 : decode cX8_addEater 0 = .ok (.aload_n 0, 1) := by decide +kernel
theorem dX8_addEater_1 : decode cX8_addEater 1 = .ok (.getfield 40, 3) := by decide +kernel
theorem dX8_addEater_4 : decode cX8_addEater 4 = .ok (.ifCond .lt 41, 3) := by decide +kernel
theorem dX8_addEater_7 : decode cX8_addEater 7 = .ok (.aload_n 0, 1) := by decide +kernel
theorem dX8_addEater_8 : decode cX8_addEater 8 = .ok (.getfield 40, 3) := by decide +kernel
theorem dX8_addEater_11 : decode cX8_addEater 11 = .ok (.iconst 5, 1) := by decide +kernel
theorem dX8_addEater_12 : decode cX8_addEater 12 = .ok (.if_icmp .ge 33, 3) := by decide +kernel
theorem dX8_addEater_15 : decode cX8_addEater 15 = .ok (.aload_n 0, 1) := by decide +kernel
theorem dX8_addEater_16 : decode cX8_addEater 16 = .ok (.getfield 21, 3) := by decide +kernel
theorem dX8_addEater_19 : decode cX8_addEater 19 = .ok (.aload_n 0, 1) := by decide +kernel
theorem dX8_addEater_20 : decode cX8_addEater 20 = .ok (.getfield 40, 3) := by decide +kernel
theorem dX8_addEater_23 : decode cX8_addEater 23 = .ok (.iload_n 1, 1) := by decide +kernel
theorem dX8_addEater_24 : decode cX8_addEater 24 = .ok (.iastore, 1) := by decide +kernel
theorem dX8_addEater_25 : decode cX8_addEater 25 = .ok (.aload_n 0, 1) := by decide +kernel
theorem dX8_addEater_26 : decode cX8_addEater 26 = .ok (.getfield 24, 3) := by decide +kernel
theorem dX8_addEater_29 : decode cX8_addEater 29 = .ok (.aload_n 0, 1) := by decide +kernel
theorem dX8_addEater_30 : decode cX8_addEater 30 = .ok (.getfield 40, 3) := by decide +kernel
theorem dX8_addEater_33 : decode cX8_addEater 33 = .ok (.iload_n 2, 1) := by decide +kernel
theorem dX8_addEater_34 : decode cX8_addEater 34 = .ok (.iastore, 1) := by decide +kernel
theorem dX8_addEater_35 : decode cX8_addEater 35 = .ok (.aload_n 0, 1) := by decide +kernel
theorem dX8_addEater_36 : decode cX8_addEater 36 = .ok (.dup, 1) := by decide +kernel
theorem dX8_addEater_37 : decode cX8_addEater 37 = .ok (.getfield 40, 3) := by decide +kernel
theorem dX8_addEater_40 : decode cX8_addEater 40 = .ok (.iconst 1, 1) := by decide +kernel
theorem dX8_addEater_41 : decode cX8_addEater 41 = .ok (.iadd, 1) := by decide +kernel
theorem dX8_addEater_42 : decode cX8_addEater 42 = .ok (.putfield 40, 3) := by decide +kernel
theorem dX8_addEater_45 : decode cX8_addEater 45 = .ok (.return_, 1) := by decide +kernel
set_option maxRecDepth 20000 in
theorem ggX8_become_X8_layPan : GoodIn wsX8_become wsX8_layPan := goodIn_r _ [19, 1, 2, 3, 20, 21, 22, 23, 24, 25, 26, 27, 28, 29] (by decide +kernel) (by decide +kernel)
set_option maxRecDepth 20000 in
theorem gX8_become_X8_layPan : GoodIn wsX8_become (wsV RX8 43 RX8 yX8_layPan wsX8_layPan) := goodIn_app (goodIn_of _ (by decide +kernel)) ggX8_become_X8_layPan
theorem dX8_become_0 : decode cX8_become 0 = .ok (.aload_n 0, 1) := by decide +kernel
theorem dX8_become_1 : decode cX8_become 1 = .ok (.aload_n 1, 1) := by decide +kernel
theorem dX8_become_2 : decode cX8_become 2 = .ok (.getfield 27, 3) := by decide +kernel
theorem dX8_become_5 : decode cX8_become 5 = .ok (.aload_n 1, 1) := by decide +kernel
theorem dX8_become_6 : decode cX8_become 6 = .ok (.getfield 31, 3) := by decide +kernel
theorem dX8_become_9 : decode cX8_become 9 = .ok (.aload_n 1, 1) := by decide +kernel
theorem dX8_become_10 : decode cX8_become 10 = .ok (.getfield 34, 3) := by decide +kernel
theorem dX8_become_13 : decode cX8_become 13 = .ok (.invokevirtual 43, 3) := by decide +kernel
theorem dX8_become_16 : decode cX8_become 16 = .ok (.aload_n 0, 1) := by decide +kernel
theorem dX8_become_17 : decode cX8_become 17 = .ok (.aload_n 1, 1) := by decide +kernel
theorem dX8_become_18 : decode cX8_become 18 = .ok (.getfield 37, 3) := by decide +kernel
theorem dX8_become_21 : decode cX8_become 21 = .ok (.putfield 37, 3) := by decide +kernel
theorem dX8_become_24 : decode cX8_become 24 = .ok (.aload_n 0, 1) := by decide +kernel
theorem dX8_become_25 : decode cX8_become 25 = .ok (.aload_n 1, 1) := by decide +kernel
theorem dX8_become_26 : decode cX8_become 26 = .ok (.getfield 40, 3) := by decide +kernel
theorem dX8_become_29 : decode cX8_become 29 = .ok (.putfield 40, 3) := by decide +kernel
theorem dX8_become_32 : decode cX8_become 32 = .ok (.aload_n 1, 1) := by decide +kernel
theorem dX8_become_33 : decode cX8_become 33 = .ok (.getfield 9, 3) := by decide +kernel
theorem dX8_become_36 : decode cX8_become 36 = .ok (.iconst 0, 1) := by decide +kernel
theorem dX8_become_37 : decode cX8_become 37 = .ok (.aload_n 0, 1) := by decide +kernel
theorem dX8_become_38 : decode cX8_become 38 = .ok (.getfield 9, 3) := by decide +kernel
theorem dX8_become_41 : decode cX8_become 41 = .ok (.iconst 0, 1) := by decide +kernel
theorem dX8_become_42 : decode cX8_become 42 = .ok (.bipush 7, 2) := by decide +kernel
theorem dX8_become_44 : decode cX8_become 44 = .ok (.invokestatic 47, 3) := by decide +kernel
theorem dX8_become_47 : decode cX8_become 47 = .ok (.aload_n 1, 1) := by decide +kernel
theorem dX8_become_48 : decode cX8_become 48 = .ok (.getfield 15, 3) := by decide +kernel
theorem dX8_become_51 : decode cX8_become 51 = .ok (.iconst 0, 1) := by decide +kernel
theorem dX8_become_52 : decode cX8_become 52 = .ok (.aload_n 0, 1) := by decide +kernel
theorem dX8_become_53 : decode cX8_become 53 = .ok (.getfield 15, 3) := by decide +kernel
theorem dX8_become_56 : decode cX8_become 56 = .ok (.iconst 0, 1) := by decide +kernel
theorem dX8_become_57 : decode cX8_become 57 = .ok (.bipush 7, 2) := by decide +kernel
theorem dX8_become_59 : decode cX8_become 59 = .ok (.invokestatic 47, 3) := by decide +kernel
theorem dX8_become_62 : decode cX8_become 62 = .ok (.aload_n 1, 1) := by decide +kernel
theorem dX8_become_63 : decode cX8_become 63 = .ok (.getfield 18, 3) := by decide +kernel
theorem dX8_become_66 : decode cX8_become 66 = .ok (.iconst 0, 1) := by decide +kernel
theorem dX8_become_67 : decode cX8_become 67 = .ok (.aload_n 0, 1) := by decide +kernel
theorem dX8_become_68 : decode cX8_become 68 = .ok (.getfield 18, 3) := by decide +kernel
theorem dX8_become_71 : decode cX8_become 71 = .ok (.iconst 0, 1) := by decide +kernel
theorem dX8_become_72 : decode cX8_become 72 = .ok (.bipush 7, 2) := by decide +kernel
theorem dX8_become_74 : decode cX8_become 74 = .ok (.invokestatic 47, 3) := by decide +kernel
theorem dX8_become_77 : decode cX8_become 77 = .ok (.aload_n 1, 1) := by decide +kernel
theorem dX8_become_78 : decode cX8_become 78 = .ok (.getfield 21, 3) := by decide +kernel
theorem dX8_become_81 : decode cX8_become 81 = .ok (.iconst 0, 1) := by decide +kernel
theorem dX8_become_82 : decode cX8_become 82 = .ok (.aload_n 0, 1) := by decide +kernel
theorem dX8_become_83 : decode cX8_become 83 = .ok (.getfield 21, 3) := by decide +kernel
theorem dX8_become_86 : decode cX8_become 86 = .ok (.iconst 0, 1) := by decide +kernel
theorem dX8_become_87 : decode cX8_become 87 = .ok (.iconst 5, 1) := by decide +kernel
theorem dX8_become_88 : decode cX8_become 88 = .ok (.invokestatic 47, 3) := by decide +kernel
theorem dX8_become_91 : decode cX8_become 91 = .ok (.aload_n 1, 1) := by decide +kernel
theorem dX8_become_92 : decode cX8_become 92 = .ok (.getfield 24, 3) := by decide +kernel
theorem dX8_become_95 : decode cX8_become 95 = .ok (.iconst 0, 1) := by decide +kernel
theorem dX8_become_96 : decode cX8_become 96 = .ok (.aload_n 0, 1) := by decide +kernel
theorem dX8_become_97 : decode cX8_become 97 = .ok (.getfield 24, 3) := by decide +kernel
theorem dX8_become_100 : decode cX8_become 100 = .ok (.iconst 0, 1) := by decide +kernel
theorem dX8_become_101 : decode cX8_become 101 = .ok (.iconst 5, 1) := by decide +kernel
theorem dX8_become_102 : decode cX8_become 102 = .ok (.invokestatic 47, 3) := by decide +kernel
theorem dX8_become_105 : decode cX8_become 105 = .ok (.return_, 1) := by decide +kernel
theorem dX8_isLaid_0 : decode cX8_isLaid 0 = .ok (.aload_n 0, 1) := by decide +kernel
theorem dX8_isLaid_1 : decode cX8_isLaid 1 = .ok (.getfield 27, 3) := by decide +kernel
theorem dX8_isLaid_4 : decode cX8_isLaid 4 = .ok (.ifCond .le 7, 3) := by decide +kernel
theorem dX8_isLaid_7 : decode cX8_isLaid 7 = .ok (.iconst 1, 1) := by decide +kernel
theorem dX8_isLaid_8 : decode cX8_isLaid 8 = .ok (.goto 4, 3) := by decide +kernel
theorem dX8_isLaid_11 : decode cX8_isLaid 11 = .ok (.iconst 0, 1) := by decide +kernel
theorem dX8_isLaid_12 : decode cX8_isLaid 12 = .ok (.ireturn, 1) := by decide +kernel
theorem dX8_hasEgg_0 : decode cX8_hasEgg 0 = .ok (.iload_n 1, 1) := by decide +kernel
theorem dX8_hasEgg_1 : decode cX8_hasEgg 1 = .ok (.ifCond .lt 21, 3) := by decide +kernel
theorem dX8_hasEgg_4 : decode cX8_hasEgg 4 = .ok (.iload_n 1, 1) := by decide +kernel
theorem dX8_hasEgg_5 : decode cX8_hasEgg 5 = .ok (.aload_n 0, 1) := by decide +kernel
theorem dX8_hasEgg_6 : decode cX8_hasEgg 6 = .ok (.getfield 37, 3) := by decide +kernel
theorem dX8_hasEgg_9 : decode cX8_hasEgg 9 = .ok (.if_icmp .ge 13, 3) := by decide +kernel
theorem dX8_hasEgg_12 : decode cX8_hasEgg 12 = .ok (.iload_n 1, 1) := by decide +kernel
theorem dX8_hasEgg_13 : decode cX8_hasEgg 13 = .ok (.bipush 7, 2) := by decide +kernel
theorem dX8_hasEgg_15 : decode cX8_hasEgg 15 = .ok (.if_icmp .ge 7, 3) := by decide +kernel
theorem dX8_hasEgg_18 : decode cX8_hasEgg 18 = .ok (.iconst 1, 1) := by decide +kernel
theorem dX8_hasEgg_19 : decode cX8_hasEgg 19 = .ok (.goto 4, 3) := by decide +kernel
theorem dX8_hasEgg_22 : decode cX8_hasEgg 22 = .ok (.iconst 0, 1) := by decide +kernel
theorem dX8_hasEgg_23 : decode cX8_hasEgg 23 = .ok (.ireturn, 1) := by decide +kernel
theorem dX8_hasEggs_0 : decode cX8_hasEggs 0 = .ok (.iload_n 1, 1) := by decide +kernel
theorem dX8_hasEggs_1 : decode cX8_hasEggs 1 = .ok (.ifCond .lt 21, 3) := by decide +kernel
theorem dX8_hasEggs_4 : decode cX8_hasEggs 4 = .ok (.iload_n 1, 1) := by decide +kernel
theorem dX8_hasEggs_5 : decode cX8_hasEggs 5 = .ok (.aload_n 0, 1) := by decide +kernel
theorem dX8_hasEggs_6 : decode cX8_hasEggs 6 = .ok (.getfield 37, 3) := by decide +kernel
theorem dX8_hasEggs_9 : decode cX8_hasEggs 9 = .ok (.bipush 7, 2) := by decide +kernel
theorem dX8_hasEggs_11 : decode cX8_hasEggs 11 = .ok (.invokestatic 53, 3) := by decide +kernel
theorem dX8_hasEggs_14 : decode cX8_hasEggs 14 = .ok (.ishr, 1) := by decide +kernel
theorem dX8_hasEggs_15 : decode cX8_hasEggs 15 = .ok (.ifCond .ne 7, 3) := by decide +kernel
theorem dX8_hasEggs_18 : decode cX8_hasEggs 18 = .ok (.iconst 1, 1) := by decide +kernel
theorem dX8_hasEggs_19 : decode cX8_hasEggs 19 = .ok (.goto 4, 3) := by decide +kernel
theorem dX8_hasEggs_22 : decode cX8_hasEggs 22 = .ok (.iconst 0, 1) := by decide +kernel
theorem dX8_hasEggs_23 : decode cX8_hasEggs 23 = .ok (.ireturn, 1) := by decide +kernel
theorem dX8_hasEater_0 : decode cX8_hasEater 0 = .ok (.iload_n 1, 1) := by decide +kernel
theorem dX8_hasEater_1 : decode cX8_hasEater 1 = .ok (.ifCond .lt 20, 3) := by decide +kernel
theorem dX8_hasEater_4 : decode cX8_hasEater 4 = .ok (.iload_n 1, 1) := by decide +kernel
theorem dX8_hasEater_5 : decode cX8_hasEater 5 = .ok (.aload_n 0, 1) := by decide +kernel
theorem dX8_hasEater_6 : decode cX8_hasEater 6 = .ok (.getfield 40, 3) := by decide +kernel
theorem dX8_hasEater_9 : decode cX8_hasEater 9 = .ok (.if_icmp .ge 12, 3) := by decide +kernel
theorem dX8_hasEater_12 : decode cX8_hasEater 12 = .ok (.iload_n 1, 1) := by decide +kernel
theorem dX8_hasEater_13 : decode cX8_hasEater 13 = .ok (.iconst 5, 1) := by decide +kernel
theorem dX8_hasEater_14 : decode cX8_hasEater 14 = .ok (.if_icmp .ge 7, 3) := by decide +kernel
theorem dX8_hasEater_17 : decode cX8_hasEater 17 = .ok (.iconst 1, 1) := by decide +kernel
theorem dX8_hasEater_18 : decode cX8_hasEater 18 = .ok (.goto 4, 3) := by decide +kernel
theorem dX8_hasEater_21 : decode cX8_hasEater 21 = .ok (.iconst 0, 1) := by decide +kernel
theorem dX8_hasEater_22 : decode cX8_hasEater 22 = .ok (.ireturn, 1) := by decide +kernel
set_option maxRecDepth 20000 in
theorem ggX8_ageOf_X8_hasEgg : GoodIn wsX8_ageOf wsX8_hasEgg := goodIn_r _ [6, 7, 8, 9, 10, 11, 12, 13, 14, 15, 16, 17] (by decide +kernel) (by decide +kernel)
set_option maxRecDepth 20000 in
theorem gX8_ageOf_X8_hasEgg : GoodIn wsX8_ageOf (wsV RX8 59 RX8 yX8_hasEgg wsX8_hasEgg) := goodIn_app (goodIn_of _ (by decide +kernel)) ggX8_ageOf_X8_hasEgg
theorem dX8_ageOf_0 : decode cX8_ageOf 0 = .ok (.aload_n 0, 1) := by decide +kernel
theorem dX8_ageOf_1 : decode cX8_ageOf 1 = .ok (.iload_n 1, 1) := by decide +kernel
theorem dX8_ageOf_2 : decode cX8_ageOf 2 = .ok (.invokevirtual 59, 3) := by decide +kernel
theorem dX8_ageOf_5 : decode cX8_ageOf 5 = .ok (.ifCond .eq 12, 3) := by decide +kernel
theorem dX8_ageOf_8 : decode cX8_ageOf 8 = .ok (.aload_n 0, 1) := by decide +kernel
theorem dX8_ageOf_9 : decode cX8_ageOf 9 = .ok (.getfield 9, 3) := by decide +kernel
theorem dX8_ageOf_12 : decode cX8_ageOf 12 = .ok (.iload_n 1, 1) := by decide +kernel
theorem dX8_ageOf_13 : decode cX8_ageOf 13 = .ok (.iaload, 1) := by decide +kernel
theorem dX8_ageOf_14 : decode cX8_ageOf 14 = .ok (.goto 4, 3) := by decide +kernel
theorem dX8_ageOf_17 : decode cX8_ageOf 17 = .ok (.iconst 0, 1) := by decide +kernel
theorem dX8_ageOf_18 : decode cX8_ageOf 18 = .ok (.ireturn, 1) := by decide +kernel
set_option maxRecDepth 20000 in
theorem ggX8_sizeOf_X8_hasEgg : GoodIn wsX8_sizeOf wsX8_hasEgg := goodIn_r _ [6, 7, 8, 9, 10, 11, 12, 13, 14, 15, 16, 17] (by decide +kernel) (by decide +kernel)
set_option maxRecDepth 20000 in
theorem gX8_sizeOf_X8_hasEgg : GoodIn wsX8_sizeOf (wsV RX8 59 RX8 yX8_hasEgg wsX8_hasEgg) := goodIn_app (goodIn_of _ (by decide +kernel)) ggX8_sizeOf_X8_hasEgg
theorem dX8_sizeOf_0 : decode cX8_sizeOf 0 = .ok (.aload_n 0, 1) := by decide +kernel
theorem dX8_sizeOf_1 : decode cX8_sizeOf 1 = .ok (.iload_n 1, 1) := by decide +kernel
theorem dX8_sizeOf_2 : decode cX8_sizeOf 2 = .ok (.invokevirtual 59, 3) := by decide +kernel
theorem dX8_sizeOf_5 : decode cX8_sizeOf 5 = .ok (.ifCond .eq 12, 3) := by decide +kernel
theorem dX8_sizeOf_8 : decode cX8_sizeOf 8 = .ok (.aload_n 0, 1) := by decide +kernel
theorem dX8_sizeOf_9 : decode cX8_sizeOf 9 = .ok (.getfield 15, 3) := by decide +kernel
theorem dX8_sizeOf_12 : decode cX8_sizeOf 12 = .ok (.iload_n 1, 1) := by decide +kernel
theorem dX8_sizeOf_13 : decode cX8_sizeOf 13 = .ok (.iaload, 1) := by decide +kernel
theorem dX8_sizeOf_14 : decode cX8_sizeOf 14 = .ok (.goto 4, 3) := by decide +kernel
theorem dX8_sizeOf_17 : decode cX8_sizeOf 17 = .ok (.iconst 0, 1) := by decide +kernel
theorem dX8_sizeOf_18 : decode cX8_sizeOf 18 = .ok (.ireturn, 1) := by decide +kernel
set_option maxRecDepth 20000 in
theorem ggX8_wishOf_X8_hasEgg : GoodIn wsX8_wishOf wsX8_hasEgg := goodIn_r _ [6, 7, 8, 9, 10, 11, 12, 13, 14, 15, 16, 17] (by decide +kernel) (by decide +kernel)
set_option maxRecDepth 20000 in
theorem gX8_wishOf_X8_hasEgg : GoodIn wsX8_wishOf (wsV RX8 59 RX8 yX8_hasEgg wsX8_hasEgg) := goodIn_app (goodIn_of _ (by decide +kernel)) ggX8_wishOf_X8_hasEgg
theorem dX8_wishOf_0 : decode cX8_wishOf 0 = .ok (.aload_n 0, 1) := by decide +kernel
theorem dX8_wishOf_1 : decode cX8_wishOf 1 = .ok (.iload_n 1, 1) := by decide +kernel
theorem dX8_wishOf_2 : decode cX8_wishOf 2 = .ok (.invokevirtual 59, 3) := by decide +kernel
theorem dX8_wishOf_5 : decode cX8_wishOf 5 = .ok (.ifCond .eq 12, 3) := by decide +kernel
theorem dX8_wishOf_8 : decode cX8_wishOf 8 = .ok (.aload_n 0, 1) := by decide +kernel
theorem dX8_wishOf_9 : decode cX8_wishOf 9 = .ok (.getfield 18, 3) := by decide +kernel
theorem dX8_wishOf_12 : decode cX8_wishOf 12 = .ok (.iload_n 1, 1) := by decide +kernel
theorem dX8_wishOf_13 : decode cX8_wishOf 13 = .ok (.iaload, 1) := by decide +kernel
theorem dX8_wishOf_14 : decode cX8_wishOf 14 = .ok (.goto 4, 3) := by decide +kernel
theorem dX8_wishOf_17 : decode cX8_wishOf 17 = .ok (.iconst 0, 1) := by decide +kernel
theorem dX8_wishOf_18 : decode cX8_wishOf 18 = .ok (.ireturn, 1) := by decide +kernel
set_option maxRecDepth 20000 in
theorem ggX8_setWish_X8_hasEgg : GoodIn wsX8_setWish wsX8_hasEgg := goodIn_r _ [6, 7, 8, 9, 10, 11, 12, 13, 14, 15, 16, 17] (by decide +kernel) (by decide +kernel)
set_option maxRecDepth 20000 in
theorem gX8_setWish_X8_hasEgg : GoodIn wsX8_setWish (wsV RX8 59 RX8 yX8_hasEgg wsX8_hasEgg) := goodIn_app (goodIn_of _ (by decide +kernel)) ggX8_setWish_X8_hasEgg
theorem dX8_setWish_0 : decode cX8_setWish 0 = .ok (.aload_n 0, 1) := by decide +kernel
theorem dX8_setWish_1 : decode cX8_setWish 1 = .ok (.iload_n 1, 1) := by decide +kernel
theorem dX8_setWish_2 : decode cX8_setWish 2 = .ok (.invokevirtual 59, 3) := by decide +kernel
theorem dX8_setWish_5 : decode cX8_setWish 5 = .ok (.ifCond .eq 10, 3) := by decide +kernel
theorem dX8_setWish_8 : decode cX8_setWish 8 = .ok (.aload_n 0, 1) := by decide +kernel
theorem dX8_setWish_9 : decode cX8_setWish 9 = .ok (.getfield 18, 3) := by decide +kernel
theorem dX8_setWish_12 : decode cX8_setWish 12 = .ok (.iload_n 1, 1) := by decide +kernel
theorem dX8_setWish_13 : decode cX8_setWish 13 = .ok (.iload_n 2, 1) := by decide +kernel
theorem dX8_setWish_14 : decode cX8_setWish 14 = .ok (.iastore, 1) := by decide +kernel
theorem dX8_setWish_15 : decode cX8_setWish 15 = .ok (.return_, 1) := by decide +kernel
set_option maxRecDepth 20000 in
theorem ggX8_softestFor_X8_hasEater : GoodIn wsX8_softestFor wsX8_hasEater := goodIn_r _ [6, 7, 8, 9, 10, 11, 12, 13, 14, 15, 16, 17] (by decide +kernel) (by decide +kernel)
set_option maxRecDepth 20000 in
theorem gX8_softestFor_X8_hasEater : GoodIn wsX8_softestFor (wsV RX8 63 RX8 yX8_hasEater wsX8_hasEater) := goodIn_app (goodIn_of _ (by decide +kernel)) ggX8_softestFor_X8_hasEater
theorem dX8_softestFor_0 : decode cX8_softestFor 0 = .ok (.aload_n 0, 1) := by decide +kernel
theorem dX8_softestFor_1 : decode cX8_softestFor 1 = .ok (.iload_n 1, 1) := by decide +kernel
theorem dX8_softestFor_2 : decode cX8_softestFor 2 = .ok (.invokevirtual 63, 3) := by decide +kernel
theorem dX8_softestFor_5 : decode cX8_softestFor 5 = .ok (.ifCond .eq 12, 3) := by decide +kernel
theorem dX8_softestFor_8 : decode cX8_softestFor 8 = .ok (.aload_n 0, 1) := by decide +kernel
theorem dX8_softestFor_9 : decode cX8_softestFor 9 = .ok (.getfield 21, 3) := by decide +kernel
theorem dX8_softestFor_12 : decode cX8_softestFor 12 = .ok (.iload_n 1, 1) := by decide +kernel
theorem dX8_softestFor_13 : decode cX8_softestFor 13 = .ok (.iaload, 1) := by decide +kernel
theorem dX8_softestFor_14 : decode cX8_softestFor 14 = .ok (.goto 4, 3) := by decide +kernel
theorem dX8_softestFor_17 : decode cX8_softestFor 17 = .ok (.iconst 0, 1) := by decide +kernel
theorem dX8_softestFor_18 : decode cX8_softestFor 18 = .ok (.ireturn, 1) := by decide +kernel
set_option maxRecDepth 20000 in
theorem ggX8_hardestFor_X8_hasEater : GoodIn wsX8_hardestFor wsX8_hasEater := goodIn_r _ [6, 7, 8, 9, 10, 11, 12, 13, 14, 15, 16, 17] (by decide +kernel) (by decide +kernel)
set_option maxRecDepth 20000 in
theorem gX8_hardestFor_X8_hasEater : GoodIn wsX8_hardestFor (wsV RX8 63 RX8 yX8_hasEater wsX8_hasEater) := goodIn_app (goodIn_of _ (by decide +kernel)) ggX8_hardestFor_X8_hasEater
theorem dX8_hardestFor_0 : decode cX8_hardestFor 0 = .ok (.aload_n 0, 1) := by decide +kernel
theorem dX8_hardestFor_1 : decode cX8_hardestFor 1 = .ok (.iload_n 1, 1) := by decide +kernel
theorem dX8_hardestFor_2 : decode cX8_hardestFor 2 = .ok (.invokevirtual 63, 3) := by decide +kernel
theorem dX8_hardestFor_5 : decode cX8_hardestFor 5 = .ok (.ifCond .eq 12, 3) := by decide +kernel
theorem dX8_hardestFor_8 : decode cX8_hardestFor 8 = .ok (.aload_n 0, 1) := by decide +kernel
theorem dX8_hardestFor_9 : decode cX8_hardestFor 9 = .ok (.getfield 24, 3) := by decide +kernel
theorem dX8_hardestFor_12 : decode cX8_hardestFor 12 = .ok (.iload_n 1, 1) := by decide +kernel
theorem dX8_hardestFor_13 : decode cX8_hardestFor 13 = .ok (.iaload, 1) := by decide +kernel
theorem dX8_hardestFor_14 : decode cX8_hardestFor 14 = .ok (.goto 4, 3) := by decide +kernel
theorem dX8_hardestFor_17 : decode cX8_hardestFor 17 = .ok (.iconst 0, 1) := by decide +kernel
theorem dX8_hardestFor_18 : decode cX8_hardestFor 18 = .ok (.ireturn, 1) := by decide +kernel
set_option maxRecDepth 20000 in
theorem ggX8_hardness_X8_hasEgg : GoodIn wsX8_hardness wsX8_hasEgg := goodIn_r _ [14, 15, 16, 17, 18, 19, 20, 21, 22, 23, 24, 25] (by decide +kernel) (by decide +kernel)
set_option maxRecDepth 20000 in
theorem gX8_hardness_X8_hasEgg : GoodIn wsX8_hardness (wsV RX8 59 RX8 yX8_hasEgg wsX8_hasEgg) := goodIn_app (goodIn_of _ (by decide +kernel)) ggX8_hardness_X8_hasEgg
theorem dX8_hardness_0 : decode cX8_hardness 0 = .ok (.aload_n 0, 1) := by decide +kernel
theorem dX8_hardness_1 : decode cX8_hardness 1 = .ok (.iload_n 1, 1) := by decide +kernel
theorem dX8_hardness_2 : decode cX8_hardness 2 = .ok (.invokevirtual 59, 3) := by decide +kernel
theorem dX8_hardness_5 : decode cX8_hardness 5 = .ok (.ifCond .ne 5, 3) := by decide +kernel
theorem dX8_hardness_8 : decode cX8_hardness 8 = .ok (.iconst 0, 1) := by decide +kernel
theorem dX8_hardness_9 : decode cX8_hardness 9 = .ok (.ireturn, 1) := by decide +kernel
theorem dX8_hardness_10 : decode cX8_hardness 10 = .ok (.bipush 10, 2) := by decide +kernel
theorem dX8_hardness_12 : decode cX8_hardness 12 = .ok (.iload_n 2, 1) := by decide +kernel
theorem dX8_hardness_13 : decode cX8_hardness 13 = .ok (.imul, 1) := by decide +kernel
theorem dX8_hardness_14 : decode cX8_hardness 14 = .ok (.iconst 5, 1) := by decide +kernel
theorem dX8_hardness_15 : decode cX8_hardness 15 = .ok (.aload_n 0, 1) := by decide +kernel
theorem dX8_hardness_16 : decode cX8_hardness 16 = .ok (.getfield 15, 3) := by decide +kernel
theorem dX8_hardness_19 : decode cX8_hardness 19 = .ok (.iload_n 1, 1) := by decide +kernel
theorem dX8_hardness_20 : decode cX8_hardness 20 = .ok (.iaload, 1) := by decide +kernel
theorem dX8_hardness_21 : decode cX8_hardness 21 = .ok (.imul, 1) := by decide +kernel
theorem dX8_hardness_22 : decode cX8_hardness 22 = .ok (.isub, 1) := by decide +kernel
theorem dX8_hardness_23 : decode cX8_hardness 23 = .ok (.aload_n 0, 1) := by decide +kernel
theorem dX8_hardness_24 : decode cX8_hardness 24 = .ok (.getfield 9, 3) := by decide +kernel
theorem dX8_hardness_27 : decode cX8_hardness 27 = .ok (.iload_n 1, 1) := by decide +kernel
theorem dX8_hardness_28 : decode cX8_hardness 28 = .ok (.iaload, 1) := by decide +kernel
theorem dX8_hardness_29 : decode cX8_hardness 29 = .ok (.iconst 3, 1) := by decide +kernel
theorem dX8_hardness_30 : decode cX8_hardness 30 = .ok (.idiv, 1) := by decide +kernel
theorem dX8_hardness_31 : decode cX8_hardness 31 = .ok (.iadd, 1) := by decide +kernel
theorem dX8_hardness_32 : decode cX8_hardness 32 = .ok (.istore_n 3, 1) := by decide +kernel
theorem dX8_hardness_33 : decode cX8_hardness 33 = .ok (.iconst 0, 1) := by decide +kernel
theorem dX8_hardness_34 : decode cX8_hardness 34 = .ok (.bipush 99, 2) := by decide +kernel
theorem dX8_hardness_36 : decode cX8_hardness 36 = .ok (.iload_n 3, 1) := by decide +kernel
theorem dX8_hardness_37 : decode cX8_hardness 37 = .ok (.invokestatic 53, 3) := by decide +kernel
theorem dX8_hardness_40 : decode cX8_hardness 40 = .ok (.invokestatic 66, 3) := by decide +kernel
theorem dX8_hardness_43 : decode cX8_hardness 43 = .ok (.ireturn, 1) := by decide +kernel
set_option maxRecDepth 20000 in
theorem ggX8_reign_X8_hardness : GoodIn wsX8_reign wsX8_hardness := goodIn_r _ [5, 6, 7, 8, 9, 10, 11, 12, 13, 14, 15, 16, 17, 4, 18, 19, 24, 25, 26, 27, 28, 29, 30, 31, 32, 33] (by decide +kernel) (by decide +kernel)
set_option maxRecDepth 20000 in
theorem gX8_reign_X8_hardness : GoodIn wsX8_reign (wsV RX8 69 RX8 yX8_hardness wsX8_hardness) := goodIn_app (goodIn_of _ (by decide +kernel)) ggX8_reign_X8_hardness
set_option maxRecDepth 20000 in
theorem ggX8_reign_X8_sizeOf : GoodIn wsX8_reign wsX8_sizeOf := goodIn_r _ [23, 6, 15, 16, 17, 4, 18, 19, 24, 25, 26, 27, 28, 29, 30, 31, 32, 33] (by decide +kernel) (by decide +kernel)
set_option maxRecDepth 20000 in
theorem gX8_reign_X8_sizeOf : GoodIn wsX8_reign (wsV RX8 72 RX8 yX8_sizeOf wsX8_sizeOf) := goodIn_app (goodIn_of _ (by decide +kernel)) ggX8_reign_X8_sizeOf
theorem dX8_reign_0 : decode cX8_reign 0 = .ok (.iconst 1, 1) := by decide +kernel
theorem dX8_reign_1 : decode cX8_reign 1 = .ok (.aload_n 0, 1) := by decide +kernel
theorem dX8_reign_2 : decode cX8_reign 2 = .ok (.iload_n 1, 1) := by decide +kernel
theorem dX8_reign_3 : decode cX8_reign 3 = .ok (.iload_n 2, 1) := by decide +kernel
theorem dX8_reign_4 : decode cX8_reign 4 = .ok (.invokevirtual 69, 3) := by decide +kernel
theorem dX8_reign_7 : decode cX8_reign 7 = .ok (.bipush 10, 2) := by decide +kernel
theorem dX8_reign_9 : decode cX8_reign 9 = .ok (.idiv, 1) := by decide +kernel
theorem dX8_reign_10 : decode cX8_reign 10 = .ok (.iadd, 1) := by decide +kernel
theorem dX8_reign_11 : decode cX8_reign 11 = .ok (.aload_n 0, 1) := by decide +kernel
theorem dX8_reign_12 : decode cX8_reign 12 = .ok (.iload_n 1, 1) := by decide +kernel
theorem dX8_reign_13 : decode cX8_reign 13 = .ok (.invokevirtual 72, 3) := by decide +kernel
theorem dX8_reign_16 : decode cX8_reign 16 = .ok (.iadd, 1) := by decide +kernel
theorem dX8_reign_17 : decode cX8_reign 17 = .ok (.ireturn, 1) := by decide +kernel
theorem dX9_init_0 : decode cX9_init 0 = .ok (.aload_n 0, 1) := by decide +kernel
theorem dX9_init_1 : decode cX9_init 1 = .ok (.invokespecial 3, 3) := by decide +kernel
theorem dX9_init_4 : decode cX9_init 4 = .ok (.aload_n 0, 1) := by decide +kernel
theorem dX9_init_5 : decode cX9_init 5 = .ok (.sipush 240, 3) := by decide +kernel
theorem dX9_init_8 : decode cX9_init 8 = .ok (.newarray .int, 2) := by decide +kernel
theorem dX9_init_10 : decode cX9_init 10 = .ok (.putfield 9, 3) := by decide +kernel
theorem dX9_init_13 : decode cX9_init 13 = .ok (.aload_n 0, 1) := by decide +kernel
theorem dX9_init_14 : decode cX9_init 14 = .ok (.iconst 0, 1) := by decide +kernel
theorem dX9_init_15 : decode cX9_init 15 = .ok (.putfield 15, 3) := by decide +kernel
theorem dX9_init_18 : decode cX9_init 18 = .ok (.aload_n 0, 1) := by decide +kernel
theorem dX9_init_19 : decode cX9_init 19 = .ok (.iconst 0, 1) := by decide +kernel
theorem dX9_init_20 : decode cX9_init 20 = .ok (.putfield 19, 3) := by decide +kernel
theorem dX9_init_23 : decode cX9_init 23 = .ok (.aload_n 0, 1) := by decide +kernel
theorem dX9_init_24 : decode cX9_init 24 = .ok (.iconst 0, 1) := by decide +kernel
theorem dX9_init_25 : decode cX9_init 25 = .ok (.putfield 22, 3) := by decide +kernel
theorem dX9_init_28 : decode cX9_init 28 = .ok (.aload_n 0, 1) := by decide +kernel
theorem dX9_init_29 : decode cX9_init 29 = .ok (.iconst (-1), 1) := by decide +kernel
theorem dX9_init_30 : decode cX9_init 30 = .ok (.putfield 25, 3) := by decide +kernel
theorem dX9_init_33 : decode cX9_init 33 = .ok (.return_, 1) := by decide +kernel
theorem dX9_length_0 : decode cX9_length 0 = .ok (.aload_n 0, 1) := by decide +kernel
theorem dX9_length_1 : decode cX9_length 1 = .ok (.getfield 15, 3) := by decide +kernel
theorem dX9_length_4 : decode cX9_length 4 = .ok (.ireturn, 1) := by decide +kernel
theorem dX9_empty_0 : decode cX9_empty 0 = .ok (.aload_n 0, 1) := by decide +kernel
theorem dX9_empty_1 : decode cX9_empty 1 = .ok (.iconst 0, 1) := by decide +kernel
theorem dX9_empty_2 : decode cX9_empty 2 = .ok (.putfield 15, 3) := by decide +kernel
theorem dX9_empty_5 : decode cX9_empty 5 = .ok (.return_, 1) := by decide +kernel
theorem dX9_faultPlace_0 : decode cX9_faultPlace 0 = .ok (.aload_n 0, 1) := by decide +kernel
theorem dX9_faultPlace_1 : decode cX9_faultPlace 1 = .ok (.getfield 25, 3) := by decide +kernel
theorem dX9_faultPlace_4 : decode cX9_faultPlace 4 = .ok (.ireturn, 1) := by decide +kernel
theorem dX9_add_0 : decode cX9_add 0 = .ok (.aload_n 0, 1) := by decide +kernel
theorem dX9_add_1 : decode cX9_add 1 = .ok (.getfield 15, 3) := by decide +kernel
theorem dX9_add_4 : decode cX9_add 4 = .ok (.ifCond .lt 13, 3) := by decide +kernel
theorem dX9_add_7 : decode cX9_add 7 = .ok (.aload_n 0, 1) := by decide +kernel
theorem dX9_add_8 : decode cX9_add 8 = .ok (.getfield 15, 3) := by decide +kernel
theorem dX9_add_11 : decode cX9_add 11 = .ok (.sipush 240, 3) := by decide +kernel
theorem dX9_add_14 : decode cX9_add 14 = .ok (.if_icmp .lt 5, 3) := by decide +kernel
theorem dX9_add_17 : decode cX9_add 17 = .ok (.iconst 0, 1) := by decide +kernel
theorem dX9_add_18 : decode cX9_add 18 = .ok (.ireturn, 1) := by decide +kernel
theorem dX9_add_19 : decode cX9_add 19 = .ok (.aload_n 0, 1) := by decide +kernel
theorem dX9_add_20 : decode cX9_add 20 = .ok (.getfield 9, 3) := by decide +kernel
theorem dX9_add_23 : decode cX9_add 23 = .ok (.aload_n 0, 1) := by decide +kernel
theorem dX9_add_24 : decode cX9_add 24 = .ok (.getfield 15, 3) := by decide +kernel
theorem dX9_add_27 : decode cX9_add 27 = .ok (.iload_n 1, 1) := by decide +kernel
theorem dX9_add_28 : decode cX9_add 28 = .ok (.iastore, 1) := by decide +kernel
theorem dX9_add_29 : decode cX9_add 29 = .ok (.aload_n 0, 1) := by decide +kernel
theorem dX9_add_30 : decode cX9_add 30 = .ok (.dup, 1) := by decide +kernel
theorem dX9_add_31 : decode cX9_add 31 = .ok (.getfield 15, 3) := by decide +kernel
theorem dX9_add_34 : decode cX9_add 34 = .ok (.iconst 1, 1) := by decide +kernel
theorem dX9_add_35 : decode cX9_add 35 = .ok (.iadd, 1) := by decide +kernel
theorem dX9_add_36 : decode cX9_add 36 = .ok (.putfield 15, 3) := by decide +kernel
theorem dX9_add_39 : decode cX9_add 39 = .ok (.iconst 1, 1) := by decide +kernel
theorem dX9_add_40 : decode cX9_add 40 = .ok (.ireturn, 1) := by decide +kernel
set_option maxRecDepth 20000 in
theorem ggX9_readInto_X8_clear : GoodIn wsX9_readInto wsX8_clear := goodIn_r _ [8, 9, 10, 11, 12, 13, 85, 86, 87, 88, 89, 90, 91, 92, 93, 94] (by decide +kernel) (by decide +kernel)
set_option maxRecDepth 20000 in
theorem gX9_readInto_X8_clear : GoodIn wsX9_readInto (wsV RX9 28 RX8 yX8_clear wsX8_clear) := goodIn_app (goodIn_of _ (by decide +kernel)) ggX9_readInto_X8_clear
set_option maxRecDepth 20000 in
theorem ggX9_readInto_X9_skipBlanks : GoodIn wsX9_readInto wsX9_skipBlanks := goodIn_r _ [18, 1, 19, 20, 21, 22, 17, 23, 24, 80, 81, 82, 83, 84] (by decide +kernel) (by decide +kernel)
set_option maxRecDepth 20000 in
theorem gX9_readInto_X9_skipBlanks : GoodIn wsX9_readInto (wsV RX9 33 RX9 yX9_skipBlanks wsX9_skipBlanks) := goodIn_app (goodIn_of _ (by decide +kernel)) ggX9_readInto_X9_skipBlanks
set_option maxRecDepth 20000 in
theorem ggX9_readInto_X9_readClause : GoodIn wsX9_readInto wsX9_readClause := goodIn_r _ [28, 1, 14, 15, 16, 17, 18, 19, 20, 21, 22, 23, 24, 29, 30, 31, 7, 32, 9, 33, 34, 35, 36, 2, 3, 37, 38, 39, 40, 41, 42, 43, 44, 45, 46, 47, 48, 49, 50, 51, 52, 53, 54, 55, 56, 57, 58, 10, 11, 59, 60, 61, 62, 63, 64, 65, 66, 12, 67, 68, 69, 70, 71, 72, 73, 74, 75, 76, 77, 13, 78, 79, 80, 81, 82, 83, 84, 85, 86, 87, 88, 89, 90, 91, 92, 93, 94] (by decide +kernel) (by decide +kernel)
set_option maxRecDepth 20000 in
theorem gX9_readInto_X9_readClause : GoodIn wsX9_readInto (wsV RX9 37 RX9 yX9_readClause wsX9_readClause) := goodIn_app (goodIn_of _ (by decide +kernel)) ggX9_readInto_X9_readClause
theorem dX9_readInto_0 : decode cX9_readInto 0 = .ok (.aload_n 1, 1) := by decide +kernel
theorem dX9_readInto_1 : decode cX9_readInto 1 = .ok (.invokevirtual 28, 3) := by decide +kernel
theorem dX9_readInto_4 : decode cX9_readInto 4 = .ok (.aload_n 0, 1) := by decide +kernel
theorem dX9_readInto_5 : decode cX9_readInto 5 = .ok (.iconst 0, 1) := by decide +kernel
theorem dX9_readInto_6 : decode cX9_readInto 6 = .ok (.putfield 19, 3) := by decide +kernel
theorem dX9_readInto_9 : decode cX9_readInto 9 = .ok (.aload_n 0, 1) := by decide +kernel
theorem dX9_readInto_10 : decode cX9_readInto 10 = .ok (.iconst 0, 1) := by decide +kernel
theorem dX9_readInto_11 : decode cX9_readInto 11 = .ok (.putfield 22, 3) := by decide +kernel
theorem dX9_readInto_14 : decode cX9_readInto 14 = .ok (.aload_n 0, 1) := by decide +kernel
theorem dX9_readInto_15 : decode cX9_readInto 15 = .ok (.iconst (-1), 1) := by decide +kernel
theorem dX9_readInto_16 : decode cX9_readInto 16 = .ok (.putfield 25, 3) := by decide +kernel
theorem dX9_readInto_19 : decode cX9_readInto 19 = .ok (.iconst 0, 1) := by decide +kernel
theorem dX9_readInto_20 : decode cX9_readInto 20 = .ok (.istore_n 2, 1) := by decide +kernel
theorem dX9_readInto_21 : decode cX9_readInto 21 = .ok (.iload_n 2, 1) := by decide +kernel
theorem dX9_readInto_22 : decode cX9_readInto 22 = .ok (.sipush 240, 3) := by decide +kernel
theorem dX9_readInto_25 : decode cX9_readInto 25 = .ok (.if_icmp .ge 29, 3) := by decide +kernel
theorem dX9_readInto_28 : decode cX9_readInto 28 = .ok (.aload_n 0, 1) := by decide +kernel
theorem dX9_readInto_29 : decode cX9_readInto 29 = .ok (.getfield 22, 3) := by decide +kernel
theorem dX9_readInto_32 : decode cX9_readInto 32 = .ok (.ifCond .ne 22, 3) := by decide +kernel
theorem dX9_readInto_35 : decode cX9_readInto 35 = .ok (.aload_n 0, 1) := by decide +kernel
theorem dX9_readInto_36 : decode cX9_readInto 36 = .ok (.invokevirtual 33, 3) := by decide +kernel
theorem dX9_readInto_39 : decode cX9_readInto 39 = .ok (.iconst (-1), 1) := by decide +kernel
theorem dX9_readInto_40 : decode cX9_readInto 40 = .ok (.if_icmp .eq 14, 3) := by decide +kernel
theorem dX9_readInto_43 : decode cX9_readInto 43 = .ok (.aload_n 0, 1) := by decide +kernel
theorem dX9_readInto_44 : decode cX9_readInto 44 = .ok (.aload_n 1, 1) := by decide +kernel
theorem dX9_readInto_45 : decode cX9_readInto 45 = .ok (.invokevirtual 37, 3) := by decide +kernel
theorem dX9_readInto_48 : decode cX9_readInto 48 = .ok (.iinc 2 1, 3) := by decide +kernel
theorem dX9_readInto_51 : decode cX9_readInto 51 = .ok (.goto (-30), 3) := by decide +kernel
theorem dX9_readInto_54 : decode cX9_readInto 54 = .ok (.aload_n 0, 1) := by decide +kernel
theorem dX9_readInto_55 : decode cX9_readInto 55 = .ok (.getfield 22, 3) := by decide +kernel
theorem dX9_readInto_58 : decode cX9_readInto 58 = .ok (.ireturn, 1) := by decide +kernel
set_option maxRecDepth 20000 in
theorem ggX9_readClause_X9_skipBlanks : GoodIn wsX9_readClause wsX9_skipBlanks := goodIn_r _ [6, 1, 7, 8, 9, 10, 5, 11, 12, 72, 73, 74, 75, 76] (by decide +kernel) (by decide +kernel)
set_option maxRecDepth 20000 in
theorem gX9_readClause_X9_skipBlanks : GoodIn wsX9_readClause (wsV RX9 33 RX9 yX9_skipBlanks wsX9_skipBlanks) := goodIn_app (goodIn_of _ (by decide +kernel)) ggX9_readClause_X9_skipBlanks
set_option maxRecDepth 20000 in
theorem ggX9_readClause_X8_isLaid : GoodIn wsX9_readClause wsX8_isLaid := goodIn_r _ [17, 18, 77, 78, 79, 80, 81, 82, 83, 84, 85, 86] (by decide +kernel) (by decide +kernel)
set_option maxRecDepth 20000 in
theorem gX9_readClause_X8_isLaid : GoodIn wsX9_readClause (wsV RX9 41 RX8 yX8_isLaid wsX8_isLaid) := goodIn_app (goodIn_of _ (by decide +kernel)) ggX9_readClause_X8_isLaid
set_option maxRecDepth 20000 in
theorem ggX9_readClause_X9_find : GoodIn wsX9_readClause wsX9_find := goodIn_r _ [22, 23, 24, 72, 73, 74, 75, 76] (by decide +kernel) (by decide +kernel)
set_option maxRecDepth 20000 in
theorem gX9_readClause_X9_find : GoodIn wsX9_readClause (wsV RX9 45 RX9 yX9_find wsX9_find) := goodIn_app (goodIn_of _ (by decide +kernel)) ggX9_readClause_X9_find
set_option maxRecDepth 20000 in
theorem ggX9_readClause_X9_readPan : GoodIn wsX9_readClause wsX9_readPan := goodIn_r _ [28, 1, 23, 13, 14, 15, 16, 17, 18, 19, 20, 21, 5, 22, 24, 29, 30, 31, 32, 2, 3, 4, 6, 7, 8, 9, 10, 11, 12, 33, 34, 35, 36, 37, 38, 39, 40, 41, 42, 43, 44, 45, 46, 47, 48, 72, 73, 74, 75, 76, 77, 78, 79, 80, 81, 82, 83, 84, 85, 86] (by decide +kernel) (by decide +kernel)
set_option maxRecDepth 20000 in
theorem gX9_readClause_X9_readPan : GoodIn wsX9_readClause (wsV RX9 49 RX9 yX9_readPan wsX9_readPan) := goodIn_app (goodIn_of _ (by decide +kernel)) ggX9_readClause_X9_readPan
set_option maxRecDepth 20000 in
theorem ggX9_readClause_X9_readEgg : GoodIn wsX9_readClause wsX9_readEgg := goodIn_r _ [52, 1, 23, 19, 20, 21, 5, 22, 24, 29, 30, 31, 32, 2, 3, 4, 6, 7, 8, 9, 10, 11, 12, 33, 34, 35, 36, 37, 38, 39, 40, 41, 42, 53, 54, 55, 16, 56, 57, 58, 59, 60, 77, 78, 79, 80, 81, 82, 83, 84, 85, 86, 72, 73, 74, 75, 76] (by decide +kernel) (by decide +kernel)
set_option maxRecDepth 20000 in
theorem gX9_readClause_X9_readEgg : GoodIn wsX9_readClause (wsV RX9 52 RX9 yX9_readEgg wsX9_readEgg) := goodIn_app (goodIn_of _ (by decide +kernel)) ggX9_readClause_X9_readEgg
set_option maxRecDepth 20000 in
theorem ggX9_readClause_X9_readEater : GoodIn wsX9_readClause wsX9_readEater := goodIn_r _ [64, 1, 23, 19, 20, 21, 5, 22, 24, 29, 30, 31, 32, 2, 3, 4, 6, 7, 8, 9, 10, 11, 12, 33, 34, 35, 36, 37, 38, 39, 40, 41, 42, 65, 66, 67, 16, 68, 69, 70, 71, 77, 78, 79, 80, 81, 82, 83, 84, 85, 86, 72, 73, 74, 75, 76] (by decide +kernel) (by decide +kernel)
set_option maxRecDepth 20000 in
theorem gX9_readClause_X9_readEater : GoodIn wsX9_readClause (wsV RX9 55 RX9 yX9_readEater wsX9_readEater) := goodIn_app (goodIn_of _ (by decide +kernel)) ggX9_readClause_X9_readEater
theorem dX9_readClause_0 : decode cX9_readClause 0 = .ok (.aload_n 0, 1) := by decide +kernel
theorem dX9_readClause_1 : decode cX9_readClause 1 = .ok (.invokevirtual 33, 3) := by decide +kernel
theorem dX9_readClause_4 : decode cX9_readClause 4 = .ok (.istore_n 2, 1) := by decide +kernel
theorem dX9_readClause_5 : decode cX9_readClause 5 = .ok (.iload_n 2, 1) := by decide +kernel
theorem dX9_readClause_6 : decode cX9_readClause 6 = .ok (.bipush 112, 2) := by decide +kernel
theorem dX9_readClause_8 : decode cX9_readClause 8 = .ok (.if_icmp .eq 22, 3) := by decide +kernel
theorem dX9_readClause_11 : decode cX9_readClause 11 = .ok (.aload_n 1, 1) := by decide +kernel
theorem dX9_readClause_12 : decode cX9_readClause 12 = .ok (.invokevirtual 41, 3) := by decide +kernel
theorem dX9_readClause_15 : decode cX9_readClause 15 = .ok (.ifCond .ne 15, 3) := by decide +kernel
theorem dX9_readClause_18 : decode cX9_readClause 18 = .ok (.aload_n 0, 1) := by decide +kernel
theorem dX9_readClause_19 : decode cX9_readClause 19 = .ok (.iconst 1, 1) := by decide +kernel
theorem dX9_readClause_20 : decode cX9_readClause 20 = .ok (.aload_n 0, 1) := by decide +kernel
theorem dX9_readClause_21 : decode cX9_readClause 21 = .ok (.getfield 19, 3) := by decide +kernel
theorem dX9_readClause_24 : decode cX9_readClause 24 = .ok (.invokevirtual 45, 3) := by decide +kernel
theorem dX9_readClause_27 : decode cX9_readClause 27 = .ok (.goto 54, 3) := by decide +kernel
theorem dX9_readClause_30 : decode cX9_readClause 30 = .ok (.iload_n 2, 1) := by decide +kernel
theorem dX9_readClause_31 : decode cX9_readClause 31 = .ok (.bipush 112, 2) := by decide +kernel
theorem dX9_readClause_33 : decode cX9_readClause 33 = .ok (.if_icmp .ne 11, 3) := by decide +kernel
theorem dX9_readClause_36 : decode cX9_readClause 36 = .ok (.aload_n 0, 1) := by decide +kernel
theorem dX9_readClause_37 : decode cX9_readClause 37 = .ok (.aload_n 1, 1) := by decide +kernel
theorem dX9_readClause_38 : decode cX9_readClause 38 = .ok (.invokevirtual 49, 3) := by decide +kernel
theorem dX9_readClause_41 : decode cX9_readClause 41 = .ok (.goto 40, 3) := by decide +kernel
theorem dX9_readClause_44 : decode cX9_readClause 44 = .ok (.iload_n 2, 1) := by decide +kernel
theorem dX9_readClause_45 : decode cX9_readClause 45 = .ok (.bipush 101, 2) := by decide +kernel
theorem dX9_readClause_47 : decode cX9_readClause 47 = .ok (.if_icmp .ne 11, 3) := by decide +kernel
theorem dX9_readClause_50 : decode cX9_readClause 50 = .ok (.aload_n 0, 1) := by decide +kernel
theorem dX9_readClause_51 : decode cX9_readClause 51 = .ok (.aload_n 1, 1) := by decide +kernel
theorem dX9_readClause_52 : decode cX9_readClause 52 = .ok (.invokevirtual 52, 3) := by decide +kernel
theorem dX9_readClause_55 : decode cX9_readClause 55 = .ok (.goto 26, 3) := by decide +kernel
theorem dX9_readClause_58 : decode cX9_readClause 58 = .ok (.iload_n 2, 1) := by decide +kernel
theorem dX9_readClause_59 : decode cX9_readClause 59 = .ok (.bipush 109, 2) := by decide +kernel
theorem dX9_readClause_61 : decode cX9_readClause 61 = .ok (.if_icmp .ne 11, 3) := by decide +kernel
theorem dX9_readClause_64 : decode cX9_readClause 64 = .ok (.aload_n 0, 1) := by decide +kernel
theorem dX9_readClause_65 : decode cX9_readClause 65 = .ok (.aload_n 1, 1) := by decide +kernel
theorem dX9_readClause_66 : decode cX9_readClause 66 = .ok (.invokevirtual 55, 3) := by decide +kernel
theorem dX9_readClause_69 : decode cX9_readClause 69 = .ok (.goto 12, 3) := by decide +kernel
theorem dX9_readClause_72 : decode cX9_readClause 72 = .ok (.aload_n 0, 1) := by decide +kernel
theorem dX9_readClause_73 : decode cX9_readClause 73 = .ok (.iconst 1, 1) := by decide +kernel
theorem dX9_readClause_74 : decode cX9_readClause 74 = .ok (.aload_n 0, 1) := by decide +kernel
theorem dX9_readClause_75 : decode cX9_readClause 75 = .ok (.getfield 19, 3) := by decide +kernel
theorem dX9_readClause_78 : decode cX9_readClause 78 = .ok (.invokevirtual 45, 3) := by decide +kernel
theorem dX9_readClause_81 : decode cX9_readClause 81 = .ok (.return_, 1) := by decide +kernel
set_option maxRecDepth 20000 in
theorem ggX9_readPan_X8_isLaid : GoodIn wsX9_readPan wsX8_isLaid := goodIn_r _ [7, 8, 50, 51, 52, 53, 54, 55, 56, 57, 58, 59] (by decide +kernel) (by decide +kernel)
set_option maxRecDepth 20000 in
theorem gX9_readPan_X8_isLaid : GoodIn wsX9_readPan (wsV RX9 41 RX8 yX8_isLaid wsX8_isLaid) := goodIn_app (goodIn_of _ (by decide +kernel)) ggX9_readPan_X8_isLaid
set_option maxRecDepth 20000 in
theorem ggX9_readPan_X9_find : GoodIn wsX9_readPan wsX9_find := goodIn_r _ [13, 2, 14, 45, 46, 47, 48, 49] (by decide +kernel) (by decide +kernel)
set_option maxRecDepth 20000 in
theorem gX9_readPan_X9_find : GoodIn wsX9_readPan (wsV RX9 45 RX9 yX9_find wsX9_find) := goodIn_app (goodIn_of _ (by decide +kernel)) ggX9_readPan_X9_find
set_option maxRecDepth 20000 in
theorem ggX9_readPan_X9_readNumber : GoodIn wsX9_readPan wsX9_readNumber := goodIn_r _ [18, 2, 1, 19, 20, 21, 12, 22, 23, 24, 25, 26, 27, 28, 29, 30, 31, 9, 10, 11, 13, 14, 32, 33, 34, 45, 46, 47, 48, 49] (by decide +kernel) (by decide +kernel)
set_option maxRecDepth 20000 in
theorem gX9_readPan_X9_readNumber : GoodIn wsX9_readPan (wsV RX9 58 RX9 yX9_readNumber wsX9_readNumber) := goodIn_app (goodIn_of _ (by decide +kernel)) ggX9_readPan_X9_readNumber
set_option maxRecDepth 20000 in
theorem ggX9_readPan_X9_readSemicolon : GoodIn wsX9_readPan wsX9_readSemicolon := goodIn_r _ [38, 2, 1, 19, 20, 21, 12, 22, 23, 24, 25, 26, 27, 28, 9, 10, 11, 13, 14, 45, 46, 47, 48, 49] (by decide +kernel) (by decide +kernel)
set_option maxRecDepth 20000 in
theorem gX9_readPan_X9_readSemicolon : GoodIn wsX9_readPan (wsV RX9 62 RX9 yX9_readSemicolon wsX9_readSemicolon) := goodIn_app (goodIn_of _ (by decide +kernel)) ggX9_readPan_X9_readSemicolon
set_option maxRecDepth 20000 in
theorem ggX9_readPan_X8_layPan : GoodIn wsX9_readPan wsX8_layPan := goodIn_r _ [42, 8, 43, 44, 50, 51, 52, 53, 54, 55, 56, 57, 58, 59] (by decide +kernel) (by decide +kernel)
set_option maxRecDepth 20000 in
theorem gX9_readPan_X8_layPan : GoodIn wsX9_readPan (wsV RX9 65 RX8 yX8_layPan wsX8_layPan) := goodIn_app (goodIn_of _ (by decide +kernel)) ggX9_readPan_X8_layPan
theorem dX9_readPan_0 : decode cX9_readPan 0 = .ok (.aload_n 1, 1) := by decide +kernel
theorem dX9_readPan_1 : decode cX9_readPan 1 = .ok (.invokevirtual 41, 3) := by decide +kernel
theorem dX9_readPan_4 : decode cX9_readPan 4 = .ok (.ifCond .eq 13, 3) := by decide +kernel
theorem dX9_readPan_7 : decode cX9_readPan 7 = .ok (.aload_n 0, 1) := by decide +kernel
theorem dX9_readPan_8 : decode cX9_readPan 8 = .ok (.iconst 3, 1) := by decide +kernel
theorem dX9_readPan_9 : decode cX9_readPan 9 = .ok (.aload_n 0, 1) := by decide +kernel
theorem dX9_readPan_10 : decode cX9_readPan 10 = .ok (.getfield 19, 3) := by decide +kernel
theorem dX9_readPan_13 : decode cX9_readPan 13 = .ok (.invokevirtual 45, 3) := by decide +kernel
theorem dX9_readPan_16 : decode cX9_readPan 16 = .ok (.return_, 1) := by decide +kernel
theorem dX9_readPan_17 : decode cX9_readPan 17 = .ok (.aload_n 0, 1) := by decide +kernel
theorem dX9_readPan_18 : decode cX9_readPan 18 = .ok (.dup, 1) := by decide +kernel
theorem dX9_readPan_19 : decode cX9_readPan 19 = .ok (.getfield 19, 3) := by decide +kernel
theorem dX9_readPan_22 : decode cX9_readPan 22 = .ok (.iconst 1, 1) := by decide +kernel
theorem dX9_readPan_23 : decode cX9_readPan 23 = .ok (.iadd, 1) := by decide +kernel
theorem dX9_readPan_24 : decode cX9_readPan 24 = .ok (.putfield 19, 3) := by decide +kernel
theorem dX9_readPan_27 : decode cX9_readPan 27 = .ok (.aload_n 0, 1) := by decide +kernel
theorem dX9_readPan_28 : decode cX9_readPan 28 = .ok (.iconst 1, 1) := by decide +kernel
theorem dX9_readPan_29 : decode cX9_readPan 29 = .ok (.iconst 3, 1) := by decide +kernel
theorem dX9_readPan_30 : decode cX9_readPan 30 = .ok (.invokevirtual 58, 3) := by decide +kernel
theorem dX9_readPan_33 : decode cX9_readPan 33 = .ok (.istore_n 2, 1) := by decide +kernel
theorem dX9_readPan_34 : decode cX9_readPan 34 = .ok (.aload_n 0, 1) := by decide +kernel
theorem dX9_readPan_35 : decode cX9_readPan 35 = .ok (.iconst 0, 1) := by decide +kernel
theorem dX9_readPan_36 : decode cX9_readPan 36 = .ok (.bipush 99, 2) := by decide +kernel
theorem dX9_readPan_38 : decode cX9_readPan 38 = .ok (.invokevirtual 58, 3) := by decide +kernel
theorem dX9_readPan_41 : decode cX9_readPan 41 = .ok (.istore_n 3, 1) := by decide +kernel
theorem dX9_readPan_42 : decode cX9_readPan 42 = .ok (.aload_n 0, 1) := by decide +kernel
theorem dX9_readPan_43 : decode cX9_readPan 43 = .ok (.iconst 1, 1) := by decide +kernel
theorem dX9_readPan_44 : decode cX9_readPan 44 = .ok (.bipush 30, 2) := by decide +kernel
theorem dX9_readPan_46 : decode cX9_readPan 46 = .ok (.invokevirtual 58, 3) := by decide +kernel
theorem dX9_readPan_49 : decode cX9_readPan 49 = .ok (.istore 4, 2) := by decide +kernel
theorem dX9_readPan_51 : decode cX9_readPan 51 = .ok (.aload_n 0, 1) := by decide +kernel
theorem dX9_readPan_52 : decode cX9_readPan 52 = .ok (.invokevirtual 62, 3) := by decide +kernel
theorem dX9_readPan_55 : decode cX9_readPan 55 = .ok (.aload_n 0, 1) := by decide +kernel
theorem dX9_readPan_56 : decode cX9_readPan 56 = .ok (.getfield 22, 3) := by decide +kernel
theorem dX9_readPan_59 : decode cX9_readPan 59 = .ok (.ifCond .ne 11, 3) := by decide +kernel
theorem dX9_readPan_62 : decode cX9_readPan 62 = .ok (.aload_n 1, 1) := by decide +kernel
theorem dX9_readPan_63 : decode cX9_readPan 63 = .ok (.iload_n 2, 1) := by decide +kernel
theorem dX9_readPan_64 : decode cX9_readPan 64 = .ok (.iload_n 3, 1) := by decide +kernel
theorem dX9_readPan_65 : decode cX9_readPan 65 = .ok (.iload 4, 2) := by decide +kernel
theorem dX9_readPan_67 : decode cX9_readPan 67 = .ok (.invokevirtual 65, 3) := by decide +kernel
theorem dX9_readPan_70 : decode cX9_readPan 70 = .ok (.return_, 1) := by decide +kernel
set_option maxRecDepth 20000 in
theorem ggX9_readEgg_X9_find : GoodIn wsX9_readEgg wsX9_find := goodIn_r _ [7, 2, 8, 52, 53, 54, 55, 56] (by decide +kernel) (by decide +kernel)
set_option maxRecDepth 20000 in
theorem gX9_readEgg_X9_find : GoodIn wsX9_readEgg (wsV RX9 45 RX9 yX9_find wsX9_find) := goodIn_app (goodIn_of _ (by decide +kernel)) ggX9_readEgg_X9_find
set_option maxRecDepth 20000 in
theorem ggX9_readEgg_X9_readNumber : GoodIn wsX9_readEgg wsX9_readNumber := goodIn_r _ [12, 2, 1, 13, 14, 15, 6, 16, 17, 18, 19, 20, 21, 22, 23, 24, 25, 3, 4, 5, 7, 8, 26, 27, 28, 52, 53, 54, 55, 56] (by decide +kernel) (by decide +kernel)
set_option maxRecDepth 20000 in
theorem gX9_readEgg_X9_readNumber : GoodIn wsX9_readEgg (wsV RX9 58 RX9 yX9_readNumber wsX9_readNumber) := goodIn_app (goodIn_of _ (by decide +kernel)) ggX9_readEgg_X9_readNumber
set_option maxRecDepth 20000 in
theorem ggX9_readEgg_X9_readSemicolon : GoodIn wsX9_readEgg wsX9_readSemicolon := goodIn_r _ [32, 2, 1, 13, 14, 15, 6, 16, 17, 18, 19, 20, 21, 22, 3, 4, 5, 7, 8, 52, 53, 54, 55, 56] (by decide +kernel) (by decide +kernel)
set_option maxRecDepth 20000 in
theorem gX9_readEgg_X9_readSemicolon : GoodIn wsX9_readEgg (wsV RX9 62 RX9 yX9_readSemicolon wsX9_readSemicolon) := goodIn_app (goodIn_of _ (by decide +kernel)) ggX9_readEgg_X9_readSemicolon
set_option maxRecDepth 20000 in
theorem ggX9_readEgg_X8_addEgg : GoodIn wsX9_readEgg wsX8_addEgg := goodIn_r _ [37, 38, 39, 40, 41, 42, 43, 44, 45, 46, 47, 48, 49, 50, 51] (by decide +kernel) (by decide +kernel)
set_option maxRecDepth 20000 in
theorem gX9_readEgg_X8_addEgg : GoodIn wsX9_readEgg (wsV RX9 72 RX8 yX8_addEgg wsX8_addEgg) := goodIn_app (goodIn_of _ (by decide +kernel)) ggX9_readEgg_X8_addEgg
theorem dX9_readEgg_0 : decode cX9_readEgg 0 = .ok (.aload_n 1, 1) := by decide +kernel
theorem dX9_readEgg_1 : decode cX9_readEgg 1 = .ok (.getfield 69, 3) := by decide +kernel
theorem dX9_readEgg_4 : decode cX9_readEgg 4 = .ok (.bipush 7, 2) := by decide +kernel
theorem dX9_readEgg_6 : decode cX9_readEgg 6 = .ok (.if_icmp .lt 13, 3) := by decide +kernel
theorem dX9_readEgg_9 : decode cX9_readEgg 9 = .ok (.aload_n 0, 1) := by decide +kernel
theorem dX9_readEgg_10 : decode cX9_readEgg 10 = .ok (.iconst 3, 1) := by decide +kernel
theorem dX9_readEgg_11 : decode cX9_readEgg 11 = .ok (.aload_n 0, 1) := by decide +kernel
theorem dX9_readEgg_12 : decode cX9_readEgg 12 = .ok (.getfield 19, 3) := by decide +kernel
theorem dX9_readEgg_15 : decode cX9_readEgg 15 = .ok (.invokevirtual 45, 3) := by decide +kernel
theorem dX9_readEgg_18 : decode cX9_readEgg 18 = .ok (.return_, 1) := by decide +kernel
theorem dX9_readEgg_19 : decode cX9_readEgg 19 = .ok (.aload_n 0, 1) := by decide +kernel
theorem dX9_readEgg_20 : decode cX9_readEgg 20 = .ok (.dup, 1) := by decide +kernel
theorem dX9_readEgg_21 : decode cX9_readEgg 21 = .ok (.getfield 19, 3) := by decide +kernel
theorem dX9_readEgg_24 : decode cX9_readEgg 24 = .ok (.iconst 1, 1) := by decide +kernel
theorem dX9_readEgg_25 : decode cX9_readEgg 25 = .ok (.iadd, 1) := by decide +kernel
theorem dX9_readEgg_26 : decode cX9_readEgg 26 = .ok (.putfield 19, 3) := by decide +kernel
theorem dX9_readEgg_29 : decode cX9_readEgg 29 = .ok (.aload_n 0, 1) := by decide +kernel
theorem dX9_readEgg_30 : decode cX9_readEgg 30 = .ok (.iconst 0, 1) := by decide +kernel
theorem dX9_readEgg_31 : decode cX9_readEgg 31 = .ok (.bipush 30, 2) := by decide +kernel
theorem dX9_readEgg_33 : decode cX9_readEgg 33 = .ok (.invokevirtual 58, 3) := by decide +kernel
theorem dX9_readEgg_36 : decode cX9_readEgg 36 = .ok (.istore_n 2, 1) := by decide +kernel
theorem dX9_readEgg_37 : decode cX9_readEgg 37 = .ok (.aload_n 0, 1) := by decide +kernel
theorem dX9_readEgg_38 : decode cX9_readEgg 38 = .ok (.iconst 1, 1) := by decide +kernel
theorem dX9_readEgg_39 : decode cX9_readEgg 39 = .ok (.iconst 5, 1) := by decide +kernel
theorem dX9_readEgg_40 : decode cX9_readEgg 40 = .ok (.invokevirtual 58, 3) := by decide +kernel
theorem dX9_readEgg_43 : decode cX9_readEgg 43 = .ok (.istore_n 3, 1) := by decide +kernel
theorem dX9_readEgg_44 : decode cX9_readEgg 44 = .ok (.aload_n 0, 1) := by decide +kernel
theorem dX9_readEgg_45 : decode cX9_readEgg 45 = .ok (.invokevirtual 62, 3) := by decide +kernel
theorem dX9_readEgg_48 : decode cX9_readEgg 48 = .ok (.aload_n 0, 1) := by decide +kernel
theorem dX9_readEgg_49 : decode cX9_readEgg 49 = .ok (.getfield 22, 3) := by decide +kernel
theorem dX9_readEgg_52 : decode cX9_readEgg 52 = .ok (.ifCond .ne 9, 3) := by decide +kernel
theorem dX9_readEgg_55 : decode cX9_readEgg 55 = .ok (.aload_n 1, 1) := by decide +kernel
theorem dX9_readEgg_56 : decode cX9_readEgg 56 = .ok (.iload_n 2, 1) := by decide +kernel
theorem dX9_readEgg_57 : decode cX9_readEgg 57 = .ok (.iload_n 3, 1) := by decide +kernel
theorem dX9_readEgg_58 : decode cX9_readEgg 58 = .ok (.invokevirtual 72, 3) := by decide +kernel
theorem dX9_readEgg_61 : decode cX9_readEgg 61 = .ok (.return_, 1) := by decide +kernel
set_option maxRecDepth 20000 in
theorem ggX9_readEater_X9_find : GoodIn wsX9_readEater wsX9_find := goodIn_r _ [7, 2, 8, 51, 52, 53, 54, 55] (by decide +kernel) (by decide +kernel)
set_option maxRecDepth 20000 in
theorem gX9_readEater_X9_find : GoodIn wsX9_readEater (wsV RX9 45 RX9 yX9_find wsX9_find) := goodIn_app (goodIn_of _ (by decide +kernel)) ggX9_readEater_X9_find
set_option maxRecDepth 20000 in
theorem ggX9_readEater_X9_readNumber : GoodIn wsX9_readEater wsX9_readNumber := goodIn_r _ [12, 2, 1, 13, 14, 15, 6, 16, 17, 18, 19, 20, 21, 22, 23, 24, 25, 3, 4, 5, 7, 8, 26, 27, 28, 51, 52, 53, 54, 55] (by decide +kernel) (by decide +kernel)
set_option maxRecDepth 20000 in
theorem gX9_readEater_X9_readNumber : GoodIn wsX9_readEater (wsV RX9 58 RX9 yX9_readNumber wsX9_readNumber) := goodIn_app (goodIn_of _ (by decide +kernel)) ggX9_readEater_X9_readNumber
set_option maxRecDepth 20000 in
theorem ggX9_readEater_X9_readSemicolon : GoodIn wsX9_readEater wsX9_readSemicolon := goodIn_r _ [32, 2, 1, 13, 14, 15, 6, 16, 17, 18, 19, 20, 21, 22, 3, 4, 5, 7, 8, 51, 52, 53, 54, 55] (by decide +kernel) (by decide +kernel)
set_option maxRecDepth 20000 in
theorem gX9_readEater_X9_readSemicolon : GoodIn wsX9_readEater (wsV RX9 62 RX9 yX9_readSemicolon wsX9_readSemicolon) := goodIn_app (goodIn_of _ (by decide +kernel)) ggX9_readEater_X9_readSemicolon
set_option maxRecDepth 20000 in
theorem ggX9_readEater_X8_addEater : GoodIn wsX9_readEater wsX8_addEater := goodIn_r _ [37, 38, 39, 40, 41, 42, 43, 44, 45, 46, 47, 48, 49, 50] (by decide +kernel) (by decide +kernel)
set_option maxRecDepth 20000 in
theorem gX9_readEater_X8_addEater : GoodIn wsX9_readEater (wsV RX9 78 RX8 yX8_addEater wsX8_addEater) := goodIn_app (goodIn_of _ (by decide +kernel)) ggX9_readEater_X8_addEater
theorem dX9_readEater_0 : decode cX9_readEater 0 = .ok (.aload_n 1, 1) := by decide +kernel
theorem dX9_readEater_1 : decode cX9_readEater 1 = .ok (.getfield 75, 3) := by decide +kernel
theorem dX9_readEater_4 : decode cX9_readEater 4 = .ok (.iconst 5, 1) := by decide +kernel
theorem dX9_readEater_5 : decode cX9_readEater 5 = .ok (.if_icmp .lt 13, 3) := by decide +kernel
theorem dX9_readEater_8 : decode cX9_readEater 8 = .ok (.aload_n 0, 1) := by decide +kernel
theorem dX9_readEater_9 : decode cX9_readEater 9 = .ok (.iconst 3, 1) := by decide +kernel
theorem dX9_readEater_10 : decode cX9_readEater 10 = .ok (.aload_n 0, 1) := by decide +kernel
theorem dX9_readEater_11 : decode cX9_readEater 11 = .ok (.getfield 19, 3) := by decide +kernel
theorem dX9_readEater_14 : decode cX9_readEater 14 = .ok (.invokevirtual 45, 3) := by decide +kernel
theorem dX9_readEater_17 : decode cX9_readEater 17 = .ok (.return_, 1) := by decide +kernel
theorem dX9_readEater_18 : decode cX9_readEater 18 = .ok (.aload_n 0, 1) := by decide +kernel
theorem dX9_readEater_19 : decode cX9_readEater 19 = .ok (.dup, 1) := by decide +kernel
theorem dX9_readEater_20 : decode cX9_readEater 20 = .ok (.getfield 19, 3) := by decide +kernel
theorem dX9_readEater_23 : decode cX9_readEater 23 = .ok (.iconst 1, 1) := by decide +kernel
theorem dX9_readEater_24 : decode cX9_readEater 24 = .ok (.iadd, 1) := by decide +kernel
theorem dX9_readEater_25 : decode cX9_readEater 25 = .ok (.putfield 19, 3) := by decide +kernel
theorem dX9_readEater_28 : decode cX9_readEater 28 = .ok (.aload_n 0, 1) := by decide +kernel
theorem dX9_readEater_29 : decode cX9_readEater 29 = .ok (.iconst 0, 1) := by decide +kernel
theorem dX9_readEater_30 : decode cX9_readEater 30 = .ok (.bipush 99, 2) := by decide +kernel
theorem dX9_readEater_32 : decode cX9_readEater 32 = .ok (.invokevirtual 58, 3) := by decide +kernel
theorem dX9_readEater_35 : decode cX9_readEater 35 = .ok (.istore_n 2, 1) := by decide +kernel
theorem dX9_readEater_36 : decode cX9_readEater 36 = .ok (.aload_n 0, 1) := by decide +kernel
theorem dX9_readEater_37 : decode cX9_readEater 37 = .ok (.iload_n 2, 1) := by decide +kernel
theorem dX9_readEater_38 : decode cX9_readEater 38 = .ok (.bipush 99, 2) := by decide +kernel
theorem dX9_readEater_40 : decode cX9_readEater 40 = .ok (.invokevirtual 58, 3) := by decide +kernel
theorem dX9_readEater_43 : decode cX9_readEater 43 = .ok (.istore_n 3, 1) := by decide +kernel
theorem dX9_readEater_44 : decode cX9_readEater 44 = .ok (.aload_n 0, 1) := by decide +kernel
