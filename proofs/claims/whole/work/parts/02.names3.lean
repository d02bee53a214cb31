theorem dX11_reign_0 : decode cX11_reign 0 = .ok (.aload_n 0, 1) := by decide +kernel
theorem dX11_reign_1 : decode cX11_reign 1 = .ok (.iload_n 1, 1) := by decide +kernel
theorem dX11_reign_2 : decode cX11_reign 2 = .ok (.aload_n 0, 1) := by decide +kernel
theorem dX11_reign_3 : decode cX11_reign 3 = .ok (.getfield 25, 3) := by decide +kernel
theorem dX11_reign_6 : decode cX11_reign 6 = .ok (.bipush 7, 2) := by decide +kernel
theorem dX11_reign_8 : decode cX11_reign 8 = .ok (.iload_n 1, 1) := by decide +kernel
theorem dX11_reign_9 : decode cX11_reign 9 = .ok (.iadd, 1) := by decide +kernel
theorem dX11_reign_10 : decode cX11_reign 10 = .ok (.iaload, 1) := by decide +kernel
theorem dX11_reign_11 : decode cX11_reign 11 = .ok (.invokevirtual 174, 3) := by decide +kernel
theorem dX11_reign_14 : decode cX11_reign 14 = .ok (.ireturn, 1) := by decide +kernel
theorem dX11_allThat_0 : decode cX11_allThat 0 = .ok (.iconst 0, 1) := by decide +kernel
theorem dX11_allThat_1 : decode cX11_allThat 1 = .ok (.istore_n 2, 1) := by decide +kernel
theorem dX11_allThat_2 : decode cX11_allThat 2 = .ok (.iconst 0, 1) := by decide +kernel
theorem dX11_allThat_3 : decode cX11_allThat 3 = .ok (.istore_n 3, 1) := by decide +kernel
theorem dX11_allThat_4 : decode cX11_allThat 4 = .ok (.iload_n 3, 1) := by decide +kernel
theorem dX11_allThat_5 : decode cX11_allThat 5 = .ok (.aload_n 0, 1) := by decide +kernel
theorem dX11_allThat_6 : decode cX11_allThat 6 = .ok (.getfield 93, 3) := by decide +kernel
theorem dX11_allThat_9 : decode cX11_allThat 9 = .ok (.if_icmp .ge 29, 3) := by decide +kernel
theorem dX11_allThat_12 : decode cX11_allThat 12 = .ok (.iload_n 2, 1) := by decide +kernel
theorem dX11_allThat_13 : decode cX11_allThat 13 = .ok (.aload_n 0, 1) := by decide +kernel
theorem dX11_allThat_14 : decode cX11_allThat 14 = .ok (.getfield 25, 3) := by decide +kernel
theorem dX11_allThat_17 : decode cX11_allThat 17 = .ok (.iload_n 3, 1) := by decide +kernel
theorem dX11_allThat_18 : decode cX11_allThat 18 = .ok (.iaload, 1) := by decide +kernel
theorem dX11_allThat_19 : decode cX11_allThat 19 = .ok (.iload_n 1, 1) := by decide +kernel
theorem dX11_allThat_20 : decode cX11_allThat 20 = .ok (.if_icmp .ne 9, 3) := by decide +kernel
theorem dX11_allThat_23 : decode cX11_allThat 23 = .ok (.iconst 1, 1) := by decide +kernel
theorem dX11_allThat_24 : decode cX11_allThat 24 = .ok (.iload_n 3, 1) := by decide +kernel
theorem dX11_allThat_25 : decode cX11_allThat 25 = .ok (.ishl, 1) := by decide +kernel
theorem dX11_allThat_26 : decode cX11_allThat 26 = .ok (.goto 4, 3) := by decide +kernel
theorem dX11_allThat_29 : decode cX11_allThat 29 = .ok (.iconst 0, 1) := by decide +kernel
theorem dX11_allThat_30 : decode cX11_allThat 30 = .ok (.ior, 1) := by decide +kernel
theorem dX11_allThat_31 : decode cX11_allThat 31 = .ok (.istore_n 2, 1) := by decide +kernel
theorem dX11_allThat_32 : decode cX11_allThat 32 = .ok (.iinc 3 1, 3) := by decide +kernel
theorem dX11_allThat_35 : decode cX11_allThat 35 = .ok (.goto (-31), 3) := by decide +kernel
theorem dX11_allThat_38 : decode cX11_allThat 38 = .ok (.iload_n 2, 1) := by decide +kernel
theorem dX11_allThat_39 : decode cX11_allThat 39 = .ok (.ireturn, 1) := by decide +kernel
theorem dX11_king_0 : decode cX11_king 0 = .ok (.iconst 0, 1) := by decide +kernel
theorem dX11_king_1 : decode cX11_king 1 = .ok (.istore_n 1, 1) := by decide +kernel
theorem dX11_king_2 : decode cX11_king 2 = .ok (.iload_n 1, 1) := by decide +kernel
theorem dX11_king_3 : decode cX11_king 3 = .ok (.aload_n 0, 1) := by decide +kernel
theorem dX11_king_4 : decode cX11_king 4 = .ok (.getfield 93, 3) := by decide +kernel
theorem dX11_king_7 : decode cX11_king 7 = .ok (.if_icmp .ge 21, 3) := by decide +kernel
theorem dX11_king_10 : decode cX11_king 10 = .ok (.aload_n 0, 1) := by decide +kernel
theorem dX11_king_11 : decode cX11_king 11 = .ok (.getfield 25, 3) := by decide +kernel
theorem dX11_king_14 : decode cX11_king 14 = .ok (.iload_n 1, 1) := by decide +kernel
theorem dX11_king_15 : decode cX11_king 15 = .ok (.iaload, 1) := by decide +kernel
theorem dX11_king_16 : decode cX11_king 16 = .ok (.iconst 3, 1) := by decide +kernel
theorem dX11_king_17 : decode cX11_king 17 = .ok (.if_icmp .ne 5, 3) := by decide +kernel
theorem dX11_king_20 : decode cX11_king 20 = .ok (.iload_n 1, 1) := by decide +kernel
theorem dX11_king_21 : decode cX11_king 21 = .ok (.ireturn, 1) := by decide +kernel
theorem dX11_king_22 : decode cX11_king 22 = .ok (.iinc 1 1, 3) := by decide +kernel
theorem dX11_king_25 : decode cX11_king 25 = .ok (.goto (-23), 3) := by decide +kernel
theorem dX11_king_28 : decode cX11_king 28 = .ok (.iconst (-1), 1) := by decide +kernel
theorem dX11_king_29 : decode cX11_king 29 = .ok (.ireturn, 1) := by decide +kernel
theorem dX11_inPan_0 : decode cX11_inPan 0 = .ok (.iconst 0, 1) := by decide +kernel
theorem dX11_inPan_1 : decode cX11_inPan 1 = .ok (.istore_n 1, 1) := by decide +kernel
theorem dX11_inPan_2 : decode cX11_inPan 2 = .ok (.iconst 0, 1) := by decide +kernel
theorem dX11_inPan_3 : decode cX11_inPan 3 = .ok (.istore_n 2, 1) := by decide +kernel
theorem dX11_inPan_4 : decode cX11_inPan 4 = .ok (.iload_n 2, 1) := by decide +kernel
theorem dX11_inPan_5 : decode cX11_inPan 5 = .ok (.aload_n 0, 1) := by decide +kernel
theorem dX11_inPan_6 : decode cX11_inPan 6 = .ok (.getfield 93, 3) := by decide +kernel
theorem dX11_inPan_9 : decode cX11_inPan 9 = .ok (.if_icmp .ge 27, 3) := by decide +kernel
theorem dX11_inPan_12 : decode cX11_inPan 12 = .ok (.iload_n 1, 1) := by decide +kernel
theorem dX11_inPan_13 : decode cX11_inPan 13 = .ok (.aload_n 0, 1) := by decide +kernel
theorem dX11_inPan_14 : decode cX11_inPan 14 = .ok (.getfield 25, 3) := by decide +kernel
theorem dX11_inPan_17 : decode cX11_inPan 17 = .ok (.iload_n 2, 1) := by decide +kernel
theorem dX11_inPan_18 : decode cX11_inPan 18 = .ok (.iaload, 1) := by decide +kernel
theorem dX11_inPan_19 : decode cX11_inPan 19 = .ok (.iconst 1, 1) := by decide +kernel
theorem dX11_inPan_20 : decode cX11_inPan 20 = .ok (.if_icmp .ne 7, 3) := by decide +kernel
theorem dX11_inPan_23 : decode cX11_inPan 23 = .ok (.iconst 1, 1) := by decide +kernel
theorem dX11_inPan_24 : decode cX11_inPan 24 = .ok (.goto 4, 3) := by decide +kernel
theorem dX11_inPan_27 : decode cX11_inPan 27 = .ok (.iconst 0, 1) := by decide +kernel
theorem dX11_inPan_28 : decode cX11_inPan 28 = .ok (.iadd, 1) := by decide +kernel
theorem dX11_inPan_29 : decode cX11_inPan 29 = .ok (.istore_n 1, 1) := by decide +kernel
theorem dX11_inPan_30 : decode cX11_inPan 30 = .ok (.iinc 2 1, 3) := by decide +kernel
theorem dX11_inPan_33 : decode cX11_inPan 33 = .ok (.goto (-29), 3) := by decide +kernel
theorem dX11_inPan_36 : decode cX11_inPan 36 = .ok (.iload_n 1, 1) := by decide +kernel
theorem dX11_inPan_37 : decode cX11_inPan 37 = .ok (.ireturn, 1) := by decide +kernel
set_option maxRecDepth 20000 in
theorem ggX11_pretenders_X11_hard : GoodIn wsX11_pretenders wsX11_hard := goodIn_r _ [7, 2, 8, 9, 10, 6, 11, 12, 13, 14, 15, 16, 17, 18, 19, 20, 21, 22, 23, 24, 25, 26, 27, 28, 29, 30, 31, 32, 33, 34, 35, 36, 37, 38, 39, 40, 41, 42, 43, 44, 45, 46, 47, 48, 49, 50, 51, 52, 53] (by decide +kernel) (by decide +kernel)
set_option maxRecDepth 20000 in
theorem gX11_pretenders_X11_hard : GoodIn wsX11_pretenders (wsV RX11 177 RX11 yX11_hard wsX11_hard) := goodIn_app (goodIn_of _ (by decide +kernel)) ggX11_pretenders_X11_hard
theorem dX11_pretenders_0 : decode cX11_pretenders 0 = .ok (.iconst 0, 1) := by decide +kernel
theorem dX11_pretenders_1 : decode cX11_pretenders 1 = .ok (.istore_n 1, 1) := by decide +kernel
theorem dX11_pretenders_2 : decode cX11_pretenders 2 = .ok (.iconst 0, 1) := by decide +kernel
theorem dX11_pretenders_3 : decode cX11_pretenders 3 = .ok (.istore_n 2, 1) := by decide +kernel
theorem dX11_pretenders_4 : decode cX11_pretenders 4 = .ok (.iload_n 2, 1) := by decide +kernel
theorem dX11_pretenders_5 : decode cX11_pretenders 5 = .ok (.aload_n 0, 1) := by decide +kernel
theorem dX11_pretenders_6 : decode cX11_pretenders 6 = .ok (.getfield 93, 3) := by decide +kernel
theorem dX11_pretenders_9 : decode cX11_pretenders 9 = .ok (.if_icmp .ge 37, 3) := by decide +kernel
theorem dX11_pretenders_12 : decode cX11_pretenders 12 = .ok (.iload_n 1, 1) := by decide +kernel
theorem dX11_pretenders_13 : decode cX11_pretenders 13 = .ok (.aload_n 0, 1) := by decide +kernel
theorem dX11_pretenders_14 : decode cX11_pretenders 14 = .ok (.getfield 25, 3) := by decide +kernel
theorem dX11_pretenders_17 : decode cX11_pretenders 17 = .ok (.iload_n 2, 1) := by decide +kernel
theorem dX11_pretenders_18 : decode cX11_pretenders 18 = .ok (.iaload, 1) := by decide +kernel
theorem dX11_pretenders_19 : decode cX11_pretenders 19 = .ok (.iconst 2, 1) := by decide +kernel
theorem dX11_pretenders_20 : decode cX11_pretenders 20 = .ok (.if_icmp .ne 17, 3) := by decide +kernel
theorem dX11_pretenders_23 : decode cX11_pretenders 23 = .ok (.aload_n 0, 1) := by decide +kernel
theorem dX11_pretenders_24 : decode cX11_pretenders 24 = .ok (.iload_n 2, 1) := by decide +kernel
theorem dX11_pretenders_25 : decode cX11_pretenders 25 = .ok (.invokevirtual 177, 3) := by decide +kernel
theorem dX11_pretenders_28 : decode cX11_pretenders 28 = .ok (.ifCond .ne 9, 3) := by decide +kernel
theorem dX11_pretenders_31 : decode cX11_pretenders 31 = .ok (.iconst 1, 1) := by decide +kernel
theorem dX11_pretenders_32 : decode cX11_pretenders 32 = .ok (.iload_n 2, 1) := by decide +kernel
theorem dX11_pretenders_33 : decode cX11_pretenders 33 = .ok (.ishl, 1) := by decide +kernel
theorem dX11_pretenders_34 : decode cX11_pretenders 34 = .ok (.goto 4, 3) := by decide +kernel
theorem dX11_pretenders_37 : decode cX11_pretenders 37 = .ok (.iconst 0, 1) := by decide +kernel
theorem dX11_pretenders_38 : decode cX11_pretenders 38 = .ok (.ior, 1) := by decide +kernel
theorem dX11_pretenders_39 : decode cX11_pretenders 39 = .ok (.istore_n 1, 1) := by decide +kernel
theorem dX11_pretenders_40 : decode cX11_pretenders 40 = .ok (.iinc 2 1, 3) := by decide +kernel
theorem dX11_pretenders_43 : decode cX11_pretenders 43 = .ok (.goto (-39), 3) := by decide +kernel
theorem dX11_pretenders_46 : decode cX11_pretenders 46 = .ok (.iload_n 1, 1) := by decide +kernel
theorem dX11_pretenders_47 : decode cX11_pretenders 47 = .ok (.ireturn, 1) := by decide +kernel
set_option maxRecDepth 20000 in
theorem ggX11_heir_X11_reign : GoodIn wsX11_heir wsX11_reign := goodIn_r _ [7, 2, 8, 9, 10, 6, 11, 12, 13, 14, 15, 16, 17, 18, 19, 20, 21, 22, 23, 24, 25, 26, 27, 28, 29, 30, 31, 32, 33, 34, 35, 36, 37, 38, 39, 40, 41, 42, 43, 44, 45, 46, 47, 48, 49, 50, 51, 52, 53, 54, 55, 56, 57] (by decide +kernel) (by decide +kernel)
set_option maxRecDepth 20000 in
theorem gX11_heir_X11_reign : GoodIn wsX11_heir (wsV RX11 181 RX11 yX11_reign wsX11_reign) := goodIn_app (goodIn_of _ (by decide +kernel)) ggX11_heir_X11_reign
theorem dX11_heir_0 : decode cX11_heir 0 = .ok (.iconst (-1), 1) := by decide +kernel
theorem dX11_heir_1 : decode cX11_heir 1 = .ok (.istore_n 1, 1) := by decide +kernel
theorem dX11_heir_2 : decode cX11_heir 2 = .ok (.iconst 0, 1) := by decide +kernel
theorem dX11_heir_3 : decode cX11_heir 3 = .ok (.istore_n 2, 1) := by decide +kernel
theorem dX11_heir_4 : decode cX11_heir 4 = .ok (.iload_n 2, 1) := by decide +kernel
theorem dX11_heir_5 : decode cX11_heir 5 = .ok (.aload_n 0, 1) := by decide +kernel
theorem dX11_heir_6 : decode cX11_heir 6 = .ok (.getfield 93, 3) := by decide +kernel
theorem dX11_heir_9 : decode cX11_heir 9 = .ok (.if_icmp .ge 52, 3) := by decide +kernel
theorem dX11_heir_12 : decode cX11_heir 12 = .ok (.iload_n 1, 1) := by decide +kernel
theorem dX11_heir_13 : decode cX11_heir 13 = .ok (.ifCond .lt 16, 3) := by decide +kernel
theorem dX11_heir_16 : decode cX11_heir 16 = .ok (.aload_n 0, 1) := by decide +kernel
theorem dX11_heir_17 : decode cX11_heir 17 = .ok (.iload_n 2, 1) := by decide +kernel
theorem dX11_heir_18 : decode cX11_heir 18 = .ok (.invokevirtual 181, 3) := by decide +kernel
theorem dX11_heir_21 : decode cX11_heir 21 = .ok (.aload_n 0, 1) := by decide +kernel
theorem dX11_heir_22 : decode cX11_heir 22 = .ok (.iload_n 1, 1) := by decide +kernel
theorem dX11_heir_23 : decode cX11_heir 23 = .ok (.invokevirtual 181, 3) := by decide +kernel
theorem dX11_heir_26 : decode cX11_heir 26 = .ok (.if_icmp .le 7, 3) := by decide +kernel
theorem dX11_heir_29 : decode cX11_heir 29 = .ok (.iconst 1, 1) := by decide +kernel
theorem dX11_heir_30 : decode cX11_heir 30 = .ok (.goto 4, 3) := by decide +kernel
theorem dX11_heir_33 : decode cX11_heir 33 = .ok (.iconst 0, 1) := by decide +kernel
theorem dX11_heir_34 : decode cX11_heir 34 = .ok (.istore_n 3, 1) := by decide +kernel
theorem dX11_heir_35 : decode cX11_heir 35 = .ok (.aload_n 0, 1) := by decide +kernel
theorem dX11_heir_36 : decode cX11_heir 36 = .ok (.getfield 25, 3) := by decide +kernel
theorem dX11_heir_39 : decode cX11_heir 39 = .ok (.iload_n 2, 1) := by decide +kernel
theorem dX11_heir_40 : decode cX11_heir 40 = .ok (.iaload, 1) := by decide +kernel
theorem dX11_heir_41 : decode cX11_heir 41 = .ok (.iconst 2, 1) := by decide +kernel
theorem dX11_heir_42 : decode cX11_heir 42 = .ok (.if_icmp .ne 11, 3) := by decide +kernel
theorem dX11_heir_45 : decode cX11_heir 45 = .ok (.iload_n 3, 1) := by decide +kernel
theorem dX11_heir_46 : decode cX11_heir 46 = .ok (.ifCond .eq 7, 3) := by decide +kernel
theorem dX11_heir_49 : decode cX11_heir 49 = .ok (.iload_n 2, 1) := by decide +kernel
theorem dX11_heir_50 : decode cX11_heir 50 = .ok (.goto 4, 3) := by decide +kernel
theorem dX11_heir_53 : decode cX11_heir 53 = .ok (.iload_n 1, 1) := by decide +kernel
theorem dX11_heir_54 : decode cX11_heir 54 = .ok (.istore_n 1, 1) := by decide +kernel
theorem dX11_heir_55 : decode cX11_heir 55 = .ok (.iinc 2 1, 3) := by decide +kernel
theorem dX11_heir_58 : decode cX11_heir 58 = .ok (.goto (-54), 3) := by decide +kernel
theorem dX11_heir_61 : decode cX11_heir 61 = .ok (.iload_n 1, 1) := by decide +kernel
theorem dX11_heir_62 : decode cX11_heir 62 = .ok (.ireturn, 1) := by decide +kernel
set_option maxRecDepth 20000 in
theorem ggX11_told_X11_king : GoodIn wsX11_told wsX11_king := goodIn_r _ [15, 4, 2, 46, 47, 48, 49, 50, 51, 52, 53, 54, 55, 56, 57, 58, 59, 60, 61, 62, 63, 64, 65, 66, 67, 68, 69, 70, 71, 72, 73, 74, 75, 76, 77, 78, 79, 80, 81, 82, 83, 84, 85] (by decide +kernel) (by decide +kernel)
set_option maxRecDepth 20000 in
theorem gX11_told_X11_king : GoodIn wsX11_told (wsV RX11 184 RX11 yX11_king wsX11_king) := goodIn_app (goodIn_of _ (by decide +kernel)) ggX11_told_X11_king
set_option maxRecDepth 20000 in
theorem ggX11_told_X11_allThat : GoodIn wsX11_told wsX11_allThat := goodIn_r _ [19, 4, 2, 46, 47, 48, 49, 50, 51, 52, 53, 54, 55, 56, 57, 58, 59, 60, 61, 62, 63, 64, 65, 66, 67, 68, 69, 70, 71, 72, 73, 74, 75, 76, 77, 78, 79, 80, 81, 82, 83, 84, 85] (by decide +kernel) (by decide +kernel)
set_option maxRecDepth 20000 in
theorem gX11_told_X11_allThat : GoodIn wsX11_told (wsV RX11 187 RX11 yX11_allThat wsX11_allThat) := goodIn_app (goodIn_of _ (by decide +kernel)) ggX11_told_X11_allThat
set_option maxRecDepth 20000 in
theorem ggX11_told_X11_pretenders : GoodIn wsX11_told wsX11_pretenders := goodIn_r _ [23, 4, 2, 24, 25, 26, 14, 27, 28, 29, 30, 31, 32, 33, 46, 47, 48, 49, 50, 51, 52, 53, 54, 55, 56, 57, 58, 59, 60, 61, 62, 63, 64, 65, 66, 67, 68, 69, 70, 71, 72, 73, 74, 75, 76, 77, 78, 79, 80, 81, 82, 83, 84, 85] (by decide +kernel) (by decide +kernel)
set_option maxRecDepth 20000 in
theorem gX11_told_X11_pretenders : GoodIn wsX11_told (wsV RX11 190 RX11 yX11_pretenders wsX11_pretenders) := goodIn_app (goodIn_of _ (by decide +kernel)) ggX11_told_X11_pretenders
set_option maxRecDepth 20000 in
theorem ggX11_told_X11_heir : GoodIn wsX11_told wsX11_heir := goodIn_r _ [37, 4, 2, 38, 39, 40, 14, 41, 42, 43, 44, 45, 32, 28, 29, 30, 31, 33, 46, 47, 48, 49, 50, 51, 52, 53, 54, 55, 56, 57, 58, 59, 60, 61, 62, 63, 64, 65, 66, 67, 68, 69, 70, 71, 72, 73, 74, 75, 76, 77, 78, 79, 80, 81, 82, 83, 84, 85] (by decide +kernel) (by decide +kernel)
set_option maxRecDepth 20000 in
theorem gX11_told_X11_heir : GoodIn wsX11_told (wsV RX11 193 RX11 yX11_heir wsX11_heir) := goodIn_app (goodIn_of _ (by decide +kernel)) ggX11_told_X11_heir
theorem dX11_told_0 : decode cX11_told 0 = .ok (.iload_n 1, 1) := by decide +kernel
theorem dX11_told_1 : decode cX11_told 1 = .ok (.tableswitch 194 0 17 #[87, 92, 100, 105, 110, 115, 120, 128, 133, 141, 149, 157, 163, 169, 174, 179, 184, 189], 87) := by decide +kernel
theorem dX11_told_88 : decode cX11_told 88 = .ok (.aload_n 0, 1) := by decide +kernel
theorem dX11_told_89 : decode cX11_told 89 = .ok (.getfield 90, 3) := by decide +kernel
theorem dX11_told_92 : decode cX11_told 92 = .ok (.ireturn, 1) := by decide +kernel
theorem dX11_told_93 : decode cX11_told 93 = .ok (.aload_n 0, 1) := by decide +kernel
theorem dX11_told_94 : decode cX11_told 94 = .ok (.getfield 25, 3) := by decide +kernel
theorem dX11_told_97 : decode cX11_told 97 = .ok (.bipush 14, 2) := by decide +kernel
theorem dX11_told_99 : decode cX11_told 99 = .ok (.iaload, 1) := by decide +kernel
theorem dX11_told_100 : decode cX11_told 100 = .ok (.ireturn, 1) := by decide +kernel
theorem dX11_told_101 : decode cX11_told 101 = .ok (.aload_n 0, 1) := by decide +kernel
theorem dX11_told_102 : decode cX11_told 102 = .ok (.getfield 153, 3) := by decide +kernel
theorem dX11_told_105 : decode cX11_told 105 = .ok (.ireturn, 1) := by decide +kernel
theorem dX11_told_106 : decode cX11_told 106 = .ok (.aload_n 0, 1) := by decide +kernel
theorem dX11_told_107 : decode cX11_told 107 = .ok (.getfield 93, 3) := by decide +kernel
theorem dX11_told_110 : decode cX11_told 110 = .ok (.ireturn, 1) := by decide +kernel
theorem dX11_told_111 : decode cX11_told 111 = .ok (.aload_n 0, 1) := by decide +kernel
theorem dX11_told_112 : decode cX11_told 112 = .ok (.getfield 100, 3) := by decide +kernel
theorem dX11_told_115 : decode cX11_told 115 = .ok (.ireturn, 1) := by decide +kernel
theorem dX11_told_116 : decode cX11_told 116 = .ok (.aload_n 0, 1) := by decide +kernel
theorem dX11_told_117 : decode cX11_told 117 = .ok (.getfield 106, 3) := by decide +kernel
theorem dX11_told_120 : decode cX11_told 120 = .ok (.ireturn, 1) := by decide +kernel
theorem dX11_told_121 : decode cX11_told 121 = .ok (.aload_n 0, 1) := by decide +kernel
theorem dX11_told_122 : decode cX11_told 122 = .ok (.getfield 25, 3) := by decide +kernel
theorem dX11_told_125 : decode cX11_told 125 = .ok (.bipush 16, 2) := by decide +kernel
theorem dX11_told_127 : decode cX11_told 127 = .ok (.iaload, 1) := by decide +kernel
theorem dX11_told_128 : decode cX11_told 128 = .ok (.ireturn, 1) := by decide +kernel
theorem dX11_told_129 : decode cX11_told 129 = .ok (.aload_n 0, 1) := by decide +kernel
theorem dX11_told_130 : decode cX11_told 130 = .ok (.invokevirtual 184, 3) := by decide +kernel
theorem dX11_told_133 : decode cX11_told 133 = .ok (.ireturn, 1) := by decide +kernel
theorem dX11_told_134 : decode cX11_told 134 = .ok (.aload_n 0, 1) := by decide +kernel
theorem dX11_told_135 : decode cX11_told 135 = .ok (.getfield 25, 3) := by decide +kernel
theorem dX11_told_138 : decode cX11_told 138 = .ok (.bipush 15, 2) := by decide +kernel
theorem dX11_told_140 : decode cX11_told 140 = .ok (.iaload, 1) := by decide +kernel
theorem dX11_told_141 : decode cX11_told 141 = .ok (.ireturn, 1) := by decide +kernel
theorem dX11_told_142 : decode cX11_told 142 = .ok (.aload_n 0, 1) := by decide +kernel
theorem dX11_told_143 : decode cX11_told 143 = .ok (.getfield 25, 3) := by decide +kernel
theorem dX11_told_146 : decode cX11_told 146 = .ok (.bipush 17, 2) := by decide +kernel
theorem dX11_told_148 : decode cX11_told 148 = .ok (.iaload, 1) := by decide +kernel
theorem dX11_told_149 : decode cX11_told 149 = .ok (.ireturn, 1) := by decide +kernel
theorem dX11_told_150 : decode cX11_told 150 = .ok (.aload_n 0, 1) := by decide +kernel
theorem dX11_told_151 : decode cX11_told 151 = .ok (.getfield 25, 3) := by decide +kernel
theorem dX11_told_154 : decode cX11_told 154 = .ok (.bipush 18, 2) := by decide +kernel
theorem dX11_told_156 : decode cX11_told 156 = .ok (.iaload, 1) := by decide +kernel
theorem dX11_told_157 : decode cX11_told 157 = .ok (.ireturn, 1) := by decide +kernel
theorem dX11_told_158 : decode cX11_told 158 = .ok (.aload_n 0, 1) := by decide +kernel
theorem dX11_told_159 : decode cX11_told 159 = .ok (.iconst 1, 1) := by decide +kernel
theorem dX11_told_160 : decode cX11_told 160 = .ok (.invokevirtual 187, 3) := by decide +kernel
theorem dX11_told_163 : decode cX11_told 163 = .ok (.ireturn, 1) := by decide +kernel
theorem dX11_told_164 : decode cX11_told 164 = .ok (.aload_n 0, 1) := by decide +kernel
theorem dX11_told_165 : decode cX11_told 165 = .ok (.iconst 2, 1) := by decide +kernel
theorem dX11_told_166 : decode cX11_told 166 = .ok (.invokevirtual 187, 3) := by decide +kernel
theorem dX11_told_169 : decode cX11_told 169 = .ok (.ireturn, 1) := by decide +kernel
theorem dX11_told_170 : decode cX11_told 170 = .ok (.aload_n 0, 1) := by decide +kernel
theorem dX11_told_171 : decode cX11_told 171 = .ok (.invokevirtual 190, 3) := by decide +kernel
theorem dX11_told_174 : decode cX11_told 174 = .ok (.ireturn, 1) := by decide +kernel
theorem dX11_told_175 : decode cX11_told 175 = .ok (.aload_n 0, 1) := by decide +kernel
theorem dX11_told_176 : decode cX11_told 176 = .ok (.invokevirtual 193, 3) := by decide +kernel
theorem dX11_told_179 : decode cX11_told 179 = .ok (.ireturn, 1) := by decide +kernel
theorem dX11_told_180 : decode cX11_told 180 = .ok (.aload_n 0, 1) := by decide +kernel
theorem dX11_told_181 : decode cX11_told 181 = .ok (.getfield 162, 3) := by decide +kernel
theorem dX11_told_184 : decode cX11_told 184 = .ok (.ireturn, 1) := by decide +kernel
theorem dX11_told_185 : decode cX11_told 185 = .ok (.aload_n 0, 1) := by decide +kernel
theorem dX11_told_186 : decode cX11_told 186 = .ok (.getfield 165, 3) := by decide +kernel
theorem dX11_told_189 : decode cX11_told 189 = .ok (.ireturn, 1) := by decide +kernel
theorem dX11_told_190 : decode cX11_told 190 = .ok (.aload_n 0, 1) := by decide +kernel
theorem dX11_told_191 : decode cX11_told 191 = .ok (.getfield 168, 3) := by decide +kernel
theorem dX11_told_194 : decode cX11_told 194 = .ok (.ireturn, 1) := by decide +kernel
theorem dX11_told_195 : decode cX11_told 195 = .ok (.ldc 105, 2) := by decide +kernel
theorem dX11_told_197 : decode cX11_told 197 = .ok (.ireturn, 1) := by decide +kernel
set_option maxRecDepth 20000 in
theorem ggX11_egg_X11_isEgg : GoodIn wsX11_egg wsX11_isEgg := goodIn_r _ [11, 12, 13, 14, 10, 15, 32, 33, 34, 35, 36, 37, 38, 39, 40, 41, 42, 43, 44, 45, 46, 47, 48, 49, 50, 51, 52, 53, 54, 55, 56, 57, 58, 59, 60, 61, 62, 63, 64, 65, 66, 67, 68, 69, 70, 71] (by decide +kernel) (by decide +kernel)
set_option maxRecDepth 20000 in
theorem gX11_egg_X11_isEgg : GoodIn wsX11_egg (wsV RX11 196 RX11 yX11_isEgg wsX11_isEgg) := goodIn_app (goodIn_of _ (by decide +kernel)) ggX11_egg_X11_isEgg
set_option maxRecDepth 20000 in
theorem ggX11_egg_X11_hard : GoodIn wsX11_egg wsX11_hard := goodIn_r _ [19, 4, 20, 21, 22, 10, 23, 3, 2, 32, 33, 34, 35, 36, 37, 38, 39, 40, 41, 42, 43, 44, 45, 46, 47, 48, 49, 50, 51, 52, 53, 54, 55, 56, 57, 58, 59, 60, 61, 62, 63, 64, 65, 66, 67, 68, 69, 70, 71] (by decide +kernel) (by decide +kernel)
set_option maxRecDepth 20000 in
theorem gX11_egg_X11_hard : GoodIn wsX11_egg (wsV RX11 177 RX11 yX11_hard wsX11_hard) := goodIn_app (goodIn_of _ (by decide +kernel)) ggX11_egg_X11_hard
set_option maxRecDepth 20000 in
theorem ggX11_egg_X11_reign : GoodIn wsX11_egg wsX11_reign := goodIn_r _ [27, 4, 28, 29, 30, 10, 31, 3, 20, 21, 22, 23, 2, 32, 33, 34, 35, 36, 37, 38, 39, 40, 41, 42, 43, 44, 45, 46, 47, 48, 49, 50, 51, 52, 53, 54, 55, 56, 57, 58, 59, 60, 61, 62, 63, 64, 65, 66, 67, 68, 69, 70, 71] (by decide +kernel) (by decide +kernel)
set_option maxRecDepth 20000 in
theorem gX11_egg_X11_reign : GoodIn wsX11_egg (wsV RX11 181 RX11 yX11_reign wsX11_reign) := goodIn_app (goodIn_of _ (by decide +kernel)) ggX11_egg_X11_reign
theorem dX11_egg_0 : decode cX11_egg 0 = .ok (.aload_n 0, 1) := by decide +kernel
theorem dX11_egg_1 : decode cX11_egg 1 = .ok (.iload_n 1, 1) := by decide +kernel
theorem dX11_egg_2 : decode cX11_egg 2 = .ok (.invokevirtual 196, 3) := by decide +kernel
theorem dX11_egg_5 : decode cX11_egg 5 = .ok (.ifCond .ne 6, 3) := by decide +kernel
theorem dX11_egg_8 : decode cX11_egg 8 = .ok (.ldc 200, 2) := by decide +kernel
theorem dX11_egg_10 : decode cX11_egg 10 = .ok (.ireturn, 1) := by decide +kernel
theorem dX11_egg_11 : decode cX11_egg 11 = .ok (.iload_n 2, 1) := by decide +kernel
theorem dX11_egg_12 : decode cX11_egg 12 = .ok (.tableswitch 94 0 6 #[44, 51, 58, 65, 75, 81, 87], 44) := by decide +kernel
theorem dX11_egg_56 : decode cX11_egg 56 = .ok (.aload_n 0, 1) := by decide +kernel
theorem dX11_egg_57 : decode cX11_egg 57 = .ok (.getfield 7, 3) := by decide +kernel
theorem dX11_egg_60 : decode cX11_egg 60 = .ok (.iload_n 1, 1) := by decide +kernel
theorem dX11_egg_61 : decode cX11_egg 61 = .ok (.iaload, 1) := by decide +kernel
theorem dX11_egg_62 : decode cX11_egg 62 = .ok (.ireturn, 1) := by decide +kernel
theorem dX11_egg_63 : decode cX11_egg 63 = .ok (.aload_n 0, 1) := by decide +kernel
theorem dX11_egg_64 : decode cX11_egg 64 = .ok (.getfield 13, 3) := by decide +kernel
theorem dX11_egg_67 : decode cX11_egg 67 = .ok (.iload_n 1, 1) := by decide +kernel
theorem dX11_egg_68 : decode cX11_egg 68 = .ok (.iaload, 1) := by decide +kernel
theorem dX11_egg_69 : decode cX11_egg 69 = .ok (.ireturn, 1) := by decide +kernel
theorem dX11_egg_70 : decode cX11_egg 70 = .ok (.aload_n 0, 1) := by decide +kernel
theorem dX11_egg_71 : decode cX11_egg 71 = .ok (.getfield 25, 3) := by decide +kernel
theorem dX11_egg_74 : decode cX11_egg 74 = .ok (.iload_n 1, 1) := by decide +kernel
theorem dX11_egg_75 : decode cX11_egg 75 = .ok (.iaload, 1) := by decide +kernel
theorem dX11_egg_76 : decode cX11_egg 76 = .ok (.ireturn, 1) := by decide +kernel
theorem dX11_egg_77 : decode cX11_egg 77 = .ok (.aload_n 0, 1) := by decide +kernel
theorem dX11_egg_78 : decode cX11_egg 78 = .ok (.getfield 25, 3) := by decide +kernel
theorem dX11_egg_81 : decode cX11_egg 81 = .ok (.bipush 7, 2) := by decide +kernel
theorem dX11_egg_83 : decode cX11_egg 83 = .ok (.iload_n 1, 1) := by decide +kernel
theorem dX11_egg_84 : decode cX11_egg 84 = .ok (.iadd, 1) := by decide +kernel
theorem dX11_egg_85 : decode cX11_egg 85 = .ok (.iaload, 1) := by decide +kernel
theorem dX11_egg_86 : decode cX11_egg 86 = .ok (.ireturn, 1) := by decide +kernel
theorem dX11_egg_87 : decode cX11_egg 87 = .ok (.aload_n 0, 1) := by decide +kernel
theorem dX11_egg_88 : decode cX11_egg 88 = .ok (.iload_n 1, 1) := by decide +kernel
theorem dX11_egg_89 : decode cX11_egg 89 = .ok (.invokevirtual 177, 3) := by decide +kernel
theorem dX11_egg_92 : decode cX11_egg 92 = .ok (.ireturn, 1) := by decide +kernel
theorem dX11_egg_93 : decode cX11_egg 93 = .ok (.aload_n 0, 1) := by decide +kernel
theorem dX11_egg_94 : decode cX11_egg 94 = .ok (.iload_n 1, 1) := by decide +kernel
theorem dX11_egg_95 : decode cX11_egg 95 = .ok (.invokevirtual 181, 3) := by decide +kernel
theorem dX11_egg_98 : decode cX11_egg 98 = .ok (.ireturn, 1) := by decide +kernel
theorem dX11_egg_99 : decode cX11_egg 99 = .ok (.aload_n 0, 1) := by decide +kernel
theorem dX11_egg_100 : decode cX11_egg 100 = .ok (.getfield 22, 3) := by decide +kernel
theorem dX11_egg_103 : decode cX11_egg 103 = .ok (.iload_n 1, 1) := by decide +kernel
theorem dX11_egg_104 : decode cX11_egg 104 = .ok (.iaload, 1) := by decide +kernel
theorem dX11_egg_105 : decode cX11_egg 105 = .ok (.ireturn, 1) := by decide +kernel
theorem dX11_egg_106 : decode cX11_egg 106 = .ok (.ldc 105, 2) := by decide +kernel
theorem dX11_egg_108 : decode cX11_egg 108 = .ok (.ireturn, 1) := by decide +kernel
set_option maxRecDepth 20000 in
theorem ggX11_eater_X11_isEater : GoodIn wsX11_eater wsX11_isEater := goodIn_r _ [9, 10, 11, 12, 8, 13, 14, 15, 16, 17, 18, 19, 20, 21, 22, 23, 24, 25, 26, 27, 28, 29, 30, 31, 32, 33, 34, 35, 36, 37, 38, 39, 40, 41, 42, 43, 44, 45, 46, 47, 48, 49, 50, 51, 52, 53] (by decide +kernel) (by decide +kernel)
set_option maxRecDepth 20000 in
theorem gX11_eater_X11_isEater : GoodIn wsX11_eater (wsV RX11 201 RX11 yX11_isEater wsX11_isEater) := goodIn_app (goodIn_of _ (by decide +kernel)) ggX11_eater_X11_isEater
theorem dX11_eater_0 : decode cX11_eater 0 = .ok (.aload_n 0, 1) := by decide +kernel
theorem dX11_eater_1 : decode cX11_eater 1 = .ok (.iload_n 1, 1) := by decide +kernel
theorem dX11_eater_2 : decode cX11_eater 2 = .ok (.invokevirtual 201, 3) := by decide +kernel
theorem dX11_eater_5 : decode cX11_eater 5 = .ok (.ifCond .ne 6, 3) := by decide +kernel
theorem dX11_eater_8 : decode cX11_eater 8 = .ok (.ldc 200, 2) := by decide +kernel
theorem dX11_eater_10 : decode cX11_eater 10 = .ok (.ireturn, 1) := by decide +kernel
theorem dX11_eater_11 : decode cX11_eater 11 = .ok (.iload_n 2, 1) := by decide +kernel
theorem dX11_eater_12 : decode cX11_eater 12 = .ok (.ifCond .ne 12, 3) := by decide +kernel
theorem dX11_eater_15 : decode cX11_eater 15 = .ok (.aload_n 0, 1) := by decide +kernel
theorem dX11_eater_16 : decode cX11_eater 16 = .ok (.getfield 16, 3) := by decide +kernel
theorem dX11_eater_19 : decode cX11_eater 19 = .ok (.iload_n 1, 1) := by decide +kernel
theorem dX11_eater_20 : decode cX11_eater 20 = .ok (.iaload, 1) := by decide +kernel
theorem dX11_eater_21 : decode cX11_eater 21 = .ok (.goto 19, 3) := by decide +kernel
theorem dX11_eater_24 : decode cX11_eater 24 = .ok (.iload_n 2, 1) := by decide +kernel
theorem dX11_eater_25 : decode cX11_eater 25 = .ok (.iconst 1, 1) := by decide +kernel
theorem dX11_eater_26 : decode cX11_eater 26 = .ok (.if_icmp .ne 12, 3) := by decide +kernel
theorem dX11_eater_29 : decode cX11_eater 29 = .ok (.aload_n 0, 1) := by decide +kernel
theorem dX11_eater_30 : decode cX11_eater 30 = .ok (.getfield 19, 3) := by decide +kernel
theorem dX11_eater_33 : decode cX11_eater 33 = .ok (.iload_n 1, 1) := by decide +kernel
theorem dX11_eater_34 : decode cX11_eater 34 = .ok (.iaload, 1) := by decide +kernel
theorem dX11_eater_35 : decode cX11_eater 35 = .ok (.goto 5, 3) := by decide +kernel
theorem dX11_eater_38 : decode cX11_eater 38 = .ok (.ldc 105, 2) := by decide +kernel
theorem dX11_eater_40 : decode cX11_eater 40 = .ok (.ireturn, 1) := by decide +kernel
theorem dX11_remember_0 : decode cX11_remember 0 = .ok (.aload_n 0, 1) := by decide +kernel
theorem dX11_remember_1 : decode cX11_remember 1 = .ok (.getfield 168, 3) := by decide +kernel
theorem dX11_remember_4 : decode cX11_remember 4 = .ok (.bipush 20, 2) := by decide +kernel
theorem dX11_remember_6 : decode cX11_remember 6 = .ok (.if_icmp .ne 44, 3) := by decide +kernel
theorem dX11_remember_9 : decode cX11_remember 9 = .ok (.bipush 19, 2) := by decide +kernel
theorem dX11_remember_11 : decode cX11_remember 11 = .ok (.istore_n 1, 1) := by decide +kernel
theorem dX11_remember_12 : decode cX11_remember 12 = .ok (.iload_n 1, 1) := by decide +kernel
theorem dX11_remember_13 : decode cX11_remember 13 = .ok (.sipush 380, 3) := by decide +kernel
theorem dX11_remember_16 : decode cX11_remember 16 = .ok (.if_icmp .ge 24, 3) := by decide +kernel
theorem dX11_remember_19 : decode cX11_remember 19 = .ok (.aload_n 0, 1) := by decide +kernel
theorem dX11_remember_20 : decode cX11_remember 20 = .ok (.getfield 50, 3) := by decide +kernel
theorem dX11_remember_23 : decode cX11_remember 23 = .ok (.iload_n 1, 1) := by decide +kernel
theorem dX11_remember_24 : decode cX11_remember 24 = .ok (.bipush 19, 2) := by decide +kernel
theorem dX11_remember_26 : decode cX11_remember 26 = .ok (.isub, 1) := by decide +kernel
theorem dX11_remember_27 : decode cX11_remember 27 = .ok (.aload_n 0, 1) := by decide +kernel
theorem dX11_remember_28 : decode cX11_remember 28 = .ok (.getfield 50, 3) := by decide +kernel
theorem dX11_remember_31 : decode cX11_remember 31 = .ok (.iload_n 1, 1) := by decide +kernel
theorem dX11_remember_32 : decode cX11_remember 32 = .ok (.iaload, 1) := by decide +kernel
theorem dX11_remember_33 : decode cX11_remember 33 = .ok (.iastore, 1) := by decide +kernel
theorem dX11_remember_34 : decode cX11_remember 34 = .ok (.iinc 1 1, 3) := by decide +kernel
theorem dX11_remember_37 : decode cX11_remember 37 = .ok (.goto (-25), 3) := by decide +kernel
theorem dX11_remember_40 : decode cX11_remember 40 = .ok (.aload_n 0, 1) := by decide +kernel
theorem dX11_remember_41 : decode cX11_remember 41 = .ok (.dup, 1) := by decide +kernel
theorem dX11_remember_42 : decode cX11_remember 42 = .ok (.getfield 168, 3) := by decide +kernel
theorem dX11_remember_45 : decode cX11_remember 45 = .ok (.iconst 1, 1) := by decide +kernel
theorem dX11_remember_46 : decode cX11_remember 46 = .ok (.isub, 1) := by decide +kernel
theorem dX11_remember_47 : decode cX11_remember 47 = .ok (.putfield 168, 3) := by decide +kernel
theorem dX11_remember_50 : decode cX11_remember 50 = .ok (.iconst 0, 1) := by decide +kernel
theorem dX11_remember_51 : decode cX11_remember 51 = .ok (.istore_n 1, 1) := by decide +kernel
theorem dX11_remember_52 : decode cX11_remember 52 = .ok (.iload_n 1, 1) := by decide +kernel
theorem dX11_remember_53 : decode cX11_remember 53 = .ok (.bipush 19, 2) := by decide +kernel
theorem dX11_remember_55 : decode cX11_remember 55 = .ok (.if_icmp .ge 29, 3) := by decide +kernel
theorem dX11_remember_58 : decode cX11_remember 58 = .ok (.aload_n 0, 1) := by decide +kernel
theorem dX11_remember_59 : decode cX11_remember 59 = .ok (.getfield 50, 3) := by decide +kernel
theorem dX11_remember_62 : decode cX11_remember 62 = .ok (.bipush 19, 2) := by decide +kernel
theorem dX11_remember_64 : decode cX11_remember 64 = .ok (.aload_n 0, 1) := by decide +kernel
theorem dX11_remember_65 : decode cX11_remember 65 = .ok (.getfield 168, 3) := by decide +kernel
theorem dX11_remember_68 : decode cX11_remember 68 = .ok (.imul, 1) := by decide +kernel
theorem dX11_remember_69 : decode cX11_remember 69 = .ok (.iload_n 1, 1) := by decide +kernel
theorem dX11_remember_70 : decode cX11_remember 70 = .ok (.iadd, 1) := by decide +kernel
theorem dX11_remember_71 : decode cX11_remember 71 = .ok (.aload_n 0, 1) := by decide +kernel
theorem dX11_remember_72 : decode cX11_remember 72 = .ok (.getfield 25, 3) := by decide +kernel
theorem dX11_remember_75 : decode cX11_remember 75 = .ok (.iload_n 1, 1) := by decide +kernel
theorem dX11_remember_76 : decode cX11_remember 76 = .ok (.iaload, 1) := by decide +kernel
theorem dX11_remember_77 : decode cX11_remember 77 = .ok (.iastore, 1) := by decide +kernel
theorem dX11_remember_78 : decode cX11_remember 78 = .ok (.iinc 1 1, 3) := by decide +kernel
theorem dX11_remember_81 : decode cX11_remember 81 = .ok (.goto (-29), 3) := by decide +kernel
theorem dX11_remember_84 : decode cX11_remember 84 = .ok (.aload_n 0, 1) := by decide +kernel
theorem dX11_remember_85 : decode cX11_remember 85 = .ok (.dup, 1) := by decide +kernel
theorem dX11_remember_86 : decode cX11_remember 86 = .ok (.getfield 168, 3) := by decide +kernel
theorem dX11_remember_89 : decode cX11_remember 89 = .ok (.iconst 1, 1) := by decide +kernel
theorem dX11_remember_90 : decode cX11_remember 90 = .ok (.iadd, 1) := by decide +kernel
theorem dX11_remember_91 : decode cX11_remember 91 = .ok (.putfield 168, 3) := by decide +kernel
theorem dX11_remember_94 : decode cX11_remember 94 = .ok (.return_, 1) := by decide +kernel
set_option maxRecDepth 20000 in
theorem ggX11_pass_X11_king : GoodIn wsX11_pass wsX11_king := goodIn_r _ [8, 1, 2, 9, 10, 11, 12, 13, 14, 15, 16, 17, 18, 19, 20, 21, 22, 23, 24, 25, 26, 27, 28, 29, 30, 31, 32, 33, 34, 35, 36, 37, 38, 39, 40, 41, 42, 43, 44, 45, 46, 47, 48] (by decide +kernel) (by decide +kernel)
set_option maxRecDepth 20000 in
theorem gX11_pass_X11_king : GoodIn wsX11_pass (wsV RX11 184 RX11 yX11_king wsX11_king) := goodIn_app (goodIn_of _ (by decide +kernel)) ggX11_pass_X11_king
theorem dX11_pass_0 : decode cX11_pass 0 = .ok (.iconst 0, 1) := by decide +kernel
theorem dX11_pass_1 : decode cX11_pass 1 = .ok (.istore_n 1, 1) := by decide +kernel
theorem dX11_pass_2 : decode cX11_pass 2 = .ok (.iload_n 1, 1) := by decide +kernel
theorem dX11_pass_3 : decode cX11_pass 3 = .ok (.aload_n 0, 1) := by decide +kernel
theorem dX11_pass_4 : decode cX11_pass 4 = .ok (.getfield 93, 3) := by decide +kernel
theorem dX11_pass_7 : decode cX11_pass 7 = .ok (.if_icmp .ge 59, 3) := by decide +kernel
theorem dX11_pass_10 : decode cX11_pass 10 = .ok (.aload_n 0, 1) := by decide +kernel
theorem dX11_pass_11 : decode cX11_pass 11 = .ok (.getfield 25, 3) := by decide +kernel
theorem dX11_pass_14 : decode cX11_pass 14 = .ok (.iload_n 1, 1) := by decide +kernel
theorem dX11_pass_15 : decode cX11_pass 15 = .ok (.iaload, 1) := by decide +kernel
theorem dX11_pass_16 : decode cX11_pass 16 = .ok (.iconst 1, 1) := by decide +kernel
theorem dX11_pass_17 : decode cX11_pass 17 = .ok (.if_icmp .ne 43, 3) := by decide +kernel
theorem dX11_pass_20 : decode cX11_pass 20 = .ok (.aload_n 0, 1) := by decide +kernel
theorem dX11_pass_21 : decode cX11_pass 21 = .ok (.getfield 25, 3) := by decide +kernel
theorem dX11_pass_24 : decode cX11_pass 24 = .ok (.bipush 7, 2) := by decide +kernel
theorem dX11_pass_26 : decode cX11_pass 26 = .ok (.iload_n 1, 1) := by decide +kernel
theorem dX11_pass_27 : decode cX11_pass 27 = .ok (.iadd, 1) := by decide +kernel
theorem dX11_pass_28 : decode cX11_pass 28 = .ok (.dup2, 1) := by decide +kernel
theorem dX11_pass_29 : decode cX11_pass 29 = .ok (.iaload, 1) := by decide +kernel
theorem dX11_pass_30 : decode cX11_pass 30 = .ok (.iconst 1, 1) := by decide +kernel
theorem dX11_pass_31 : decode cX11_pass 31 = .ok (.iadd, 1) := by decide +kernel
theorem dX11_pass_32 : decode cX11_pass 32 = .ok (.iastore, 1) := by decide +kernel
theorem dX11_pass_33 : decode cX11_pass 33 = .ok (.aload_n 0, 1) := by decide +kernel
theorem dX11_pass_34 : decode cX11_pass 34 = .ok (.getfield 25, 3) := by decide +kernel
theorem dX11_pass_37 : decode cX11_pass 37 = .ok (.iload_n 1, 1) := by decide +kernel
theorem dX11_pass_38 : decode cX11_pass 38 = .ok (.aload_n 0, 1) := by decide +kernel
theorem dX11_pass_39 : decode cX11_pass 39 = .ok (.getfield 25, 3) := by decide +kernel
theorem dX11_pass_42 : decode cX11_pass 42 = .ok (.bipush 7, 2) := by decide +kernel
theorem dX11_pass_44 : decode cX11_pass 44 = .ok (.iload_n 1, 1) := by decide +kernel
theorem dX11_pass_45 : decode cX11_pass 45 = .ok (.iadd, 1) := by decide +kernel
theorem dX11_pass_46 : decode cX11_pass 46 = .ok (.iaload, 1) := by decide +kernel
theorem dX11_pass_47 : decode cX11_pass 47 = .ok (.aload_n 0, 1) := by decide +kernel
theorem dX11_pass_48 : decode cX11_pass 48 = .ok (.getfield 153, 3) := by decide +kernel
theorem dX11_pass_51 : decode cX11_pass 51 = .ok (.if_icmp .le 7, 3) := by decide +kernel
theorem dX11_pass_54 : decode cX11_pass 54 = .ok (.iconst 5, 1) := by decide +kernel
theorem dX11_pass_55 : decode cX11_pass 55 = .ok (.goto 4, 3) := by decide +kernel
theorem dX11_pass_58 : decode cX11_pass 58 = .ok (.iconst 1, 1) := by decide +kernel
theorem dX11_pass_59 : decode cX11_pass 59 = .ok (.iastore, 1) := by decide +kernel
theorem dX11_pass_60 : decode cX11_pass 60 = .ok (.iinc 1 1, 3) := by decide +kernel
theorem dX11_pass_63 : decode cX11_pass 63 = .ok (.goto (-61), 3) := by decide +kernel
theorem dX11_pass_66 : decode cX11_pass 66 = .ok (.aload_n 0, 1) := by decide +kernel
theorem dX11_pass_67 : decode cX11_pass 67 = .ok (.invokevirtual 184, 3) := by decide +kernel
theorem dX11_pass_70 : decode cX11_pass 70 = .ok (.istore_n 1, 1) := by decide +kernel
theorem dX11_pass_71 : decode cX11_pass 71 = .ok (.iload_n 1, 1) := by decide +kernel
theorem dX11_pass_72 : decode cX11_pass 72 = .ok (.ifCond .lt 96, 3) := by decide +kernel
theorem dX11_pass_75 : decode cX11_pass 75 = .ok (.aload_n 0, 1) := by decide +kernel
theorem dX11_pass_76 : decode cX11_pass 76 = .ok (.getfield 25, 3) := by decide +kernel
theorem dX11_pass_79 : decode cX11_pass 79 = .ok (.bipush 14, 2) := by decide +kernel
theorem dX11_pass_81 : decode cX11_pass 81 = .ok (.iaload, 1) := by decide +kernel
theorem dX11_pass_82 : decode cX11_pass 82 = .ok (.iconst 1, 1) := by decide +kernel
theorem dX11_pass_83 : decode cX11_pass 83 = .ok (.if_icmp .le 85, 3) := by decide +kernel
theorem dX11_pass_86 : decode cX11_pass 86 = .ok (.aload_n 0, 1) := by decide +kernel
theorem dX11_pass_87 : decode cX11_pass 87 = .ok (.getfield 25, 3) := by decide +kernel
theorem dX11_pass_90 : decode cX11_pass 90 = .ok (.bipush 14, 2) := by decide +kernel
theorem dX11_pass_92 : decode cX11_pass 92 = .ok (.dup2, 1) := by decide +kernel
theorem dX11_pass_93 : decode cX11_pass 93 = .ok (.iaload, 1) := by decide +kernel
theorem dX11_pass_94 : decode cX11_pass 94 = .ok (.iconst 2, 1) := by decide +kernel
theorem dX11_pass_95 : decode cX11_pass 95 = .ok (.isub, 1) := by decide +kernel
theorem dX11_pass_96 : decode cX11_pass 96 = .ok (.iastore, 1) := by decide +kernel
theorem dX11_pass_97 : decode cX11_pass 97 = .ok (.aload_n 0, 1) := by decide +kernel
theorem dX11_pass_98 : decode cX11_pass 98 = .ok (.getfield 25, 3) := by decide +kernel
theorem dX11_pass_101 : decode cX11_pass 101 = .ok (.bipush 15, 2) := by decide +kernel
theorem dX11_pass_103 : decode cX11_pass 103 = .ok (.dup2, 1) := by decide +kernel
theorem dX11_pass_104 : decode cX11_pass 104 = .ok (.iaload, 1) := by decide +kernel
theorem dX11_pass_105 : decode cX11_pass 105 = .ok (.iconst 1, 1) := by decide +kernel
theorem dX11_pass_106 : decode cX11_pass 106 = .ok (.isub, 1) := by decide +kernel
theorem dX11_pass_107 : decode cX11_pass 107 = .ok (.iastore, 1) := by decide +kernel
theorem dX11_pass_108 : decode cX11_pass 108 = .ok (.aload_n 0, 1) := by decide +kernel
theorem dX11_pass_109 : decode cX11_pass 109 = .ok (.getfield 25, 3) := by decide +kernel
theorem dX11_pass_112 : decode cX11_pass 112 = .ok (.bipush 17, 2) := by decide +kernel
theorem dX11_pass_114 : decode cX11_pass 114 = .ok (.dup2, 1) := by decide +kernel
theorem dX11_pass_115 : decode cX11_pass 115 = .ok (.iaload, 1) := by decide +kernel
theorem dX11_pass_116 : decode cX11_pass 116 = .ok (.iconst 1, 1) := by decide +kernel
theorem dX11_pass_117 : decode cX11_pass 117 = .ok (.iadd, 1) := by decide +kernel
theorem dX11_pass_118 : decode cX11_pass 118 = .ok (.iastore, 1) := by decide +kernel
theorem dX11_pass_119 : decode cX11_pass 119 = .ok (.aload_n 0, 1) := by decide +kernel
theorem dX11_pass_120 : decode cX11_pass 120 = .ok (.getfield 25, 3) := by decide +kernel
theorem dX11_pass_123 : decode cX11_pass 123 = .ok (.bipush 18, 2) := by decide +kernel
theorem dX11_pass_125 : decode cX11_pass 125 = .ok (.dup2, 1) := by decide +kernel
theorem dX11_pass_126 : decode cX11_pass 126 = .ok (.iaload, 1) := by decide +kernel
theorem dX11_pass_127 : decode cX11_pass 127 = .ok (.aload_n 0, 1) := by decide +kernel
theorem dX11_pass_128 : decode cX11_pass 128 = .ok (.getfield 25, 3) := by decide +kernel
theorem dX11_pass_131 : decode cX11_pass 131 = .ok (.bipush 15, 2) := by decide +kernel
theorem dX11_pass_133 : decode cX11_pass 133 = .ok (.iaload, 1) := by decide +kernel
theorem dX11_pass_134 : decode cX11_pass 134 = .ok (.ifCond .ne 7, 3) := by decide +kernel
theorem dX11_pass_137 : decode cX11_pass 137 = .ok (.iconst 1, 1) := by decide +kernel
theorem dX11_pass_138 : decode cX11_pass 138 = .ok (.goto 4, 3) := by decide +kernel
theorem dX11_pass_141 : decode cX11_pass 141 = .ok (.iconst 0, 1) := by decide +kernel
theorem dX11_pass_142 : decode cX11_pass 142 = .ok (.iadd, 1) := by decide +kernel
theorem dX11_pass_143 : decode cX11_pass 143 = .ok (.iastore, 1) := by decide +kernel
theorem dX11_pass_144 : decode cX11_pass 144 = .ok (.aload_n 0, 1) := by decide +kernel
theorem dX11_pass_145 : decode cX11_pass 145 = .ok (.getfield 25, 3) := by decide +kernel
theorem dX11_pass_148 : decode cX11_pass 148 = .ok (.iload_n 1, 1) := by decide +kernel
theorem dX11_pass_149 : decode cX11_pass 149 = .ok (.aload_n 0, 1) := by decide +kernel
theorem dX11_pass_150 : decode cX11_pass 150 = .ok (.getfield 25, 3) := by decide +kernel
theorem dX11_pass_153 : decode cX11_pass 153 = .ok (.bipush 15, 2) := by decide +kernel
theorem dX11_pass_155 : decode cX11_pass 155 = .ok (.iaload, 1) := by decide +kernel
theorem dX11_pass_156 : decode cX11_pass 156 = .ok (.ifCond .ne 7, 3) := by decide +kernel
theorem dX11_pass_159 : decode cX11_pass 159 = .ok (.iconst 4, 1) := by decide +kernel
theorem dX11_pass_160 : decode cX11_pass 160 = .ok (.goto 4, 3) := by decide +kernel
theorem dX11_pass_163 : decode cX11_pass 163 = .ok (.iconst 3, 1) := by decide +kernel
theorem dX11_pass_164 : decode cX11_pass 164 = .ok (.iastore, 1) := by decide +kernel
theorem dX11_pass_165 : decode cX11_pass 165 = .ok (.goto 22, 3) := by decide +kernel
theorem dX11_pass_168 : decode cX11_pass 168 = .ok (.iload_n 1, 1) := by decide +kernel
theorem dX11_pass_169 : decode cX11_pass 169 = .ok (.ifCond .lt 18, 3) := by decide +kernel
theorem dX11_pass_172 : decode cX11_pass 172 = .ok (.aload_n 0, 1) := by decide +kernel
theorem dX11_pass_173 : decode cX11_pass 173 = .ok (.getfield 25, 3) := by decide +kernel
theorem dX11_pass_176 : decode cX11_pass 176 = .ok (.iload_n 1, 1) := by decide +kernel
theorem dX11_pass_177 : decode cX11_pass 177 = .ok (.iconst 0, 1) := by decide +kernel
theorem dX11_pass_178 : decode cX11_pass 178 = .ok (.iastore, 1) := by decide +kernel
theorem dX11_pass_179 : decode cX11_pass 179 = .ok (.aload_n 0, 1) := by decide +kernel
theorem dX11_pass_180 : decode cX11_pass 180 = .ok (.getfield 25, 3) := by decide +kernel
theorem dX11_pass_183 : decode cX11_pass 183 = .ok (.bipush 15, 2) := by decide +kernel
theorem dX11_pass_185 : decode cX11_pass 185 = .ok (.iconst 0, 1) := by decide +kernel
theorem dX11_pass_186 : decode cX11_pass 186 = .ok (.iastore, 1) := by decide +kernel
theorem dX11_pass_187 : decode cX11_pass 187 = .ok (.aload_n 0, 1) := by decide +kernel
theorem dX11_pass_188 : decode cX11_pass 188 = .ok (.getfield 25, 3) := by decide +kernel
theorem dX11_pass_191 : decode cX11_pass 191 = .ok (.bipush 16, 2) := by decide +kernel
theorem dX11_pass_193 : decode cX11_pass 193 = .ok (.dup2, 1) := by decide +kernel
theorem dX11_pass_194 : decode cX11_pass 194 = .ok (.iaload, 1) := by decide +kernel
theorem dX11_pass_195 : decode cX11_pass 195 = .ok (.iconst 1, 1) := by decide +kernel
theorem dX11_pass_196 : decode cX11_pass 196 = .ok (.iadd, 1) := by decide +kernel
theorem dX11_pass_197 : decode cX11_pass 197 = .ok (.iastore, 1) := by decide +kernel
theorem dX11_pass_198 : decode cX11_pass 198 = .ok (.return_, 1) := by decide +kernel
set_option maxRecDepth 20000 in
theorem ggX11_minutesRefused_X11_in : GoodIn wsX11_minutesRefused wsX11_in := goodIn_r _ [10] (by decide +kernel) (by decide +kernel)
set_option maxRecDepth 20000 in
theorem gX11_minutesRefused_X11_in : GoodIn wsX11_minutesRefused (va_wsS RX11 96 yX11_in wsX11_in) := goodIn_app (goodIn_of _ (by decide +kernel)) ggX11_minutesRefused_X11_in
theorem dX11_minutesRefused_0 : decode cX11_minutesRefused 0 = .ok (.iload_n 1, 1) := by decide +kernel
theorem dX11_minutesRefused_1 : decode cX11_minutesRefused 1 = .ok (.i2l, 1) := by decide +kernel
theorem dX11_minutesRefused_2 : decode cX11_minutesRefused 2 = .ok (.lconst 1, 1) := by decide +kernel
theorem dX11_minutesRefused_3 : decode cX11_minutesRefused 3 = .ok (.ldc2_w 204, 3) := by decide +kernel
theorem dX11_minutesRefused_6 : decode cX11_minutesRefused 6 = .ok (.invokestatic 96, 3) := by decide +kernel
theorem dX11_minutesRefused_9 : decode cX11_minutesRefused 9 = .ok (.ifCond .ne 6, 3) := by decide +kernel
theorem dX11_minutesRefused_12 : decode cX11_minutesRefused 12 = .ok (.ldc 105, 2) := by decide +kernel
theorem dX11_minutesRefused_14 : decode cX11_minutesRefused 14 = .ok (.ireturn, 1) := by decide +kernel
theorem dX11_minutesRefused_15 : decode cX11_minutesRefused 15 = .ok (.aload_n 0, 1) := by decide +kernel
theorem dX11_minutesRefused_16 : decode cX11_minutesRefused 16 = .ok (.getfield 90, 3) := by decide +kernel
theorem dX11_minutesRefused_19 : decode cX11_minutesRefused 19 = .ok (.ifCond .ne 8, 3) := by decide +kernel
theorem dX11_minutesRefused_22 : decode cX11_minutesRefused 22 = .ok (.ldc 206, 2) := by decide +kernel
theorem dX11_minutesRefused_24 : decode cX11_minutesRefused 24 = .ok (.goto 22, 3) := by decide +kernel
theorem dX11_minutesRefused_27 : decode cX11_minutesRefused 27 = .ok (.aload_n 0, 1) := by decide +kernel
theorem dX11_minutesRefused_28 : decode cX11_minutesRefused 28 = .ok (.getfield 25, 3) := by decide +kernel
theorem dX11_minutesRefused_31 : decode cX11_minutesRefused 31 = .ok (.bipush 16, 2) := by decide +kernel
theorem dX11_minutesRefused_33 : decode cX11_minutesRefused 33 = .ok (.iaload, 1) := by decide +kernel
theorem dX11_minutesRefused_34 : decode cX11_minutesRefused 34 = .ok (.sipush 9000, 3) := by decide +kernel
theorem dX11_minutesRefused_37 : decode cX11_minutesRefused 37 = .ok (.if_icmp .le 8, 3) := by decide +kernel
theorem dX11_minutesRefused_40 : decode cX11_minutesRefused 40 = .ok (.ldc 109, 2) := by decide +kernel
theorem dX11_minutesRefused_42 : decode cX11_minutesRefused 42 = .ok (.goto 4, 3) := by decide +kernel
theorem dX11_minutesRefused_45 : decode cX11_minutesRefused 45 = .ok (.iconst 0, 1) := by decide +kernel
theorem dX11_minutesRefused_46 : decode cX11_minutesRefused 46 = .ok (.ireturn, 1) := by decide +kernel
set_option maxRecDepth 20000 in
theorem ggX11_minute_X11_minutesRefused : GoodIn wsX11_minute wsX11_minutesRefused := goodIn_r _ [6, 7, 8, 9, 10, 1, 11, 12, 13, 5, 14, 31, 32, 33, 34, 35, 36, 37, 38, 39, 40, 41, 42, 43, 44, 45, 46, 47, 48, 49, 50, 51, 52, 53, 54, 55, 56, 57, 58, 59, 60, 61, 62, 63, 64, 65, 66, 67, 68, 69, 70] (by decide +kernel) (by decide +kernel)
set_option maxRecDepth 20000 in
theorem gX11_minute_X11_minutesRefused : GoodIn wsX11_minute (wsV RX11 207 RX11 yX11_minutesRefused wsX11_minutesRefused) := goodIn_app (goodIn_of _ (by decide +kernel)) ggX11_minute_X11_minutesRefused
set_option maxRecDepth 20000 in
theorem ggX11_minute_X11_remember : GoodIn wsX11_minute wsX11_remember := goodIn_r _ [18, 19, 20, 1, 31, 32, 33, 34, 35, 36, 37, 38, 39, 40, 41, 42, 43, 44, 45, 46, 47, 48, 49, 50, 51, 52, 53, 54, 55, 56, 57, 58, 59, 60, 61, 62, 63, 64, 65, 66, 67, 68, 69, 70] (by decide +kernel) (by decide +kernel)
set_option maxRecDepth 20000 in
theorem gX11_minute_X11_remember : GoodIn wsX11_minute (wsV RX11 210 RX11 yX11_remember wsX11_remember) := goodIn_app (goodIn_of _ (by decide +kernel)) ggX11_minute_X11_remember
set_option maxRecDepth 20000 in
theorem ggX11_minute_X11_pass : GoodIn wsX11_minute wsX11_pass := goodIn_r _ [24, 25, 1, 26, 27, 28, 29, 5, 30, 31, 32, 33, 34, 35, 36, 37, 38, 39, 40, 41, 42, 43, 44, 45, 46, 47, 48, 49, 50, 51, 52, 53, 54, 55, 56, 57, 58, 59, 60, 61, 62, 63, 64, 65, 66, 67, 68, 69, 70] (by decide +kernel) (by decide +kernel)
set_option maxRecDepth 20000 in
theorem gX11_minute_X11_pass : GoodIn wsX11_minute (wsV RX11 213 RX11 yX11_pass wsX11_pass) := goodIn_app (goodIn_of _ (by decide +kernel)) ggX11_minute_X11_pass
theorem dX11_minute_0 : decode cX11_minute 0 = .ok (.aload_n 0, 1) := by decide +kernel
theorem dX11_minute_1 : decode cX11_minute 1 = .ok (.iload_n 1, 1) := by decide +kernel
theorem dX11_minute_2 : decode cX11_minute 2 = .ok (.invokevirtual 207, 3) := by decide +kernel
theorem dX11_minute_5 : decode cX11_minute 5 = .ok (.istore_n 2, 1) := by decide +kernel
theorem dX11_minute_6 : decode cX11_minute 6 = .ok (.iload_n 2, 1) := by decide +kernel
theorem dX11_minute_7 : decode cX11_minute 7 = .ok (.ifCond .eq 5, 3) := by decide +kernel
theorem dX11_minute_10 : decode cX11_minute 10 = .ok (.iload_n 2, 1) := by decide +kernel
theorem dX11_minute_11 : decode cX11_minute 11 = .ok (.ireturn, 1) := by decide +kernel
theorem dX11_minute_12 : decode cX11_minute 12 = .ok (.aload_n 0, 1) := by decide +kernel
theorem dX11_minute_13 : decode cX11_minute 13 = .ok (.invokevirtual 210, 3) := by decide +kernel
theorem dX11_minute_16 : decode cX11_minute 16 = .ok (.iconst 0, 1) := by decide +kernel
theorem dX11_minute_17 : decode cX11_minute 17 = .ok (.istore_n 3, 1) := by decide +kernel
theorem dX11_minute_18 : decode cX11_minute 18 = .ok (.iload_n 3, 1) := by decide +kernel
theorem dX11_minute_19 : decode cX11_minute 19 = .ok (.iload_n 1, 1) := by decide +kernel
theorem dX11_minute_20 : decode cX11_minute 20 = .ok (.if_icmp .ge 13, 3) := by decide +kernel
theorem dX11_minute_23 : decode cX11_minute 23 = .ok (.aload_n 0, 1) := by decide +kernel
theorem dX11_minute_24 : decode cX11_minute 24 = .ok (.invokevirtual 213, 3) := by decide +kernel
theorem dX11_minute_27 : decode cX11_minute 27 = .ok (.iinc 3 1, 3) := by decide +kernel
theorem dX11_minute_30 : decode cX11_minute 30 = .ok (.goto (-12), 3) := by decide +kernel
theorem dX11_minute_33 : decode cX11_minute 33 = .ok (.aload_n 0, 1) := by decide +kernel
theorem dX11_minute_34 : decode cX11_minute 34 = .ok (.getfield 25, 3) := by decide +kernel
theorem dX11_minute_37 : decode cX11_minute 37 = .ok (.bipush 16, 2) := by decide +kernel
theorem dX11_minute_39 : decode cX11_minute 39 = .ok (.iaload, 1) := by decide +kernel
theorem dX11_minute_40 : decode cX11_minute 40 = .ok (.ireturn, 1) := by decide +kernel
set_option maxRecDepth 20000 in
theorem ggX11_canPut_X11_inPan : GoodIn wsX11_canPut wsX11_inPan := goodIn_r _ [7, 8, 1, 9, 10, 11, 12, 13, 14, 15, 16, 17, 18, 19, 20, 21, 22, 23, 24, 25, 26, 27, 28, 29, 30, 31, 32, 33, 34, 35, 36, 37, 38, 39, 40, 41, 42, 43, 44, 45, 46, 47, 48] (by decide +kernel) (by decide +kernel)
set_option maxRecDepth 20000 in
theorem gX11_canPut_X11_inPan : GoodIn wsX11_canPut (wsV RX11 216 RX11 yX11_inPan wsX11_inPan) := goodIn_app (goodIn_of _ (by decide +kernel)) ggX11_canPut_X11_inPan
theorem dX11_canPut_0 : decode cX11_canPut 0 = .ok (.aload_n 0, 1) := by decide +kernel
theorem dX11_canPut_1 : decode cX11_canPut 1 = .ok (.getfield 25, 3) := by decide +kernel
theorem dX11_canPut_4 : decode cX11_canPut 4 = .ok (.iload_n 1, 1) := by decide +kernel
theorem dX11_canPut_5 : decode cX11_canPut 5 = .ok (.iaload, 1) := by decide +kernel
theorem dX11_canPut_6 : decode cX11_canPut 6 = .ok (.ifCond .eq 13, 3) := by decide +kernel
theorem dX11_canPut_9 : decode cX11_canPut 9 = .ok (.aload_n 0, 1) := by decide +kernel
theorem dX11_canPut_10 : decode cX11_canPut 10 = .ok (.getfield 25, 3) := by decide +kernel
theorem dX11_canPut_13 : decode cX11_canPut 13 = .ok (.iload_n 1, 1) := by decide +kernel
theorem dX11_canPut_14 : decode cX11_canPut 14 = .ok (.iaload, 1) := by decide +kernel
theorem dX11_canPut_15 : decode cX11_canPut 15 = .ok (.iconst 2, 1) := by decide +kernel
theorem dX11_canPut_16 : decode cX11_canPut 16 = .ok (.if_icmp .ne 18, 3) := by decide +kernel
theorem dX11_canPut_19 : decode cX11_canPut 19 = .ok (.aload_n 0, 1) := by decide +kernel
theorem dX11_canPut_20 : decode cX11_canPut 20 = .ok (.invokevirtual 216, 3) := by decide +kernel
theorem dX11_canPut_23 : decode cX11_canPut 23 = .ok (.aload_n 0, 1) := by decide +kernel
theorem dX11_canPut_24 : decode cX11_canPut 24 = .ok (.getfield 90, 3) := by decide +kernel
theorem dX11_canPut_27 : decode cX11_canPut 27 = .ok (.if_icmp .ge 7, 3) := by decide +kernel
theorem dX11_canPut_30 : decode cX11_canPut 30 = .ok (.iconst 1, 1) := by decide +kernel
theorem dX11_canPut_31 : decode cX11_canPut 31 = .ok (.goto 4, 3) := by decide +kernel
theorem dX11_canPut_34 : decode cX11_canPut 34 = .ok (.iconst 0, 1) := by decide +kernel
theorem dX11_canPut_35 : decode cX11_canPut 35 = .ok (.ireturn, 1) := by decide +kernel
set_option maxRecDepth 20000 in
theorem ggX11_canCrown_X11_king : GoodIn wsX11_canCrown wsX11_king := goodIn_r _ [6, 7, 1, 8, 9, 10, 11, 12, 13, 14, 15, 16, 17, 18, 19, 20, 21, 22, 23, 24, 25, 26, 27, 28, 29, 30, 31, 32, 33, 34, 35, 36, 37, 38, 39, 40, 41, 42, 43, 44, 45, 46, 47] (by decide +kernel) (by decide +kernel)
set_option maxRecDepth 20000 in
theorem gX11_canCrown_X11_king : GoodIn wsX11_canCrown (wsV RX11 184 RX11 yX11_king wsX11_king) := goodIn_app (goodIn_of _ (by decide +kernel)) ggX11_canCrown_X11_king
theorem dX11_canCrown_0 : decode cX11_canCrown 0 = .ok (.aload_n 0, 1) := by decide +kernel
theorem dX11_canCrown_1 : decode cX11_canCrown 1 = .ok (.getfield 25, 3) := by decide +kernel
theorem dX11_canCrown_4 : decode cX11_canCrown 4 = .ok (.iload_n 1, 1) := by decide +kernel
theorem dX11_canCrown_5 : decode cX11_canCrown 5 = .ok (.iaload, 1) := by decide +kernel
theorem dX11_canCrown_6 : decode cX11_canCrown 6 = .ok (.iconst 2, 1) := by decide +kernel
theorem dX11_canCrown_7 : decode cX11_canCrown 7 = .ok (.if_icmp .ne 14, 3) := by decide +kernel
theorem dX11_canCrown_10 : decode cX11_canCrown 10 = .ok (.aload_n 0, 1) := by decide +kernel
theorem dX11_canCrown_11 : decode cX11_canCrown 11 = .ok (.invokevirtual 184, 3) := by decide +kernel
theorem dX11_canCrown_14 : decode cX11_canCrown 14 = .ok (.ifCond .ge 7, 3) := by decide +kernel
theorem dX11_canCrown_17 : decode cX11_canCrown 17 = .ok (.iconst 1, 1) := by decide +kernel
theorem dX11_canCrown_18 : decode cX11_canCrown 18 = .ok (.goto 4, 3) := by decide +kernel
theorem dX11_canCrown_21 : decode cX11_canCrown 21 = .ok (.iconst 0, 1) := by decide +kernel
theorem dX11_canCrown_22 : decode cX11_canCrown 22 = .ok (.ireturn, 1) := by decide +kernel
set_option maxRecDepth 20000 in
theorem ggX11_crownNow_X11_reign : GoodIn wsX11_crownNow wsX11_reign := goodIn_r _ [6, 1, 7, 8, 9, 5, 10, 11, 12, 13, 14, 15, 16, 17, 18, 19, 20, 21, 22, 23, 24, 25, 26, 27, 28, 29, 30, 31, 32, 33, 34, 35, 36, 37, 38, 39, 40, 41, 42, 43, 44, 45, 46, 47, 48, 49, 50, 51, 52, 53, 54, 55, 56] (by decide +kernel) (by decide +kernel)
set_option maxRecDepth 20000 in
theorem gX11_crownNow_X11_reign : GoodIn wsX11_crownNow (wsV RX11 181 RX11 yX11_reign wsX11_reign) := goodIn_app (goodIn_of _ (by decide +kernel)) ggX11_crownNow_X11_reign
theorem dX11_crownNow_0 : decode cX11_crownNow 0 = .ok (.aload_n 0, 1) := by decide +kernel
theorem dX11_crownNow_1 : decode cX11_crownNow 1 = .ok (.getfield 25, 3) := by decide +kernel
theorem dX11_crownNow_4 : decode cX11_crownNow 4 = .ok (.iload_n 1, 1) := by decide +kernel
theorem dX11_crownNow_5 : decode cX11_crownNow 5 = .ok (.iconst 3, 1) := by decide +kernel
theorem dX11_crownNow_6 : decode cX11_crownNow 6 = .ok (.iastore, 1) := by decide +kernel
theorem dX11_crownNow_7 : decode cX11_crownNow 7 = .ok (.aload_n 0, 1) := by decide +kernel
theorem dX11_crownNow_8 : decode cX11_crownNow 8 = .ok (.getfield 25, 3) := by decide +kernel
theorem dX11_crownNow_11 : decode cX11_crownNow 11 = .ok (.bipush 15, 2) := by decide +kernel
theorem dX11_crownNow_13 : decode cX11_crownNow 13 = .ok (.aload_n 0, 1) := by decide +kernel
theorem dX11_crownNow_14 : decode cX11_crownNow 14 = .ok (.iload_n 1, 1) := by decide +kernel
theorem dX11_crownNow_15 : decode cX11_crownNow 15 = .ok (.invokevirtual 181, 3) := by decide +kernel
theorem dX11_crownNow_18 : decode cX11_crownNow 18 = .ok (.iastore, 1) := by decide +kernel
theorem dX11_crownNow_19 : decode cX11_crownNow 19 = .ok (.return_, 1) := by decide +kernel
set_option maxRecDepth 20000 in
theorem ggX11_put_X11_isEgg : GoodIn wsX11_put wsX11_isEgg := goodIn_r _ [8, 9, 10, 11, 7, 12, 28, 29, 30, 31, 32, 33, 34, 35, 36, 37, 38, 39, 40, 41, 42, 43, 44, 45, 46, 47, 48, 49, 50, 51, 52, 53, 54, 55, 56, 57, 58, 59, 60, 61, 62, 63, 64, 65, 66, 67] (by decide +kernel) (by decide +kernel)
set_option maxRecDepth 20000 in
theorem gX11_put_X11_isEgg : GoodIn wsX11_put (wsV RX11 196 RX11 yX11_isEgg wsX11_isEgg) := goodIn_app (goodIn_of _ (by decide +kernel)) ggX11_put_X11_isEgg
set_option maxRecDepth 20000 in
theorem ggX11_put_X11_canPut : GoodIn wsX11_put wsX11_canPut := goodIn_r _ [16, 3, 17, 18, 19, 20, 7, 21, 9, 28, 29, 30, 31, 32, 33, 34, 35, 36, 37, 38, 39, 40, 41, 42, 43, 44, 45, 46, 47, 48, 49, 50, 51, 52, 53, 54, 55, 56, 57, 58, 59, 60, 61, 62, 63, 64, 65, 66, 67] (by decide +kernel) (by decide +kernel)
set_option maxRecDepth 20000 in
theorem gX11_put_X11_canPut : GoodIn wsX11_put (wsV RX11 219 RX11 yX11_canPut wsX11_canPut) := goodIn_app (goodIn_of _ (by decide +kernel)) ggX11_put_X11_canPut
set_option maxRecDepth 20000 in
theorem ggX11_put_X11_remember : GoodIn wsX11_put wsX11_remember := goodIn_r _ [25, 26, 27, 3, 28, 29, 30, 31, 32, 33, 34, 35, 36, 37, 38, 39, 40, 41, 42, 43, 44, 45, 46, 47, 48, 49, 50, 51, 52, 53, 54, 55, 56, 57, 58, 59, 60, 61, 62, 63, 64, 65, 66, 67] (by decide +kernel) (by decide +kernel)
set_option maxRecDepth 20000 in
theorem gX11_put_X11_remember : GoodIn wsX11_put (wsV RX11 210 RX11 yX11_remember wsX11_remember) := goodIn_app (goodIn_of _ (by decide +kernel)) ggX11_put_X11_remember
set_option maxRecDepth 20000 in
theorem ggX11_put_X11_inPan : GoodIn wsX11_put wsX11_inPan := goodIn_r _ [21, 9, 3, 28, 29, 30, 31, 32, 33, 34, 35, 36, 37, 38, 39, 40, 41, 42, 43, 44, 45, 46, 47, 48, 49, 50, 51, 52, 53, 54, 55, 56, 57, 58, 59, 60, 61, 62, 63, 64, 65, 66, 67] (by decide +kernel) (by decide +kernel)
set_option maxRecDepth 20000 in
theorem gX11_put_X11_inPan : GoodIn wsX11_put (wsV RX11 216 RX11 yX11_inPan wsX11_inPan) := goodIn_app (goodIn_of _ (by decide +kernel)) ggX11_put_X11_inPan
theorem dX11_put_0 : decode cX11_put 0 = .ok (.aload_n 0, 1) := by decide +kernel
theorem dX11_put_1 : decode cX11_put 1 = .ok (.iload_n 1, 1) := by decide +kernel
theorem dX11_put_2 : decode cX11_put 2 = .ok (.invokevirtual 196, 3) := by decide +kernel
theorem dX11_put_5 : decode cX11_put 5 = .ok (.ifCond .ne 6, 3) := by decide +kernel
theorem dX11_put_8 : decode cX11_put 8 = .ok (.ldc 200, 2) := by decide +kernel
theorem dX11_put_10 : decode cX11_put 10 = .ok (.ireturn, 1) := by decide +kernel
theorem dX11_put_11 : decode cX11_put 11 = .ok (.aload_n 0, 1) := by decide +kernel
theorem dX11_put_12 : decode cX11_put 12 = .ok (.iload_n 1, 1) := by decide +kernel
theorem dX11_put_13 : decode cX11_put 13 = .ok (.invokevirtual 219, 3) := by decide +kernel
theorem dX11_put_16 : decode cX11_put 16 = .ok (.ifCond .ne 6, 3) := by decide +kernel
theorem dX11_put_19 : decode cX11_put 19 = .ok (.ldc 206, 2) := by decide +kernel
theorem dX11_put_21 : decode cX11_put 21 = .ok (.ireturn, 1) := by decide +kernel
theorem dX11_put_22 : decode cX11_put 22 = .ok (.aload_n 0, 1) := by decide +kernel
theorem dX11_put_23 : decode cX11_put 23 = .ok (.invokevirtual 210, 3) := by decide +kernel
theorem dX11_put_26 : decode cX11_put 26 = .ok (.aload_n 0, 1) := by decide +kernel
theorem dX11_put_27 : decode cX11_put 27 = .ok (.getfield 25, 3) := by decide +kernel
theorem dX11_put_30 : decode cX11_put 30 = .ok (.iload_n 1, 1) := by decide +kernel
theorem dX11_put_31 : decode cX11_put 31 = .ok (.iconst 1, 1) := by decide +kernel
theorem dX11_put_32 : decode cX11_put 32 = .ok (.iastore, 1) := by decide +kernel
theorem dX11_put_33 : decode cX11_put 33 = .ok (.aload_n 0, 1) := by decide +kernel
theorem dX11_put_34 : decode cX11_put 34 = .ok (.invokevirtual 216, 3) := by decide +kernel
theorem dX11_put_37 : decode cX11_put 37 = .ok (.ireturn, 1) := by decide +kernel
set_option maxRecDepth 20000 in
theorem ggX11_takeOut_X11_isEgg : GoodIn wsX11_takeOut wsX11_isEgg := goodIn_r _ [8, 9, 10, 11, 7, 12, 29, 30, 31, 32, 33, 34, 35, 36, 37, 38, 39, 40, 41, 42, 43, 44, 45, 46, 47, 48, 49, 50, 51, 52, 53, 54, 55, 56, 57, 58, 59, 60, 61, 62, 63, 64, 65, 66, 67, 68] (by decide +kernel) (by decide +kernel)
set_option maxRecDepth 20000 in
theorem gX11_takeOut_X11_isEgg : GoodIn wsX11_takeOut (wsV RX11 196 RX11 yX11_isEgg wsX11_isEgg) := goodIn_app (goodIn_of _ (by decide +kernel)) ggX11_takeOut_X11_isEgg
set_option maxRecDepth 20000 in
theorem ggX11_takeOut_X11_remember : GoodIn wsX11_takeOut wsX11_remember := goodIn_r _ [16, 17, 18, 2, 29, 30, 31, 32, 33, 34, 35, 36, 37, 38, 39, 40, 41, 42, 43, 44, 45, 46, 47, 48, 49, 50, 51, 52, 53, 54, 55, 56, 57, 58, 59, 60, 61, 62, 63, 64, 65, 66, 67, 68] (by decide +kernel) (by decide +kernel)
set_option maxRecDepth 20000 in
theorem gX11_takeOut_X11_remember : GoodIn wsX11_takeOut (wsV RX11 210 RX11 yX11_remember wsX11_remember) := goodIn_app (goodIn_of _ (by decide +kernel)) ggX11_takeOut_X11_remember
set_option maxRecDepth 20000 in
theorem ggX11_takeOut_X11_hard : GoodIn wsX11_takeOut wsX11_hard := goodIn_r _ [22, 2, 23, 24, 25, 7, 26, 27, 28, 29, 30, 31, 32, 33, 34, 35, 36, 37, 38, 39, 40, 41, 42, 43, 44, 45, 46, 47, 48, 49, 50, 51, 52, 53, 54, 55, 56, 57, 58, 59, 60, 61, 62, 63, 64, 65, 66, 67, 68] (by decide +kernel) (by decide +kernel)
set_option maxRecDepth 20000 in
theorem gX11_takeOut_X11_hard : GoodIn wsX11_takeOut (wsV RX11 177 RX11 yX11_hard wsX11_hard) := goodIn_app (goodIn_of _ (by decide +kernel)) ggX11_takeOut_X11_hard
theorem dX11_takeOut_0 : decode cX11_takeOut 0 = .ok (.aload_n 0, 1) := by decide +kernel
theorem dX11_takeOut_1 : decode cX11_takeOut 1 = .ok (.iload_n 1, 1) := by decide +kernel
theorem dX11_takeOut_2 : decode cX11_takeOut 2 = .ok (.invokevirtual 196, 3) := by decide +kernel
theorem dX11_takeOut_5 : decode cX11_takeOut 5 = .ok (.ifCond .ne 6, 3) := by decide +kernel
theorem dX11_takeOut_8 : decode cX11_takeOut 8 = .ok (.ldc 200, 2) := by decide +kernel
theorem dX11_takeOut_10 : decode cX11_takeOut 10 = .ok (.ireturn, 1) := by decide +kernel
theorem dX11_takeOut_11 : decode cX11_takeOut 11 = .ok (.aload_n 0, 1) := by decide +kernel
theorem dX11_takeOut_12 : decode cX11_takeOut 12 = .ok (.getfield 25, 3) := by decide +kernel
theorem dX11_takeOut_15 : decode cX11_takeOut 15 = .ok (.iload_n 1, 1) := by decide +kernel
theorem dX11_takeOut_16 : decode cX11_takeOut 16 = .ok (.iaload, 1) := by decide +kernel
theorem dX11_takeOut_17 : decode cX11_takeOut 17 = .ok (.iconst 1, 1) := by decide +kernel
theorem dX11_takeOut_18 : decode cX11_takeOut 18 = .ok (.if_icmp .eq 6, 3) := by decide +kernel
theorem dX11_takeOut_21 : decode cX11_takeOut 21 = .ok (.ldc 206, 2) := by decide +kernel
theorem dX11_takeOut_23 : decode cX11_takeOut 23 = .ok (.ireturn, 1) := by decide +kernel
theorem dX11_takeOut_24 : decode cX11_takeOut 24 = .ok (.aload_n 0, 1) := by decide +kernel
theorem dX11_takeOut_25 : decode cX11_takeOut 25 = .ok (.invokevirtual 210, 3) := by decide +kernel
theorem dX11_takeOut_28 : decode cX11_takeOut 28 = .ok (.aload_n 0, 1) := by decide +kernel
theorem dX11_takeOut_29 : decode cX11_takeOut 29 = .ok (.getfield 25, 3) := by decide +kernel
theorem dX11_takeOut_32 : decode cX11_takeOut 32 = .ok (.iload_n 1, 1) := by decide +kernel
theorem dX11_takeOut_33 : decode cX11_takeOut 33 = .ok (.iconst 2, 1) := by decide +kernel
theorem dX11_takeOut_34 : decode cX11_takeOut 34 = .ok (.iastore, 1) := by decide +kernel
theorem dX11_takeOut_35 : decode cX11_takeOut 35 = .ok (.aload_n 0, 1) := by decide +kernel
theorem dX11_takeOut_36 : decode cX11_takeOut 36 = .ok (.iload_n 1, 1) := by decide +kernel
theorem dX11_takeOut_37 : decode cX11_takeOut 37 = .ok (.invokevirtual 177, 3) := by decide +kernel
theorem dX11_takeOut_40 : decode cX11_takeOut 40 = .ok (.ireturn, 1) := by decide +kernel
set_option maxRecDepth 20000 in
theorem ggX11_crown_X11_isEgg : GoodIn wsX11_crown wsX11_isEgg := goodIn_r _ [8, 9, 10, 11, 7, 12, 45, 46, 47, 48, 49, 50, 51, 52, 53, 54, 55, 56, 57, 58, 59, 60, 61, 62, 63, 64, 65, 66, 67, 68, 69, 70, 71, 72, 73, 74, 75, 76, 77, 78, 79, 80, 81, 82, 83, 84] (by decide +kernel) (by decide +kernel)
set_option maxRecDepth 20000 in
theorem gX11_crown_X11_isEgg : GoodIn wsX11_crown (wsV RX11 196 RX11 yX11_isEgg wsX11_isEgg) := goodIn_app (goodIn_of _ (by decide +kernel)) ggX11_crown_X11_isEgg
set_option maxRecDepth 20000 in
theorem ggX11_crown_X11_canCrown : GoodIn wsX11_crown wsX11_canCrown := goodIn_r _ [16, 3, 17, 18, 19, 7, 20, 9, 45, 46, 47, 48, 49, 50, 51, 52, 53, 54, 55, 56, 57, 58, 59, 60, 61, 62, 63, 64, 65, 66, 67, 68, 69, 70, 71, 72, 73, 74, 75, 76, 77, 78, 79, 80, 81, 82, 83, 84] (by decide +kernel) (by decide +kernel)
set_option maxRecDepth 20000 in
theorem gX11_crown_X11_canCrown : GoodIn wsX11_crown (wsV RX11 222 RX11 yX11_canCrown wsX11_canCrown) := goodIn_app (goodIn_of _ (by decide +kernel)) ggX11_crown_X11_canCrown
set_option maxRecDepth 20000 in
theorem ggX11_crown_X11_remember : GoodIn wsX11_crown wsX11_remember := goodIn_r _ [24, 25, 26, 3, 45, 46, 47, 48, 49, 50, 51, 52, 53, 54, 55, 56, 57, 58, 59, 60, 61, 62, 63, 64, 65, 66, 67, 68, 69, 70, 71, 72, 73, 74, 75, 76, 77, 78, 79, 80, 81, 82, 83, 84] (by decide +kernel) (by decide +kernel)
set_option maxRecDepth 20000 in
theorem gX11_crown_X11_remember : GoodIn wsX11_crown (wsV RX11 210 RX11 yX11_remember wsX11_remember) := goodIn_app (goodIn_of _ (by decide +kernel)) ggX11_crown_X11_remember
set_option maxRecDepth 20000 in
theorem ggX11_crown_X11_crownNow : GoodIn wsX11_crown wsX11_crownNow := goodIn_r _ [30, 3, 31, 32, 33, 7, 34, 35, 36, 37, 38, 39, 40, 41, 42, 43, 44, 45, 46, 47, 48, 49, 50, 51, 52, 53, 54, 55, 56, 57, 58, 59, 60, 61, 62, 63, 64, 65, 66, 67, 68, 69, 70, 71, 72, 73, 74, 75, 76, 77, 78, 79, 80, 81, 82, 83, 84] (by decide +kernel) (by decide +kernel)
set_option maxRecDepth 20000 in
theorem gX11_crown_X11_crownNow : GoodIn wsX11_crown (wsV RX11 225 RX11 yX11_crownNow wsX11_crownNow) := goodIn_app (goodIn_of _ (by decide +kernel)) ggX11_crown_X11_crownNow
theorem dX11_crown_0 : decode cX11_crown 0 = .ok (.aload_n 0, 1) := by decide +kernel
theorem dX11_crown_1 : decode cX11_crown 1 = .ok (.iload_n 1, 1) := by decide +kernel
theorem dX11_crown_2 : decode cX11_crown 2 = .ok (.invokevirtual 196, 3) := by decide +kernel
theorem dX11_crown_5 : decode cX11_crown 5 = .ok (.ifCond .ne 6, 3) := by decide +kernel
theorem dX11_crown_8 : decode cX11_crown 8 = .ok (.ldc 200, 2) := by decide +kernel
theorem dX11_crown_10 : decode cX11_crown 10 = .ok (.ireturn, 1) := by decide +kernel
theorem dX11_crown_11 : decode cX11_crown 11 = .ok (.aload_n 0, 1) := by decide +kernel
theorem dX11_crown_12 : decode cX11_crown 12 = .ok (.iload_n 1, 1) := by decide +kernel
theorem dX11_crown_13 : decode cX11_crown 13 = .ok (.invokevirtual 222, 3) := by decide +kernel
theorem dX11_crown_16 : decode cX11_crown 16 = .ok (.ifCond .ne 6, 3) := by decide +kernel
theorem dX11_crown_19 : decode cX11_crown 19 = .ok (.ldc 206, 2) := by decide +kernel
theorem dX11_crown_21 : decode cX11_crown 21 = .ok (.ireturn, 1) := by decide +kernel
theorem dX11_crown_22 : decode cX11_crown 22 = .ok (.aload_n 0, 1) := by decide +kernel
theorem dX11_crown_23 : decode cX11_crown 23 = .ok (.invokevirtual 210, 3) := by decide +kernel
theorem dX11_crown_26 : decode cX11_crown 26 = .ok (.aload_n 0, 1) := by decide +kernel
theorem dX11_crown_27 : decode cX11_crown 27 = .ok (.iload_n 1, 1) := by decide +kernel
theorem dX11_crown_28 : decode cX11_crown 28 = .ok (.invokevirtual 225, 3) := by decide +kernel
theorem dX11_crown_31 : decode cX11_crown 31 = .ok (.aload_n 0, 1) := by decide +kernel
theorem dX11_crown_32 : decode cX11_crown 32 = .ok (.getfield 25, 3) := by decide +kernel
theorem dX11_crown_35 : decode cX11_crown 35 = .ok (.bipush 15, 2) := by decide +kernel
theorem dX11_crown_37 : decode cX11_crown 37 = .ok (.iaload, 1) := by decide +kernel
theorem dX11_crown_38 : decode cX11_crown 38 = .ok (.ireturn, 1) := by decide +kernel
set_option maxRecDepth 20000 in
theorem ggX11_cutToast_X11_in : GoodIn wsX11_cutToast wsX11_in := goodIn_r _ [9] (by decide +kernel) (by decide +kernel)
set_option maxRecDepth 20000 in
theorem gX11_cutToast_X11_in : GoodIn wsX11_cutToast (va_wsS RX11 96 yX11_in wsX11_in) := goodIn_app (goodIn_of _ (by decide +kernel)) ggX11_cutToast_X11_in
set_option maxRecDepth 20000 in
theorem ggX11_cutToast_X11_remember : GoodIn wsX11_cutToast wsX11_remember := goodIn_r _ [13, 14, 15, 5, 16, 17, 18, 19, 20, 21, 22, 23, 24, 25, 26, 27, 28, 29, 30, 31, 32, 33, 34, 35, 36, 37, 38, 39, 40, 41, 42, 43, 44, 45, 46, 47, 48, 49, 50, 51, 52, 53, 54, 55] (by decide +kernel) (by decide +kernel)
set_option maxRecDepth 20000 in
theorem gX11_cutToast_X11_remember : GoodIn wsX11_cutToast (wsV RX11 210 RX11 yX11_remember wsX11_remember) := goodIn_app (goodIn_of _ (by decide +kernel)) ggX11_cutToast_X11_remember
theorem dX11_cutToast_0 : decode cX11_cutToast 0 = .ok (.iload_n 1, 1) := by decide +kernel
theorem dX11_cutToast_1 : decode cX11_cutToast 1 = .ok (.i2l, 1) := by decide +kernel
theorem dX11_cutToast_2 : decode cX11_cutToast 2 = .ok (.lconst 1, 1) := by decide +kernel
theorem dX11_cutToast_3 : decode cX11_cutToast 3 = .ok (.ldc2_w 229, 3) := by decide +kernel
theorem dX11_cutToast_6 : decode cX11_cutToast 6 = .ok (.invokestatic 96, 3) := by decide +kernel
theorem dX11_cutToast_9 : decode cX11_cutToast 9 = .ok (.ifCond .ne 6, 3) := by decide +kernel
theorem dX11_cutToast_12 : decode cX11_cutToast 12 = .ok (.ldc 105, 2) := by decide +kernel
theorem dX11_cutToast_14 : decode cX11_cutToast 14 = .ok (.ireturn, 1) := by decide +kernel
theorem dX11_cutToast_15 : decode cX11_cutToast 15 = .ok (.aload_n 0, 1) := by decide +kernel
theorem dX11_cutToast_16 : decode cX11_cutToast 16 = .ok (.getfield 90, 3) := by decide +kernel
theorem dX11_cutToast_19 : decode cX11_cutToast 19 = .ok (.ifCond .ne 6, 3) := by decide +kernel
theorem dX11_cutToast_22 : decode cX11_cutToast 22 = .ok (.ldc 206, 2) := by decide +kernel
theorem dX11_cutToast_24 : decode cX11_cutToast 24 = .ok (.ireturn, 1) := by decide +kernel
theorem dX11_cutToast_25 : decode cX11_cutToast 25 = .ok (.aload_n 0, 1) := by decide +kernel
theorem dX11_cutToast_26 : decode cX11_cutToast 26 = .ok (.invokevirtual 210, 3) := by decide +kernel
theorem dX11_cutToast_29 : decode cX11_cutToast 29 = .ok (.aload_n 0, 1) := by decide +kernel
theorem dX11_cutToast_30 : decode cX11_cutToast 30 = .ok (.getfield 25, 3) := by decide +kernel
theorem dX11_cutToast_33 : decode cX11_cutToast 33 = .ok (.bipush 14, 2) := by decide +kernel
theorem dX11_cutToast_35 : decode cX11_cutToast 35 = .ok (.aload_n 0, 1) := by decide +kernel
theorem dX11_cutToast_36 : decode cX11_cutToast 36 = .ok (.getfield 25, 3) := by decide +kernel
theorem dX11_cutToast_39 : decode cX11_cutToast 39 = .ok (.bipush 14, 2) := by decide +kernel
theorem dX11_cutToast_41 : decode cX11_cutToast 41 = .ok (.iaload, 1) := by decide +kernel
theorem dX11_cutToast_42 : decode cX11_cutToast 42 = .ok (.iload_n 1, 1) := by decide +kernel
theorem dX11_cutToast_43 : decode cX11_cutToast 43 = .ok (.iadd, 1) := by decide +kernel
theorem dX11_cutToast_44 : decode cX11_cutToast 44 = .ok (.sipush 999, 3) := by decide +kernel
theorem dX11_cutToast_47 : decode cX11_cutToast 47 = .ok (.if_icmp .ge 15, 3) := by decide +kernel
theorem dX11_cutToast_50 : decode cX11_cutToast 50 = .ok (.aload_n 0, 1) := by decide +kernel
theorem dX11_cutToast_51 : decode cX11_cutToast 51 = .ok (.getfield 25, 3) := by decide +kernel
theorem dX11_cutToast_54 : decode cX11_cutToast 54 = .ok (.bipush 14, 2) := by decide +kernel
theorem dX11_cutToast_56 : decode cX11_cutToast 56 = .ok (.iaload, 1) := by decide +kernel
theorem dX11_cutToast_57 : decode cX11_cutToast 57 = .ok (.iload_n 1, 1) := by decide +kernel
theorem dX11_cutToast_58 : decode cX11_cutToast 58 = .ok (.iadd, 1) := by decide +kernel
theorem dX11_cutToast_59 : decode cX11_cutToast 59 = .ok (.goto 6, 3) := by decide +kernel
theorem dX11_cutToast_62 : decode cX11_cutToast 62 = .ok (.sipush 999, 3) := by decide +kernel
theorem dX11_cutToast_65 : decode cX11_cutToast 65 = .ok (.iastore, 1) := by decide +kernel
theorem dX11_cutToast_66 : decode cX11_cutToast 66 = .ok (.aload_n 0, 1) := by decide +kernel
theorem dX11_cutToast_67 : decode cX11_cutToast 67 = .ok (.getfield 25, 3) := by decide +kernel
theorem dX11_cutToast_70 : decode cX11_cutToast 70 = .ok (.bipush 14, 2) := by decide +kernel
theorem dX11_cutToast_72 : decode cX11_cutToast 72 = .ok (.iaload, 1) := by decide +kernel
theorem dX11_cutToast_73 : decode cX11_cutToast 73 = .ok (.ireturn, 1) := by decide +kernel
theorem dX11_draw_0 : decode cX11_draw 0 = .ok (.aload_n 0, 1) := by decide +kernel
theorem dX11_draw_1 : decode cX11_draw 1 = .ok (.aload_n 0, 1) := by decide +kernel
theorem dX11_draw_2 : decode cX11_draw 2 = .ok (.getfield 231, 3) := by decide +kernel
theorem dX11_draw_5 : decode cX11_draw 5 = .ok (.i2l, 1) := by decide +kernel
theorem dX11_draw_6 : decode cX11_draw 6 = .ok (.ldc2_w 234, 3) := by decide +kernel
theorem dX11_draw_9 : decode cX11_draw 9 = .ok (.lmul, 1) := by decide +kernel
theorem dX11_draw_10 : decode cX11_draw 10 = .ok (.ldc2_w 236, 3) := by decide +kernel
theorem dX11_draw_13 : decode cX11_draw 13 = .ok (.ladd, 1) := by decide +kernel
theorem dX11_draw_14 : decode cX11_draw 14 = .ok (.ldc2_w 238, 3) := by decide +kernel
theorem dX11_draw_17 : decode cX11_draw 17 = .ok (.lrem, 1) := by decide +kernel
theorem dX11_draw_18 : decode cX11_draw 18 = .ok (.l2i, 1) := by decide +kernel
theorem dX11_draw_19 : decode cX11_draw 19 = .ok (.putfield 231, 3) := by decide +kernel
theorem dX11_draw_22 : decode cX11_draw 22 = .ok (.aload_n 0, 1) := by decide +kernel
theorem dX11_draw_23 : decode cX11_draw 23 = .ok (.getfield 231, 3) := by decide +kernel
theorem dX11_draw_26 : decode cX11_draw 26 = .ok (.ldc 240, 2) := by decide +kernel
theorem dX11_draw_28 : decode cX11_draw 28 = .ok (.idiv, 1) := by decide +kernel
theorem dX11_draw_29 : decode cX11_draw 29 = .ok (.iload_n 1, 1) := by decide +kernel
theorem dX11_draw_30 : decode cX11_draw 30 = .ok (.irem, 1) := by decide +kernel
theorem dX11_draw_31 : decode cX11_draw 31 = .ok (.ireturn, 1) := by decide +kernel
set_option maxRecDepth 20000 in
theorem ggX11_chance_X11_draw : GoodIn wsX11_chance wsX11_draw := goodIn_r _ [7, 8, 9, 10, 11, 12, 48, 49, 50, 51, 52, 53, 54, 55, 56, 57, 58, 59, 60, 61, 62, 63, 64, 65, 66, 67, 68, 69, 70, 71, 72, 73, 74, 75, 76, 77, 78, 79, 80, 81, 82, 83, 84, 85, 86, 87] (by decide +kernel) (by decide +kernel)
set_option maxRecDepth 20000 in
theorem gX11_chance_X11_draw : GoodIn wsX11_chance (wsV RX11 241 RX11 yX11_draw wsX11_draw) := goodIn_app (goodIn_of _ (by decide +kernel)) ggX11_chance_X11_draw
set_option maxRecDepth 20000 in
theorem ggX11_chance_X11_canPut : GoodIn wsX11_chance wsX11_canPut := goodIn_r _ [16, 2, 17, 18, 19, 20, 6, 21, 1, 48, 49, 50, 51, 52, 53, 54, 55, 56, 57, 58, 59, 60, 61, 62, 63, 64, 65, 66, 67, 68, 69, 70, 71, 72, 73, 74, 75, 76, 77, 78, 79, 80, 81, 82, 83, 84, 85, 86, 87] (by decide +kernel) (by decide +kernel)
set_option maxRecDepth 20000 in
theorem gX11_chance_X11_canPut : GoodIn wsX11_chance (wsV RX11 219 RX11 yX11_canPut wsX11_canPut) := goodIn_app (goodIn_of _ (by decide +kernel)) ggX11_chance_X11_canPut
set_option maxRecDepth 20000 in
theorem ggX11_chance_X11_canCrown : GoodIn wsX11_chance wsX11_canCrown := goodIn_r _ [25, 2, 26, 27, 28, 6, 29, 1, 48, 49, 50, 51, 52, 53, 54, 55, 56, 57, 58, 59, 60, 61, 62, 63, 64, 65, 66, 67, 68, 69, 70, 71, 72, 73, 74, 75, 76, 77, 78, 79, 80, 81, 82, 83, 84, 85, 86, 87] (by decide +kernel) (by decide +kernel)
set_option maxRecDepth 20000 in
theorem gX11_chance_X11_canCrown : GoodIn wsX11_chance (wsV RX11 222 RX11 yX11_canCrown wsX11_canCrown) := goodIn_app (goodIn_of _ (by decide +kernel)) ggX11_chance_X11_canCrown
set_option maxRecDepth 20000 in
theorem ggX11_chance_X11_crownNow : GoodIn wsX11_chance wsX11_crownNow := goodIn_r _ [33, 2, 34, 35, 36, 6, 37, 38, 39, 40, 41, 42, 43, 44, 45, 46, 47, 48, 49, 50, 51, 52, 53, 54, 55, 56, 57, 58, 59, 60, 61, 62, 63, 64, 65, 66, 67, 68, 69, 70, 71, 72, 73, 74, 75, 76, 77, 78, 79, 80, 81, 82, 83, 84, 85, 86, 87] (by decide +kernel) (by decide +kernel)
set_option maxRecDepth 20000 in
theorem gX11_chance_X11_crownNow : GoodIn wsX11_chance (wsV RX11 225 RX11 yX11_crownNow wsX11_crownNow) := goodIn_app (goodIn_of _ (by decide +kernel)) ggX11_chance_X11_crownNow
theorem dX11_chance_0 : decode cX11_chance 0 = .ok (.aload_n 0, 1) := by decide +kernel
theorem dX11_chance_1 : decode cX11_chance 1 = .ok (.aload_n 0, 1) := by decide +kernel
theorem dX11_chance_2 : decode cX11_chance 2 = .ok (.getfield 93, 3) := by decide +kernel
theorem dX11_chance_5 : decode cX11_chance 5 = .ok (.invokevirtual 241, 3) := by decide +kernel
theorem dX11_chance_8 : decode cX11_chance 8 = .ok (.istore_n 1, 1) := by decide +kernel
theorem dX11_chance_9 : decode cX11_chance 9 = .ok (.aload_n 0, 1) := by decide +kernel
theorem dX11_chance_10 : decode cX11_chance 10 = .ok (.iconst 3, 1) := by decide +kernel
theorem dX11_chance_11 : decode cX11_chance 11 = .ok (.invokevirtual 241, 3) := by decide +kernel
theorem dX11_chance_14 : decode cX11_chance 14 = .ok (.istore_n 2, 1) := by decide +kernel
theorem dX11_chance_15 : decode cX11_chance 15 = .ok (.iload_n 2, 1) := by decide +kernel
theorem dX11_chance_16 : decode cX11_chance 16 = .ok (.ifCond .ne 21, 3) := by decide +kernel
theorem dX11_chance_19 : decode cX11_chance 19 = .ok (.aload_n 0, 1) := by decide +kernel
theorem dX11_chance_20 : decode cX11_chance 20 = .ok (.iload_n 1, 1) := by decide +kernel
theorem dX11_chance_21 : decode cX11_chance 21 = .ok (.invokevirtual 219, 3) := by decide +kernel
theorem dX11_chance_24 : decode cX11_chance 24 = .ok (.ifCond .eq 13, 3) := by decide +kernel
theorem dX11_chance_27 : decode cX11_chance 27 = .ok (.aload_n 0, 1) := by decide +kernel
theorem dX11_chance_28 : decode cX11_chance 28 = .ok (.getfield 25, 3) := by decide +kernel
theorem dX11_chance_31 : decode cX11_chance 31 = .ok (.iload_n 1, 1) := by decide +kernel
theorem dX11_chance_32 : decode cX11_chance 32 = .ok (.iconst 1, 1) := by decide +kernel
theorem dX11_chance_33 : decode cX11_chance 33 = .ok (.iastore, 1) := by decide +kernel
theorem dX11_chance_34 : decode cX11_chance 34 = .ok (.goto 46, 3) := by decide +kernel
theorem dX11_chance_37 : decode cX11_chance 37 = .ok (.iload_n 2, 1) := by decide +kernel
theorem dX11_chance_38 : decode cX11_chance 38 = .ok (.iconst 1, 1) := by decide +kernel
theorem dX11_chance_39 : decode cX11_chance 39 = .ok (.if_icmp .ne 23, 3) := by decide +kernel
theorem dX11_chance_42 : decode cX11_chance 42 = .ok (.aload_n 0, 1) := by decide +kernel
theorem dX11_chance_43 : decode cX11_chance 43 = .ok (.getfield 25, 3) := by decide +kernel
theorem dX11_chance_46 : decode cX11_chance 46 = .ok (.iload_n 1, 1) := by decide +kernel
theorem dX11_chance_47 : decode cX11_chance 47 = .ok (.iaload, 1) := by decide +kernel
theorem dX11_chance_48 : decode cX11_chance 48 = .ok (.iconst 1, 1) := by decide +kernel
theorem dX11_chance_49 : decode cX11_chance 49 = .ok (.if_icmp .ne 13, 3) := by decide +kernel
theorem dX11_chance_52 : decode cX11_chance 52 = .ok (.aload_n 0, 1) := by decide +kernel
theorem dX11_chance_53 : decode cX11_chance 53 = .ok (.getfield 25, 3) := by decide +kernel
theorem dX11_chance_56 : decode cX11_chance 56 = .ok (.iload_n 1, 1) := by decide +kernel
theorem dX11_chance_57 : decode cX11_chance 57 = .ok (.iconst 2, 1) := by decide +kernel
theorem dX11_chance_58 : decode cX11_chance 58 = .ok (.iastore, 1) := by decide +kernel
theorem dX11_chance_59 : decode cX11_chance 59 = .ok (.goto 21, 3) := by decide +kernel
theorem dX11_chance_62 : decode cX11_chance 62 = .ok (.iload_n 2, 1) := by decide +kernel
theorem dX11_chance_63 : decode cX11_chance 63 = .ok (.iconst 2, 1) := by decide +kernel
theorem dX11_chance_64 : decode cX11_chance 64 = .ok (.if_icmp .ne 16, 3) := by decide +kernel
theorem dX11_chance_67 : decode cX11_chance 67 = .ok (.aload_n 0, 1) := by decide +kernel
theorem dX11_chance_68 : decode cX11_chance 68 = .ok (.iload_n 1, 1) := by decide +kernel
theorem dX11_chance_69 : decode cX11_chance 69 = .ok (.invokevirtual 222, 3) := by decide +kernel
theorem dX11_chance_72 : decode cX11_chance 72 = .ok (.ifCond .eq 8, 3) := by decide +kernel
theorem dX11_chance_75 : decode cX11_chance 75 = .ok (.aload_n 0, 1) := by decide +kernel
theorem dX11_chance_76 : decode cX11_chance 76 = .ok (.iload_n 1, 1) := by decide +kernel
theorem dX11_chance_77 : decode cX11_chance 77 = .ok (.invokevirtual 225, 3) := by decide +kernel
theorem dX11_chance_80 : decode cX11_chance 80 = .ok (.return_, 1) := by decide +kernel
set_option maxRecDepth 20000 in
theorem ggX11_drift_X11_minutesRefused : GoodIn wsX11_drift wsX11_minutesRefused := goodIn_r _ [7, 8, 9, 10, 11, 2, 12, 13, 14, 6, 15, 74, 75, 76, 77, 78, 79, 80, 81, 82, 83, 84, 85, 86, 87, 88, 89, 90, 91, 92, 93, 94, 95, 96, 97, 98, 99, 100, 101, 102, 103, 104, 105, 106, 107, 108, 109, 110, 111, 112, 113] (by decide +kernel) (by decide +kernel)
set_option maxRecDepth 20000 in
theorem gX11_drift_X11_minutesRefused : GoodIn wsX11_drift (wsV RX11 207 RX11 yX11_minutesRefused wsX11_minutesRefused) := goodIn_app (goodIn_of _ (by decide +kernel)) ggX11_drift_X11_minutesRefused
set_option maxRecDepth 20000 in
theorem ggX11_drift_X11_remember : GoodIn wsX11_drift wsX11_remember := goodIn_r _ [19, 20, 21, 2, 74, 75, 76, 77, 78, 79, 80, 81, 82, 83, 84, 85, 86, 87, 88, 89, 90, 91, 92, 93, 94, 95, 96, 97, 98, 99, 100, 101, 102, 103, 104, 105, 106, 107, 108, 109, 110, 111, 112, 113] (by decide +kernel) (by decide +kernel)
set_option maxRecDepth 20000 in
theorem gX11_drift_X11_remember : GoodIn wsX11_drift (wsV RX11 210 RX11 yX11_remember wsX11_remember) := goodIn_app (goodIn_of _ (by decide +kernel)) ggX11_drift_X11_remember
set_option maxRecDepth 20000 in
theorem ggX11_drift_X11_chance : GoodIn wsX11_drift wsX11_chance := goodIn_r _ [25, 1, 2, 26, 27, 28, 6, 29, 30, 31, 32, 33, 34, 35, 36, 37, 38, 10, 39, 40, 41, 42, 43, 44, 45, 46, 47, 48, 49, 50, 51, 52, 53, 54, 55, 56, 57, 58, 59, 60, 61, 62, 63, 64, 65, 66, 67, 68, 74, 75, 76, 77, 78, 79, 80, 81, 82, 83, 84, 85, 86, 87, 88, 89, 90, 91, 92, 93, 94, 95, 96, 97, 98, 99, 100, 101, 102, 103, 104, 105, 106, 107, 108, 109, 110, 111, 112, 113] (by decide +kernel) (by decide +kernel)
set_option maxRecDepth 20000 in
theorem gX11_drift_X11_chance : GoodIn wsX11_drift (wsV RX11 244 RX11 yX11_chance wsX11_chance) := goodIn_app (goodIn_of _ (by decide +kernel)) ggX11_drift_X11_chance
set_option maxRecDepth 20000 in
theorem ggX11_drift_X11_pass : GoodIn wsX11_drift wsX11_pass := goodIn_r _ [72, 1, 2, 73, 47, 48, 49, 6, 50, 74, 75, 76, 77, 78, 79, 80, 81, 82, 83, 84, 85, 86, 87, 88, 89, 90, 91, 92, 93, 94, 95, 96, 97, 98, 99, 100, 101, 102, 103, 104, 105, 106, 107, 108, 109, 110, 111, 112, 113] (by decide +kernel) (by decide +kernel)
set_option maxRecDepth 20000 in
theorem gX11_drift_X11_pass : GoodIn wsX11_drift (wsV RX11 213 RX11 yX11_pass wsX11_pass) := goodIn_app (goodIn_of _ (by decide +kernel)) ggX11_drift_X11_pass
theorem dX11_drift_0 : decode cX11_drift 0 = .ok (.aload_n 0, 1) := by decide +kernel
theorem dX11_drift_1 : decode cX11_drift 1 = .ok (.iload_n 1, 1) := by decide +kernel
theorem dX11_drift_2 : decode cX11_drift 2 = .ok (.invokevirtual 207, 3) := by decide +kernel
theorem dX11_drift_5 : decode cX11_drift 5 = .ok (.istore_n 2, 1) := by decide +kernel
theorem dX11_drift_6 : decode cX11_drift 6 = .ok (.iload_n 2, 1) := by decide +kernel
theorem dX11_drift_7 : decode cX11_drift 7 = .ok (.ifCond .eq 5, 3) := by decide +kernel
theorem dX11_drift_10 : decode cX11_drift 10 = .ok (.iload_n 2, 1) := by decide +kernel
theorem dX11_drift_11 : decode cX11_drift 11 = .ok (.ireturn, 1) := by decide +kernel
theorem dX11_drift_12 : decode cX11_drift 12 = .ok (.aload_n 0, 1) := by decide +kernel
theorem dX11_drift_13 : decode cX11_drift 13 = .ok (.invokevirtual 210, 3) := by decide +kernel
theorem dX11_drift_16 : decode cX11_drift 16 = .ok (.iconst 0, 1) := by decide +kernel
theorem dX11_drift_17 : decode cX11_drift 17 = .ok (.istore_n 3, 1) := by decide +kernel
theorem dX11_drift_18 : decode cX11_drift 18 = .ok (.iload_n 3, 1) := by decide +kernel
theorem dX11_drift_19 : decode cX11_drift 19 = .ok (.iload_n 1, 1) := by decide +kernel
theorem dX11_drift_20 : decode cX11_drift 20 = .ok (.if_icmp .ge 24, 3) := by decide +kernel
theorem dX11_drift_23 : decode cX11_drift 23 = .ok (.aload_n 0, 1) := by decide +kernel
theorem dX11_drift_24 : decode cX11_drift 24 = .ok (.getfield 93, 3) := by decide +kernel
theorem dX11_drift_27 : decode cX11_drift 27 = .ok (.ifCond .le 7, 3) := by decide +kernel
theorem dX11_drift_30 : decode cX11_drift 30 = .ok (.aload_n 0, 1) := by decide +kernel
theorem dX11_drift_31 : decode cX11_drift 31 = .ok (.invokevirtual 244, 3) := by decide +kernel
theorem dX11_drift_34 : decode cX11_drift 34 = .ok (.aload_n 0, 1) := by decide +kernel
theorem dX11_drift_35 : decode cX11_drift 35 = .ok (.invokevirtual 213, 3) := by decide +kernel
theorem dX11_drift_38 : decode cX11_drift 38 = .ok (.iinc 3 1, 3) := by decide +kernel
theorem dX11_drift_41 : decode cX11_drift 41 = .ok (.goto (-23), 3) := by decide +kernel
theorem dX11_drift_44 : decode cX11_drift 44 = .ok (.aload_n 0, 1) := by decide +kernel
theorem dX11_drift_45 : decode cX11_drift 45 = .ok (.getfield 25, 3) := by decide +kernel
theorem dX11_drift_48 : decode cX11_drift 48 = .ok (.bipush 17, 2) := by decide +kernel
theorem dX11_drift_50 : decode cX11_drift 50 = .ok (.iaload, 1) := by decide +kernel
theorem dX11_drift_51 : decode cX11_drift 51 = .ok (.ireturn, 1) := by decide +kernel
theorem dX11_undo_0 : decode cX11_undo 0 = .ok (.aload_n 0, 1) := by decide +kernel
theorem dX11_undo_1 : decode cX11_undo 1 = .ok (.getfield 168, 3) := by decide +kernel
theorem dX11_undo_4 : decode cX11_undo 4 = .ok (.ifCond .ne 6, 3) := by decide +kernel
theorem dX11_undo_7 : decode cX11_undo 7 = .ok (.ldc 206, 2) := by decide +kernel
theorem dX11_undo_9 : decode cX11_undo 9 = .ok (.ireturn, 1) := by decide +kernel
theorem dX11_undo_10 : decode cX11_undo 10 = .ok (.aload_n 0, 1) := by decide +kernel
theorem dX11_undo_11 : decode cX11_undo 11 = .ok (.dup, 1) := by decide +kernel
theorem dX11_undo_12 : decode cX11_undo 12 = .ok (.getfield 168, 3) := by decide +kernel
theorem dX11_undo_15 : decode cX11_undo 15 = .ok (.iconst 1, 1) := by decide +kernel
theorem dX11_undo_16 : decode cX11_undo 16 = .ok (.isub, 1) := by decide +kernel
theorem dX11_undo_17 : decode cX11_undo 17 = .ok (.putfield 168, 3) := by decide +kernel
theorem dX11_undo_20 : decode cX11_undo 20 = .ok (.iconst 0, 1) := by decide +kernel
theorem dX11_undo_21 : decode cX11_undo 21 = .ok (.istore_n 1, 1) := by decide +kernel
theorem dX11_undo_22 : decode cX11_undo 22 = .ok (.iload_n 1, 1) := by decide +kernel
theorem dX11_undo_23 : decode cX11_undo 23 = .ok (.bipush 19, 2) := by decide +kernel
theorem dX11_undo_25 : decode cX11_undo 25 = .ok (.if_icmp .ge 29, 3) := by decide +kernel
theorem dX11_undo_28 : decode cX11_undo 28 = .ok (.aload_n 0, 1) := by decide +kernel
theorem dX11_undo_29 : decode cX11_undo 29 = .ok (.getfield 25, 3) := by decide +kernel
theorem dX11_undo_32 : decode cX11_undo 32 = .ok (.iload_n 1, 1) := by decide +kernel
theorem dX11_undo_33 : decode cX11_undo 33 = .ok (.aload_n 0, 1) := by decide +kernel
theorem dX11_undo_34 : decode cX11_undo 34 = .ok (.getfield 50, 3) := by decide +kernel
theorem dX11_undo_37 : decode cX11_undo 37 = .ok (.bipush 19, 2) := by decide +kernel
theorem dX11_undo_39 : decode cX11_undo 39 = .ok (.aload_n 0, 1) := by decide +kernel
theorem dX11_undo_40 : decode cX11_undo 40 = .ok (.getfield 168, 3) := by decide +kernel
theorem dX11_undo_43 : decode cX11_undo 43 = .ok (.imul, 1) := by decide +kernel
theorem dX11_undo_44 : decode cX11_undo 44 = .ok (.iload_n 1, 1) := by decide +kernel
theorem dX11_undo_45 : decode cX11_undo 45 = .ok (.iadd, 1) := by decide +kernel
theorem dX11_undo_46 : decode cX11_undo 46 = .ok (.iaload, 1) := by decide +kernel
theorem dX11_undo_47 : decode cX11_undo 47 = .ok (.iastore, 1) := by decide +kernel
theorem dX11_undo_48 : decode cX11_undo 48 = .ok (.iinc 1 1, 3) := by decide +kernel
theorem dX11_undo_51 : decode cX11_undo 51 = .ok (.goto (-29), 3) := by decide +kernel
theorem dX11_undo_54 : decode cX11_undo 54 = .ok (.aload_n 0, 1) := by decide +kernel
theorem dX11_undo_55 : decode cX11_undo 55 = .ok (.getfield 168, 3) := by decide +kernel
theorem dX11_undo_58 : decode cX11_undo 58 = .ok (.ireturn, 1) := by decide +kernel
set_option maxRecDepth 20000 in
theorem ggX11_wish_X11_isEgg : GoodIn wsX11_wish wsX11_isEgg := goodIn_r _ [9, 10, 11, 12, 8, 13, 14, 15, 16, 17, 18, 19, 20, 21, 22, 23, 24, 25, 26, 27, 28, 29, 30, 31, 32, 33, 34, 35, 36, 37, 38, 39, 40, 41, 42, 43, 44, 45, 46, 47, 48, 49, 50, 51, 52, 53] (by decide +kernel) (by decide +kernel)
set_option maxRecDepth 20000 in
theorem gX11_wish_X11_isEgg : GoodIn wsX11_wish (wsV RX11 196 RX11 yX11_isEgg wsX11_isEgg) := goodIn_app (goodIn_of _ (by decide +kernel)) ggX11_wish_X11_isEgg
set_option maxRecDepth 20000 in
theorem ggX11_wish_X11_in : GoodIn wsX11_wish wsX11_in := goodIn_r _ [13] (by decide +kernel) (by decide +kernel)
set_option maxRecDepth 20000 in
theorem gX11_wish_X11_in : GoodIn wsX11_wish (va_wsS RX11 96 yX11_in wsX11_in) := goodIn_app (goodIn_of _ (by decide +kernel)) ggX11_wish_X11_in
theorem dX11_wish_0 : decode cX11_wish 0 = .ok (.aload_n 0, 1) := by decide +kernel
theorem dX11_wish_1 : decode cX11_wish 1 = .ok (.iload_n 1, 1) := by decide +kernel
theorem dX11_wish_2 : decode cX11_wish 2 = .ok (.invokevirtual 196, 3) := by decide +kernel
theorem dX11_wish_5 : decode cX11_wish 5 = .ok (.ifCond .ne 6, 3) := by decide +kernel
theorem dX11_wish_8 : decode cX11_wish 8 = .ok (.ldc 200, 2) := by decide +kernel
theorem dX11_wish_10 : decode cX11_wish 10 = .ok (.ireturn, 1) := by decide +kernel
theorem dX11_wish_11 : decode cX11_wish 11 = .ok (.iload_n 2, 1) := by decide +kernel
theorem dX11_wish_12 : decode cX11_wish 12 = .ok (.i2l, 1) := by decide +kernel
theorem dX11_wish_13 : decode cX11_wish 13 = .ok (.lconst 1, 1) := by decide +kernel
theorem dX11_wish_14 : decode cX11_wish 14 = .ok (.aload_n 0, 1) := by decide +kernel
theorem dX11_wish_15 : decode cX11_wish 15 = .ok (.getfield 153, 3) := by decide +kernel
theorem dX11_wish_18 : decode cX11_wish 18 = .ok (.i2l, 1) := by decide +kernel
theorem dX11_wish_19 : decode cX11_wish 19 = .ok (.invokestatic 96, 3) := by decide +kernel
theorem dX11_wish_22 : decode cX11_wish 22 = .ok (.ifCond .ne 6, 3) := by decide +kernel
theorem dX11_wish_25 : decode cX11_wish 25 = .ok (.ldc 105, 2) := by decide +kernel
theorem dX11_wish_27 : decode cX11_wish 27 = .ok (.ireturn, 1) := by decide +kernel
theorem dX11_wish_28 : decode cX11_wish 28 = .ok (.aload_n 0, 1) := by decide +kernel
theorem dX11_wish_29 : decode cX11_wish 29 = .ok (.getfield 22, 3) := by decide +kernel
theorem dX11_wish_32 : decode cX11_wish 32 = .ok (.iload_n 1, 1) := by decide +kernel
theorem dX11_wish_33 : decode cX11_wish 33 = .ok (.iaload, 1) := by decide +kernel
theorem dX11_wish_34 : decode cX11_wish 34 = .ok (.istore_n 3, 1) := by decide +kernel
theorem dX11_wish_35 : decode cX11_wish 35 = .ok (.aload_n 0, 1) := by decide +kernel
theorem dX11_wish_36 : decode cX11_wish 36 = .ok (.getfield 22, 3) := by decide +kernel
theorem dX11_wish_39 : decode cX11_wish 39 = .ok (.iload_n 1, 1) := by decide +kernel
theorem dX11_wish_40 : decode cX11_wish 40 = .ok (.iload_n 2, 1) := by decide +kernel
theorem dX11_wish_41 : decode cX11_wish 41 = .ok (.iastore, 1) := by decide +kernel
theorem dX11_wish_42 : decode cX11_wish 42 = .ok (.iload_n 3, 1) := by decide +kernel
theorem dX11_wish_43 : decode cX11_wish 43 = .ok (.ireturn, 1) := by decide +kernel
set_option maxRecDepth 20000 in
theorem ggX11_needs_X11_isEgg : GoodIn wsX11_needs wsX11_isEgg := goodIn_r _ [9, 10, 11, 12, 8, 13, 24, 25, 26, 27, 28, 29, 30, 31, 32, 33, 34, 35, 36, 37, 38, 39, 40, 41, 42, 43, 44, 45, 46, 47, 48, 49, 50, 51, 52, 53, 54, 55, 56, 57, 58, 59, 60, 61, 62, 63] (by decide +kernel) (by decide +kernel)
set_option maxRecDepth 20000 in
theorem gX11_needs_X11_isEgg : GoodIn wsX11_needs (wsV RX11 196 RX11 yX11_isEgg wsX11_isEgg) := goodIn_app (goodIn_of _ (by decide +kernel)) ggX11_needs_X11_isEgg
set_option maxRecDepth 20000 in
theorem ggX11_needs_X11_in : GoodIn wsX11_needs wsX11_in := goodIn_r _ [13] (by decide +kernel) (by decide +kernel)
set_option maxRecDepth 20000 in
theorem gX11_needs_X11_in : GoodIn wsX11_needs (va_wsS RX11 96 yX11_in wsX11_in) := goodIn_app (goodIn_of _ (by decide +kernel)) ggX11_needs_X11_in
set_option maxRecDepth 20000 in
theorem ggX11_needs_X11_reignBy : GoodIn wsX11_needs wsX11_reignBy := goodIn_r _ [17, 18, 19, 20, 21, 8, 22, 23, 24, 25, 26, 27, 28, 29, 30, 31, 32, 33, 34, 35, 36, 37, 38, 39, 40, 41, 42, 43, 44, 45, 46, 47, 48, 49, 50, 51, 52, 53, 54, 55, 56, 57, 58, 59, 60, 61, 62, 63] (by decide +kernel) (by decide +kernel)
set_option maxRecDepth 20000 in
theorem gX11_needs_X11_reignBy : GoodIn wsX11_needs (wsV RX11 174 RX11 yX11_reignBy wsX11_reignBy) := goodIn_app (goodIn_of _ (by decide +kernel)) ggX11_needs_X11_reignBy
theorem dX11_needs_0 : decode cX11_needs 0 = .ok (.aload_n 0, 1) := by decide +kernel
theorem dX11_needs_1 : decode cX11_needs 1 = .ok (.iload_n 1, 1) := by decide +kernel
theorem dX11_needs_2 : decode cX11_needs 2 = .ok (.invokevirtual 196, 3) := by decide +kernel
theorem dX11_needs_5 : decode cX11_needs 5 = .ok (.ifCond .ne 6, 3) := by decide +kernel
theorem dX11_needs_8 : decode cX11_needs 8 = .ok (.ldc 200, 2) := by decide +kernel
theorem dX11_needs_10 : decode cX11_needs 10 = .ok (.ireturn, 1) := by decide +kernel
theorem dX11_needs_11 : decode cX11_needs 11 = .ok (.iload_n 2, 1) := by decide +kernel
theorem dX11_needs_12 : decode cX11_needs 12 = .ok (.i2l, 1) := by decide +kernel
theorem dX11_needs_13 : decode cX11_needs 13 = .ok (.lconst 1, 1) := by decide +kernel
theorem dX11_needs_14 : decode cX11_needs 14 = .ok (.ldc2_w 229, 3) := by decide +kernel
theorem dX11_needs_17 : decode cX11_needs 17 = .ok (.invokestatic 96, 3) := by decide +kernel
theorem dX11_needs_20 : decode cX11_needs 20 = .ok (.ifCond .ne 6, 3) := by decide +kernel
theorem dX11_needs_23 : decode cX11_needs 23 = .ok (.ldc 105, 2) := by decide +kernel
theorem dX11_needs_25 : decode cX11_needs 25 = .ok (.ireturn, 1) := by decide +kernel
theorem dX11_needs_26 : decode cX11_needs 26 = .ok (.iconst 0, 1) := by decide +kernel
theorem dX11_needs_27 : decode cX11_needs 27 = .ok (.istore_n 3, 1) := by decide +kernel
theorem dX11_needs_28 : decode cX11_needs 28 = .ok (.iload_n 3, 1) := by decide +kernel
theorem dX11_needs_29 : decode cX11_needs 29 = .ok (.aload_n 0, 1) := by decide +kernel
theorem dX11_needs_30 : decode cX11_needs 30 = .ok (.getfield 153, 3) := by decide +kernel
theorem dX11_needs_33 : decode cX11_needs 33 = .ok (.if_icmp .gt 21, 3) := by decide +kernel
theorem dX11_needs_36 : decode cX11_needs 36 = .ok (.aload_n 0, 1) := by decide +kernel
theorem dX11_needs_37 : decode cX11_needs 37 = .ok (.iload_n 1, 1) := by decide +kernel
theorem dX11_needs_38 : decode cX11_needs 38 = .ok (.iload_n 3, 1) := by decide +kernel
theorem dX11_needs_39 : decode cX11_needs 39 = .ok (.invokevirtual 174, 3) := by decide +kernel
theorem dX11_needs_42 : decode cX11_needs 42 = .ok (.iload_n 2, 1) := by decide +kernel
theorem dX11_needs_43 : decode cX11_needs 43 = .ok (.if_icmp .lt 5, 3) := by decide +kernel
theorem dX11_needs_46 : decode cX11_needs 46 = .ok (.iload_n 3, 1) := by decide +kernel
theorem dX11_needs_47 : decode cX11_needs 47 = .ok (.ireturn, 1) := by decide +kernel
theorem dX11_needs_48 : decode cX11_needs 48 = .ok (.iinc 3 1, 3) := by decide +kernel
theorem dX11_needs_51 : decode cX11_needs 51 = .ok (.goto (-23), 3) := by decide +kernel
theorem dX11_needs_54 : decode cX11_needs 54 = .ok (.iconst (-1), 1) := by decide +kernel
theorem dX11_needs_55 : decode cX11_needs 55 = .ok (.ireturn, 1) := by decide +kernel
set_option maxRecDepth 20000 in
theorem ggX11_placeBy_X11_has : GoodIn wsX11_placeBy wsX11_has := goodIn_r _ [10] (by decide +kernel) (by decide +kernel)
set_option maxRecDepth 20000 in
theorem gX11_placeBy_X11_has : GoodIn wsX11_placeBy (va_wsS RX11 247 yX11_has wsX11_has) := goodIn_app (goodIn_of _ (by decide +kernel)) ggX11_placeBy_X11_has
theorem dX11_placeBy_0 : decode cX11_placeBy 0 = .ok (.iload_n 1, 1) := by decide +kernel
theorem dX11_placeBy_1 : decode cX11_placeBy 1 = .ok (.istore_n 3, 1) := by decide +kernel
theorem dX11_placeBy_2 : decode cX11_placeBy 2 = .ok (.iconst 0, 1) := by decide +kernel
theorem dX11_placeBy_3 : decode cX11_placeBy 3 = .ok (.istore 4, 2) := by decide +kernel
theorem dX11_placeBy_5 : decode cX11_placeBy 5 = .ok (.iconst 0, 1) := by decide +kernel
theorem dX11_placeBy_6 : decode cX11_placeBy 6 = .ok (.istore 5, 2) := by decide +kernel
theorem dX11_placeBy_8 : decode cX11_placeBy 8 = .ok (.iload 5, 2) := by decide +kernel
theorem dX11_placeBy_10 : decode cX11_placeBy 10 = .ok (.iconst 3, 1) := by decide +kernel
theorem dX11_placeBy_11 : decode cX11_placeBy 11 = .ok (.if_icmp .ge 17, 3) := by decide +kernel
theorem dX11_placeBy_14 : decode cX11_placeBy 14 = .ok (.aload_n 0, 1) := by decide +kernel
theorem dX11_placeBy_15 : decode cX11_placeBy 15 = .ok (.getfield 59, 3) := by decide +kernel
theorem dX11_placeBy_18 : decode cX11_placeBy 18 = .ok (.iload 5, 2) := by decide +kernel
theorem dX11_placeBy_20 : decode cX11_placeBy 20 = .ok (.iconst 0, 1) := by decide +kernel
theorem dX11_placeBy_21 : decode cX11_placeBy 21 = .ok (.iastore, 1) := by decide +kernel
theorem dX11_placeBy_22 : decode cX11_placeBy 22 = .ok (.iinc 5 1, 3) := by decide +kernel
theorem dX11_placeBy_25 : decode cX11_placeBy 25 = .ok (.goto (-17), 3) := by decide +kernel
theorem dX11_placeBy_28 : decode cX11_placeBy 28 = .ok (.aload_n 0, 1) := by decide +kernel
theorem dX11_placeBy_29 : decode cX11_placeBy 29 = .ok (.getfield 93, 3) := by decide +kernel
theorem dX11_placeBy_32 : decode cX11_placeBy 32 = .ok (.iconst 1, 1) := by decide +kernel
theorem dX11_placeBy_33 : decode cX11_placeBy 33 = .ok (.isub, 1) := by decide +kernel
theorem dX11_placeBy_34 : decode cX11_placeBy 34 = .ok (.istore 5, 2) := by decide +kernel
theorem dX11_placeBy_36 : decode cX11_placeBy 36 = .ok (.iload 5, 2) := by decide +kernel
theorem dX11_placeBy_38 : decode cX11_placeBy 38 = .ok (.ifCond .lt 94, 3) := by decide +kernel
theorem dX11_placeBy_41 : decode cX11_placeBy 41 = .ok (.aload_n 0, 1) := by decide +kernel
theorem dX11_placeBy_42 : decode cX11_placeBy 42 = .ok (.getfield 53, 3) := by decide +kernel
theorem dX11_placeBy_45 : decode cX11_placeBy 45 = .ok (.iload 5, 2) := by decide +kernel
theorem dX11_placeBy_47 : decode cX11_placeBy 47 = .ok (.iload_n 3, 1) := by decide +kernel
theorem dX11_placeBy_48 : decode cX11_placeBy 48 = .ok (.iconst 3, 1) := by decide +kernel
theorem dX11_placeBy_49 : decode cX11_placeBy 49 = .ok (.irem, 1) := by decide +kernel
theorem dX11_placeBy_50 : decode cX11_placeBy 50 = .ok (.iastore, 1) := by decide +kernel
theorem dX11_placeBy_51 : decode cX11_placeBy 51 = .ok (.iload_n 3, 1) := by decide +kernel
theorem dX11_placeBy_52 : decode cX11_placeBy 52 = .ok (.iconst 3, 1) := by decide +kernel
theorem dX11_placeBy_53 : decode cX11_placeBy 53 = .ok (.idiv, 1) := by decide +kernel
theorem dX11_placeBy_54 : decode cX11_placeBy 54 = .ok (.istore_n 3, 1) := by decide +kernel
theorem dX11_placeBy_55 : decode cX11_placeBy 55 = .ok (.aload_n 0, 1) := by decide +kernel
theorem dX11_placeBy_56 : decode cX11_placeBy 56 = .ok (.getfield 53, 3) := by decide +kernel
theorem dX11_placeBy_59 : decode cX11_placeBy 59 = .ok (.iload 5, 2) := by decide +kernel
theorem dX11_placeBy_61 : decode cX11_placeBy 61 = .ok (.iaload, 1) := by decide +kernel
theorem dX11_placeBy_62 : decode cX11_placeBy 62 = .ok (.aload_n 0, 1) := by decide +kernel
theorem dX11_placeBy_63 : decode cX11_placeBy 63 = .ok (.getfield 90, 3) := by decide +kernel
theorem dX11_placeBy_66 : decode cX11_placeBy 66 = .ok (.if_icmp .ge 22, 3) := by decide +kernel
theorem dX11_placeBy_69 : decode cX11_placeBy 69 = .ok (.iload_n 2, 1) := by decide +kernel
theorem dX11_placeBy_70 : decode cX11_placeBy 70 = .ok (.iload 5, 2) := by decide +kernel
theorem dX11_placeBy_72 : decode cX11_placeBy 72 = .ok (.invokestatic 247, 3) := by decide +kernel
theorem dX11_placeBy_75 : decode cX11_placeBy 75 = .ok (.ifCond .ne 16, 3) := by decide +kernel
theorem dX11_placeBy_78 : decode cX11_placeBy 78 = .ok (.aload_n 0, 1) := by decide +kernel
theorem dX11_placeBy_79 : decode cX11_placeBy 79 = .ok (.getfield 53, 3) := by decide +kernel
theorem dX11_placeBy_82 : decode cX11_placeBy 82 = .ok (.iload 5, 2) := by decide +kernel
theorem dX11_placeBy_84 : decode cX11_placeBy 84 = .ok (.iaload, 1) := by decide +kernel
theorem dX11_placeBy_85 : decode cX11_placeBy 85 = .ok (.ifCond .le 6, 3) := by decide +kernel
theorem dX11_placeBy_88 : decode cX11_placeBy 88 = .ok (.ldc 251, 2) := by decide +kernel
theorem dX11_placeBy_90 : decode cX11_placeBy 90 = .ok (.ireturn, 1) := by decide +kernel
theorem dX11_placeBy_91 : decode cX11_placeBy 91 = .ok (.aload_n 0, 1) := by decide +kernel
theorem dX11_placeBy_92 : decode cX11_placeBy 92 = .ok (.getfield 59, 3) := by decide +kernel
theorem dX11_placeBy_95 : decode cX11_placeBy 95 = .ok (.aload_n 0, 1) := by decide +kernel
theorem dX11_placeBy_96 : decode cX11_placeBy 96 = .ok (.getfield 53, 3) := by decide +kernel
theorem dX11_placeBy_99 : decode cX11_placeBy 99 = .ok (.iload 5, 2) := by decide +kernel
theorem dX11_placeBy_101 : decode cX11_placeBy 101 = .ok (.iaload, 1) := by decide +kernel
theorem dX11_placeBy_102 : decode cX11_placeBy 102 = .ok (.dup2, 1) := by decide +kernel
theorem dX11_placeBy_103 : decode cX11_placeBy 103 = .ok (.iaload, 1) := by decide +kernel
theorem dX11_placeBy_104 : decode cX11_placeBy 104 = .ok (.iload_n 2, 1) := by decide +kernel
theorem dX11_placeBy_105 : decode cX11_placeBy 105 = .ok (.iload 5, 2) := by decide +kernel
theorem dX11_placeBy_107 : decode cX11_placeBy 107 = .ok (.invokestatic 247, 3) := by decide +kernel
theorem dX11_placeBy_110 : decode cX11_placeBy 110 = .ok (.ifCond .eq 13, 3) := by decide +kernel
theorem dX11_placeBy_113 : decode cX11_placeBy 113 = .ok (.aload_n 0, 1) := by decide +kernel
theorem dX11_placeBy_114 : decode cX11_placeBy 114 = .ok (.getfield 22, 3) := by decide +kernel
theorem dX11_placeBy_117 : decode cX11_placeBy 117 = .ok (.iload 5, 2) := by decide +kernel
theorem dX11_placeBy_119 : decode cX11_placeBy 119 = .ok (.iaload, 1) := by decide +kernel
theorem dX11_placeBy_120 : decode cX11_placeBy 120 = .ok (.goto 4, 3) := by decide +kernel
theorem dX11_placeBy_123 : decode cX11_placeBy 123 = .ok (.iconst 0, 1) := by decide +kernel
theorem dX11_placeBy_124 : decode cX11_placeBy 124 = .ok (.iadd, 1) := by decide +kernel
theorem dX11_placeBy_125 : decode cX11_placeBy 125 = .ok (.iastore, 1) := by decide +kernel
theorem dX11_placeBy_126 : decode cX11_placeBy 126 = .ok (.iinc 5 (-1), 3) := by decide +kernel
theorem dX11_placeBy_129 : decode cX11_placeBy 129 = .ok (.goto (-93), 3) := by decide +kernel
theorem dX11_placeBy_132 : decode cX11_placeBy 132 = .ok (.iconst 0, 1) := by decide +kernel
theorem dX11_placeBy_133 : decode cX11_placeBy 133 = .ok (.istore 5, 2) := by decide +kernel
theorem dX11_placeBy_135 : decode cX11_placeBy 135 = .ok (.iload 5, 2) := by decide +kernel
theorem dX11_placeBy_137 : decode cX11_placeBy 137 = .ok (.iconst 3, 1) := by decide +kernel
theorem dX11_placeBy_138 : decode cX11_placeBy 138 = .ok (.if_icmp .ge 35, 3) := by decide +kernel
theorem dX11_placeBy_141 : decode cX11_placeBy 141 = .ok (.aload_n 0, 1) := by decide +kernel
theorem dX11_placeBy_142 : decode cX11_placeBy 142 = .ok (.getfield 59, 3) := by decide +kernel
theorem dX11_placeBy_145 : decode cX11_placeBy 145 = .ok (.iload 5, 2) := by decide +kernel
theorem dX11_placeBy_147 : decode cX11_placeBy 147 = .ok (.iaload, 1) := by decide +kernel
theorem dX11_placeBy_148 : decode cX11_placeBy 148 = .ok (.iload 4, 2) := by decide +kernel
theorem dX11_placeBy_150 : decode cX11_placeBy 150 = .ok (.if_icmp .le 13, 3) := by decide +kernel
theorem dX11_placeBy_153 : decode cX11_placeBy 153 = .ok (.aload_n 0, 1) := by decide +kernel
theorem dX11_placeBy_154 : decode cX11_placeBy 154 = .ok (.getfield 59, 3) := by decide +kernel
theorem dX11_placeBy_157 : decode cX11_placeBy 157 = .ok (.iload 5, 2) := by decide +kernel
theorem dX11_placeBy_159 : decode cX11_placeBy 159 = .ok (.iaload, 1) := by decide +kernel
theorem dX11_placeBy_160 : decode cX11_placeBy 160 = .ok (.goto 5, 3) := by decide +kernel
theorem dX11_placeBy_163 : decode cX11_placeBy 163 = .ok (.iload 4, 2) := by decide +kernel
theorem dX11_placeBy_165 : decode cX11_placeBy 165 = .ok (.istore 4, 2) := by decide +kernel
theorem dX11_placeBy_167 : decode cX11_placeBy 167 = .ok (.iinc 5 1, 3) := by decide +kernel
theorem dX11_placeBy_170 : decode cX11_placeBy 170 = .ok (.goto (-35), 3) := by decide +kernel
theorem dX11_placeBy_173 : decode cX11_placeBy 173 = .ok (.iload 4, 2) := by decide +kernel
theorem dX11_placeBy_175 : decode cX11_placeBy 175 = .ok (.ireturn, 1) := by decide +kernel
set_option maxRecDepth 20000 in
theorem ggX11_allBoiled_X11_in : GoodIn wsX11_allBoiled wsX11_in := goodIn_r _ [11] (by decide +kernel) (by decide +kernel)
set_option maxRecDepth 20000 in
theorem gX11_allBoiled_X11_in : GoodIn wsX11_allBoiled (va_wsS RX11 96 yX11_in wsX11_in) := goodIn_app (goodIn_of _ (by decide +kernel)) ggX11_allBoiled_X11_in
set_option maxRecDepth 20000 in
theorem ggX11_allBoiled_X11_isEgg : GoodIn wsX11_allBoiled wsX11_isEgg := goodIn_r _ [15, 1, 8, 9, 10, 11, 25, 26, 27, 28, 29, 30, 31, 32, 33, 34, 35, 36, 37, 38, 39, 40, 41, 42, 43, 44, 45, 46, 47, 48, 49, 50, 51, 52, 53, 54, 55, 56, 57, 58, 59, 60, 61, 62, 63, 64] (by decide +kernel) (by decide +kernel)
set_option maxRecDepth 20000 in
theorem gX11_allBoiled_X11_isEgg : GoodIn wsX11_allBoiled (wsV RX11 196 RX11 yX11_isEgg wsX11_isEgg) := goodIn_app (goodIn_of _ (by decide +kernel)) ggX11_allBoiled_X11_isEgg
set_option maxRecDepth 20000 in
theorem ggX11_allBoiled_X11_placeBy : GoodIn wsX11_allBoiled wsX11_placeBy := goodIn_r _ [19, 20, 1, 7, 3, 5, 21, 22, 23, 10, 24, 25, 26, 27, 28, 29, 30, 31, 32, 33, 34, 35, 36, 37, 38, 39, 40, 41, 42, 43, 44, 45, 46, 47, 48, 49, 50, 51, 52, 53, 54, 55, 56, 57, 58, 59, 60, 61, 62, 63, 64] (by decide +kernel) (by decide +kernel)
set_option maxRecDepth 20000 in
theorem gX11_allBoiled_X11_placeBy : GoodIn wsX11_allBoiled (wsV RX11 252 RX11 yX11_placeBy wsX11_placeBy) := goodIn_app (goodIn_of _ (by decide +kernel)) ggX11_allBoiled_X11_placeBy
set_option maxRecDepth 20000 in
theorem ggX11_allBoiled_X11_has : GoodIn wsX11_allBoiled wsX11_has := goodIn_r _ [24] (by decide +kernel) (by decide +kernel)
set_option maxRecDepth 20000 in
theorem gX11_allBoiled_X11_has : GoodIn wsX11_allBoiled (va_wsS RX11 247 yX11_has wsX11_has) := goodIn_app (goodIn_of _ (by decide +kernel)) ggX11_allBoiled_X11_has
theorem dX11_allBoiled_0 : decode cX11_allBoiled 0 = .ok (.iload_n 1, 1) := by decide +kernel
theorem dX11_allBoiled_1 : decode cX11_allBoiled 1 = .ok (.i2l, 1) := by decide +kernel
theorem dX11_allBoiled_2 : decode cX11_allBoiled 2 = .ok (.lconst 0, 1) := by decide +kernel
theorem dX11_allBoiled_3 : decode cX11_allBoiled 3 = .ok (.iconst 1, 1) := by decide +kernel
theorem dX11_allBoiled_4 : decode cX11_allBoiled 4 = .ok (.aload_n 0, 1) := by decide +kernel
theorem dX11_allBoiled_5 : decode cX11_allBoiled 5 = .ok (.getfield 93, 3) := by decide +kernel
theorem dX11_allBoiled_8 : decode cX11_allBoiled 8 = .ok (.ishl, 1) := by decide +kernel
theorem dX11_allBoiled_9 : decode cX11_allBoiled 9 = .ok (.iconst 1, 1) := by decide +kernel
theorem dX11_allBoiled_10 : decode cX11_allBoiled 10 = .ok (.isub, 1) := by decide +kernel
theorem dX11_allBoiled_11 : decode cX11_allBoiled 11 = .ok (.i2l, 1) := by decide +kernel
theorem dX11_allBoiled_12 : decode cX11_allBoiled 12 = .ok (.invokestatic 96, 3) := by decide +kernel
theorem dX11_allBoiled_15 : decode cX11_allBoiled 15 = .ok (.ifCond .eq 16, 3) := by decide +kernel
theorem dX11_allBoiled_18 : decode cX11_allBoiled 18 = .ok (.iload_n 2, 1) := by decide +kernel
theorem dX11_allBoiled_19 : decode cX11_allBoiled 19 = .ok (.iconst (-1), 1) := by decide +kernel
theorem dX11_allBoiled_20 : decode cX11_allBoiled 20 = .ok (.if_icmp .eq 14, 3) := by decide +kernel
theorem dX11_allBoiled_23 : decode cX11_allBoiled 23 = .ok (.aload_n 0, 1) := by decide +kernel
theorem dX11_allBoiled_24 : decode cX11_allBoiled 24 = .ok (.iload_n 2, 1) := by decide +kernel
theorem dX11_allBoiled_25 : decode cX11_allBoiled 25 = .ok (.invokevirtual 196, 3) := by decide +kernel
theorem dX11_allBoiled_28 : decode cX11_allBoiled 28 = .ok (.ifCond .ne 6, 3) := by decide +kernel
theorem dX11_allBoiled_31 : decode cX11_allBoiled 31 = .ok (.ldc 200, 2) := by decide +kernel
theorem dX11_allBoiled_33 : decode cX11_allBoiled 33 = .ok (.ireturn, 1) := by decide +kernel
theorem dX11_allBoiled_34 : decode cX11_allBoiled 34 = .ok (.aload_n 0, 1) := by decide +kernel
theorem dX11_allBoiled_35 : decode cX11_allBoiled 35 = .ok (.getfield 90, 3) := by decide +kernel
theorem dX11_allBoiled_38 : decode cX11_allBoiled 38 = .ok (.ifCond .ne 6, 3) := by decide +kernel
theorem dX11_allBoiled_41 : decode cX11_allBoiled 41 = .ok (.ldc 206, 2) := by decide +kernel
theorem dX11_allBoiled_43 : decode cX11_allBoiled 43 = .ok (.ireturn, 1) := by decide +kernel
theorem dX11_allBoiled_44 : decode cX11_allBoiled 44 = .ok (.iconst 1, 1) := by decide +kernel
theorem dX11_allBoiled_45 : decode cX11_allBoiled 45 = .ok (.istore_n 3, 1) := by decide +kernel
theorem dX11_allBoiled_46 : decode cX11_allBoiled 46 = .ok (.iconst 0, 1) := by decide +kernel
theorem dX11_allBoiled_47 : decode cX11_allBoiled 47 = .ok (.istore 4, 2) := by decide +kernel
theorem dX11_allBoiled_49 : decode cX11_allBoiled 49 = .ok (.iload 4, 2) := by decide +kernel
theorem dX11_allBoiled_51 : decode cX11_allBoiled 51 = .ok (.aload_n 0, 1) := by decide +kernel
theorem dX11_allBoiled_52 : decode cX11_allBoiled 52 = .ok (.getfield 93, 3) := by decide +kernel
theorem dX11_allBoiled_55 : decode cX11_allBoiled 55 = .ok (.if_icmp .ge 13, 3) := by decide +kernel
theorem dX11_allBoiled_58 : decode cX11_allBoiled 58 = .ok (.iload_n 3, 1) := by decide +kernel
theorem dX11_allBoiled_59 : decode cX11_allBoiled 59 = .ok (.iconst 3, 1) := by decide +kernel
theorem dX11_allBoiled_60 : decode cX11_allBoiled 60 = .ok (.imul, 1) := by decide +kernel
theorem dX11_allBoiled_61 : decode cX11_allBoiled 61 = .ok (.istore_n 3, 1) := by decide +kernel
theorem dX11_allBoiled_62 : decode cX11_allBoiled 62 = .ok (.iinc 4 1, 3) := by decide +kernel
theorem dX11_allBoiled_65 : decode cX11_allBoiled 65 = .ok (.goto (-16), 3) := by decide +kernel
theorem dX11_allBoiled_68 : decode cX11_allBoiled 68 = .ok (.ldc 251, 2) := by decide +kernel
theorem dX11_allBoiled_70 : decode cX11_allBoiled 70 = .ok (.istore 4, 2) := by decide +kernel
theorem dX11_allBoiled_72 : decode cX11_allBoiled 72 = .ok (.iconst 0, 1) := by decide +kernel
theorem dX11_allBoiled_73 : decode cX11_allBoiled 73 = .ok (.istore 5, 2) := by decide +kernel
theorem dX11_allBoiled_75 : decode cX11_allBoiled 75 = .ok (.iload 5, 2) := by decide +kernel
theorem dX11_allBoiled_77 : decode cX11_allBoiled 77 = .ok (.iload_n 3, 1) := by decide +kernel
theorem dX11_allBoiled_78 : decode cX11_allBoiled 78 = .ok (.if_icmp .ge 61, 3) := by decide +kernel
theorem dX11_allBoiled_81 : decode cX11_allBoiled 81 = .ok (.aload_n 0, 1) := by decide +kernel
theorem dX11_allBoiled_82 : decode cX11_allBoiled 82 = .ok (.iload 5, 2) := by decide +kernel
theorem dX11_allBoiled_84 : decode cX11_allBoiled 84 = .ok (.iload_n 1, 1) := by decide +kernel
theorem dX11_allBoiled_85 : decode cX11_allBoiled 85 = .ok (.invokevirtual 252, 3) := by decide +kernel
theorem dX11_allBoiled_88 : decode cX11_allBoiled 88 = .ok (.istore 6, 2) := by decide +kernel
theorem dX11_allBoiled_90 : decode cX11_allBoiled 90 = .ok (.iload 6, 2) := by decide +kernel
theorem dX11_allBoiled_92 : decode cX11_allBoiled 92 = .ok (.iload 4, 2) := by decide +kernel
theorem dX11_allBoiled_94 : decode cX11_allBoiled 94 = .ok (.if_icmp .ge 39, 3) := by decide +kernel
theorem dX11_allBoiled_97 : decode cX11_allBoiled 97 = .ok (.iload 6, 2) := by decide +kernel
theorem dX11_allBoiled_99 : decode cX11_allBoiled 99 = .ok (.istore 4, 2) := by decide +kernel
theorem dX11_allBoiled_101 : decode cX11_allBoiled 101 = .ok (.iconst 0, 1) := by decide +kernel
theorem dX11_allBoiled_102 : decode cX11_allBoiled 102 = .ok (.istore 7, 2) := by decide +kernel
theorem dX11_allBoiled_104 : decode cX11_allBoiled 104 = .ok (.iload 7, 2) := by decide +kernel
theorem dX11_allBoiled_106 : decode cX11_allBoiled 106 = .ok (.aload_n 0, 1) := by decide +kernel
theorem dX11_allBoiled_107 : decode cX11_allBoiled 107 = .ok (.getfield 93, 3) := by decide +kernel
theorem dX11_allBoiled_110 : decode cX11_allBoiled 110 = .ok (.if_icmp .ge 23, 3) := by decide +kernel
theorem dX11_allBoiled_113 : decode cX11_allBoiled 113 = .ok (.aload_n 0, 1) := by decide +kernel
theorem dX11_allBoiled_114 : decode cX11_allBoiled 114 = .ok (.getfield 56, 3) := by decide +kernel
theorem dX11_allBoiled_117 : decode cX11_allBoiled 117 = .ok (.iload 7, 2) := by decide +kernel
theorem dX11_allBoiled_119 : decode cX11_allBoiled 119 = .ok (.aload_n 0, 1) := by decide +kernel
theorem dX11_allBoiled_120 : decode cX11_allBoiled 120 = .ok (.getfield 53, 3) := by decide +kernel
theorem dX11_allBoiled_123 : decode cX11_allBoiled 123 = .ok (.iload 7, 2) := by decide +kernel
theorem dX11_allBoiled_125 : decode cX11_allBoiled 125 = .ok (.iaload, 1) := by decide +kernel
theorem dX11_allBoiled_126 : decode cX11_allBoiled 126 = .ok (.iastore, 1) := by decide +kernel
theorem dX11_allBoiled_127 : decode cX11_allBoiled 127 = .ok (.iinc 7 1, 3) := by decide +kernel
theorem dX11_allBoiled_130 : decode cX11_allBoiled 130 = .ok (.goto (-26), 3) := by decide +kernel
theorem dX11_allBoiled_133 : decode cX11_allBoiled 133 = .ok (.iinc 5 1, 3) := by decide +kernel
theorem dX11_allBoiled_136 : decode cX11_allBoiled 136 = .ok (.goto (-61), 3) := by decide +kernel
theorem dX11_allBoiled_139 : decode cX11_allBoiled 139 = .ok (.iload_n 2, 1) := by decide +kernel
theorem dX11_allBoiled_140 : decode cX11_allBoiled 140 = .ok (.iconst (-1), 1) := by decide +kernel
theorem dX11_allBoiled_141 : decode cX11_allBoiled 141 = .ok (.if_icmp .ne 8, 3) := by decide +kernel
theorem dX11_allBoiled_144 : decode cX11_allBoiled 144 = .ok (.iload 4, 2) := by decide +kernel
theorem dX11_allBoiled_146 : decode cX11_allBoiled 146 = .ok (.goto 21, 3) := by decide +kernel
theorem dX11_allBoiled_149 : decode cX11_allBoiled 149 = .ok (.iload_n 1, 1) := by decide +kernel
theorem dX11_allBoiled_150 : decode cX11_allBoiled 150 = .ok (.iload_n 2, 1) := by decide +kernel
theorem dX11_allBoiled_151 : decode cX11_allBoiled 151 = .ok (.invokestatic 247, 3) := by decide +kernel
theorem dX11_allBoiled_154 : decode cX11_allBoiled 154 = .ok (.ifCond .eq 12, 3) := by decide +kernel
theorem dX11_allBoiled_157 : decode cX11_allBoiled 157 = .ok (.aload_n 0, 1) := by decide +kernel
theorem dX11_allBoiled_158 : decode cX11_allBoiled 158 = .ok (.getfield 56, 3) := by decide +kernel
theorem dX11_allBoiled_161 : decode cX11_allBoiled 161 = .ok (.iload_n 2, 1) := by decide +kernel
theorem dX11_allBoiled_162 : decode cX11_allBoiled 162 = .ok (.iaload, 1) := by decide +kernel
theorem dX11_allBoiled_163 : decode cX11_allBoiled 163 = .ok (.goto 4, 3) := by decide +kernel
theorem dX11_allBoiled_166 : decode cX11_allBoiled 166 = .ok (.iconst (-1), 1) := by decide +kernel
theorem dX11_allBoiled_167 : decode cX11_allBoiled 167 = .ok (.ireturn, 1) := by decide +kernel
set_option maxRecDepth 20000 in
theorem ggX11_minutesOf_X11_has : GoodIn wsX11_minutesOf wsX11_has := goodIn_r _ [5] (by decide +kernel) (by decide +kernel)
set_option maxRecDepth 20000 in
theorem gX11_minutesOf_X11_has : GoodIn wsX11_minutesOf (va_wsS RX11 247 yX11_has wsX11_has) := goodIn_app (goodIn_of _ (by decide +kernel)) ggX11_minutesOf_X11_has
set_option maxRecDepth 20000 in
theorem ggX11_minutesOf_X11_reign : GoodIn wsX11_minutesOf wsX11_reign := goodIn_r _ [9, 10, 11, 12, 13, 4, 14, 15, 16, 17, 18, 19, 20, 21, 22, 23, 24, 25, 26, 27, 28, 29, 30, 31, 32, 33, 34, 35, 36, 37, 38, 39, 40, 41, 42, 43, 44, 45, 46, 47, 48, 49, 50, 51, 52, 53, 54, 55, 56, 57, 58, 59, 60] (by decide +kernel) (by decide +kernel)
set_option maxRecDepth 20000 in
theorem gX11_minutesOf_X11_reign : GoodIn wsX11_minutesOf (wsV RX11 181 RX11 yX11_reign wsX11_reign) := goodIn_app (goodIn_of _ (by decide +kernel)) ggX11_minutesOf_X11_reign
theorem dX11_minutesOf_0 : decode cX11_minutesOf 0 = .ok (.iconst 0, 1) := by decide +kernel
theorem dX11_minutesOf_1 : decode cX11_minutesOf 1 = .ok (.istore_n 2, 1) := by decide +kernel
theorem dX11_minutesOf_2 : decode cX11_minutesOf 2 = .ok (.iconst 0, 1) := by decide +kernel
theorem dX11_minutesOf_3 : decode cX11_minutesOf 3 = .ok (.istore_n 3, 1) := by decide +kernel
theorem dX11_minutesOf_4 : decode cX11_minutesOf 4 = .ok (.iload_n 3, 1) := by decide +kernel
theorem dX11_minutesOf_5 : decode cX11_minutesOf 5 = .ok (.aload_n 0, 1) := by decide +kernel
theorem dX11_minutesOf_6 : decode cX11_minutesOf 6 = .ok (.getfield 93, 3) := by decide +kernel
theorem dX11_minutesOf_9 : decode cX11_minutesOf 9 = .ok (.if_icmp .ge 29, 3) := by decide +kernel
theorem dX11_minutesOf_12 : decode cX11_minutesOf 12 = .ok (.iload_n 2, 1) := by decide +kernel
theorem dX11_minutesOf_13 : decode cX11_minutesOf 13 = .ok (.iload_n 1, 1) := by decide +kernel
theorem dX11_minutesOf_14 : decode cX11_minutesOf 14 = .ok (.iload_n 3, 1) := by decide +kernel
theorem dX11_minutesOf_15 : decode cX11_minutesOf 15 = .ok (.invokestatic 247, 3) := by decide +kernel
theorem dX11_minutesOf_18 : decode cX11_minutesOf 18 = .ok (.ifCond .eq 11, 3) := by decide +kernel
theorem dX11_minutesOf_21 : decode cX11_minutesOf 21 = .ok (.aload_n 0, 1) := by decide +kernel
theorem dX11_minutesOf_22 : decode cX11_minutesOf 22 = .ok (.iload_n 3, 1) := by decide +kernel
theorem dX11_minutesOf_23 : decode cX11_minutesOf 23 = .ok (.invokevirtual 181, 3) := by decide +kernel
theorem dX11_minutesOf_26 : decode cX11_minutesOf 26 = .ok (.goto 4, 3) := by decide +kernel
theorem dX11_minutesOf_29 : decode cX11_minutesOf 29 = .ok (.iconst 0, 1) := by decide +kernel
theorem dX11_minutesOf_30 : decode cX11_minutesOf 30 = .ok (.iadd, 1) := by decide +kernel
theorem dX11_minutesOf_31 : decode cX11_minutesOf 31 = .ok (.istore_n 2, 1) := by decide +kernel
theorem dX11_minutesOf_32 : decode cX11_minutesOf 32 = .ok (.iinc 3 1, 3) := by decide +kernel
theorem dX11_minutesOf_35 : decode cX11_minutesOf 35 = .ok (.goto (-31), 3) := by decide +kernel
theorem dX11_minutesOf_38 : decode cX11_minutesOf 38 = .ok (.iload_n 2, 1) := by decide +kernel
theorem dX11_minutesOf_39 : decode cX11_minutesOf 39 = .ok (.ireturn, 1) := by decide +kernel
theorem dX11_bits_0 : decode cX11_bits 0 = .ok (.iconst 0, 1) := by decide +kernel
theorem dX11_bits_1 : decode cX11_bits 1 = .ok (.istore_n 1, 1) := by decide +kernel
theorem dX11_bits_2 : decode cX11_bits 2 = .ok (.iconst 0, 1) := by decide +kernel
theorem dX11_bits_3 : decode cX11_bits 3 = .ok (.istore_n 2, 1) := by decide +kernel
theorem dX11_bits_4 : decode cX11_bits 4 = .ok (.iload_n 2, 1) := by decide +kernel
theorem dX11_bits_5 : decode cX11_bits 5 = .ok (.bipush 7, 2) := by decide +kernel
theorem dX11_bits_7 : decode cX11_bits 7 = .ok (.if_icmp .ge 17, 3) := by decide +kernel
theorem dX11_bits_10 : decode cX11_bits 10 = .ok (.iload_n 1, 1) := by decide +kernel
theorem dX11_bits_11 : decode cX11_bits 11 = .ok (.iload_n 0, 1) := by decide +kernel
theorem dX11_bits_12 : decode cX11_bits 12 = .ok (.iload_n 2, 1) := by decide +kernel
theorem dX11_bits_13 : decode cX11_bits 13 = .ok (.ishr, 1) := by decide +kernel
theorem dX11_bits_14 : decode cX11_bits 14 = .ok (.iconst 1, 1) := by decide +kernel
theorem dX11_bits_15 : decode cX11_bits 15 = .ok (.iand, 1) := by decide +kernel
theorem dX11_bits_16 : decode cX11_bits 16 = .ok (.iadd, 1) := by decide +kernel
theorem dX11_bits_17 : decode cX11_bits 17 = .ok (.istore_n 1, 1) := by decide +kernel
theorem dX11_bits_18 : decode cX11_bits 18 = .ok (.iinc 2 1, 3) := by decide +kernel
theorem dX11_bits_21 : decode cX11_bits 21 = .ok (.goto (-17), 3) := by decide +kernel
theorem dX11_bits_24 : decode cX11_bits 24 = .ok (.iload_n 1, 1) := by decide +kernel
theorem dX11_bits_25 : decode cX11_bits 25 = .ok (.ireturn, 1) := by decide +kernel
set_option maxRecDepth 20000 in
theorem ggX11_dynastySet_X11_allThat : GoodIn wsX11_dynastySet wsX11_allThat := goodIn_r _ [7, 1, 2, 32, 33, 34, 35, 36, 37, 38, 39, 40, 41, 42, 43, 44, 45, 46, 47, 48, 49, 50, 51, 52, 53, 54, 55, 56, 57, 58, 59, 60, 61, 62, 63, 64, 65, 66, 67, 68, 69, 70, 71] (by decide +kernel) (by decide +kernel)
set_option maxRecDepth 20000 in
theorem gX11_dynastySet_X11_allThat : GoodIn wsX11_dynastySet (wsV RX11 187 RX11 yX11_allThat wsX11_allThat) := goodIn_app (goodIn_of _ (by decide +kernel)) ggX11_dynastySet_X11_allThat
set_option maxRecDepth 20000 in
theorem ggX11_dynastySet_X11_minutesOf : GoodIn wsX11_dynastySet wsX11_minutesOf := goodIn_r _ [11, 1, 12, 13, 6, 14, 15, 16, 17, 18, 2, 19, 20, 21, 22, 23, 24, 25, 26, 27, 28, 32, 33, 34, 35, 36, 37, 38, 39, 40, 41, 42, 43, 44, 45, 46, 47, 48, 49, 50, 51, 52, 53, 54, 55, 56, 57, 58, 59, 60, 61, 62, 63, 64, 65, 66, 67, 68, 69, 70, 71] (by decide +kernel) (by decide +kernel)
set_option maxRecDepth 20000 in
theorem gX11_dynastySet_X11_minutesOf : GoodIn wsX11_dynastySet (wsV RX11 255 RX11 yX11_minutesOf wsX11_minutesOf) := goodIn_app (goodIn_of _ (by decide +kernel)) ggX11_dynastySet_X11_minutesOf
set_option maxRecDepth 20000 in
theorem ggX11_dynastySet_X11_bits : GoodIn wsX11_dynastySet wsX11_bits := goodIn_r _ [31] (by decide +kernel) (by decide +kernel)
set_option maxRecDepth 20000 in
theorem gX11_dynastySet_X11_bits : GoodIn wsX11_dynastySet (va_wsS RX11 258 yX11_bits wsX11_bits) := goodIn_app (goodIn_of _ (by decide +kernel)) ggX11_dynastySet_X11_bits
theorem dX11_dynastySet_0 : decode cX11_dynastySet 0 = .ok (.aload_n 0, 1) := by decide +kernel
theorem dX11_dynastySet_1 : decode cX11_dynastySet 1 = .ok (.iconst 2, 1) := by decide +kernel
theorem dX11_dynastySet_2 : decode cX11_dynastySet 2 = .ok (.invokevirtual 187, 3) := by decide +kernel
theorem dX11_dynastySet_5 : decode cX11_dynastySet 5 = .ok (.istore_n 1, 1) := by decide +kernel
theorem dX11_dynastySet_6 : decode cX11_dynastySet 6 = .ok (.iconst 0, 1) := by decide +kernel
theorem dX11_dynastySet_7 : decode cX11_dynastySet 7 = .ok (.istore_n 2, 1) := by decide +kernel
theorem dX11_dynastySet_8 : decode cX11_dynastySet 8 = .ok (.iconst 0, 1) := by decide +kernel
theorem dX11_dynastySet_9 : decode cX11_dynastySet 9 = .ok (.istore_n 3, 1) := by decide +kernel
theorem dX11_dynastySet_10 : decode cX11_dynastySet 10 = .ok (.iload_n 3, 1) := by decide +kernel
theorem dX11_dynastySet_11 : decode cX11_dynastySet 11 = .ok (.iconst 1, 1) := by decide +kernel
theorem dX11_dynastySet_12 : decode cX11_dynastySet 12 = .ok (.aload_n 0, 1) := by decide +kernel
theorem dX11_dynastySet_13 : decode cX11_dynastySet 13 = .ok (.getfield 93, 3) := by decide +kernel
theorem dX11_dynastySet_16 : decode cX11_dynastySet 16 = .ok (.ishl, 1) := by decide +kernel
theorem dX11_dynastySet_17 : decode cX11_dynastySet 17 = .ok (.if_icmp .ge 111, 3) := by decide +kernel
theorem dX11_dynastySet_20 : decode cX11_dynastySet 20 = .ok (.iload_n 3, 1) := by decide +kernel
theorem dX11_dynastySet_21 : decode cX11_dynastySet 21 = .ok (.iload_n 1, 1) := by decide +kernel
theorem dX11_dynastySet_22 : decode cX11_dynastySet 22 = .ok (.iconst (-1), 1) := by decide +kernel
theorem dX11_dynastySet_23 : decode cX11_dynastySet 23 = .ok (.ixor, 1) := by decide +kernel
theorem dX11_dynastySet_24 : decode cX11_dynastySet 24 = .ok (.iand, 1) := by decide +kernel
theorem dX11_dynastySet_25 : decode cX11_dynastySet 25 = .ok (.ifCond .ne 24, 3) := by decide +kernel
theorem dX11_dynastySet_28 : decode cX11_dynastySet 28 = .ok (.iconst 2, 1) := by decide +kernel
theorem dX11_dynastySet_29 : decode cX11_dynastySet 29 = .ok (.aload_n 0, 1) := by decide +kernel
theorem dX11_dynastySet_30 : decode cX11_dynastySet 30 = .ok (.iload_n 3, 1) := by decide +kernel
theorem dX11_dynastySet_31 : decode cX11_dynastySet 31 = .ok (.invokevirtual 255, 3) := by decide +kernel
theorem dX11_dynastySet_34 : decode cX11_dynastySet 34 = .ok (.imul, 1) := by decide +kernel
theorem dX11_dynastySet_35 : decode cX11_dynastySet 35 = .ok (.aload_n 0, 1) := by decide +kernel
theorem dX11_dynastySet_36 : decode cX11_dynastySet 36 = .ok (.getfield 25, 3) := by decide +kernel
theorem dX11_dynastySet_39 : decode cX11_dynastySet 39 = .ok (.bipush 14, 2) := by decide +kernel
theorem dX11_dynastySet_41 : decode cX11_dynastySet 41 = .ok (.iaload, 1) := by decide +kernel
theorem dX11_dynastySet_42 : decode cX11_dynastySet 42 = .ok (.if_icmp .gt 7, 3) := by decide +kernel
theorem dX11_dynastySet_45 : decode cX11_dynastySet 45 = .ok (.iconst 1, 1) := by decide +kernel
theorem dX11_dynastySet_46 : decode cX11_dynastySet 46 = .ok (.goto 4, 3) := by decide +kernel
theorem dX11_dynastySet_49 : decode cX11_dynastySet 49 = .ok (.iconst 0, 1) := by decide +kernel
theorem dX11_dynastySet_50 : decode cX11_dynastySet 50 = .ok (.istore 4, 2) := by decide +kernel
theorem dX11_dynastySet_52 : decode cX11_dynastySet 52 = .ok (.iload_n 3, 1) := by decide +kernel
theorem dX11_dynastySet_53 : decode cX11_dynastySet 53 = .ok (.invokestatic 258, 3) := by decide +kernel
theorem dX11_dynastySet_56 : decode cX11_dynastySet 56 = .ok (.iload_n 2, 1) := by decide +kernel
theorem dX11_dynastySet_57 : decode cX11_dynastySet 57 = .ok (.invokestatic 258, 3) := by decide +kernel
theorem dX11_dynastySet_60 : decode cX11_dynastySet 60 = .ok (.if_icmp .le 7, 3) := by decide +kernel
theorem dX11_dynastySet_63 : decode cX11_dynastySet 63 = .ok (.iconst 1, 1) := by decide +kernel
theorem dX11_dynastySet_64 : decode cX11_dynastySet 64 = .ok (.goto 4, 3) := by decide +kernel
theorem dX11_dynastySet_67 : decode cX11_dynastySet 67 = .ok (.iconst 0, 1) := by decide +kernel
theorem dX11_dynastySet_68 : decode cX11_dynastySet 68 = .ok (.istore 5, 2) := by decide +kernel
theorem dX11_dynastySet_70 : decode cX11_dynastySet 70 = .ok (.iload_n 3, 1) := by decide +kernel
theorem dX11_dynastySet_71 : decode cX11_dynastySet 71 = .ok (.invokestatic 258, 3) := by decide +kernel
theorem dX11_dynastySet_74 : decode cX11_dynastySet 74 = .ok (.iload_n 2, 1) := by decide +kernel
theorem dX11_dynastySet_75 : decode cX11_dynastySet 75 = .ok (.invokestatic 258, 3) := by decide +kernel
theorem dX11_dynastySet_78 : decode cX11_dynastySet 78 = .ok (.if_icmp .ne 20, 3) := by decide +kernel
theorem dX11_dynastySet_81 : decode cX11_dynastySet 81 = .ok (.aload_n 0, 1) := by decide +kernel
theorem dX11_dynastySet_82 : decode cX11_dynastySet 82 = .ok (.iload_n 3, 1) := by decide +kernel
theorem dX11_dynastySet_83 : decode cX11_dynastySet 83 = .ok (.invokevirtual 255, 3) := by decide +kernel
theorem dX11_dynastySet_86 : decode cX11_dynastySet 86 = .ok (.aload_n 0, 1) := by decide +kernel
theorem dX11_dynastySet_87 : decode cX11_dynastySet 87 = .ok (.iload_n 2, 1) := by decide +kernel
theorem dX11_dynastySet_88 : decode cX11_dynastySet 88 = .ok (.invokevirtual 255, 3) := by decide +kernel
theorem dX11_dynastySet_91 : decode cX11_dynastySet 91 = .ok (.if_icmp .le 7, 3) := by decide +kernel
theorem dX11_dynastySet_94 : decode cX11_dynastySet 94 = .ok (.iconst 1, 1) := by decide +kernel
theorem dX11_dynastySet_95 : decode cX11_dynastySet 95 = .ok (.goto 4, 3) := by decide +kernel
theorem dX11_dynastySet_98 : decode cX11_dynastySet 98 = .ok (.iconst 0, 1) := by decide +kernel
theorem dX11_dynastySet_99 : decode cX11_dynastySet 99 = .ok (.istore 6, 2) := by decide +kernel
theorem dX11_dynastySet_101 : decode cX11_dynastySet 101 = .ok (.iload 4, 2) := by decide +kernel
theorem dX11_dynastySet_103 : decode cX11_dynastySet 103 = .ok (.ifCond .eq 17, 3) := by decide +kernel
theorem dX11_dynastySet_106 : decode cX11_dynastySet 106 = .ok (.iload 5, 2) := by decide +kernel
theorem dX11_dynastySet_108 : decode cX11_dynastySet 108 = .ok (.ifCond .ne 8, 3) := by decide +kernel
theorem dX11_dynastySet_111 : decode cX11_dynastySet 111 = .ok (.iload 6, 2) := by decide +kernel
theorem dX11_dynastySet_113 : decode cX11_dynastySet 113 = .ok (.ifCond .eq 7, 3) := by decide +kernel
theorem dX11_dynastySet_116 : decode cX11_dynastySet 116 = .ok (.iload_n 3, 1) := by decide +kernel
theorem dX11_dynastySet_117 : decode cX11_dynastySet 117 = .ok (.goto 4, 3) := by decide +kernel
theorem dX11_dynastySet_120 : decode cX11_dynastySet 120 = .ok (.iload_n 2, 1) := by decide +kernel
theorem dX11_dynastySet_121 : decode cX11_dynastySet 121 = .ok (.istore_n 2, 1) := by decide +kernel
theorem dX11_dynastySet_122 : decode cX11_dynastySet 122 = .ok (.iinc 3 1, 3) := by decide +kernel
theorem dX11_dynastySet_125 : decode cX11_dynastySet 125 = .ok (.goto (-115), 3) := by decide +kernel
theorem dX11_dynastySet_128 : decode cX11_dynastySet 128 = .ok (.iload_n 2, 1) := by decide +kernel
theorem dX11_dynastySet_129 : decode cX11_dynastySet 129 = .ok (.ireturn, 1) := by decide +kernel
set_option maxRecDepth 20000 in
theorem ggX11_dynasty_X11_in : GoodIn wsX11_dynasty wsX11_in := goodIn_r _ [6] (by decide +kernel) (by decide +kernel)
set_option maxRecDepth 20000 in
theorem gX11_dynasty_X11_in : GoodIn wsX11_dynasty (va_wsS RX11 96 yX11_in wsX11_in) := goodIn_app (goodIn_of _ (by decide +kernel)) ggX11_dynasty_X11_in
set_option maxRecDepth 20000 in
theorem ggX11_dynasty_X11_dynastySet : GoodIn wsX11_dynasty wsX11_dynastySet := goodIn_r _ [10, 11, 12, 13, 14, 15, 5, 16, 17, 18, 19, 20, 21, 22, 23, 24, 25, 26, 27, 28, 29, 30, 31, 32, 33, 34, 35, 36, 37, 38, 39, 40, 41, 42, 43, 44, 45, 46, 47, 48, 49, 50, 51, 52, 53, 54, 55, 56, 57, 58, 59, 60, 61, 62, 63, 64, 65, 66, 67, 68, 69, 70, 71, 72, 73, 74, 75, 76, 77, 78, 79, 80] (by decide +kernel) (by decide +kernel)
set_option maxRecDepth 20000 in
theorem gX11_dynasty_X11_dynastySet : GoodIn wsX11_dynasty (wsV RX11 263 RX11 yX11_dynastySet wsX11_dynastySet) := goodIn_app (goodIn_of _ (by decide +kernel)) ggX11_dynasty_X11_dynastySet
set_option maxRecDepth 20000 in
theorem ggX11_dynasty_X11_bits : GoodIn wsX11_dynasty wsX11_bits := goodIn_r _ [40] (by decide +kernel) (by decide +kernel)
set_option maxRecDepth 20000 in
theorem gX11_dynasty_X11_bits : GoodIn wsX11_dynasty (va_wsS RX11 258 yX11_bits wsX11_bits) := goodIn_app (goodIn_of _ (by decide +kernel)) ggX11_dynasty_X11_bits
set_option maxRecDepth 20000 in
theorem ggX11_dynasty_X11_minutesOf : GoodIn wsX11_dynasty wsX11_minutesOf := goodIn_r _ [20, 11, 21, 22, 5, 23, 24, 25, 26, 27, 12, 28, 29, 30, 31, 32, 33, 34, 35, 36, 37, 41, 42, 43, 44, 45, 46, 47, 48, 49, 50, 51, 52, 53, 54, 55, 56, 57, 58, 59, 60, 61, 62, 63, 64, 65, 66, 67, 68, 69, 70, 71, 72, 73, 74, 75, 76, 77, 78, 79, 80] (by decide +kernel) (by decide +kernel)
set_option maxRecDepth 20000 in
theorem gX11_dynasty_X11_minutesOf : GoodIn wsX11_dynasty (wsV RX11 255 RX11 yX11_minutesOf wsX11_minutesOf) := goodIn_app (goodIn_of _ (by decide +kernel)) ggX11_dynasty_X11_minutesOf
theorem dX11_dynasty_0 : decode cX11_dynasty 0 = .ok (.iload_n 1, 1) := by decide +kernel
theorem dX11_dynasty_1 : decode cX11_dynasty 1 = .ok (.i2l, 1) := by decide +kernel
theorem dX11_dynasty_2 : decode cX11_dynasty 2 = .ok (.lconst 0, 1) := by decide +kernel
theorem dX11_dynasty_3 : decode cX11_dynasty 3 = .ok (.ldc2_w 261, 3) := by decide +kernel
theorem dX11_dynasty_6 : decode cX11_dynasty 6 = .ok (.invokestatic 96, 3) := by decide +kernel
theorem dX11_dynasty_9 : decode cX11_dynasty 9 = .ok (.ifCond .ne 6, 3) := by decide +kernel
theorem dX11_dynasty_12 : decode cX11_dynasty 12 = .ok (.ldc 105, 2) := by decide +kernel
theorem dX11_dynasty_14 : decode cX11_dynasty 14 = .ok (.ireturn, 1) := by decide +kernel
theorem dX11_dynasty_15 : decode cX11_dynasty 15 = .ok (.aload_n 0, 1) := by decide +kernel
theorem dX11_dynasty_16 : decode cX11_dynasty 16 = .ok (.invokevirtual 263, 3) := by decide +kernel
theorem dX11_dynasty_19 : decode cX11_dynasty 19 = .ok (.istore_n 2, 1) := by decide +kernel
theorem dX11_dynasty_20 : decode cX11_dynasty 20 = .ok (.iload_n 1, 1) := by decide +kernel
theorem dX11_dynasty_21 : decode cX11_dynasty 21 = .ok (.ifCond .ne 10, 3) := by decide +kernel
theorem dX11_dynasty_24 : decode cX11_dynasty 24 = .ok (.iload_n 2, 1) := by decide +kernel
theorem dX11_dynasty_25 : decode cX11_dynasty 25 = .ok (.invokestatic 258, 3) := by decide +kernel
theorem dX11_dynasty_28 : decode cX11_dynasty 28 = .ok (.goto 17, 3) := by decide +kernel
theorem dX11_dynasty_31 : decode cX11_dynasty 31 = .ok (.iload_n 1, 1) := by decide +kernel
theorem dX11_dynasty_32 : decode cX11_dynasty 32 = .ok (.iconst 1, 1) := by decide +kernel
theorem dX11_dynasty_33 : decode cX11_dynasty 33 = .ok (.if_icmp .ne 11, 3) := by decide +kernel
theorem dX11_dynasty_36 : decode cX11_dynasty 36 = .ok (.aload_n 0, 1) := by decide +kernel
theorem dX11_dynasty_37 : decode cX11_dynasty 37 = .ok (.iload_n 2, 1) := by decide +kernel
theorem dX11_dynasty_38 : decode cX11_dynasty 38 = .ok (.invokevirtual 255, 3) := by decide +kernel
theorem dX11_dynasty_41 : decode cX11_dynasty 41 = .ok (.goto 4, 3) := by decide +kernel
theorem dX11_dynasty_44 : decode cX11_dynasty 44 = .ok (.iload_n 2, 1) := by decide +kernel
theorem dX11_dynasty_45 : decode cX11_dynasty 45 = .ok (.ireturn, 1) := by decide +kernel
set_option maxRecDepth 20000 in
theorem ggX11_likes_X11_hard : GoodIn wsX11_likes wsX11_hard := goodIn_r _ [9, 2, 10, 11, 12, 8, 13, 14, 15, 19, 20, 21, 22, 23, 24, 25, 26, 27, 28, 29, 30, 31, 32, 33, 34, 35, 36, 37, 38, 39, 40, 41, 42, 43, 44, 45, 46, 47, 48, 49, 50, 51, 52, 53, 54, 55, 56, 57, 58] (by decide +kernel) (by decide +kernel)
set_option maxRecDepth 20000 in
theorem gX11_likes_X11_hard : GoodIn wsX11_likes (wsV RX11 177 RX11 yX11_hard wsX11_hard) := goodIn_app (goodIn_of _ (by decide +kernel)) ggX11_likes_X11_hard
set_option maxRecDepth 20000 in
theorem ggX11_likes_X11_in : GoodIn wsX11_likes wsX11_in := goodIn_r _ [18] (by decide +kernel) (by decide +kernel)
set_option maxRecDepth 20000 in
theorem gX11_likes_X11_in : GoodIn wsX11_likes (va_wsS RX11 96 yX11_in wsX11_in) := goodIn_app (goodIn_of _ (by decide +kernel)) ggX11_likes_X11_in
theorem dX11_likes_0 : decode cX11_likes 0 = .ok (.iload_n 2, 1) := by decide +kernel
theorem dX11_likes_1 : decode cX11_likes 1 = .ok (.aload_n 0, 1) := by decide +kernel
theorem dX11_likes_2 : decode cX11_likes 2 = .ok (.getfield 93, 3) := by decide +kernel
theorem dX11_likes_5 : decode cX11_likes 5 = .ok (.if_icmp .ge 43, 3) := by decide +kernel
theorem dX11_likes_8 : decode cX11_likes 8 = .ok (.aload_n 0, 1) := by decide +kernel
theorem dX11_likes_9 : decode cX11_likes 9 = .ok (.getfield 25, 3) := by decide +kernel
theorem dX11_likes_12 : decode cX11_likes 12 = .ok (.iload_n 2, 1) := by decide +kernel
theorem dX11_likes_13 : decode cX11_likes 13 = .ok (.iaload, 1) := by decide +kernel
theorem dX11_likes_14 : decode cX11_likes 14 = .ok (.iconst 2, 1) := by decide +kernel
theorem dX11_likes_15 : decode cX11_likes 15 = .ok (.if_icmp .ne 33, 3) := by decide +kernel
theorem dX11_likes_18 : decode cX11_likes 18 = .ok (.aload_n 0, 1) := by decide +kernel
theorem dX11_likes_19 : decode cX11_likes 19 = .ok (.iload_n 2, 1) := by decide +kernel
theorem dX11_likes_20 : decode cX11_likes 20 = .ok (.invokevirtual 177, 3) := by decide +kernel
theorem dX11_likes_23 : decode cX11_likes 23 = .ok (.i2l, 1) := by decide +kernel
theorem dX11_likes_24 : decode cX11_likes 24 = .ok (.aload_n 0, 1) := by decide +kernel
theorem dX11_likes_25 : decode cX11_likes 25 = .ok (.getfield 16, 3) := by decide +kernel
theorem dX11_likes_28 : decode cX11_likes 28 = .ok (.iload_n 1, 1) := by decide +kernel
theorem dX11_likes_29 : decode cX11_likes 29 = .ok (.iaload, 1) := by decide +kernel
theorem dX11_likes_30 : decode cX11_likes 30 = .ok (.i2l, 1) := by decide +kernel
theorem dX11_likes_31 : decode cX11_likes 31 = .ok (.aload_n 0, 1) := by decide +kernel
theorem dX11_likes_32 : decode cX11_likes 32 = .ok (.getfield 19, 3) := by decide +kernel
theorem dX11_likes_35 : decode cX11_likes 35 = .ok (.iload_n 1, 1) := by decide +kernel
theorem dX11_likes_36 : decode cX11_likes 36 = .ok (.iaload, 1) := by decide +kernel
theorem dX11_likes_37 : decode cX11_likes 37 = .ok (.i2l, 1) := by decide +kernel
theorem dX11_likes_38 : decode cX11_likes 38 = .ok (.invokestatic 96, 3) := by decide +kernel
theorem dX11_likes_41 : decode cX11_likes 41 = .ok (.ifCond .eq 7, 3) := by decide +kernel
theorem dX11_likes_44 : decode cX11_likes 44 = .ok (.iconst 1, 1) := by decide +kernel
theorem dX11_likes_45 : decode cX11_likes 45 = .ok (.goto 4, 3) := by decide +kernel
theorem dX11_likes_48 : decode cX11_likes 48 = .ok (.iconst 0, 1) := by decide +kernel
theorem dX11_likes_49 : decode cX11_likes 49 = .ok (.ireturn, 1) := by decide +kernel
set_option maxRecDepth 20000 in
theorem ggX11_giveBy_X11_likes : GoodIn wsX11_giveBy wsX11_likes := goodIn_r _ [7, 8, 9, 10, 11, 12, 13, 14, 6, 15, 16, 17, 18, 19, 20, 21, 22, 23, 24, 28, 29, 30, 31, 32, 33, 34, 35, 36, 37, 38, 39, 40, 41, 42, 43, 44, 45, 46, 47, 48, 49, 50, 51, 52, 53, 54, 55, 56, 57, 58, 59, 60, 61, 62, 63, 64, 65, 66, 67] (by decide +kernel) (by decide +kernel)
set_option maxRecDepth 20000 in
theorem gX11_giveBy_X11_likes : GoodIn wsX11_giveBy (wsV RX11 266 RX11 yX11_likes wsX11_likes) := goodIn_app (goodIn_of _ (by decide +kernel)) ggX11_giveBy_X11_likes
set_option maxRecDepth 20000 in
theorem ggX11_giveBy_X11_has : GoodIn wsX11_giveBy wsX11_has := goodIn_r _ [27] (by decide +kernel) (by decide +kernel)
set_option maxRecDepth 20000 in
theorem gX11_giveBy_X11_has : GoodIn wsX11_giveBy (va_wsS RX11 247 yX11_has wsX11_has) := goodIn_app (goodIn_of _ (by decide +kernel)) ggX11_giveBy_X11_has
theorem dX11_giveBy_0 : decode cX11_giveBy 0 = .ok (.iload_n 1, 1) := by decide +kernel
theorem dX11_giveBy_1 : decode cX11_giveBy 1 = .ok (.istore_n 2, 1) := by decide +kernel
theorem dX11_giveBy_2 : decode cX11_giveBy 2 = .ok (.iconst 0, 1) := by decide +kernel
theorem dX11_giveBy_3 : decode cX11_giveBy 3 = .ok (.istore_n 3, 1) := by decide +kernel
theorem dX11_giveBy_4 : decode cX11_giveBy 4 = .ok (.iconst 0, 1) := by decide +kernel
theorem dX11_giveBy_5 : decode cX11_giveBy 5 = .ok (.istore 4, 2) := by decide +kernel
theorem dX11_giveBy_7 : decode cX11_giveBy 7 = .ok (.aload_n 0, 1) := by decide +kernel
theorem dX11_giveBy_8 : decode cX11_giveBy 8 = .ok (.getfield 100, 3) := by decide +kernel
theorem dX11_giveBy_11 : decode cX11_giveBy 11 = .ok (.iconst 1, 1) := by decide +kernel
theorem dX11_giveBy_12 : decode cX11_giveBy 12 = .ok (.isub, 1) := by decide +kernel
theorem dX11_giveBy_13 : decode cX11_giveBy 13 = .ok (.istore 5, 2) := by decide +kernel
theorem dX11_giveBy_15 : decode cX11_giveBy 15 = .ok (.iload 5, 2) := by decide +kernel
theorem dX11_giveBy_17 : decode cX11_giveBy 17 = .ok (.ifCond .lt 84, 3) := by decide +kernel
theorem dX11_giveBy_20 : decode cX11_giveBy 20 = .ok (.aload_n 0, 1) := by decide +kernel
theorem dX11_giveBy_21 : decode cX11_giveBy 21 = .ok (.getfield 62, 3) := by decide +kernel
theorem dX11_giveBy_24 : decode cX11_giveBy 24 = .ok (.iload 5, 2) := by decide +kernel
theorem dX11_giveBy_26 : decode cX11_giveBy 26 = .ok (.iload_n 2, 1) := by decide +kernel
theorem dX11_giveBy_27 : decode cX11_giveBy 27 = .ok (.bipush 8, 2) := by decide +kernel
theorem dX11_giveBy_29 : decode cX11_giveBy 29 = .ok (.irem, 1) := by decide +kernel
theorem dX11_giveBy_30 : decode cX11_giveBy 30 = .ok (.iastore, 1) := by decide +kernel
theorem dX11_giveBy_31 : decode cX11_giveBy 31 = .ok (.iload_n 2, 1) := by decide +kernel
theorem dX11_giveBy_32 : decode cX11_giveBy 32 = .ok (.bipush 8, 2) := by decide +kernel
theorem dX11_giveBy_34 : decode cX11_giveBy 34 = .ok (.idiv, 1) := by decide +kernel
theorem dX11_giveBy_35 : decode cX11_giveBy 35 = .ok (.istore_n 2, 1) := by decide +kernel
theorem dX11_giveBy_36 : decode cX11_giveBy 36 = .ok (.aload_n 0, 1) := by decide +kernel
theorem dX11_giveBy_37 : decode cX11_giveBy 37 = .ok (.getfield 62, 3) := by decide +kernel
theorem dX11_giveBy_40 : decode cX11_giveBy 40 = .ok (.iload 5, 2) := by decide +kernel
theorem dX11_giveBy_42 : decode cX11_giveBy 42 = .ok (.iaload, 1) := by decide +kernel
theorem dX11_giveBy_43 : decode cX11_giveBy 43 = .ok (.bipush 7, 2) := by decide +kernel
theorem dX11_giveBy_45 : decode cX11_giveBy 45 = .ok (.if_icmp .ge 50, 3) := by decide +kernel
theorem dX11_giveBy_48 : decode cX11_giveBy 48 = .ok (.aload_n 0, 1) := by decide +kernel
theorem dX11_giveBy_49 : decode cX11_giveBy 49 = .ok (.iload 5, 2) := by decide +kernel
theorem dX11_giveBy_51 : decode cX11_giveBy 51 = .ok (.aload_n 0, 1) := by decide +kernel
theorem dX11_giveBy_52 : decode cX11_giveBy 52 = .ok (.getfield 62, 3) := by decide +kernel
theorem dX11_giveBy_55 : decode cX11_giveBy 55 = .ok (.iload 5, 2) := by decide +kernel
theorem dX11_giveBy_57 : decode cX11_giveBy 57 = .ok (.iaload, 1) := by decide +kernel
theorem dX11_giveBy_58 : decode cX11_giveBy 58 = .ok (.invokevirtual 266, 3) := by decide +kernel
theorem dX11_giveBy_61 : decode cX11_giveBy 61 = .ok (.ifCond .eq 17, 3) := by decide +kernel
theorem dX11_giveBy_64 : decode cX11_giveBy 64 = .ok (.iload_n 3, 1) := by decide +kernel
theorem dX11_giveBy_65 : decode cX11_giveBy 65 = .ok (.aload_n 0, 1) := by decide +kernel
theorem dX11_giveBy_66 : decode cX11_giveBy 66 = .ok (.getfield 62, 3) := by decide +kernel
theorem dX11_giveBy_69 : decode cX11_giveBy 69 = .ok (.iload 5, 2) := by decide +kernel
theorem dX11_giveBy_71 : decode cX11_giveBy 71 = .ok (.iaload, 1) := by decide +kernel
theorem dX11_giveBy_72 : decode cX11_giveBy 72 = .ok (.invokestatic 247, 3) := by decide +kernel
theorem dX11_giveBy_75 : decode cX11_giveBy 75 = .ok (.ifCond .eq 5, 3) := by decide +kernel
theorem dX11_giveBy_78 : decode cX11_giveBy 78 = .ok (.iconst (-1), 1) := by decide +kernel
theorem dX11_giveBy_79 : decode cX11_giveBy 79 = .ok (.ireturn, 1) := by decide +kernel
theorem dX11_giveBy_80 : decode cX11_giveBy 80 = .ok (.iload_n 3, 1) := by decide +kernel
theorem dX11_giveBy_81 : decode cX11_giveBy 81 = .ok (.iconst 1, 1) := by decide +kernel
theorem dX11_giveBy_82 : decode cX11_giveBy 82 = .ok (.aload_n 0, 1) := by decide +kernel
theorem dX11_giveBy_83 : decode cX11_giveBy 83 = .ok (.getfield 62, 3) := by decide +kernel
theorem dX11_giveBy_86 : decode cX11_giveBy 86 = .ok (.iload 5, 2) := by decide +kernel
theorem dX11_giveBy_88 : decode cX11_giveBy 88 = .ok (.iaload, 1) := by decide +kernel
theorem dX11_giveBy_89 : decode cX11_giveBy 89 = .ok (.ishl, 1) := by decide +kernel
theorem dX11_giveBy_90 : decode cX11_giveBy 90 = .ok (.ior, 1) := by decide +kernel
theorem dX11_giveBy_91 : decode cX11_giveBy 91 = .ok (.istore_n 3, 1) := by decide +kernel
theorem dX11_giveBy_92 : decode cX11_giveBy 92 = .ok (.iinc 4 1, 3) := by decide +kernel
theorem dX11_giveBy_95 : decode cX11_giveBy 95 = .ok (.iinc 5 (-1), 3) := by decide +kernel
theorem dX11_giveBy_98 : decode cX11_giveBy 98 = .ok (.goto (-83), 3) := by decide +kernel
theorem dX11_giveBy_101 : decode cX11_giveBy 101 = .ok (.iload 4, 2) := by decide +kernel
theorem dX11_giveBy_103 : decode cX11_giveBy 103 = .ok (.ireturn, 1) := by decide +kernel
set_option maxRecDepth 20000 in
theorem ggX11_liked_X11_isEater : GoodIn wsX11_liked wsX11_isEater := goodIn_r _ [9, 2, 10, 11, 8, 12, 38, 39, 40, 41, 42, 43, 44, 45, 46, 47, 48, 49, 50, 51, 52, 53, 54, 55, 56, 57, 58, 59, 60, 61, 62, 63, 64, 65, 66, 67, 68, 69, 70, 71, 72, 73, 74, 75, 76, 77] (by decide +kernel) (by decide +kernel)
set_option maxRecDepth 20000 in
theorem gX11_liked_X11_isEater : GoodIn wsX11_liked (wsV RX11 201 RX11 yX11_isEater wsX11_isEater) := goodIn_app (goodIn_of _ (by decide +kernel)) ggX11_liked_X11_isEater
set_option maxRecDepth 20000 in
theorem ggX11_liked_X11_giveBy : GoodIn wsX11_liked wsX11_giveBy := goodIn_r _ [16, 2, 4, 17, 18, 19, 8, 20, 21, 22, 23, 24, 25, 26, 27, 28, 29, 30, 31, 32, 33, 34, 10, 11, 12, 35, 36, 37, 38, 39, 40, 41, 42, 43, 44, 45, 46, 47, 48, 49, 50, 51, 52, 53, 54, 55, 56, 57, 58, 59, 60, 61, 62, 63, 64, 65, 66, 67, 68, 69, 70, 71, 72, 73, 74, 75, 76, 77] (by decide +kernel) (by decide +kernel)
set_option maxRecDepth 20000 in
theorem gX11_liked_X11_giveBy : GoodIn wsX11_liked (wsV RX11 269 RX11 yX11_giveBy wsX11_giveBy) := goodIn_app (goodIn_of _ (by decide +kernel)) ggX11_liked_X11_giveBy
theorem dX11_liked_0 : decode cX11_liked 0 = .ok (.iload_n 1, 1) := by decide +kernel
theorem dX11_liked_1 : decode cX11_liked 1 = .ok (.iconst (-1), 1) := by decide +kernel
theorem dX11_liked_2 : decode cX11_liked 2 = .ok (.if_icmp .eq 14, 3) := by decide +kernel
theorem dX11_liked_5 : decode cX11_liked 5 = .ok (.aload_n 0, 1) := by decide +kernel
theorem dX11_liked_6 : decode cX11_liked 6 = .ok (.iload_n 1, 1) := by decide +kernel
theorem dX11_liked_7 : decode cX11_liked 7 = .ok (.invokevirtual 201, 3) := by decide +kernel
theorem dX11_liked_10 : decode cX11_liked 10 = .ok (.ifCond .ne 6, 3) := by decide +kernel
theorem dX11_liked_13 : decode cX11_liked 13 = .ok (.ldc 200, 2) := by decide +kernel
theorem dX11_liked_15 : decode cX11_liked 15 = .ok (.ireturn, 1) := by decide +kernel
theorem dX11_liked_16 : decode cX11_liked 16 = .ok (.iconst 1, 1) := by decide +kernel
theorem dX11_liked_17 : decode cX11_liked 17 = .ok (.istore_n 2, 1) := by decide +kernel
theorem dX11_liked_18 : decode cX11_liked 18 = .ok (.iconst 0, 1) := by decide +kernel
theorem dX11_liked_19 : decode cX11_liked 19 = .ok (.istore_n 3, 1) := by decide +kernel
theorem dX11_liked_20 : decode cX11_liked 20 = .ok (.iload_n 3, 1) := by decide +kernel
theorem dX11_liked_21 : decode cX11_liked 21 = .ok (.aload_n 0, 1) := by decide +kernel
theorem dX11_liked_22 : decode cX11_liked 22 = .ok (.getfield 100, 3) := by decide +kernel
theorem dX11_liked_25 : decode cX11_liked 25 = .ok (.if_icmp .ge 14, 3) := by decide +kernel
theorem dX11_liked_28 : decode cX11_liked 28 = .ok (.iload_n 2, 1) := by decide +kernel
theorem dX11_liked_29 : decode cX11_liked 29 = .ok (.bipush 8, 2) := by decide +kernel
theorem dX11_liked_31 : decode cX11_liked 31 = .ok (.imul, 1) := by decide +kernel
theorem dX11_liked_32 : decode cX11_liked 32 = .ok (.istore_n 2, 1) := by decide +kernel
theorem dX11_liked_33 : decode cX11_liked 33 = .ok (.iinc 3 1, 3) := by decide +kernel
theorem dX11_liked_36 : decode cX11_liked 36 = .ok (.goto (-16), 3) := by decide +kernel
theorem dX11_liked_39 : decode cX11_liked 39 = .ok (.iconst (-1), 1) := by decide +kernel
theorem dX11_liked_40 : decode cX11_liked 40 = .ok (.istore_n 3, 1) := by decide +kernel
theorem dX11_liked_41 : decode cX11_liked 41 = .ok (.iconst 0, 1) := by decide +kernel
theorem dX11_liked_42 : decode cX11_liked 42 = .ok (.istore 4, 2) := by decide +kernel
theorem dX11_liked_44 : decode cX11_liked 44 = .ok (.iload 4, 2) := by decide +kernel
theorem dX11_liked_46 : decode cX11_liked 46 = .ok (.iload_n 2, 1) := by decide +kernel
theorem dX11_liked_47 : decode cX11_liked 47 = .ok (.if_icmp .ge 58, 3) := by decide +kernel
theorem dX11_liked_50 : decode cX11_liked 50 = .ok (.aload_n 0, 1) := by decide +kernel
theorem dX11_liked_51 : decode cX11_liked 51 = .ok (.iload 4, 2) := by decide +kernel
theorem dX11_liked_53 : decode cX11_liked 53 = .ok (.invokevirtual 269, 3) := by decide +kernel
theorem dX11_liked_56 : decode cX11_liked 56 = .ok (.istore 5, 2) := by decide +kernel
theorem dX11_liked_58 : decode cX11_liked 58 = .ok (.iload 5, 2) := by decide +kernel
theorem dX11_liked_60 : decode cX11_liked 60 = .ok (.iload_n 3, 1) := by decide +kernel
theorem dX11_liked_61 : decode cX11_liked 61 = .ok (.if_icmp .le 38, 3) := by decide +kernel
theorem dX11_liked_64 : decode cX11_liked 64 = .ok (.iload 5, 2) := by decide +kernel
theorem dX11_liked_66 : decode cX11_liked 66 = .ok (.istore_n 3, 1) := by decide +kernel
theorem dX11_liked_67 : decode cX11_liked 67 = .ok (.iconst 0, 1) := by decide +kernel
theorem dX11_liked_68 : decode cX11_liked 68 = .ok (.istore 6, 2) := by decide +kernel
theorem dX11_liked_70 : decode cX11_liked 70 = .ok (.iload 6, 2) := by decide +kernel
theorem dX11_liked_72 : decode cX11_liked 72 = .ok (.aload_n 0, 1) := by decide +kernel
theorem dX11_liked_73 : decode cX11_liked 73 = .ok (.getfield 100, 3) := by decide +kernel
theorem dX11_liked_76 : decode cX11_liked 76 = .ok (.if_icmp .ge 23, 3) := by decide +kernel
theorem dX11_liked_79 : decode cX11_liked 79 = .ok (.aload_n 0, 1) := by decide +kernel
theorem dX11_liked_80 : decode cX11_liked 80 = .ok (.getfield 65, 3) := by decide +kernel
theorem dX11_liked_83 : decode cX11_liked 83 = .ok (.iload 6, 2) := by decide +kernel
theorem dX11_liked_85 : decode cX11_liked 85 = .ok (.aload_n 0, 1) := by decide +kernel
theorem dX11_liked_86 : decode cX11_liked 86 = .ok (.getfield 62, 3) := by decide +kernel
theorem dX11_liked_89 : decode cX11_liked 89 = .ok (.iload 6, 2) := by decide +kernel
theorem dX11_liked_91 : decode cX11_liked 91 = .ok (.iaload, 1) := by decide +kernel
theorem dX11_liked_92 : decode cX11_liked 92 = .ok (.iastore, 1) := by decide +kernel
theorem dX11_liked_93 : decode cX11_liked 93 = .ok (.iinc 6 1, 3) := by decide +kernel
theorem dX11_liked_96 : decode cX11_liked 96 = .ok (.goto (-26), 3) := by decide +kernel
theorem dX11_liked_99 : decode cX11_liked 99 = .ok (.iinc 4 1, 3) := by decide +kernel
theorem dX11_liked_102 : decode cX11_liked 102 = .ok (.goto (-58), 3) := by decide +kernel
theorem dX11_liked_105 : decode cX11_liked 105 = .ok (.iload_n 1, 1) := by decide +kernel
theorem dX11_liked_106 : decode cX11_liked 106 = .ok (.iconst (-1), 1) := by decide +kernel
theorem dX11_liked_107 : decode cX11_liked 107 = .ok (.if_icmp .ne 7, 3) := by decide +kernel
theorem dX11_liked_110 : decode cX11_liked 110 = .ok (.iload_n 3, 1) := by decide +kernel
theorem dX11_liked_111 : decode cX11_liked 111 = .ok (.goto 24, 3) := by decide +kernel
theorem dX11_liked_114 : decode cX11_liked 114 = .ok (.aload_n 0, 1) := by decide +kernel
theorem dX11_liked_115 : decode cX11_liked 115 = .ok (.getfield 65, 3) := by decide +kernel
theorem dX11_liked_118 : decode cX11_liked 118 = .ok (.iload_n 1, 1) := by decide +kernel
theorem dX11_liked_119 : decode cX11_liked 119 = .ok (.iaload, 1) := by decide +kernel
theorem dX11_liked_120 : decode cX11_liked 120 = .ok (.bipush 7, 2) := by decide +kernel
theorem dX11_liked_122 : decode cX11_liked 122 = .ok (.if_icmp .ne 7, 3) := by decide +kernel
theorem dX11_liked_125 : decode cX11_liked 125 = .ok (.iconst (-1), 1) := by decide +kernel
theorem dX11_liked_126 : decode cX11_liked 126 = .ok (.goto 9, 3) := by decide +kernel
theorem dX11_liked_129 : decode cX11_liked 129 = .ok (.aload_n 0, 1) := by decide +kernel
theorem dX11_liked_130 : decode cX11_liked 130 = .ok (.getfield 65, 3) := by decide +kernel
theorem dX11_liked_133 : decode cX11_liked 133 = .ok (.iload_n 1, 1) := by decide +kernel
theorem dX11_liked_134 : decode cX11_liked 134 = .ok (.iaload, 1) := by decide +kernel
theorem dX11_liked_135 : decode cX11_liked 135 = .ok (.ireturn, 1) := by decide +kernel
set_option maxRecDepth 20000 in
theorem ggX11_goose_X11_isEater : GoodIn wsX11_goose wsX11_isEater := goodIn_r _ [9, 3, 10, 11, 8, 12, 13, 14, 15, 16, 17, 18, 19, 20, 21, 22, 23, 24, 25, 26, 27, 28, 29, 30, 31, 32, 33, 34, 35, 36, 37, 38, 39, 40, 41, 42, 43, 44, 45, 46, 47, 48, 49, 50, 51, 52] (by decide +kernel) (by decide +kernel)
set_option maxRecDepth 20000 in
theorem gX11_goose_X11_isEater : GoodIn wsX11_goose (wsV RX11 201 RX11 yX11_isEater wsX11_isEater) := goodIn_app (goodIn_of _ (by decide +kernel)) ggX11_goose_X11_isEater
set_option maxRecDepth 20000 in
theorem ggX11_goose_X11_in : GoodIn wsX11_goose wsX11_in := goodIn_r _ [12] (by decide +kernel) (by decide +kernel)
set_option maxRecDepth 20000 in
theorem gX11_goose_X11_in : GoodIn wsX11_goose (va_wsS RX11 96 yX11_in wsX11_in) := goodIn_app (goodIn_of _ (by decide +kernel)) ggX11_goose_X11_in
theorem dX11_goose_0 : decode cX11_goose 0 = .ok (.aload_n 0, 1) := by decide +kernel
theorem dX11_goose_1 : decode cX11_goose 1 = .ok (.iload_n 2, 1) := by decide +kernel
theorem dX11_goose_2 : decode cX11_goose 2 = .ok (.invokevirtual 201, 3) := by decide +kernel
theorem dX11_goose_5 : decode cX11_goose 5 = .ok (.ifCond .ne 6, 3) := by decide +kernel
theorem dX11_goose_8 : decode cX11_goose 8 = .ok (.ldc 200, 2) := by decide +kernel
theorem dX11_goose_10 : decode cX11_goose 10 = .ok (.ireturn, 1) := by decide +kernel
theorem dX11_goose_11 : decode cX11_goose 11 = .ok (.iload_n 1, 1) := by decide +kernel
theorem dX11_goose_12 : decode cX11_goose 12 = .ok (.i2l, 1) := by decide +kernel
theorem dX11_goose_13 : decode cX11_goose 13 = .ok (.lconst 0, 1) := by decide +kernel
theorem dX11_goose_14 : decode cX11_goose 14 = .ok (.ldc2_w 272, 3) := by decide +kernel
theorem dX11_goose_17 : decode cX11_goose 17 = .ok (.invokestatic 96, 3) := by decide +kernel
theorem dX11_goose_20 : decode cX11_goose 20 = .ok (.ifCond .eq 28, 3) := by decide +kernel
theorem dX11_goose_23 : decode cX11_goose 23 = .ok (.iload_n 1, 1) := by decide +kernel
theorem dX11_goose_24 : decode cX11_goose 24 = .ok (.aload_n 0, 1) := by decide +kernel
theorem dX11_goose_25 : decode cX11_goose 25 = .ok (.getfield 100, 3) := by decide +kernel
theorem dX11_goose_28 : decode cX11_goose 28 = .ok (.idiv, 1) := by decide +kernel
theorem dX11_goose_29 : decode cX11_goose 29 = .ok (.iload_n 2, 1) := by decide +kernel
theorem dX11_goose_30 : decode cX11_goose 30 = .ok (.iload_n 1, 1) := by decide +kernel
theorem dX11_goose_31 : decode cX11_goose 31 = .ok (.aload_n 0, 1) := by decide +kernel
theorem dX11_goose_32 : decode cX11_goose 32 = .ok (.getfield 100, 3) := by decide +kernel
theorem dX11_goose_35 : decode cX11_goose 35 = .ok (.irem, 1) := by decide +kernel
theorem dX11_goose_36 : decode cX11_goose 36 = .ok (.if_icmp .ge 7, 3) := by decide +kernel
theorem dX11_goose_39 : decode cX11_goose 39 = .ok (.iconst 1, 1) := by decide +kernel
theorem dX11_goose_40 : decode cX11_goose 40 = .ok (.goto 4, 3) := by decide +kernel
theorem dX11_goose_43 : decode cX11_goose 43 = .ok (.iconst 0, 1) := by decide +kernel
theorem dX11_goose_44 : decode cX11_goose 44 = .ok (.iadd, 1) := by decide +kernel
theorem dX11_goose_45 : decode cX11_goose 45 = .ok (.goto 5, 3) := by decide +kernel
theorem dX11_goose_48 : decode cX11_goose 48 = .ok (.ldc 105, 2) := by decide +kernel
theorem dX11_goose_50 : decode cX11_goose 50 = .ok (.ireturn, 1) := by decide +kernel
set_option maxRecDepth 20000 in
theorem ggX11_whole_X11_in : GoodIn wsX11_whole wsX11_in := goodIn_r _ [8] (by decide +kernel) (by decide +kernel)
set_option maxRecDepth 20000 in
theorem gX11_whole_X11_in : GoodIn wsX11_whole (va_wsS RX11 96 yX11_in wsX11_in) := goodIn_app (goodIn_of _ (by decide +kernel)) ggX11_whole_X11_in
theorem dX11_whole_0 : decode cX11_whole 0 = .ok (.iload_n 1, 1) := by decide +kernel
theorem dX11_whole_1 : decode cX11_whole 1 = .ok (.i2l, 1) := by decide +kernel
theorem dX11_whole_2 : decode cX11_whole 2 = .ok (.lconst 0, 1) := by decide +kernel
theorem dX11_whole_3 : decode cX11_whole 3 = .ok (.ldc2_w 204, 3) := by decide +kernel
theorem dX11_whole_6 : decode cX11_whole 6 = .ok (.invokestatic 96, 3) := by decide +kernel
theorem dX11_whole_9 : decode cX11_whole 9 = .ok (.ifCond .eq 15, 3) := by decide +kernel
theorem dX11_whole_12 : decode cX11_whole 12 = .ok (.iload_n 2, 1) := by decide +kernel
theorem dX11_whole_13 : decode cX11_whole 13 = .ok (.i2l, 1) := by decide +kernel
theorem dX11_whole_14 : decode cX11_whole 14 = .ok (.lconst 0, 1) := by decide +kernel
theorem dX11_whole_15 : decode cX11_whole 15 = .ok (.ldc2_w 274, 3) := by decide +kernel
theorem dX11_whole_18 : decode cX11_whole 18 = .ok (.invokestatic 96, 3) := by decide +kernel
theorem dX11_whole_21 : decode cX11_whole 21 = .ok (.ifCond .ne 6, 3) := by decide +kernel
theorem dX11_whole_24 : decode cX11_whole 24 = .ok (.ldc 105, 2) := by decide +kernel
theorem dX11_whole_26 : decode cX11_whole 26 = .ok (.ireturn, 1) := by decide +kernel
theorem dX11_whole_27 : decode cX11_whole 27 = .ok (.ldc2_w 276, 3) := by decide +kernel
theorem dX11_whole_30 : decode cX11_whole 30 = .ok (.lstore_n 3, 1) := by decide +kernel
theorem dX11_whole_31 : decode cX11_whole 31 = .ok (.iconst 0, 1) := by decide +kernel
theorem dX11_whole_32 : decode cX11_whole 32 = .ok (.istore 5, 2) := by decide +kernel
theorem dX11_whole_34 : decode cX11_whole 34 = .ok (.iload 5, 2) := by decide +kernel
theorem dX11_whole_36 : decode cX11_whole 36 = .ok (.iload_n 1, 1) := by decide +kernel
theorem dX11_whole_37 : decode cX11_whole 37 = .ok (.if_icmp .ge 21, 3) := by decide +kernel
theorem dX11_whole_40 : decode cX11_whole 40 = .ok (.lload_n 3, 1) := by decide +kernel
theorem dX11_whole_41 : decode cX11_whole 41 = .ok (.bipush 100, 2) := by decide +kernel
theorem dX11_whole_43 : decode cX11_whole 43 = .ok (.iload_n 2, 1) := by decide +kernel
theorem dX11_whole_44 : decode cX11_whole 44 = .ok (.isub, 1) := by decide +kernel
theorem dX11_whole_45 : decode cX11_whole 45 = .ok (.i2l, 1) := by decide +kernel
theorem dX11_whole_46 : decode cX11_whole 46 = .ok (.lmul, 1) := by decide +kernel
theorem dX11_whole_47 : decode cX11_whole 47 = .ok (.ldc2_w 274, 3) := by decide +kernel
theorem dX11_whole_50 : decode cX11_whole 50 = .ok (.ldiv, 1) := by decide +kernel
theorem dX11_whole_51 : decode cX11_whole 51 = .ok (.lstore_n 3, 1) := by decide +kernel
theorem dX11_whole_52 : decode cX11_whole 52 = .ok (.iinc 5 1, 3) := by decide +kernel
theorem dX11_whole_55 : decode cX11_whole 55 = .ok (.goto (-21), 3) := by decide +kernel
theorem dX11_whole_58 : decode cX11_whole 58 = .ok (.lload_n 3, 1) := by decide +kernel
theorem dX11_whole_59 : decode cX11_whole 59 = .ok (.l2i, 1) := by decide +kernel
theorem dX11_whole_60 : decode cX11_whole 60 = .ok (.ireturn, 1) := by decide +kernel
set_option maxRecDepth 20000 in
theorem ggX11_see_X11_in : GoodIn wsX11_see wsX11_in := goodIn_r _ [11] (by decide +kernel) (by decide +kernel)
set_option maxRecDepth 20000 in
theorem gX11_see_X11_in : GoodIn wsX11_see (va_wsS RX11 96 yX11_in wsX11_in) := goodIn_app (goodIn_of _ (by decide +kernel)) ggX11_see_X11_in
theorem dX11_see_0 : decode cX11_see 0 = .ok (.iload_n 1, 1) := by decide +kernel
theorem dX11_see_1 : decode cX11_see 1 = .ok (.i2l, 1) := by decide +kernel
theorem dX11_see_2 : decode cX11_see 2 = .ok (.lconst 1, 1) := by decide +kernel
theorem dX11_see_3 : decode cX11_see 3 = .ok (.ldc2_w 278, 3) := by decide +kernel
theorem dX11_see_6 : decode cX11_see 6 = .ok (.invokestatic 96, 3) := by decide +kernel
theorem dX11_see_9 : decode cX11_see 9 = .ok (.ifCond .eq 15, 3) := by decide +kernel
theorem dX11_see_12 : decode cX11_see 12 = .ok (.iload_n 2, 1) := by decide +kernel
theorem dX11_see_13 : decode cX11_see 13 = .ok (.i2l, 1) := by decide +kernel
theorem dX11_see_14 : decode cX11_see 14 = .ok (.lconst 0, 1) := by decide +kernel
theorem dX11_see_15 : decode cX11_see 15 = .ok (.ldc2_w 280, 3) := by decide +kernel
theorem dX11_see_18 : decode cX11_see 18 = .ok (.invokestatic 96, 3) := by decide +kernel
theorem dX11_see_21 : decode cX11_see 21 = .ok (.ifCond .ne 6, 3) := by decide +kernel
theorem dX11_see_24 : decode cX11_see 24 = .ok (.ldc 105, 2) := by decide +kernel
theorem dX11_see_26 : decode cX11_see 26 = .ok (.ireturn, 1) := by decide +kernel
theorem dX11_see_27 : decode cX11_see 27 = .ok (.aload_n 0, 1) := by decide +kernel
theorem dX11_see_28 : decode cX11_see 28 = .ok (.getfield 162, 3) := by decide +kernel
theorem dX11_see_31 : decode cX11_see 31 = .ok (.bipush 6, 2) := by decide +kernel
theorem dX11_see_33 : decode cX11_see 33 = .ok (.if_icmp .ne 6, 3) := by decide +kernel
theorem dX11_see_36 : decode cX11_see 36 = .ok (.ldc 109, 2) := by decide +kernel
theorem dX11_see_38 : decode cX11_see 38 = .ok (.ireturn, 1) := by decide +kernel
theorem dX11_see_39 : decode cX11_see 39 = .ok (.aload_n 0, 1) := by decide +kernel
theorem dX11_see_40 : decode cX11_see 40 = .ok (.getfield 68, 3) := by decide +kernel
theorem dX11_see_43 : decode cX11_see 43 = .ok (.aload_n 0, 1) := by decide +kernel
theorem dX11_see_44 : decode cX11_see 44 = .ok (.getfield 162, 3) := by decide +kernel
theorem dX11_see_47 : decode cX11_see 47 = .ok (.iload_n 1, 1) := by decide +kernel
theorem dX11_see_48 : decode cX11_see 48 = .ok (.iastore, 1) := by decide +kernel
theorem dX11_see_49 : decode cX11_see 49 = .ok (.aload_n 0, 1) := by decide +kernel
theorem dX11_see_50 : decode cX11_see 50 = .ok (.getfield 71, 3) := by decide +kernel
theorem dX11_see_53 : decode cX11_see 53 = .ok (.aload_n 0, 1) := by decide +kernel
theorem dX11_see_54 : decode cX11_see 54 = .ok (.getfield 162, 3) := by decide +kernel
theorem dX11_see_57 : decode cX11_see 57 = .ok (.iload_n 2, 1) := by decide +kernel
theorem dX11_see_58 : decode cX11_see 58 = .ok (.iastore, 1) := by decide +kernel
theorem dX11_see_59 : decode cX11_see 59 = .ok (.aload_n 0, 1) := by decide +kernel
theorem dX11_see_60 : decode cX11_see 60 = .ok (.dup, 1) := by decide +kernel
theorem dX11_see_61 : decode cX11_see 61 = .ok (.getfield 162, 3) := by decide +kernel
theorem dX11_see_64 : decode cX11_see 64 = .ok (.iconst 1, 1) := by decide +kernel
theorem dX11_see_65 : decode cX11_see 65 = .ok (.iadd, 1) := by decide +kernel
theorem dX11_see_66 : decode cX11_see 66 = .ok (.putfield 162, 3) := by decide +kernel
theorem dX11_see_69 : decode cX11_see 69 = .ok (.aload_n 0, 1) := by decide +kernel
theorem dX11_see_70 : decode cX11_see 70 = .ok (.getfield 162, 3) := by decide +kernel
theorem dX11_see_73 : decode cX11_see 73 = .ok (.ireturn, 1) := by decide +kernel
theorem dX11_couldBe_0 : decode cX11_couldBe 0 = .ok (.iconst 1, 1) := by decide +kernel
theorem dX11_couldBe_1 : decode cX11_couldBe 1 = .ok (.istore_n 2, 1) := by decide +kernel
theorem dX11_couldBe_2 : decode cX11_couldBe 2 = .ok (.iconst 0, 1) := by decide +kernel
theorem dX11_couldBe_3 : decode cX11_couldBe 3 = .ok (.istore_n 3, 1) := by decide +kernel
theorem dX11_couldBe_4 : decode cX11_couldBe 4 = .ok (.iload_n 3, 1) := by decide +kernel
theorem dX11_couldBe_5 : decode cX11_couldBe 5 = .ok (.aload_n 0, 1) := by decide +kernel
theorem dX11_couldBe_6 : decode cX11_couldBe 6 = .ok (.getfield 162, 3) := by decide +kernel
theorem dX11_couldBe_9 : decode cX11_couldBe 9 = .ok (.if_icmp .ge 36, 3) := by decide +kernel
theorem dX11_couldBe_12 : decode cX11_couldBe 12 = .ok (.iload_n 2, 1) := by decide +kernel
theorem dX11_couldBe_13 : decode cX11_couldBe 13 = .ok (.ifCond .eq 24, 3) := by decide +kernel
theorem dX11_couldBe_16 : decode cX11_couldBe 16 = .ok (.iload_n 1, 1) := by decide +kernel
theorem dX11_couldBe_17 : decode cX11_couldBe 17 = .ok (.aload_n 0, 1) := by decide +kernel
theorem dX11_couldBe_18 : decode cX11_couldBe 18 = .ok (.getfield 68, 3) := by decide +kernel
theorem dX11_couldBe_21 : decode cX11_couldBe 21 = .ok (.iload_n 3, 1) := by decide +kernel
theorem dX11_couldBe_22 : decode cX11_couldBe 22 = .ok (.iaload, 1) := by decide +kernel
theorem dX11_couldBe_23 : decode cX11_couldBe 23 = .ok (.idiv, 1) := by decide +kernel
theorem dX11_couldBe_24 : decode cX11_couldBe 24 = .ok (.aload_n 0, 1) := by decide +kernel
theorem dX11_couldBe_25 : decode cX11_couldBe 25 = .ok (.getfield 71, 3) := by decide +kernel
theorem dX11_couldBe_28 : decode cX11_couldBe 28 = .ok (.iload_n 3, 1) := by decide +kernel
theorem dX11_couldBe_29 : decode cX11_couldBe 29 = .ok (.iaload, 1) := by decide +kernel
theorem dX11_couldBe_30 : decode cX11_couldBe 30 = .ok (.if_icmp .ne 7, 3) := by decide +kernel
theorem dX11_couldBe_33 : decode cX11_couldBe 33 = .ok (.iconst 1, 1) := by decide +kernel
theorem dX11_couldBe_34 : decode cX11_couldBe 34 = .ok (.goto 4, 3) := by decide +kernel
theorem dX11_couldBe_37 : decode cX11_couldBe 37 = .ok (.iconst 0, 1) := by decide +kernel
theorem dX11_couldBe_38 : decode cX11_couldBe 38 = .ok (.istore_n 2, 1) := by decide +kernel
theorem dX11_couldBe_39 : decode cX11_couldBe 39 = .ok (.iinc 3 1, 3) := by decide +kernel
theorem dX11_couldBe_42 : decode cX11_couldBe 42 = .ok (.goto (-38), 3) := by decide +kernel
theorem dX11_couldBe_45 : decode cX11_couldBe 45 = .ok (.iload_n 2, 1) := by decide +kernel
theorem dX11_couldBe_46 : decode cX11_couldBe 46 = .ok (.ireturn, 1) := by decide +kernel
set_option maxRecDepth 20000 in
theorem ggX11_ages_X11_couldBe : GoodIn wsX11_ages wsX11_couldBe := goodIn_r _ [5, 6, 7, 8, 9, 10, 11, 12, 13, 14, 15, 16, 17, 18, 19, 20, 21, 22, 23, 24, 25, 26, 27, 28, 29, 30, 31, 32, 33, 34, 35, 36, 37, 38, 39, 40, 41, 42, 43, 44, 45, 46, 47, 48] (by decide +kernel) (by decide +kernel)
set_option maxRecDepth 20000 in
theorem gX11_ages_X11_couldBe : GoodIn wsX11_ages (wsV RX11 282 RX11 yX11_couldBe wsX11_couldBe) := goodIn_app (goodIn_of _ (by decide +kernel)) ggX11_ages_X11_couldBe
theorem dX11_ages_0 : decode cX11_ages 0 = .ok (.iconst 0, 1) := by decide +kernel
theorem dX11_ages_1 : decode cX11_ages 1 = .ok (.istore_n 1, 1) := by decide +kernel
theorem dX11_ages_2 : decode cX11_ages 2 = .ok (.iconst 0, 1) := by decide +kernel
theorem dX11_ages_3 : decode cX11_ages 3 = .ok (.istore_n 2, 1) := by decide +kernel
theorem dX11_ages_4 : decode cX11_ages 4 = .ok (.iload_n 2, 1) := by decide +kernel
theorem dX11_ages_5 : decode cX11_ages 5 = .ok (.bipush 31, 2) := by decide +kernel
theorem dX11_ages_7 : decode cX11_ages 7 = .ok (.if_icmp .ge 27, 3) := by decide +kernel
theorem dX11_ages_10 : decode cX11_ages 10 = .ok (.iload_n 1, 1) := by decide +kernel
theorem dX11_ages_11 : decode cX11_ages 11 = .ok (.aload_n 0, 1) := by decide +kernel
theorem dX11_ages_12 : decode cX11_ages 12 = .ok (.iload_n 2, 1) := by decide +kernel
theorem dX11_ages_13 : decode cX11_ages 13 = .ok (.invokevirtual 282, 3) := by decide +kernel
theorem dX11_ages_16 : decode cX11_ages 16 = .ok (.ifCond .eq 9, 3) := by decide +kernel
theorem dX11_ages_19 : decode cX11_ages 19 = .ok (.iconst 1, 1) := by decide +kernel
theorem dX11_ages_20 : decode cX11_ages 20 = .ok (.iload_n 2, 1) := by decide +kernel
theorem dX11_ages_21 : decode cX11_ages 21 = .ok (.ishl, 1) := by decide +kernel
theorem dX11_ages_22 : decode cX11_ages 22 = .ok (.goto 4, 3) := by decide +kernel
theorem dX11_ages_25 : decode cX11_ages 25 = .ok (.iconst 0, 1) := by decide +kernel
theorem dX11_ages_26 : decode cX11_ages 26 = .ok (.ior, 1) := by decide +kernel
theorem dX11_ages_27 : decode cX11_ages 27 = .ok (.istore_n 1, 1) := by decide +kernel
theorem dX11_ages_28 : decode cX11_ages 28 = .ok (.iinc 2 1, 3) := by decide +kernel
theorem dX11_ages_31 : decode cX11_ages 31 = .ok (.goto (-27), 3) := by decide +kernel
theorem dX11_ages_34 : decode cX11_ages 34 = .ok (.iload_n 1, 1) := by decide +kernel
theorem dX11_ages_35 : decode cX11_ages 35 = .ok (.ireturn, 1) := by decide +kernel
set_option maxRecDepth 20000 in
theorem ggX11_greatestPart_X11_couldBe : GoodIn wsX11_greatestPart wsX11_couldBe := goodIn_r _ [6, 7, 8, 9, 10, 11, 12, 13, 14, 15, 16, 17, 18, 19, 20, 21, 22, 23, 24, 25, 26, 27, 28, 29, 30, 31, 32, 33, 34, 35, 36, 37, 38, 39, 40, 41, 42, 43, 44, 45, 46, 47, 48, 49] (by decide +kernel) (by decide +kernel)
set_option maxRecDepth 20000 in
theorem gX11_greatestPart_X11_couldBe : GoodIn wsX11_greatestPart (wsV RX11 282 RX11 yX11_couldBe wsX11_couldBe) := goodIn_app (goodIn_of _ (by decide +kernel)) ggX11_greatestPart_X11_couldBe
theorem dX11_greatestPart_0 : decode cX11_greatestPart 0 = .ok (.iconst 0, 1) := by decide +kernel
theorem dX11_greatestPart_1 : decode cX11_greatestPart 1 = .ok (.istore_n 2, 1) := by decide +kernel
theorem dX11_greatestPart_2 : decode cX11_greatestPart 2 = .ok (.iconst 0, 1) := by decide +kernel
theorem dX11_greatestPart_3 : decode cX11_greatestPart 3 = .ok (.istore_n 3, 1) := by decide +kernel
theorem dX11_greatestPart_4 : decode cX11_greatestPart 4 = .ok (.iload_n 3, 1) := by decide +kernel
theorem dX11_greatestPart_5 : decode cX11_greatestPart 5 = .ok (.bipush 31, 2) := by decide +kernel
theorem dX11_greatestPart_7 : decode cX11_greatestPart 7 = .ok (.if_icmp .ge 16, 3) := by decide +kernel
theorem dX11_greatestPart_10 : decode cX11_greatestPart 10 = .ok (.aload_n 0, 1) := by decide +kernel
theorem dX11_greatestPart_11 : decode cX11_greatestPart 11 = .ok (.getfield 74, 3) := by decide +kernel
theorem dX11_greatestPart_14 : decode cX11_greatestPart 14 = .ok (.iload_n 3, 1) := by decide +kernel
theorem dX11_greatestPart_15 : decode cX11_greatestPart 15 = .ok (.iconst 0, 1) := by decide +kernel
theorem dX11_greatestPart_16 : decode cX11_greatestPart 16 = .ok (.iastore, 1) := by decide +kernel
theorem dX11_greatestPart_17 : decode cX11_greatestPart 17 = .ok (.iinc 3 1, 3) := by decide +kernel
theorem dX11_greatestPart_20 : decode cX11_greatestPart 20 = .ok (.goto (-16), 3) := by decide +kernel
theorem dX11_greatestPart_23 : decode cX11_greatestPart 23 = .ok (.iconst 0, 1) := by decide +kernel
theorem dX11_greatestPart_24 : decode cX11_greatestPart 24 = .ok (.istore_n 3, 1) := by decide +kernel
theorem dX11_greatestPart_25 : decode cX11_greatestPart 25 = .ok (.iload_n 3, 1) := by decide +kernel
theorem dX11_greatestPart_26 : decode cX11_greatestPart 26 = .ok (.bipush 31, 2) := by decide +kernel
theorem dX11_greatestPart_28 : decode cX11_greatestPart 28 = .ok (.if_icmp .ge 54, 3) := by decide +kernel
theorem dX11_greatestPart_31 : decode cX11_greatestPart 31 = .ok (.aload_n 0, 1) := by decide +kernel
theorem dX11_greatestPart_32 : decode cX11_greatestPart 32 = .ok (.iload_n 3, 1) := by decide +kernel
theorem dX11_greatestPart_33 : decode cX11_greatestPart 33 = .ok (.invokevirtual 282, 3) := by decide +kernel
theorem dX11_greatestPart_36 : decode cX11_greatestPart 36 = .ok (.ifCond .eq 40, 3) := by decide +kernel
theorem dX11_greatestPart_39 : decode cX11_greatestPart 39 = .ok (.aload_n 0, 1) := by decide +kernel
theorem dX11_greatestPart_40 : decode cX11_greatestPart 40 = .ok (.getfield 74, 3) := by decide +kernel
theorem dX11_greatestPart_43 : decode cX11_greatestPart 43 = .ok (.iload_n 3, 1) := by decide +kernel
theorem dX11_greatestPart_44 : decode cX11_greatestPart 44 = .ok (.iload_n 1, 1) := by decide +kernel
theorem dX11_greatestPart_45 : decode cX11_greatestPart 45 = .ok (.idiv, 1) := by decide +kernel
theorem dX11_greatestPart_46 : decode cX11_greatestPart 46 = .ok (.dup2, 1) := by decide +kernel
theorem dX11_greatestPart_47 : decode cX11_greatestPart 47 = .ok (.iaload, 1) := by decide +kernel
theorem dX11_greatestPart_48 : decode cX11_greatestPart 48 = .ok (.iconst 1, 1) := by decide +kernel
theorem dX11_greatestPart_49 : decode cX11_greatestPart 49 = .ok (.iadd, 1) := by decide +kernel
theorem dX11_greatestPart_50 : decode cX11_greatestPart 50 = .ok (.iastore, 1) := by decide +kernel
theorem dX11_greatestPart_51 : decode cX11_greatestPart 51 = .ok (.aload_n 0, 1) := by decide +kernel
theorem dX11_greatestPart_52 : decode cX11_greatestPart 52 = .ok (.getfield 74, 3) := by decide +kernel
theorem dX11_greatestPart_55 : decode cX11_greatestPart 55 = .ok (.iload_n 3, 1) := by decide +kernel
theorem dX11_greatestPart_56 : decode cX11_greatestPart 56 = .ok (.iload_n 1, 1) := by decide +kernel
theorem dX11_greatestPart_57 : decode cX11_greatestPart 57 = .ok (.idiv, 1) := by decide +kernel
theorem dX11_greatestPart_58 : decode cX11_greatestPart 58 = .ok (.iaload, 1) := by decide +kernel
theorem dX11_greatestPart_59 : decode cX11_greatestPart 59 = .ok (.iload_n 2, 1) := by decide +kernel
theorem dX11_greatestPart_60 : decode cX11_greatestPart 60 = .ok (.if_icmp .le 14, 3) := by decide +kernel
theorem dX11_greatestPart_63 : decode cX11_greatestPart 63 = .ok (.aload_n 0, 1) := by decide +kernel
theorem dX11_greatestPart_64 : decode cX11_greatestPart 64 = .ok (.getfield 74, 3) := by decide +kernel
theorem dX11_greatestPart_67 : decode cX11_greatestPart 67 = .ok (.iload_n 3, 1) := by decide +kernel
theorem dX11_greatestPart_68 : decode cX11_greatestPart 68 = .ok (.iload_n 1, 1) := by decide +kernel
theorem dX11_greatestPart_69 : decode cX11_greatestPart 69 = .ok (.idiv, 1) := by decide +kernel
theorem dX11_greatestPart_70 : decode cX11_greatestPart 70 = .ok (.iaload, 1) := by decide +kernel
theorem dX11_greatestPart_71 : decode cX11_greatestPart 71 = .ok (.goto 4, 3) := by decide +kernel
theorem dX11_greatestPart_74 : decode cX11_greatestPart 74 = .ok (.iload_n 2, 1) := by decide +kernel
theorem dX11_greatestPart_75 : decode cX11_greatestPart 75 = .ok (.istore_n 2, 1) := by decide +kernel
theorem dX11_greatestPart_76 : decode cX11_greatestPart 76 = .ok (.iinc 3 1, 3) := by decide +kernel
theorem dX11_greatestPart_79 : decode cX11_greatestPart 79 = .ok (.goto (-54), 3) := by decide +kernel
theorem dX11_greatestPart_82 : decode cX11_greatestPart 82 = .ok (.iload_n 2, 1) := by decide +kernel
theorem dX11_greatestPart_83 : decode cX11_greatestPart 83 = .ok (.ireturn, 1) := by decide +kernel
set_option maxRecDepth 20000 in
theorem ggX11_testNext_X11_couldBe : GoodIn wsX11_testNext wsX11_couldBe := goodIn_r _ [5, 6, 7, 8, 14, 15, 16, 17, 18, 19, 20, 21, 22, 23, 24, 25, 26, 27, 28, 29, 30, 31, 32, 33, 34, 35, 36, 37, 38, 39, 40, 41, 42, 43, 44, 45, 46, 47, 48, 49, 50, 51, 52, 53] (by decide +kernel) (by decide +kernel)
set_option maxRecDepth 20000 in
theorem gX11_testNext_X11_couldBe : GoodIn wsX11_testNext (wsV RX11 282 RX11 yX11_couldBe wsX11_couldBe) := goodIn_app (goodIn_of _ (by decide +kernel)) ggX11_testNext_X11_couldBe
set_option maxRecDepth 20000 in
theorem ggX11_testNext_X11_greatestPart : GoodIn wsX11_testNext wsX11_greatestPart := goodIn_r _ [12, 13, 1, 2, 3, 4, 5, 6, 7, 8, 14, 15, 16, 17, 18, 19, 20, 21, 22, 23, 24, 25, 26, 27, 28, 29, 30, 31, 32, 33, 34, 35, 36, 37, 38, 39, 40, 41, 42, 43, 44, 45, 46, 47, 48, 49, 50, 51, 52, 53] (by decide +kernel) (by decide +kernel)
set_option maxRecDepth 20000 in
theorem gX11_testNext_X11_greatestPart : GoodIn wsX11_testNext (wsV RX11 285 RX11 yX11_greatestPart wsX11_greatestPart) := goodIn_app (goodIn_of _ (by decide +kernel)) ggX11_testNext_X11_greatestPart
theorem dX11_testNext_0 : decode cX11_testNext 0 = .ok (.iconst (-1), 1) := by decide +kernel
theorem dX11_testNext_1 : decode cX11_testNext 1 = .ok (.istore_n 1, 1) := by decide +kernel
theorem dX11_testNext_2 : decode cX11_testNext 2 = .ok (.iconst 0, 1) := by decide +kernel
theorem dX11_testNext_3 : decode cX11_testNext 3 = .ok (.istore_n 2, 1) := by decide +kernel
theorem dX11_testNext_4 : decode cX11_testNext 4 = .ok (.iconst 0, 1) := by decide +kernel
theorem dX11_testNext_5 : decode cX11_testNext 5 = .ok (.istore_n 3, 1) := by decide +kernel
theorem dX11_testNext_6 : decode cX11_testNext 6 = .ok (.iload_n 3, 1) := by decide +kernel
theorem dX11_testNext_7 : decode cX11_testNext 7 = .ok (.bipush 31, 2) := by decide +kernel
theorem dX11_testNext_9 : decode cX11_testNext 9 = .ok (.if_icmp .ge 25, 3) := by decide +kernel
theorem dX11_testNext_12 : decode cX11_testNext 12 = .ok (.iload_n 2, 1) := by decide +kernel
theorem dX11_testNext_13 : decode cX11_testNext 13 = .ok (.aload_n 0, 1) := by decide +kernel
theorem dX11_testNext_14 : decode cX11_testNext 14 = .ok (.iload_n 3, 1) := by decide +kernel
theorem dX11_testNext_15 : decode cX11_testNext 15 = .ok (.invokevirtual 282, 3) := by decide +kernel
theorem dX11_testNext_18 : decode cX11_testNext 18 = .ok (.ifCond .eq 7, 3) := by decide +kernel
theorem dX11_testNext_21 : decode cX11_testNext 21 = .ok (.iconst 1, 1) := by decide +kernel
theorem dX11_testNext_22 : decode cX11_testNext 22 = .ok (.goto 4, 3) := by decide +kernel
theorem dX11_testNext_25 : decode cX11_testNext 25 = .ok (.iconst 0, 1) := by decide +kernel
theorem dX11_testNext_26 : decode cX11_testNext 26 = .ok (.iadd, 1) := by decide +kernel
theorem dX11_testNext_27 : decode cX11_testNext 27 = .ok (.istore_n 2, 1) := by decide +kernel
theorem dX11_testNext_28 : decode cX11_testNext 28 = .ok (.iinc 3 1, 3) := by decide +kernel
theorem dX11_testNext_31 : decode cX11_testNext 31 = .ok (.goto (-25), 3) := by decide +kernel
theorem dX11_testNext_34 : decode cX11_testNext 34 = .ok (.iconst 1, 1) := by decide +kernel
theorem dX11_testNext_35 : decode cX11_testNext 35 = .ok (.istore_n 3, 1) := by decide +kernel
theorem dX11_testNext_36 : decode cX11_testNext 36 = .ok (.iload_n 3, 1) := by decide +kernel
theorem dX11_testNext_37 : decode cX11_testNext 37 = .ok (.bipush 10, 2) := by decide +kernel
theorem dX11_testNext_39 : decode cX11_testNext 39 = .ok (.if_icmp .ge 41, 3) := by decide +kernel
theorem dX11_testNext_42 : decode cX11_testNext 42 = .ok (.aload_n 0, 1) := by decide +kernel
theorem dX11_testNext_43 : decode cX11_testNext 43 = .ok (.iload_n 3, 1) := by decide +kernel
theorem dX11_testNext_44 : decode cX11_testNext 44 = .ok (.invokevirtual 285, 3) := by decide +kernel
theorem dX11_testNext_47 : decode cX11_testNext 47 = .ok (.istore 4, 2) := by decide +kernel
theorem dX11_testNext_49 : decode cX11_testNext 49 = .ok (.iload 4, 2) := by decide +kernel
theorem dX11_testNext_51 : decode cX11_testNext 51 = .ok (.iload_n 2, 1) := by decide +kernel
theorem dX11_testNext_52 : decode cX11_testNext 52 = .ok (.if_icmp .ge 7, 3) := by decide +kernel
theorem dX11_testNext_55 : decode cX11_testNext 55 = .ok (.iload_n 3, 1) := by decide +kernel
theorem dX11_testNext_56 : decode cX11_testNext 56 = .ok (.goto 4, 3) := by decide +kernel
theorem dX11_testNext_59 : decode cX11_testNext 59 = .ok (.iload_n 1, 1) := by decide +kernel
theorem dX11_testNext_60 : decode cX11_testNext 60 = .ok (.istore_n 1, 1) := by decide +kernel
theorem dX11_testNext_61 : decode cX11_testNext 61 = .ok (.iload 4, 2) := by decide +kernel
theorem dX11_testNext_63 : decode cX11_testNext 63 = .ok (.iload_n 2, 1) := by decide +kernel
theorem dX11_testNext_64 : decode cX11_testNext 64 = .ok (.if_icmp .ge 8, 3) := by decide +kernel
theorem dX11_testNext_67 : decode cX11_testNext 67 = .ok (.iload 4, 2) := by decide +kernel
theorem dX11_testNext_69 : decode cX11_testNext 69 = .ok (.goto 4, 3) := by decide +kernel
theorem dX11_testNext_72 : decode cX11_testNext 72 = .ok (.iload_n 2, 1) := by decide +kernel
theorem dX11_testNext_73 : decode cX11_testNext 73 = .ok (.istore_n 2, 1) := by decide +kernel
theorem dX11_testNext_74 : decode cX11_testNext 74 = .ok (.iinc 3 1, 3) := by decide +kernel
theorem dX11_testNext_77 : decode cX11_testNext 77 = .ok (.goto (-41), 3) := by decide +kernel
theorem dX11_testNext_80 : decode cX11_testNext 80 = .ok (.iload_n 1, 1) := by decide +kernel
theorem dX11_testNext_81 : decode cX11_testNext 81 = .ok (.ireturn, 1) := by decide +kernel
set_option maxRecDepth 20000 in
theorem ggX11_write_X11_isEgg : GoodIn wsX11_write wsX11_isEgg := goodIn_r _ [12, 13, 14, 15, 11, 16, 17, 18, 19, 20, 21, 22, 23, 24, 25, 26, 27, 28, 29, 30, 31, 32, 33, 34, 35, 36, 37, 38, 39, 40, 41, 42, 43, 44, 45, 46, 47, 48, 49, 50, 51, 52, 53, 54, 55, 56] (by decide +kernel) (by decide +kernel)
set_option maxRecDepth 20000 in
theorem gX11_write_X11_isEgg : GoodIn wsX11_write (wsV RX11 196 RX11 yX11_isEgg wsX11_isEgg) := goodIn_app (goodIn_of _ (by decide +kernel)) ggX11_write_X11_isEgg
set_option maxRecDepth 20000 in
theorem ggX11_write_X11_in : GoodIn wsX11_write wsX11_in := goodIn_r _ [16] (by decide +kernel) (by decide +kernel)
set_option maxRecDepth 20000 in
theorem gX11_write_X11_in : GoodIn wsX11_write (va_wsS RX11 96 yX11_in wsX11_in) := goodIn_app (goodIn_of _ (by decide +kernel)) ggX11_write_X11_in
theorem dX11_write_0 : decode cX11_write 0 = .ok (.aload_n 0, 1) := by decide +kernel
theorem dX11_write_1 : decode cX11_write 1 = .ok (.iload_n 1, 1) := by decide +kernel
theorem dX11_write_2 : decode cX11_write 2 = .ok (.invokevirtual 196, 3) := by decide +kernel
theorem dX11_write_5 : decode cX11_write 5 = .ok (.ifCond .ne 6, 3) := by decide +kernel
theorem dX11_write_8 : decode cX11_write 8 = .ok (.ldc 200, 2) := by decide +kernel
theorem dX11_write_10 : decode cX11_write 10 = .ok (.ireturn, 1) := by decide +kernel
theorem dX11_write_11 : decode cX11_write 11 = .ok (.iload_n 2, 1) := by decide +kernel
theorem dX11_write_12 : decode cX11_write 12 = .ok (.i2l, 1) := by decide +kernel
theorem dX11_write_13 : decode cX11_write 13 = .ok (.lconst 0, 1) := by decide +kernel
theorem dX11_write_14 : decode cX11_write 14 = .ok (.ldc2_w 288, 3) := by decide +kernel
theorem dX11_write_17 : decode cX11_write 17 = .ok (.invokestatic 96, 3) := by decide +kernel
theorem dX11_write_20 : decode cX11_write 20 = .ok (.ifCond .ne 6, 3) := by decide +kernel
theorem dX11_write_23 : decode cX11_write 23 = .ok (.ldc 105, 2) := by decide +kernel
theorem dX11_write_25 : decode cX11_write 25 = .ok (.ireturn, 1) := by decide +kernel
theorem dX11_write_26 : decode cX11_write 26 = .ok (.aload_n 0, 1) := by decide +kernel
theorem dX11_write_27 : decode cX11_write 27 = .ok (.getfield 165, 3) := by decide +kernel
theorem dX11_write_30 : decode cX11_write 30 = .ok (.bipush 15, 2) := by decide +kernel
theorem dX11_write_32 : decode cX11_write 32 = .ok (.if_icmp .ne 6, 3) := by decide +kernel
theorem dX11_write_35 : decode cX11_write 35 = .ok (.ldc 109, 2) := by decide +kernel
theorem dX11_write_37 : decode cX11_write 37 = .ok (.ireturn, 1) := by decide +kernel
theorem dX11_write_38 : decode cX11_write 38 = .ok (.aload_n 0, 1) := by decide +kernel
theorem dX11_write_39 : decode cX11_write 39 = .ok (.getfield 77, 3) := by decide +kernel
theorem dX11_write_42 : decode cX11_write 42 = .ok (.aload_n 0, 1) := by decide +kernel
theorem dX11_write_43 : decode cX11_write 43 = .ok (.getfield 165, 3) := by decide +kernel
theorem dX11_write_46 : decode cX11_write 46 = .ok (.iload_n 1, 1) := by decide +kernel
theorem dX11_write_47 : decode cX11_write 47 = .ok (.iastore, 1) := by decide +kernel
theorem dX11_write_48 : decode cX11_write 48 = .ok (.aload_n 0, 1) := by decide +kernel
theorem dX11_write_49 : decode cX11_write 49 = .ok (.getfield 80, 3) := by decide +kernel
theorem dX11_write_52 : decode cX11_write 52 = .ok (.aload_n 0, 1) := by decide +kernel
theorem dX11_write_53 : decode cX11_write 53 = .ok (.getfield 165, 3) := by decide +kernel
theorem dX11_write_56 : decode cX11_write 56 = .ok (.iload_n 2, 1) := by decide +kernel
theorem dX11_write_57 : decode cX11_write 57 = .ok (.iastore, 1) := by decide +kernel
theorem dX11_write_58 : decode cX11_write 58 = .ok (.aload_n 0, 1) := by decide +kernel
theorem dX11_write_59 : decode cX11_write 59 = .ok (.dup, 1) := by decide +kernel
theorem dX11_write_60 : decode cX11_write 60 = .ok (.getfield 165, 3) := by decide +kernel
theorem dX11_write_63 : decode cX11_write 63 = .ok (.iconst 1, 1) := by decide +kernel
theorem dX11_write_64 : decode cX11_write 64 = .ok (.iadd, 1) := by decide +kernel
theorem dX11_write_65 : decode cX11_write 65 = .ok (.putfield 165, 3) := by decide +kernel
theorem dX11_write_68 : decode cX11_write 68 = .ok (.aload_n 0, 1) := by decide +kernel
theorem dX11_write_69 : decode cX11_write 69 = .ok (.getfield 165, 3) := by decide +kernel
theorem dX11_write_72 : decode cX11_write 72 = .ok (.ireturn, 1) := by decide +kernel
theorem dX11_tear_0 : decode cX11_tear 0 = .ok (.aload_n 0, 1) := by decide +kernel
theorem dX11_tear_1 : decode cX11_tear 1 = .ok (.getfield 162, 3) := by decide +kernel
theorem dX11_tear_4 : decode cX11_tear 4 = .ok (.aload_n 0, 1) := by decide +kernel
theorem dX11_tear_5 : decode cX11_tear 5 = .ok (.getfield 165, 3) := by decide +kernel
theorem dX11_tear_8 : decode cX11_tear 8 = .ok (.iadd, 1) := by decide +kernel
theorem dX11_tear_9 : decode cX11_tear 9 = .ok (.istore_n 1, 1) := by decide +kernel
theorem dX11_tear_10 : decode cX11_tear 10 = .ok (.aload_n 0, 1) := by decide +kernel
theorem dX11_tear_11 : decode cX11_tear 11 = .ok (.iconst 0, 1) := by decide +kernel
theorem dX11_tear_12 : decode cX11_tear 12 = .ok (.putfield 162, 3) := by decide +kernel
theorem dX11_tear_15 : decode cX11_tear 15 = .ok (.aload_n 0, 1) := by decide +kernel
theorem dX11_tear_16 : decode cX11_tear 16 = .ok (.iconst 0, 1) := by decide +kernel
theorem dX11_tear_17 : decode cX11_tear 17 = .ok (.putfield 165, 3) := by decide +kernel
theorem dX11_tear_20 : decode cX11_tear 20 = .ok (.iload_n 1, 1) := by decide +kernel
theorem dX11_tear_21 : decode cX11_tear 21 = .ok (.ireturn, 1) := by decide +kernel
theorem dX11_judge_0 : decode cX11_judge 0 = .ok (.iconst 0, 1) := by decide +kernel
theorem dX11_judge_1 : decode cX11_judge 1 = .ok (.istore_n 1, 1) := by decide +kernel
theorem dX11_judge_2 : decode cX11_judge 2 = .ok (.iload_n 1, 1) := by decide +kernel
theorem dX11_judge_3 : decode cX11_judge 3 = .ok (.aload_n 0, 1) := by decide +kernel
theorem dX11_judge_4 : decode cX11_judge 4 = .ok (.getfield 165, 3) := by decide +kernel
theorem dX11_judge_7 : decode cX11_judge 7 = .ok (.if_icmp .ge 31, 3) := by decide +kernel
theorem dX11_judge_10 : decode cX11_judge 10 = .ok (.aload_n 0, 1) := by decide +kernel
theorem dX11_judge_11 : decode cX11_judge 11 = .ok (.getfield 25, 3) := by decide +kernel
theorem dX11_judge_14 : decode cX11_judge 14 = .ok (.aload_n 0, 1) := by decide +kernel
theorem dX11_judge_15 : decode cX11_judge 15 = .ok (.getfield 77, 3) := by decide +kernel
theorem dX11_judge_18 : decode cX11_judge 18 = .ok (.iload_n 1, 1) := by decide +kernel
theorem dX11_judge_19 : decode cX11_judge 19 = .ok (.iaload, 1) := by decide +kernel
theorem dX11_judge_20 : decode cX11_judge 20 = .ok (.iaload, 1) := by decide +kernel
theorem dX11_judge_21 : decode cX11_judge 21 = .ok (.aload_n 0, 1) := by decide +kernel
theorem dX11_judge_22 : decode cX11_judge 22 = .ok (.getfield 80, 3) := by decide +kernel
theorem dX11_judge_25 : decode cX11_judge 25 = .ok (.iload_n 1, 1) := by decide +kernel
theorem dX11_judge_26 : decode cX11_judge 26 = .ok (.iaload, 1) := by decide +kernel
theorem dX11_judge_27 : decode cX11_judge 27 = .ok (.if_icmp .eq 5, 3) := by decide +kernel
theorem dX11_judge_30 : decode cX11_judge 30 = .ok (.iload_n 1, 1) := by decide +kernel
theorem dX11_judge_31 : decode cX11_judge 31 = .ok (.ireturn, 1) := by decide +kernel
theorem dX11_judge_32 : decode cX11_judge 32 = .ok (.iinc 1 1, 3) := by decide +kernel
theorem dX11_judge_35 : decode cX11_judge 35 = .ok (.goto (-33), 3) := by decide +kernel
theorem dX11_judge_38 : decode cX11_judge 38 = .ok (.iconst (-1), 1) := by decide +kernel
theorem dX11_judge_39 : decode cX11_judge 39 = .ok (.ireturn, 1) := by decide +kernel
theorem dX11_seed_0 : decode cX11_seed 0 = .ok (.iload_n 1, 1) := by decide +kernel
theorem dX11_seed_1 : decode cX11_seed 1 = .ok (.ifCond .ge 6, 3) := by decide +kernel
theorem dX11_seed_4 : decode cX11_seed 4 = .ok (.ldc 105, 2) := by decide +kernel
theorem dX11_seed_6 : decode cX11_seed 6 = .ok (.ireturn, 1) := by decide +kernel
theorem dX11_seed_7 : decode cX11_seed 7 = .ok (.aload_n 0, 1) := by decide +kernel
theorem dX11_seed_8 : decode cX11_seed 8 = .ok (.getfield 231, 3) := by decide +kernel
theorem dX11_seed_11 : decode cX11_seed 11 = .ok (.istore_n 2, 1) := by decide +kernel
theorem dX11_seed_12 : decode cX11_seed 12 = .ok (.aload_n 0, 1) := by decide +kernel
theorem dX11_seed_13 : decode cX11_seed 13 = .ok (.iload_n 1, 1) := by decide +kernel
theorem dX11_seed_14 : decode cX11_seed 14 = .ok (.putfield 231, 3) := by decide +kernel
theorem dX11_seed_17 : decode cX11_seed 17 = .ok (.iload_n 2, 1) := by decide +kernel
theorem dX11_seed_18 : decode cX11_seed 18 = .ok (.ireturn, 1) := by decide +kernel
set_option maxRecDepth 20000 in
theorem ggX11_keep_X11_in : GoodIn wsX11_keep wsX11_in := goodIn_r _ [10] (by decide +kernel) (by decide +kernel)
set_option maxRecDepth 20000 in
theorem gX11_keep_X11_in : GoodIn wsX11_keep (va_wsS RX11 96 yX11_in wsX11_in) := goodIn_app (goodIn_of _ (by decide +kernel)) ggX11_keep_X11_in
theorem dX11_keep_0 : decode cX11_keep 0 = .ok (.iload_n 1, 1) := by decide +kernel
theorem dX11_keep_1 : decode cX11_keep 1 = .ok (.i2l, 1) := by decide +kernel
theorem dX11_keep_2 : decode cX11_keep 2 = .ok (.lconst 0, 1) := by decide +kernel
theorem dX11_keep_3 : decode cX11_keep 3 = .ok (.lconst 1, 1) := by decide +kernel
theorem dX11_keep_4 : decode cX11_keep 4 = .ok (.invokestatic 96, 3) := by decide +kernel
theorem dX11_keep_7 : decode cX11_keep 7 = .ok (.ifCond .ne 6, 3) := by decide +kernel
theorem dX11_keep_10 : decode cX11_keep 10 = .ok (.ldc 200, 2) := by decide +kernel
theorem dX11_keep_12 : decode cX11_keep 12 = .ok (.ireturn, 1) := by decide +kernel
theorem dX11_keep_13 : decode cX11_keep 13 = .ok (.iconst 0, 1) := by decide +kernel
theorem dX11_keep_14 : decode cX11_keep 14 = .ok (.istore_n 2, 1) := by decide +kernel
theorem dX11_keep_15 : decode cX11_keep 15 = .ok (.iload_n 2, 1) := by decide +kernel
theorem dX11_keep_16 : decode cX11_keep 16 = .ok (.bipush 19, 2) := by decide +kernel
theorem dX11_keep_18 : decode cX11_keep 18 = .ok (.if_icmp .ge 26, 3) := by decide +kernel
theorem dX11_keep_21 : decode cX11_keep 21 = .ok (.aload_n 0, 1) := by decide +kernel
theorem dX11_keep_22 : decode cX11_keep 22 = .ok (.getfield 83, 3) := by decide +kernel
theorem dX11_keep_25 : decode cX11_keep 25 = .ok (.bipush 20, 2) := by decide +kernel
theorem dX11_keep_27 : decode cX11_keep 27 = .ok (.iload_n 1, 1) := by decide +kernel
theorem dX11_keep_28 : decode cX11_keep 28 = .ok (.imul, 1) := by decide +kernel
theorem dX11_keep_29 : decode cX11_keep 29 = .ok (.iload_n 2, 1) := by decide +kernel
theorem dX11_keep_30 : decode cX11_keep 30 = .ok (.iadd, 1) := by decide +kernel
theorem dX11_keep_31 : decode cX11_keep 31 = .ok (.aload_n 0, 1) := by decide +kernel
theorem dX11_keep_32 : decode cX11_keep 32 = .ok (.getfield 25, 3) := by decide +kernel
theorem dX11_keep_35 : decode cX11_keep 35 = .ok (.iload_n 2, 1) := by decide +kernel
theorem dX11_keep_36 : decode cX11_keep 36 = .ok (.iaload, 1) := by decide +kernel
theorem dX11_keep_37 : decode cX11_keep 37 = .ok (.iastore, 1) := by decide +kernel
theorem dX11_keep_38 : decode cX11_keep 38 = .ok (.iinc 2 1, 3) := by decide +kernel
theorem dX11_keep_41 : decode cX11_keep 41 = .ok (.goto (-26), 3) := by decide +kernel
theorem dX11_keep_44 : decode cX11_keep 44 = .ok (.aload_n 0, 1) := by decide +kernel
theorem dX11_keep_45 : decode cX11_keep 45 = .ok (.getfield 83, 3) := by decide +kernel
theorem dX11_keep_48 : decode cX11_keep 48 = .ok (.bipush 20, 2) := by decide +kernel
theorem dX11_keep_50 : decode cX11_keep 50 = .ok (.iload_n 1, 1) := by decide +kernel
theorem dX11_keep_51 : decode cX11_keep 51 = .ok (.imul, 1) := by decide +kernel
theorem dX11_keep_52 : decode cX11_keep 52 = .ok (.bipush 19, 2) := by decide +kernel
theorem dX11_keep_54 : decode cX11_keep 54 = .ok (.iadd, 1) := by decide +kernel
theorem dX11_keep_55 : decode cX11_keep 55 = .ok (.aload_n 0, 1) := by decide +kernel
theorem dX11_keep_56 : decode cX11_keep 56 = .ok (.getfield 231, 3) := by decide +kernel
theorem dX11_keep_59 : decode cX11_keep 59 = .ok (.iastore, 1) := by decide +kernel
theorem dX11_keep_60 : decode cX11_keep 60 = .ok (.aload_n 0, 1) := by decide +kernel
theorem dX11_keep_61 : decode cX11_keep 61 = .ok (.getfield 86, 3) := by decide +kernel
theorem dX11_keep_64 : decode cX11_keep 64 = .ok (.iload_n 1, 1) := by decide +kernel
theorem dX11_keep_65 : decode cX11_keep 65 = .ok (.iconst 1, 1) := by decide +kernel
theorem dX11_keep_66 : decode cX11_keep 66 = .ok (.bastore, 1) := by decide +kernel
theorem dX11_keep_67 : decode cX11_keep 67 = .ok (.aload_n 0, 1) := by decide +kernel
theorem dX11_keep_68 : decode cX11_keep 68 = .ok (.iconst 0, 1) := by decide +kernel
theorem dX11_keep_69 : decode cX11_keep 69 = .ok (.putfield 168, 3) := by decide +kernel
theorem dX11_keep_72 : decode cX11_keep 72 = .ok (.iconst 1, 1) := by decide +kernel
theorem dX11_keep_73 : decode cX11_keep 73 = .ok (.ireturn, 1) := by decide +kernel
set_option maxRecDepth 20000 in
theorem ggX11_goBack_X11_in : GoodIn wsX11_goBack wsX11_in := goodIn_r _ [11] (by decide +kernel) (by decide +kernel)
set_option maxRecDepth 20000 in
theorem gX11_goBack_X11_in : GoodIn wsX11_goBack (va_wsS RX11 96 yX11_in wsX11_in) := goodIn_app (goodIn_of _ (by decide +kernel)) ggX11_goBack_X11_in
theorem dX11_goBack_0 : decode cX11_goBack 0 = .ok (.iload_n 1, 1) := by decide +kernel
theorem dX11_goBack_1 : decode cX11_goBack 1 = .ok (.i2l, 1) := by decide +kernel
theorem dX11_goBack_2 : decode cX11_goBack 2 = .ok (.lconst 0, 1) := by decide +kernel
theorem dX11_goBack_3 : decode cX11_goBack 3 = .ok (.lconst 1, 1) := by decide +kernel
theorem dX11_goBack_4 : decode cX11_goBack 4 = .ok (.invokestatic 96, 3) := by decide +kernel
theorem dX11_goBack_7 : decode cX11_goBack 7 = .ok (.ifCond .ne 6, 3) := by decide +kernel
theorem dX11_goBack_10 : decode cX11_goBack 10 = .ok (.ldc 200, 2) := by decide +kernel
theorem dX11_goBack_12 : decode cX11_goBack 12 = .ok (.ireturn, 1) := by decide +kernel
theorem dX11_goBack_13 : decode cX11_goBack 13 = .ok (.aload_n 0, 1) := by decide +kernel
theorem dX11_goBack_14 : decode cX11_goBack 14 = .ok (.getfield 86, 3) := by decide +kernel
theorem dX11_goBack_17 : decode cX11_goBack 17 = .ok (.iload_n 1, 1) := by decide +kernel
theorem dX11_goBack_18 : decode cX11_goBack 18 = .ok (.baload, 1) := by decide +kernel
theorem dX11_goBack_19 : decode cX11_goBack 19 = .ok (.ifCond .ne 6, 3) := by decide +kernel
theorem dX11_goBack_22 : decode cX11_goBack 22 = .ok (.ldc 206, 2) := by decide +kernel
theorem dX11_goBack_24 : decode cX11_goBack 24 = .ok (.ireturn, 1) := by decide +kernel
theorem dX11_goBack_25 : decode cX11_goBack 25 = .ok (.iconst 0, 1) := by decide +kernel
theorem dX11_goBack_26 : decode cX11_goBack 26 = .ok (.istore_n 2, 1) := by decide +kernel
theorem dX11_goBack_27 : decode cX11_goBack 27 = .ok (.iload_n 2, 1) := by decide +kernel
theorem dX11_goBack_28 : decode cX11_goBack 28 = .ok (.bipush 19, 2) := by decide +kernel
theorem dX11_goBack_30 : decode cX11_goBack 30 = .ok (.if_icmp .ge 26, 3) := by decide +kernel
theorem dX11_goBack_33 : decode cX11_goBack 33 = .ok (.aload_n 0, 1) := by decide +kernel
theorem dX11_goBack_34 : decode cX11_goBack 34 = .ok (.getfield 25, 3) := by decide +kernel
theorem dX11_goBack_37 : decode cX11_goBack 37 = .ok (.iload_n 2, 1) := by decide +kernel
theorem dX11_goBack_38 : decode cX11_goBack 38 = .ok (.aload_n 0, 1) := by decide +kernel
theorem dX11_goBack_39 : decode cX11_goBack 39 = .ok (.getfield 83, 3) := by decide +kernel
theorem dX11_goBack_42 : decode cX11_goBack 42 = .ok (.bipush 20, 2) := by decide +kernel
theorem dX11_goBack_44 : decode cX11_goBack 44 = .ok (.iload_n 1, 1) := by decide +kernel
theorem dX11_goBack_45 : decode cX11_goBack 45 = .ok (.imul, 1) := by decide +kernel
theorem dX11_goBack_46 : decode cX11_goBack 46 = .ok (.iload_n 2, 1) := by decide +kernel
theorem dX11_goBack_47 : decode cX11_goBack 47 = .ok (.iadd, 1) := by decide +kernel
theorem dX11_goBack_48 : decode cX11_goBack 48 = .ok (.iaload, 1) := by decide +kernel
theorem dX11_goBack_49 : decode cX11_goBack 49 = .ok (.iastore, 1) := by decide +kernel
theorem dX11_goBack_50 : decode cX11_goBack 50 = .ok (.iinc 2 1, 3) := by decide +kernel
theorem dX11_goBack_53 : decode cX11_goBack 53 = .ok (.goto (-26), 3) := by decide +kernel
theorem dX11_goBack_56 : decode cX11_goBack 56 = .ok (.aload_n 0, 1) := by decide +kernel
theorem dX11_goBack_57 : decode cX11_goBack 57 = .ok (.aload_n 0, 1) := by decide +kernel
theorem dX11_goBack_58 : decode cX11_goBack 58 = .ok (.getfield 83, 3) := by decide +kernel
theorem dX11_goBack_61 : decode cX11_goBack 61 = .ok (.bipush 20, 2) := by decide +kernel
theorem dX11_goBack_63 : decode cX11_goBack 63 = .ok (.iload_n 1, 1) := by decide +kernel
theorem dX11_goBack_64 : decode cX11_goBack 64 = .ok (.imul, 1) := by decide +kernel
theorem dX11_goBack_65 : decode cX11_goBack 65 = .ok (.bipush 19, 2) := by decide +kernel
theorem dX11_goBack_67 : decode cX11_goBack 67 = .ok (.iadd, 1) := by decide +kernel
theorem dX11_goBack_68 : decode cX11_goBack 68 = .ok (.iaload, 1) := by decide +kernel
theorem dX11_goBack_69 : decode cX11_goBack 69 = .ok (.putfield 231, 3) := by decide +kernel
theorem dX11_goBack_72 : decode cX11_goBack 72 = .ok (.aload_n 0, 1) := by decide +kernel
theorem dX11_goBack_73 : decode cX11_goBack 73 = .ok (.iconst 0, 1) := by decide +kernel
theorem dX11_goBack_74 : decode cX11_goBack 74 = .ok (.putfield 168, 3) := by decide +kernel
theorem dX11_goBack_77 : decode cX11_goBack 77 = .ok (.iconst 1, 1) := by decide +kernel
theorem dX11_goBack_78 : decode cX11_goBack 78 = .ok (.ireturn, 1) := by decide +kernel
theorem dJ6_bitCount_0f7a4_0 : decode cJ6_bitCount_0f7a4 0 = .ok (.iload_n 0, 1) := by decide +kernel
theorem dJ6_bitCount_0f7a4_1 : decode cJ6_bitCount_0f7a4 1 = .ok (.iload_n 0, 1) := by decide +kernel
theorem dJ6_bitCount_0f7a4_2 : decode cJ6_bitCount_0f7a4 2 = .ok (.iconst 1, 1) := by decide +kernel
theorem dJ6_bitCount_0f7a4_3 : decode cJ6_bitCount_0f7a4 3 = .ok (.iushr, 1) := by decide +kernel
theorem dJ6_bitCount_0f7a4_4 : decode cJ6_bitCount_0f7a4 4 = .ok (.ldc_w 265, 3) := by decide +kernel
theorem dJ6_bitCount_0f7a4_7 : decode cJ6_bitCount_0f7a4 7 = .ok (.iand, 1) := by decide +kernel
theorem dJ6_bitCount_0f7a4_8 : decode cJ6_bitCount_0f7a4 8 = .ok (.isub, 1) := by decide +kernel
theorem dJ6_bitCount_0f7a4_9 : decode cJ6_bitCount_0f7a4 9 = .ok (.istore_n 0, 1) := by decide +kernel
theorem dJ6_bitCount_0f7a4_10 : decode cJ6_bitCount_0f7a4 10 = .ok (.iload_n 0, 1) := by decide +kernel
theorem dJ6_bitCount_0f7a4_11 : decode cJ6_bitCount_0f7a4 11 = .ok (.ldc_w 266, 3) := by decide +kernel
theorem dJ6_bitCount_0f7a4_14 : decode cJ6_bitCount_0f7a4 14 = .ok (.iand, 1) := by decide +kernel
theorem dJ6_bitCount_0f7a4_15 : decode cJ6_bitCount_0f7a4 15 = .ok (.iload_n 0, 1) := by decide +kernel
theorem dJ6_bitCount_0f7a4_16 : decode cJ6_bitCount_0f7a4 16 = .ok (.iconst 2, 1) := by decide +kernel
theorem dJ6_bitCount_0f7a4_17 : decode cJ6_bitCount_0f7a4 17 = .ok (.iushr, 1) := by decide +kernel
theorem dJ6_bitCount_0f7a4_18 : decode cJ6_bitCount_0f7a4 18 = .ok (.ldc_w 266, 3) := by decide +kernel
theorem dJ6_bitCount_0f7a4_21 : decode cJ6_bitCount_0f7a4 21 = .ok (.iand, 1) := by decide +kernel
theorem dJ6_bitCount_0f7a4_22 : decode cJ6_bitCount_0f7a4 22 = .ok (.iadd, 1) := by decide +kernel
theorem dJ6_bitCount_0f7a4_23 : decode cJ6_bitCount_0f7a4 23 = .ok (.istore_n 0, 1) := by decide +kernel
theorem dJ6_bitCount_0f7a4_24 : decode cJ6_bitCount_0f7a4 24 = .ok (.iload_n 0, 1) := by decide +kernel
theorem dJ6_bitCount_0f7a4_25 : decode cJ6_bitCount_0f7a4 25 = .ok (.iload_n 0, 1) := by decide +kernel
theorem dJ6_bitCount_0f7a4_26 : decode cJ6_bitCount_0f7a4 26 = .ok (.iconst 4, 1) := by decide +kernel
theorem dJ6_bitCount_0f7a4_27 : decode cJ6_bitCount_0f7a4 27 = .ok (.iushr, 1) := by decide +kernel
theorem dJ6_bitCount_0f7a4_28 : decode cJ6_bitCount_0f7a4 28 = .ok (.iadd, 1) := by decide +kernel
theorem dJ6_bitCount_0f7a4_29 : decode cJ6_bitCount_0f7a4 29 = .ok (.ldc_w 267, 3) := by decide +kernel
theorem dJ6_bitCount_0f7a4_32 : decode cJ6_bitCount_0f7a4 32 = .ok (.iand, 1) := by decide +kernel
theorem dJ6_bitCount_0f7a4_33 : decode cJ6_bitCount_0f7a4 33 = .ok (.istore_n 0, 1) := by decide +kernel
theorem dJ6_bitCount_0f7a4_34 : decode cJ6_bitCount_0f7a4 34 = .ok (.iload_n 0, 1) := by decide +kernel
theorem dJ6_bitCount_0f7a4_35 : decode cJ6_bitCount_0f7a4 35 = .ok (.iload_n 0, 1) := by decide +kernel
theorem dJ6_bitCount_0f7a4_36 : decode cJ6_bitCount_0f7a4 36 = .ok (.bipush 8, 2) := by decide +kernel
theorem dJ6_bitCount_0f7a4_38 : decode cJ6_bitCount_0f7a4 38 = .ok (.iushr, 1) := by decide +kernel
theorem dJ6_bitCount_0f7a4_39 : decode cJ6_bitCount_0f7a4 39 = .ok (.iadd, 1) := by decide +kernel
theorem dJ6_bitCount_0f7a4_40 : decode cJ6_bitCount_0f7a4 40 = .ok (.istore_n 0, 1) := by decide +kernel
theorem dJ6_bitCount_0f7a4_41 : decode cJ6_bitCount_0f7a4 41 = .ok (.iload_n 0, 1) := by decide +kernel
theorem dJ6_bitCount_0f7a4_42 : decode cJ6_bitCount_0f7a4 42 = .ok (.iload_n 0, 1) := by decide +kernel
theorem dJ6_bitCount_0f7a4_43 : decode cJ6_bitCount_0f7a4 43 = .ok (.bipush 16, 2) := by decide +kernel
theorem dJ6_bitCount_0f7a4_45 : decode cJ6_bitCount_0f7a4 45 = .ok (.iushr, 1) := by decide +kernel
theorem dJ6_bitCount_0f7a4_46 : decode cJ6_bitCount_0f7a4 46 = .ok (.iadd, 1) := by decide +kernel
theorem dJ6_bitCount_0f7a4_47 : decode cJ6_bitCount_0f7a4 47 = .ok (.istore_n 0, 1) := by decide +kernel
theorem dJ6_bitCount_0f7a4_48 : decode cJ6_bitCount_0f7a4 48 = .ok (.iload_n 0, 1) := by decide +kernel
theorem dJ6_bitCount_0f7a4_49 : decode cJ6_bitCount_0f7a4 49 = .ok (.bipush 63, 2) := by decide +kernel
theorem dJ6_bitCount_0f7a4_51 : decode cJ6_bitCount_0f7a4 51 = .ok (.iand, 1) := by decide +kernel
theorem dJ6_bitCount_0f7a4_52 : decode cJ6_bitCount_0f7a4 52 = .ok (.ireturn, 1) := by decide +kernel
theorem dJ9_max_7cf53_0 : decode cJ9_max_7cf53 0 = .ok (.iload_n 0, 1) := by decide +kernel
theorem dJ9_max_7cf53_1 : decode cJ9_max_7cf53 1 = .ok (.iload_n 1, 1) := by decide +kernel
theorem dJ9_max_7cf53_2 : decode cJ9_max_7cf53 2 = .ok (.if_icmp .lt 7, 3) := by decide +kernel
theorem dJ9_max_7cf53_5 : decode cJ9_max_7cf53 5 = .ok (.iload_n 0, 1) := by decide +kernel
theorem dJ9_max_7cf53_6 : decode cJ9_max_7cf53 6 = .ok (.goto 4, 3) := by decide +kernel
theorem dJ9_max_7cf53_9 : decode cJ9_max_7cf53 9 = .ok (.iload_n 1, 1) := by decide +kernel
theorem dJ9_max_7cf53_10 : decode cJ9_max_7cf53 10 = .ok (.ireturn, 1) := by decide +kernel
theorem dJ9_min_7cf53_0 : decode cJ9_min_7cf53 0 = .ok (.iload_n 0, 1) := by decide +kernel
theorem dJ9_min_7cf53_1 : decode cJ9_min_7cf53 1 = .ok (.iload_n 1, 1) := by decide +kernel
theorem dJ9_min_7cf53_2 : decode cJ9_min_7cf53 2 = .ok (.if_icmp .gt 7, 3) := by decide +kernel
theorem dJ9_min_7cf53_5 : decode cJ9_min_7cf53 5 = .ok (.iload_n 0, 1) := by decide +kernel
theorem dJ9_min_7cf53_6 : decode cJ9_min_7cf53 6 = .ok (.goto 4, 3) := by decide +kernel
theorem dJ9_min_7cf53_9 : decode cJ9_min_7cf53 9 = .ok (.iload_n 1, 1) := by decide +kernel
theorem dJ9_min_7cf53_10 : decode cJ9_min_7cf53 10 = .ok (.ireturn, 1) := by decide +kernel
