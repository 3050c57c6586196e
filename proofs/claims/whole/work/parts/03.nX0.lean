theorem dX0_init_0 : decode cX0_init 0 = .ok (.aload_n 0, 1) := by decide +kernel
theorem dX0_init_1 : decode cX0_init 1 = .ok (.invokespecial 3, 3) := by decide +kernel
theorem dX0_init_4 : decode cX0_init 4 = .ok (.aload_n 0, 1) := by decide +kernel
theorem dX0_init_5 : decode cX0_init 5 = .ok (.bipush 64, 2) := by decide +kernel
theorem dX0_init_7 : decode cX0_init 7 = .ok (.newarray .int, 2) := by decide +kernel
theorem dX0_init_9 : decode cX0_init 9 = .ok (.putfield 9, 3) := by decide +kernel
theorem dX0_init_12 : decode cX0_init 12 = .ok (.aload_n 0, 1) := by decide +kernel
theorem dX0_init_13 : decode cX0_init 13 = .ok (.bipush 42, 2) := by decide +kernel
theorem dX0_init_15 : decode cX0_init 15 = .ok (.newarray .long, 2) := by decide +kernel
theorem dX0_init_17 : decode cX0_init 17 = .ok (.putfield 15, 3) := by decide +kernel
theorem dX0_init_20 : decode cX0_init 20 = .ok (.aload_n 0, 1) := by decide +kernel
theorem dX0_init_21 : decode cX0_init 21 = .ok (.bipush 42, 2) := by decide +kernel
theorem dX0_init_23 : decode cX0_init 23 = .ok (.newarray .int, 2) := by decide +kernel
theorem dX0_init_25 : decode cX0_init 25 = .ok (.putfield 19, 3) := by decide +kernel
theorem dX0_init_28 : decode cX0_init 28 = .ok (.aload_n 0, 1) := by decide +kernel
theorem dX0_init_29 : decode cX0_init 29 = .ok (.iload_n 1, 1) := by decide +kernel
theorem dX0_init_30 : decode cX0_init 30 = .ok (.putfield 22, 3) := by decide +kernel
theorem dX0_init_33 : decode cX0_init 33 = .ok (.aload_n 0, 1) := by decide +kernel
theorem dX0_init_34 : decode cX0_init 34 = .ok (.iconst 1, 1) := by decide +kernel
theorem dX0_init_35 : decode cX0_init 35 = .ok (.iload_n 1, 1) := by decide +kernel
theorem dX0_init_36 : decode cX0_init 36 = .ok (.ishl, 1) := by decide +kernel
theorem dX0_init_37 : decode cX0_init 37 = .ok (.putfield 26, 3) := by decide +kernel
theorem dX0_init_40 : decode cX0_init 40 = .ok (.return_, 1) := by decide +kernel
set_option maxRecDepth 20000 in
theorem ggX0_total_X0_countEndings : GoodIn wsX0_total wsX0_countEndings := goodIn_r _ [6, 7, 1, 8, 9, 10, 11, 12, 13, 14, 15, 16, 17, 18, 19, 5, 20, 21, 22, 23, 24, 25, 26, 27, 28, 29, 30, 31] (by decide +kernel) (by decide +kernel)
set_option maxRecDepth 20000 in
theorem gX0_total_X0_countEndings : GoodIn wsX0_total (wsV RX0 29 RX0 yX0_countEndings wsX0_countEndings) := goodIn_app (goodIn_of _ (by decide +kernel)) ggX0_total_X0_countEndings
theorem dX0_total_0 : decode cX0_total 0 = .ok (.aload_n 0, 1) := by decide +kernel
theorem dX0_total_1 : decode cX0_total 1 = .ok (.invokevirtual 29, 3) := by decide +kernel
theorem dX0_total_4 : decode cX0_total 4 = .ok (.aload_n 0, 1) := by decide +kernel
theorem dX0_total_5 : decode cX0_total 5 = .ok (.getfield 9, 3) := by decide +kernel
theorem dX0_total_8 : decode cX0_total 8 = .ok (.iconst 0, 1) := by decide +kernel
theorem dX0_total_9 : decode cX0_total 9 = .ok (.iaload, 1) := by decide +kernel
theorem dX0_total_10 : decode cX0_total 10 = .ok (.ireturn, 1) := by decide +kernel
set_option maxRecDepth 20000 in
theorem ggX0_withFirstOne_X0_countEndings : GoodIn wsX0_withFirstOne wsX0_countEndings := goodIn_r _ [7, 8, 1, 9, 2, 10, 11, 12, 13, 14, 15, 16, 17, 18, 19, 6, 20, 21, 22, 23, 24, 25, 26, 27, 28, 29, 30, 31] (by decide +kernel) (by decide +kernel)
set_option maxRecDepth 20000 in
theorem gX0_withFirstOne_X0_countEndings : GoodIn wsX0_withFirstOne (wsV RX0 29 RX0 yX0_countEndings wsX0_countEndings) := goodIn_app (goodIn_of _ (by decide +kernel)) ggX0_withFirstOne_X0_countEndings
theorem dX0_withFirstOne_0 : decode cX0_withFirstOne 0 = .ok (.aload_n 0, 1) := by decide +kernel
theorem dX0_withFirstOne_1 : decode cX0_withFirstOne 1 = .ok (.invokevirtual 29, 3) := by decide +kernel
theorem dX0_withFirstOne_4 : decode cX0_withFirstOne 4 = .ok (.aload_n 0, 1) := by decide +kernel
theorem dX0_withFirstOne_5 : decode cX0_withFirstOne 5 = .ok (.getfield 9, 3) := by decide +kernel
theorem dX0_withFirstOne_8 : decode cX0_withFirstOne 8 = .ok (.iconst 1, 1) := by decide +kernel
theorem dX0_withFirstOne_9 : decode cX0_withFirstOne 9 = .ok (.aload_n 0, 1) := by decide +kernel
theorem dX0_withFirstOne_10 : decode cX0_withFirstOne 10 = .ok (.getfield 22, 3) := by decide +kernel
theorem dX0_withFirstOne_13 : decode cX0_withFirstOne 13 = .ok (.iconst 1, 1) := by decide +kernel
theorem dX0_withFirstOne_14 : decode cX0_withFirstOne 14 = .ok (.isub, 1) := by decide +kernel
theorem dX0_withFirstOne_15 : decode cX0_withFirstOne 15 = .ok (.iload_n 1, 1) := by decide +kernel
theorem dX0_withFirstOne_16 : decode cX0_withFirstOne 16 = .ok (.isub, 1) := by decide +kernel
theorem dX0_withFirstOne_17 : decode cX0_withFirstOne 17 = .ok (.ishl, 1) := by decide +kernel
theorem dX0_withFirstOne_18 : decode cX0_withFirstOne 18 = .ok (.iaload, 1) := by decide +kernel
theorem dX0_withFirstOne_19 : decode cX0_withFirstOne 19 = .ok (.ireturn, 1) := by decide +kernel
set_option maxRecDepth 20000 in
theorem ggX0_rankOf_X0_countEndings : GoodIn wsX0_rankOf wsX0_countEndings := goodIn_r _ [6, 7, 8, 9, 1, 10, 11, 12, 13, 14, 15, 16, 17, 18, 19, 5, 20, 21, 22, 23, 24, 40, 41, 42, 43, 44, 45, 46] (by decide +kernel) (by decide +kernel)
set_option maxRecDepth 20000 in
theorem gX0_rankOf_X0_countEndings : GoodIn wsX0_rankOf (wsV RX0 29 RX0 yX0_countEndings wsX0_countEndings) := goodIn_app (goodIn_of _ (by decide +kernel)) ggX0_rankOf_X0_countEndings
set_option maxRecDepth 20000 in
theorem ggX0_rankOf_X3_fullColumns : GoodIn wsX0_rankOf wsX3_fullColumns := goodIn_r _ [29, 30, 31, 32, 33, 28, 34, 35, 36, 37, 38, 39, 47, 48] (by decide +kernel) (by decide +kernel)
set_option maxRecDepth 20000 in
theorem gX0_rankOf_X3_fullColumns : GoodIn wsX0_rankOf (wsV RX0 32 RX3 yX3_fullColumns wsX3_fullColumns) := goodIn_app (goodIn_of _ (by decide +kernel)) ggX0_rankOf_X3_fullColumns
set_option maxRecDepth 20000 in
theorem ggX0_rankOf_X0_endingsFrom : GoodIn wsX0_rankOf wsX0_endingsFrom := goodIn_r _ [20, 9, 8, 21, 22, 23, 5, 24, 1, 40, 41, 42, 43, 44, 45, 46] (by decide +kernel) (by decide +kernel)
set_option maxRecDepth 20000 in
theorem gX0_rankOf_X0_endingsFrom : GoodIn wsX0_rankOf (wsV RX0 38 RX0 yX0_endingsFrom wsX0_endingsFrom) := goodIn_app (goodIn_of _ (by decide +kernel)) ggX0_rankOf_X0_endingsFrom
theorem dX0_rankOf_0 : decode cX0_rankOf 0 = .ok (.aload_n 0, 1) := by decide +kernel
theorem dX0_rankOf_1 : decode cX0_rankOf 1 = .ok (.invokevirtual 29, 3) := by decide +kernel
theorem dX0_rankOf_4 : decode cX0_rankOf 4 = .ok (.iconst 0, 1) := by decide +kernel
theorem dX0_rankOf_5 : decode cX0_rankOf 5 = .ok (.istore_n 2, 1) := by decide +kernel
theorem dX0_rankOf_6 : decode cX0_rankOf 6 = .ok (.iconst 0, 1) := by decide +kernel
theorem dX0_rankOf_7 : decode cX0_rankOf 7 = .ok (.istore_n 3, 1) := by decide +kernel
theorem dX0_rankOf_8 : decode cX0_rankOf 8 = .ok (.iconst 1, 1) := by decide +kernel
theorem dX0_rankOf_9 : decode cX0_rankOf 9 = .ok (.istore 4, 2) := by decide +kernel
theorem dX0_rankOf_11 : decode cX0_rankOf 11 = .ok (.iload 4, 2) := by decide +kernel
theorem dX0_rankOf_13 : decode cX0_rankOf 13 = .ok (.aload_n 0, 1) := by decide +kernel
theorem dX0_rankOf_14 : decode cX0_rankOf 14 = .ok (.getfield 22, 3) := by decide +kernel
theorem dX0_rankOf_17 : decode cX0_rankOf 17 = .ok (.if_icmp .gt 32, 3) := by decide +kernel
theorem dX0_rankOf_20 : decode cX0_rankOf 20 = .ok (.aload_n 1, 1) := by decide +kernel
theorem dX0_rankOf_21 : decode cX0_rankOf 21 = .ok (.iload 4, 2) := by decide +kernel
theorem dX0_rankOf_23 : decode cX0_rankOf 23 = .ok (.invokevirtual 32, 3) := by decide +kernel
theorem dX0_rankOf_26 : decode cX0_rankOf 26 = .ok (.istore 5, 2) := by decide +kernel
theorem dX0_rankOf_28 : decode cX0_rankOf 28 = .ok (.iload_n 2, 1) := by decide +kernel
theorem dX0_rankOf_29 : decode cX0_rankOf 29 = .ok (.aload_n 0, 1) := by decide +kernel
theorem dX0_rankOf_30 : decode cX0_rankOf 30 = .ok (.iload_n 3, 1) := by decide +kernel
theorem dX0_rankOf_31 : decode cX0_rankOf 31 = .ok (.iload 5, 2) := by decide +kernel
theorem dX0_rankOf_33 : decode cX0_rankOf 33 = .ok (.iconst 1, 1) := by decide +kernel
theorem dX0_rankOf_34 : decode cX0_rankOf 34 = .ok (.iadd, 1) := by decide +kernel
theorem dX0_rankOf_35 : decode cX0_rankOf 35 = .ok (.invokevirtual 38, 3) := by decide +kernel
theorem dX0_rankOf_38 : decode cX0_rankOf 38 = .ok (.iadd, 1) := by decide +kernel
theorem dX0_rankOf_39 : decode cX0_rankOf 39 = .ok (.istore_n 2, 1) := by decide +kernel
theorem dX0_rankOf_40 : decode cX0_rankOf 40 = .ok (.iload 5, 2) := by decide +kernel
theorem dX0_rankOf_42 : decode cX0_rankOf 42 = .ok (.istore_n 3, 1) := by decide +kernel
theorem dX0_rankOf_43 : decode cX0_rankOf 43 = .ok (.iinc 4 1, 3) := by decide +kernel
theorem dX0_rankOf_46 : decode cX0_rankOf 46 = .ok (.goto (-35), 3) := by decide +kernel
theorem dX0_rankOf_49 : decode cX0_rankOf 49 = .ok (.iload_n 2, 1) := by decide +kernel
theorem dX0_rankOf_50 : decode cX0_rankOf 50 = .ok (.ireturn, 1) := by decide +kernel
set_option maxRecDepth 20000 in
theorem ggX0_put_X0_countEndings : GoodIn wsX0_put wsX0_countEndings := goodIn_r _ [9, 10, 4, 3, 1, 11, 12, 13, 14, 15, 16, 17, 18, 19, 20, 8, 21, 22, 23, 24, 25, 41, 42, 43, 44, 45, 46, 47] (by decide +kernel) (by decide +kernel)
set_option maxRecDepth 20000 in
theorem gX0_put_X0_countEndings : GoodIn wsX0_put (wsV RX0 29 RX0 yX0_countEndings wsX0_countEndings) := goodIn_app (goodIn_of _ (by decide +kernel)) ggX0_put_X0_countEndings
set_option maxRecDepth 20000 in
theorem ggX0_put_X0_canFollow : GoodIn wsX0_put wsX0_canFollow := goodIn_r _ [25, 1, 41, 42, 43, 44, 45, 46, 47] (by decide +kernel) (by decide +kernel)
set_option maxRecDepth 20000 in
theorem gX0_put_X0_canFollow : GoodIn wsX0_put (wsV RX0 43 RX0 yX0_canFollow wsX0_canFollow) := goodIn_app (goodIn_of _ (by decide +kernel)) ggX0_put_X0_canFollow
set_option maxRecDepth 20000 in
theorem ggX0_put_X3_putFullColumns : GoodIn wsX0_put wsX3_putFullColumns := goodIn_r _ [30, 31, 32, 33, 34, 29, 35, 36, 37, 38, 39, 40, 48, 49] (by decide +kernel) (by decide +kernel)
set_option maxRecDepth 20000 in
theorem gX0_put_X3_putFullColumns : GoodIn wsX0_put (wsV RX0 47 RX3 yX3_putFullColumns wsX3_putFullColumns) := goodIn_app (goodIn_of _ (by decide +kernel)) ggX0_put_X3_putFullColumns
theorem dX0_put_0 : decode cX0_put 0 = .ok (.aload_n 0, 1) := by decide +kernel
theorem dX0_put_1 : decode cX0_put 1 = .ok (.invokevirtual 29, 3) := by decide +kernel
theorem dX0_put_4 : decode cX0_put 4 = .ok (.aload_n 2, 1) := by decide +kernel
theorem dX0_put_5 : decode cX0_put 5 = .ok (.aload_n 0, 1) := by decide +kernel
theorem dX0_put_6 : decode cX0_put 6 = .ok (.getfield 22, 3) := by decide +kernel
theorem dX0_put_9 : decode cX0_put 9 = .ok (.putfield 42, 3) := by decide +kernel
theorem dX0_put_12 : decode cX0_put 12 = .ok (.iload_n 1, 1) := by decide +kernel
theorem dX0_put_13 : decode cX0_put 13 = .ok (.istore_n 3, 1) := by decide +kernel
theorem dX0_put_14 : decode cX0_put 14 = .ok (.iconst 0, 1) := by decide +kernel
theorem dX0_put_15 : decode cX0_put 15 = .ok (.istore 4, 2) := by decide +kernel
theorem dX0_put_17 : decode cX0_put 17 = .ok (.iconst 1, 1) := by decide +kernel
theorem dX0_put_18 : decode cX0_put 18 = .ok (.istore 5, 2) := by decide +kernel
theorem dX0_put_20 : decode cX0_put 20 = .ok (.iload 5, 2) := by decide +kernel
theorem dX0_put_22 : decode cX0_put 22 = .ok (.aload_n 0, 1) := by decide +kernel
theorem dX0_put_23 : decode cX0_put 23 = .ok (.getfield 22, 3) := by decide +kernel
theorem dX0_put_26 : decode cX0_put 26 = .ok (.if_icmp .gt 78, 3) := by decide +kernel
theorem dX0_put_29 : decode cX0_put 29 = .ok (.aload_n 0, 1) := by decide +kernel
theorem dX0_put_30 : decode cX0_put 30 = .ok (.getfield 26, 3) := by decide +kernel
theorem dX0_put_33 : decode cX0_put 33 = .ok (.iconst 1, 1) := by decide +kernel
theorem dX0_put_34 : decode cX0_put 34 = .ok (.isub, 1) := by decide +kernel
theorem dX0_put_35 : decode cX0_put 35 = .ok (.istore 6, 2) := by decide +kernel
theorem dX0_put_37 : decode cX0_put 37 = .ok (.iload 6, 2) := by decide +kernel
theorem dX0_put_39 : decode cX0_put 39 = .ok (.ifCond .le 47, 3) := by decide +kernel
theorem dX0_put_42 : decode cX0_put 42 = .ok (.aload_n 0, 1) := by decide +kernel
theorem dX0_put_43 : decode cX0_put 43 = .ok (.iload 4, 2) := by decide +kernel
theorem dX0_put_45 : decode cX0_put 45 = .ok (.iload 6, 2) := by decide +kernel
theorem dX0_put_47 : decode cX0_put 47 = .ok (.invokevirtual 43, 3) := by decide +kernel
theorem dX0_put_50 : decode cX0_put 50 = .ok (.ifCond .eq 13, 3) := by decide +kernel
theorem dX0_put_53 : decode cX0_put 53 = .ok (.aload_n 0, 1) := by decide +kernel
theorem dX0_put_54 : decode cX0_put 54 = .ok (.getfield 9, 3) := by decide +kernel
theorem dX0_put_57 : decode cX0_put 57 = .ok (.iload 6, 2) := by decide +kernel
theorem dX0_put_59 : decode cX0_put 59 = .ok (.iaload, 1) := by decide +kernel
theorem dX0_put_60 : decode cX0_put 60 = .ok (.goto 4, 3) := by decide +kernel
theorem dX0_put_63 : decode cX0_put 63 = .ok (.iconst 0, 1) := by decide +kernel
theorem dX0_put_64 : decode cX0_put 64 = .ok (.istore 7, 2) := by decide +kernel
theorem dX0_put_66 : decode cX0_put 66 = .ok (.iload_n 3, 1) := by decide +kernel
theorem dX0_put_67 : decode cX0_put 67 = .ok (.iload 7, 2) := by decide +kernel
theorem dX0_put_69 : decode cX0_put 69 = .ok (.if_icmp .ge 6, 3) := by decide +kernel
theorem dX0_put_72 : decode cX0_put 72 = .ok (.goto 14, 3) := by decide +kernel
theorem dX0_put_75 : decode cX0_put 75 = .ok (.iload_n 3, 1) := by decide +kernel
theorem dX0_put_76 : decode cX0_put 76 = .ok (.iload 7, 2) := by decide +kernel
theorem dX0_put_78 : decode cX0_put 78 = .ok (.isub, 1) := by decide +kernel
theorem dX0_put_79 : decode cX0_put 79 = .ok (.istore_n 3, 1) := by decide +kernel
theorem dX0_put_80 : decode cX0_put 80 = .ok (.iinc 6 (-1), 3) := by decide +kernel
theorem dX0_put_83 : decode cX0_put 83 = .ok (.goto (-46), 3) := by decide +kernel
theorem dX0_put_86 : decode cX0_put 86 = .ok (.aload_n 2, 1) := by decide +kernel
theorem dX0_put_87 : decode cX0_put 87 = .ok (.iload 5, 2) := by decide +kernel
theorem dX0_put_89 : decode cX0_put 89 = .ok (.iload 6, 2) := by decide +kernel
theorem dX0_put_91 : decode cX0_put 91 = .ok (.invokevirtual 47, 3) := by decide +kernel
theorem dX0_put_94 : decode cX0_put 94 = .ok (.iload 6, 2) := by decide +kernel
theorem dX0_put_96 : decode cX0_put 96 = .ok (.istore 4, 2) := by decide +kernel
theorem dX0_put_98 : decode cX0_put 98 = .ok (.iinc 5 1, 3) := by decide +kernel
theorem dX0_put_101 : decode cX0_put 101 = .ok (.goto (-81), 3) := by decide +kernel
theorem dX0_put_104 : decode cX0_put 104 = .ok (.return_, 1) := by decide +kernel
set_option maxRecDepth 20000 in
theorem ggX0_sortByPartners_X0_total : GoodIn wsX0_sortByPartners wsX0_total := goodIn_r _ [6, 7, 8, 9, 10, 5, 11, 12, 13, 14, 15, 16, 17, 18, 19, 20, 21, 22, 23, 24, 25, 26, 27, 28, 29, 145, 146, 147, 148, 149, 150, 151] (by decide +kernel) (by decide +kernel)
set_option maxRecDepth 20000 in
theorem gX0_sortByPartners_X0_total : GoodIn wsX0_sortByPartners (wsV RX0 54 RX0 yX0_total wsX0_total) := goodIn_app (goodIn_of _ (by decide +kernel)) ggX0_sortByPartners_X0_total
set_option maxRecDepth 20000 in
theorem ggX0_sortByPartners_X0_put : GoodIn wsX0_sortByPartners wsX0_put := goodIn_r _ [33, 14, 34, 13, 7, 8, 9, 10, 5, 11, 12, 15, 16, 17, 18, 19, 20, 21, 22, 23, 24, 25, 26, 27, 28, 29, 35, 36, 37, 38, 39, 40, 41, 42, 43, 44, 45, 46, 47, 48, 49, 145, 146, 147, 148, 149, 150, 151, 152, 153] (by decide +kernel) (by decide +kernel)
set_option maxRecDepth 20000 in
theorem gX0_sortByPartners_X0_put : GoodIn wsX0_sortByPartners (wsV RX0 58 RX0 yX0_put wsX0_put) := goodIn_app (goodIn_of _ (by decide +kernel)) ggX0_sortByPartners_X0_put
set_option maxRecDepth 20000 in
theorem ggX0_sortByPartners_X1_trace : GoodIn wsX0_sortByPartners wsX1_trace := goodIn_r _ [54, 55, 56, 57, 58, 59, 53, 60, 61, 62, 63, 64, 38, 65, 66, 67, 68, 69, 41, 42, 43, 44, 45, 70, 71, 72, 73, 74, 75, 76, 77, 78, 79, 80, 81, 82, 83, 84, 85, 86, 87, 88, 89, 90, 91, 92, 93, 94, 95, 96, 97, 98, 99, 100, 101, 102, 103, 104, 105, 106, 107, 108, 109, 110, 111, 112, 113, 114, 115, 116, 117, 118, 119, 120, 121, 122, 123, 124, 125, 126, 127, 128, 129, 152, 153, 154, 155, 156, 157, 158, 159, 160, 161, 162, 163, 164] (by decide +kernel) (by decide +kernel)
set_option maxRecDepth 20000 in
theorem gX0_sortByPartners_X1_trace : GoodIn wsX0_sortByPartners (wsV RX0 62 RX1 yX1_trace wsX1_trace) := goodIn_app (goodIn_of _ (by decide +kernel)) ggX0_sortByPartners_X1_trace
set_option maxRecDepth 20000 in
theorem ggX0_sortByPartners_X1_partnersCode : GoodIn wsX0_sortByPartners wsX1_partnersCode := goodIn_r _ [133, 82, 134, 118, 154, 155, 156, 157, 158, 159, 160, 161, 162, 163, 164] (by decide +kernel) (by decide +kernel)
set_option maxRecDepth 20000 in
theorem gX0_sortByPartners_X1_partnersCode : GoodIn wsX0_sortByPartners (wsV RX0 68 RX1 yX1_partnersCode wsX1_partnersCode) := goodIn_app (goodIn_of _ (by decide +kernel)) ggX0_sortByPartners_X1_partnersCode
set_option maxRecDepth 20000 in
theorem ggX0_sortByPartners_X0_addToWay : GoodIn wsX0_sortByPartners wsX0_addToWay := goodIn_r _ [138, 1, 139, 140, 141, 142, 143, 5, 144, 145, 146, 147, 148, 149, 150, 151] (by decide +kernel) (by decide +kernel)
set_option maxRecDepth 20000 in
theorem gX0_sortByPartners_X0_addToWay : GoodIn wsX0_sortByPartners (wsV RX0 72 RX0 yX0_addToWay wsX0_addToWay) := goodIn_app (goodIn_of _ (by decide +kernel)) ggX0_sortByPartners_X0_addToWay
theorem dX0_sortByPartners_0 : decode cX0_sortByPartners 0 = .ok (.aload_n 0, 1) := by decide +kernel
theorem dX0_sortByPartners_1 : decode cX0_sortByPartners 1 = .ok (.getfield 51, 3) := by decide +kernel
theorem dX0_sortByPartners_4 : decode cX0_sortByPartners 4 = .ok (.ifCond .le 4, 3) := by decide +kernel
theorem dX0_sortByPartners_7 : decode cX0_sortByPartners 7 = .ok (.return_, 1) := by decide +kernel
theorem dX0_sortByPartners_8 : decode cX0_sortByPartners 8 = .ok (.aload_n 0, 1) := by decide +kernel
theorem dX0_sortByPartners_9 : decode cX0_sortByPartners 9 = .ok (.invokevirtual 54, 3) := by decide +kernel
theorem dX0_sortByPartners_12 : decode cX0_sortByPartners 12 = .ok (.istore_n 3, 1) := by decide +kernel
theorem dX0_sortByPartners_13 : decode cX0_sortByPartners 13 = .ok (.iconst 0, 1) := by decide +kernel
theorem dX0_sortByPartners_14 : decode cX0_sortByPartners 14 = .ok (.istore 4, 2) := by decide +kernel
theorem dX0_sortByPartners_16 : decode cX0_sortByPartners 16 = .ok (.iload 4, 2) := by decide +kernel
theorem dX0_sortByPartners_18 : decode cX0_sortByPartners 18 = .ok (.iload_n 3, 1) := by decide +kernel
theorem dX0_sortByPartners_19 : decode cX0_sortByPartners 19 = .ok (.if_icmp .ge 29, 3) := by decide +kernel
theorem dX0_sortByPartners_22 : decode cX0_sortByPartners 22 = .ok (.aload_n 0, 1) := by decide +kernel
theorem dX0_sortByPartners_23 : decode cX0_sortByPartners 23 = .ok (.iload 4, 2) := by decide +kernel
theorem dX0_sortByPartners_25 : decode cX0_sortByPartners 25 = .ok (.aload_n 2, 1) := by decide +kernel
theorem dX0_sortByPartners_26 : decode cX0_sortByPartners 26 = .ok (.invokevirtual 58, 3) := by decide +kernel
theorem dX0_sortByPartners_29 : decode cX0_sortByPartners 29 = .ok (.aload_n 1, 1) := by decide +kernel
theorem dX0_sortByPartners_30 : decode cX0_sortByPartners 30 = .ok (.aload_n 2, 1) := by decide +kernel
theorem dX0_sortByPartners_31 : decode cX0_sortByPartners 31 = .ok (.invokevirtual 62, 3) := by decide +kernel
theorem dX0_sortByPartners_34 : decode cX0_sortByPartners 34 = .ok (.aload_n 0, 1) := by decide +kernel
theorem dX0_sortByPartners_35 : decode cX0_sortByPartners 35 = .ok (.aload_n 1, 1) := by decide +kernel
theorem dX0_sortByPartners_36 : decode cX0_sortByPartners 36 = .ok (.invokevirtual 68, 3) := by decide +kernel
theorem dX0_sortByPartners_39 : decode cX0_sortByPartners 39 = .ok (.invokevirtual 72, 3) := by decide +kernel
theorem dX0_sortByPartners_42 : decode cX0_sortByPartners 42 = .ok (.iinc 4 1, 3) := by decide +kernel
theorem dX0_sortByPartners_45 : decode cX0_sortByPartners 45 = .ok (.goto (-29), 3) := by decide +kernel
theorem dX0_sortByPartners_48 : decode cX0_sortByPartners 48 = .ok (.return_, 1) := by decide +kernel
set_option maxRecDepth 20000 in
theorem ggX0_addToWay_X0_wayOf : GoodIn wsX0_addToWay wsX0_wayOf := goodIn_r _ [8, 1, 2, 9, 10, 11, 12, 13, 14, 15] (by decide +kernel) (by decide +kernel)
set_option maxRecDepth 20000 in
theorem gX0_addToWay_X0_wayOf : GoodIn wsX0_addToWay (wsV RX0 76 RX0 yX0_wayOf wsX0_wayOf) := goodIn_app (goodIn_of _ (by decide +kernel)) ggX0_addToWay_X0_wayOf
theorem dX0_addToWay_0 : decode cX0_addToWay 0 = .ok (.aload_n 0, 1) := by decide +kernel
theorem dX0_addToWay_1 : decode cX0_addToWay 1 = .ok (.lload_n 1, 1) := by decide +kernel
theorem dX0_addToWay_2 : decode cX0_addToWay 2 = .ok (.invokevirtual 76, 3) := by decide +kernel
theorem dX0_addToWay_5 : decode cX0_addToWay 5 = .ok (.istore_n 3, 1) := by decide +kernel
theorem dX0_addToWay_6 : decode cX0_addToWay 6 = .ok (.iload_n 3, 1) := by decide +kernel
theorem dX0_addToWay_7 : decode cX0_addToWay 7 = .ok (.bipush 42, 2) := by decide +kernel
theorem dX0_addToWay_9 : decode cX0_addToWay 9 = .ok (.if_icmp .lt 4, 3) := by decide +kernel
theorem dX0_addToWay_12 : decode cX0_addToWay 12 = .ok (.return_, 1) := by decide +kernel
theorem dX0_addToWay_13 : decode cX0_addToWay 13 = .ok (.iload_n 3, 1) := by decide +kernel
theorem dX0_addToWay_14 : decode cX0_addToWay 14 = .ok (.aload_n 0, 1) := by decide +kernel
theorem dX0_addToWay_15 : decode cX0_addToWay 15 = .ok (.getfield 51, 3) := by decide +kernel
theorem dX0_addToWay_18 : decode cX0_addToWay 18 = .ok (.if_icmp .ne 20, 3) := by decide +kernel
theorem dX0_addToWay_21 : decode cX0_addToWay 21 = .ok (.aload_n 0, 1) := by decide +kernel
theorem dX0_addToWay_22 : decode cX0_addToWay 22 = .ok (.getfield 15, 3) := by decide +kernel
theorem dX0_addToWay_25 : decode cX0_addToWay 25 = .ok (.iload_n 3, 1) := by decide +kernel
theorem dX0_addToWay_26 : decode cX0_addToWay 26 = .ok (.lload_n 1, 1) := by decide +kernel
theorem dX0_addToWay_27 : decode cX0_addToWay 27 = .ok (.lastore, 1) := by decide +kernel
theorem dX0_addToWay_28 : decode cX0_addToWay 28 = .ok (.aload_n 0, 1) := by decide +kernel
theorem dX0_addToWay_29 : decode cX0_addToWay 29 = .ok (.dup, 1) := by decide +kernel
theorem dX0_addToWay_30 : decode cX0_addToWay 30 = .ok (.getfield 51, 3) := by decide +kernel
theorem dX0_addToWay_33 : decode cX0_addToWay 33 = .ok (.iconst 1, 1) := by decide +kernel
theorem dX0_addToWay_34 : decode cX0_addToWay 34 = .ok (.iadd, 1) := by decide +kernel
theorem dX0_addToWay_35 : decode cX0_addToWay 35 = .ok (.putfield 51, 3) := by decide +kernel
theorem dX0_addToWay_38 : decode cX0_addToWay 38 = .ok (.aload_n 0, 1) := by decide +kernel
theorem dX0_addToWay_39 : decode cX0_addToWay 39 = .ok (.getfield 19, 3) := by decide +kernel
theorem dX0_addToWay_42 : decode cX0_addToWay 42 = .ok (.iload_n 3, 1) := by decide +kernel
theorem dX0_addToWay_43 : decode cX0_addToWay 43 = .ok (.dup2, 1) := by decide +kernel
theorem dX0_addToWay_44 : decode cX0_addToWay 44 = .ok (.iaload, 1) := by decide +kernel
theorem dX0_addToWay_45 : decode cX0_addToWay 45 = .ok (.iconst 1, 1) := by decide +kernel
theorem dX0_addToWay_46 : decode cX0_addToWay 46 = .ok (.iadd, 1) := by decide +kernel
theorem dX0_addToWay_47 : decode cX0_addToWay 47 = .ok (.iastore, 1) := by decide +kernel
theorem dX0_addToWay_48 : decode cX0_addToWay 48 = .ok (.return_, 1) := by decide +kernel
theorem dX0_wayOf_0 : decode cX0_wayOf 0 = .ok (.iconst 0, 1) := by decide +kernel
theorem dX0_wayOf_1 : decode cX0_wayOf 1 = .ok (.istore_n 3, 1) := by decide +kernel
theorem dX0_wayOf_2 : decode cX0_wayOf 2 = .ok (.iload_n 3, 1) := by decide +kernel
theorem dX0_wayOf_3 : decode cX0_wayOf 3 = .ok (.aload_n 0, 1) := by decide +kernel
theorem dX0_wayOf_4 : decode cX0_wayOf 4 = .ok (.getfield 51, 3) := by decide +kernel
theorem dX0_wayOf_7 : decode cX0_wayOf 7 = .ok (.if_icmp .ge 22, 3) := by decide +kernel
theorem dX0_wayOf_10 : decode cX0_wayOf 10 = .ok (.aload_n 0, 1) := by decide +kernel
theorem dX0_wayOf_11 : decode cX0_wayOf 11 = .ok (.getfield 15, 3) := by decide +kernel
theorem dX0_wayOf_14 : decode cX0_wayOf 14 = .ok (.iload_n 3, 1) := by decide +kernel
theorem dX0_wayOf_15 : decode cX0_wayOf 15 = .ok (.laload, 1) := by decide +kernel
theorem dX0_wayOf_16 : decode cX0_wayOf 16 = .ok (.lload_n 1, 1) := by decide +kernel
theorem dX0_wayOf_17 : decode cX0_wayOf 17 = .ok (.lcmp, 1) := by decide +kernel
theorem dX0_wayOf_18 : decode cX0_wayOf 18 = .ok (.ifCond .ne 5, 3) := by decide +kernel
theorem dX0_wayOf_21 : decode cX0_wayOf 21 = .ok (.iload_n 3, 1) := by decide +kernel
theorem dX0_wayOf_22 : decode cX0_wayOf 22 = .ok (.ireturn, 1) := by decide +kernel
theorem dX0_wayOf_23 : decode cX0_wayOf 23 = .ok (.iinc 3 1, 3) := by decide +kernel
theorem dX0_wayOf_26 : decode cX0_wayOf 26 = .ok (.goto (-24), 3) := by decide +kernel
theorem dX0_wayOf_29 : decode cX0_wayOf 29 = .ok (.aload_n 0, 1) := by decide +kernel
theorem dX0_wayOf_30 : decode cX0_wayOf 30 = .ok (.getfield 51, 3) := by decide +kernel
theorem dX0_wayOf_33 : decode cX0_wayOf 33 = .ok (.ireturn, 1) := by decide +kernel
set_option maxRecDepth 20000 in
theorem ggX0_countEndings_J6_bitCount_0f7a4 : GoodIn wsX0_countEndings wsJ6_bitCount_0f7a4 := goodIn_r _ [8, 9, 10, 11] (by decide +kernel) (by decide +kernel)
set_option maxRecDepth 20000 in
theorem gX0_countEndings_J6_bitCount_0f7a4 : GoodIn wsX0_countEndings (va_wsS RX0 84 yJ6_bitCount_0f7a4 wsJ6_bitCount_0f7a4) := goodIn_app (goodIn_of _ (by decide +kernel)) ggX0_countEndings_J6_bitCount_0f7a4
set_option maxRecDepth 20000 in
theorem ggX0_countEndings_X0_endingsFrom : GoodIn wsX0_countEndings wsX0_endingsFrom := goodIn_r _ [16, 3, 2, 17, 18, 19, 15, 20, 4, 21, 22, 23, 24, 25, 26, 27] (by decide +kernel) (by decide +kernel)
set_option maxRecDepth 20000 in
theorem gX0_countEndings_X0_endingsFrom : GoodIn wsX0_countEndings (wsV RX0 38 RX0 yX0_endingsFrom wsX0_endingsFrom) := goodIn_app (goodIn_of _ (by decide +kernel)) ggX0_countEndings_X0_endingsFrom
theorem dX0_countEndings_0 : decode cX0_countEndings 0 = .ok (.aload_n 0, 1) := by decide +kernel
theorem dX0_countEndings_1 : decode cX0_countEndings 1 = .ok (.getfield 80, 3) := by decide +kernel
theorem dX0_countEndings_4 : decode cX0_countEndings 4 = .ok (.ifCond .eq 4, 3) := by decide +kernel
theorem dX0_countEndings_7 : decode cX0_countEndings 7 = .ok (.return_, 1) := by decide +kernel
theorem dX0_countEndings_8 : decode cX0_countEndings 8 = .ok (.aload_n 0, 1) := by decide +kernel
theorem dX0_countEndings_9 : decode cX0_countEndings 9 = .ok (.iconst 1, 1) := by decide +kernel
theorem dX0_countEndings_10 : decode cX0_countEndings 10 = .ok (.putfield 80, 3) := by decide +kernel
theorem dX0_countEndings_13 : decode cX0_countEndings 13 = .ok (.aload_n 0, 1) := by decide +kernel
theorem dX0_countEndings_14 : decode cX0_countEndings 14 = .ok (.getfield 9, 3) := by decide +kernel
theorem dX0_countEndings_17 : decode cX0_countEndings 17 = .ok (.aload_n 0, 1) := by decide +kernel
theorem dX0_countEndings_18 : decode cX0_countEndings 18 = .ok (.getfield 26, 3) := by decide +kernel
theorem dX0_countEndings_21 : decode cX0_countEndings 21 = .ok (.iconst 1, 1) := by decide +kernel
theorem dX0_countEndings_22 : decode cX0_countEndings 22 = .ok (.isub, 1) := by decide +kernel
theorem dX0_countEndings_23 : decode cX0_countEndings 23 = .ok (.iconst 1, 1) := by decide +kernel
theorem dX0_countEndings_24 : decode cX0_countEndings 24 = .ok (.iastore, 1) := by decide +kernel
theorem dX0_countEndings_25 : decode cX0_countEndings 25 = .ok (.aload_n 0, 1) := by decide +kernel
theorem dX0_countEndings_26 : decode cX0_countEndings 26 = .ok (.getfield 22, 3) := by decide +kernel
theorem dX0_countEndings_29 : decode cX0_countEndings 29 = .ok (.iconst 1, 1) := by decide +kernel
theorem dX0_countEndings_30 : decode cX0_countEndings 30 = .ok (.isub, 1) := by decide +kernel
theorem dX0_countEndings_31 : decode cX0_countEndings 31 = .ok (.istore_n 1, 1) := by decide +kernel
theorem dX0_countEndings_32 : decode cX0_countEndings 32 = .ok (.iload_n 1, 1) := by decide +kernel
theorem dX0_countEndings_33 : decode cX0_countEndings 33 = .ok (.ifCond .lt 45, 3) := by decide +kernel
theorem dX0_countEndings_36 : decode cX0_countEndings 36 = .ok (.iconst 0, 1) := by decide +kernel
theorem dX0_countEndings_37 : decode cX0_countEndings 37 = .ok (.istore_n 2, 1) := by decide +kernel
theorem dX0_countEndings_38 : decode cX0_countEndings 38 = .ok (.iload_n 2, 1) := by decide +kernel
theorem dX0_countEndings_39 : decode cX0_countEndings 39 = .ok (.aload_n 0, 1) := by decide +kernel
theorem dX0_countEndings_40 : decode cX0_countEndings 40 = .ok (.getfield 26, 3) := by decide +kernel
theorem dX0_countEndings_43 : decode cX0_countEndings 43 = .ok (.if_icmp .ge 29, 3) := by decide +kernel
theorem dX0_countEndings_46 : decode cX0_countEndings 46 = .ok (.iload_n 2, 1) := by decide +kernel
theorem dX0_countEndings_47 : decode cX0_countEndings 47 = .ok (.invokestatic 84, 3) := by decide +kernel
theorem dX0_countEndings_50 : decode cX0_countEndings 50 = .ok (.iload_n 1, 1) := by decide +kernel
theorem dX0_countEndings_51 : decode cX0_countEndings 51 = .ok (.if_icmp .ne 15, 3) := by decide +kernel
theorem dX0_countEndings_54 : decode cX0_countEndings 54 = .ok (.aload_n 0, 1) := by decide +kernel
theorem dX0_countEndings_55 : decode cX0_countEndings 55 = .ok (.getfield 9, 3) := by decide +kernel
theorem dX0_countEndings_58 : decode cX0_countEndings 58 = .ok (.iload_n 2, 1) := by decide +kernel
theorem dX0_countEndings_59 : decode cX0_countEndings 59 = .ok (.aload_n 0, 1) := by decide +kernel
theorem dX0_countEndings_60 : decode cX0_countEndings 60 = .ok (.iload_n 2, 1) := by decide +kernel
theorem dX0_countEndings_61 : decode cX0_countEndings 61 = .ok (.iconst 0, 1) := by decide +kernel
theorem dX0_countEndings_62 : decode cX0_countEndings 62 = .ok (.invokevirtual 38, 3) := by decide +kernel
theorem dX0_countEndings_65 : decode cX0_countEndings 65 = .ok (.iastore, 1) := by decide +kernel
theorem dX0_countEndings_66 : decode cX0_countEndings 66 = .ok (.iinc 2 1, 3) := by decide +kernel
theorem dX0_countEndings_69 : decode cX0_countEndings 69 = .ok (.goto (-31), 3) := by decide +kernel
theorem dX0_countEndings_72 : decode cX0_countEndings 72 = .ok (.iinc 1 (-1), 3) := by decide +kernel
theorem dX0_countEndings_75 : decode cX0_countEndings 75 = .ok (.goto (-43), 3) := by decide +kernel
theorem dX0_countEndings_78 : decode cX0_countEndings 78 = .ok (.return_, 1) := by decide +kernel
set_option maxRecDepth 20000 in
theorem ggX0_endingsFrom_X0_canFollow : GoodIn wsX0_endingsFrom wsX0_canFollow := goodIn_r _ [7, 8, 9, 10, 11, 12, 13, 14, 15] (by decide +kernel) (by decide +kernel)
set_option maxRecDepth 20000 in
theorem gX0_endingsFrom_X0_canFollow : GoodIn wsX0_endingsFrom (wsV RX0 43 RX0 yX0_canFollow wsX0_canFollow) := goodIn_app (goodIn_of _ (by decide +kernel)) ggX0_endingsFrom_X0_canFollow
theorem dX0_endingsFrom_0 : decode cX0_endingsFrom 0 = .ok (.iconst 0, 1) := by decide +kernel
theorem dX0_endingsFrom_1 : decode cX0_endingsFrom 1 = .ok (.istore_n 3, 1) := by decide +kernel
theorem dX0_endingsFrom_2 : decode cX0_endingsFrom 2 = .ok (.iload_n 2, 1) := by decide +kernel
theorem dX0_endingsFrom_3 : decode cX0_endingsFrom 3 = .ok (.istore 4, 2) := by decide +kernel
theorem dX0_endingsFrom_5 : decode cX0_endingsFrom 5 = .ok (.iload 4, 2) := by decide +kernel
theorem dX0_endingsFrom_7 : decode cX0_endingsFrom 7 = .ok (.aload_n 0, 1) := by decide +kernel
theorem dX0_endingsFrom_8 : decode cX0_endingsFrom 8 = .ok (.getfield 26, 3) := by decide +kernel
theorem dX0_endingsFrom_11 : decode cX0_endingsFrom 11 = .ok (.if_icmp .ge 29, 3) := by decide +kernel
theorem dX0_endingsFrom_14 : decode cX0_endingsFrom 14 = .ok (.aload_n 0, 1) := by decide +kernel
theorem dX0_endingsFrom_15 : decode cX0_endingsFrom 15 = .ok (.iload_n 1, 1) := by decide +kernel
theorem dX0_endingsFrom_16 : decode cX0_endingsFrom 16 = .ok (.iload 4, 2) := by decide +kernel
theorem dX0_endingsFrom_18 : decode cX0_endingsFrom 18 = .ok (.invokevirtual 43, 3) := by decide +kernel
theorem dX0_endingsFrom_21 : decode cX0_endingsFrom 21 = .ok (.ifCond .eq 13, 3) := by decide +kernel
theorem dX0_endingsFrom_24 : decode cX0_endingsFrom 24 = .ok (.iload_n 3, 1) := by decide +kernel
theorem dX0_endingsFrom_25 : decode cX0_endingsFrom 25 = .ok (.aload_n 0, 1) := by decide +kernel
theorem dX0_endingsFrom_26 : decode cX0_endingsFrom 26 = .ok (.getfield 9, 3) := by decide +kernel
theorem dX0_endingsFrom_29 : decode cX0_endingsFrom 29 = .ok (.iload 4, 2) := by decide +kernel
theorem dX0_endingsFrom_31 : decode cX0_endingsFrom 31 = .ok (.iaload, 1) := by decide +kernel
theorem dX0_endingsFrom_32 : decode cX0_endingsFrom 32 = .ok (.iadd, 1) := by decide +kernel
theorem dX0_endingsFrom_33 : decode cX0_endingsFrom 33 = .ok (.istore_n 3, 1) := by decide +kernel
theorem dX0_endingsFrom_34 : decode cX0_endingsFrom 34 = .ok (.iinc 4 1, 3) := by decide +kernel
theorem dX0_endingsFrom_37 : decode cX0_endingsFrom 37 = .ok (.goto (-32), 3) := by decide +kernel
theorem dX0_endingsFrom_40 : decode cX0_endingsFrom 40 = .ok (.iload_n 3, 1) := by decide +kernel
theorem dX0_endingsFrom_41 : decode cX0_endingsFrom 41 = .ok (.ireturn, 1) := by decide +kernel
theorem dX0_canFollow_0 : decode cX0_canFollow 0 = .ok (.iconst 0, 1) := by decide +kernel
theorem dX0_canFollow_1 : decode cX0_canFollow 1 = .ok (.istore_n 3, 1) := by decide +kernel
theorem dX0_canFollow_2 : decode cX0_canFollow 2 = .ok (.aload_n 0, 1) := by decide +kernel
theorem dX0_canFollow_3 : decode cX0_canFollow 3 = .ok (.getfield 22, 3) := by decide +kernel
theorem dX0_canFollow_6 : decode cX0_canFollow 6 = .ok (.iconst 1, 1) := by decide +kernel
theorem dX0_canFollow_7 : decode cX0_canFollow 7 = .ok (.isub, 1) := by decide +kernel
theorem dX0_canFollow_8 : decode cX0_canFollow 8 = .ok (.istore 4, 2) := by decide +kernel
theorem dX0_canFollow_10 : decode cX0_canFollow 10 = .ok (.iload 4, 2) := by decide +kernel
theorem dX0_canFollow_12 : decode cX0_canFollow 12 = .ok (.ifCond .lt 36, 3) := by decide +kernel
theorem dX0_canFollow_15 : decode cX0_canFollow 15 = .ok (.iload_n 3, 1) := by decide +kernel
theorem dX0_canFollow_16 : decode cX0_canFollow 16 = .ok (.iload_n 2, 1) := by decide +kernel
theorem dX0_canFollow_17 : decode cX0_canFollow 17 = .ok (.iload 4, 2) := by decide +kernel
theorem dX0_canFollow_19 : decode cX0_canFollow 19 = .ok (.ishr, 1) := by decide +kernel
theorem dX0_canFollow_20 : decode cX0_canFollow 20 = .ok (.iconst 1, 1) := by decide +kernel
theorem dX0_canFollow_21 : decode cX0_canFollow 21 = .ok (.iand, 1) := by decide +kernel
theorem dX0_canFollow_22 : decode cX0_canFollow 22 = .ok (.iload_n 1, 1) := by decide +kernel
theorem dX0_canFollow_23 : decode cX0_canFollow 23 = .ok (.iload 4, 2) := by decide +kernel
theorem dX0_canFollow_25 : decode cX0_canFollow 25 = .ok (.ishr, 1) := by decide +kernel
theorem dX0_canFollow_26 : decode cX0_canFollow 26 = .ok (.iconst 1, 1) := by decide +kernel
theorem dX0_canFollow_27 : decode cX0_canFollow 27 = .ok (.iand, 1) := by decide +kernel
theorem dX0_canFollow_28 : decode cX0_canFollow 28 = .ok (.isub, 1) := by decide +kernel
theorem dX0_canFollow_29 : decode cX0_canFollow 29 = .ok (.iadd, 1) := by decide +kernel
theorem dX0_canFollow_30 : decode cX0_canFollow 30 = .ok (.istore_n 3, 1) := by decide +kernel
theorem dX0_canFollow_31 : decode cX0_canFollow 31 = .ok (.iload_n 3, 1) := by decide +kernel
theorem dX0_canFollow_32 : decode cX0_canFollow 32 = .ok (.ifCond .lt 8, 3) := by decide +kernel
theorem dX0_canFollow_35 : decode cX0_canFollow 35 = .ok (.iload_n 3, 1) := by decide +kernel
theorem dX0_canFollow_36 : decode cX0_canFollow 36 = .ok (.iconst 1, 1) := by decide +kernel
theorem dX0_canFollow_37 : decode cX0_canFollow 37 = .ok (.if_icmp .le 5, 3) := by decide +kernel
theorem dX0_canFollow_40 : decode cX0_canFollow 40 = .ok (.iconst 0, 1) := by decide +kernel
theorem dX0_canFollow_41 : decode cX0_canFollow 41 = .ok (.ireturn, 1) := by decide +kernel
theorem dX0_canFollow_42 : decode cX0_canFollow 42 = .ok (.iinc 4 (-1), 3) := by decide +kernel
theorem dX0_canFollow_45 : decode cX0_canFollow 45 = .ok (.goto (-35), 3) := by decide +kernel
theorem dX0_canFollow_48 : decode cX0_canFollow 48 = .ok (.iload_n 3, 1) := by decide +kernel
theorem dX0_canFollow_49 : decode cX0_canFollow 49 = .ok (.iconst 1, 1) := by decide +kernel
theorem dX0_canFollow_50 : decode cX0_canFollow 50 = .ok (.if_icmp .ne 7, 3) := by decide +kernel
theorem dX0_canFollow_53 : decode cX0_canFollow 53 = .ok (.iconst 1, 1) := by decide +kernel
theorem dX0_canFollow_54 : decode cX0_canFollow 54 = .ok (.goto 4, 3) := by decide +kernel
theorem dX0_canFollow_57 : decode cX0_canFollow 57 = .ok (.iconst 0, 1) := by decide +kernel
theorem dX0_canFollow_58 : decode cX0_canFollow 58 = .ok (.ireturn, 1) := by decide +kernel
