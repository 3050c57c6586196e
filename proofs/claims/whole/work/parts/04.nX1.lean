theorem dX1_init_0 : decode cX1_init 0 = .ok (.aload_n 0, 1) := by decide +kernel
theorem dX1_init_1 : decode cX1_init 1 = .ok (.invokespecial 3, 3) := by decide +kernel
theorem dX1_init_4 : decode cX1_init 4 = .ok (.aload_n 0, 1) := by decide +kernel
theorem dX1_init_5 : decode cX1_init 5 = .ok (.bipush 12, 2) := by decide +kernel
theorem dX1_init_7 : decode cX1_init 7 = .ok (.newarray .int, 2) := by decide +kernel
theorem dX1_init_9 : decode cX1_init 9 = .ok (.putfield 9, 3) := by decide +kernel
theorem dX1_init_12 : decode cX1_init 12 = .ok (.aload_n 0, 1) := by decide +kernel
theorem dX1_init_13 : decode cX1_init 13 = .ok (.bipush 12, 2) := by decide +kernel
theorem dX1_init_15 : decode cX1_init 15 = .ok (.newarray .int, 2) := by decide +kernel
theorem dX1_init_17 : decode cX1_init 17 = .ok (.putfield 15, 3) := by decide +kernel
theorem dX1_init_20 : decode cX1_init 20 = .ok (.aload_n 0, 1) := by decide +kernel
theorem dX1_init_21 : decode cX1_init 21 = .ok (.bipush 49, 2) := by decide +kernel
theorem dX1_init_23 : decode cX1_init 23 = .ok (.newarray .int, 2) := by decide +kernel
theorem dX1_init_25 : decode cX1_init 25 = .ok (.putfield 18, 3) := by decide +kernel
theorem dX1_init_28 : decode cX1_init 28 = .ok (.aload_n 0, 1) := by decide +kernel
theorem dX1_init_29 : decode cX1_init 29 = .ok (.bipush 24, 2) := by decide +kernel
theorem dX1_init_31 : decode cX1_init 31 = .ok (.newarray .int, 2) := by decide +kernel
theorem dX1_init_33 : decode cX1_init 33 = .ok (.putfield 21, 3) := by decide +kernel
theorem dX1_init_36 : decode cX1_init 36 = .ok (.return_, 1) := by decide +kernel
set_option maxRecDepth 20000 in
theorem ggX1_trace_X1_openPlaces : GoodIn wsX1_trace wsX1_openPlaces := goodIn_r _ [7, 2, 8, 9, 10, 11, 12, 13, 14, 15, 16, 17, 18, 19, 20, 21, 22, 23, 24, 25, 26, 27, 28, 29, 30, 85, 86, 87, 88, 89, 90, 91, 92, 93, 94, 95, 83, 84] (by decide +kernel) (by decide +kernel)
set_option maxRecDepth 20000 in
theorem gX1_trace_X1_openPlaces : GoodIn wsX1_trace (wsV RX1 31 RX1 yX1_openPlaces wsX1_openPlaces) := goodIn_app (goodIn_of _ (by decide +kernel)) ggX1_trace_X1_openPlaces
set_option maxRecDepth 20000 in
theorem ggX1_trace_X1_numberEnds : GoodIn wsX1_trace wsX1_numberEnds := goodIn_r _ [34, 35, 2, 36, 37, 38, 39, 6, 40, 41, 42, 43, 44, 45, 46, 47, 8, 85, 86, 87, 88, 89, 90, 91, 92, 93, 94, 95] (by decide +kernel) (by decide +kernel)
set_option maxRecDepth 20000 in
theorem gX1_trace_X1_numberEnds : GoodIn wsX1_trace (wsV RX1 35 RX1 yX1_numberEnds wsX1_numberEnds) := goodIn_app (goodIn_of _ (by decide +kernel)) ggX1_trace_X1_numberEnds
set_option maxRecDepth 20000 in
theorem ggX1_trace_X1_followLine : GoodIn wsX1_trace wsX1_followLine := goodIn_r _ [51, 36, 2, 37, 38, 39, 6, 40, 41, 42, 43, 44, 45, 46, 47, 8, 52, 53, 54, 55, 56, 57, 58, 59, 60, 61, 62, 63, 64, 65, 66, 67, 68, 69, 70, 71, 72, 85, 86, 87, 88, 89, 90, 91, 92, 93, 94, 95] (by decide +kernel) (by decide +kernel)
set_option maxRecDepth 20000 in
theorem gX1_trace_X1_followLine : GoodIn wsX1_trace (wsV RX1 38 RX1 yX1_followLine wsX1_followLine) := goodIn_app (goodIn_of _ (by decide +kernel)) ggX1_trace_X1_followLine
set_option maxRecDepth 20000 in
theorem ggX1_trace_X1_followRings : GoodIn wsX1_trace wsX1_followRings := goodIn_r _ [76, 77, 78, 2, 8, 79, 80, 81, 6, 82, 41, 42, 43, 44, 45, 46, 47, 52, 53, 54, 55, 56, 57, 58, 59, 60, 61, 62, 85, 86, 87, 88, 89, 90, 91, 92, 93, 94, 95] (by decide +kernel) (by decide +kernel)
set_option maxRecDepth 20000 in
theorem gX1_trace_X1_followRings : GoodIn wsX1_trace (wsV RX1 42 RX1 yX1_followRings wsX1_followRings) := goodIn_app (goodIn_of _ (by decide +kernel)) ggX1_trace_X1_followRings
theorem dX1_trace_0 : decode cX1_trace 0 = .ok (.aload_n 0, 1) := by decide +kernel
theorem dX1_trace_1 : decode cX1_trace 1 = .ok (.aload_n 1, 1) := by decide +kernel
theorem dX1_trace_2 : decode cX1_trace 2 = .ok (.getfield 24, 3) := by decide +kernel
theorem dX1_trace_5 : decode cX1_trace 5 = .ok (.putfield 30, 3) := by decide +kernel
theorem dX1_trace_8 : decode cX1_trace 8 = .ok (.aload_n 0, 1) := by decide +kernel
theorem dX1_trace_9 : decode cX1_trace 9 = .ok (.aload_n 1, 1) := by decide +kernel
theorem dX1_trace_10 : decode cX1_trace 10 = .ok (.invokevirtual 31, 3) := by decide +kernel
theorem dX1_trace_13 : decode cX1_trace 13 = .ok (.aload_n 0, 1) := by decide +kernel
theorem dX1_trace_14 : decode cX1_trace 14 = .ok (.invokevirtual 35, 3) := by decide +kernel
theorem dX1_trace_17 : decode cX1_trace 17 = .ok (.iconst 0, 1) := by decide +kernel
theorem dX1_trace_18 : decode cX1_trace 18 = .ok (.istore_n 2, 1) := by decide +kernel
theorem dX1_trace_19 : decode cX1_trace 19 = .ok (.iload_n 2, 1) := by decide +kernel
theorem dX1_trace_20 : decode cX1_trace 20 = .ok (.iconst 4, 1) := by decide +kernel
theorem dX1_trace_21 : decode cX1_trace 21 = .ok (.if_icmp .ge 31, 3) := by decide +kernel
theorem dX1_trace_24 : decode cX1_trace 24 = .ok (.iconst 0, 1) := by decide +kernel
theorem dX1_trace_25 : decode cX1_trace 25 = .ok (.istore_n 3, 1) := by decide +kernel
theorem dX1_trace_26 : decode cX1_trace 26 = .ok (.iload_n 3, 1) := by decide +kernel
theorem dX1_trace_27 : decode cX1_trace 27 = .ok (.aload_n 0, 1) := by decide +kernel
theorem dX1_trace_28 : decode cX1_trace 28 = .ok (.getfield 30, 3) := by decide +kernel
theorem dX1_trace_31 : decode cX1_trace 31 = .ok (.if_icmp .ge 15, 3) := by decide +kernel
theorem dX1_trace_34 : decode cX1_trace 34 = .ok (.aload_n 0, 1) := by decide +kernel
theorem dX1_trace_35 : decode cX1_trace 35 = .ok (.iload_n 2, 1) := by decide +kernel
theorem dX1_trace_36 : decode cX1_trace 36 = .ok (.iload_n 3, 1) := by decide +kernel
theorem dX1_trace_37 : decode cX1_trace 37 = .ok (.invokevirtual 38, 3) := by decide +kernel
theorem dX1_trace_40 : decode cX1_trace 40 = .ok (.iinc 3 1, 3) := by decide +kernel
theorem dX1_trace_43 : decode cX1_trace 43 = .ok (.goto (-17), 3) := by decide +kernel
theorem dX1_trace_46 : decode cX1_trace 46 = .ok (.iinc 2 1, 3) := by decide +kernel
theorem dX1_trace_49 : decode cX1_trace 49 = .ok (.goto (-30), 3) := by decide +kernel
theorem dX1_trace_52 : decode cX1_trace 52 = .ok (.aload_n 0, 1) := by decide +kernel
theorem dX1_trace_53 : decode cX1_trace 53 = .ok (.invokevirtual 42, 3) := by decide +kernel
theorem dX1_trace_56 : decode cX1_trace 56 = .ok (.return_, 1) := by decide +kernel
theorem dX1_partnersCode_0 : decode cX1_partnersCode 0 = .ok (.lconst 0, 1) := by decide +kernel
theorem dX1_partnersCode_1 : decode cX1_partnersCode 1 = .ok (.lstore_n 1, 1) := by decide +kernel
theorem dX1_partnersCode_2 : decode cX1_partnersCode 2 = .ok (.iconst 0, 1) := by decide +kernel
theorem dX1_partnersCode_3 : decode cX1_partnersCode 3 = .ok (.istore_n 3, 1) := by decide +kernel
theorem dX1_partnersCode_4 : decode cX1_partnersCode 4 = .ok (.iload_n 3, 1) := by decide +kernel
theorem dX1_partnersCode_5 : decode cX1_partnersCode 5 = .ok (.aload_n 0, 1) := by decide +kernel
theorem dX1_partnersCode_6 : decode cX1_partnersCode 6 = .ok (.getfield 45, 3) := by decide +kernel
theorem dX1_partnersCode_9 : decode cX1_partnersCode 9 = .ok (.if_icmp .ge 23, 3) := by decide +kernel
theorem dX1_partnersCode_12 : decode cX1_partnersCode 12 = .ok (.lload_n 1, 1) := by decide +kernel
theorem dX1_partnersCode_13 : decode cX1_partnersCode 13 = .ok (.ldc2_w 48, 3) := by decide +kernel
theorem dX1_partnersCode_16 : decode cX1_partnersCode 16 = .ok (.lmul, 1) := by decide +kernel
theorem dX1_partnersCode_17 : decode cX1_partnersCode 17 = .ok (.aload_n 0, 1) := by decide +kernel
theorem dX1_partnersCode_18 : decode cX1_partnersCode 18 = .ok (.getfield 9, 3) := by decide +kernel
theorem dX1_partnersCode_21 : decode cX1_partnersCode 21 = .ok (.iload_n 3, 1) := by decide +kernel
theorem dX1_partnersCode_22 : decode cX1_partnersCode 22 = .ok (.iaload, 1) := by decide +kernel
theorem dX1_partnersCode_23 : decode cX1_partnersCode 23 = .ok (.i2l, 1) := by decide +kernel
theorem dX1_partnersCode_24 : decode cX1_partnersCode 24 = .ok (.ladd, 1) := by decide +kernel
theorem dX1_partnersCode_25 : decode cX1_partnersCode 25 = .ok (.lstore_n 1, 1) := by decide +kernel
theorem dX1_partnersCode_26 : decode cX1_partnersCode 26 = .ok (.iinc 3 1, 3) := by decide +kernel
theorem dX1_partnersCode_29 : decode cX1_partnersCode 29 = .ok (.goto (-25), 3) := by decide +kernel
theorem dX1_partnersCode_32 : decode cX1_partnersCode 32 = .ok (.lload_n 1, 1) := by decide +kernel
theorem dX1_partnersCode_33 : decode cX1_partnersCode 33 = .ok (.lreturn, 1) := by decide +kernel
set_option maxRecDepth 20000 in
theorem ggX1_openPlaces_X3_isDrawnDown : GoodIn wsX1_openPlaces wsX3_isDrawnDown := goodIn_r _ [7, 8, 9, 10, 6, 11, 12, 13, 14, 15, 16, 36, 37] (by decide +kernel) (by decide +kernel)
set_option maxRecDepth 20000 in
theorem gX1_openPlaces_X3_isDrawnDown : GoodIn wsX1_openPlaces (wsV RX1 50 RX3 yX3_isDrawnDown wsX3_isDrawnDown) := goodIn_app (goodIn_of _ (by decide +kernel)) ggX1_openPlaces_X3_isDrawnDown
set_option maxRecDepth 20000 in
theorem ggX1_openPlaces_X3_isDrawnAcross : GoodIn wsX1_openPlaces wsX3_isDrawnAcross := goodIn_r _ [20, 21, 22, 23, 6, 24, 12, 13, 14, 15, 16, 36, 37] (by decide +kernel) (by decide +kernel)
set_option maxRecDepth 20000 in
theorem gX1_openPlaces_X3_isDrawnAcross : GoodIn wsX1_openPlaces (wsV RX1 54 RX3 yX3_isDrawnAcross wsX3_isDrawnAcross) := goodIn_app (goodIn_of _ (by decide +kernel)) ggX1_openPlaces_X3_isDrawnAcross
theorem dX1_openPlaces_0 : decode cX1_openPlaces 0 = .ok (.iconst 1, 1) := by decide +kernel
theorem dX1_openPlaces_1 : decode cX1_openPlaces 1 = .ok (.istore_n 2, 1) := by decide +kernel
theorem dX1_openPlaces_2 : decode cX1_openPlaces 2 = .ok (.iload_n 2, 1) := by decide +kernel
theorem dX1_openPlaces_3 : decode cX1_openPlaces 3 = .ok (.aload_n 0, 1) := by decide +kernel
theorem dX1_openPlaces_4 : decode cX1_openPlaces 4 = .ok (.getfield 30, 3) := by decide +kernel
theorem dX1_openPlaces_7 : decode cX1_openPlaces 7 = .ok (.if_icmp .gt 122, 3) := by decide +kernel
theorem dX1_openPlaces_10 : decode cX1_openPlaces 10 = .ok (.iconst 1, 1) := by decide +kernel
theorem dX1_openPlaces_11 : decode cX1_openPlaces 11 = .ok (.istore_n 3, 1) := by decide +kernel
theorem dX1_openPlaces_12 : decode cX1_openPlaces 12 = .ok (.iload_n 3, 1) := by decide +kernel
theorem dX1_openPlaces_13 : decode cX1_openPlaces 13 = .ok (.aload_n 0, 1) := by decide +kernel
theorem dX1_openPlaces_14 : decode cX1_openPlaces 14 = .ok (.getfield 30, 3) := by decide +kernel
theorem dX1_openPlaces_17 : decode cX1_openPlaces 17 = .ok (.if_icmp .gt 106, 3) := by decide +kernel
theorem dX1_openPlaces_20 : decode cX1_openPlaces 20 = .ok (.iconst 0, 1) := by decide +kernel
theorem dX1_openPlaces_21 : decode cX1_openPlaces 21 = .ok (.istore 4, 2) := by decide +kernel
theorem dX1_openPlaces_23 : decode cX1_openPlaces 23 = .ok (.iload 4, 2) := by decide +kernel
theorem dX1_openPlaces_25 : decode cX1_openPlaces 25 = .ok (.aload_n 1, 1) := by decide +kernel
theorem dX1_openPlaces_26 : decode cX1_openPlaces 26 = .ok (.iload_n 2, 1) := by decide +kernel
theorem dX1_openPlaces_27 : decode cX1_openPlaces 27 = .ok (.iconst 1, 1) := by decide +kernel
theorem dX1_openPlaces_28 : decode cX1_openPlaces 28 = .ok (.isub, 1) := by decide +kernel
theorem dX1_openPlaces_29 : decode cX1_openPlaces 29 = .ok (.iload_n 3, 1) := by decide +kernel
theorem dX1_openPlaces_30 : decode cX1_openPlaces 30 = .ok (.invokevirtual 50, 3) := by decide +kernel
theorem dX1_openPlaces_33 : decode cX1_openPlaces 33 = .ok (.ifCond .eq 7, 3) := by decide +kernel
theorem dX1_openPlaces_36 : decode cX1_openPlaces 36 = .ok (.iconst 1, 1) := by decide +kernel
theorem dX1_openPlaces_37 : decode cX1_openPlaces 37 = .ok (.goto 4, 3) := by decide +kernel
theorem dX1_openPlaces_40 : decode cX1_openPlaces 40 = .ok (.iconst 0, 1) := by decide +kernel
theorem dX1_openPlaces_41 : decode cX1_openPlaces 41 = .ok (.ior, 1) := by decide +kernel
theorem dX1_openPlaces_42 : decode cX1_openPlaces 42 = .ok (.istore 4, 2) := by decide +kernel
theorem dX1_openPlaces_44 : decode cX1_openPlaces 44 = .ok (.iload 4, 2) := by decide +kernel
theorem dX1_openPlaces_46 : decode cX1_openPlaces 46 = .ok (.aload_n 1, 1) := by decide +kernel
theorem dX1_openPlaces_47 : decode cX1_openPlaces 47 = .ok (.iload_n 2, 1) := by decide +kernel
theorem dX1_openPlaces_48 : decode cX1_openPlaces 48 = .ok (.iload_n 3, 1) := by decide +kernel
theorem dX1_openPlaces_49 : decode cX1_openPlaces 49 = .ok (.invokevirtual 54, 3) := by decide +kernel
theorem dX1_openPlaces_52 : decode cX1_openPlaces 52 = .ok (.ifCond .eq 7, 3) := by decide +kernel
theorem dX1_openPlaces_55 : decode cX1_openPlaces 55 = .ok (.iconst 2, 1) := by decide +kernel
theorem dX1_openPlaces_56 : decode cX1_openPlaces 56 = .ok (.goto 4, 3) := by decide +kernel
theorem dX1_openPlaces_59 : decode cX1_openPlaces 59 = .ok (.iconst 0, 1) := by decide +kernel
theorem dX1_openPlaces_60 : decode cX1_openPlaces 60 = .ok (.ior, 1) := by decide +kernel
theorem dX1_openPlaces_61 : decode cX1_openPlaces 61 = .ok (.istore 4, 2) := by decide +kernel
theorem dX1_openPlaces_63 : decode cX1_openPlaces 63 = .ok (.iload 4, 2) := by decide +kernel
theorem dX1_openPlaces_65 : decode cX1_openPlaces 65 = .ok (.aload_n 1, 1) := by decide +kernel
theorem dX1_openPlaces_66 : decode cX1_openPlaces 66 = .ok (.iload_n 2, 1) := by decide +kernel
theorem dX1_openPlaces_67 : decode cX1_openPlaces 67 = .ok (.iload_n 3, 1) := by decide +kernel
theorem dX1_openPlaces_68 : decode cX1_openPlaces 68 = .ok (.invokevirtual 50, 3) := by decide +kernel
theorem dX1_openPlaces_71 : decode cX1_openPlaces 71 = .ok (.ifCond .eq 7, 3) := by decide +kernel
theorem dX1_openPlaces_74 : decode cX1_openPlaces 74 = .ok (.iconst 4, 1) := by decide +kernel
theorem dX1_openPlaces_75 : decode cX1_openPlaces 75 = .ok (.goto 4, 3) := by decide +kernel
theorem dX1_openPlaces_78 : decode cX1_openPlaces 78 = .ok (.iconst 0, 1) := by decide +kernel
theorem dX1_openPlaces_79 : decode cX1_openPlaces 79 = .ok (.ior, 1) := by decide +kernel
theorem dX1_openPlaces_80 : decode cX1_openPlaces 80 = .ok (.istore 4, 2) := by decide +kernel
theorem dX1_openPlaces_82 : decode cX1_openPlaces 82 = .ok (.iload 4, 2) := by decide +kernel
theorem dX1_openPlaces_84 : decode cX1_openPlaces 84 = .ok (.aload_n 1, 1) := by decide +kernel
theorem dX1_openPlaces_85 : decode cX1_openPlaces 85 = .ok (.iload_n 2, 1) := by decide +kernel
theorem dX1_openPlaces_86 : decode cX1_openPlaces 86 = .ok (.iload_n 3, 1) := by decide +kernel
theorem dX1_openPlaces_87 : decode cX1_openPlaces 87 = .ok (.iconst 1, 1) := by decide +kernel
theorem dX1_openPlaces_88 : decode cX1_openPlaces 88 = .ok (.isub, 1) := by decide +kernel
theorem dX1_openPlaces_89 : decode cX1_openPlaces 89 = .ok (.invokevirtual 54, 3) := by decide +kernel
theorem dX1_openPlaces_92 : decode cX1_openPlaces 92 = .ok (.ifCond .eq 8, 3) := by decide +kernel
theorem dX1_openPlaces_95 : decode cX1_openPlaces 95 = .ok (.bipush 8, 2) := by decide +kernel
theorem dX1_openPlaces_97 : decode cX1_openPlaces 97 = .ok (.goto 4, 3) := by decide +kernel
theorem dX1_openPlaces_100 : decode cX1_openPlaces 100 = .ok (.iconst 0, 1) := by decide +kernel
theorem dX1_openPlaces_101 : decode cX1_openPlaces 101 = .ok (.ior, 1) := by decide +kernel
theorem dX1_openPlaces_102 : decode cX1_openPlaces 102 = .ok (.istore 4, 2) := by decide +kernel
theorem dX1_openPlaces_104 : decode cX1_openPlaces 104 = .ok (.aload_n 0, 1) := by decide +kernel
theorem dX1_openPlaces_105 : decode cX1_openPlaces 105 = .ok (.getfield 18, 3) := by decide +kernel
theorem dX1_openPlaces_108 : decode cX1_openPlaces 108 = .ok (.iload_n 2, 1) := by decide +kernel
theorem dX1_openPlaces_109 : decode cX1_openPlaces 109 = .ok (.bipush 7, 2) := by decide +kernel
theorem dX1_openPlaces_111 : decode cX1_openPlaces 111 = .ok (.imul, 1) := by decide +kernel
theorem dX1_openPlaces_112 : decode cX1_openPlaces 112 = .ok (.iload_n 3, 1) := by decide +kernel
theorem dX1_openPlaces_113 : decode cX1_openPlaces 113 = .ok (.iadd, 1) := by decide +kernel
theorem dX1_openPlaces_114 : decode cX1_openPlaces 114 = .ok (.iload 4, 2) := by decide +kernel
theorem dX1_openPlaces_116 : decode cX1_openPlaces 116 = .ok (.iastore, 1) := by decide +kernel
theorem dX1_openPlaces_117 : decode cX1_openPlaces 117 = .ok (.iinc 3 1, 3) := by decide +kernel
theorem dX1_openPlaces_120 : decode cX1_openPlaces 120 = .ok (.goto (-108), 3) := by decide +kernel
theorem dX1_openPlaces_123 : decode cX1_openPlaces 123 = .ok (.iinc 2 1, 3) := by decide +kernel
theorem dX1_openPlaces_126 : decode cX1_openPlaces 126 = .ok (.goto (-124), 3) := by decide +kernel
theorem dX1_openPlaces_129 : decode cX1_openPlaces 129 = .ok (.return_, 1) := by decide +kernel
set_option maxRecDepth 20000 in
theorem ggX1_numberEnds_X1_standAtRim : GoodIn wsX1_numberEnds wsX1_standAtRim := goodIn_r _ [8, 2, 9, 10, 11, 17, 18, 19, 20, 21, 22, 23, 24, 25, 26, 27] (by decide +kernel) (by decide +kernel)
set_option maxRecDepth 20000 in
theorem gX1_numberEnds_X1_standAtRim : GoodIn wsX1_numberEnds (wsV RX1 57 RX1 yX1_standAtRim wsX1_standAtRim) := goodIn_app (goodIn_of _ (by decide +kernel)) ggX1_numberEnds_X1_standAtRim
set_option maxRecDepth 20000 in
theorem ggX1_numberEnds_X1_isOpen : GoodIn wsX1_numberEnds wsX1_isOpen := goodIn_r _ [15, 16, 9, 10, 17, 18, 19, 20, 21, 22, 23, 24, 25, 26, 27] (by decide +kernel) (by decide +kernel)
set_option maxRecDepth 20000 in
theorem gX1_numberEnds_X1_isOpen : GoodIn wsX1_numberEnds (wsV RX1 60 RX1 yX1_isOpen wsX1_isOpen) := goodIn_app (goodIn_of _ (by decide +kernel)) ggX1_numberEnds_X1_isOpen
theorem dX1_numberEnds_0 : decode cX1_numberEnds 0 = .ok (.aload_n 0, 1) := by decide +kernel
theorem dX1_numberEnds_1 : decode cX1_numberEnds 1 = .ok (.iconst 0, 1) := by decide +kernel
theorem dX1_numberEnds_2 : decode cX1_numberEnds 2 = .ok (.putfield 45, 3) := by decide +kernel
theorem dX1_numberEnds_5 : decode cX1_numberEnds 5 = .ok (.iconst 0, 1) := by decide +kernel
theorem dX1_numberEnds_6 : decode cX1_numberEnds 6 = .ok (.istore_n 1, 1) := by decide +kernel
theorem dX1_numberEnds_7 : decode cX1_numberEnds 7 = .ok (.iload_n 1, 1) := by decide +kernel
theorem dX1_numberEnds_8 : decode cX1_numberEnds 8 = .ok (.iconst 4, 1) := by decide +kernel
theorem dX1_numberEnds_9 : decode cX1_numberEnds 9 = .ok (.if_icmp .ge 94, 3) := by decide +kernel
theorem dX1_numberEnds_12 : decode cX1_numberEnds 12 = .ok (.iconst 0, 1) := by decide +kernel
theorem dX1_numberEnds_13 : decode cX1_numberEnds 13 = .ok (.istore_n 2, 1) := by decide +kernel
theorem dX1_numberEnds_14 : decode cX1_numberEnds 14 = .ok (.iload_n 2, 1) := by decide +kernel
theorem dX1_numberEnds_15 : decode cX1_numberEnds 15 = .ok (.aload_n 0, 1) := by decide +kernel
theorem dX1_numberEnds_16 : decode cX1_numberEnds 16 = .ok (.getfield 30, 3) := by decide +kernel
theorem dX1_numberEnds_19 : decode cX1_numberEnds 19 = .ok (.if_icmp .ge 78, 3) := by decide +kernel
theorem dX1_numberEnds_22 : decode cX1_numberEnds 22 = .ok (.aload_n 0, 1) := by decide +kernel
theorem dX1_numberEnds_23 : decode cX1_numberEnds 23 = .ok (.iload_n 1, 1) := by decide +kernel
theorem dX1_numberEnds_24 : decode cX1_numberEnds 24 = .ok (.iload_n 2, 1) := by decide +kernel
theorem dX1_numberEnds_25 : decode cX1_numberEnds 25 = .ok (.invokevirtual 57, 3) := by decide +kernel
theorem dX1_numberEnds_28 : decode cX1_numberEnds 28 = .ok (.aload_n 0, 1) := by decide +kernel
theorem dX1_numberEnds_29 : decode cX1_numberEnds 29 = .ok (.iload_n 1, 1) := by decide +kernel
theorem dX1_numberEnds_30 : decode cX1_numberEnds 30 = .ok (.invokevirtual 60, 3) := by decide +kernel
theorem dX1_numberEnds_33 : decode cX1_numberEnds 33 = .ok (.ifCond .eq 16, 3) := by decide +kernel
theorem dX1_numberEnds_36 : decode cX1_numberEnds 36 = .ok (.aload_n 0, 1) := by decide +kernel
theorem dX1_numberEnds_37 : decode cX1_numberEnds 37 = .ok (.getfield 45, 3) := by decide +kernel
theorem dX1_numberEnds_40 : decode cX1_numberEnds 40 = .ok (.bipush 12, 2) := by decide +kernel
theorem dX1_numberEnds_42 : decode cX1_numberEnds 42 = .ok (.if_icmp .ge 7, 3) := by decide +kernel
theorem dX1_numberEnds_45 : decode cX1_numberEnds 45 = .ok (.iconst 1, 1) := by decide +kernel
theorem dX1_numberEnds_46 : decode cX1_numberEnds 46 = .ok (.goto 4, 3) := by decide +kernel
theorem dX1_numberEnds_49 : decode cX1_numberEnds 49 = .ok (.iconst 0, 1) := by decide +kernel
theorem dX1_numberEnds_50 : decode cX1_numberEnds 50 = .ok (.istore_n 3, 1) := by decide +kernel
theorem dX1_numberEnds_51 : decode cX1_numberEnds 51 = .ok (.aload_n 0, 1) := by decide +kernel
theorem dX1_numberEnds_52 : decode cX1_numberEnds 52 = .ok (.getfield 21, 3) := by decide +kernel
theorem dX1_numberEnds_55 : decode cX1_numberEnds 55 = .ok (.iload_n 1, 1) := by decide +kernel
theorem dX1_numberEnds_56 : decode cX1_numberEnds 56 = .ok (.aload_n 0, 1) := by decide +kernel
theorem dX1_numberEnds_57 : decode cX1_numberEnds 57 = .ok (.getfield 30, 3) := by decide +kernel
theorem dX1_numberEnds_60 : decode cX1_numberEnds 60 = .ok (.imul, 1) := by decide +kernel
theorem dX1_numberEnds_61 : decode cX1_numberEnds 61 = .ok (.iload_n 2, 1) := by decide +kernel
theorem dX1_numberEnds_62 : decode cX1_numberEnds 62 = .ok (.iadd, 1) := by decide +kernel
theorem dX1_numberEnds_63 : decode cX1_numberEnds 63 = .ok (.iload_n 3, 1) := by decide +kernel
theorem dX1_numberEnds_64 : decode cX1_numberEnds 64 = .ok (.ifCond .eq 10, 3) := by decide +kernel
theorem dX1_numberEnds_67 : decode cX1_numberEnds 67 = .ok (.aload_n 0, 1) := by decide +kernel
theorem dX1_numberEnds_68 : decode cX1_numberEnds 68 = .ok (.getfield 45, 3) := by decide +kernel
theorem dX1_numberEnds_71 : decode cX1_numberEnds 71 = .ok (.goto 5, 3) := by decide +kernel
theorem dX1_numberEnds_74 : decode cX1_numberEnds 74 = .ok (.bipush (-4), 2) := by decide +kernel
theorem dX1_numberEnds_76 : decode cX1_numberEnds 76 = .ok (.iastore, 1) := by decide +kernel
theorem dX1_numberEnds_77 : decode cX1_numberEnds 77 = .ok (.iload_n 3, 1) := by decide +kernel
theorem dX1_numberEnds_78 : decode cX1_numberEnds 78 = .ok (.ifCond .eq 13, 3) := by decide +kernel
theorem dX1_numberEnds_81 : decode cX1_numberEnds 81 = .ok (.aload_n 0, 1) := by decide +kernel
theorem dX1_numberEnds_82 : decode cX1_numberEnds 82 = .ok (.dup, 1) := by decide +kernel
theorem dX1_numberEnds_83 : decode cX1_numberEnds 83 = .ok (.getfield 45, 3) := by decide +kernel
theorem dX1_numberEnds_86 : decode cX1_numberEnds 86 = .ok (.iconst 1, 1) := by decide +kernel
theorem dX1_numberEnds_87 : decode cX1_numberEnds 87 = .ok (.iadd, 1) := by decide +kernel
theorem dX1_numberEnds_88 : decode cX1_numberEnds 88 = .ok (.putfield 45, 3) := by decide +kernel
theorem dX1_numberEnds_91 : decode cX1_numberEnds 91 = .ok (.iinc 2 1, 3) := by decide +kernel
theorem dX1_numberEnds_94 : decode cX1_numberEnds 94 = .ok (.goto (-80), 3) := by decide +kernel
theorem dX1_numberEnds_97 : decode cX1_numberEnds 97 = .ok (.iinc 1 1, 3) := by decide +kernel
theorem dX1_numberEnds_100 : decode cX1_numberEnds 100 = .ok (.goto (-93), 3) := by decide +kernel
theorem dX1_numberEnds_103 : decode cX1_numberEnds 103 = .ok (.return_, 1) := by decide +kernel
theorem dX1_standAtRim_0 : decode cX1_standAtRim 0 = .ok (.aload_n 0, 1) := by decide +kernel
theorem dX1_standAtRim_1 : decode cX1_standAtRim 1 = .ok (.getfield 30, 3) := by decide +kernel
theorem dX1_standAtRim_4 : decode cX1_standAtRim 4 = .ok (.iload_n 2, 1) := by decide +kernel
theorem dX1_standAtRim_5 : decode cX1_standAtRim 5 = .ok (.isub, 1) := by decide +kernel
theorem dX1_standAtRim_6 : decode cX1_standAtRim 6 = .ok (.istore_n 3, 1) := by decide +kernel
theorem dX1_standAtRim_7 : decode cX1_standAtRim 7 = .ok (.aload_n 0, 1) := by decide +kernel
theorem dX1_standAtRim_8 : decode cX1_standAtRim 8 = .ok (.iload_n 1, 1) := by decide +kernel
theorem dX1_standAtRim_9 : decode cX1_standAtRim 9 = .ok (.ifCond .ne 7, 3) := by decide +kernel
theorem dX1_standAtRim_12 : decode cX1_standAtRim 12 = .ok (.iconst 1, 1) := by decide +kernel
theorem dX1_standAtRim_13 : decode cX1_standAtRim 13 = .ok (.goto 27, 3) := by decide +kernel
theorem dX1_standAtRim_16 : decode cX1_standAtRim 16 = .ok (.iload_n 1, 1) := by decide +kernel
theorem dX1_standAtRim_17 : decode cX1_standAtRim 17 = .ok (.iconst 1, 1) := by decide +kernel
theorem dX1_standAtRim_18 : decode cX1_standAtRim 18 = .ok (.if_icmp .ne 9, 3) := by decide +kernel
theorem dX1_standAtRim_21 : decode cX1_standAtRim 21 = .ok (.iload_n 2, 1) := by decide +kernel
theorem dX1_standAtRim_22 : decode cX1_standAtRim 22 = .ok (.iconst 1, 1) := by decide +kernel
theorem dX1_standAtRim_23 : decode cX1_standAtRim 23 = .ok (.iadd, 1) := by decide +kernel
theorem dX1_standAtRim_24 : decode cX1_standAtRim 24 = .ok (.goto 16, 3) := by decide +kernel
theorem dX1_standAtRim_27 : decode cX1_standAtRim 27 = .ok (.iload_n 1, 1) := by decide +kernel
theorem dX1_standAtRim_28 : decode cX1_standAtRim 28 = .ok (.iconst 2, 1) := by decide +kernel
theorem dX1_standAtRim_29 : decode cX1_standAtRim 29 = .ok (.if_icmp .ne 10, 3) := by decide +kernel
theorem dX1_standAtRim_32 : decode cX1_standAtRim 32 = .ok (.aload_n 0, 1) := by decide +kernel
theorem dX1_standAtRim_33 : decode cX1_standAtRim 33 = .ok (.getfield 30, 3) := by decide +kernel
theorem dX1_standAtRim_36 : decode cX1_standAtRim 36 = .ok (.goto 4, 3) := by decide +kernel
theorem dX1_standAtRim_39 : decode cX1_standAtRim 39 = .ok (.iload_n 3, 1) := by decide +kernel
theorem dX1_standAtRim_40 : decode cX1_standAtRim 40 = .ok (.putfield 64, 3) := by decide +kernel
theorem dX1_standAtRim_43 : decode cX1_standAtRim 43 = .ok (.aload_n 0, 1) := by decide +kernel
theorem dX1_standAtRim_44 : decode cX1_standAtRim 44 = .ok (.iload_n 1, 1) := by decide +kernel
theorem dX1_standAtRim_45 : decode cX1_standAtRim 45 = .ok (.ifCond .ne 9, 3) := by decide +kernel
theorem dX1_standAtRim_48 : decode cX1_standAtRim 48 = .ok (.iload_n 2, 1) := by decide +kernel
theorem dX1_standAtRim_49 : decode cX1_standAtRim 49 = .ok (.iconst 1, 1) := by decide +kernel
theorem dX1_standAtRim_50 : decode cX1_standAtRim 50 = .ok (.iadd, 1) := by decide +kernel
theorem dX1_standAtRim_51 : decode cX1_standAtRim 51 = .ok (.goto 25, 3) := by decide +kernel
theorem dX1_standAtRim_54 : decode cX1_standAtRim 54 = .ok (.iload_n 1, 1) := by decide +kernel
theorem dX1_standAtRim_55 : decode cX1_standAtRim 55 = .ok (.iconst 1, 1) := by decide +kernel
theorem dX1_standAtRim_56 : decode cX1_standAtRim 56 = .ok (.if_icmp .ne 10, 3) := by decide +kernel
theorem dX1_standAtRim_59 : decode cX1_standAtRim 59 = .ok (.aload_n 0, 1) := by decide +kernel
theorem dX1_standAtRim_60 : decode cX1_standAtRim 60 = .ok (.getfield 30, 3) := by decide +kernel
theorem dX1_standAtRim_63 : decode cX1_standAtRim 63 = .ok (.goto 13, 3) := by decide +kernel
theorem dX1_standAtRim_66 : decode cX1_standAtRim 66 = .ok (.iload_n 1, 1) := by decide +kernel
theorem dX1_standAtRim_67 : decode cX1_standAtRim 67 = .ok (.iconst 2, 1) := by decide +kernel
theorem dX1_standAtRim_68 : decode cX1_standAtRim 68 = .ok (.if_icmp .ne 7, 3) := by decide +kernel
theorem dX1_standAtRim_71 : decode cX1_standAtRim 71 = .ok (.iload_n 3, 1) := by decide +kernel
theorem dX1_standAtRim_72 : decode cX1_standAtRim 72 = .ok (.goto 4, 3) := by decide +kernel
theorem dX1_standAtRim_75 : decode cX1_standAtRim 75 = .ok (.iconst 1, 1) := by decide +kernel
theorem dX1_standAtRim_76 : decode cX1_standAtRim 76 = .ok (.putfield 67, 3) := by decide +kernel
theorem dX1_standAtRim_79 : decode cX1_standAtRim 79 = .ok (.aload_n 0, 1) := by decide +kernel
theorem dX1_standAtRim_80 : decode cX1_standAtRim 80 = .ok (.iload_n 1, 1) := by decide +kernel
theorem dX1_standAtRim_81 : decode cX1_standAtRim 81 = .ok (.putfield 70, 3) := by decide +kernel
theorem dX1_standAtRim_84 : decode cX1_standAtRim 84 = .ok (.return_, 1) := by decide +kernel
theorem dX1_rimPassed_0 : decode cX1_rimPassed 0 = .ok (.aload_n 0, 1) := by decide +kernel
theorem dX1_rimPassed_1 : decode cX1_rimPassed 1 = .ok (.getfield 64, 3) := by decide +kernel
theorem dX1_rimPassed_4 : decode cX1_rimPassed 4 = .ok (.iconst 1, 1) := by decide +kernel
theorem dX1_rimPassed_5 : decode cX1_rimPassed 5 = .ok (.if_icmp .ge 17, 3) := by decide +kernel
theorem dX1_rimPassed_8 : decode cX1_rimPassed 8 = .ok (.iconst 0, 1) := by decide +kernel
theorem dX1_rimPassed_9 : decode cX1_rimPassed 9 = .ok (.aload_n 0, 1) := by decide +kernel
theorem dX1_rimPassed_10 : decode cX1_rimPassed 10 = .ok (.getfield 30, 3) := by decide +kernel
theorem dX1_rimPassed_13 : decode cX1_rimPassed 13 = .ok (.imul, 1) := by decide +kernel
theorem dX1_rimPassed_14 : decode cX1_rimPassed 14 = .ok (.aload_n 0, 1) := by decide +kernel
theorem dX1_rimPassed_15 : decode cX1_rimPassed 15 = .ok (.getfield 67, 3) := by decide +kernel
theorem dX1_rimPassed_18 : decode cX1_rimPassed 18 = .ok (.iadd, 1) := by decide +kernel
theorem dX1_rimPassed_19 : decode cX1_rimPassed 19 = .ok (.iconst 1, 1) := by decide +kernel
theorem dX1_rimPassed_20 : decode cX1_rimPassed 20 = .ok (.isub, 1) := by decide +kernel
theorem dX1_rimPassed_21 : decode cX1_rimPassed 21 = .ok (.ireturn, 1) := by decide +kernel
theorem dX1_rimPassed_22 : decode cX1_rimPassed 22 = .ok (.aload_n 0, 1) := by decide +kernel
theorem dX1_rimPassed_23 : decode cX1_rimPassed 23 = .ok (.getfield 67, 3) := by decide +kernel
theorem dX1_rimPassed_26 : decode cX1_rimPassed 26 = .ok (.aload_n 0, 1) := by decide +kernel
theorem dX1_rimPassed_27 : decode cX1_rimPassed 27 = .ok (.getfield 30, 3) := by decide +kernel
theorem dX1_rimPassed_30 : decode cX1_rimPassed 30 = .ok (.if_icmp .le 17, 3) := by decide +kernel
theorem dX1_rimPassed_33 : decode cX1_rimPassed 33 = .ok (.iconst 1, 1) := by decide +kernel
theorem dX1_rimPassed_34 : decode cX1_rimPassed 34 = .ok (.aload_n 0, 1) := by decide +kernel
theorem dX1_rimPassed_35 : decode cX1_rimPassed 35 = .ok (.getfield 30, 3) := by decide +kernel
theorem dX1_rimPassed_38 : decode cX1_rimPassed 38 = .ok (.imul, 1) := by decide +kernel
theorem dX1_rimPassed_39 : decode cX1_rimPassed 39 = .ok (.aload_n 0, 1) := by decide +kernel
theorem dX1_rimPassed_40 : decode cX1_rimPassed 40 = .ok (.getfield 64, 3) := by decide +kernel
theorem dX1_rimPassed_43 : decode cX1_rimPassed 43 = .ok (.iadd, 1) := by decide +kernel
theorem dX1_rimPassed_44 : decode cX1_rimPassed 44 = .ok (.iconst 1, 1) := by decide +kernel
theorem dX1_rimPassed_45 : decode cX1_rimPassed 45 = .ok (.isub, 1) := by decide +kernel
theorem dX1_rimPassed_46 : decode cX1_rimPassed 46 = .ok (.ireturn, 1) := by decide +kernel
theorem dX1_rimPassed_47 : decode cX1_rimPassed 47 = .ok (.aload_n 0, 1) := by decide +kernel
theorem dX1_rimPassed_48 : decode cX1_rimPassed 48 = .ok (.getfield 64, 3) := by decide +kernel
theorem dX1_rimPassed_51 : decode cX1_rimPassed 51 = .ok (.aload_n 0, 1) := by decide +kernel
theorem dX1_rimPassed_52 : decode cX1_rimPassed 52 = .ok (.getfield 30, 3) := by decide +kernel
theorem dX1_rimPassed_55 : decode cX1_rimPassed 55 = .ok (.if_icmp .le 20, 3) := by decide +kernel
theorem dX1_rimPassed_58 : decode cX1_rimPassed 58 = .ok (.iconst 2, 1) := by decide +kernel
theorem dX1_rimPassed_59 : decode cX1_rimPassed 59 = .ok (.aload_n 0, 1) := by decide +kernel
theorem dX1_rimPassed_60 : decode cX1_rimPassed 60 = .ok (.getfield 30, 3) := by decide +kernel
theorem dX1_rimPassed_63 : decode cX1_rimPassed 63 = .ok (.imul, 1) := by decide +kernel
theorem dX1_rimPassed_64 : decode cX1_rimPassed 64 = .ok (.aload_n 0, 1) := by decide +kernel
theorem dX1_rimPassed_65 : decode cX1_rimPassed 65 = .ok (.getfield 30, 3) := by decide +kernel
theorem dX1_rimPassed_68 : decode cX1_rimPassed 68 = .ok (.iadd, 1) := by decide +kernel
theorem dX1_rimPassed_69 : decode cX1_rimPassed 69 = .ok (.aload_n 0, 1) := by decide +kernel
theorem dX1_rimPassed_70 : decode cX1_rimPassed 70 = .ok (.getfield 67, 3) := by decide +kernel
theorem dX1_rimPassed_73 : decode cX1_rimPassed 73 = .ok (.isub, 1) := by decide +kernel
theorem dX1_rimPassed_74 : decode cX1_rimPassed 74 = .ok (.ireturn, 1) := by decide +kernel
theorem dX1_rimPassed_75 : decode cX1_rimPassed 75 = .ok (.iconst 3, 1) := by decide +kernel
theorem dX1_rimPassed_76 : decode cX1_rimPassed 76 = .ok (.aload_n 0, 1) := by decide +kernel
theorem dX1_rimPassed_77 : decode cX1_rimPassed 77 = .ok (.getfield 30, 3) := by decide +kernel
theorem dX1_rimPassed_80 : decode cX1_rimPassed 80 = .ok (.imul, 1) := by decide +kernel
theorem dX1_rimPassed_81 : decode cX1_rimPassed 81 = .ok (.aload_n 0, 1) := by decide +kernel
theorem dX1_rimPassed_82 : decode cX1_rimPassed 82 = .ok (.getfield 30, 3) := by decide +kernel
theorem dX1_rimPassed_85 : decode cX1_rimPassed 85 = .ok (.iadd, 1) := by decide +kernel
theorem dX1_rimPassed_86 : decode cX1_rimPassed 86 = .ok (.aload_n 0, 1) := by decide +kernel
theorem dX1_rimPassed_87 : decode cX1_rimPassed 87 = .ok (.getfield 64, 3) := by decide +kernel
theorem dX1_rimPassed_90 : decode cX1_rimPassed 90 = .ok (.isub, 1) := by decide +kernel
theorem dX1_rimPassed_91 : decode cX1_rimPassed 91 = .ok (.ireturn, 1) := by decide +kernel
set_option maxRecDepth 20000 in
theorem ggX1_isInside_X5_isBetween : GoodIn wsX1_isInside wsX5_isBetween := goodIn_r _ [6] (by decide +kernel) (by decide +kernel)
set_option maxRecDepth 20000 in
theorem gX1_isInside_X5_isBetween_n73 : GoodIn wsX1_isInside (wsX5_isBetween) := ggX1_isInside_X5_isBetween
theorem dX1_isInside_0 : decode cX1_isInside 0 = .ok (.aload_n 0, 1) := by decide +kernel
theorem dX1_isInside_1 : decode cX1_isInside 1 = .ok (.getfield 64, 3) := by decide +kernel
theorem dX1_isInside_4 : decode cX1_isInside 4 = .ok (.iconst 1, 1) := by decide +kernel
theorem dX1_isInside_5 : decode cX1_isInside 5 = .ok (.aload_n 0, 1) := by decide +kernel
theorem dX1_isInside_6 : decode cX1_isInside 6 = .ok (.getfield 30, 3) := by decide +kernel
theorem dX1_isInside_9 : decode cX1_isInside 9 = .ok (.invokestatic 73, 3) := by decide +kernel
theorem dX1_isInside_12 : decode cX1_isInside 12 = .ok (.ifCond .eq 22, 3) := by decide +kernel
theorem dX1_isInside_15 : decode cX1_isInside 15 = .ok (.aload_n 0, 1) := by decide +kernel
theorem dX1_isInside_16 : decode cX1_isInside 16 = .ok (.getfield 67, 3) := by decide +kernel
theorem dX1_isInside_19 : decode cX1_isInside 19 = .ok (.iconst 1, 1) := by decide +kernel
theorem dX1_isInside_20 : decode cX1_isInside 20 = .ok (.aload_n 0, 1) := by decide +kernel
theorem dX1_isInside_21 : decode cX1_isInside 21 = .ok (.getfield 30, 3) := by decide +kernel
theorem dX1_isInside_24 : decode cX1_isInside 24 = .ok (.invokestatic 73, 3) := by decide +kernel
theorem dX1_isInside_27 : decode cX1_isInside 27 = .ok (.ifCond .eq 7, 3) := by decide +kernel
theorem dX1_isInside_30 : decode cX1_isInside 30 = .ok (.iconst 1, 1) := by decide +kernel
theorem dX1_isInside_31 : decode cX1_isInside 31 = .ok (.goto 4, 3) := by decide +kernel
theorem dX1_isInside_34 : decode cX1_isInside 34 = .ok (.iconst 0, 1) := by decide +kernel
theorem dX1_isInside_35 : decode cX1_isInside 35 = .ok (.ireturn, 1) := by decide +kernel
theorem dX1_isOpen_0 : decode cX1_isOpen 0 = .ok (.aload_n 0, 1) := by decide +kernel
theorem dX1_isOpen_1 : decode cX1_isOpen 1 = .ok (.getfield 18, 3) := by decide +kernel
theorem dX1_isOpen_4 : decode cX1_isOpen 4 = .ok (.aload_n 0, 1) := by decide +kernel
theorem dX1_isOpen_5 : decode cX1_isOpen 5 = .ok (.getfield 64, 3) := by decide +kernel
theorem dX1_isOpen_8 : decode cX1_isOpen 8 = .ok (.bipush 7, 2) := by decide +kernel
theorem dX1_isOpen_10 : decode cX1_isOpen 10 = .ok (.imul, 1) := by decide +kernel
theorem dX1_isOpen_11 : decode cX1_isOpen 11 = .ok (.aload_n 0, 1) := by decide +kernel
theorem dX1_isOpen_12 : decode cX1_isOpen 12 = .ok (.getfield 67, 3) := by decide +kernel
theorem dX1_isOpen_15 : decode cX1_isOpen 15 = .ok (.iadd, 1) := by decide +kernel
theorem dX1_isOpen_16 : decode cX1_isOpen 16 = .ok (.iaload, 1) := by decide +kernel
theorem dX1_isOpen_17 : decode cX1_isOpen 17 = .ok (.iload_n 1, 1) := by decide +kernel
theorem dX1_isOpen_18 : decode cX1_isOpen 18 = .ok (.ishr, 1) := by decide +kernel
theorem dX1_isOpen_19 : decode cX1_isOpen 19 = .ok (.iconst 1, 1) := by decide +kernel
theorem dX1_isOpen_20 : decode cX1_isOpen 20 = .ok (.iand, 1) := by decide +kernel
theorem dX1_isOpen_21 : decode cX1_isOpen 21 = .ok (.iconst 1, 1) := by decide +kernel
theorem dX1_isOpen_22 : decode cX1_isOpen 22 = .ok (.if_icmp .ne 7, 3) := by decide +kernel
theorem dX1_isOpen_25 : decode cX1_isOpen 25 = .ok (.iconst 1, 1) := by decide +kernel
theorem dX1_isOpen_26 : decode cX1_isOpen 26 = .ok (.goto 4, 3) := by decide +kernel
theorem dX1_isOpen_29 : decode cX1_isOpen 29 = .ok (.iconst 0, 1) := by decide +kernel
theorem dX1_isOpen_30 : decode cX1_isOpen 30 = .ok (.ireturn, 1) := by decide +kernel
set_option maxRecDepth 20000 in
theorem ggX1_followLine_X1_standAtRim : GoodIn wsX1_followLine wsX1_standAtRim := goodIn_r _ [7, 2, 8, 9, 10, 37, 38, 39, 40, 41, 42, 43, 44, 45, 46, 47] (by decide +kernel) (by decide +kernel)
set_option maxRecDepth 20000 in
theorem gX1_followLine_X1_standAtRim : GoodIn wsX1_followLine (wsV RX1 57 RX1 yX1_standAtRim wsX1_standAtRim) := goodIn_app (goodIn_of _ (by decide +kernel)) ggX1_followLine_X1_standAtRim
set_option maxRecDepth 20000 in
theorem ggX1_followLine_X1_isOpen : GoodIn wsX1_followLine wsX1_isOpen := goodIn_r _ [14, 15, 8, 9, 37, 38, 39, 40, 41, 42, 43, 44, 45, 46, 47] (by decide +kernel) (by decide +kernel)
set_option maxRecDepth 20000 in
theorem gX1_followLine_X1_isOpen : GoodIn wsX1_followLine (wsV RX1 60 RX1 yX1_isOpen wsX1_isOpen) := goodIn_app (goodIn_of _ (by decide +kernel)) ggX1_followLine_X1_isOpen
set_option maxRecDepth 20000 in
theorem ggX1_followLine_X1_isInside : GoodIn wsX1_followLine wsX1_isInside := goodIn_r _ [19, 8, 2, 9, 20, 21, 22, 37, 38, 39, 40, 41, 42, 43, 44, 45, 46, 47] (by decide +kernel) (by decide +kernel)
set_option maxRecDepth 20000 in
theorem gX1_followLine_X1_isInside : GoodIn wsX1_followLine (wsV RX1 77 RX1 yX1_isInside wsX1_isInside) := goodIn_app (goodIn_of _ (by decide +kernel)) ggX1_followLine_X1_isInside
set_option maxRecDepth 20000 in
theorem ggX1_followLine_X1_goOn : GoodIn wsX1_followLine wsX1_goOn := goodIn_r _ [26, 8, 9, 15, 10, 37, 38, 39, 40, 41, 42, 43, 44, 45, 46, 47] (by decide +kernel) (by decide +kernel)
set_option maxRecDepth 20000 in
theorem gX1_followLine_X1_goOn : GoodIn wsX1_followLine (wsV RX1 81 RX1 yX1_goOn wsX1_goOn) := goodIn_app (goodIn_of _ (by decide +kernel)) ggX1_followLine_X1_goOn
set_option maxRecDepth 20000 in
theorem ggX1_followLine_X1_rimPassed : GoodIn wsX1_followLine wsX1_rimPassed := goodIn_r _ [30, 8, 2, 9, 37, 38, 39, 40, 41, 42, 43, 44, 45, 46, 47] (by decide +kernel) (by decide +kernel)
set_option maxRecDepth 20000 in
theorem gX1_followLine_X1_rimPassed : GoodIn wsX1_followLine (wsV RX1 84 RX1 yX1_rimPassed wsX1_rimPassed) := goodIn_app (goodIn_of _ (by decide +kernel)) ggX1_followLine_X1_rimPassed
set_option maxRecDepth 20000 in
theorem ggX1_followLine_X1_join : GoodIn wsX1_followLine wsX1_join := goodIn_r _ [34, 35, 36, 37, 38, 39, 40, 41, 42, 43, 44, 45, 46, 47] (by decide +kernel) (by decide +kernel)
set_option maxRecDepth 20000 in
theorem gX1_followLine_X1_join : GoodIn wsX1_followLine (wsV RX1 88 RX1 yX1_join wsX1_join) := goodIn_app (goodIn_of _ (by decide +kernel)) ggX1_followLine_X1_join
theorem dX1_followLine_0 : decode cX1_followLine 0 = .ok (.aload_n 0, 1) := by decide +kernel
theorem dX1_followLine_1 : decode cX1_followLine 1 = .ok (.iload_n 1, 1) := by decide +kernel
theorem dX1_followLine_2 : decode cX1_followLine 2 = .ok (.iload_n 2, 1) := by decide +kernel
theorem dX1_followLine_3 : decode cX1_followLine 3 = .ok (.invokevirtual 57, 3) := by decide +kernel
theorem dX1_followLine_6 : decode cX1_followLine 6 = .ok (.aload_n 0, 1) := by decide +kernel
theorem dX1_followLine_7 : decode cX1_followLine 7 = .ok (.getfield 21, 3) := by decide +kernel
theorem dX1_followLine_10 : decode cX1_followLine 10 = .ok (.iload_n 1, 1) := by decide +kernel
theorem dX1_followLine_11 : decode cX1_followLine 11 = .ok (.aload_n 0, 1) := by decide +kernel
theorem dX1_followLine_12 : decode cX1_followLine 12 = .ok (.getfield 30, 3) := by decide +kernel
theorem dX1_followLine_15 : decode cX1_followLine 15 = .ok (.imul, 1) := by decide +kernel
theorem dX1_followLine_16 : decode cX1_followLine 16 = .ok (.iload_n 2, 1) := by decide +kernel
theorem dX1_followLine_17 : decode cX1_followLine 17 = .ok (.iadd, 1) := by decide +kernel
theorem dX1_followLine_18 : decode cX1_followLine 18 = .ok (.iaload, 1) := by decide +kernel
theorem dX1_followLine_19 : decode cX1_followLine 19 = .ok (.istore_n 3, 1) := by decide +kernel
theorem dX1_followLine_20 : decode cX1_followLine 20 = .ok (.iload_n 3, 1) := by decide +kernel
theorem dX1_followLine_21 : decode cX1_followLine 21 = .ok (.ifCond .lt 11, 3) := by decide +kernel
theorem dX1_followLine_24 : decode cX1_followLine 24 = .ok (.aload_n 0, 1) := by decide +kernel
theorem dX1_followLine_25 : decode cX1_followLine 25 = .ok (.iload_n 1, 1) := by decide +kernel
theorem dX1_followLine_26 : decode cX1_followLine 26 = .ok (.invokevirtual 60, 3) := by decide +kernel
theorem dX1_followLine_29 : decode cX1_followLine 29 = .ok (.ifCond .ne 4, 3) := by decide +kernel
theorem dX1_followLine_32 : decode cX1_followLine 32 = .ok (.return_, 1) := by decide +kernel
theorem dX1_followLine_33 : decode cX1_followLine 33 = .ok (.iconst 1, 1) := by decide +kernel
theorem dX1_followLine_34 : decode cX1_followLine 34 = .ok (.istore 4, 2) := by decide +kernel
theorem dX1_followLine_36 : decode cX1_followLine 36 = .ok (.iconst 0, 1) := by decide +kernel
theorem dX1_followLine_37 : decode cX1_followLine 37 = .ok (.istore 5, 2) := by decide +kernel
theorem dX1_followLine_39 : decode cX1_followLine 39 = .ok (.iload 5, 2) := by decide +kernel
theorem dX1_followLine_41 : decode cX1_followLine 41 = .ok (.bipush 36, 2) := by decide +kernel
theorem dX1_followLine_43 : decode cX1_followLine 43 = .ok (.if_icmp .ge 23, 3) := by decide +kernel
theorem dX1_followLine_46 : decode cX1_followLine 46 = .ok (.aload_n 0, 1) := by decide +kernel
theorem dX1_followLine_47 : decode cX1_followLine 47 = .ok (.invokevirtual 77, 3) := by decide +kernel
theorem dX1_followLine_50 : decode cX1_followLine 50 = .ok (.ifCond .eq 16, 3) := by decide +kernel
theorem dX1_followLine_53 : decode cX1_followLine 53 = .ok (.aload_n 0, 1) := by decide +kernel
theorem dX1_followLine_54 : decode cX1_followLine 54 = .ok (.invokevirtual 81, 3) := by decide +kernel
theorem dX1_followLine_57 : decode cX1_followLine 57 = .ok (.iinc 4 1, 3) := by decide +kernel
theorem dX1_followLine_60 : decode cX1_followLine 60 = .ok (.iinc 5 1, 3) := by decide +kernel
theorem dX1_followLine_63 : decode cX1_followLine 63 = .ok (.goto (-24), 3) := by decide +kernel
theorem dX1_followLine_66 : decode cX1_followLine 66 = .ok (.aload_n 0, 1) := by decide +kernel
theorem dX1_followLine_67 : decode cX1_followLine 67 = .ok (.getfield 21, 3) := by decide +kernel
theorem dX1_followLine_70 : decode cX1_followLine 70 = .ok (.aload_n 0, 1) := by decide +kernel
theorem dX1_followLine_71 : decode cX1_followLine 71 = .ok (.invokevirtual 84, 3) := by decide +kernel
theorem dX1_followLine_74 : decode cX1_followLine 74 = .ok (.iaload, 1) := by decide +kernel
theorem dX1_followLine_75 : decode cX1_followLine 75 = .ok (.istore 5, 2) := by decide +kernel
theorem dX1_followLine_77 : decode cX1_followLine 77 = .ok (.iload 5, 2) := by decide +kernel
theorem dX1_followLine_79 : decode cX1_followLine 79 = .ok (.ifCond .lt 12, 3) := by decide +kernel
theorem dX1_followLine_82 : decode cX1_followLine 82 = .ok (.aload_n 0, 1) := by decide +kernel
theorem dX1_followLine_83 : decode cX1_followLine 83 = .ok (.iload_n 3, 1) := by decide +kernel
theorem dX1_followLine_84 : decode cX1_followLine 84 = .ok (.iload 5, 2) := by decide +kernel
theorem dX1_followLine_86 : decode cX1_followLine 86 = .ok (.iload 4, 2) := by decide +kernel
theorem dX1_followLine_88 : decode cX1_followLine 88 = .ok (.invokevirtual 88, 3) := by decide +kernel
theorem dX1_followLine_91 : decode cX1_followLine 91 = .ok (.return_, 1) := by decide +kernel
theorem dX1_join_0 : decode cX1_join 0 = .ok (.aload_n 0, 1) := by decide +kernel
theorem dX1_join_1 : decode cX1_join 1 = .ok (.getfield 9, 3) := by decide +kernel
theorem dX1_join_4 : decode cX1_join 4 = .ok (.iload_n 1, 1) := by decide +kernel
theorem dX1_join_5 : decode cX1_join 5 = .ok (.iload_n 2, 1) := by decide +kernel
theorem dX1_join_6 : decode cX1_join 6 = .ok (.iastore, 1) := by decide +kernel
theorem dX1_join_7 : decode cX1_join 7 = .ok (.aload_n 0, 1) := by decide +kernel
theorem dX1_join_8 : decode cX1_join 8 = .ok (.getfield 9, 3) := by decide +kernel
theorem dX1_join_11 : decode cX1_join 11 = .ok (.iload_n 2, 1) := by decide +kernel
theorem dX1_join_12 : decode cX1_join 12 = .ok (.iload_n 1, 1) := by decide +kernel
theorem dX1_join_13 : decode cX1_join 13 = .ok (.iastore, 1) := by decide +kernel
theorem dX1_join_14 : decode cX1_join 14 = .ok (.aload_n 0, 1) := by decide +kernel
theorem dX1_join_15 : decode cX1_join 15 = .ok (.getfield 15, 3) := by decide +kernel
theorem dX1_join_18 : decode cX1_join 18 = .ok (.iload_n 1, 1) := by decide +kernel
theorem dX1_join_19 : decode cX1_join 19 = .ok (.iload_n 3, 1) := by decide +kernel
theorem dX1_join_20 : decode cX1_join 20 = .ok (.iastore, 1) := by decide +kernel
theorem dX1_join_21 : decode cX1_join 21 = .ok (.aload_n 0, 1) := by decide +kernel
theorem dX1_join_22 : decode cX1_join 22 = .ok (.getfield 15, 3) := by decide +kernel
theorem dX1_join_25 : decode cX1_join 25 = .ok (.iload_n 2, 1) := by decide +kernel
theorem dX1_join_26 : decode cX1_join 26 = .ok (.iload_n 3, 1) := by decide +kernel
theorem dX1_join_27 : decode cX1_join 27 = .ok (.iastore, 1) := by decide +kernel
theorem dX1_join_28 : decode cX1_join 28 = .ok (.return_, 1) := by decide +kernel
set_option maxRecDepth 20000 in
theorem ggX1_followRings_X1_followRing : GoodIn wsX1_followRings wsX1_followRing := goodIn_r _ [9, 10, 11, 12, 4, 2, 13, 14, 15, 8, 16, 17, 18, 19, 20, 3, 21, 22, 23, 24, 25, 26, 27, 28, 29, 30, 31, 32, 33, 34, 35, 36, 37, 38] (by decide +kernel) (by decide +kernel)
set_option maxRecDepth 20000 in
theorem gX1_followRings_X1_followRing : GoodIn wsX1_followRings (wsV RX1 98 RX1 yX1_followRing wsX1_followRing) := goodIn_app (goodIn_of _ (by decide +kernel)) ggX1_followRings_X1_followRing
theorem dX1_followRings_0 : decode cX1_followRings 0 = .ok (.aload_n 0, 1) := by decide +kernel
theorem dX1_followRings_1 : decode cX1_followRings 1 = .ok (.iconst 0, 1) := by decide +kernel
theorem dX1_followRings_2 : decode cX1_followRings 2 = .ok (.putfield 92, 3) := by decide +kernel
theorem dX1_followRings_5 : decode cX1_followRings 5 = .ok (.aload_n 0, 1) := by decide +kernel
theorem dX1_followRings_6 : decode cX1_followRings 6 = .ok (.iconst 0, 1) := by decide +kernel
theorem dX1_followRings_7 : decode cX1_followRings 7 = .ok (.putfield 95, 3) := by decide +kernel
theorem dX1_followRings_10 : decode cX1_followRings 10 = .ok (.iconst 1, 1) := by decide +kernel
theorem dX1_followRings_11 : decode cX1_followRings 11 = .ok (.istore_n 1, 1) := by decide +kernel
theorem dX1_followRings_12 : decode cX1_followRings 12 = .ok (.iload_n 1, 1) := by decide +kernel
theorem dX1_followRings_13 : decode cX1_followRings 13 = .ok (.aload_n 0, 1) := by decide +kernel
theorem dX1_followRings_14 : decode cX1_followRings 14 = .ok (.getfield 30, 3) := by decide +kernel
theorem dX1_followRings_17 : decode cX1_followRings 17 = .ok (.if_icmp .gt 55, 3) := by decide +kernel
theorem dX1_followRings_20 : decode cX1_followRings 20 = .ok (.iconst 1, 1) := by decide +kernel
theorem dX1_followRings_21 : decode cX1_followRings 21 = .ok (.istore_n 2, 1) := by decide +kernel
theorem dX1_followRings_22 : decode cX1_followRings 22 = .ok (.iload_n 2, 1) := by decide +kernel
theorem dX1_followRings_23 : decode cX1_followRings 23 = .ok (.aload_n 0, 1) := by decide +kernel
theorem dX1_followRings_24 : decode cX1_followRings 24 = .ok (.getfield 30, 3) := by decide +kernel
theorem dX1_followRings_27 : decode cX1_followRings 27 = .ok (.if_icmp .gt 39, 3) := by decide +kernel
theorem dX1_followRings_30 : decode cX1_followRings 30 = .ok (.aload_n 0, 1) := by decide +kernel
theorem dX1_followRings_31 : decode cX1_followRings 31 = .ok (.getfield 18, 3) := by decide +kernel
theorem dX1_followRings_34 : decode cX1_followRings 34 = .ok (.iload_n 1, 1) := by decide +kernel
theorem dX1_followRings_35 : decode cX1_followRings 35 = .ok (.bipush 7, 2) := by decide +kernel
theorem dX1_followRings_37 : decode cX1_followRings 37 = .ok (.imul, 1) := by decide +kernel
theorem dX1_followRings_38 : decode cX1_followRings 38 = .ok (.iload_n 2, 1) := by decide +kernel
theorem dX1_followRings_39 : decode cX1_followRings 39 = .ok (.iadd, 1) := by decide +kernel
theorem dX1_followRings_40 : decode cX1_followRings 40 = .ok (.iaload, 1) := by decide +kernel
theorem dX1_followRings_41 : decode cX1_followRings 41 = .ok (.ifCond .eq 19, 3) := by decide +kernel
theorem dX1_followRings_44 : decode cX1_followRings 44 = .ok (.aload_n 0, 1) := by decide +kernel
theorem dX1_followRings_45 : decode cX1_followRings 45 = .ok (.dup, 1) := by decide +kernel
theorem dX1_followRings_46 : decode cX1_followRings 46 = .ok (.getfield 92, 3) := by decide +kernel
theorem dX1_followRings_49 : decode cX1_followRings 49 = .ok (.iconst 1, 1) := by decide +kernel
theorem dX1_followRings_50 : decode cX1_followRings 50 = .ok (.iadd, 1) := by decide +kernel
theorem dX1_followRings_51 : decode cX1_followRings 51 = .ok (.putfield 92, 3) := by decide +kernel
theorem dX1_followRings_54 : decode cX1_followRings 54 = .ok (.aload_n 0, 1) := by decide +kernel
theorem dX1_followRings_55 : decode cX1_followRings 55 = .ok (.iload_n 1, 1) := by decide +kernel
theorem dX1_followRings_56 : decode cX1_followRings 56 = .ok (.iload_n 2, 1) := by decide +kernel
theorem dX1_followRings_57 : decode cX1_followRings 57 = .ok (.invokevirtual 98, 3) := by decide +kernel
theorem dX1_followRings_60 : decode cX1_followRings 60 = .ok (.iinc 2 1, 3) := by decide +kernel
theorem dX1_followRings_63 : decode cX1_followRings 63 = .ok (.goto (-41), 3) := by decide +kernel
theorem dX1_followRings_66 : decode cX1_followRings 66 = .ok (.iinc 1 1, 3) := by decide +kernel
theorem dX1_followRings_69 : decode cX1_followRings 69 = .ok (.goto (-57), 3) := by decide +kernel
theorem dX1_followRings_72 : decode cX1_followRings 72 = .ok (.return_, 1) := by decide +kernel
set_option maxRecDepth 20000 in
theorem ggX1_followRing_X1_isOpen : GoodIn wsX1_followRing wsX1_isOpen := goodIn_r _ [10, 4, 1, 2, 23, 24, 25, 26, 27, 28, 29, 30, 31, 32, 33] (by decide +kernel) (by decide +kernel)
set_option maxRecDepth 20000 in
theorem gX1_followRing_X1_isOpen : GoodIn wsX1_followRing (wsV RX1 60 RX1 yX1_isOpen wsX1_isOpen) := goodIn_app (goodIn_of _ (by decide +kernel)) ggX1_followRing_X1_isOpen
set_option maxRecDepth 20000 in
theorem ggX1_followRing_X1_isInside : GoodIn wsX1_followRing wsX1_isInside := goodIn_r _ [14, 1, 15, 2, 16, 17, 18, 23, 24, 25, 26, 27, 28, 29, 30, 31, 32, 33] (by decide +kernel) (by decide +kernel)
set_option maxRecDepth 20000 in
theorem gX1_followRing_X1_isInside : GoodIn wsX1_followRing (wsV RX1 77 RX1 yX1_isInside wsX1_isInside) := goodIn_app (goodIn_of _ (by decide +kernel)) ggX1_followRing_X1_isInside
set_option maxRecDepth 20000 in
theorem ggX1_followRing_X1_goOn : GoodIn wsX1_followRing wsX1_goOn := goodIn_r _ [22, 1, 2, 4, 3, 23, 24, 25, 26, 27, 28, 29, 30, 31, 32, 33] (by decide +kernel) (by decide +kernel)
set_option maxRecDepth 20000 in
theorem gX1_followRing_X1_goOn : GoodIn wsX1_followRing (wsV RX1 81 RX1 yX1_goOn wsX1_goOn) := goodIn_app (goodIn_of _ (by decide +kernel)) ggX1_followRing_X1_goOn
theorem dX1_followRing_0 : decode cX1_followRing 0 = .ok (.aload_n 0, 1) := by decide +kernel
theorem dX1_followRing_1 : decode cX1_followRing 1 = .ok (.iload_n 1, 1) := by decide +kernel
theorem dX1_followRing_2 : decode cX1_followRing 2 = .ok (.putfield 64, 3) := by decide +kernel
theorem dX1_followRing_5 : decode cX1_followRing 5 = .ok (.aload_n 0, 1) := by decide +kernel
theorem dX1_followRing_6 : decode cX1_followRing 6 = .ok (.iload_n 2, 1) := by decide +kernel
theorem dX1_followRing_7 : decode cX1_followRing 7 = .ok (.putfield 67, 3) := by decide +kernel
theorem dX1_followRing_10 : decode cX1_followRing 10 = .ok (.aload_n 0, 1) := by decide +kernel
theorem dX1_followRing_11 : decode cX1_followRing 11 = .ok (.aload_n 0, 1) := by decide +kernel
theorem dX1_followRing_12 : decode cX1_followRing 12 = .ok (.iconst 0, 1) := by decide +kernel
theorem dX1_followRing_13 : decode cX1_followRing 13 = .ok (.invokevirtual 60, 3) := by decide +kernel
theorem dX1_followRing_16 : decode cX1_followRing 16 = .ok (.ifCond .eq 7, 3) := by decide +kernel
theorem dX1_followRing_19 : decode cX1_followRing 19 = .ok (.iconst 0, 1) := by decide +kernel
theorem dX1_followRing_20 : decode cX1_followRing 20 = .ok (.goto 16, 3) := by decide +kernel
theorem dX1_followRing_23 : decode cX1_followRing 23 = .ok (.aload_n 0, 1) := by decide +kernel
theorem dX1_followRing_24 : decode cX1_followRing 24 = .ok (.iconst 1, 1) := by decide +kernel
theorem dX1_followRing_25 : decode cX1_followRing 25 = .ok (.invokevirtual 60, 3) := by decide +kernel
theorem dX1_followRing_28 : decode cX1_followRing 28 = .ok (.ifCond .eq 7, 3) := by decide +kernel
theorem dX1_followRing_31 : decode cX1_followRing 31 = .ok (.iconst 1, 1) := by decide +kernel
theorem dX1_followRing_32 : decode cX1_followRing 32 = .ok (.goto 4, 3) := by decide +kernel
theorem dX1_followRing_35 : decode cX1_followRing 35 = .ok (.iconst 2, 1) := by decide +kernel
theorem dX1_followRing_36 : decode cX1_followRing 36 = .ok (.putfield 70, 3) := by decide +kernel
theorem dX1_followRing_39 : decode cX1_followRing 39 = .ok (.iconst 0, 1) := by decide +kernel
theorem dX1_followRing_40 : decode cX1_followRing 40 = .ok (.istore_n 3, 1) := by decide +kernel
theorem dX1_followRing_41 : decode cX1_followRing 41 = .ok (.iload_n 3, 1) := by decide +kernel
theorem dX1_followRing_42 : decode cX1_followRing 42 = .ok (.bipush 36, 2) := by decide +kernel
theorem dX1_followRing_44 : decode cX1_followRing 44 = .ok (.if_icmp .ge 51, 3) := by decide +kernel
theorem dX1_followRing_47 : decode cX1_followRing 47 = .ok (.aload_n 0, 1) := by decide +kernel
theorem dX1_followRing_48 : decode cX1_followRing 48 = .ok (.invokevirtual 77, 3) := by decide +kernel
theorem dX1_followRing_51 : decode cX1_followRing 51 = .ok (.ifCond .eq 44, 3) := by decide +kernel
theorem dX1_followRing_54 : decode cX1_followRing 54 = .ok (.aload_n 0, 1) := by decide +kernel
theorem dX1_followRing_55 : decode cX1_followRing 55 = .ok (.getfield 18, 3) := by decide +kernel
theorem dX1_followRing_58 : decode cX1_followRing 58 = .ok (.aload_n 0, 1) := by decide +kernel
theorem dX1_followRing_59 : decode cX1_followRing 59 = .ok (.getfield 64, 3) := by decide +kernel
theorem dX1_followRing_62 : decode cX1_followRing 62 = .ok (.bipush 7, 2) := by decide +kernel
theorem dX1_followRing_64 : decode cX1_followRing 64 = .ok (.imul, 1) := by decide +kernel
theorem dX1_followRing_65 : decode cX1_followRing 65 = .ok (.aload_n 0, 1) := by decide +kernel
theorem dX1_followRing_66 : decode cX1_followRing 66 = .ok (.getfield 67, 3) := by decide +kernel
theorem dX1_followRing_69 : decode cX1_followRing 69 = .ok (.iadd, 1) := by decide +kernel
theorem dX1_followRing_70 : decode cX1_followRing 70 = .ok (.iaload, 1) := by decide +kernel
theorem dX1_followRing_71 : decode cX1_followRing 71 = .ok (.ifCond .ne 4, 3) := by decide +kernel
theorem dX1_followRing_74 : decode cX1_followRing 74 = .ok (.return_, 1) := by decide +kernel
theorem dX1_followRing_75 : decode cX1_followRing 75 = .ok (.aload_n 0, 1) := by decide +kernel
theorem dX1_followRing_76 : decode cX1_followRing 76 = .ok (.invokevirtual 81, 3) := by decide +kernel
theorem dX1_followRing_79 : decode cX1_followRing 79 = .ok (.aload_n 0, 1) := by decide +kernel
theorem dX1_followRing_80 : decode cX1_followRing 80 = .ok (.dup, 1) := by decide +kernel
theorem dX1_followRing_81 : decode cX1_followRing 81 = .ok (.getfield 95, 3) := by decide +kernel
theorem dX1_followRing_84 : decode cX1_followRing 84 = .ok (.iconst 1, 1) := by decide +kernel
theorem dX1_followRing_85 : decode cX1_followRing 85 = .ok (.iadd, 1) := by decide +kernel
theorem dX1_followRing_86 : decode cX1_followRing 86 = .ok (.putfield 95, 3) := by decide +kernel
theorem dX1_followRing_89 : decode cX1_followRing 89 = .ok (.iinc 3 1, 3) := by decide +kernel
theorem dX1_followRing_92 : decode cX1_followRing 92 = .ok (.goto (-51), 3) := by decide +kernel
theorem dX1_followRing_95 : decode cX1_followRing 95 = .ok (.return_, 1) := by decide +kernel
theorem dX1_goOn_0 : decode cX1_goOn 0 = .ok (.aload_n 0, 1) := by decide +kernel
theorem dX1_goOn_1 : decode cX1_goOn 1 = .ok (.getfield 64, 3) := by decide +kernel
theorem dX1_goOn_4 : decode cX1_goOn 4 = .ok (.bipush 7, 2) := by decide +kernel
theorem dX1_goOn_6 : decode cX1_goOn 6 = .ok (.imul, 1) := by decide +kernel
theorem dX1_goOn_7 : decode cX1_goOn 7 = .ok (.aload_n 0, 1) := by decide +kernel
theorem dX1_goOn_8 : decode cX1_goOn 8 = .ok (.getfield 67, 3) := by decide +kernel
theorem dX1_goOn_11 : decode cX1_goOn 11 = .ok (.iadd, 1) := by decide +kernel
theorem dX1_goOn_12 : decode cX1_goOn 12 = .ok (.istore_n 1, 1) := by decide +kernel
theorem dX1_goOn_13 : decode cX1_goOn 13 = .ok (.aload_n 0, 1) := by decide +kernel
theorem dX1_goOn_14 : decode cX1_goOn 14 = .ok (.getfield 18, 3) := by decide +kernel
theorem dX1_goOn_17 : decode cX1_goOn 17 = .ok (.iload_n 1, 1) := by decide +kernel
theorem dX1_goOn_18 : decode cX1_goOn 18 = .ok (.iaload, 1) := by decide +kernel
theorem dX1_goOn_19 : decode cX1_goOn 19 = .ok (.iconst 1, 1) := by decide +kernel
theorem dX1_goOn_20 : decode cX1_goOn 20 = .ok (.aload_n 0, 1) := by decide +kernel
theorem dX1_goOn_21 : decode cX1_goOn 21 = .ok (.getfield 70, 3) := by decide +kernel
theorem dX1_goOn_24 : decode cX1_goOn 24 = .ok (.ishl, 1) := by decide +kernel
theorem dX1_goOn_25 : decode cX1_goOn 25 = .ok (.iconst (-1), 1) := by decide +kernel
theorem dX1_goOn_26 : decode cX1_goOn 26 = .ok (.ixor, 1) := by decide +kernel
theorem dX1_goOn_27 : decode cX1_goOn 27 = .ok (.iand, 1) := by decide +kernel
theorem dX1_goOn_28 : decode cX1_goOn 28 = .ok (.istore_n 2, 1) := by decide +kernel
theorem dX1_goOn_29 : decode cX1_goOn 29 = .ok (.aload_n 0, 1) := by decide +kernel
theorem dX1_goOn_30 : decode cX1_goOn 30 = .ok (.getfield 18, 3) := by decide +kernel
theorem dX1_goOn_33 : decode cX1_goOn 33 = .ok (.iload_n 1, 1) := by decide +kernel
theorem dX1_goOn_34 : decode cX1_goOn 34 = .ok (.iconst 0, 1) := by decide +kernel
theorem dX1_goOn_35 : decode cX1_goOn 35 = .ok (.iastore, 1) := by decide +kernel
theorem dX1_goOn_36 : decode cX1_goOn 36 = .ok (.iload_n 2, 1) := by decide +kernel
theorem dX1_goOn_37 : decode cX1_goOn 37 = .ok (.iconst 1, 1) := by decide +kernel
theorem dX1_goOn_38 : decode cX1_goOn 38 = .ok (.if_icmp .ne 21, 3) := by decide +kernel
theorem dX1_goOn_41 : decode cX1_goOn 41 = .ok (.aload_n 0, 1) := by decide +kernel
theorem dX1_goOn_42 : decode cX1_goOn 42 = .ok (.dup, 1) := by decide +kernel
theorem dX1_goOn_43 : decode cX1_goOn 43 = .ok (.getfield 64, 3) := by decide +kernel
theorem dX1_goOn_46 : decode cX1_goOn 46 = .ok (.iconst 1, 1) := by decide +kernel
theorem dX1_goOn_47 : decode cX1_goOn 47 = .ok (.isub, 1) := by decide +kernel
theorem dX1_goOn_48 : decode cX1_goOn 48 = .ok (.putfield 64, 3) := by decide +kernel
theorem dX1_goOn_51 : decode cX1_goOn 51 = .ok (.aload_n 0, 1) := by decide +kernel
theorem dX1_goOn_52 : decode cX1_goOn 52 = .ok (.iconst 2, 1) := by decide +kernel
theorem dX1_goOn_53 : decode cX1_goOn 53 = .ok (.putfield 70, 3) := by decide +kernel
theorem dX1_goOn_56 : decode cX1_goOn 56 = .ok (.goto 64, 3) := by decide +kernel
theorem dX1_goOn_59 : decode cX1_goOn 59 = .ok (.iload_n 2, 1) := by decide +kernel
theorem dX1_goOn_60 : decode cX1_goOn 60 = .ok (.iconst 2, 1) := by decide +kernel
theorem dX1_goOn_61 : decode cX1_goOn 61 = .ok (.if_icmp .ne 21, 3) := by decide +kernel
theorem dX1_goOn_64 : decode cX1_goOn 64 = .ok (.aload_n 0, 1) := by decide +kernel
theorem dX1_goOn_65 : decode cX1_goOn 65 = .ok (.dup, 1) := by decide +kernel
theorem dX1_goOn_66 : decode cX1_goOn 66 = .ok (.getfield 67, 3) := by decide +kernel
theorem dX1_goOn_69 : decode cX1_goOn 69 = .ok (.iconst 1, 1) := by decide +kernel
theorem dX1_goOn_70 : decode cX1_goOn 70 = .ok (.iadd, 1) := by decide +kernel
theorem dX1_goOn_71 : decode cX1_goOn 71 = .ok (.putfield 67, 3) := by decide +kernel
theorem dX1_goOn_74 : decode cX1_goOn 74 = .ok (.aload_n 0, 1) := by decide +kernel
theorem dX1_goOn_75 : decode cX1_goOn 75 = .ok (.iconst 3, 1) := by decide +kernel
theorem dX1_goOn_76 : decode cX1_goOn 76 = .ok (.putfield 70, 3) := by decide +kernel
theorem dX1_goOn_79 : decode cX1_goOn 79 = .ok (.goto 41, 3) := by decide +kernel
theorem dX1_goOn_82 : decode cX1_goOn 82 = .ok (.iload_n 2, 1) := by decide +kernel
theorem dX1_goOn_83 : decode cX1_goOn 83 = .ok (.iconst 4, 1) := by decide +kernel
theorem dX1_goOn_84 : decode cX1_goOn 84 = .ok (.if_icmp .ne 21, 3) := by decide +kernel
theorem dX1_goOn_87 : decode cX1_goOn 87 = .ok (.aload_n 0, 1) := by decide +kernel
theorem dX1_goOn_88 : decode cX1_goOn 88 = .ok (.dup, 1) := by decide +kernel
theorem dX1_goOn_89 : decode cX1_goOn 89 = .ok (.getfield 64, 3) := by decide +kernel
theorem dX1_goOn_92 : decode cX1_goOn 92 = .ok (.iconst 1, 1) := by decide +kernel
theorem dX1_goOn_93 : decode cX1_goOn 93 = .ok (.iadd, 1) := by decide +kernel
theorem dX1_goOn_94 : decode cX1_goOn 94 = .ok (.putfield 64, 3) := by decide +kernel
theorem dX1_goOn_97 : decode cX1_goOn 97 = .ok (.aload_n 0, 1) := by decide +kernel
theorem dX1_goOn_98 : decode cX1_goOn 98 = .ok (.iconst 0, 1) := by decide +kernel
theorem dX1_goOn_99 : decode cX1_goOn 99 = .ok (.putfield 70, 3) := by decide +kernel
theorem dX1_goOn_102 : decode cX1_goOn 102 = .ok (.goto 18, 3) := by decide +kernel
theorem dX1_goOn_105 : decode cX1_goOn 105 = .ok (.aload_n 0, 1) := by decide +kernel
theorem dX1_goOn_106 : decode cX1_goOn 106 = .ok (.dup, 1) := by decide +kernel
theorem dX1_goOn_107 : decode cX1_goOn 107 = .ok (.getfield 67, 3) := by decide +kernel
theorem dX1_goOn_110 : decode cX1_goOn 110 = .ok (.iconst 1, 1) := by decide +kernel
theorem dX1_goOn_111 : decode cX1_goOn 111 = .ok (.isub, 1) := by decide +kernel
theorem dX1_goOn_112 : decode cX1_goOn 112 = .ok (.putfield 67, 3) := by decide +kernel
theorem dX1_goOn_115 : decode cX1_goOn 115 = .ok (.aload_n 0, 1) := by decide +kernel
theorem dX1_goOn_116 : decode cX1_goOn 116 = .ok (.iconst 1, 1) := by decide +kernel
theorem dX1_goOn_117 : decode cX1_goOn 117 = .ok (.putfield 70, 3) := by decide +kernel
theorem dX1_goOn_120 : decode cX1_goOn 120 = .ok (.return_, 1) := by decide +kernel
