set_option maxRecDepth 20000 in
theorem ggX4_init_X3_init : GoodIn wsX4_init wsX3_init := goodIn_r _ [11, 12, 2, 3, 13, 14, 21, 22] (by decide +kernel) (by decide +kernel)
set_option maxRecDepth 20000 in
theorem gX4_init_X3_init_n17 : GoodIn wsX4_init (wsX3_init) := ggX4_init_X3_init
theorem dX4_init_0 : decode cX4_init 0 = .ok (.aload_n 0, 1) := by decide +kernel
theorem dX4_init_1 : decode cX4_init 1 = .ok (.invokespecial 3, 3) := by decide +kernel
theorem dX4_init_4 : decode cX4_init 4 = .ok (.aload_n 0, 1) := by decide +kernel
theorem dX4_init_5 : decode cX4_init 5 = .ok (.sipush 200, 3) := by decide +kernel
theorem dX4_init_8 : decode cX4_init 8 = .ok (.newarray .char, 2) := by decide +kernel
theorem dX4_init_10 : decode cX4_init 10 = .ok (.putfield 9, 3) := by decide +kernel
theorem dX4_init_13 : decode cX4_init 13 = .ok (.aload_n 0, 1) := by decide +kernel
theorem dX4_init_14 : decode cX4_init 14 = .ok (.new 15, 3) := by decide +kernel
theorem dX4_init_17 : decode cX4_init 17 = .ok (.dup, 1) := by decide +kernel
theorem dX4_init_18 : decode cX4_init 18 = .ok (.invokespecial 17, 3) := by decide +kernel
theorem dX4_init_21 : decode cX4_init 21 = .ok (.putfield 18, 3) := by decide +kernel
theorem dX4_init_24 : decode cX4_init 24 = .ok (.return_, 1) := by decide +kernel
theorem dX4_add_0 : decode cX4_add 0 = .ok (.aload_n 0, 1) := by decide +kernel
theorem dX4_add_1 : decode cX4_add 1 = .ok (.getfield 22, 3) := by decide +kernel
theorem dX4_add_4 : decode cX4_add 4 = .ok (.sipush 200, 3) := by decide +kernel
theorem dX4_add_7 : decode cX4_add 7 = .ok (.if_icmp .ge 23, 3) := by decide +kernel
theorem dX4_add_10 : decode cX4_add 10 = .ok (.aload_n 0, 1) := by decide +kernel
theorem dX4_add_11 : decode cX4_add 11 = .ok (.getfield 9, 3) := by decide +kernel
theorem dX4_add_14 : decode cX4_add 14 = .ok (.aload_n 0, 1) := by decide +kernel
theorem dX4_add_15 : decode cX4_add 15 = .ok (.getfield 22, 3) := by decide +kernel
theorem dX4_add_18 : decode cX4_add 18 = .ok (.iload_n 1, 1) := by decide +kernel
theorem dX4_add_19 : decode cX4_add 19 = .ok (.castore, 1) := by decide +kernel
theorem dX4_add_20 : decode cX4_add 20 = .ok (.aload_n 0, 1) := by decide +kernel
theorem dX4_add_21 : decode cX4_add 21 = .ok (.dup, 1) := by decide +kernel
theorem dX4_add_22 : decode cX4_add 22 = .ok (.getfield 22, 3) := by decide +kernel
theorem dX4_add_25 : decode cX4_add 25 = .ok (.iconst 1, 1) := by decide +kernel
theorem dX4_add_26 : decode cX4_add 26 = .ok (.iadd, 1) := by decide +kernel
theorem dX4_add_27 : decode cX4_add 27 = .ok (.putfield 22, 3) := by decide +kernel
theorem dX4_add_30 : decode cX4_add 30 = .ok (.return_, 1) := by decide +kernel
set_option maxRecDepth 20000 in
theorem ggX4_firstFault_X4_startRow : GoodIn wsX4_firstFault wsX4_startRow := goodIn_r _ [10, 11, 12, 47, 48, 49, 50, 51, 52] (by decide +kernel) (by decide +kernel)
set_option maxRecDepth 20000 in
theorem gX4_firstFault_X4_startRow : GoodIn wsX4_firstFault (wsV RX4 32 RX4 yX4_startRow wsX4_startRow) := goodIn_app (goodIn_of _ (by decide +kernel)) ggX4_firstFault_X4_startRow
set_option maxRecDepth 20000 in
theorem ggX4_firstFault_X4_canStand : GoodIn wsX4_firstFault wsX4_canStand := goodIn_r _ [16, 17, 18, 19, 9, 20, 1, 2, 3, 21, 22, 23, 24, 11, 12, 6, 7, 8, 10, 25, 26, 27, 28, 29, 30, 31, 32, 33, 34, 35, 36, 37, 38, 39, 40, 41, 42, 43, 44, 45, 46, 47, 48, 49, 50, 51, 52, 53, 54] (by decide +kernel) (by decide +kernel)
set_option maxRecDepth 20000 in
theorem gX4_firstFault_X4_canStand : GoodIn wsX4_firstFault (wsV RX4 35 RX4 yX4_canStand wsX4_canStand) := goodIn_app (goodIn_of _ (by decide +kernel)) ggX4_firstFault_X4_canStand
set_option maxRecDepth 20000 in
theorem ggX4_firstFault_X4_isWhole : GoodIn wsX4_firstFault wsX4_isWhole := goodIn_r _ [20, 1, 2, 3, 47, 48, 49, 50, 51, 52, 53, 54] (by decide +kernel) (by decide +kernel)
set_option maxRecDepth 20000 in
theorem gX4_firstFault_X4_isWhole : GoodIn wsX4_firstFault (wsV RX4 39 RX4 yX4_isWhole wsX4_isWhole) := goodIn_app (goodIn_of _ (by decide +kernel)) ggX4_firstFault_X4_isWhole
theorem dX4_firstFault_0 : decode cX4_firstFault 0 = .ok (.aload_n 0, 1) := by decide +kernel
theorem dX4_firstFault_1 : decode cX4_firstFault 1 = .ok (.getfield 18, 3) := by decide +kernel
theorem dX4_firstFault_4 : decode cX4_firstFault 4 = .ok (.iconst 0, 1) := by decide +kernel
theorem dX4_firstFault_5 : decode cX4_firstFault 5 = .ok (.putfield 26, 3) := by decide +kernel
theorem dX4_firstFault_8 : decode cX4_firstFault 8 = .ok (.aload_n 0, 1) := by decide +kernel
theorem dX4_firstFault_9 : decode cX4_firstFault 9 = .ok (.iconst 0, 1) := by decide +kernel
theorem dX4_firstFault_10 : decode cX4_firstFault 10 = .ok (.putfield 29, 3) := by decide +kernel
theorem dX4_firstFault_13 : decode cX4_firstFault 13 = .ok (.aload_n 0, 1) := by decide +kernel
theorem dX4_firstFault_14 : decode cX4_firstFault 14 = .ok (.invokevirtual 32, 3) := by decide +kernel
theorem dX4_firstFault_17 : decode cX4_firstFault 17 = .ok (.iconst 0, 1) := by decide +kernel
theorem dX4_firstFault_18 : decode cX4_firstFault 18 = .ok (.istore_n 1, 1) := by decide +kernel
theorem dX4_firstFault_19 : decode cX4_firstFault 19 = .ok (.iload_n 1, 1) := by decide +kernel
theorem dX4_firstFault_20 : decode cX4_firstFault 20 = .ok (.aload_n 0, 1) := by decide +kernel
theorem dX4_firstFault_21 : decode cX4_firstFault 21 = .ok (.getfield 22, 3) := by decide +kernel
theorem dX4_firstFault_24 : decode cX4_firstFault 24 = .ok (.if_icmp .ge 24, 3) := by decide +kernel
theorem dX4_firstFault_27 : decode cX4_firstFault 27 = .ok (.aload_n 0, 1) := by decide +kernel
theorem dX4_firstFault_28 : decode cX4_firstFault 28 = .ok (.aload_n 0, 1) := by decide +kernel
theorem dX4_firstFault_29 : decode cX4_firstFault 29 = .ok (.getfield 9, 3) := by decide +kernel
theorem dX4_firstFault_32 : decode cX4_firstFault 32 = .ok (.iload_n 1, 1) := by decide +kernel
theorem dX4_firstFault_33 : decode cX4_firstFault 33 = .ok (.caload, 1) := by decide +kernel
theorem dX4_firstFault_34 : decode cX4_firstFault 34 = .ok (.invokevirtual 35, 3) := by decide +kernel
theorem dX4_firstFault_37 : decode cX4_firstFault 37 = .ok (.ifCond .ne 5, 3) := by decide +kernel
theorem dX4_firstFault_40 : decode cX4_firstFault 40 = .ok (.iload_n 1, 1) := by decide +kernel
theorem dX4_firstFault_41 : decode cX4_firstFault 41 = .ok (.ireturn, 1) := by decide +kernel
theorem dX4_firstFault_42 : decode cX4_firstFault 42 = .ok (.iinc 1 1, 3) := by decide +kernel
theorem dX4_firstFault_45 : decode cX4_firstFault 45 = .ok (.goto (-26), 3) := by decide +kernel
theorem dX4_firstFault_48 : decode cX4_firstFault 48 = .ok (.aload_n 0, 1) := by decide +kernel
theorem dX4_firstFault_49 : decode cX4_firstFault 49 = .ok (.invokevirtual 39, 3) := by decide +kernel
theorem dX4_firstFault_52 : decode cX4_firstFault 52 = .ok (.ifCond .eq 8, 3) := by decide +kernel
theorem dX4_firstFault_55 : decode cX4_firstFault 55 = .ok (.bipush (-4), 2) := by decide +kernel
theorem dX4_firstFault_57 : decode cX4_firstFault 57 = .ok (.goto 7, 3) := by decide +kernel
theorem dX4_firstFault_60 : decode cX4_firstFault 60 = .ok (.aload_n 0, 1) := by decide +kernel
theorem dX4_firstFault_61 : decode cX4_firstFault 61 = .ok (.getfield 22, 3) := by decide +kernel
theorem dX4_firstFault_64 : decode cX4_firstFault 64 = .ok (.ireturn, 1) := by decide +kernel
theorem dX4_startRow_0 : decode cX4_startRow 0 = .ok (.aload_n 0, 1) := by decide +kernel
theorem dX4_startRow_1 : decode cX4_startRow 1 = .ok (.iconst 0, 1) := by decide +kernel
theorem dX4_startRow_2 : decode cX4_startRow 2 = .ok (.putfield 43, 3) := by decide +kernel
theorem dX4_startRow_5 : decode cX4_startRow 5 = .ok (.aload_n 0, 1) := by decide +kernel
theorem dX4_startRow_6 : decode cX4_startRow 6 = .ok (.iconst 0, 1) := by decide +kernel
theorem dX4_startRow_7 : decode cX4_startRow 7 = .ok (.putfield 46, 3) := by decide +kernel
theorem dX4_startRow_10 : decode cX4_startRow 10 = .ok (.return_, 1) := by decide +kernel
theorem dX4_isWhole_0 : decode cX4_isWhole 0 = .ok (.aload_n 0, 1) := by decide +kernel
theorem dX4_isWhole_1 : decode cX4_isWhole 1 = .ok (.getfield 18, 3) := by decide +kernel
theorem dX4_isWhole_4 : decode cX4_isWhole 4 = .ok (.getfield 26, 3) := by decide +kernel
theorem dX4_isWhole_7 : decode cX4_isWhole 7 = .ok (.ifCond .le 21, 3) := by decide +kernel
theorem dX4_isWhole_10 : decode cX4_isWhole 10 = .ok (.aload_n 0, 1) := by decide +kernel
theorem dX4_isWhole_11 : decode cX4_isWhole 11 = .ok (.getfield 29, 3) := by decide +kernel
theorem dX4_isWhole_14 : decode cX4_isWhole 14 = .ok (.aload_n 0, 1) := by decide +kernel
theorem dX4_isWhole_15 : decode cX4_isWhole 15 = .ok (.getfield 18, 3) := by decide +kernel
theorem dX4_isWhole_18 : decode cX4_isWhole 18 = .ok (.getfield 26, 3) := by decide +kernel
theorem dX4_isWhole_21 : decode cX4_isWhole 21 = .ok (.if_icmp .ne 7, 3) := by decide +kernel
theorem dX4_isWhole_24 : decode cX4_isWhole 24 = .ok (.iconst 1, 1) := by decide +kernel
theorem dX4_isWhole_25 : decode cX4_isWhole 25 = .ok (.goto 4, 3) := by decide +kernel
theorem dX4_isWhole_28 : decode cX4_isWhole 28 = .ok (.iconst 0, 1) := by decide +kernel
theorem dX4_isWhole_29 : decode cX4_isWhole 29 = .ok (.ireturn, 1) := by decide +kernel
set_option maxRecDepth 20000 in
theorem ggX4_canStand_X4_isWhole : GoodIn wsX4_canStand wsX4_isWhole := goodIn_r _ [5, 6, 7, 8, 41, 42, 43, 44, 45, 46, 47, 48] (by decide +kernel) (by decide +kernel)
set_option maxRecDepth 20000 in
theorem gX4_canStand_X4_isWhole : GoodIn wsX4_canStand (wsV RX4 39 RX4 yX4_isWhole wsX4_isWhole) := goodIn_app (goodIn_of _ (by decide +kernel)) ggX4_canStand_X4_isWhole
set_option maxRecDepth 20000 in
theorem ggX4_canStand_X4_canEndRow : GoodIn wsX4_canStand wsX4_canEndRow := goodIn_r _ [12, 13, 6, 7, 14, 8, 15, 16, 17, 4, 18, 41, 42, 43, 44, 45, 46, 47, 48] (by decide +kernel) (by decide +kernel)
set_option maxRecDepth 20000 in
theorem gX4_canStand_X4_canEndRow : GoodIn wsX4_canStand (wsV RX4 49 RX4 yX4_canEndRow wsX4_canEndRow) := goodIn_app (goodIn_of _ (by decide +kernel)) ggX4_canStand_X4_canEndRow
set_option maxRecDepth 20000 in
theorem ggX4_canStand_X4_canPut : GoodIn wsX4_canStand wsX4_canPut := goodIn_r _ [22, 6, 7, 13, 14, 8, 23, 24, 25, 26, 27, 28, 29, 30, 31, 32, 33, 34, 35, 36, 37, 38, 39, 40, 41, 42, 43, 44, 45, 46, 47, 48] (by decide +kernel) (by decide +kernel)
set_option maxRecDepth 20000 in
theorem gX4_canStand_X4_canPut : GoodIn wsX4_canStand (wsV RX4 52 RX4 yX4_canPut wsX4_canPut) := goodIn_app (goodIn_of _ (by decide +kernel)) ggX4_canStand_X4_canPut
theorem dX4_canStand_0 : decode cX4_canStand 0 = .ok (.aload_n 0, 1) := by decide +kernel
theorem dX4_canStand_1 : decode cX4_canStand 1 = .ok (.invokevirtual 39, 3) := by decide +kernel
theorem dX4_canStand_4 : decode cX4_canStand 4 = .ok (.ifCond .eq 5, 3) := by decide +kernel
theorem dX4_canStand_7 : decode cX4_canStand 7 = .ok (.iconst 0, 1) := by decide +kernel
theorem dX4_canStand_8 : decode cX4_canStand 8 = .ok (.ireturn, 1) := by decide +kernel
theorem dX4_canStand_9 : decode cX4_canStand 9 = .ok (.iload_n 1, 1) := by decide +kernel
theorem dX4_canStand_10 : decode cX4_canStand 10 = .ok (.bipush 59, 2) := by decide +kernel
theorem dX4_canStand_12 : decode cX4_canStand 12 = .ok (.if_icmp .ne 8, 3) := by decide +kernel
theorem dX4_canStand_15 : decode cX4_canStand 15 = .ok (.aload_n 0, 1) := by decide +kernel
theorem dX4_canStand_16 : decode cX4_canStand 16 = .ok (.invokevirtual 49, 3) := by decide +kernel
theorem dX4_canStand_19 : decode cX4_canStand 19 = .ok (.ireturn, 1) := by decide +kernel
theorem dX4_canStand_20 : decode cX4_canStand 20 = .ok (.iload_n 1, 1) := by decide +kernel
theorem dX4_canStand_21 : decode cX4_canStand 21 = .ok (.bipush 48, 2) := by decide +kernel
theorem dX4_canStand_23 : decode cX4_canStand 23 = .ok (.if_icmp .ne 9, 3) := by decide +kernel
theorem dX4_canStand_26 : decode cX4_canStand 26 = .ok (.aload_n 0, 1) := by decide +kernel
theorem dX4_canStand_27 : decode cX4_canStand 27 = .ok (.iconst 0, 1) := by decide +kernel
theorem dX4_canStand_28 : decode cX4_canStand 28 = .ok (.invokevirtual 52, 3) := by decide +kernel
theorem dX4_canStand_31 : decode cX4_canStand 31 = .ok (.ireturn, 1) := by decide +kernel
theorem dX4_canStand_32 : decode cX4_canStand 32 = .ok (.iload_n 1, 1) := by decide +kernel
theorem dX4_canStand_33 : decode cX4_canStand 33 = .ok (.bipush 43, 2) := by decide +kernel
theorem dX4_canStand_35 : decode cX4_canStand 35 = .ok (.if_icmp .ne 11, 3) := by decide +kernel
theorem dX4_canStand_38 : decode cX4_canStand 38 = .ok (.aload_n 0, 1) := by decide +kernel
theorem dX4_canStand_39 : decode cX4_canStand 39 = .ok (.iconst 1, 1) := by decide +kernel
theorem dX4_canStand_40 : decode cX4_canStand 40 = .ok (.invokevirtual 52, 3) := by decide +kernel
theorem dX4_canStand_43 : decode cX4_canStand 43 = .ok (.ifCond .ne 17, 3) := by decide +kernel
theorem dX4_canStand_46 : decode cX4_canStand 46 = .ok (.iload_n 1, 1) := by decide +kernel
theorem dX4_canStand_47 : decode cX4_canStand 47 = .ok (.bipush 45, 2) := by decide +kernel
theorem dX4_canStand_49 : decode cX4_canStand 49 = .ok (.if_icmp .ne 15, 3) := by decide +kernel
theorem dX4_canStand_52 : decode cX4_canStand 52 = .ok (.aload_n 0, 1) := by decide +kernel
theorem dX4_canStand_53 : decode cX4_canStand 53 = .ok (.iconst (-1), 1) := by decide +kernel
theorem dX4_canStand_54 : decode cX4_canStand 54 = .ok (.invokevirtual 52, 3) := by decide +kernel
theorem dX4_canStand_57 : decode cX4_canStand 57 = .ok (.ifCond .eq 7, 3) := by decide +kernel
theorem dX4_canStand_60 : decode cX4_canStand 60 = .ok (.iconst 1, 1) := by decide +kernel
theorem dX4_canStand_61 : decode cX4_canStand 61 = .ok (.goto 4, 3) := by decide +kernel
theorem dX4_canStand_64 : decode cX4_canStand 64 = .ok (.iconst 0, 1) := by decide +kernel
theorem dX4_canStand_65 : decode cX4_canStand 65 = .ok (.ireturn, 1) := by decide +kernel
set_option maxRecDepth 20000 in
theorem ggX4_canPut_X3_cornerAt : GoodIn wsX4_canPut wsX3_cornerAt := goodIn_r _ [10, 11, 30, 31] (by decide +kernel) (by decide +kernel)
set_option maxRecDepth 20000 in
theorem gX4_canPut_X3_cornerAt : GoodIn wsX4_canPut (wsV RX4 56 RX3 yX3_cornerAt wsX3_cornerAt) := goodIn_app (goodIn_of _ (by decide +kernel)) ggX4_canPut_X3_cornerAt
set_option maxRecDepth 20000 in
theorem ggX4_canPut_X3_putCorner : GoodIn wsX4_canPut wsX3_putCorner := goodIn_r _ [15, 11, 30, 31] (by decide +kernel) (by decide +kernel)
set_option maxRecDepth 20000 in
theorem gX4_canPut_X3_putCorner : GoodIn wsX4_canPut (wsV RX4 60 RX3 yX3_putCorner wsX3_putCorner) := goodIn_app (goodIn_of _ (by decide +kernel)) ggX4_canPut_X3_putCorner
set_option maxRecDepth 20000 in
theorem ggX4_canPut_X5_isBetween : GoodIn wsX4_canPut wsX5_isBetween := goodIn_r _ [18] (by decide +kernel) (by decide +kernel)
set_option maxRecDepth 20000 in
theorem gX4_canPut_X5_isBetween_n64 : GoodIn wsX4_canPut (wsX5_isBetween) := ggX4_canPut_X5_isBetween
set_option maxRecDepth 20000 in
theorem ggX4_canPut_X3_columnSum : GoodIn wsX4_canPut wsX3_columnSum := goodIn_r _ [22, 23, 7, 8, 9, 10, 11, 30, 31] (by decide +kernel) (by decide +kernel)
set_option maxRecDepth 20000 in
theorem gX4_canPut_X3_columnSum : GoodIn wsX4_canPut (wsV RX4 68 RX3 yX3_columnSum wsX3_columnSum) := goodIn_app (goodIn_of _ (by decide +kernel)) ggX4_canPut_X3_columnSum
theorem dX4_canPut_0 : decode cX4_canPut 0 = .ok (.aload_n 0, 1) := by decide +kernel
theorem dX4_canPut_1 : decode cX4_canPut 1 = .ok (.getfield 18, 3) := by decide +kernel
theorem dX4_canPut_4 : decode cX4_canPut 4 = .ok (.getfield 26, 3) := by decide +kernel
theorem dX4_canPut_7 : decode cX4_canPut 7 = .ok (.ifCond .le 13, 3) := by decide +kernel
theorem dX4_canPut_10 : decode cX4_canPut 10 = .ok (.aload_n 0, 1) := by decide +kernel
theorem dX4_canPut_11 : decode cX4_canPut 11 = .ok (.getfield 18, 3) := by decide +kernel
theorem dX4_canPut_14 : decode cX4_canPut 14 = .ok (.getfield 26, 3) := by decide +kernel
theorem dX4_canPut_17 : decode cX4_canPut 17 = .ok (.goto 5, 3) := by decide +kernel
theorem dX4_canPut_20 : decode cX4_canPut 20 = .ok (.bipush 6, 2) := by decide +kernel
theorem dX4_canPut_22 : decode cX4_canPut 22 = .ok (.istore_n 2, 1) := by decide +kernel
theorem dX4_canPut_23 : decode cX4_canPut 23 = .ok (.aload_n 0, 1) := by decide +kernel
theorem dX4_canPut_24 : decode cX4_canPut 24 = .ok (.getfield 43, 3) := by decide +kernel
theorem dX4_canPut_27 : decode cX4_canPut 27 = .ok (.iload_n 2, 1) := by decide +kernel
theorem dX4_canPut_28 : decode cX4_canPut 28 = .ok (.if_icmp .lt 5, 3) := by decide +kernel
theorem dX4_canPut_31 : decode cX4_canPut 31 = .ok (.iconst 0, 1) := by decide +kernel
theorem dX4_canPut_32 : decode cX4_canPut 32 = .ok (.ireturn, 1) := by decide +kernel
theorem dX4_canPut_33 : decode cX4_canPut 33 = .ok (.aload_n 0, 1) := by decide +kernel
theorem dX4_canPut_34 : decode cX4_canPut 34 = .ok (.dup, 1) := by decide +kernel
theorem dX4_canPut_35 : decode cX4_canPut 35 = .ok (.getfield 46, 3) := by decide +kernel
theorem dX4_canPut_38 : decode cX4_canPut 38 = .ok (.iload_n 1, 1) := by decide +kernel
theorem dX4_canPut_39 : decode cX4_canPut 39 = .ok (.iadd, 1) := by decide +kernel
theorem dX4_canPut_40 : decode cX4_canPut 40 = .ok (.putfield 46, 3) := by decide +kernel
theorem dX4_canPut_43 : decode cX4_canPut 43 = .ok (.aload_n 0, 1) := by decide +kernel
theorem dX4_canPut_44 : decode cX4_canPut 44 = .ok (.dup, 1) := by decide +kernel
theorem dX4_canPut_45 : decode cX4_canPut 45 = .ok (.getfield 43, 3) := by decide +kernel
theorem dX4_canPut_48 : decode cX4_canPut 48 = .ok (.iconst 1, 1) := by decide +kernel
theorem dX4_canPut_49 : decode cX4_canPut 49 = .ok (.iadd, 1) := by decide +kernel
theorem dX4_canPut_50 : decode cX4_canPut 50 = .ok (.putfield 43, 3) := by decide +kernel
theorem dX4_canPut_53 : decode cX4_canPut 53 = .ok (.aload_n 0, 1) := by decide +kernel
theorem dX4_canPut_54 : decode cX4_canPut 54 = .ok (.getfield 29, 3) := by decide +kernel
theorem dX4_canPut_57 : decode cX4_canPut 57 = .ok (.iconst 1, 1) := by decide +kernel
theorem dX4_canPut_58 : decode cX4_canPut 58 = .ok (.iadd, 1) := by decide +kernel
theorem dX4_canPut_59 : decode cX4_canPut 59 = .ok (.istore_n 3, 1) := by decide +kernel
theorem dX4_canPut_60 : decode cX4_canPut 60 = .ok (.aload_n 0, 1) := by decide +kernel
theorem dX4_canPut_61 : decode cX4_canPut 61 = .ok (.getfield 18, 3) := by decide +kernel
theorem dX4_canPut_64 : decode cX4_canPut 64 = .ok (.iload_n 3, 1) := by decide +kernel
theorem dX4_canPut_65 : decode cX4_canPut 65 = .ok (.aload_n 0, 1) := by decide +kernel
theorem dX4_canPut_66 : decode cX4_canPut 66 = .ok (.getfield 43, 3) := by decide +kernel
theorem dX4_canPut_69 : decode cX4_canPut 69 = .ok (.aload_n 0, 1) := by decide +kernel
theorem dX4_canPut_70 : decode cX4_canPut 70 = .ok (.getfield 18, 3) := by decide +kernel
theorem dX4_canPut_73 : decode cX4_canPut 73 = .ok (.iload_n 3, 1) := by decide +kernel
theorem dX4_canPut_74 : decode cX4_canPut 74 = .ok (.iconst 1, 1) := by decide +kernel
theorem dX4_canPut_75 : decode cX4_canPut 75 = .ok (.isub, 1) := by decide +kernel
theorem dX4_canPut_76 : decode cX4_canPut 76 = .ok (.aload_n 0, 1) := by decide +kernel
theorem dX4_canPut_77 : decode cX4_canPut 77 = .ok (.getfield 43, 3) := by decide +kernel
theorem dX4_canPut_80 : decode cX4_canPut 80 = .ok (.invokevirtual 56, 3) := by decide +kernel
theorem dX4_canPut_83 : decode cX4_canPut 83 = .ok (.aload_n 0, 1) := by decide +kernel
theorem dX4_canPut_84 : decode cX4_canPut 84 = .ok (.getfield 46, 3) := by decide +kernel
theorem dX4_canPut_87 : decode cX4_canPut 87 = .ok (.iadd, 1) := by decide +kernel
theorem dX4_canPut_88 : decode cX4_canPut 88 = .ok (.invokevirtual 60, 3) := by decide +kernel
theorem dX4_canPut_91 : decode cX4_canPut 91 = .ok (.aload_n 0, 1) := by decide +kernel
theorem dX4_canPut_92 : decode cX4_canPut 92 = .ok (.getfield 46, 3) := by decide +kernel
theorem dX4_canPut_95 : decode cX4_canPut 95 = .ok (.iconst 0, 1) := by decide +kernel
theorem dX4_canPut_96 : decode cX4_canPut 96 = .ok (.iconst 1, 1) := by decide +kernel
theorem dX4_canPut_97 : decode cX4_canPut 97 = .ok (.invokestatic 64, 3) := by decide +kernel
theorem dX4_canPut_100 : decode cX4_canPut 100 = .ok (.ifCond .eq 27, 3) := by decide +kernel
theorem dX4_canPut_103 : decode cX4_canPut 103 = .ok (.aload_n 0, 1) := by decide +kernel
theorem dX4_canPut_104 : decode cX4_canPut 104 = .ok (.getfield 18, 3) := by decide +kernel
theorem dX4_canPut_107 : decode cX4_canPut 107 = .ok (.iload_n 3, 1) := by decide +kernel
theorem dX4_canPut_108 : decode cX4_canPut 108 = .ok (.aload_n 0, 1) := by decide +kernel
theorem dX4_canPut_109 : decode cX4_canPut 109 = .ok (.getfield 43, 3) := by decide +kernel
theorem dX4_canPut_112 : decode cX4_canPut 112 = .ok (.invokevirtual 68, 3) := by decide +kernel
theorem dX4_canPut_115 : decode cX4_canPut 115 = .ok (.iconst 0, 1) := by decide +kernel
theorem dX4_canPut_116 : decode cX4_canPut 116 = .ok (.iconst 1, 1) := by decide +kernel
theorem dX4_canPut_117 : decode cX4_canPut 117 = .ok (.invokestatic 64, 3) := by decide +kernel
theorem dX4_canPut_120 : decode cX4_canPut 120 = .ok (.ifCond .eq 7, 3) := by decide +kernel
theorem dX4_canPut_123 : decode cX4_canPut 123 = .ok (.iconst 1, 1) := by decide +kernel
theorem dX4_canPut_124 : decode cX4_canPut 124 = .ok (.goto 4, 3) := by decide +kernel
theorem dX4_canPut_127 : decode cX4_canPut 127 = .ok (.iconst 0, 1) := by decide +kernel
theorem dX4_canPut_128 : decode cX4_canPut 128 = .ok (.ireturn, 1) := by decide +kernel
set_option maxRecDepth 20000 in
theorem ggX4_canEndRow_X4_startRow : GoodIn wsX4_canEndRow wsX4_startRow := goodIn_r _ [10, 1, 4, 11, 12, 13, 14, 15, 16] (by decide +kernel) (by decide +kernel)
set_option maxRecDepth 20000 in
theorem gX4_canEndRow_X4_startRow : GoodIn wsX4_canEndRow (wsV RX4 32 RX4 yX4_startRow wsX4_startRow) := goodIn_app (goodIn_of _ (by decide +kernel)) ggX4_canEndRow_X4_startRow
theorem dX4_canEndRow_0 : decode cX4_canEndRow 0 = .ok (.aload_n 0, 1) := by decide +kernel
theorem dX4_canEndRow_1 : decode cX4_canEndRow 1 = .ok (.getfield 43, 3) := by decide +kernel
theorem dX4_canEndRow_4 : decode cX4_canEndRow 4 = .ok (.ifCond .eq 25, 3) := by decide +kernel
theorem dX4_canEndRow_7 : decode cX4_canEndRow 7 = .ok (.aload_n 0, 1) := by decide +kernel
theorem dX4_canEndRow_8 : decode cX4_canEndRow 8 = .ok (.getfield 43, 3) := by decide +kernel
theorem dX4_canEndRow_11 : decode cX4_canEndRow 11 = .ok (.aload_n 0, 1) := by decide +kernel
theorem dX4_canEndRow_12 : decode cX4_canEndRow 12 = .ok (.getfield 18, 3) := by decide +kernel
theorem dX4_canEndRow_15 : decode cX4_canEndRow 15 = .ok (.getfield 26, 3) := by decide +kernel
theorem dX4_canEndRow_18 : decode cX4_canEndRow 18 = .ok (.if_icmp .lt 11, 3) := by decide +kernel
theorem dX4_canEndRow_21 : decode cX4_canEndRow 21 = .ok (.aload_n 0, 1) := by decide +kernel
theorem dX4_canEndRow_22 : decode cX4_canEndRow 22 = .ok (.getfield 46, 3) := by decide +kernel
theorem dX4_canEndRow_25 : decode cX4_canEndRow 25 = .ok (.iconst 1, 1) := by decide +kernel
theorem dX4_canEndRow_26 : decode cX4_canEndRow 26 = .ok (.if_icmp .eq 5, 3) := by decide +kernel
theorem dX4_canEndRow_29 : decode cX4_canEndRow 29 = .ok (.iconst 0, 1) := by decide +kernel
theorem dX4_canEndRow_30 : decode cX4_canEndRow 30 = .ok (.ireturn, 1) := by decide +kernel
theorem dX4_canEndRow_31 : decode cX4_canEndRow 31 = .ok (.aload_n 0, 1) := by decide +kernel
theorem dX4_canEndRow_32 : decode cX4_canEndRow 32 = .ok (.getfield 18, 3) := by decide +kernel
theorem dX4_canEndRow_35 : decode cX4_canEndRow 35 = .ok (.aload_n 0, 1) := by decide +kernel
theorem dX4_canEndRow_36 : decode cX4_canEndRow 36 = .ok (.getfield 43, 3) := by decide +kernel
theorem dX4_canEndRow_39 : decode cX4_canEndRow 39 = .ok (.putfield 26, 3) := by decide +kernel
theorem dX4_canEndRow_42 : decode cX4_canEndRow 42 = .ok (.aload_n 0, 1) := by decide +kernel
theorem dX4_canEndRow_43 : decode cX4_canEndRow 43 = .ok (.dup, 1) := by decide +kernel
theorem dX4_canEndRow_44 : decode cX4_canEndRow 44 = .ok (.getfield 29, 3) := by decide +kernel
theorem dX4_canEndRow_47 : decode cX4_canEndRow 47 = .ok (.iconst 1, 1) := by decide +kernel
theorem dX4_canEndRow_48 : decode cX4_canEndRow 48 = .ok (.iadd, 1) := by decide +kernel
theorem dX4_canEndRow_49 : decode cX4_canEndRow 49 = .ok (.putfield 29, 3) := by decide +kernel
theorem dX4_canEndRow_52 : decode cX4_canEndRow 52 = .ok (.aload_n 0, 1) := by decide +kernel
theorem dX4_canEndRow_53 : decode cX4_canEndRow 53 = .ok (.invokevirtual 32, 3) := by decide +kernel
theorem dX4_canEndRow_56 : decode cX4_canEndRow 56 = .ok (.iconst 1, 1) := by decide +kernel
theorem dX4_canEndRow_57 : decode cX4_canEndRow 57 = .ok (.ireturn, 1) := by decide +kernel
