set_option maxRecDepth 20000 in
theorem ggX5_init_X4_init : GoodIn wsX5_init wsX4_init := goodIn_r _ [29, 30, 2, 3, 31, 32, 33, 9, 10, 34, 35, 36, 37, 38, 39, 170, 171, 172, 173, 174, 175, 183, 184] (by decide +kernel) (by decide +kernel)
set_option maxRecDepth 20000 in
theorem gX5_init_X4_init_n11 : GoodIn wsX5_init (wsX4_init) := ggX5_init_X4_init
set_option maxRecDepth 20000 in
theorem ggX5_init_X3_init : GoodIn wsX5_init wsX3_init := goodIn_r _ [36, 37, 2, 3, 38, 39, 183, 184] (by decide +kernel) (by decide +kernel)
set_option maxRecDepth 20000 in
theorem gX5_init_X3_init_n18 : GoodIn wsX5_init (wsX3_init) := ggX5_init_X3_init
set_option maxRecDepth 20000 in
theorem ggX5_init_X2_init : GoodIn wsX5_init wsX2_init := goodIn_r _ [42, 43, 2, 3, 44, 45, 9, 10, 35, 36, 37, 38, 39, 185, 186, 187, 183, 184] (by decide +kernel) (by decide +kernel)
set_option maxRecDepth 20000 in
theorem gX5_init_X2_init : GoodIn wsX5_init (wsX2_init) := ggX5_init_X2_init
set_option maxRecDepth 20000 in
theorem ggX5_init_X1_init : GoodIn wsX5_init wsX1_init := goodIn_r _ [47, 48, 2, 3, 38, 49, 50, 51, 52, 188, 189, 190, 191, 192, 193, 194, 195, 196, 197, 198] (by decide +kernel) (by decide +kernel)
set_option maxRecDepth 20000 in
theorem gX5_init_X1_init_n38 : GoodIn wsX5_init (wsX1_init) := ggX5_init_X1_init
set_option maxRecDepth 20000 in
theorem ggX5_init_X0_init : GoodIn wsX5_init wsX0_init := goodIn_r _ [55, 56, 2, 3, 38, 57, 58, 59, 60, 61, 62, 199, 200, 201, 202, 203, 204, 205] (by decide +kernel) (by decide +kernel)
set_option maxRecDepth 20000 in
theorem gX5_init_X0_init : GoodIn wsX5_init (wsX0_init) := ggX5_init_X0_init
set_option maxRecDepth 20000 in
theorem ggX5_init_J0_length_8abf5 : GoodIn wsX5_init wsJ0_length_8abf5 := goodIn_r _ [67, 68, 69, 70, 71, 66, 72, 73, 74] (by decide +kernel) (by decide +kernel)
set_option maxRecDepth 20000 in
theorem gX5_init_J0_length_8abf5 : GoodIn wsX5_init (wsV RX5 54 RJ0 yJ0_length_8abf5 wsJ0_length_8abf5) := goodIn_app (goodIn_of _ (by decide +kernel)) ggX5_init_J0_length_8abf5
set_option maxRecDepth 20000 in
theorem ggX5_init_J0_charAt_5068e : GoodIn wsX5_init wsJ0_charAt_5068e := goodIn_r _ [78, 68, 79, 80, 81, 66, 82, 73, 74, 83, 84, 85, 86, 87, 88, 89, 90, 91, 92, 93, 94, 95, 96, 97, 98, 99, 100, 101, 102, 103, 104, 105, 106, 107, 108, 109, 110, 111] (by decide +kernel) (by decide +kernel)
set_option maxRecDepth 20000 in
theorem gX5_init_J0_charAt_5068e : GoodIn wsX5_init (wsV RX5 60 RJ0 yJ0_charAt_5068e wsJ0_charAt_5068e) := goodIn_app (goodIn_of _ (by decide +kernel)) ggX5_init_J0_charAt_5068e
set_option maxRecDepth 20000 in
theorem ggX5_init_X4_add : GoodIn wsX5_init wsX4_add := goodIn_r _ [115, 116, 32, 170, 171, 172, 173, 174, 175] (by decide +kernel) (by decide +kernel)
set_option maxRecDepth 20000 in
theorem gX5_init_X4_add : GoodIn wsX5_init (wsV RX5 64 RX4 yX4_add wsX4_add) := goodIn_app (goodIn_of _ (by decide +kernel)) ggX5_init_X4_add
set_option maxRecDepth 20000 in
theorem ggX5_init_X4_firstFault : GoodIn wsX5_init wsX4_firstFault := goodIn_r _ [120, 34, 121, 122, 116, 32, 123, 124, 125, 6, 126, 127, 128, 129, 130, 131, 132, 133, 134, 135, 136, 137, 138, 139, 140, 141, 142, 143, 144, 145, 146, 147, 10, 148, 39, 149, 150, 151, 152, 153, 154, 155, 156, 157, 158, 159, 160, 170, 171, 172, 173, 174, 175, 183, 184] (by decide +kernel) (by decide +kernel)
set_option maxRecDepth 20000 in
theorem gX5_init_X4_firstFault : GoodIn wsX5_init (wsV RX5 68 RX4 yX4_firstFault wsX4_firstFault) := goodIn_app (goodIn_of _ (by decide +kernel)) ggX5_init_X4_firstFault
set_option maxRecDepth 20000 in
theorem ggX5_init_X3_copy : GoodIn wsX5_init wsX3_copy := goodIn_r _ [164, 165, 39, 166, 167, 168, 169, 183, 184] (by decide +kernel) (by decide +kernel)
set_option maxRecDepth 20000 in
theorem gX5_init_X3_copy : GoodIn wsX5_init (wsV RX5 74 RX3 yX3_copy wsX3_copy) := goodIn_app (goodIn_of _ (by decide +kernel)) ggX5_init_X3_copy
theorem dX5_init_0 : decode cX5_init 0 = .ok (.aload_n 0, 1) := by decide +kernel
theorem dX5_init_1 : decode cX5_init 1 = .ok (.invokespecial 3, 3) := by decide +kernel
theorem dX5_init_4 : decode cX5_init 4 = .ok (.aload_n 0, 1) := by decide +kernel
theorem dX5_init_5 : decode cX5_init 5 = .ok (.new 9, 3) := by decide +kernel
theorem dX5_init_8 : decode cX5_init 8 = .ok (.dup, 1) := by decide +kernel
theorem dX5_init_9 : decode cX5_init 9 = .ok (.invokespecial 11, 3) := by decide +kernel
theorem dX5_init_12 : decode cX5_init 12 = .ok (.putfield 12, 3) := by decide +kernel
theorem dX5_init_15 : decode cX5_init 15 = .ok (.aload_n 0, 1) := by decide +kernel
theorem dX5_init_16 : decode cX5_init 16 = .ok (.new 16, 3) := by decide +kernel
theorem dX5_init_19 : decode cX5_init 19 = .ok (.dup, 1) := by decide +kernel
theorem dX5_init_20 : decode cX5_init 20 = .ok (.invokespecial 18, 3) := by decide +kernel
theorem dX5_init_23 : decode cX5_init 23 = .ok (.putfield 19, 3) := by decide +kernel
theorem dX5_init_26 : decode cX5_init 26 = .ok (.aload_n 0, 1) := by decide +kernel
theorem dX5_init_27 : decode cX5_init 27 = .ok (.new 16, 3) := by decide +kernel
theorem dX5_init_30 : decode cX5_init 30 = .ok (.dup, 1) := by decide +kernel
theorem dX5_init_31 : decode cX5_init 31 = .ok (.invokespecial 18, 3) := by decide +kernel
theorem dX5_init_34 : decode cX5_init 34 = .ok (.putfield 23, 3) := by decide +kernel
theorem dX5_init_37 : decode cX5_init 37 = .ok (.aload_n 0, 1) := by decide +kernel
theorem dX5_init_38 : decode cX5_init 38 = .ok (.new 16, 3) := by decide +kernel
theorem dX5_init_41 : decode cX5_init 41 = .ok (.dup, 1) := by decide +kernel
theorem dX5_init_42 : decode cX5_init 42 = .ok (.invokespecial 18, 3) := by decide +kernel
theorem dX5_init_45 : decode cX5_init 45 = .ok (.putfield 26, 3) := by decide +kernel
theorem dX5_init_48 : decode cX5_init 48 = .ok (.aload_n 0, 1) := by decide +kernel
theorem dX5_init_49 : decode cX5_init 49 = .ok (.new 29, 3) := by decide +kernel
theorem dX5_init_52 : decode cX5_init 52 = .ok (.dup, 1) := by decide +kernel
theorem dX5_init_53 : decode cX5_init 53 = .ok (.invokespecial 31, 3) := by decide +kernel
theorem dX5_init_56 : decode cX5_init 56 = .ok (.putfield 32, 3) := by decide +kernel
theorem dX5_init_59 : decode cX5_init 59 = .ok (.aload_n 0, 1) := by decide +kernel
theorem dX5_init_60 : decode cX5_init 60 = .ok (.new 36, 3) := by decide +kernel
theorem dX5_init_63 : decode cX5_init 63 = .ok (.dup, 1) := by decide +kernel
theorem dX5_init_64 : decode cX5_init 64 = .ok (.invokespecial 38, 3) := by decide +kernel
theorem dX5_init_67 : decode cX5_init 67 = .ok (.putfield 39, 3) := by decide +kernel
theorem dX5_init_70 : decode cX5_init 70 = .ok (.aload_n 0, 1) := by decide +kernel
theorem dX5_init_71 : decode cX5_init 71 = .ok (.bipush 6, 2) := by decide +kernel
theorem dX5_init_73 : decode cX5_init 73 = .ok (.anewarray 43, 3) := by decide +kernel
theorem dX5_init_76 : decode cX5_init 76 = .ok (.putfield 45, 3) := by decide +kernel
theorem dX5_init_79 : decode cX5_init 79 = .ok (.iconst 1, 1) := by decide +kernel
theorem dX5_init_80 : decode cX5_init 80 = .ok (.istore_n 1, 1) := by decide +kernel
theorem dX5_init_81 : decode cX5_init 81 = .ok (.iload_n 1, 1) := by decide +kernel
theorem dX5_init_82 : decode cX5_init 82 = .ok (.bipush 6, 2) := by decide +kernel
theorem dX5_init_84 : decode cX5_init 84 = .ok (.if_icmp .gt 25, 3) := by decide +kernel
theorem dX5_init_87 : decode cX5_init 87 = .ok (.aload_n 0, 1) := by decide +kernel
theorem dX5_init_88 : decode cX5_init 88 = .ok (.getfield 45, 3) := by decide +kernel
theorem dX5_init_91 : decode cX5_init 91 = .ok (.iload_n 1, 1) := by decide +kernel
theorem dX5_init_92 : decode cX5_init 92 = .ok (.iconst 1, 1) := by decide +kernel
theorem dX5_init_93 : decode cX5_init 93 = .ok (.isub, 1) := by decide +kernel
theorem dX5_init_94 : decode cX5_init 94 = .ok (.new 43, 3) := by decide +kernel
theorem dX5_init_97 : decode cX5_init 97 = .ok (.dup, 1) := by decide +kernel
theorem dX5_init_98 : decode cX5_init 98 = .ok (.iload_n 1, 1) := by decide +kernel
theorem dX5_init_99 : decode cX5_init 99 = .ok (.invokespecial 49, 3) := by decide +kernel
theorem dX5_init_102 : decode cX5_init 102 = .ok (.aastore, 1) := by decide +kernel
theorem dX5_init_103 : decode cX5_init 103 = .ok (.iinc 1 1, 3) := by decide +kernel
theorem dX5_init_106 : decode cX5_init 106 = .ok (.goto (-25), 3) := by decide +kernel
theorem dX5_init_109 : decode cX5_init 109 = .ok (.iconst 0, 1) := by decide +kernel
theorem dX5_init_110 : decode cX5_init 110 = .ok (.istore_n 1, 1) := by decide +kernel
theorem dX5_init_111 : decode cX5_init 111 = .ok (.iload_n 1, 1) := by decide +kernel
theorem dX5_init_112 : decode cX5_init 112 = .ok (.ldc 52, 2) := by decide +kernel
theorem dX5_init_114 : decode cX5_init 114 = .ok (.invokevirtual 54, 3) := by decide +kernel
theorem dX5_init_117 : decode cX5_init 117 = .ok (.if_icmp .ge 22, 3) := by decide +kernel
theorem dX5_init_120 : decode cX5_init 120 = .ok (.aload_n 0, 1) := by decide +kernel
theorem dX5_init_121 : decode cX5_init 121 = .ok (.getfield 12, 3) := by decide +kernel
theorem dX5_init_124 : decode cX5_init 124 = .ok (.ldc 52, 2) := by decide +kernel
theorem dX5_init_126 : decode cX5_init 126 = .ok (.iload_n 1, 1) := by decide +kernel
theorem dX5_init_127 : decode cX5_init 127 = .ok (.invokevirtual 60, 3) := by decide +kernel
theorem dX5_init_130 : decode cX5_init 130 = .ok (.invokevirtual 64, 3) := by decide +kernel
theorem dX5_init_133 : decode cX5_init 133 = .ok (.iinc 1 1, 3) := by decide +kernel
theorem dX5_init_136 : decode cX5_init 136 = .ok (.goto (-25), 3) := by decide +kernel
theorem dX5_init_139 : decode cX5_init 139 = .ok (.aload_n 0, 1) := by decide +kernel
theorem dX5_init_140 : decode cX5_init 140 = .ok (.getfield 12, 3) := by decide +kernel
theorem dX5_init_143 : decode cX5_init 143 = .ok (.invokevirtual 68, 3) := by decide +kernel
theorem dX5_init_146 : decode cX5_init 146 = .ok (.pop, 1) := by decide +kernel
theorem dX5_init_147 : decode cX5_init 147 = .ok (.aload_n 0, 1) := by decide +kernel
theorem dX5_init_148 : decode cX5_init 148 = .ok (.getfield 19, 3) := by decide +kernel
theorem dX5_init_151 : decode cX5_init 151 = .ok (.aload_n 0, 1) := by decide +kernel
theorem dX5_init_152 : decode cX5_init 152 = .ok (.getfield 12, 3) := by decide +kernel
theorem dX5_init_155 : decode cX5_init 155 = .ok (.getfield 71, 3) := by decide +kernel
theorem dX5_init_158 : decode cX5_init 158 = .ok (.invokevirtual 74, 3) := by decide +kernel
theorem dX5_init_161 : decode cX5_init 161 = .ok (.aload_n 0, 1) := by decide +kernel
theorem dX5_init_162 : decode cX5_init 162 = .ok (.getfield 12, 3) := by decide +kernel
theorem dX5_init_165 : decode cX5_init 165 = .ok (.iconst 0, 1) := by decide +kernel
theorem dX5_init_166 : decode cX5_init 166 = .ok (.putfield 78, 3) := by decide +kernel
theorem dX5_init_169 : decode cX5_init 169 = .ok (.return_, 1) := by decide +kernel
set_option maxRecDepth 20000 in
theorem ggX5_write_X4_add : GoodIn wsX5_write wsX4_add := goodIn_r _ [7, 8, 9, 17, 18, 19, 20, 21, 22] (by decide +kernel) (by decide +kernel)
set_option maxRecDepth 20000 in
theorem gX5_write_X4_add : GoodIn wsX5_write (wsV RX5 64 RX4 yX4_add wsX4_add) := goodIn_app (goodIn_of _ (by decide +kernel)) ggX5_write_X4_add
theorem dX5_write_0 : decode cX5_write 0 = .ok (.iload_n 1, 1) := by decide +kernel
theorem dX5_write_1 : decode cX5_write 1 = .ok (.bipush 32, 2) := by decide +kernel
theorem dX5_write_3 : decode cX5_write 3 = .ok (.if_icmp .lt 9, 3) := by decide +kernel
theorem dX5_write_6 : decode cX5_write 6 = .ok (.iload_n 1, 1) := by decide +kernel
theorem dX5_write_7 : decode cX5_write 7 = .ok (.bipush 126, 2) := by decide +kernel
theorem dX5_write_9 : decode cX5_write 9 = .ok (.if_icmp .le 5, 3) := by decide +kernel
theorem dX5_write_12 : decode cX5_write 12 = .ok (.iconst (-1), 1) := by decide +kernel
theorem dX5_write_13 : decode cX5_write 13 = .ok (.ireturn, 1) := by decide +kernel
theorem dX5_write_14 : decode cX5_write 14 = .ok (.aload_n 0, 1) := by decide +kernel
theorem dX5_write_15 : decode cX5_write 15 = .ok (.getfield 12, 3) := by decide +kernel
theorem dX5_write_18 : decode cX5_write 18 = .ok (.getfield 78, 3) := by decide +kernel
theorem dX5_write_21 : decode cX5_write 21 = .ok (.sipush 200, 3) := by decide +kernel
theorem dX5_write_24 : decode cX5_write 24 = .ok (.if_icmp .lt 6, 3) := by decide +kernel
theorem dX5_write_27 : decode cX5_write 27 = .ok (.bipush (-3), 2) := by decide +kernel
theorem dX5_write_29 : decode cX5_write 29 = .ok (.ireturn, 1) := by decide +kernel
theorem dX5_write_30 : decode cX5_write 30 = .ok (.aload_n 0, 1) := by decide +kernel
theorem dX5_write_31 : decode cX5_write 31 = .ok (.getfield 12, 3) := by decide +kernel
theorem dX5_write_34 : decode cX5_write 34 = .ok (.iload_n 1, 1) := by decide +kernel
theorem dX5_write_35 : decode cX5_write 35 = .ok (.i2c, 1) := by decide +kernel
theorem dX5_write_36 : decode cX5_write 36 = .ok (.invokevirtual 64, 3) := by decide +kernel
theorem dX5_write_39 : decode cX5_write 39 = .ok (.aload_n 0, 1) := by decide +kernel
theorem dX5_write_40 : decode cX5_write 40 = .ok (.getfield 12, 3) := by decide +kernel
theorem dX5_write_43 : decode cX5_write 43 = .ok (.getfield 78, 3) := by decide +kernel
theorem dX5_write_46 : decode cX5_write 46 = .ok (.ireturn, 1) := by decide +kernel
theorem dX5_wipe_0 : decode cX5_wipe 0 = .ok (.aload_n 0, 1) := by decide +kernel
theorem dX5_wipe_1 : decode cX5_wipe 1 = .ok (.getfield 12, 3) := by decide +kernel
theorem dX5_wipe_4 : decode cX5_wipe 4 = .ok (.getfield 78, 3) := by decide +kernel
theorem dX5_wipe_7 : decode cX5_wipe 7 = .ok (.istore_n 1, 1) := by decide +kernel
theorem dX5_wipe_8 : decode cX5_wipe 8 = .ok (.aload_n 0, 1) := by decide +kernel
theorem dX5_wipe_9 : decode cX5_wipe 9 = .ok (.getfield 12, 3) := by decide +kernel
theorem dX5_wipe_12 : decode cX5_wipe 12 = .ok (.iconst 0, 1) := by decide +kernel
theorem dX5_wipe_13 : decode cX5_wipe 13 = .ok (.putfield 78, 3) := by decide +kernel
theorem dX5_wipe_16 : decode cX5_wipe 16 = .ok (.iload_n 1, 1) := by decide +kernel
theorem dX5_wipe_17 : decode cX5_wipe 17 = .ok (.ireturn, 1) := by decide +kernel
set_option maxRecDepth 20000 in
theorem ggX5_fault_X4_firstFault : GoodIn wsX5_fault wsX4_firstFault := goodIn_r _ [6, 7, 8, 9, 10, 11, 12, 13, 14, 5, 15, 16, 17, 18, 19, 20, 21, 22, 23, 24, 25, 26, 27, 28, 29, 30, 31, 32, 33, 34, 35, 36, 37, 38, 39, 40, 41, 42, 43, 44, 45, 46, 47, 48, 49, 50, 51, 59, 60, 61, 62, 63, 64, 65, 66] (by decide +kernel) (by decide +kernel)
set_option maxRecDepth 20000 in
theorem gX5_fault_X4_firstFault : GoodIn wsX5_fault (wsV RX5 68 RX4 yX4_firstFault wsX4_firstFault) := goodIn_app (goodIn_of _ (by decide +kernel)) ggX5_fault_X4_firstFault
theorem dX5_fault_0 : decode cX5_fault 0 = .ok (.aload_n 0, 1) := by decide +kernel
theorem dX5_fault_1 : decode cX5_fault 1 = .ok (.getfield 12, 3) := by decide +kernel
theorem dX5_fault_4 : decode cX5_fault 4 = .ok (.invokevirtual 68, 3) := by decide +kernel
theorem dX5_fault_7 : decode cX5_fault 7 = .ok (.ireturn, 1) := by decide +kernel
set_option maxRecDepth 20000 in
theorem ggX5_lay_X4_firstFault : GoodIn wsX5_lay wsX4_firstFault := goodIn_r _ [10, 11, 12, 13, 14, 15, 16, 17, 18, 9, 19, 20, 21, 22, 23, 24, 25, 26, 27, 28, 29, 30, 31, 32, 33, 34, 35, 36, 37, 38, 39, 40, 41, 42, 43, 44, 45, 46, 47, 48, 49, 50, 51, 52, 53, 54, 55, 78, 79, 80, 81, 82, 83, 84, 85] (by decide +kernel) (by decide +kernel)
set_option maxRecDepth 20000 in
theorem gX5_lay_X4_firstFault : GoodIn wsX5_lay (wsV RX5 68 RX4 yX4_firstFault wsX4_firstFault) := goodIn_app (goodIn_of _ (by decide +kernel)) ggX5_lay_X4_firstFault
set_option maxRecDepth 20000 in
theorem ggX5_lay_X3_copy : GoodIn wsX5_lay wsX3_copy := goodIn_r _ [59, 60, 43, 61, 62, 63, 64, 84, 85] (by decide +kernel) (by decide +kernel)
set_option maxRecDepth 20000 in
theorem gX5_lay_X3_copy : GoodIn wsX5_lay (wsV RX5 74 RX3 yX3_copy wsX3_copy) := goodIn_app (goodIn_of _ (by decide +kernel)) ggX5_lay_X3_copy
set_option maxRecDepth 20000 in
theorem ggX5_lay_X2_forget : GoodIn wsX5_lay wsX2_forget := goodIn_r _ [69, 70, 86, 87, 88] (by decide +kernel) (by decide +kernel)
set_option maxRecDepth 20000 in
theorem gX5_lay_X2_forget : GoodIn wsX5_lay (wsV RX5 81 RX2 yX2_forget wsX2_forget) := goodIn_app (goodIn_of _ (by decide +kernel)) ggX5_lay_X2_forget
theorem dX5_lay_0 : decode cX5_lay 0 = .ok (.aload_n 0, 1) := by decide +kernel
theorem dX5_lay_1 : decode cX5_lay 1 = .ok (.getfield 12, 3) := by decide +kernel
theorem dX5_lay_4 : decode cX5_lay 4 = .ok (.invokevirtual 68, 3) := by decide +kernel
theorem dX5_lay_7 : decode cX5_lay 7 = .ok (.bipush (-4), 2) := by decide +kernel
theorem dX5_lay_9 : decode cX5_lay 9 = .ok (.if_icmp .eq 6, 3) := by decide +kernel
theorem dX5_lay_12 : decode cX5_lay 12 = .ok (.bipush (-2), 2) := by decide +kernel
theorem dX5_lay_14 : decode cX5_lay 14 = .ok (.ireturn, 1) := by decide +kernel
theorem dX5_lay_15 : decode cX5_lay 15 = .ok (.aload_n 0, 1) := by decide +kernel
theorem dX5_lay_16 : decode cX5_lay 16 = .ok (.getfield 19, 3) := by decide +kernel
theorem dX5_lay_19 : decode cX5_lay 19 = .ok (.aload_n 0, 1) := by decide +kernel
theorem dX5_lay_20 : decode cX5_lay 20 = .ok (.getfield 12, 3) := by decide +kernel
theorem dX5_lay_23 : decode cX5_lay 23 = .ok (.getfield 71, 3) := by decide +kernel
theorem dX5_lay_26 : decode cX5_lay 26 = .ok (.invokevirtual 74, 3) := by decide +kernel
theorem dX5_lay_29 : decode cX5_lay 29 = .ok (.aload_n 0, 1) := by decide +kernel
theorem dX5_lay_30 : decode cX5_lay 30 = .ok (.getfield 32, 3) := by decide +kernel
theorem dX5_lay_33 : decode cX5_lay 33 = .ok (.invokevirtual 81, 3) := by decide +kernel
theorem dX5_lay_36 : decode cX5_lay 36 = .ok (.aload_n 0, 1) := by decide +kernel
theorem dX5_lay_37 : decode cX5_lay 37 = .ok (.getfield 19, 3) := by decide +kernel
theorem dX5_lay_40 : decode cX5_lay 40 = .ok (.getfield 84, 3) := by decide +kernel
theorem dX5_lay_43 : decode cX5_lay 43 = .ok (.ireturn, 1) := by decide +kernel
set_option maxRecDepth 20000 in
theorem ggX5_take_X5_isSize : GoodIn wsX5_take wsX5_isSize := goodIn_r _ [7, 8, 9, 6, 10] (by decide +kernel) (by decide +kernel)
set_option maxRecDepth 20000 in
theorem gX5_take_X5_isSize : GoodIn wsX5_take (va_wsS RX5 87 yX5_isSize wsX5_isSize) := goodIn_app (goodIn_of _ (by decide +kernel)) ggX5_take_X5_isSize
set_option maxRecDepth 20000 in
theorem ggX5_take_X0_total : GoodIn wsX5_take wsX0_total := goodIn_r _ [15, 16, 17, 18, 19, 14, 20, 21, 22, 23, 24, 25, 26, 27, 28, 29, 30, 31, 32, 33, 34, 35, 36, 37, 38, 86, 87, 88, 89, 90, 91, 92] (by decide +kernel) (by decide +kernel)
set_option maxRecDepth 20000 in
theorem gX5_take_X0_total : GoodIn wsX5_take (wsV RX5 91 RX0 yX0_total wsX0_total) := goodIn_app (goodIn_of _ (by decide +kernel)) ggX5_take_X0_total
set_option maxRecDepth 20000 in
theorem ggX5_take_X2_remember : GoodIn wsX5_take wsX2_remember := goodIn_r _ [43, 44, 45, 46, 47, 48, 49, 50, 51, 52, 53, 54, 55, 56, 57, 58, 59, 60, 61, 93, 94, 95, 96, 97] (by decide +kernel) (by decide +kernel)
set_option maxRecDepth 20000 in
theorem gX5_take_X2_remember : GoodIn wsX5_take (wsV RX5 94 RX2 yX2_remember wsX2_remember) := goodIn_app (goodIn_of _ (by decide +kernel)) ggX5_take_X2_remember
set_option maxRecDepth 20000 in
theorem ggX5_take_X0_put : GoodIn wsX5_take wsX0_put := goodIn_r _ [65, 23, 66, 22, 16, 17, 18, 19, 14, 20, 21, 24, 25, 26, 27, 28, 29, 30, 31, 32, 33, 34, 35, 36, 37, 38, 67, 68, 69, 54, 70, 56, 71, 72, 73, 74, 57, 75, 76, 77, 78, 86, 87, 88, 89, 90, 91, 92, 96, 97] (by decide +kernel) (by decide +kernel)
set_option maxRecDepth 20000 in
theorem gX5_take_X0_put : GoodIn wsX5_take (wsV RX5 97 RX0 yX0_put wsX0_put) := goodIn_app (goodIn_of _ (by decide +kernel)) ggX5_take_X0_put
theorem dX5_take_0 : decode cX5_take 0 = .ok (.iload_n 1, 1) := by decide +kernel
theorem dX5_take_1 : decode cX5_take 1 = .ok (.invokestatic 87, 3) := by decide +kernel
theorem dX5_take_4 : decode cX5_take 4 = .ok (.ifCond .ne 5, 3) := by decide +kernel
theorem dX5_take_7 : decode cX5_take 7 = .ok (.iconst (-1), 1) := by decide +kernel
theorem dX5_take_8 : decode cX5_take 8 = .ok (.ireturn, 1) := by decide +kernel
theorem dX5_take_9 : decode cX5_take 9 = .ok (.aload_n 0, 1) := by decide +kernel
theorem dX5_take_10 : decode cX5_take 10 = .ok (.getfield 45, 3) := by decide +kernel
theorem dX5_take_13 : decode cX5_take 13 = .ok (.iload_n 1, 1) := by decide +kernel
theorem dX5_take_14 : decode cX5_take 14 = .ok (.iconst 1, 1) := by decide +kernel
theorem dX5_take_15 : decode cX5_take 15 = .ok (.isub, 1) := by decide +kernel
theorem dX5_take_16 : decode cX5_take 16 = .ok (.aaload, 1) := by decide +kernel
theorem dX5_take_17 : decode cX5_take 17 = .ok (.astore_n 3, 1) := by decide +kernel
theorem dX5_take_18 : decode cX5_take 18 = .ok (.iload_n 2, 1) := by decide +kernel
theorem dX5_take_19 : decode cX5_take 19 = .ok (.ifCond .lt 11, 3) := by decide +kernel
theorem dX5_take_22 : decode cX5_take 22 = .ok (.iload_n 2, 1) := by decide +kernel
theorem dX5_take_23 : decode cX5_take 23 = .ok (.aload_n 3, 1) := by decide +kernel
theorem dX5_take_24 : decode cX5_take 24 = .ok (.invokevirtual 91, 3) := by decide +kernel
theorem dX5_take_27 : decode cX5_take 27 = .ok (.if_icmp .lt 6, 3) := by decide +kernel
theorem dX5_take_30 : decode cX5_take 30 = .ok (.bipush (-4), 2) := by decide +kernel
theorem dX5_take_32 : decode cX5_take 32 = .ok (.ireturn, 1) := by decide +kernel
theorem dX5_take_33 : decode cX5_take 33 = .ok (.aload_n 0, 1) := by decide +kernel
theorem dX5_take_34 : decode cX5_take 34 = .ok (.getfield 32, 3) := by decide +kernel
theorem dX5_take_37 : decode cX5_take 37 = .ok (.aload_n 0, 1) := by decide +kernel
theorem dX5_take_38 : decode cX5_take 38 = .ok (.getfield 19, 3) := by decide +kernel
theorem dX5_take_41 : decode cX5_take 41 = .ok (.invokevirtual 94, 3) := by decide +kernel
theorem dX5_take_44 : decode cX5_take 44 = .ok (.aload_n 3, 1) := by decide +kernel
theorem dX5_take_45 : decode cX5_take 45 = .ok (.iload_n 2, 1) := by decide +kernel
theorem dX5_take_46 : decode cX5_take 46 = .ok (.aload_n 0, 1) := by decide +kernel
theorem dX5_take_47 : decode cX5_take 47 = .ok (.getfield 19, 3) := by decide +kernel
theorem dX5_take_50 : decode cX5_take 50 = .ok (.invokevirtual 97, 3) := by decide +kernel
theorem dX5_take_53 : decode cX5_take 53 = .ok (.iload_n 1, 1) := by decide +kernel
theorem dX5_take_54 : decode cX5_take 54 = .ok (.ireturn, 1) := by decide +kernel
set_option maxRecDepth 20000 in
theorem ggX5_undo_X2_giveBack : GoodIn wsX5_undo wsX2_giveBack := goodIn_r _ [8, 9, 10, 11, 12, 13, 14, 15, 16, 17, 18, 19, 20, 21, 22, 30, 31, 32, 33, 34] (by decide +kernel) (by decide +kernel)
set_option maxRecDepth 20000 in
theorem gX5_undo_X2_giveBack : GoodIn wsX5_undo (wsV RX5 104 RX2 yX2_giveBack wsX2_giveBack) := goodIn_app (goodIn_of _ (by decide +kernel)) ggX5_undo_X2_giveBack
theorem dX5_undo_0 : decode cX5_undo 0 = .ok (.aload_n 0, 1) := by decide +kernel
theorem dX5_undo_1 : decode cX5_undo 1 = .ok (.getfield 32, 3) := by decide +kernel
theorem dX5_undo_4 : decode cX5_undo 4 = .ok (.getfield 101, 3) := by decide +kernel
theorem dX5_undo_7 : decode cX5_undo 7 = .ok (.ifCond .ne 6, 3) := by decide +kernel
theorem dX5_undo_10 : decode cX5_undo 10 = .ok (.bipush (-2), 2) := by decide +kernel
theorem dX5_undo_12 : decode cX5_undo 12 = .ok (.ireturn, 1) := by decide +kernel
theorem dX5_undo_13 : decode cX5_undo 13 = .ok (.aload_n 0, 1) := by decide +kernel
theorem dX5_undo_14 : decode cX5_undo 14 = .ok (.getfield 32, 3) := by decide +kernel
theorem dX5_undo_17 : decode cX5_undo 17 = .ok (.aload_n 0, 1) := by decide +kernel
theorem dX5_undo_18 : decode cX5_undo 18 = .ok (.getfield 19, 3) := by decide +kernel
theorem dX5_undo_21 : decode cX5_undo 21 = .ok (.invokevirtual 104, 3) := by decide +kernel
theorem dX5_undo_24 : decode cX5_undo 24 = .ok (.aload_n 0, 1) := by decide +kernel
theorem dX5_undo_25 : decode cX5_undo 25 = .ok (.getfield 32, 3) := by decide +kernel
theorem dX5_undo_28 : decode cX5_undo 28 = .ok (.getfield 101, 3) := by decide +kernel
theorem dX5_undo_31 : decode cX5_undo 31 = .ok (.ireturn, 1) := by decide +kernel
set_option maxRecDepth 20000 in
theorem ggX5_keep_X3_copy : GoodIn wsX5_keep wsX3_copy := goodIn_r _ [8, 9, 10, 11, 12, 13, 14, 22, 23] (by decide +kernel) (by decide +kernel)
set_option maxRecDepth 20000 in
theorem gX5_keep_X3_copy : GoodIn wsX5_keep (wsV RX5 74 RX3 yX3_copy wsX3_copy) := goodIn_app (goodIn_of _ (by decide +kernel)) ggX5_keep_X3_copy
theorem dX5_keep_0 : decode cX5_keep 0 = .ok (.aload_n 0, 1) := by decide +kernel
theorem dX5_keep_1 : decode cX5_keep 1 = .ok (.getfield 23, 3) := by decide +kernel
theorem dX5_keep_4 : decode cX5_keep 4 = .ok (.aload_n 0, 1) := by decide +kernel
theorem dX5_keep_5 : decode cX5_keep 5 = .ok (.getfield 19, 3) := by decide +kernel
theorem dX5_keep_8 : decode cX5_keep 8 = .ok (.invokevirtual 74, 3) := by decide +kernel
theorem dX5_keep_11 : decode cX5_keep 11 = .ok (.aload_n 0, 1) := by decide +kernel
theorem dX5_keep_12 : decode cX5_keep 12 = .ok (.getfield 23, 3) := by decide +kernel
theorem dX5_keep_15 : decode cX5_keep 15 = .ok (.getfield 84, 3) := by decide +kernel
theorem dX5_keep_18 : decode cX5_keep 18 = .ok (.ireturn, 1) := by decide +kernel
set_option maxRecDepth 20000 in
theorem ggX5_sign_X5_isBetween : GoodIn wsX5_sign wsX5_isBetween := goodIn_r _ [6] (by decide +kernel) (by decide +kernel)
set_option maxRecDepth 20000 in
theorem gX5_sign_X5_isBetween : GoodIn wsX5_sign (va_wsS RX5 107 yX5_isBetween wsX5_isBetween) := goodIn_app (goodIn_of _ (by decide +kernel)) ggX5_sign_X5_isBetween
set_option maxRecDepth 20000 in
theorem ggX5_sign_X3_signAt : GoodIn wsX5_sign wsX3_signAt := goodIn_r _ [11, 12, 13, 14, 10, 15, 16, 17, 18, 19, 20, 28, 29] (by decide +kernel) (by decide +kernel)
set_option maxRecDepth 20000 in
theorem gX5_sign_X3_signAt : GoodIn wsX5_sign (wsV RX5 111 RX3 yX3_signAt wsX3_signAt) := goodIn_app (goodIn_of _ (by decide +kernel)) ggX5_sign_X3_signAt
theorem dX5_sign_0 : decode cX5_sign 0 = .ok (.iload_n 1, 1) := by decide +kernel
theorem dX5_sign_1 : decode cX5_sign 1 = .ok (.iconst 0, 1) := by decide +kernel
theorem dX5_sign_2 : decode cX5_sign 2 = .ok (.aload_n 0, 1) := by decide +kernel
theorem dX5_sign_3 : decode cX5_sign 3 = .ok (.getfield 19, 3) := by decide +kernel
theorem dX5_sign_6 : decode cX5_sign 6 = .ok (.getfield 84, 3) := by decide +kernel
theorem dX5_sign_9 : decode cX5_sign 9 = .ok (.iconst 1, 1) := by decide +kernel
theorem dX5_sign_10 : decode cX5_sign 10 = .ok (.isub, 1) := by decide +kernel
theorem dX5_sign_11 : decode cX5_sign 11 = .ok (.invokestatic 107, 3) := by decide +kernel
theorem dX5_sign_14 : decode cX5_sign 14 = .ok (.ifCond .eq 20, 3) := by decide +kernel
theorem dX5_sign_17 : decode cX5_sign 17 = .ok (.iload_n 2, 1) := by decide +kernel
theorem dX5_sign_18 : decode cX5_sign 18 = .ok (.iconst 0, 1) := by decide +kernel
theorem dX5_sign_19 : decode cX5_sign 19 = .ok (.aload_n 0, 1) := by decide +kernel
theorem dX5_sign_20 : decode cX5_sign 20 = .ok (.getfield 19, 3) := by decide +kernel
theorem dX5_sign_23 : decode cX5_sign 23 = .ok (.getfield 84, 3) := by decide +kernel
theorem dX5_sign_26 : decode cX5_sign 26 = .ok (.iconst 1, 1) := by decide +kernel
theorem dX5_sign_27 : decode cX5_sign 27 = .ok (.isub, 1) := by decide +kernel
theorem dX5_sign_28 : decode cX5_sign 28 = .ok (.invokestatic 107, 3) := by decide +kernel
theorem dX5_sign_31 : decode cX5_sign 31 = .ok (.ifCond .ne 5, 3) := by decide +kernel
theorem dX5_sign_34 : decode cX5_sign 34 = .ok (.iconst (-1), 1) := by decide +kernel
theorem dX5_sign_35 : decode cX5_sign 35 = .ok (.ireturn, 1) := by decide +kernel
theorem dX5_sign_36 : decode cX5_sign 36 = .ok (.bipush 100, 2) := by decide +kernel
theorem dX5_sign_38 : decode cX5_sign 38 = .ok (.aload_n 0, 1) := by decide +kernel
theorem dX5_sign_39 : decode cX5_sign 39 = .ok (.getfield 19, 3) := by decide +kernel
theorem dX5_sign_42 : decode cX5_sign 42 = .ok (.iload_n 1, 1) := by decide +kernel
theorem dX5_sign_43 : decode cX5_sign 43 = .ok (.iload_n 2, 1) := by decide +kernel
theorem dX5_sign_44 : decode cX5_sign 44 = .ok (.invokevirtual 111, 3) := by decide +kernel
theorem dX5_sign_47 : decode cX5_sign 47 = .ok (.iadd, 1) := by decide +kernel
theorem dX5_sign_48 : decode cX5_sign 48 = .ok (.ireturn, 1) := by decide +kernel
set_option maxRecDepth 20000 in
theorem ggX5_corner_X5_isCorner : GoodIn wsX5_corner wsX5_isCorner := goodIn_r _ [6, 1, 7, 8, 9, 5, 10, 17, 18, 19, 20, 21, 22, 23, 24, 25] (by decide +kernel) (by decide +kernel)
set_option maxRecDepth 20000 in
theorem gX5_corner_X5_isCorner : GoodIn wsX5_corner (wsV RX5 115 RX5 yX5_isCorner wsX5_isCorner) := goodIn_app (goodIn_of _ (by decide +kernel)) ggX5_corner_X5_isCorner
set_option maxRecDepth 20000 in
theorem ggX5_corner_X3_cornerAt : GoodIn wsX5_corner wsX3_cornerAt := goodIn_r _ [15, 16, 24, 25] (by decide +kernel) (by decide +kernel)
set_option maxRecDepth 20000 in
theorem gX5_corner_X3_cornerAt : GoodIn wsX5_corner (wsV RX5 119 RX3 yX3_cornerAt wsX3_cornerAt) := goodIn_app (goodIn_of _ (by decide +kernel)) ggX5_corner_X3_cornerAt
theorem dX5_corner_0 : decode cX5_corner 0 = .ok (.aload_n 0, 1) := by decide +kernel
theorem dX5_corner_1 : decode cX5_corner 1 = .ok (.iload_n 1, 1) := by decide +kernel
theorem dX5_corner_2 : decode cX5_corner 2 = .ok (.iload_n 2, 1) := by decide +kernel
theorem dX5_corner_3 : decode cX5_corner 3 = .ok (.invokevirtual 115, 3) := by decide +kernel
theorem dX5_corner_6 : decode cX5_corner 6 = .ok (.ifCond .eq 15, 3) := by decide +kernel
theorem dX5_corner_9 : decode cX5_corner 9 = .ok (.aload_n 0, 1) := by decide +kernel
theorem dX5_corner_10 : decode cX5_corner 10 = .ok (.getfield 19, 3) := by decide +kernel
theorem dX5_corner_13 : decode cX5_corner 13 = .ok (.iload_n 1, 1) := by decide +kernel
theorem dX5_corner_14 : decode cX5_corner 14 = .ok (.iload_n 2, 1) := by decide +kernel
theorem dX5_corner_15 : decode cX5_corner 15 = .ok (.invokevirtual 119, 3) := by decide +kernel
theorem dX5_corner_18 : decode cX5_corner 18 = .ok (.goto 4, 3) := by decide +kernel
theorem dX5_corner_21 : decode cX5_corner 21 = .ok (.iconst (-1), 1) := by decide +kernel
theorem dX5_corner_22 : decode cX5_corner 22 = .ok (.ireturn, 1) := by decide +kernel
set_option maxRecDepth 20000 in
theorem ggX5_height_X5_isCorner : GoodIn wsX5_height wsX5_isCorner := goodIn_r _ [6, 1, 7, 8, 9, 5, 10, 21, 22, 23, 24, 25, 26, 27, 28, 29] (by decide +kernel) (by decide +kernel)
set_option maxRecDepth 20000 in
theorem gX5_height_X5_isCorner : GoodIn wsX5_height (wsV RX5 115 RX5 yX5_isCorner wsX5_isCorner) := goodIn_app (goodIn_of _ (by decide +kernel)) ggX5_height_X5_isCorner
set_option maxRecDepth 20000 in
theorem ggX5_height_X3_heightAt : GoodIn wsX5_height wsX3_heightAt := goodIn_r _ [15, 16, 17, 18, 14, 19, 20, 28, 29] (by decide +kernel) (by decide +kernel)
set_option maxRecDepth 20000 in
theorem gX5_height_X3_heightAt : GoodIn wsX5_height (wsV RX5 122 RX3 yX3_heightAt wsX3_heightAt) := goodIn_app (goodIn_of _ (by decide +kernel)) ggX5_height_X3_heightAt
theorem dX5_height_0 : decode cX5_height 0 = .ok (.aload_n 0, 1) := by decide +kernel
theorem dX5_height_1 : decode cX5_height 1 = .ok (.iload_n 1, 1) := by decide +kernel
theorem dX5_height_2 : decode cX5_height 2 = .ok (.iload_n 2, 1) := by decide +kernel
theorem dX5_height_3 : decode cX5_height 3 = .ok (.invokevirtual 115, 3) := by decide +kernel
theorem dX5_height_6 : decode cX5_height 6 = .ok (.ifCond .eq 15, 3) := by decide +kernel
theorem dX5_height_9 : decode cX5_height 9 = .ok (.aload_n 0, 1) := by decide +kernel
theorem dX5_height_10 : decode cX5_height 10 = .ok (.getfield 19, 3) := by decide +kernel
theorem dX5_height_13 : decode cX5_height 13 = .ok (.iload_n 1, 1) := by decide +kernel
theorem dX5_height_14 : decode cX5_height 14 = .ok (.iload_n 2, 1) := by decide +kernel
theorem dX5_height_15 : decode cX5_height 15 = .ok (.invokevirtual 122, 3) := by decide +kernel
theorem dX5_height_18 : decode cX5_height 18 = .ok (.goto 4, 3) := by decide +kernel
theorem dX5_height_21 : decode cX5_height 21 = .ok (.iconst (-1), 1) := by decide +kernel
theorem dX5_height_22 : decode cX5_height 22 = .ok (.ireturn, 1) := by decide +kernel
set_option maxRecDepth 20000 in
theorem ggX5_may_X5_isInner : GoodIn wsX5_may wsX5_isInner := goodIn_r _ [6, 1, 7, 8, 9, 5, 10, 25, 26, 27, 28, 29, 30, 31, 32, 33] (by decide +kernel) (by decide +kernel)
set_option maxRecDepth 20000 in
theorem gX5_may_X5_isInner : GoodIn wsX5_may (wsV RX5 125 RX5 yX5_isInner wsX5_isInner) := goodIn_app (goodIn_of _ (by decide +kernel)) ggX5_may_X5_isInner
set_option maxRecDepth 20000 in
theorem ggX5_may_X3_flipKind : GoodIn wsX5_may wsX3_flipKind := goodIn_r _ [15, 16, 17, 18, 14, 19, 20, 21, 22, 23, 24, 32, 33] (by decide +kernel) (by decide +kernel)
set_option maxRecDepth 20000 in
theorem gX5_may_X3_flipKind : GoodIn wsX5_may (wsV RX5 128 RX3 yX3_flipKind wsX3_flipKind) := goodIn_app (goodIn_of _ (by decide +kernel)) ggX5_may_X3_flipKind
theorem dX5_may_0 : decode cX5_may 0 = .ok (.aload_n 0, 1) := by decide +kernel
theorem dX5_may_1 : decode cX5_may 1 = .ok (.iload_n 1, 1) := by decide +kernel
theorem dX5_may_2 : decode cX5_may 2 = .ok (.iload_n 2, 1) := by decide +kernel
theorem dX5_may_3 : decode cX5_may 3 = .ok (.invokevirtual 125, 3) := by decide +kernel
theorem dX5_may_6 : decode cX5_may 6 = .ok (.ifCond .eq 15, 3) := by decide +kernel
theorem dX5_may_9 : decode cX5_may 9 = .ok (.aload_n 0, 1) := by decide +kernel
theorem dX5_may_10 : decode cX5_may 10 = .ok (.getfield 19, 3) := by decide +kernel
theorem dX5_may_13 : decode cX5_may 13 = .ok (.iload_n 1, 1) := by decide +kernel
theorem dX5_may_14 : decode cX5_may 14 = .ok (.iload_n 2, 1) := by decide +kernel
theorem dX5_may_15 : decode cX5_may 15 = .ok (.invokevirtual 128, 3) := by decide +kernel
theorem dX5_may_18 : decode cX5_may 18 = .ok (.goto 4, 3) := by decide +kernel
theorem dX5_may_21 : decode cX5_may 21 = .ok (.iconst (-1), 1) := by decide +kernel
theorem dX5_may_22 : decode cX5_may 22 = .ok (.ireturn, 1) := by decide +kernel
set_option maxRecDepth 20000 in
theorem ggX5_count_X3_negatives : GoodIn wsX5_count wsX3_negatives := goodIn_r _ [15, 16, 17, 18, 19, 14, 20, 21, 22, 23, 24, 25, 26, 27, 28, 29, 139, 140] (by decide +kernel) (by decide +kernel)
set_option maxRecDepth 20000 in
theorem gX5_count_X3_negatives : GoodIn wsX5_count (wsV RX5 131 RX3 yX3_negatives wsX3_negatives) := goodIn_app (goodIn_of _ (by decide +kernel)) ggX5_count_X3_negatives
set_option maxRecDepth 20000 in
theorem ggX5_count_X3_flippable : GoodIn wsX5_count wsX3_flippable := goodIn_r _ [33, 16, 34, 35, 36, 14, 37, 38, 39, 40, 41, 25, 26, 27, 28, 29, 139, 140] (by decide +kernel) (by decide +kernel)
set_option maxRecDepth 20000 in
theorem gX5_count_X3_flippable : GoodIn wsX5_count (wsV RX5 134 RX3 yX3_flippable wsX3_flippable) := goodIn_app (goodIn_of _ (by decide +kernel)) ggX5_count_X3_flippable
set_option maxRecDepth 20000 in
theorem ggX5_count_X3_inversions : GoodIn wsX5_count wsX3_inversions := goodIn_r _ [45, 16, 25, 26, 27, 14, 28, 29, 17, 18, 19, 20, 21, 22, 23, 24, 139, 140] (by decide +kernel) (by decide +kernel)
set_option maxRecDepth 20000 in
theorem gX5_count_X3_inversions : GoodIn wsX5_count (wsV RX5 137 RX3 yX3_inversions wsX3_inversions) := goodIn_app (goodIn_of _ (by decide +kernel)) ggX5_count_X3_inversions
set_option maxRecDepth 20000 in
theorem ggX5_count_X3_heightsTogether : GoodIn wsX5_count wsX3_heightsTogether := goodIn_r _ [49, 16, 38, 39, 40, 14, 41, 25, 26, 27, 28, 29, 139, 140] (by decide +kernel) (by decide +kernel)
set_option maxRecDepth 20000 in
theorem gX5_count_X3_heightsTogether : GoodIn wsX5_count (wsV RX5 140 RX3 yX3_heightsTogether wsX3_heightsTogether) := goodIn_app (goodIn_of _ (by decide +kernel)) ggX5_count_X3_heightsTogether
set_option maxRecDepth 20000 in
theorem ggX5_count_X3_drawnEdges : GoodIn wsX5_count wsX3_drawnEdges := goodIn_r _ [53, 16, 54, 55, 56, 14, 57, 21, 22, 23, 24, 25, 26, 27, 28, 29, 58, 59, 60, 61, 62, 63, 64, 65, 139, 140] (by decide +kernel) (by decide +kernel)
set_option maxRecDepth 20000 in
theorem gX5_count_X3_drawnEdges : GoodIn wsX5_count (wsV RX5 143 RX3 yX3_drawnEdges wsX3_drawnEdges) := goodIn_app (goodIn_of _ (by decide +kernel)) ggX5_count_X3_drawnEdges
set_option maxRecDepth 20000 in
theorem ggX5_count_X1_trace : GoodIn wsX5_count wsX1_trace := goodIn_r _ [70, 71, 72, 73, 74, 75, 69, 76, 77, 78, 59, 60, 14, 61, 62, 63, 64, 65, 25, 26, 27, 28, 29, 79, 55, 56, 57, 21, 22, 23, 24, 80, 81, 82, 83, 84, 85, 86, 87, 88, 89, 90, 91, 92, 93, 94, 95, 96, 97, 98, 99, 100, 101, 102, 103, 104, 105, 106, 107, 108, 109, 110, 111, 112, 113, 114, 115, 116, 117, 118, 119, 120, 121, 122, 123, 124, 125, 126, 127, 128, 129, 130, 131, 139, 140, 150, 151, 152, 153, 154, 155, 156, 157, 158, 159, 160] (by decide +kernel) (by decide +kernel)
set_option maxRecDepth 20000 in
theorem gX5_count_X1_trace : GoodIn wsX5_count (wsV RX5 146 RX1 yX1_trace wsX1_trace) := goodIn_app (goodIn_of _ (by decide +kernel)) ggX5_count_X1_trace
theorem dX5_count_0 : decode cX5_count 0 = .ok (.iload_n 1, 1) := by decide +kernel
theorem dX5_count_1 : decode cX5_count 1 = .ok (.tableswitch 189 0 11 #[63, 71, 79, 87, 95, 103, 111, 119, 127, 143, 151, 170], 63) := by decide +kernel
theorem dX5_count_64 : decode cX5_count 64 = .ok (.aload_n 0, 1) := by decide +kernel
theorem dX5_count_65 : decode cX5_count 65 = .ok (.getfield 19, 3) := by decide +kernel
theorem dX5_count_68 : decode cX5_count 68 = .ok (.getfield 84, 3) := by decide +kernel
theorem dX5_count_71 : decode cX5_count 71 = .ok (.ireturn, 1) := by decide +kernel
theorem dX5_count_72 : decode cX5_count 72 = .ok (.aload_n 0, 1) := by decide +kernel
theorem dX5_count_73 : decode cX5_count 73 = .ok (.getfield 19, 3) := by decide +kernel
theorem dX5_count_76 : decode cX5_count 76 = .ok (.invokevirtual 131, 3) := by decide +kernel
theorem dX5_count_79 : decode cX5_count 79 = .ok (.ireturn, 1) := by decide +kernel
theorem dX5_count_80 : decode cX5_count 80 = .ok (.aload_n 0, 1) := by decide +kernel
theorem dX5_count_81 : decode cX5_count 81 = .ok (.getfield 19, 3) := by decide +kernel
theorem dX5_count_84 : decode cX5_count 84 = .ok (.invokevirtual 134, 3) := by decide +kernel
theorem dX5_count_87 : decode cX5_count 87 = .ok (.ireturn, 1) := by decide +kernel
theorem dX5_count_88 : decode cX5_count 88 = .ok (.aload_n 0, 1) := by decide +kernel
theorem dX5_count_89 : decode cX5_count 89 = .ok (.getfield 19, 3) := by decide +kernel
theorem dX5_count_92 : decode cX5_count 92 = .ok (.invokevirtual 137, 3) := by decide +kernel
theorem dX5_count_95 : decode cX5_count 95 = .ok (.ireturn, 1) := by decide +kernel
theorem dX5_count_96 : decode cX5_count 96 = .ok (.aload_n 0, 1) := by decide +kernel
theorem dX5_count_97 : decode cX5_count 97 = .ok (.getfield 19, 3) := by decide +kernel
theorem dX5_count_100 : decode cX5_count 100 = .ok (.invokevirtual 140, 3) := by decide +kernel
theorem dX5_count_103 : decode cX5_count 103 = .ok (.ireturn, 1) := by decide +kernel
theorem dX5_count_104 : decode cX5_count 104 = .ok (.aload_n 0, 1) := by decide +kernel
theorem dX5_count_105 : decode cX5_count 105 = .ok (.getfield 32, 3) := by decide +kernel
theorem dX5_count_108 : decode cX5_count 108 = .ok (.getfield 101, 3) := by decide +kernel
theorem dX5_count_111 : decode cX5_count 111 = .ok (.ireturn, 1) := by decide +kernel
theorem dX5_count_112 : decode cX5_count 112 = .ok (.aload_n 0, 1) := by decide +kernel
theorem dX5_count_113 : decode cX5_count 113 = .ok (.getfield 12, 3) := by decide +kernel
theorem dX5_count_116 : decode cX5_count 116 = .ok (.getfield 78, 3) := by decide +kernel
theorem dX5_count_119 : decode cX5_count 119 = .ok (.ireturn, 1) := by decide +kernel
theorem dX5_count_120 : decode cX5_count 120 = .ok (.aload_n 0, 1) := by decide +kernel
theorem dX5_count_121 : decode cX5_count 121 = .ok (.getfield 23, 3) := by decide +kernel
theorem dX5_count_124 : decode cX5_count 124 = .ok (.getfield 84, 3) := by decide +kernel
theorem dX5_count_127 : decode cX5_count 127 = .ok (.ireturn, 1) := by decide +kernel
theorem dX5_count_128 : decode cX5_count 128 = .ok (.aload_n 0, 1) := by decide +kernel
theorem dX5_count_129 : decode cX5_count 129 = .ok (.getfield 19, 3) := by decide +kernel
theorem dX5_count_132 : decode cX5_count 132 = .ok (.invokevirtual 131, 3) := by decide +kernel
theorem dX5_count_135 : decode cX5_count 135 = .ok (.ifCond .ne 7, 3) := by decide +kernel
theorem dX5_count_138 : decode cX5_count 138 = .ok (.iconst 1, 1) := by decide +kernel
theorem dX5_count_139 : decode cX5_count 139 = .ok (.goto 4, 3) := by decide +kernel
theorem dX5_count_142 : decode cX5_count 142 = .ok (.iconst 0, 1) := by decide +kernel
theorem dX5_count_143 : decode cX5_count 143 = .ok (.ireturn, 1) := by decide +kernel
theorem dX5_count_144 : decode cX5_count 144 = .ok (.aload_n 0, 1) := by decide +kernel
theorem dX5_count_145 : decode cX5_count 145 = .ok (.getfield 19, 3) := by decide +kernel
theorem dX5_count_148 : decode cX5_count 148 = .ok (.invokevirtual 143, 3) := by decide +kernel
theorem dX5_count_151 : decode cX5_count 151 = .ok (.ireturn, 1) := by decide +kernel
theorem dX5_count_152 : decode cX5_count 152 = .ok (.aload_n 0, 1) := by decide +kernel
theorem dX5_count_153 : decode cX5_count 153 = .ok (.getfield 39, 3) := by decide +kernel
theorem dX5_count_156 : decode cX5_count 156 = .ok (.aload_n 0, 1) := by decide +kernel
theorem dX5_count_157 : decode cX5_count 157 = .ok (.getfield 19, 3) := by decide +kernel
theorem dX5_count_160 : decode cX5_count 160 = .ok (.invokevirtual 146, 3) := by decide +kernel
theorem dX5_count_163 : decode cX5_count 163 = .ok (.aload_n 0, 1) := by decide +kernel
theorem dX5_count_164 : decode cX5_count 164 = .ok (.getfield 39, 3) := by decide +kernel
theorem dX5_count_167 : decode cX5_count 167 = .ok (.getfield 149, 3) := by decide +kernel
theorem dX5_count_170 : decode cX5_count 170 = .ok (.ireturn, 1) := by decide +kernel
theorem dX5_count_171 : decode cX5_count 171 = .ok (.aload_n 0, 1) := by decide +kernel
theorem dX5_count_172 : decode cX5_count 172 = .ok (.getfield 39, 3) := by decide +kernel
theorem dX5_count_175 : decode cX5_count 175 = .ok (.aload_n 0, 1) := by decide +kernel
theorem dX5_count_176 : decode cX5_count 176 = .ok (.getfield 19, 3) := by decide +kernel
theorem dX5_count_179 : decode cX5_count 179 = .ok (.invokevirtual 146, 3) := by decide +kernel
theorem dX5_count_182 : decode cX5_count 182 = .ok (.aload_n 0, 1) := by decide +kernel
theorem dX5_count_183 : decode cX5_count 183 = .ok (.getfield 39, 3) := by decide +kernel
theorem dX5_count_186 : decode cX5_count 186 = .ok (.getfield 152, 3) := by decide +kernel
theorem dX5_count_189 : decode cX5_count 189 = .ok (.ireturn, 1) := by decide +kernel
theorem dX5_count_190 : decode cX5_count 190 = .ok (.iconst (-1), 1) := by decide +kernel
theorem dX5_count_191 : decode cX5_count 191 = .ok (.ireturn, 1) := by decide +kernel
set_option maxRecDepth 20000 in
theorem ggX5_flip_X5_isInner : GoodIn wsX5_flip wsX5_isInner := goodIn_r _ [7, 1, 8, 9, 10, 6, 11, 57, 58, 59, 60, 61, 62, 63, 64, 65] (by decide +kernel) (by decide +kernel)
set_option maxRecDepth 20000 in
theorem gX5_flip_X5_isInner : GoodIn wsX5_flip (wsV RX5 125 RX5 yX5_isInner wsX5_isInner) := goodIn_app (goodIn_of _ (by decide +kernel)) ggX5_flip_X5_isInner
set_option maxRecDepth 20000 in
theorem ggX5_flip_X3_flipKind : GoodIn wsX5_flip wsX3_flipKind := goodIn_r _ [16, 17, 18, 19, 15, 20, 21, 22, 23, 24, 25, 64, 65] (by decide +kernel) (by decide +kernel)
set_option maxRecDepth 20000 in
theorem gX5_flip_X3_flipKind : GoodIn wsX5_flip (wsV RX5 128 RX3 yX3_flipKind wsX3_flipKind) := goodIn_app (goodIn_of _ (by decide +kernel)) ggX5_flip_X3_flipKind
set_option maxRecDepth 20000 in
theorem ggX5_flip_X2_remember : GoodIn wsX5_flip wsX2_remember := goodIn_r _ [30, 31, 32, 33, 34, 35, 36, 37, 38, 39, 40, 15, 41, 42, 25, 43, 44, 45, 46, 66, 67, 68, 64, 65] (by decide +kernel) (by decide +kernel)
set_option maxRecDepth 20000 in
theorem gX5_flip_X2_remember : GoodIn wsX5_flip (wsV RX5 94 RX2 yX2_remember wsX2_remember) := goodIn_app (goodIn_of _ (by decide +kernel)) ggX5_flip_X2_remember
set_option maxRecDepth 20000 in
theorem ggX5_flip_X3_flipAt : GoodIn wsX5_flip wsX3_flipAt := goodIn_r _ [50, 51, 13, 14, 15, 16, 17, 18, 19, 20, 21, 22, 23, 24, 25, 52, 53, 54, 55, 64, 65] (by decide +kernel) (by decide +kernel)
set_option maxRecDepth 20000 in
theorem gX5_flip_X3_flipAt : GoodIn wsX5_flip (wsV RX5 155 RX3 yX3_flipAt wsX3_flipAt) := goodIn_app (goodIn_of _ (by decide +kernel)) ggX5_flip_X3_flipAt
set_option maxRecDepth 20000 in
theorem ggX5_flip_X3_heightAt : GoodIn wsX5_flip wsX3_heightAt := goodIn_r _ [20, 21, 22, 23, 15, 24, 25, 64, 65] (by decide +kernel) (by decide +kernel)
set_option maxRecDepth 20000 in
theorem gX5_flip_X3_heightAt : GoodIn wsX5_flip (wsV RX5 122 RX3 yX3_heightAt wsX3_heightAt) := goodIn_app (goodIn_of _ (by decide +kernel)) ggX5_flip_X3_heightAt
theorem dX5_flip_0 : decode cX5_flip 0 = .ok (.aload_n 0, 1) := by decide +kernel
theorem dX5_flip_1 : decode cX5_flip 1 = .ok (.iload_n 1, 1) := by decide +kernel
theorem dX5_flip_2 : decode cX5_flip 2 = .ok (.iload_n 2, 1) := by decide +kernel
theorem dX5_flip_3 : decode cX5_flip 3 = .ok (.invokevirtual 125, 3) := by decide +kernel
theorem dX5_flip_6 : decode cX5_flip 6 = .ok (.ifCond .ne 5, 3) := by decide +kernel
theorem dX5_flip_9 : decode cX5_flip 9 = .ok (.iconst (-1), 1) := by decide +kernel
theorem dX5_flip_10 : decode cX5_flip 10 = .ok (.ireturn, 1) := by decide +kernel
theorem dX5_flip_11 : decode cX5_flip 11 = .ok (.aload_n 0, 1) := by decide +kernel
theorem dX5_flip_12 : decode cX5_flip 12 = .ok (.getfield 19, 3) := by decide +kernel
theorem dX5_flip_15 : decode cX5_flip 15 = .ok (.iload_n 1, 1) := by decide +kernel
theorem dX5_flip_16 : decode cX5_flip 16 = .ok (.iload_n 2, 1) := by decide +kernel
theorem dX5_flip_17 : decode cX5_flip 17 = .ok (.invokevirtual 128, 3) := by decide +kernel
theorem dX5_flip_20 : decode cX5_flip 20 = .ok (.ifCond .ne 6, 3) := by decide +kernel
theorem dX5_flip_23 : decode cX5_flip 23 = .ok (.bipush (-2), 2) := by decide +kernel
theorem dX5_flip_25 : decode cX5_flip 25 = .ok (.ireturn, 1) := by decide +kernel
theorem dX5_flip_26 : decode cX5_flip 26 = .ok (.aload_n 0, 1) := by decide +kernel
theorem dX5_flip_27 : decode cX5_flip 27 = .ok (.getfield 32, 3) := by decide +kernel
theorem dX5_flip_30 : decode cX5_flip 30 = .ok (.aload_n 0, 1) := by decide +kernel
theorem dX5_flip_31 : decode cX5_flip 31 = .ok (.getfield 19, 3) := by decide +kernel
theorem dX5_flip_34 : decode cX5_flip 34 = .ok (.invokevirtual 94, 3) := by decide +kernel
theorem dX5_flip_37 : decode cX5_flip 37 = .ok (.aload_n 0, 1) := by decide +kernel
theorem dX5_flip_38 : decode cX5_flip 38 = .ok (.getfield 19, 3) := by decide +kernel
theorem dX5_flip_41 : decode cX5_flip 41 = .ok (.iload_n 1, 1) := by decide +kernel
theorem dX5_flip_42 : decode cX5_flip 42 = .ok (.iload_n 2, 1) := by decide +kernel
theorem dX5_flip_43 : decode cX5_flip 43 = .ok (.invokevirtual 155, 3) := by decide +kernel
theorem dX5_flip_46 : decode cX5_flip 46 = .ok (.aload_n 0, 1) := by decide +kernel
theorem dX5_flip_47 : decode cX5_flip 47 = .ok (.getfield 19, 3) := by decide +kernel
theorem dX5_flip_50 : decode cX5_flip 50 = .ok (.iload_n 1, 1) := by decide +kernel
theorem dX5_flip_51 : decode cX5_flip 51 = .ok (.iload_n 2, 1) := by decide +kernel
theorem dX5_flip_52 : decode cX5_flip 52 = .ok (.invokevirtual 122, 3) := by decide +kernel
theorem dX5_flip_55 : decode cX5_flip 55 = .ok (.ireturn, 1) := by decide +kernel
set_option maxRecDepth 20000 in
theorem ggX5_gyrate_X5_isBetween : GoodIn wsX5_gyrate wsX5_isBetween := goodIn_r _ [6] (by decide +kernel) (by decide +kernel)
set_option maxRecDepth 20000 in
theorem gX5_gyrate_X5_isBetween : GoodIn wsX5_gyrate (va_wsS RX5 107 yX5_isBetween wsX5_isBetween) := goodIn_app (goodIn_of _ (by decide +kernel)) ggX5_gyrate_X5_isBetween
set_option maxRecDepth 20000 in
theorem ggX5_gyrate_X2_remember : GoodIn wsX5_gyrate wsX2_remember := goodIn_r _ [11, 12, 13, 14, 15, 16, 17, 18, 19, 20, 21, 22, 23, 24, 25, 26, 27, 28, 29, 65, 66, 67, 68, 69] (by decide +kernel) (by decide +kernel)
set_option maxRecDepth 20000 in
theorem gX5_gyrate_X2_remember : GoodIn wsX5_gyrate (wsV RX5 94 RX2 yX2_remember wsX2_remember) := goodIn_app (goodIn_of _ (by decide +kernel)) ggX5_gyrate_X2_remember
set_option maxRecDepth 20000 in
theorem ggX5_gyrate_X3_gyrateOnce : GoodIn wsX5_gyrate wsX3_gyrateOnce := goodIn_r _ [33, 34, 35, 36, 22, 37, 24, 38, 39, 40, 41, 42, 43, 44, 45, 46, 47, 48, 49, 25, 50, 51, 52, 53, 54, 55, 56, 57, 68, 69] (by decide +kernel) (by decide +kernel)
set_option maxRecDepth 20000 in
theorem gX5_gyrate_X3_gyrateOnce : GoodIn wsX5_gyrate (wsV RX5 159 RX3 yX3_gyrateOnce wsX3_gyrateOnce) := goodIn_app (goodIn_of _ (by decide +kernel)) ggX5_gyrate_X3_gyrateOnce
theorem dX5_gyrate_0 : decode cX5_gyrate 0 = .ok (.iload_n 1, 1) := by decide +kernel
theorem dX5_gyrate_1 : decode cX5_gyrate 1 = .ok (.iconst 1, 1) := by decide +kernel
theorem dX5_gyrate_2 : decode cX5_gyrate 2 = .ok (.bipush 100, 2) := by decide +kernel
theorem dX5_gyrate_4 : decode cX5_gyrate 4 = .ok (.invokestatic 107, 3) := by decide +kernel
theorem dX5_gyrate_7 : decode cX5_gyrate 7 = .ok (.ifCond .ne 5, 3) := by decide +kernel
theorem dX5_gyrate_10 : decode cX5_gyrate 10 = .ok (.iconst (-1), 1) := by decide +kernel
theorem dX5_gyrate_11 : decode cX5_gyrate 11 = .ok (.ireturn, 1) := by decide +kernel
theorem dX5_gyrate_12 : decode cX5_gyrate 12 = .ok (.aload_n 0, 1) := by decide +kernel
theorem dX5_gyrate_13 : decode cX5_gyrate 13 = .ok (.getfield 32, 3) := by decide +kernel
theorem dX5_gyrate_16 : decode cX5_gyrate 16 = .ok (.aload_n 0, 1) := by decide +kernel
theorem dX5_gyrate_17 : decode cX5_gyrate 17 = .ok (.getfield 19, 3) := by decide +kernel
theorem dX5_gyrate_20 : decode cX5_gyrate 20 = .ok (.invokevirtual 94, 3) := by decide +kernel
theorem dX5_gyrate_23 : decode cX5_gyrate 23 = .ok (.iconst 0, 1) := by decide +kernel
theorem dX5_gyrate_24 : decode cX5_gyrate 24 = .ok (.istore_n 2, 1) := by decide +kernel
theorem dX5_gyrate_25 : decode cX5_gyrate 25 = .ok (.iconst 0, 1) := by decide +kernel
theorem dX5_gyrate_26 : decode cX5_gyrate 26 = .ok (.istore_n 3, 1) := by decide +kernel
theorem dX5_gyrate_27 : decode cX5_gyrate 27 = .ok (.iload_n 3, 1) := by decide +kernel
theorem dX5_gyrate_28 : decode cX5_gyrate 28 = .ok (.iload_n 1, 1) := by decide +kernel
theorem dX5_gyrate_29 : decode cX5_gyrate 29 = .ok (.if_icmp .ge 19, 3) := by decide +kernel
theorem dX5_gyrate_32 : decode cX5_gyrate 32 = .ok (.iload_n 2, 1) := by decide +kernel
theorem dX5_gyrate_33 : decode cX5_gyrate 33 = .ok (.aload_n 0, 1) := by decide +kernel
theorem dX5_gyrate_34 : decode cX5_gyrate 34 = .ok (.getfield 19, 3) := by decide +kernel
theorem dX5_gyrate_37 : decode cX5_gyrate 37 = .ok (.invokevirtual 159, 3) := by decide +kernel
theorem dX5_gyrate_40 : decode cX5_gyrate 40 = .ok (.iadd, 1) := by decide +kernel
theorem dX5_gyrate_41 : decode cX5_gyrate 41 = .ok (.istore_n 2, 1) := by decide +kernel
theorem dX5_gyrate_42 : decode cX5_gyrate 42 = .ok (.iinc 3 1, 3) := by decide +kernel
theorem dX5_gyrate_45 : decode cX5_gyrate 45 = .ok (.goto (-18), 3) := by decide +kernel
theorem dX5_gyrate_48 : decode cX5_gyrate 48 = .ok (.iload_n 2, 1) := by decide +kernel
theorem dX5_gyrate_49 : decode cX5_gyrate 49 = .ok (.ireturn, 1) := by decide +kernel
set_option maxRecDepth 20000 in
theorem ggX5_orbit_X3_copy : GoodIn wsX5_orbit wsX3_copy := goodIn_r _ [7, 8, 9, 10, 11, 12, 13, 57, 58] (by decide +kernel) (by decide +kernel)
set_option maxRecDepth 20000 in
theorem gX5_orbit_X3_copy : GoodIn wsX5_orbit (wsV RX5 74 RX3 yX3_copy wsX3_copy) := goodIn_app (goodIn_of _ (by decide +kernel)) ggX5_orbit_X3_copy
set_option maxRecDepth 20000 in
theorem ggX5_orbit_X3_gyrateOnce : GoodIn wsX5_orbit wsX3_gyrateOnce := goodIn_r _ [17, 18, 19, 20, 6, 21, 8, 22, 23, 24, 25, 26, 27, 28, 29, 30, 31, 32, 33, 9, 34, 35, 36, 37, 38, 39, 40, 41, 57, 58] (by decide +kernel) (by decide +kernel)
set_option maxRecDepth 20000 in
theorem gX5_orbit_X3_gyrateOnce : GoodIn wsX5_orbit (wsV RX5 159 RX3 yX3_gyrateOnce wsX3_gyrateOnce) := goodIn_app (goodIn_of _ (by decide +kernel)) ggX5_orbit_X3_gyrateOnce
set_option maxRecDepth 20000 in
theorem ggX5_orbit_X3_distance : GoodIn wsX5_orbit wsX3_distance := goodIn_r _ [45, 8, 46, 47, 48, 49, 30, 31, 32, 6, 33, 9, 57, 58] (by decide +kernel) (by decide +kernel)
set_option maxRecDepth 20000 in
theorem gX5_orbit_X3_distance : GoodIn wsX5_orbit (wsV RX5 162 RX3 yX3_distance wsX3_distance) := goodIn_app (goodIn_of _ (by decide +kernel)) ggX5_orbit_X3_distance
theorem dX5_orbit_0 : decode cX5_orbit 0 = .ok (.aload_n 0, 1) := by decide +kernel
theorem dX5_orbit_1 : decode cX5_orbit 1 = .ok (.getfield 26, 3) := by decide +kernel
theorem dX5_orbit_4 : decode cX5_orbit 4 = .ok (.aload_n 0, 1) := by decide +kernel
theorem dX5_orbit_5 : decode cX5_orbit 5 = .ok (.getfield 19, 3) := by decide +kernel
theorem dX5_orbit_8 : decode cX5_orbit 8 = .ok (.invokevirtual 74, 3) := by decide +kernel
theorem dX5_orbit_11 : decode cX5_orbit 11 = .ok (.iconst 1, 1) := by decide +kernel
theorem dX5_orbit_12 : decode cX5_orbit 12 = .ok (.istore_n 1, 1) := by decide +kernel
theorem dX5_orbit_13 : decode cX5_orbit 13 = .ok (.iload_n 1, 1) := by decide +kernel
theorem dX5_orbit_14 : decode cX5_orbit 14 = .ok (.sipush 7436, 3) := by decide +kernel
theorem dX5_orbit_17 : decode cX5_orbit 17 = .ok (.if_icmp .ge 33, 3) := by decide +kernel
theorem dX5_orbit_20 : decode cX5_orbit 20 = .ok (.aload_n 0, 1) := by decide +kernel
theorem dX5_orbit_21 : decode cX5_orbit 21 = .ok (.getfield 26, 3) := by decide +kernel
theorem dX5_orbit_24 : decode cX5_orbit 24 = .ok (.invokevirtual 159, 3) := by decide +kernel
theorem dX5_orbit_27 : decode cX5_orbit 27 = .ok (.pop, 1) := by decide +kernel
theorem dX5_orbit_28 : decode cX5_orbit 28 = .ok (.aload_n 0, 1) := by decide +kernel
theorem dX5_orbit_29 : decode cX5_orbit 29 = .ok (.getfield 26, 3) := by decide +kernel
theorem dX5_orbit_32 : decode cX5_orbit 32 = .ok (.aload_n 0, 1) := by decide +kernel
theorem dX5_orbit_33 : decode cX5_orbit 33 = .ok (.getfield 19, 3) := by decide +kernel
theorem dX5_orbit_36 : decode cX5_orbit 36 = .ok (.invokevirtual 162, 3) := by decide +kernel
theorem dX5_orbit_39 : decode cX5_orbit 39 = .ok (.ifCond .ne 5, 3) := by decide +kernel
theorem dX5_orbit_42 : decode cX5_orbit 42 = .ok (.iload_n 1, 1) := by decide +kernel
theorem dX5_orbit_43 : decode cX5_orbit 43 = .ok (.ireturn, 1) := by decide +kernel
theorem dX5_orbit_44 : decode cX5_orbit 44 = .ok (.iinc 1 1, 3) := by decide +kernel
theorem dX5_orbit_47 : decode cX5_orbit 47 = .ok (.goto (-34), 3) := by decide +kernel
theorem dX5_orbit_50 : decode cX5_orbit 50 = .ok (.sipush 7436, 3) := by decide +kernel
theorem dX5_orbit_53 : decode cX5_orbit 53 = .ok (.ireturn, 1) := by decide +kernel
set_option maxRecDepth 20000 in
theorem ggX5_apart_X5_hasLikeOther : GoodIn wsX5_apart wsX5_hasLikeOther := goodIn_r _ [7, 2, 8, 1, 24, 25, 26, 27, 28, 29, 30, 31, 32] (by decide +kernel) (by decide +kernel)
set_option maxRecDepth 20000 in
theorem gX5_apart_X5_hasLikeOther : GoodIn wsX5_apart (wsV RX5 166 RX5 yX5_hasLikeOther wsX5_hasLikeOther) := goodIn_app (goodIn_of _ (by decide +kernel)) ggX5_apart_X5_hasLikeOther
set_option maxRecDepth 20000 in
theorem ggX5_apart_X3_distance : GoodIn wsX5_apart wsX3_distance := goodIn_r _ [13, 14, 15, 16, 17, 18, 19, 20, 21, 12, 22, 23, 31, 32] (by decide +kernel) (by decide +kernel)
set_option maxRecDepth 20000 in
theorem gX5_apart_X3_distance : GoodIn wsX5_apart (wsV RX5 162 RX3 yX3_distance wsX3_distance) := goodIn_app (goodIn_of _ (by decide +kernel)) ggX5_apart_X3_distance
theorem dX5_apart_0 : decode cX5_apart 0 = .ok (.aload_n 0, 1) := by decide +kernel
theorem dX5_apart_1 : decode cX5_apart 1 = .ok (.invokevirtual 166, 3) := by decide +kernel
theorem dX5_apart_4 : decode cX5_apart 4 = .ok (.ifCond .eq 17, 3) := by decide +kernel
theorem dX5_apart_7 : decode cX5_apart 7 = .ok (.aload_n 0, 1) := by decide +kernel
theorem dX5_apart_8 : decode cX5_apart 8 = .ok (.getfield 19, 3) := by decide +kernel
theorem dX5_apart_11 : decode cX5_apart 11 = .ok (.aload_n 0, 1) := by decide +kernel
theorem dX5_apart_12 : decode cX5_apart 12 = .ok (.getfield 23, 3) := by decide +kernel
theorem dX5_apart_15 : decode cX5_apart 15 = .ok (.invokevirtual 162, 3) := by decide +kernel
theorem dX5_apart_18 : decode cX5_apart 18 = .ok (.goto 5, 3) := by decide +kernel
theorem dX5_apart_21 : decode cX5_apart 21 = .ok (.bipush (-2), 2) := by decide +kernel
theorem dX5_apart_23 : decode cX5_apart 23 = .ok (.ireturn, 1) := by decide +kernel
set_option maxRecDepth 20000 in
theorem ggX5_next_X5_hasLikeOther : GoodIn wsX5_next wsX5_hasLikeOther := goodIn_r _ [8, 3, 2, 1, 31, 32, 33, 34, 35, 36, 37, 38, 39] (by decide +kernel) (by decide +kernel)
set_option maxRecDepth 20000 in
theorem gX5_next_X5_hasLikeOther : GoodIn wsX5_next (wsV RX5 166 RX5 yX5_hasLikeOther wsX5_hasLikeOther) := goodIn_app (goodIn_of _ (by decide +kernel)) ggX5_next_X5_hasLikeOther
set_option maxRecDepth 20000 in
theorem ggX5_next_X3_comesNearer : GoodIn wsX5_next wsX3_comesNearer := goodIn_r _ [13, 14, 15, 16, 12, 17, 18, 19, 20, 21, 22, 23, 24, 25, 26, 27, 28, 29, 30, 38, 39] (by decide +kernel) (by decide +kernel)
set_option maxRecDepth 20000 in
theorem gX5_next_X3_comesNearer : GoodIn wsX5_next (wsV RX5 170 RX3 yX3_comesNearer wsX3_comesNearer) := goodIn_app (goodIn_of _ (by decide +kernel)) ggX5_next_X3_comesNearer
theorem dX5_next_0 : decode cX5_next 0 = .ok (.aload_n 0, 1) := by decide +kernel
theorem dX5_next_1 : decode cX5_next 1 = .ok (.invokevirtual 166, 3) := by decide +kernel
theorem dX5_next_4 : decode cX5_next 4 = .ok (.ifCond .ne 6, 3) := by decide +kernel
theorem dX5_next_7 : decode cX5_next 7 = .ok (.bipush (-2), 2) := by decide +kernel
theorem dX5_next_9 : decode cX5_next 9 = .ok (.ireturn, 1) := by decide +kernel
theorem dX5_next_10 : decode cX5_next 10 = .ok (.iconst 1, 1) := by decide +kernel
theorem dX5_next_11 : decode cX5_next 11 = .ok (.istore_n 1, 1) := by decide +kernel
theorem dX5_next_12 : decode cX5_next 12 = .ok (.iload_n 1, 1) := by decide +kernel
theorem dX5_next_13 : decode cX5_next 13 = .ok (.aload_n 0, 1) := by decide +kernel
theorem dX5_next_14 : decode cX5_next 14 = .ok (.getfield 19, 3) := by decide +kernel
theorem dX5_next_17 : decode cX5_next 17 = .ok (.getfield 84, 3) := by decide +kernel
theorem dX5_next_20 : decode cX5_next 20 = .ok (.if_icmp .ge 51, 3) := by decide +kernel
theorem dX5_next_23 : decode cX5_next 23 = .ok (.iconst 1, 1) := by decide +kernel
theorem dX5_next_24 : decode cX5_next 24 = .ok (.istore_n 2, 1) := by decide +kernel
theorem dX5_next_25 : decode cX5_next 25 = .ok (.iload_n 2, 1) := by decide +kernel
theorem dX5_next_26 : decode cX5_next 26 = .ok (.aload_n 0, 1) := by decide +kernel
theorem dX5_next_27 : decode cX5_next 27 = .ok (.getfield 19, 3) := by decide +kernel
theorem dX5_next_30 : decode cX5_next 30 = .ok (.getfield 84, 3) := by decide +kernel
theorem dX5_next_33 : decode cX5_next 33 = .ok (.if_icmp .ge 32, 3) := by decide +kernel
theorem dX5_next_36 : decode cX5_next 36 = .ok (.aload_n 0, 1) := by decide +kernel
theorem dX5_next_37 : decode cX5_next 37 = .ok (.getfield 19, 3) := by decide +kernel
theorem dX5_next_40 : decode cX5_next 40 = .ok (.iload_n 1, 1) := by decide +kernel
theorem dX5_next_41 : decode cX5_next 41 = .ok (.iload_n 2, 1) := by decide +kernel
theorem dX5_next_42 : decode cX5_next 42 = .ok (.aload_n 0, 1) := by decide +kernel
theorem dX5_next_43 : decode cX5_next 43 = .ok (.getfield 23, 3) := by decide +kernel
theorem dX5_next_46 : decode cX5_next 46 = .ok (.invokevirtual 170, 3) := by decide +kernel
theorem dX5_next_49 : decode cX5_next 49 = .ok (.ifCond .eq 10, 3) := by decide +kernel
theorem dX5_next_52 : decode cX5_next 52 = .ok (.bipush 10, 2) := by decide +kernel
theorem dX5_next_54 : decode cX5_next 54 = .ok (.iload_n 1, 1) := by decide +kernel
theorem dX5_next_55 : decode cX5_next 55 = .ok (.imul, 1) := by decide +kernel
theorem dX5_next_56 : decode cX5_next 56 = .ok (.iload_n 2, 1) := by decide +kernel
theorem dX5_next_57 : decode cX5_next 57 = .ok (.iadd, 1) := by decide +kernel
theorem dX5_next_58 : decode cX5_next 58 = .ok (.ireturn, 1) := by decide +kernel
theorem dX5_next_59 : decode cX5_next 59 = .ok (.iinc 2 1, 3) := by decide +kernel
theorem dX5_next_62 : decode cX5_next 62 = .ok (.goto (-37), 3) := by decide +kernel
theorem dX5_next_65 : decode cX5_next 65 = .ok (.iinc 1 1, 3) := by decide +kernel
theorem dX5_next_68 : decode cX5_next 68 = .ok (.goto (-56), 3) := by decide +kernel
theorem dX5_next_71 : decode cX5_next 71 = .ok (.bipush (-4), 2) := by decide +kernel
theorem dX5_next_73 : decode cX5_next 73 = .ok (.ireturn, 1) := by decide +kernel
set_option maxRecDepth 20000 in
theorem ggX5_both_X5_isBetween : GoodIn wsX5_both wsX5_isBetween := goodIn_r _ [7] (by decide +kernel) (by decide +kernel)
set_option maxRecDepth 20000 in
theorem gX5_both_X5_isBetween : GoodIn wsX5_both (va_wsS RX5 107 yX5_isBetween wsX5_isBetween) := goodIn_app (goodIn_of _ (by decide +kernel)) ggX5_both_X5_isBetween
set_option maxRecDepth 20000 in
theorem ggX5_both_X5_hasLikeOther : GoodIn wsX5_both wsX5_hasLikeOther := goodIn_r _ [11, 3, 12, 2, 56, 57, 58, 59, 60, 61, 62, 63, 64] (by decide +kernel) (by decide +kernel)
set_option maxRecDepth 20000 in
theorem gX5_both_X5_hasLikeOther : GoodIn wsX5_both (wsV RX5 166 RX5 yX5_hasLikeOther wsX5_hasLikeOther) := goodIn_app (goodIn_of _ (by decide +kernel)) ggX5_both_X5_hasLikeOther
set_option maxRecDepth 20000 in
theorem ggX5_both_X2_remember : GoodIn wsX5_both wsX2_remember := goodIn_r _ [17, 18, 19, 20, 21, 22, 23, 24, 25, 26, 27, 28, 29, 30, 31, 32, 33, 34, 35, 65, 66, 67, 63, 64] (by decide +kernel) (by decide +kernel)
set_option maxRecDepth 20000 in
theorem gX5_both_X2_remember : GoodIn wsX5_both (wsV RX5 94 RX2 yX2_remember wsX2_remember) := goodIn_app (goodIn_of _ (by decide +kernel)) ggX5_both_X2_remember
set_option maxRecDepth 20000 in
theorem ggX5_both_X3_takeHeights : GoodIn wsX5_both wsX3_takeHeights := goodIn_r _ [39, 30, 40, 41, 42, 28, 43, 44, 45, 46, 47, 48, 49, 50, 51, 31, 52, 53, 54, 55, 63, 64] (by decide +kernel) (by decide +kernel)
set_option maxRecDepth 20000 in
theorem gX5_both_X3_takeHeights : GoodIn wsX5_both (wsV RX5 174 RX3 yX3_takeHeights wsX3_takeHeights) := goodIn_app (goodIn_of _ (by decide +kernel)) ggX5_both_X3_takeHeights
theorem dX5_both_0 : decode cX5_both 0 = .ok (.iload_n 1, 1) := by decide +kernel
theorem dX5_both_1 : decode cX5_both 1 = .ok (.iconst 0, 1) := by decide +kernel
theorem dX5_both_2 : decode cX5_both 2 = .ok (.iconst 1, 1) := by decide +kernel
theorem dX5_both_3 : decode cX5_both 3 = .ok (.invokestatic 107, 3) := by decide +kernel
theorem dX5_both_6 : decode cX5_both 6 = .ok (.ifCond .ne 5, 3) := by decide +kernel
theorem dX5_both_9 : decode cX5_both 9 = .ok (.iconst (-1), 1) := by decide +kernel
theorem dX5_both_10 : decode cX5_both 10 = .ok (.ireturn, 1) := by decide +kernel
theorem dX5_both_11 : decode cX5_both 11 = .ok (.aload_n 0, 1) := by decide +kernel
theorem dX5_both_12 : decode cX5_both 12 = .ok (.invokevirtual 166, 3) := by decide +kernel
theorem dX5_both_15 : decode cX5_both 15 = .ok (.ifCond .ne 6, 3) := by decide +kernel
theorem dX5_both_18 : decode cX5_both 18 = .ok (.bipush (-2), 2) := by decide +kernel
theorem dX5_both_20 : decode cX5_both 20 = .ok (.ireturn, 1) := by decide +kernel
theorem dX5_both_21 : decode cX5_both 21 = .ok (.aload_n 0, 1) := by decide +kernel
theorem dX5_both_22 : decode cX5_both 22 = .ok (.getfield 32, 3) := by decide +kernel
theorem dX5_both_25 : decode cX5_both 25 = .ok (.aload_n 0, 1) := by decide +kernel
theorem dX5_both_26 : decode cX5_both 26 = .ok (.getfield 19, 3) := by decide +kernel
theorem dX5_both_29 : decode cX5_both 29 = .ok (.invokevirtual 94, 3) := by decide +kernel
theorem dX5_both_32 : decode cX5_both 32 = .ok (.aload_n 0, 1) := by decide +kernel
theorem dX5_both_33 : decode cX5_both 33 = .ok (.getfield 19, 3) := by decide +kernel
theorem dX5_both_36 : decode cX5_both 36 = .ok (.iload_n 1, 1) := by decide +kernel
theorem dX5_both_37 : decode cX5_both 37 = .ok (.ifCond .ne 7, 3) := by decide +kernel
theorem dX5_both_40 : decode cX5_both 40 = .ok (.iconst 2, 1) := by decide +kernel
theorem dX5_both_41 : decode cX5_both 41 = .ok (.goto 4, 3) := by decide +kernel
theorem dX5_both_44 : decode cX5_both 44 = .ok (.iconst 1, 1) := by decide +kernel
theorem dX5_both_45 : decode cX5_both 45 = .ok (.aload_n 0, 1) := by decide +kernel
theorem dX5_both_46 : decode cX5_both 46 = .ok (.getfield 23, 3) := by decide +kernel
theorem dX5_both_49 : decode cX5_both 49 = .ok (.invokevirtual 174, 3) := by decide +kernel
theorem dX5_both_52 : decode cX5_both 52 = .ok (.ireturn, 1) := by decide +kernel
set_option maxRecDepth 20000 in
theorem ggX5_turn_X5_isBetween : GoodIn wsX5_turn wsX5_isBetween := goodIn_r _ [7] (by decide +kernel) (by decide +kernel)
set_option maxRecDepth 20000 in
theorem gX5_turn_X5_isBetween : GoodIn wsX5_turn (va_wsS RX5 107 yX5_isBetween wsX5_isBetween) := goodIn_app (goodIn_of _ (by decide +kernel)) ggX5_turn_X5_isBetween
set_option maxRecDepth 20000 in
theorem ggX5_turn_X2_remember : GoodIn wsX5_turn wsX2_remember := goodIn_r _ [12, 13, 14, 15, 16, 17, 18, 19, 20, 21, 22, 23, 24, 25, 26, 27, 28, 29, 30, 67, 68, 69, 70, 71] (by decide +kernel) (by decide +kernel)
set_option maxRecDepth 20000 in
theorem gX5_turn_X2_remember : GoodIn wsX5_turn (wsV RX5 94 RX2 yX2_remember wsX2_remember) := goodIn_app (goodIn_of _ (by decide +kernel)) ggX5_turn_X2_remember
set_option maxRecDepth 20000 in
theorem ggX5_turn_X3_copy : GoodIn wsX5_turn wsX3_copy := goodIn_r _ [24, 25, 26, 27, 28, 29, 30, 70, 71] (by decide +kernel) (by decide +kernel)
set_option maxRecDepth 20000 in
theorem gX5_turn_X3_copy : GoodIn wsX5_turn (wsV RX5 74 RX3 yX3_copy wsX3_copy) := goodIn_app (goodIn_of _ (by decide +kernel)) ggX5_turn_X3_copy
set_option maxRecDepth 20000 in
theorem ggX5_turn_X3_putTurned : GoodIn wsX5_turn wsX3_putTurned := goodIn_r _ [35, 25, 36, 37, 38, 23, 39, 40, 41, 42, 43, 44, 45, 46, 47, 48, 49, 50, 51, 26, 52, 53, 54, 55, 70, 71] (by decide +kernel) (by decide +kernel)
set_option maxRecDepth 20000 in
theorem gX5_turn_X3_putTurned : GoodIn wsX5_turn (wsV RX5 178 RX3 yX3_putTurned wsX3_putTurned) := goodIn_app (goodIn_of _ (by decide +kernel)) ggX5_turn_X3_putTurned
set_option maxRecDepth 20000 in
theorem ggX5_turn_X3_unlikeSigns : GoodIn wsX5_turn wsX3_unlikeSigns := goodIn_r _ [59, 25, 40, 41, 42, 23, 43, 44, 45, 46, 47, 48, 49, 50, 51, 26, 70, 71] (by decide +kernel) (by decide +kernel)
set_option maxRecDepth 20000 in
theorem gX5_turn_X3_unlikeSigns : GoodIn wsX5_turn (wsV RX5 181 RX3 yX3_unlikeSigns wsX3_unlikeSigns) := goodIn_app (goodIn_of _ (by decide +kernel)) ggX5_turn_X3_unlikeSigns
theorem dX5_turn_0 : decode cX5_turn 0 = .ok (.iload_n 1, 1) := by decide +kernel
theorem dX5_turn_1 : decode cX5_turn 1 = .ok (.iconst 1, 1) := by decide +kernel
theorem dX5_turn_2 : decode cX5_turn 2 = .ok (.bipush 6, 2) := by decide +kernel
theorem dX5_turn_4 : decode cX5_turn 4 = .ok (.invokestatic 107, 3) := by decide +kernel
theorem dX5_turn_7 : decode cX5_turn 7 = .ok (.ifCond .ne 5, 3) := by decide +kernel
theorem dX5_turn_10 : decode cX5_turn 10 = .ok (.iconst (-1), 1) := by decide +kernel
theorem dX5_turn_11 : decode cX5_turn 11 = .ok (.ireturn, 1) := by decide +kernel
theorem dX5_turn_12 : decode cX5_turn 12 = .ok (.aload_n 0, 1) := by decide +kernel
theorem dX5_turn_13 : decode cX5_turn 13 = .ok (.getfield 32, 3) := by decide +kernel
theorem dX5_turn_16 : decode cX5_turn 16 = .ok (.aload_n 0, 1) := by decide +kernel
theorem dX5_turn_17 : decode cX5_turn 17 = .ok (.getfield 19, 3) := by decide +kernel
theorem dX5_turn_20 : decode cX5_turn 20 = .ok (.invokevirtual 94, 3) := by decide +kernel
theorem dX5_turn_23 : decode cX5_turn 23 = .ok (.aload_n 0, 1) := by decide +kernel
theorem dX5_turn_24 : decode cX5_turn 24 = .ok (.getfield 26, 3) := by decide +kernel
theorem dX5_turn_27 : decode cX5_turn 27 = .ok (.aload_n 0, 1) := by decide +kernel
theorem dX5_turn_28 : decode cX5_turn 28 = .ok (.getfield 19, 3) := by decide +kernel
theorem dX5_turn_31 : decode cX5_turn 31 = .ok (.invokevirtual 74, 3) := by decide +kernel
theorem dX5_turn_34 : decode cX5_turn 34 = .ok (.aload_n 0, 1) := by decide +kernel
theorem dX5_turn_35 : decode cX5_turn 35 = .ok (.getfield 19, 3) := by decide +kernel
theorem dX5_turn_38 : decode cX5_turn 38 = .ok (.iload_n 1, 1) := by decide +kernel
theorem dX5_turn_39 : decode cX5_turn 39 = .ok (.aload_n 0, 1) := by decide +kernel
theorem dX5_turn_40 : decode cX5_turn 40 = .ok (.getfield 26, 3) := by decide +kernel
theorem dX5_turn_43 : decode cX5_turn 43 = .ok (.invokevirtual 178, 3) := by decide +kernel
theorem dX5_turn_46 : decode cX5_turn 46 = .ok (.aload_n 0, 1) := by decide +kernel
theorem dX5_turn_47 : decode cX5_turn 47 = .ok (.getfield 19, 3) := by decide +kernel
theorem dX5_turn_50 : decode cX5_turn 50 = .ok (.aload_n 0, 1) := by decide +kernel
theorem dX5_turn_51 : decode cX5_turn 51 = .ok (.getfield 26, 3) := by decide +kernel
theorem dX5_turn_54 : decode cX5_turn 54 = .ok (.invokevirtual 181, 3) := by decide +kernel
theorem dX5_turn_57 : decode cX5_turn 57 = .ok (.ireturn, 1) := by decide +kernel
set_option maxRecDepth 20000 in
theorem ggX5_across_X5_isBetween : GoodIn wsX5_across wsX5_isBetween := goodIn_r _ [6] (by decide +kernel) (by decide +kernel)
set_option maxRecDepth 20000 in
theorem gX5_across_X5_isBetween : GoodIn wsX5_across (va_wsS RX5 107 yX5_isBetween wsX5_isBetween) := goodIn_app (goodIn_of _ (by decide +kernel)) ggX5_across_X5_isBetween
set_option maxRecDepth 20000 in
theorem ggX5_across_X3_isDrawnAcross : GoodIn wsX5_across wsX3_isDrawnAcross := goodIn_r _ [11, 12, 13, 14, 10, 15, 16, 17, 18, 19, 20, 28, 29] (by decide +kernel) (by decide +kernel)
set_option maxRecDepth 20000 in
theorem gX5_across_X3_isDrawnAcross : GoodIn wsX5_across (wsV RX5 184 RX3 yX3_isDrawnAcross wsX3_isDrawnAcross) := goodIn_app (goodIn_of _ (by decide +kernel)) ggX5_across_X3_isDrawnAcross
theorem dX5_across_0 : decode cX5_across 0 = .ok (.iload_n 1, 1) := by decide +kernel
theorem dX5_across_1 : decode cX5_across 1 = .ok (.iconst 1, 1) := by decide +kernel
theorem dX5_across_2 : decode cX5_across 2 = .ok (.aload_n 0, 1) := by decide +kernel
theorem dX5_across_3 : decode cX5_across 3 = .ok (.getfield 19, 3) := by decide +kernel
theorem dX5_across_6 : decode cX5_across 6 = .ok (.getfield 84, 3) := by decide +kernel
theorem dX5_across_9 : decode cX5_across 9 = .ok (.invokestatic 107, 3) := by decide +kernel
theorem dX5_across_12 : decode cX5_across 12 = .ok (.ifCond .eq 18, 3) := by decide +kernel
theorem dX5_across_15 : decode cX5_across 15 = .ok (.iload_n 2, 1) := by decide +kernel
theorem dX5_across_16 : decode cX5_across 16 = .ok (.iconst 0, 1) := by decide +kernel
theorem dX5_across_17 : decode cX5_across 17 = .ok (.aload_n 0, 1) := by decide +kernel
theorem dX5_across_18 : decode cX5_across 18 = .ok (.getfield 19, 3) := by decide +kernel
theorem dX5_across_21 : decode cX5_across 21 = .ok (.getfield 84, 3) := by decide +kernel
theorem dX5_across_24 : decode cX5_across 24 = .ok (.invokestatic 107, 3) := by decide +kernel
theorem dX5_across_27 : decode cX5_across 27 = .ok (.ifCond .ne 5, 3) := by decide +kernel
theorem dX5_across_30 : decode cX5_across 30 = .ok (.iconst (-1), 1) := by decide +kernel
theorem dX5_across_31 : decode cX5_across 31 = .ok (.ireturn, 1) := by decide +kernel
theorem dX5_across_32 : decode cX5_across 32 = .ok (.aload_n 0, 1) := by decide +kernel
theorem dX5_across_33 : decode cX5_across 33 = .ok (.getfield 19, 3) := by decide +kernel
theorem dX5_across_36 : decode cX5_across 36 = .ok (.iload_n 1, 1) := by decide +kernel
theorem dX5_across_37 : decode cX5_across 37 = .ok (.iload_n 2, 1) := by decide +kernel
theorem dX5_across_38 : decode cX5_across 38 = .ok (.invokevirtual 184, 3) := by decide +kernel
theorem dX5_across_41 : decode cX5_across 41 = .ok (.ifCond .eq 7, 3) := by decide +kernel
theorem dX5_across_44 : decode cX5_across 44 = .ok (.iconst 1, 1) := by decide +kernel
theorem dX5_across_45 : decode cX5_across 45 = .ok (.goto 4, 3) := by decide +kernel
theorem dX5_across_48 : decode cX5_across 48 = .ok (.iconst 0, 1) := by decide +kernel
theorem dX5_across_49 : decode cX5_across 49 = .ok (.ireturn, 1) := by decide +kernel
set_option maxRecDepth 20000 in
theorem ggX5_down_X5_isBetween : GoodIn wsX5_down wsX5_isBetween := goodIn_r _ [6] (by decide +kernel) (by decide +kernel)
set_option maxRecDepth 20000 in
theorem gX5_down_X5_isBetween : GoodIn wsX5_down (va_wsS RX5 107 yX5_isBetween wsX5_isBetween) := goodIn_app (goodIn_of _ (by decide +kernel)) ggX5_down_X5_isBetween
set_option maxRecDepth 20000 in
theorem ggX5_down_X3_isDrawnDown : GoodIn wsX5_down wsX3_isDrawnDown := goodIn_r _ [11, 12, 13, 14, 10, 15, 16, 17, 18, 19, 20, 28, 29] (by decide +kernel) (by decide +kernel)
set_option maxRecDepth 20000 in
theorem gX5_down_X3_isDrawnDown : GoodIn wsX5_down (wsV RX5 187 RX3 yX3_isDrawnDown wsX3_isDrawnDown) := goodIn_app (goodIn_of _ (by decide +kernel)) ggX5_down_X3_isDrawnDown
theorem dX5_down_0 : decode cX5_down 0 = .ok (.iload_n 1, 1) := by decide +kernel
theorem dX5_down_1 : decode cX5_down 1 = .ok (.iconst 0, 1) := by decide +kernel
theorem dX5_down_2 : decode cX5_down 2 = .ok (.aload_n 0, 1) := by decide +kernel
theorem dX5_down_3 : decode cX5_down 3 = .ok (.getfield 19, 3) := by decide +kernel
theorem dX5_down_6 : decode cX5_down 6 = .ok (.getfield 84, 3) := by decide +kernel
theorem dX5_down_9 : decode cX5_down 9 = .ok (.invokestatic 107, 3) := by decide +kernel
theorem dX5_down_12 : decode cX5_down 12 = .ok (.ifCond .eq 18, 3) := by decide +kernel
theorem dX5_down_15 : decode cX5_down 15 = .ok (.iload_n 2, 1) := by decide +kernel
theorem dX5_down_16 : decode cX5_down 16 = .ok (.iconst 1, 1) := by decide +kernel
theorem dX5_down_17 : decode cX5_down 17 = .ok (.aload_n 0, 1) := by decide +kernel
theorem dX5_down_18 : decode cX5_down 18 = .ok (.getfield 19, 3) := by decide +kernel
theorem dX5_down_21 : decode cX5_down 21 = .ok (.getfield 84, 3) := by decide +kernel
theorem dX5_down_24 : decode cX5_down 24 = .ok (.invokestatic 107, 3) := by decide +kernel
theorem dX5_down_27 : decode cX5_down 27 = .ok (.ifCond .ne 5, 3) := by decide +kernel
theorem dX5_down_30 : decode cX5_down 30 = .ok (.iconst (-1), 1) := by decide +kernel
theorem dX5_down_31 : decode cX5_down 31 = .ok (.ireturn, 1) := by decide +kernel
theorem dX5_down_32 : decode cX5_down 32 = .ok (.aload_n 0, 1) := by decide +kernel
theorem dX5_down_33 : decode cX5_down 33 = .ok (.getfield 19, 3) := by decide +kernel
theorem dX5_down_36 : decode cX5_down 36 = .ok (.iload_n 1, 1) := by decide +kernel
theorem dX5_down_37 : decode cX5_down 37 = .ok (.iload_n 2, 1) := by decide +kernel
theorem dX5_down_38 : decode cX5_down 38 = .ok (.invokevirtual 187, 3) := by decide +kernel
theorem dX5_down_41 : decode cX5_down 41 = .ok (.ifCond .eq 7, 3) := by decide +kernel
theorem dX5_down_44 : decode cX5_down 44 = .ok (.iconst 1, 1) := by decide +kernel
theorem dX5_down_45 : decode cX5_down 45 = .ok (.goto 4, 3) := by decide +kernel
theorem dX5_down_48 : decode cX5_down 48 = .ok (.iconst 0, 1) := by decide +kernel
theorem dX5_down_49 : decode cX5_down 49 = .ok (.ireturn, 1) := by decide +kernel
set_option maxRecDepth 20000 in
theorem ggX5_partner_X5_isBetween : GoodIn wsX5_partner wsX5_isBetween := goodIn_r _ [8] (by decide +kernel) (by decide +kernel)
set_option maxRecDepth 20000 in
theorem gX5_partner_X5_isBetween : GoodIn wsX5_partner (va_wsS RX5 107 yX5_isBetween wsX5_isBetween) := goodIn_app (goodIn_of _ (by decide +kernel)) ggX5_partner_X5_isBetween
set_option maxRecDepth 20000 in
theorem ggX5_partner_X1_trace : GoodIn wsX5_partner wsX1_trace := goodIn_r _ [13, 14, 15, 16, 17, 18, 12, 19, 20, 21, 22, 23, 24, 25, 26, 27, 28, 29, 30, 31, 32, 33, 34, 35, 36, 37, 38, 39, 40, 41, 42, 43, 44, 45, 46, 47, 48, 49, 50, 51, 52, 53, 54, 55, 56, 57, 58, 59, 60, 61, 62, 63, 64, 65, 66, 67, 6, 7, 8, 68, 69, 70, 71, 72, 73, 74, 75, 76, 77, 78, 79, 80, 81, 82, 83, 84, 85, 86, 87, 88, 89, 90, 91, 99, 100, 101, 102, 103, 104, 105, 106, 107, 108, 109, 110, 111] (by decide +kernel) (by decide +kernel)
set_option maxRecDepth 20000 in
theorem gX5_partner_X1_trace : GoodIn wsX5_partner (wsV RX5 146 RX1 yX1_trace wsX1_trace) := goodIn_app (goodIn_of _ (by decide +kernel)) ggX5_partner_X1_trace
theorem dX5_partner_0 : decode cX5_partner 0 = .ok (.iload_n 1, 1) := by decide +kernel
theorem dX5_partner_1 : decode cX5_partner 1 = .ok (.iconst 0, 1) := by decide +kernel
theorem dX5_partner_2 : decode cX5_partner 2 = .ok (.iconst 2, 1) := by decide +kernel
theorem dX5_partner_3 : decode cX5_partner 3 = .ok (.aload_n 0, 1) := by decide +kernel
theorem dX5_partner_4 : decode cX5_partner 4 = .ok (.getfield 19, 3) := by decide +kernel
theorem dX5_partner_7 : decode cX5_partner 7 = .ok (.getfield 84, 3) := by decide +kernel
theorem dX5_partner_10 : decode cX5_partner 10 = .ok (.imul, 1) := by decide +kernel
theorem dX5_partner_11 : decode cX5_partner 11 = .ok (.iconst 1, 1) := by decide +kernel
theorem dX5_partner_12 : decode cX5_partner 12 = .ok (.isub, 1) := by decide +kernel
theorem dX5_partner_13 : decode cX5_partner 13 = .ok (.invokestatic 107, 3) := by decide +kernel
theorem dX5_partner_16 : decode cX5_partner 16 = .ok (.ifCond .ne 5, 3) := by decide +kernel
theorem dX5_partner_19 : decode cX5_partner 19 = .ok (.iconst (-1), 1) := by decide +kernel
theorem dX5_partner_20 : decode cX5_partner 20 = .ok (.ireturn, 1) := by decide +kernel
theorem dX5_partner_21 : decode cX5_partner 21 = .ok (.aload_n 0, 1) := by decide +kernel
theorem dX5_partner_22 : decode cX5_partner 22 = .ok (.getfield 39, 3) := by decide +kernel
theorem dX5_partner_25 : decode cX5_partner 25 = .ok (.aload_n 0, 1) := by decide +kernel
theorem dX5_partner_26 : decode cX5_partner 26 = .ok (.getfield 19, 3) := by decide +kernel
theorem dX5_partner_29 : decode cX5_partner 29 = .ok (.invokevirtual 146, 3) := by decide +kernel
theorem dX5_partner_32 : decode cX5_partner 32 = .ok (.aload_n 0, 1) := by decide +kernel
theorem dX5_partner_33 : decode cX5_partner 33 = .ok (.getfield 39, 3) := by decide +kernel
theorem dX5_partner_36 : decode cX5_partner 36 = .ok (.getfield 190, 3) := by decide +kernel
theorem dX5_partner_39 : decode cX5_partner 39 = .ok (.iload_n 1, 1) := by decide +kernel
theorem dX5_partner_40 : decode cX5_partner 40 = .ok (.iaload, 1) := by decide +kernel
theorem dX5_partner_41 : decode cX5_partner 41 = .ok (.ireturn, 1) := by decide +kernel
set_option maxRecDepth 20000 in
theorem ggX5_line_X5_isBetween : GoodIn wsX5_line wsX5_isBetween := goodIn_r _ [8] (by decide +kernel) (by decide +kernel)
set_option maxRecDepth 20000 in
theorem gX5_line_X5_isBetween : GoodIn wsX5_line (va_wsS RX5 107 yX5_isBetween wsX5_isBetween) := goodIn_app (goodIn_of _ (by decide +kernel)) ggX5_line_X5_isBetween
set_option maxRecDepth 20000 in
theorem ggX5_line_X1_trace : GoodIn wsX5_line wsX1_trace := goodIn_r _ [13, 14, 15, 16, 17, 18, 12, 19, 20, 21, 22, 23, 24, 25, 26, 27, 28, 29, 30, 31, 32, 33, 34, 35, 36, 37, 38, 39, 40, 41, 42, 43, 44, 45, 46, 47, 48, 49, 50, 51, 52, 53, 54, 55, 56, 57, 58, 59, 60, 61, 62, 63, 64, 65, 66, 67, 6, 7, 8, 68, 69, 70, 71, 72, 73, 74, 75, 76, 77, 78, 79, 80, 81, 82, 83, 84, 85, 86, 87, 88, 89, 90, 91, 99, 100, 101, 102, 103, 104, 105, 106, 107, 108, 109, 110, 111] (by decide +kernel) (by decide +kernel)
set_option maxRecDepth 20000 in
theorem gX5_line_X1_trace : GoodIn wsX5_line (wsV RX5 146 RX1 yX1_trace wsX1_trace) := goodIn_app (goodIn_of _ (by decide +kernel)) ggX5_line_X1_trace
theorem dX5_line_0 : decode cX5_line 0 = .ok (.iload_n 1, 1) := by decide +kernel
theorem dX5_line_1 : decode cX5_line 1 = .ok (.iconst 0, 1) := by decide +kernel
theorem dX5_line_2 : decode cX5_line 2 = .ok (.iconst 2, 1) := by decide +kernel
theorem dX5_line_3 : decode cX5_line 3 = .ok (.aload_n 0, 1) := by decide +kernel
theorem dX5_line_4 : decode cX5_line 4 = .ok (.getfield 19, 3) := by decide +kernel
theorem dX5_line_7 : decode cX5_line 7 = .ok (.getfield 84, 3) := by decide +kernel
theorem dX5_line_10 : decode cX5_line 10 = .ok (.imul, 1) := by decide +kernel
theorem dX5_line_11 : decode cX5_line 11 = .ok (.iconst 1, 1) := by decide +kernel
theorem dX5_line_12 : decode cX5_line 12 = .ok (.isub, 1) := by decide +kernel
theorem dX5_line_13 : decode cX5_line 13 = .ok (.invokestatic 107, 3) := by decide +kernel
theorem dX5_line_16 : decode cX5_line 16 = .ok (.ifCond .ne 5, 3) := by decide +kernel
theorem dX5_line_19 : decode cX5_line 19 = .ok (.iconst (-1), 1) := by decide +kernel
theorem dX5_line_20 : decode cX5_line 20 = .ok (.ireturn, 1) := by decide +kernel
theorem dX5_line_21 : decode cX5_line 21 = .ok (.aload_n 0, 1) := by decide +kernel
theorem dX5_line_22 : decode cX5_line 22 = .ok (.getfield 39, 3) := by decide +kernel
theorem dX5_line_25 : decode cX5_line 25 = .ok (.aload_n 0, 1) := by decide +kernel
theorem dX5_line_26 : decode cX5_line 26 = .ok (.getfield 19, 3) := by decide +kernel
theorem dX5_line_29 : decode cX5_line 29 = .ok (.invokevirtual 146, 3) := by decide +kernel
theorem dX5_line_32 : decode cX5_line 32 = .ok (.aload_n 0, 1) := by decide +kernel
theorem dX5_line_33 : decode cX5_line 33 = .ok (.getfield 39, 3) := by decide +kernel
theorem dX5_line_36 : decode cX5_line 36 = .ok (.getfield 194, 3) := by decide +kernel
theorem dX5_line_39 : decode cX5_line 39 = .ok (.iload_n 1, 1) := by decide +kernel
theorem dX5_line_40 : decode cX5_line 40 = .ok (.iaload, 1) := by decide +kernel
theorem dX5_line_41 : decode cX5_line 41 = .ok (.ireturn, 1) := by decide +kernel
set_option maxRecDepth 20000 in
theorem ggX5_rank_X0_rankOf : GoodIn wsX5_rank wsX0_rankOf := goodIn_r _ [8, 9, 10, 11, 12, 7, 13, 14, 15, 16, 17, 18, 19, 20, 21, 22, 23, 24, 25, 26, 27, 28, 29, 30, 31, 32, 33, 34, 35, 36, 37, 38, 39, 40, 41, 42, 43, 44, 45, 46, 56, 57, 58, 59, 60, 61, 62, 54, 55] (by decide +kernel) (by decide +kernel)
set_option maxRecDepth 20000 in
theorem gX5_rank_X0_rankOf : GoodIn wsX5_rank (wsV RX5 197 RX0 yX0_rankOf wsX0_rankOf) := goodIn_app (goodIn_of _ (by decide +kernel)) ggX5_rank_X0_rankOf
theorem dX5_rank_0 : decode cX5_rank 0 = .ok (.aload_n 0, 1) := by decide +kernel
theorem dX5_rank_1 : decode cX5_rank 1 = .ok (.getfield 45, 3) := by decide +kernel
theorem dX5_rank_4 : decode cX5_rank 4 = .ok (.aload_n 0, 1) := by decide +kernel
theorem dX5_rank_5 : decode cX5_rank 5 = .ok (.getfield 19, 3) := by decide +kernel
theorem dX5_rank_8 : decode cX5_rank 8 = .ok (.getfield 84, 3) := by decide +kernel
theorem dX5_rank_11 : decode cX5_rank 11 = .ok (.iconst 1, 1) := by decide +kernel
theorem dX5_rank_12 : decode cX5_rank 12 = .ok (.isub, 1) := by decide +kernel
theorem dX5_rank_13 : decode cX5_rank 13 = .ok (.aaload, 1) := by decide +kernel
theorem dX5_rank_14 : decode cX5_rank 14 = .ok (.aload_n 0, 1) := by decide +kernel
theorem dX5_rank_15 : decode cX5_rank 15 = .ok (.getfield 19, 3) := by decide +kernel
theorem dX5_rank_18 : decode cX5_rank 18 = .ok (.invokevirtual 197, 3) := by decide +kernel
theorem dX5_rank_21 : decode cX5_rank 21 = .ok (.ireturn, 1) := by decide +kernel
set_option maxRecDepth 20000 in
theorem ggX5_many_X5_isSize : GoodIn wsX5_many wsX5_isSize := goodIn_r _ [5, 6, 7, 4, 8] (by decide +kernel) (by decide +kernel)
set_option maxRecDepth 20000 in
theorem gX5_many_X5_isSize : GoodIn wsX5_many (va_wsS RX5 87 yX5_isSize wsX5_isSize) := goodIn_app (goodIn_of _ (by decide +kernel)) ggX5_many_X5_isSize
set_option maxRecDepth 20000 in
theorem ggX5_many_X5_isBetween : GoodIn wsX5_many wsX5_isBetween := goodIn_r _ [8] (by decide +kernel) (by decide +kernel)
set_option maxRecDepth 20000 in
theorem gX5_many_X5_isBetween : GoodIn wsX5_many (va_wsS RX5 107 yX5_isBetween wsX5_isBetween) := goodIn_app (goodIn_of _ (by decide +kernel)) ggX5_many_X5_isBetween
set_option maxRecDepth 20000 in
theorem ggX5_many_X0_total : GoodIn wsX5_many wsX0_total := goodIn_r _ [13, 14, 15, 16, 17, 12, 18, 19, 20, 21, 22, 23, 24, 25, 26, 27, 28, 29, 30, 31, 32, 33, 34, 35, 36, 48, 49, 50, 51, 52, 53, 54] (by decide +kernel) (by decide +kernel)
set_option maxRecDepth 20000 in
theorem gX5_many_X0_total : GoodIn wsX5_many (wsV RX5 91 RX0 yX0_total wsX0_total) := goodIn_app (goodIn_of _ (by decide +kernel)) ggX5_many_X0_total
set_option maxRecDepth 20000 in
theorem ggX5_many_X0_withFirstOne : GoodIn wsX5_many wsX0_withFirstOne := goodIn_r _ [40, 14, 21, 15, 16, 17, 12, 18, 19, 20, 22, 23, 24, 25, 26, 27, 28, 29, 30, 31, 32, 33, 34, 35, 36, 48, 49, 50, 51, 52, 53, 54] (by decide +kernel) (by decide +kernel)
set_option maxRecDepth 20000 in
theorem gX5_many_X0_withFirstOne : GoodIn wsX5_many (wsV RX5 200 RX0 yX0_withFirstOne wsX0_withFirstOne) := goodIn_app (goodIn_of _ (by decide +kernel)) ggX5_many_X0_withFirstOne
theorem dX5_many_0 : decode cX5_many 0 = .ok (.iload_n 1, 1) := by decide +kernel
theorem dX5_many_1 : decode cX5_many 1 = .ok (.invokestatic 87, 3) := by decide +kernel
theorem dX5_many_4 : decode cX5_many 4 = .ok (.ifCond .eq 14, 3) := by decide +kernel
theorem dX5_many_7 : decode cX5_many 7 = .ok (.iload_n 2, 1) := by decide +kernel
theorem dX5_many_8 : decode cX5_many 8 = .ok (.iconst (-1), 1) := by decide +kernel
theorem dX5_many_9 : decode cX5_many 9 = .ok (.iload_n 1, 1) := by decide +kernel
theorem dX5_many_10 : decode cX5_many 10 = .ok (.iconst 1, 1) := by decide +kernel
theorem dX5_many_11 : decode cX5_many 11 = .ok (.isub, 1) := by decide +kernel
theorem dX5_many_12 : decode cX5_many 12 = .ok (.invokestatic 107, 3) := by decide +kernel
theorem dX5_many_15 : decode cX5_many 15 = .ok (.ifCond .ne 5, 3) := by decide +kernel
theorem dX5_many_18 : decode cX5_many 18 = .ok (.iconst (-1), 1) := by decide +kernel
theorem dX5_many_19 : decode cX5_many 19 = .ok (.ireturn, 1) := by decide +kernel
theorem dX5_many_20 : decode cX5_many 20 = .ok (.aload_n 0, 1) := by decide +kernel
theorem dX5_many_21 : decode cX5_many 21 = .ok (.getfield 45, 3) := by decide +kernel
theorem dX5_many_24 : decode cX5_many 24 = .ok (.iload_n 1, 1) := by decide +kernel
theorem dX5_many_25 : decode cX5_many 25 = .ok (.iconst 1, 1) := by decide +kernel
theorem dX5_many_26 : decode cX5_many 26 = .ok (.isub, 1) := by decide +kernel
theorem dX5_many_27 : decode cX5_many 27 = .ok (.aaload, 1) := by decide +kernel
theorem dX5_many_28 : decode cX5_many 28 = .ok (.astore_n 3, 1) := by decide +kernel
theorem dX5_many_29 : decode cX5_many 29 = .ok (.iload_n 2, 1) := by decide +kernel
theorem dX5_many_30 : decode cX5_many 30 = .ok (.ifCond .ge 10, 3) := by decide +kernel
theorem dX5_many_33 : decode cX5_many 33 = .ok (.aload_n 3, 1) := by decide +kernel
theorem dX5_many_34 : decode cX5_many 34 = .ok (.invokevirtual 91, 3) := by decide +kernel
theorem dX5_many_37 : decode cX5_many 37 = .ok (.goto 8, 3) := by decide +kernel
theorem dX5_many_40 : decode cX5_many 40 = .ok (.aload_n 3, 1) := by decide +kernel
theorem dX5_many_41 : decode cX5_many 41 = .ok (.iload_n 2, 1) := by decide +kernel
theorem dX5_many_42 : decode cX5_many 42 = .ok (.invokevirtual 200, 3) := by decide +kernel
theorem dX5_many_45 : decode cX5_many 45 = .ok (.ireturn, 1) := by decide +kernel
set_option maxRecDepth 20000 in
theorem ggX5_alike_X0_sortByPartners : GoodIn wsX5_alike wsX0_sortByPartners := goodIn_r _ [11, 12, 13, 14, 15, 10, 16, 17, 18, 19, 20, 21, 22, 23, 24, 25, 26, 27, 28, 29, 30, 31, 32, 33, 34, 35, 36, 37, 38, 39, 40, 41, 42, 43, 44, 45, 46, 47, 48, 49, 50, 51, 52, 53, 54, 55, 56, 57, 58, 59, 60, 61, 62, 63, 64, 65, 66, 67, 68, 69, 70, 71, 72, 73, 74, 75, 76, 77, 78, 79, 80, 81, 82, 83, 84, 85, 86, 87, 88, 89, 90, 91, 92, 93, 94, 95, 96, 97, 98, 99, 100, 101, 102, 103, 104, 105, 106, 107, 108, 109, 110, 111, 112, 113, 114, 115, 116, 117, 118, 119, 120, 121, 122, 123, 124, 125, 126, 127, 128, 129, 130, 131, 132, 133, 134, 135, 136, 137, 138, 139, 140, 141, 142, 143, 144, 145, 146, 147, 148, 149, 150, 151, 152, 153, 154, 168, 169, 170, 171, 172, 173, 174, 166, 167, 175, 176, 177, 178, 179, 180, 181, 182, 183, 184, 185] (by decide +kernel) (by decide +kernel)
set_option maxRecDepth 20000 in
theorem gX5_alike_X0_sortByPartners : GoodIn wsX5_alike (wsV RX5 204 RX0 yX0_sortByPartners wsX0_sortByPartners) := goodIn_app (goodIn_of _ (by decide +kernel)) ggX5_alike_X0_sortByPartners
set_option maxRecDepth 20000 in
theorem ggX5_alike_X1_trace : GoodIn wsX5_alike wsX1_trace := goodIn_r _ [64, 65, 66, 67, 68, 69, 63, 70, 71, 72, 73, 74, 48, 75, 76, 77, 78, 79, 51, 52, 53, 54, 55, 80, 81, 82, 83, 84, 85, 86, 87, 88, 89, 90, 91, 92, 93, 94, 95, 96, 97, 98, 99, 100, 101, 102, 103, 104, 105, 106, 107, 108, 109, 110, 111, 112, 113, 114, 115, 116, 117, 118, 119, 120, 121, 122, 123, 124, 125, 126, 127, 128, 129, 130, 131, 132, 133, 134, 135, 136, 137, 138, 139, 166, 167, 175, 176, 177, 178, 179, 180, 181, 182, 183, 184, 185] (by decide +kernel) (by decide +kernel)
set_option maxRecDepth 20000 in
theorem gX5_alike_X1_trace : GoodIn wsX5_alike (wsV RX5 146 RX1 yX1_trace wsX1_trace) := goodIn_app (goodIn_of _ (by decide +kernel)) ggX5_alike_X1_trace
set_option maxRecDepth 20000 in
theorem ggX5_alike_X1_partnersCode : GoodIn wsX5_alike wsX1_partnersCode := goodIn_r _ [143, 92, 144, 128, 175, 176, 177, 178, 179, 180, 181, 182, 183, 184, 185] (by decide +kernel) (by decide +kernel)
set_option maxRecDepth 20000 in
theorem gX5_alike_X1_partnersCode : GoodIn wsX5_alike (wsV RX5 208 RX1 yX1_partnersCode wsX1_partnersCode) := goodIn_app (goodIn_of _ (by decide +kernel)) ggX5_alike_X1_partnersCode
set_option maxRecDepth 20000 in
theorem ggX5_alike_X0_wayOf : GoodIn wsX5_alike wsX0_wayOf := goodIn_r _ [154, 12, 149, 168, 169, 170, 171, 172, 173, 174] (by decide +kernel) (by decide +kernel)
set_option maxRecDepth 20000 in
theorem gX5_alike_X0_wayOf : GoodIn wsX5_alike (wsV RX5 212 RX0 yX0_wayOf wsX0_wayOf) := goodIn_app (goodIn_of _ (by decide +kernel)) ggX5_alike_X0_wayOf
set_option maxRecDepth 20000 in
theorem ggX5_alike_X5_isBetween : GoodIn wsX5_alike wsX5_isBetween := goodIn_r _ [115] (by decide +kernel) (by decide +kernel)
set_option maxRecDepth 20000 in
theorem gX5_alike_X5_isBetween : GoodIn wsX5_alike (va_wsS RX5 107 yX5_isBetween wsX5_isBetween) := goodIn_app (goodIn_of _ (by decide +kernel)) ggX5_alike_X5_isBetween
theorem dX5_alike_0 : decode cX5_alike 0 = .ok (.aload_n 0, 1) := by decide +kernel
theorem dX5_alike_1 : decode cX5_alike 1 = .ok (.getfield 19, 3) := by decide +kernel
theorem dX5_alike_4 : decode cX5_alike 4 = .ok (.getfield 84, 3) := by decide +kernel
theorem dX5_alike_7 : decode cX5_alike 7 = .ok (.iconst 5, 1) := by decide +kernel
theorem dX5_alike_8 : decode cX5_alike 8 = .ok (.if_icmp .le 6, 3) := by decide +kernel
theorem dX5_alike_11 : decode cX5_alike 11 = .ok (.bipush (-2), 2) := by decide +kernel
theorem dX5_alike_13 : decode cX5_alike 13 = .ok (.ireturn, 1) := by decide +kernel
theorem dX5_alike_14 : decode cX5_alike 14 = .ok (.aload_n 0, 1) := by decide +kernel
theorem dX5_alike_15 : decode cX5_alike 15 = .ok (.getfield 45, 3) := by decide +kernel
theorem dX5_alike_18 : decode cX5_alike 18 = .ok (.aload_n 0, 1) := by decide +kernel
theorem dX5_alike_19 : decode cX5_alike 19 = .ok (.getfield 19, 3) := by decide +kernel
theorem dX5_alike_22 : decode cX5_alike 22 = .ok (.getfield 84, 3) := by decide +kernel
theorem dX5_alike_25 : decode cX5_alike 25 = .ok (.iconst 1, 1) := by decide +kernel
theorem dX5_alike_26 : decode cX5_alike 26 = .ok (.isub, 1) := by decide +kernel
theorem dX5_alike_27 : decode cX5_alike 27 = .ok (.aaload, 1) := by decide +kernel
theorem dX5_alike_28 : decode cX5_alike 28 = .ok (.astore_n 1, 1) := by decide +kernel
theorem dX5_alike_29 : decode cX5_alike 29 = .ok (.aload_n 1, 1) := by decide +kernel
theorem dX5_alike_30 : decode cX5_alike 30 = .ok (.aload_n 0, 1) := by decide +kernel
theorem dX5_alike_31 : decode cX5_alike 31 = .ok (.getfield 39, 3) := by decide +kernel
theorem dX5_alike_34 : decode cX5_alike 34 = .ok (.aload_n 0, 1) := by decide +kernel
theorem dX5_alike_35 : decode cX5_alike 35 = .ok (.getfield 26, 3) := by decide +kernel
theorem dX5_alike_38 : decode cX5_alike 38 = .ok (.invokevirtual 204, 3) := by decide +kernel
theorem dX5_alike_41 : decode cX5_alike 41 = .ok (.aload_n 0, 1) := by decide +kernel
theorem dX5_alike_42 : decode cX5_alike 42 = .ok (.getfield 39, 3) := by decide +kernel
theorem dX5_alike_45 : decode cX5_alike 45 = .ok (.aload_n 0, 1) := by decide +kernel
theorem dX5_alike_46 : decode cX5_alike 46 = .ok (.getfield 19, 3) := by decide +kernel
theorem dX5_alike_49 : decode cX5_alike 49 = .ok (.invokevirtual 146, 3) := by decide +kernel
theorem dX5_alike_52 : decode cX5_alike 52 = .ok (.aload_n 1, 1) := by decide +kernel
theorem dX5_alike_53 : decode cX5_alike 53 = .ok (.aload_n 0, 1) := by decide +kernel
theorem dX5_alike_54 : decode cX5_alike 54 = .ok (.getfield 39, 3) := by decide +kernel
theorem dX5_alike_57 : decode cX5_alike 57 = .ok (.invokevirtual 208, 3) := by decide +kernel
theorem dX5_alike_60 : decode cX5_alike 60 = .ok (.invokevirtual 212, 3) := by decide +kernel
theorem dX5_alike_63 : decode cX5_alike 63 = .ok (.istore_n 2, 1) := by decide +kernel
theorem dX5_alike_64 : decode cX5_alike 64 = .ok (.iload_n 2, 1) := by decide +kernel
theorem dX5_alike_65 : decode cX5_alike 65 = .ok (.iconst 0, 1) := by decide +kernel
theorem dX5_alike_66 : decode cX5_alike 66 = .ok (.bipush 41, 2) := by decide +kernel
theorem dX5_alike_68 : decode cX5_alike 68 = .ok (.invokestatic 107, 3) := by decide +kernel
theorem dX5_alike_71 : decode cX5_alike 71 = .ok (.ifCond .eq 12, 3) := by decide +kernel
theorem dX5_alike_74 : decode cX5_alike 74 = .ok (.aload_n 1, 1) := by decide +kernel
theorem dX5_alike_75 : decode cX5_alike 75 = .ok (.getfield 216, 3) := by decide +kernel
theorem dX5_alike_78 : decode cX5_alike 78 = .ok (.iload_n 2, 1) := by decide +kernel
theorem dX5_alike_79 : decode cX5_alike 79 = .ok (.iaload, 1) := by decide +kernel
theorem dX5_alike_80 : decode cX5_alike 80 = .ok (.goto 4, 3) := by decide +kernel
theorem dX5_alike_83 : decode cX5_alike 83 = .ok (.iconst 0, 1) := by decide +kernel
theorem dX5_alike_84 : decode cX5_alike 84 = .ok (.ireturn, 1) := by decide +kernel
set_option maxRecDepth 20000 in
theorem ggX5_ways_X5_isBetween : GoodIn wsX5_ways wsX5_isBetween := goodIn_r _ [9] (by decide +kernel) (by decide +kernel)
set_option maxRecDepth 20000 in
theorem gX5_ways_X5_isBetween : GoodIn wsX5_ways (va_wsS RX5 107 yX5_isBetween wsX5_isBetween) := goodIn_app (goodIn_of _ (by decide +kernel)) ggX5_ways_X5_isBetween
set_option maxRecDepth 20000 in
theorem ggX5_ways_X0_sortByPartners : GoodIn wsX5_ways wsX0_sortByPartners := goodIn_r _ [14, 15, 16, 17, 18, 13, 19, 20, 21, 22, 23, 24, 25, 26, 27, 28, 29, 30, 31, 32, 33, 34, 35, 36, 37, 38, 39, 40, 41, 42, 43, 44, 45, 46, 47, 48, 49, 50, 51, 52, 53, 54, 55, 56, 57, 58, 59, 60, 61, 62, 63, 64, 65, 66, 67, 68, 69, 70, 71, 72, 73, 74, 75, 76, 77, 78, 79, 80, 81, 82, 83, 84, 85, 86, 87, 88, 89, 90, 91, 92, 93, 94, 95, 96, 97, 98, 99, 100, 101, 102, 103, 104, 105, 106, 107, 108, 109, 110, 111, 112, 113, 114, 115, 7, 8, 9, 116, 117, 118, 119, 120, 121, 122, 123, 124, 125, 126, 127, 128, 129, 130, 131, 132, 133, 134, 135, 136, 137, 138, 139, 140, 141, 142, 143, 144, 145, 146, 147, 148, 149, 150, 151, 152, 153, 154, 162, 163, 164, 165, 166, 167, 168, 169, 170, 171, 172, 173, 174, 175, 176, 177, 178, 179, 180, 181] (by decide +kernel) (by decide +kernel)
set_option maxRecDepth 20000 in
theorem gX5_ways_X0_sortByPartners : GoodIn wsX5_ways (wsV RX5 204 RX0 yX0_sortByPartners wsX0_sortByPartners) := goodIn_app (goodIn_of _ (by decide +kernel)) ggX5_ways_X0_sortByPartners
theorem dX5_ways_0 : decode cX5_ways 0 = .ok (.iload_n 1, 1) := by decide +kernel
theorem dX5_ways_1 : decode cX5_ways 1 = .ok (.iconst 1, 1) := by decide +kernel
theorem dX5_ways_2 : decode cX5_ways 2 = .ok (.iconst 5, 1) := by decide +kernel
theorem dX5_ways_3 : decode cX5_ways 3 = .ok (.invokestatic 107, 3) := by decide +kernel
theorem dX5_ways_6 : decode cX5_ways 6 = .ok (.ifCond .eq 8, 3) := by decide +kernel
theorem dX5_ways_9 : decode cX5_ways 9 = .ok (.iload_n 2, 1) := by decide +kernel
theorem dX5_ways_10 : decode cX5_ways 10 = .ok (.iconst (-1), 1) := by decide +kernel
theorem dX5_ways_11 : decode cX5_ways 11 = .ok (.if_icmp .ge 5, 3) := by decide +kernel
theorem dX5_ways_14 : decode cX5_ways 14 = .ok (.iconst (-1), 1) := by decide +kernel
theorem dX5_ways_15 : decode cX5_ways 15 = .ok (.ireturn, 1) := by decide +kernel
theorem dX5_ways_16 : decode cX5_ways 16 = .ok (.aload_n 0, 1) := by decide +kernel
theorem dX5_ways_17 : decode cX5_ways 17 = .ok (.getfield 45, 3) := by decide +kernel
theorem dX5_ways_20 : decode cX5_ways 20 = .ok (.iload_n 1, 1) := by decide +kernel
theorem dX5_ways_21 : decode cX5_ways 21 = .ok (.iconst 1, 1) := by decide +kernel
theorem dX5_ways_22 : decode cX5_ways 22 = .ok (.isub, 1) := by decide +kernel
theorem dX5_ways_23 : decode cX5_ways 23 = .ok (.aaload, 1) := by decide +kernel
theorem dX5_ways_24 : decode cX5_ways 24 = .ok (.astore_n 3, 1) := by decide +kernel
theorem dX5_ways_25 : decode cX5_ways 25 = .ok (.aload_n 3, 1) := by decide +kernel
theorem dX5_ways_26 : decode cX5_ways 26 = .ok (.aload_n 0, 1) := by decide +kernel
theorem dX5_ways_27 : decode cX5_ways 27 = .ok (.getfield 39, 3) := by decide +kernel
theorem dX5_ways_30 : decode cX5_ways 30 = .ok (.aload_n 0, 1) := by decide +kernel
theorem dX5_ways_31 : decode cX5_ways 31 = .ok (.getfield 26, 3) := by decide +kernel
theorem dX5_ways_34 : decode cX5_ways 34 = .ok (.invokevirtual 204, 3) := by decide +kernel
theorem dX5_ways_37 : decode cX5_ways 37 = .ok (.iload_n 2, 1) := by decide +kernel
theorem dX5_ways_38 : decode cX5_ways 38 = .ok (.iconst (-1), 1) := by decide +kernel
theorem dX5_ways_39 : decode cX5_ways 39 = .ok (.if_icmp .ne 8, 3) := by decide +kernel
theorem dX5_ways_42 : decode cX5_ways 42 = .ok (.aload_n 3, 1) := by decide +kernel
theorem dX5_ways_43 : decode cX5_ways 43 = .ok (.getfield 219, 3) := by decide +kernel
theorem dX5_ways_46 : decode cX5_ways 46 = .ok (.ireturn, 1) := by decide +kernel
theorem dX5_ways_47 : decode cX5_ways 47 = .ok (.iload_n 2, 1) := by decide +kernel
theorem dX5_ways_48 : decode cX5_ways 48 = .ok (.aload_n 3, 1) := by decide +kernel
theorem dX5_ways_49 : decode cX5_ways 49 = .ok (.getfield 219, 3) := by decide +kernel
theorem dX5_ways_52 : decode cX5_ways 52 = .ok (.if_icmp .ge 12, 3) := by decide +kernel
theorem dX5_ways_55 : decode cX5_ways 55 = .ok (.aload_n 3, 1) := by decide +kernel
theorem dX5_ways_56 : decode cX5_ways 56 = .ok (.getfield 216, 3) := by decide +kernel
theorem dX5_ways_59 : decode cX5_ways 59 = .ok (.iload_n 2, 1) := by decide +kernel
theorem dX5_ways_60 : decode cX5_ways 60 = .ok (.iaload, 1) := by decide +kernel
theorem dX5_ways_61 : decode cX5_ways 61 = .ok (.goto 5, 3) := by decide +kernel
theorem dX5_ways_64 : decode cX5_ways 64 = .ok (.bipush (-4), 2) := by decide +kernel
theorem dX5_ways_66 : decode cX5_ways 66 = .ok (.ireturn, 1) := by decide +kernel
theorem dX5_isBetween_0 : decode cX5_isBetween 0 = .ok (.iload_n 0, 1) := by decide +kernel
theorem dX5_isBetween_1 : decode cX5_isBetween 1 = .ok (.iload_n 1, 1) := by decide +kernel
theorem dX5_isBetween_2 : decode cX5_isBetween 2 = .ok (.if_icmp .lt 12, 3) := by decide +kernel
theorem dX5_isBetween_5 : decode cX5_isBetween 5 = .ok (.iload_n 0, 1) := by decide +kernel
theorem dX5_isBetween_6 : decode cX5_isBetween 6 = .ok (.iload_n 2, 1) := by decide +kernel
theorem dX5_isBetween_7 : decode cX5_isBetween 7 = .ok (.if_icmp .gt 7, 3) := by decide +kernel
theorem dX5_isBetween_10 : decode cX5_isBetween 10 = .ok (.iconst 1, 1) := by decide +kernel
theorem dX5_isBetween_11 : decode cX5_isBetween 11 = .ok (.goto 4, 3) := by decide +kernel
theorem dX5_isBetween_14 : decode cX5_isBetween 14 = .ok (.iconst 0, 1) := by decide +kernel
theorem dX5_isBetween_15 : decode cX5_isBetween 15 = .ok (.ireturn, 1) := by decide +kernel
set_option maxRecDepth 20000 in
theorem ggX5_isSize_X5_isBetween : GoodIn wsX5_isSize wsX5_isBetween := goodIn_r _ [4] (by decide +kernel) (by decide +kernel)
set_option maxRecDepth 20000 in
theorem gX5_isSize_X5_isBetween : GoodIn wsX5_isSize (va_wsS RX5 107 yX5_isBetween wsX5_isBetween) := goodIn_app (goodIn_of _ (by decide +kernel)) ggX5_isSize_X5_isBetween
theorem dX5_isSize_0 : decode cX5_isSize 0 = .ok (.iload_n 0, 1) := by decide +kernel
theorem dX5_isSize_1 : decode cX5_isSize 1 = .ok (.iconst 1, 1) := by decide +kernel
theorem dX5_isSize_2 : decode cX5_isSize 2 = .ok (.bipush 6, 2) := by decide +kernel
theorem dX5_isSize_4 : decode cX5_isSize 4 = .ok (.invokestatic 107, 3) := by decide +kernel
theorem dX5_isSize_7 : decode cX5_isSize 7 = .ok (.ireturn, 1) := by decide +kernel
set_option maxRecDepth 20000 in
theorem ggX5_isCorner_X5_isBetween : GoodIn wsX5_isCorner wsX5_isBetween := goodIn_r _ [6] (by decide +kernel) (by decide +kernel)
set_option maxRecDepth 20000 in
theorem gX5_isCorner_X5_isBetween : GoodIn wsX5_isCorner (va_wsS RX5 107 yX5_isBetween wsX5_isBetween) := goodIn_app (goodIn_of _ (by decide +kernel)) ggX5_isCorner_X5_isBetween
theorem dX5_isCorner_0 : decode cX5_isCorner 0 = .ok (.iload_n 1, 1) := by decide +kernel
theorem dX5_isCorner_1 : decode cX5_isCorner 1 = .ok (.iconst 0, 1) := by decide +kernel
theorem dX5_isCorner_2 : decode cX5_isCorner 2 = .ok (.aload_n 0, 1) := by decide +kernel
theorem dX5_isCorner_3 : decode cX5_isCorner 3 = .ok (.getfield 19, 3) := by decide +kernel
theorem dX5_isCorner_6 : decode cX5_isCorner 6 = .ok (.getfield 84, 3) := by decide +kernel
theorem dX5_isCorner_9 : decode cX5_isCorner 9 = .ok (.invokestatic 107, 3) := by decide +kernel
theorem dX5_isCorner_12 : decode cX5_isCorner 12 = .ok (.ifCond .eq 22, 3) := by decide +kernel
theorem dX5_isCorner_15 : decode cX5_isCorner 15 = .ok (.iload_n 2, 1) := by decide +kernel
theorem dX5_isCorner_16 : decode cX5_isCorner 16 = .ok (.iconst 0, 1) := by decide +kernel
theorem dX5_isCorner_17 : decode cX5_isCorner 17 = .ok (.aload_n 0, 1) := by decide +kernel
theorem dX5_isCorner_18 : decode cX5_isCorner 18 = .ok (.getfield 19, 3) := by decide +kernel
theorem dX5_isCorner_21 : decode cX5_isCorner 21 = .ok (.getfield 84, 3) := by decide +kernel
theorem dX5_isCorner_24 : decode cX5_isCorner 24 = .ok (.invokestatic 107, 3) := by decide +kernel
theorem dX5_isCorner_27 : decode cX5_isCorner 27 = .ok (.ifCond .eq 7, 3) := by decide +kernel
theorem dX5_isCorner_30 : decode cX5_isCorner 30 = .ok (.iconst 1, 1) := by decide +kernel
theorem dX5_isCorner_31 : decode cX5_isCorner 31 = .ok (.goto 4, 3) := by decide +kernel
theorem dX5_isCorner_34 : decode cX5_isCorner 34 = .ok (.iconst 0, 1) := by decide +kernel
theorem dX5_isCorner_35 : decode cX5_isCorner 35 = .ok (.ireturn, 1) := by decide +kernel
set_option maxRecDepth 20000 in
theorem ggX5_isInner_X5_isBetween : GoodIn wsX5_isInner wsX5_isBetween := goodIn_r _ [6] (by decide +kernel) (by decide +kernel)
set_option maxRecDepth 20000 in
theorem gX5_isInner_X5_isBetween : GoodIn wsX5_isInner (va_wsS RX5 107 yX5_isBetween wsX5_isBetween) := goodIn_app (goodIn_of _ (by decide +kernel)) ggX5_isInner_X5_isBetween
theorem dX5_isInner_0 : decode cX5_isInner 0 = .ok (.iload_n 1, 1) := by decide +kernel
theorem dX5_isInner_1 : decode cX5_isInner 1 = .ok (.iconst 1, 1) := by decide +kernel
theorem dX5_isInner_2 : decode cX5_isInner 2 = .ok (.aload_n 0, 1) := by decide +kernel
theorem dX5_isInner_3 : decode cX5_isInner 3 = .ok (.getfield 19, 3) := by decide +kernel
theorem dX5_isInner_6 : decode cX5_isInner 6 = .ok (.getfield 84, 3) := by decide +kernel
theorem dX5_isInner_9 : decode cX5_isInner 9 = .ok (.iconst 1, 1) := by decide +kernel
theorem dX5_isInner_10 : decode cX5_isInner 10 = .ok (.isub, 1) := by decide +kernel
theorem dX5_isInner_11 : decode cX5_isInner 11 = .ok (.invokestatic 107, 3) := by decide +kernel
theorem dX5_isInner_14 : decode cX5_isInner 14 = .ok (.ifCond .eq 24, 3) := by decide +kernel
theorem dX5_isInner_17 : decode cX5_isInner 17 = .ok (.iload_n 2, 1) := by decide +kernel
theorem dX5_isInner_18 : decode cX5_isInner 18 = .ok (.iconst 1, 1) := by decide +kernel
theorem dX5_isInner_19 : decode cX5_isInner 19 = .ok (.aload_n 0, 1) := by decide +kernel
theorem dX5_isInner_20 : decode cX5_isInner 20 = .ok (.getfield 19, 3) := by decide +kernel
theorem dX5_isInner_23 : decode cX5_isInner 23 = .ok (.getfield 84, 3) := by decide +kernel
theorem dX5_isInner_26 : decode cX5_isInner 26 = .ok (.iconst 1, 1) := by decide +kernel
theorem dX5_isInner_27 : decode cX5_isInner 27 = .ok (.isub, 1) := by decide +kernel
theorem dX5_isInner_28 : decode cX5_isInner 28 = .ok (.invokestatic 107, 3) := by decide +kernel
theorem dX5_isInner_31 : decode cX5_isInner 31 = .ok (.ifCond .eq 7, 3) := by decide +kernel
theorem dX5_isInner_34 : decode cX5_isInner 34 = .ok (.iconst 1, 1) := by decide +kernel
theorem dX5_isInner_35 : decode cX5_isInner 35 = .ok (.goto 4, 3) := by decide +kernel
theorem dX5_isInner_38 : decode cX5_isInner 38 = .ok (.iconst 0, 1) := by decide +kernel
theorem dX5_isInner_39 : decode cX5_isInner 39 = .ok (.ireturn, 1) := by decide +kernel
theorem dX5_hasLikeOther_0 : decode cX5_hasLikeOther 0 = .ok (.aload_n 0, 1) := by decide +kernel
theorem dX5_hasLikeOther_1 : decode cX5_hasLikeOther 1 = .ok (.getfield 23, 3) := by decide +kernel
theorem dX5_hasLikeOther_4 : decode cX5_hasLikeOther 4 = .ok (.getfield 84, 3) := by decide +kernel
theorem dX5_hasLikeOther_7 : decode cX5_hasLikeOther 7 = .ok (.aload_n 0, 1) := by decide +kernel
theorem dX5_hasLikeOther_8 : decode cX5_hasLikeOther 8 = .ok (.getfield 19, 3) := by decide +kernel
theorem dX5_hasLikeOther_11 : decode cX5_hasLikeOther 11 = .ok (.getfield 84, 3) := by decide +kernel
theorem dX5_hasLikeOther_14 : decode cX5_hasLikeOther 14 = .ok (.if_icmp .ne 7, 3) := by decide +kernel
theorem dX5_hasLikeOther_17 : decode cX5_hasLikeOther 17 = .ok (.iconst 1, 1) := by decide +kernel
theorem dX5_hasLikeOther_18 : decode cX5_hasLikeOther 18 = .ok (.goto 4, 3) := by decide +kernel
theorem dX5_hasLikeOther_21 : decode cX5_hasLikeOther 21 = .ok (.iconst 0, 1) := by decide +kernel
theorem dX5_hasLikeOther_22 : decode cX5_hasLikeOther 22 = .ok (.ireturn, 1) := by decide +kernel
