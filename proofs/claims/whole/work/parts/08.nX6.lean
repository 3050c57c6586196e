theorem dX6_init_0 : decode cX6_init 0 = .ok (.aload_n 0, 1) := by decide +kernel
theorem dX6_init_1 : decode cX6_init 1 = .ok (.invokespecial 1, 3) := by decide +kernel
theorem dX6_init_4 : decode cX6_init 4 = .ok (.aload_n 0, 1) := by decide +kernel
theorem dX6_init_5 : decode cX6_init 5 = .ok (.sipush 200, 3) := by decide +kernel
theorem dX6_init_8 : decode cX6_init 8 = .ok (.newarray .int, 2) := by decide +kernel
theorem dX6_init_10 : decode cX6_init 10 = .ok (.putfield 7, 3) := by decide +kernel
theorem dX6_init_13 : decode cX6_init 13 = .ok (.aload_n 0, 1) := by decide +kernel
theorem dX6_init_14 : decode cX6_init 14 = .ok (.bipush 36, 2) := by decide +kernel
theorem dX6_init_16 : decode cX6_init 16 = .ok (.newarray .int, 2) := by decide +kernel
theorem dX6_init_18 : decode cX6_init 18 = .ok (.putfield 13, 3) := by decide +kernel
theorem dX6_init_21 : decode cX6_init 21 = .ok (.aload_n 0, 1) := by decide +kernel
theorem dX6_init_22 : decode cX6_init 22 = .ok (.bipush 36, 2) := by decide +kernel
theorem dX6_init_24 : decode cX6_init 24 = .ok (.newarray .int, 2) := by decide +kernel
theorem dX6_init_26 : decode cX6_init 26 = .ok (.putfield 16, 3) := by decide +kernel
theorem dX6_init_29 : decode cX6_init 29 = .ok (.aload_n 0, 1) := by decide +kernel
theorem dX6_init_30 : decode cX6_init 30 = .ok (.sipush 222, 3) := by decide +kernel
theorem dX6_init_33 : decode cX6_init 33 = .ok (.newarray .int, 2) := by decide +kernel
theorem dX6_init_35 : decode cX6_init 35 = .ok (.putfield 19, 3) := by decide +kernel
theorem dX6_init_38 : decode cX6_init 38 = .ok (.aload_n 0, 1) := by decide +kernel
theorem dX6_init_39 : decode cX6_init 39 = .ok (.bipush 36, 2) := by decide +kernel
theorem dX6_init_41 : decode cX6_init 41 = .ok (.newarray .int, 2) := by decide +kernel
theorem dX6_init_43 : decode cX6_init 43 = .ok (.putfield 22, 3) := by decide +kernel
theorem dX6_init_46 : decode cX6_init 46 = .ok (.aload_n 0, 1) := by decide +kernel
theorem dX6_init_47 : decode cX6_init 47 = .ok (.bipush 36, 2) := by decide +kernel
theorem dX6_init_49 : decode cX6_init 49 = .ok (.newarray .int, 2) := by decide +kernel
theorem dX6_init_51 : decode cX6_init 51 = .ok (.putfield 25, 3) := by decide +kernel
theorem dX6_init_54 : decode cX6_init 54 = .ok (.aload_n 0, 1) := by decide +kernel
theorem dX6_init_55 : decode cX6_init 55 = .ok (.bipush 49, 2) := by decide +kernel
theorem dX6_init_57 : decode cX6_init 57 = .ok (.newarray .int, 2) := by decide +kernel
theorem dX6_init_59 : decode cX6_init 59 = .ok (.putfield 28, 3) := by decide +kernel
theorem dX6_init_62 : decode cX6_init 62 = .ok (.aload_n 0, 1) := by decide +kernel
theorem dX6_init_63 : decode cX6_init 63 = .ok (.bipush 12, 2) := by decide +kernel
theorem dX6_init_65 : decode cX6_init 65 = .ok (.newarray .int, 2) := by decide +kernel
theorem dX6_init_67 : decode cX6_init 67 = .ok (.putfield 31, 3) := by decide +kernel
theorem dX6_init_70 : decode cX6_init 70 = .ok (.aload_n 0, 1) := by decide +kernel
theorem dX6_init_71 : decode cX6_init 71 = .ok (.bipush 12, 2) := by decide +kernel
theorem dX6_init_73 : decode cX6_init 73 = .ok (.newarray .int, 2) := by decide +kernel
theorem dX6_init_75 : decode cX6_init 75 = .ok (.putfield 34, 3) := by decide +kernel
theorem dX6_init_78 : decode cX6_init 78 = .ok (.aload_n 0, 1) := by decide +kernel
theorem dX6_init_79 : decode cX6_init 79 = .ok (.bipush 12, 2) := by decide +kernel
theorem dX6_init_81 : decode cX6_init 81 = .ok (.newarray .int, 2) := by decide +kernel
theorem dX6_init_83 : decode cX6_init 83 = .ok (.putfield 37, 3) := by decide +kernel
theorem dX6_init_86 : decode cX6_init 86 = .ok (.aload_n 0, 1) := by decide +kernel
theorem dX6_init_87 : decode cX6_init 87 = .ok (.bipush 36, 2) := by decide +kernel
theorem dX6_init_89 : decode cX6_init 89 = .ok (.newarray .boolean, 2) := by decide +kernel
theorem dX6_init_91 : decode cX6_init 91 = .ok (.putfield 40, 3) := by decide +kernel
theorem dX6_init_94 : decode cX6_init 94 = .ok (.aload_n 0, 1) := by decide +kernel
theorem dX6_init_95 : decode cX6_init 95 = .ok (.sipush 448, 3) := by decide +kernel
theorem dX6_init_98 : decode cX6_init 98 = .ok (.newarray .int, 2) := by decide +kernel
theorem dX6_init_100 : decode cX6_init 100 = .ok (.putfield 44, 3) := by decide +kernel
theorem dX6_init_103 : decode cX6_init 103 = .ok (.aload_n 0, 1) := by decide +kernel
theorem dX6_init_104 : decode cX6_init 104 = .ok (.sipush 429, 3) := by decide +kernel
theorem dX6_init_107 : decode cX6_init 107 = .ok (.newarray .long, 2) := by decide +kernel
theorem dX6_init_109 : decode cX6_init 109 = .ok (.putfield 47, 3) := by decide +kernel
theorem dX6_init_112 : decode cX6_init 112 = .ok (.aload_n 0, 1) := by decide +kernel
theorem dX6_init_113 : decode cX6_init 113 = .ok (.sipush 429, 3) := by decide +kernel
theorem dX6_init_116 : decode cX6_init 116 = .ok (.newarray .int, 2) := by decide +kernel
theorem dX6_init_118 : decode cX6_init 118 = .ok (.putfield 51, 3) := by decide +kernel
theorem dX6_init_121 : decode cX6_init 121 = .ok (.aload_n 0, 1) := by decide +kernel
theorem dX6_init_122 : decode cX6_init 122 = .ok (.iconst 3, 1) := by decide +kernel
theorem dX6_init_123 : decode cX6_init 123 = .ok (.putfield 54, 3) := by decide +kernel
theorem dX6_init_126 : decode cX6_init 126 = .ok (.aload_n 0, 1) := by decide +kernel
theorem dX6_init_127 : decode cX6_init 127 = .ok (.getfield 13, 3) := by decide +kernel
theorem dX6_init_130 : decode cX6_init 130 = .ok (.iconst 1, 1) := by decide +kernel
theorem dX6_init_131 : decode cX6_init 131 = .ok (.iconst 1, 1) := by decide +kernel
theorem dX6_init_132 : decode cX6_init 132 = .ok (.iastore, 1) := by decide +kernel
theorem dX6_init_133 : decode cX6_init 133 = .ok (.aload_n 0, 1) := by decide +kernel
theorem dX6_init_134 : decode cX6_init 134 = .ok (.getfield 13, 3) := by decide +kernel
theorem dX6_init_137 : decode cX6_init 137 = .ok (.bipush 6, 2) := by decide +kernel
theorem dX6_init_139 : decode cX6_init 139 = .ok (.iconst 1, 1) := by decide +kernel
theorem dX6_init_140 : decode cX6_init 140 = .ok (.iastore, 1) := by decide +kernel
theorem dX6_init_141 : decode cX6_init 141 = .ok (.aload_n 0, 1) := by decide +kernel
theorem dX6_init_142 : decode cX6_init 142 = .ok (.getfield 13, 3) := by decide +kernel
theorem dX6_init_145 : decode cX6_init 145 = .ok (.bipush 7, 2) := by decide +kernel
theorem dX6_init_147 : decode cX6_init 147 = .ok (.iconst (-1), 1) := by decide +kernel
theorem dX6_init_148 : decode cX6_init 148 = .ok (.iastore, 1) := by decide +kernel
theorem dX6_init_149 : decode cX6_init 149 = .ok (.aload_n 0, 1) := by decide +kernel
theorem dX6_init_150 : decode cX6_init 150 = .ok (.getfield 13, 3) := by decide +kernel
theorem dX6_init_153 : decode cX6_init 153 = .ok (.bipush 8, 2) := by decide +kernel
theorem dX6_init_155 : decode cX6_init 155 = .ok (.iconst 1, 1) := by decide +kernel
theorem dX6_init_156 : decode cX6_init 156 = .ok (.iastore, 1) := by decide +kernel
theorem dX6_init_157 : decode cX6_init 157 = .ok (.aload_n 0, 1) := by decide +kernel
theorem dX6_init_158 : decode cX6_init 158 = .ok (.getfield 13, 3) := by decide +kernel
theorem dX6_init_161 : decode cX6_init 161 = .ok (.bipush 13, 2) := by decide +kernel
theorem dX6_init_163 : decode cX6_init 163 = .ok (.iconst 1, 1) := by decide +kernel
theorem dX6_init_164 : decode cX6_init 164 = .ok (.iastore, 1) := by decide +kernel
theorem dX6_init_165 : decode cX6_init 165 = .ok (.return_, 1) := by decide +kernel
theorem dX6_in_0 : decode cX6_in 0 = .ok (.lload_n 0, 1) := by decide +kernel
theorem dX6_in_1 : decode cX6_in 1 = .ok (.lload_n 2, 1) := by decide +kernel
theorem dX6_in_2 : decode cX6_in 2 = .ok (.lcmp, 1) := by decide +kernel
theorem dX6_in_3 : decode cX6_in 3 = .ok (.ifCond .lt 14, 3) := by decide +kernel
theorem dX6_in_6 : decode cX6_in 6 = .ok (.lload_n 0, 1) := by decide +kernel
theorem dX6_in_7 : decode cX6_in 7 = .ok (.lload 4, 2) := by decide +kernel
theorem dX6_in_9 : decode cX6_in 9 = .ok (.lcmp, 1) := by decide +kernel
theorem dX6_in_10 : decode cX6_in 10 = .ok (.ifCond .gt 7, 3) := by decide +kernel
theorem dX6_in_13 : decode cX6_in 13 = .ok (.iconst 1, 1) := by decide +kernel
theorem dX6_in_14 : decode cX6_in 14 = .ok (.goto 4, 3) := by decide +kernel
theorem dX6_in_17 : decode cX6_in 17 = .ok (.iconst 0, 1) := by decide +kernel
theorem dX6_in_18 : decode cX6_in 18 = .ok (.ireturn, 1) := by decide +kernel
set_option maxRecDepth 20000 in
theorem ggX6_write_X6_in : GoodIn wsX6_write wsX6_in := goodIn_r _ [8] (by decide +kernel) (by decide +kernel)
set_option maxRecDepth 20000 in
theorem gX6_write_X6_in : GoodIn wsX6_write (va_wsS RX6 62 yX6_in wsX6_in) := goodIn_app (goodIn_of _ (by decide +kernel)) ggX6_write_X6_in
theorem dX6_write_0 : decode cX6_write 0 = .ok (.iload_n 1, 1) := by decide +kernel
theorem dX6_write_1 : decode cX6_write 1 = .ok (.i2l, 1) := by decide +kernel
theorem dX6_write_2 : decode cX6_write 2 = .ok (.ldc2_w 58, 3) := by decide +kernel
theorem dX6_write_5 : decode cX6_write 5 = .ok (.ldc2_w 60, 3) := by decide +kernel
theorem dX6_write_8 : decode cX6_write 8 = .ok (.invokestatic 62, 3) := by decide +kernel
theorem dX6_write_11 : decode cX6_write 11 = .ok (.ifCond .ne 5, 3) := by decide +kernel
theorem dX6_write_14 : decode cX6_write 14 = .ok (.iconst (-1), 1) := by decide +kernel
theorem dX6_write_15 : decode cX6_write 15 = .ok (.ireturn, 1) := by decide +kernel
theorem dX6_write_16 : decode cX6_write 16 = .ok (.aload_n 0, 1) := by decide +kernel
theorem dX6_write_17 : decode cX6_write 17 = .ok (.getfield 66, 3) := by decide +kernel
theorem dX6_write_20 : decode cX6_write 20 = .ok (.sipush 200, 3) := by decide +kernel
theorem dX6_write_23 : decode cX6_write 23 = .ok (.if_icmp .ne 6, 3) := by decide +kernel
theorem dX6_write_26 : decode cX6_write 26 = .ok (.bipush (-3), 2) := by decide +kernel
theorem dX6_write_28 : decode cX6_write 28 = .ok (.ireturn, 1) := by decide +kernel
theorem dX6_write_29 : decode cX6_write 29 = .ok (.aload_n 0, 1) := by decide +kernel
theorem dX6_write_30 : decode cX6_write 30 = .ok (.getfield 7, 3) := by decide +kernel
theorem dX6_write_33 : decode cX6_write 33 = .ok (.aload_n 0, 1) := by decide +kernel
theorem dX6_write_34 : decode cX6_write 34 = .ok (.getfield 66, 3) := by decide +kernel
theorem dX6_write_37 : decode cX6_write 37 = .ok (.iload_n 1, 1) := by decide +kernel
theorem dX6_write_38 : decode cX6_write 38 = .ok (.iastore, 1) := by decide +kernel
theorem dX6_write_39 : decode cX6_write 39 = .ok (.aload_n 0, 1) := by decide +kernel
theorem dX6_write_40 : decode cX6_write 40 = .ok (.dup, 1) := by decide +kernel
theorem dX6_write_41 : decode cX6_write 41 = .ok (.getfield 66, 3) := by decide +kernel
theorem dX6_write_44 : decode cX6_write 44 = .ok (.iconst 1, 1) := by decide +kernel
theorem dX6_write_45 : decode cX6_write 45 = .ok (.iadd, 1) := by decide +kernel
theorem dX6_write_46 : decode cX6_write 46 = .ok (.putfield 66, 3) := by decide +kernel
theorem dX6_write_49 : decode cX6_write 49 = .ok (.aload_n 0, 1) := by decide +kernel
theorem dX6_write_50 : decode cX6_write 50 = .ok (.getfield 66, 3) := by decide +kernel
theorem dX6_write_53 : decode cX6_write 53 = .ok (.ireturn, 1) := by decide +kernel
theorem dX6_wipe_0 : decode cX6_wipe 0 = .ok (.aload_n 0, 1) := by decide +kernel
theorem dX6_wipe_1 : decode cX6_wipe 1 = .ok (.getfield 66, 3) := by decide +kernel
theorem dX6_wipe_4 : decode cX6_wipe 4 = .ok (.istore_n 1, 1) := by decide +kernel
theorem dX6_wipe_5 : decode cX6_wipe 5 = .ok (.aload_n 0, 1) := by decide +kernel
theorem dX6_wipe_6 : decode cX6_wipe 6 = .ok (.iconst 0, 1) := by decide +kernel
theorem dX6_wipe_7 : decode cX6_wipe 7 = .ok (.putfield 66, 3) := by decide +kernel
theorem dX6_wipe_10 : decode cX6_wipe 10 = .ok (.iload_n 1, 1) := by decide +kernel
theorem dX6_wipe_11 : decode cX6_wipe 11 = .ok (.ireturn, 1) := by decide +kernel
set_option maxRecDepth 20000 in
theorem ggX6_fault_X6_in : GoodIn wsX6_fault wsX6_in := goodIn_r _ [8] (by decide +kernel) (by decide +kernel)
set_option maxRecDepth 20000 in
theorem gX6_fault_X6_in : GoodIn wsX6_fault (va_wsS RX6 62 yX6_in wsX6_in) := goodIn_app (goodIn_of _ (by decide +kernel)) ggX6_fault_X6_in
theorem dX6_fault_0 : decode cX6_fault 0 = .ok (.aload_n 0, 1) := by decide +kernel
theorem dX6_fault_1 : decode cX6_fault 1 = .ok (.iconst 0, 1) := by decide +kernel
theorem dX6_fault_2 : decode cX6_fault 2 = .ok (.putfield 69, 3) := by decide +kernel
theorem dX6_fault_5 : decode cX6_fault 5 = .ok (.iconst 0, 1) := by decide +kernel
theorem dX6_fault_6 : decode cX6_fault 6 = .ok (.istore_n 1, 1) := by decide +kernel
theorem dX6_fault_7 : decode cX6_fault 7 = .ok (.iconst 0, 1) := by decide +kernel
theorem dX6_fault_8 : decode cX6_fault 8 = .ok (.istore_n 2, 1) := by decide +kernel
theorem dX6_fault_9 : decode cX6_fault 9 = .ok (.iconst 0, 1) := by decide +kernel
theorem dX6_fault_10 : decode cX6_fault 10 = .ok (.istore_n 3, 1) := by decide +kernel
theorem dX6_fault_11 : decode cX6_fault 11 = .ok (.iconst 0, 1) := by decide +kernel
theorem dX6_fault_12 : decode cX6_fault 12 = .ok (.istore 4, 2) := by decide +kernel
theorem dX6_fault_14 : decode cX6_fault 14 = .ok (.iconst 0, 1) := by decide +kernel
theorem dX6_fault_15 : decode cX6_fault 15 = .ok (.istore 5, 2) := by decide +kernel
theorem dX6_fault_17 : decode cX6_fault 17 = .ok (.iload 5, 2) := by decide +kernel
theorem dX6_fault_19 : decode cX6_fault 19 = .ok (.aload_n 0, 1) := by decide +kernel
theorem dX6_fault_20 : decode cX6_fault 20 = .ok (.getfield 66, 3) := by decide +kernel
theorem dX6_fault_23 : decode cX6_fault 23 = .ok (.if_icmp .ge 256, 3) := by decide +kernel
theorem dX6_fault_26 : decode cX6_fault 26 = .ok (.aload_n 0, 1) := by decide +kernel
theorem dX6_fault_27 : decode cX6_fault 27 = .ok (.getfield 7, 3) := by decide +kernel
theorem dX6_fault_30 : decode cX6_fault 30 = .ok (.iload 5, 2) := by decide +kernel
theorem dX6_fault_32 : decode cX6_fault 32 = .ok (.iaload, 1) := by decide +kernel
theorem dX6_fault_33 : decode cX6_fault 33 = .ok (.istore 6, 2) := by decide +kernel
theorem dX6_fault_35 : decode cX6_fault 35 = .ok (.iload 6, 2) := by decide +kernel
theorem dX6_fault_37 : decode cX6_fault 37 = .ok (.bipush 59, 2) := by decide +kernel
theorem dX6_fault_39 : decode cX6_fault 39 = .ok (.if_icmp .ne 7, 3) := by decide +kernel
theorem dX6_fault_42 : decode cX6_fault 42 = .ok (.iconst 1, 1) := by decide +kernel
theorem dX6_fault_43 : decode cX6_fault 43 = .ok (.goto 4, 3) := by decide +kernel
theorem dX6_fault_46 : decode cX6_fault 46 = .ok (.iconst 0, 1) := by decide +kernel
theorem dX6_fault_47 : decode cX6_fault 47 = .ok (.istore 7, 2) := by decide +kernel
theorem dX6_fault_49 : decode cX6_fault 49 = .ok (.iload 7, 2) := by decide +kernel
theorem dX6_fault_51 : decode cX6_fault 51 = .ok (.ifCond .ne 24, 3) := by decide +kernel
theorem dX6_fault_54 : decode cX6_fault 54 = .ok (.iload 6, 2) := by decide +kernel
theorem dX6_fault_56 : decode cX6_fault 56 = .ok (.bipush 43, 2) := by decide +kernel
theorem dX6_fault_58 : decode cX6_fault 58 = .ok (.if_icmp .eq 17, 3) := by decide +kernel
theorem dX6_fault_61 : decode cX6_fault 61 = .ok (.iload 6, 2) := by decide +kernel
theorem dX6_fault_63 : decode cX6_fault 63 = .ok (.bipush 45, 2) := by decide +kernel
theorem dX6_fault_65 : decode cX6_fault 65 = .ok (.if_icmp .eq 10, 3) := by decide +kernel
theorem dX6_fault_68 : decode cX6_fault 68 = .ok (.iload 6, 2) := by decide +kernel
theorem dX6_fault_70 : decode cX6_fault 70 = .ok (.bipush 48, 2) := by decide +kernel
theorem dX6_fault_72 : decode cX6_fault 72 = .ok (.if_icmp .ne 18, 3) := by decide +kernel
theorem dX6_fault_75 : decode cX6_fault 75 = .ok (.aload_n 0, 1) := by decide +kernel
theorem dX6_fault_76 : decode cX6_fault 76 = .ok (.getfield 69, 3) := by decide +kernel
theorem dX6_fault_79 : decode cX6_fault 79 = .ok (.ifCond .le 14, 3) := by decide +kernel
theorem dX6_fault_82 : decode cX6_fault 82 = .ok (.iload_n 1, 1) := by decide +kernel
theorem dX6_fault_83 : decode cX6_fault 83 = .ok (.aload_n 0, 1) := by decide +kernel
theorem dX6_fault_84 : decode cX6_fault 84 = .ok (.getfield 69, 3) := by decide +kernel
theorem dX6_fault_87 : decode cX6_fault 87 = .ok (.if_icmp .ne 6, 3) := by decide +kernel
theorem dX6_fault_90 : decode cX6_fault 90 = .ok (.iload 5, 2) := by decide +kernel
theorem dX6_fault_92 : decode cX6_fault 92 = .ok (.ireturn, 1) := by decide +kernel
theorem dX6_fault_93 : decode cX6_fault 93 = .ok (.aload_n 0, 1) := by decide +kernel
theorem dX6_fault_94 : decode cX6_fault 94 = .ok (.getfield 69, 3) := by decide +kernel
theorem dX6_fault_97 : decode cX6_fault 97 = .ok (.ifCond .le 10, 3) := by decide +kernel
theorem dX6_fault_100 : decode cX6_fault 100 = .ok (.aload_n 0, 1) := by decide +kernel
theorem dX6_fault_101 : decode cX6_fault 101 = .ok (.getfield 69, 3) := by decide +kernel
theorem dX6_fault_104 : decode cX6_fault 104 = .ok (.goto 5, 3) := by decide +kernel
theorem dX6_fault_107 : decode cX6_fault 107 = .ok (.bipush 6, 2) := by decide +kernel
theorem dX6_fault_109 : decode cX6_fault 109 = .ok (.istore 8, 2) := by decide +kernel
theorem dX6_fault_111 : decode cX6_fault 111 = .ok (.iload 7, 2) := by decide +kernel
theorem dX6_fault_113 : decode cX6_fault 113 = .ok (.ifCond .eq 45, 3) := by decide +kernel
theorem dX6_fault_116 : decode cX6_fault 116 = .ok (.iload_n 2, 1) := by decide +kernel
theorem dX6_fault_117 : decode cX6_fault 117 = .ok (.ifCond .eq 23, 3) := by decide +kernel
theorem dX6_fault_120 : decode cX6_fault 120 = .ok (.aload_n 0, 1) := by decide +kernel
theorem dX6_fault_121 : decode cX6_fault 121 = .ok (.getfield 69, 3) := by decide +kernel
theorem dX6_fault_124 : decode cX6_fault 124 = .ok (.ifCond .le 11, 3) := by decide +kernel
theorem dX6_fault_127 : decode cX6_fault 127 = .ok (.iload_n 2, 1) := by decide +kernel
theorem dX6_fault_128 : decode cX6_fault 128 = .ok (.aload_n 0, 1) := by decide +kernel
theorem dX6_fault_129 : decode cX6_fault 129 = .ok (.getfield 69, 3) := by decide +kernel
theorem dX6_fault_132 : decode cX6_fault 132 = .ok (.if_icmp .lt 8, 3) := by decide +kernel
theorem dX6_fault_135 : decode cX6_fault 135 = .ok (.iload_n 3, 1) := by decide +kernel
theorem dX6_fault_136 : decode cX6_fault 136 = .ok (.iconst 1, 1) := by decide +kernel
theorem dX6_fault_137 : decode cX6_fault 137 = .ok (.if_icmp .eq 6, 3) := by decide +kernel
theorem dX6_fault_140 : decode cX6_fault 140 = .ok (.iload 5, 2) := by decide +kernel
theorem dX6_fault_142 : decode cX6_fault 142 = .ok (.ireturn, 1) := by decide +kernel
theorem dX6_fault_143 : decode cX6_fault 143 = .ok (.aload_n 0, 1) := by decide +kernel
theorem dX6_fault_144 : decode cX6_fault 144 = .ok (.iload_n 2, 1) := by decide +kernel
theorem dX6_fault_145 : decode cX6_fault 145 = .ok (.putfield 69, 3) := by decide +kernel
theorem dX6_fault_148 : decode cX6_fault 148 = .ok (.iinc 1 1, 3) := by decide +kernel
theorem dX6_fault_151 : decode cX6_fault 151 = .ok (.iconst 0, 1) := by decide +kernel
theorem dX6_fault_152 : decode cX6_fault 152 = .ok (.istore_n 2, 1) := by decide +kernel
theorem dX6_fault_153 : decode cX6_fault 153 = .ok (.iconst 0, 1) := by decide +kernel
theorem dX6_fault_154 : decode cX6_fault 154 = .ok (.istore_n 3, 1) := by decide +kernel
theorem dX6_fault_155 : decode cX6_fault 155 = .ok (.goto 118, 3) := by decide +kernel
theorem dX6_fault_158 : decode cX6_fault 158 = .ok (.iload 6, 2) := by decide +kernel
theorem dX6_fault_160 : decode cX6_fault 160 = .ok (.bipush 43, 2) := by decide +kernel
theorem dX6_fault_162 : decode cX6_fault 162 = .ok (.if_icmp .ne 7, 3) := by decide +kernel
theorem dX6_fault_165 : decode cX6_fault 165 = .ok (.iconst 1, 1) := by decide +kernel
theorem dX6_fault_166 : decode cX6_fault 166 = .ok (.goto 15, 3) := by decide +kernel
theorem dX6_fault_169 : decode cX6_fault 169 = .ok (.iload 6, 2) := by decide +kernel
theorem dX6_fault_171 : decode cX6_fault 171 = .ok (.bipush 45, 2) := by decide +kernel
theorem dX6_fault_173 : decode cX6_fault 173 = .ok (.if_icmp .ne 7, 3) := by decide +kernel
theorem dX6_fault_176 : decode cX6_fault 176 = .ok (.iconst (-1), 1) := by decide +kernel
theorem dX6_fault_177 : decode cX6_fault 177 = .ok (.goto 4, 3) := by decide +kernel
theorem dX6_fault_180 : decode cX6_fault 180 = .ok (.iconst 0, 1) := by decide +kernel
theorem dX6_fault_181 : decode cX6_fault 181 = .ok (.istore 9, 2) := by decide +kernel
theorem dX6_fault_183 : decode cX6_fault 183 = .ok (.iload 4, 2) := by decide +kernel
theorem dX6_fault_185 : decode cX6_fault 185 = .ok (.iload_n 2, 1) := by decide +kernel
theorem dX6_fault_186 : decode cX6_fault 186 = .ok (.ishr, 1) := by decide +kernel
theorem dX6_fault_187 : decode cX6_fault 187 = .ok (.iconst 1, 1) := by decide +kernel
theorem dX6_fault_188 : decode cX6_fault 188 = .ok (.iand, 1) := by decide +kernel
theorem dX6_fault_189 : decode cX6_fault 189 = .ok (.iload 9, 2) := by decide +kernel
theorem dX6_fault_191 : decode cX6_fault 191 = .ok (.iadd, 1) := by decide +kernel
theorem dX6_fault_192 : decode cX6_fault 192 = .ok (.istore 10, 2) := by decide +kernel
theorem dX6_fault_194 : decode cX6_fault 194 = .ok (.iload_n 2, 1) := by decide +kernel
theorem dX6_fault_195 : decode cX6_fault 195 = .ok (.iload 8, 2) := by decide +kernel
theorem dX6_fault_197 : decode cX6_fault 197 = .ok (.if_icmp .eq 27, 3) := by decide +kernel
theorem dX6_fault_200 : decode cX6_fault 200 = .ok (.iload_n 3, 1) := by decide +kernel
theorem dX6_fault_201 : decode cX6_fault 201 = .ok (.iload 9, 2) := by decide +kernel
theorem dX6_fault_203 : decode cX6_fault 203 = .ok (.iadd, 1) := by decide +kernel
theorem dX6_fault_204 : decode cX6_fault 204 = .ok (.i2l, 1) := by decide +kernel
theorem dX6_fault_205 : decode cX6_fault 205 = .ok (.lconst 0, 1) := by decide +kernel
theorem dX6_fault_206 : decode cX6_fault 206 = .ok (.lconst 1, 1) := by decide +kernel
theorem dX6_fault_207 : decode cX6_fault 207 = .ok (.invokestatic 62, 3) := by decide +kernel
theorem dX6_fault_210 : decode cX6_fault 210 = .ok (.ifCond .eq 14, 3) := by decide +kernel
theorem dX6_fault_213 : decode cX6_fault 213 = .ok (.iload 10, 2) := by decide +kernel
theorem dX6_fault_215 : decode cX6_fault 215 = .ok (.i2l, 1) := by decide +kernel
theorem dX6_fault_216 : decode cX6_fault 216 = .ok (.lconst 0, 1) := by decide +kernel
theorem dX6_fault_217 : decode cX6_fault 217 = .ok (.lconst 1, 1) := by decide +kernel
theorem dX6_fault_218 : decode cX6_fault 218 = .ok (.invokestatic 62, 3) := by decide +kernel
theorem dX6_fault_221 : decode cX6_fault 221 = .ok (.ifCond .ne 6, 3) := by decide +kernel
theorem dX6_fault_224 : decode cX6_fault 224 = .ok (.iload 5, 2) := by decide +kernel
theorem dX6_fault_226 : decode cX6_fault 226 = .ok (.ireturn, 1) := by decide +kernel
theorem dX6_fault_227 : decode cX6_fault 227 = .ok (.iload_n 3, 1) := by decide +kernel
theorem dX6_fault_228 : decode cX6_fault 228 = .ok (.iload 9, 2) := by decide +kernel
theorem dX6_fault_230 : decode cX6_fault 230 = .ok (.iadd, 1) := by decide +kernel
theorem dX6_fault_231 : decode cX6_fault 231 = .ok (.istore_n 3, 1) := by decide +kernel
theorem dX6_fault_232 : decode cX6_fault 232 = .ok (.iload 10, 2) := by decide +kernel
theorem dX6_fault_234 : decode cX6_fault 234 = .ok (.iconst 1, 1) := by decide +kernel
theorem dX6_fault_235 : decode cX6_fault 235 = .ok (.if_icmp .ne 12, 3) := by decide +kernel
theorem dX6_fault_238 : decode cX6_fault 238 = .ok (.iload 4, 2) := by decide +kernel
theorem dX6_fault_240 : decode cX6_fault 240 = .ok (.iconst 1, 1) := by decide +kernel
theorem dX6_fault_241 : decode cX6_fault 241 = .ok (.iload_n 2, 1) := by decide +kernel
theorem dX6_fault_242 : decode cX6_fault 242 = .ok (.ishl, 1) := by decide +kernel
theorem dX6_fault_243 : decode cX6_fault 243 = .ok (.ior, 1) := by decide +kernel
theorem dX6_fault_244 : decode cX6_fault 244 = .ok (.goto 11, 3) := by decide +kernel
theorem dX6_fault_247 : decode cX6_fault 247 = .ok (.iload 4, 2) := by decide +kernel
theorem dX6_fault_249 : decode cX6_fault 249 = .ok (.iconst 1, 1) := by decide +kernel
theorem dX6_fault_250 : decode cX6_fault 250 = .ok (.iload_n 2, 1) := by decide +kernel
theorem dX6_fault_251 : decode cX6_fault 251 = .ok (.ishl, 1) := by decide +kernel
theorem dX6_fault_252 : decode cX6_fault 252 = .ok (.iconst (-1), 1) := by decide +kernel
theorem dX6_fault_253 : decode cX6_fault 253 = .ok (.ixor, 1) := by decide +kernel
theorem dX6_fault_254 : decode cX6_fault 254 = .ok (.iand, 1) := by decide +kernel
theorem dX6_fault_255 : decode cX6_fault 255 = .ok (.istore 4, 2) := by decide +kernel
theorem dX6_fault_257 : decode cX6_fault 257 = .ok (.aload_n 0, 1) := by decide +kernel
theorem dX6_fault_258 : decode cX6_fault 258 = .ok (.getfield 22, 3) := by decide +kernel
theorem dX6_fault_261 : decode cX6_fault 261 = .ok (.bipush 6, 2) := by decide +kernel
theorem dX6_fault_263 : decode cX6_fault 263 = .ok (.iload_n 1, 1) := by decide +kernel
theorem dX6_fault_264 : decode cX6_fault 264 = .ok (.imul, 1) := by decide +kernel
theorem dX6_fault_265 : decode cX6_fault 265 = .ok (.iload_n 2, 1) := by decide +kernel
theorem dX6_fault_266 : decode cX6_fault 266 = .ok (.iadd, 1) := by decide +kernel
theorem dX6_fault_267 : decode cX6_fault 267 = .ok (.iload 9, 2) := by decide +kernel
theorem dX6_fault_269 : decode cX6_fault 269 = .ok (.iastore, 1) := by decide +kernel
theorem dX6_fault_270 : decode cX6_fault 270 = .ok (.iinc 2 1, 3) := by decide +kernel
theorem dX6_fault_273 : decode cX6_fault 273 = .ok (.iinc 5 1, 3) := by decide +kernel
theorem dX6_fault_276 : decode cX6_fault 276 = .ok (.goto (-259), 3) := by decide +kernel
theorem dX6_fault_279 : decode cX6_fault 279 = .ok (.aload_n 0, 1) := by decide +kernel
theorem dX6_fault_280 : decode cX6_fault 280 = .ok (.getfield 69, 3) := by decide +kernel
theorem dX6_fault_283 : decode cX6_fault 283 = .ok (.ifCond .le 16, 3) := by decide +kernel
theorem dX6_fault_286 : decode cX6_fault 286 = .ok (.iload_n 1, 1) := by decide +kernel
theorem dX6_fault_287 : decode cX6_fault 287 = .ok (.aload_n 0, 1) := by decide +kernel
theorem dX6_fault_288 : decode cX6_fault 288 = .ok (.getfield 69, 3) := by decide +kernel
theorem dX6_fault_291 : decode cX6_fault 291 = .ok (.if_icmp .ne 8, 3) := by decide +kernel
theorem dX6_fault_294 : decode cX6_fault 294 = .ok (.bipush (-4), 2) := by decide +kernel
theorem dX6_fault_296 : decode cX6_fault 296 = .ok (.goto 7, 3) := by decide +kernel
theorem dX6_fault_299 : decode cX6_fault 299 = .ok (.aload_n 0, 1) := by decide +kernel
theorem dX6_fault_300 : decode cX6_fault 300 = .ok (.getfield 66, 3) := by decide +kernel
theorem dX6_fault_303 : decode cX6_fault 303 = .ok (.ireturn, 1) := by decide +kernel
set_option maxRecDepth 20000 in
theorem ggX6_lay_X6_fault : GoodIn wsX6_lay wsX6_fault := goodIn_r _ [10, 1, 11, 12, 3, 13, 14, 9, 15, 19, 20, 21, 22, 23, 24, 25, 26, 27, 28, 29, 30, 31, 32, 33, 34, 35, 36, 37, 38, 39, 40, 41] (by decide +kernel) (by decide +kernel)
set_option maxRecDepth 20000 in
theorem gX6_lay_X6_fault : GoodIn wsX6_lay (wsV RX6 72 RX6 yX6_fault wsX6_fault) := goodIn_app (goodIn_of _ (by decide +kernel)) ggX6_lay_X6_fault
set_option maxRecDepth 20000 in
theorem ggX6_lay_X6_copy : GoodIn wsX6_lay wsX6_copy := goodIn_r _ [18] (by decide +kernel) (by decide +kernel)
set_option maxRecDepth 20000 in
theorem gX6_lay_X6_copy : GoodIn wsX6_lay (va_wsS RX6 76 yX6_copy wsX6_copy) := goodIn_app (goodIn_of _ (by decide +kernel)) ggX6_lay_X6_copy
theorem dX6_lay_0 : decode cX6_lay 0 = .ok (.aload_n 0, 1) := by decide +kernel
theorem dX6_lay_1 : decode cX6_lay 1 = .ok (.invokevirtual 72, 3) := by decide +kernel
theorem dX6_lay_4 : decode cX6_lay 4 = .ok (.bipush (-4), 2) := by decide +kernel
theorem dX6_lay_6 : decode cX6_lay 6 = .ok (.if_icmp .eq 6, 3) := by decide +kernel
theorem dX6_lay_9 : decode cX6_lay 9 = .ok (.bipush (-2), 2) := by decide +kernel
theorem dX6_lay_11 : decode cX6_lay 11 = .ok (.ireturn, 1) := by decide +kernel
theorem dX6_lay_12 : decode cX6_lay 12 = .ok (.aload_n 0, 1) := by decide +kernel
theorem dX6_lay_13 : decode cX6_lay 13 = .ok (.aload_n 0, 1) := by decide +kernel
theorem dX6_lay_14 : decode cX6_lay 14 = .ok (.getfield 69, 3) := by decide +kernel
theorem dX6_lay_17 : decode cX6_lay 17 = .ok (.putfield 54, 3) := by decide +kernel
theorem dX6_lay_20 : decode cX6_lay 20 = .ok (.aload_n 0, 1) := by decide +kernel
theorem dX6_lay_21 : decode cX6_lay 21 = .ok (.getfield 22, 3) := by decide +kernel
theorem dX6_lay_24 : decode cX6_lay 24 = .ok (.aload_n 0, 1) := by decide +kernel
theorem dX6_lay_25 : decode cX6_lay 25 = .ok (.getfield 13, 3) := by decide +kernel
theorem dX6_lay_28 : decode cX6_lay 28 = .ok (.invokestatic 76, 3) := by decide +kernel
theorem dX6_lay_31 : decode cX6_lay 31 = .ok (.aload_n 0, 1) := by decide +kernel
theorem dX6_lay_32 : decode cX6_lay 32 = .ok (.iconst 0, 1) := by decide +kernel
theorem dX6_lay_33 : decode cX6_lay 33 = .ok (.putfield 80, 3) := by decide +kernel
theorem dX6_lay_36 : decode cX6_lay 36 = .ok (.aload_n 0, 1) := by decide +kernel
theorem dX6_lay_37 : decode cX6_lay 37 = .ok (.getfield 54, 3) := by decide +kernel
theorem dX6_lay_40 : decode cX6_lay 40 = .ok (.ireturn, 1) := by decide +kernel
theorem dX6_copy_0 : decode cX6_copy 0 = .ok (.iconst 0, 1) := by decide +kernel
theorem dX6_copy_1 : decode cX6_copy 1 = .ok (.istore_n 2, 1) := by decide +kernel
theorem dX6_copy_2 : decode cX6_copy 2 = .ok (.iload_n 2, 1) := by decide +kernel
theorem dX6_copy_3 : decode cX6_copy 3 = .ok (.bipush 36, 2) := by decide +kernel
theorem dX6_copy_5 : decode cX6_copy 5 = .ok (.if_icmp .ge 15, 3) := by decide +kernel
theorem dX6_copy_8 : decode cX6_copy 8 = .ok (.aload_n 1, 1) := by decide +kernel
theorem dX6_copy_9 : decode cX6_copy 9 = .ok (.iload_n 2, 1) := by decide +kernel
theorem dX6_copy_10 : decode cX6_copy 10 = .ok (.aload_n 0, 1) := by decide +kernel
theorem dX6_copy_11 : decode cX6_copy 11 = .ok (.iload_n 2, 1) := by decide +kernel
theorem dX6_copy_12 : decode cX6_copy 12 = .ok (.iaload, 1) := by decide +kernel
theorem dX6_copy_13 : decode cX6_copy 13 = .ok (.iastore, 1) := by decide +kernel
theorem dX6_copy_14 : decode cX6_copy 14 = .ok (.iinc 2 1, 3) := by decide +kernel
theorem dX6_copy_17 : decode cX6_copy 17 = .ok (.goto (-15), 3) := by decide +kernel
theorem dX6_copy_20 : decode cX6_copy 20 = .ok (.return_, 1) := by decide +kernel
theorem dX6_note_0 : decode cX6_note 0 = .ok (.aload_n 0, 1) := by decide +kernel
theorem dX6_note_1 : decode cX6_note 1 = .ok (.getfield 80, 3) := by decide +kernel
theorem dX6_note_4 : decode cX6_note 4 = .ok (.bipush 6, 2) := by decide +kernel
theorem dX6_note_6 : decode cX6_note 6 = .ok (.if_icmp .ne 43, 3) := by decide +kernel
theorem dX6_note_9 : decode cX6_note 9 = .ok (.iconst 0, 1) := by decide +kernel
theorem dX6_note_10 : decode cX6_note 10 = .ok (.istore_n 1, 1) := by decide +kernel
theorem dX6_note_11 : decode cX6_note 11 = .ok (.iload_n 1, 1) := by decide +kernel
theorem dX6_note_12 : decode cX6_note 12 = .ok (.sipush 185, 3) := by decide +kernel
theorem dX6_note_15 : decode cX6_note 15 = .ok (.if_icmp .ge 24, 3) := by decide +kernel
theorem dX6_note_18 : decode cX6_note 18 = .ok (.aload_n 0, 1) := by decide +kernel
theorem dX6_note_19 : decode cX6_note 19 = .ok (.getfield 19, 3) := by decide +kernel
theorem dX6_note_22 : decode cX6_note 22 = .ok (.iload_n 1, 1) := by decide +kernel
theorem dX6_note_23 : decode cX6_note 23 = .ok (.aload_n 0, 1) := by decide +kernel
theorem dX6_note_24 : decode cX6_note 24 = .ok (.getfield 19, 3) := by decide +kernel
theorem dX6_note_27 : decode cX6_note 27 = .ok (.bipush 37, 2) := by decide +kernel
theorem dX6_note_29 : decode cX6_note 29 = .ok (.iload_n 1, 1) := by decide +kernel
theorem dX6_note_30 : decode cX6_note 30 = .ok (.iadd, 1) := by decide +kernel
theorem dX6_note_31 : decode cX6_note 31 = .ok (.iaload, 1) := by decide +kernel
theorem dX6_note_32 : decode cX6_note 32 = .ok (.iastore, 1) := by decide +kernel
theorem dX6_note_33 : decode cX6_note 33 = .ok (.iinc 1 1, 3) := by decide +kernel
theorem dX6_note_36 : decode cX6_note 36 = .ok (.goto (-25), 3) := by decide +kernel
theorem dX6_note_39 : decode cX6_note 39 = .ok (.aload_n 0, 1) := by decide +kernel
theorem dX6_note_40 : decode cX6_note 40 = .ok (.dup, 1) := by decide +kernel
theorem dX6_note_41 : decode cX6_note 41 = .ok (.getfield 80, 3) := by decide +kernel
theorem dX6_note_44 : decode cX6_note 44 = .ok (.iconst 1, 1) := by decide +kernel
theorem dX6_note_45 : decode cX6_note 45 = .ok (.isub, 1) := by decide +kernel
theorem dX6_note_46 : decode cX6_note 46 = .ok (.putfield 80, 3) := by decide +kernel
theorem dX6_note_49 : decode cX6_note 49 = .ok (.aload_n 0, 1) := by decide +kernel
theorem dX6_note_50 : decode cX6_note 50 = .ok (.getfield 19, 3) := by decide +kernel
theorem dX6_note_53 : decode cX6_note 53 = .ok (.bipush 37, 2) := by decide +kernel
theorem dX6_note_55 : decode cX6_note 55 = .ok (.aload_n 0, 1) := by decide +kernel
theorem dX6_note_56 : decode cX6_note 56 = .ok (.getfield 80, 3) := by decide +kernel
theorem dX6_note_59 : decode cX6_note 59 = .ok (.imul, 1) := by decide +kernel
theorem dX6_note_60 : decode cX6_note 60 = .ok (.aload_n 0, 1) := by decide +kernel
theorem dX6_note_61 : decode cX6_note 61 = .ok (.getfield 54, 3) := by decide +kernel
theorem dX6_note_64 : decode cX6_note 64 = .ok (.iastore, 1) := by decide +kernel
theorem dX6_note_65 : decode cX6_note 65 = .ok (.iconst 0, 1) := by decide +kernel
theorem dX6_note_66 : decode cX6_note 66 = .ok (.istore_n 1, 1) := by decide +kernel
theorem dX6_note_67 : decode cX6_note 67 = .ok (.iload_n 1, 1) := by decide +kernel
theorem dX6_note_68 : decode cX6_note 68 = .ok (.bipush 36, 2) := by decide +kernel
theorem dX6_note_70 : decode cX6_note 70 = .ok (.if_icmp .ge 31, 3) := by decide +kernel
theorem dX6_note_73 : decode cX6_note 73 = .ok (.aload_n 0, 1) := by decide +kernel
theorem dX6_note_74 : decode cX6_note 74 = .ok (.getfield 19, 3) := by decide +kernel
theorem dX6_note_77 : decode cX6_note 77 = .ok (.bipush 37, 2) := by decide +kernel
theorem dX6_note_79 : decode cX6_note 79 = .ok (.aload_n 0, 1) := by decide +kernel
theorem dX6_note_80 : decode cX6_note 80 = .ok (.getfield 80, 3) := by decide +kernel
theorem dX6_note_83 : decode cX6_note 83 = .ok (.imul, 1) := by decide +kernel
theorem dX6_note_84 : decode cX6_note 84 = .ok (.iconst 1, 1) := by decide +kernel
theorem dX6_note_85 : decode cX6_note 85 = .ok (.iadd, 1) := by decide +kernel
theorem dX6_note_86 : decode cX6_note 86 = .ok (.iload_n 1, 1) := by decide +kernel
theorem dX6_note_87 : decode cX6_note 87 = .ok (.iadd, 1) := by decide +kernel
theorem dX6_note_88 : decode cX6_note 88 = .ok (.aload_n 0, 1) := by decide +kernel
theorem dX6_note_89 : decode cX6_note 89 = .ok (.getfield 13, 3) := by decide +kernel
theorem dX6_note_92 : decode cX6_note 92 = .ok (.iload_n 1, 1) := by decide +kernel
theorem dX6_note_93 : decode cX6_note 93 = .ok (.iaload, 1) := by decide +kernel
theorem dX6_note_94 : decode cX6_note 94 = .ok (.iastore, 1) := by decide +kernel
theorem dX6_note_95 : decode cX6_note 95 = .ok (.iinc 1 1, 3) := by decide +kernel
theorem dX6_note_98 : decode cX6_note 98 = .ok (.goto (-31), 3) := by decide +kernel
theorem dX6_note_101 : decode cX6_note 101 = .ok (.aload_n 0, 1) := by decide +kernel
theorem dX6_note_102 : decode cX6_note 102 = .ok (.dup, 1) := by decide +kernel
theorem dX6_note_103 : decode cX6_note 103 = .ok (.getfield 80, 3) := by decide +kernel
theorem dX6_note_106 : decode cX6_note 106 = .ok (.iconst 1, 1) := by decide +kernel
theorem dX6_note_107 : decode cX6_note 107 = .ok (.iadd, 1) := by decide +kernel
theorem dX6_note_108 : decode cX6_note 108 = .ok (.putfield 80, 3) := by decide +kernel
theorem dX6_note_111 : decode cX6_note 111 = .ok (.return_, 1) := by decide +kernel
theorem dX6_undo_0 : decode cX6_undo 0 = .ok (.aload_n 0, 1) := by decide +kernel
theorem dX6_undo_1 : decode cX6_undo 1 = .ok (.getfield 80, 3) := by decide +kernel
theorem dX6_undo_4 : decode cX6_undo 4 = .ok (.ifCond .ne 6, 3) := by decide +kernel
theorem dX6_undo_7 : decode cX6_undo 7 = .ok (.bipush (-2), 2) := by decide +kernel
theorem dX6_undo_9 : decode cX6_undo 9 = .ok (.ireturn, 1) := by decide +kernel
theorem dX6_undo_10 : decode cX6_undo 10 = .ok (.aload_n 0, 1) := by decide +kernel
theorem dX6_undo_11 : decode cX6_undo 11 = .ok (.dup, 1) := by decide +kernel
theorem dX6_undo_12 : decode cX6_undo 12 = .ok (.getfield 80, 3) := by decide +kernel
theorem dX6_undo_15 : decode cX6_undo 15 = .ok (.iconst 1, 1) := by decide +kernel
theorem dX6_undo_16 : decode cX6_undo 16 = .ok (.isub, 1) := by decide +kernel
theorem dX6_undo_17 : decode cX6_undo 17 = .ok (.putfield 80, 3) := by decide +kernel
theorem dX6_undo_20 : decode cX6_undo 20 = .ok (.aload_n 0, 1) := by decide +kernel
theorem dX6_undo_21 : decode cX6_undo 21 = .ok (.aload_n 0, 1) := by decide +kernel
theorem dX6_undo_22 : decode cX6_undo 22 = .ok (.getfield 19, 3) := by decide +kernel
theorem dX6_undo_25 : decode cX6_undo 25 = .ok (.bipush 37, 2) := by decide +kernel
theorem dX6_undo_27 : decode cX6_undo 27 = .ok (.aload_n 0, 1) := by decide +kernel
theorem dX6_undo_28 : decode cX6_undo 28 = .ok (.getfield 80, 3) := by decide +kernel
theorem dX6_undo_31 : decode cX6_undo 31 = .ok (.imul, 1) := by decide +kernel
theorem dX6_undo_32 : decode cX6_undo 32 = .ok (.iaload, 1) := by decide +kernel
theorem dX6_undo_33 : decode cX6_undo 33 = .ok (.putfield 54, 3) := by decide +kernel
theorem dX6_undo_36 : decode cX6_undo 36 = .ok (.iconst 0, 1) := by decide +kernel
theorem dX6_undo_37 : decode cX6_undo 37 = .ok (.istore_n 1, 1) := by decide +kernel
theorem dX6_undo_38 : decode cX6_undo 38 = .ok (.iload_n 1, 1) := by decide +kernel
theorem dX6_undo_39 : decode cX6_undo 39 = .ok (.bipush 36, 2) := by decide +kernel
theorem dX6_undo_41 : decode cX6_undo 41 = .ok (.if_icmp .ge 31, 3) := by decide +kernel
theorem dX6_undo_44 : decode cX6_undo 44 = .ok (.aload_n 0, 1) := by decide +kernel
theorem dX6_undo_45 : decode cX6_undo 45 = .ok (.getfield 13, 3) := by decide +kernel
theorem dX6_undo_48 : decode cX6_undo 48 = .ok (.iload_n 1, 1) := by decide +kernel
theorem dX6_undo_49 : decode cX6_undo 49 = .ok (.aload_n 0, 1) := by decide +kernel
theorem dX6_undo_50 : decode cX6_undo 50 = .ok (.getfield 19, 3) := by decide +kernel
theorem dX6_undo_53 : decode cX6_undo 53 = .ok (.bipush 37, 2) := by decide +kernel
theorem dX6_undo_55 : decode cX6_undo 55 = .ok (.aload_n 0, 1) := by decide +kernel
theorem dX6_undo_56 : decode cX6_undo 56 = .ok (.getfield 80, 3) := by decide +kernel
theorem dX6_undo_59 : decode cX6_undo 59 = .ok (.imul, 1) := by decide +kernel
theorem dX6_undo_60 : decode cX6_undo 60 = .ok (.iconst 1, 1) := by decide +kernel
theorem dX6_undo_61 : decode cX6_undo 61 = .ok (.iadd, 1) := by decide +kernel
theorem dX6_undo_62 : decode cX6_undo 62 = .ok (.iload_n 1, 1) := by decide +kernel
theorem dX6_undo_63 : decode cX6_undo 63 = .ok (.iadd, 1) := by decide +kernel
theorem dX6_undo_64 : decode cX6_undo 64 = .ok (.iaload, 1) := by decide +kernel
theorem dX6_undo_65 : decode cX6_undo 65 = .ok (.iastore, 1) := by decide +kernel
theorem dX6_undo_66 : decode cX6_undo 66 = .ok (.iinc 1 1, 3) := by decide +kernel
theorem dX6_undo_69 : decode cX6_undo 69 = .ok (.goto (-31), 3) := by decide +kernel
theorem dX6_undo_72 : decode cX6_undo 72 = .ok (.aload_n 0, 1) := by decide +kernel
theorem dX6_undo_73 : decode cX6_undo 73 = .ok (.getfield 80, 3) := by decide +kernel
theorem dX6_undo_76 : decode cX6_undo 76 = .ok (.ireturn, 1) := by decide +kernel
set_option maxRecDepth 20000 in
theorem ggX6_keep_X6_copy : GoodIn wsX6_keep wsX6_copy := goodIn_r _ [8] (by decide +kernel) (by decide +kernel)
set_option maxRecDepth 20000 in
theorem gX6_keep_X6_copy : GoodIn wsX6_keep (va_wsS RX6 76 yX6_copy wsX6_copy) := goodIn_app (goodIn_of _ (by decide +kernel)) ggX6_keep_X6_copy
theorem dX6_keep_0 : decode cX6_keep 0 = .ok (.aload_n 0, 1) := by decide +kernel
theorem dX6_keep_1 : decode cX6_keep 1 = .ok (.aload_n 0, 1) := by decide +kernel
theorem dX6_keep_2 : decode cX6_keep 2 = .ok (.getfield 54, 3) := by decide +kernel
theorem dX6_keep_5 : decode cX6_keep 5 = .ok (.putfield 83, 3) := by decide +kernel
theorem dX6_keep_8 : decode cX6_keep 8 = .ok (.aload_n 0, 1) := by decide +kernel
theorem dX6_keep_9 : decode cX6_keep 9 = .ok (.getfield 13, 3) := by decide +kernel
theorem dX6_keep_12 : decode cX6_keep 12 = .ok (.aload_n 0, 1) := by decide +kernel
theorem dX6_keep_13 : decode cX6_keep 13 = .ok (.getfield 16, 3) := by decide +kernel
theorem dX6_keep_16 : decode cX6_keep 16 = .ok (.invokestatic 76, 3) := by decide +kernel
theorem dX6_keep_19 : decode cX6_keep 19 = .ok (.aload_n 0, 1) := by decide +kernel
theorem dX6_keep_20 : decode cX6_keep 20 = .ok (.getfield 54, 3) := by decide +kernel
theorem dX6_keep_23 : decode cX6_keep 23 = .ok (.ireturn, 1) := by decide +kernel
set_option maxRecDepth 20000 in
theorem ggX6_sign_X6_in : GoodIn wsX6_sign wsX6_in := goodIn_r _ [6] (by decide +kernel) (by decide +kernel)
set_option maxRecDepth 20000 in
theorem gX6_sign_X6_in : GoodIn wsX6_sign (va_wsS RX6 62 yX6_in wsX6_in) := goodIn_app (goodIn_of _ (by decide +kernel)) ggX6_sign_X6_in
theorem dX6_sign_0 : decode cX6_sign 0 = .ok (.iload_n 1, 1) := by decide +kernel
theorem dX6_sign_1 : decode cX6_sign 1 = .ok (.i2l, 1) := by decide +kernel
theorem dX6_sign_2 : decode cX6_sign 2 = .ok (.lconst 0, 1) := by decide +kernel
theorem dX6_sign_3 : decode cX6_sign 3 = .ok (.aload_n 0, 1) := by decide +kernel
theorem dX6_sign_4 : decode cX6_sign 4 = .ok (.getfield 54, 3) := by decide +kernel
theorem dX6_sign_7 : decode cX6_sign 7 = .ok (.iconst 1, 1) := by decide +kernel
theorem dX6_sign_8 : decode cX6_sign 8 = .ok (.isub, 1) := by decide +kernel
theorem dX6_sign_9 : decode cX6_sign 9 = .ok (.i2l, 1) := by decide +kernel
theorem dX6_sign_10 : decode cX6_sign 10 = .ok (.invokestatic 62, 3) := by decide +kernel
theorem dX6_sign_13 : decode cX6_sign 13 = .ok (.ifCond .eq 36, 3) := by decide +kernel
theorem dX6_sign_16 : decode cX6_sign 16 = .ok (.iload_n 2, 1) := by decide +kernel
theorem dX6_sign_17 : decode cX6_sign 17 = .ok (.i2l, 1) := by decide +kernel
theorem dX6_sign_18 : decode cX6_sign 18 = .ok (.lconst 0, 1) := by decide +kernel
theorem dX6_sign_19 : decode cX6_sign 19 = .ok (.aload_n 0, 1) := by decide +kernel
theorem dX6_sign_20 : decode cX6_sign 20 = .ok (.getfield 54, 3) := by decide +kernel
theorem dX6_sign_23 : decode cX6_sign 23 = .ok (.iconst 1, 1) := by decide +kernel
theorem dX6_sign_24 : decode cX6_sign 24 = .ok (.isub, 1) := by decide +kernel
theorem dX6_sign_25 : decode cX6_sign 25 = .ok (.i2l, 1) := by decide +kernel
theorem dX6_sign_26 : decode cX6_sign 26 = .ok (.invokestatic 62, 3) := by decide +kernel
theorem dX6_sign_29 : decode cX6_sign 29 = .ok (.ifCond .eq 20, 3) := by decide +kernel
theorem dX6_sign_32 : decode cX6_sign 32 = .ok (.aload_n 0, 1) := by decide +kernel
theorem dX6_sign_33 : decode cX6_sign 33 = .ok (.getfield 13, 3) := by decide +kernel
theorem dX6_sign_36 : decode cX6_sign 36 = .ok (.bipush 6, 2) := by decide +kernel
theorem dX6_sign_38 : decode cX6_sign 38 = .ok (.iload_n 1, 1) := by decide +kernel
theorem dX6_sign_39 : decode cX6_sign 39 = .ok (.imul, 1) := by decide +kernel
theorem dX6_sign_40 : decode cX6_sign 40 = .ok (.iload_n 2, 1) := by decide +kernel
theorem dX6_sign_41 : decode cX6_sign 41 = .ok (.iadd, 1) := by decide +kernel
theorem dX6_sign_42 : decode cX6_sign 42 = .ok (.iaload, 1) := by decide +kernel
theorem dX6_sign_43 : decode cX6_sign 43 = .ok (.bipush 100, 2) := by decide +kernel
theorem dX6_sign_45 : decode cX6_sign 45 = .ok (.iadd, 1) := by decide +kernel
theorem dX6_sign_46 : decode cX6_sign 46 = .ok (.goto 4, 3) := by decide +kernel
theorem dX6_sign_49 : decode cX6_sign 49 = .ok (.iconst (-1), 1) := by decide +kernel
theorem dX6_sign_50 : decode cX6_sign 50 = .ok (.ireturn, 1) := by decide +kernel
theorem dX6_cornerOf_0 : decode cX6_cornerOf 0 = .ok (.iconst 0, 1) := by decide +kernel
theorem dX6_cornerOf_1 : decode cX6_cornerOf 1 = .ok (.istore_n 3, 1) := by decide +kernel
theorem dX6_cornerOf_2 : decode cX6_cornerOf 2 = .ok (.iconst 0, 1) := by decide +kernel
theorem dX6_cornerOf_3 : decode cX6_cornerOf 3 = .ok (.istore 4, 2) := by decide +kernel
theorem dX6_cornerOf_5 : decode cX6_cornerOf 5 = .ok (.iload 4, 2) := by decide +kernel
theorem dX6_cornerOf_7 : decode cX6_cornerOf 7 = .ok (.iload_n 1, 1) := by decide +kernel
theorem dX6_cornerOf_8 : decode cX6_cornerOf 8 = .ok (.if_icmp .ge 37, 3) := by decide +kernel
theorem dX6_cornerOf_11 : decode cX6_cornerOf 11 = .ok (.iconst 0, 1) := by decide +kernel
theorem dX6_cornerOf_12 : decode cX6_cornerOf 12 = .ok (.istore 5, 2) := by decide +kernel
theorem dX6_cornerOf_14 : decode cX6_cornerOf 14 = .ok (.iload 5, 2) := by decide +kernel
theorem dX6_cornerOf_16 : decode cX6_cornerOf 16 = .ok (.iload_n 2, 1) := by decide +kernel
theorem dX6_cornerOf_17 : decode cX6_cornerOf 17 = .ok (.if_icmp .ge 22, 3) := by decide +kernel
theorem dX6_cornerOf_20 : decode cX6_cornerOf 20 = .ok (.iload_n 3, 1) := by decide +kernel
theorem dX6_cornerOf_21 : decode cX6_cornerOf 21 = .ok (.aload_n 0, 1) := by decide +kernel
theorem dX6_cornerOf_22 : decode cX6_cornerOf 22 = .ok (.bipush 6, 2) := by decide +kernel
theorem dX6_cornerOf_24 : decode cX6_cornerOf 24 = .ok (.iload 4, 2) := by decide +kernel
theorem dX6_cornerOf_26 : decode cX6_cornerOf 26 = .ok (.imul, 1) := by decide +kernel
theorem dX6_cornerOf_27 : decode cX6_cornerOf 27 = .ok (.iload 5, 2) := by decide +kernel
theorem dX6_cornerOf_29 : decode cX6_cornerOf 29 = .ok (.iadd, 1) := by decide +kernel
theorem dX6_cornerOf_30 : decode cX6_cornerOf 30 = .ok (.iaload, 1) := by decide +kernel
theorem dX6_cornerOf_31 : decode cX6_cornerOf 31 = .ok (.iadd, 1) := by decide +kernel
theorem dX6_cornerOf_32 : decode cX6_cornerOf 32 = .ok (.istore_n 3, 1) := by decide +kernel
theorem dX6_cornerOf_33 : decode cX6_cornerOf 33 = .ok (.iinc 5 1, 3) := by decide +kernel
theorem dX6_cornerOf_36 : decode cX6_cornerOf 36 = .ok (.goto (-22), 3) := by decide +kernel
theorem dX6_cornerOf_39 : decode cX6_cornerOf 39 = .ok (.iinc 4 1, 3) := by decide +kernel
theorem dX6_cornerOf_42 : decode cX6_cornerOf 42 = .ok (.goto (-37), 3) := by decide +kernel
theorem dX6_cornerOf_45 : decode cX6_cornerOf 45 = .ok (.iload_n 3, 1) := by decide +kernel
theorem dX6_cornerOf_46 : decode cX6_cornerOf 46 = .ok (.ireturn, 1) := by decide +kernel
set_option maxRecDepth 20000 in
theorem ggX6_heightOf_X6_cornerOf : GoodIn wsX6_heightOf wsX6_cornerOf := goodIn_r _ [4] (by decide +kernel) (by decide +kernel)
set_option maxRecDepth 20000 in
theorem gX6_heightOf_X6_cornerOf : GoodIn wsX6_heightOf (va_wsS RX6 86 yX6_cornerOf wsX6_cornerOf) := goodIn_app (goodIn_of _ (by decide +kernel)) ggX6_heightOf_X6_cornerOf
theorem dX6_heightOf_0 : decode cX6_heightOf 0 = .ok (.iload_n 1, 1) := by decide +kernel
theorem dX6_heightOf_1 : decode cX6_heightOf 1 = .ok (.iload_n 2, 1) := by decide +kernel
theorem dX6_heightOf_2 : decode cX6_heightOf 2 = .ok (.iadd, 1) := by decide +kernel
theorem dX6_heightOf_3 : decode cX6_heightOf 3 = .ok (.iconst 2, 1) := by decide +kernel
theorem dX6_heightOf_4 : decode cX6_heightOf 4 = .ok (.aload_n 0, 1) := by decide +kernel
theorem dX6_heightOf_5 : decode cX6_heightOf 5 = .ok (.iload_n 1, 1) := by decide +kernel
theorem dX6_heightOf_6 : decode cX6_heightOf 6 = .ok (.iload_n 2, 1) := by decide +kernel
theorem dX6_heightOf_7 : decode cX6_heightOf 7 = .ok (.invokestatic 86, 3) := by decide +kernel
theorem dX6_heightOf_10 : decode cX6_heightOf 10 = .ok (.imul, 1) := by decide +kernel
theorem dX6_heightOf_11 : decode cX6_heightOf 11 = .ok (.isub, 1) := by decide +kernel
theorem dX6_heightOf_12 : decode cX6_heightOf 12 = .ok (.ireturn, 1) := by decide +kernel
set_option maxRecDepth 20000 in
theorem ggX6_isCorner_X6_in : GoodIn wsX6_isCorner wsX6_in := goodIn_r _ [5] (by decide +kernel) (by decide +kernel)
set_option maxRecDepth 20000 in
theorem gX6_isCorner_X6_in : GoodIn wsX6_isCorner (va_wsS RX6 62 yX6_in wsX6_in) := goodIn_app (goodIn_of _ (by decide +kernel)) ggX6_isCorner_X6_in
theorem dX6_isCorner_0 : decode cX6_isCorner 0 = .ok (.iload_n 1, 1) := by decide +kernel
theorem dX6_isCorner_1 : decode cX6_isCorner 1 = .ok (.i2l, 1) := by decide +kernel
theorem dX6_isCorner_2 : decode cX6_isCorner 2 = .ok (.lconst 0, 1) := by decide +kernel
theorem dX6_isCorner_3 : decode cX6_isCorner 3 = .ok (.aload_n 0, 1) := by decide +kernel
theorem dX6_isCorner_4 : decode cX6_isCorner 4 = .ok (.getfield 54, 3) := by decide +kernel
theorem dX6_isCorner_7 : decode cX6_isCorner 7 = .ok (.i2l, 1) := by decide +kernel
theorem dX6_isCorner_8 : decode cX6_isCorner 8 = .ok (.invokestatic 62, 3) := by decide +kernel
theorem dX6_isCorner_11 : decode cX6_isCorner 11 = .ok (.ifCond .eq 21, 3) := by decide +kernel
theorem dX6_isCorner_14 : decode cX6_isCorner 14 = .ok (.iload_n 2, 1) := by decide +kernel
theorem dX6_isCorner_15 : decode cX6_isCorner 15 = .ok (.i2l, 1) := by decide +kernel
theorem dX6_isCorner_16 : decode cX6_isCorner 16 = .ok (.lconst 0, 1) := by decide +kernel
theorem dX6_isCorner_17 : decode cX6_isCorner 17 = .ok (.aload_n 0, 1) := by decide +kernel
theorem dX6_isCorner_18 : decode cX6_isCorner 18 = .ok (.getfield 54, 3) := by decide +kernel
theorem dX6_isCorner_21 : decode cX6_isCorner 21 = .ok (.i2l, 1) := by decide +kernel
theorem dX6_isCorner_22 : decode cX6_isCorner 22 = .ok (.invokestatic 62, 3) := by decide +kernel
theorem dX6_isCorner_25 : decode cX6_isCorner 25 = .ok (.ifCond .eq 7, 3) := by decide +kernel
theorem dX6_isCorner_28 : decode cX6_isCorner 28 = .ok (.iconst 1, 1) := by decide +kernel
theorem dX6_isCorner_29 : decode cX6_isCorner 29 = .ok (.goto 4, 3) := by decide +kernel
theorem dX6_isCorner_32 : decode cX6_isCorner 32 = .ok (.iconst 0, 1) := by decide +kernel
theorem dX6_isCorner_33 : decode cX6_isCorner 33 = .ok (.ireturn, 1) := by decide +kernel
set_option maxRecDepth 20000 in
theorem ggX6_corner_X6_isCorner : GoodIn wsX6_corner wsX6_isCorner := goodIn_r _ [6, 7, 8, 9, 5, 10, 14, 15, 16, 17, 18, 19, 20, 21, 22, 23, 24, 25, 26, 27, 28, 29, 30, 31, 32, 33, 34, 35, 36] (by decide +kernel) (by decide +kernel)
set_option maxRecDepth 20000 in
theorem gX6_corner_X6_isCorner : GoodIn wsX6_corner (wsV RX6 90 RX6 yX6_isCorner wsX6_isCorner) := goodIn_app (goodIn_of _ (by decide +kernel)) ggX6_corner_X6_isCorner
set_option maxRecDepth 20000 in
theorem ggX6_corner_X6_cornerOf : GoodIn wsX6_corner wsX6_cornerOf := goodIn_r _ [13] (by decide +kernel) (by decide +kernel)
set_option maxRecDepth 20000 in
theorem gX6_corner_X6_cornerOf : GoodIn wsX6_corner (va_wsS RX6 86 yX6_cornerOf wsX6_cornerOf) := goodIn_app (goodIn_of _ (by decide +kernel)) ggX6_corner_X6_cornerOf
theorem dX6_corner_0 : decode cX6_corner 0 = .ok (.aload_n 0, 1) := by decide +kernel
theorem dX6_corner_1 : decode cX6_corner 1 = .ok (.iload_n 1, 1) := by decide +kernel
theorem dX6_corner_2 : decode cX6_corner 2 = .ok (.iload_n 2, 1) := by decide +kernel
theorem dX6_corner_3 : decode cX6_corner 3 = .ok (.invokevirtual 90, 3) := by decide +kernel
theorem dX6_corner_6 : decode cX6_corner 6 = .ok (.ifCond .eq 15, 3) := by decide +kernel
theorem dX6_corner_9 : decode cX6_corner 9 = .ok (.aload_n 0, 1) := by decide +kernel
theorem dX6_corner_10 : decode cX6_corner 10 = .ok (.getfield 13, 3) := by decide +kernel
theorem dX6_corner_13 : decode cX6_corner 13 = .ok (.iload_n 1, 1) := by decide +kernel
theorem dX6_corner_14 : decode cX6_corner 14 = .ok (.iload_n 2, 1) := by decide +kernel
theorem dX6_corner_15 : decode cX6_corner 15 = .ok (.invokestatic 86, 3) := by decide +kernel
theorem dX6_corner_18 : decode cX6_corner 18 = .ok (.goto 4, 3) := by decide +kernel
theorem dX6_corner_21 : decode cX6_corner 21 = .ok (.iconst (-1), 1) := by decide +kernel
theorem dX6_corner_22 : decode cX6_corner 22 = .ok (.ireturn, 1) := by decide +kernel
set_option maxRecDepth 20000 in
theorem ggX6_height_X6_isCorner : GoodIn wsX6_height wsX6_isCorner := goodIn_r _ [6, 7, 8, 9, 5, 10, 17, 18, 19, 20, 21, 22, 23, 24, 25, 26, 27, 28, 29, 30, 31, 32, 33, 34, 35, 36, 37, 38, 39] (by decide +kernel) (by decide +kernel)
set_option maxRecDepth 20000 in
theorem gX6_height_X6_isCorner : GoodIn wsX6_height (wsV RX6 90 RX6 yX6_isCorner wsX6_isCorner) := goodIn_app (goodIn_of _ (by decide +kernel)) ggX6_height_X6_isCorner
set_option maxRecDepth 20000 in
theorem ggX6_height_X6_heightOf : GoodIn wsX6_height wsX6_heightOf := goodIn_r _ [13, 14, 15, 5, 16] (by decide +kernel) (by decide +kernel)
set_option maxRecDepth 20000 in
theorem gX6_height_X6_heightOf : GoodIn wsX6_height (va_wsS RX6 94 yX6_heightOf wsX6_heightOf) := goodIn_app (goodIn_of _ (by decide +kernel)) ggX6_height_X6_heightOf
theorem dX6_height_0 : decode cX6_height 0 = .ok (.aload_n 0, 1) := by decide +kernel
theorem dX6_height_1 : decode cX6_height 1 = .ok (.iload_n 1, 1) := by decide +kernel
theorem dX6_height_2 : decode cX6_height 2 = .ok (.iload_n 2, 1) := by decide +kernel
theorem dX6_height_3 : decode cX6_height 3 = .ok (.invokevirtual 90, 3) := by decide +kernel
theorem dX6_height_6 : decode cX6_height 6 = .ok (.ifCond .eq 15, 3) := by decide +kernel
theorem dX6_height_9 : decode cX6_height 9 = .ok (.aload_n 0, 1) := by decide +kernel
theorem dX6_height_10 : decode cX6_height 10 = .ok (.getfield 13, 3) := by decide +kernel
theorem dX6_height_13 : decode cX6_height 13 = .ok (.iload_n 1, 1) := by decide +kernel
theorem dX6_height_14 : decode cX6_height 14 = .ok (.iload_n 2, 1) := by decide +kernel
theorem dX6_height_15 : decode cX6_height 15 = .ok (.invokestatic 94, 3) := by decide +kernel
theorem dX6_height_18 : decode cX6_height 18 = .ok (.goto 4, 3) := by decide +kernel
theorem dX6_height_21 : decode cX6_height 21 = .ok (.iconst (-1), 1) := by decide +kernel
theorem dX6_height_22 : decode cX6_height 22 = .ok (.ireturn, 1) := by decide +kernel
set_option maxRecDepth 20000 in
theorem ggX6_mayBe_X6_heightOf : GoodIn wsX6_mayBe wsX6_heightOf := goodIn_r _ [4, 5, 6, 3, 7] (by decide +kernel) (by decide +kernel)
set_option maxRecDepth 20000 in
theorem gX6_mayBe_X6_heightOf : GoodIn wsX6_mayBe (va_wsS RX6 94 yX6_heightOf wsX6_heightOf) := goodIn_app (goodIn_of _ (by decide +kernel)) ggX6_mayBe_X6_heightOf
theorem dX6_mayBe_0 : decode cX6_mayBe 0 = .ok (.aload_n 0, 1) := by decide +kernel
theorem dX6_mayBe_1 : decode cX6_mayBe 1 = .ok (.iload_n 1, 1) := by decide +kernel
theorem dX6_mayBe_2 : decode cX6_mayBe 2 = .ok (.iload_n 2, 1) := by decide +kernel
theorem dX6_mayBe_3 : decode cX6_mayBe 3 = .ok (.invokestatic 94, 3) := by decide +kernel
theorem dX6_mayBe_6 : decode cX6_mayBe 6 = .ok (.istore_n 3, 1) := by decide +kernel
theorem dX6_mayBe_7 : decode cX6_mayBe 7 = .ok (.aload_n 0, 1) := by decide +kernel
theorem dX6_mayBe_8 : decode cX6_mayBe 8 = .ok (.iload_n 1, 1) := by decide +kernel
theorem dX6_mayBe_9 : decode cX6_mayBe 9 = .ok (.iconst 1, 1) := by decide +kernel
theorem dX6_mayBe_10 : decode cX6_mayBe 10 = .ok (.isub, 1) := by decide +kernel
theorem dX6_mayBe_11 : decode cX6_mayBe 11 = .ok (.iload_n 2, 1) := by decide +kernel
theorem dX6_mayBe_12 : decode cX6_mayBe 12 = .ok (.invokestatic 94, 3) := by decide +kernel
theorem dX6_mayBe_15 : decode cX6_mayBe 15 = .ok (.istore 4, 2) := by decide +kernel
theorem dX6_mayBe_17 : decode cX6_mayBe 17 = .ok (.iload 4, 2) := by decide +kernel
theorem dX6_mayBe_19 : decode cX6_mayBe 19 = .ok (.aload_n 0, 1) := by decide +kernel
theorem dX6_mayBe_20 : decode cX6_mayBe 20 = .ok (.iload_n 1, 1) := by decide +kernel
theorem dX6_mayBe_21 : decode cX6_mayBe 21 = .ok (.iconst 1, 1) := by decide +kernel
theorem dX6_mayBe_22 : decode cX6_mayBe 22 = .ok (.iadd, 1) := by decide +kernel
theorem dX6_mayBe_23 : decode cX6_mayBe 23 = .ok (.iload_n 2, 1) := by decide +kernel
theorem dX6_mayBe_24 : decode cX6_mayBe 24 = .ok (.invokestatic 94, 3) := by decide +kernel
theorem dX6_mayBe_27 : decode cX6_mayBe 27 = .ok (.if_icmp .ne 33, 3) := by decide +kernel
theorem dX6_mayBe_30 : decode cX6_mayBe 30 = .ok (.iload 4, 2) := by decide +kernel
theorem dX6_mayBe_32 : decode cX6_mayBe 32 = .ok (.aload_n 0, 1) := by decide +kernel
theorem dX6_mayBe_33 : decode cX6_mayBe 33 = .ok (.iload_n 1, 1) := by decide +kernel
theorem dX6_mayBe_34 : decode cX6_mayBe 34 = .ok (.iload_n 2, 1) := by decide +kernel
theorem dX6_mayBe_35 : decode cX6_mayBe 35 = .ok (.iconst 1, 1) := by decide +kernel
theorem dX6_mayBe_36 : decode cX6_mayBe 36 = .ok (.isub, 1) := by decide +kernel
theorem dX6_mayBe_37 : decode cX6_mayBe 37 = .ok (.invokestatic 94, 3) := by decide +kernel
theorem dX6_mayBe_40 : decode cX6_mayBe 40 = .ok (.if_icmp .ne 20, 3) := by decide +kernel
theorem dX6_mayBe_43 : decode cX6_mayBe 43 = .ok (.iload 4, 2) := by decide +kernel
theorem dX6_mayBe_45 : decode cX6_mayBe 45 = .ok (.aload_n 0, 1) := by decide +kernel
theorem dX6_mayBe_46 : decode cX6_mayBe 46 = .ok (.iload_n 1, 1) := by decide +kernel
theorem dX6_mayBe_47 : decode cX6_mayBe 47 = .ok (.iload_n 2, 1) := by decide +kernel
theorem dX6_mayBe_48 : decode cX6_mayBe 48 = .ok (.iconst 1, 1) := by decide +kernel
theorem dX6_mayBe_49 : decode cX6_mayBe 49 = .ok (.iadd, 1) := by decide +kernel
theorem dX6_mayBe_50 : decode cX6_mayBe 50 = .ok (.invokestatic 94, 3) := by decide +kernel
theorem dX6_mayBe_53 : decode cX6_mayBe 53 = .ok (.if_icmp .ne 7, 3) := by decide +kernel
theorem dX6_mayBe_56 : decode cX6_mayBe 56 = .ok (.iconst 1, 1) := by decide +kernel
theorem dX6_mayBe_57 : decode cX6_mayBe 57 = .ok (.goto 4, 3) := by decide +kernel
theorem dX6_mayBe_60 : decode cX6_mayBe 60 = .ok (.iconst 0, 1) := by decide +kernel
theorem dX6_mayBe_61 : decode cX6_mayBe 61 = .ok (.istore 5, 2) := by decide +kernel
theorem dX6_mayBe_63 : decode cX6_mayBe 63 = .ok (.iload 5, 2) := by decide +kernel
theorem dX6_mayBe_65 : decode cX6_mayBe 65 = .ok (.ifCond .ne 7, 3) := by decide +kernel
theorem dX6_mayBe_68 : decode cX6_mayBe 68 = .ok (.iconst 0, 1) := by decide +kernel
theorem dX6_mayBe_69 : decode cX6_mayBe 69 = .ok (.goto 14, 3) := by decide +kernel
theorem dX6_mayBe_72 : decode cX6_mayBe 72 = .ok (.iload_n 3, 1) := by decide +kernel
theorem dX6_mayBe_73 : decode cX6_mayBe 73 = .ok (.iload 4, 2) := by decide +kernel
theorem dX6_mayBe_75 : decode cX6_mayBe 75 = .ok (.if_icmp .ge 7, 3) := by decide +kernel
theorem dX6_mayBe_78 : decode cX6_mayBe 78 = .ok (.iconst 1, 1) := by decide +kernel
theorem dX6_mayBe_79 : decode cX6_mayBe 79 = .ok (.goto 4, 3) := by decide +kernel
theorem dX6_mayBe_82 : decode cX6_mayBe 82 = .ok (.iconst 2, 1) := by decide +kernel
theorem dX6_mayBe_83 : decode cX6_mayBe 83 = .ok (.ireturn, 1) := by decide +kernel
set_option maxRecDepth 20000 in
theorem ggX6_isInner_X6_in : GoodIn wsX6_isInner wsX6_in := goodIn_r _ [5] (by decide +kernel) (by decide +kernel)
set_option maxRecDepth 20000 in
theorem gX6_isInner_X6_in : GoodIn wsX6_isInner (va_wsS RX6 62 yX6_in wsX6_in) := goodIn_app (goodIn_of _ (by decide +kernel)) ggX6_isInner_X6_in
theorem dX6_isInner_0 : decode cX6_isInner 0 = .ok (.iload_n 1, 1) := by decide +kernel
theorem dX6_isInner_1 : decode cX6_isInner 1 = .ok (.i2l, 1) := by decide +kernel
theorem dX6_isInner_2 : decode cX6_isInner 2 = .ok (.lconst 1, 1) := by decide +kernel
theorem dX6_isInner_3 : decode cX6_isInner 3 = .ok (.aload_n 0, 1) := by decide +kernel
theorem dX6_isInner_4 : decode cX6_isInner 4 = .ok (.getfield 54, 3) := by decide +kernel
theorem dX6_isInner_7 : decode cX6_isInner 7 = .ok (.iconst 1, 1) := by decide +kernel
theorem dX6_isInner_8 : decode cX6_isInner 8 = .ok (.isub, 1) := by decide +kernel
theorem dX6_isInner_9 : decode cX6_isInner 9 = .ok (.i2l, 1) := by decide +kernel
theorem dX6_isInner_10 : decode cX6_isInner 10 = .ok (.invokestatic 62, 3) := by decide +kernel
theorem dX6_isInner_13 : decode cX6_isInner 13 = .ok (.ifCond .eq 23, 3) := by decide +kernel
theorem dX6_isInner_16 : decode cX6_isInner 16 = .ok (.iload_n 2, 1) := by decide +kernel
theorem dX6_isInner_17 : decode cX6_isInner 17 = .ok (.i2l, 1) := by decide +kernel
theorem dX6_isInner_18 : decode cX6_isInner 18 = .ok (.lconst 1, 1) := by decide +kernel
theorem dX6_isInner_19 : decode cX6_isInner 19 = .ok (.aload_n 0, 1) := by decide +kernel
theorem dX6_isInner_20 : decode cX6_isInner 20 = .ok (.getfield 54, 3) := by decide +kernel
theorem dX6_isInner_23 : decode cX6_isInner 23 = .ok (.iconst 1, 1) := by decide +kernel
theorem dX6_isInner_24 : decode cX6_isInner 24 = .ok (.isub, 1) := by decide +kernel
theorem dX6_isInner_25 : decode cX6_isInner 25 = .ok (.i2l, 1) := by decide +kernel
theorem dX6_isInner_26 : decode cX6_isInner 26 = .ok (.invokestatic 62, 3) := by decide +kernel
theorem dX6_isInner_29 : decode cX6_isInner 29 = .ok (.ifCond .eq 7, 3) := by decide +kernel
theorem dX6_isInner_32 : decode cX6_isInner 32 = .ok (.iconst 1, 1) := by decide +kernel
theorem dX6_isInner_33 : decode cX6_isInner 33 = .ok (.goto 4, 3) := by decide +kernel
theorem dX6_isInner_36 : decode cX6_isInner 36 = .ok (.iconst 0, 1) := by decide +kernel
theorem dX6_isInner_37 : decode cX6_isInner 37 = .ok (.ireturn, 1) := by decide +kernel
set_option maxRecDepth 20000 in
theorem ggX6_may_X6_isInner : GoodIn wsX6_may wsX6_isInner := goodIn_r _ [6, 7, 8, 9, 5, 10, 20, 21, 22, 23, 24, 25, 26, 27, 28, 29, 30, 31, 32, 33, 34, 35, 36, 37, 38, 39, 40, 41, 42] (by decide +kernel) (by decide +kernel)
set_option maxRecDepth 20000 in
theorem gX6_may_X6_isInner : GoodIn wsX6_may (wsV RX6 97 RX6 yX6_isInner wsX6_isInner) := goodIn_app (goodIn_of _ (by decide +kernel)) ggX6_may_X6_isInner
set_option maxRecDepth 20000 in
theorem ggX6_may_X6_mayBe : GoodIn wsX6_may wsX6_mayBe := goodIn_r _ [13, 14, 15, 5, 16, 17, 18, 19] (by decide +kernel) (by decide +kernel)
set_option maxRecDepth 20000 in
theorem gX6_may_X6_mayBe : GoodIn wsX6_may (va_wsS RX6 100 yX6_mayBe wsX6_mayBe) := goodIn_app (goodIn_of _ (by decide +kernel)) ggX6_may_X6_mayBe
theorem dX6_may_0 : decode cX6_may 0 = .ok (.aload_n 0, 1) := by decide +kernel
theorem dX6_may_1 : decode cX6_may 1 = .ok (.iload_n 1, 1) := by decide +kernel
theorem dX6_may_2 : decode cX6_may 2 = .ok (.iload_n 2, 1) := by decide +kernel
theorem dX6_may_3 : decode cX6_may 3 = .ok (.invokevirtual 97, 3) := by decide +kernel
theorem dX6_may_6 : decode cX6_may 6 = .ok (.ifCond .eq 15, 3) := by decide +kernel
theorem dX6_may_9 : decode cX6_may 9 = .ok (.aload_n 0, 1) := by decide +kernel
theorem dX6_may_10 : decode cX6_may 10 = .ok (.getfield 13, 3) := by decide +kernel
theorem dX6_may_13 : decode cX6_may 13 = .ok (.iload_n 1, 1) := by decide +kernel
theorem dX6_may_14 : decode cX6_may 14 = .ok (.iload_n 2, 1) := by decide +kernel
theorem dX6_may_15 : decode cX6_may 15 = .ok (.invokestatic 100, 3) := by decide +kernel
theorem dX6_may_18 : decode cX6_may 18 = .ok (.goto 4, 3) := by decide +kernel
theorem dX6_may_21 : decode cX6_may 21 = .ok (.iconst (-1), 1) := by decide +kernel
theorem dX6_may_22 : decode cX6_may 22 = .ok (.ireturn, 1) := by decide +kernel
set_option maxRecDepth 20000 in
theorem ggX6_flips_X6_mayBe : GoodIn wsX6_flips wsX6_mayBe := goodIn_r _ [4, 5, 6, 3, 7, 8, 9, 10] (by decide +kernel) (by decide +kernel)
set_option maxRecDepth 20000 in
theorem gX6_flips_X6_mayBe : GoodIn wsX6_flips (va_wsS RX6 100 yX6_mayBe wsX6_mayBe) := goodIn_app (goodIn_of _ (by decide +kernel)) ggX6_flips_X6_mayBe
theorem dX6_flips_0 : decode cX6_flips 0 = .ok (.aload_n 0, 1) := by decide +kernel
theorem dX6_flips_1 : decode cX6_flips 1 = .ok (.iload_n 1, 1) := by decide +kernel
theorem dX6_flips_2 : decode cX6_flips 2 = .ok (.iload_n 2, 1) := by decide +kernel
theorem dX6_flips_3 : decode cX6_flips 3 = .ok (.invokestatic 100, 3) := by decide +kernel
theorem dX6_flips_6 : decode cX6_flips 6 = .ok (.istore_n 3, 1) := by decide +kernel
theorem dX6_flips_7 : decode cX6_flips 7 = .ok (.iload_n 3, 1) := by decide +kernel
theorem dX6_flips_8 : decode cX6_flips 8 = .ok (.iconst 2, 1) := by decide +kernel
theorem dX6_flips_9 : decode cX6_flips 9 = .ok (.if_icmp .ne 7, 3) := by decide +kernel
theorem dX6_flips_12 : decode cX6_flips 12 = .ok (.iconst 1, 1) := by decide +kernel
theorem dX6_flips_13 : decode cX6_flips 13 = .ok (.goto 4, 3) := by decide +kernel
theorem dX6_flips_16 : decode cX6_flips 16 = .ok (.iconst (-1), 1) := by decide +kernel
theorem dX6_flips_17 : decode cX6_flips 17 = .ok (.istore 4, 2) := by decide +kernel
theorem dX6_flips_19 : decode cX6_flips 19 = .ok (.iload_n 3, 1) := by decide +kernel
theorem dX6_flips_20 : decode cX6_flips 20 = .ok (.ifCond .ne 5, 3) := by decide +kernel
theorem dX6_flips_23 : decode cX6_flips 23 = .ok (.iconst 0, 1) := by decide +kernel
theorem dX6_flips_24 : decode cX6_flips 24 = .ok (.ireturn, 1) := by decide +kernel
theorem dX6_flips_25 : decode cX6_flips 25 = .ok (.aload_n 0, 1) := by decide +kernel
theorem dX6_flips_26 : decode cX6_flips 26 = .ok (.bipush 6, 2) := by decide +kernel
theorem dX6_flips_28 : decode cX6_flips 28 = .ok (.iload_n 1, 1) := by decide +kernel
theorem dX6_flips_29 : decode cX6_flips 29 = .ok (.iconst 1, 1) := by decide +kernel
theorem dX6_flips_30 : decode cX6_flips 30 = .ok (.isub, 1) := by decide +kernel
theorem dX6_flips_31 : decode cX6_flips 31 = .ok (.imul, 1) := by decide +kernel
theorem dX6_flips_32 : decode cX6_flips 32 = .ok (.iload_n 2, 1) := by decide +kernel
theorem dX6_flips_33 : decode cX6_flips 33 = .ok (.iadd, 1) := by decide +kernel
theorem dX6_flips_34 : decode cX6_flips 34 = .ok (.iconst 1, 1) := by decide +kernel
theorem dX6_flips_35 : decode cX6_flips 35 = .ok (.isub, 1) := by decide +kernel
theorem dX6_flips_36 : decode cX6_flips 36 = .ok (.dup2, 1) := by decide +kernel
theorem dX6_flips_37 : decode cX6_flips 37 = .ok (.iaload, 1) := by decide +kernel
theorem dX6_flips_38 : decode cX6_flips 38 = .ok (.iload 4, 2) := by decide +kernel
theorem dX6_flips_40 : decode cX6_flips 40 = .ok (.iadd, 1) := by decide +kernel
theorem dX6_flips_41 : decode cX6_flips 41 = .ok (.iastore, 1) := by decide +kernel
theorem dX6_flips_42 : decode cX6_flips 42 = .ok (.aload_n 0, 1) := by decide +kernel
theorem dX6_flips_43 : decode cX6_flips 43 = .ok (.bipush 6, 2) := by decide +kernel
theorem dX6_flips_45 : decode cX6_flips 45 = .ok (.iload_n 1, 1) := by decide +kernel
theorem dX6_flips_46 : decode cX6_flips 46 = .ok (.iconst 1, 1) := by decide +kernel
theorem dX6_flips_47 : decode cX6_flips 47 = .ok (.isub, 1) := by decide +kernel
theorem dX6_flips_48 : decode cX6_flips 48 = .ok (.imul, 1) := by decide +kernel
theorem dX6_flips_49 : decode cX6_flips 49 = .ok (.iload_n 2, 1) := by decide +kernel
theorem dX6_flips_50 : decode cX6_flips 50 = .ok (.iadd, 1) := by decide +kernel
theorem dX6_flips_51 : decode cX6_flips 51 = .ok (.dup2, 1) := by decide +kernel
theorem dX6_flips_52 : decode cX6_flips 52 = .ok (.iaload, 1) := by decide +kernel
theorem dX6_flips_53 : decode cX6_flips 53 = .ok (.iload 4, 2) := by decide +kernel
theorem dX6_flips_55 : decode cX6_flips 55 = .ok (.isub, 1) := by decide +kernel
theorem dX6_flips_56 : decode cX6_flips 56 = .ok (.iastore, 1) := by decide +kernel
theorem dX6_flips_57 : decode cX6_flips 57 = .ok (.aload_n 0, 1) := by decide +kernel
theorem dX6_flips_58 : decode cX6_flips 58 = .ok (.bipush 6, 2) := by decide +kernel
theorem dX6_flips_60 : decode cX6_flips 60 = .ok (.iload_n 1, 1) := by decide +kernel
theorem dX6_flips_61 : decode cX6_flips 61 = .ok (.imul, 1) := by decide +kernel
theorem dX6_flips_62 : decode cX6_flips 62 = .ok (.iload_n 2, 1) := by decide +kernel
theorem dX6_flips_63 : decode cX6_flips 63 = .ok (.iadd, 1) := by decide +kernel
theorem dX6_flips_64 : decode cX6_flips 64 = .ok (.iconst 1, 1) := by decide +kernel
theorem dX6_flips_65 : decode cX6_flips 65 = .ok (.isub, 1) := by decide +kernel
theorem dX6_flips_66 : decode cX6_flips 66 = .ok (.dup2, 1) := by decide +kernel
theorem dX6_flips_67 : decode cX6_flips 67 = .ok (.iaload, 1) := by decide +kernel
theorem dX6_flips_68 : decode cX6_flips 68 = .ok (.iload 4, 2) := by decide +kernel
theorem dX6_flips_70 : decode cX6_flips 70 = .ok (.isub, 1) := by decide +kernel
theorem dX6_flips_71 : decode cX6_flips 71 = .ok (.iastore, 1) := by decide +kernel
theorem dX6_flips_72 : decode cX6_flips 72 = .ok (.aload_n 0, 1) := by decide +kernel
theorem dX6_flips_73 : decode cX6_flips 73 = .ok (.bipush 6, 2) := by decide +kernel
theorem dX6_flips_75 : decode cX6_flips 75 = .ok (.iload_n 1, 1) := by decide +kernel
theorem dX6_flips_76 : decode cX6_flips 76 = .ok (.imul, 1) := by decide +kernel
theorem dX6_flips_77 : decode cX6_flips 77 = .ok (.iload_n 2, 1) := by decide +kernel
theorem dX6_flips_78 : decode cX6_flips 78 = .ok (.iadd, 1) := by decide +kernel
theorem dX6_flips_79 : decode cX6_flips 79 = .ok (.dup2, 1) := by decide +kernel
theorem dX6_flips_80 : decode cX6_flips 80 = .ok (.iaload, 1) := by decide +kernel
theorem dX6_flips_81 : decode cX6_flips 81 = .ok (.iload 4, 2) := by decide +kernel
theorem dX6_flips_83 : decode cX6_flips 83 = .ok (.iadd, 1) := by decide +kernel
theorem dX6_flips_84 : decode cX6_flips 84 = .ok (.iastore, 1) := by decide +kernel
theorem dX6_flips_85 : decode cX6_flips 85 = .ok (.iconst 1, 1) := by decide +kernel
theorem dX6_flips_86 : decode cX6_flips 86 = .ok (.ireturn, 1) := by decide +kernel
set_option maxRecDepth 20000 in
theorem ggX6_flip_X6_isInner : GoodIn wsX6_flip wsX6_isInner := goodIn_r _ [6, 7, 8, 9, 5, 10, 29, 30, 31, 32, 33, 34, 35, 36, 37, 38, 39, 40, 41, 42, 43, 44, 45, 46, 47, 48, 49, 50, 51] (by decide +kernel) (by decide +kernel)
set_option maxRecDepth 20000 in
theorem gX6_flip_X6_isInner : GoodIn wsX6_flip (wsV RX6 97 RX6 yX6_isInner wsX6_isInner) := goodIn_app (goodIn_of _ (by decide +kernel)) ggX6_flip_X6_isInner
set_option maxRecDepth 20000 in
theorem ggX6_flip_X6_mayBe : GoodIn wsX6_flip wsX6_mayBe := goodIn_r _ [13, 14, 15, 5, 16, 17, 18, 19] (by decide +kernel) (by decide +kernel)
set_option maxRecDepth 20000 in
theorem gX6_flip_X6_mayBe : GoodIn wsX6_flip (va_wsS RX6 100 yX6_mayBe wsX6_mayBe) := goodIn_app (goodIn_of _ (by decide +kernel)) ggX6_flip_X6_mayBe
set_option maxRecDepth 20000 in
theorem ggX6_flip_X6_note : GoodIn wsX6_flip wsX6_note := goodIn_r _ [23, 24, 25, 7, 1, 29, 30, 31, 32, 33, 34, 35, 36, 37, 38, 39, 40, 41, 42, 43, 44, 45, 46, 47, 48, 49, 50, 51] (by decide +kernel) (by decide +kernel)
set_option maxRecDepth 20000 in
theorem gX6_flip_X6_note : GoodIn wsX6_flip (wsV RX6 103 RX6 yX6_note wsX6_note) := goodIn_app (goodIn_of _ (by decide +kernel)) ggX6_flip_X6_note
set_option maxRecDepth 20000 in
theorem ggX6_flip_X6_flips : GoodIn wsX6_flip wsX6_flips := goodIn_r _ [28, 11, 12, 5, 13, 14, 15, 16, 17, 18, 19] (by decide +kernel) (by decide +kernel)
set_option maxRecDepth 20000 in
theorem gX6_flip_X6_flips : GoodIn wsX6_flip (va_wsS RX6 106 yX6_flips wsX6_flips) := goodIn_app (goodIn_of _ (by decide +kernel)) ggX6_flip_X6_flips
set_option maxRecDepth 20000 in
theorem ggX6_flip_X6_heightOf : GoodIn wsX6_flip wsX6_heightOf := goodIn_r _ [16, 17, 18, 5, 19] (by decide +kernel) (by decide +kernel)
set_option maxRecDepth 20000 in
theorem gX6_flip_X6_heightOf : GoodIn wsX6_flip (va_wsS RX6 94 yX6_heightOf wsX6_heightOf) := goodIn_app (goodIn_of _ (by decide +kernel)) ggX6_flip_X6_heightOf
theorem dX6_flip_0 : decode cX6_flip 0 = .ok (.aload_n 0, 1) := by decide +kernel
theorem dX6_flip_1 : decode cX6_flip 1 = .ok (.iload_n 1, 1) := by decide +kernel
theorem dX6_flip_2 : decode cX6_flip 2 = .ok (.iload_n 2, 1) := by decide +kernel
theorem dX6_flip_3 : decode cX6_flip 3 = .ok (.invokevirtual 97, 3) := by decide +kernel
theorem dX6_flip_6 : decode cX6_flip 6 = .ok (.ifCond .ne 5, 3) := by decide +kernel
theorem dX6_flip_9 : decode cX6_flip 9 = .ok (.iconst (-1), 1) := by decide +kernel
theorem dX6_flip_10 : decode cX6_flip 10 = .ok (.ireturn, 1) := by decide +kernel
theorem dX6_flip_11 : decode cX6_flip 11 = .ok (.aload_n 0, 1) := by decide +kernel
theorem dX6_flip_12 : decode cX6_flip 12 = .ok (.getfield 13, 3) := by decide +kernel
theorem dX6_flip_15 : decode cX6_flip 15 = .ok (.iload_n 1, 1) := by decide +kernel
theorem dX6_flip_16 : decode cX6_flip 16 = .ok (.iload_n 2, 1) := by decide +kernel
theorem dX6_flip_17 : decode cX6_flip 17 = .ok (.invokestatic 100, 3) := by decide +kernel
theorem dX6_flip_20 : decode cX6_flip 20 = .ok (.ifCond .ne 6, 3) := by decide +kernel
theorem dX6_flip_23 : decode cX6_flip 23 = .ok (.bipush (-2), 2) := by decide +kernel
theorem dX6_flip_25 : decode cX6_flip 25 = .ok (.ireturn, 1) := by decide +kernel
theorem dX6_flip_26 : decode cX6_flip 26 = .ok (.aload_n 0, 1) := by decide +kernel
theorem dX6_flip_27 : decode cX6_flip 27 = .ok (.invokevirtual 103, 3) := by decide +kernel
theorem dX6_flip_30 : decode cX6_flip 30 = .ok (.aload_n 0, 1) := by decide +kernel
theorem dX6_flip_31 : decode cX6_flip 31 = .ok (.getfield 13, 3) := by decide +kernel
theorem dX6_flip_34 : decode cX6_flip 34 = .ok (.iload_n 1, 1) := by decide +kernel
theorem dX6_flip_35 : decode cX6_flip 35 = .ok (.iload_n 2, 1) := by decide +kernel
theorem dX6_flip_36 : decode cX6_flip 36 = .ok (.invokestatic 106, 3) := by decide +kernel
theorem dX6_flip_39 : decode cX6_flip 39 = .ok (.pop, 1) := by decide +kernel
theorem dX6_flip_40 : decode cX6_flip 40 = .ok (.aload_n 0, 1) := by decide +kernel
theorem dX6_flip_41 : decode cX6_flip 41 = .ok (.getfield 13, 3) := by decide +kernel
theorem dX6_flip_44 : decode cX6_flip 44 = .ok (.iload_n 1, 1) := by decide +kernel
theorem dX6_flip_45 : decode cX6_flip 45 = .ok (.iload_n 2, 1) := by decide +kernel
theorem dX6_flip_46 : decode cX6_flip 46 = .ok (.invokestatic 94, 3) := by decide +kernel
theorem dX6_flip_49 : decode cX6_flip 49 = .ok (.ireturn, 1) := by decide +kernel
set_option maxRecDepth 20000 in
theorem ggX6_gyrates_X6_flips : GoodIn wsX6_gyrates wsX6_flips := goodIn_r _ [5, 6, 7, 4, 8, 9, 10, 11, 12, 13, 14] (by decide +kernel) (by decide +kernel)
set_option maxRecDepth 20000 in
theorem gX6_gyrates_X6_flips : GoodIn wsX6_gyrates (va_wsS RX6 106 yX6_flips wsX6_flips) := goodIn_app (goodIn_of _ (by decide +kernel)) ggX6_gyrates_X6_flips
theorem dX6_gyrates_0 : decode cX6_gyrates 0 = .ok (.iconst 0, 1) := by decide +kernel
theorem dX6_gyrates_1 : decode cX6_gyrates 1 = .ok (.istore_n 2, 1) := by decide +kernel
theorem dX6_gyrates_2 : decode cX6_gyrates 2 = .ok (.iconst 0, 1) := by decide +kernel
theorem dX6_gyrates_3 : decode cX6_gyrates 3 = .ok (.istore_n 3, 1) := by decide +kernel
theorem dX6_gyrates_4 : decode cX6_gyrates 4 = .ok (.iload_n 3, 1) := by decide +kernel
theorem dX6_gyrates_5 : decode cX6_gyrates 5 = .ok (.iconst 2, 1) := by decide +kernel
theorem dX6_gyrates_6 : decode cX6_gyrates 6 = .ok (.if_icmp .ge 75, 3) := by decide +kernel
theorem dX6_gyrates_9 : decode cX6_gyrates 9 = .ok (.iconst 1, 1) := by decide +kernel
theorem dX6_gyrates_10 : decode cX6_gyrates 10 = .ok (.istore 4, 2) := by decide +kernel
theorem dX6_gyrates_12 : decode cX6_gyrates 12 = .ok (.iload 4, 2) := by decide +kernel
theorem dX6_gyrates_14 : decode cX6_gyrates 14 = .ok (.aload_n 0, 1) := by decide +kernel
theorem dX6_gyrates_15 : decode cX6_gyrates 15 = .ok (.getfield 54, 3) := by decide +kernel
theorem dX6_gyrates_18 : decode cX6_gyrates 18 = .ok (.if_icmp .ge 57, 3) := by decide +kernel
theorem dX6_gyrates_21 : decode cX6_gyrates 21 = .ok (.iconst 1, 1) := by decide +kernel
theorem dX6_gyrates_22 : decode cX6_gyrates 22 = .ok (.istore 5, 2) := by decide +kernel
theorem dX6_gyrates_24 : decode cX6_gyrates 24 = .ok (.iload 5, 2) := by decide +kernel
theorem dX6_gyrates_26 : decode cX6_gyrates 26 = .ok (.aload_n 0, 1) := by decide +kernel
theorem dX6_gyrates_27 : decode cX6_gyrates 27 = .ok (.getfield 54, 3) := by decide +kernel
theorem dX6_gyrates_30 : decode cX6_gyrates 30 = .ok (.if_icmp .ge 39, 3) := by decide +kernel
theorem dX6_gyrates_33 : decode cX6_gyrates 33 = .ok (.iload_n 2, 1) := by decide +kernel
theorem dX6_gyrates_34 : decode cX6_gyrates 34 = .ok (.iload 4, 2) := by decide +kernel
theorem dX6_gyrates_36 : decode cX6_gyrates 36 = .ok (.iload 5, 2) := by decide +kernel
theorem dX6_gyrates_38 : decode cX6_gyrates 38 = .ok (.iadd, 1) := by decide +kernel
theorem dX6_gyrates_39 : decode cX6_gyrates 39 = .ok (.iconst 2, 1) := by decide +kernel
theorem dX6_gyrates_40 : decode cX6_gyrates 40 = .ok (.irem, 1) := by decide +kernel
theorem dX6_gyrates_41 : decode cX6_gyrates 41 = .ok (.iload_n 3, 1) := by decide +kernel
theorem dX6_gyrates_42 : decode cX6_gyrates 42 = .ok (.if_icmp .ne 18, 3) := by decide +kernel
theorem dX6_gyrates_45 : decode cX6_gyrates 45 = .ok (.aload_n 1, 1) := by decide +kernel
theorem dX6_gyrates_46 : decode cX6_gyrates 46 = .ok (.iload 4, 2) := by decide +kernel
theorem dX6_gyrates_48 : decode cX6_gyrates 48 = .ok (.iload 5, 2) := by decide +kernel
theorem dX6_gyrates_50 : decode cX6_gyrates 50 = .ok (.invokestatic 106, 3) := by decide +kernel
theorem dX6_gyrates_53 : decode cX6_gyrates 53 = .ok (.ifCond .eq 7, 3) := by decide +kernel
theorem dX6_gyrates_56 : decode cX6_gyrates 56 = .ok (.iconst 1, 1) := by decide +kernel
theorem dX6_gyrates_57 : decode cX6_gyrates 57 = .ok (.goto 4, 3) := by decide +kernel
theorem dX6_gyrates_60 : decode cX6_gyrates 60 = .ok (.iconst 0, 1) := by decide +kernel
theorem dX6_gyrates_61 : decode cX6_gyrates 61 = .ok (.iadd, 1) := by decide +kernel
theorem dX6_gyrates_62 : decode cX6_gyrates 62 = .ok (.istore_n 2, 1) := by decide +kernel
theorem dX6_gyrates_63 : decode cX6_gyrates 63 = .ok (.iinc 5 1, 3) := by decide +kernel
theorem dX6_gyrates_66 : decode cX6_gyrates 66 = .ok (.goto (-42), 3) := by decide +kernel
theorem dX6_gyrates_69 : decode cX6_gyrates 69 = .ok (.iinc 4 1, 3) := by decide +kernel
theorem dX6_gyrates_72 : decode cX6_gyrates 72 = .ok (.goto (-60), 3) := by decide +kernel
theorem dX6_gyrates_75 : decode cX6_gyrates 75 = .ok (.iinc 3 1, 3) := by decide +kernel
theorem dX6_gyrates_78 : decode cX6_gyrates 78 = .ok (.goto (-74), 3) := by decide +kernel
theorem dX6_gyrates_81 : decode cX6_gyrates 81 = .ok (.iload_n 2, 1) := by decide +kernel
theorem dX6_gyrates_82 : decode cX6_gyrates 82 = .ok (.ireturn, 1) := by decide +kernel
set_option maxRecDepth 20000 in
theorem ggX6_gyrate_X6_in : GoodIn wsX6_gyrate wsX6_in := goodIn_r _ [6] (by decide +kernel) (by decide +kernel)
set_option maxRecDepth 20000 in
theorem gX6_gyrate_X6_in : GoodIn wsX6_gyrate (va_wsS RX6 62 yX6_in wsX6_in) := goodIn_app (goodIn_of _ (by decide +kernel)) ggX6_gyrate_X6_in
set_option maxRecDepth 20000 in
theorem ggX6_gyrate_X6_note : GoodIn wsX6_gyrate wsX6_note := goodIn_r _ [10, 11, 12, 13, 2, 30, 31, 32, 33, 34, 35, 36, 37, 38, 39, 40, 41, 42, 43, 44, 45, 46, 47, 48, 49, 50, 51, 52] (by decide +kernel) (by decide +kernel)
set_option maxRecDepth 20000 in
theorem gX6_gyrate_X6_note : GoodIn wsX6_gyrate (wsV RX6 103 RX6 yX6_note wsX6_note) := goodIn_app (goodIn_of _ (by decide +kernel)) ggX6_gyrate_X6_note
set_option maxRecDepth 20000 in
theorem ggX6_gyrate_X6_gyrates : GoodIn wsX6_gyrate wsX6_gyrates := goodIn_r _ [17, 13, 18, 19, 5, 20, 21, 22, 23, 24, 25, 26, 27, 28, 29, 30, 31, 32, 33, 34, 35, 36, 37, 38, 39, 40, 41, 42, 43, 44, 45, 46, 47, 48, 49, 50, 51, 52] (by decide +kernel) (by decide +kernel)
set_option maxRecDepth 20000 in
theorem gX6_gyrate_X6_gyrates : GoodIn wsX6_gyrate (wsV RX6 112 RX6 yX6_gyrates wsX6_gyrates) := goodIn_app (goodIn_of _ (by decide +kernel)) ggX6_gyrate_X6_gyrates
theorem dX6_gyrate_0 : decode cX6_gyrate 0 = .ok (.iload_n 1, 1) := by decide +kernel
theorem dX6_gyrate_1 : decode cX6_gyrate 1 = .ok (.i2l, 1) := by decide +kernel
theorem dX6_gyrate_2 : decode cX6_gyrate 2 = .ok (.lconst 1, 1) := by decide +kernel
theorem dX6_gyrate_3 : decode cX6_gyrate 3 = .ok (.ldc2_w 110, 3) := by decide +kernel
theorem dX6_gyrate_6 : decode cX6_gyrate 6 = .ok (.invokestatic 62, 3) := by decide +kernel
theorem dX6_gyrate_9 : decode cX6_gyrate 9 = .ok (.ifCond .ne 5, 3) := by decide +kernel
theorem dX6_gyrate_12 : decode cX6_gyrate 12 = .ok (.iconst (-1), 1) := by decide +kernel
theorem dX6_gyrate_13 : decode cX6_gyrate 13 = .ok (.ireturn, 1) := by decide +kernel
theorem dX6_gyrate_14 : decode cX6_gyrate 14 = .ok (.aload_n 0, 1) := by decide +kernel
theorem dX6_gyrate_15 : decode cX6_gyrate 15 = .ok (.invokevirtual 103, 3) := by decide +kernel
theorem dX6_gyrate_18 : decode cX6_gyrate 18 = .ok (.iconst 0, 1) := by decide +kernel
theorem dX6_gyrate_19 : decode cX6_gyrate 19 = .ok (.istore_n 2, 1) := by decide +kernel
theorem dX6_gyrate_20 : decode cX6_gyrate 20 = .ok (.iconst 0, 1) := by decide +kernel
theorem dX6_gyrate_21 : decode cX6_gyrate 21 = .ok (.istore_n 3, 1) := by decide +kernel
theorem dX6_gyrate_22 : decode cX6_gyrate 22 = .ok (.iload_n 3, 1) := by decide +kernel
theorem dX6_gyrate_23 : decode cX6_gyrate 23 = .ok (.iload_n 1, 1) := by decide +kernel
theorem dX6_gyrate_24 : decode cX6_gyrate 24 = .ok (.if_icmp .ge 20, 3) := by decide +kernel
theorem dX6_gyrate_27 : decode cX6_gyrate 27 = .ok (.iload_n 2, 1) := by decide +kernel
theorem dX6_gyrate_28 : decode cX6_gyrate 28 = .ok (.aload_n 0, 1) := by decide +kernel
theorem dX6_gyrate_29 : decode cX6_gyrate 29 = .ok (.aload_n 0, 1) := by decide +kernel
theorem dX6_gyrate_30 : decode cX6_gyrate 30 = .ok (.getfield 13, 3) := by decide +kernel
theorem dX6_gyrate_33 : decode cX6_gyrate 33 = .ok (.invokevirtual 112, 3) := by decide +kernel
theorem dX6_gyrate_36 : decode cX6_gyrate 36 = .ok (.iadd, 1) := by decide +kernel
theorem dX6_gyrate_37 : decode cX6_gyrate 37 = .ok (.istore_n 2, 1) := by decide +kernel
theorem dX6_gyrate_38 : decode cX6_gyrate 38 = .ok (.iinc 3 1, 3) := by decide +kernel
theorem dX6_gyrate_41 : decode cX6_gyrate 41 = .ok (.goto (-19), 3) := by decide +kernel
theorem dX6_gyrate_44 : decode cX6_gyrate 44 = .ok (.iload_n 2, 1) := by decide +kernel
theorem dX6_gyrate_45 : decode cX6_gyrate 45 = .ok (.ireturn, 1) := by decide +kernel
theorem dX6_isOwn_0 : decode cX6_isOwn 0 = .ok (.iconst 1, 1) := by decide +kernel
theorem dX6_isOwn_1 : decode cX6_isOwn 1 = .ok (.istore_n 2, 1) := by decide +kernel
theorem dX6_isOwn_2 : decode cX6_isOwn 2 = .ok (.iconst 0, 1) := by decide +kernel
theorem dX6_isOwn_3 : decode cX6_isOwn 3 = .ok (.istore_n 3, 1) := by decide +kernel
theorem dX6_isOwn_4 : decode cX6_isOwn 4 = .ok (.iload_n 3, 1) := by decide +kernel
theorem dX6_isOwn_5 : decode cX6_isOwn 5 = .ok (.aload_n 0, 1) := by decide +kernel
theorem dX6_isOwn_6 : decode cX6_isOwn 6 = .ok (.getfield 54, 3) := by decide +kernel
theorem dX6_isOwn_9 : decode cX6_isOwn 9 = .ok (.if_icmp .ge 61, 3) := by decide +kernel
theorem dX6_isOwn_12 : decode cX6_isOwn 12 = .ok (.iconst 0, 1) := by decide +kernel
theorem dX6_isOwn_13 : decode cX6_isOwn 13 = .ok (.istore 4, 2) := by decide +kernel
theorem dX6_isOwn_15 : decode cX6_isOwn 15 = .ok (.iload 4, 2) := by decide +kernel
theorem dX6_isOwn_17 : decode cX6_isOwn 17 = .ok (.aload_n 0, 1) := by decide +kernel
theorem dX6_isOwn_18 : decode cX6_isOwn 18 = .ok (.getfield 54, 3) := by decide +kernel
theorem dX6_isOwn_21 : decode cX6_isOwn 21 = .ok (.if_icmp .ge 43, 3) := by decide +kernel
theorem dX6_isOwn_24 : decode cX6_isOwn 24 = .ok (.iload_n 2, 1) := by decide +kernel
theorem dX6_isOwn_25 : decode cX6_isOwn 25 = .ok (.ifCond .eq 31, 3) := by decide +kernel
theorem dX6_isOwn_28 : decode cX6_isOwn 28 = .ok (.aload_n 1, 1) := by decide +kernel
theorem dX6_isOwn_29 : decode cX6_isOwn 29 = .ok (.bipush 6, 2) := by decide +kernel
theorem dX6_isOwn_31 : decode cX6_isOwn 31 = .ok (.iload_n 3, 1) := by decide +kernel
theorem dX6_isOwn_32 : decode cX6_isOwn 32 = .ok (.imul, 1) := by decide +kernel
theorem dX6_isOwn_33 : decode cX6_isOwn 33 = .ok (.iload 4, 2) := by decide +kernel
theorem dX6_isOwn_35 : decode cX6_isOwn 35 = .ok (.iadd, 1) := by decide +kernel
theorem dX6_isOwn_36 : decode cX6_isOwn 36 = .ok (.iaload, 1) := by decide +kernel
theorem dX6_isOwn_37 : decode cX6_isOwn 37 = .ok (.aload_n 0, 1) := by decide +kernel
theorem dX6_isOwn_38 : decode cX6_isOwn 38 = .ok (.getfield 13, 3) := by decide +kernel
theorem dX6_isOwn_41 : decode cX6_isOwn 41 = .ok (.bipush 6, 2) := by decide +kernel
theorem dX6_isOwn_43 : decode cX6_isOwn 43 = .ok (.iload_n 3, 1) := by decide +kernel
theorem dX6_isOwn_44 : decode cX6_isOwn 44 = .ok (.imul, 1) := by decide +kernel
theorem dX6_isOwn_45 : decode cX6_isOwn 45 = .ok (.iload 4, 2) := by decide +kernel
theorem dX6_isOwn_47 : decode cX6_isOwn 47 = .ok (.iadd, 1) := by decide +kernel
theorem dX6_isOwn_48 : decode cX6_isOwn 48 = .ok (.iaload, 1) := by decide +kernel
theorem dX6_isOwn_49 : decode cX6_isOwn 49 = .ok (.if_icmp .ne 7, 3) := by decide +kernel
theorem dX6_isOwn_52 : decode cX6_isOwn 52 = .ok (.iconst 1, 1) := by decide +kernel
theorem dX6_isOwn_53 : decode cX6_isOwn 53 = .ok (.goto 4, 3) := by decide +kernel
theorem dX6_isOwn_56 : decode cX6_isOwn 56 = .ok (.iconst 0, 1) := by decide +kernel
theorem dX6_isOwn_57 : decode cX6_isOwn 57 = .ok (.istore_n 2, 1) := by decide +kernel
theorem dX6_isOwn_58 : decode cX6_isOwn 58 = .ok (.iinc 4 1, 3) := by decide +kernel
theorem dX6_isOwn_61 : decode cX6_isOwn 61 = .ok (.goto (-46), 3) := by decide +kernel
theorem dX6_isOwn_64 : decode cX6_isOwn 64 = .ok (.iinc 3 1, 3) := by decide +kernel
theorem dX6_isOwn_67 : decode cX6_isOwn 67 = .ok (.goto (-63), 3) := by decide +kernel
theorem dX6_isOwn_70 : decode cX6_isOwn 70 = .ok (.iload_n 2, 1) := by decide +kernel
theorem dX6_isOwn_71 : decode cX6_isOwn 71 = .ok (.ireturn, 1) := by decide +kernel
set_option maxRecDepth 20000 in
theorem ggX6_orbit_X6_copy : GoodIn wsX6_orbit wsX6_copy := goodIn_r _ [6] (by decide +kernel) (by decide +kernel)
set_option maxRecDepth 20000 in
theorem gX6_orbit_X6_copy : GoodIn wsX6_orbit (va_wsS RX6 76 yX6_copy wsX6_copy) := goodIn_app (goodIn_of _ (by decide +kernel)) ggX6_orbit_X6_copy
set_option maxRecDepth 20000 in
theorem ggX6_orbit_X6_gyrates : GoodIn wsX6_orbit wsX6_gyrates := goodIn_r _ [10, 11, 12, 13, 5, 14, 15, 16, 17, 18, 19, 20, 21, 22, 23, 28, 29, 30, 31, 32, 33, 34, 35, 36, 37, 38, 39, 40, 41, 42, 43, 44, 45, 46, 47, 48, 49, 50] (by decide +kernel) (by decide +kernel)
set_option maxRecDepth 20000 in
theorem gX6_orbit_X6_gyrates : GoodIn wsX6_orbit (wsV RX6 112 RX6 yX6_gyrates wsX6_gyrates) := goodIn_app (goodIn_of _ (by decide +kernel)) ggX6_orbit_X6_gyrates
set_option maxRecDepth 20000 in
theorem ggX6_orbit_X6_isOwn : GoodIn wsX6_orbit wsX6_isOwn := goodIn_r _ [27, 11, 1, 28, 29, 30, 31, 32, 33, 34, 35, 36, 37, 38, 39, 40, 41, 42, 43, 44, 45, 46, 47, 48, 49, 50] (by decide +kernel) (by decide +kernel)
set_option maxRecDepth 20000 in
theorem gX6_orbit_X6_isOwn : GoodIn wsX6_orbit (wsV RX6 116 RX6 yX6_isOwn wsX6_isOwn) := goodIn_app (goodIn_of _ (by decide +kernel)) ggX6_orbit_X6_isOwn
theorem dX6_orbit_0 : decode cX6_orbit 0 = .ok (.aload_n 0, 1) := by decide +kernel
theorem dX6_orbit_1 : decode cX6_orbit 1 = .ok (.getfield 13, 3) := by decide +kernel
theorem dX6_orbit_4 : decode cX6_orbit 4 = .ok (.aload_n 0, 1) := by decide +kernel
theorem dX6_orbit_5 : decode cX6_orbit 5 = .ok (.getfield 25, 3) := by decide +kernel
theorem dX6_orbit_8 : decode cX6_orbit 8 = .ok (.invokestatic 76, 3) := by decide +kernel
theorem dX6_orbit_11 : decode cX6_orbit 11 = .ok (.iconst 0, 1) := by decide +kernel
theorem dX6_orbit_12 : decode cX6_orbit 12 = .ok (.istore_n 1, 1) := by decide +kernel
theorem dX6_orbit_13 : decode cX6_orbit 13 = .ok (.iconst 1, 1) := by decide +kernel
theorem dX6_orbit_14 : decode cX6_orbit 14 = .ok (.istore_n 2, 1) := by decide +kernel
theorem dX6_orbit_15 : decode cX6_orbit 15 = .ok (.iload_n 2, 1) := by decide +kernel
theorem dX6_orbit_16 : decode cX6_orbit 16 = .ok (.ifCond .eq 35, 3) := by decide +kernel
theorem dX6_orbit_19 : decode cX6_orbit 19 = .ok (.aload_n 0, 1) := by decide +kernel
theorem dX6_orbit_20 : decode cX6_orbit 20 = .ok (.aload_n 0, 1) := by decide +kernel
theorem dX6_orbit_21 : decode cX6_orbit 21 = .ok (.getfield 25, 3) := by decide +kernel
theorem dX6_orbit_24 : decode cX6_orbit 24 = .ok (.invokevirtual 112, 3) := by decide +kernel
theorem dX6_orbit_27 : decode cX6_orbit 27 = .ok (.pop, 1) := by decide +kernel
theorem dX6_orbit_28 : decode cX6_orbit 28 = .ok (.iinc 1 1, 3) := by decide +kernel
theorem dX6_orbit_31 : decode cX6_orbit 31 = .ok (.aload_n 0, 1) := by decide +kernel
theorem dX6_orbit_32 : decode cX6_orbit 32 = .ok (.aload_n 0, 1) := by decide +kernel
theorem dX6_orbit_33 : decode cX6_orbit 33 = .ok (.getfield 25, 3) := by decide +kernel
theorem dX6_orbit_36 : decode cX6_orbit 36 = .ok (.invokevirtual 116, 3) := by decide +kernel
theorem dX6_orbit_39 : decode cX6_orbit 39 = .ok (.ifCond .ne 7, 3) := by decide +kernel
theorem dX6_orbit_42 : decode cX6_orbit 42 = .ok (.iconst 1, 1) := by decide +kernel
theorem dX6_orbit_43 : decode cX6_orbit 43 = .ok (.goto 4, 3) := by decide +kernel
theorem dX6_orbit_46 : decode cX6_orbit 46 = .ok (.iconst 0, 1) := by decide +kernel
theorem dX6_orbit_47 : decode cX6_orbit 47 = .ok (.istore_n 2, 1) := by decide +kernel
theorem dX6_orbit_48 : decode cX6_orbit 48 = .ok (.goto (-33), 3) := by decide +kernel
theorem dX6_orbit_51 : decode cX6_orbit 51 = .ok (.iload_n 1, 1) := by decide +kernel
theorem dX6_orbit_52 : decode cX6_orbit 52 = .ok (.ireturn, 1) := by decide +kernel
theorem dX6_far_0 : decode cX6_far 0 = .ok (.iload_n 0, 1) := by decide +kernel
theorem dX6_far_1 : decode cX6_far 1 = .ok (.ifCond .ge 8, 3) := by decide +kernel
theorem dX6_far_4 : decode cX6_far 4 = .ok (.iload_n 0, 1) := by decide +kernel
theorem dX6_far_5 : decode cX6_far 5 = .ok (.ineg, 1) := by decide +kernel
theorem dX6_far_6 : decode cX6_far 6 = .ok (.goto 4, 3) := by decide +kernel
theorem dX6_far_9 : decode cX6_far 9 = .ok (.iload_n 0, 1) := by decide +kernel
theorem dX6_far_10 : decode cX6_far 10 = .ok (.ireturn, 1) := by decide +kernel
set_option maxRecDepth 20000 in
theorem ggX6_apart_X6_heightOf : GoodIn wsX6_apart wsX6_heightOf := goodIn_r _ [8, 9, 10, 7, 11] (by decide +kernel) (by decide +kernel)
set_option maxRecDepth 20000 in
theorem gX6_apart_X6_heightOf : GoodIn wsX6_apart (va_wsS RX6 94 yX6_heightOf wsX6_heightOf) := goodIn_app (goodIn_of _ (by decide +kernel)) ggX6_apart_X6_heightOf
set_option maxRecDepth 20000 in
theorem ggX6_apart_X6_far : GoodIn wsX6_apart wsX6_far := goodIn_r _ [14] (by decide +kernel) (by decide +kernel)
set_option maxRecDepth 20000 in
theorem gX6_apart_X6_far : GoodIn wsX6_apart (va_wsS RX6 120 yX6_far wsX6_far) := goodIn_app (goodIn_of _ (by decide +kernel)) ggX6_apart_X6_far
theorem dX6_apart_0 : decode cX6_apart 0 = .ok (.aload_n 0, 1) := by decide +kernel
theorem dX6_apart_1 : decode cX6_apart 1 = .ok (.getfield 83, 3) := by decide +kernel
theorem dX6_apart_4 : decode cX6_apart 4 = .ok (.aload_n 0, 1) := by decide +kernel
theorem dX6_apart_5 : decode cX6_apart 5 = .ok (.getfield 54, 3) := by decide +kernel
theorem dX6_apart_8 : decode cX6_apart 8 = .ok (.if_icmp .eq 6, 3) := by decide +kernel
theorem dX6_apart_11 : decode cX6_apart 11 = .ok (.bipush (-2), 2) := by decide +kernel
theorem dX6_apart_13 : decode cX6_apart 13 = .ok (.ireturn, 1) := by decide +kernel
theorem dX6_apart_14 : decode cX6_apart 14 = .ok (.iconst 0, 1) := by decide +kernel
theorem dX6_apart_15 : decode cX6_apart 15 = .ok (.istore_n 1, 1) := by decide +kernel
theorem dX6_apart_16 : decode cX6_apart 16 = .ok (.iconst 0, 1) := by decide +kernel
theorem dX6_apart_17 : decode cX6_apart 17 = .ok (.istore_n 2, 1) := by decide +kernel
theorem dX6_apart_18 : decode cX6_apart 18 = .ok (.iload_n 2, 1) := by decide +kernel
theorem dX6_apart_19 : decode cX6_apart 19 = .ok (.aload_n 0, 1) := by decide +kernel
theorem dX6_apart_20 : decode cX6_apart 20 = .ok (.getfield 54, 3) := by decide +kernel
theorem dX6_apart_23 : decode cX6_apart 23 = .ok (.if_icmp .gt 50, 3) := by decide +kernel
theorem dX6_apart_26 : decode cX6_apart 26 = .ok (.iconst 0, 1) := by decide +kernel
theorem dX6_apart_27 : decode cX6_apart 27 = .ok (.istore_n 3, 1) := by decide +kernel
theorem dX6_apart_28 : decode cX6_apart 28 = .ok (.iload_n 3, 1) := by decide +kernel
theorem dX6_apart_29 : decode cX6_apart 29 = .ok (.aload_n 0, 1) := by decide +kernel
theorem dX6_apart_30 : decode cX6_apart 30 = .ok (.getfield 54, 3) := by decide +kernel
theorem dX6_apart_33 : decode cX6_apart 33 = .ok (.if_icmp .gt 34, 3) := by decide +kernel
theorem dX6_apart_36 : decode cX6_apart 36 = .ok (.iload_n 1, 1) := by decide +kernel
theorem dX6_apart_37 : decode cX6_apart 37 = .ok (.aload_n 0, 1) := by decide +kernel
theorem dX6_apart_38 : decode cX6_apart 38 = .ok (.getfield 13, 3) := by decide +kernel
theorem dX6_apart_41 : decode cX6_apart 41 = .ok (.iload_n 2, 1) := by decide +kernel
theorem dX6_apart_42 : decode cX6_apart 42 = .ok (.iload_n 3, 1) := by decide +kernel
theorem dX6_apart_43 : decode cX6_apart 43 = .ok (.invokestatic 94, 3) := by decide +kernel
theorem dX6_apart_46 : decode cX6_apart 46 = .ok (.aload_n 0, 1) := by decide +kernel
theorem dX6_apart_47 : decode cX6_apart 47 = .ok (.getfield 16, 3) := by decide +kernel
theorem dX6_apart_50 : decode cX6_apart 50 = .ok (.iload_n 2, 1) := by decide +kernel
theorem dX6_apart_51 : decode cX6_apart 51 = .ok (.iload_n 3, 1) := by decide +kernel
theorem dX6_apart_52 : decode cX6_apart 52 = .ok (.invokestatic 94, 3) := by decide +kernel
theorem dX6_apart_55 : decode cX6_apart 55 = .ok (.isub, 1) := by decide +kernel
theorem dX6_apart_56 : decode cX6_apart 56 = .ok (.invokestatic 120, 3) := by decide +kernel
theorem dX6_apart_59 : decode cX6_apart 59 = .ok (.iadd, 1) := by decide +kernel
theorem dX6_apart_60 : decode cX6_apart 60 = .ok (.istore_n 1, 1) := by decide +kernel
theorem dX6_apart_61 : decode cX6_apart 61 = .ok (.iinc 3 1, 3) := by decide +kernel
theorem dX6_apart_64 : decode cX6_apart 64 = .ok (.goto (-36), 3) := by decide +kernel
theorem dX6_apart_67 : decode cX6_apart 67 = .ok (.iinc 2 1, 3) := by decide +kernel
theorem dX6_apart_70 : decode cX6_apart 70 = .ok (.goto (-52), 3) := by decide +kernel
theorem dX6_apart_73 : decode cX6_apart 73 = .ok (.iload_n 1, 1) := by decide +kernel
theorem dX6_apart_74 : decode cX6_apart 74 = .ok (.iconst 2, 1) := by decide +kernel
theorem dX6_apart_75 : decode cX6_apart 75 = .ok (.idiv, 1) := by decide +kernel
theorem dX6_apart_76 : decode cX6_apart 76 = .ok (.ireturn, 1) := by decide +kernel
set_option maxRecDepth 20000 in
theorem ggX6_next_X6_heightOf : GoodIn wsX6_next wsX6_heightOf := goodIn_r _ [8, 9, 10, 7, 11] (by decide +kernel) (by decide +kernel)
set_option maxRecDepth 20000 in
theorem gX6_next_X6_heightOf : GoodIn wsX6_next (va_wsS RX6 94 yX6_heightOf wsX6_heightOf) := goodIn_app (goodIn_of _ (by decide +kernel)) ggX6_next_X6_heightOf
set_option maxRecDepth 20000 in
theorem ggX6_next_X6_mayBe : GoodIn wsX6_next wsX6_mayBe := goodIn_r _ [14, 5, 6, 7, 8, 9, 10, 11] (by decide +kernel) (by decide +kernel)
set_option maxRecDepth 20000 in
theorem gX6_next_X6_mayBe : GoodIn wsX6_next (va_wsS RX6 100 yX6_mayBe wsX6_mayBe) := goodIn_app (goodIn_of _ (by decide +kernel)) ggX6_next_X6_mayBe
theorem dX6_next_0 : decode cX6_next 0 = .ok (.aload_n 0, 1) := by decide +kernel
theorem dX6_next_1 : decode cX6_next 1 = .ok (.getfield 83, 3) := by decide +kernel
theorem dX6_next_4 : decode cX6_next 4 = .ok (.aload_n 0, 1) := by decide +kernel
theorem dX6_next_5 : decode cX6_next 5 = .ok (.getfield 54, 3) := by decide +kernel
theorem dX6_next_8 : decode cX6_next 8 = .ok (.if_icmp .eq 6, 3) := by decide +kernel
theorem dX6_next_11 : decode cX6_next 11 = .ok (.bipush (-2), 2) := by decide +kernel
theorem dX6_next_13 : decode cX6_next 13 = .ok (.ireturn, 1) := by decide +kernel
theorem dX6_next_14 : decode cX6_next 14 = .ok (.iconst 1, 1) := by decide +kernel
theorem dX6_next_15 : decode cX6_next 15 = .ok (.istore_n 1, 1) := by decide +kernel
theorem dX6_next_16 : decode cX6_next 16 = .ok (.iload_n 1, 1) := by decide +kernel
theorem dX6_next_17 : decode cX6_next 17 = .ok (.aload_n 0, 1) := by decide +kernel
theorem dX6_next_18 : decode cX6_next 18 = .ok (.getfield 54, 3) := by decide +kernel
theorem dX6_next_21 : decode cX6_next 21 = .ok (.if_icmp .ge 83, 3) := by decide +kernel
theorem dX6_next_24 : decode cX6_next 24 = .ok (.iconst 1, 1) := by decide +kernel
theorem dX6_next_25 : decode cX6_next 25 = .ok (.istore_n 2, 1) := by decide +kernel
theorem dX6_next_26 : decode cX6_next 26 = .ok (.iload_n 2, 1) := by decide +kernel
theorem dX6_next_27 : decode cX6_next 27 = .ok (.aload_n 0, 1) := by decide +kernel
theorem dX6_next_28 : decode cX6_next 28 = .ok (.getfield 54, 3) := by decide +kernel
theorem dX6_next_31 : decode cX6_next 31 = .ok (.if_icmp .ge 67, 3) := by decide +kernel
theorem dX6_next_34 : decode cX6_next 34 = .ok (.aload_n 0, 1) := by decide +kernel
theorem dX6_next_35 : decode cX6_next 35 = .ok (.getfield 16, 3) := by decide +kernel
theorem dX6_next_38 : decode cX6_next 38 = .ok (.iload_n 1, 1) := by decide +kernel
theorem dX6_next_39 : decode cX6_next 39 = .ok (.iload_n 2, 1) := by decide +kernel
theorem dX6_next_40 : decode cX6_next 40 = .ok (.invokestatic 94, 3) := by decide +kernel
theorem dX6_next_43 : decode cX6_next 43 = .ok (.aload_n 0, 1) := by decide +kernel
theorem dX6_next_44 : decode cX6_next 44 = .ok (.getfield 13, 3) := by decide +kernel
theorem dX6_next_47 : decode cX6_next 47 = .ok (.iload_n 1, 1) := by decide +kernel
theorem dX6_next_48 : decode cX6_next 48 = .ok (.iload_n 2, 1) := by decide +kernel
theorem dX6_next_49 : decode cX6_next 49 = .ok (.invokestatic 94, 3) := by decide +kernel
theorem dX6_next_52 : decode cX6_next 52 = .ok (.isub, 1) := by decide +kernel
theorem dX6_next_53 : decode cX6_next 53 = .ok (.istore_n 3, 1) := by decide +kernel
theorem dX6_next_54 : decode cX6_next 54 = .ok (.aload_n 0, 1) := by decide +kernel
theorem dX6_next_55 : decode cX6_next 55 = .ok (.getfield 13, 3) := by decide +kernel
theorem dX6_next_58 : decode cX6_next 58 = .ok (.iload_n 1, 1) := by decide +kernel
theorem dX6_next_59 : decode cX6_next 59 = .ok (.iload_n 2, 1) := by decide +kernel
theorem dX6_next_60 : decode cX6_next 60 = .ok (.invokestatic 100, 3) := by decide +kernel
theorem dX6_next_63 : decode cX6_next 63 = .ok (.istore 4, 2) := by decide +kernel
theorem dX6_next_65 : decode cX6_next 65 = .ok (.iload 4, 2) := by decide +kernel
theorem dX6_next_67 : decode cX6_next 67 = .ok (.iconst 1, 1) := by decide +kernel
theorem dX6_next_68 : decode cX6_next 68 = .ok (.if_icmp .ne 7, 3) := by decide +kernel
theorem dX6_next_71 : decode cX6_next 71 = .ok (.iload_n 3, 1) := by decide +kernel
theorem dX6_next_72 : decode cX6_next 72 = .ok (.ifCond .gt 13, 3) := by decide +kernel
theorem dX6_next_75 : decode cX6_next 75 = .ok (.iload 4, 2) := by decide +kernel
theorem dX6_next_77 : decode cX6_next 77 = .ok (.iconst 2, 1) := by decide +kernel
theorem dX6_next_78 : decode cX6_next 78 = .ok (.if_icmp .ne 14, 3) := by decide +kernel
theorem dX6_next_81 : decode cX6_next 81 = .ok (.iload_n 3, 1) := by decide +kernel
theorem dX6_next_82 : decode cX6_next 82 = .ok (.ifCond .ge 10, 3) := by decide +kernel
theorem dX6_next_85 : decode cX6_next 85 = .ok (.bipush 10, 2) := by decide +kernel
theorem dX6_next_87 : decode cX6_next 87 = .ok (.iload_n 1, 1) := by decide +kernel
theorem dX6_next_88 : decode cX6_next 88 = .ok (.imul, 1) := by decide +kernel
theorem dX6_next_89 : decode cX6_next 89 = .ok (.iload_n 2, 1) := by decide +kernel
theorem dX6_next_90 : decode cX6_next 90 = .ok (.iadd, 1) := by decide +kernel
theorem dX6_next_91 : decode cX6_next 91 = .ok (.ireturn, 1) := by decide +kernel
theorem dX6_next_92 : decode cX6_next 92 = .ok (.iinc 2 1, 3) := by decide +kernel
theorem dX6_next_95 : decode cX6_next 95 = .ok (.goto (-69), 3) := by decide +kernel
theorem dX6_next_98 : decode cX6_next 98 = .ok (.iinc 1 1, 3) := by decide +kernel
theorem dX6_next_101 : decode cX6_next 101 = .ok (.goto (-85), 3) := by decide +kernel
theorem dX6_next_104 : decode cX6_next 104 = .ok (.bipush (-4), 2) := by decide +kernel
theorem dX6_next_106 : decode cX6_next 106 = .ok (.ireturn, 1) := by decide +kernel
set_option maxRecDepth 20000 in
theorem ggX6_both_X6_in : GoodIn wsX6_both wsX6_in := goodIn_r _ [9] (by decide +kernel) (by decide +kernel)
set_option maxRecDepth 20000 in
theorem gX6_both_X6_in : GoodIn wsX6_both (va_wsS RX6 62 yX6_in wsX6_in) := goodIn_app (goodIn_of _ (by decide +kernel)) ggX6_both_X6_in
set_option maxRecDepth 20000 in
theorem ggX6_both_X6_heightOf : GoodIn wsX6_both wsX6_heightOf := goodIn_r _ [12, 13, 14, 8, 15] (by decide +kernel) (by decide +kernel)
set_option maxRecDepth 20000 in
theorem gX6_both_X6_heightOf : GoodIn wsX6_both (va_wsS RX6 94 yX6_heightOf wsX6_heightOf) := goodIn_app (goodIn_of _ (by decide +kernel)) ggX6_both_X6_heightOf
set_option maxRecDepth 20000 in
theorem ggX6_both_X6_note : GoodIn wsX6_both wsX6_note := goodIn_r _ [19, 20, 21, 2, 3, 22, 23, 24, 25, 26, 27, 28, 29, 30, 31, 32, 33, 34, 35, 36, 37, 38, 39, 40, 41, 42, 43, 44] (by decide +kernel) (by decide +kernel)
set_option maxRecDepth 20000 in
theorem gX6_both_X6_note : GoodIn wsX6_both (wsV RX6 103 RX6 yX6_note wsX6_note) := goodIn_app (goodIn_of _ (by decide +kernel)) ggX6_both_X6_note
theorem dX6_both_0 : decode cX6_both 0 = .ok (.iload_n 1, 1) := by decide +kernel
theorem dX6_both_1 : decode cX6_both 1 = .ok (.i2l, 1) := by decide +kernel
theorem dX6_both_2 : decode cX6_both 2 = .ok (.lconst 0, 1) := by decide +kernel
theorem dX6_both_3 : decode cX6_both 3 = .ok (.lconst 1, 1) := by decide +kernel
theorem dX6_both_4 : decode cX6_both 4 = .ok (.invokestatic 62, 3) := by decide +kernel
theorem dX6_both_7 : decode cX6_both 7 = .ok (.ifCond .ne 5, 3) := by decide +kernel
theorem dX6_both_10 : decode cX6_both 10 = .ok (.iconst (-1), 1) := by decide +kernel
theorem dX6_both_11 : decode cX6_both 11 = .ok (.ireturn, 1) := by decide +kernel
theorem dX6_both_12 : decode cX6_both 12 = .ok (.aload_n 0, 1) := by decide +kernel
theorem dX6_both_13 : decode cX6_both 13 = .ok (.getfield 83, 3) := by decide +kernel
theorem dX6_both_16 : decode cX6_both 16 = .ok (.aload_n 0, 1) := by decide +kernel
theorem dX6_both_17 : decode cX6_both 17 = .ok (.getfield 54, 3) := by decide +kernel
theorem dX6_both_20 : decode cX6_both 20 = .ok (.if_icmp .eq 6, 3) := by decide +kernel
theorem dX6_both_23 : decode cX6_both 23 = .ok (.bipush (-2), 2) := by decide +kernel
theorem dX6_both_25 : decode cX6_both 25 = .ok (.ireturn, 1) := by decide +kernel
theorem dX6_both_26 : decode cX6_both 26 = .ok (.iconst 0, 1) := by decide +kernel
theorem dX6_both_27 : decode cX6_both 27 = .ok (.istore_n 2, 1) := by decide +kernel
theorem dX6_both_28 : decode cX6_both 28 = .ok (.iconst 0, 1) := by decide +kernel
theorem dX6_both_29 : decode cX6_both 29 = .ok (.istore_n 3, 1) := by decide +kernel
theorem dX6_both_30 : decode cX6_both 30 = .ok (.iload_n 3, 1) := by decide +kernel
theorem dX6_both_31 : decode cX6_both 31 = .ok (.aload_n 0, 1) := by decide +kernel
theorem dX6_both_32 : decode cX6_both 32 = .ok (.getfield 54, 3) := by decide +kernel
theorem dX6_both_35 : decode cX6_both 35 = .ok (.if_icmp .gt 128, 3) := by decide +kernel
theorem dX6_both_38 : decode cX6_both 38 = .ok (.iconst 0, 1) := by decide +kernel
theorem dX6_both_39 : decode cX6_both 39 = .ok (.istore 4, 2) := by decide +kernel
theorem dX6_both_41 : decode cX6_both 41 = .ok (.iload 4, 2) := by decide +kernel
theorem dX6_both_43 : decode cX6_both 43 = .ok (.aload_n 0, 1) := by decide +kernel
theorem dX6_both_44 : decode cX6_both 44 = .ok (.getfield 54, 3) := by decide +kernel
theorem dX6_both_47 : decode cX6_both 47 = .ok (.if_icmp .gt 110, 3) := by decide +kernel
theorem dX6_both_50 : decode cX6_both 50 = .ok (.aload_n 0, 1) := by decide +kernel
theorem dX6_both_51 : decode cX6_both 51 = .ok (.getfield 13, 3) := by decide +kernel
theorem dX6_both_54 : decode cX6_both 54 = .ok (.iload_n 3, 1) := by decide +kernel
theorem dX6_both_55 : decode cX6_both 55 = .ok (.iload 4, 2) := by decide +kernel
theorem dX6_both_57 : decode cX6_both 57 = .ok (.invokestatic 94, 3) := by decide +kernel
theorem dX6_both_60 : decode cX6_both 60 = .ok (.istore 5, 2) := by decide +kernel
theorem dX6_both_62 : decode cX6_both 62 = .ok (.aload_n 0, 1) := by decide +kernel
theorem dX6_both_63 : decode cX6_both 63 = .ok (.getfield 16, 3) := by decide +kernel
theorem dX6_both_66 : decode cX6_both 66 = .ok (.iload_n 3, 1) := by decide +kernel
theorem dX6_both_67 : decode cX6_both 67 = .ok (.iload 4, 2) := by decide +kernel
theorem dX6_both_69 : decode cX6_both 69 = .ok (.invokestatic 94, 3) := by decide +kernel
theorem dX6_both_72 : decode cX6_both 72 = .ok (.istore 6, 2) := by decide +kernel
theorem dX6_both_74 : decode cX6_both 74 = .ok (.iload_n 1, 1) := by decide +kernel
theorem dX6_both_75 : decode cX6_both 75 = .ok (.ifCond .ne 18, 3) := by decide +kernel
theorem dX6_both_78 : decode cX6_both 78 = .ok (.iload 6, 2) := by decide +kernel
theorem dX6_both_80 : decode cX6_both 80 = .ok (.iload 5, 2) := by decide +kernel
theorem dX6_both_82 : decode cX6_both 82 = .ok (.if_icmp .ge 7, 3) := by decide +kernel
theorem dX6_both_85 : decode cX6_both 85 = .ok (.iconst 1, 1) := by decide +kernel
theorem dX6_both_86 : decode cX6_both 86 = .ok (.goto 19, 3) := by decide +kernel
theorem dX6_both_89 : decode cX6_both 89 = .ok (.iconst 0, 1) := by decide +kernel
theorem dX6_both_90 : decode cX6_both 90 = .ok (.goto 15, 3) := by decide +kernel
theorem dX6_both_93 : decode cX6_both 93 = .ok (.iload 6, 2) := by decide +kernel
theorem dX6_both_95 : decode cX6_both 95 = .ok (.iload 5, 2) := by decide +kernel
theorem dX6_both_97 : decode cX6_both 97 = .ok (.if_icmp .le 7, 3) := by decide +kernel
theorem dX6_both_100 : decode cX6_both 100 = .ok (.iconst 1, 1) := by decide +kernel
theorem dX6_both_101 : decode cX6_both 101 = .ok (.goto 4, 3) := by decide +kernel
theorem dX6_both_104 : decode cX6_both 104 = .ok (.iconst 0, 1) := by decide +kernel
theorem dX6_both_105 : decode cX6_both 105 = .ok (.istore 7, 2) := by decide +kernel
theorem dX6_both_107 : decode cX6_both 107 = .ok (.iload_n 2, 1) := by decide +kernel
theorem dX6_both_108 : decode cX6_both 108 = .ok (.iload 7, 2) := by decide +kernel
theorem dX6_both_110 : decode cX6_both 110 = .ok (.ifCond .eq 7, 3) := by decide +kernel
theorem dX6_both_113 : decode cX6_both 113 = .ok (.iconst 1, 1) := by decide +kernel
theorem dX6_both_114 : decode cX6_both 114 = .ok (.goto 4, 3) := by decide +kernel
theorem dX6_both_117 : decode cX6_both 117 = .ok (.iconst 0, 1) := by decide +kernel
theorem dX6_both_118 : decode cX6_both 118 = .ok (.iadd, 1) := by decide +kernel
theorem dX6_both_119 : decode cX6_both 119 = .ok (.istore_n 2, 1) := by decide +kernel
theorem dX6_both_120 : decode cX6_both 120 = .ok (.aload_n 0, 1) := by decide +kernel
theorem dX6_both_121 : decode cX6_both 121 = .ok (.getfield 28, 3) := by decide +kernel
theorem dX6_both_124 : decode cX6_both 124 = .ok (.bipush 7, 2) := by decide +kernel
theorem dX6_both_126 : decode cX6_both 126 = .ok (.iload_n 3, 1) := by decide +kernel
theorem dX6_both_127 : decode cX6_both 127 = .ok (.imul, 1) := by decide +kernel
theorem dX6_both_128 : decode cX6_both 128 = .ok (.iload 4, 2) := by decide +kernel
theorem dX6_both_130 : decode cX6_both 130 = .ok (.iadd, 1) := by decide +kernel
theorem dX6_both_131 : decode cX6_both 131 = .ok (.iload_n 3, 1) := by decide +kernel
theorem dX6_both_132 : decode cX6_both 132 = .ok (.iload 4, 2) := by decide +kernel
theorem dX6_both_134 : decode cX6_both 134 = .ok (.iadd, 1) := by decide +kernel
theorem dX6_both_135 : decode cX6_both 135 = .ok (.iload 7, 2) := by decide +kernel
theorem dX6_both_137 : decode cX6_both 137 = .ok (.ifCond .eq 8, 3) := by decide +kernel
theorem dX6_both_140 : decode cX6_both 140 = .ok (.iload 6, 2) := by decide +kernel
theorem dX6_both_142 : decode cX6_both 142 = .ok (.goto 5, 3) := by decide +kernel
theorem dX6_both_145 : decode cX6_both 145 = .ok (.iload 5, 2) := by decide +kernel
theorem dX6_both_147 : decode cX6_both 147 = .ok (.isub, 1) := by decide +kernel
theorem dX6_both_148 : decode cX6_both 148 = .ok (.iconst 2, 1) := by decide +kernel
theorem dX6_both_149 : decode cX6_both 149 = .ok (.idiv, 1) := by decide +kernel
theorem dX6_both_150 : decode cX6_both 150 = .ok (.iastore, 1) := by decide +kernel
theorem dX6_both_151 : decode cX6_both 151 = .ok (.iinc 4 1, 3) := by decide +kernel
theorem dX6_both_154 : decode cX6_both 154 = .ok (.goto (-113), 3) := by decide +kernel
theorem dX6_both_157 : decode cX6_both 157 = .ok (.iinc 3 1, 3) := by decide +kernel
theorem dX6_both_160 : decode cX6_both 160 = .ok (.goto (-130), 3) := by decide +kernel
theorem dX6_both_163 : decode cX6_both 163 = .ok (.aload_n 0, 1) := by decide +kernel
theorem dX6_both_164 : decode cX6_both 164 = .ok (.invokevirtual 103, 3) := by decide +kernel
theorem dX6_both_167 : decode cX6_both 167 = .ok (.iconst 0, 1) := by decide +kernel
theorem dX6_both_168 : decode cX6_both 168 = .ok (.istore_n 3, 1) := by decide +kernel
theorem dX6_both_169 : decode cX6_both 169 = .ok (.iload_n 3, 1) := by decide +kernel
theorem dX6_both_170 : decode cX6_both 170 = .ok (.aload_n 0, 1) := by decide +kernel
theorem dX6_both_171 : decode cX6_both 171 = .ok (.getfield 54, 3) := by decide +kernel
theorem dX6_both_174 : decode cX6_both 174 = .ok (.if_icmp .ge 98, 3) := by decide +kernel
theorem dX6_both_177 : decode cX6_both 177 = .ok (.iconst 0, 1) := by decide +kernel
theorem dX6_both_178 : decode cX6_both 178 = .ok (.istore 4, 2) := by decide +kernel
theorem dX6_both_180 : decode cX6_both 180 = .ok (.iload 4, 2) := by decide +kernel
theorem dX6_both_182 : decode cX6_both 182 = .ok (.aload_n 0, 1) := by decide +kernel
theorem dX6_both_183 : decode cX6_both 183 = .ok (.getfield 54, 3) := by decide +kernel
theorem dX6_both_186 : decode cX6_both 186 = .ok (.if_icmp .ge 80, 3) := by decide +kernel
theorem dX6_both_189 : decode cX6_both 189 = .ok (.aload_n 0, 1) := by decide +kernel
theorem dX6_both_190 : decode cX6_both 190 = .ok (.getfield 13, 3) := by decide +kernel
theorem dX6_both_193 : decode cX6_both 193 = .ok (.bipush 6, 2) := by decide +kernel
theorem dX6_both_195 : decode cX6_both 195 = .ok (.iload_n 3, 1) := by decide +kernel
theorem dX6_both_196 : decode cX6_both 196 = .ok (.imul, 1) := by decide +kernel
theorem dX6_both_197 : decode cX6_both 197 = .ok (.iload 4, 2) := by decide +kernel
theorem dX6_both_199 : decode cX6_both 199 = .ok (.iadd, 1) := by decide +kernel
theorem dX6_both_200 : decode cX6_both 200 = .ok (.aload_n 0, 1) := by decide +kernel
theorem dX6_both_201 : decode cX6_both 201 = .ok (.getfield 28, 3) := by decide +kernel
theorem dX6_both_204 : decode cX6_both 204 = .ok (.bipush 7, 2) := by decide +kernel
theorem dX6_both_206 : decode cX6_both 206 = .ok (.iload_n 3, 1) := by decide +kernel
theorem dX6_both_207 : decode cX6_both 207 = .ok (.imul, 1) := by decide +kernel
theorem dX6_both_208 : decode cX6_both 208 = .ok (.bipush 8, 2) := by decide +kernel
theorem dX6_both_210 : decode cX6_both 210 = .ok (.iadd, 1) := by decide +kernel
theorem dX6_both_211 : decode cX6_both 211 = .ok (.iload 4, 2) := by decide +kernel
theorem dX6_both_213 : decode cX6_both 213 = .ok (.iadd, 1) := by decide +kernel
theorem dX6_both_214 : decode cX6_both 214 = .ok (.iaload, 1) := by decide +kernel
theorem dX6_both_215 : decode cX6_both 215 = .ok (.aload_n 0, 1) := by decide +kernel
theorem dX6_both_216 : decode cX6_both 216 = .ok (.getfield 28, 3) := by decide +kernel
theorem dX6_both_219 : decode cX6_both 219 = .ok (.bipush 7, 2) := by decide +kernel
theorem dX6_both_221 : decode cX6_both 221 = .ok (.iload_n 3, 1) := by decide +kernel
theorem dX6_both_222 : decode cX6_both 222 = .ok (.imul, 1) := by decide +kernel
theorem dX6_both_223 : decode cX6_both 223 = .ok (.bipush 7, 2) := by decide +kernel
theorem dX6_both_225 : decode cX6_both 225 = .ok (.iadd, 1) := by decide +kernel
theorem dX6_both_226 : decode cX6_both 226 = .ok (.iload 4, 2) := by decide +kernel
theorem dX6_both_228 : decode cX6_both 228 = .ok (.iadd, 1) := by decide +kernel
theorem dX6_both_229 : decode cX6_both 229 = .ok (.iaload, 1) := by decide +kernel
theorem dX6_both_230 : decode cX6_both 230 = .ok (.isub, 1) := by decide +kernel
theorem dX6_both_231 : decode cX6_both 231 = .ok (.aload_n 0, 1) := by decide +kernel
theorem dX6_both_232 : decode cX6_both 232 = .ok (.getfield 28, 3) := by decide +kernel
theorem dX6_both_235 : decode cX6_both 235 = .ok (.bipush 7, 2) := by decide +kernel
theorem dX6_both_237 : decode cX6_both 237 = .ok (.iload_n 3, 1) := by decide +kernel
theorem dX6_both_238 : decode cX6_both 238 = .ok (.imul, 1) := by decide +kernel
theorem dX6_both_239 : decode cX6_both 239 = .ok (.iconst 1, 1) := by decide +kernel
theorem dX6_both_240 : decode cX6_both 240 = .ok (.iadd, 1) := by decide +kernel
theorem dX6_both_241 : decode cX6_both 241 = .ok (.iload 4, 2) := by decide +kernel
theorem dX6_both_243 : decode cX6_both 243 = .ok (.iadd, 1) := by decide +kernel
theorem dX6_both_244 : decode cX6_both 244 = .ok (.iaload, 1) := by decide +kernel
theorem dX6_both_245 : decode cX6_both 245 = .ok (.isub, 1) := by decide +kernel
theorem dX6_both_246 : decode cX6_both 246 = .ok (.aload_n 0, 1) := by decide +kernel
theorem dX6_both_247 : decode cX6_both 247 = .ok (.getfield 28, 3) := by decide +kernel
theorem dX6_both_250 : decode cX6_both 250 = .ok (.bipush 7, 2) := by decide +kernel
theorem dX6_both_252 : decode cX6_both 252 = .ok (.iload_n 3, 1) := by decide +kernel
theorem dX6_both_253 : decode cX6_both 253 = .ok (.imul, 1) := by decide +kernel
theorem dX6_both_254 : decode cX6_both 254 = .ok (.iload 4, 2) := by decide +kernel
theorem dX6_both_256 : decode cX6_both 256 = .ok (.iadd, 1) := by decide +kernel
theorem dX6_both_257 : decode cX6_both 257 = .ok (.iaload, 1) := by decide +kernel
theorem dX6_both_258 : decode cX6_both 258 = .ok (.iadd, 1) := by decide +kernel
theorem dX6_both_259 : decode cX6_both 259 = .ok (.iastore, 1) := by decide +kernel
theorem dX6_both_260 : decode cX6_both 260 = .ok (.iinc 4 1, 3) := by decide +kernel
theorem dX6_both_263 : decode cX6_both 263 = .ok (.goto (-83), 3) := by decide +kernel
theorem dX6_both_266 : decode cX6_both 266 = .ok (.iinc 3 1, 3) := by decide +kernel
theorem dX6_both_269 : decode cX6_both 269 = .ok (.goto (-100), 3) := by decide +kernel
theorem dX6_both_272 : decode cX6_both 272 = .ok (.iload_n 2, 1) := by decide +kernel
theorem dX6_both_273 : decode cX6_both 273 = .ok (.ireturn, 1) := by decide +kernel
set_option maxRecDepth 20000 in
theorem ggX6_turn_X6_in : GoodIn wsX6_turn wsX6_in := goodIn_r _ [8] (by decide +kernel) (by decide +kernel)
set_option maxRecDepth 20000 in
theorem gX6_turn_X6_in : GoodIn wsX6_turn (va_wsS RX6 62 yX6_in wsX6_in) := goodIn_app (goodIn_of _ (by decide +kernel)) ggX6_turn_X6_in
set_option maxRecDepth 20000 in
theorem ggX6_turn_X6_note : GoodIn wsX6_turn wsX6_note := goodIn_r _ [12, 13, 14, 4, 2, 18, 19, 20, 21, 22, 23, 24, 25, 26, 27, 28, 29, 30, 31, 32, 33, 34, 35, 36, 37, 38, 39, 40] (by decide +kernel) (by decide +kernel)
set_option maxRecDepth 20000 in
theorem gX6_turn_X6_note : GoodIn wsX6_turn (wsV RX6 103 RX6 yX6_note wsX6_note) := goodIn_app (goodIn_of _ (by decide +kernel)) ggX6_turn_X6_note
set_option maxRecDepth 20000 in
theorem ggX6_turn_X6_copy : GoodIn wsX6_turn wsX6_copy := goodIn_r _ [17] (by decide +kernel) (by decide +kernel)
set_option maxRecDepth 20000 in
theorem gX6_turn_X6_copy : GoodIn wsX6_turn (va_wsS RX6 76 yX6_copy wsX6_copy) := goodIn_app (goodIn_of _ (by decide +kernel)) ggX6_turn_X6_copy
theorem dX6_turn_0 : decode cX6_turn 0 = .ok (.iload_n 1, 1) := by decide +kernel
theorem dX6_turn_1 : decode cX6_turn 1 = .ok (.i2l, 1) := by decide +kernel
theorem dX6_turn_2 : decode cX6_turn 2 = .ok (.lconst 1, 1) := by decide +kernel
theorem dX6_turn_3 : decode cX6_turn 3 = .ok (.ldc2_w 124, 3) := by decide +kernel
theorem dX6_turn_6 : decode cX6_turn 6 = .ok (.invokestatic 62, 3) := by decide +kernel
theorem dX6_turn_9 : decode cX6_turn 9 = .ok (.ifCond .ne 5, 3) := by decide +kernel
theorem dX6_turn_12 : decode cX6_turn 12 = .ok (.iconst (-1), 1) := by decide +kernel
theorem dX6_turn_13 : decode cX6_turn 13 = .ok (.ireturn, 1) := by decide +kernel
theorem dX6_turn_14 : decode cX6_turn 14 = .ok (.aload_n 0, 1) := by decide +kernel
theorem dX6_turn_15 : decode cX6_turn 15 = .ok (.invokevirtual 103, 3) := by decide +kernel
theorem dX6_turn_18 : decode cX6_turn 18 = .ok (.aload_n 0, 1) := by decide +kernel
theorem dX6_turn_19 : decode cX6_turn 19 = .ok (.getfield 13, 3) := by decide +kernel
theorem dX6_turn_22 : decode cX6_turn 22 = .ok (.aload_n 0, 1) := by decide +kernel
theorem dX6_turn_23 : decode cX6_turn 23 = .ok (.getfield 25, 3) := by decide +kernel
theorem dX6_turn_26 : decode cX6_turn 26 = .ok (.invokestatic 76, 3) := by decide +kernel
theorem dX6_turn_29 : decode cX6_turn 29 = .ok (.iconst 0, 1) := by decide +kernel
theorem dX6_turn_30 : decode cX6_turn 30 = .ok (.istore_n 2, 1) := by decide +kernel
theorem dX6_turn_31 : decode cX6_turn 31 = .ok (.aload_n 0, 1) := by decide +kernel
theorem dX6_turn_32 : decode cX6_turn 32 = .ok (.getfield 54, 3) := by decide +kernel
theorem dX6_turn_35 : decode cX6_turn 35 = .ok (.iconst 1, 1) := by decide +kernel
theorem dX6_turn_36 : decode cX6_turn 36 = .ok (.isub, 1) := by decide +kernel
theorem dX6_turn_37 : decode cX6_turn 37 = .ok (.istore_n 3, 1) := by decide +kernel
theorem dX6_turn_38 : decode cX6_turn 38 = .ok (.iconst 0, 1) := by decide +kernel
theorem dX6_turn_39 : decode cX6_turn 39 = .ok (.istore 4, 2) := by decide +kernel
theorem dX6_turn_41 : decode cX6_turn 41 = .ok (.iload 4, 2) := by decide +kernel
theorem dX6_turn_43 : decode cX6_turn 43 = .ok (.aload_n 0, 1) := by decide +kernel
theorem dX6_turn_44 : decode cX6_turn 44 = .ok (.getfield 54, 3) := by decide +kernel
theorem dX6_turn_47 : decode cX6_turn 47 = .ok (.if_icmp .ge 180, 3) := by decide +kernel
theorem dX6_turn_50 : decode cX6_turn 50 = .ok (.iconst 0, 1) := by decide +kernel
theorem dX6_turn_51 : decode cX6_turn 51 = .ok (.istore 5, 2) := by decide +kernel
theorem dX6_turn_53 : decode cX6_turn 53 = .ok (.iload 5, 2) := by decide +kernel
theorem dX6_turn_55 : decode cX6_turn 55 = .ok (.aload_n 0, 1) := by decide +kernel
theorem dX6_turn_56 : decode cX6_turn 56 = .ok (.getfield 54, 3) := by decide +kernel
theorem dX6_turn_59 : decode cX6_turn 59 = .ok (.if_icmp .ge 162, 3) := by decide +kernel
theorem dX6_turn_62 : decode cX6_turn 62 = .ok (.iload_n 1, 1) := by decide +kernel
theorem dX6_turn_63 : decode cX6_turn 63 = .ok (.iconst 1, 1) := by decide +kernel
theorem dX6_turn_64 : decode cX6_turn 64 = .ok (.if_icmp .ne 16, 3) := by decide +kernel
theorem dX6_turn_67 : decode cX6_turn 67 = .ok (.bipush 6, 2) := by decide +kernel
theorem dX6_turn_69 : decode cX6_turn 69 = .ok (.iload_n 3, 1) := by decide +kernel
theorem dX6_turn_70 : decode cX6_turn 70 = .ok (.iload 5, 2) := by decide +kernel
theorem dX6_turn_72 : decode cX6_turn 72 = .ok (.isub, 1) := by decide +kernel
theorem dX6_turn_73 : decode cX6_turn 73 = .ok (.imul, 1) := by decide +kernel
theorem dX6_turn_74 : decode cX6_turn 74 = .ok (.iload 4, 2) := by decide +kernel
theorem dX6_turn_76 : decode cX6_turn 76 = .ok (.iadd, 1) := by decide +kernel
theorem dX6_turn_77 : decode cX6_turn 77 = .ok (.goto 85, 3) := by decide +kernel
theorem dX6_turn_80 : decode cX6_turn 80 = .ok (.iload_n 1, 1) := by decide +kernel
theorem dX6_turn_81 : decode cX6_turn 81 = .ok (.iconst 2, 1) := by decide +kernel
theorem dX6_turn_82 : decode cX6_turn 82 = .ok (.if_icmp .ne 18, 3) := by decide +kernel
theorem dX6_turn_85 : decode cX6_turn 85 = .ok (.bipush 6, 2) := by decide +kernel
theorem dX6_turn_87 : decode cX6_turn 87 = .ok (.iload_n 3, 1) := by decide +kernel
theorem dX6_turn_88 : decode cX6_turn 88 = .ok (.iload 4, 2) := by decide +kernel
theorem dX6_turn_90 : decode cX6_turn 90 = .ok (.isub, 1) := by decide +kernel
theorem dX6_turn_91 : decode cX6_turn 91 = .ok (.imul, 1) := by decide +kernel
theorem dX6_turn_92 : decode cX6_turn 92 = .ok (.iload_n 3, 1) := by decide +kernel
theorem dX6_turn_93 : decode cX6_turn 93 = .ok (.iadd, 1) := by decide +kernel
theorem dX6_turn_94 : decode cX6_turn 94 = .ok (.iload 5, 2) := by decide +kernel
theorem dX6_turn_96 : decode cX6_turn 96 = .ok (.isub, 1) := by decide +kernel
theorem dX6_turn_97 : decode cX6_turn 97 = .ok (.goto 65, 3) := by decide +kernel
theorem dX6_turn_100 : decode cX6_turn 100 = .ok (.iload_n 1, 1) := by decide +kernel
theorem dX6_turn_101 : decode cX6_turn 101 = .ok (.iconst 3, 1) := by decide +kernel
theorem dX6_turn_102 : decode cX6_turn 102 = .ok (.if_icmp .ne 16, 3) := by decide +kernel
theorem dX6_turn_105 : decode cX6_turn 105 = .ok (.bipush 6, 2) := by decide +kernel
theorem dX6_turn_107 : decode cX6_turn 107 = .ok (.iload 5, 2) := by decide +kernel
theorem dX6_turn_109 : decode cX6_turn 109 = .ok (.imul, 1) := by decide +kernel
theorem dX6_turn_110 : decode cX6_turn 110 = .ok (.iload_n 3, 1) := by decide +kernel
theorem dX6_turn_111 : decode cX6_turn 111 = .ok (.iadd, 1) := by decide +kernel
theorem dX6_turn_112 : decode cX6_turn 112 = .ok (.iload 4, 2) := by decide +kernel
theorem dX6_turn_114 : decode cX6_turn 114 = .ok (.isub, 1) := by decide +kernel
theorem dX6_turn_115 : decode cX6_turn 115 = .ok (.goto 47, 3) := by decide +kernel
theorem dX6_turn_118 : decode cX6_turn 118 = .ok (.iload_n 1, 1) := by decide +kernel
theorem dX6_turn_119 : decode cX6_turn 119 = .ok (.iconst 4, 1) := by decide +kernel
theorem dX6_turn_120 : decode cX6_turn 120 = .ok (.if_icmp .ne 16, 3) := by decide +kernel
theorem dX6_turn_123 : decode cX6_turn 123 = .ok (.bipush 6, 2) := by decide +kernel
theorem dX6_turn_125 : decode cX6_turn 125 = .ok (.iload 4, 2) := by decide +kernel
theorem dX6_turn_127 : decode cX6_turn 127 = .ok (.imul, 1) := by decide +kernel
theorem dX6_turn_128 : decode cX6_turn 128 = .ok (.iload_n 3, 1) := by decide +kernel
theorem dX6_turn_129 : decode cX6_turn 129 = .ok (.iadd, 1) := by decide +kernel
theorem dX6_turn_130 : decode cX6_turn 130 = .ok (.iload 5, 2) := by decide +kernel
theorem dX6_turn_132 : decode cX6_turn 132 = .ok (.isub, 1) := by decide +kernel
theorem dX6_turn_133 : decode cX6_turn 133 = .ok (.goto 29, 3) := by decide +kernel
theorem dX6_turn_136 : decode cX6_turn 136 = .ok (.iload_n 1, 1) := by decide +kernel
theorem dX6_turn_137 : decode cX6_turn 137 = .ok (.iconst 5, 1) := by decide +kernel
theorem dX6_turn_138 : decode cX6_turn 138 = .ok (.if_icmp .ne 16, 3) := by decide +kernel
theorem dX6_turn_141 : decode cX6_turn 141 = .ok (.bipush 6, 2) := by decide +kernel
theorem dX6_turn_143 : decode cX6_turn 143 = .ok (.iload_n 3, 1) := by decide +kernel
theorem dX6_turn_144 : decode cX6_turn 144 = .ok (.iload 4, 2) := by decide +kernel
theorem dX6_turn_146 : decode cX6_turn 146 = .ok (.isub, 1) := by decide +kernel
theorem dX6_turn_147 : decode cX6_turn 147 = .ok (.imul, 1) := by decide +kernel
theorem dX6_turn_148 : decode cX6_turn 148 = .ok (.iload 5, 2) := by decide +kernel
theorem dX6_turn_150 : decode cX6_turn 150 = .ok (.iadd, 1) := by decide +kernel
theorem dX6_turn_151 : decode cX6_turn 151 = .ok (.goto 11, 3) := by decide +kernel
theorem dX6_turn_154 : decode cX6_turn 154 = .ok (.bipush 6, 2) := by decide +kernel
theorem dX6_turn_156 : decode cX6_turn 156 = .ok (.iload 5, 2) := by decide +kernel
theorem dX6_turn_158 : decode cX6_turn 158 = .ok (.imul, 1) := by decide +kernel
theorem dX6_turn_159 : decode cX6_turn 159 = .ok (.iload 4, 2) := by decide +kernel
theorem dX6_turn_161 : decode cX6_turn 161 = .ok (.iadd, 1) := by decide +kernel
theorem dX6_turn_162 : decode cX6_turn 162 = .ok (.istore 6, 2) := by decide +kernel
theorem dX6_turn_164 : decode cX6_turn 164 = .ok (.iload_n 2, 1) := by decide +kernel
theorem dX6_turn_165 : decode cX6_turn 165 = .ok (.aload_n 0, 1) := by decide +kernel
theorem dX6_turn_166 : decode cX6_turn 166 = .ok (.getfield 25, 3) := by decide +kernel
theorem dX6_turn_169 : decode cX6_turn 169 = .ok (.iload 6, 2) := by decide +kernel
theorem dX6_turn_171 : decode cX6_turn 171 = .ok (.iaload, 1) := by decide +kernel
theorem dX6_turn_172 : decode cX6_turn 172 = .ok (.aload_n 0, 1) := by decide +kernel
theorem dX6_turn_173 : decode cX6_turn 173 = .ok (.getfield 13, 3) := by decide +kernel
theorem dX6_turn_176 : decode cX6_turn 176 = .ok (.bipush 6, 2) := by decide +kernel
theorem dX6_turn_178 : decode cX6_turn 178 = .ok (.iload 4, 2) := by decide +kernel
theorem dX6_turn_180 : decode cX6_turn 180 = .ok (.imul, 1) := by decide +kernel
theorem dX6_turn_181 : decode cX6_turn 181 = .ok (.iload 5, 2) := by decide +kernel
theorem dX6_turn_183 : decode cX6_turn 183 = .ok (.iadd, 1) := by decide +kernel
theorem dX6_turn_184 : decode cX6_turn 184 = .ok (.iaload, 1) := by decide +kernel
theorem dX6_turn_185 : decode cX6_turn 185 = .ok (.if_icmp .eq 7, 3) := by decide +kernel
theorem dX6_turn_188 : decode cX6_turn 188 = .ok (.iconst 1, 1) := by decide +kernel
theorem dX6_turn_189 : decode cX6_turn 189 = .ok (.goto 4, 3) := by decide +kernel
theorem dX6_turn_192 : decode cX6_turn 192 = .ok (.iconst 0, 1) := by decide +kernel
theorem dX6_turn_193 : decode cX6_turn 193 = .ok (.iadd, 1) := by decide +kernel
theorem dX6_turn_194 : decode cX6_turn 194 = .ok (.istore_n 2, 1) := by decide +kernel
theorem dX6_turn_195 : decode cX6_turn 195 = .ok (.aload_n 0, 1) := by decide +kernel
theorem dX6_turn_196 : decode cX6_turn 196 = .ok (.getfield 13, 3) := by decide +kernel
theorem dX6_turn_199 : decode cX6_turn 199 = .ok (.bipush 6, 2) := by decide +kernel
theorem dX6_turn_201 : decode cX6_turn 201 = .ok (.iload 4, 2) := by decide +kernel
theorem dX6_turn_203 : decode cX6_turn 203 = .ok (.imul, 1) := by decide +kernel
theorem dX6_turn_204 : decode cX6_turn 204 = .ok (.iload 5, 2) := by decide +kernel
theorem dX6_turn_206 : decode cX6_turn 206 = .ok (.iadd, 1) := by decide +kernel
theorem dX6_turn_207 : decode cX6_turn 207 = .ok (.aload_n 0, 1) := by decide +kernel
theorem dX6_turn_208 : decode cX6_turn 208 = .ok (.getfield 25, 3) := by decide +kernel
theorem dX6_turn_211 : decode cX6_turn 211 = .ok (.iload 6, 2) := by decide +kernel
theorem dX6_turn_213 : decode cX6_turn 213 = .ok (.iaload, 1) := by decide +kernel
theorem dX6_turn_214 : decode cX6_turn 214 = .ok (.iastore, 1) := by decide +kernel
theorem dX6_turn_215 : decode cX6_turn 215 = .ok (.iinc 5 1, 3) := by decide +kernel
theorem dX6_turn_218 : decode cX6_turn 218 = .ok (.goto (-165), 3) := by decide +kernel
theorem dX6_turn_221 : decode cX6_turn 221 = .ok (.iinc 4 1, 3) := by decide +kernel
theorem dX6_turn_224 : decode cX6_turn 224 = .ok (.goto (-183), 3) := by decide +kernel
theorem dX6_turn_227 : decode cX6_turn 227 = .ok (.iload_n 2, 1) := by decide +kernel
theorem dX6_turn_228 : decode cX6_turn 228 = .ok (.ireturn, 1) := by decide +kernel
theorem dX6_isAcross_0 : decode cX6_isAcross 0 = .ok (.iload_n 1, 1) := by decide +kernel
theorem dX6_isAcross_1 : decode cX6_isAcross 1 = .ok (.iload_n 2, 1) := by decide +kernel
theorem dX6_isAcross_2 : decode cX6_isAcross 2 = .ok (.iadd, 1) := by decide +kernel
theorem dX6_isAcross_3 : decode cX6_isAcross 3 = .ok (.istore_n 3, 1) := by decide +kernel
theorem dX6_isAcross_4 : decode cX6_isAcross 4 = .ok (.iconst 0, 1) := by decide +kernel
theorem dX6_isAcross_5 : decode cX6_isAcross 5 = .ok (.istore 4, 2) := by decide +kernel
theorem dX6_isAcross_7 : decode cX6_isAcross 7 = .ok (.iload 4, 2) := by decide +kernel
theorem dX6_isAcross_9 : decode cX6_isAcross 9 = .ok (.iload_n 2, 1) := by decide +kernel
theorem dX6_isAcross_10 : decode cX6_isAcross 10 = .ok (.if_icmp .ge 23, 3) := by decide +kernel
theorem dX6_isAcross_13 : decode cX6_isAcross 13 = .ok (.iload_n 3, 1) := by decide +kernel
theorem dX6_isAcross_14 : decode cX6_isAcross 14 = .ok (.aload_n 0, 1) := by decide +kernel
theorem dX6_isAcross_15 : decode cX6_isAcross 15 = .ok (.bipush 6, 2) := by decide +kernel
theorem dX6_isAcross_17 : decode cX6_isAcross 17 = .ok (.iload_n 1, 1) := by decide +kernel
theorem dX6_isAcross_18 : decode cX6_isAcross 18 = .ok (.iconst 1, 1) := by decide +kernel
theorem dX6_isAcross_19 : decode cX6_isAcross 19 = .ok (.isub, 1) := by decide +kernel
theorem dX6_isAcross_20 : decode cX6_isAcross 20 = .ok (.imul, 1) := by decide +kernel
theorem dX6_isAcross_21 : decode cX6_isAcross 21 = .ok (.iload 4, 2) := by decide +kernel
theorem dX6_isAcross_23 : decode cX6_isAcross 23 = .ok (.iadd, 1) := by decide +kernel
theorem dX6_isAcross_24 : decode cX6_isAcross 24 = .ok (.iaload, 1) := by decide +kernel
theorem dX6_isAcross_25 : decode cX6_isAcross 25 = .ok (.iadd, 1) := by decide +kernel
theorem dX6_isAcross_26 : decode cX6_isAcross 26 = .ok (.istore_n 3, 1) := by decide +kernel
theorem dX6_isAcross_27 : decode cX6_isAcross 27 = .ok (.iinc 4 1, 3) := by decide +kernel
theorem dX6_isAcross_30 : decode cX6_isAcross 30 = .ok (.goto (-23), 3) := by decide +kernel
theorem dX6_isAcross_33 : decode cX6_isAcross 33 = .ok (.iload_n 3, 1) := by decide +kernel
theorem dX6_isAcross_34 : decode cX6_isAcross 34 = .ok (.iconst 2, 1) := by decide +kernel
theorem dX6_isAcross_35 : decode cX6_isAcross 35 = .ok (.irem, 1) := by decide +kernel
theorem dX6_isAcross_36 : decode cX6_isAcross 36 = .ok (.ifCond .ne 7, 3) := by decide +kernel
theorem dX6_isAcross_39 : decode cX6_isAcross 39 = .ok (.iconst 1, 1) := by decide +kernel
theorem dX6_isAcross_40 : decode cX6_isAcross 40 = .ok (.goto 4, 3) := by decide +kernel
theorem dX6_isAcross_43 : decode cX6_isAcross 43 = .ok (.iconst 0, 1) := by decide +kernel
theorem dX6_isAcross_44 : decode cX6_isAcross 44 = .ok (.ireturn, 1) := by decide +kernel
theorem dX6_isDown_0 : decode cX6_isDown 0 = .ok (.iload_n 1, 1) := by decide +kernel
theorem dX6_isDown_1 : decode cX6_isDown 1 = .ok (.iload_n 2, 1) := by decide +kernel
theorem dX6_isDown_2 : decode cX6_isDown 2 = .ok (.iadd, 1) := by decide +kernel
theorem dX6_isDown_3 : decode cX6_isDown 3 = .ok (.istore_n 3, 1) := by decide +kernel
theorem dX6_isDown_4 : decode cX6_isDown 4 = .ok (.iconst 0, 1) := by decide +kernel
theorem dX6_isDown_5 : decode cX6_isDown 5 = .ok (.istore 4, 2) := by decide +kernel
theorem dX6_isDown_7 : decode cX6_isDown 7 = .ok (.iload 4, 2) := by decide +kernel
theorem dX6_isDown_9 : decode cX6_isDown 9 = .ok (.iload_n 1, 1) := by decide +kernel
theorem dX6_isDown_10 : decode cX6_isDown 10 = .ok (.if_icmp .ge 23, 3) := by decide +kernel
theorem dX6_isDown_13 : decode cX6_isDown 13 = .ok (.iload_n 3, 1) := by decide +kernel
theorem dX6_isDown_14 : decode cX6_isDown 14 = .ok (.aload_n 0, 1) := by decide +kernel
theorem dX6_isDown_15 : decode cX6_isDown 15 = .ok (.bipush 6, 2) := by decide +kernel
theorem dX6_isDown_17 : decode cX6_isDown 17 = .ok (.iload 4, 2) := by decide +kernel
theorem dX6_isDown_19 : decode cX6_isDown 19 = .ok (.imul, 1) := by decide +kernel
theorem dX6_isDown_20 : decode cX6_isDown 20 = .ok (.iload_n 2, 1) := by decide +kernel
theorem dX6_isDown_21 : decode cX6_isDown 21 = .ok (.iadd, 1) := by decide +kernel
theorem dX6_isDown_22 : decode cX6_isDown 22 = .ok (.iconst 1, 1) := by decide +kernel
theorem dX6_isDown_23 : decode cX6_isDown 23 = .ok (.isub, 1) := by decide +kernel
theorem dX6_isDown_24 : decode cX6_isDown 24 = .ok (.iaload, 1) := by decide +kernel
theorem dX6_isDown_25 : decode cX6_isDown 25 = .ok (.iadd, 1) := by decide +kernel
theorem dX6_isDown_26 : decode cX6_isDown 26 = .ok (.istore_n 3, 1) := by decide +kernel
theorem dX6_isDown_27 : decode cX6_isDown 27 = .ok (.iinc 4 1, 3) := by decide +kernel
theorem dX6_isDown_30 : decode cX6_isDown 30 = .ok (.goto (-23), 3) := by decide +kernel
theorem dX6_isDown_33 : decode cX6_isDown 33 = .ok (.iload_n 3, 1) := by decide +kernel
theorem dX6_isDown_34 : decode cX6_isDown 34 = .ok (.iconst 2, 1) := by decide +kernel
theorem dX6_isDown_35 : decode cX6_isDown 35 = .ok (.irem, 1) := by decide +kernel
theorem dX6_isDown_36 : decode cX6_isDown 36 = .ok (.ifCond .eq 7, 3) := by decide +kernel
theorem dX6_isDown_39 : decode cX6_isDown 39 = .ok (.iconst 1, 1) := by decide +kernel
theorem dX6_isDown_40 : decode cX6_isDown 40 = .ok (.goto 4, 3) := by decide +kernel
theorem dX6_isDown_43 : decode cX6_isDown 43 = .ok (.iconst 0, 1) := by decide +kernel
theorem dX6_isDown_44 : decode cX6_isDown 44 = .ok (.ireturn, 1) := by decide +kernel
set_option maxRecDepth 20000 in
theorem ggX6_across_X6_in : GoodIn wsX6_across wsX6_in := goodIn_r _ [6] (by decide +kernel) (by decide +kernel)
set_option maxRecDepth 20000 in
theorem gX6_across_X6_in : GoodIn wsX6_across (va_wsS RX6 62 yX6_in wsX6_in) := goodIn_app (goodIn_of _ (by decide +kernel)) ggX6_across_X6_in
set_option maxRecDepth 20000 in
theorem ggX6_across_X6_isAcross : GoodIn wsX6_across wsX6_isAcross := goodIn_r _ [9] (by decide +kernel) (by decide +kernel)
set_option maxRecDepth 20000 in
theorem gX6_across_X6_isAcross : GoodIn wsX6_across (va_wsS RX6 126 yX6_isAcross wsX6_isAcross) := goodIn_app (goodIn_of _ (by decide +kernel)) ggX6_across_X6_isAcross
theorem dX6_across_0 : decode cX6_across 0 = .ok (.iload_n 1, 1) := by decide +kernel
theorem dX6_across_1 : decode cX6_across 1 = .ok (.i2l, 1) := by decide +kernel
theorem dX6_across_2 : decode cX6_across 2 = .ok (.lconst 1, 1) := by decide +kernel
theorem dX6_across_3 : decode cX6_across 3 = .ok (.aload_n 0, 1) := by decide +kernel
theorem dX6_across_4 : decode cX6_across 4 = .ok (.getfield 54, 3) := by decide +kernel
theorem dX6_across_7 : decode cX6_across 7 = .ok (.i2l, 1) := by decide +kernel
theorem dX6_across_8 : decode cX6_across 8 = .ok (.invokestatic 62, 3) := by decide +kernel
theorem dX6_across_11 : decode cX6_across 11 = .ok (.ifCond .eq 17, 3) := by decide +kernel
theorem dX6_across_14 : decode cX6_across 14 = .ok (.iload_n 2, 1) := by decide +kernel
theorem dX6_across_15 : decode cX6_across 15 = .ok (.i2l, 1) := by decide +kernel
theorem dX6_across_16 : decode cX6_across 16 = .ok (.lconst 0, 1) := by decide +kernel
theorem dX6_across_17 : decode cX6_across 17 = .ok (.aload_n 0, 1) := by decide +kernel
theorem dX6_across_18 : decode cX6_across 18 = .ok (.getfield 54, 3) := by decide +kernel
theorem dX6_across_21 : decode cX6_across 21 = .ok (.i2l, 1) := by decide +kernel
theorem dX6_across_22 : decode cX6_across 22 = .ok (.invokestatic 62, 3) := by decide +kernel
theorem dX6_across_25 : decode cX6_across 25 = .ok (.ifCond .ne 5, 3) := by decide +kernel
theorem dX6_across_28 : decode cX6_across 28 = .ok (.iconst (-1), 1) := by decide +kernel
theorem dX6_across_29 : decode cX6_across 29 = .ok (.ireturn, 1) := by decide +kernel
theorem dX6_across_30 : decode cX6_across 30 = .ok (.aload_n 0, 1) := by decide +kernel
theorem dX6_across_31 : decode cX6_across 31 = .ok (.getfield 13, 3) := by decide +kernel
theorem dX6_across_34 : decode cX6_across 34 = .ok (.iload_n 1, 1) := by decide +kernel
theorem dX6_across_35 : decode cX6_across 35 = .ok (.iload_n 2, 1) := by decide +kernel
theorem dX6_across_36 : decode cX6_across 36 = .ok (.invokestatic 126, 3) := by decide +kernel
theorem dX6_across_39 : decode cX6_across 39 = .ok (.ifCond .eq 7, 3) := by decide +kernel
theorem dX6_across_42 : decode cX6_across 42 = .ok (.iconst 1, 1) := by decide +kernel
theorem dX6_across_43 : decode cX6_across 43 = .ok (.goto 4, 3) := by decide +kernel
theorem dX6_across_46 : decode cX6_across 46 = .ok (.iconst 0, 1) := by decide +kernel
theorem dX6_across_47 : decode cX6_across 47 = .ok (.ireturn, 1) := by decide +kernel
set_option maxRecDepth 20000 in
theorem ggX6_down_X6_in : GoodIn wsX6_down wsX6_in := goodIn_r _ [6] (by decide +kernel) (by decide +kernel)
set_option maxRecDepth 20000 in
theorem gX6_down_X6_in : GoodIn wsX6_down (va_wsS RX6 62 yX6_in wsX6_in) := goodIn_app (goodIn_of _ (by decide +kernel)) ggX6_down_X6_in
set_option maxRecDepth 20000 in
theorem ggX6_down_X6_isDown : GoodIn wsX6_down wsX6_isDown := goodIn_r _ [9] (by decide +kernel) (by decide +kernel)
set_option maxRecDepth 20000 in
theorem gX6_down_X6_isDown : GoodIn wsX6_down (va_wsS RX6 129 yX6_isDown wsX6_isDown) := goodIn_app (goodIn_of _ (by decide +kernel)) ggX6_down_X6_isDown
theorem dX6_down_0 : decode cX6_down 0 = .ok (.iload_n 1, 1) := by decide +kernel
theorem dX6_down_1 : decode cX6_down 1 = .ok (.i2l, 1) := by decide +kernel
theorem dX6_down_2 : decode cX6_down 2 = .ok (.lconst 0, 1) := by decide +kernel
theorem dX6_down_3 : decode cX6_down 3 = .ok (.aload_n 0, 1) := by decide +kernel
theorem dX6_down_4 : decode cX6_down 4 = .ok (.getfield 54, 3) := by decide +kernel
theorem dX6_down_7 : decode cX6_down 7 = .ok (.i2l, 1) := by decide +kernel
theorem dX6_down_8 : decode cX6_down 8 = .ok (.invokestatic 62, 3) := by decide +kernel
theorem dX6_down_11 : decode cX6_down 11 = .ok (.ifCond .eq 17, 3) := by decide +kernel
theorem dX6_down_14 : decode cX6_down 14 = .ok (.iload_n 2, 1) := by decide +kernel
theorem dX6_down_15 : decode cX6_down 15 = .ok (.i2l, 1) := by decide +kernel
theorem dX6_down_16 : decode cX6_down 16 = .ok (.lconst 1, 1) := by decide +kernel
theorem dX6_down_17 : decode cX6_down 17 = .ok (.aload_n 0, 1) := by decide +kernel
theorem dX6_down_18 : decode cX6_down 18 = .ok (.getfield 54, 3) := by decide +kernel
theorem dX6_down_21 : decode cX6_down 21 = .ok (.i2l, 1) := by decide +kernel
theorem dX6_down_22 : decode cX6_down 22 = .ok (.invokestatic 62, 3) := by decide +kernel
theorem dX6_down_25 : decode cX6_down 25 = .ok (.ifCond .ne 5, 3) := by decide +kernel
theorem dX6_down_28 : decode cX6_down 28 = .ok (.iconst (-1), 1) := by decide +kernel
theorem dX6_down_29 : decode cX6_down 29 = .ok (.ireturn, 1) := by decide +kernel
theorem dX6_down_30 : decode cX6_down 30 = .ok (.aload_n 0, 1) := by decide +kernel
theorem dX6_down_31 : decode cX6_down 31 = .ok (.getfield 13, 3) := by decide +kernel
theorem dX6_down_34 : decode cX6_down 34 = .ok (.iload_n 1, 1) := by decide +kernel
theorem dX6_down_35 : decode cX6_down 35 = .ok (.iload_n 2, 1) := by decide +kernel
theorem dX6_down_36 : decode cX6_down 36 = .ok (.invokestatic 129, 3) := by decide +kernel
theorem dX6_down_39 : decode cX6_down 39 = .ok (.ifCond .eq 7, 3) := by decide +kernel
theorem dX6_down_42 : decode cX6_down 42 = .ok (.iconst 1, 1) := by decide +kernel
theorem dX6_down_43 : decode cX6_down 43 = .ok (.goto 4, 3) := by decide +kernel
theorem dX6_down_46 : decode cX6_down 46 = .ok (.iconst 0, 1) := by decide +kernel
theorem dX6_down_47 : decode cX6_down 47 = .ok (.ireturn, 1) := by decide +kernel
set_option maxRecDepth 20000 in
theorem ggX6_isDrawn_X6_isDown : GoodIn wsX6_isDrawn wsX6_isDown := goodIn_r _ [4] (by decide +kernel) (by decide +kernel)
set_option maxRecDepth 20000 in
theorem gX6_isDrawn_X6_isDown : GoodIn wsX6_isDrawn (va_wsS RX6 129 yX6_isDown wsX6_isDown) := goodIn_app (goodIn_of _ (by decide +kernel)) ggX6_isDrawn_X6_isDown
set_option maxRecDepth 20000 in
theorem ggX6_isDrawn_X6_isAcross : GoodIn wsX6_isDrawn wsX6_isAcross := goodIn_r _ [7] (by decide +kernel) (by decide +kernel)
set_option maxRecDepth 20000 in
theorem gX6_isDrawn_X6_isAcross : GoodIn wsX6_isDrawn (va_wsS RX6 126 yX6_isAcross wsX6_isAcross) := goodIn_app (goodIn_of _ (by decide +kernel)) ggX6_isDrawn_X6_isAcross
theorem dX6_isDrawn_0 : decode cX6_isDrawn 0 = .ok (.iload_n 3, 1) := by decide +kernel
theorem dX6_isDrawn_1 : decode cX6_isDrawn 1 = .ok (.ifCond .ne 14, 3) := by decide +kernel
theorem dX6_isDrawn_4 : decode cX6_isDrawn 4 = .ok (.aload_n 0, 1) := by decide +kernel
theorem dX6_isDrawn_5 : decode cX6_isDrawn 5 = .ok (.iload_n 1, 1) := by decide +kernel
theorem dX6_isDrawn_6 : decode cX6_isDrawn 6 = .ok (.iconst 1, 1) := by decide +kernel
theorem dX6_isDrawn_7 : decode cX6_isDrawn 7 = .ok (.isub, 1) := by decide +kernel
theorem dX6_isDrawn_8 : decode cX6_isDrawn 8 = .ok (.iload_n 2, 1) := by decide +kernel
theorem dX6_isDrawn_9 : decode cX6_isDrawn 9 = .ok (.invokestatic 129, 3) := by decide +kernel
theorem dX6_isDrawn_12 : decode cX6_isDrawn 12 = .ok (.goto 39, 3) := by decide +kernel
theorem dX6_isDrawn_15 : decode cX6_isDrawn 15 = .ok (.iload_n 3, 1) := by decide +kernel
theorem dX6_isDrawn_16 : decode cX6_isDrawn 16 = .ok (.iconst 1, 1) := by decide +kernel
theorem dX6_isDrawn_17 : decode cX6_isDrawn 17 = .ok (.if_icmp .ne 12, 3) := by decide +kernel
theorem dX6_isDrawn_20 : decode cX6_isDrawn 20 = .ok (.aload_n 0, 1) := by decide +kernel
theorem dX6_isDrawn_21 : decode cX6_isDrawn 21 = .ok (.iload_n 1, 1) := by decide +kernel
theorem dX6_isDrawn_22 : decode cX6_isDrawn 22 = .ok (.iload_n 2, 1) := by decide +kernel
theorem dX6_isDrawn_23 : decode cX6_isDrawn 23 = .ok (.invokestatic 126, 3) := by decide +kernel
theorem dX6_isDrawn_26 : decode cX6_isDrawn 26 = .ok (.goto 25, 3) := by decide +kernel
theorem dX6_isDrawn_29 : decode cX6_isDrawn 29 = .ok (.iload_n 3, 1) := by decide +kernel
theorem dX6_isDrawn_30 : decode cX6_isDrawn 30 = .ok (.iconst 2, 1) := by decide +kernel
theorem dX6_isDrawn_31 : decode cX6_isDrawn 31 = .ok (.if_icmp .ne 12, 3) := by decide +kernel
theorem dX6_isDrawn_34 : decode cX6_isDrawn 34 = .ok (.aload_n 0, 1) := by decide +kernel
theorem dX6_isDrawn_35 : decode cX6_isDrawn 35 = .ok (.iload_n 1, 1) := by decide +kernel
theorem dX6_isDrawn_36 : decode cX6_isDrawn 36 = .ok (.iload_n 2, 1) := by decide +kernel
theorem dX6_isDrawn_37 : decode cX6_isDrawn 37 = .ok (.invokestatic 129, 3) := by decide +kernel
theorem dX6_isDrawn_40 : decode cX6_isDrawn 40 = .ok (.goto 11, 3) := by decide +kernel
theorem dX6_isDrawn_43 : decode cX6_isDrawn 43 = .ok (.aload_n 0, 1) := by decide +kernel
theorem dX6_isDrawn_44 : decode cX6_isDrawn 44 = .ok (.iload_n 1, 1) := by decide +kernel
theorem dX6_isDrawn_45 : decode cX6_isDrawn 45 = .ok (.iload_n 2, 1) := by decide +kernel
theorem dX6_isDrawn_46 : decode cX6_isDrawn 46 = .ok (.iconst 1, 1) := by decide +kernel
theorem dX6_isDrawn_47 : decode cX6_isDrawn 47 = .ok (.isub, 1) := by decide +kernel
theorem dX6_isDrawn_48 : decode cX6_isDrawn 48 = .ok (.invokestatic 126, 3) := by decide +kernel
theorem dX6_isDrawn_51 : decode cX6_isDrawn 51 = .ok (.ireturn, 1) := by decide +kernel
set_option maxRecDepth 20000 in
theorem ggX6_findEnds_X6_isDrawn : GoodIn wsX6_findEnds wsX6_isDrawn := goodIn_r _ [7, 8, 9, 6, 10, 11, 12, 13] (by decide +kernel) (by decide +kernel)
set_option maxRecDepth 20000 in
theorem gX6_findEnds_X6_isDrawn : GoodIn wsX6_findEnds (va_wsS RX6 132 yX6_isDrawn wsX6_isDrawn) := goodIn_app (goodIn_of _ (by decide +kernel)) ggX6_findEnds_X6_isDrawn
theorem dX6_findEnds_0 : decode cX6_findEnds 0 = .ok (.iconst 0, 1) := by decide +kernel
theorem dX6_findEnds_1 : decode cX6_findEnds 1 = .ok (.istore_n 3, 1) := by decide +kernel
theorem dX6_findEnds_2 : decode cX6_findEnds 2 = .ok (.iconst 0, 1) := by decide +kernel
theorem dX6_findEnds_3 : decode cX6_findEnds 3 = .ok (.istore 4, 2) := by decide +kernel
theorem dX6_findEnds_5 : decode cX6_findEnds 5 = .ok (.iload 4, 2) := by decide +kernel
theorem dX6_findEnds_7 : decode cX6_findEnds 7 = .ok (.iconst 4, 1) := by decide +kernel
theorem dX6_findEnds_8 : decode cX6_findEnds 8 = .ok (.iload_n 2, 1) := by decide +kernel
theorem dX6_findEnds_9 : decode cX6_findEnds 9 = .ok (.imul, 1) := by decide +kernel
theorem dX6_findEnds_10 : decode cX6_findEnds 10 = .ok (.if_icmp .ge 137, 3) := by decide +kernel
theorem dX6_findEnds_13 : decode cX6_findEnds 13 = .ok (.iload 4, 2) := by decide +kernel
theorem dX6_findEnds_15 : decode cX6_findEnds 15 = .ok (.iload_n 2, 1) := by decide +kernel
theorem dX6_findEnds_16 : decode cX6_findEnds 16 = .ok (.idiv, 1) := by decide +kernel
theorem dX6_findEnds_17 : decode cX6_findEnds 17 = .ok (.istore 5, 2) := by decide +kernel
theorem dX6_findEnds_19 : decode cX6_findEnds 19 = .ok (.iload 4, 2) := by decide +kernel
theorem dX6_findEnds_21 : decode cX6_findEnds 21 = .ok (.iload_n 2, 1) := by decide +kernel
theorem dX6_findEnds_22 : decode cX6_findEnds 22 = .ok (.irem, 1) := by decide +kernel
theorem dX6_findEnds_23 : decode cX6_findEnds 23 = .ok (.istore 6, 2) := by decide +kernel
theorem dX6_findEnds_25 : decode cX6_findEnds 25 = .ok (.iload 5, 2) := by decide +kernel
theorem dX6_findEnds_27 : decode cX6_findEnds 27 = .ok (.ifCond .ne 7, 3) := by decide +kernel
theorem dX6_findEnds_30 : decode cX6_findEnds 30 = .ok (.iconst 1, 1) := by decide +kernel
theorem dX6_findEnds_31 : decode cX6_findEnds 31 = .ok (.goto 30, 3) := by decide +kernel
theorem dX6_findEnds_34 : decode cX6_findEnds 34 = .ok (.iload 5, 2) := by decide +kernel
theorem dX6_findEnds_36 : decode cX6_findEnds 36 = .ok (.iconst 1, 1) := by decide +kernel
theorem dX6_findEnds_37 : decode cX6_findEnds 37 = .ok (.if_icmp .ne 10, 3) := by decide +kernel
theorem dX6_findEnds_40 : decode cX6_findEnds 40 = .ok (.iload 6, 2) := by decide +kernel
theorem dX6_findEnds_42 : decode cX6_findEnds 42 = .ok (.iconst 1, 1) := by decide +kernel
theorem dX6_findEnds_43 : decode cX6_findEnds 43 = .ok (.iadd, 1) := by decide +kernel
theorem dX6_findEnds_44 : decode cX6_findEnds 44 = .ok (.goto 17, 3) := by decide +kernel
theorem dX6_findEnds_47 : decode cX6_findEnds 47 = .ok (.iload 5, 2) := by decide +kernel
theorem dX6_findEnds_49 : decode cX6_findEnds 49 = .ok (.iconst 2, 1) := by decide +kernel
theorem dX6_findEnds_50 : decode cX6_findEnds 50 = .ok (.if_icmp .ne 7, 3) := by decide +kernel
theorem dX6_findEnds_53 : decode cX6_findEnds 53 = .ok (.iload_n 2, 1) := by decide +kernel
theorem dX6_findEnds_54 : decode cX6_findEnds 54 = .ok (.goto 7, 3) := by decide +kernel
theorem dX6_findEnds_57 : decode cX6_findEnds 57 = .ok (.iload_n 2, 1) := by decide +kernel
theorem dX6_findEnds_58 : decode cX6_findEnds 58 = .ok (.iload 6, 2) := by decide +kernel
theorem dX6_findEnds_60 : decode cX6_findEnds 60 = .ok (.isub, 1) := by decide +kernel
theorem dX6_findEnds_61 : decode cX6_findEnds 61 = .ok (.istore 7, 2) := by decide +kernel
theorem dX6_findEnds_63 : decode cX6_findEnds 63 = .ok (.iload 5, 2) := by decide +kernel
theorem dX6_findEnds_65 : decode cX6_findEnds 65 = .ok (.ifCond .ne 10, 3) := by decide +kernel
theorem dX6_findEnds_68 : decode cX6_findEnds 68 = .ok (.iload 6, 2) := by decide +kernel
theorem dX6_findEnds_70 : decode cX6_findEnds 70 = .ok (.iconst 1, 1) := by decide +kernel
theorem dX6_findEnds_71 : decode cX6_findEnds 71 = .ok (.iadd, 1) := by decide +kernel
theorem dX6_findEnds_72 : decode cX6_findEnds 72 = .ok (.goto 27, 3) := by decide +kernel
theorem dX6_findEnds_75 : decode cX6_findEnds 75 = .ok (.iload 5, 2) := by decide +kernel
theorem dX6_findEnds_77 : decode cX6_findEnds 77 = .ok (.iconst 1, 1) := by decide +kernel
theorem dX6_findEnds_78 : decode cX6_findEnds 78 = .ok (.if_icmp .ne 7, 3) := by decide +kernel
theorem dX6_findEnds_81 : decode cX6_findEnds 81 = .ok (.iload_n 2, 1) := by decide +kernel
theorem dX6_findEnds_82 : decode cX6_findEnds 82 = .ok (.goto 17, 3) := by decide +kernel
theorem dX6_findEnds_85 : decode cX6_findEnds 85 = .ok (.iload 5, 2) := by decide +kernel
theorem dX6_findEnds_87 : decode cX6_findEnds 87 = .ok (.iconst 2, 1) := by decide +kernel
theorem dX6_findEnds_88 : decode cX6_findEnds 88 = .ok (.if_icmp .ne 10, 3) := by decide +kernel
theorem dX6_findEnds_91 : decode cX6_findEnds 91 = .ok (.iload_n 2, 1) := by decide +kernel
theorem dX6_findEnds_92 : decode cX6_findEnds 92 = .ok (.iload 6, 2) := by decide +kernel
theorem dX6_findEnds_94 : decode cX6_findEnds 94 = .ok (.isub, 1) := by decide +kernel
theorem dX6_findEnds_95 : decode cX6_findEnds 95 = .ok (.goto 4, 3) := by decide +kernel
theorem dX6_findEnds_98 : decode cX6_findEnds 98 = .ok (.iconst 1, 1) := by decide +kernel
theorem dX6_findEnds_99 : decode cX6_findEnds 99 = .ok (.istore 8, 2) := by decide +kernel
theorem dX6_findEnds_101 : decode cX6_findEnds 101 = .ok (.aload_n 1, 1) := by decide +kernel
theorem dX6_findEnds_102 : decode cX6_findEnds 102 = .ok (.iload 7, 2) := by decide +kernel
theorem dX6_findEnds_104 : decode cX6_findEnds 104 = .ok (.iload 8, 2) := by decide +kernel
theorem dX6_findEnds_106 : decode cX6_findEnds 106 = .ok (.iload 5, 2) := by decide +kernel
theorem dX6_findEnds_108 : decode cX6_findEnds 108 = .ok (.invokestatic 132, 3) := by decide +kernel
theorem dX6_findEnds_111 : decode cX6_findEnds 111 = .ok (.ifCond .eq 30, 3) := by decide +kernel
theorem dX6_findEnds_114 : decode cX6_findEnds 114 = .ok (.aload_n 0, 1) := by decide +kernel
theorem dX6_findEnds_115 : decode cX6_findEnds 115 = .ok (.getfield 31, 3) := by decide +kernel
theorem dX6_findEnds_118 : decode cX6_findEnds 118 = .ok (.iload_n 3, 1) := by decide +kernel
theorem dX6_findEnds_119 : decode cX6_findEnds 119 = .ok (.iload 7, 2) := by decide +kernel
theorem dX6_findEnds_121 : decode cX6_findEnds 121 = .ok (.iastore, 1) := by decide +kernel
theorem dX6_findEnds_122 : decode cX6_findEnds 122 = .ok (.aload_n 0, 1) := by decide +kernel
theorem dX6_findEnds_123 : decode cX6_findEnds 123 = .ok (.getfield 34, 3) := by decide +kernel
theorem dX6_findEnds_126 : decode cX6_findEnds 126 = .ok (.iload_n 3, 1) := by decide +kernel
theorem dX6_findEnds_127 : decode cX6_findEnds 127 = .ok (.iload 8, 2) := by decide +kernel
theorem dX6_findEnds_129 : decode cX6_findEnds 129 = .ok (.iastore, 1) := by decide +kernel
theorem dX6_findEnds_130 : decode cX6_findEnds 130 = .ok (.aload_n 0, 1) := by decide +kernel
theorem dX6_findEnds_131 : decode cX6_findEnds 131 = .ok (.getfield 37, 3) := by decide +kernel
theorem dX6_findEnds_134 : decode cX6_findEnds 134 = .ok (.iload_n 3, 1) := by decide +kernel
theorem dX6_findEnds_135 : decode cX6_findEnds 135 = .ok (.iload 5, 2) := by decide +kernel
theorem dX6_findEnds_137 : decode cX6_findEnds 137 = .ok (.iastore, 1) := by decide +kernel
theorem dX6_findEnds_138 : decode cX6_findEnds 138 = .ok (.iinc 3 1, 3) := by decide +kernel
theorem dX6_findEnds_141 : decode cX6_findEnds 141 = .ok (.iinc 4 1, 3) := by decide +kernel
theorem dX6_findEnds_144 : decode cX6_findEnds 144 = .ok (.goto (-139), 3) := by decide +kernel
theorem dX6_findEnds_147 : decode cX6_findEnds 147 = .ok (.return_, 1) := by decide +kernel
set_option maxRecDepth 20000 in
theorem ggX6_goesOn_X6_isDrawn : GoodIn wsX6_goesOn wsX6_isDrawn := goodIn_r _ [9, 10, 11, 8, 12, 13, 14, 15] (by decide +kernel) (by decide +kernel)
set_option maxRecDepth 20000 in
theorem gX6_goesOn_X6_isDrawn : GoodIn wsX6_goesOn (va_wsS RX6 132 yX6_isDrawn wsX6_isDrawn) := goodIn_app (goodIn_of _ (by decide +kernel)) ggX6_goesOn_X6_isDrawn
set_option maxRecDepth 20000 in
theorem ggX6_goesOn_X6_in : GoodIn wsX6_goesOn wsX6_in := goodIn_r _ [18] (by decide +kernel) (by decide +kernel)
set_option maxRecDepth 20000 in
theorem gX6_goesOn_X6_in : GoodIn wsX6_goesOn (va_wsS RX6 62 yX6_in wsX6_in) := goodIn_app (goodIn_of _ (by decide +kernel)) ggX6_goesOn_X6_in
theorem dX6_goesOn_0 : decode cX6_goesOn 0 = .ok (.iconst 0, 1) := by decide +kernel
theorem dX6_goesOn_1 : decode cX6_goesOn 1 = .ok (.istore_n 3, 1) := by decide +kernel
theorem dX6_goesOn_2 : decode cX6_goesOn 2 = .ok (.iload_n 3, 1) := by decide +kernel
theorem dX6_goesOn_3 : decode cX6_goesOn 3 = .ok (.aload_n 0, 1) := by decide +kernel
theorem dX6_goesOn_4 : decode cX6_goesOn 4 = .ok (.getfield 136, 3) := by decide +kernel
theorem dX6_goesOn_7 : decode cX6_goesOn 7 = .ok (.if_icmp .eq 19, 3) := by decide +kernel
theorem dX6_goesOn_10 : decode cX6_goesOn 10 = .ok (.aload_n 1, 1) := by decide +kernel
theorem dX6_goesOn_11 : decode cX6_goesOn 11 = .ok (.aload_n 0, 1) := by decide +kernel
theorem dX6_goesOn_12 : decode cX6_goesOn 12 = .ok (.getfield 139, 3) := by decide +kernel
theorem dX6_goesOn_15 : decode cX6_goesOn 15 = .ok (.aload_n 0, 1) := by decide +kernel
theorem dX6_goesOn_16 : decode cX6_goesOn 16 = .ok (.getfield 142, 3) := by decide +kernel
theorem dX6_goesOn_19 : decode cX6_goesOn 19 = .ok (.iload_n 3, 1) := by decide +kernel
theorem dX6_goesOn_20 : decode cX6_goesOn 20 = .ok (.invokestatic 132, 3) := by decide +kernel
theorem dX6_goesOn_23 : decode cX6_goesOn 23 = .ok (.ifCond .ne 9, 3) := by decide +kernel
theorem dX6_goesOn_26 : decode cX6_goesOn 26 = .ok (.iinc 3 1, 3) := by decide +kernel
theorem dX6_goesOn_29 : decode cX6_goesOn 29 = .ok (.goto (-27), 3) := by decide +kernel
theorem dX6_goesOn_32 : decode cX6_goesOn 32 = .ok (.aload_n 0, 1) := by decide +kernel
theorem dX6_goesOn_33 : decode cX6_goesOn 33 = .ok (.getfield 40, 3) := by decide +kernel
theorem dX6_goesOn_36 : decode cX6_goesOn 36 = .ok (.bipush 6, 2) := by decide +kernel
theorem dX6_goesOn_38 : decode cX6_goesOn 38 = .ok (.aload_n 0, 1) := by decide +kernel
theorem dX6_goesOn_39 : decode cX6_goesOn 39 = .ok (.getfield 139, 3) := by decide +kernel
theorem dX6_goesOn_42 : decode cX6_goesOn 42 = .ok (.iconst 1, 1) := by decide +kernel
theorem dX6_goesOn_43 : decode cX6_goesOn 43 = .ok (.isub, 1) := by decide +kernel
theorem dX6_goesOn_44 : decode cX6_goesOn 44 = .ok (.imul, 1) := by decide +kernel
theorem dX6_goesOn_45 : decode cX6_goesOn 45 = .ok (.aload_n 0, 1) := by decide +kernel
theorem dX6_goesOn_46 : decode cX6_goesOn 46 = .ok (.getfield 142, 3) := by decide +kernel
theorem dX6_goesOn_49 : decode cX6_goesOn 49 = .ok (.iadd, 1) := by decide +kernel
theorem dX6_goesOn_50 : decode cX6_goesOn 50 = .ok (.iconst 1, 1) := by decide +kernel
theorem dX6_goesOn_51 : decode cX6_goesOn 51 = .ok (.isub, 1) := by decide +kernel
theorem dX6_goesOn_52 : decode cX6_goesOn 52 = .ok (.iconst 1, 1) := by decide +kernel
theorem dX6_goesOn_53 : decode cX6_goesOn 53 = .ok (.bastore, 1) := by decide +kernel
theorem dX6_goesOn_54 : decode cX6_goesOn 54 = .ok (.aload_n 0, 1) := by decide +kernel
theorem dX6_goesOn_55 : decode cX6_goesOn 55 = .ok (.getfield 139, 3) := by decide +kernel
theorem dX6_goesOn_58 : decode cX6_goesOn 58 = .ok (.iload_n 3, 1) := by decide +kernel
theorem dX6_goesOn_59 : decode cX6_goesOn 59 = .ok (.iconst 2, 1) := by decide +kernel
theorem dX6_goesOn_60 : decode cX6_goesOn 60 = .ok (.if_icmp .ne 7, 3) := by decide +kernel
theorem dX6_goesOn_63 : decode cX6_goesOn 63 = .ok (.iconst 1, 1) := by decide +kernel
theorem dX6_goesOn_64 : decode cX6_goesOn 64 = .ok (.goto 12, 3) := by decide +kernel
theorem dX6_goesOn_67 : decode cX6_goesOn 67 = .ok (.iload_n 3, 1) := by decide +kernel
theorem dX6_goesOn_68 : decode cX6_goesOn 68 = .ok (.ifCond .ne 7, 3) := by decide +kernel
theorem dX6_goesOn_71 : decode cX6_goesOn 71 = .ok (.iconst (-1), 1) := by decide +kernel
theorem dX6_goesOn_72 : decode cX6_goesOn 72 = .ok (.goto 4, 3) := by decide +kernel
theorem dX6_goesOn_75 : decode cX6_goesOn 75 = .ok (.iconst 0, 1) := by decide +kernel
theorem dX6_goesOn_76 : decode cX6_goesOn 76 = .ok (.iadd, 1) := by decide +kernel
theorem dX6_goesOn_77 : decode cX6_goesOn 77 = .ok (.istore 4, 2) := by decide +kernel
theorem dX6_goesOn_79 : decode cX6_goesOn 79 = .ok (.aload_n 0, 1) := by decide +kernel
theorem dX6_goesOn_80 : decode cX6_goesOn 80 = .ok (.getfield 142, 3) := by decide +kernel
theorem dX6_goesOn_83 : decode cX6_goesOn 83 = .ok (.iload_n 3, 1) := by decide +kernel
theorem dX6_goesOn_84 : decode cX6_goesOn 84 = .ok (.iconst 1, 1) := by decide +kernel
theorem dX6_goesOn_85 : decode cX6_goesOn 85 = .ok (.if_icmp .ne 7, 3) := by decide +kernel
theorem dX6_goesOn_88 : decode cX6_goesOn 88 = .ok (.iconst 1, 1) := by decide +kernel
theorem dX6_goesOn_89 : decode cX6_goesOn 89 = .ok (.goto 13, 3) := by decide +kernel
theorem dX6_goesOn_92 : decode cX6_goesOn 92 = .ok (.iload_n 3, 1) := by decide +kernel
theorem dX6_goesOn_93 : decode cX6_goesOn 93 = .ok (.iconst 3, 1) := by decide +kernel
theorem dX6_goesOn_94 : decode cX6_goesOn 94 = .ok (.if_icmp .ne 7, 3) := by decide +kernel
theorem dX6_goesOn_97 : decode cX6_goesOn 97 = .ok (.iconst (-1), 1) := by decide +kernel
theorem dX6_goesOn_98 : decode cX6_goesOn 98 = .ok (.goto 4, 3) := by decide +kernel
theorem dX6_goesOn_101 : decode cX6_goesOn 101 = .ok (.iconst 0, 1) := by decide +kernel
theorem dX6_goesOn_102 : decode cX6_goesOn 102 = .ok (.iadd, 1) := by decide +kernel
theorem dX6_goesOn_103 : decode cX6_goesOn 103 = .ok (.istore 5, 2) := by decide +kernel
theorem dX6_goesOn_105 : decode cX6_goesOn 105 = .ok (.aload_n 0, 1) := by decide +kernel
theorem dX6_goesOn_106 : decode cX6_goesOn 106 = .ok (.dup, 1) := by decide +kernel
theorem dX6_goesOn_107 : decode cX6_goesOn 107 = .ok (.getfield 145, 3) := by decide +kernel
theorem dX6_goesOn_110 : decode cX6_goesOn 110 = .ok (.iconst 1, 1) := by decide +kernel
theorem dX6_goesOn_111 : decode cX6_goesOn 111 = .ok (.iadd, 1) := by decide +kernel
theorem dX6_goesOn_112 : decode cX6_goesOn 112 = .ok (.putfield 145, 3) := by decide +kernel
theorem dX6_goesOn_115 : decode cX6_goesOn 115 = .ok (.iload 4, 2) := by decide +kernel
theorem dX6_goesOn_117 : decode cX6_goesOn 117 = .ok (.i2l, 1) := by decide +kernel
theorem dX6_goesOn_118 : decode cX6_goesOn 118 = .ok (.lconst 1, 1) := by decide +kernel
theorem dX6_goesOn_119 : decode cX6_goesOn 119 = .ok (.iload_n 2, 1) := by decide +kernel
theorem dX6_goesOn_120 : decode cX6_goesOn 120 = .ok (.i2l, 1) := by decide +kernel
theorem dX6_goesOn_121 : decode cX6_goesOn 121 = .ok (.invokestatic 62, 3) := by decide +kernel
theorem dX6_goesOn_124 : decode cX6_goesOn 124 = .ok (.ifCond .eq 15, 3) := by decide +kernel
theorem dX6_goesOn_127 : decode cX6_goesOn 127 = .ok (.iload 5, 2) := by decide +kernel
theorem dX6_goesOn_129 : decode cX6_goesOn 129 = .ok (.i2l, 1) := by decide +kernel
theorem dX6_goesOn_130 : decode cX6_goesOn 130 = .ok (.lconst 1, 1) := by decide +kernel
theorem dX6_goesOn_131 : decode cX6_goesOn 131 = .ok (.iload_n 2, 1) := by decide +kernel
theorem dX6_goesOn_132 : decode cX6_goesOn 132 = .ok (.i2l, 1) := by decide +kernel
theorem dX6_goesOn_133 : decode cX6_goesOn 133 = .ok (.invokestatic 62, 3) := by decide +kernel
theorem dX6_goesOn_136 : decode cX6_goesOn 136 = .ok (.ifCond .ne 10, 3) := by decide +kernel
theorem dX6_goesOn_139 : decode cX6_goesOn 139 = .ok (.aload_n 0, 1) := by decide +kernel
theorem dX6_goesOn_140 : decode cX6_goesOn 140 = .ok (.iload_n 3, 1) := by decide +kernel
theorem dX6_goesOn_141 : decode cX6_goesOn 141 = .ok (.putfield 136, 3) := by decide +kernel
theorem dX6_goesOn_144 : decode cX6_goesOn 144 = .ok (.iconst 0, 1) := by decide +kernel
theorem dX6_goesOn_145 : decode cX6_goesOn 145 = .ok (.ireturn, 1) := by decide +kernel
theorem dX6_goesOn_146 : decode cX6_goesOn 146 = .ok (.aload_n 0, 1) := by decide +kernel
theorem dX6_goesOn_147 : decode cX6_goesOn 147 = .ok (.iload 4, 2) := by decide +kernel
theorem dX6_goesOn_149 : decode cX6_goesOn 149 = .ok (.putfield 139, 3) := by decide +kernel
theorem dX6_goesOn_152 : decode cX6_goesOn 152 = .ok (.aload_n 0, 1) := by decide +kernel
theorem dX6_goesOn_153 : decode cX6_goesOn 153 = .ok (.iload 5, 2) := by decide +kernel
theorem dX6_goesOn_155 : decode cX6_goesOn 155 = .ok (.putfield 142, 3) := by decide +kernel
theorem dX6_goesOn_158 : decode cX6_goesOn 158 = .ok (.aload_n 0, 1) := by decide +kernel
theorem dX6_goesOn_159 : decode cX6_goesOn 159 = .ok (.iload_n 3, 1) := by decide +kernel
theorem dX6_goesOn_160 : decode cX6_goesOn 160 = .ok (.iconst 2, 1) := by decide +kernel
theorem dX6_goesOn_161 : decode cX6_goesOn 161 = .ok (.iadd, 1) := by decide +kernel
theorem dX6_goesOn_162 : decode cX6_goesOn 162 = .ok (.iconst 4, 1) := by decide +kernel
theorem dX6_goesOn_163 : decode cX6_goesOn 163 = .ok (.irem, 1) := by decide +kernel
theorem dX6_goesOn_164 : decode cX6_goesOn 164 = .ok (.putfield 136, 3) := by decide +kernel
theorem dX6_goesOn_167 : decode cX6_goesOn 167 = .ok (.iconst 1, 1) := by decide +kernel
theorem dX6_goesOn_168 : decode cX6_goesOn 168 = .ok (.ireturn, 1) := by decide +kernel
set_option maxRecDepth 20000 in
theorem ggX6_goes_X6_goesOn : GoodIn wsX6_goes wsX6_goesOn := goodIn_r _ [12, 6, 2, 4, 13, 7, 14, 15, 11, 16, 17, 18, 19, 20, 21, 22, 23, 24, 25, 26, 27, 28, 29, 30, 31, 32, 33, 34, 35, 36, 37, 38, 39, 40, 41, 42, 43, 44, 45, 46, 47, 48] (by decide +kernel) (by decide +kernel)
set_option maxRecDepth 20000 in
theorem gX6_goes_X6_goesOn : GoodIn wsX6_goes (wsV RX6 148 RX6 yX6_goesOn wsX6_goesOn) := goodIn_app (goodIn_of _ (by decide +kernel)) ggX6_goes_X6_goesOn
theorem dX6_goes_0 : decode cX6_goes 0 = .ok (.aload_n 0, 1) := by decide +kernel
theorem dX6_goes_1 : decode cX6_goes 1 = .ok (.aload_n 0, 1) := by decide +kernel
theorem dX6_goes_2 : decode cX6_goes 2 = .ok (.getfield 31, 3) := by decide +kernel
theorem dX6_goes_5 : decode cX6_goes 5 = .ok (.iload_n 3, 1) := by decide +kernel
theorem dX6_goes_6 : decode cX6_goes 6 = .ok (.iaload, 1) := by decide +kernel
theorem dX6_goes_7 : decode cX6_goes 7 = .ok (.putfield 139, 3) := by decide +kernel
theorem dX6_goes_10 : decode cX6_goes 10 = .ok (.aload_n 0, 1) := by decide +kernel
theorem dX6_goes_11 : decode cX6_goes 11 = .ok (.aload_n 0, 1) := by decide +kernel
theorem dX6_goes_12 : decode cX6_goes 12 = .ok (.getfield 34, 3) := by decide +kernel
theorem dX6_goes_15 : decode cX6_goes 15 = .ok (.iload_n 3, 1) := by decide +kernel
theorem dX6_goes_16 : decode cX6_goes 16 = .ok (.iaload, 1) := by decide +kernel
theorem dX6_goes_17 : decode cX6_goes 17 = .ok (.putfield 142, 3) := by decide +kernel
theorem dX6_goes_20 : decode cX6_goes 20 = .ok (.aload_n 0, 1) := by decide +kernel
theorem dX6_goes_21 : decode cX6_goes 21 = .ok (.aload_n 0, 1) := by decide +kernel
theorem dX6_goes_22 : decode cX6_goes 22 = .ok (.getfield 37, 3) := by decide +kernel
theorem dX6_goes_25 : decode cX6_goes 25 = .ok (.iload_n 3, 1) := by decide +kernel
theorem dX6_goes_26 : decode cX6_goes 26 = .ok (.iaload, 1) := by decide +kernel
theorem dX6_goes_27 : decode cX6_goes 27 = .ok (.putfield 136, 3) := by decide +kernel
theorem dX6_goes_30 : decode cX6_goes 30 = .ok (.aload_n 0, 1) := by decide +kernel
theorem dX6_goes_31 : decode cX6_goes 31 = .ok (.iconst 1, 1) := by decide +kernel
theorem dX6_goes_32 : decode cX6_goes 32 = .ok (.putfield 145, 3) := by decide +kernel
theorem dX6_goes_35 : decode cX6_goes 35 = .ok (.iconst 1, 1) := by decide +kernel
theorem dX6_goes_36 : decode cX6_goes 36 = .ok (.istore 4, 2) := by decide +kernel
theorem dX6_goes_38 : decode cX6_goes 38 = .ok (.iload 4, 2) := by decide +kernel
theorem dX6_goes_40 : decode cX6_goes 40 = .ok (.ifCond .eq 14, 3) := by decide +kernel
theorem dX6_goes_43 : decode cX6_goes 43 = .ok (.aload_n 0, 1) := by decide +kernel
theorem dX6_goes_44 : decode cX6_goes 44 = .ok (.aload_n 1, 1) := by decide +kernel
theorem dX6_goes_45 : decode cX6_goes 45 = .ok (.iload_n 2, 1) := by decide +kernel
theorem dX6_goes_46 : decode cX6_goes 46 = .ok (.invokevirtual 148, 3) := by decide +kernel
theorem dX6_goes_49 : decode cX6_goes 49 = .ok (.istore 4, 2) := by decide +kernel
theorem dX6_goes_51 : decode cX6_goes 51 = .ok (.goto (-13), 3) := by decide +kernel
theorem dX6_goes_54 : decode cX6_goes 54 = .ok (.iconst 0, 1) := by decide +kernel
theorem dX6_goes_55 : decode cX6_goes 55 = .ok (.istore 5, 2) := by decide +kernel
theorem dX6_goes_57 : decode cX6_goes 57 = .ok (.aload_n 0, 1) := by decide +kernel
theorem dX6_goes_58 : decode cX6_goes 58 = .ok (.getfield 31, 3) := by decide +kernel
theorem dX6_goes_61 : decode cX6_goes 61 = .ok (.iload 5, 2) := by decide +kernel
theorem dX6_goes_63 : decode cX6_goes 63 = .ok (.iaload, 1) := by decide +kernel
theorem dX6_goes_64 : decode cX6_goes 64 = .ok (.aload_n 0, 1) := by decide +kernel
theorem dX6_goes_65 : decode cX6_goes 65 = .ok (.getfield 139, 3) := by decide +kernel
theorem dX6_goes_68 : decode cX6_goes 68 = .ok (.if_icmp .ne 31, 3) := by decide +kernel
theorem dX6_goes_71 : decode cX6_goes 71 = .ok (.aload_n 0, 1) := by decide +kernel
theorem dX6_goes_72 : decode cX6_goes 72 = .ok (.getfield 34, 3) := by decide +kernel
theorem dX6_goes_75 : decode cX6_goes 75 = .ok (.iload 5, 2) := by decide +kernel
theorem dX6_goes_77 : decode cX6_goes 77 = .ok (.iaload, 1) := by decide +kernel
theorem dX6_goes_78 : decode cX6_goes 78 = .ok (.aload_n 0, 1) := by decide +kernel
theorem dX6_goes_79 : decode cX6_goes 79 = .ok (.getfield 142, 3) := by decide +kernel
theorem dX6_goes_82 : decode cX6_goes 82 = .ok (.if_icmp .ne 17, 3) := by decide +kernel
theorem dX6_goes_85 : decode cX6_goes 85 = .ok (.aload_n 0, 1) := by decide +kernel
theorem dX6_goes_86 : decode cX6_goes 86 = .ok (.getfield 37, 3) := by decide +kernel
theorem dX6_goes_89 : decode cX6_goes 89 = .ok (.iload 5, 2) := by decide +kernel
theorem dX6_goes_91 : decode cX6_goes 91 = .ok (.iaload, 1) := by decide +kernel
theorem dX6_goes_92 : decode cX6_goes 92 = .ok (.aload_n 0, 1) := by decide +kernel
theorem dX6_goes_93 : decode cX6_goes 93 = .ok (.getfield 136, 3) := by decide +kernel
theorem dX6_goes_96 : decode cX6_goes 96 = .ok (.if_icmp .eq 9, 3) := by decide +kernel
theorem dX6_goes_99 : decode cX6_goes 99 = .ok (.iinc 5 1, 3) := by decide +kernel
theorem dX6_goes_102 : decode cX6_goes 102 = .ok (.goto (-45), 3) := by decide +kernel
theorem dX6_goes_105 : decode cX6_goes 105 = .ok (.iload 5, 2) := by decide +kernel
theorem dX6_goes_107 : decode cX6_goes 107 = .ok (.ireturn, 1) := by decide +kernel
set_option maxRecDepth 20000 in
theorem ggX6_isEnd_X6_in : GoodIn wsX6_isEnd wsX6_in := goodIn_r _ [5] (by decide +kernel) (by decide +kernel)
set_option maxRecDepth 20000 in
theorem gX6_isEnd_X6_in : GoodIn wsX6_isEnd (va_wsS RX6 62 yX6_in wsX6_in) := goodIn_app (goodIn_of _ (by decide +kernel)) ggX6_isEnd_X6_in
theorem dX6_isEnd_0 : decode cX6_isEnd 0 = .ok (.iload_n 1, 1) := by decide +kernel
theorem dX6_isEnd_1 : decode cX6_isEnd 1 = .ok (.i2l, 1) := by decide +kernel
theorem dX6_isEnd_2 : decode cX6_isEnd 2 = .ok (.lconst 0, 1) := by decide +kernel
theorem dX6_isEnd_3 : decode cX6_isEnd 3 = .ok (.iconst 2, 1) := by decide +kernel
theorem dX6_isEnd_4 : decode cX6_isEnd 4 = .ok (.aload_n 0, 1) := by decide +kernel
theorem dX6_isEnd_5 : decode cX6_isEnd 5 = .ok (.getfield 54, 3) := by decide +kernel
theorem dX6_isEnd_8 : decode cX6_isEnd 8 = .ok (.imul, 1) := by decide +kernel
theorem dX6_isEnd_9 : decode cX6_isEnd 9 = .ok (.iconst 1, 1) := by decide +kernel
theorem dX6_isEnd_10 : decode cX6_isEnd 10 = .ok (.isub, 1) := by decide +kernel
theorem dX6_isEnd_11 : decode cX6_isEnd 11 = .ok (.i2l, 1) := by decide +kernel
theorem dX6_isEnd_12 : decode cX6_isEnd 12 = .ok (.invokestatic 62, 3) := by decide +kernel
theorem dX6_isEnd_15 : decode cX6_isEnd 15 = .ok (.ireturn, 1) := by decide +kernel
set_option maxRecDepth 20000 in
theorem ggX6_partner_X6_isEnd : GoodIn wsX6_partner wsX6_isEnd := goodIn_r _ [7, 2, 8, 9, 6, 10, 40, 41, 42, 43, 44, 45, 46, 47, 48, 49, 50, 51, 52, 53, 54, 55, 56, 57, 58, 59, 60, 61, 62] (by decide +kernel) (by decide +kernel)
set_option maxRecDepth 20000 in
theorem gX6_partner_X6_isEnd : GoodIn wsX6_partner (wsV RX6 152 RX6 yX6_isEnd wsX6_isEnd) := goodIn_app (goodIn_of _ (by decide +kernel)) ggX6_partner_X6_isEnd
set_option maxRecDepth 20000 in
theorem ggX6_partner_X6_findEnds : GoodIn wsX6_partner wsX6_findEnds := goodIn_r _ [14, 15, 16, 17, 18, 19, 6, 20, 21, 22, 23, 24, 25, 26, 40, 41, 42, 43, 44, 45, 46, 47, 48, 49, 50, 51, 52, 53, 54, 55, 56, 57, 58, 59, 60, 61, 62] (by decide +kernel) (by decide +kernel)
set_option maxRecDepth 20000 in
theorem gX6_partner_X6_findEnds : GoodIn wsX6_partner (wsV RX6 156 RX6 yX6_findEnds wsX6_findEnds) := goodIn_app (goodIn_of _ (by decide +kernel)) ggX6_partner_X6_findEnds
set_option maxRecDepth 20000 in
theorem ggX6_partner_X6_goes : GoodIn wsX6_partner wsX6_goes := goodIn_r _ [30, 15, 31, 16, 32, 17, 33, 34, 35, 36, 37, 6, 38, 39, 18, 19, 20, 21, 22, 23, 24, 25, 26, 8, 9, 10, 40, 41, 42, 43, 44, 45, 46, 47, 48, 49, 50, 51, 52, 53, 54, 55, 56, 57, 58, 59, 60, 61, 62] (by decide +kernel) (by decide +kernel)
set_option maxRecDepth 20000 in
theorem gX6_partner_X6_goes : GoodIn wsX6_partner (wsV RX6 160 RX6 yX6_goes wsX6_goes) := goodIn_app (goodIn_of _ (by decide +kernel)) ggX6_partner_X6_goes
theorem dX6_partner_0 : decode cX6_partner 0 = .ok (.aload_n 0, 1) := by decide +kernel
theorem dX6_partner_1 : decode cX6_partner 1 = .ok (.iload_n 1, 1) := by decide +kernel
theorem dX6_partner_2 : decode cX6_partner 2 = .ok (.invokevirtual 152, 3) := by decide +kernel
theorem dX6_partner_5 : decode cX6_partner 5 = .ok (.ifCond .ne 5, 3) := by decide +kernel
theorem dX6_partner_8 : decode cX6_partner 8 = .ok (.iconst (-1), 1) := by decide +kernel
theorem dX6_partner_9 : decode cX6_partner 9 = .ok (.ireturn, 1) := by decide +kernel
theorem dX6_partner_10 : decode cX6_partner 10 = .ok (.aload_n 0, 1) := by decide +kernel
theorem dX6_partner_11 : decode cX6_partner 11 = .ok (.aload_n 0, 1) := by decide +kernel
theorem dX6_partner_12 : decode cX6_partner 12 = .ok (.getfield 13, 3) := by decide +kernel
theorem dX6_partner_15 : decode cX6_partner 15 = .ok (.aload_n 0, 1) := by decide +kernel
theorem dX6_partner_16 : decode cX6_partner 16 = .ok (.getfield 54, 3) := by decide +kernel
theorem dX6_partner_19 : decode cX6_partner 19 = .ok (.invokevirtual 156, 3) := by decide +kernel
theorem dX6_partner_22 : decode cX6_partner 22 = .ok (.aload_n 0, 1) := by decide +kernel
theorem dX6_partner_23 : decode cX6_partner 23 = .ok (.aload_n 0, 1) := by decide +kernel
theorem dX6_partner_24 : decode cX6_partner 24 = .ok (.getfield 13, 3) := by decide +kernel
theorem dX6_partner_27 : decode cX6_partner 27 = .ok (.aload_n 0, 1) := by decide +kernel
theorem dX6_partner_28 : decode cX6_partner 28 = .ok (.getfield 54, 3) := by decide +kernel
theorem dX6_partner_31 : decode cX6_partner 31 = .ok (.iload_n 1, 1) := by decide +kernel
theorem dX6_partner_32 : decode cX6_partner 32 = .ok (.invokevirtual 160, 3) := by decide +kernel
theorem dX6_partner_35 : decode cX6_partner 35 = .ok (.ireturn, 1) := by decide +kernel
set_option maxRecDepth 20000 in
theorem ggX6_line_X6_isEnd : GoodIn wsX6_line wsX6_isEnd := goodIn_r _ [8, 2, 9, 10, 7, 11, 40, 41, 42, 43, 44, 45, 46, 47, 48, 49, 50, 51, 52, 53, 54, 55, 56, 57, 58, 59, 60, 61, 62] (by decide +kernel) (by decide +kernel)
set_option maxRecDepth 20000 in
theorem gX6_line_X6_isEnd : GoodIn wsX6_line (wsV RX6 152 RX6 yX6_isEnd wsX6_isEnd) := goodIn_app (goodIn_of _ (by decide +kernel)) ggX6_line_X6_isEnd
set_option maxRecDepth 20000 in
theorem ggX6_line_X6_findEnds : GoodIn wsX6_line wsX6_findEnds := goodIn_r _ [15, 16, 17, 18, 19, 20, 7, 21, 22, 23, 24, 25, 26, 27, 40, 41, 42, 43, 44, 45, 46, 47, 48, 49, 50, 51, 52, 53, 54, 55, 56, 57, 58, 59, 60, 61, 62] (by decide +kernel) (by decide +kernel)
set_option maxRecDepth 20000 in
theorem gX6_line_X6_findEnds : GoodIn wsX6_line (wsV RX6 156 RX6 yX6_findEnds wsX6_findEnds) := goodIn_app (goodIn_of _ (by decide +kernel)) ggX6_line_X6_findEnds
set_option maxRecDepth 20000 in
theorem ggX6_line_X6_goes : GoodIn wsX6_line wsX6_goes := goodIn_r _ [31, 16, 32, 17, 33, 18, 34, 3, 35, 36, 37, 7, 38, 39, 19, 20, 21, 22, 23, 24, 25, 26, 27, 9, 10, 11, 40, 41, 42, 43, 44, 45, 46, 47, 48, 49, 50, 51, 52, 53, 54, 55, 56, 57, 58, 59, 60, 61, 62] (by decide +kernel) (by decide +kernel)
set_option maxRecDepth 20000 in
theorem gX6_line_X6_goes : GoodIn wsX6_line (wsV RX6 160 RX6 yX6_goes wsX6_goes) := goodIn_app (goodIn_of _ (by decide +kernel)) ggX6_line_X6_goes
theorem dX6_line_0 : decode cX6_line 0 = .ok (.aload_n 0, 1) := by decide +kernel
theorem dX6_line_1 : decode cX6_line 1 = .ok (.iload_n 1, 1) := by decide +kernel
theorem dX6_line_2 : decode cX6_line 2 = .ok (.invokevirtual 152, 3) := by decide +kernel
theorem dX6_line_5 : decode cX6_line 5 = .ok (.ifCond .ne 5, 3) := by decide +kernel
theorem dX6_line_8 : decode cX6_line 8 = .ok (.iconst (-1), 1) := by decide +kernel
theorem dX6_line_9 : decode cX6_line 9 = .ok (.ireturn, 1) := by decide +kernel
theorem dX6_line_10 : decode cX6_line 10 = .ok (.aload_n 0, 1) := by decide +kernel
theorem dX6_line_11 : decode cX6_line 11 = .ok (.aload_n 0, 1) := by decide +kernel
theorem dX6_line_12 : decode cX6_line 12 = .ok (.getfield 13, 3) := by decide +kernel
theorem dX6_line_15 : decode cX6_line 15 = .ok (.aload_n 0, 1) := by decide +kernel
theorem dX6_line_16 : decode cX6_line 16 = .ok (.getfield 54, 3) := by decide +kernel
theorem dX6_line_19 : decode cX6_line 19 = .ok (.invokevirtual 156, 3) := by decide +kernel
theorem dX6_line_22 : decode cX6_line 22 = .ok (.aload_n 0, 1) := by decide +kernel
theorem dX6_line_23 : decode cX6_line 23 = .ok (.aload_n 0, 1) := by decide +kernel
theorem dX6_line_24 : decode cX6_line 24 = .ok (.getfield 13, 3) := by decide +kernel
theorem dX6_line_27 : decode cX6_line 27 = .ok (.aload_n 0, 1) := by decide +kernel
theorem dX6_line_28 : decode cX6_line 28 = .ok (.getfield 54, 3) := by decide +kernel
theorem dX6_line_31 : decode cX6_line 31 = .ok (.iload_n 1, 1) := by decide +kernel
theorem dX6_line_32 : decode cX6_line 32 = .ok (.invokevirtual 160, 3) := by decide +kernel
theorem dX6_line_35 : decode cX6_line 35 = .ok (.pop, 1) := by decide +kernel
theorem dX6_line_36 : decode cX6_line 36 = .ok (.aload_n 0, 1) := by decide +kernel
theorem dX6_line_37 : decode cX6_line 37 = .ok (.getfield 145, 3) := by decide +kernel
theorem dX6_line_40 : decode cX6_line 40 = .ok (.ireturn, 1) := by decide +kernel
set_option maxRecDepth 20000 in
theorem ggX6_drawn_X6_isAcross : GoodIn wsX6_drawn wsX6_isAcross := goodIn_r _ [6] (by decide +kernel) (by decide +kernel)
set_option maxRecDepth 20000 in
theorem gX6_drawn_X6_isAcross : GoodIn wsX6_drawn (va_wsS RX6 126 yX6_isAcross wsX6_isAcross) := goodIn_app (goodIn_of _ (by decide +kernel)) ggX6_drawn_X6_isAcross
set_option maxRecDepth 20000 in
theorem ggX6_drawn_X6_isDown : GoodIn wsX6_drawn wsX6_isDown := goodIn_r _ [9] (by decide +kernel) (by decide +kernel)
set_option maxRecDepth 20000 in
theorem gX6_drawn_X6_isDown : GoodIn wsX6_drawn (va_wsS RX6 129 yX6_isDown wsX6_isDown) := goodIn_app (goodIn_of _ (by decide +kernel)) ggX6_drawn_X6_isDown
theorem dX6_drawn_0 : decode cX6_drawn 0 = .ok (.iconst 0, 1) := by decide +kernel
theorem dX6_drawn_1 : decode cX6_drawn 1 = .ok (.istore_n 1, 1) := by decide +kernel
theorem dX6_drawn_2 : decode cX6_drawn 2 = .ok (.iconst 1, 1) := by decide +kernel
theorem dX6_drawn_3 : decode cX6_drawn 3 = .ok (.istore_n 2, 1) := by decide +kernel
theorem dX6_drawn_4 : decode cX6_drawn 4 = .ok (.iload_n 2, 1) := by decide +kernel
theorem dX6_drawn_5 : decode cX6_drawn 5 = .ok (.aload_n 0, 1) := by decide +kernel
theorem dX6_drawn_6 : decode cX6_drawn 6 = .ok (.getfield 54, 3) := by decide +kernel
theorem dX6_drawn_9 : decode cX6_drawn 9 = .ok (.if_icmp .gt 63, 3) := by decide +kernel
theorem dX6_drawn_12 : decode cX6_drawn 12 = .ok (.iconst 0, 1) := by decide +kernel
theorem dX6_drawn_13 : decode cX6_drawn 13 = .ok (.istore_n 3, 1) := by decide +kernel
theorem dX6_drawn_14 : decode cX6_drawn 14 = .ok (.iload_n 3, 1) := by decide +kernel
theorem dX6_drawn_15 : decode cX6_drawn 15 = .ok (.aload_n 0, 1) := by decide +kernel
theorem dX6_drawn_16 : decode cX6_drawn 16 = .ok (.getfield 54, 3) := by decide +kernel
theorem dX6_drawn_19 : decode cX6_drawn 19 = .ok (.if_icmp .gt 47, 3) := by decide +kernel
theorem dX6_drawn_22 : decode cX6_drawn 22 = .ok (.iload_n 1, 1) := by decide +kernel
theorem dX6_drawn_23 : decode cX6_drawn 23 = .ok (.aload_n 0, 1) := by decide +kernel
theorem dX6_drawn_24 : decode cX6_drawn 24 = .ok (.getfield 13, 3) := by decide +kernel
theorem dX6_drawn_27 : decode cX6_drawn 27 = .ok (.iload_n 2, 1) := by decide +kernel
theorem dX6_drawn_28 : decode cX6_drawn 28 = .ok (.iload_n 3, 1) := by decide +kernel
theorem dX6_drawn_29 : decode cX6_drawn 29 = .ok (.invokestatic 126, 3) := by decide +kernel
theorem dX6_drawn_32 : decode cX6_drawn 32 = .ok (.ifCond .eq 7, 3) := by decide +kernel
theorem dX6_drawn_35 : decode cX6_drawn 35 = .ok (.iconst 1, 1) := by decide +kernel
theorem dX6_drawn_36 : decode cX6_drawn 36 = .ok (.goto 4, 3) := by decide +kernel
theorem dX6_drawn_39 : decode cX6_drawn 39 = .ok (.iconst 0, 1) := by decide +kernel
theorem dX6_drawn_40 : decode cX6_drawn 40 = .ok (.aload_n 0, 1) := by decide +kernel
theorem dX6_drawn_41 : decode cX6_drawn 41 = .ok (.getfield 13, 3) := by decide +kernel
theorem dX6_drawn_44 : decode cX6_drawn 44 = .ok (.iload_n 3, 1) := by decide +kernel
theorem dX6_drawn_45 : decode cX6_drawn 45 = .ok (.iload_n 2, 1) := by decide +kernel
theorem dX6_drawn_46 : decode cX6_drawn 46 = .ok (.invokestatic 129, 3) := by decide +kernel
theorem dX6_drawn_49 : decode cX6_drawn 49 = .ok (.ifCond .eq 7, 3) := by decide +kernel
theorem dX6_drawn_52 : decode cX6_drawn 52 = .ok (.iconst 1, 1) := by decide +kernel
theorem dX6_drawn_53 : decode cX6_drawn 53 = .ok (.goto 4, 3) := by decide +kernel
theorem dX6_drawn_56 : decode cX6_drawn 56 = .ok (.iconst 0, 1) := by decide +kernel
theorem dX6_drawn_57 : decode cX6_drawn 57 = .ok (.iadd, 1) := by decide +kernel
theorem dX6_drawn_58 : decode cX6_drawn 58 = .ok (.iadd, 1) := by decide +kernel
theorem dX6_drawn_59 : decode cX6_drawn 59 = .ok (.istore_n 1, 1) := by decide +kernel
theorem dX6_drawn_60 : decode cX6_drawn 60 = .ok (.iinc 3 1, 3) := by decide +kernel
theorem dX6_drawn_63 : decode cX6_drawn 63 = .ok (.goto (-49), 3) := by decide +kernel
theorem dX6_drawn_66 : decode cX6_drawn 66 = .ok (.iinc 2 1, 3) := by decide +kernel
theorem dX6_drawn_69 : decode cX6_drawn 69 = .ok (.goto (-65), 3) := by decide +kernel
theorem dX6_drawn_72 : decode cX6_drawn 72 = .ok (.iload_n 1, 1) := by decide +kernel
theorem dX6_drawn_73 : decode cX6_drawn 73 = .ok (.ireturn, 1) := by decide +kernel
set_option maxRecDepth 20000 in
theorem ggX6_rings_X6_findEnds : GoodIn wsX6_rings wsX6_findEnds := goodIn_r _ [8, 9, 10, 11, 12, 13, 7, 14, 15, 16, 17, 18, 19, 20, 40, 41, 42, 43, 44, 45, 46, 47, 48, 49, 50, 51, 52, 53, 54, 55, 56, 57, 58, 59, 60, 61, 62] (by decide +kernel) (by decide +kernel)
set_option maxRecDepth 20000 in
theorem gX6_rings_X6_findEnds : GoodIn wsX6_rings (wsV RX6 156 RX6 yX6_findEnds wsX6_findEnds) := goodIn_app (goodIn_of _ (by decide +kernel)) ggX6_rings_X6_findEnds
set_option maxRecDepth 20000 in
theorem ggX6_rings_X6_goes : GoodIn wsX6_rings wsX6_goes := goodIn_r _ [24, 9, 25, 10, 26, 11, 27, 28, 29, 30, 31, 7, 32, 3, 12, 13, 14, 15, 16, 17, 18, 19, 20, 33, 34, 35, 40, 41, 42, 43, 44, 45, 46, 47, 48, 49, 50, 51, 52, 53, 54, 55, 56, 57, 58, 59, 60, 61, 62] (by decide +kernel) (by decide +kernel)
set_option maxRecDepth 20000 in
theorem gX6_rings_X6_goes : GoodIn wsX6_rings (wsV RX6 160 RX6 yX6_goes wsX6_goes) := goodIn_app (goodIn_of _ (by decide +kernel)) ggX6_rings_X6_goes
set_option maxRecDepth 20000 in
theorem ggX6_rings_X6_ring : GoodIn wsX6_rings wsX6_ring := goodIn_r _ [39, 25, 26, 27, 1, 28, 2, 12, 13, 7, 14, 15, 16, 17, 18, 19, 20, 29, 30, 31, 32, 3, 33, 34, 35, 40, 41, 42, 43, 44, 45, 46, 47, 48, 49, 50, 51, 52, 53, 54, 55, 56, 57, 58, 59, 60, 61, 62] (by decide +kernel) (by decide +kernel)
set_option maxRecDepth 20000 in
theorem gX6_rings_X6_ring : GoodIn wsX6_rings (wsV RX6 163 RX6 yX6_ring wsX6_ring) := goodIn_app (goodIn_of _ (by decide +kernel)) ggX6_rings_X6_ring
theorem dX6_rings_0 : decode cX6_rings 0 = .ok (.aload_n 0, 1) := by decide +kernel
theorem dX6_rings_1 : decode cX6_rings 1 = .ok (.aload_n 0, 1) := by decide +kernel
theorem dX6_rings_2 : decode cX6_rings 2 = .ok (.getfield 13, 3) := by decide +kernel
theorem dX6_rings_5 : decode cX6_rings 5 = .ok (.aload_n 0, 1) := by decide +kernel
theorem dX6_rings_6 : decode cX6_rings 6 = .ok (.getfield 54, 3) := by decide +kernel
theorem dX6_rings_9 : decode cX6_rings 9 = .ok (.invokevirtual 156, 3) := by decide +kernel
theorem dX6_rings_12 : decode cX6_rings 12 = .ok (.iconst 0, 1) := by decide +kernel
theorem dX6_rings_13 : decode cX6_rings 13 = .ok (.istore_n 2, 1) := by decide +kernel
theorem dX6_rings_14 : decode cX6_rings 14 = .ok (.iload_n 2, 1) := by decide +kernel
theorem dX6_rings_15 : decode cX6_rings 15 = .ok (.bipush 36, 2) := by decide +kernel
theorem dX6_rings_17 : decode cX6_rings 17 = .ok (.if_icmp .ge 16, 3) := by decide +kernel
theorem dX6_rings_20 : decode cX6_rings 20 = .ok (.aload_n 0, 1) := by decide +kernel
theorem dX6_rings_21 : decode cX6_rings 21 = .ok (.getfield 40, 3) := by decide +kernel
theorem dX6_rings_24 : decode cX6_rings 24 = .ok (.iload_n 2, 1) := by decide +kernel
theorem dX6_rings_25 : decode cX6_rings 25 = .ok (.iconst 0, 1) := by decide +kernel
theorem dX6_rings_26 : decode cX6_rings 26 = .ok (.bastore, 1) := by decide +kernel
theorem dX6_rings_27 : decode cX6_rings 27 = .ok (.iinc 2 1, 3) := by decide +kernel
theorem dX6_rings_30 : decode cX6_rings 30 = .ok (.goto (-16), 3) := by decide +kernel
theorem dX6_rings_33 : decode cX6_rings 33 = .ok (.iconst 0, 1) := by decide +kernel
theorem dX6_rings_34 : decode cX6_rings 34 = .ok (.istore_n 2, 1) := by decide +kernel
theorem dX6_rings_35 : decode cX6_rings 35 = .ok (.iload_n 2, 1) := by decide +kernel
theorem dX6_rings_36 : decode cX6_rings 36 = .ok (.iconst 2, 1) := by decide +kernel
theorem dX6_rings_37 : decode cX6_rings 37 = .ok (.aload_n 0, 1) := by decide +kernel
theorem dX6_rings_38 : decode cX6_rings 38 = .ok (.getfield 54, 3) := by decide +kernel
theorem dX6_rings_41 : decode cX6_rings 41 = .ok (.imul, 1) := by decide +kernel
theorem dX6_rings_42 : decode cX6_rings 42 = .ok (.if_icmp .ge 23, 3) := by decide +kernel
theorem dX6_rings_45 : decode cX6_rings 45 = .ok (.aload_n 0, 1) := by decide +kernel
theorem dX6_rings_46 : decode cX6_rings 46 = .ok (.aload_n 0, 1) := by decide +kernel
theorem dX6_rings_47 : decode cX6_rings 47 = .ok (.getfield 13, 3) := by decide +kernel
theorem dX6_rings_50 : decode cX6_rings 50 = .ok (.aload_n 0, 1) := by decide +kernel
theorem dX6_rings_51 : decode cX6_rings 51 = .ok (.getfield 54, 3) := by decide +kernel
theorem dX6_rings_54 : decode cX6_rings 54 = .ok (.iload_n 2, 1) := by decide +kernel
theorem dX6_rings_55 : decode cX6_rings 55 = .ok (.invokevirtual 160, 3) := by decide +kernel
theorem dX6_rings_58 : decode cX6_rings 58 = .ok (.pop, 1) := by decide +kernel
theorem dX6_rings_59 : decode cX6_rings 59 = .ok (.iinc 2 1, 3) := by decide +kernel
theorem dX6_rings_62 : decode cX6_rings 62 = .ok (.goto (-27), 3) := by decide +kernel
theorem dX6_rings_65 : decode cX6_rings 65 = .ok (.iconst 0, 1) := by decide +kernel
theorem dX6_rings_66 : decode cX6_rings 66 = .ok (.istore_n 2, 1) := by decide +kernel
theorem dX6_rings_67 : decode cX6_rings 67 = .ok (.iconst 0, 1) := by decide +kernel
theorem dX6_rings_68 : decode cX6_rings 68 = .ok (.istore_n 3, 1) := by decide +kernel
theorem dX6_rings_69 : decode cX6_rings 69 = .ok (.iconst 1, 1) := by decide +kernel
theorem dX6_rings_70 : decode cX6_rings 70 = .ok (.istore 4, 2) := by decide +kernel
theorem dX6_rings_72 : decode cX6_rings 72 = .ok (.iload 4, 2) := by decide +kernel
theorem dX6_rings_74 : decode cX6_rings 74 = .ok (.aload_n 0, 1) := by decide +kernel
theorem dX6_rings_75 : decode cX6_rings 75 = .ok (.getfield 54, 3) := by decide +kernel
theorem dX6_rings_78 : decode cX6_rings 78 = .ok (.if_icmp .gt 61, 3) := by decide +kernel
theorem dX6_rings_81 : decode cX6_rings 81 = .ok (.iconst 1, 1) := by decide +kernel
theorem dX6_rings_82 : decode cX6_rings 82 = .ok (.istore 5, 2) := by decide +kernel
theorem dX6_rings_84 : decode cX6_rings 84 = .ok (.iload 5, 2) := by decide +kernel
theorem dX6_rings_86 : decode cX6_rings 86 = .ok (.aload_n 0, 1) := by decide +kernel
theorem dX6_rings_87 : decode cX6_rings 87 = .ok (.getfield 54, 3) := by decide +kernel
theorem dX6_rings_90 : decode cX6_rings 90 = .ok (.if_icmp .gt 43, 3) := by decide +kernel
theorem dX6_rings_93 : decode cX6_rings 93 = .ok (.aload_n 0, 1) := by decide +kernel
theorem dX6_rings_94 : decode cX6_rings 94 = .ok (.getfield 40, 3) := by decide +kernel
theorem dX6_rings_97 : decode cX6_rings 97 = .ok (.bipush 6, 2) := by decide +kernel
theorem dX6_rings_99 : decode cX6_rings 99 = .ok (.iload 4, 2) := by decide +kernel
theorem dX6_rings_101 : decode cX6_rings 101 = .ok (.iconst 1, 1) := by decide +kernel
theorem dX6_rings_102 : decode cX6_rings 102 = .ok (.isub, 1) := by decide +kernel
theorem dX6_rings_103 : decode cX6_rings 103 = .ok (.imul, 1) := by decide +kernel
theorem dX6_rings_104 : decode cX6_rings 104 = .ok (.iload 5, 2) := by decide +kernel
theorem dX6_rings_106 : decode cX6_rings 106 = .ok (.iadd, 1) := by decide +kernel
theorem dX6_rings_107 : decode cX6_rings 107 = .ok (.iconst 1, 1) := by decide +kernel
theorem dX6_rings_108 : decode cX6_rings 108 = .ok (.isub, 1) := by decide +kernel
theorem dX6_rings_109 : decode cX6_rings 109 = .ok (.baload, 1) := by decide +kernel
theorem dX6_rings_110 : decode cX6_rings 110 = .ok (.ifCond .ne 17, 3) := by decide +kernel
theorem dX6_rings_113 : decode cX6_rings 113 = .ok (.iload_n 2, 1) := by decide +kernel
theorem dX6_rings_114 : decode cX6_rings 114 = .ok (.aload_n 0, 1) := by decide +kernel
theorem dX6_rings_115 : decode cX6_rings 115 = .ok (.iload 4, 2) := by decide +kernel
theorem dX6_rings_117 : decode cX6_rings 117 = .ok (.iload 5, 2) := by decide +kernel
theorem dX6_rings_119 : decode cX6_rings 119 = .ok (.invokevirtual 163, 3) := by decide +kernel
theorem dX6_rings_122 : decode cX6_rings 122 = .ok (.iadd, 1) := by decide +kernel
theorem dX6_rings_123 : decode cX6_rings 123 = .ok (.istore_n 2, 1) := by decide +kernel
theorem dX6_rings_124 : decode cX6_rings 124 = .ok (.iinc 3 1, 3) := by decide +kernel
theorem dX6_rings_127 : decode cX6_rings 127 = .ok (.iinc 5 1, 3) := by decide +kernel
theorem dX6_rings_130 : decode cX6_rings 130 = .ok (.goto (-46), 3) := by decide +kernel
theorem dX6_rings_133 : decode cX6_rings 133 = .ok (.iinc 4 1, 3) := by decide +kernel
theorem dX6_rings_136 : decode cX6_rings 136 = .ok (.goto (-64), 3) := by decide +kernel
theorem dX6_rings_139 : decode cX6_rings 139 = .ok (.iload_n 1, 1) := by decide +kernel
theorem dX6_rings_140 : decode cX6_rings 140 = .ok (.ifCond .ne 7, 3) := by decide +kernel
theorem dX6_rings_143 : decode cX6_rings 143 = .ok (.iload_n 2, 1) := by decide +kernel
theorem dX6_rings_144 : decode cX6_rings 144 = .ok (.goto 4, 3) := by decide +kernel
theorem dX6_rings_147 : decode cX6_rings 147 = .ok (.iload_n 3, 1) := by decide +kernel
theorem dX6_rings_148 : decode cX6_rings 148 = .ok (.ireturn, 1) := by decide +kernel
set_option maxRecDepth 20000 in
theorem ggX6_ring_X6_isDrawn : GoodIn wsX6_ring wsX6_isDrawn := goodIn_r _ [10, 11, 12, 9, 13, 14, 15, 16] (by decide +kernel) (by decide +kernel)
set_option maxRecDepth 20000 in
theorem gX6_ring_X6_isDrawn : GoodIn wsX6_ring (va_wsS RX6 132 yX6_isDrawn wsX6_isDrawn) := goodIn_app (goodIn_of _ (by decide +kernel)) ggX6_ring_X6_isDrawn
set_option maxRecDepth 20000 in
theorem ggX6_ring_X6_goesOn : GoodIn wsX6_ring wsX6_goesOn := goodIn_r _ [20, 3, 1, 2, 21, 5, 7, 8, 9, 10, 11, 12, 13, 14, 15, 16, 22, 23, 24, 25, 26, 27, 28, 29, 30, 31, 32, 33, 34, 35, 36, 37, 38, 39, 40, 41, 42, 43, 44, 45, 46, 47] (by decide +kernel) (by decide +kernel)
set_option maxRecDepth 20000 in
theorem gX6_ring_X6_goesOn : GoodIn wsX6_ring (wsV RX6 148 RX6 yX6_goesOn wsX6_goesOn) := goodIn_app (goodIn_of _ (by decide +kernel)) ggX6_ring_X6_goesOn
theorem dX6_ring_0 : decode cX6_ring 0 = .ok (.aload_n 0, 1) := by decide +kernel
theorem dX6_ring_1 : decode cX6_ring 1 = .ok (.iload_n 1, 1) := by decide +kernel
theorem dX6_ring_2 : decode cX6_ring 2 = .ok (.putfield 139, 3) := by decide +kernel
theorem dX6_ring_5 : decode cX6_ring 5 = .ok (.aload_n 0, 1) := by decide +kernel
theorem dX6_ring_6 : decode cX6_ring 6 = .ok (.iload_n 2, 1) := by decide +kernel
theorem dX6_ring_7 : decode cX6_ring 7 = .ok (.putfield 142, 3) := by decide +kernel
theorem dX6_ring_10 : decode cX6_ring 10 = .ok (.aload_n 0, 1) := by decide +kernel
theorem dX6_ring_11 : decode cX6_ring 11 = .ok (.iconst 0, 1) := by decide +kernel
theorem dX6_ring_12 : decode cX6_ring 12 = .ok (.putfield 136, 3) := by decide +kernel
theorem dX6_ring_15 : decode cX6_ring 15 = .ok (.aload_n 0, 1) := by decide +kernel
theorem dX6_ring_16 : decode cX6_ring 16 = .ok (.getfield 13, 3) := by decide +kernel
theorem dX6_ring_19 : decode cX6_ring 19 = .ok (.iload_n 1, 1) := by decide +kernel
theorem dX6_ring_20 : decode cX6_ring 20 = .ok (.iload_n 2, 1) := by decide +kernel
theorem dX6_ring_21 : decode cX6_ring 21 = .ok (.aload_n 0, 1) := by decide +kernel
theorem dX6_ring_22 : decode cX6_ring 22 = .ok (.getfield 136, 3) := by decide +kernel
theorem dX6_ring_25 : decode cX6_ring 25 = .ok (.invokestatic 132, 3) := by decide +kernel
theorem dX6_ring_28 : decode cX6_ring 28 = .ok (.ifCond .ne 16, 3) := by decide +kernel
theorem dX6_ring_31 : decode cX6_ring 31 = .ok (.aload_n 0, 1) := by decide +kernel
theorem dX6_ring_32 : decode cX6_ring 32 = .ok (.dup, 1) := by decide +kernel
theorem dX6_ring_33 : decode cX6_ring 33 = .ok (.getfield 136, 3) := by decide +kernel
theorem dX6_ring_36 : decode cX6_ring 36 = .ok (.iconst 1, 1) := by decide +kernel
theorem dX6_ring_37 : decode cX6_ring 37 = .ok (.iadd, 1) := by decide +kernel
theorem dX6_ring_38 : decode cX6_ring 38 = .ok (.putfield 136, 3) := by decide +kernel
theorem dX6_ring_41 : decode cX6_ring 41 = .ok (.goto (-26), 3) := by decide +kernel
theorem dX6_ring_44 : decode cX6_ring 44 = .ok (.aload_n 0, 1) := by decide +kernel
theorem dX6_ring_45 : decode cX6_ring 45 = .ok (.iconst 0, 1) := by decide +kernel
theorem dX6_ring_46 : decode cX6_ring 46 = .ok (.putfield 145, 3) := by decide +kernel
theorem dX6_ring_49 : decode cX6_ring 49 = .ok (.iconst 1, 1) := by decide +kernel
theorem dX6_ring_50 : decode cX6_ring 50 = .ok (.istore_n 3, 1) := by decide +kernel
theorem dX6_ring_51 : decode cX6_ring 51 = .ok (.iload_n 3, 1) := by decide +kernel
theorem dX6_ring_52 : decode cX6_ring 52 = .ok (.ifCond .eq 41, 3) := by decide +kernel
theorem dX6_ring_55 : decode cX6_ring 55 = .ok (.aload_n 0, 1) := by decide +kernel
theorem dX6_ring_56 : decode cX6_ring 56 = .ok (.aload_n 0, 1) := by decide +kernel
theorem dX6_ring_57 : decode cX6_ring 57 = .ok (.getfield 13, 3) := by decide +kernel
theorem dX6_ring_60 : decode cX6_ring 60 = .ok (.aload_n 0, 1) := by decide +kernel
theorem dX6_ring_61 : decode cX6_ring 61 = .ok (.getfield 54, 3) := by decide +kernel
theorem dX6_ring_64 : decode cX6_ring 64 = .ok (.invokevirtual 148, 3) := by decide +kernel
theorem dX6_ring_67 : decode cX6_ring 67 = .ok (.pop, 1) := by decide +kernel
theorem dX6_ring_68 : decode cX6_ring 68 = .ok (.aload_n 0, 1) := by decide +kernel
theorem dX6_ring_69 : decode cX6_ring 69 = .ok (.getfield 139, 3) := by decide +kernel
theorem dX6_ring_72 : decode cX6_ring 72 = .ok (.iload_n 1, 1) := by decide +kernel
theorem dX6_ring_73 : decode cX6_ring 73 = .ok (.if_icmp .ne 11, 3) := by decide +kernel
theorem dX6_ring_76 : decode cX6_ring 76 = .ok (.aload_n 0, 1) := by decide +kernel
theorem dX6_ring_77 : decode cX6_ring 77 = .ok (.getfield 142, 3) := by decide +kernel
theorem dX6_ring_80 : decode cX6_ring 80 = .ok (.iload_n 2, 1) := by decide +kernel
theorem dX6_ring_81 : decode cX6_ring 81 = .ok (.if_icmp .eq 7, 3) := by decide +kernel
theorem dX6_ring_84 : decode cX6_ring 84 = .ok (.iconst 1, 1) := by decide +kernel
theorem dX6_ring_85 : decode cX6_ring 85 = .ok (.goto 4, 3) := by decide +kernel
theorem dX6_ring_88 : decode cX6_ring 88 = .ok (.iconst 0, 1) := by decide +kernel
theorem dX6_ring_89 : decode cX6_ring 89 = .ok (.istore_n 3, 1) := by decide +kernel
theorem dX6_ring_90 : decode cX6_ring 90 = .ok (.goto (-39), 3) := by decide +kernel
theorem dX6_ring_93 : decode cX6_ring 93 = .ok (.aload_n 0, 1) := by decide +kernel
theorem dX6_ring_94 : decode cX6_ring 94 = .ok (.getfield 145, 3) := by decide +kernel
theorem dX6_ring_97 : decode cX6_ring 97 = .ok (.ireturn, 1) := by decide +kernel
theorem dX6_signOf_0 : decode cX6_signOf 0 = .ok (.iload_n 1, 1) := by decide +kernel
theorem dX6_signOf_1 : decode cX6_signOf 1 = .ok (.iload_n 2, 1) := by decide +kernel
theorem dX6_signOf_2 : decode cX6_signOf 2 = .ok (.ishr, 1) := by decide +kernel
theorem dX6_signOf_3 : decode cX6_signOf 3 = .ok (.iconst 1, 1) := by decide +kernel
theorem dX6_signOf_4 : decode cX6_signOf 4 = .ok (.iand, 1) := by decide +kernel
theorem dX6_signOf_5 : decode cX6_signOf 5 = .ok (.iload_n 0, 1) := by decide +kernel
theorem dX6_signOf_6 : decode cX6_signOf 6 = .ok (.iload_n 2, 1) := by decide +kernel
theorem dX6_signOf_7 : decode cX6_signOf 7 = .ok (.ishr, 1) := by decide +kernel
theorem dX6_signOf_8 : decode cX6_signOf 8 = .ok (.iconst 1, 1) := by decide +kernel
theorem dX6_signOf_9 : decode cX6_signOf 9 = .ok (.iand, 1) := by decide +kernel
theorem dX6_signOf_10 : decode cX6_signOf 10 = .ok (.isub, 1) := by decide +kernel
theorem dX6_signOf_11 : decode cX6_signOf 11 = .ok (.ireturn, 1) := by decide +kernel
set_option maxRecDepth 20000 in
theorem ggX6_leads_X6_signOf : GoodIn wsX6_leads wsX6_signOf := goodIn_r _ [4] (by decide +kernel) (by decide +kernel)
set_option maxRecDepth 20000 in
theorem gX6_leads_X6_signOf : GoodIn wsX6_leads (va_wsS RX6 167 yX6_signOf wsX6_signOf) := goodIn_app (goodIn_of _ (by decide +kernel)) ggX6_leads_X6_signOf
set_option maxRecDepth 20000 in
theorem ggX6_leads_X6_in : GoodIn wsX6_leads wsX6_in := goodIn_r _ [7] (by decide +kernel) (by decide +kernel)
set_option maxRecDepth 20000 in
theorem gX6_leads_X6_in : GoodIn wsX6_leads (va_wsS RX6 62 yX6_in wsX6_in) := goodIn_app (goodIn_of _ (by decide +kernel)) ggX6_leads_X6_in
theorem dX6_leads_0 : decode cX6_leads 0 = .ok (.iconst 0, 1) := by decide +kernel
theorem dX6_leads_1 : decode cX6_leads 1 = .ok (.istore_n 3, 1) := by decide +kernel
theorem dX6_leads_2 : decode cX6_leads 2 = .ok (.iconst 1, 1) := by decide +kernel
theorem dX6_leads_3 : decode cX6_leads 3 = .ok (.istore 4, 2) := by decide +kernel
theorem dX6_leads_5 : decode cX6_leads 5 = .ok (.iconst 0, 1) := by decide +kernel
theorem dX6_leads_6 : decode cX6_leads 6 = .ok (.istore 5, 2) := by decide +kernel
theorem dX6_leads_8 : decode cX6_leads 8 = .ok (.iload 5, 2) := by decide +kernel
theorem dX6_leads_10 : decode cX6_leads 10 = .ok (.iload_n 0, 1) := by decide +kernel
theorem dX6_leads_11 : decode cX6_leads 11 = .ok (.if_icmp .ge 41, 3) := by decide +kernel
theorem dX6_leads_14 : decode cX6_leads 14 = .ok (.iload_n 3, 1) := by decide +kernel
theorem dX6_leads_15 : decode cX6_leads 15 = .ok (.iload_n 1, 1) := by decide +kernel
theorem dX6_leads_16 : decode cX6_leads 16 = .ok (.iload_n 2, 1) := by decide +kernel
theorem dX6_leads_17 : decode cX6_leads 17 = .ok (.iload 5, 2) := by decide +kernel
theorem dX6_leads_19 : decode cX6_leads 19 = .ok (.invokestatic 167, 3) := by decide +kernel
theorem dX6_leads_22 : decode cX6_leads 22 = .ok (.iadd, 1) := by decide +kernel
theorem dX6_leads_23 : decode cX6_leads 23 = .ok (.istore_n 3, 1) := by decide +kernel
theorem dX6_leads_24 : decode cX6_leads 24 = .ok (.iload 4, 2) := by decide +kernel
theorem dX6_leads_26 : decode cX6_leads 26 = .ok (.ifCond .eq 17, 3) := by decide +kernel
theorem dX6_leads_29 : decode cX6_leads 29 = .ok (.iload_n 3, 1) := by decide +kernel
theorem dX6_leads_30 : decode cX6_leads 30 = .ok (.i2l, 1) := by decide +kernel
theorem dX6_leads_31 : decode cX6_leads 31 = .ok (.lconst 0, 1) := by decide +kernel
theorem dX6_leads_32 : decode cX6_leads 32 = .ok (.lconst 1, 1) := by decide +kernel
theorem dX6_leads_33 : decode cX6_leads 33 = .ok (.invokestatic 62, 3) := by decide +kernel
theorem dX6_leads_36 : decode cX6_leads 36 = .ok (.ifCond .eq 7, 3) := by decide +kernel
theorem dX6_leads_39 : decode cX6_leads 39 = .ok (.iconst 1, 1) := by decide +kernel
theorem dX6_leads_40 : decode cX6_leads 40 = .ok (.goto 4, 3) := by decide +kernel
theorem dX6_leads_43 : decode cX6_leads 43 = .ok (.iconst 0, 1) := by decide +kernel
theorem dX6_leads_44 : decode cX6_leads 44 = .ok (.istore 4, 2) := by decide +kernel
theorem dX6_leads_46 : decode cX6_leads 46 = .ok (.iinc 5 1, 3) := by decide +kernel
theorem dX6_leads_49 : decode cX6_leads 49 = .ok (.goto (-41), 3) := by decide +kernel
theorem dX6_leads_52 : decode cX6_leads 52 = .ok (.iload 4, 2) := by decide +kernel
theorem dX6_leads_54 : decode cX6_leads 54 = .ok (.ifCond .eq 12, 3) := by decide +kernel
theorem dX6_leads_57 : decode cX6_leads 57 = .ok (.iload_n 3, 1) := by decide +kernel
theorem dX6_leads_58 : decode cX6_leads 58 = .ok (.iconst 1, 1) := by decide +kernel
theorem dX6_leads_59 : decode cX6_leads 59 = .ok (.if_icmp .ne 7, 3) := by decide +kernel
theorem dX6_leads_62 : decode cX6_leads 62 = .ok (.iconst 1, 1) := by decide +kernel
theorem dX6_leads_63 : decode cX6_leads 63 = .ok (.goto 4, 3) := by decide +kernel
theorem dX6_leads_66 : decode cX6_leads 66 = .ok (.iconst 0, 1) := by decide +kernel
theorem dX6_leads_67 : decode cX6_leads 67 = .ok (.ireturn, 1) := by decide +kernel
set_option maxRecDepth 20000 in
theorem ggX6_findWays_X6_leads : GoodIn wsX6_findWays wsX6_leads := goodIn_r _ [5, 6, 7, 4, 8, 9, 10, 11] (by decide +kernel) (by decide +kernel)
set_option maxRecDepth 20000 in
theorem gX6_findWays_X6_leads : GoodIn wsX6_findWays (va_wsS RX6 171 yX6_leads wsX6_leads) := goodIn_app (goodIn_of _ (by decide +kernel)) ggX6_findWays_X6_leads
theorem dX6_findWays_0 : decode cX6_findWays 0 = .ok (.iconst 0, 1) := by decide +kernel
theorem dX6_findWays_1 : decode cX6_findWays 1 = .ok (.istore_n 2, 1) := by decide +kernel
theorem dX6_findWays_2 : decode cX6_findWays 2 = .ok (.iload_n 2, 1) := by decide +kernel
theorem dX6_findWays_3 : decode cX6_findWays 3 = .ok (.bipush 64, 2) := by decide +kernel
theorem dX6_findWays_5 : decode cX6_findWays 5 = .ok (.if_icmp .ge 34, 3) := by decide +kernel
theorem dX6_findWays_8 : decode cX6_findWays 8 = .ok (.aload_n 0, 1) := by decide +kernel
theorem dX6_findWays_9 : decode cX6_findWays 9 = .ok (.getfield 44, 3) := by decide +kernel
theorem dX6_findWays_12 : decode cX6_findWays 12 = .ok (.bipush 64, 2) := by decide +kernel
theorem dX6_findWays_14 : decode cX6_findWays 14 = .ok (.iload_n 1, 1) := by decide +kernel
theorem dX6_findWays_15 : decode cX6_findWays 15 = .ok (.imul, 1) := by decide +kernel
theorem dX6_findWays_16 : decode cX6_findWays 16 = .ok (.iload_n 2, 1) := by decide +kernel
theorem dX6_findWays_17 : decode cX6_findWays 17 = .ok (.iadd, 1) := by decide +kernel
theorem dX6_findWays_18 : decode cX6_findWays 18 = .ok (.iload_n 2, 1) := by decide +kernel
theorem dX6_findWays_19 : decode cX6_findWays 19 = .ok (.iconst 1, 1) := by decide +kernel
theorem dX6_findWays_20 : decode cX6_findWays 20 = .ok (.iload_n 1, 1) := by decide +kernel
theorem dX6_findWays_21 : decode cX6_findWays 21 = .ok (.ishl, 1) := by decide +kernel
theorem dX6_findWays_22 : decode cX6_findWays 22 = .ok (.iconst 1, 1) := by decide +kernel
theorem dX6_findWays_23 : decode cX6_findWays 23 = .ok (.isub, 1) := by decide +kernel
theorem dX6_findWays_24 : decode cX6_findWays 24 = .ok (.if_icmp .ne 7, 3) := by decide +kernel
theorem dX6_findWays_27 : decode cX6_findWays 27 = .ok (.iconst 1, 1) := by decide +kernel
theorem dX6_findWays_28 : decode cX6_findWays 28 = .ok (.goto 4, 3) := by decide +kernel
theorem dX6_findWays_31 : decode cX6_findWays 31 = .ok (.iconst 0, 1) := by decide +kernel
theorem dX6_findWays_32 : decode cX6_findWays 32 = .ok (.iastore, 1) := by decide +kernel
theorem dX6_findWays_33 : decode cX6_findWays 33 = .ok (.iinc 2 1, 3) := by decide +kernel
theorem dX6_findWays_36 : decode cX6_findWays 36 = .ok (.goto (-34), 3) := by decide +kernel
theorem dX6_findWays_39 : decode cX6_findWays 39 = .ok (.iload_n 1, 1) := by decide +kernel
theorem dX6_findWays_40 : decode cX6_findWays 40 = .ok (.iconst 1, 1) := by decide +kernel
theorem dX6_findWays_41 : decode cX6_findWays 41 = .ok (.isub, 1) := by decide +kernel
theorem dX6_findWays_42 : decode cX6_findWays 42 = .ok (.istore_n 2, 1) := by decide +kernel
theorem dX6_findWays_43 : decode cX6_findWays 43 = .ok (.iload_n 2, 1) := by decide +kernel
theorem dX6_findWays_44 : decode cX6_findWays 44 = .ok (.ifCond .lt 112, 3) := by decide +kernel
theorem dX6_findWays_47 : decode cX6_findWays 47 = .ok (.iconst 0, 1) := by decide +kernel
theorem dX6_findWays_48 : decode cX6_findWays 48 = .ok (.istore_n 3, 1) := by decide +kernel
theorem dX6_findWays_49 : decode cX6_findWays 49 = .ok (.iload_n 3, 1) := by decide +kernel
theorem dX6_findWays_50 : decode cX6_findWays 50 = .ok (.iconst 1, 1) := by decide +kernel
theorem dX6_findWays_51 : decode cX6_findWays 51 = .ok (.iload_n 1, 1) := by decide +kernel
theorem dX6_findWays_52 : decode cX6_findWays 52 = .ok (.ishl, 1) := by decide +kernel
theorem dX6_findWays_53 : decode cX6_findWays 53 = .ok (.if_icmp .ge 97, 3) := by decide +kernel
theorem dX6_findWays_56 : decode cX6_findWays 56 = .ok (.aload_n 0, 1) := by decide +kernel
theorem dX6_findWays_57 : decode cX6_findWays 57 = .ok (.getfield 44, 3) := by decide +kernel
theorem dX6_findWays_60 : decode cX6_findWays 60 = .ok (.bipush 64, 2) := by decide +kernel
theorem dX6_findWays_62 : decode cX6_findWays 62 = .ok (.iload_n 2, 1) := by decide +kernel
theorem dX6_findWays_63 : decode cX6_findWays 63 = .ok (.imul, 1) := by decide +kernel
theorem dX6_findWays_64 : decode cX6_findWays 64 = .ok (.iload_n 3, 1) := by decide +kernel
theorem dX6_findWays_65 : decode cX6_findWays 65 = .ok (.iadd, 1) := by decide +kernel
theorem dX6_findWays_66 : decode cX6_findWays 66 = .ok (.iconst 0, 1) := by decide +kernel
theorem dX6_findWays_67 : decode cX6_findWays 67 = .ok (.iastore, 1) := by decide +kernel
theorem dX6_findWays_68 : decode cX6_findWays 68 = .ok (.iconst 0, 1) := by decide +kernel
theorem dX6_findWays_69 : decode cX6_findWays 69 = .ok (.istore 4, 2) := by decide +kernel
theorem dX6_findWays_71 : decode cX6_findWays 71 = .ok (.iload 4, 2) := by decide +kernel
theorem dX6_findWays_73 : decode cX6_findWays 73 = .ok (.iconst 1, 1) := by decide +kernel
theorem dX6_findWays_74 : decode cX6_findWays 74 = .ok (.iload_n 1, 1) := by decide +kernel
theorem dX6_findWays_75 : decode cX6_findWays 75 = .ok (.ishl, 1) := by decide +kernel
theorem dX6_findWays_76 : decode cX6_findWays 76 = .ok (.if_icmp .ge 68, 3) := by decide +kernel
theorem dX6_findWays_79 : decode cX6_findWays 79 = .ok (.aload_n 0, 1) := by decide +kernel
theorem dX6_findWays_80 : decode cX6_findWays 80 = .ok (.getfield 44, 3) := by decide +kernel
theorem dX6_findWays_83 : decode cX6_findWays 83 = .ok (.bipush 64, 2) := by decide +kernel
theorem dX6_findWays_85 : decode cX6_findWays 85 = .ok (.iload_n 2, 1) := by decide +kernel
theorem dX6_findWays_86 : decode cX6_findWays 86 = .ok (.imul, 1) := by decide +kernel
theorem dX6_findWays_87 : decode cX6_findWays 87 = .ok (.iload_n 3, 1) := by decide +kernel
theorem dX6_findWays_88 : decode cX6_findWays 88 = .ok (.iadd, 1) := by decide +kernel
theorem dX6_findWays_89 : decode cX6_findWays 89 = .ok (.dup2, 1) := by decide +kernel
theorem dX6_findWays_90 : decode cX6_findWays 90 = .ok (.iaload, 1) := by decide +kernel
theorem dX6_findWays_91 : decode cX6_findWays 91 = .ok (.aload_n 0, 1) := by decide +kernel
theorem dX6_findWays_92 : decode cX6_findWays 92 = .ok (.getfield 44, 3) := by decide +kernel
theorem dX6_findWays_95 : decode cX6_findWays 95 = .ok (.bipush 64, 2) := by decide +kernel
theorem dX6_findWays_97 : decode cX6_findWays 97 = .ok (.iload_n 2, 1) := by decide +kernel
theorem dX6_findWays_98 : decode cX6_findWays 98 = .ok (.iconst 1, 1) := by decide +kernel
theorem dX6_findWays_99 : decode cX6_findWays 99 = .ok (.iadd, 1) := by decide +kernel
theorem dX6_findWays_100 : decode cX6_findWays 100 = .ok (.imul, 1) := by decide +kernel
theorem dX6_findWays_101 : decode cX6_findWays 101 = .ok (.iload 4, 2) := by decide +kernel
theorem dX6_findWays_103 : decode cX6_findWays 103 = .ok (.iadd, 1) := by decide +kernel
theorem dX6_findWays_104 : decode cX6_findWays 104 = .ok (.iaload, 1) := by decide +kernel
theorem dX6_findWays_105 : decode cX6_findWays 105 = .ok (.ifCond .le 30, 3) := by decide +kernel
theorem dX6_findWays_108 : decode cX6_findWays 108 = .ok (.iload_n 1, 1) := by decide +kernel
theorem dX6_findWays_109 : decode cX6_findWays 109 = .ok (.iload_n 3, 1) := by decide +kernel
theorem dX6_findWays_110 : decode cX6_findWays 110 = .ok (.iload 4, 2) := by decide +kernel
theorem dX6_findWays_112 : decode cX6_findWays 112 = .ok (.invokestatic 171, 3) := by decide +kernel
theorem dX6_findWays_115 : decode cX6_findWays 115 = .ok (.ifCond .eq 20, 3) := by decide +kernel
theorem dX6_findWays_118 : decode cX6_findWays 118 = .ok (.aload_n 0, 1) := by decide +kernel
theorem dX6_findWays_119 : decode cX6_findWays 119 = .ok (.getfield 44, 3) := by decide +kernel
theorem dX6_findWays_122 : decode cX6_findWays 122 = .ok (.bipush 64, 2) := by decide +kernel
theorem dX6_findWays_124 : decode cX6_findWays 124 = .ok (.iload_n 2, 1) := by decide +kernel
theorem dX6_findWays_125 : decode cX6_findWays 125 = .ok (.iconst 1, 1) := by decide +kernel
theorem dX6_findWays_126 : decode cX6_findWays 126 = .ok (.iadd, 1) := by decide +kernel
theorem dX6_findWays_127 : decode cX6_findWays 127 = .ok (.imul, 1) := by decide +kernel
theorem dX6_findWays_128 : decode cX6_findWays 128 = .ok (.iload 4, 2) := by decide +kernel
theorem dX6_findWays_130 : decode cX6_findWays 130 = .ok (.iadd, 1) := by decide +kernel
theorem dX6_findWays_131 : decode cX6_findWays 131 = .ok (.iaload, 1) := by decide +kernel
theorem dX6_findWays_132 : decode cX6_findWays 132 = .ok (.goto 4, 3) := by decide +kernel
theorem dX6_findWays_135 : decode cX6_findWays 135 = .ok (.iconst 0, 1) := by decide +kernel
theorem dX6_findWays_136 : decode cX6_findWays 136 = .ok (.iadd, 1) := by decide +kernel
theorem dX6_findWays_137 : decode cX6_findWays 137 = .ok (.iastore, 1) := by decide +kernel
theorem dX6_findWays_138 : decode cX6_findWays 138 = .ok (.iinc 4 1, 3) := by decide +kernel
theorem dX6_findWays_141 : decode cX6_findWays 141 = .ok (.goto (-70), 3) := by decide +kernel
theorem dX6_findWays_144 : decode cX6_findWays 144 = .ok (.iinc 3 1, 3) := by decide +kernel
theorem dX6_findWays_147 : decode cX6_findWays 147 = .ok (.goto (-98), 3) := by decide +kernel
theorem dX6_findWays_150 : decode cX6_findWays 150 = .ok (.iinc 2 (-1), 3) := by decide +kernel
theorem dX6_findWays_153 : decode cX6_findWays 153 = .ok (.goto (-110), 3) := by decide +kernel
theorem dX6_findWays_156 : decode cX6_findWays 156 = .ok (.aload_n 0, 1) := by decide +kernel
theorem dX6_findWays_157 : decode cX6_findWays 157 = .ok (.getfield 44, 3) := by decide +kernel
theorem dX6_findWays_160 : decode cX6_findWays 160 = .ok (.iconst 0, 1) := by decide +kernel
theorem dX6_findWays_161 : decode cX6_findWays 161 = .ok (.iaload, 1) := by decide +kernel
theorem dX6_findWays_162 : decode cX6_findWays 162 = .ok (.ireturn, 1) := by decide +kernel
set_option maxRecDepth 20000 in
theorem ggX6_isAhead_X6_signOf : GoodIn wsX6_isAhead wsX6_signOf := goodIn_r _ [4] (by decide +kernel) (by decide +kernel)
set_option maxRecDepth 20000 in
theorem gX6_isAhead_X6_signOf : GoodIn wsX6_isAhead (va_wsS RX6 167 yX6_signOf wsX6_signOf) := goodIn_app (goodIn_of _ (by decide +kernel)) ggX6_isAhead_X6_signOf
theorem dX6_isAhead_0 : decode cX6_isAhead 0 = .ok (.iconst 0, 1) := by decide +kernel
theorem dX6_isAhead_1 : decode cX6_isAhead 1 = .ok (.istore_n 3, 1) := by decide +kernel
theorem dX6_isAhead_2 : decode cX6_isAhead 2 = .ok (.iload_n 3, 1) := by decide +kernel
theorem dX6_isAhead_3 : decode cX6_isAhead 3 = .ok (.bipush 6, 2) := by decide +kernel
theorem dX6_isAhead_5 : decode cX6_isAhead 5 = .ok (.if_icmp .ge 24, 3) := by decide +kernel
theorem dX6_isAhead_8 : decode cX6_isAhead 8 = .ok (.iload_n 0, 1) := by decide +kernel
theorem dX6_isAhead_9 : decode cX6_isAhead 9 = .ok (.iload_n 1, 1) := by decide +kernel
theorem dX6_isAhead_10 : decode cX6_isAhead 10 = .ok (.iload_n 3, 1) := by decide +kernel
theorem dX6_isAhead_11 : decode cX6_isAhead 11 = .ok (.invokestatic 167, 3) := by decide +kernel
theorem dX6_isAhead_14 : decode cX6_isAhead 14 = .ok (.iload_n 0, 1) := by decide +kernel
theorem dX6_isAhead_15 : decode cX6_isAhead 15 = .ok (.iload_n 2, 1) := by decide +kernel
theorem dX6_isAhead_16 : decode cX6_isAhead 16 = .ok (.iload_n 3, 1) := by decide +kernel
theorem dX6_isAhead_17 : decode cX6_isAhead 17 = .ok (.invokestatic 167, 3) := by decide +kernel
theorem dX6_isAhead_20 : decode cX6_isAhead 20 = .ok (.if_icmp .ne 9, 3) := by decide +kernel
theorem dX6_isAhead_23 : decode cX6_isAhead 23 = .ok (.iinc 3 1, 3) := by decide +kernel
theorem dX6_isAhead_26 : decode cX6_isAhead 26 = .ok (.goto (-24), 3) := by decide +kernel
theorem dX6_isAhead_29 : decode cX6_isAhead 29 = .ok (.iload_n 3, 1) := by decide +kernel
theorem dX6_isAhead_30 : decode cX6_isAhead 30 = .ok (.bipush 6, 2) := by decide +kernel
theorem dX6_isAhead_32 : decode cX6_isAhead 32 = .ok (.if_icmp .ge 22, 3) := by decide +kernel
theorem dX6_isAhead_35 : decode cX6_isAhead 35 = .ok (.iload_n 0, 1) := by decide +kernel
theorem dX6_isAhead_36 : decode cX6_isAhead 36 = .ok (.iload_n 1, 1) := by decide +kernel
theorem dX6_isAhead_37 : decode cX6_isAhead 37 = .ok (.iload_n 3, 1) := by decide +kernel
theorem dX6_isAhead_38 : decode cX6_isAhead 38 = .ok (.invokestatic 167, 3) := by decide +kernel
theorem dX6_isAhead_41 : decode cX6_isAhead 41 = .ok (.iload_n 0, 1) := by decide +kernel
theorem dX6_isAhead_42 : decode cX6_isAhead 42 = .ok (.iload_n 2, 1) := by decide +kernel
theorem dX6_isAhead_43 : decode cX6_isAhead 43 = .ok (.iload_n 3, 1) := by decide +kernel
theorem dX6_isAhead_44 : decode cX6_isAhead 44 = .ok (.invokestatic 167, 3) := by decide +kernel
theorem dX6_isAhead_47 : decode cX6_isAhead 47 = .ok (.if_icmp .le 7, 3) := by decide +kernel
theorem dX6_isAhead_50 : decode cX6_isAhead 50 = .ok (.iconst 1, 1) := by decide +kernel
theorem dX6_isAhead_51 : decode cX6_isAhead 51 = .ok (.goto 4, 3) := by decide +kernel
theorem dX6_isAhead_54 : decode cX6_isAhead 54 = .ok (.iconst 0, 1) := by decide +kernel
theorem dX6_isAhead_55 : decode cX6_isAhead 55 = .ok (.ireturn, 1) := by decide +kernel
set_option maxRecDepth 20000 in
theorem ggX6_aheadOf_X6_leads : GoodIn wsX6_aheadOf wsX6_leads := goodIn_r _ [5, 6, 7, 4, 8, 9, 10, 11] (by decide +kernel) (by decide +kernel)
set_option maxRecDepth 20000 in
theorem gX6_aheadOf_X6_leads : GoodIn wsX6_aheadOf (va_wsS RX6 171 yX6_leads wsX6_leads) := goodIn_app (goodIn_of _ (by decide +kernel)) ggX6_aheadOf_X6_leads
set_option maxRecDepth 20000 in
theorem ggX6_aheadOf_X6_isAhead : GoodIn wsX6_aheadOf wsX6_isAhead := goodIn_r _ [14, 6, 7, 4, 8] (by decide +kernel) (by decide +kernel)
set_option maxRecDepth 20000 in
theorem gX6_aheadOf_X6_isAhead : GoodIn wsX6_aheadOf (va_wsS RX6 175 yX6_isAhead wsX6_isAhead) := goodIn_app (goodIn_of _ (by decide +kernel)) ggX6_aheadOf_X6_isAhead
theorem dX6_aheadOf_0 : decode cX6_aheadOf 0 = .ok (.iconst 0, 1) := by decide +kernel
theorem dX6_aheadOf_1 : decode cX6_aheadOf 1 = .ok (.istore 5, 2) := by decide +kernel
theorem dX6_aheadOf_3 : decode cX6_aheadOf 3 = .ok (.iconst 0, 1) := by decide +kernel
theorem dX6_aheadOf_4 : decode cX6_aheadOf 4 = .ok (.istore 6, 2) := by decide +kernel
theorem dX6_aheadOf_6 : decode cX6_aheadOf 6 = .ok (.iload 6, 2) := by decide +kernel
theorem dX6_aheadOf_8 : decode cX6_aheadOf 8 = .ok (.iconst 1, 1) := by decide +kernel
theorem dX6_aheadOf_9 : decode cX6_aheadOf 9 = .ok (.iload_n 1, 1) := by decide +kernel
theorem dX6_aheadOf_10 : decode cX6_aheadOf 10 = .ok (.ishl, 1) := by decide +kernel
theorem dX6_aheadOf_11 : decode cX6_aheadOf 11 = .ok (.if_icmp .ge 53, 3) := by decide +kernel
theorem dX6_aheadOf_14 : decode cX6_aheadOf 14 = .ok (.iload 5, 2) := by decide +kernel
theorem dX6_aheadOf_16 : decode cX6_aheadOf 16 = .ok (.iload_n 1, 1) := by decide +kernel
theorem dX6_aheadOf_17 : decode cX6_aheadOf 17 = .ok (.iload_n 3, 1) := by decide +kernel
theorem dX6_aheadOf_18 : decode cX6_aheadOf 18 = .ok (.iload 6, 2) := by decide +kernel
theorem dX6_aheadOf_20 : decode cX6_aheadOf 20 = .ok (.invokestatic 171, 3) := by decide +kernel
theorem dX6_aheadOf_23 : decode cX6_aheadOf 23 = .ok (.ifCond .eq 31, 3) := by decide +kernel
theorem dX6_aheadOf_26 : decode cX6_aheadOf 26 = .ok (.iload_n 3, 1) := by decide +kernel
theorem dX6_aheadOf_27 : decode cX6_aheadOf 27 = .ok (.iload 6, 2) := by decide +kernel
theorem dX6_aheadOf_29 : decode cX6_aheadOf 29 = .ok (.iload 4, 2) := by decide +kernel
theorem dX6_aheadOf_31 : decode cX6_aheadOf 31 = .ok (.invokestatic 175, 3) := by decide +kernel
theorem dX6_aheadOf_34 : decode cX6_aheadOf 34 = .ok (.ifCond .eq 20, 3) := by decide +kernel
theorem dX6_aheadOf_37 : decode cX6_aheadOf 37 = .ok (.aload_n 0, 1) := by decide +kernel
theorem dX6_aheadOf_38 : decode cX6_aheadOf 38 = .ok (.getfield 44, 3) := by decide +kernel
theorem dX6_aheadOf_41 : decode cX6_aheadOf 41 = .ok (.bipush 64, 2) := by decide +kernel
theorem dX6_aheadOf_43 : decode cX6_aheadOf 43 = .ok (.iload_n 2, 1) := by decide +kernel
theorem dX6_aheadOf_44 : decode cX6_aheadOf 44 = .ok (.iconst 1, 1) := by decide +kernel
theorem dX6_aheadOf_45 : decode cX6_aheadOf 45 = .ok (.iadd, 1) := by decide +kernel
theorem dX6_aheadOf_46 : decode cX6_aheadOf 46 = .ok (.imul, 1) := by decide +kernel
theorem dX6_aheadOf_47 : decode cX6_aheadOf 47 = .ok (.iload 6, 2) := by decide +kernel
theorem dX6_aheadOf_49 : decode cX6_aheadOf 49 = .ok (.iadd, 1) := by decide +kernel
theorem dX6_aheadOf_50 : decode cX6_aheadOf 50 = .ok (.iaload, 1) := by decide +kernel
theorem dX6_aheadOf_51 : decode cX6_aheadOf 51 = .ok (.goto 4, 3) := by decide +kernel
theorem dX6_aheadOf_54 : decode cX6_aheadOf 54 = .ok (.iconst 0, 1) := by decide +kernel
theorem dX6_aheadOf_55 : decode cX6_aheadOf 55 = .ok (.iadd, 1) := by decide +kernel
theorem dX6_aheadOf_56 : decode cX6_aheadOf 56 = .ok (.istore 5, 2) := by decide +kernel
theorem dX6_aheadOf_58 : decode cX6_aheadOf 58 = .ok (.iinc 6 1, 3) := by decide +kernel
theorem dX6_aheadOf_61 : decode cX6_aheadOf 61 = .ok (.goto (-55), 3) := by decide +kernel
theorem dX6_aheadOf_64 : decode cX6_aheadOf 64 = .ok (.iload 5, 2) := by decide +kernel
theorem dX6_aheadOf_66 : decode cX6_aheadOf 66 = .ok (.ireturn, 1) := by decide +kernel
set_option maxRecDepth 20000 in
theorem ggX6_rank_X6_findWays : GoodIn wsX6_rank wsX6_findWays := goodIn_r _ [7, 8, 9, 10, 6, 11, 12, 13, 14, 15, 16, 17, 25, 26, 27, 28, 29, 30, 31, 32, 33, 34, 35, 36, 37, 38, 39, 40, 41, 42, 43, 44, 45, 46, 47] (by decide +kernel) (by decide +kernel)
set_option maxRecDepth 20000 in
theorem gX6_rank_X6_findWays : GoodIn wsX6_rank (wsV RX6 178 RX6 yX6_findWays wsX6_findWays) := goodIn_app (goodIn_of _ (by decide +kernel)) ggX6_rank_X6_findWays
set_option maxRecDepth 20000 in
theorem ggX6_rank_X6_aheadOf : GoodIn wsX6_rank wsX6_aheadOf := goodIn_r _ [21, 8, 9, 10, 6, 11, 12, 13, 14, 15, 16, 17, 22, 23, 24, 25, 26, 27, 28, 29, 30, 31, 32, 33, 34, 35, 36, 37, 38, 39, 40, 41, 42, 43, 44, 45, 46, 47] (by decide +kernel) (by decide +kernel)
set_option maxRecDepth 20000 in
theorem gX6_rank_X6_aheadOf : GoodIn wsX6_rank (wsV RX6 181 RX6 yX6_aheadOf wsX6_aheadOf) := goodIn_app (goodIn_of _ (by decide +kernel)) ggX6_rank_X6_aheadOf
theorem dX6_rank_0 : decode cX6_rank 0 = .ok (.aload_n 0, 1) := by decide +kernel
theorem dX6_rank_1 : decode cX6_rank 1 = .ok (.aload_n 0, 1) := by decide +kernel
theorem dX6_rank_2 : decode cX6_rank 2 = .ok (.getfield 54, 3) := by decide +kernel
theorem dX6_rank_5 : decode cX6_rank 5 = .ok (.invokevirtual 178, 3) := by decide +kernel
theorem dX6_rank_8 : decode cX6_rank 8 = .ok (.pop, 1) := by decide +kernel
theorem dX6_rank_9 : decode cX6_rank 9 = .ok (.iconst 0, 1) := by decide +kernel
theorem dX6_rank_10 : decode cX6_rank 10 = .ok (.istore_n 1, 1) := by decide +kernel
theorem dX6_rank_11 : decode cX6_rank 11 = .ok (.iconst 0, 1) := by decide +kernel
theorem dX6_rank_12 : decode cX6_rank 12 = .ok (.istore_n 2, 1) := by decide +kernel
theorem dX6_rank_13 : decode cX6_rank 13 = .ok (.iconst 0, 1) := by decide +kernel
theorem dX6_rank_14 : decode cX6_rank 14 = .ok (.istore_n 3, 1) := by decide +kernel
theorem dX6_rank_15 : decode cX6_rank 15 = .ok (.iload_n 3, 1) := by decide +kernel
theorem dX6_rank_16 : decode cX6_rank 16 = .ok (.aload_n 0, 1) := by decide +kernel
theorem dX6_rank_17 : decode cX6_rank 17 = .ok (.getfield 54, 3) := by decide +kernel
theorem dX6_rank_20 : decode cX6_rank 20 = .ok (.if_icmp .ge 100, 3) := by decide +kernel
theorem dX6_rank_23 : decode cX6_rank 23 = .ok (.iload_n 2, 1) := by decide +kernel
theorem dX6_rank_24 : decode cX6_rank 24 = .ok (.istore 4, 2) := by decide +kernel
theorem dX6_rank_26 : decode cX6_rank 26 = .ok (.iconst 0, 1) := by decide +kernel
theorem dX6_rank_27 : decode cX6_rank 27 = .ok (.istore 5, 2) := by decide +kernel
theorem dX6_rank_29 : decode cX6_rank 29 = .ok (.iload 5, 2) := by decide +kernel
theorem dX6_rank_31 : decode cX6_rank 31 = .ok (.aload_n 0, 1) := by decide +kernel
theorem dX6_rank_32 : decode cX6_rank 32 = .ok (.getfield 54, 3) := by decide +kernel
theorem dX6_rank_35 : decode cX6_rank 35 = .ok (.if_icmp .ge 61, 3) := by decide +kernel
theorem dX6_rank_38 : decode cX6_rank 38 = .ok (.aload_n 0, 1) := by decide +kernel
theorem dX6_rank_39 : decode cX6_rank 39 = .ok (.getfield 13, 3) := by decide +kernel
theorem dX6_rank_42 : decode cX6_rank 42 = .ok (.bipush 6, 2) := by decide +kernel
theorem dX6_rank_44 : decode cX6_rank 44 = .ok (.iload_n 3, 1) := by decide +kernel
theorem dX6_rank_45 : decode cX6_rank 45 = .ok (.imul, 1) := by decide +kernel
theorem dX6_rank_46 : decode cX6_rank 46 = .ok (.iload 5, 2) := by decide +kernel
theorem dX6_rank_48 : decode cX6_rank 48 = .ok (.iadd, 1) := by decide +kernel
theorem dX6_rank_49 : decode cX6_rank 49 = .ok (.iaload, 1) := by decide +kernel
theorem dX6_rank_50 : decode cX6_rank 50 = .ok (.istore 6, 2) := by decide +kernel
theorem dX6_rank_52 : decode cX6_rank 52 = .ok (.iload 6, 2) := by decide +kernel
theorem dX6_rank_54 : decode cX6_rank 54 = .ok (.iconst 1, 1) := by decide +kernel
theorem dX6_rank_55 : decode cX6_rank 55 = .ok (.if_icmp .ne 13, 3) := by decide +kernel
theorem dX6_rank_58 : decode cX6_rank 58 = .ok (.iload 4, 2) := by decide +kernel
theorem dX6_rank_60 : decode cX6_rank 60 = .ok (.iconst 1, 1) := by decide +kernel
theorem dX6_rank_61 : decode cX6_rank 61 = .ok (.iload 5, 2) := by decide +kernel
theorem dX6_rank_63 : decode cX6_rank 63 = .ok (.ishl, 1) := by decide +kernel
theorem dX6_rank_64 : decode cX6_rank 64 = .ok (.ior, 1) := by decide +kernel
theorem dX6_rank_65 : decode cX6_rank 65 = .ok (.goto 23, 3) := by decide +kernel
theorem dX6_rank_68 : decode cX6_rank 68 = .ok (.iload 6, 2) := by decide +kernel
theorem dX6_rank_70 : decode cX6_rank 70 = .ok (.iconst (-1), 1) := by decide +kernel
theorem dX6_rank_71 : decode cX6_rank 71 = .ok (.if_icmp .ne 15, 3) := by decide +kernel
theorem dX6_rank_74 : decode cX6_rank 74 = .ok (.iload 4, 2) := by decide +kernel
theorem dX6_rank_76 : decode cX6_rank 76 = .ok (.iconst 1, 1) := by decide +kernel
theorem dX6_rank_77 : decode cX6_rank 77 = .ok (.iload 5, 2) := by decide +kernel
theorem dX6_rank_79 : decode cX6_rank 79 = .ok (.ishl, 1) := by decide +kernel
theorem dX6_rank_80 : decode cX6_rank 80 = .ok (.iconst (-1), 1) := by decide +kernel
theorem dX6_rank_81 : decode cX6_rank 81 = .ok (.ixor, 1) := by decide +kernel
theorem dX6_rank_82 : decode cX6_rank 82 = .ok (.iand, 1) := by decide +kernel
theorem dX6_rank_83 : decode cX6_rank 83 = .ok (.goto 5, 3) := by decide +kernel
theorem dX6_rank_86 : decode cX6_rank 86 = .ok (.iload 4, 2) := by decide +kernel
theorem dX6_rank_88 : decode cX6_rank 88 = .ok (.istore 4, 2) := by decide +kernel
theorem dX6_rank_90 : decode cX6_rank 90 = .ok (.iinc 5 1, 3) := by decide +kernel
theorem dX6_rank_93 : decode cX6_rank 93 = .ok (.goto (-64), 3) := by decide +kernel
theorem dX6_rank_96 : decode cX6_rank 96 = .ok (.iload_n 1, 1) := by decide +kernel
theorem dX6_rank_97 : decode cX6_rank 97 = .ok (.aload_n 0, 1) := by decide +kernel
theorem dX6_rank_98 : decode cX6_rank 98 = .ok (.aload_n 0, 1) := by decide +kernel
theorem dX6_rank_99 : decode cX6_rank 99 = .ok (.getfield 54, 3) := by decide +kernel
theorem dX6_rank_102 : decode cX6_rank 102 = .ok (.iload_n 3, 1) := by decide +kernel
theorem dX6_rank_103 : decode cX6_rank 103 = .ok (.iload_n 2, 1) := by decide +kernel
theorem dX6_rank_104 : decode cX6_rank 104 = .ok (.iload 4, 2) := by decide +kernel
theorem dX6_rank_106 : decode cX6_rank 106 = .ok (.invokevirtual 181, 3) := by decide +kernel
theorem dX6_rank_109 : decode cX6_rank 109 = .ok (.iadd, 1) := by decide +kernel
theorem dX6_rank_110 : decode cX6_rank 110 = .ok (.istore_n 1, 1) := by decide +kernel
theorem dX6_rank_111 : decode cX6_rank 111 = .ok (.iload 4, 2) := by decide +kernel
theorem dX6_rank_113 : decode cX6_rank 113 = .ok (.istore_n 2, 1) := by decide +kernel
theorem dX6_rank_114 : decode cX6_rank 114 = .ok (.iinc 3 1, 3) := by decide +kernel
theorem dX6_rank_117 : decode cX6_rank 117 = .ok (.goto (-102), 3) := by decide +kernel
theorem dX6_rank_120 : decode cX6_rank 120 = .ok (.iload_n 1, 1) := by decide +kernel
theorem dX6_rank_121 : decode cX6_rank 121 = .ok (.ireturn, 1) := by decide +kernel
set_option maxRecDepth 20000 in
theorem ggX6_unrank_X6_isRow : GoodIn wsX6_unrank wsX6_isRow := goodIn_r _ [5, 6, 7, 8, 4, 9, 10, 11, 12, 13, 14, 15, 16, 17, 18, 19, 20, 21, 22, 23, 24, 25, 26, 27, 28, 29, 30, 31, 32, 33, 34, 35, 36, 37, 38, 39, 40, 41, 42, 43, 44, 45] (by decide +kernel) (by decide +kernel)
set_option maxRecDepth 20000 in
theorem gX6_unrank_X6_isRow : GoodIn wsX6_unrank (wsV RX6 185 RX6 yX6_isRow wsX6_isRow) := goodIn_app (goodIn_of _ (by decide +kernel)) ggX6_unrank_X6_isRow
set_option maxRecDepth 20000 in
theorem ggX6_unrank_X6_aheadOf : GoodIn wsX6_unrank wsX6_aheadOf := goodIn_r _ [19, 6, 7, 8, 4, 9, 10, 11, 12, 13, 14, 15, 20, 21, 22, 23, 24, 25, 26, 27, 28, 29, 30, 31, 32, 33, 34, 35, 36, 37, 38, 39, 40, 41, 42, 43, 44, 45] (by decide +kernel) (by decide +kernel)
set_option maxRecDepth 20000 in
theorem gX6_unrank_X6_aheadOf : GoodIn wsX6_unrank (wsV RX6 181 RX6 yX6_aheadOf wsX6_aheadOf) := goodIn_app (goodIn_of _ (by decide +kernel)) ggX6_unrank_X6_aheadOf
set_option maxRecDepth 20000 in
theorem ggX6_unrank_X6_signOf : GoodIn wsX6_unrank wsX6_signOf := goodIn_r _ [12] (by decide +kernel) (by decide +kernel)
set_option maxRecDepth 20000 in
theorem gX6_unrank_X6_signOf : GoodIn wsX6_unrank (va_wsS RX6 167 yX6_signOf wsX6_signOf) := goodIn_app (goodIn_of _ (by decide +kernel)) ggX6_unrank_X6_signOf
theorem dX6_unrank_0 : decode cX6_unrank 0 = .ok (.iload_n 2, 1) := by decide +kernel
theorem dX6_unrank_1 : decode cX6_unrank 1 = .ok (.istore 4, 2) := by decide +kernel
theorem dX6_unrank_3 : decode cX6_unrank 3 = .ok (.iconst 0, 1) := by decide +kernel
theorem dX6_unrank_4 : decode cX6_unrank 4 = .ok (.istore 5, 2) := by decide +kernel
theorem dX6_unrank_6 : decode cX6_unrank 6 = .ok (.iconst 0, 1) := by decide +kernel
theorem dX6_unrank_7 : decode cX6_unrank 7 = .ok (.istore 6, 2) := by decide +kernel
theorem dX6_unrank_9 : decode cX6_unrank 9 = .ok (.iload 6, 2) := by decide +kernel
theorem dX6_unrank_11 : decode cX6_unrank 11 = .ok (.iload_n 1, 1) := by decide +kernel
theorem dX6_unrank_12 : decode cX6_unrank 12 = .ok (.if_icmp .ge 88, 3) := by decide +kernel
theorem dX6_unrank_15 : decode cX6_unrank 15 = .ok (.iconst 0, 1) := by decide +kernel
theorem dX6_unrank_16 : decode cX6_unrank 16 = .ok (.istore 7, 2) := by decide +kernel
theorem dX6_unrank_18 : decode cX6_unrank 18 = .ok (.aload_n 0, 1) := by decide +kernel
theorem dX6_unrank_19 : decode cX6_unrank 19 = .ok (.iload_n 1, 1) := by decide +kernel
theorem dX6_unrank_20 : decode cX6_unrank 20 = .ok (.iload 6, 2) := by decide +kernel
theorem dX6_unrank_22 : decode cX6_unrank 22 = .ok (.iload 5, 2) := by decide +kernel
theorem dX6_unrank_24 : decode cX6_unrank 24 = .ok (.iload 7, 2) := by decide +kernel
theorem dX6_unrank_26 : decode cX6_unrank 26 = .ok (.iload 4, 2) := by decide +kernel
theorem dX6_unrank_28 : decode cX6_unrank 28 = .ok (.invokevirtual 185, 3) := by decide +kernel
theorem dX6_unrank_31 : decode cX6_unrank 31 = .ok (.ifCond .ne 9, 3) := by decide +kernel
theorem dX6_unrank_34 : decode cX6_unrank 34 = .ok (.iinc 7 1, 3) := by decide +kernel
theorem dX6_unrank_37 : decode cX6_unrank 37 = .ok (.goto (-19), 3) := by decide +kernel
theorem dX6_unrank_40 : decode cX6_unrank 40 = .ok (.iload 4, 2) := by decide +kernel
theorem dX6_unrank_42 : decode cX6_unrank 42 = .ok (.aload_n 0, 1) := by decide +kernel
theorem dX6_unrank_43 : decode cX6_unrank 43 = .ok (.iload_n 1, 1) := by decide +kernel
theorem dX6_unrank_44 : decode cX6_unrank 44 = .ok (.iload 6, 2) := by decide +kernel
theorem dX6_unrank_46 : decode cX6_unrank 46 = .ok (.iload 5, 2) := by decide +kernel
theorem dX6_unrank_48 : decode cX6_unrank 48 = .ok (.iload 7, 2) := by decide +kernel
theorem dX6_unrank_50 : decode cX6_unrank 50 = .ok (.invokevirtual 181, 3) := by decide +kernel
theorem dX6_unrank_53 : decode cX6_unrank 53 = .ok (.isub, 1) := by decide +kernel
theorem dX6_unrank_54 : decode cX6_unrank 54 = .ok (.istore 4, 2) := by decide +kernel
theorem dX6_unrank_56 : decode cX6_unrank 56 = .ok (.iconst 0, 1) := by decide +kernel
theorem dX6_unrank_57 : decode cX6_unrank 57 = .ok (.istore 8, 2) := by decide +kernel
theorem dX6_unrank_59 : decode cX6_unrank 59 = .ok (.iload 8, 2) := by decide +kernel
theorem dX6_unrank_61 : decode cX6_unrank 61 = .ok (.iload_n 1, 1) := by decide +kernel
theorem dX6_unrank_62 : decode cX6_unrank 62 = .ok (.if_icmp .ge 28, 3) := by decide +kernel
theorem dX6_unrank_65 : decode cX6_unrank 65 = .ok (.aload_n 3, 1) := by decide +kernel
theorem dX6_unrank_66 : decode cX6_unrank 66 = .ok (.bipush 6, 2) := by decide +kernel
theorem dX6_unrank_68 : decode cX6_unrank 68 = .ok (.iload 6, 2) := by decide +kernel
theorem dX6_unrank_70 : decode cX6_unrank 70 = .ok (.imul, 1) := by decide +kernel
theorem dX6_unrank_71 : decode cX6_unrank 71 = .ok (.iload 8, 2) := by decide +kernel
theorem dX6_unrank_73 : decode cX6_unrank 73 = .ok (.iadd, 1) := by decide +kernel
theorem dX6_unrank_74 : decode cX6_unrank 74 = .ok (.iload 5, 2) := by decide +kernel
theorem dX6_unrank_76 : decode cX6_unrank 76 = .ok (.iload 7, 2) := by decide +kernel
theorem dX6_unrank_78 : decode cX6_unrank 78 = .ok (.iload 8, 2) := by decide +kernel
theorem dX6_unrank_80 : decode cX6_unrank 80 = .ok (.invokestatic 167, 3) := by decide +kernel
theorem dX6_unrank_83 : decode cX6_unrank 83 = .ok (.iastore, 1) := by decide +kernel
theorem dX6_unrank_84 : decode cX6_unrank 84 = .ok (.iinc 8 1, 3) := by decide +kernel
theorem dX6_unrank_87 : decode cX6_unrank 87 = .ok (.goto (-28), 3) := by decide +kernel
theorem dX6_unrank_90 : decode cX6_unrank 90 = .ok (.iload 7, 2) := by decide +kernel
theorem dX6_unrank_92 : decode cX6_unrank 92 = .ok (.istore 5, 2) := by decide +kernel
theorem dX6_unrank_94 : decode cX6_unrank 94 = .ok (.iinc 6 1, 3) := by decide +kernel
theorem dX6_unrank_97 : decode cX6_unrank 97 = .ok (.goto (-88), 3) := by decide +kernel
theorem dX6_unrank_100 : decode cX6_unrank 100 = .ok (.return_, 1) := by decide +kernel
set_option maxRecDepth 20000 in
theorem ggX6_isRow_X6_leads : GoodIn wsX6_isRow wsX6_leads := goodIn_r _ [5, 6, 7, 4, 8, 9, 10, 11] (by decide +kernel) (by decide +kernel)
set_option maxRecDepth 20000 in
theorem gX6_isRow_X6_leads : GoodIn wsX6_isRow (va_wsS RX6 171 yX6_leads wsX6_leads) := goodIn_app (goodIn_of _ (by decide +kernel)) ggX6_isRow_X6_leads
set_option maxRecDepth 20000 in
theorem ggX6_isRow_X6_aheadOf : GoodIn wsX6_isRow wsX6_aheadOf := goodIn_r _ [15, 1, 2, 3, 4, 5, 6, 7, 8, 9, 10, 11, 16, 17, 18, 19, 20, 21, 22, 23, 24, 25, 26, 27, 28, 29, 30, 31, 32, 33, 34, 35, 36, 37, 38, 39, 40, 41] (by decide +kernel) (by decide +kernel)
set_option maxRecDepth 20000 in
theorem gX6_isRow_X6_aheadOf : GoodIn wsX6_isRow (wsV RX6 181 RX6 yX6_aheadOf wsX6_aheadOf) := goodIn_app (goodIn_of _ (by decide +kernel)) ggX6_isRow_X6_aheadOf
set_option maxRecDepth 20000 in
theorem ggX6_isRow_X6_in : GoodIn wsX6_isRow wsX6_in := goodIn_r _ [11] (by decide +kernel) (by decide +kernel)
set_option maxRecDepth 20000 in
theorem gX6_isRow_X6_in : GoodIn wsX6_isRow (va_wsS RX6 62 yX6_in wsX6_in) := goodIn_app (goodIn_of _ (by decide +kernel)) ggX6_isRow_X6_in
theorem dX6_isRow_0 : decode cX6_isRow 0 = .ok (.iload_n 1, 1) := by decide +kernel
theorem dX6_isRow_1 : decode cX6_isRow 1 = .ok (.iload_n 3, 1) := by decide +kernel
theorem dX6_isRow_2 : decode cX6_isRow 2 = .ok (.iload 4, 2) := by decide +kernel
theorem dX6_isRow_4 : decode cX6_isRow 4 = .ok (.invokestatic 171, 3) := by decide +kernel
theorem dX6_isRow_7 : decode cX6_isRow 7 = .ok (.ifCond .eq 20, 3) := by decide +kernel
theorem dX6_isRow_10 : decode cX6_isRow 10 = .ok (.aload_n 0, 1) := by decide +kernel
theorem dX6_isRow_11 : decode cX6_isRow 11 = .ok (.getfield 44, 3) := by decide +kernel
theorem dX6_isRow_14 : decode cX6_isRow 14 = .ok (.bipush 64, 2) := by decide +kernel
theorem dX6_isRow_16 : decode cX6_isRow 16 = .ok (.iload_n 2, 1) := by decide +kernel
theorem dX6_isRow_17 : decode cX6_isRow 17 = .ok (.iconst 1, 1) := by decide +kernel
theorem dX6_isRow_18 : decode cX6_isRow 18 = .ok (.iadd, 1) := by decide +kernel
theorem dX6_isRow_19 : decode cX6_isRow 19 = .ok (.imul, 1) := by decide +kernel
theorem dX6_isRow_20 : decode cX6_isRow 20 = .ok (.iload 4, 2) := by decide +kernel
theorem dX6_isRow_22 : decode cX6_isRow 22 = .ok (.iadd, 1) := by decide +kernel
theorem dX6_isRow_23 : decode cX6_isRow 23 = .ok (.iaload, 1) := by decide +kernel
theorem dX6_isRow_24 : decode cX6_isRow 24 = .ok (.ifCond .ne 5, 3) := by decide +kernel
theorem dX6_isRow_27 : decode cX6_isRow 27 = .ok (.iconst 0, 1) := by decide +kernel
theorem dX6_isRow_28 : decode cX6_isRow 28 = .ok (.ireturn, 1) := by decide +kernel
theorem dX6_isRow_29 : decode cX6_isRow 29 = .ok (.aload_n 0, 1) := by decide +kernel
theorem dX6_isRow_30 : decode cX6_isRow 30 = .ok (.iload_n 1, 1) := by decide +kernel
theorem dX6_isRow_31 : decode cX6_isRow 31 = .ok (.iload_n 2, 1) := by decide +kernel
theorem dX6_isRow_32 : decode cX6_isRow 32 = .ok (.iload_n 3, 1) := by decide +kernel
theorem dX6_isRow_33 : decode cX6_isRow 33 = .ok (.iload 4, 2) := by decide +kernel
theorem dX6_isRow_35 : decode cX6_isRow 35 = .ok (.invokevirtual 181, 3) := by decide +kernel
theorem dX6_isRow_38 : decode cX6_isRow 38 = .ok (.istore 6, 2) := by decide +kernel
theorem dX6_isRow_40 : decode cX6_isRow 40 = .ok (.iload 5, 2) := by decide +kernel
theorem dX6_isRow_42 : decode cX6_isRow 42 = .ok (.i2l, 1) := by decide +kernel
theorem dX6_isRow_43 : decode cX6_isRow 43 = .ok (.iload 6, 2) := by decide +kernel
theorem dX6_isRow_45 : decode cX6_isRow 45 = .ok (.i2l, 1) := by decide +kernel
theorem dX6_isRow_46 : decode cX6_isRow 46 = .ok (.iload 6, 2) := by decide +kernel
theorem dX6_isRow_48 : decode cX6_isRow 48 = .ok (.aload_n 0, 1) := by decide +kernel
theorem dX6_isRow_49 : decode cX6_isRow 49 = .ok (.getfield 44, 3) := by decide +kernel
theorem dX6_isRow_52 : decode cX6_isRow 52 = .ok (.bipush 64, 2) := by decide +kernel
theorem dX6_isRow_54 : decode cX6_isRow 54 = .ok (.iload_n 2, 1) := by decide +kernel
theorem dX6_isRow_55 : decode cX6_isRow 55 = .ok (.iconst 1, 1) := by decide +kernel
theorem dX6_isRow_56 : decode cX6_isRow 56 = .ok (.iadd, 1) := by decide +kernel
theorem dX6_isRow_57 : decode cX6_isRow 57 = .ok (.imul, 1) := by decide +kernel
theorem dX6_isRow_58 : decode cX6_isRow 58 = .ok (.iload 4, 2) := by decide +kernel
theorem dX6_isRow_60 : decode cX6_isRow 60 = .ok (.iadd, 1) := by decide +kernel
theorem dX6_isRow_61 : decode cX6_isRow 61 = .ok (.iaload, 1) := by decide +kernel
theorem dX6_isRow_62 : decode cX6_isRow 62 = .ok (.iadd, 1) := by decide +kernel
theorem dX6_isRow_63 : decode cX6_isRow 63 = .ok (.iconst 1, 1) := by decide +kernel
theorem dX6_isRow_64 : decode cX6_isRow 64 = .ok (.isub, 1) := by decide +kernel
theorem dX6_isRow_65 : decode cX6_isRow 65 = .ok (.i2l, 1) := by decide +kernel
theorem dX6_isRow_66 : decode cX6_isRow 66 = .ok (.invokestatic 62, 3) := by decide +kernel
theorem dX6_isRow_69 : decode cX6_isRow 69 = .ok (.ireturn, 1) := by decide +kernel
set_option maxRecDepth 20000 in
theorem ggX6_take_X6_in : GoodIn wsX6_take wsX6_in := goodIn_r _ [7] (by decide +kernel) (by decide +kernel)
set_option maxRecDepth 20000 in
theorem gX6_take_X6_in : GoodIn wsX6_take (va_wsS RX6 62 yX6_in wsX6_in) := goodIn_app (goodIn_of _ (by decide +kernel)) ggX6_take_X6_in
set_option maxRecDepth 20000 in
theorem ggX6_take_X6_findWays : GoodIn wsX6_take wsX6_findWays := goodIn_r _ [11, 12, 13, 14, 6, 15, 16, 17, 18, 4, 5, 7, 40, 41, 42, 43, 44, 45, 46, 47, 48, 49, 50, 51, 52, 53, 54, 55, 56, 57, 58, 59, 60, 61, 62] (by decide +kernel) (by decide +kernel)
set_option maxRecDepth 20000 in
theorem gX6_take_X6_findWays : GoodIn wsX6_take (wsV RX6 178 RX6 yX6_findWays wsX6_findWays) := goodIn_app (goodIn_of _ (by decide +kernel)) ggX6_take_X6_findWays
set_option maxRecDepth 20000 in
theorem ggX6_take_X6_note : GoodIn wsX6_take wsX6_note := goodIn_r _ [22, 23, 24, 2, 3, 40, 41, 42, 43, 44, 45, 46, 47, 48, 49, 50, 51, 52, 53, 54, 55, 56, 57, 58, 59, 60, 61, 62] (by decide +kernel) (by decide +kernel)
set_option maxRecDepth 20000 in
theorem gX6_take_X6_note : GoodIn wsX6_take (wsV RX6 103 RX6 yX6_note wsX6_note) := goodIn_app (goodIn_of _ (by decide +kernel)) ggX6_take_X6_note
set_option maxRecDepth 20000 in
theorem ggX6_take_X6_unrank : GoodIn wsX6_take wsX6_unrank := goodIn_r _ [28, 29, 30, 31, 6, 32, 12, 13, 14, 15, 16, 17, 18, 4, 5, 7, 33, 34, 35, 36, 37, 38, 39, 40, 41, 42, 43, 44, 45, 46, 47, 48, 49, 50, 51, 52, 53, 54, 55, 56, 57, 58, 59, 60, 61, 62] (by decide +kernel) (by decide +kernel)
set_option maxRecDepth 20000 in
theorem gX6_take_X6_unrank : GoodIn wsX6_take (wsV RX6 189 RX6 yX6_unrank wsX6_unrank) := goodIn_app (goodIn_of _ (by decide +kernel)) ggX6_take_X6_unrank
theorem dX6_take_0 : decode cX6_take 0 = .ok (.iload_n 1, 1) := by decide +kernel
theorem dX6_take_1 : decode cX6_take 1 = .ok (.i2l, 1) := by decide +kernel
theorem dX6_take_2 : decode cX6_take 2 = .ok (.lconst 1, 1) := by decide +kernel
theorem dX6_take_3 : decode cX6_take 3 = .ok (.ldc2_w 124, 3) := by decide +kernel
theorem dX6_take_6 : decode cX6_take 6 = .ok (.invokestatic 62, 3) := by decide +kernel
theorem dX6_take_9 : decode cX6_take 9 = .ok (.ifCond .ne 5, 3) := by decide +kernel
theorem dX6_take_12 : decode cX6_take 12 = .ok (.iconst (-1), 1) := by decide +kernel
theorem dX6_take_13 : decode cX6_take 13 = .ok (.ireturn, 1) := by decide +kernel
theorem dX6_take_14 : decode cX6_take 14 = .ok (.iload_n 2, 1) := by decide +kernel
theorem dX6_take_15 : decode cX6_take 15 = .ok (.i2l, 1) := by decide +kernel
theorem dX6_take_16 : decode cX6_take 16 = .ok (.lconst 0, 1) := by decide +kernel
theorem dX6_take_17 : decode cX6_take 17 = .ok (.aload_n 0, 1) := by decide +kernel
theorem dX6_take_18 : decode cX6_take 18 = .ok (.iload_n 1, 1) := by decide +kernel
theorem dX6_take_19 : decode cX6_take 19 = .ok (.invokevirtual 178, 3) := by decide +kernel
theorem dX6_take_22 : decode cX6_take 22 = .ok (.iconst 1, 1) := by decide +kernel
theorem dX6_take_23 : decode cX6_take 23 = .ok (.isub, 1) := by decide +kernel
theorem dX6_take_24 : decode cX6_take 24 = .ok (.i2l, 1) := by decide +kernel
theorem dX6_take_25 : decode cX6_take 25 = .ok (.invokestatic 62, 3) := by decide +kernel
theorem dX6_take_28 : decode cX6_take 28 = .ok (.ifCond .ne 6, 3) := by decide +kernel
theorem dX6_take_31 : decode cX6_take 31 = .ok (.bipush (-4), 2) := by decide +kernel
theorem dX6_take_33 : decode cX6_take 33 = .ok (.ireturn, 1) := by decide +kernel
theorem dX6_take_34 : decode cX6_take 34 = .ok (.aload_n 0, 1) := by decide +kernel
theorem dX6_take_35 : decode cX6_take 35 = .ok (.invokevirtual 103, 3) := by decide +kernel
theorem dX6_take_38 : decode cX6_take 38 = .ok (.aload_n 0, 1) := by decide +kernel
theorem dX6_take_39 : decode cX6_take 39 = .ok (.iload_n 1, 1) := by decide +kernel
theorem dX6_take_40 : decode cX6_take 40 = .ok (.putfield 54, 3) := by decide +kernel
theorem dX6_take_43 : decode cX6_take 43 = .ok (.aload_n 0, 1) := by decide +kernel
theorem dX6_take_44 : decode cX6_take 44 = .ok (.iload_n 1, 1) := by decide +kernel
theorem dX6_take_45 : decode cX6_take 45 = .ok (.iload_n 2, 1) := by decide +kernel
theorem dX6_take_46 : decode cX6_take 46 = .ok (.aload_n 0, 1) := by decide +kernel
theorem dX6_take_47 : decode cX6_take 47 = .ok (.getfield 13, 3) := by decide +kernel
theorem dX6_take_50 : decode cX6_take 50 = .ok (.invokevirtual 189, 3) := by decide +kernel
theorem dX6_take_53 : decode cX6_take 53 = .ok (.iload_n 1, 1) := by decide +kernel
theorem dX6_take_54 : decode cX6_take 54 = .ok (.ireturn, 1) := by decide +kernel
set_option maxRecDepth 20000 in
theorem ggX6_many_X6_in : GoodIn wsX6_many wsX6_in := goodIn_r _ [7] (by decide +kernel) (by decide +kernel)
set_option maxRecDepth 20000 in
theorem gX6_many_X6_in : GoodIn wsX6_many (va_wsS RX6 62 yX6_in wsX6_in) := goodIn_app (goodIn_of _ (by decide +kernel)) ggX6_many_X6_in
set_option maxRecDepth 20000 in
theorem ggX6_many_X6_findWays : GoodIn wsX6_many wsX6_findWays := goodIn_r _ [11, 3, 12, 13, 6, 14, 15, 16, 17, 4, 5, 7, 18, 19, 20, 21, 22, 23, 24, 25, 26, 27, 28, 29, 30, 31, 32, 33, 34, 35, 36, 37, 38, 39, 40] (by decide +kernel) (by decide +kernel)
set_option maxRecDepth 20000 in
theorem gX6_many_X6_findWays : GoodIn wsX6_many (wsV RX6 178 RX6 yX6_findWays wsX6_findWays) := goodIn_app (goodIn_of _ (by decide +kernel)) ggX6_many_X6_findWays
theorem dX6_many_0 : decode cX6_many 0 = .ok (.iload_n 1, 1) := by decide +kernel
theorem dX6_many_1 : decode cX6_many 1 = .ok (.i2l, 1) := by decide +kernel
theorem dX6_many_2 : decode cX6_many 2 = .ok (.lconst 1, 1) := by decide +kernel
theorem dX6_many_3 : decode cX6_many 3 = .ok (.ldc2_w 124, 3) := by decide +kernel
theorem dX6_many_6 : decode cX6_many 6 = .ok (.invokestatic 62, 3) := by decide +kernel
theorem dX6_many_9 : decode cX6_many 9 = .ok (.ifCond .eq 18, 3) := by decide +kernel
theorem dX6_many_12 : decode cX6_many 12 = .ok (.iload_n 2, 1) := by decide +kernel
theorem dX6_many_13 : decode cX6_many 13 = .ok (.i2l, 1) := by decide +kernel
theorem dX6_many_14 : decode cX6_many 14 = .ok (.ldc2_w 193, 3) := by decide +kernel
theorem dX6_many_17 : decode cX6_many 17 = .ok (.iload_n 1, 1) := by decide +kernel
theorem dX6_many_18 : decode cX6_many 18 = .ok (.iconst 1, 1) := by decide +kernel
theorem dX6_many_19 : decode cX6_many 19 = .ok (.isub, 1) := by decide +kernel
theorem dX6_many_20 : decode cX6_many 20 = .ok (.i2l, 1) := by decide +kernel
theorem dX6_many_21 : decode cX6_many 21 = .ok (.invokestatic 62, 3) := by decide +kernel
theorem dX6_many_24 : decode cX6_many 24 = .ok (.ifCond .ne 5, 3) := by decide +kernel
theorem dX6_many_27 : decode cX6_many 27 = .ok (.iconst (-1), 1) := by decide +kernel
theorem dX6_many_28 : decode cX6_many 28 = .ok (.ireturn, 1) := by decide +kernel
theorem dX6_many_29 : decode cX6_many 29 = .ok (.aload_n 0, 1) := by decide +kernel
theorem dX6_many_30 : decode cX6_many 30 = .ok (.iload_n 1, 1) := by decide +kernel
theorem dX6_many_31 : decode cX6_many 31 = .ok (.invokevirtual 178, 3) := by decide +kernel
theorem dX6_many_34 : decode cX6_many 34 = .ok (.istore_n 3, 1) := by decide +kernel
theorem dX6_many_35 : decode cX6_many 35 = .ok (.iload_n 2, 1) := by decide +kernel
theorem dX6_many_36 : decode cX6_many 36 = .ok (.ifCond .ge 7, 3) := by decide +kernel
theorem dX6_many_39 : decode cX6_many 39 = .ok (.iload_n 3, 1) := by decide +kernel
theorem dX6_many_40 : decode cX6_many 40 = .ok (.goto 14, 3) := by decide +kernel
theorem dX6_many_43 : decode cX6_many 43 = .ok (.aload_n 0, 1) := by decide +kernel
theorem dX6_many_44 : decode cX6_many 44 = .ok (.getfield 44, 3) := by decide +kernel
theorem dX6_many_47 : decode cX6_many 47 = .ok (.bipush 64, 2) := by decide +kernel
theorem dX6_many_49 : decode cX6_many 49 = .ok (.iconst 1, 1) := by decide +kernel
theorem dX6_many_50 : decode cX6_many 50 = .ok (.iload_n 2, 1) := by decide +kernel
theorem dX6_many_51 : decode cX6_many 51 = .ok (.ishl, 1) := by decide +kernel
theorem dX6_many_52 : decode cX6_many 52 = .ok (.iadd, 1) := by decide +kernel
theorem dX6_many_53 : decode cX6_many 53 = .ok (.iaload, 1) := by decide +kernel
theorem dX6_many_54 : decode cX6_many 54 = .ok (.ireturn, 1) := by decide +kernel
set_option maxRecDepth 20000 in
theorem ggX6_partners_X6_findEnds : GoodIn wsX6_partners wsX6_findEnds := goodIn_r _ [6, 7, 8, 9, 10, 11, 5, 12, 13, 14, 15, 16, 17, 18, 35, 36, 37, 38, 39, 40, 41, 42, 43, 44, 45, 46, 47, 48, 49, 50, 51, 52, 53, 54, 55, 56, 57] (by decide +kernel) (by decide +kernel)
set_option maxRecDepth 20000 in
theorem gX6_partners_X6_findEnds : GoodIn wsX6_partners (wsV RX6 156 RX6 yX6_findEnds wsX6_findEnds) := goodIn_app (goodIn_of _ (by decide +kernel)) ggX6_partners_X6_findEnds
set_option maxRecDepth 20000 in
theorem ggX6_partners_X6_goes : GoodIn wsX6_partners wsX6_goes := goodIn_r _ [22, 7, 23, 8, 24, 9, 25, 26, 27, 28, 29, 5, 30, 31, 10, 11, 12, 13, 14, 15, 16, 17, 18, 32, 33, 34, 35, 36, 37, 38, 39, 40, 41, 42, 43, 44, 45, 46, 47, 48, 49, 50, 51, 52, 53, 54, 55, 56, 57] (by decide +kernel) (by decide +kernel)
set_option maxRecDepth 20000 in
theorem gX6_partners_X6_goes : GoodIn wsX6_partners (wsV RX6 160 RX6 yX6_goes wsX6_goes) := goodIn_app (goodIn_of _ (by decide +kernel)) ggX6_partners_X6_goes
theorem dX6_partners_0 : decode cX6_partners 0 = .ok (.aload_n 0, 1) := by decide +kernel
theorem dX6_partners_1 : decode cX6_partners 1 = .ok (.aload_n 1, 1) := by decide +kernel
theorem dX6_partners_2 : decode cX6_partners 2 = .ok (.iload_n 2, 1) := by decide +kernel
theorem dX6_partners_3 : decode cX6_partners 3 = .ok (.invokevirtual 156, 3) := by decide +kernel
theorem dX6_partners_6 : decode cX6_partners 6 = .ok (.lconst 0, 1) := by decide +kernel
theorem dX6_partners_7 : decode cX6_partners 7 = .ok (.lstore_n 3, 1) := by decide +kernel
theorem dX6_partners_8 : decode cX6_partners 8 = .ok (.iconst 0, 1) := by decide +kernel
theorem dX6_partners_9 : decode cX6_partners 9 = .ok (.istore 5, 2) := by decide +kernel
theorem dX6_partners_11 : decode cX6_partners 11 = .ok (.iload 5, 2) := by decide +kernel
theorem dX6_partners_13 : decode cX6_partners 13 = .ok (.iconst 2, 1) := by decide +kernel
theorem dX6_partners_14 : decode cX6_partners 14 = .ok (.iload_n 2, 1) := by decide +kernel
theorem dX6_partners_15 : decode cX6_partners 15 = .ok (.imul, 1) := by decide +kernel
theorem dX6_partners_16 : decode cX6_partners 16 = .ok (.if_icmp .ge 25, 3) := by decide +kernel
theorem dX6_partners_19 : decode cX6_partners 19 = .ok (.ldc2_w 195, 3) := by decide +kernel
theorem dX6_partners_22 : decode cX6_partners 22 = .ok (.lload_n 3, 1) := by decide +kernel
theorem dX6_partners_23 : decode cX6_partners 23 = .ok (.lmul, 1) := by decide +kernel
theorem dX6_partners_24 : decode cX6_partners 24 = .ok (.aload_n 0, 1) := by decide +kernel
theorem dX6_partners_25 : decode cX6_partners 25 = .ok (.aload_n 1, 1) := by decide +kernel
theorem dX6_partners_26 : decode cX6_partners 26 = .ok (.iload_n 2, 1) := by decide +kernel
theorem dX6_partners_27 : decode cX6_partners 27 = .ok (.iload 5, 2) := by decide +kernel
theorem dX6_partners_29 : decode cX6_partners 29 = .ok (.invokevirtual 160, 3) := by decide +kernel
theorem dX6_partners_32 : decode cX6_partners 32 = .ok (.i2l, 1) := by decide +kernel
theorem dX6_partners_33 : decode cX6_partners 33 = .ok (.ladd, 1) := by decide +kernel
theorem dX6_partners_34 : decode cX6_partners 34 = .ok (.lstore_n 3, 1) := by decide +kernel
theorem dX6_partners_35 : decode cX6_partners 35 = .ok (.iinc 5 1, 3) := by decide +kernel
theorem dX6_partners_38 : decode cX6_partners 38 = .ok (.goto (-27), 3) := by decide +kernel
theorem dX6_partners_41 : decode cX6_partners 41 = .ok (.lload_n 3, 1) := by decide +kernel
theorem dX6_partners_42 : decode cX6_partners 42 = .ok (.lreturn, 1) := by decide +kernel
set_option maxRecDepth 20000 in
theorem ggX6_alike_X6_partners : GoodIn wsX6_alike wsX6_partners := goodIn_r _ [8, 9, 10, 11, 12, 7, 13, 14, 15, 16, 17, 18, 19, 20, 21, 22, 23, 24, 25, 26, 27, 28, 29, 30, 31, 32, 33, 34, 35, 36, 37, 38, 39, 40, 41, 68, 69, 70, 71, 72, 73, 74, 75, 76, 77, 78, 79, 80, 81, 82, 83, 84, 85, 86, 87, 88, 89, 90] (by decide +kernel) (by decide +kernel)
set_option maxRecDepth 20000 in
theorem gX6_alike_X6_partners : GoodIn wsX6_alike (wsV RX6 197 RX6 yX6_partners wsX6_partners) := goodIn_app (goodIn_of _ (by decide +kernel)) ggX6_alike_X6_partners
set_option maxRecDepth 20000 in
theorem ggX6_alike_X6_findWays : GoodIn wsX6_alike wsX6_findWays := goodIn_r _ [45, 46, 47, 48, 7, 49, 50, 51, 52, 39, 40, 41, 68, 69, 70, 71, 72, 73, 74, 75, 76, 77, 78, 79, 80, 81, 82, 83, 84, 85, 86, 87, 88, 89, 90] (by decide +kernel) (by decide +kernel)
set_option maxRecDepth 20000 in
theorem gX6_alike_X6_findWays : GoodIn wsX6_alike (wsV RX6 178 RX6 yX6_findWays wsX6_findWays) := goodIn_app (goodIn_of _ (by decide +kernel)) ggX6_alike_X6_findWays
set_option maxRecDepth 20000 in
theorem ggX6_alike_X6_unrank : GoodIn wsX6_alike wsX6_unrank := goodIn_r _ [56, 57, 58, 59, 7, 60, 46, 47, 48, 49, 50, 51, 52, 39, 40, 41, 61, 62, 63, 64, 65, 66, 67, 68, 69, 70, 71, 72, 73, 74, 75, 76, 77, 78, 79, 80, 81, 82, 83, 84, 85, 86, 87, 88, 89, 90] (by decide +kernel) (by decide +kernel)
set_option maxRecDepth 20000 in
theorem gX6_alike_X6_unrank : GoodIn wsX6_alike (wsV RX6 189 RX6 yX6_unrank wsX6_unrank) := goodIn_app (goodIn_of _ (by decide +kernel)) ggX6_alike_X6_unrank
theorem dX6_alike_0 : decode cX6_alike 0 = .ok (.aload_n 0, 1) := by decide +kernel
theorem dX6_alike_1 : decode cX6_alike 1 = .ok (.getfield 54, 3) := by decide +kernel
theorem dX6_alike_4 : decode cX6_alike 4 = .ok (.bipush 6, 2) := by decide +kernel
theorem dX6_alike_6 : decode cX6_alike 6 = .ok (.if_icmp .ne 6, 3) := by decide +kernel
theorem dX6_alike_9 : decode cX6_alike 9 = .ok (.bipush (-2), 2) := by decide +kernel
theorem dX6_alike_11 : decode cX6_alike 11 = .ok (.ireturn, 1) := by decide +kernel
theorem dX6_alike_12 : decode cX6_alike 12 = .ok (.aload_n 0, 1) := by decide +kernel
theorem dX6_alike_13 : decode cX6_alike 13 = .ok (.aload_n 0, 1) := by decide +kernel
theorem dX6_alike_14 : decode cX6_alike 14 = .ok (.getfield 13, 3) := by decide +kernel
theorem dX6_alike_17 : decode cX6_alike 17 = .ok (.aload_n 0, 1) := by decide +kernel
theorem dX6_alike_18 : decode cX6_alike 18 = .ok (.getfield 54, 3) := by decide +kernel
theorem dX6_alike_21 : decode cX6_alike 21 = .ok (.invokevirtual 197, 3) := by decide +kernel
theorem dX6_alike_24 : decode cX6_alike 24 = .ok (.lstore_n 1, 1) := by decide +kernel
theorem dX6_alike_25 : decode cX6_alike 25 = .ok (.aload_n 0, 1) := by decide +kernel
theorem dX6_alike_26 : decode cX6_alike 26 = .ok (.aload_n 0, 1) := by decide +kernel
theorem dX6_alike_27 : decode cX6_alike 27 = .ok (.getfield 54, 3) := by decide +kernel
theorem dX6_alike_30 : decode cX6_alike 30 = .ok (.invokevirtual 178, 3) := by decide +kernel
theorem dX6_alike_33 : decode cX6_alike 33 = .ok (.istore_n 3, 1) := by decide +kernel
theorem dX6_alike_34 : decode cX6_alike 34 = .ok (.iconst 0, 1) := by decide +kernel
theorem dX6_alike_35 : decode cX6_alike 35 = .ok (.istore 4, 2) := by decide +kernel
theorem dX6_alike_37 : decode cX6_alike 37 = .ok (.iconst 0, 1) := by decide +kernel
theorem dX6_alike_38 : decode cX6_alike 38 = .ok (.istore 5, 2) := by decide +kernel
theorem dX6_alike_40 : decode cX6_alike 40 = .ok (.iload 5, 2) := by decide +kernel
theorem dX6_alike_42 : decode cX6_alike 42 = .ok (.iload_n 3, 1) := by decide +kernel
theorem dX6_alike_43 : decode cX6_alike 43 = .ok (.if_icmp .ge 50, 3) := by decide +kernel
theorem dX6_alike_46 : decode cX6_alike 46 = .ok (.aload_n 0, 1) := by decide +kernel
theorem dX6_alike_47 : decode cX6_alike 47 = .ok (.aload_n 0, 1) := by decide +kernel
theorem dX6_alike_48 : decode cX6_alike 48 = .ok (.getfield 54, 3) := by decide +kernel
theorem dX6_alike_51 : decode cX6_alike 51 = .ok (.iload 5, 2) := by decide +kernel
theorem dX6_alike_53 : decode cX6_alike 53 = .ok (.aload_n 0, 1) := by decide +kernel
theorem dX6_alike_54 : decode cX6_alike 54 = .ok (.getfield 25, 3) := by decide +kernel
theorem dX6_alike_57 : decode cX6_alike 57 = .ok (.invokevirtual 189, 3) := by decide +kernel
theorem dX6_alike_60 : decode cX6_alike 60 = .ok (.iload 4, 2) := by decide +kernel
theorem dX6_alike_62 : decode cX6_alike 62 = .ok (.aload_n 0, 1) := by decide +kernel
theorem dX6_alike_63 : decode cX6_alike 63 = .ok (.aload_n 0, 1) := by decide +kernel
theorem dX6_alike_64 : decode cX6_alike 64 = .ok (.getfield 25, 3) := by decide +kernel
theorem dX6_alike_67 : decode cX6_alike 67 = .ok (.aload_n 0, 1) := by decide +kernel
theorem dX6_alike_68 : decode cX6_alike 68 = .ok (.getfield 54, 3) := by decide +kernel
theorem dX6_alike_71 : decode cX6_alike 71 = .ok (.invokevirtual 197, 3) := by decide +kernel
theorem dX6_alike_74 : decode cX6_alike 74 = .ok (.lload_n 1, 1) := by decide +kernel
theorem dX6_alike_75 : decode cX6_alike 75 = .ok (.lcmp, 1) := by decide +kernel
theorem dX6_alike_76 : decode cX6_alike 76 = .ok (.ifCond .ne 7, 3) := by decide +kernel
theorem dX6_alike_79 : decode cX6_alike 79 = .ok (.iconst 1, 1) := by decide +kernel
theorem dX6_alike_80 : decode cX6_alike 80 = .ok (.goto 4, 3) := by decide +kernel
theorem dX6_alike_83 : decode cX6_alike 83 = .ok (.iconst 0, 1) := by decide +kernel
theorem dX6_alike_84 : decode cX6_alike 84 = .ok (.iadd, 1) := by decide +kernel
theorem dX6_alike_85 : decode cX6_alike 85 = .ok (.istore 4, 2) := by decide +kernel
theorem dX6_alike_87 : decode cX6_alike 87 = .ok (.iinc 5 1, 3) := by decide +kernel
theorem dX6_alike_90 : decode cX6_alike 90 = .ok (.goto (-50), 3) := by decide +kernel
theorem dX6_alike_93 : decode cX6_alike 93 = .ok (.iload 4, 2) := by decide +kernel
theorem dX6_alike_95 : decode cX6_alike 95 = .ok (.ireturn, 1) := by decide +kernel
set_option maxRecDepth 20000 in
theorem ggX6_ways_X6_in : GoodIn wsX6_ways wsX6_in := goodIn_r _ [8] (by decide +kernel) (by decide +kernel)
set_option maxRecDepth 20000 in
theorem gX6_ways_X6_in : GoodIn wsX6_ways (va_wsS RX6 62 yX6_in wsX6_in) := goodIn_app (goodIn_of _ (by decide +kernel)) ggX6_ways_X6_in
set_option maxRecDepth 20000 in
theorem ggX6_ways_X6_findWays : GoodIn wsX6_ways wsX6_findWays := goodIn_r _ [12, 13, 14, 15, 7, 16, 17, 18, 19, 5, 6, 8, 69, 70, 71, 72, 73, 74, 75, 76, 77, 78, 79, 80, 81, 82, 83, 84, 85, 86, 87, 88, 89, 90, 91] (by decide +kernel) (by decide +kernel)
set_option maxRecDepth 20000 in
theorem gX6_ways_X6_findWays : GoodIn wsX6_ways (wsV RX6 178 RX6 yX6_findWays wsX6_findWays) := goodIn_app (goodIn_of _ (by decide +kernel)) ggX6_ways_X6_findWays
set_option maxRecDepth 20000 in
theorem ggX6_ways_X6_unrank : GoodIn wsX6_ways wsX6_unrank := goodIn_r _ [23, 24, 25, 26, 7, 27, 13, 14, 15, 16, 17, 18, 19, 5, 6, 8, 28, 29, 30, 31, 32, 33, 34, 69, 70, 71, 72, 73, 74, 75, 76, 77, 78, 79, 80, 81, 82, 83, 84, 85, 86, 87, 88, 89, 90, 91] (by decide +kernel) (by decide +kernel)
set_option maxRecDepth 20000 in
theorem gX6_ways_X6_unrank : GoodIn wsX6_ways (wsV RX6 189 RX6 yX6_unrank wsX6_unrank) := goodIn_app (goodIn_of _ (by decide +kernel)) ggX6_ways_X6_unrank
set_option maxRecDepth 20000 in
theorem ggX6_ways_X6_partners : GoodIn wsX6_ways wsX6_partners := goodIn_r _ [38, 39, 40, 41, 42, 7, 43, 44, 45, 46, 47, 48, 49, 50, 51, 52, 53, 54, 55, 56, 57, 58, 59, 60, 61, 62, 63, 64, 65, 66, 67, 68, 5, 6, 8, 69, 70, 71, 72, 73, 74, 75, 76, 77, 78, 79, 80, 81, 82, 83, 84, 85, 86, 87, 88, 89, 90, 91] (by decide +kernel) (by decide +kernel)
set_option maxRecDepth 20000 in
theorem gX6_ways_X6_partners : GoodIn wsX6_ways (wsV RX6 197 RX6 yX6_partners wsX6_partners) := goodIn_app (goodIn_of _ (by decide +kernel)) ggX6_ways_X6_partners
theorem dX6_ways_0 : decode cX6_ways 0 = .ok (.iload_n 1, 1) := by decide +kernel
theorem dX6_ways_1 : decode cX6_ways 1 = .ok (.i2l, 1) := by decide +kernel
theorem dX6_ways_2 : decode cX6_ways 2 = .ok (.lconst 1, 1) := by decide +kernel
theorem dX6_ways_3 : decode cX6_ways 3 = .ok (.ldc2_w 201, 3) := by decide +kernel
theorem dX6_ways_6 : decode cX6_ways 6 = .ok (.invokestatic 62, 3) := by decide +kernel
theorem dX6_ways_9 : decode cX6_ways 9 = .ok (.ifCond .eq 8, 3) := by decide +kernel
theorem dX6_ways_12 : decode cX6_ways 12 = .ok (.iload_n 2, 1) := by decide +kernel
theorem dX6_ways_13 : decode cX6_ways 13 = .ok (.iconst (-1), 1) := by decide +kernel
theorem dX6_ways_14 : decode cX6_ways 14 = .ok (.if_icmp .ge 5, 3) := by decide +kernel
theorem dX6_ways_17 : decode cX6_ways 17 = .ok (.iconst (-1), 1) := by decide +kernel
theorem dX6_ways_18 : decode cX6_ways 18 = .ok (.ireturn, 1) := by decide +kernel
theorem dX6_ways_19 : decode cX6_ways 19 = .ok (.aload_n 0, 1) := by decide +kernel
theorem dX6_ways_20 : decode cX6_ways 20 = .ok (.iload_n 1, 1) := by decide +kernel
theorem dX6_ways_21 : decode cX6_ways 21 = .ok (.invokevirtual 178, 3) := by decide +kernel
theorem dX6_ways_24 : decode cX6_ways 24 = .ok (.istore_n 3, 1) := by decide +kernel
theorem dX6_ways_25 : decode cX6_ways 25 = .ok (.iconst 0, 1) := by decide +kernel
theorem dX6_ways_26 : decode cX6_ways 26 = .ok (.istore 4, 2) := by decide +kernel
theorem dX6_ways_28 : decode cX6_ways 28 = .ok (.iconst 0, 1) := by decide +kernel
theorem dX6_ways_29 : decode cX6_ways 29 = .ok (.istore 5, 2) := by decide +kernel
theorem dX6_ways_31 : decode cX6_ways 31 = .ok (.iload 5, 2) := by decide +kernel
theorem dX6_ways_33 : decode cX6_ways 33 = .ok (.iload_n 3, 1) := by decide +kernel
theorem dX6_ways_34 : decode cX6_ways 34 = .ok (.if_icmp .ge 107, 3) := by decide +kernel
theorem dX6_ways_37 : decode cX6_ways 37 = .ok (.aload_n 0, 1) := by decide +kernel
theorem dX6_ways_38 : decode cX6_ways 38 = .ok (.iload_n 1, 1) := by decide +kernel
theorem dX6_ways_39 : decode cX6_ways 39 = .ok (.iload 5, 2) := by decide +kernel
theorem dX6_ways_41 : decode cX6_ways 41 = .ok (.aload_n 0, 1) := by decide +kernel
theorem dX6_ways_42 : decode cX6_ways 42 = .ok (.getfield 25, 3) := by decide +kernel
theorem dX6_ways_45 : decode cX6_ways 45 = .ok (.invokevirtual 189, 3) := by decide +kernel
theorem dX6_ways_48 : decode cX6_ways 48 = .ok (.aload_n 0, 1) := by decide +kernel
theorem dX6_ways_49 : decode cX6_ways 49 = .ok (.getfield 47, 3) := by decide +kernel
theorem dX6_ways_52 : decode cX6_ways 52 = .ok (.iload 4, 2) := by decide +kernel
theorem dX6_ways_54 : decode cX6_ways 54 = .ok (.aload_n 0, 1) := by decide +kernel
theorem dX6_ways_55 : decode cX6_ways 55 = .ok (.aload_n 0, 1) := by decide +kernel
theorem dX6_ways_56 : decode cX6_ways 56 = .ok (.getfield 25, 3) := by decide +kernel
theorem dX6_ways_59 : decode cX6_ways 59 = .ok (.iload_n 1, 1) := by decide +kernel
theorem dX6_ways_60 : decode cX6_ways 60 = .ok (.invokevirtual 197, 3) := by decide +kernel
theorem dX6_ways_63 : decode cX6_ways 63 = .ok (.lastore, 1) := by decide +kernel
theorem dX6_ways_64 : decode cX6_ways 64 = .ok (.iconst 0, 1) := by decide +kernel
theorem dX6_ways_65 : decode cX6_ways 65 = .ok (.istore 6, 2) := by decide +kernel
theorem dX6_ways_67 : decode cX6_ways 67 = .ok (.aload_n 0, 1) := by decide +kernel
theorem dX6_ways_68 : decode cX6_ways 68 = .ok (.getfield 47, 3) := by decide +kernel
theorem dX6_ways_71 : decode cX6_ways 71 = .ok (.iload 6, 2) := by decide +kernel
theorem dX6_ways_73 : decode cX6_ways 73 = .ok (.laload, 1) := by decide +kernel
theorem dX6_ways_74 : decode cX6_ways 74 = .ok (.aload_n 0, 1) := by decide +kernel
theorem dX6_ways_75 : decode cX6_ways 75 = .ok (.getfield 47, 3) := by decide +kernel
theorem dX6_ways_78 : decode cX6_ways 78 = .ok (.iload 4, 2) := by decide +kernel
theorem dX6_ways_80 : decode cX6_ways 80 = .ok (.laload, 1) := by decide +kernel
theorem dX6_ways_81 : decode cX6_ways 81 = .ok (.lcmp, 1) := by decide +kernel
theorem dX6_ways_82 : decode cX6_ways 82 = .ok (.ifCond .eq 9, 3) := by decide +kernel
theorem dX6_ways_85 : decode cX6_ways 85 = .ok (.iinc 6 1, 3) := by decide +kernel
theorem dX6_ways_88 : decode cX6_ways 88 = .ok (.goto (-21), 3) := by decide +kernel
theorem dX6_ways_91 : decode cX6_ways 91 = .ok (.aload_n 0, 1) := by decide +kernel
theorem dX6_ways_92 : decode cX6_ways 92 = .ok (.getfield 51, 3) := by decide +kernel
theorem dX6_ways_95 : decode cX6_ways 95 = .ok (.iload 6, 2) := by decide +kernel
theorem dX6_ways_97 : decode cX6_ways 97 = .ok (.iload 6, 2) := by decide +kernel
theorem dX6_ways_99 : decode cX6_ways 99 = .ok (.iload 4, 2) := by decide +kernel
theorem dX6_ways_101 : decode cX6_ways 101 = .ok (.if_icmp .ne 7, 3) := by decide +kernel
theorem dX6_ways_104 : decode cX6_ways 104 = .ok (.iconst 1, 1) := by decide +kernel
theorem dX6_ways_105 : decode cX6_ways 105 = .ok (.goto 12, 3) := by decide +kernel
theorem dX6_ways_108 : decode cX6_ways 108 = .ok (.aload_n 0, 1) := by decide +kernel
theorem dX6_ways_109 : decode cX6_ways 109 = .ok (.getfield 51, 3) := by decide +kernel
theorem dX6_ways_112 : decode cX6_ways 112 = .ok (.iload 6, 2) := by decide +kernel
theorem dX6_ways_114 : decode cX6_ways 114 = .ok (.iaload, 1) := by decide +kernel
theorem dX6_ways_115 : decode cX6_ways 115 = .ok (.iconst 1, 1) := by decide +kernel
theorem dX6_ways_116 : decode cX6_ways 116 = .ok (.iadd, 1) := by decide +kernel
theorem dX6_ways_117 : decode cX6_ways 117 = .ok (.iastore, 1) := by decide +kernel
theorem dX6_ways_118 : decode cX6_ways 118 = .ok (.iload 4, 2) := by decide +kernel
theorem dX6_ways_120 : decode cX6_ways 120 = .ok (.iload 6, 2) := by decide +kernel
theorem dX6_ways_122 : decode cX6_ways 122 = .ok (.iload 4, 2) := by decide +kernel
theorem dX6_ways_124 : decode cX6_ways 124 = .ok (.if_icmp .ne 7, 3) := by decide +kernel
theorem dX6_ways_127 : decode cX6_ways 127 = .ok (.iconst 1, 1) := by decide +kernel
theorem dX6_ways_128 : decode cX6_ways 128 = .ok (.goto 4, 3) := by decide +kernel
theorem dX6_ways_131 : decode cX6_ways 131 = .ok (.iconst 0, 1) := by decide +kernel
theorem dX6_ways_132 : decode cX6_ways 132 = .ok (.iadd, 1) := by decide +kernel
theorem dX6_ways_133 : decode cX6_ways 133 = .ok (.istore 4, 2) := by decide +kernel
theorem dX6_ways_135 : decode cX6_ways 135 = .ok (.iinc 5 1, 3) := by decide +kernel
theorem dX6_ways_138 : decode cX6_ways 138 = .ok (.goto (-107), 3) := by decide +kernel
theorem dX6_ways_141 : decode cX6_ways 141 = .ok (.iload_n 2, 1) := by decide +kernel
theorem dX6_ways_142 : decode cX6_ways 142 = .ok (.ifCond .ge 8, 3) := by decide +kernel
theorem dX6_ways_145 : decode cX6_ways 145 = .ok (.iload 4, 2) := by decide +kernel
theorem dX6_ways_147 : decode cX6_ways 147 = .ok (.goto 20, 3) := by decide +kernel
theorem dX6_ways_150 : decode cX6_ways 150 = .ok (.iload_n 2, 1) := by decide +kernel
theorem dX6_ways_151 : decode cX6_ways 151 = .ok (.iload 4, 2) := by decide +kernel
theorem dX6_ways_153 : decode cX6_ways 153 = .ok (.if_icmp .ge 12, 3) := by decide +kernel
theorem dX6_ways_156 : decode cX6_ways 156 = .ok (.aload_n 0, 1) := by decide +kernel
theorem dX6_ways_157 : decode cX6_ways 157 = .ok (.getfield 51, 3) := by decide +kernel
theorem dX6_ways_160 : decode cX6_ways 160 = .ok (.iload_n 2, 1) := by decide +kernel
theorem dX6_ways_161 : decode cX6_ways 161 = .ok (.iaload, 1) := by decide +kernel
theorem dX6_ways_162 : decode cX6_ways 162 = .ok (.goto 5, 3) := by decide +kernel
theorem dX6_ways_165 : decode cX6_ways 165 = .ok (.bipush (-4), 2) := by decide +kernel
theorem dX6_ways_167 : decode cX6_ways 167 = .ok (.ireturn, 1) := by decide +kernel
theorem dX6_inversions_0 : decode cX6_inversions 0 = .ok (.iconst 0, 1) := by decide +kernel
theorem dX6_inversions_1 : decode cX6_inversions 1 = .ok (.istore_n 1, 1) := by decide +kernel
theorem dX6_inversions_2 : decode cX6_inversions 2 = .ok (.iconst 0, 1) := by decide +kernel
theorem dX6_inversions_3 : decode cX6_inversions 3 = .ok (.istore_n 2, 1) := by decide +kernel
theorem dX6_inversions_4 : decode cX6_inversions 4 = .ok (.iload_n 2, 1) := by decide +kernel
theorem dX6_inversions_5 : decode cX6_inversions 5 = .ok (.aload_n 0, 1) := by decide +kernel
theorem dX6_inversions_6 : decode cX6_inversions 6 = .ok (.getfield 54, 3) := by decide +kernel
theorem dX6_inversions_9 : decode cX6_inversions 9 = .ok (.aload_n 0, 1) := by decide +kernel
theorem dX6_inversions_10 : decode cX6_inversions 10 = .ok (.getfield 54, 3) := by decide +kernel
theorem dX6_inversions_13 : decode cX6_inversions 13 = .ok (.imul, 1) := by decide +kernel
theorem dX6_inversions_14 : decode cX6_inversions 14 = .ok (.if_icmp .ge 122, 3) := by decide +kernel
theorem dX6_inversions_17 : decode cX6_inversions 17 = .ok (.iconst 0, 1) := by decide +kernel
theorem dX6_inversions_18 : decode cX6_inversions 18 = .ok (.istore_n 3, 1) := by decide +kernel
theorem dX6_inversions_19 : decode cX6_inversions 19 = .ok (.iload_n 3, 1) := by decide +kernel
theorem dX6_inversions_20 : decode cX6_inversions 20 = .ok (.aload_n 0, 1) := by decide +kernel
theorem dX6_inversions_21 : decode cX6_inversions 21 = .ok (.getfield 54, 3) := by decide +kernel
theorem dX6_inversions_24 : decode cX6_inversions 24 = .ok (.aload_n 0, 1) := by decide +kernel
theorem dX6_inversions_25 : decode cX6_inversions 25 = .ok (.getfield 54, 3) := by decide +kernel
theorem dX6_inversions_28 : decode cX6_inversions 28 = .ok (.imul, 1) := by decide +kernel
theorem dX6_inversions_29 : decode cX6_inversions 29 = .ok (.if_icmp .ge 101, 3) := by decide +kernel
theorem dX6_inversions_32 : decode cX6_inversions 32 = .ok (.iload_n 2, 1) := by decide +kernel
theorem dX6_inversions_33 : decode cX6_inversions 33 = .ok (.aload_n 0, 1) := by decide +kernel
theorem dX6_inversions_34 : decode cX6_inversions 34 = .ok (.getfield 54, 3) := by decide +kernel
theorem dX6_inversions_37 : decode cX6_inversions 37 = .ok (.idiv, 1) := by decide +kernel
theorem dX6_inversions_38 : decode cX6_inversions 38 = .ok (.iload_n 3, 1) := by decide +kernel
theorem dX6_inversions_39 : decode cX6_inversions 39 = .ok (.aload_n 0, 1) := by decide +kernel
theorem dX6_inversions_40 : decode cX6_inversions 40 = .ok (.getfield 54, 3) := by decide +kernel
theorem dX6_inversions_43 : decode cX6_inversions 43 = .ok (.idiv, 1) := by decide +kernel
theorem dX6_inversions_44 : decode cX6_inversions 44 = .ok (.if_icmp .ge 22, 3) := by decide +kernel
theorem dX6_inversions_47 : decode cX6_inversions 47 = .ok (.iload_n 2, 1) := by decide +kernel
theorem dX6_inversions_48 : decode cX6_inversions 48 = .ok (.aload_n 0, 1) := by decide +kernel
theorem dX6_inversions_49 : decode cX6_inversions 49 = .ok (.getfield 54, 3) := by decide +kernel
theorem dX6_inversions_52 : decode cX6_inversions 52 = .ok (.irem, 1) := by decide +kernel
theorem dX6_inversions_53 : decode cX6_inversions 53 = .ok (.iload_n 3, 1) := by decide +kernel
theorem dX6_inversions_54 : decode cX6_inversions 54 = .ok (.aload_n 0, 1) := by decide +kernel
theorem dX6_inversions_55 : decode cX6_inversions 55 = .ok (.getfield 54, 3) := by decide +kernel
theorem dX6_inversions_58 : decode cX6_inversions 58 = .ok (.irem, 1) := by decide +kernel
theorem dX6_inversions_59 : decode cX6_inversions 59 = .ok (.if_icmp .le 7, 3) := by decide +kernel
theorem dX6_inversions_62 : decode cX6_inversions 62 = .ok (.iconst 1, 1) := by decide +kernel
theorem dX6_inversions_63 : decode cX6_inversions 63 = .ok (.goto 4, 3) := by decide +kernel
theorem dX6_inversions_66 : decode cX6_inversions 66 = .ok (.iconst 0, 1) := by decide +kernel
theorem dX6_inversions_67 : decode cX6_inversions 67 = .ok (.istore 4, 2) := by decide +kernel
theorem dX6_inversions_69 : decode cX6_inversions 69 = .ok (.iload_n 1, 1) := by decide +kernel
theorem dX6_inversions_70 : decode cX6_inversions 70 = .ok (.iload 4, 2) := by decide +kernel
theorem dX6_inversions_72 : decode cX6_inversions 72 = .ok (.ifCond .eq 49, 3) := by decide +kernel
theorem dX6_inversions_75 : decode cX6_inversions 75 = .ok (.aload_n 0, 1) := by decide +kernel
theorem dX6_inversions_76 : decode cX6_inversions 76 = .ok (.getfield 13, 3) := by decide +kernel
theorem dX6_inversions_79 : decode cX6_inversions 79 = .ok (.bipush 6, 2) := by decide +kernel
theorem dX6_inversions_81 : decode cX6_inversions 81 = .ok (.iload_n 2, 1) := by decide +kernel
theorem dX6_inversions_82 : decode cX6_inversions 82 = .ok (.aload_n 0, 1) := by decide +kernel
theorem dX6_inversions_83 : decode cX6_inversions 83 = .ok (.getfield 54, 3) := by decide +kernel
theorem dX6_inversions_86 : decode cX6_inversions 86 = .ok (.idiv, 1) := by decide +kernel
theorem dX6_inversions_87 : decode cX6_inversions 87 = .ok (.imul, 1) := by decide +kernel
theorem dX6_inversions_88 : decode cX6_inversions 88 = .ok (.iload_n 2, 1) := by decide +kernel
theorem dX6_inversions_89 : decode cX6_inversions 89 = .ok (.aload_n 0, 1) := by decide +kernel
theorem dX6_inversions_90 : decode cX6_inversions 90 = .ok (.getfield 54, 3) := by decide +kernel
theorem dX6_inversions_93 : decode cX6_inversions 93 = .ok (.irem, 1) := by decide +kernel
theorem dX6_inversions_94 : decode cX6_inversions 94 = .ok (.iadd, 1) := by decide +kernel
theorem dX6_inversions_95 : decode cX6_inversions 95 = .ok (.iaload, 1) := by decide +kernel
theorem dX6_inversions_96 : decode cX6_inversions 96 = .ok (.aload_n 0, 1) := by decide +kernel
theorem dX6_inversions_97 : decode cX6_inversions 97 = .ok (.getfield 13, 3) := by decide +kernel
theorem dX6_inversions_100 : decode cX6_inversions 100 = .ok (.bipush 6, 2) := by decide +kernel
theorem dX6_inversions_102 : decode cX6_inversions 102 = .ok (.iload_n 3, 1) := by decide +kernel
theorem dX6_inversions_103 : decode cX6_inversions 103 = .ok (.aload_n 0, 1) := by decide +kernel
theorem dX6_inversions_104 : decode cX6_inversions 104 = .ok (.getfield 54, 3) := by decide +kernel
theorem dX6_inversions_107 : decode cX6_inversions 107 = .ok (.idiv, 1) := by decide +kernel
theorem dX6_inversions_108 : decode cX6_inversions 108 = .ok (.imul, 1) := by decide +kernel
theorem dX6_inversions_109 : decode cX6_inversions 109 = .ok (.iload_n 3, 1) := by decide +kernel
theorem dX6_inversions_110 : decode cX6_inversions 110 = .ok (.aload_n 0, 1) := by decide +kernel
theorem dX6_inversions_111 : decode cX6_inversions 111 = .ok (.getfield 54, 3) := by decide +kernel
theorem dX6_inversions_114 : decode cX6_inversions 114 = .ok (.irem, 1) := by decide +kernel
theorem dX6_inversions_115 : decode cX6_inversions 115 = .ok (.iadd, 1) := by decide +kernel
theorem dX6_inversions_116 : decode cX6_inversions 116 = .ok (.iaload, 1) := by decide +kernel
theorem dX6_inversions_117 : decode cX6_inversions 117 = .ok (.imul, 1) := by decide +kernel
theorem dX6_inversions_118 : decode cX6_inversions 118 = .ok (.goto 4, 3) := by decide +kernel
theorem dX6_inversions_121 : decode cX6_inversions 121 = .ok (.iconst 0, 1) := by decide +kernel
theorem dX6_inversions_122 : decode cX6_inversions 122 = .ok (.iadd, 1) := by decide +kernel
theorem dX6_inversions_123 : decode cX6_inversions 123 = .ok (.istore_n 1, 1) := by decide +kernel
theorem dX6_inversions_124 : decode cX6_inversions 124 = .ok (.iinc 3 1, 3) := by decide +kernel
theorem dX6_inversions_127 : decode cX6_inversions 127 = .ok (.goto (-108), 3) := by decide +kernel
theorem dX6_inversions_130 : decode cX6_inversions 130 = .ok (.iinc 2 1, 3) := by decide +kernel
theorem dX6_inversions_133 : decode cX6_inversions 133 = .ok (.goto (-129), 3) := by decide +kernel
theorem dX6_inversions_136 : decode cX6_inversions 136 = .ok (.iload_n 1, 1) := by decide +kernel
theorem dX6_inversions_137 : decode cX6_inversions 137 = .ok (.ireturn, 1) := by decide +kernel
set_option maxRecDepth 20000 in
theorem ggX6_sums_X6_heightOf : GoodIn wsX6_sums wsX6_heightOf := goodIn_r _ [6, 7, 8, 5, 9] (by decide +kernel) (by decide +kernel)
set_option maxRecDepth 20000 in
theorem gX6_sums_X6_heightOf : GoodIn wsX6_sums (va_wsS RX6 94 yX6_heightOf wsX6_heightOf) := goodIn_app (goodIn_of _ (by decide +kernel)) ggX6_sums_X6_heightOf
set_option maxRecDepth 20000 in
theorem ggX6_sums_X6_isInner : GoodIn wsX6_sums wsX6_isInner := goodIn_r _ [13, 1, 14, 15, 5, 16, 20, 21, 22, 23, 24, 25, 26, 27, 28, 29, 30, 31, 32, 33, 34, 35, 36, 37, 38, 39, 40, 41, 42] (by decide +kernel) (by decide +kernel)
set_option maxRecDepth 20000 in
theorem gX6_sums_X6_isInner : GoodIn wsX6_sums (wsV RX6 97 RX6 yX6_isInner wsX6_isInner) := goodIn_app (goodIn_of _ (by decide +kernel)) ggX6_sums_X6_isInner
set_option maxRecDepth 20000 in
theorem ggX6_sums_X6_mayBe : GoodIn wsX6_sums wsX6_mayBe := goodIn_r _ [19, 3, 4, 5, 6, 7, 8, 9] (by decide +kernel) (by decide +kernel)
set_option maxRecDepth 20000 in
theorem gX6_sums_X6_mayBe : GoodIn wsX6_sums (va_wsS RX6 100 yX6_mayBe wsX6_mayBe) := goodIn_app (goodIn_of _ (by decide +kernel)) ggX6_sums_X6_mayBe
theorem dX6_sums_0 : decode cX6_sums 0 = .ok (.iconst 0, 1) := by decide +kernel
theorem dX6_sums_1 : decode cX6_sums 1 = .ok (.istore_n 2, 1) := by decide +kernel
theorem dX6_sums_2 : decode cX6_sums 2 = .ok (.iconst 0, 1) := by decide +kernel
theorem dX6_sums_3 : decode cX6_sums 3 = .ok (.istore_n 3, 1) := by decide +kernel
theorem dX6_sums_4 : decode cX6_sums 4 = .ok (.iload_n 3, 1) := by decide +kernel
theorem dX6_sums_5 : decode cX6_sums 5 = .ok (.aload_n 0, 1) := by decide +kernel
theorem dX6_sums_6 : decode cX6_sums 6 = .ok (.getfield 54, 3) := by decide +kernel
theorem dX6_sums_9 : decode cX6_sums 9 = .ok (.if_icmp .gt 122, 3) := by decide +kernel
theorem dX6_sums_12 : decode cX6_sums 12 = .ok (.iconst 0, 1) := by decide +kernel
theorem dX6_sums_13 : decode cX6_sums 13 = .ok (.istore 4, 2) := by decide +kernel
theorem dX6_sums_15 : decode cX6_sums 15 = .ok (.iload 4, 2) := by decide +kernel
theorem dX6_sums_17 : decode cX6_sums 17 = .ok (.aload_n 0, 1) := by decide +kernel
theorem dX6_sums_18 : decode cX6_sums 18 = .ok (.getfield 54, 3) := by decide +kernel
theorem dX6_sums_21 : decode cX6_sums 21 = .ok (.if_icmp .gt 104, 3) := by decide +kernel
theorem dX6_sums_24 : decode cX6_sums 24 = .ok (.iload_n 2, 1) := by decide +kernel
theorem dX6_sums_25 : decode cX6_sums 25 = .ok (.iload_n 1, 1) := by decide +kernel
theorem dX6_sums_26 : decode cX6_sums 26 = .ok (.iconst 4, 1) := by decide +kernel
theorem dX6_sums_27 : decode cX6_sums 27 = .ok (.if_icmp .ne 16, 3) := by decide +kernel
theorem dX6_sums_30 : decode cX6_sums 30 = .ok (.aload_n 0, 1) := by decide +kernel
theorem dX6_sums_31 : decode cX6_sums 31 = .ok (.getfield 13, 3) := by decide +kernel
theorem dX6_sums_34 : decode cX6_sums 34 = .ok (.iload_n 3, 1) := by decide +kernel
theorem dX6_sums_35 : decode cX6_sums 35 = .ok (.iload 4, 2) := by decide +kernel
theorem dX6_sums_37 : decode cX6_sums 37 = .ok (.invokestatic 94, 3) := by decide +kernel
theorem dX6_sums_40 : decode cX6_sums 40 = .ok (.goto 77, 3) := by decide +kernel
theorem dX6_sums_43 : decode cX6_sums 43 = .ok (.iload_n 1, 1) := by decide +kernel
theorem dX6_sums_44 : decode cX6_sums 44 = .ok (.iconst 1, 1) := by decide +kernel
theorem dX6_sums_45 : decode cX6_sums 45 = .ok (.if_icmp .ne 44, 3) := by decide +kernel
theorem dX6_sums_48 : decode cX6_sums 48 = .ok (.iload_n 3, 1) := by decide +kernel
theorem dX6_sums_49 : decode cX6_sums 49 = .ok (.aload_n 0, 1) := by decide +kernel
theorem dX6_sums_50 : decode cX6_sums 50 = .ok (.getfield 54, 3) := by decide +kernel
theorem dX6_sums_53 : decode cX6_sums 53 = .ok (.if_icmp .ge 32, 3) := by decide +kernel
theorem dX6_sums_56 : decode cX6_sums 56 = .ok (.iload 4, 2) := by decide +kernel
theorem dX6_sums_58 : decode cX6_sums 58 = .ok (.aload_n 0, 1) := by decide +kernel
theorem dX6_sums_59 : decode cX6_sums 59 = .ok (.getfield 54, 3) := by decide +kernel
theorem dX6_sums_62 : decode cX6_sums 62 = .ok (.if_icmp .ge 23, 3) := by decide +kernel
theorem dX6_sums_65 : decode cX6_sums 65 = .ok (.aload_n 0, 1) := by decide +kernel
theorem dX6_sums_66 : decode cX6_sums 66 = .ok (.getfield 13, 3) := by decide +kernel
theorem dX6_sums_69 : decode cX6_sums 69 = .ok (.bipush 6, 2) := by decide +kernel
theorem dX6_sums_71 : decode cX6_sums 71 = .ok (.iload_n 3, 1) := by decide +kernel
theorem dX6_sums_72 : decode cX6_sums 72 = .ok (.imul, 1) := by decide +kernel
theorem dX6_sums_73 : decode cX6_sums 73 = .ok (.iload 4, 2) := by decide +kernel
theorem dX6_sums_75 : decode cX6_sums 75 = .ok (.iadd, 1) := by decide +kernel
theorem dX6_sums_76 : decode cX6_sums 76 = .ok (.iaload, 1) := by decide +kernel
theorem dX6_sums_77 : decode cX6_sums 77 = .ok (.iconst (-1), 1) := by decide +kernel
theorem dX6_sums_78 : decode cX6_sums 78 = .ok (.if_icmp .ne 7, 3) := by decide +kernel
theorem dX6_sums_81 : decode cX6_sums 81 = .ok (.iconst 1, 1) := by decide +kernel
theorem dX6_sums_82 : decode cX6_sums 82 = .ok (.goto 35, 3) := by decide +kernel
theorem dX6_sums_85 : decode cX6_sums 85 = .ok (.iconst 0, 1) := by decide +kernel
theorem dX6_sums_86 : decode cX6_sums 86 = .ok (.goto 31, 3) := by decide +kernel
theorem dX6_sums_89 : decode cX6_sums 89 = .ok (.aload_n 0, 1) := by decide +kernel
theorem dX6_sums_90 : decode cX6_sums 90 = .ok (.iload_n 3, 1) := by decide +kernel
theorem dX6_sums_91 : decode cX6_sums 91 = .ok (.iload 4, 2) := by decide +kernel
theorem dX6_sums_93 : decode cX6_sums 93 = .ok (.invokevirtual 97, 3) := by decide +kernel
theorem dX6_sums_96 : decode cX6_sums 96 = .ok (.ifCond .eq 20, 3) := by decide +kernel
theorem dX6_sums_99 : decode cX6_sums 99 = .ok (.aload_n 0, 1) := by decide +kernel
theorem dX6_sums_100 : decode cX6_sums 100 = .ok (.getfield 13, 3) := by decide +kernel
theorem dX6_sums_103 : decode cX6_sums 103 = .ok (.iload_n 3, 1) := by decide +kernel
theorem dX6_sums_104 : decode cX6_sums 104 = .ok (.iload 4, 2) := by decide +kernel
theorem dX6_sums_106 : decode cX6_sums 106 = .ok (.invokestatic 100, 3) := by decide +kernel
theorem dX6_sums_109 : decode cX6_sums 109 = .ok (.ifCond .le 7, 3) := by decide +kernel
theorem dX6_sums_112 : decode cX6_sums 112 = .ok (.iconst 1, 1) := by decide +kernel
theorem dX6_sums_113 : decode cX6_sums 113 = .ok (.goto 4, 3) := by decide +kernel
theorem dX6_sums_116 : decode cX6_sums 116 = .ok (.iconst 0, 1) := by decide +kernel
theorem dX6_sums_117 : decode cX6_sums 117 = .ok (.iadd, 1) := by decide +kernel
theorem dX6_sums_118 : decode cX6_sums 118 = .ok (.istore_n 2, 1) := by decide +kernel
theorem dX6_sums_119 : decode cX6_sums 119 = .ok (.iinc 4 1, 3) := by decide +kernel
theorem dX6_sums_122 : decode cX6_sums 122 = .ok (.goto (-107), 3) := by decide +kernel
theorem dX6_sums_125 : decode cX6_sums 125 = .ok (.iinc 3 1, 3) := by decide +kernel
theorem dX6_sums_128 : decode cX6_sums 128 = .ok (.goto (-124), 3) := by decide +kernel
theorem dX6_sums_131 : decode cX6_sums 131 = .ok (.iload_n 2, 1) := by decide +kernel
theorem dX6_sums_132 : decode cX6_sums 132 = .ok (.ireturn, 1) := by decide +kernel
set_option maxRecDepth 20000 in
theorem ggX6_count_X6_sums : GoodIn wsX6_count wsX6_sums := goodIn_r _ [9, 1, 10, 11, 12, 8, 13, 14, 15, 16, 17, 18, 19, 20, 21, 22, 23, 24, 25, 26, 72, 73, 74, 75, 76, 77, 78, 79, 80, 81, 82, 83, 84, 85, 86, 87, 88, 89, 90, 91, 92, 93, 94] (by decide +kernel) (by decide +kernel)
set_option maxRecDepth 20000 in
theorem gX6_count_X6_sums : GoodIn wsX6_count (wsV RX6 203 RX6 yX6_sums wsX6_sums) := goodIn_app (goodIn_of _ (by decide +kernel)) ggX6_count_X6_sums
set_option maxRecDepth 20000 in
theorem ggX6_count_X6_inversions : GoodIn wsX6_count wsX6_inversions := goodIn_r _ [30, 1, 10, 72, 73, 74, 75, 76, 77, 78, 79, 80, 81, 82, 83, 84, 85, 86, 87, 88, 89, 90, 91, 92, 93, 94] (by decide +kernel) (by decide +kernel)
set_option maxRecDepth 20000 in
theorem gX6_count_X6_inversions : GoodIn wsX6_count (wsV RX6 206 RX6 yX6_inversions wsX6_inversions) := goodIn_app (goodIn_of _ (by decide +kernel)) ggX6_count_X6_inversions
set_option maxRecDepth 20000 in
theorem ggX6_count_X6_drawn : GoodIn wsX6_count wsX6_drawn := goodIn_r _ [34, 1, 10, 35, 36, 8, 37, 38, 39, 40, 72, 73, 74, 75, 76, 77, 78, 79, 80, 81, 82, 83, 84, 85, 86, 87, 88, 89, 90, 91, 92, 93, 94] (by decide +kernel) (by decide +kernel)
set_option maxRecDepth 20000 in
theorem gX6_count_X6_drawn : GoodIn wsX6_count (wsV RX6 209 RX6 yX6_drawn wsX6_drawn) := goodIn_app (goodIn_of _ (by decide +kernel)) ggX6_count_X6_drawn
set_option maxRecDepth 20000 in
theorem ggX6_count_X6_rings : GoodIn wsX6_count wsX6_rings := goodIn_r _ [44, 10, 1, 45, 46, 47, 48, 8, 49, 50, 51, 52, 53, 54, 55, 38, 39, 40, 35, 36, 37, 56, 57, 58, 59, 60, 61, 62, 63, 64, 65, 66, 67, 21, 22, 23, 68, 69, 70, 71, 72, 73, 74, 75, 76, 77, 78, 79, 80, 81, 82, 83, 84, 85, 86, 87, 88, 89, 90, 91, 92, 93, 94] (by decide +kernel) (by decide +kernel)
set_option maxRecDepth 20000 in
theorem gX6_count_X6_rings : GoodIn wsX6_count (wsV RX6 212 RX6 yX6_rings wsX6_rings) := goodIn_app (goodIn_of _ (by decide +kernel)) ggX6_count_X6_rings
theorem dX6_count_0 : decode cX6_count 0 = .ok (.iload_n 1, 1) := by decide +kernel
theorem dX6_count_1 : decode cX6_count 1 = .ok (.tableswitch 122 0 11 #[63, 68, 68, 74, 68, 79, 84, 89, 94, 108, 113, 113], 63) := by decide +kernel
theorem dX6_count_64 : decode cX6_count 64 = .ok (.aload_n 0, 1) := by decide +kernel
theorem dX6_count_65 : decode cX6_count 65 = .ok (.getfield 54, 3) := by decide +kernel
theorem dX6_count_68 : decode cX6_count 68 = .ok (.ireturn, 1) := by decide +kernel
theorem dX6_count_69 : decode cX6_count 69 = .ok (.aload_n 0, 1) := by decide +kernel
theorem dX6_count_70 : decode cX6_count 70 = .ok (.iload_n 1, 1) := by decide +kernel
theorem dX6_count_71 : decode cX6_count 71 = .ok (.invokevirtual 203, 3) := by decide +kernel
theorem dX6_count_74 : decode cX6_count 74 = .ok (.ireturn, 1) := by decide +kernel
theorem dX6_count_75 : decode cX6_count 75 = .ok (.aload_n 0, 1) := by decide +kernel
theorem dX6_count_76 : decode cX6_count 76 = .ok (.invokevirtual 206, 3) := by decide +kernel
theorem dX6_count_79 : decode cX6_count 79 = .ok (.ireturn, 1) := by decide +kernel
theorem dX6_count_80 : decode cX6_count 80 = .ok (.aload_n 0, 1) := by decide +kernel
theorem dX6_count_81 : decode cX6_count 81 = .ok (.getfield 80, 3) := by decide +kernel
theorem dX6_count_84 : decode cX6_count 84 = .ok (.ireturn, 1) := by decide +kernel
theorem dX6_count_85 : decode cX6_count 85 = .ok (.aload_n 0, 1) := by decide +kernel
theorem dX6_count_86 : decode cX6_count 86 = .ok (.getfield 66, 3) := by decide +kernel
theorem dX6_count_89 : decode cX6_count 89 = .ok (.ireturn, 1) := by decide +kernel
theorem dX6_count_90 : decode cX6_count 90 = .ok (.aload_n 0, 1) := by decide +kernel
theorem dX6_count_91 : decode cX6_count 91 = .ok (.getfield 83, 3) := by decide +kernel
theorem dX6_count_94 : decode cX6_count 94 = .ok (.ireturn, 1) := by decide +kernel
theorem dX6_count_95 : decode cX6_count 95 = .ok (.aload_n 0, 1) := by decide +kernel
theorem dX6_count_96 : decode cX6_count 96 = .ok (.iconst 1, 1) := by decide +kernel
theorem dX6_count_97 : decode cX6_count 97 = .ok (.invokevirtual 203, 3) := by decide +kernel
theorem dX6_count_100 : decode cX6_count 100 = .ok (.ifCond .ne 7, 3) := by decide +kernel
theorem dX6_count_103 : decode cX6_count 103 = .ok (.iconst 1, 1) := by decide +kernel
theorem dX6_count_104 : decode cX6_count 104 = .ok (.goto 4, 3) := by decide +kernel
theorem dX6_count_107 : decode cX6_count 107 = .ok (.iconst 0, 1) := by decide +kernel
theorem dX6_count_108 : decode cX6_count 108 = .ok (.ireturn, 1) := by decide +kernel
theorem dX6_count_109 : decode cX6_count 109 = .ok (.aload_n 0, 1) := by decide +kernel
theorem dX6_count_110 : decode cX6_count 110 = .ok (.invokevirtual 209, 3) := by decide +kernel
theorem dX6_count_113 : decode cX6_count 113 = .ok (.ireturn, 1) := by decide +kernel
theorem dX6_count_114 : decode cX6_count 114 = .ok (.aload_n 0, 1) := by decide +kernel
theorem dX6_count_115 : decode cX6_count 115 = .ok (.iload_n 1, 1) := by decide +kernel
theorem dX6_count_116 : decode cX6_count 116 = .ok (.bipush 10, 2) := by decide +kernel
theorem dX6_count_118 : decode cX6_count 118 = .ok (.isub, 1) := by decide +kernel
theorem dX6_count_119 : decode cX6_count 119 = .ok (.invokevirtual 212, 3) := by decide +kernel
theorem dX6_count_122 : decode cX6_count 122 = .ok (.ireturn, 1) := by decide +kernel
theorem dX6_count_123 : decode cX6_count 123 = .ok (.iconst (-1), 1) := by decide +kernel
theorem dX6_count_124 : decode cX6_count 124 = .ok (.ireturn, 1) := by decide +kernel
