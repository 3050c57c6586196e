set_option maxRecDepth 20000 in
theorem ggX2_init_X3_init : GoodIn wsX2_init wsX3_init := goodIn_r _ [9, 10, 2, 3, 11, 12, 16, 17] (by decide +kernel) (by decide +kernel)
set_option maxRecDepth 20000 in
theorem gX2_init_X3_init_n17 : GoodIn wsX2_init (wsX3_init) := ggX2_init_X3_init
theorem dX2_init_0 : decode cX2_init 0 = .ok (.aload_n 0, 1) := by decide +kernel
theorem dX2_init_1 : decode cX2_init 1 = .ok (.invokespecial 3, 3) := by decide +kernel
theorem dX2_init_4 : decode cX2_init 4 = .ok (.aload_n 0, 1) := by decide +kernel
theorem dX2_init_5 : decode cX2_init 5 = .ok (.bipush 6, 2) := by decide +kernel
theorem dX2_init_7 : decode cX2_init 7 = .ok (.anewarray 9, 3) := by decide +kernel
theorem dX2_init_10 : decode cX2_init 10 = .ok (.putfield 11, 3) := by decide +kernel
theorem dX2_init_13 : decode cX2_init 13 = .ok (.iconst 0, 1) := by decide +kernel
theorem dX2_init_14 : decode cX2_init 14 = .ok (.istore_n 1, 1) := by decide +kernel
theorem dX2_init_15 : decode cX2_init 15 = .ok (.iload_n 1, 1) := by decide +kernel
theorem dX2_init_16 : decode cX2_init 16 = .ok (.bipush 6, 2) := by decide +kernel
theorem dX2_init_18 : decode cX2_init 18 = .ok (.if_icmp .ge 22, 3) := by decide +kernel
theorem dX2_init_21 : decode cX2_init 21 = .ok (.aload_n 0, 1) := by decide +kernel
theorem dX2_init_22 : decode cX2_init 22 = .ok (.getfield 11, 3) := by decide +kernel
theorem dX2_init_25 : decode cX2_init 25 = .ok (.iload_n 1, 1) := by decide +kernel
theorem dX2_init_26 : decode cX2_init 26 = .ok (.new 9, 3) := by decide +kernel
theorem dX2_init_29 : decode cX2_init 29 = .ok (.dup, 1) := by decide +kernel
theorem dX2_init_30 : decode cX2_init 30 = .ok (.invokespecial 17, 3) := by decide +kernel
theorem dX2_init_33 : decode cX2_init 33 = .ok (.aastore, 1) := by decide +kernel
theorem dX2_init_34 : decode cX2_init 34 = .ok (.iinc 1 1, 3) := by decide +kernel
theorem dX2_init_37 : decode cX2_init 37 = .ok (.goto (-22), 3) := by decide +kernel
theorem dX2_init_40 : decode cX2_init 40 = .ok (.return_, 1) := by decide +kernel
set_option maxRecDepth 20000 in
theorem ggX2_remember_X3_copy : GoodIn wsX2_remember wsX3_copy := goodIn_r _ [12, 13, 14, 15, 16, 17, 18, 22, 23] (by decide +kernel) (by decide +kernel)
set_option maxRecDepth 20000 in
theorem gX2_remember_X3_copy : GoodIn wsX2_remember (wsV RX2 22 RX3 yX3_copy wsX3_copy) := goodIn_app (goodIn_of _ (by decide +kernel)) ggX2_remember_X3_copy
theorem dX2_remember_0 : decode cX2_remember 0 = .ok (.aload_n 0, 1) := by decide +kernel
theorem dX2_remember_1 : decode cX2_remember 1 = .ok (.getfield 11, 3) := by decide +kernel
theorem dX2_remember_4 : decode cX2_remember 4 = .ok (.aload_n 0, 1) := by decide +kernel
theorem dX2_remember_5 : decode cX2_remember 5 = .ok (.getfield 18, 3) := by decide +kernel
theorem dX2_remember_8 : decode cX2_remember 8 = .ok (.aaload, 1) := by decide +kernel
theorem dX2_remember_9 : decode cX2_remember 9 = .ok (.aload_n 1, 1) := by decide +kernel
theorem dX2_remember_10 : decode cX2_remember 10 = .ok (.invokevirtual 22, 3) := by decide +kernel
theorem dX2_remember_13 : decode cX2_remember 13 = .ok (.aload_n 0, 1) := by decide +kernel
theorem dX2_remember_14 : decode cX2_remember 14 = .ok (.aload_n 0, 1) := by decide +kernel
theorem dX2_remember_15 : decode cX2_remember 15 = .ok (.getfield 18, 3) := by decide +kernel
theorem dX2_remember_18 : decode cX2_remember 18 = .ok (.iconst 1, 1) := by decide +kernel
theorem dX2_remember_19 : decode cX2_remember 19 = .ok (.iadd, 1) := by decide +kernel
theorem dX2_remember_20 : decode cX2_remember 20 = .ok (.bipush 6, 2) := by decide +kernel
theorem dX2_remember_22 : decode cX2_remember 22 = .ok (.irem, 1) := by decide +kernel
theorem dX2_remember_23 : decode cX2_remember 23 = .ok (.putfield 18, 3) := by decide +kernel
theorem dX2_remember_26 : decode cX2_remember 26 = .ok (.aload_n 0, 1) := by decide +kernel
theorem dX2_remember_27 : decode cX2_remember 27 = .ok (.aload_n 0, 1) := by decide +kernel
theorem dX2_remember_28 : decode cX2_remember 28 = .ok (.getfield 26, 3) := by decide +kernel
theorem dX2_remember_31 : decode cX2_remember 31 = .ok (.iconst 1, 1) := by decide +kernel
theorem dX2_remember_32 : decode cX2_remember 32 = .ok (.iadd, 1) := by decide +kernel
theorem dX2_remember_33 : decode cX2_remember 33 = .ok (.bipush 6, 2) := by decide +kernel
theorem dX2_remember_35 : decode cX2_remember 35 = .ok (.invokestatic 29, 3) := by decide +kernel
theorem dX2_remember_38 : decode cX2_remember 38 = .ok (.putfield 26, 3) := by decide +kernel
theorem dX2_remember_41 : decode cX2_remember 41 = .ok (.return_, 1) := by decide +kernel
set_option maxRecDepth 20000 in
theorem ggX2_giveBack_X3_copy : GoodIn wsX2_giveBack wsX3_copy := goodIn_r _ [8, 9, 10, 11, 12, 13, 14, 18, 19] (by decide +kernel) (by decide +kernel)
set_option maxRecDepth 20000 in
theorem gX2_giveBack_X3_copy : GoodIn wsX2_giveBack (wsV RX2 22 RX3 yX3_copy wsX3_copy) := goodIn_app (goodIn_of _ (by decide +kernel)) ggX2_giveBack_X3_copy
theorem dX2_giveBack_0 : decode cX2_giveBack 0 = .ok (.aload_n 0, 1) := by decide +kernel
theorem dX2_giveBack_1 : decode cX2_giveBack 1 = .ok (.getfield 26, 3) := by decide +kernel
theorem dX2_giveBack_4 : decode cX2_giveBack 4 = .ok (.ifCond .le 42, 3) := by decide +kernel
theorem dX2_giveBack_7 : decode cX2_giveBack 7 = .ok (.aload_n 0, 1) := by decide +kernel
theorem dX2_giveBack_8 : decode cX2_giveBack 8 = .ok (.aload_n 0, 1) := by decide +kernel
theorem dX2_giveBack_9 : decode cX2_giveBack 9 = .ok (.getfield 18, 3) := by decide +kernel
theorem dX2_giveBack_12 : decode cX2_giveBack 12 = .ok (.bipush 6, 2) := by decide +kernel
theorem dX2_giveBack_14 : decode cX2_giveBack 14 = .ok (.iadd, 1) := by decide +kernel
theorem dX2_giveBack_15 : decode cX2_giveBack 15 = .ok (.iconst 1, 1) := by decide +kernel
theorem dX2_giveBack_16 : decode cX2_giveBack 16 = .ok (.isub, 1) := by decide +kernel
theorem dX2_giveBack_17 : decode cX2_giveBack 17 = .ok (.bipush 6, 2) := by decide +kernel
theorem dX2_giveBack_19 : decode cX2_giveBack 19 = .ok (.irem, 1) := by decide +kernel
theorem dX2_giveBack_20 : decode cX2_giveBack 20 = .ok (.putfield 18, 3) := by decide +kernel
theorem dX2_giveBack_23 : decode cX2_giveBack 23 = .ok (.aload_n 0, 1) := by decide +kernel
theorem dX2_giveBack_24 : decode cX2_giveBack 24 = .ok (.dup, 1) := by decide +kernel
theorem dX2_giveBack_25 : decode cX2_giveBack 25 = .ok (.getfield 26, 3) := by decide +kernel
theorem dX2_giveBack_28 : decode cX2_giveBack 28 = .ok (.iconst 1, 1) := by decide +kernel
theorem dX2_giveBack_29 : decode cX2_giveBack 29 = .ok (.isub, 1) := by decide +kernel
theorem dX2_giveBack_30 : decode cX2_giveBack 30 = .ok (.putfield 26, 3) := by decide +kernel
theorem dX2_giveBack_33 : decode cX2_giveBack 33 = .ok (.aload_n 1, 1) := by decide +kernel
theorem dX2_giveBack_34 : decode cX2_giveBack 34 = .ok (.aload_n 0, 1) := by decide +kernel
theorem dX2_giveBack_35 : decode cX2_giveBack 35 = .ok (.getfield 11, 3) := by decide +kernel
theorem dX2_giveBack_38 : decode cX2_giveBack 38 = .ok (.aload_n 0, 1) := by decide +kernel
theorem dX2_giveBack_39 : decode cX2_giveBack 39 = .ok (.getfield 18, 3) := by decide +kernel
theorem dX2_giveBack_42 : decode cX2_giveBack 42 = .ok (.aaload, 1) := by decide +kernel
theorem dX2_giveBack_43 : decode cX2_giveBack 43 = .ok (.invokevirtual 22, 3) := by decide +kernel
theorem dX2_giveBack_46 : decode cX2_giveBack 46 = .ok (.return_, 1) := by decide +kernel
theorem dX2_forget_0 : decode cX2_forget 0 = .ok (.aload_n 0, 1) := by decide +kernel
theorem dX2_forget_1 : decode cX2_forget 1 = .ok (.iconst 0, 1) := by decide +kernel
theorem dX2_forget_2 : decode cX2_forget 2 = .ok (.putfield 26, 3) := by decide +kernel
theorem dX2_forget_5 : decode cX2_forget 5 = .ok (.return_, 1) := by decide +kernel
theorem dX3_init_0 : decode cX3_init 0 = .ok (.aload_n 0, 1) := by decide +kernel
theorem dX3_init_1 : decode cX3_init 1 = .ok (.invokespecial 3, 3) := by decide +kernel
theorem dX3_init_4 : decode cX3_init 4 = .ok (.aload_n 0, 1) := by decide +kernel
theorem dX3_init_5 : decode cX3_init 5 = .ok (.bipush 49, 2) := by decide +kernel
theorem dX3_init_7 : decode cX3_init 7 = .ok (.newarray .int, 2) := by decide +kernel
theorem dX3_init_9 : decode cX3_init 9 = .ok (.putfield 9, 3) := by decide +kernel
theorem dX3_init_12 : decode cX3_init 12 = .ok (.return_, 1) := by decide +kernel
theorem dX3_copy_0 : decode cX3_copy 0 = .ok (.aload_n 0, 1) := by decide +kernel
theorem dX3_copy_1 : decode cX3_copy 1 = .ok (.aload_n 1, 1) := by decide +kernel
theorem dX3_copy_2 : decode cX3_copy 2 = .ok (.getfield 15, 3) := by decide +kernel
theorem dX3_copy_5 : decode cX3_copy 5 = .ok (.putfield 15, 3) := by decide +kernel
theorem dX3_copy_8 : decode cX3_copy 8 = .ok (.aload_n 1, 1) := by decide +kernel
theorem dX3_copy_9 : decode cX3_copy 9 = .ok (.getfield 9, 3) := by decide +kernel
theorem dX3_copy_12 : decode cX3_copy 12 = .ok (.iconst 0, 1) := by decide +kernel
theorem dX3_copy_13 : decode cX3_copy 13 = .ok (.aload_n 0, 1) := by decide +kernel
theorem dX3_copy_14 : decode cX3_copy 14 = .ok (.getfield 9, 3) := by decide +kernel
theorem dX3_copy_17 : decode cX3_copy 17 = .ok (.iconst 0, 1) := by decide +kernel
theorem dX3_copy_18 : decode cX3_copy 18 = .ok (.bipush 49, 2) := by decide +kernel
theorem dX3_copy_20 : decode cX3_copy 20 = .ok (.invokestatic 19, 3) := by decide +kernel
theorem dX3_copy_23 : decode cX3_copy 23 = .ok (.return_, 1) := by decide +kernel
theorem dX3_cornerAt_0 : decode cX3_cornerAt 0 = .ok (.aload_n 0, 1) := by decide +kernel
theorem dX3_cornerAt_1 : decode cX3_cornerAt 1 = .ok (.getfield 9, 3) := by decide +kernel
theorem dX3_cornerAt_4 : decode cX3_cornerAt 4 = .ok (.iload_n 1, 1) := by decide +kernel
theorem dX3_cornerAt_5 : decode cX3_cornerAt 5 = .ok (.bipush 7, 2) := by decide +kernel
theorem dX3_cornerAt_7 : decode cX3_cornerAt 7 = .ok (.imul, 1) := by decide +kernel
theorem dX3_cornerAt_8 : decode cX3_cornerAt 8 = .ok (.iload_n 2, 1) := by decide +kernel
theorem dX3_cornerAt_9 : decode cX3_cornerAt 9 = .ok (.iadd, 1) := by decide +kernel
theorem dX3_cornerAt_10 : decode cX3_cornerAt 10 = .ok (.iaload, 1) := by decide +kernel
theorem dX3_cornerAt_11 : decode cX3_cornerAt 11 = .ok (.ireturn, 1) := by decide +kernel
theorem dX3_putCorner_0 : decode cX3_putCorner 0 = .ok (.aload_n 0, 1) := by decide +kernel
theorem dX3_putCorner_1 : decode cX3_putCorner 1 = .ok (.getfield 9, 3) := by decide +kernel
theorem dX3_putCorner_4 : decode cX3_putCorner 4 = .ok (.iload_n 1, 1) := by decide +kernel
theorem dX3_putCorner_5 : decode cX3_putCorner 5 = .ok (.bipush 7, 2) := by decide +kernel
theorem dX3_putCorner_7 : decode cX3_putCorner 7 = .ok (.imul, 1) := by decide +kernel
theorem dX3_putCorner_8 : decode cX3_putCorner 8 = .ok (.iload_n 2, 1) := by decide +kernel
theorem dX3_putCorner_9 : decode cX3_putCorner 9 = .ok (.iadd, 1) := by decide +kernel
theorem dX3_putCorner_10 : decode cX3_putCorner 10 = .ok (.iload_n 3, 1) := by decide +kernel
theorem dX3_putCorner_11 : decode cX3_putCorner 11 = .ok (.iastore, 1) := by decide +kernel
theorem dX3_putCorner_12 : decode cX3_putCorner 12 = .ok (.return_, 1) := by decide +kernel
set_option maxRecDepth 20000 in
theorem ggX3_heightAt_X3_cornerAt : GoodIn wsX3_heightAt wsX3_cornerAt := goodIn_r _ [5, 6, 7, 8] (by decide +kernel) (by decide +kernel)
set_option maxRecDepth 20000 in
theorem gX3_heightAt_X3_cornerAt : GoodIn wsX3_heightAt (wsV RX3 25 RX3 yX3_cornerAt wsX3_cornerAt) := goodIn_app (goodIn_of _ (by decide +kernel)) ggX3_heightAt_X3_cornerAt
theorem dX3_heightAt_0 : decode cX3_heightAt 0 = .ok (.iload_n 1, 1) := by decide +kernel
theorem dX3_heightAt_1 : decode cX3_heightAt 1 = .ok (.iload_n 2, 1) := by decide +kernel
theorem dX3_heightAt_2 : decode cX3_heightAt 2 = .ok (.iadd, 1) := by decide +kernel
theorem dX3_heightAt_3 : decode cX3_heightAt 3 = .ok (.iconst 2, 1) := by decide +kernel
theorem dX3_heightAt_4 : decode cX3_heightAt 4 = .ok (.aload_n 0, 1) := by decide +kernel
theorem dX3_heightAt_5 : decode cX3_heightAt 5 = .ok (.iload_n 1, 1) := by decide +kernel
theorem dX3_heightAt_6 : decode cX3_heightAt 6 = .ok (.iload_n 2, 1) := by decide +kernel
theorem dX3_heightAt_7 : decode cX3_heightAt 7 = .ok (.invokevirtual 25, 3) := by decide +kernel
theorem dX3_heightAt_10 : decode cX3_heightAt 10 = .ok (.imul, 1) := by decide +kernel
theorem dX3_heightAt_11 : decode cX3_heightAt 11 = .ok (.isub, 1) := by decide +kernel
theorem dX3_heightAt_12 : decode cX3_heightAt 12 = .ok (.ireturn, 1) := by decide +kernel
set_option maxRecDepth 20000 in
theorem ggX3_rowSum_X3_cornerAt : GoodIn wsX3_rowSum wsX3_cornerAt := goodIn_r _ [5, 6, 7, 8] (by decide +kernel) (by decide +kernel)
set_option maxRecDepth 20000 in
theorem gX3_rowSum_X3_cornerAt : GoodIn wsX3_rowSum (wsV RX3 25 RX3 yX3_cornerAt wsX3_cornerAt) := goodIn_app (goodIn_of _ (by decide +kernel)) ggX3_rowSum_X3_cornerAt
theorem dX3_rowSum_0 : decode cX3_rowSum 0 = .ok (.aload_n 0, 1) := by decide +kernel
theorem dX3_rowSum_1 : decode cX3_rowSum 1 = .ok (.iload_n 1, 1) := by decide +kernel
theorem dX3_rowSum_2 : decode cX3_rowSum 2 = .ok (.iload_n 2, 1) := by decide +kernel
theorem dX3_rowSum_3 : decode cX3_rowSum 3 = .ok (.invokevirtual 25, 3) := by decide +kernel
theorem dX3_rowSum_6 : decode cX3_rowSum 6 = .ok (.aload_n 0, 1) := by decide +kernel
theorem dX3_rowSum_7 : decode cX3_rowSum 7 = .ok (.iload_n 1, 1) := by decide +kernel
theorem dX3_rowSum_8 : decode cX3_rowSum 8 = .ok (.iconst 1, 1) := by decide +kernel
theorem dX3_rowSum_9 : decode cX3_rowSum 9 = .ok (.isub, 1) := by decide +kernel
theorem dX3_rowSum_10 : decode cX3_rowSum 10 = .ok (.iload_n 2, 1) := by decide +kernel
theorem dX3_rowSum_11 : decode cX3_rowSum 11 = .ok (.invokevirtual 25, 3) := by decide +kernel
theorem dX3_rowSum_14 : decode cX3_rowSum 14 = .ok (.isub, 1) := by decide +kernel
theorem dX3_rowSum_15 : decode cX3_rowSum 15 = .ok (.ireturn, 1) := by decide +kernel
set_option maxRecDepth 20000 in
theorem ggX3_columnSum_X3_cornerAt : GoodIn wsX3_columnSum wsX3_cornerAt := goodIn_r _ [5, 6, 7, 8] (by decide +kernel) (by decide +kernel)
set_option maxRecDepth 20000 in
theorem gX3_columnSum_X3_cornerAt : GoodIn wsX3_columnSum (wsV RX3 25 RX3 yX3_cornerAt wsX3_cornerAt) := goodIn_app (goodIn_of _ (by decide +kernel)) ggX3_columnSum_X3_cornerAt
theorem dX3_columnSum_0 : decode cX3_columnSum 0 = .ok (.aload_n 0, 1) := by decide +kernel
theorem dX3_columnSum_1 : decode cX3_columnSum 1 = .ok (.iload_n 1, 1) := by decide +kernel
theorem dX3_columnSum_2 : decode cX3_columnSum 2 = .ok (.iload_n 2, 1) := by decide +kernel
theorem dX3_columnSum_3 : decode cX3_columnSum 3 = .ok (.invokevirtual 25, 3) := by decide +kernel
theorem dX3_columnSum_6 : decode cX3_columnSum 6 = .ok (.aload_n 0, 1) := by decide +kernel
theorem dX3_columnSum_7 : decode cX3_columnSum 7 = .ok (.iload_n 1, 1) := by decide +kernel
theorem dX3_columnSum_8 : decode cX3_columnSum 8 = .ok (.iload_n 2, 1) := by decide +kernel
theorem dX3_columnSum_9 : decode cX3_columnSum 9 = .ok (.iconst 1, 1) := by decide +kernel
theorem dX3_columnSum_10 : decode cX3_columnSum 10 = .ok (.isub, 1) := by decide +kernel
theorem dX3_columnSum_11 : decode cX3_columnSum 11 = .ok (.invokevirtual 25, 3) := by decide +kernel
theorem dX3_columnSum_14 : decode cX3_columnSum 14 = .ok (.isub, 1) := by decide +kernel
theorem dX3_columnSum_15 : decode cX3_columnSum 15 = .ok (.ireturn, 1) := by decide +kernel
set_option maxRecDepth 20000 in
theorem ggX3_signAt_X3_rowSum : GoodIn wsX3_signAt wsX3_rowSum := goodIn_r _ [5, 6, 7, 8, 4, 9, 10, 11, 12] (by decide +kernel) (by decide +kernel)
set_option maxRecDepth 20000 in
theorem gX3_signAt_X3_rowSum : GoodIn wsX3_signAt (wsV RX3 29 RX3 yX3_rowSum wsX3_rowSum) := goodIn_app (goodIn_of _ (by decide +kernel)) ggX3_signAt_X3_rowSum
theorem dX3_signAt_0 : decode cX3_signAt 0 = .ok (.aload_n 0, 1) := by decide +kernel
theorem dX3_signAt_1 : decode cX3_signAt 1 = .ok (.iload_n 1, 1) := by decide +kernel
theorem dX3_signAt_2 : decode cX3_signAt 2 = .ok (.iconst 1, 1) := by decide +kernel
theorem dX3_signAt_3 : decode cX3_signAt 3 = .ok (.iadd, 1) := by decide +kernel
theorem dX3_signAt_4 : decode cX3_signAt 4 = .ok (.iload_n 2, 1) := by decide +kernel
theorem dX3_signAt_5 : decode cX3_signAt 5 = .ok (.iconst 1, 1) := by decide +kernel
theorem dX3_signAt_6 : decode cX3_signAt 6 = .ok (.iadd, 1) := by decide +kernel
theorem dX3_signAt_7 : decode cX3_signAt 7 = .ok (.invokevirtual 29, 3) := by decide +kernel
theorem dX3_signAt_10 : decode cX3_signAt 10 = .ok (.aload_n 0, 1) := by decide +kernel
theorem dX3_signAt_11 : decode cX3_signAt 11 = .ok (.iload_n 1, 1) := by decide +kernel
theorem dX3_signAt_12 : decode cX3_signAt 12 = .ok (.iconst 1, 1) := by decide +kernel
theorem dX3_signAt_13 : decode cX3_signAt 13 = .ok (.iadd, 1) := by decide +kernel
theorem dX3_signAt_14 : decode cX3_signAt 14 = .ok (.iload_n 2, 1) := by decide +kernel
theorem dX3_signAt_15 : decode cX3_signAt 15 = .ok (.invokevirtual 29, 3) := by decide +kernel
theorem dX3_signAt_18 : decode cX3_signAt 18 = .ok (.isub, 1) := by decide +kernel
theorem dX3_signAt_19 : decode cX3_signAt 19 = .ok (.ireturn, 1) := by decide +kernel
set_option maxRecDepth 20000 in
theorem ggX3_negatives_X3_signAt : GoodIn wsX3_negatives wsX3_signAt := goodIn_r _ [6, 7, 8, 9, 5, 10, 11, 12, 13, 14, 15, 16, 17] (by decide +kernel) (by decide +kernel)
set_option maxRecDepth 20000 in
theorem gX3_negatives_X3_signAt : GoodIn wsX3_negatives (wsV RX3 32 RX3 yX3_signAt wsX3_signAt) := goodIn_app (goodIn_of _ (by decide +kernel)) ggX3_negatives_X3_signAt
theorem dX3_negatives_0 : decode cX3_negatives 0 = .ok (.iconst 0, 1) := by decide +kernel
theorem dX3_negatives_1 : decode cX3_negatives 1 = .ok (.istore_n 1, 1) := by decide +kernel
theorem dX3_negatives_2 : decode cX3_negatives 2 = .ok (.iconst 0, 1) := by decide +kernel
theorem dX3_negatives_3 : decode cX3_negatives 3 = .ok (.istore_n 2, 1) := by decide +kernel
theorem dX3_negatives_4 : decode cX3_negatives 4 = .ok (.iload_n 2, 1) := by decide +kernel
theorem dX3_negatives_5 : decode cX3_negatives 5 = .ok (.aload_n 0, 1) := by decide +kernel
theorem dX3_negatives_6 : decode cX3_negatives 6 = .ok (.getfield 15, 3) := by decide +kernel
theorem dX3_negatives_9 : decode cX3_negatives 9 = .ok (.if_icmp .ge 37, 3) := by decide +kernel
theorem dX3_negatives_12 : decode cX3_negatives 12 = .ok (.iconst 0, 1) := by decide +kernel
theorem dX3_negatives_13 : decode cX3_negatives 13 = .ok (.istore_n 3, 1) := by decide +kernel
theorem dX3_negatives_14 : decode cX3_negatives 14 = .ok (.iload_n 3, 1) := by decide +kernel
theorem dX3_negatives_15 : decode cX3_negatives 15 = .ok (.aload_n 0, 1) := by decide +kernel
theorem dX3_negatives_16 : decode cX3_negatives 16 = .ok (.getfield 15, 3) := by decide +kernel
theorem dX3_negatives_19 : decode cX3_negatives 19 = .ok (.if_icmp .ge 21, 3) := by decide +kernel
theorem dX3_negatives_22 : decode cX3_negatives 22 = .ok (.aload_n 0, 1) := by decide +kernel
theorem dX3_negatives_23 : decode cX3_negatives 23 = .ok (.iload_n 2, 1) := by decide +kernel
theorem dX3_negatives_24 : decode cX3_negatives 24 = .ok (.iload_n 3, 1) := by decide +kernel
theorem dX3_negatives_25 : decode cX3_negatives 25 = .ok (.invokevirtual 32, 3) := by decide +kernel
theorem dX3_negatives_28 : decode cX3_negatives 28 = .ok (.ifCond .ge 6, 3) := by decide +kernel
theorem dX3_negatives_31 : decode cX3_negatives 31 = .ok (.iinc 1 1, 3) := by decide +kernel
theorem dX3_negatives_34 : decode cX3_negatives 34 = .ok (.iinc 3 1, 3) := by decide +kernel
theorem dX3_negatives_37 : decode cX3_negatives 37 = .ok (.goto (-23), 3) := by decide +kernel
theorem dX3_negatives_40 : decode cX3_negatives 40 = .ok (.iinc 2 1, 3) := by decide +kernel
theorem dX3_negatives_43 : decode cX3_negatives 43 = .ok (.goto (-39), 3) := by decide +kernel
theorem dX3_negatives_46 : decode cX3_negatives 46 = .ok (.iload_n 1, 1) := by decide +kernel
theorem dX3_negatives_47 : decode cX3_negatives 47 = .ok (.ireturn, 1) := by decide +kernel
set_option maxRecDepth 20000 in
theorem ggX3_inversions_X3_cornerAt : GoodIn wsX3_inversions wsX3_cornerAt := goodIn_r _ [6, 7, 16, 17] (by decide +kernel) (by decide +kernel)
set_option maxRecDepth 20000 in
theorem gX3_inversions_X3_cornerAt : GoodIn wsX3_inversions (wsV RX3 25 RX3 yX3_cornerAt wsX3_cornerAt) := goodIn_app (goodIn_of _ (by decide +kernel)) ggX3_inversions_X3_cornerAt
set_option maxRecDepth 20000 in
theorem ggX3_inversions_X3_signAt : GoodIn wsX3_inversions wsX3_signAt := goodIn_r _ [11, 12, 13, 14, 5, 15, 2, 3, 4, 6, 7, 16, 17] (by decide +kernel) (by decide +kernel)
set_option maxRecDepth 20000 in
theorem gX3_inversions_X3_signAt : GoodIn wsX3_inversions (wsV RX3 32 RX3 yX3_signAt wsX3_signAt) := goodIn_app (goodIn_of _ (by decide +kernel)) ggX3_inversions_X3_signAt
theorem dX3_inversions_0 : decode cX3_inversions 0 = .ok (.iconst 0, 1) := by decide +kernel
theorem dX3_inversions_1 : decode cX3_inversions 1 = .ok (.istore_n 1, 1) := by decide +kernel
theorem dX3_inversions_2 : decode cX3_inversions 2 = .ok (.iconst 0, 1) := by decide +kernel
theorem dX3_inversions_3 : decode cX3_inversions 3 = .ok (.istore_n 2, 1) := by decide +kernel
theorem dX3_inversions_4 : decode cX3_inversions 4 = .ok (.iload_n 2, 1) := by decide +kernel
theorem dX3_inversions_5 : decode cX3_inversions 5 = .ok (.aload_n 0, 1) := by decide +kernel
theorem dX3_inversions_6 : decode cX3_inversions 6 = .ok (.getfield 15, 3) := by decide +kernel
theorem dX3_inversions_9 : decode cX3_inversions 9 = .ok (.if_icmp .ge 49, 3) := by decide +kernel
theorem dX3_inversions_12 : decode cX3_inversions 12 = .ok (.iconst 0, 1) := by decide +kernel
theorem dX3_inversions_13 : decode cX3_inversions 13 = .ok (.istore_n 3, 1) := by decide +kernel
theorem dX3_inversions_14 : decode cX3_inversions 14 = .ok (.iload_n 3, 1) := by decide +kernel
theorem dX3_inversions_15 : decode cX3_inversions 15 = .ok (.aload_n 0, 1) := by decide +kernel
theorem dX3_inversions_16 : decode cX3_inversions 16 = .ok (.getfield 15, 3) := by decide +kernel
theorem dX3_inversions_19 : decode cX3_inversions 19 = .ok (.if_icmp .ge 33, 3) := by decide +kernel
theorem dX3_inversions_22 : decode cX3_inversions 22 = .ok (.iload_n 3, 1) := by decide +kernel
theorem dX3_inversions_23 : decode cX3_inversions 23 = .ok (.aload_n 0, 1) := by decide +kernel
theorem dX3_inversions_24 : decode cX3_inversions 24 = .ok (.iload_n 2, 1) := by decide +kernel
theorem dX3_inversions_25 : decode cX3_inversions 25 = .ok (.iconst 1, 1) := by decide +kernel
theorem dX3_inversions_26 : decode cX3_inversions 26 = .ok (.iadd, 1) := by decide +kernel
theorem dX3_inversions_27 : decode cX3_inversions 27 = .ok (.iload_n 3, 1) := by decide +kernel
theorem dX3_inversions_28 : decode cX3_inversions 28 = .ok (.invokevirtual 25, 3) := by decide +kernel
theorem dX3_inversions_31 : decode cX3_inversions 31 = .ok (.isub, 1) := by decide +kernel
theorem dX3_inversions_32 : decode cX3_inversions 32 = .ok (.istore 4, 2) := by decide +kernel
theorem dX3_inversions_34 : decode cX3_inversions 34 = .ok (.iload_n 1, 1) := by decide +kernel
theorem dX3_inversions_35 : decode cX3_inversions 35 = .ok (.aload_n 0, 1) := by decide +kernel
theorem dX3_inversions_36 : decode cX3_inversions 36 = .ok (.iload_n 2, 1) := by decide +kernel
theorem dX3_inversions_37 : decode cX3_inversions 37 = .ok (.iload_n 3, 1) := by decide +kernel
theorem dX3_inversions_38 : decode cX3_inversions 38 = .ok (.invokevirtual 32, 3) := by decide +kernel
theorem dX3_inversions_41 : decode cX3_inversions 41 = .ok (.iload 4, 2) := by decide +kernel
theorem dX3_inversions_43 : decode cX3_inversions 43 = .ok (.imul, 1) := by decide +kernel
theorem dX3_inversions_44 : decode cX3_inversions 44 = .ok (.iadd, 1) := by decide +kernel
theorem dX3_inversions_45 : decode cX3_inversions 45 = .ok (.istore_n 1, 1) := by decide +kernel
theorem dX3_inversions_46 : decode cX3_inversions 46 = .ok (.iinc 3 1, 3) := by decide +kernel
theorem dX3_inversions_49 : decode cX3_inversions 49 = .ok (.goto (-35), 3) := by decide +kernel
theorem dX3_inversions_52 : decode cX3_inversions 52 = .ok (.iinc 2 1, 3) := by decide +kernel
theorem dX3_inversions_55 : decode cX3_inversions 55 = .ok (.goto (-51), 3) := by decide +kernel
theorem dX3_inversions_58 : decode cX3_inversions 58 = .ok (.iload_n 1, 1) := by decide +kernel
theorem dX3_inversions_59 : decode cX3_inversions 59 = .ok (.ireturn, 1) := by decide +kernel
set_option maxRecDepth 20000 in
theorem ggX3_heightsTogether_X3_heightAt : GoodIn wsX3_heightsTogether wsX3_heightAt := goodIn_r _ [6, 7, 8, 9, 5, 10, 11, 12, 13] (by decide +kernel) (by decide +kernel)
set_option maxRecDepth 20000 in
theorem gX3_heightsTogether_X3_heightAt : GoodIn wsX3_heightsTogether (wsV RX3 35 RX3 yX3_heightAt wsX3_heightAt) := goodIn_app (goodIn_of _ (by decide +kernel)) ggX3_heightsTogether_X3_heightAt
theorem dX3_heightsTogether_0 : decode cX3_heightsTogether 0 = .ok (.iconst 0, 1) := by decide +kernel
theorem dX3_heightsTogether_1 : decode cX3_heightsTogether 1 = .ok (.istore_n 1, 1) := by decide +kernel
theorem dX3_heightsTogether_2 : decode cX3_heightsTogether 2 = .ok (.iconst 0, 1) := by decide +kernel
theorem dX3_heightsTogether_3 : decode cX3_heightsTogether 3 = .ok (.istore_n 2, 1) := by decide +kernel
theorem dX3_heightsTogether_4 : decode cX3_heightsTogether 4 = .ok (.iload_n 2, 1) := by decide +kernel
theorem dX3_heightsTogether_5 : decode cX3_heightsTogether 5 = .ok (.aload_n 0, 1) := by decide +kernel
theorem dX3_heightsTogether_6 : decode cX3_heightsTogether 6 = .ok (.getfield 15, 3) := by decide +kernel
theorem dX3_heightsTogether_9 : decode cX3_heightsTogether 9 = .ok (.if_icmp .gt 34, 3) := by decide +kernel
theorem dX3_heightsTogether_12 : decode cX3_heightsTogether 12 = .ok (.iconst 0, 1) := by decide +kernel
theorem dX3_heightsTogether_13 : decode cX3_heightsTogether 13 = .ok (.istore_n 3, 1) := by decide +kernel
theorem dX3_heightsTogether_14 : decode cX3_heightsTogether 14 = .ok (.iload_n 3, 1) := by decide +kernel
theorem dX3_heightsTogether_15 : decode cX3_heightsTogether 15 = .ok (.aload_n 0, 1) := by decide +kernel
theorem dX3_heightsTogether_16 : decode cX3_heightsTogether 16 = .ok (.getfield 15, 3) := by decide +kernel
theorem dX3_heightsTogether_19 : decode cX3_heightsTogether 19 = .ok (.if_icmp .gt 18, 3) := by decide +kernel
theorem dX3_heightsTogether_22 : decode cX3_heightsTogether 22 = .ok (.iload_n 1, 1) := by decide +kernel
theorem dX3_heightsTogether_23 : decode cX3_heightsTogether 23 = .ok (.aload_n 0, 1) := by decide +kernel
theorem dX3_heightsTogether_24 : decode cX3_heightsTogether 24 = .ok (.iload_n 2, 1) := by decide +kernel
theorem dX3_heightsTogether_25 : decode cX3_heightsTogether 25 = .ok (.iload_n 3, 1) := by decide +kernel
theorem dX3_heightsTogether_26 : decode cX3_heightsTogether 26 = .ok (.invokevirtual 35, 3) := by decide +kernel
theorem dX3_heightsTogether_29 : decode cX3_heightsTogether 29 = .ok (.iadd, 1) := by decide +kernel
theorem dX3_heightsTogether_30 : decode cX3_heightsTogether 30 = .ok (.istore_n 1, 1) := by decide +kernel
theorem dX3_heightsTogether_31 : decode cX3_heightsTogether 31 = .ok (.iinc 3 1, 3) := by decide +kernel
theorem dX3_heightsTogether_34 : decode cX3_heightsTogether 34 = .ok (.goto (-20), 3) := by decide +kernel
theorem dX3_heightsTogether_37 : decode cX3_heightsTogether 37 = .ok (.iinc 2 1, 3) := by decide +kernel
theorem dX3_heightsTogether_40 : decode cX3_heightsTogether 40 = .ok (.goto (-36), 3) := by decide +kernel
theorem dX3_heightsTogether_43 : decode cX3_heightsTogether 43 = .ok (.iload_n 1, 1) := by decide +kernel
theorem dX3_heightsTogether_44 : decode cX3_heightsTogether 44 = .ok (.ireturn, 1) := by decide +kernel
set_option maxRecDepth 20000 in
theorem ggX3_flipKind_X3_heightAt : GoodIn wsX3_flipKind wsX3_heightAt := goodIn_r _ [5, 6, 7, 8, 4, 9, 10, 11, 12] (by decide +kernel) (by decide +kernel)
set_option maxRecDepth 20000 in
theorem gX3_flipKind_X3_heightAt : GoodIn wsX3_flipKind (wsV RX3 35 RX3 yX3_heightAt wsX3_heightAt) := goodIn_app (goodIn_of _ (by decide +kernel)) ggX3_flipKind_X3_heightAt
theorem dX3_flipKind_0 : decode cX3_flipKind 0 = .ok (.aload_n 0, 1) := by decide +kernel
theorem dX3_flipKind_1 : decode cX3_flipKind 1 = .ok (.iload_n 1, 1) := by decide +kernel
theorem dX3_flipKind_2 : decode cX3_flipKind 2 = .ok (.iconst 1, 1) := by decide +kernel
theorem dX3_flipKind_3 : decode cX3_flipKind 3 = .ok (.isub, 1) := by decide +kernel
theorem dX3_flipKind_4 : decode cX3_flipKind 4 = .ok (.iload_n 2, 1) := by decide +kernel
theorem dX3_flipKind_5 : decode cX3_flipKind 5 = .ok (.invokevirtual 35, 3) := by decide +kernel
theorem dX3_flipKind_8 : decode cX3_flipKind 8 = .ok (.istore_n 3, 1) := by decide +kernel
theorem dX3_flipKind_9 : decode cX3_flipKind 9 = .ok (.aload_n 0, 1) := by decide +kernel
theorem dX3_flipKind_10 : decode cX3_flipKind 10 = .ok (.iload_n 1, 1) := by decide +kernel
theorem dX3_flipKind_11 : decode cX3_flipKind 11 = .ok (.iconst 1, 1) := by decide +kernel
theorem dX3_flipKind_12 : decode cX3_flipKind 12 = .ok (.iadd, 1) := by decide +kernel
theorem dX3_flipKind_13 : decode cX3_flipKind 13 = .ok (.iload_n 2, 1) := by decide +kernel
theorem dX3_flipKind_14 : decode cX3_flipKind 14 = .ok (.invokevirtual 35, 3) := by decide +kernel
theorem dX3_flipKind_17 : decode cX3_flipKind 17 = .ok (.iload_n 3, 1) := by decide +kernel
theorem dX3_flipKind_18 : decode cX3_flipKind 18 = .ok (.if_icmp .ne 27, 3) := by decide +kernel
theorem dX3_flipKind_21 : decode cX3_flipKind 21 = .ok (.aload_n 0, 1) := by decide +kernel
theorem dX3_flipKind_22 : decode cX3_flipKind 22 = .ok (.iload_n 1, 1) := by decide +kernel
theorem dX3_flipKind_23 : decode cX3_flipKind 23 = .ok (.iload_n 2, 1) := by decide +kernel
theorem dX3_flipKind_24 : decode cX3_flipKind 24 = .ok (.iconst 1, 1) := by decide +kernel
theorem dX3_flipKind_25 : decode cX3_flipKind 25 = .ok (.isub, 1) := by decide +kernel
theorem dX3_flipKind_26 : decode cX3_flipKind 26 = .ok (.invokevirtual 35, 3) := by decide +kernel
theorem dX3_flipKind_29 : decode cX3_flipKind 29 = .ok (.iload_n 3, 1) := by decide +kernel
theorem dX3_flipKind_30 : decode cX3_flipKind 30 = .ok (.if_icmp .ne 15, 3) := by decide +kernel
theorem dX3_flipKind_33 : decode cX3_flipKind 33 = .ok (.aload_n 0, 1) := by decide +kernel
theorem dX3_flipKind_34 : decode cX3_flipKind 34 = .ok (.iload_n 1, 1) := by decide +kernel
theorem dX3_flipKind_35 : decode cX3_flipKind 35 = .ok (.iload_n 2, 1) := by decide +kernel
theorem dX3_flipKind_36 : decode cX3_flipKind 36 = .ok (.iconst 1, 1) := by decide +kernel
theorem dX3_flipKind_37 : decode cX3_flipKind 37 = .ok (.iadd, 1) := by decide +kernel
theorem dX3_flipKind_38 : decode cX3_flipKind 38 = .ok (.invokevirtual 35, 3) := by decide +kernel
theorem dX3_flipKind_41 : decode cX3_flipKind 41 = .ok (.iload_n 3, 1) := by decide +kernel
theorem dX3_flipKind_42 : decode cX3_flipKind 42 = .ok (.if_icmp .eq 5, 3) := by decide +kernel
theorem dX3_flipKind_45 : decode cX3_flipKind 45 = .ok (.iconst 0, 1) := by decide +kernel
theorem dX3_flipKind_46 : decode cX3_flipKind 46 = .ok (.ireturn, 1) := by decide +kernel
theorem dX3_flipKind_47 : decode cX3_flipKind 47 = .ok (.aload_n 0, 1) := by decide +kernel
theorem dX3_flipKind_48 : decode cX3_flipKind 48 = .ok (.iload_n 1, 1) := by decide +kernel
theorem dX3_flipKind_49 : decode cX3_flipKind 49 = .ok (.iload_n 2, 1) := by decide +kernel
theorem dX3_flipKind_50 : decode cX3_flipKind 50 = .ok (.invokevirtual 35, 3) := by decide +kernel
theorem dX3_flipKind_53 : decode cX3_flipKind 53 = .ok (.iload_n 3, 1) := by decide +kernel
theorem dX3_flipKind_54 : decode cX3_flipKind 54 = .ok (.if_icmp .ge 7, 3) := by decide +kernel
theorem dX3_flipKind_57 : decode cX3_flipKind 57 = .ok (.iconst 1, 1) := by decide +kernel
theorem dX3_flipKind_58 : decode cX3_flipKind 58 = .ok (.goto 4, 3) := by decide +kernel
theorem dX3_flipKind_61 : decode cX3_flipKind 61 = .ok (.iconst 2, 1) := by decide +kernel
theorem dX3_flipKind_62 : decode cX3_flipKind 62 = .ok (.ireturn, 1) := by decide +kernel
set_option maxRecDepth 20000 in
theorem ggX3_flippable_X3_flipKind : GoodIn wsX3_flippable wsX3_flipKind := goodIn_r _ [6, 7, 8, 9, 5, 10, 11, 12, 13, 14, 15, 16, 17] (by decide +kernel) (by decide +kernel)
set_option maxRecDepth 20000 in
theorem gX3_flippable_X3_flipKind : GoodIn wsX3_flippable (wsV RX3 38 RX3 yX3_flipKind wsX3_flipKind) := goodIn_app (goodIn_of _ (by decide +kernel)) ggX3_flippable_X3_flipKind
theorem dX3_flippable_0 : decode cX3_flippable 0 = .ok (.iconst 0, 1) := by decide +kernel
theorem dX3_flippable_1 : decode cX3_flippable 1 = .ok (.istore_n 1, 1) := by decide +kernel
theorem dX3_flippable_2 : decode cX3_flippable 2 = .ok (.iconst 1, 1) := by decide +kernel
theorem dX3_flippable_3 : decode cX3_flippable 3 = .ok (.istore_n 2, 1) := by decide +kernel
theorem dX3_flippable_4 : decode cX3_flippable 4 = .ok (.iload_n 2, 1) := by decide +kernel
theorem dX3_flippable_5 : decode cX3_flippable 5 = .ok (.aload_n 0, 1) := by decide +kernel
theorem dX3_flippable_6 : decode cX3_flippable 6 = .ok (.getfield 15, 3) := by decide +kernel
theorem dX3_flippable_9 : decode cX3_flippable 9 = .ok (.if_icmp .ge 37, 3) := by decide +kernel
theorem dX3_flippable_12 : decode cX3_flippable 12 = .ok (.iconst 1, 1) := by decide +kernel
theorem dX3_flippable_13 : decode cX3_flippable 13 = .ok (.istore_n 3, 1) := by decide +kernel
theorem dX3_flippable_14 : decode cX3_flippable 14 = .ok (.iload_n 3, 1) := by decide +kernel
theorem dX3_flippable_15 : decode cX3_flippable 15 = .ok (.aload_n 0, 1) := by decide +kernel
theorem dX3_flippable_16 : decode cX3_flippable 16 = .ok (.getfield 15, 3) := by decide +kernel
theorem dX3_flippable_19 : decode cX3_flippable 19 = .ok (.if_icmp .ge 21, 3) := by decide +kernel
theorem dX3_flippable_22 : decode cX3_flippable 22 = .ok (.aload_n 0, 1) := by decide +kernel
theorem dX3_flippable_23 : decode cX3_flippable 23 = .ok (.iload_n 2, 1) := by decide +kernel
theorem dX3_flippable_24 : decode cX3_flippable 24 = .ok (.iload_n 3, 1) := by decide +kernel
theorem dX3_flippable_25 : decode cX3_flippable 25 = .ok (.invokevirtual 38, 3) := by decide +kernel
theorem dX3_flippable_28 : decode cX3_flippable 28 = .ok (.ifCond .eq 6, 3) := by decide +kernel
theorem dX3_flippable_31 : decode cX3_flippable 31 = .ok (.iinc 1 1, 3) := by decide +kernel
theorem dX3_flippable_34 : decode cX3_flippable 34 = .ok (.iinc 3 1, 3) := by decide +kernel
theorem dX3_flippable_37 : decode cX3_flippable 37 = .ok (.goto (-23), 3) := by decide +kernel
theorem dX3_flippable_40 : decode cX3_flippable 40 = .ok (.iinc 2 1, 3) := by decide +kernel
theorem dX3_flippable_43 : decode cX3_flippable 43 = .ok (.goto (-39), 3) := by decide +kernel
theorem dX3_flippable_46 : decode cX3_flippable 46 = .ok (.iload_n 1, 1) := by decide +kernel
theorem dX3_flippable_47 : decode cX3_flippable 47 = .ok (.ireturn, 1) := by decide +kernel
set_option maxRecDepth 20000 in
theorem ggX3_flipAt_X3_flipKind : GoodIn wsX3_flipAt wsX3_flipKind := goodIn_r _ [5, 6, 7, 8, 4, 9, 10, 11, 12, 13, 14, 19, 20] (by decide +kernel) (by decide +kernel)
set_option maxRecDepth 20000 in
theorem gX3_flipAt_X3_flipKind : GoodIn wsX3_flipAt (wsV RX3 38 RX3 yX3_flipKind wsX3_flipKind) := goodIn_app (goodIn_of _ (by decide +kernel)) ggX3_flipAt_X3_flipKind
set_option maxRecDepth 20000 in
theorem ggX3_flipAt_X3_cornerAt : GoodIn wsX3_flipAt wsX3_cornerAt := goodIn_r _ [13, 14, 19, 20] (by decide +kernel) (by decide +kernel)
set_option maxRecDepth 20000 in
theorem gX3_flipAt_X3_cornerAt : GoodIn wsX3_flipAt (wsV RX3 25 RX3 yX3_cornerAt wsX3_cornerAt) := goodIn_app (goodIn_of _ (by decide +kernel)) ggX3_flipAt_X3_cornerAt
set_option maxRecDepth 20000 in
theorem ggX3_flipAt_X3_putCorner : GoodIn wsX3_flipAt wsX3_putCorner := goodIn_r _ [18, 14, 19, 20] (by decide +kernel) (by decide +kernel)
set_option maxRecDepth 20000 in
theorem gX3_flipAt_X3_putCorner : GoodIn wsX3_flipAt (wsV RX3 41 RX3 yX3_putCorner wsX3_putCorner) := goodIn_app (goodIn_of _ (by decide +kernel)) ggX3_flipAt_X3_putCorner
theorem dX3_flipAt_0 : decode cX3_flipAt 0 = .ok (.aload_n 0, 1) := by decide +kernel
theorem dX3_flipAt_1 : decode cX3_flipAt 1 = .ok (.iload_n 1, 1) := by decide +kernel
theorem dX3_flipAt_2 : decode cX3_flipAt 2 = .ok (.iload_n 2, 1) := by decide +kernel
theorem dX3_flipAt_3 : decode cX3_flipAt 3 = .ok (.invokevirtual 38, 3) := by decide +kernel
theorem dX3_flipAt_6 : decode cX3_flipAt 6 = .ok (.iconst 1, 1) := by decide +kernel
theorem dX3_flipAt_7 : decode cX3_flipAt 7 = .ok (.if_icmp .ne 7, 3) := by decide +kernel
theorem dX3_flipAt_10 : decode cX3_flipAt 10 = .ok (.iconst (-1), 1) := by decide +kernel
theorem dX3_flipAt_11 : decode cX3_flipAt 11 = .ok (.goto 4, 3) := by decide +kernel
theorem dX3_flipAt_14 : decode cX3_flipAt 14 = .ok (.iconst 1, 1) := by decide +kernel
theorem dX3_flipAt_15 : decode cX3_flipAt 15 = .ok (.istore_n 3, 1) := by decide +kernel
theorem dX3_flipAt_16 : decode cX3_flipAt 16 = .ok (.aload_n 0, 1) := by decide +kernel
theorem dX3_flipAt_17 : decode cX3_flipAt 17 = .ok (.iload_n 1, 1) := by decide +kernel
theorem dX3_flipAt_18 : decode cX3_flipAt 18 = .ok (.iload_n 2, 1) := by decide +kernel
theorem dX3_flipAt_19 : decode cX3_flipAt 19 = .ok (.aload_n 0, 1) := by decide +kernel
theorem dX3_flipAt_20 : decode cX3_flipAt 20 = .ok (.iload_n 1, 1) := by decide +kernel
theorem dX3_flipAt_21 : decode cX3_flipAt 21 = .ok (.iload_n 2, 1) := by decide +kernel
theorem dX3_flipAt_22 : decode cX3_flipAt 22 = .ok (.invokevirtual 25, 3) := by decide +kernel
theorem dX3_flipAt_25 : decode cX3_flipAt 25 = .ok (.iload_n 3, 1) := by decide +kernel
theorem dX3_flipAt_26 : decode cX3_flipAt 26 = .ok (.iadd, 1) := by decide +kernel
theorem dX3_flipAt_27 : decode cX3_flipAt 27 = .ok (.invokevirtual 41, 3) := by decide +kernel
theorem dX3_flipAt_30 : decode cX3_flipAt 30 = .ok (.return_, 1) := by decide +kernel
set_option maxRecDepth 20000 in
theorem ggX3_gyrateOnce_X3_flipAll : GoodIn wsX3_gyrateOnce wsX3_flipAll := goodIn_r _ [5, 6, 7, 8, 9, 4, 10, 11, 12, 13, 14, 15, 16, 17, 18, 19, 20, 21, 22, 23, 24, 25, 26, 27, 28, 29] (by decide +kernel) (by decide +kernel)
set_option maxRecDepth 20000 in
theorem gX3_gyrateOnce_X3_flipAll : GoodIn wsX3_gyrateOnce (wsV RX3 45 RX3 yX3_flipAll wsX3_flipAll) := goodIn_app (goodIn_of _ (by decide +kernel)) ggX3_gyrateOnce_X3_flipAll
theorem dX3_gyrateOnce_0 : decode cX3_gyrateOnce 0 = .ok (.aload_n 0, 1) := by decide +kernel
theorem dX3_gyrateOnce_1 : decode cX3_gyrateOnce 1 = .ok (.iconst 0, 1) := by decide +kernel
theorem dX3_gyrateOnce_2 : decode cX3_gyrateOnce 2 = .ok (.invokevirtual 45, 3) := by decide +kernel
theorem dX3_gyrateOnce_5 : decode cX3_gyrateOnce 5 = .ok (.aload_n 0, 1) := by decide +kernel
theorem dX3_gyrateOnce_6 : decode cX3_gyrateOnce 6 = .ok (.iconst 1, 1) := by decide +kernel
theorem dX3_gyrateOnce_7 : decode cX3_gyrateOnce 7 = .ok (.invokevirtual 45, 3) := by decide +kernel
theorem dX3_gyrateOnce_10 : decode cX3_gyrateOnce 10 = .ok (.iadd, 1) := by decide +kernel
theorem dX3_gyrateOnce_11 : decode cX3_gyrateOnce 11 = .ok (.ireturn, 1) := by decide +kernel
set_option maxRecDepth 20000 in
theorem ggX3_flipAll_X3_flipKind : GoodIn wsX3_flipAll wsX3_flipKind := goodIn_r _ [6, 7, 8, 9, 5, 10, 11, 12, 13, 14, 15, 24, 25] (by decide +kernel) (by decide +kernel)
set_option maxRecDepth 20000 in
theorem gX3_flipAll_X3_flipKind : GoodIn wsX3_flipAll (wsV RX3 38 RX3 yX3_flipKind wsX3_flipKind) := goodIn_app (goodIn_of _ (by decide +kernel)) ggX3_flipAll_X3_flipKind
set_option maxRecDepth 20000 in
theorem ggX3_flipAll_X3_flipAt : GoodIn wsX3_flipAll wsX3_flipAt := goodIn_r _ [19, 2, 3, 4, 5, 6, 7, 8, 9, 10, 11, 12, 13, 14, 15, 20, 21, 22, 23, 24, 25] (by decide +kernel) (by decide +kernel)
set_option maxRecDepth 20000 in
theorem gX3_flipAll_X3_flipAt : GoodIn wsX3_flipAll (wsV RX3 49 RX3 yX3_flipAt wsX3_flipAt) := goodIn_app (goodIn_of _ (by decide +kernel)) ggX3_flipAll_X3_flipAt
theorem dX3_flipAll_0 : decode cX3_flipAll 0 = .ok (.iconst 0, 1) := by decide +kernel
theorem dX3_flipAll_1 : decode cX3_flipAll 1 = .ok (.istore_n 2, 1) := by decide +kernel
theorem dX3_flipAll_2 : decode cX3_flipAll 2 = .ok (.iconst 1, 1) := by decide +kernel
theorem dX3_flipAll_3 : decode cX3_flipAll 3 = .ok (.istore_n 3, 1) := by decide +kernel
theorem dX3_flipAll_4 : decode cX3_flipAll 4 = .ok (.iload_n 3, 1) := by decide +kernel
theorem dX3_flipAll_5 : decode cX3_flipAll 5 = .ok (.aload_n 0, 1) := by decide +kernel
theorem dX3_flipAll_6 : decode cX3_flipAll 6 = .ok (.getfield 15, 3) := by decide +kernel
theorem dX3_flipAll_9 : decode cX3_flipAll 9 = .ok (.if_icmp .ge 57, 3) := by decide +kernel
theorem dX3_flipAll_12 : decode cX3_flipAll 12 = .ok (.iconst 1, 1) := by decide +kernel
theorem dX3_flipAll_13 : decode cX3_flipAll 13 = .ok (.istore 4, 2) := by decide +kernel
theorem dX3_flipAll_15 : decode cX3_flipAll 15 = .ok (.iload 4, 2) := by decide +kernel
theorem dX3_flipAll_17 : decode cX3_flipAll 17 = .ok (.aload_n 0, 1) := by decide +kernel
theorem dX3_flipAll_18 : decode cX3_flipAll 18 = .ok (.getfield 15, 3) := by decide +kernel
theorem dX3_flipAll_21 : decode cX3_flipAll 21 = .ok (.if_icmp .ge 39, 3) := by decide +kernel
theorem dX3_flipAll_24 : decode cX3_flipAll 24 = .ok (.iload_n 3, 1) := by decide +kernel
theorem dX3_flipAll_25 : decode cX3_flipAll 25 = .ok (.iload 4, 2) := by decide +kernel
theorem dX3_flipAll_27 : decode cX3_flipAll 27 = .ok (.iadd, 1) := by decide +kernel
theorem dX3_flipAll_28 : decode cX3_flipAll 28 = .ok (.iconst 2, 1) := by decide +kernel
theorem dX3_flipAll_29 : decode cX3_flipAll 29 = .ok (.irem, 1) := by decide +kernel
theorem dX3_flipAll_30 : decode cX3_flipAll 30 = .ok (.iload_n 1, 1) := by decide +kernel
theorem dX3_flipAll_31 : decode cX3_flipAll 31 = .ok (.if_icmp .ne 23, 3) := by decide +kernel
theorem dX3_flipAll_34 : decode cX3_flipAll 34 = .ok (.aload_n 0, 1) := by decide +kernel
theorem dX3_flipAll_35 : decode cX3_flipAll 35 = .ok (.iload_n 3, 1) := by decide +kernel
theorem dX3_flipAll_36 : decode cX3_flipAll 36 = .ok (.iload 4, 2) := by decide +kernel
theorem dX3_flipAll_38 : decode cX3_flipAll 38 = .ok (.invokevirtual 38, 3) := by decide +kernel
theorem dX3_flipAll_41 : decode cX3_flipAll 41 = .ok (.ifCond .eq 13, 3) := by decide +kernel
theorem dX3_flipAll_44 : decode cX3_flipAll 44 = .ok (.aload_n 0, 1) := by decide +kernel
theorem dX3_flipAll_45 : decode cX3_flipAll 45 = .ok (.iload_n 3, 1) := by decide +kernel
theorem dX3_flipAll_46 : decode cX3_flipAll 46 = .ok (.iload 4, 2) := by decide +kernel
theorem dX3_flipAll_48 : decode cX3_flipAll 48 = .ok (.invokevirtual 49, 3) := by decide +kernel
theorem dX3_flipAll_51 : decode cX3_flipAll 51 = .ok (.iinc 2 1, 3) := by decide +kernel
theorem dX3_flipAll_54 : decode cX3_flipAll 54 = .ok (.iinc 4 1, 3) := by decide +kernel
theorem dX3_flipAll_57 : decode cX3_flipAll 57 = .ok (.goto (-42), 3) := by decide +kernel
theorem dX3_flipAll_60 : decode cX3_flipAll 60 = .ok (.iinc 3 1, 3) := by decide +kernel
theorem dX3_flipAll_63 : decode cX3_flipAll 63 = .ok (.goto (-59), 3) := by decide +kernel
theorem dX3_flipAll_66 : decode cX3_flipAll 66 = .ok (.iload_n 2, 1) := by decide +kernel
theorem dX3_flipAll_67 : decode cX3_flipAll 67 = .ok (.ireturn, 1) := by decide +kernel
set_option maxRecDepth 20000 in
theorem ggX3_distance_X3_cornerAt : GoodIn wsX3_distance wsX3_cornerAt := goodIn_r _ [10, 11, 12, 13] (by decide +kernel) (by decide +kernel)
set_option maxRecDepth 20000 in
theorem gX3_distance_X3_cornerAt : GoodIn wsX3_distance (wsV RX3 25 RX3 yX3_cornerAt wsX3_cornerAt) := goodIn_app (goodIn_of _ (by decide +kernel)) ggX3_distance_X3_cornerAt
theorem dX3_distance_0 : decode cX3_distance 0 = .ok (.iconst 0, 1) := by decide +kernel
theorem dX3_distance_1 : decode cX3_distance 1 = .ok (.istore_n 2, 1) := by decide +kernel
theorem dX3_distance_2 : decode cX3_distance 2 = .ok (.iconst 1, 1) := by decide +kernel
theorem dX3_distance_3 : decode cX3_distance 3 = .ok (.istore_n 3, 1) := by decide +kernel
theorem dX3_distance_4 : decode cX3_distance 4 = .ok (.iload_n 3, 1) := by decide +kernel
theorem dX3_distance_5 : decode cX3_distance 5 = .ok (.aload_n 0, 1) := by decide +kernel
theorem dX3_distance_6 : decode cX3_distance 6 = .ok (.getfield 15, 3) := by decide +kernel
theorem dX3_distance_9 : decode cX3_distance 9 = .ok (.if_icmp .ge 48, 3) := by decide +kernel
theorem dX3_distance_12 : decode cX3_distance 12 = .ok (.iconst 1, 1) := by decide +kernel
theorem dX3_distance_13 : decode cX3_distance 13 = .ok (.istore 4, 2) := by decide +kernel
theorem dX3_distance_15 : decode cX3_distance 15 = .ok (.iload 4, 2) := by decide +kernel
theorem dX3_distance_17 : decode cX3_distance 17 = .ok (.aload_n 0, 1) := by decide +kernel
theorem dX3_distance_18 : decode cX3_distance 18 = .ok (.getfield 15, 3) := by decide +kernel
theorem dX3_distance_21 : decode cX3_distance 21 = .ok (.if_icmp .ge 30, 3) := by decide +kernel
theorem dX3_distance_24 : decode cX3_distance 24 = .ok (.iload_n 2, 1) := by decide +kernel
theorem dX3_distance_25 : decode cX3_distance 25 = .ok (.aload_n 0, 1) := by decide +kernel
theorem dX3_distance_26 : decode cX3_distance 26 = .ok (.iload_n 3, 1) := by decide +kernel
theorem dX3_distance_27 : decode cX3_distance 27 = .ok (.iload 4, 2) := by decide +kernel
theorem dX3_distance_29 : decode cX3_distance 29 = .ok (.invokevirtual 25, 3) := by decide +kernel
theorem dX3_distance_32 : decode cX3_distance 32 = .ok (.aload_n 1, 1) := by decide +kernel
theorem dX3_distance_33 : decode cX3_distance 33 = .ok (.iload_n 3, 1) := by decide +kernel
theorem dX3_distance_34 : decode cX3_distance 34 = .ok (.iload 4, 2) := by decide +kernel
theorem dX3_distance_36 : decode cX3_distance 36 = .ok (.invokevirtual 25, 3) := by decide +kernel
theorem dX3_distance_39 : decode cX3_distance 39 = .ok (.isub, 1) := by decide +kernel
theorem dX3_distance_40 : decode cX3_distance 40 = .ok (.invokestatic 53, 3) := by decide +kernel
theorem dX3_distance_43 : decode cX3_distance 43 = .ok (.iadd, 1) := by decide +kernel
theorem dX3_distance_44 : decode cX3_distance 44 = .ok (.istore_n 2, 1) := by decide +kernel
theorem dX3_distance_45 : decode cX3_distance 45 = .ok (.iinc 4 1, 3) := by decide +kernel
theorem dX3_distance_48 : decode cX3_distance 48 = .ok (.goto (-33), 3) := by decide +kernel
theorem dX3_distance_51 : decode cX3_distance 51 = .ok (.iinc 3 1, 3) := by decide +kernel
theorem dX3_distance_54 : decode cX3_distance 54 = .ok (.goto (-50), 3) := by decide +kernel
theorem dX3_distance_57 : decode cX3_distance 57 = .ok (.iload_n 2, 1) := by decide +kernel
theorem dX3_distance_58 : decode cX3_distance 58 = .ok (.ireturn, 1) := by decide +kernel
set_option maxRecDepth 20000 in
theorem ggX3_wayTo_X3_heightAt : GoodIn wsX3_wayTo wsX3_heightAt := goodIn_r _ [5, 6, 7, 8, 4, 9, 10, 11, 12] (by decide +kernel) (by decide +kernel)
set_option maxRecDepth 20000 in
theorem gX3_wayTo_X3_heightAt : GoodIn wsX3_wayTo (wsV RX3 35 RX3 yX3_heightAt wsX3_heightAt) := goodIn_app (goodIn_of _ (by decide +kernel)) ggX3_wayTo_X3_heightAt
theorem dX3_wayTo_0 : decode cX3_wayTo 0 = .ok (.aload_n 1, 1) := by decide +kernel
theorem dX3_wayTo_1 : decode cX3_wayTo 1 = .ok (.iload_n 2, 1) := by decide +kernel
theorem dX3_wayTo_2 : decode cX3_wayTo 2 = .ok (.iload_n 3, 1) := by decide +kernel
theorem dX3_wayTo_3 : decode cX3_wayTo 3 = .ok (.invokevirtual 35, 3) := by decide +kernel
theorem dX3_wayTo_6 : decode cX3_wayTo 6 = .ok (.aload_n 0, 1) := by decide +kernel
theorem dX3_wayTo_7 : decode cX3_wayTo 7 = .ok (.iload_n 2, 1) := by decide +kernel
theorem dX3_wayTo_8 : decode cX3_wayTo 8 = .ok (.iload_n 3, 1) := by decide +kernel
theorem dX3_wayTo_9 : decode cX3_wayTo 9 = .ok (.invokevirtual 35, 3) := by decide +kernel
theorem dX3_wayTo_12 : decode cX3_wayTo 12 = .ok (.isub, 1) := by decide +kernel
theorem dX3_wayTo_13 : decode cX3_wayTo 13 = .ok (.istore 4, 2) := by decide +kernel
theorem dX3_wayTo_15 : decode cX3_wayTo 15 = .ok (.iload 4, 2) := by decide +kernel
theorem dX3_wayTo_17 : decode cX3_wayTo 17 = .ok (.ifCond .le 7, 3) := by decide +kernel
theorem dX3_wayTo_20 : decode cX3_wayTo 20 = .ok (.iconst 1, 1) := by decide +kernel
theorem dX3_wayTo_21 : decode cX3_wayTo 21 = .ok (.goto 13, 3) := by decide +kernel
theorem dX3_wayTo_24 : decode cX3_wayTo 24 = .ok (.iload 4, 2) := by decide +kernel
theorem dX3_wayTo_26 : decode cX3_wayTo 26 = .ok (.ifCond .ge 7, 3) := by decide +kernel
theorem dX3_wayTo_29 : decode cX3_wayTo 29 = .ok (.iconst 2, 1) := by decide +kernel
theorem dX3_wayTo_30 : decode cX3_wayTo 30 = .ok (.goto 4, 3) := by decide +kernel
theorem dX3_wayTo_33 : decode cX3_wayTo 33 = .ok (.iconst 0, 1) := by decide +kernel
theorem dX3_wayTo_34 : decode cX3_wayTo 34 = .ok (.ireturn, 1) := by decide +kernel
set_option maxRecDepth 20000 in
theorem ggX3_comesNearer_X3_flipKind : GoodIn wsX3_comesNearer wsX3_flipKind := goodIn_r _ [5, 6, 7, 8, 4, 9, 10, 11, 12, 13, 14, 19, 20] (by decide +kernel) (by decide +kernel)
set_option maxRecDepth 20000 in
theorem gX3_comesNearer_X3_flipKind : GoodIn wsX3_comesNearer (wsV RX3 38 RX3 yX3_flipKind wsX3_flipKind) := goodIn_app (goodIn_of _ (by decide +kernel)) ggX3_comesNearer_X3_flipKind
set_option maxRecDepth 20000 in
theorem ggX3_comesNearer_X3_wayTo : GoodIn wsX3_comesNearer wsX3_wayTo := goodIn_r _ [18, 6, 7, 8, 4, 9, 10, 11, 12, 13, 14, 19, 20] (by decide +kernel) (by decide +kernel)
set_option maxRecDepth 20000 in
theorem gX3_comesNearer_X3_wayTo : GoodIn wsX3_comesNearer (wsV RX3 58 RX3 yX3_wayTo wsX3_wayTo) := goodIn_app (goodIn_of _ (by decide +kernel)) ggX3_comesNearer_X3_wayTo
theorem dX3_comesNearer_0 : decode cX3_comesNearer 0 = .ok (.aload_n 0, 1) := by decide +kernel
theorem dX3_comesNearer_1 : decode cX3_comesNearer 1 = .ok (.iload_n 1, 1) := by decide +kernel
theorem dX3_comesNearer_2 : decode cX3_comesNearer 2 = .ok (.iload_n 2, 1) := by decide +kernel
theorem dX3_comesNearer_3 : decode cX3_comesNearer 3 = .ok (.invokevirtual 38, 3) := by decide +kernel
theorem dX3_comesNearer_6 : decode cX3_comesNearer 6 = .ok (.istore 4, 2) := by decide +kernel
theorem dX3_comesNearer_8 : decode cX3_comesNearer 8 = .ok (.iload 4, 2) := by decide +kernel
theorem dX3_comesNearer_10 : decode cX3_comesNearer 10 = .ok (.ifCond .eq 19, 3) := by decide +kernel
theorem dX3_comesNearer_13 : decode cX3_comesNearer 13 = .ok (.iload 4, 2) := by decide +kernel
theorem dX3_comesNearer_15 : decode cX3_comesNearer 15 = .ok (.aload_n 0, 1) := by decide +kernel
theorem dX3_comesNearer_16 : decode cX3_comesNearer 16 = .ok (.aload_n 3, 1) := by decide +kernel
theorem dX3_comesNearer_17 : decode cX3_comesNearer 17 = .ok (.iload_n 1, 1) := by decide +kernel
theorem dX3_comesNearer_18 : decode cX3_comesNearer 18 = .ok (.iload_n 2, 1) := by decide +kernel
theorem dX3_comesNearer_19 : decode cX3_comesNearer 19 = .ok (.invokevirtual 58, 3) := by decide +kernel
theorem dX3_comesNearer_22 : decode cX3_comesNearer 22 = .ok (.if_icmp .ne 7, 3) := by decide +kernel
theorem dX3_comesNearer_25 : decode cX3_comesNearer 25 = .ok (.iconst 1, 1) := by decide +kernel
theorem dX3_comesNearer_26 : decode cX3_comesNearer 26 = .ok (.goto 4, 3) := by decide +kernel
theorem dX3_comesNearer_29 : decode cX3_comesNearer 29 = .ok (.iconst 0, 1) := by decide +kernel
theorem dX3_comesNearer_30 : decode cX3_comesNearer 30 = .ok (.ireturn, 1) := by decide +kernel
set_option maxRecDepth 20000 in
theorem ggX3_takeHeights_X3_wayTo : GoodIn wsX3_takeHeights wsX3_wayTo := goodIn_r _ [6, 7, 8, 9, 5, 10, 11, 12, 13, 14, 15, 20, 21] (by decide +kernel) (by decide +kernel)
set_option maxRecDepth 20000 in
theorem gX3_takeHeights_X3_wayTo : GoodIn wsX3_takeHeights (wsV RX3 58 RX3 yX3_wayTo wsX3_wayTo) := goodIn_app (goodIn_of _ (by decide +kernel)) ggX3_takeHeights_X3_wayTo
set_option maxRecDepth 20000 in
theorem ggX3_takeHeights_X3_cornerAt : GoodIn wsX3_takeHeights wsX3_cornerAt := goodIn_r _ [14, 15, 20, 21] (by decide +kernel) (by decide +kernel)
set_option maxRecDepth 20000 in
theorem gX3_takeHeights_X3_cornerAt : GoodIn wsX3_takeHeights (wsV RX3 25 RX3 yX3_cornerAt wsX3_cornerAt) := goodIn_app (goodIn_of _ (by decide +kernel)) ggX3_takeHeights_X3_cornerAt
set_option maxRecDepth 20000 in
theorem ggX3_takeHeights_X3_putCorner : GoodIn wsX3_takeHeights wsX3_putCorner := goodIn_r _ [19, 15, 20, 21] (by decide +kernel) (by decide +kernel)
set_option maxRecDepth 20000 in
theorem gX3_takeHeights_X3_putCorner : GoodIn wsX3_takeHeights (wsV RX3 41 RX3 yX3_putCorner wsX3_putCorner) := goodIn_app (goodIn_of _ (by decide +kernel)) ggX3_takeHeights_X3_putCorner
theorem dX3_takeHeights_0 : decode cX3_takeHeights 0 = .ok (.iconst 0, 1) := by decide +kernel
theorem dX3_takeHeights_1 : decode cX3_takeHeights 1 = .ok (.istore_n 3, 1) := by decide +kernel
theorem dX3_takeHeights_2 : decode cX3_takeHeights 2 = .ok (.iconst 1, 1) := by decide +kernel
theorem dX3_takeHeights_3 : decode cX3_takeHeights 3 = .ok (.istore 4, 2) := by decide +kernel
theorem dX3_takeHeights_5 : decode cX3_takeHeights 5 = .ok (.iload 4, 2) := by decide +kernel
theorem dX3_takeHeights_7 : decode cX3_takeHeights 7 = .ok (.aload_n 0, 1) := by decide +kernel
theorem dX3_takeHeights_8 : decode cX3_takeHeights 8 = .ok (.getfield 15, 3) := by decide +kernel
theorem dX3_takeHeights_11 : decode cX3_takeHeights 11 = .ok (.if_icmp .ge 59, 3) := by decide +kernel
theorem dX3_takeHeights_14 : decode cX3_takeHeights 14 = .ok (.iconst 1, 1) := by decide +kernel
theorem dX3_takeHeights_15 : decode cX3_takeHeights 15 = .ok (.istore 5, 2) := by decide +kernel
theorem dX3_takeHeights_17 : decode cX3_takeHeights 17 = .ok (.iload 5, 2) := by decide +kernel
theorem dX3_takeHeights_19 : decode cX3_takeHeights 19 = .ok (.aload_n 0, 1) := by decide +kernel
theorem dX3_takeHeights_20 : decode cX3_takeHeights 20 = .ok (.getfield 15, 3) := by decide +kernel
theorem dX3_takeHeights_23 : decode cX3_takeHeights 23 = .ok (.if_icmp .ge 41, 3) := by decide +kernel
theorem dX3_takeHeights_26 : decode cX3_takeHeights 26 = .ok (.aload_n 0, 1) := by decide +kernel
theorem dX3_takeHeights_27 : decode cX3_takeHeights 27 = .ok (.aload_n 2, 1) := by decide +kernel
theorem dX3_takeHeights_28 : decode cX3_takeHeights 28 = .ok (.iload 4, 2) := by decide +kernel
theorem dX3_takeHeights_30 : decode cX3_takeHeights 30 = .ok (.iload 5, 2) := by decide +kernel
theorem dX3_takeHeights_32 : decode cX3_takeHeights 32 = .ok (.invokevirtual 58, 3) := by decide +kernel
theorem dX3_takeHeights_35 : decode cX3_takeHeights 35 = .ok (.iload_n 1, 1) := by decide +kernel
theorem dX3_takeHeights_36 : decode cX3_takeHeights 36 = .ok (.if_icmp .ne 22, 3) := by decide +kernel
theorem dX3_takeHeights_39 : decode cX3_takeHeights 39 = .ok (.aload_n 0, 1) := by decide +kernel
theorem dX3_takeHeights_40 : decode cX3_takeHeights 40 = .ok (.iload 4, 2) := by decide +kernel
theorem dX3_takeHeights_42 : decode cX3_takeHeights 42 = .ok (.iload 5, 2) := by decide +kernel
theorem dX3_takeHeights_44 : decode cX3_takeHeights 44 = .ok (.aload_n 2, 1) := by decide +kernel
theorem dX3_takeHeights_45 : decode cX3_takeHeights 45 = .ok (.iload 4, 2) := by decide +kernel
theorem dX3_takeHeights_47 : decode cX3_takeHeights 47 = .ok (.iload 5, 2) := by decide +kernel
theorem dX3_takeHeights_49 : decode cX3_takeHeights 49 = .ok (.invokevirtual 25, 3) := by decide +kernel
theorem dX3_takeHeights_52 : decode cX3_takeHeights 52 = .ok (.invokevirtual 41, 3) := by decide +kernel
theorem dX3_takeHeights_55 : decode cX3_takeHeights 55 = .ok (.iinc 3 1, 3) := by decide +kernel
theorem dX3_takeHeights_58 : decode cX3_takeHeights 58 = .ok (.iinc 5 1, 3) := by decide +kernel
theorem dX3_takeHeights_61 : decode cX3_takeHeights 61 = .ok (.goto (-44), 3) := by decide +kernel
theorem dX3_takeHeights_64 : decode cX3_takeHeights 64 = .ok (.iinc 4 1, 3) := by decide +kernel
theorem dX3_takeHeights_67 : decode cX3_takeHeights 67 = .ok (.goto (-62), 3) := by decide +kernel
theorem dX3_takeHeights_70 : decode cX3_takeHeights 70 = .ok (.iload_n 3, 1) := by decide +kernel
theorem dX3_takeHeights_71 : decode cX3_takeHeights 71 = .ok (.ireturn, 1) := by decide +kernel
set_option maxRecDepth 20000 in
theorem ggX3_putTurned_X3_turnedSign : GoodIn wsX3_putTurned wsX3_turnedSign := goodIn_r _ [6, 1, 7, 8, 9, 5, 10, 11, 12, 13, 14, 15, 16, 17, 18, 19, 24, 25] (by decide +kernel) (by decide +kernel)
set_option maxRecDepth 20000 in
theorem gX3_putTurned_X3_turnedSign : GoodIn wsX3_putTurned (wsV RX3 62 RX3 yX3_turnedSign wsX3_turnedSign) := goodIn_app (goodIn_of _ (by decide +kernel)) ggX3_putTurned_X3_turnedSign
set_option maxRecDepth 20000 in
theorem ggX3_putTurned_X3_cornerAt : GoodIn wsX3_putTurned wsX3_cornerAt := goodIn_r _ [18, 19, 24, 25] (by decide +kernel) (by decide +kernel)
set_option maxRecDepth 20000 in
theorem gX3_putTurned_X3_cornerAt : GoodIn wsX3_putTurned (wsV RX3 25 RX3 yX3_cornerAt wsX3_cornerAt) := goodIn_app (goodIn_of _ (by decide +kernel)) ggX3_putTurned_X3_cornerAt
set_option maxRecDepth 20000 in
theorem ggX3_putTurned_X3_putCorner : GoodIn wsX3_putTurned wsX3_putCorner := goodIn_r _ [23, 19, 24, 25] (by decide +kernel) (by decide +kernel)
set_option maxRecDepth 20000 in
theorem gX3_putTurned_X3_putCorner : GoodIn wsX3_putTurned (wsV RX3 41 RX3 yX3_putCorner wsX3_putCorner) := goodIn_app (goodIn_of _ (by decide +kernel)) ggX3_putTurned_X3_putCorner
theorem dX3_putTurned_0 : decode cX3_putTurned 0 = .ok (.iconst 0, 1) := by decide +kernel
theorem dX3_putTurned_1 : decode cX3_putTurned 1 = .ok (.istore_n 3, 1) := by decide +kernel
theorem dX3_putTurned_2 : decode cX3_putTurned 2 = .ok (.iload_n 3, 1) := by decide +kernel
theorem dX3_putTurned_3 : decode cX3_putTurned 3 = .ok (.aload_n 0, 1) := by decide +kernel
theorem dX3_putTurned_4 : decode cX3_putTurned 4 = .ok (.getfield 15, 3) := by decide +kernel
theorem dX3_putTurned_7 : decode cX3_putTurned 7 = .ok (.if_icmp .ge 66, 3) := by decide +kernel
theorem dX3_putTurned_10 : decode cX3_putTurned 10 = .ok (.iconst 0, 1) := by decide +kernel
theorem dX3_putTurned_11 : decode cX3_putTurned 11 = .ok (.istore 4, 2) := by decide +kernel
theorem dX3_putTurned_13 : decode cX3_putTurned 13 = .ok (.iconst 0, 1) := by decide +kernel
theorem dX3_putTurned_14 : decode cX3_putTurned 14 = .ok (.istore 5, 2) := by decide +kernel
theorem dX3_putTurned_16 : decode cX3_putTurned 16 = .ok (.iload 5, 2) := by decide +kernel
theorem dX3_putTurned_18 : decode cX3_putTurned 18 = .ok (.aload_n 0, 1) := by decide +kernel
theorem dX3_putTurned_19 : decode cX3_putTurned 19 = .ok (.getfield 15, 3) := by decide +kernel
theorem dX3_putTurned_22 : decode cX3_putTurned 22 = .ok (.if_icmp .ge 45, 3) := by decide +kernel
theorem dX3_putTurned_25 : decode cX3_putTurned 25 = .ok (.iload 4, 2) := by decide +kernel
theorem dX3_putTurned_27 : decode cX3_putTurned 27 = .ok (.aload_n 2, 1) := by decide +kernel
theorem dX3_putTurned_28 : decode cX3_putTurned 28 = .ok (.iload_n 1, 1) := by decide +kernel
theorem dX3_putTurned_29 : decode cX3_putTurned 29 = .ok (.iload_n 3, 1) := by decide +kernel
theorem dX3_putTurned_30 : decode cX3_putTurned 30 = .ok (.iload 5, 2) := by decide +kernel
theorem dX3_putTurned_32 : decode cX3_putTurned 32 = .ok (.invokevirtual 62, 3) := by decide +kernel
theorem dX3_putTurned_35 : decode cX3_putTurned 35 = .ok (.iadd, 1) := by decide +kernel
theorem dX3_putTurned_36 : decode cX3_putTurned 36 = .ok (.istore 4, 2) := by decide +kernel
theorem dX3_putTurned_38 : decode cX3_putTurned 38 = .ok (.aload_n 0, 1) := by decide +kernel
theorem dX3_putTurned_39 : decode cX3_putTurned 39 = .ok (.iload_n 3, 1) := by decide +kernel
theorem dX3_putTurned_40 : decode cX3_putTurned 40 = .ok (.iconst 1, 1) := by decide +kernel
theorem dX3_putTurned_41 : decode cX3_putTurned 41 = .ok (.iadd, 1) := by decide +kernel
theorem dX3_putTurned_42 : decode cX3_putTurned 42 = .ok (.iload 5, 2) := by decide +kernel
theorem dX3_putTurned_44 : decode cX3_putTurned 44 = .ok (.iconst 1, 1) := by decide +kernel
theorem dX3_putTurned_45 : decode cX3_putTurned 45 = .ok (.iadd, 1) := by decide +kernel
theorem dX3_putTurned_46 : decode cX3_putTurned 46 = .ok (.aload_n 0, 1) := by decide +kernel
theorem dX3_putTurned_47 : decode cX3_putTurned 47 = .ok (.iload_n 3, 1) := by decide +kernel
theorem dX3_putTurned_48 : decode cX3_putTurned 48 = .ok (.iload 5, 2) := by decide +kernel
theorem dX3_putTurned_50 : decode cX3_putTurned 50 = .ok (.iconst 1, 1) := by decide +kernel
theorem dX3_putTurned_51 : decode cX3_putTurned 51 = .ok (.iadd, 1) := by decide +kernel
theorem dX3_putTurned_52 : decode cX3_putTurned 52 = .ok (.invokevirtual 25, 3) := by decide +kernel
theorem dX3_putTurned_55 : decode cX3_putTurned 55 = .ok (.iload 4, 2) := by decide +kernel
theorem dX3_putTurned_57 : decode cX3_putTurned 57 = .ok (.iadd, 1) := by decide +kernel
theorem dX3_putTurned_58 : decode cX3_putTurned 58 = .ok (.invokevirtual 41, 3) := by decide +kernel
theorem dX3_putTurned_61 : decode cX3_putTurned 61 = .ok (.iinc 5 1, 3) := by decide +kernel
theorem dX3_putTurned_64 : decode cX3_putTurned 64 = .ok (.goto (-48), 3) := by decide +kernel
theorem dX3_putTurned_67 : decode cX3_putTurned 67 = .ok (.iinc 3 1, 3) := by decide +kernel
theorem dX3_putTurned_70 : decode cX3_putTurned 70 = .ok (.goto (-68), 3) := by decide +kernel
theorem dX3_putTurned_73 : decode cX3_putTurned 73 = .ok (.return_, 1) := by decide +kernel
set_option maxRecDepth 20000 in
theorem ggX3_turnedSign_X3_signAt : GoodIn wsX3_turnedSign wsX3_signAt := goodIn_r _ [6, 7, 8, 9, 5, 10, 11, 12, 13, 14, 15, 16, 17] (by decide +kernel) (by decide +kernel)
set_option maxRecDepth 20000 in
theorem gX3_turnedSign_X3_signAt : GoodIn wsX3_turnedSign (wsV RX3 32 RX3 yX3_signAt wsX3_signAt) := goodIn_app (goodIn_of _ (by decide +kernel)) ggX3_turnedSign_X3_signAt
theorem dX3_turnedSign_0 : decode cX3_turnedSign 0 = .ok (.aload_n 0, 1) := by decide +kernel
theorem dX3_turnedSign_1 : decode cX3_turnedSign 1 = .ok (.getfield 15, 3) := by decide +kernel
theorem dX3_turnedSign_4 : decode cX3_turnedSign 4 = .ok (.iconst 1, 1) := by decide +kernel
theorem dX3_turnedSign_5 : decode cX3_turnedSign 5 = .ok (.isub, 1) := by decide +kernel
theorem dX3_turnedSign_6 : decode cX3_turnedSign 6 = .ok (.istore 4, 2) := by decide +kernel
theorem dX3_turnedSign_8 : decode cX3_turnedSign 8 = .ok (.iload_n 1, 1) := by decide +kernel
theorem dX3_turnedSign_9 : decode cX3_turnedSign 9 = .ok (.tableswitch 88 1 5 #[35, 45, 58, 68, 78], 35) := by decide +kernel
theorem dX3_turnedSign_44 : decode cX3_turnedSign 44 = .ok (.aload_n 0, 1) := by decide +kernel
theorem dX3_turnedSign_45 : decode cX3_turnedSign 45 = .ok (.iload 4, 2) := by decide +kernel
theorem dX3_turnedSign_47 : decode cX3_turnedSign 47 = .ok (.iload_n 3, 1) := by decide +kernel
theorem dX3_turnedSign_48 : decode cX3_turnedSign 48 = .ok (.isub, 1) := by decide +kernel
theorem dX3_turnedSign_49 : decode cX3_turnedSign 49 = .ok (.iload_n 2, 1) := by decide +kernel
theorem dX3_turnedSign_50 : decode cX3_turnedSign 50 = .ok (.invokevirtual 32, 3) := by decide +kernel
theorem dX3_turnedSign_53 : decode cX3_turnedSign 53 = .ok (.ireturn, 1) := by decide +kernel
theorem dX3_turnedSign_54 : decode cX3_turnedSign 54 = .ok (.aload_n 0, 1) := by decide +kernel
theorem dX3_turnedSign_55 : decode cX3_turnedSign 55 = .ok (.iload 4, 2) := by decide +kernel
theorem dX3_turnedSign_57 : decode cX3_turnedSign 57 = .ok (.iload_n 2, 1) := by decide +kernel
theorem dX3_turnedSign_58 : decode cX3_turnedSign 58 = .ok (.isub, 1) := by decide +kernel
theorem dX3_turnedSign_59 : decode cX3_turnedSign 59 = .ok (.iload 4, 2) := by decide +kernel
theorem dX3_turnedSign_61 : decode cX3_turnedSign 61 = .ok (.iload_n 3, 1) := by decide +kernel
theorem dX3_turnedSign_62 : decode cX3_turnedSign 62 = .ok (.isub, 1) := by decide +kernel
theorem dX3_turnedSign_63 : decode cX3_turnedSign 63 = .ok (.invokevirtual 32, 3) := by decide +kernel
theorem dX3_turnedSign_66 : decode cX3_turnedSign 66 = .ok (.ireturn, 1) := by decide +kernel
theorem dX3_turnedSign_67 : decode cX3_turnedSign 67 = .ok (.aload_n 0, 1) := by decide +kernel
theorem dX3_turnedSign_68 : decode cX3_turnedSign 68 = .ok (.iload_n 3, 1) := by decide +kernel
theorem dX3_turnedSign_69 : decode cX3_turnedSign 69 = .ok (.iload 4, 2) := by decide +kernel
theorem dX3_turnedSign_71 : decode cX3_turnedSign 71 = .ok (.iload_n 2, 1) := by decide +kernel
theorem dX3_turnedSign_72 : decode cX3_turnedSign 72 = .ok (.isub, 1) := by decide +kernel
theorem dX3_turnedSign_73 : decode cX3_turnedSign 73 = .ok (.invokevirtual 32, 3) := by decide +kernel
theorem dX3_turnedSign_76 : decode cX3_turnedSign 76 = .ok (.ireturn, 1) := by decide +kernel
theorem dX3_turnedSign_77 : decode cX3_turnedSign 77 = .ok (.aload_n 0, 1) := by decide +kernel
theorem dX3_turnedSign_78 : decode cX3_turnedSign 78 = .ok (.iload_n 2, 1) := by decide +kernel
theorem dX3_turnedSign_79 : decode cX3_turnedSign 79 = .ok (.iload 4, 2) := by decide +kernel
theorem dX3_turnedSign_81 : decode cX3_turnedSign 81 = .ok (.iload_n 3, 1) := by decide +kernel
theorem dX3_turnedSign_82 : decode cX3_turnedSign 82 = .ok (.isub, 1) := by decide +kernel
theorem dX3_turnedSign_83 : decode cX3_turnedSign 83 = .ok (.invokevirtual 32, 3) := by decide +kernel
theorem dX3_turnedSign_86 : decode cX3_turnedSign 86 = .ok (.ireturn, 1) := by decide +kernel
theorem dX3_turnedSign_87 : decode cX3_turnedSign 87 = .ok (.aload_n 0, 1) := by decide +kernel
theorem dX3_turnedSign_88 : decode cX3_turnedSign 88 = .ok (.iload 4, 2) := by decide +kernel
theorem dX3_turnedSign_90 : decode cX3_turnedSign 90 = .ok (.iload_n 2, 1) := by decide +kernel
theorem dX3_turnedSign_91 : decode cX3_turnedSign 91 = .ok (.isub, 1) := by decide +kernel
theorem dX3_turnedSign_92 : decode cX3_turnedSign 92 = .ok (.iload_n 3, 1) := by decide +kernel
theorem dX3_turnedSign_93 : decode cX3_turnedSign 93 = .ok (.invokevirtual 32, 3) := by decide +kernel
theorem dX3_turnedSign_96 : decode cX3_turnedSign 96 = .ok (.ireturn, 1) := by decide +kernel
theorem dX3_turnedSign_97 : decode cX3_turnedSign 97 = .ok (.aload_n 0, 1) := by decide +kernel
theorem dX3_turnedSign_98 : decode cX3_turnedSign 98 = .ok (.iload_n 3, 1) := by decide +kernel
theorem dX3_turnedSign_99 : decode cX3_turnedSign 99 = .ok (.iload_n 2, 1) := by decide +kernel
theorem dX3_turnedSign_100 : decode cX3_turnedSign 100 = .ok (.invokevirtual 32, 3) := by decide +kernel
theorem dX3_turnedSign_103 : decode cX3_turnedSign 103 = .ok (.ireturn, 1) := by decide +kernel
set_option maxRecDepth 20000 in
theorem ggX3_unlikeSigns_X3_signAt : GoodIn wsX3_unlikeSigns wsX3_signAt := goodIn_r _ [6, 7, 8, 9, 5, 10, 11, 12, 13, 14, 15, 16, 17] (by decide +kernel) (by decide +kernel)
set_option maxRecDepth 20000 in
theorem gX3_unlikeSigns_X3_signAt : GoodIn wsX3_unlikeSigns (wsV RX3 32 RX3 yX3_signAt wsX3_signAt) := goodIn_app (goodIn_of _ (by decide +kernel)) ggX3_unlikeSigns_X3_signAt
theorem dX3_unlikeSigns_0 : decode cX3_unlikeSigns 0 = .ok (.iconst 0, 1) := by decide +kernel
theorem dX3_unlikeSigns_1 : decode cX3_unlikeSigns 1 = .ok (.istore_n 2, 1) := by decide +kernel
theorem dX3_unlikeSigns_2 : decode cX3_unlikeSigns 2 = .ok (.iconst 0, 1) := by decide +kernel
theorem dX3_unlikeSigns_3 : decode cX3_unlikeSigns 3 = .ok (.istore_n 3, 1) := by decide +kernel
theorem dX3_unlikeSigns_4 : decode cX3_unlikeSigns 4 = .ok (.iload_n 3, 1) := by decide +kernel
theorem dX3_unlikeSigns_5 : decode cX3_unlikeSigns 5 = .ok (.aload_n 0, 1) := by decide +kernel
theorem dX3_unlikeSigns_6 : decode cX3_unlikeSigns 6 = .ok (.getfield 15, 3) := by decide +kernel
theorem dX3_unlikeSigns_9 : decode cX3_unlikeSigns 9 = .ok (.if_icmp .ge 47, 3) := by decide +kernel
theorem dX3_unlikeSigns_12 : decode cX3_unlikeSigns 12 = .ok (.iconst 0, 1) := by decide +kernel
theorem dX3_unlikeSigns_13 : decode cX3_unlikeSigns 13 = .ok (.istore 4, 2) := by decide +kernel
theorem dX3_unlikeSigns_15 : decode cX3_unlikeSigns 15 = .ok (.iload 4, 2) := by decide +kernel
theorem dX3_unlikeSigns_17 : decode cX3_unlikeSigns 17 = .ok (.aload_n 0, 1) := by decide +kernel
theorem dX3_unlikeSigns_18 : decode cX3_unlikeSigns 18 = .ok (.getfield 15, 3) := by decide +kernel
theorem dX3_unlikeSigns_21 : decode cX3_unlikeSigns 21 = .ok (.if_icmp .ge 29, 3) := by decide +kernel
theorem dX3_unlikeSigns_24 : decode cX3_unlikeSigns 24 = .ok (.aload_n 0, 1) := by decide +kernel
theorem dX3_unlikeSigns_25 : decode cX3_unlikeSigns 25 = .ok (.iload_n 3, 1) := by decide +kernel
theorem dX3_unlikeSigns_26 : decode cX3_unlikeSigns 26 = .ok (.iload 4, 2) := by decide +kernel
theorem dX3_unlikeSigns_28 : decode cX3_unlikeSigns 28 = .ok (.invokevirtual 32, 3) := by decide +kernel
theorem dX3_unlikeSigns_31 : decode cX3_unlikeSigns 31 = .ok (.aload_n 1, 1) := by decide +kernel
theorem dX3_unlikeSigns_32 : decode cX3_unlikeSigns 32 = .ok (.iload_n 3, 1) := by decide +kernel
theorem dX3_unlikeSigns_33 : decode cX3_unlikeSigns 33 = .ok (.iload 4, 2) := by decide +kernel
theorem dX3_unlikeSigns_35 : decode cX3_unlikeSigns 35 = .ok (.invokevirtual 32, 3) := by decide +kernel
theorem dX3_unlikeSigns_38 : decode cX3_unlikeSigns 38 = .ok (.if_icmp .eq 6, 3) := by decide +kernel
theorem dX3_unlikeSigns_41 : decode cX3_unlikeSigns 41 = .ok (.iinc 2 1, 3) := by decide +kernel
theorem dX3_unlikeSigns_44 : decode cX3_unlikeSigns 44 = .ok (.iinc 4 1, 3) := by decide +kernel
theorem dX3_unlikeSigns_47 : decode cX3_unlikeSigns 47 = .ok (.goto (-32), 3) := by decide +kernel
theorem dX3_unlikeSigns_50 : decode cX3_unlikeSigns 50 = .ok (.iinc 3 1, 3) := by decide +kernel
theorem dX3_unlikeSigns_53 : decode cX3_unlikeSigns 53 = .ok (.goto (-49), 3) := by decide +kernel
theorem dX3_unlikeSigns_56 : decode cX3_unlikeSigns 56 = .ok (.iload_n 2, 1) := by decide +kernel
theorem dX3_unlikeSigns_57 : decode cX3_unlikeSigns 57 = .ok (.ireturn, 1) := by decide +kernel
set_option maxRecDepth 20000 in
theorem ggX3_isDrawnAcross_X3_rowSum : GoodIn wsX3_isDrawnAcross wsX3_rowSum := goodIn_r _ [5, 6, 7, 8, 4, 9, 10, 11, 12] (by decide +kernel) (by decide +kernel)
set_option maxRecDepth 20000 in
theorem gX3_isDrawnAcross_X3_rowSum : GoodIn wsX3_isDrawnAcross (wsV RX3 29 RX3 yX3_rowSum wsX3_rowSum) := goodIn_app (goodIn_of _ (by decide +kernel)) ggX3_isDrawnAcross_X3_rowSum
theorem dX3_isDrawnAcross_0 : decode cX3_isDrawnAcross 0 = .ok (.aload_n 0, 1) := by decide +kernel
theorem dX3_isDrawnAcross_1 : decode cX3_isDrawnAcross 1 = .ok (.iload_n 1, 1) := by decide +kernel
theorem dX3_isDrawnAcross_2 : decode cX3_isDrawnAcross 2 = .ok (.iload_n 2, 1) := by decide +kernel
theorem dX3_isDrawnAcross_3 : decode cX3_isDrawnAcross 3 = .ok (.invokevirtual 29, 3) := by decide +kernel
theorem dX3_isDrawnAcross_6 : decode cX3_isDrawnAcross 6 = .ok (.iload_n 1, 1) := by decide +kernel
theorem dX3_isDrawnAcross_7 : decode cX3_isDrawnAcross 7 = .ok (.iadd, 1) := by decide +kernel
theorem dX3_isDrawnAcross_8 : decode cX3_isDrawnAcross 8 = .ok (.iload_n 2, 1) := by decide +kernel
theorem dX3_isDrawnAcross_9 : decode cX3_isDrawnAcross 9 = .ok (.iadd, 1) := by decide +kernel
theorem dX3_isDrawnAcross_10 : decode cX3_isDrawnAcross 10 = .ok (.iconst 2, 1) := by decide +kernel
theorem dX3_isDrawnAcross_11 : decode cX3_isDrawnAcross 11 = .ok (.irem, 1) := by decide +kernel
theorem dX3_isDrawnAcross_12 : decode cX3_isDrawnAcross 12 = .ok (.ifCond .ne 7, 3) := by decide +kernel
theorem dX3_isDrawnAcross_15 : decode cX3_isDrawnAcross 15 = .ok (.iconst 1, 1) := by decide +kernel
theorem dX3_isDrawnAcross_16 : decode cX3_isDrawnAcross 16 = .ok (.goto 4, 3) := by decide +kernel
theorem dX3_isDrawnAcross_19 : decode cX3_isDrawnAcross 19 = .ok (.iconst 0, 1) := by decide +kernel
theorem dX3_isDrawnAcross_20 : decode cX3_isDrawnAcross 20 = .ok (.ireturn, 1) := by decide +kernel
set_option maxRecDepth 20000 in
theorem ggX3_isDrawnDown_X3_columnSum : GoodIn wsX3_isDrawnDown wsX3_columnSum := goodIn_r _ [5, 6, 7, 8, 4, 9, 10, 11, 12] (by decide +kernel) (by decide +kernel)
set_option maxRecDepth 20000 in
theorem gX3_isDrawnDown_X3_columnSum : GoodIn wsX3_isDrawnDown (wsV RX3 66 RX3 yX3_columnSum wsX3_columnSum) := goodIn_app (goodIn_of _ (by decide +kernel)) ggX3_isDrawnDown_X3_columnSum
theorem dX3_isDrawnDown_0 : decode cX3_isDrawnDown 0 = .ok (.aload_n 0, 1) := by decide +kernel
theorem dX3_isDrawnDown_1 : decode cX3_isDrawnDown 1 = .ok (.iload_n 1, 1) := by decide +kernel
theorem dX3_isDrawnDown_2 : decode cX3_isDrawnDown 2 = .ok (.iload_n 2, 1) := by decide +kernel
theorem dX3_isDrawnDown_3 : decode cX3_isDrawnDown 3 = .ok (.invokevirtual 66, 3) := by decide +kernel
theorem dX3_isDrawnDown_6 : decode cX3_isDrawnDown 6 = .ok (.iload_n 1, 1) := by decide +kernel
theorem dX3_isDrawnDown_7 : decode cX3_isDrawnDown 7 = .ok (.iadd, 1) := by decide +kernel
theorem dX3_isDrawnDown_8 : decode cX3_isDrawnDown 8 = .ok (.iload_n 2, 1) := by decide +kernel
theorem dX3_isDrawnDown_9 : decode cX3_isDrawnDown 9 = .ok (.iadd, 1) := by decide +kernel
theorem dX3_isDrawnDown_10 : decode cX3_isDrawnDown 10 = .ok (.iconst 2, 1) := by decide +kernel
theorem dX3_isDrawnDown_11 : decode cX3_isDrawnDown 11 = .ok (.irem, 1) := by decide +kernel
theorem dX3_isDrawnDown_12 : decode cX3_isDrawnDown 12 = .ok (.ifCond .eq 7, 3) := by decide +kernel
theorem dX3_isDrawnDown_15 : decode cX3_isDrawnDown 15 = .ok (.iconst 1, 1) := by decide +kernel
theorem dX3_isDrawnDown_16 : decode cX3_isDrawnDown 16 = .ok (.goto 4, 3) := by decide +kernel
theorem dX3_isDrawnDown_19 : decode cX3_isDrawnDown 19 = .ok (.iconst 0, 1) := by decide +kernel
theorem dX3_isDrawnDown_20 : decode cX3_isDrawnDown 20 = .ok (.ireturn, 1) := by decide +kernel
set_option maxRecDepth 20000 in
theorem ggX3_drawnEdges_X3_isDrawnAcross : GoodIn wsX3_drawnEdges wsX3_isDrawnAcross := goodIn_r _ [6, 7, 8, 9, 5, 10, 11, 12, 13, 14, 15, 24, 25] (by decide +kernel) (by decide +kernel)
set_option maxRecDepth 20000 in
theorem gX3_drawnEdges_X3_isDrawnAcross : GoodIn wsX3_drawnEdges (wsV RX3 69 RX3 yX3_isDrawnAcross wsX3_isDrawnAcross) := goodIn_app (goodIn_of _ (by decide +kernel)) ggX3_drawnEdges_X3_isDrawnAcross
set_option maxRecDepth 20000 in
theorem ggX3_drawnEdges_X3_isDrawnDown : GoodIn wsX3_drawnEdges wsX3_isDrawnDown := goodIn_r _ [19, 20, 21, 22, 5, 23, 11, 12, 13, 14, 15, 24, 25] (by decide +kernel) (by decide +kernel)
set_option maxRecDepth 20000 in
theorem gX3_drawnEdges_X3_isDrawnDown : GoodIn wsX3_drawnEdges (wsV RX3 73 RX3 yX3_isDrawnDown wsX3_isDrawnDown) := goodIn_app (goodIn_of _ (by decide +kernel)) ggX3_drawnEdges_X3_isDrawnDown
theorem dX3_drawnEdges_0 : decode cX3_drawnEdges 0 = .ok (.iconst 0, 1) := by decide +kernel
theorem dX3_drawnEdges_1 : decode cX3_drawnEdges 1 = .ok (.istore_n 1, 1) := by decide +kernel
theorem dX3_drawnEdges_2 : decode cX3_drawnEdges 2 = .ok (.iconst 0, 1) := by decide +kernel
theorem dX3_drawnEdges_3 : decode cX3_drawnEdges 3 = .ok (.istore_n 2, 1) := by decide +kernel
theorem dX3_drawnEdges_4 : decode cX3_drawnEdges 4 = .ok (.iload_n 2, 1) := by decide +kernel
theorem dX3_drawnEdges_5 : decode cX3_drawnEdges 5 = .ok (.aload_n 0, 1) := by decide +kernel
theorem dX3_drawnEdges_6 : decode cX3_drawnEdges 6 = .ok (.getfield 15, 3) := by decide +kernel
theorem dX3_drawnEdges_9 : decode cX3_drawnEdges 9 = .ok (.if_icmp .gt 49, 3) := by decide +kernel
theorem dX3_drawnEdges_12 : decode cX3_drawnEdges 12 = .ok (.iconst 1, 1) := by decide +kernel
theorem dX3_drawnEdges_13 : decode cX3_drawnEdges 13 = .ok (.istore_n 3, 1) := by decide +kernel
theorem dX3_drawnEdges_14 : decode cX3_drawnEdges 14 = .ok (.iload_n 3, 1) := by decide +kernel
theorem dX3_drawnEdges_15 : decode cX3_drawnEdges 15 = .ok (.aload_n 0, 1) := by decide +kernel
theorem dX3_drawnEdges_16 : decode cX3_drawnEdges 16 = .ok (.getfield 15, 3) := by decide +kernel
theorem dX3_drawnEdges_19 : decode cX3_drawnEdges 19 = .ok (.if_icmp .gt 33, 3) := by decide +kernel
theorem dX3_drawnEdges_22 : decode cX3_drawnEdges 22 = .ok (.aload_n 0, 1) := by decide +kernel
theorem dX3_drawnEdges_23 : decode cX3_drawnEdges 23 = .ok (.iload_n 3, 1) := by decide +kernel
theorem dX3_drawnEdges_24 : decode cX3_drawnEdges 24 = .ok (.iload_n 2, 1) := by decide +kernel
theorem dX3_drawnEdges_25 : decode cX3_drawnEdges 25 = .ok (.invokevirtual 69, 3) := by decide +kernel
theorem dX3_drawnEdges_28 : decode cX3_drawnEdges 28 = .ok (.ifCond .eq 6, 3) := by decide +kernel
theorem dX3_drawnEdges_31 : decode cX3_drawnEdges 31 = .ok (.iinc 1 1, 3) := by decide +kernel
theorem dX3_drawnEdges_34 : decode cX3_drawnEdges 34 = .ok (.aload_n 0, 1) := by decide +kernel
theorem dX3_drawnEdges_35 : decode cX3_drawnEdges 35 = .ok (.iload_n 2, 1) := by decide +kernel
theorem dX3_drawnEdges_36 : decode cX3_drawnEdges 36 = .ok (.iload_n 3, 1) := by decide +kernel
theorem dX3_drawnEdges_37 : decode cX3_drawnEdges 37 = .ok (.invokevirtual 73, 3) := by decide +kernel
theorem dX3_drawnEdges_40 : decode cX3_drawnEdges 40 = .ok (.ifCond .eq 6, 3) := by decide +kernel
theorem dX3_drawnEdges_43 : decode cX3_drawnEdges 43 = .ok (.iinc 1 1, 3) := by decide +kernel
theorem dX3_drawnEdges_46 : decode cX3_drawnEdges 46 = .ok (.iinc 3 1, 3) := by decide +kernel
theorem dX3_drawnEdges_49 : decode cX3_drawnEdges 49 = .ok (.goto (-35), 3) := by decide +kernel
theorem dX3_drawnEdges_52 : decode cX3_drawnEdges 52 = .ok (.iinc 2 1, 3) := by decide +kernel
theorem dX3_drawnEdges_55 : decode cX3_drawnEdges 55 = .ok (.goto (-51), 3) := by decide +kernel
theorem dX3_drawnEdges_58 : decode cX3_drawnEdges 58 = .ok (.iload_n 1, 1) := by decide +kernel
theorem dX3_drawnEdges_59 : decode cX3_drawnEdges 59 = .ok (.ireturn, 1) := by decide +kernel
set_option maxRecDepth 20000 in
theorem ggX3_fullColumns_X3_columnSum : GoodIn wsX3_fullColumns wsX3_columnSum := goodIn_r _ [6, 7, 8, 9, 5, 10, 11, 12, 13] (by decide +kernel) (by decide +kernel)
set_option maxRecDepth 20000 in
theorem gX3_fullColumns_X3_columnSum : GoodIn wsX3_fullColumns (wsV RX3 66 RX3 yX3_columnSum wsX3_columnSum) := goodIn_app (goodIn_of _ (by decide +kernel)) ggX3_fullColumns_X3_columnSum
theorem dX3_fullColumns_0 : decode cX3_fullColumns 0 = .ok (.iconst 0, 1) := by decide +kernel
theorem dX3_fullColumns_1 : decode cX3_fullColumns 1 = .ok (.istore_n 2, 1) := by decide +kernel
theorem dX3_fullColumns_2 : decode cX3_fullColumns 2 = .ok (.iconst 1, 1) := by decide +kernel
theorem dX3_fullColumns_3 : decode cX3_fullColumns 3 = .ok (.istore_n 3, 1) := by decide +kernel
theorem dX3_fullColumns_4 : decode cX3_fullColumns 4 = .ok (.iload_n 3, 1) := by decide +kernel
theorem dX3_fullColumns_5 : decode cX3_fullColumns 5 = .ok (.aload_n 0, 1) := by decide +kernel
theorem dX3_fullColumns_6 : decode cX3_fullColumns 6 = .ok (.getfield 15, 3) := by decide +kernel
theorem dX3_fullColumns_9 : decode cX3_fullColumns 9 = .ok (.if_icmp .gt 20, 3) := by decide +kernel
theorem dX3_fullColumns_12 : decode cX3_fullColumns 12 = .ok (.iconst 2, 1) := by decide +kernel
theorem dX3_fullColumns_13 : decode cX3_fullColumns 13 = .ok (.iload_n 2, 1) := by decide +kernel
theorem dX3_fullColumns_14 : decode cX3_fullColumns 14 = .ok (.imul, 1) := by decide +kernel
theorem dX3_fullColumns_15 : decode cX3_fullColumns 15 = .ok (.aload_n 0, 1) := by decide +kernel
theorem dX3_fullColumns_16 : decode cX3_fullColumns 16 = .ok (.iload_n 1, 1) := by decide +kernel
theorem dX3_fullColumns_17 : decode cX3_fullColumns 17 = .ok (.iload_n 3, 1) := by decide +kernel
theorem dX3_fullColumns_18 : decode cX3_fullColumns 18 = .ok (.invokevirtual 66, 3) := by decide +kernel
theorem dX3_fullColumns_21 : decode cX3_fullColumns 21 = .ok (.iadd, 1) := by decide +kernel
theorem dX3_fullColumns_22 : decode cX3_fullColumns 22 = .ok (.istore_n 2, 1) := by decide +kernel
theorem dX3_fullColumns_23 : decode cX3_fullColumns 23 = .ok (.iinc 3 1, 3) := by decide +kernel
theorem dX3_fullColumns_26 : decode cX3_fullColumns 26 = .ok (.goto (-22), 3) := by decide +kernel
theorem dX3_fullColumns_29 : decode cX3_fullColumns 29 = .ok (.iload_n 2, 1) := by decide +kernel
theorem dX3_fullColumns_30 : decode cX3_fullColumns 30 = .ok (.ireturn, 1) := by decide +kernel
set_option maxRecDepth 20000 in
theorem ggX3_putFullColumns_X3_cornerAt : GoodIn wsX3_putFullColumns wsX3_cornerAt := goodIn_r _ [6, 7, 12, 13] (by decide +kernel) (by decide +kernel)
set_option maxRecDepth 20000 in
theorem gX3_putFullColumns_X3_cornerAt : GoodIn wsX3_putFullColumns (wsV RX3 25 RX3 yX3_cornerAt wsX3_cornerAt) := goodIn_app (goodIn_of _ (by decide +kernel)) ggX3_putFullColumns_X3_cornerAt
set_option maxRecDepth 20000 in
theorem ggX3_putFullColumns_X3_putCorner : GoodIn wsX3_putFullColumns wsX3_putCorner := goodIn_r _ [11, 7, 12, 13] (by decide +kernel) (by decide +kernel)
set_option maxRecDepth 20000 in
theorem gX3_putFullColumns_X3_putCorner : GoodIn wsX3_putFullColumns (wsV RX3 41 RX3 yX3_putCorner wsX3_putCorner) := goodIn_app (goodIn_of _ (by decide +kernel)) ggX3_putFullColumns_X3_putCorner
theorem dX3_putFullColumns_0 : decode cX3_putFullColumns 0 = .ok (.iconst 1, 1) := by decide +kernel
theorem dX3_putFullColumns_1 : decode cX3_putFullColumns 1 = .ok (.istore_n 3, 1) := by decide +kernel
theorem dX3_putFullColumns_2 : decode cX3_putFullColumns 2 = .ok (.iload_n 3, 1) := by decide +kernel
theorem dX3_putFullColumns_3 : decode cX3_putFullColumns 3 = .ok (.aload_n 0, 1) := by decide +kernel
theorem dX3_putFullColumns_4 : decode cX3_putFullColumns 4 = .ok (.getfield 15, 3) := by decide +kernel
theorem dX3_putFullColumns_7 : decode cX3_putFullColumns 7 = .ok (.if_icmp .gt 38, 3) := by decide +kernel
theorem dX3_putFullColumns_10 : decode cX3_putFullColumns 10 = .ok (.iload_n 2, 1) := by decide +kernel
theorem dX3_putFullColumns_11 : decode cX3_putFullColumns 11 = .ok (.aload_n 0, 1) := by decide +kernel
theorem dX3_putFullColumns_12 : decode cX3_putFullColumns 12 = .ok (.getfield 15, 3) := by decide +kernel
theorem dX3_putFullColumns_15 : decode cX3_putFullColumns 15 = .ok (.iload_n 3, 1) := by decide +kernel
theorem dX3_putFullColumns_16 : decode cX3_putFullColumns 16 = .ok (.isub, 1) := by decide +kernel
theorem dX3_putFullColumns_17 : decode cX3_putFullColumns 17 = .ok (.ishr, 1) := by decide +kernel
theorem dX3_putFullColumns_18 : decode cX3_putFullColumns 18 = .ok (.iconst 1, 1) := by decide +kernel
theorem dX3_putFullColumns_19 : decode cX3_putFullColumns 19 = .ok (.iand, 1) := by decide +kernel
theorem dX3_putFullColumns_20 : decode cX3_putFullColumns 20 = .ok (.istore 4, 2) := by decide +kernel
theorem dX3_putFullColumns_22 : decode cX3_putFullColumns 22 = .ok (.aload_n 0, 1) := by decide +kernel
theorem dX3_putFullColumns_23 : decode cX3_putFullColumns 23 = .ok (.iload_n 1, 1) := by decide +kernel
theorem dX3_putFullColumns_24 : decode cX3_putFullColumns 24 = .ok (.iload_n 3, 1) := by decide +kernel
theorem dX3_putFullColumns_25 : decode cX3_putFullColumns 25 = .ok (.aload_n 0, 1) := by decide +kernel
theorem dX3_putFullColumns_26 : decode cX3_putFullColumns 26 = .ok (.iload_n 1, 1) := by decide +kernel
theorem dX3_putFullColumns_27 : decode cX3_putFullColumns 27 = .ok (.iload_n 3, 1) := by decide +kernel
theorem dX3_putFullColumns_28 : decode cX3_putFullColumns 28 = .ok (.iconst 1, 1) := by decide +kernel
theorem dX3_putFullColumns_29 : decode cX3_putFullColumns 29 = .ok (.isub, 1) := by decide +kernel
theorem dX3_putFullColumns_30 : decode cX3_putFullColumns 30 = .ok (.invokevirtual 25, 3) := by decide +kernel
theorem dX3_putFullColumns_33 : decode cX3_putFullColumns 33 = .ok (.iload 4, 2) := by decide +kernel
theorem dX3_putFullColumns_35 : decode cX3_putFullColumns 35 = .ok (.iadd, 1) := by decide +kernel
theorem dX3_putFullColumns_36 : decode cX3_putFullColumns 36 = .ok (.invokevirtual 41, 3) := by decide +kernel
theorem dX3_putFullColumns_39 : decode cX3_putFullColumns 39 = .ok (.iinc 3 1, 3) := by decide +kernel
theorem dX3_putFullColumns_42 : decode cX3_putFullColumns 42 = .ok (.goto (-40), 3) := by decide +kernel
theorem dX3_putFullColumns_45 : decode cX3_putFullColumns 45 = .ok (.return_, 1) := by decide +kernel
