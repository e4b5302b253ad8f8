set_option maxRecDepth 20000 in
theorem ggX5_init_X1_init : GoodIn wsX5_init wsX1_init := goodIn_r _ [28, 29, 2, 3, 30, 31, 32, 33, 34, 35, 36, 37, 38, 39, 40, 41, 42, 43, 44, 45, 46, 47, 48, 49, 6, 50, 51, 52, 53, 54, 55, 56, 57, 58, 59, 60, 61, 95, 96, 97, 98, 99, 100, 101, 102, 103, 104, 105, 106, 107, 108, 109] (by decide +kernel) (by decide +kernel)
set_option maxRecDepth 20000 in
theorem gX5_init_X1_init : GoodIn wsX5_init (wsX1_init) := ggX5_init_X1_init
set_option maxRecDepth 20000 in
theorem ggX5_init_X4_init : GoodIn wsX5_init wsX4_init := goodIn_r _ [63, 64, 2, 3, 30, 65, 66, 67, 68, 69, 70, 71, 72, 117, 118, 119, 120, 121, 122, 123, 124, 125] (by decide +kernel) (by decide +kernel)
set_option maxRecDepth 20000 in
theorem gX5_init_X4_init_n18 : GoodIn wsX5_init (wsX4_init) := ggX5_init_X4_init
set_option maxRecDepth 20000 in
theorem ggX5_init_X3_init : GoodIn wsX5_init wsX3_init := goodIn_r _ [74, 75, 2, 3, 30, 76, 77, 78, 79, 126, 127, 128, 129] (by decide +kernel) (by decide +kernel)
set_option maxRecDepth 20000 in
theorem gX5_init_X3_init_n25 : GoodIn wsX5_init (wsX3_init) := ggX5_init_X3_init
set_option maxRecDepth 20000 in
theorem ggX5_init_X0_init : GoodIn wsX5_init wsX0_init := goodIn_r _ [82, 83, 2, 3, 84, 85, 5, 6, 86, 27, 28, 29, 30, 31, 32, 33, 34, 35, 36, 37, 38, 39, 40, 41, 42, 43, 44, 45, 46, 47, 48, 49, 50, 51, 52, 53, 54, 55, 56, 57, 58, 59, 60, 61, 130, 131, 95, 96, 97, 98, 99, 100, 101, 102, 103, 104, 105, 106, 107, 108, 109] (by decide +kernel) (by decide +kernel)
set_option maxRecDepth 20000 in
theorem gX5_init_X0_init : GoodIn wsX5_init (wsX0_init) := ggX5_init_X0_init
set_option maxRecDepth 20000 in
theorem ggX5_init_X2_init : GoodIn wsX5_init wsX2_init := goodIn_r _ [88, 89, 2, 3, 30, 90, 91, 92, 93, 94, 132, 133, 134, 135, 136, 137, 138, 139] (by decide +kernel) (by decide +kernel)
set_option maxRecDepth 20000 in
theorem gX5_init_X2_init_n39 : GoodIn wsX5_init (wsX2_init) := ggX5_init_X2_init
theorem dX5_init_0 : decode cX5_init 0 = .ok (.aload_n 0, 1) := by decide +kernel
theorem dX5_init_1 : decode cX5_init 1 = .ok (.invokespecial 1, 3) := by decide +kernel
theorem dX5_init_4 : decode cX5_init 4 = .ok (.aload_n 0, 1) := by decide +kernel
theorem dX5_init_5 : decode cX5_init 5 = .ok (.new 7, 3) := by decide +kernel
theorem dX5_init_8 : decode cX5_init 8 = .ok (.dup, 1) := by decide +kernel
theorem dX5_init_9 : decode cX5_init 9 = .ok (.invokespecial 9, 3) := by decide +kernel
theorem dX5_init_12 : decode cX5_init 12 = .ok (.putfield 10, 3) := by decide +kernel
theorem dX5_init_15 : decode cX5_init 15 = .ok (.aload_n 0, 1) := by decide +kernel
theorem dX5_init_16 : decode cX5_init 16 = .ok (.new 16, 3) := by decide +kernel
theorem dX5_init_19 : decode cX5_init 19 = .ok (.dup, 1) := by decide +kernel
theorem dX5_init_20 : decode cX5_init 20 = .ok (.invokespecial 18, 3) := by decide +kernel
theorem dX5_init_23 : decode cX5_init 23 = .ok (.putfield 19, 3) := by decide +kernel
theorem dX5_init_26 : decode cX5_init 26 = .ok (.aload_n 0, 1) := by decide +kernel
theorem dX5_init_27 : decode cX5_init 27 = .ok (.new 23, 3) := by decide +kernel
theorem dX5_init_30 : decode cX5_init 30 = .ok (.dup, 1) := by decide +kernel
theorem dX5_init_31 : decode cX5_init 31 = .ok (.invokespecial 25, 3) := by decide +kernel
theorem dX5_init_34 : decode cX5_init 34 = .ok (.putfield 26, 3) := by decide +kernel
theorem dX5_init_37 : decode cX5_init 37 = .ok (.aload_n 0, 1) := by decide +kernel
theorem dX5_init_38 : decode cX5_init 38 = .ok (.new 30, 3) := by decide +kernel
theorem dX5_init_41 : decode cX5_init 41 = .ok (.dup, 1) := by decide +kernel
theorem dX5_init_42 : decode cX5_init 42 = .ok (.invokespecial 32, 3) := by decide +kernel
theorem dX5_init_45 : decode cX5_init 45 = .ok (.putfield 33, 3) := by decide +kernel
theorem dX5_init_48 : decode cX5_init 48 = .ok (.aload_n 0, 1) := by decide +kernel
theorem dX5_init_49 : decode cX5_init 49 = .ok (.new 37, 3) := by decide +kernel
theorem dX5_init_52 : decode cX5_init 52 = .ok (.dup, 1) := by decide +kernel
theorem dX5_init_53 : decode cX5_init 53 = .ok (.invokespecial 39, 3) := by decide +kernel
theorem dX5_init_56 : decode cX5_init 56 = .ok (.putfield 40, 3) := by decide +kernel
theorem dX5_init_59 : decode cX5_init 59 = .ok (.aload_n 0, 1) := by decide +kernel
theorem dX5_init_60 : decode cX5_init 60 = .ok (.new 7, 3) := by decide +kernel
theorem dX5_init_63 : decode cX5_init 63 = .ok (.dup, 1) := by decide +kernel
theorem dX5_init_64 : decode cX5_init 64 = .ok (.invokespecial 9, 3) := by decide +kernel
theorem dX5_init_67 : decode cX5_init 67 = .ok (.putfield 44, 3) := by decide +kernel
theorem dX5_init_70 : decode cX5_init 70 = .ok (.aload_n 0, 1) := by decide +kernel
theorem dX5_init_71 : decode cX5_init 71 = .ok (.new 16, 3) := by decide +kernel
theorem dX5_init_74 : decode cX5_init 74 = .ok (.dup, 1) := by decide +kernel
theorem dX5_init_75 : decode cX5_init 75 = .ok (.invokespecial 18, 3) := by decide +kernel
theorem dX5_init_78 : decode cX5_init 78 = .ok (.putfield 47, 3) := by decide +kernel
theorem dX5_init_81 : decode cX5_init 81 = .ok (.return_, 1) := by decide +kernel
set_option maxRecDepth 20000 in
theorem ggX5_begin_X0_keep : GoodIn wsX5_begin wsX0_keep := goodIn_r _ [10, 11, 12, 13, 14, 15, 9, 16, 17, 18, 19, 20, 21, 22, 23, 24, 25, 26, 27, 28, 29, 30, 31, 32, 33, 34, 35, 36, 37, 38, 39, 40, 75, 76, 60, 61, 62, 63, 64, 65, 66, 67, 68, 69, 70, 71, 72, 73, 74] (by decide +kernel) (by decide +kernel)
set_option maxRecDepth 20000 in
theorem gX5_begin_X0_keep : GoodIn wsX5_begin (wsV RX5 57 RX0 yX0_keep wsX0_keep) := goodIn_app (goodIn_of _ (by decide +kernel)) ggX5_begin_X0_keep
set_option maxRecDepth 20000 in
theorem ggX5_begin_X1_restart : GoodIn wsX5_begin wsX1_restart := goodIn_r _ [44, 22, 23, 24, 30, 31, 45, 46, 47, 20, 48, 49, 50, 51, 52, 32, 33, 34, 35, 36, 37, 38, 60, 61, 62, 63, 64, 65, 66, 67, 68, 69, 70, 71, 72, 73, 74] (by decide +kernel) (by decide +kernel)
set_option maxRecDepth 20000 in
theorem gX5_begin_X1_restart : GoodIn wsX5_begin (wsV RX5 61 RX1 yX1_restart wsX1_restart) := goodIn_app (goodIn_of _ (by decide +kernel)) ggX5_begin_X1_restart
theorem dX5_begin_0 : decode cX5_begin 0 = .ok (.iload_n 1, 1) := by decide +kernel
theorem dX5_begin_1 : decode cX5_begin 1 = .ok (.iconst 3, 1) := by decide +kernel
theorem dX5_begin_2 : decode cX5_begin 2 = .ok (.if_icmp .lt 9, 3) := by decide +kernel
theorem dX5_begin_5 : decode cX5_begin 5 = .ok (.iload_n 1, 1) := by decide +kernel
theorem dX5_begin_6 : decode cX5_begin 6 = .ok (.bipush 8, 2) := by decide +kernel
theorem dX5_begin_8 : decode cX5_begin 8 = .ok (.if_icmp .le 13, 3) := by decide +kernel
theorem dX5_begin_11 : decode cX5_begin 11 = .ok (.new 50, 3) := by decide +kernel
theorem dX5_begin_14 : decode cX5_begin 14 = .ok (.dup, 1) := by decide +kernel
theorem dX5_begin_15 : decode cX5_begin 15 = .ok (.ldc 52, 2) := by decide +kernel
theorem dX5_begin_17 : decode cX5_begin 17 = .ok (.invokespecial 54, 3) := by decide +kernel
theorem dX5_begin_20 : decode cX5_begin 20 = .ok (.athrow, 1) := by decide +kernel
theorem dX5_begin_21 : decode cX5_begin 21 = .ok (.aload_n 0, 1) := by decide +kernel
theorem dX5_begin_22 : decode cX5_begin 22 = .ok (.getfield 33, 3) := by decide +kernel
theorem dX5_begin_25 : decode cX5_begin 25 = .ok (.aload_n 0, 1) := by decide +kernel
theorem dX5_begin_26 : decode cX5_begin 26 = .ok (.getfield 10, 3) := by decide +kernel
theorem dX5_begin_29 : decode cX5_begin 29 = .ok (.invokevirtual 57, 3) := by decide +kernel
theorem dX5_begin_32 : decode cX5_begin 32 = .ok (.aload_n 0, 1) := by decide +kernel
theorem dX5_begin_33 : decode cX5_begin 33 = .ok (.getfield 10, 3) := by decide +kernel
theorem dX5_begin_36 : decode cX5_begin 36 = .ok (.iload_n 1, 1) := by decide +kernel
theorem dX5_begin_37 : decode cX5_begin 37 = .ok (.invokevirtual 61, 3) := by decide +kernel
theorem dX5_begin_40 : decode cX5_begin 40 = .ok (.aload_n 0, 1) := by decide +kernel
theorem dX5_begin_41 : decode cX5_begin 41 = .ok (.getfield 10, 3) := by decide +kernel
theorem dX5_begin_44 : decode cX5_begin 44 = .ok (.getfield 65, 3) := by decide +kernel
theorem dX5_begin_47 : decode cX5_begin 47 = .ok (.ireturn, 1) := by decide +kernel
set_option maxRecDepth 20000 in
theorem ggX5_close_X5_isMask : GoodIn wsX5_close wsX5_isMask := goodIn_r _ [11] (by decide +kernel) (by decide +kernel)
set_option maxRecDepth 20000 in
theorem gX5_close_X5_isMask : GoodIn wsX5_close (va_wsS RX5 74 yX5_isMask wsX5_isMask) := goodIn_app (goodIn_of _ (by decide +kernel)) ggX5_close_X5_isMask
set_option maxRecDepth 20000 in
theorem ggX5_close_X0_keep : GoodIn wsX5_close wsX0_keep := goodIn_r _ [16, 17, 18, 19, 20, 21, 15, 22, 23, 24, 25, 26, 27, 28, 29, 30, 31, 32, 33, 34, 35, 36, 37, 38, 39, 40, 41, 42, 43, 44, 45, 46, 69, 70, 54, 55, 56, 57, 58, 59, 60, 61, 62, 63, 64, 65, 66, 67, 68] (by decide +kernel) (by decide +kernel)
set_option maxRecDepth 20000 in
theorem gX5_close_X0_keep : GoodIn wsX5_close (wsV RX5 57 RX0 yX0_keep wsX0_keep) := goodIn_app (goodIn_of _ (by decide +kernel)) ggX5_close_X0_keep
theorem dX5_close_0 : decode cX5_close 0 = .ok (.iload_n 1, 1) := by decide +kernel
theorem dX5_close_1 : decode cX5_close 1 = .ok (.ifCond .lt 9, 3) := by decide +kernel
theorem dX5_close_4 : decode cX5_close 4 = .ok (.iload_n 1, 1) := by decide +kernel
theorem dX5_close_5 : decode cX5_close 5 = .ok (.bipush 6, 2) := by decide +kernel
theorem dX5_close_7 : decode cX5_close 7 = .ok (.if_icmp .lt 13, 3) := by decide +kernel
theorem dX5_close_10 : decode cX5_close 10 = .ok (.new 69, 3) := by decide +kernel
theorem dX5_close_13 : decode cX5_close 13 = .ok (.dup, 1) := by decide +kernel
theorem dX5_close_14 : decode cX5_close 14 = .ok (.ldc 71, 2) := by decide +kernel
theorem dX5_close_16 : decode cX5_close 16 = .ok (.invokespecial 73, 3) := by decide +kernel
theorem dX5_close_19 : decode cX5_close 19 = .ok (.athrow, 1) := by decide +kernel
theorem dX5_close_20 : decode cX5_close 20 = .ok (.iload_n 2, 1) := by decide +kernel
theorem dX5_close_21 : decode cX5_close 21 = .ok (.invokestatic 74, 3) := by decide +kernel
theorem dX5_close_24 : decode cX5_close 24 = .ok (.ifCond .ne 13, 3) := by decide +kernel
theorem dX5_close_27 : decode cX5_close 27 = .ok (.new 50, 3) := by decide +kernel
theorem dX5_close_30 : decode cX5_close 30 = .ok (.dup, 1) := by decide +kernel
theorem dX5_close_31 : decode cX5_close 31 = .ok (.ldc 78, 2) := by decide +kernel
theorem dX5_close_33 : decode cX5_close 33 = .ok (.invokespecial 54, 3) := by decide +kernel
theorem dX5_close_36 : decode cX5_close 36 = .ok (.athrow, 1) := by decide +kernel
theorem dX5_close_37 : decode cX5_close 37 = .ok (.aload_n 0, 1) := by decide +kernel
theorem dX5_close_38 : decode cX5_close 38 = .ok (.getfield 33, 3) := by decide +kernel
theorem dX5_close_41 : decode cX5_close 41 = .ok (.aload_n 0, 1) := by decide +kernel
theorem dX5_close_42 : decode cX5_close 42 = .ok (.getfield 10, 3) := by decide +kernel
theorem dX5_close_45 : decode cX5_close 45 = .ok (.invokevirtual 57, 3) := by decide +kernel
theorem dX5_close_48 : decode cX5_close 48 = .ok (.aload_n 0, 1) := by decide +kernel
theorem dX5_close_49 : decode cX5_close 49 = .ok (.getfield 10, 3) := by decide +kernel
theorem dX5_close_52 : decode cX5_close 52 = .ok (.getfield 80, 3) := by decide +kernel
theorem dX5_close_55 : decode cX5_close 55 = .ok (.iload_n 1, 1) := by decide +kernel
theorem dX5_close_56 : decode cX5_close 56 = .ok (.iaload, 1) := by decide +kernel
theorem dX5_close_57 : decode cX5_close 57 = .ok (.istore_n 3, 1) := by decide +kernel
theorem dX5_close_58 : decode cX5_close 58 = .ok (.aload_n 0, 1) := by decide +kernel
theorem dX5_close_59 : decode cX5_close 59 = .ok (.getfield 10, 3) := by decide +kernel
theorem dX5_close_62 : decode cX5_close 62 = .ok (.getfield 80, 3) := by decide +kernel
theorem dX5_close_65 : decode cX5_close 65 = .ok (.iload_n 1, 1) := by decide +kernel
theorem dX5_close_66 : decode cX5_close 66 = .ok (.iload_n 2, 1) := by decide +kernel
theorem dX5_close_67 : decode cX5_close 67 = .ok (.iastore, 1) := by decide +kernel
theorem dX5_close_68 : decode cX5_close 68 = .ok (.iload_n 3, 1) := by decide +kernel
theorem dX5_close_69 : decode cX5_close 69 = .ok (.ireturn, 1) := by decide +kernel
set_option maxRecDepth 20000 in
theorem ggX5_away_X5_isMask : GoodIn wsX5_away wsX5_isMask := goodIn_r _ [11] (by decide +kernel) (by decide +kernel)
set_option maxRecDepth 20000 in
theorem gX5_away_X5_isMask : GoodIn wsX5_away (va_wsS RX5 74 yX5_isMask wsX5_isMask) := goodIn_app (goodIn_of _ (by decide +kernel)) ggX5_away_X5_isMask
set_option maxRecDepth 20000 in
theorem ggX5_away_X0_keep : GoodIn wsX5_away wsX0_keep := goodIn_r _ [16, 17, 18, 19, 20, 21, 15, 22, 23, 24, 25, 26, 27, 28, 29, 30, 31, 32, 33, 34, 35, 36, 37, 38, 39, 40, 41, 42, 43, 44, 45, 46, 69, 70, 54, 55, 56, 57, 58, 59, 60, 61, 62, 63, 64, 65, 66, 67, 68] (by decide +kernel) (by decide +kernel)
set_option maxRecDepth 20000 in
theorem gX5_away_X0_keep : GoodIn wsX5_away (wsV RX5 57 RX0 yX0_keep wsX0_keep) := goodIn_app (goodIn_of _ (by decide +kernel)) ggX5_away_X0_keep
theorem dX5_away_0 : decode cX5_away 0 = .ok (.iload_n 1, 1) := by decide +kernel
theorem dX5_away_1 : decode cX5_away 1 = .ok (.ifCond .lt 9, 3) := by decide +kernel
theorem dX5_away_4 : decode cX5_away 4 = .ok (.iload_n 1, 1) := by decide +kernel
theorem dX5_away_5 : decode cX5_away 5 = .ok (.bipush 6, 2) := by decide +kernel
theorem dX5_away_7 : decode cX5_away 7 = .ok (.if_icmp .lt 13, 3) := by decide +kernel
theorem dX5_away_10 : decode cX5_away 10 = .ok (.new 69, 3) := by decide +kernel
theorem dX5_away_13 : decode cX5_away 13 = .ok (.dup, 1) := by decide +kernel
theorem dX5_away_14 : decode cX5_away 14 = .ok (.ldc 84, 2) := by decide +kernel
theorem dX5_away_16 : decode cX5_away 16 = .ok (.invokespecial 73, 3) := by decide +kernel
theorem dX5_away_19 : decode cX5_away 19 = .ok (.athrow, 1) := by decide +kernel
theorem dX5_away_20 : decode cX5_away 20 = .ok (.iload_n 2, 1) := by decide +kernel
theorem dX5_away_21 : decode cX5_away 21 = .ok (.invokestatic 74, 3) := by decide +kernel
theorem dX5_away_24 : decode cX5_away 24 = .ok (.ifCond .ne 13, 3) := by decide +kernel
theorem dX5_away_27 : decode cX5_away 27 = .ok (.new 50, 3) := by decide +kernel
theorem dX5_away_30 : decode cX5_away 30 = .ok (.dup, 1) := by decide +kernel
theorem dX5_away_31 : decode cX5_away 31 = .ok (.ldc 78, 2) := by decide +kernel
theorem dX5_away_33 : decode cX5_away 33 = .ok (.invokespecial 54, 3) := by decide +kernel
theorem dX5_away_36 : decode cX5_away 36 = .ok (.athrow, 1) := by decide +kernel
theorem dX5_away_37 : decode cX5_away 37 = .ok (.aload_n 0, 1) := by decide +kernel
theorem dX5_away_38 : decode cX5_away 38 = .ok (.getfield 33, 3) := by decide +kernel
theorem dX5_away_41 : decode cX5_away 41 = .ok (.aload_n 0, 1) := by decide +kernel
theorem dX5_away_42 : decode cX5_away 42 = .ok (.getfield 10, 3) := by decide +kernel
theorem dX5_away_45 : decode cX5_away 45 = .ok (.invokevirtual 57, 3) := by decide +kernel
theorem dX5_away_48 : decode cX5_away 48 = .ok (.aload_n 0, 1) := by decide +kernel
theorem dX5_away_49 : decode cX5_away 49 = .ok (.getfield 10, 3) := by decide +kernel
theorem dX5_away_52 : decode cX5_away 52 = .ok (.getfield 86, 3) := by decide +kernel
theorem dX5_away_55 : decode cX5_away 55 = .ok (.iload_n 1, 1) := by decide +kernel
theorem dX5_away_56 : decode cX5_away 56 = .ok (.iaload, 1) := by decide +kernel
theorem dX5_away_57 : decode cX5_away 57 = .ok (.istore_n 3, 1) := by decide +kernel
theorem dX5_away_58 : decode cX5_away 58 = .ok (.aload_n 0, 1) := by decide +kernel
theorem dX5_away_59 : decode cX5_away 59 = .ok (.getfield 10, 3) := by decide +kernel
theorem dX5_away_62 : decode cX5_away 62 = .ok (.getfield 86, 3) := by decide +kernel
theorem dX5_away_65 : decode cX5_away 65 = .ok (.iload_n 1, 1) := by decide +kernel
theorem dX5_away_66 : decode cX5_away 66 = .ok (.iload_n 2, 1) := by decide +kernel
theorem dX5_away_67 : decode cX5_away 67 = .ok (.iastore, 1) := by decide +kernel
theorem dX5_away_68 : decode cX5_away 68 = .ok (.iload_n 3, 1) := by decide +kernel
theorem dX5_away_69 : decode cX5_away 69 = .ok (.ireturn, 1) := by decide +kernel
set_option maxRecDepth 20000 in
theorem ggX5_stage_X0_keep : GoodIn wsX5_stage wsX0_keep := goodIn_r _ [8, 9, 10, 11, 12, 13, 7, 14, 15, 16, 17, 18, 19, 20, 21, 22, 23, 24, 25, 26, 27, 28, 29, 30, 31, 32, 33, 34, 35, 36, 37, 38, 87, 88, 89, 90, 91, 92, 93, 94, 95, 96, 97, 98, 99, 100, 101, 102, 103] (by decide +kernel) (by decide +kernel)
set_option maxRecDepth 20000 in
theorem gX5_stage_X0_keep : GoodIn wsX5_stage (wsV RX5 57 RX0 yX0_keep wsX0_keep) := goodIn_app (goodIn_of _ (by decide +kernel)) ggX5_stage_X0_keep
set_option maxRecDepth 20000 in
theorem ggX5_stage_X3_assign : GoodIn wsX5_stage wsX3_assign := goodIn_r _ [43, 44, 45, 46, 47, 48, 49, 50, 51, 42, 52, 53, 54, 55, 56, 57, 58, 59, 60, 61, 62, 63, 64, 65, 66, 67, 68, 69, 70, 71, 72, 73, 74, 75, 76, 77, 78, 79, 89, 90, 91, 92, 93, 94, 95, 96, 97, 98, 99, 100, 101, 102, 103, 104, 105, 106, 107] (by decide +kernel) (by decide +kernel)
set_option maxRecDepth 20000 in
theorem gX5_stage_X3_assign : GoodIn wsX5_stage (wsV RX5 89 RX3 yX3_assign wsX3_assign) := goodIn_app (goodIn_of _ (by decide +kernel)) ggX5_stage_X3_assign
theorem dX5_stage_0 : decode cX5_stage 0 = .ok (.aload_n 0, 1) := by decide +kernel
theorem dX5_stage_1 : decode cX5_stage 1 = .ok (.getfield 33, 3) := by decide +kernel
theorem dX5_stage_4 : decode cX5_stage 4 = .ok (.aload_n 0, 1) := by decide +kernel
theorem dX5_stage_5 : decode cX5_stage 5 = .ok (.getfield 10, 3) := by decide +kernel
theorem dX5_stage_8 : decode cX5_stage 8 = .ok (.invokevirtual 57, 3) := by decide +kernel
theorem dX5_stage_11 : decode cX5_stage 11 = .ok (.aload_n 0, 1) := by decide +kernel
theorem dX5_stage_12 : decode cX5_stage 12 = .ok (.getfield 26, 3) := by decide +kernel
theorem dX5_stage_15 : decode cX5_stage 15 = .ok (.aload_n 0, 1) := by decide +kernel
theorem dX5_stage_16 : decode cX5_stage 16 = .ok (.getfield 10, 3) := by decide +kernel
theorem dX5_stage_19 : decode cX5_stage 19 = .ok (.invokevirtual 89, 3) := by decide +kernel
theorem dX5_stage_22 : decode cX5_stage 22 = .ok (.ireturn, 1) := by decide +kernel
set_option maxRecDepth 20000 in
theorem ggX5_score_X1_hasMatch : GoodIn wsX5_score wsX1_hasMatch := goodIn_r _ [14, 15, 126, 127, 128, 129, 130, 131, 132, 133, 134, 135, 136, 137, 138, 139, 140] (by decide +kernel) (by decide +kernel)
set_option maxRecDepth 20000 in
theorem gX5_score_X1_hasMatch : GoodIn wsX5_score (wsV RX5 93 RX1 yX1_hasMatch wsX1_hasMatch) := goodIn_app (goodIn_of _ (by decide +kernel)) ggX5_score_X1_hasMatch
set_option maxRecDepth 20000 in
theorem ggX5_score_X5_isScore : GoodIn wsX5_score wsX5_isScore := goodIn_r _ [19] (by decide +kernel) (by decide +kernel)
set_option maxRecDepth 20000 in
theorem gX5_score_X5_isScore : GoodIn wsX5_score (va_wsS RX5 98 yX5_isScore wsX5_isScore) := goodIn_app (goodIn_of _ (by decide +kernel)) ggX5_score_X5_isScore
set_option maxRecDepth 20000 in
theorem ggX5_score_X1_canHaveResult : GoodIn wsX5_score wsX1_canHaveResult := goodIn_r _ [23, 24, 25, 11, 12, 13, 14, 15, 126, 127, 128, 129, 130, 131, 132, 133, 134, 135, 136, 137, 138, 139, 140] (by decide +kernel) (by decide +kernel)
set_option maxRecDepth 20000 in
theorem gX5_score_X1_canHaveResult : GoodIn wsX5_score (wsV RX5 103 RX1 yX1_canHaveResult wsX1_canHaveResult) := goodIn_app (goodIn_of _ (by decide +kernel)) ggX5_score_X1_canHaveResult
set_option maxRecDepth 20000 in
theorem ggX5_score_X0_keep : GoodIn wsX5_score wsX0_keep := goodIn_r _ [30, 31, 32, 33, 34, 35, 29, 36, 37, 38, 39, 13, 40, 41, 42, 15, 43, 44, 45, 46, 47, 48, 49, 50, 51, 52, 24, 53, 54, 55, 56, 57, 141, 142, 126, 127, 128, 129, 130, 131, 132, 133, 134, 135, 136, 137, 138, 139, 140] (by decide +kernel) (by decide +kernel)
set_option maxRecDepth 20000 in
theorem gX5_score_X0_keep : GoodIn wsX5_score (wsV RX5 57 RX0 yX0_keep wsX0_keep) := goodIn_app (goodIn_of _ (by decide +kernel)) ggX5_score_X0_keep
set_option maxRecDepth 20000 in
theorem ggX5_score_X1_give : GoodIn wsX5_score wsX1_give := goodIn_r _ [61, 55, 56, 57, 25, 11, 12, 13, 14, 15, 126, 127, 128, 129, 130, 131, 132, 133, 134, 135, 136, 137, 138, 139, 140] (by decide +kernel) (by decide +kernel)
set_option maxRecDepth 20000 in
theorem gX5_score_X1_give : GoodIn wsX5_score (wsV RX5 111 RX1 yX1_give wsX1_give) := goodIn_app (goodIn_of _ (by decide +kernel)) ggX5_score_X1_give
set_option maxRecDepth 20000 in
theorem ggX5_score_X5_pointsOf : GoodIn wsX5_score wsX5_pointsOf := goodIn_r _ [65, 66, 7, 67, 68, 69, 70, 71, 72, 73, 74, 75, 76, 77, 78, 79, 80, 81, 82, 83, 84, 85, 86, 87, 88, 89, 90, 91, 92, 93, 94, 95, 96, 97, 98, 99, 100, 13, 101, 55, 57, 56, 43, 25, 11, 12, 14, 15, 102, 103, 104, 105, 106, 107, 108, 109, 110, 111, 112, 113, 114, 115, 116, 117, 118, 119, 120, 121, 122, 123, 124, 125, 126, 127, 128, 129, 130, 131, 132, 133, 134, 135, 136, 137, 138, 139, 140, 143, 144, 145, 146, 147, 148, 149, 150, 151] (by decide +kernel) (by decide +kernel)
set_option maxRecDepth 20000 in
theorem gX5_score_X5_pointsOf : GoodIn wsX5_score (wsV RX5 118 RX5 yX5_pointsOf wsX5_pointsOf) := goodIn_app (goodIn_of _ (by decide +kernel)) ggX5_score_X5_pointsOf
theorem dX5_score_0 : decode cX5_score 0 = .ok (.aload_n 0, 1) := by decide +kernel
theorem dX5_score_1 : decode cX5_score 1 = .ok (.getfield 10, 3) := by decide +kernel
theorem dX5_score_4 : decode cX5_score 4 = .ok (.iload_n 1, 1) := by decide +kernel
theorem dX5_score_5 : decode cX5_score 5 = .ok (.invokevirtual 93, 3) := by decide +kernel
theorem dX5_score_8 : decode cX5_score 8 = .ok (.ifCond .ne 13, 3) := by decide +kernel
theorem dX5_score_11 : decode cX5_score 11 = .ok (.new 69, 3) := by decide +kernel
theorem dX5_score_14 : decode cX5_score 14 = .ok (.dup, 1) := by decide +kernel
theorem dX5_score_15 : decode cX5_score 15 = .ok (.ldc 96, 2) := by decide +kernel
theorem dX5_score_17 : decode cX5_score 17 = .ok (.invokespecial 73, 3) := by decide +kernel
theorem dX5_score_20 : decode cX5_score 20 = .ok (.athrow, 1) := by decide +kernel
theorem dX5_score_21 : decode cX5_score 21 = .ok (.iload_n 2, 1) := by decide +kernel
theorem dX5_score_22 : decode cX5_score 22 = .ok (.invokestatic 98, 3) := by decide +kernel
theorem dX5_score_25 : decode cX5_score 25 = .ok (.ifCond .eq 10, 3) := by decide +kernel
theorem dX5_score_28 : decode cX5_score 28 = .ok (.iload_n 3, 1) := by decide +kernel
theorem dX5_score_29 : decode cX5_score 29 = .ok (.invokestatic 98, 3) := by decide +kernel
theorem dX5_score_32 : decode cX5_score 32 = .ok (.ifCond .ne 13, 3) := by decide +kernel
theorem dX5_score_35 : decode cX5_score 35 = .ok (.new 50, 3) := by decide +kernel
theorem dX5_score_38 : decode cX5_score 38 = .ok (.dup, 1) := by decide +kernel
theorem dX5_score_39 : decode cX5_score 39 = .ok (.ldc 101, 2) := by decide +kernel
theorem dX5_score_41 : decode cX5_score 41 = .ok (.invokespecial 54, 3) := by decide +kernel
theorem dX5_score_44 : decode cX5_score 44 = .ok (.athrow, 1) := by decide +kernel
theorem dX5_score_45 : decode cX5_score 45 = .ok (.aload_n 0, 1) := by decide +kernel
theorem dX5_score_46 : decode cX5_score 46 = .ok (.getfield 10, 3) := by decide +kernel
theorem dX5_score_49 : decode cX5_score 49 = .ok (.iload_n 1, 1) := by decide +kernel
theorem dX5_score_50 : decode cX5_score 50 = .ok (.invokevirtual 103, 3) := by decide +kernel
theorem dX5_score_53 : decode cX5_score 53 = .ok (.ifCond .ne 13, 3) := by decide +kernel
theorem dX5_score_56 : decode cX5_score 56 = .ok (.new 106, 3) := by decide +kernel
theorem dX5_score_59 : decode cX5_score 59 = .ok (.dup, 1) := by decide +kernel
theorem dX5_score_60 : decode cX5_score 60 = .ok (.ldc 108, 2) := by decide +kernel
theorem dX5_score_62 : decode cX5_score 62 = .ok (.invokespecial 110, 3) := by decide +kernel
theorem dX5_score_65 : decode cX5_score 65 = .ok (.athrow, 1) := by decide +kernel
theorem dX5_score_66 : decode cX5_score 66 = .ok (.aload_n 0, 1) := by decide +kernel
theorem dX5_score_67 : decode cX5_score 67 = .ok (.getfield 33, 3) := by decide +kernel
theorem dX5_score_70 : decode cX5_score 70 = .ok (.aload_n 0, 1) := by decide +kernel
theorem dX5_score_71 : decode cX5_score 71 = .ok (.getfield 10, 3) := by decide +kernel
theorem dX5_score_74 : decode cX5_score 74 = .ok (.invokevirtual 57, 3) := by decide +kernel
theorem dX5_score_77 : decode cX5_score 77 = .ok (.aload_n 0, 1) := by decide +kernel
theorem dX5_score_78 : decode cX5_score 78 = .ok (.getfield 10, 3) := by decide +kernel
theorem dX5_score_81 : decode cX5_score 81 = .ok (.iload_n 1, 1) := by decide +kernel
theorem dX5_score_82 : decode cX5_score 82 = .ok (.iconst 1, 1) := by decide +kernel
theorem dX5_score_83 : decode cX5_score 83 = .ok (.iload_n 2, 1) := by decide +kernel
theorem dX5_score_84 : decode cX5_score 84 = .ok (.iload_n 3, 1) := by decide +kernel
theorem dX5_score_85 : decode cX5_score 85 = .ok (.invokevirtual 111, 3) := by decide +kernel
theorem dX5_score_88 : decode cX5_score 88 = .ok (.aload_n 0, 1) := by decide +kernel
theorem dX5_score_89 : decode cX5_score 89 = .ok (.aload_n 0, 1) := by decide +kernel
theorem dX5_score_90 : decode cX5_score 90 = .ok (.getfield 10, 3) := by decide +kernel
theorem dX5_score_93 : decode cX5_score 93 = .ok (.getfield 115, 3) := by decide +kernel
theorem dX5_score_96 : decode cX5_score 96 = .ok (.iload_n 1, 1) := by decide +kernel
theorem dX5_score_97 : decode cX5_score 97 = .ok (.iaload, 1) := by decide +kernel
theorem dX5_score_98 : decode cX5_score 98 = .ok (.invokevirtual 118, 3) := by decide +kernel
theorem dX5_score_101 : decode cX5_score 101 = .ok (.ireturn, 1) := by decide +kernel
set_option maxRecDepth 20000 in
theorem ggX5_walkover_X1_hasMatch : GoodIn wsX5_walkover wsX1_hasMatch := goodIn_r _ [13, 14, 122, 123, 124, 125, 126, 127, 128, 129, 130, 131, 132, 133, 134, 135, 136] (by decide +kernel) (by decide +kernel)
set_option maxRecDepth 20000 in
theorem gX5_walkover_X1_hasMatch : GoodIn wsX5_walkover (wsV RX5 93 RX1 yX1_hasMatch wsX1_hasMatch) := goodIn_app (goodIn_of _ (by decide +kernel)) ggX5_walkover_X1_hasMatch
set_option maxRecDepth 20000 in
theorem ggX5_walkover_X1_canHaveResult : GoodIn wsX5_walkover wsX1_canHaveResult := goodIn_r _ [18, 19, 20, 10, 11, 12, 13, 14, 122, 123, 124, 125, 126, 127, 128, 129, 130, 131, 132, 133, 134, 135, 136] (by decide +kernel) (by decide +kernel)
set_option maxRecDepth 20000 in
theorem gX5_walkover_X1_canHaveResult : GoodIn wsX5_walkover (wsV RX5 103 RX1 yX1_canHaveResult wsX1_canHaveResult) := goodIn_app (goodIn_of _ (by decide +kernel)) ggX5_walkover_X1_canHaveResult
set_option maxRecDepth 20000 in
theorem ggX5_walkover_X0_keep : GoodIn wsX5_walkover wsX0_keep := goodIn_r _ [25, 26, 27, 28, 29, 30, 24, 31, 32, 33, 34, 12, 35, 36, 37, 14, 38, 39, 40, 41, 42, 43, 44, 45, 46, 47, 19, 48, 49, 50, 51, 52, 137, 138, 122, 123, 124, 125, 126, 127, 128, 129, 130, 131, 132, 133, 134, 135, 136] (by decide +kernel) (by decide +kernel)
set_option maxRecDepth 20000 in
theorem gX5_walkover_X0_keep : GoodIn wsX5_walkover (wsV RX5 57 RX0 yX0_keep wsX0_keep) := goodIn_app (goodIn_of _ (by decide +kernel)) ggX5_walkover_X0_keep
set_option maxRecDepth 20000 in
theorem ggX5_walkover_X1_give : GoodIn wsX5_walkover wsX1_give := goodIn_r _ [56, 50, 51, 52, 20, 10, 11, 12, 13, 14, 122, 123, 124, 125, 126, 127, 128, 129, 130, 131, 132, 133, 134, 135, 136] (by decide +kernel) (by decide +kernel)
set_option maxRecDepth 20000 in
theorem gX5_walkover_X1_give : GoodIn wsX5_walkover (wsV RX5 111 RX1 yX1_give wsX1_give) := goodIn_app (goodIn_of _ (by decide +kernel)) ggX5_walkover_X1_give
set_option maxRecDepth 20000 in
theorem ggX5_walkover_X5_pointsOf : GoodIn wsX5_walkover wsX5_pointsOf := goodIn_r _ [61, 62, 5, 63, 64, 65, 66, 67, 68, 69, 70, 71, 72, 73, 74, 75, 76, 77, 78, 79, 80, 81, 82, 83, 84, 85, 86, 87, 88, 89, 90, 91, 92, 93, 94, 95, 96, 12, 97, 50, 52, 51, 38, 20, 10, 11, 13, 14, 98, 99, 100, 101, 102, 103, 104, 105, 106, 107, 108, 109, 110, 111, 112, 113, 114, 115, 116, 117, 118, 119, 120, 121, 122, 123, 124, 125, 126, 127, 128, 129, 130, 131, 132, 133, 134, 135, 136, 139, 140, 141, 142, 143, 144, 145, 146, 147] (by decide +kernel) (by decide +kernel)
set_option maxRecDepth 20000 in
theorem gX5_walkover_X5_pointsOf : GoodIn wsX5_walkover (wsV RX5 118 RX5 yX5_pointsOf wsX5_pointsOf) := goodIn_app (goodIn_of _ (by decide +kernel)) ggX5_walkover_X5_pointsOf
theorem dX5_walkover_0 : decode cX5_walkover 0 = .ok (.aload_n 0, 1) := by decide +kernel
theorem dX5_walkover_1 : decode cX5_walkover 1 = .ok (.getfield 10, 3) := by decide +kernel
theorem dX5_walkover_4 : decode cX5_walkover 4 = .ok (.iload_n 1, 1) := by decide +kernel
theorem dX5_walkover_5 : decode cX5_walkover 5 = .ok (.invokevirtual 93, 3) := by decide +kernel
theorem dX5_walkover_8 : decode cX5_walkover 8 = .ok (.ifCond .ne 13, 3) := by decide +kernel
theorem dX5_walkover_11 : decode cX5_walkover 11 = .ok (.new 69, 3) := by decide +kernel
theorem dX5_walkover_14 : decode cX5_walkover 14 = .ok (.dup, 1) := by decide +kernel
theorem dX5_walkover_15 : decode cX5_walkover 15 = .ok (.ldc 96, 2) := by decide +kernel
theorem dX5_walkover_17 : decode cX5_walkover 17 = .ok (.invokespecial 73, 3) := by decide +kernel
theorem dX5_walkover_20 : decode cX5_walkover 20 = .ok (.athrow, 1) := by decide +kernel
theorem dX5_walkover_21 : decode cX5_walkover 21 = .ok (.aload_n 0, 1) := by decide +kernel
theorem dX5_walkover_22 : decode cX5_walkover 22 = .ok (.getfield 10, 3) := by decide +kernel
theorem dX5_walkover_25 : decode cX5_walkover 25 = .ok (.iload_n 1, 1) := by decide +kernel
theorem dX5_walkover_26 : decode cX5_walkover 26 = .ok (.invokevirtual 103, 3) := by decide +kernel
theorem dX5_walkover_29 : decode cX5_walkover 29 = .ok (.ifCond .ne 13, 3) := by decide +kernel
theorem dX5_walkover_32 : decode cX5_walkover 32 = .ok (.new 106, 3) := by decide +kernel
theorem dX5_walkover_35 : decode cX5_walkover 35 = .ok (.dup, 1) := by decide +kernel
theorem dX5_walkover_36 : decode cX5_walkover 36 = .ok (.ldc 108, 2) := by decide +kernel
theorem dX5_walkover_38 : decode cX5_walkover 38 = .ok (.invokespecial 110, 3) := by decide +kernel
theorem dX5_walkover_41 : decode cX5_walkover 41 = .ok (.athrow, 1) := by decide +kernel
theorem dX5_walkover_42 : decode cX5_walkover 42 = .ok (.aload_n 0, 1) := by decide +kernel
theorem dX5_walkover_43 : decode cX5_walkover 43 = .ok (.getfield 33, 3) := by decide +kernel
theorem dX5_walkover_46 : decode cX5_walkover 46 = .ok (.aload_n 0, 1) := by decide +kernel
theorem dX5_walkover_47 : decode cX5_walkover 47 = .ok (.getfield 10, 3) := by decide +kernel
theorem dX5_walkover_50 : decode cX5_walkover 50 = .ok (.invokevirtual 57, 3) := by decide +kernel
theorem dX5_walkover_53 : decode cX5_walkover 53 = .ok (.aload_n 0, 1) := by decide +kernel
theorem dX5_walkover_54 : decode cX5_walkover 54 = .ok (.getfield 10, 3) := by decide +kernel
theorem dX5_walkover_57 : decode cX5_walkover 57 = .ok (.iload_n 1, 1) := by decide +kernel
theorem dX5_walkover_58 : decode cX5_walkover 58 = .ok (.iload_n 2, 1) := by decide +kernel
theorem dX5_walkover_59 : decode cX5_walkover 59 = .ok (.ifCond .eq 7, 3) := by decide +kernel
theorem dX5_walkover_62 : decode cX5_walkover 62 = .ok (.iconst 3, 1) := by decide +kernel
theorem dX5_walkover_63 : decode cX5_walkover 63 = .ok (.goto 4, 3) := by decide +kernel
theorem dX5_walkover_66 : decode cX5_walkover 66 = .ok (.iconst 2, 1) := by decide +kernel
theorem dX5_walkover_67 : decode cX5_walkover 67 = .ok (.iconst 0, 1) := by decide +kernel
theorem dX5_walkover_68 : decode cX5_walkover 68 = .ok (.iconst 0, 1) := by decide +kernel
theorem dX5_walkover_69 : decode cX5_walkover 69 = .ok (.invokevirtual 111, 3) := by decide +kernel
theorem dX5_walkover_72 : decode cX5_walkover 72 = .ok (.aload_n 0, 1) := by decide +kernel
theorem dX5_walkover_73 : decode cX5_walkover 73 = .ok (.iload_n 2, 1) := by decide +kernel
theorem dX5_walkover_74 : decode cX5_walkover 74 = .ok (.ifCond .eq 15, 3) := by decide +kernel
theorem dX5_walkover_77 : decode cX5_walkover 77 = .ok (.aload_n 0, 1) := by decide +kernel
theorem dX5_walkover_78 : decode cX5_walkover 78 = .ok (.getfield 10, 3) := by decide +kernel
theorem dX5_walkover_81 : decode cX5_walkover 81 = .ok (.getfield 122, 3) := by decide +kernel
theorem dX5_walkover_84 : decode cX5_walkover 84 = .ok (.iload_n 1, 1) := by decide +kernel
theorem dX5_walkover_85 : decode cX5_walkover 85 = .ok (.iaload, 1) := by decide +kernel
theorem dX5_walkover_86 : decode cX5_walkover 86 = .ok (.goto 12, 3) := by decide +kernel
theorem dX5_walkover_89 : decode cX5_walkover 89 = .ok (.aload_n 0, 1) := by decide +kernel
theorem dX5_walkover_90 : decode cX5_walkover 90 = .ok (.getfield 10, 3) := by decide +kernel
theorem dX5_walkover_93 : decode cX5_walkover 93 = .ok (.getfield 115, 3) := by decide +kernel
theorem dX5_walkover_96 : decode cX5_walkover 96 = .ok (.iload_n 1, 1) := by decide +kernel
theorem dX5_walkover_97 : decode cX5_walkover 97 = .ok (.iaload, 1) := by decide +kernel
theorem dX5_walkover_98 : decode cX5_walkover 98 = .ok (.invokevirtual 118, 3) := by decide +kernel
theorem dX5_walkover_101 : decode cX5_walkover 101 = .ok (.ireturn, 1) := by decide +kernel
set_option maxRecDepth 20000 in
theorem ggX5_annul_X1_hasMatch : GoodIn wsX5_annul wsX1_hasMatch := goodIn_r _ [10, 11, 57, 58, 59, 60, 61, 62, 63, 64, 65, 66, 67, 68, 69, 70, 71] (by decide +kernel) (by decide +kernel)
set_option maxRecDepth 20000 in
theorem gX5_annul_X1_hasMatch : GoodIn wsX5_annul (wsV RX5 93 RX1 yX1_hasMatch wsX1_hasMatch) := goodIn_app (goodIn_of _ (by decide +kernel)) ggX5_annul_X1_hasMatch
set_option maxRecDepth 20000 in
theorem ggX5_annul_X0_keep : GoodIn wsX5_annul wsX0_keep := goodIn_r _ [16, 17, 18, 19, 20, 21, 15, 22, 23, 24, 25, 9, 26, 27, 28, 11, 29, 30, 31, 32, 33, 34, 35, 36, 37, 38, 39, 40, 41, 42, 43, 44, 72, 73, 57, 58, 59, 60, 61, 62, 63, 64, 65, 66, 67, 68, 69, 70, 71] (by decide +kernel) (by decide +kernel)
set_option maxRecDepth 20000 in
theorem gX5_annul_X0_keep : GoodIn wsX5_annul (wsV RX5 57 RX0 yX0_keep wsX0_keep) := goodIn_app (goodIn_of _ (by decide +kernel)) ggX5_annul_X0_keep
set_option maxRecDepth 20000 in
theorem ggX5_annul_X1_give : GoodIn wsX5_annul wsX1_give := goodIn_r _ [48, 42, 43, 44, 49, 7, 8, 9, 10, 11, 57, 58, 59, 60, 61, 62, 63, 64, 65, 66, 67, 68, 69, 70, 71] (by decide +kernel) (by decide +kernel)
set_option maxRecDepth 20000 in
theorem gX5_annul_X1_give : GoodIn wsX5_annul (wsV RX5 111 RX1 yX1_give wsX1_give) := goodIn_app (goodIn_of _ (by decide +kernel)) ggX5_annul_X1_give
theorem dX5_annul_0 : decode cX5_annul 0 = .ok (.aload_n 0, 1) := by decide +kernel
theorem dX5_annul_1 : decode cX5_annul 1 = .ok (.getfield 10, 3) := by decide +kernel
theorem dX5_annul_4 : decode cX5_annul 4 = .ok (.iload_n 1, 1) := by decide +kernel
theorem dX5_annul_5 : decode cX5_annul 5 = .ok (.invokevirtual 93, 3) := by decide +kernel
theorem dX5_annul_8 : decode cX5_annul 8 = .ok (.ifCond .ne 13, 3) := by decide +kernel
theorem dX5_annul_11 : decode cX5_annul 11 = .ok (.new 69, 3) := by decide +kernel
theorem dX5_annul_14 : decode cX5_annul 14 = .ok (.dup, 1) := by decide +kernel
theorem dX5_annul_15 : decode cX5_annul 15 = .ok (.ldc 96, 2) := by decide +kernel
theorem dX5_annul_17 : decode cX5_annul 17 = .ok (.invokespecial 73, 3) := by decide +kernel
theorem dX5_annul_20 : decode cX5_annul 20 = .ok (.athrow, 1) := by decide +kernel
theorem dX5_annul_21 : decode cX5_annul 21 = .ok (.aload_n 0, 1) := by decide +kernel
theorem dX5_annul_22 : decode cX5_annul 22 = .ok (.getfield 33, 3) := by decide +kernel
theorem dX5_annul_25 : decode cX5_annul 25 = .ok (.aload_n 0, 1) := by decide +kernel
theorem dX5_annul_26 : decode cX5_annul 26 = .ok (.getfield 10, 3) := by decide +kernel
theorem dX5_annul_29 : decode cX5_annul 29 = .ok (.invokevirtual 57, 3) := by decide +kernel
theorem dX5_annul_32 : decode cX5_annul 32 = .ok (.aload_n 0, 1) := by decide +kernel
theorem dX5_annul_33 : decode cX5_annul 33 = .ok (.getfield 10, 3) := by decide +kernel
theorem dX5_annul_36 : decode cX5_annul 36 = .ok (.getfield 125, 3) := by decide +kernel
theorem dX5_annul_39 : decode cX5_annul 39 = .ok (.iload_n 1, 1) := by decide +kernel
theorem dX5_annul_40 : decode cX5_annul 40 = .ok (.iaload, 1) := by decide +kernel
theorem dX5_annul_41 : decode cX5_annul 41 = .ok (.ifCond .eq 7, 3) := by decide +kernel
theorem dX5_annul_44 : decode cX5_annul 44 = .ok (.iconst 1, 1) := by decide +kernel
theorem dX5_annul_45 : decode cX5_annul 45 = .ok (.goto 4, 3) := by decide +kernel
theorem dX5_annul_48 : decode cX5_annul 48 = .ok (.iconst 0, 1) := by decide +kernel
theorem dX5_annul_49 : decode cX5_annul 49 = .ok (.istore_n 2, 1) := by decide +kernel
theorem dX5_annul_50 : decode cX5_annul 50 = .ok (.aload_n 0, 1) := by decide +kernel
theorem dX5_annul_51 : decode cX5_annul 51 = .ok (.getfield 10, 3) := by decide +kernel
theorem dX5_annul_54 : decode cX5_annul 54 = .ok (.iload_n 1, 1) := by decide +kernel
theorem dX5_annul_55 : decode cX5_annul 55 = .ok (.iconst 0, 1) := by decide +kernel
theorem dX5_annul_56 : decode cX5_annul 56 = .ok (.iconst 0, 1) := by decide +kernel
theorem dX5_annul_57 : decode cX5_annul 57 = .ok (.iconst 0, 1) := by decide +kernel
theorem dX5_annul_58 : decode cX5_annul 58 = .ok (.invokevirtual 111, 3) := by decide +kernel
theorem dX5_annul_61 : decode cX5_annul 61 = .ok (.iload_n 2, 1) := by decide +kernel
theorem dX5_annul_62 : decode cX5_annul 62 = .ok (.ifCond .eq 7, 3) := by decide +kernel
theorem dX5_annul_65 : decode cX5_annul 65 = .ok (.iconst 1, 1) := by decide +kernel
theorem dX5_annul_66 : decode cX5_annul 66 = .ok (.goto 4, 3) := by decide +kernel
theorem dX5_annul_69 : decode cX5_annul 69 = .ok (.iconst 0, 1) := by decide +kernel
theorem dX5_annul_70 : decode cX5_annul 70 = .ok (.ireturn, 1) := by decide +kernel
set_option maxRecDepth 20000 in
theorem ggX5_set_X0_keep : GoodIn wsX5_set wsX0_keep := goodIn_r _ [14, 15, 16, 17, 18, 19, 13, 20, 21, 22, 23, 24, 25, 26, 27, 28, 29, 30, 31, 32, 33, 34, 35, 36, 37, 38, 39, 40, 41, 42, 43, 44, 67, 68, 52, 53, 54, 55, 56, 57, 58, 59, 60, 61, 62, 63, 64, 65, 66] (by decide +kernel) (by decide +kernel)
set_option maxRecDepth 20000 in
theorem gX5_set_X0_keep : GoodIn wsX5_set (wsV RX5 57 RX0 yX0_keep wsX0_keep) := goodIn_app (goodIn_of _ (by decide +kernel)) ggX5_set_X0_keep
theorem dX5_set_0 : decode cX5_set 0 = .ok (.iload_n 1, 1) := by decide +kernel
theorem dX5_set_1 : decode cX5_set 1 = .ok (.ifCond .lt 8, 3) := by decide +kernel
theorem dX5_set_4 : decode cX5_set 4 = .ok (.iload_n 1, 1) := by decide +kernel
theorem dX5_set_5 : decode cX5_set 5 = .ok (.iconst 4, 1) := by decide +kernel
theorem dX5_set_6 : decode cX5_set 6 = .ok (.if_icmp .lt 13, 3) := by decide +kernel
theorem dX5_set_9 : decode cX5_set 9 = .ok (.new 69, 3) := by decide +kernel
theorem dX5_set_12 : decode cX5_set 12 = .ok (.dup, 1) := by decide +kernel
theorem dX5_set_13 : decode cX5_set 13 = .ok (.ldc 128, 2) := by decide +kernel
theorem dX5_set_15 : decode cX5_set 15 = .ok (.invokespecial 73, 3) := by decide +kernel
theorem dX5_set_18 : decode cX5_set 18 = .ok (.athrow, 1) := by decide +kernel
theorem dX5_set_19 : decode cX5_set 19 = .ok (.iload_n 2, 1) := by decide +kernel
theorem dX5_set_20 : decode cX5_set 20 = .ok (.getstatic 130, 3) := by decide +kernel
theorem dX5_set_23 : decode cX5_set 23 = .ok (.iload_n 1, 1) := by decide +kernel
theorem dX5_set_24 : decode cX5_set 24 = .ok (.iaload, 1) := by decide +kernel
theorem dX5_set_25 : decode cX5_set 25 = .ok (.if_icmp .lt 12, 3) := by decide +kernel
theorem dX5_set_28 : decode cX5_set 28 = .ok (.iload_n 2, 1) := by decide +kernel
theorem dX5_set_29 : decode cX5_set 29 = .ok (.getstatic 133, 3) := by decide +kernel
theorem dX5_set_32 : decode cX5_set 32 = .ok (.iload_n 1, 1) := by decide +kernel
theorem dX5_set_33 : decode cX5_set 33 = .ok (.iaload, 1) := by decide +kernel
theorem dX5_set_34 : decode cX5_set 34 = .ok (.if_icmp .le 13, 3) := by decide +kernel
theorem dX5_set_37 : decode cX5_set 37 = .ok (.new 50, 3) := by decide +kernel
theorem dX5_set_40 : decode cX5_set 40 = .ok (.dup, 1) := by decide +kernel
theorem dX5_set_41 : decode cX5_set 41 = .ok (.ldc 136, 2) := by decide +kernel
theorem dX5_set_43 : decode cX5_set 43 = .ok (.invokespecial 54, 3) := by decide +kernel
theorem dX5_set_46 : decode cX5_set 46 = .ok (.athrow, 1) := by decide +kernel
theorem dX5_set_47 : decode cX5_set 47 = .ok (.aload_n 0, 1) := by decide +kernel
theorem dX5_set_48 : decode cX5_set 48 = .ok (.getfield 33, 3) := by decide +kernel
theorem dX5_set_51 : decode cX5_set 51 = .ok (.aload_n 0, 1) := by decide +kernel
theorem dX5_set_52 : decode cX5_set 52 = .ok (.getfield 10, 3) := by decide +kernel
theorem dX5_set_55 : decode cX5_set 55 = .ok (.invokevirtual 57, 3) := by decide +kernel
theorem dX5_set_58 : decode cX5_set 58 = .ok (.aload_n 0, 1) := by decide +kernel
theorem dX5_set_59 : decode cX5_set 59 = .ok (.getfield 10, 3) := by decide +kernel
theorem dX5_set_62 : decode cX5_set 62 = .ok (.getfield 138, 3) := by decide +kernel
theorem dX5_set_65 : decode cX5_set 65 = .ok (.iload_n 1, 1) := by decide +kernel
theorem dX5_set_66 : decode cX5_set 66 = .ok (.iaload, 1) := by decide +kernel
theorem dX5_set_67 : decode cX5_set 67 = .ok (.istore_n 3, 1) := by decide +kernel
theorem dX5_set_68 : decode cX5_set 68 = .ok (.aload_n 0, 1) := by decide +kernel
theorem dX5_set_69 : decode cX5_set 69 = .ok (.getfield 10, 3) := by decide +kernel
theorem dX5_set_72 : decode cX5_set 72 = .ok (.getfield 138, 3) := by decide +kernel
theorem dX5_set_75 : decode cX5_set 75 = .ok (.iload_n 1, 1) := by decide +kernel
theorem dX5_set_76 : decode cX5_set 76 = .ok (.iload_n 2, 1) := by decide +kernel
theorem dX5_set_77 : decode cX5_set 77 = .ok (.iastore, 1) := by decide +kernel
theorem dX5_set_78 : decode cX5_set 78 = .ok (.iload_n 3, 1) := by decide +kernel
theorem dX5_set_79 : decode cX5_set 79 = .ok (.ireturn, 1) := by decide +kernel
set_option maxRecDepth 20000 in
theorem ggX5_undo_X0_restore : GoodIn wsX5_undo wsX0_restore := goodIn_r _ [10, 11, 12, 13, 14, 15, 16, 17, 18, 19, 20, 21, 22, 23, 24, 25, 26, 27, 28, 29, 30, 31, 32, 33, 34, 35, 36, 44, 45, 46, 47, 48, 49, 50, 51, 52, 53, 54, 55, 56, 57, 58, 59, 60] (by decide +kernel) (by decide +kernel)
set_option maxRecDepth 20000 in
theorem gX5_undo_X0_restore : GoodIn wsX5_undo (wsV RX5 189 RX0 yX0_restore wsX0_restore) := goodIn_app (goodIn_of _ (by decide +kernel)) ggX5_undo_X0_restore
theorem dX5_undo_0 : decode cX5_undo 0 = .ok (.aload_n 0, 1) := by decide +kernel
theorem dX5_undo_1 : decode cX5_undo 1 = .ok (.getfield 33, 3) := by decide +kernel
theorem dX5_undo_4 : decode cX5_undo 4 = .ok (.getfield 184, 3) := by decide +kernel
theorem dX5_undo_7 : decode cX5_undo 7 = .ok (.ifCond .ne 13, 3) := by decide +kernel
theorem dX5_undo_10 : decode cX5_undo 10 = .ok (.new 106, 3) := by decide +kernel
theorem dX5_undo_13 : decode cX5_undo 13 = .ok (.dup, 1) := by decide +kernel
theorem dX5_undo_14 : decode cX5_undo 14 = .ok (.ldc 187, 2) := by decide +kernel
theorem dX5_undo_16 : decode cX5_undo 16 = .ok (.invokespecial 110, 3) := by decide +kernel
theorem dX5_undo_19 : decode cX5_undo 19 = .ok (.athrow, 1) := by decide +kernel
theorem dX5_undo_20 : decode cX5_undo 20 = .ok (.aload_n 0, 1) := by decide +kernel
theorem dX5_undo_21 : decode cX5_undo 21 = .ok (.getfield 33, 3) := by decide +kernel
theorem dX5_undo_24 : decode cX5_undo 24 = .ok (.aload_n 0, 1) := by decide +kernel
theorem dX5_undo_25 : decode cX5_undo 25 = .ok (.getfield 10, 3) := by decide +kernel
theorem dX5_undo_28 : decode cX5_undo 28 = .ok (.invokevirtual 189, 3) := by decide +kernel
theorem dX5_undo_31 : decode cX5_undo 31 = .ok (.aload_n 0, 1) := by decide +kernel
theorem dX5_undo_32 : decode cX5_undo 32 = .ok (.getfield 33, 3) := by decide +kernel
theorem dX5_undo_35 : decode cX5_undo 35 = .ok (.getfield 184, 3) := by decide +kernel
theorem dX5_undo_38 : decode cX5_undo 38 = .ok (.ireturn, 1) := by decide +kernel
set_option maxRecDepth 20000 in
theorem ggX5_match_X1_hasMatch : GoodIn wsX5_match wsX1_hasMatch := goodIn_r _ [10, 11, 38, 39, 40, 41, 42, 43, 44, 45, 46, 47, 48, 49, 50, 51, 52] (by decide +kernel) (by decide +kernel)
set_option maxRecDepth 20000 in
theorem gX5_match_X1_hasMatch : GoodIn wsX5_match (wsV RX5 93 RX1 yX1_hasMatch wsX1_hasMatch) := goodIn_app (goodIn_of _ (by decide +kernel)) ggX5_match_X1_hasMatch
set_option maxRecDepth 20000 in
theorem ggX5_match_X1_property : GoodIn wsX5_match wsX1_property := goodIn_r _ [15, 16, 17, 18, 19, 20, 21, 22, 23, 7, 8, 9, 10, 11, 24, 25, 26, 27, 28, 29, 30, 38, 39, 40, 41, 42, 43, 44, 45, 46, 47, 48, 49, 50, 51, 52] (by decide +kernel) (by decide +kernel)
set_option maxRecDepth 20000 in
theorem gX5_match_X1_property : GoodIn wsX5_match (wsV RX5 194 RX1 yX1_property wsX1_property) := goodIn_app (goodIn_of _ (by decide +kernel)) ggX5_match_X1_property
theorem dX5_match_0 : decode cX5_match 0 = .ok (.aload_n 0, 1) := by decide +kernel
theorem dX5_match_1 : decode cX5_match 1 = .ok (.getfield 10, 3) := by decide +kernel
theorem dX5_match_4 : decode cX5_match 4 = .ok (.iload_n 1, 1) := by decide +kernel
theorem dX5_match_5 : decode cX5_match 5 = .ok (.invokevirtual 93, 3) := by decide +kernel
theorem dX5_match_8 : decode cX5_match 8 = .ok (.ifCond .ne 13, 3) := by decide +kernel
theorem dX5_match_11 : decode cX5_match 11 = .ok (.new 69, 3) := by decide +kernel
theorem dX5_match_14 : decode cX5_match 14 = .ok (.dup, 1) := by decide +kernel
theorem dX5_match_15 : decode cX5_match 15 = .ok (.ldc 96, 2) := by decide +kernel
theorem dX5_match_17 : decode cX5_match 17 = .ok (.invokespecial 73, 3) := by decide +kernel
theorem dX5_match_20 : decode cX5_match 20 = .ok (.athrow, 1) := by decide +kernel
theorem dX5_match_21 : decode cX5_match 21 = .ok (.iload_n 2, 1) := by decide +kernel
theorem dX5_match_22 : decode cX5_match 22 = .ok (.ifCond .lt 9, 3) := by decide +kernel
theorem dX5_match_25 : decode cX5_match 25 = .ok (.iload_n 2, 1) := by decide +kernel
theorem dX5_match_26 : decode cX5_match 26 = .ok (.bipush 9, 2) := by decide +kernel
theorem dX5_match_28 : decode cX5_match 28 = .ok (.if_icmp .lt 13, 3) := by decide +kernel
theorem dX5_match_31 : decode cX5_match 31 = .ok (.new 50, 3) := by decide +kernel
theorem dX5_match_34 : decode cX5_match 34 = .ok (.dup, 1) := by decide +kernel
theorem dX5_match_35 : decode cX5_match 35 = .ok (.ldc 192, 2) := by decide +kernel
theorem dX5_match_37 : decode cX5_match 37 = .ok (.invokespecial 54, 3) := by decide +kernel
theorem dX5_match_40 : decode cX5_match 40 = .ok (.athrow, 1) := by decide +kernel
theorem dX5_match_41 : decode cX5_match 41 = .ok (.aload_n 0, 1) := by decide +kernel
theorem dX5_match_42 : decode cX5_match 42 = .ok (.getfield 10, 3) := by decide +kernel
theorem dX5_match_45 : decode cX5_match 45 = .ok (.iload_n 1, 1) := by decide +kernel
theorem dX5_match_46 : decode cX5_match 46 = .ok (.iload_n 2, 1) := by decide +kernel
theorem dX5_match_47 : decode cX5_match 47 = .ok (.invokevirtual 194, 3) := by decide +kernel
theorem dX5_match_50 : decode cX5_match 50 = .ok (.ireturn, 1) := by decide +kernel
set_option maxRecDepth 20000 in
theorem ggX5_team_X1_hasTeam : GoodIn wsX5_team wsX1_hasTeam := goodIn_r _ [11, 12, 81, 82, 83, 84, 85, 86, 87, 88, 89, 90, 91, 92, 93, 94, 95] (by decide +kernel) (by decide +kernel)
set_option maxRecDepth 20000 in
theorem gX5_team_X1_hasTeam : GoodIn wsX5_team (wsV RX5 198 RX1 yX1_hasTeam wsX1_hasTeam) := goodIn_app (goodIn_of _ (by decide +kernel)) ggX5_team_X1_hasTeam
set_option maxRecDepth 20000 in
theorem ggX5_team_X4_countUp : GoodIn wsX5_team wsX4_countUp := goodIn_r _ [17, 18, 19, 20, 21, 22, 23, 24, 25, 26, 27, 28, 29, 30, 31, 32, 33, 34, 35, 16, 36, 37, 38, 39, 40, 41, 42, 43, 44, 45, 46, 10, 47, 48, 49, 50, 51, 52, 53, 54, 55, 56, 57, 58, 59, 60, 61, 81, 82, 83, 84, 85, 86, 87, 88, 89, 90, 91, 92, 93, 94, 95, 96, 97, 98, 99, 100, 101, 102, 103, 104] (by decide +kernel) (by decide +kernel)
set_option maxRecDepth 20000 in
theorem gX5_team_X4_countUp : GoodIn wsX5_team (wsV RX5 205 RX4 yX4_countUp wsX4_countUp) := goodIn_app (goodIn_of _ (by decide +kernel)) ggX5_team_X4_countUp
set_option maxRecDepth 20000 in
theorem ggX5_team_X4_property : GoodIn wsX5_team wsX4_property := goodIn_r _ [65, 24, 25, 26, 27, 28, 29, 30, 31, 40, 41, 42, 16, 43, 23, 66, 67, 68, 69, 70, 71, 72, 73, 96, 97, 98, 99, 100, 101, 102, 103, 104] (by decide +kernel) (by decide +kernel)
set_option maxRecDepth 20000 in
theorem gX5_team_X4_property : GoodIn wsX5_team (wsV RX5 208 RX4 yX4_property wsX4_property) := goodIn_app (goodIn_of _ (by decide +kernel)) ggX5_team_X4_property
theorem dX5_team_0 : decode cX5_team 0 = .ok (.aload_n 0, 1) := by decide +kernel
theorem dX5_team_1 : decode cX5_team 1 = .ok (.getfield 10, 3) := by decide +kernel
theorem dX5_team_4 : decode cX5_team 4 = .ok (.iload_n 1, 1) := by decide +kernel
theorem dX5_team_5 : decode cX5_team 5 = .ok (.invokevirtual 198, 3) := by decide +kernel
theorem dX5_team_8 : decode cX5_team 8 = .ok (.ifCond .ne 13, 3) := by decide +kernel
theorem dX5_team_11 : decode cX5_team 11 = .ok (.new 69, 3) := by decide +kernel
theorem dX5_team_14 : decode cX5_team 14 = .ok (.dup, 1) := by decide +kernel
theorem dX5_team_15 : decode cX5_team 15 = .ok (.ldc 201, 2) := by decide +kernel
theorem dX5_team_17 : decode cX5_team 17 = .ok (.invokespecial 73, 3) := by decide +kernel
theorem dX5_team_20 : decode cX5_team 20 = .ok (.athrow, 1) := by decide +kernel
theorem dX5_team_21 : decode cX5_team 21 = .ok (.iload_n 2, 1) := by decide +kernel
theorem dX5_team_22 : decode cX5_team 22 = .ok (.ifCond .lt 9, 3) := by decide +kernel
theorem dX5_team_25 : decode cX5_team 25 = .ok (.iload_n 2, 1) := by decide +kernel
theorem dX5_team_26 : decode cX5_team 26 = .ok (.bipush 9, 2) := by decide +kernel
theorem dX5_team_28 : decode cX5_team 28 = .ok (.if_icmp .lt 13, 3) := by decide +kernel
theorem dX5_team_31 : decode cX5_team 31 = .ok (.new 50, 3) := by decide +kernel
theorem dX5_team_34 : decode cX5_team 34 = .ok (.dup, 1) := by decide +kernel
theorem dX5_team_35 : decode cX5_team 35 = .ok (.ldc 203, 2) := by decide +kernel
theorem dX5_team_37 : decode cX5_team 37 = .ok (.invokespecial 54, 3) := by decide +kernel
theorem dX5_team_40 : decode cX5_team 40 = .ok (.athrow, 1) := by decide +kernel
theorem dX5_team_41 : decode cX5_team 41 = .ok (.aload_n 0, 1) := by decide +kernel
theorem dX5_team_42 : decode cX5_team 42 = .ok (.getfield 19, 3) := by decide +kernel
theorem dX5_team_45 : decode cX5_team 45 = .ok (.aload_n 0, 1) := by decide +kernel
theorem dX5_team_46 : decode cX5_team 46 = .ok (.getfield 10, 3) := by decide +kernel
theorem dX5_team_49 : decode cX5_team 49 = .ok (.invokevirtual 205, 3) := by decide +kernel
theorem dX5_team_52 : decode cX5_team 52 = .ok (.aload_n 0, 1) := by decide +kernel
theorem dX5_team_53 : decode cX5_team 53 = .ok (.getfield 19, 3) := by decide +kernel
theorem dX5_team_56 : decode cX5_team 56 = .ok (.iload_n 1, 1) := by decide +kernel
theorem dX5_team_57 : decode cX5_team 57 = .ok (.iload_n 2, 1) := by decide +kernel
theorem dX5_team_58 : decode cX5_team 58 = .ok (.invokevirtual 208, 3) := by decide +kernel
theorem dX5_team_61 : decode cX5_team 61 = .ok (.ireturn, 1) := by decide +kernel
set_option maxRecDepth 20000 in
theorem ggX5_table_X4_countUp : GoodIn wsX5_table wsX4_countUp := goodIn_r _ [9, 10, 11, 12, 13, 14, 15, 16, 17, 18, 19, 20, 21, 22, 23, 24, 25, 26, 27, 8, 28, 29, 30, 31, 32, 33, 34, 35, 36, 37, 38, 39, 40, 41, 42, 43, 44, 45, 46, 47, 48, 49, 50, 51, 52, 53, 54, 74, 75, 76, 77, 78, 79, 80, 81, 82, 83, 84, 85, 86, 87, 88, 89, 90, 91, 92, 93, 94, 95, 96, 97] (by decide +kernel) (by decide +kernel)
set_option maxRecDepth 20000 in
theorem gX5_table_X4_countUp : GoodIn wsX5_table (wsV RX5 205 RX4 yX4_countUp wsX4_countUp) := goodIn_app (goodIn_of _ (by decide +kernel)) ggX5_table_X4_countUp
set_option maxRecDepth 20000 in
theorem ggX5_table_X4_teamAt : GoodIn wsX5_table wsX4_teamAt := goodIn_r _ [58, 15, 59, 60, 61, 8, 62, 63, 64, 65, 66, 16, 20, 21, 32, 33, 34, 35, 89, 90, 91, 92, 93, 94, 95, 96, 97] (by decide +kernel) (by decide +kernel)
set_option maxRecDepth 20000 in
theorem gX5_table_X4_teamAt : GoodIn wsX5_table (wsV RX5 211 RX4 yX4_teamAt wsX4_teamAt) := goodIn_app (goodIn_of _ (by decide +kernel)) ggX5_table_X4_teamAt
theorem dX5_table_0 : decode cX5_table 0 = .ok (.iload_n 1, 1) := by decide +kernel
theorem dX5_table_1 : decode cX5_table 1 = .ok (.ifCond .ge 13, 3) := by decide +kernel
theorem dX5_table_4 : decode cX5_table 4 = .ok (.new 50, 3) := by decide +kernel
theorem dX5_table_7 : decode cX5_table 7 = .ok (.dup, 1) := by decide +kernel
theorem dX5_table_8 : decode cX5_table 8 = .ok (.ldc 209, 2) := by decide +kernel
theorem dX5_table_10 : decode cX5_table 10 = .ok (.invokespecial 54, 3) := by decide +kernel
theorem dX5_table_13 : decode cX5_table 13 = .ok (.athrow, 1) := by decide +kernel
theorem dX5_table_14 : decode cX5_table 14 = .ok (.aload_n 0, 1) := by decide +kernel
theorem dX5_table_15 : decode cX5_table 15 = .ok (.getfield 19, 3) := by decide +kernel
theorem dX5_table_18 : decode cX5_table 18 = .ok (.aload_n 0, 1) := by decide +kernel
theorem dX5_table_19 : decode cX5_table 19 = .ok (.getfield 10, 3) := by decide +kernel
theorem dX5_table_22 : decode cX5_table 22 = .ok (.invokevirtual 205, 3) := by decide +kernel
theorem dX5_table_25 : decode cX5_table 25 = .ok (.aload_n 0, 1) := by decide +kernel
theorem dX5_table_26 : decode cX5_table 26 = .ok (.getfield 19, 3) := by decide +kernel
theorem dX5_table_29 : decode cX5_table 29 = .ok (.iload_n 1, 1) := by decide +kernel
theorem dX5_table_30 : decode cX5_table 30 = .ok (.invokevirtual 211, 3) := by decide +kernel
theorem dX5_table_33 : decode cX5_table 33 = .ok (.ireturn, 1) := by decide +kernel
set_option maxRecDepth 20000 in
theorem ggX5_busy_X5_isVenueOrSetter : GoodIn wsX5_busy wsX5_isVenueOrSetter := goodIn_r _ [12] (by decide +kernel) (by decide +kernel)
set_option maxRecDepth 20000 in
theorem gX5_busy_X5_isVenueOrSetter : GoodIn wsX5_busy (va_wsS RX5 219 yX5_isVenueOrSetter wsX5_isVenueOrSetter) := goodIn_app (goodIn_of _ (by decide +kernel)) ggX5_busy_X5_isVenueOrSetter
set_option maxRecDepth 20000 in
theorem ggX5_busy_X1_matchInRound : GoodIn wsX5_busy wsX1_matchInRound := goodIn_r _ [17, 18, 19, 27, 28, 29, 30, 31, 32, 33, 34, 35, 36, 37, 38, 39, 40, 41] (by decide +kernel) (by decide +kernel)
set_option maxRecDepth 20000 in
theorem gX5_busy_X1_matchInRound : GoodIn wsX5_busy (wsV RX5 227 RX1 yX1_matchInRound wsX1_matchInRound) := goodIn_app (goodIn_of _ (by decide +kernel)) ggX5_busy_X1_matchInRound
theorem dX5_busy_0 : decode cX5_busy 0 = .ok (.iload_n 1, 1) := by decide +kernel
theorem dX5_busy_1 : decode cX5_busy 1 = .ok (.ifCond .lt 14, 3) := by decide +kernel
theorem dX5_busy_4 : decode cX5_busy 4 = .ok (.iload_n 1, 1) := by decide +kernel
theorem dX5_busy_5 : decode cX5_busy 5 = .ok (.aload_n 0, 1) := by decide +kernel
theorem dX5_busy_6 : decode cX5_busy 6 = .ok (.getfield 10, 3) := by decide +kernel
theorem dX5_busy_9 : decode cX5_busy 9 = .ok (.getfield 214, 3) := by decide +kernel
theorem dX5_busy_12 : decode cX5_busy 12 = .ok (.if_icmp .lt 13, 3) := by decide +kernel
theorem dX5_busy_15 : decode cX5_busy 15 = .ok (.new 69, 3) := by decide +kernel
theorem dX5_busy_18 : decode cX5_busy 18 = .ok (.dup, 1) := by decide +kernel
theorem dX5_busy_19 : decode cX5_busy 19 = .ok (.ldc 217, 2) := by decide +kernel
theorem dX5_busy_21 : decode cX5_busy 21 = .ok (.invokespecial 73, 3) := by decide +kernel
theorem dX5_busy_24 : decode cX5_busy 24 = .ok (.athrow, 1) := by decide +kernel
theorem dX5_busy_25 : decode cX5_busy 25 = .ok (.iload_n 2, 1) := by decide +kernel
theorem dX5_busy_26 : decode cX5_busy 26 = .ok (.invokestatic 219, 3) := by decide +kernel
theorem dX5_busy_29 : decode cX5_busy 29 = .ok (.ifCond .ne 13, 3) := by decide +kernel
theorem dX5_busy_32 : decode cX5_busy 32 = .ok (.new 50, 3) := by decide +kernel
theorem dX5_busy_35 : decode cX5_busy 35 = .ok (.dup, 1) := by decide +kernel
theorem dX5_busy_36 : decode cX5_busy 36 = .ok (.ldc 222, 2) := by decide +kernel
theorem dX5_busy_38 : decode cX5_busy 38 = .ok (.invokespecial 54, 3) := by decide +kernel
theorem dX5_busy_41 : decode cX5_busy 41 = .ok (.athrow, 1) := by decide +kernel
theorem dX5_busy_42 : decode cX5_busy 42 = .ok (.iload_n 2, 1) := by decide +kernel
theorem dX5_busy_43 : decode cX5_busy 43 = .ok (.bipush 6, 2) := by decide +kernel
theorem dX5_busy_45 : decode cX5_busy 45 = .ok (.if_icmp .ge 20, 3) := by decide +kernel
theorem dX5_busy_48 : decode cX5_busy 48 = .ok (.aload_n 0, 1) := by decide +kernel
theorem dX5_busy_49 : decode cX5_busy 49 = .ok (.getfield 10, 3) := by decide +kernel
theorem dX5_busy_52 : decode cX5_busy 52 = .ok (.iload_n 1, 1) := by decide +kernel
theorem dX5_busy_53 : decode cX5_busy 53 = .ok (.aload_n 0, 1) := by decide +kernel
theorem dX5_busy_54 : decode cX5_busy 54 = .ok (.getfield 10, 3) := by decide +kernel
theorem dX5_busy_57 : decode cX5_busy 57 = .ok (.getfield 224, 3) := by decide +kernel
theorem dX5_busy_60 : decode cX5_busy 60 = .ok (.iload_n 2, 1) := by decide +kernel
theorem dX5_busy_61 : decode cX5_busy 61 = .ok (.invokevirtual 227, 3) := by decide +kernel
theorem dX5_busy_64 : decode cX5_busy 64 = .ok (.ireturn, 1) := by decide +kernel
theorem dX5_busy_65 : decode cX5_busy 65 = .ok (.aload_n 0, 1) := by decide +kernel
theorem dX5_busy_66 : decode cX5_busy 66 = .ok (.getfield 10, 3) := by decide +kernel
theorem dX5_busy_69 : decode cX5_busy 69 = .ok (.iload_n 1, 1) := by decide +kernel
theorem dX5_busy_70 : decode cX5_busy 70 = .ok (.aload_n 0, 1) := by decide +kernel
theorem dX5_busy_71 : decode cX5_busy 71 = .ok (.getfield 10, 3) := by decide +kernel
theorem dX5_busy_74 : decode cX5_busy 74 = .ok (.getfield 231, 3) := by decide +kernel
theorem dX5_busy_77 : decode cX5_busy 77 = .ok (.iload_n 2, 1) := by decide +kernel
theorem dX5_busy_78 : decode cX5_busy 78 = .ok (.bipush 6, 2) := by decide +kernel
theorem dX5_busy_80 : decode cX5_busy 80 = .ok (.isub, 1) := by decide +kernel
theorem dX5_busy_81 : decode cX5_busy 81 = .ok (.invokevirtual 227, 3) := by decide +kernel
theorem dX5_busy_84 : decode cX5_busy 84 = .ok (.ireturn, 1) := by decide +kernel
set_option maxRecDepth 20000 in
theorem ggX5_count_X4_countUp : GoodIn wsX5_count wsX4_countUp := goodIn_r _ [9, 10, 11, 12, 13, 14, 15, 16, 17, 18, 19, 20, 21, 22, 23, 24, 25, 26, 27, 8, 28, 29, 30, 31, 32, 33, 34, 35, 36, 37, 38, 39, 40, 41, 42, 43, 44, 45, 46, 47, 48, 49, 50, 51, 52, 53, 54, 98, 99, 100, 101, 102, 103, 104, 105, 106, 107, 108, 109, 110, 111, 112, 113, 114, 115, 116, 117, 118, 119, 120, 121] (by decide +kernel) (by decide +kernel)
set_option maxRecDepth 20000 in
theorem gX5_count_X4_countUp : GoodIn wsX5_count (wsV RX5 205 RX4 yX4_countUp wsX4_countUp) := goodIn_app (goodIn_of _ (by decide +kernel)) ggX5_count_X4_countUp
set_option maxRecDepth 20000 in
theorem ggX5_count_X5_number : GoodIn wsX5_count wsX5_number := goodIn_r _ [59, 4, 60, 61, 62, 3, 63, 64, 65, 66, 67, 68, 69, 39, 70, 49, 71, 72, 73, 74, 75, 41, 76, 77, 78, 79, 80, 81, 82, 8, 83, 15, 16, 84, 85, 86, 87, 88, 89, 13, 90, 91, 92, 93, 94, 95, 96, 97, 98, 99, 100, 101, 102, 103, 104, 105, 106, 107, 108, 109, 110, 111, 112, 122, 123, 113, 114, 115, 116, 117, 118, 119, 120, 121] (by decide +kernel) (by decide +kernel)
set_option maxRecDepth 20000 in
theorem gX5_count_X5_number : GoodIn wsX5_count (wsV RX5 236 RX5 yX5_number wsX5_number) := goodIn_app (goodIn_of _ (by decide +kernel)) ggX5_count_X5_number
theorem dX5_count_0 : decode cX5_count 0 = .ok (.iload_n 1, 1) := by decide +kernel
theorem dX5_count_1 : decode cX5_count 1 = .ok (.ifCond .lt 9, 3) := by decide +kernel
theorem dX5_count_4 : decode cX5_count 4 = .ok (.iload_n 1, 1) := by decide +kernel
theorem dX5_count_5 : decode cX5_count 5 = .ok (.bipush 10, 2) := by decide +kernel
theorem dX5_count_7 : decode cX5_count 7 = .ok (.if_icmp .lt 13, 3) := by decide +kernel
theorem dX5_count_10 : decode cX5_count 10 = .ok (.new 50, 3) := by decide +kernel
theorem dX5_count_13 : decode cX5_count 13 = .ok (.dup, 1) := by decide +kernel
theorem dX5_count_14 : decode cX5_count 14 = .ok (.ldc 234, 2) := by decide +kernel
theorem dX5_count_16 : decode cX5_count 16 = .ok (.invokespecial 54, 3) := by decide +kernel
theorem dX5_count_19 : decode cX5_count 19 = .ok (.athrow, 1) := by decide +kernel
theorem dX5_count_20 : decode cX5_count 20 = .ok (.aload_n 0, 1) := by decide +kernel
theorem dX5_count_21 : decode cX5_count 21 = .ok (.getfield 19, 3) := by decide +kernel
theorem dX5_count_24 : decode cX5_count 24 = .ok (.aload_n 0, 1) := by decide +kernel
theorem dX5_count_25 : decode cX5_count 25 = .ok (.getfield 10, 3) := by decide +kernel
theorem dX5_count_28 : decode cX5_count 28 = .ok (.invokevirtual 205, 3) := by decide +kernel
theorem dX5_count_31 : decode cX5_count 31 = .ok (.aload_n 0, 1) := by decide +kernel
theorem dX5_count_32 : decode cX5_count 32 = .ok (.iload_n 1, 1) := by decide +kernel
theorem dX5_count_33 : decode cX5_count 33 = .ok (.invokevirtual 236, 3) := by decide +kernel
theorem dX5_count_36 : decode cX5_count 36 = .ok (.ireturn, 1) := by decide +kernel
theorem dX5_setting_0 : decode cX5_setting 0 = .ok (.iload_n 1, 1) := by decide +kernel
theorem dX5_setting_1 : decode cX5_setting 1 = .ok (.ifCond .lt 8, 3) := by decide +kernel
theorem dX5_setting_4 : decode cX5_setting 4 = .ok (.iload_n 1, 1) := by decide +kernel
theorem dX5_setting_5 : decode cX5_setting 5 = .ok (.iconst 4, 1) := by decide +kernel
theorem dX5_setting_6 : decode cX5_setting 6 = .ok (.if_icmp .lt 13, 3) := by decide +kernel
theorem dX5_setting_9 : decode cX5_setting 9 = .ok (.new 69, 3) := by decide +kernel
theorem dX5_setting_12 : decode cX5_setting 12 = .ok (.dup, 1) := by decide +kernel
theorem dX5_setting_13 : decode cX5_setting 13 = .ok (.ldc 128, 2) := by decide +kernel
theorem dX5_setting_15 : decode cX5_setting 15 = .ok (.invokespecial 73, 3) := by decide +kernel
theorem dX5_setting_18 : decode cX5_setting 18 = .ok (.athrow, 1) := by decide +kernel
theorem dX5_setting_19 : decode cX5_setting 19 = .ok (.aload_n 0, 1) := by decide +kernel
theorem dX5_setting_20 : decode cX5_setting 20 = .ok (.getfield 10, 3) := by decide +kernel
theorem dX5_setting_23 : decode cX5_setting 23 = .ok (.getfield 138, 3) := by decide +kernel
theorem dX5_setting_26 : decode cX5_setting 26 = .ok (.iload_n 1, 1) := by decide +kernel
theorem dX5_setting_27 : decode cX5_setting 27 = .ok (.iaload, 1) := by decide +kernel
theorem dX5_setting_28 : decode cX5_setting 28 = .ok (.ireturn, 1) := by decide +kernel
set_option maxRecDepth 20000 in
theorem ggX5_meeting_X1_hasTeam : GoodIn wsX5_meeting wsX1_hasTeam := goodIn_r _ [10, 11, 26, 27, 28, 29, 30, 31, 32, 33, 34, 35, 36, 37, 38, 39, 40] (by decide +kernel) (by decide +kernel)
set_option maxRecDepth 20000 in
theorem gX5_meeting_X1_hasTeam : GoodIn wsX5_meeting (wsV RX5 198 RX1 yX1_hasTeam wsX1_hasTeam) := goodIn_app (goodIn_of _ (by decide +kernel)) ggX5_meeting_X1_hasTeam
set_option maxRecDepth 20000 in
theorem ggX5_meeting_X1_matchOfBoth : GoodIn wsX5_meeting wsX1_matchOfBoth := goodIn_r _ [15, 16, 17, 18, 26, 27, 28, 29, 30, 31, 32, 33, 34, 35, 36, 37, 38, 39, 40] (by decide +kernel) (by decide +kernel)
set_option maxRecDepth 20000 in
theorem gX5_meeting_X1_matchOfBoth : GoodIn wsX5_meeting (wsV RX5 241 RX1 yX1_matchOfBoth wsX1_matchOfBoth) := goodIn_app (goodIn_of _ (by decide +kernel)) ggX5_meeting_X1_matchOfBoth
theorem dX5_meeting_0 : decode cX5_meeting 0 = .ok (.aload_n 0, 1) := by decide +kernel
theorem dX5_meeting_1 : decode cX5_meeting 1 = .ok (.getfield 10, 3) := by decide +kernel
theorem dX5_meeting_4 : decode cX5_meeting 4 = .ok (.iload_n 1, 1) := by decide +kernel
theorem dX5_meeting_5 : decode cX5_meeting 5 = .ok (.invokevirtual 198, 3) := by decide +kernel
theorem dX5_meeting_8 : decode cX5_meeting 8 = .ok (.ifCond .eq 14, 3) := by decide +kernel
theorem dX5_meeting_11 : decode cX5_meeting 11 = .ok (.aload_n 0, 1) := by decide +kernel
theorem dX5_meeting_12 : decode cX5_meeting 12 = .ok (.getfield 10, 3) := by decide +kernel
theorem dX5_meeting_15 : decode cX5_meeting 15 = .ok (.iload_n 2, 1) := by decide +kernel
theorem dX5_meeting_16 : decode cX5_meeting 16 = .ok (.invokevirtual 198, 3) := by decide +kernel
theorem dX5_meeting_19 : decode cX5_meeting 19 = .ok (.ifCond .ne 13, 3) := by decide +kernel
theorem dX5_meeting_22 : decode cX5_meeting 22 = .ok (.new 69, 3) := by decide +kernel
theorem dX5_meeting_25 : decode cX5_meeting 25 = .ok (.dup, 1) := by decide +kernel
theorem dX5_meeting_26 : decode cX5_meeting 26 = .ok (.ldc 201, 2) := by decide +kernel
theorem dX5_meeting_28 : decode cX5_meeting 28 = .ok (.invokespecial 73, 3) := by decide +kernel
theorem dX5_meeting_31 : decode cX5_meeting 31 = .ok (.athrow, 1) := by decide +kernel
theorem dX5_meeting_32 : decode cX5_meeting 32 = .ok (.iload_n 1, 1) := by decide +kernel
theorem dX5_meeting_33 : decode cX5_meeting 33 = .ok (.iload_n 2, 1) := by decide +kernel
theorem dX5_meeting_34 : decode cX5_meeting 34 = .ok (.if_icmp .ne 13, 3) := by decide +kernel
theorem dX5_meeting_37 : decode cX5_meeting 37 = .ok (.new 50, 3) := by decide +kernel
theorem dX5_meeting_40 : decode cX5_meeting 40 = .ok (.dup, 1) := by decide +kernel
theorem dX5_meeting_41 : decode cX5_meeting 41 = .ok (.ldc 239, 2) := by decide +kernel
theorem dX5_meeting_43 : decode cX5_meeting 43 = .ok (.invokespecial 54, 3) := by decide +kernel
theorem dX5_meeting_46 : decode cX5_meeting 46 = .ok (.athrow, 1) := by decide +kernel
theorem dX5_meeting_47 : decode cX5_meeting 47 = .ok (.aload_n 0, 1) := by decide +kernel
theorem dX5_meeting_48 : decode cX5_meeting 48 = .ok (.getfield 10, 3) := by decide +kernel
theorem dX5_meeting_51 : decode cX5_meeting 51 = .ok (.iload_n 1, 1) := by decide +kernel
theorem dX5_meeting_52 : decode cX5_meeting 52 = .ok (.iload_n 2, 1) := by decide +kernel
theorem dX5_meeting_53 : decode cX5_meeting 53 = .ok (.invokevirtual 241, 3) := by decide +kernel
theorem dX5_meeting_56 : decode cX5_meeting 56 = .ok (.ireturn, 1) := by decide +kernel
set_option maxRecDepth 20000 in
theorem ggX5_bestPlace_X1_hasTeam : GoodIn wsX5_bestPlace wsX1_hasTeam := goodIn_r _ [8, 9, 106, 107, 108, 109, 110, 111, 112, 113, 114, 115, 116, 117, 118, 119, 120] (by decide +kernel) (by decide +kernel)
set_option maxRecDepth 20000 in
theorem gX5_bestPlace_X1_hasTeam : GoodIn wsX5_bestPlace (wsV RX5 198 RX1 yX1_hasTeam wsX1_hasTeam) := goodIn_app (goodIn_of _ (by decide +kernel)) ggX5_bestPlace_X1_hasTeam
set_option maxRecDepth 20000 in
theorem ggX5_bestPlace_X5_placeByWinningAll : GoodIn wsX5_bestPlace wsX5_placeByWinningAll := goodIn_r _ [14, 15, 3, 16, 17, 18, 19, 7, 20, 9, 21, 22, 23, 24, 25, 26, 27, 28, 29, 30, 31, 32, 33, 34, 35, 36, 37, 38, 39, 40, 41, 42, 43, 44, 45, 46, 47, 48, 49, 50, 51, 52, 53, 54, 55, 56, 57, 58, 59, 60, 61, 62, 63, 64, 65, 66, 67, 68, 69, 70, 71, 72, 73, 74, 75, 76, 77, 78, 79, 80, 81, 82, 83, 84, 85, 86, 87, 88, 89, 90, 91, 92, 93, 94, 95, 96, 97, 98, 99, 100, 101, 102, 103, 104, 105, 106, 107, 108, 109, 110, 111, 112, 113, 114, 115, 116, 117, 118, 119, 120, 121, 122, 123, 124, 125, 126, 127, 128, 129] (by decide +kernel) (by decide +kernel)
set_option maxRecDepth 20000 in
theorem gX5_bestPlace_X5_placeByWinningAll : GoodIn wsX5_bestPlace (wsV RX5 244 RX5 yX5_placeByWinningAll wsX5_placeByWinningAll) := goodIn_app (goodIn_of _ (by decide +kernel)) ggX5_bestPlace_X5_placeByWinningAll
theorem dX5_bestPlace_0 : decode cX5_bestPlace 0 = .ok (.aload_n 0, 1) := by decide +kernel
theorem dX5_bestPlace_1 : decode cX5_bestPlace 1 = .ok (.getfield 10, 3) := by decide +kernel
theorem dX5_bestPlace_4 : decode cX5_bestPlace 4 = .ok (.iload_n 1, 1) := by decide +kernel
theorem dX5_bestPlace_5 : decode cX5_bestPlace 5 = .ok (.invokevirtual 198, 3) := by decide +kernel
theorem dX5_bestPlace_8 : decode cX5_bestPlace 8 = .ok (.ifCond .ne 13, 3) := by decide +kernel
theorem dX5_bestPlace_11 : decode cX5_bestPlace 11 = .ok (.new 69, 3) := by decide +kernel
theorem dX5_bestPlace_14 : decode cX5_bestPlace 14 = .ok (.dup, 1) := by decide +kernel
theorem dX5_bestPlace_15 : decode cX5_bestPlace 15 = .ok (.ldc 201, 2) := by decide +kernel
theorem dX5_bestPlace_17 : decode cX5_bestPlace 17 = .ok (.invokespecial 73, 3) := by decide +kernel
theorem dX5_bestPlace_20 : decode cX5_bestPlace 20 = .ok (.athrow, 1) := by decide +kernel
theorem dX5_bestPlace_21 : decode cX5_bestPlace 21 = .ok (.aload_n 0, 1) := by decide +kernel
theorem dX5_bestPlace_22 : decode cX5_bestPlace 22 = .ok (.iload_n 1, 1) := by decide +kernel
theorem dX5_bestPlace_23 : decode cX5_bestPlace 23 = .ok (.invokevirtual 244, 3) := by decide +kernel
theorem dX5_bestPlace_26 : decode cX5_bestPlace 26 = .ok (.ireturn, 1) := by decide +kernel
set_option maxRecDepth 20000 in
theorem ggX5_isSure_X1_hasTeam : GoodIn wsX5_isSure wsX1_hasTeam := goodIn_r _ [10, 11, 72, 73, 74, 75, 76, 77, 78, 79, 80, 81, 82, 83, 84, 85, 86] (by decide +kernel) (by decide +kernel)
set_option maxRecDepth 20000 in
theorem gX5_isSure_X1_hasTeam : GoodIn wsX5_isSure (wsV RX5 198 RX1 yX1_hasTeam wsX1_hasTeam) := goodIn_app (goodIn_of _ (by decide +kernel)) ggX5_isSure_X1_hasTeam
set_option maxRecDepth 20000 in
theorem ggX5_isSure_X4_countUp : GoodIn wsX5_isSure wsX4_countUp := goodIn_r _ [16, 17, 18, 19, 20, 21, 22, 23, 24, 25, 26, 27, 28, 29, 30, 31, 32, 33, 34, 15, 35, 36, 37, 38, 39, 40, 41, 42, 43, 44, 45, 9, 46, 47, 48, 49, 50, 51, 52, 53, 54, 55, 56, 57, 58, 59, 60, 72, 73, 74, 75, 76, 77, 78, 79, 80, 81, 82, 83, 84, 85, 86, 87, 88, 89, 90, 91, 92, 93, 94, 95] (by decide +kernel) (by decide +kernel)
set_option maxRecDepth 20000 in
theorem gX5_isSure_X4_countUp : GoodIn wsX5_isSure (wsV RX5 205 RX4 yX4_countUp wsX4_countUp) := goodIn_app (goodIn_of _ (by decide +kernel)) ggX5_isSure_X4_countUp
set_option maxRecDepth 20000 in
theorem ggX5_isSure_X4_isOutOfReach : GoodIn wsX5_isSure wsX4_isOutOfReach := goodIn_r _ [64, 22, 23, 30, 39, 40, 41, 15, 42, 87, 88, 89, 90, 91, 92, 93, 94, 95] (by decide +kernel) (by decide +kernel)
set_option maxRecDepth 20000 in
theorem gX5_isSure_X4_isOutOfReach : GoodIn wsX5_isSure (wsV RX5 247 RX4 yX4_isOutOfReach wsX4_isOutOfReach) := goodIn_app (goodIn_of _ (by decide +kernel)) ggX5_isSure_X4_isOutOfReach
theorem dX5_isSure_0 : decode cX5_isSure 0 = .ok (.aload_n 0, 1) := by decide +kernel
theorem dX5_isSure_1 : decode cX5_isSure 1 = .ok (.getfield 10, 3) := by decide +kernel
theorem dX5_isSure_4 : decode cX5_isSure 4 = .ok (.iload_n 1, 1) := by decide +kernel
theorem dX5_isSure_5 : decode cX5_isSure 5 = .ok (.invokevirtual 198, 3) := by decide +kernel
theorem dX5_isSure_8 : decode cX5_isSure 8 = .ok (.ifCond .ne 13, 3) := by decide +kernel
theorem dX5_isSure_11 : decode cX5_isSure 11 = .ok (.new 69, 3) := by decide +kernel
theorem dX5_isSure_14 : decode cX5_isSure 14 = .ok (.dup, 1) := by decide +kernel
theorem dX5_isSure_15 : decode cX5_isSure 15 = .ok (.ldc 201, 2) := by decide +kernel
theorem dX5_isSure_17 : decode cX5_isSure 17 = .ok (.invokespecial 73, 3) := by decide +kernel
theorem dX5_isSure_20 : decode cX5_isSure 20 = .ok (.athrow, 1) := by decide +kernel
theorem dX5_isSure_21 : decode cX5_isSure 21 = .ok (.aload_n 0, 1) := by decide +kernel
theorem dX5_isSure_22 : decode cX5_isSure 22 = .ok (.getfield 19, 3) := by decide +kernel
theorem dX5_isSure_25 : decode cX5_isSure 25 = .ok (.aload_n 0, 1) := by decide +kernel
theorem dX5_isSure_26 : decode cX5_isSure 26 = .ok (.getfield 10, 3) := by decide +kernel
theorem dX5_isSure_29 : decode cX5_isSure 29 = .ok (.invokevirtual 205, 3) := by decide +kernel
theorem dX5_isSure_32 : decode cX5_isSure 32 = .ok (.aload_n 0, 1) := by decide +kernel
theorem dX5_isSure_33 : decode cX5_isSure 33 = .ok (.getfield 19, 3) := by decide +kernel
theorem dX5_isSure_36 : decode cX5_isSure 36 = .ok (.iload_n 1, 1) := by decide +kernel
theorem dX5_isSure_37 : decode cX5_isSure 37 = .ok (.aload_n 0, 1) := by decide +kernel
theorem dX5_isSure_38 : decode cX5_isSure 38 = .ok (.getfield 10, 3) := by decide +kernel
theorem dX5_isSure_41 : decode cX5_isSure 41 = .ok (.getfield 138, 3) := by decide +kernel
theorem dX5_isSure_44 : decode cX5_isSure 44 = .ok (.iconst 0, 1) := by decide +kernel
theorem dX5_isSure_45 : decode cX5_isSure 45 = .ok (.iaload, 1) := by decide +kernel
theorem dX5_isSure_46 : decode cX5_isSure 46 = .ok (.invokevirtual 247, 3) := by decide +kernel
theorem dX5_isSure_49 : decode cX5_isSure 49 = .ok (.ifCond .eq 7, 3) := by decide +kernel
theorem dX5_isSure_52 : decode cX5_isSure 52 = .ok (.iconst 1, 1) := by decide +kernel
theorem dX5_isSure_53 : decode cX5_isSure 53 = .ok (.goto 4, 3) := by decide +kernel
theorem dX5_isSure_56 : decode cX5_isSure 56 = .ok (.iconst 0, 1) := by decide +kernel
theorem dX5_isSure_57 : decode cX5_isSure 57 = .ok (.ireturn, 1) := by decide +kernel
set_option maxRecDepth 20000 in
theorem ggX5_ifMissing_X5_isVenueOrSetter : GoodIn wsX5_ifMissing wsX5_isVenueOrSetter := goodIn_r _ [6] (by decide +kernel) (by decide +kernel)
set_option maxRecDepth 20000 in
theorem gX5_ifMissing_X5_isVenueOrSetter : GoodIn wsX5_ifMissing (va_wsS RX5 219 yX5_isVenueOrSetter wsX5_isVenueOrSetter) := goodIn_app (goodIn_of _ (by decide +kernel)) ggX5_ifMissing_X5_isVenueOrSetter
set_option maxRecDepth 20000 in
theorem ggX5_ifMissing_X5_assignedWithout : GoodIn wsX5_ifMissing wsX5_assignedWithout := goodIn_r _ [10, 11, 12, 13, 14, 15, 16, 17, 18, 19, 20, 21, 22, 23, 24, 25, 26, 27, 28, 29, 30, 31, 32, 33, 34, 35, 36, 37, 38, 39, 40, 41, 42, 43, 44, 45, 46, 47, 48, 49, 50, 51, 52, 53, 54, 55, 56, 57, 58, 59, 60, 61, 62, 63, 64, 65, 66, 67, 68, 69, 70, 71, 72, 73, 74, 75, 76, 77, 78, 79, 80, 81, 82, 83, 84, 85, 86, 87, 88, 89, 90, 91, 92, 93, 94, 95, 96, 97, 98, 99, 100, 101, 102, 103, 104, 105, 106] (by decide +kernel) (by decide +kernel)
set_option maxRecDepth 20000 in
theorem gX5_ifMissing_X5_assignedWithout : GoodIn wsX5_ifMissing (wsV RX5 251 RX5 yX5_assignedWithout wsX5_assignedWithout) := goodIn_app (goodIn_of _ (by decide +kernel)) ggX5_ifMissing_X5_assignedWithout
theorem dX5_ifMissing_0 : decode cX5_ifMissing 0 = .ok (.iload_n 1, 1) := by decide +kernel
theorem dX5_ifMissing_1 : decode cX5_ifMissing 1 = .ok (.invokestatic 219, 3) := by decide +kernel
theorem dX5_ifMissing_4 : decode cX5_ifMissing 4 = .ok (.ifCond .ne 13, 3) := by decide +kernel
theorem dX5_ifMissing_7 : decode cX5_ifMissing 7 = .ok (.new 50, 3) := by decide +kernel
theorem dX5_ifMissing_10 : decode cX5_ifMissing 10 = .ok (.dup, 1) := by decide +kernel
theorem dX5_ifMissing_11 : decode cX5_ifMissing 11 = .ok (.ldc 222, 2) := by decide +kernel
theorem dX5_ifMissing_13 : decode cX5_ifMissing 13 = .ok (.invokespecial 54, 3) := by decide +kernel
theorem dX5_ifMissing_16 : decode cX5_ifMissing 16 = .ok (.athrow, 1) := by decide +kernel
theorem dX5_ifMissing_17 : decode cX5_ifMissing 17 = .ok (.aload_n 0, 1) := by decide +kernel
theorem dX5_ifMissing_18 : decode cX5_ifMissing 18 = .ok (.iload_n 1, 1) := by decide +kernel
theorem dX5_ifMissing_19 : decode cX5_ifMissing 19 = .ok (.invokevirtual 251, 3) := by decide +kernel
theorem dX5_ifMissing_22 : decode cX5_ifMissing 22 = .ok (.ireturn, 1) := by decide +kernel
set_option maxRecDepth 20000 in
theorem ggX5_closeness_X4_countUp : GoodIn wsX5_closeness wsX4_countUp := goodIn_r _ [7, 8, 9, 10, 11, 12, 13, 14, 15, 16, 17, 18, 19, 20, 21, 22, 23, 24, 25, 6, 26, 27, 28, 29, 30, 31, 32, 33, 34, 35, 36, 37, 38, 39, 40, 41, 42, 43, 44, 45, 46, 47, 48, 49, 50, 51, 52, 80, 81, 82, 83, 84, 85, 86, 87, 88, 89, 90, 91, 92, 93, 94, 95, 96, 97, 98, 99, 100, 101, 102, 103] (by decide +kernel) (by decide +kernel)
set_option maxRecDepth 20000 in
theorem gX5_closeness_X4_countUp : GoodIn wsX5_closeness (wsV RX5 205 RX4 yX4_countUp wsX4_countUp) := goodIn_app (goodIn_of _ (by decide +kernel)) ggX5_closeness_X4_countUp
set_option maxRecDepth 20000 in
theorem ggX5_closeness_X4_shareOfLast : GoodIn wsX5_closeness wsX4_shareOfLast := goodIn_r _ [56, 13, 57, 58, 59, 6, 60, 61, 62, 63, 64, 65, 66, 67, 68, 14, 18, 19, 30, 31, 32, 33, 69, 70, 71, 72, 15, 16, 17, 20, 21, 95, 96, 97, 98, 99, 100, 101, 102, 103] (by decide +kernel) (by decide +kernel)
set_option maxRecDepth 20000 in
theorem gX5_closeness_X4_shareOfLast : GoodIn wsX5_closeness (wsV RX5 254 RX4 yX4_shareOfLast wsX4_shareOfLast) := goodIn_app (goodIn_of _ (by decide +kernel)) ggX5_closeness_X4_shareOfLast
theorem dX5_closeness_0 : decode cX5_closeness 0 = .ok (.aload_n 0, 1) := by decide +kernel
theorem dX5_closeness_1 : decode cX5_closeness 1 = .ok (.getfield 19, 3) := by decide +kernel
theorem dX5_closeness_4 : decode cX5_closeness 4 = .ok (.aload_n 0, 1) := by decide +kernel
theorem dX5_closeness_5 : decode cX5_closeness 5 = .ok (.getfield 10, 3) := by decide +kernel
theorem dX5_closeness_8 : decode cX5_closeness 8 = .ok (.invokevirtual 205, 3) := by decide +kernel
theorem dX5_closeness_11 : decode cX5_closeness 11 = .ok (.aload_n 0, 1) := by decide +kernel
theorem dX5_closeness_12 : decode cX5_closeness 12 = .ok (.getfield 19, 3) := by decide +kernel
theorem dX5_closeness_15 : decode cX5_closeness 15 = .ok (.invokevirtual 254, 3) := by decide +kernel
theorem dX5_closeness_18 : decode cX5_closeness 18 = .ok (.dreturn, 1) := by decide +kernel
set_option maxRecDepth 20000 in
theorem ggX5_number_X1_withVenue : GoodIn wsX5_number wsX1_withVenue := goodIn_r _ [14, 15, 16, 48, 49, 50, 51, 52, 53, 54, 55, 56, 57, 58, 59, 60, 61, 62] (by decide +kernel) (by decide +kernel)
set_option maxRecDepth 20000 in
theorem gX5_number_X1_withVenue : GoodIn wsX5_number (wsV RX5 299 RX1 yX1_withVenue wsX1_withVenue) := goodIn_app (goodIn_of _ (by decide +kernel)) ggX5_number_X1_withVenue
set_option maxRecDepth 20000 in
theorem ggX5_number_X1_withResult : GoodIn wsX5_number wsX1_withResult := goodIn_r _ [20, 15, 21, 48, 49, 50, 51, 52, 53, 54, 55, 56, 57, 58, 59, 60, 61, 62] (by decide +kernel) (by decide +kernel)
set_option maxRecDepth 20000 in
theorem gX5_number_X1_withResult : GoodIn wsX5_number (wsV RX5 181 RX1 yX1_withResult wsX1_withResult) := goodIn_app (goodIn_of _ (by decide +kernel)) ggX5_number_X1_withResult
set_option maxRecDepth 20000 in
theorem ggX5_number_X1_walkovers : GoodIn wsX5_number wsX1_walkovers := goodIn_r _ [25, 15, 21, 48, 49, 50, 51, 52, 53, 54, 55, 56, 57, 58, 59, 60, 61, 62] (by decide +kernel) (by decide +kernel)
set_option maxRecDepth 20000 in
theorem gX5_number_X1_walkovers : GoodIn wsX5_number (wsV RX5 302 RX1 yX1_walkovers wsX1_walkovers) := goodIn_app (goodIn_of _ (by decide +kernel)) ggX5_number_X1_walkovers
set_option maxRecDepth 20000 in
theorem ggX5_number_X4_allPoints : GoodIn wsX5_number wsX4_allPoints := goodIn_r _ [30, 31, 32, 65, 66, 67, 68, 69, 70, 71, 72, 73] (by decide +kernel) (by decide +kernel)
set_option maxRecDepth 20000 in
theorem gX5_number_X4_allPoints : GoodIn wsX5_number (wsV RX5 305 RX4 yX4_allPoints wsX4_allPoints) := goodIn_app (goodIn_of _ (by decide +kernel)) ggX5_number_X4_allPoints
set_option maxRecDepth 20000 in
theorem ggX5_number_X1_mostOften : GoodIn wsX5_number wsX1_mostOften := goodIn_r _ [36, 15, 37, 38, 39, 40, 48, 49, 50, 51, 52, 53, 54, 55, 56, 57, 58, 59, 60, 61, 62] (by decide +kernel) (by decide +kernel)
set_option maxRecDepth 20000 in
theorem gX5_number_X1_mostOften : GoodIn wsX5_number (wsV RX5 308 RX1 yX1_mostOften wsX1_mostOften) := goodIn_app (goodIn_of _ (by decide +kernel)) ggX5_number_X1_mostOften
theorem dX5_number_0 : decode cX5_number 0 = .ok (.iload_n 1, 1) := by decide +kernel
theorem dX5_number_1 : decode cX5_number 1 = .ok (.tableswitch 141 0 8 #[51, 59, 67, 75, 83, 91, 99, 107, 124], 51) := by decide +kernel
theorem dX5_number_52 : decode cX5_number 52 = .ok (.aload_n 0, 1) := by decide +kernel
theorem dX5_number_53 : decode cX5_number 53 = .ok (.getfield 10, 3) := by decide +kernel
theorem dX5_number_56 : decode cX5_number 56 = .ok (.getfield 270, 3) := by decide +kernel
theorem dX5_number_59 : decode cX5_number 59 = .ok (.ireturn, 1) := by decide +kernel
theorem dX5_number_60 : decode cX5_number 60 = .ok (.aload_n 0, 1) := by decide +kernel
theorem dX5_number_61 : decode cX5_number 61 = .ok (.getfield 10, 3) := by decide +kernel
theorem dX5_number_64 : decode cX5_number 64 = .ok (.getfield 214, 3) := by decide +kernel
theorem dX5_number_67 : decode cX5_number 67 = .ok (.ireturn, 1) := by decide +kernel
theorem dX5_number_68 : decode cX5_number 68 = .ok (.aload_n 0, 1) := by decide +kernel
theorem dX5_number_69 : decode cX5_number 69 = .ok (.getfield 10, 3) := by decide +kernel
theorem dX5_number_72 : decode cX5_number 72 = .ok (.getfield 65, 3) := by decide +kernel
theorem dX5_number_75 : decode cX5_number 75 = .ok (.ireturn, 1) := by decide +kernel
theorem dX5_number_76 : decode cX5_number 76 = .ok (.aload_n 0, 1) := by decide +kernel
theorem dX5_number_77 : decode cX5_number 77 = .ok (.getfield 10, 3) := by decide +kernel
theorem dX5_number_80 : decode cX5_number 80 = .ok (.invokevirtual 299, 3) := by decide +kernel
theorem dX5_number_83 : decode cX5_number 83 = .ok (.ireturn, 1) := by decide +kernel
theorem dX5_number_84 : decode cX5_number 84 = .ok (.aload_n 0, 1) := by decide +kernel
theorem dX5_number_85 : decode cX5_number 85 = .ok (.getfield 10, 3) := by decide +kernel
theorem dX5_number_88 : decode cX5_number 88 = .ok (.invokevirtual 181, 3) := by decide +kernel
theorem dX5_number_91 : decode cX5_number 91 = .ok (.ireturn, 1) := by decide +kernel
theorem dX5_number_92 : decode cX5_number 92 = .ok (.aload_n 0, 1) := by decide +kernel
theorem dX5_number_93 : decode cX5_number 93 = .ok (.getfield 10, 3) := by decide +kernel
theorem dX5_number_96 : decode cX5_number 96 = .ok (.invokevirtual 302, 3) := by decide +kernel
theorem dX5_number_99 : decode cX5_number 99 = .ok (.ireturn, 1) := by decide +kernel
theorem dX5_number_100 : decode cX5_number 100 = .ok (.aload_n 0, 1) := by decide +kernel
theorem dX5_number_101 : decode cX5_number 101 = .ok (.getfield 19, 3) := by decide +kernel
theorem dX5_number_104 : decode cX5_number 104 = .ok (.invokevirtual 305, 3) := by decide +kernel
theorem dX5_number_107 : decode cX5_number 107 = .ok (.ireturn, 1) := by decide +kernel
theorem dX5_number_108 : decode cX5_number 108 = .ok (.aload_n 0, 1) := by decide +kernel
theorem dX5_number_109 : decode cX5_number 109 = .ok (.getfield 10, 3) := by decide +kernel
theorem dX5_number_112 : decode cX5_number 112 = .ok (.aload_n 0, 1) := by decide +kernel
theorem dX5_number_113 : decode cX5_number 113 = .ok (.getfield 10, 3) := by decide +kernel
theorem dX5_number_116 : decode cX5_number 116 = .ok (.getfield 231, 3) := by decide +kernel
theorem dX5_number_119 : decode cX5_number 119 = .ok (.bipush 6, 2) := by decide +kernel
theorem dX5_number_121 : decode cX5_number 121 = .ok (.invokevirtual 308, 3) := by decide +kernel
theorem dX5_number_124 : decode cX5_number 124 = .ok (.ireturn, 1) := by decide +kernel
theorem dX5_number_125 : decode cX5_number 125 = .ok (.aload_n 0, 1) := by decide +kernel
theorem dX5_number_126 : decode cX5_number 126 = .ok (.getfield 10, 3) := by decide +kernel
theorem dX5_number_129 : decode cX5_number 129 = .ok (.aload_n 0, 1) := by decide +kernel
theorem dX5_number_130 : decode cX5_number 130 = .ok (.getfield 10, 3) := by decide +kernel
theorem dX5_number_133 : decode cX5_number 133 = .ok (.getfield 224, 3) := by decide +kernel
theorem dX5_number_136 : decode cX5_number 136 = .ok (.bipush 6, 2) := by decide +kernel
theorem dX5_number_138 : decode cX5_number 138 = .ok (.invokevirtual 308, 3) := by decide +kernel
theorem dX5_number_141 : decode cX5_number 141 = .ok (.ireturn, 1) := by decide +kernel
theorem dX5_number_142 : decode cX5_number 142 = .ok (.aload_n 0, 1) := by decide +kernel
theorem dX5_number_143 : decode cX5_number 143 = .ok (.getfield 33, 3) := by decide +kernel
theorem dX5_number_146 : decode cX5_number 146 = .ok (.getfield 184, 3) := by decide +kernel
theorem dX5_number_149 : decode cX5_number 149 = .ok (.ireturn, 1) := by decide +kernel
set_option maxRecDepth 20000 in
theorem ggX5_pointsOf_X4_countUp : GoodIn wsX5_pointsOf wsX4_countUp := goodIn_r _ [7, 8, 9, 10, 11, 12, 13, 14, 15, 16, 17, 18, 19, 20, 21, 22, 23, 24, 25, 6, 26, 27, 28, 29, 30, 31, 32, 33, 34, 35, 36, 37, 38, 39, 40, 41, 42, 43, 44, 45, 46, 47, 48, 49, 50, 51, 52, 72, 73, 74, 75, 76, 77, 78, 79, 80, 81, 82, 83, 84, 85, 86, 87, 88, 89, 90, 91, 92, 93, 94, 95] (by decide +kernel) (by decide +kernel)
set_option maxRecDepth 20000 in
theorem gX5_pointsOf_X4_countUp : GoodIn wsX5_pointsOf (wsV RX5 205 RX4 yX4_countUp wsX4_countUp) := goodIn_app (goodIn_of _ (by decide +kernel)) ggX5_pointsOf_X4_countUp
set_option maxRecDepth 20000 in
theorem ggX5_pointsOf_X4_property : GoodIn wsX5_pointsOf wsX4_property := goodIn_r _ [56, 14, 15, 16, 17, 18, 19, 20, 21, 30, 31, 32, 6, 33, 13, 57, 58, 59, 60, 61, 62, 63, 64, 87, 88, 89, 90, 91, 92, 93, 94, 95] (by decide +kernel) (by decide +kernel)
set_option maxRecDepth 20000 in
theorem gX5_pointsOf_X4_property : GoodIn wsX5_pointsOf (wsV RX5 208 RX4 yX4_property wsX4_property) := goodIn_app (goodIn_of _ (by decide +kernel)) ggX5_pointsOf_X4_property
theorem dX5_pointsOf_0 : decode cX5_pointsOf 0 = .ok (.aload_n 0, 1) := by decide +kernel
theorem dX5_pointsOf_1 : decode cX5_pointsOf 1 = .ok (.getfield 19, 3) := by decide +kernel
theorem dX5_pointsOf_4 : decode cX5_pointsOf 4 = .ok (.aload_n 0, 1) := by decide +kernel
theorem dX5_pointsOf_5 : decode cX5_pointsOf 5 = .ok (.getfield 10, 3) := by decide +kernel
theorem dX5_pointsOf_8 : decode cX5_pointsOf 8 = .ok (.invokevirtual 205, 3) := by decide +kernel
theorem dX5_pointsOf_11 : decode cX5_pointsOf 11 = .ok (.aload_n 0, 1) := by decide +kernel
theorem dX5_pointsOf_12 : decode cX5_pointsOf 12 = .ok (.getfield 19, 3) := by decide +kernel
theorem dX5_pointsOf_15 : decode cX5_pointsOf 15 = .ok (.iload_n 1, 1) := by decide +kernel
theorem dX5_pointsOf_16 : decode cX5_pointsOf 16 = .ok (.iconst 0, 1) := by decide +kernel
theorem dX5_pointsOf_17 : decode cX5_pointsOf 17 = .ok (.invokevirtual 208, 3) := by decide +kernel
theorem dX5_pointsOf_20 : decode cX5_pointsOf 20 = .ok (.ireturn, 1) := by decide +kernel
set_option maxRecDepth 20000 in
theorem ggX5_placeByWinningAll_X1_copyFrom : GoodIn wsX5_placeByWinningAll wsX1_copyFrom := goodIn_r _ [8, 9, 10, 11, 12, 13, 14, 15, 16, 17, 18, 19, 20, 21, 22, 23, 24, 25, 26, 27, 95, 96, 97, 98, 99, 100, 101, 102, 103, 104, 105, 106, 107, 108, 109] (by decide +kernel) (by decide +kernel)
set_option maxRecDepth 20000 in
theorem gX5_placeByWinningAll_X1_copyFrom : GoodIn wsX5_placeByWinningAll (wsV RX5 312 RX1 yX1_copyFrom wsX1_copyFrom) := goodIn_app (goodIn_of _ (by decide +kernel)) ggX5_placeByWinningAll_X1_copyFrom
set_option maxRecDepth 20000 in
theorem ggX5_placeByWinningAll_X1_winAll : GoodIn wsX5_placeByWinningAll wsX1_winAll := goodIn_r _ [31, 11, 25, 20, 21, 32, 33, 34, 7, 35, 26, 27, 36, 37, 38, 39, 95, 96, 97, 98, 99, 100, 101, 102, 103, 104, 105, 106, 107, 108, 109] (by decide +kernel) (by decide +kernel)
set_option maxRecDepth 20000 in
theorem gX5_placeByWinningAll_X1_winAll : GoodIn wsX5_placeByWinningAll (wsV RX5 315 RX1 yX1_winAll wsX1_winAll) := goodIn_app (goodIn_of _ (by decide +kernel)) ggX5_placeByWinningAll_X1_winAll
set_option maxRecDepth 20000 in
theorem ggX5_placeByWinningAll_X4_countUp : GoodIn wsX5_placeByWinningAll wsX4_countUp := goodIn_r _ [44, 45, 46, 47, 48, 49, 50, 51, 52, 53, 54, 55, 56, 57, 58, 59, 60, 61, 62, 43, 63, 64, 65, 66, 67, 68, 69, 70, 71, 72, 73, 7, 74, 25, 27, 26, 12, 36, 37, 38, 39, 11, 75, 76, 77, 78, 79, 95, 96, 97, 98, 99, 100, 101, 102, 103, 104, 105, 106, 107, 108, 109, 110, 111, 112, 113, 114, 115, 116, 117, 118] (by decide +kernel) (by decide +kernel)
set_option maxRecDepth 20000 in
theorem gX5_placeByWinningAll_X4_countUp : GoodIn wsX5_placeByWinningAll (wsV RX5 205 RX4 yX4_countUp wsX4_countUp) := goodIn_app (goodIn_of _ (by decide +kernel)) ggX5_placeByWinningAll_X4_countUp
set_option maxRecDepth 20000 in
theorem ggX5_placeByWinningAll_X4_placeOf : GoodIn wsX5_placeByWinningAll wsX4_placeOf := goodIn_r _ [83, 50, 84, 85, 86, 43, 87, 51, 55, 56, 67, 68, 69, 70, 110, 111, 112, 113, 114, 115, 116, 117, 118] (by decide +kernel) (by decide +kernel)
set_option maxRecDepth 20000 in
theorem gX5_placeByWinningAll_X4_placeOf : GoodIn wsX5_placeByWinningAll (wsV RX5 318 RX4 yX4_placeOf wsX4_placeOf) := goodIn_app (goodIn_of _ (by decide +kernel)) ggX5_placeByWinningAll_X4_placeOf
theorem dX5_placeByWinningAll_0 : decode cX5_placeByWinningAll 0 = .ok (.aload_n 0, 1) := by decide +kernel
theorem dX5_placeByWinningAll_1 : decode cX5_placeByWinningAll 1 = .ok (.getfield 44, 3) := by decide +kernel
theorem dX5_placeByWinningAll_4 : decode cX5_placeByWinningAll 4 = .ok (.aload_n 0, 1) := by decide +kernel
theorem dX5_placeByWinningAll_5 : decode cX5_placeByWinningAll 5 = .ok (.getfield 10, 3) := by decide +kernel
theorem dX5_placeByWinningAll_8 : decode cX5_placeByWinningAll 8 = .ok (.invokevirtual 312, 3) := by decide +kernel
theorem dX5_placeByWinningAll_11 : decode cX5_placeByWinningAll 11 = .ok (.aload_n 0, 1) := by decide +kernel
theorem dX5_placeByWinningAll_12 : decode cX5_placeByWinningAll 12 = .ok (.getfield 44, 3) := by decide +kernel
theorem dX5_placeByWinningAll_15 : decode cX5_placeByWinningAll 15 = .ok (.iload_n 1, 1) := by decide +kernel
theorem dX5_placeByWinningAll_16 : decode cX5_placeByWinningAll 16 = .ok (.invokevirtual 315, 3) := by decide +kernel
theorem dX5_placeByWinningAll_19 : decode cX5_placeByWinningAll 19 = .ok (.aload_n 0, 1) := by decide +kernel
theorem dX5_placeByWinningAll_20 : decode cX5_placeByWinningAll 20 = .ok (.getfield 47, 3) := by decide +kernel
theorem dX5_placeByWinningAll_23 : decode cX5_placeByWinningAll 23 = .ok (.aload_n 0, 1) := by decide +kernel
theorem dX5_placeByWinningAll_24 : decode cX5_placeByWinningAll 24 = .ok (.getfield 44, 3) := by decide +kernel
theorem dX5_placeByWinningAll_27 : decode cX5_placeByWinningAll 27 = .ok (.invokevirtual 205, 3) := by decide +kernel
theorem dX5_placeByWinningAll_30 : decode cX5_placeByWinningAll 30 = .ok (.aload_n 0, 1) := by decide +kernel
theorem dX5_placeByWinningAll_31 : decode cX5_placeByWinningAll 31 = .ok (.getfield 47, 3) := by decide +kernel
theorem dX5_placeByWinningAll_34 : decode cX5_placeByWinningAll 34 = .ok (.iload_n 1, 1) := by decide +kernel
theorem dX5_placeByWinningAll_35 : decode cX5_placeByWinningAll 35 = .ok (.invokevirtual 318, 3) := by decide +kernel
theorem dX5_placeByWinningAll_38 : decode cX5_placeByWinningAll 38 = .ok (.ireturn, 1) := by decide +kernel
set_option maxRecDepth 20000 in
theorem ggX5_assignedWithout_X1_copyFrom : GoodIn wsX5_assignedWithout wsX1_copyFrom := goodIn_r _ [10, 11, 12, 13, 14, 15, 16, 17, 18, 19, 20, 21, 22, 23, 24, 25, 26, 27, 28, 29, 78, 79, 80, 81, 82, 83, 84, 85, 86, 87, 88, 89, 90, 91, 92] (by decide +kernel) (by decide +kernel)
set_option maxRecDepth 20000 in
theorem gX5_assignedWithout_X1_copyFrom : GoodIn wsX5_assignedWithout (wsV RX5 312 RX1 yX1_copyFrom wsX1_copyFrom) := goodIn_app (goodIn_of _ (by decide +kernel)) ggX5_assignedWithout_X1_copyFrom
set_option maxRecDepth 20000 in
theorem ggX5_assignedWithout_X3_assign : GoodIn wsX5_assignedWithout wsX3_assign := goodIn_r _ [34, 35, 36, 37, 38, 39, 40, 41, 42, 33, 43, 44, 45, 46, 47, 48, 49, 50, 51, 52, 53, 54, 55, 56, 57, 58, 59, 60, 61, 62, 63, 64, 65, 66, 67, 68, 69, 70, 78, 79, 80, 81, 82, 83, 84, 85, 86, 87, 88, 89, 90, 91, 92, 93, 94, 95, 96] (by decide +kernel) (by decide +kernel)
set_option maxRecDepth 20000 in
theorem gX5_assignedWithout_X3_assign : GoodIn wsX5_assignedWithout (wsV RX5 89 RX3 yX3_assign wsX3_assign) := goodIn_app (goodIn_of _ (by decide +kernel)) ggX5_assignedWithout_X3_assign
theorem dX5_assignedWithout_0 : decode cX5_assignedWithout 0 = .ok (.aload_n 0, 1) := by decide +kernel
theorem dX5_assignedWithout_1 : decode cX5_assignedWithout 1 = .ok (.getfield 44, 3) := by decide +kernel
theorem dX5_assignedWithout_4 : decode cX5_assignedWithout 4 = .ok (.aload_n 0, 1) := by decide +kernel
theorem dX5_assignedWithout_5 : decode cX5_assignedWithout 5 = .ok (.getfield 10, 3) := by decide +kernel
theorem dX5_assignedWithout_8 : decode cX5_assignedWithout 8 = .ok (.invokevirtual 312, 3) := by decide +kernel
theorem dX5_assignedWithout_11 : decode cX5_assignedWithout 11 = .ok (.iload_n 1, 1) := by decide +kernel
theorem dX5_assignedWithout_12 : decode cX5_assignedWithout 12 = .ok (.ifCond .lt 23, 3) := by decide +kernel
theorem dX5_assignedWithout_15 : decode cX5_assignedWithout 15 = .ok (.iload_n 1, 1) := by decide +kernel
theorem dX5_assignedWithout_16 : decode cX5_assignedWithout 16 = .ok (.bipush 6, 2) := by decide +kernel
theorem dX5_assignedWithout_18 : decode cX5_assignedWithout 18 = .ok (.if_icmp .ge 17, 3) := by decide +kernel
theorem dX5_assignedWithout_21 : decode cX5_assignedWithout 21 = .ok (.aload_n 0, 1) := by decide +kernel
theorem dX5_assignedWithout_22 : decode cX5_assignedWithout 22 = .ok (.getfield 44, 3) := by decide +kernel
theorem dX5_assignedWithout_25 : decode cX5_assignedWithout 25 = .ok (.getfield 80, 3) := by decide +kernel
theorem dX5_assignedWithout_28 : decode cX5_assignedWithout 28 = .ok (.iload_n 1, 1) := by decide +kernel
theorem dX5_assignedWithout_29 : decode cX5_assignedWithout 29 = .ok (.bipush 127, 2) := by decide +kernel
theorem dX5_assignedWithout_31 : decode cX5_assignedWithout 31 = .ok (.iastore, 1) := by decide +kernel
theorem dX5_assignedWithout_32 : decode cX5_assignedWithout 32 = .ok (.goto 29, 3) := by decide +kernel
theorem dX5_assignedWithout_35 : decode cX5_assignedWithout 35 = .ok (.iload_n 1, 1) := by decide +kernel
theorem dX5_assignedWithout_36 : decode cX5_assignedWithout 36 = .ok (.bipush 6, 2) := by decide +kernel
theorem dX5_assignedWithout_38 : decode cX5_assignedWithout 38 = .ok (.if_icmp .lt 23, 3) := by decide +kernel
theorem dX5_assignedWithout_41 : decode cX5_assignedWithout 41 = .ok (.iload_n 1, 1) := by decide +kernel
theorem dX5_assignedWithout_42 : decode cX5_assignedWithout 42 = .ok (.bipush 12, 2) := by decide +kernel
theorem dX5_assignedWithout_44 : decode cX5_assignedWithout 44 = .ok (.if_icmp .ge 17, 3) := by decide +kernel
theorem dX5_assignedWithout_47 : decode cX5_assignedWithout 47 = .ok (.aload_n 0, 1) := by decide +kernel
theorem dX5_assignedWithout_48 : decode cX5_assignedWithout 48 = .ok (.getfield 44, 3) := by decide +kernel
theorem dX5_assignedWithout_51 : decode cX5_assignedWithout 51 = .ok (.getfield 86, 3) := by decide +kernel
theorem dX5_assignedWithout_54 : decode cX5_assignedWithout 54 = .ok (.iload_n 1, 1) := by decide +kernel
theorem dX5_assignedWithout_55 : decode cX5_assignedWithout 55 = .ok (.bipush 6, 2) := by decide +kernel
theorem dX5_assignedWithout_57 : decode cX5_assignedWithout 57 = .ok (.isub, 1) := by decide +kernel
theorem dX5_assignedWithout_58 : decode cX5_assignedWithout 58 = .ok (.bipush 127, 2) := by decide +kernel
theorem dX5_assignedWithout_60 : decode cX5_assignedWithout 60 = .ok (.iastore, 1) := by decide +kernel
theorem dX5_assignedWithout_61 : decode cX5_assignedWithout 61 = .ok (.aload_n 0, 1) := by decide +kernel
theorem dX5_assignedWithout_62 : decode cX5_assignedWithout 62 = .ok (.getfield 26, 3) := by decide +kernel
theorem dX5_assignedWithout_65 : decode cX5_assignedWithout 65 = .ok (.aload_n 0, 1) := by decide +kernel
theorem dX5_assignedWithout_66 : decode cX5_assignedWithout 66 = .ok (.getfield 44, 3) := by decide +kernel
theorem dX5_assignedWithout_69 : decode cX5_assignedWithout 69 = .ok (.invokevirtual 89, 3) := by decide +kernel
theorem dX5_assignedWithout_72 : decode cX5_assignedWithout 72 = .ok (.ireturn, 1) := by decide +kernel
theorem dX5_isMask_0 : decode cX5_isMask 0 = .ok (.iload_n 0, 1) := by decide +kernel
theorem dX5_isMask_1 : decode cX5_isMask 1 = .ok (.ifCond .lt 13, 3) := by decide +kernel
theorem dX5_isMask_4 : decode cX5_isMask 4 = .ok (.iload_n 0, 1) := by decide +kernel
theorem dX5_isMask_5 : decode cX5_isMask 5 = .ok (.bipush 127, 2) := by decide +kernel
theorem dX5_isMask_7 : decode cX5_isMask 7 = .ok (.if_icmp .gt 7, 3) := by decide +kernel
theorem dX5_isMask_10 : decode cX5_isMask 10 = .ok (.iconst 1, 1) := by decide +kernel
theorem dX5_isMask_11 : decode cX5_isMask 11 = .ok (.goto 4, 3) := by decide +kernel
theorem dX5_isMask_14 : decode cX5_isMask 14 = .ok (.iconst 0, 1) := by decide +kernel
theorem dX5_isMask_15 : decode cX5_isMask 15 = .ok (.ireturn, 1) := by decide +kernel
theorem dX5_isScore_0 : decode cX5_isScore 0 = .ok (.iload_n 0, 1) := by decide +kernel
theorem dX5_isScore_1 : decode cX5_isScore 1 = .ok (.ifCond .lt 13, 3) := by decide +kernel
theorem dX5_isScore_4 : decode cX5_isScore 4 = .ok (.iload_n 0, 1) := by decide +kernel
theorem dX5_isScore_5 : decode cX5_isScore 5 = .ok (.bipush 99, 2) := by decide +kernel
theorem dX5_isScore_7 : decode cX5_isScore 7 = .ok (.if_icmp .gt 7, 3) := by decide +kernel
theorem dX5_isScore_10 : decode cX5_isScore 10 = .ok (.iconst 1, 1) := by decide +kernel
theorem dX5_isScore_11 : decode cX5_isScore 11 = .ok (.goto 4, 3) := by decide +kernel
theorem dX5_isScore_14 : decode cX5_isScore 14 = .ok (.iconst 0, 1) := by decide +kernel
theorem dX5_isScore_15 : decode cX5_isScore 15 = .ok (.ireturn, 1) := by decide +kernel
theorem dX5_isVenueOrSetter_0 : decode cX5_isVenueOrSetter 0 = .ok (.iload_n 0, 1) := by decide +kernel
theorem dX5_isVenueOrSetter_1 : decode cX5_isVenueOrSetter 1 = .ok (.ifCond .lt 13, 3) := by decide +kernel
theorem dX5_isVenueOrSetter_4 : decode cX5_isVenueOrSetter 4 = .ok (.iload_n 0, 1) := by decide +kernel
theorem dX5_isVenueOrSetter_5 : decode cX5_isVenueOrSetter 5 = .ok (.bipush 12, 2) := by decide +kernel
theorem dX5_isVenueOrSetter_7 : decode cX5_isVenueOrSetter 7 = .ok (.if_icmp .ge 7, 3) := by decide +kernel
theorem dX5_isVenueOrSetter_10 : decode cX5_isVenueOrSetter 10 = .ok (.iconst 1, 1) := by decide +kernel
theorem dX5_isVenueOrSetter_11 : decode cX5_isVenueOrSetter 11 = .ok (.goto 4, 3) := by decide +kernel
theorem dX5_isVenueOrSetter_14 : decode cX5_isVenueOrSetter 14 = .ok (.iconst 0, 1) := by decide +kernel
theorem dX5_isVenueOrSetter_15 : decode cX5_isVenueOrSetter 15 = .ok (.ireturn, 1) := by decide +kernel
theorem dJ9_max_7cf53_0 : decode cJ9_max_7cf53 0 = .ok (.iload_n 0, 1) := by decide +kernel
theorem dJ9_max_7cf53_1 : decode cJ9_max_7cf53 1 = .ok (.iload_n 1, 1) := by decide +kernel
theorem dJ9_max_7cf53_2 : decode cJ9_max_7cf53 2 = .ok (.if_icmp .lt 7, 3) := by decide +kernel
theorem dJ9_max_7cf53_5 : decode cJ9_max_7cf53 5 = .ok (.iload_n 0, 1) := by decide +kernel
theorem dJ9_max_7cf53_6 : decode cJ9_max_7cf53 6 = .ok (.goto 4, 3) := by decide +kernel
theorem dJ9_max_7cf53_9 : decode cJ9_max_7cf53 9 = .ok (.iload_n 1, 1) := by decide +kernel
theorem dJ9_max_7cf53_10 : decode cJ9_max_7cf53 10 = .ok (.ireturn, 1) := by decide +kernel
theorem dJ9_min_7cf53_0 : decode cJ9_min_7cf53 0 = .ok (.iload_n 0, 1) := by decide +kernel
theorem dJ9_min_7cf53_1 : decode cJ9_min_7cf53 1 = .ok (.iload_n 1, 1) := by decide +kernel
theorem dJ9_min_7cf53_2 : decode cJ9_min_7cf53 2 = .ok (.if_icmp .gt 7, 3) := by decide +kernel
theorem dJ9_min_7cf53_5 : decode cJ9_min_7cf53 5 = .ok (.iload_n 0, 1) := by decide +kernel
theorem dJ9_min_7cf53_6 : decode cJ9_min_7cf53 6 = .ok (.goto 4, 3) := by decide +kernel
theorem dJ9_min_7cf53_9 : decode cJ9_min_7cf53 9 = .ok (.iload_n 1, 1) := by decide +kernel
theorem dJ9_min_7cf53_10 : decode cJ9_min_7cf53 10 = .ok (.ireturn, 1) := by decide +kernel
