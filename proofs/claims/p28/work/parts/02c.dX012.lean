theorem dX0_init_0 : decode cX0_init 0 = .ok (.aload_n 0, 1) := by decide +kernel
theorem dX0_init_1 : decode cX0_init 1 = .ok (.invokespecial 1, 3) := by decide +kernel
theorem dX0_init_4 : decode cX0_init 4 = .ok (.aload_n 0, 1) := by decide +kernel
theorem dX0_init_5 : decode cX0_init 5 = .ok (.bipush 6, 2) := by decide +kernel
theorem dX0_init_7 : decode cX0_init 7 = .ok (.anewarray 9, 3) := by decide +kernel
theorem dX0_init_10 : decode cX0_init 10 = .ok (.putfield 11, 3) := by decide +kernel
theorem dX0_init_13 : decode cX0_init 13 = .ok (.iconst 0, 1) := by decide +kernel
theorem dX0_init_14 : decode cX0_init 14 = .ok (.istore_n 1, 1) := by decide +kernel
theorem dX0_init_15 : decode cX0_init 15 = .ok (.iload_n 1, 1) := by decide +kernel
theorem dX0_init_16 : decode cX0_init 16 = .ok (.bipush 6, 2) := by decide +kernel
theorem dX0_init_18 : decode cX0_init 18 = .ok (.if_icmp .ge 22, 3) := by decide +kernel
theorem dX0_init_21 : decode cX0_init 21 = .ok (.aload_n 0, 1) := by decide +kernel
theorem dX0_init_22 : decode cX0_init 22 = .ok (.getfield 11, 3) := by decide +kernel
theorem dX0_init_25 : decode cX0_init 25 = .ok (.iload_n 1, 1) := by decide +kernel
theorem dX0_init_26 : decode cX0_init 26 = .ok (.new 9, 3) := by decide +kernel
theorem dX0_init_29 : decode cX0_init 29 = .ok (.dup, 1) := by decide +kernel
theorem dX0_init_30 : decode cX0_init 30 = .ok (.invokespecial 15, 3) := by decide +kernel
theorem dX0_init_33 : decode cX0_init 33 = .ok (.aastore, 1) := by decide +kernel
theorem dX0_init_34 : decode cX0_init 34 = .ok (.iinc 1 1, 3) := by decide +kernel
theorem dX0_init_37 : decode cX0_init 37 = .ok (.goto (-22), 3) := by decide +kernel
theorem dX0_init_40 : decode cX0_init 40 = .ok (.return_, 1) := by decide +kernel
set_option maxRecDepth 20000 in
theorem ggX0_keep_X0_dropOldest : GoodIn wsX0_keep wsX0_dropOldest := goodIn_r _ [7, 2, 1, 32, 33] (by decide +kernel) (by decide +kernel)
set_option maxRecDepth 20000 in
theorem gX0_keep_X0_dropOldest : GoodIn wsX0_keep (wsV RX0 20 RX0 yX0_dropOldest wsX0_dropOldest) := goodIn_app (goodIn_of _ (by decide +kernel)) ggX0_keep_X0_dropOldest
set_option maxRecDepth 20000 in
theorem ggX0_keep_X1_copyFrom : GoodIn wsX0_keep wsX1_copyFrom := goodIn_r _ [12, 13, 14, 15, 16, 17, 18, 19, 20, 21, 22, 23, 24, 25, 26, 27, 28, 29, 30, 31, 34, 35, 36, 37, 38, 39, 40, 41, 42, 43, 44, 45, 46, 47, 48] (by decide +kernel) (by decide +kernel)
set_option maxRecDepth 20000 in
theorem gX0_keep_X1_copyFrom : GoodIn wsX0_keep (wsV RX0 23 RX1 yX1_copyFrom wsX1_copyFrom) := goodIn_app (goodIn_of _ (by decide +kernel)) ggX0_keep_X1_copyFrom
theorem dX0_keep_0 : decode cX0_keep 0 = .ok (.aload_n 0, 1) := by decide +kernel
theorem dX0_keep_1 : decode cX0_keep 1 = .ok (.getfield 16, 3) := by decide +kernel
theorem dX0_keep_4 : decode cX0_keep 4 = .ok (.bipush 6, 2) := by decide +kernel
theorem dX0_keep_6 : decode cX0_keep 6 = .ok (.if_icmp .lt 7, 3) := by decide +kernel
theorem dX0_keep_9 : decode cX0_keep 9 = .ok (.aload_n 0, 1) := by decide +kernel
theorem dX0_keep_10 : decode cX0_keep 10 = .ok (.invokevirtual 20, 3) := by decide +kernel
theorem dX0_keep_13 : decode cX0_keep 13 = .ok (.aload_n 0, 1) := by decide +kernel
theorem dX0_keep_14 : decode cX0_keep 14 = .ok (.getfield 16, 3) := by decide +kernel
theorem dX0_keep_17 : decode cX0_keep 17 = .ok (.ifCond .lt 35, 3) := by decide +kernel
theorem dX0_keep_20 : decode cX0_keep 20 = .ok (.aload_n 0, 1) := by decide +kernel
theorem dX0_keep_21 : decode cX0_keep 21 = .ok (.getfield 16, 3) := by decide +kernel
theorem dX0_keep_24 : decode cX0_keep 24 = .ok (.bipush 6, 2) := by decide +kernel
theorem dX0_keep_26 : decode cX0_keep 26 = .ok (.if_icmp .ge 26, 3) := by decide +kernel
theorem dX0_keep_29 : decode cX0_keep 29 = .ok (.aload_n 0, 1) := by decide +kernel
theorem dX0_keep_30 : decode cX0_keep 30 = .ok (.getfield 11, 3) := by decide +kernel
theorem dX0_keep_33 : decode cX0_keep 33 = .ok (.aload_n 0, 1) := by decide +kernel
theorem dX0_keep_34 : decode cX0_keep 34 = .ok (.getfield 16, 3) := by decide +kernel
theorem dX0_keep_37 : decode cX0_keep 37 = .ok (.aaload, 1) := by decide +kernel
theorem dX0_keep_38 : decode cX0_keep 38 = .ok (.aload_n 1, 1) := by decide +kernel
theorem dX0_keep_39 : decode cX0_keep 39 = .ok (.invokevirtual 23, 3) := by decide +kernel
theorem dX0_keep_42 : decode cX0_keep 42 = .ok (.aload_n 0, 1) := by decide +kernel
theorem dX0_keep_43 : decode cX0_keep 43 = .ok (.dup, 1) := by decide +kernel
theorem dX0_keep_44 : decode cX0_keep 44 = .ok (.getfield 16, 3) := by decide +kernel
theorem dX0_keep_47 : decode cX0_keep 47 = .ok (.iconst 1, 1) := by decide +kernel
theorem dX0_keep_48 : decode cX0_keep 48 = .ok (.iadd, 1) := by decide +kernel
theorem dX0_keep_49 : decode cX0_keep 49 = .ok (.putfield 16, 3) := by decide +kernel
theorem dX0_keep_52 : decode cX0_keep 52 = .ok (.return_, 1) := by decide +kernel
theorem dX0_dropOldest_0 : decode cX0_dropOldest 0 = .ok (.aload_n 0, 1) := by decide +kernel
theorem dX0_dropOldest_1 : decode cX0_dropOldest 1 = .ok (.getfield 11, 3) := by decide +kernel
theorem dX0_dropOldest_4 : decode cX0_dropOldest 4 = .ok (.iconst 0, 1) := by decide +kernel
theorem dX0_dropOldest_5 : decode cX0_dropOldest 5 = .ok (.aaload, 1) := by decide +kernel
theorem dX0_dropOldest_6 : decode cX0_dropOldest 6 = .ok (.astore_n 1, 1) := by decide +kernel
theorem dX0_dropOldest_7 : decode cX0_dropOldest 7 = .ok (.iconst 1, 1) := by decide +kernel
theorem dX0_dropOldest_8 : decode cX0_dropOldest 8 = .ok (.istore_n 2, 1) := by decide +kernel
theorem dX0_dropOldest_9 : decode cX0_dropOldest 9 = .ok (.iload_n 2, 1) := by decide +kernel
theorem dX0_dropOldest_10 : decode cX0_dropOldest 10 = .ok (.bipush 6, 2) := by decide +kernel
theorem dX0_dropOldest_12 : decode cX0_dropOldest 12 = .ok (.if_icmp .ge 23, 3) := by decide +kernel
theorem dX0_dropOldest_15 : decode cX0_dropOldest 15 = .ok (.aload_n 0, 1) := by decide +kernel
theorem dX0_dropOldest_16 : decode cX0_dropOldest 16 = .ok (.getfield 11, 3) := by decide +kernel
theorem dX0_dropOldest_19 : decode cX0_dropOldest 19 = .ok (.iload_n 2, 1) := by decide +kernel
theorem dX0_dropOldest_20 : decode cX0_dropOldest 20 = .ok (.iconst 1, 1) := by decide +kernel
theorem dX0_dropOldest_21 : decode cX0_dropOldest 21 = .ok (.isub, 1) := by decide +kernel
theorem dX0_dropOldest_22 : decode cX0_dropOldest 22 = .ok (.aload_n 0, 1) := by decide +kernel
theorem dX0_dropOldest_23 : decode cX0_dropOldest 23 = .ok (.getfield 11, 3) := by decide +kernel
theorem dX0_dropOldest_26 : decode cX0_dropOldest 26 = .ok (.iload_n 2, 1) := by decide +kernel
theorem dX0_dropOldest_27 : decode cX0_dropOldest 27 = .ok (.aaload, 1) := by decide +kernel
theorem dX0_dropOldest_28 : decode cX0_dropOldest 28 = .ok (.aastore, 1) := by decide +kernel
theorem dX0_dropOldest_29 : decode cX0_dropOldest 29 = .ok (.iinc 2 1, 3) := by decide +kernel
theorem dX0_dropOldest_32 : decode cX0_dropOldest 32 = .ok (.goto (-23), 3) := by decide +kernel
theorem dX0_dropOldest_35 : decode cX0_dropOldest 35 = .ok (.aload_n 0, 1) := by decide +kernel
theorem dX0_dropOldest_36 : decode cX0_dropOldest 36 = .ok (.getfield 11, 3) := by decide +kernel
theorem dX0_dropOldest_39 : decode cX0_dropOldest 39 = .ok (.iconst 5, 1) := by decide +kernel
theorem dX0_dropOldest_40 : decode cX0_dropOldest 40 = .ok (.aload_n 1, 1) := by decide +kernel
theorem dX0_dropOldest_41 : decode cX0_dropOldest 41 = .ok (.aastore, 1) := by decide +kernel
theorem dX0_dropOldest_42 : decode cX0_dropOldest 42 = .ok (.aload_n 0, 1) := by decide +kernel
theorem dX0_dropOldest_43 : decode cX0_dropOldest 43 = .ok (.iconst 5, 1) := by decide +kernel
theorem dX0_dropOldest_44 : decode cX0_dropOldest 44 = .ok (.putfield 16, 3) := by decide +kernel
theorem dX0_dropOldest_47 : decode cX0_dropOldest 47 = .ok (.return_, 1) := by decide +kernel
set_option maxRecDepth 20000 in
theorem ggX0_restore_X1_copyFrom : GoodIn wsX0_restore wsX1_copyFrom := goodIn_r _ [7, 8, 9, 10, 11, 12, 13, 14, 15, 16, 17, 18, 19, 20, 21, 22, 23, 24, 25, 26, 29, 30, 31, 32, 33, 34, 35, 36, 37, 38, 39, 40, 41, 42, 43] (by decide +kernel) (by decide +kernel)
set_option maxRecDepth 20000 in
theorem gX0_restore_X1_copyFrom : GoodIn wsX0_restore (wsV RX0 23 RX1 yX1_copyFrom wsX1_copyFrom) := goodIn_app (goodIn_of _ (by decide +kernel)) ggX0_restore_X1_copyFrom
theorem dX0_restore_0 : decode cX0_restore 0 = .ok (.aload_n 0, 1) := by decide +kernel
theorem dX0_restore_1 : decode cX0_restore 1 = .ok (.getfield 16, 3) := by decide +kernel
theorem dX0_restore_4 : decode cX0_restore 4 = .ok (.ifCond .le 35, 3) := by decide +kernel
theorem dX0_restore_7 : decode cX0_restore 7 = .ok (.aload_n 0, 1) := by decide +kernel
theorem dX0_restore_8 : decode cX0_restore 8 = .ok (.getfield 16, 3) := by decide +kernel
theorem dX0_restore_11 : decode cX0_restore 11 = .ok (.bipush 6, 2) := by decide +kernel
theorem dX0_restore_13 : decode cX0_restore 13 = .ok (.if_icmp .gt 26, 3) := by decide +kernel
theorem dX0_restore_16 : decode cX0_restore 16 = .ok (.aload_n 0, 1) := by decide +kernel
theorem dX0_restore_17 : decode cX0_restore 17 = .ok (.dup, 1) := by decide +kernel
theorem dX0_restore_18 : decode cX0_restore 18 = .ok (.getfield 16, 3) := by decide +kernel
theorem dX0_restore_21 : decode cX0_restore 21 = .ok (.iconst 1, 1) := by decide +kernel
theorem dX0_restore_22 : decode cX0_restore 22 = .ok (.isub, 1) := by decide +kernel
theorem dX0_restore_23 : decode cX0_restore 23 = .ok (.putfield 16, 3) := by decide +kernel
theorem dX0_restore_26 : decode cX0_restore 26 = .ok (.aload_n 1, 1) := by decide +kernel
theorem dX0_restore_27 : decode cX0_restore 27 = .ok (.aload_n 0, 1) := by decide +kernel
theorem dX0_restore_28 : decode cX0_restore 28 = .ok (.getfield 11, 3) := by decide +kernel
theorem dX0_restore_31 : decode cX0_restore 31 = .ok (.aload_n 0, 1) := by decide +kernel
theorem dX0_restore_32 : decode cX0_restore 32 = .ok (.getfield 16, 3) := by decide +kernel
theorem dX0_restore_35 : decode cX0_restore 35 = .ok (.aaload, 1) := by decide +kernel
theorem dX0_restore_36 : decode cX0_restore 36 = .ok (.invokevirtual 23, 3) := by decide +kernel
theorem dX0_restore_39 : decode cX0_restore 39 = .ok (.return_, 1) := by decide +kernel
set_option maxRecDepth 20000 in
theorem ggX1_init_X1_restart : GoodIn wsX1_init wsX1_restart := goodIn_r _ [25, 26, 27, 28, 6, 7, 29, 30, 31, 24, 32, 33, 34, 35, 36, 8, 9, 10, 11, 12, 13, 14, 37, 38, 39, 40, 41, 42, 43, 44, 45, 46, 47, 48, 49, 50, 51] (by decide +kernel) (by decide +kernel)
set_option maxRecDepth 20000 in
theorem gX1_init_X1_restart : GoodIn wsX1_init (wsV RX1 57 RX1 yX1_restart wsX1_restart) := goodIn_app (goodIn_of _ (by decide +kernel)) ggX1_init_X1_restart
theorem dX1_init_0 : decode cX1_init 0 = .ok (.aload_n 0, 1) := by decide +kernel
theorem dX1_init_1 : decode cX1_init 1 = .ok (.invokespecial 3, 3) := by decide +kernel
theorem dX1_init_4 : decode cX1_init 4 = .ok (.aload_n 0, 1) := by decide +kernel
theorem dX1_init_5 : decode cX1_init 5 = .ok (.iconst 4, 1) := by decide +kernel
theorem dX1_init_6 : decode cX1_init 6 = .ok (.newarray .int, 2) := by decide +kernel
theorem dX1_init_8 : decode cX1_init 8 = .ok (.putfield 9, 3) := by decide +kernel
theorem dX1_init_11 : decode cX1_init 11 = .ok (.aload_n 0, 1) := by decide +kernel
theorem dX1_init_12 : decode cX1_init 12 = .ok (.bipush 6, 2) := by decide +kernel
theorem dX1_init_14 : decode cX1_init 14 = .ok (.newarray .int, 2) := by decide +kernel
theorem dX1_init_16 : decode cX1_init 16 = .ok (.putfield 15, 3) := by decide +kernel
theorem dX1_init_19 : decode cX1_init 19 = .ok (.aload_n 0, 1) := by decide +kernel
theorem dX1_init_20 : decode cX1_init 20 = .ok (.bipush 6, 2) := by decide +kernel
theorem dX1_init_22 : decode cX1_init 22 = .ok (.newarray .int, 2) := by decide +kernel
theorem dX1_init_24 : decode cX1_init 24 = .ok (.putfield 18, 3) := by decide +kernel
theorem dX1_init_27 : decode cX1_init 27 = .ok (.aload_n 0, 1) := by decide +kernel
theorem dX1_init_28 : decode cX1_init 28 = .ok (.bipush 28, 2) := by decide +kernel
theorem dX1_init_30 : decode cX1_init 30 = .ok (.newarray .int, 2) := by decide +kernel
theorem dX1_init_32 : decode cX1_init 32 = .ok (.putfield 21, 3) := by decide +kernel
theorem dX1_init_35 : decode cX1_init 35 = .ok (.aload_n 0, 1) := by decide +kernel
theorem dX1_init_36 : decode cX1_init 36 = .ok (.bipush 28, 2) := by decide +kernel
theorem dX1_init_38 : decode cX1_init 38 = .ok (.newarray .int, 2) := by decide +kernel
theorem dX1_init_40 : decode cX1_init 40 = .ok (.putfield 24, 3) := by decide +kernel
theorem dX1_init_43 : decode cX1_init 43 = .ok (.aload_n 0, 1) := by decide +kernel
theorem dX1_init_44 : decode cX1_init 44 = .ok (.bipush 28, 2) := by decide +kernel
theorem dX1_init_46 : decode cX1_init 46 = .ok (.newarray .int, 2) := by decide +kernel
theorem dX1_init_48 : decode cX1_init 48 = .ok (.putfield 27, 3) := by decide +kernel
theorem dX1_init_51 : decode cX1_init 51 = .ok (.aload_n 0, 1) := by decide +kernel
theorem dX1_init_52 : decode cX1_init 52 = .ok (.bipush 28, 2) := by decide +kernel
theorem dX1_init_54 : decode cX1_init 54 = .ok (.newarray .int, 2) := by decide +kernel
theorem dX1_init_56 : decode cX1_init 56 = .ok (.putfield 30, 3) := by decide +kernel
theorem dX1_init_59 : decode cX1_init 59 = .ok (.aload_n 0, 1) := by decide +kernel
theorem dX1_init_60 : decode cX1_init 60 = .ok (.bipush 28, 2) := by decide +kernel
theorem dX1_init_62 : decode cX1_init 62 = .ok (.newarray .int, 2) := by decide +kernel
theorem dX1_init_64 : decode cX1_init 64 = .ok (.putfield 33, 3) := by decide +kernel
theorem dX1_init_67 : decode cX1_init 67 = .ok (.aload_n 0, 1) := by decide +kernel
theorem dX1_init_68 : decode cX1_init 68 = .ok (.bipush 28, 2) := by decide +kernel
theorem dX1_init_70 : decode cX1_init 70 = .ok (.newarray .int, 2) := by decide +kernel
theorem dX1_init_72 : decode cX1_init 72 = .ok (.putfield 36, 3) := by decide +kernel
theorem dX1_init_75 : decode cX1_init 75 = .ok (.aload_n 0, 1) := by decide +kernel
theorem dX1_init_76 : decode cX1_init 76 = .ok (.bipush 28, 2) := by decide +kernel
theorem dX1_init_78 : decode cX1_init 78 = .ok (.newarray .int, 2) := by decide +kernel
theorem dX1_init_80 : decode cX1_init 80 = .ok (.putfield 39, 3) := by decide +kernel
theorem dX1_init_83 : decode cX1_init 83 = .ok (.aload_n 0, 1) := by decide +kernel
theorem dX1_init_84 : decode cX1_init 84 = .ok (.bipush 28, 2) := by decide +kernel
theorem dX1_init_86 : decode cX1_init 86 = .ok (.newarray .int, 2) := by decide +kernel
theorem dX1_init_88 : decode cX1_init 88 = .ok (.putfield 42, 3) := by decide +kernel
theorem dX1_init_91 : decode cX1_init 91 = .ok (.aload_n 0, 1) := by decide +kernel
theorem dX1_init_92 : decode cX1_init 92 = .ok (.bipush 28, 2) := by decide +kernel
theorem dX1_init_94 : decode cX1_init 94 = .ok (.newarray .int, 2) := by decide +kernel
theorem dX1_init_96 : decode cX1_init 96 = .ok (.putfield 45, 3) := by decide +kernel
theorem dX1_init_99 : decode cX1_init 99 = .ok (.getstatic 48, 3) := by decide +kernel
theorem dX1_init_102 : decode cX1_init 102 = .ok (.iconst 0, 1) := by decide +kernel
theorem dX1_init_103 : decode cX1_init 103 = .ok (.aload_n 0, 1) := by decide +kernel
theorem dX1_init_104 : decode cX1_init 104 = .ok (.getfield 9, 3) := by decide +kernel
theorem dX1_init_107 : decode cX1_init 107 = .ok (.iconst 0, 1) := by decide +kernel
theorem dX1_init_108 : decode cX1_init 108 = .ok (.iconst 4, 1) := by decide +kernel
theorem dX1_init_109 : decode cX1_init 109 = .ok (.invokestatic 51, 3) := by decide +kernel
theorem dX1_init_112 : decode cX1_init 112 = .ok (.aload_n 0, 1) := by decide +kernel
theorem dX1_init_113 : decode cX1_init 113 = .ok (.iconst 4, 1) := by decide +kernel
theorem dX1_init_114 : decode cX1_init 114 = .ok (.invokevirtual 57, 3) := by decide +kernel
theorem dX1_init_117 : decode cX1_init 117 = .ok (.return_, 1) := by decide +kernel
set_option maxRecDepth 20000 in
theorem ggX1_restart_X1_pairRound : GoodIn wsX1_restart wsX1_pairRound := goodIn_r _ [10, 2, 11, 12, 13, 9, 14, 1, 3, 15, 16, 17, 18, 19, 20, 21, 22, 23, 24, 25, 26, 27, 28, 29, 30, 31, 32, 33, 34, 35, 36] (by decide +kernel) (by decide +kernel)
set_option maxRecDepth 20000 in
theorem gX1_restart_X1_pairRound : GoodIn wsX1_restart (wsV RX1 71 RX1 yX1_pairRound wsX1_pairRound) := goodIn_app (goodIn_of _ (by decide +kernel)) ggX1_restart_X1_pairRound
theorem dX1_restart_0 : decode cX1_restart 0 = .ok (.aload_n 0, 1) := by decide +kernel
theorem dX1_restart_1 : decode cX1_restart 1 = .ok (.iload_n 1, 1) := by decide +kernel
theorem dX1_restart_2 : decode cX1_restart 2 = .ok (.putfield 61, 3) := by decide +kernel
theorem dX1_restart_5 : decode cX1_restart 5 = .ok (.aload_n 0, 1) := by decide +kernel
theorem dX1_restart_6 : decode cX1_restart 6 = .ok (.iload_n 1, 1) := by decide +kernel
theorem dX1_restart_7 : decode cX1_restart 7 = .ok (.iconst 2, 1) := by decide +kernel
theorem dX1_restart_8 : decode cX1_restart 8 = .ok (.irem, 1) := by decide +kernel
theorem dX1_restart_9 : decode cX1_restart 9 = .ok (.ifCond .ne 9, 3) := by decide +kernel
theorem dX1_restart_12 : decode cX1_restart 12 = .ok (.iload_n 1, 1) := by decide +kernel
theorem dX1_restart_13 : decode cX1_restart 13 = .ok (.iconst 1, 1) := by decide +kernel
theorem dX1_restart_14 : decode cX1_restart 14 = .ok (.isub, 1) := by decide +kernel
theorem dX1_restart_15 : decode cX1_restart 15 = .ok (.goto 4, 3) := by decide +kernel
theorem dX1_restart_18 : decode cX1_restart 18 = .ok (.iload_n 1, 1) := by decide +kernel
theorem dX1_restart_19 : decode cX1_restart 19 = .ok (.putfield 65, 3) := by decide +kernel
theorem dX1_restart_22 : decode cX1_restart 22 = .ok (.aload_n 0, 1) := by decide +kernel
theorem dX1_restart_23 : decode cX1_restart 23 = .ok (.iconst 0, 1) := by decide +kernel
theorem dX1_restart_24 : decode cX1_restart 24 = .ok (.putfield 68, 3) := by decide +kernel
theorem dX1_restart_27 : decode cX1_restart 27 = .ok (.iconst 0, 1) := by decide +kernel
theorem dX1_restart_28 : decode cX1_restart 28 = .ok (.istore_n 2, 1) := by decide +kernel
theorem dX1_restart_29 : decode cX1_restart 29 = .ok (.iload_n 2, 1) := by decide +kernel
theorem dX1_restart_30 : decode cX1_restart 30 = .ok (.bipush 6, 2) := by decide +kernel
theorem dX1_restart_32 : decode cX1_restart 32 = .ok (.if_icmp .ge 16, 3) := by decide +kernel
theorem dX1_restart_35 : decode cX1_restart 35 = .ok (.aload_n 0, 1) := by decide +kernel
theorem dX1_restart_36 : decode cX1_restart 36 = .ok (.getfield 15, 3) := by decide +kernel
theorem dX1_restart_39 : decode cX1_restart 39 = .ok (.iload_n 2, 1) := by decide +kernel
theorem dX1_restart_40 : decode cX1_restart 40 = .ok (.iconst 0, 1) := by decide +kernel
theorem dX1_restart_41 : decode cX1_restart 41 = .ok (.iastore, 1) := by decide +kernel
theorem dX1_restart_42 : decode cX1_restart 42 = .ok (.iinc 2 1, 3) := by decide +kernel
theorem dX1_restart_45 : decode cX1_restart 45 = .ok (.goto (-16), 3) := by decide +kernel
theorem dX1_restart_48 : decode cX1_restart 48 = .ok (.iconst 0, 1) := by decide +kernel
theorem dX1_restart_49 : decode cX1_restart 49 = .ok (.istore_n 2, 1) := by decide +kernel
theorem dX1_restart_50 : decode cX1_restart 50 = .ok (.iload_n 2, 1) := by decide +kernel
theorem dX1_restart_51 : decode cX1_restart 51 = .ok (.bipush 6, 2) := by decide +kernel
theorem dX1_restart_53 : decode cX1_restart 53 = .ok (.if_icmp .ge 16, 3) := by decide +kernel
theorem dX1_restart_56 : decode cX1_restart 56 = .ok (.aload_n 0, 1) := by decide +kernel
theorem dX1_restart_57 : decode cX1_restart 57 = .ok (.getfield 18, 3) := by decide +kernel
theorem dX1_restart_60 : decode cX1_restart 60 = .ok (.iload_n 2, 1) := by decide +kernel
theorem dX1_restart_61 : decode cX1_restart 61 = .ok (.iconst 0, 1) := by decide +kernel
theorem dX1_restart_62 : decode cX1_restart 62 = .ok (.iastore, 1) := by decide +kernel
theorem dX1_restart_63 : decode cX1_restart 63 = .ok (.iinc 2 1, 3) := by decide +kernel
theorem dX1_restart_66 : decode cX1_restart 66 = .ok (.goto (-16), 3) := by decide +kernel
theorem dX1_restart_69 : decode cX1_restart 69 = .ok (.iconst 0, 1) := by decide +kernel
theorem dX1_restart_70 : decode cX1_restart 70 = .ok (.istore_n 2, 1) := by decide +kernel
theorem dX1_restart_71 : decode cX1_restart 71 = .ok (.iload_n 2, 1) := by decide +kernel
theorem dX1_restart_72 : decode cX1_restart 72 = .ok (.aload_n 0, 1) := by decide +kernel
theorem dX1_restart_73 : decode cX1_restart 73 = .ok (.getfield 65, 3) := by decide +kernel
theorem dX1_restart_76 : decode cX1_restart 76 = .ok (.if_icmp .ge 14, 3) := by decide +kernel
theorem dX1_restart_79 : decode cX1_restart 79 = .ok (.aload_n 0, 1) := by decide +kernel
theorem dX1_restart_80 : decode cX1_restart 80 = .ok (.iload_n 2, 1) := by decide +kernel
theorem dX1_restart_81 : decode cX1_restart 81 = .ok (.invokevirtual 71, 3) := by decide +kernel
theorem dX1_restart_84 : decode cX1_restart 84 = .ok (.iinc 2 1, 3) := by decide +kernel
theorem dX1_restart_87 : decode cX1_restart 87 = .ok (.goto (-16), 3) := by decide +kernel
theorem dX1_restart_90 : decode cX1_restart 90 = .ok (.return_, 1) := by decide +kernel
set_option maxRecDepth 20000 in
theorem ggX1_pairRound_X1_addMatch : GoodIn wsX1_pairRound wsX1_addMatch := goodIn_r _ [6, 7, 8, 9, 10, 11, 12, 13, 14, 15, 16, 17, 18, 19, 20, 21, 22, 23, 24, 25, 26, 27, 28, 29, 30] (by decide +kernel) (by decide +kernel)
set_option maxRecDepth 20000 in
theorem gX1_pairRound_X1_addMatch : GoodIn wsX1_pairRound (wsV RX1 74 RX1 yX1_addMatch wsX1_addMatch) := goodIn_app (goodIn_of _ (by decide +kernel)) ggX1_pairRound_X1_addMatch
theorem dX1_pairRound_0 : decode cX1_pairRound 0 = .ok (.aload_n 0, 1) := by decide +kernel
theorem dX1_pairRound_1 : decode cX1_pairRound 1 = .ok (.iload_n 1, 1) := by decide +kernel
theorem dX1_pairRound_2 : decode cX1_pairRound 2 = .ok (.aload_n 0, 1) := by decide +kernel
theorem dX1_pairRound_3 : decode cX1_pairRound 3 = .ok (.getfield 65, 3) := by decide +kernel
theorem dX1_pairRound_6 : decode cX1_pairRound 6 = .ok (.iload_n 1, 1) := by decide +kernel
theorem dX1_pairRound_7 : decode cX1_pairRound 7 = .ok (.invokevirtual 74, 3) := by decide +kernel
theorem dX1_pairRound_10 : decode cX1_pairRound 10 = .ok (.iconst 1, 1) := by decide +kernel
theorem dX1_pairRound_11 : decode cX1_pairRound 11 = .ok (.istore_n 2, 1) := by decide +kernel
theorem dX1_pairRound_12 : decode cX1_pairRound 12 = .ok (.iload_n 2, 1) := by decide +kernel
theorem dX1_pairRound_13 : decode cX1_pairRound 13 = .ok (.aload_n 0, 1) := by decide +kernel
theorem dX1_pairRound_14 : decode cX1_pairRound 14 = .ok (.getfield 65, 3) := by decide +kernel
theorem dX1_pairRound_17 : decode cX1_pairRound 17 = .ok (.iconst 1, 1) := by decide +kernel
theorem dX1_pairRound_18 : decode cX1_pairRound 18 = .ok (.iadd, 1) := by decide +kernel
theorem dX1_pairRound_19 : decode cX1_pairRound 19 = .ok (.iconst 2, 1) := by decide +kernel
theorem dX1_pairRound_20 : decode cX1_pairRound 20 = .ok (.idiv, 1) := by decide +kernel
theorem dX1_pairRound_21 : decode cX1_pairRound 21 = .ok (.if_icmp .ge 58, 3) := by decide +kernel
theorem dX1_pairRound_24 : decode cX1_pairRound 24 = .ok (.iload_n 1, 1) := by decide +kernel
theorem dX1_pairRound_25 : decode cX1_pairRound 25 = .ok (.iload_n 2, 1) := by decide +kernel
theorem dX1_pairRound_26 : decode cX1_pairRound 26 = .ok (.iadd, 1) := by decide +kernel
theorem dX1_pairRound_27 : decode cX1_pairRound 27 = .ok (.istore_n 3, 1) := by decide +kernel
theorem dX1_pairRound_28 : decode cX1_pairRound 28 = .ok (.iload_n 1, 1) := by decide +kernel
theorem dX1_pairRound_29 : decode cX1_pairRound 29 = .ok (.iload_n 2, 1) := by decide +kernel
theorem dX1_pairRound_30 : decode cX1_pairRound 30 = .ok (.isub, 1) := by decide +kernel
theorem dX1_pairRound_31 : decode cX1_pairRound 31 = .ok (.istore 4, 2) := by decide +kernel
theorem dX1_pairRound_33 : decode cX1_pairRound 33 = .ok (.aload_n 0, 1) := by decide +kernel
theorem dX1_pairRound_34 : decode cX1_pairRound 34 = .ok (.iload_n 1, 1) := by decide +kernel
theorem dX1_pairRound_35 : decode cX1_pairRound 35 = .ok (.iload_n 3, 1) := by decide +kernel
theorem dX1_pairRound_36 : decode cX1_pairRound 36 = .ok (.aload_n 0, 1) := by decide +kernel
theorem dX1_pairRound_37 : decode cX1_pairRound 37 = .ok (.getfield 65, 3) := by decide +kernel
theorem dX1_pairRound_40 : decode cX1_pairRound 40 = .ok (.if_icmp .lt 12, 3) := by decide +kernel
theorem dX1_pairRound_43 : decode cX1_pairRound 43 = .ok (.iload_n 3, 1) := by decide +kernel
theorem dX1_pairRound_44 : decode cX1_pairRound 44 = .ok (.aload_n 0, 1) := by decide +kernel
theorem dX1_pairRound_45 : decode cX1_pairRound 45 = .ok (.getfield 65, 3) := by decide +kernel
theorem dX1_pairRound_48 : decode cX1_pairRound 48 = .ok (.isub, 1) := by decide +kernel
theorem dX1_pairRound_49 : decode cX1_pairRound 49 = .ok (.goto 4, 3) := by decide +kernel
theorem dX1_pairRound_52 : decode cX1_pairRound 52 = .ok (.iload_n 3, 1) := by decide +kernel
theorem dX1_pairRound_53 : decode cX1_pairRound 53 = .ok (.iload 4, 2) := by decide +kernel
theorem dX1_pairRound_55 : decode cX1_pairRound 55 = .ok (.ifCond .ge 13, 3) := by decide +kernel
theorem dX1_pairRound_58 : decode cX1_pairRound 58 = .ok (.iload 4, 2) := by decide +kernel
theorem dX1_pairRound_60 : decode cX1_pairRound 60 = .ok (.aload_n 0, 1) := by decide +kernel
theorem dX1_pairRound_61 : decode cX1_pairRound 61 = .ok (.getfield 65, 3) := by decide +kernel
theorem dX1_pairRound_64 : decode cX1_pairRound 64 = .ok (.iadd, 1) := by decide +kernel
theorem dX1_pairRound_65 : decode cX1_pairRound 65 = .ok (.goto 5, 3) := by decide +kernel
theorem dX1_pairRound_68 : decode cX1_pairRound 68 = .ok (.iload 4, 2) := by decide +kernel
theorem dX1_pairRound_70 : decode cX1_pairRound 70 = .ok (.invokevirtual 74, 3) := by decide +kernel
theorem dX1_pairRound_73 : decode cX1_pairRound 73 = .ok (.iinc 2 1, 3) := by decide +kernel
theorem dX1_pairRound_76 : decode cX1_pairRound 76 = .ok (.goto (-64), 3) := by decide +kernel
theorem dX1_pairRound_79 : decode cX1_pairRound 79 = .ok (.return_, 1) := by decide +kernel
theorem dX1_addMatch_0 : decode cX1_addMatch 0 = .ok (.iload_n 2, 1) := by decide +kernel
theorem dX1_addMatch_1 : decode cX1_addMatch 1 = .ok (.aload_n 0, 1) := by decide +kernel
theorem dX1_addMatch_2 : decode cX1_addMatch 2 = .ok (.getfield 61, 3) := by decide +kernel
theorem dX1_addMatch_5 : decode cX1_addMatch 5 = .ok (.if_icmp .ge 20, 3) := by decide +kernel
theorem dX1_addMatch_8 : decode cX1_addMatch 8 = .ok (.iload_n 3, 1) := by decide +kernel
theorem dX1_addMatch_9 : decode cX1_addMatch 9 = .ok (.aload_n 0, 1) := by decide +kernel
theorem dX1_addMatch_10 : decode cX1_addMatch 10 = .ok (.getfield 61, 3) := by decide +kernel
theorem dX1_addMatch_13 : decode cX1_addMatch 13 = .ok (.if_icmp .ge 12, 3) := by decide +kernel
theorem dX1_addMatch_16 : decode cX1_addMatch 16 = .ok (.aload_n 0, 1) := by decide +kernel
theorem dX1_addMatch_17 : decode cX1_addMatch 17 = .ok (.getfield 68, 3) := by decide +kernel
theorem dX1_addMatch_20 : decode cX1_addMatch 20 = .ok (.bipush 28, 2) := by decide +kernel
theorem dX1_addMatch_22 : decode cX1_addMatch 22 = .ok (.if_icmp .lt 4, 3) := by decide +kernel
theorem dX1_addMatch_25 : decode cX1_addMatch 25 = .ok (.return_, 1) := by decide +kernel
theorem dX1_addMatch_26 : decode cX1_addMatch 26 = .ok (.aload_n 0, 1) := by decide +kernel
theorem dX1_addMatch_27 : decode cX1_addMatch 27 = .ok (.getfield 68, 3) := by decide +kernel
theorem dX1_addMatch_30 : decode cX1_addMatch 30 = .ok (.istore 4, 2) := by decide +kernel
theorem dX1_addMatch_32 : decode cX1_addMatch 32 = .ok (.aload_n 0, 1) := by decide +kernel
theorem dX1_addMatch_33 : decode cX1_addMatch 33 = .ok (.dup, 1) := by decide +kernel
theorem dX1_addMatch_34 : decode cX1_addMatch 34 = .ok (.getfield 68, 3) := by decide +kernel
theorem dX1_addMatch_37 : decode cX1_addMatch 37 = .ok (.iconst 1, 1) := by decide +kernel
theorem dX1_addMatch_38 : decode cX1_addMatch 38 = .ok (.iadd, 1) := by decide +kernel
theorem dX1_addMatch_39 : decode cX1_addMatch 39 = .ok (.putfield 68, 3) := by decide +kernel
theorem dX1_addMatch_42 : decode cX1_addMatch 42 = .ok (.aload_n 0, 1) := by decide +kernel
theorem dX1_addMatch_43 : decode cX1_addMatch 43 = .ok (.getfield 21, 3) := by decide +kernel
theorem dX1_addMatch_46 : decode cX1_addMatch 46 = .ok (.iload 4, 2) := by decide +kernel
theorem dX1_addMatch_48 : decode cX1_addMatch 48 = .ok (.iload_n 1, 1) := by decide +kernel
theorem dX1_addMatch_49 : decode cX1_addMatch 49 = .ok (.iastore, 1) := by decide +kernel
theorem dX1_addMatch_50 : decode cX1_addMatch 50 = .ok (.aload_n 0, 1) := by decide +kernel
theorem dX1_addMatch_51 : decode cX1_addMatch 51 = .ok (.getfield 24, 3) := by decide +kernel
theorem dX1_addMatch_54 : decode cX1_addMatch 54 = .ok (.iload 4, 2) := by decide +kernel
theorem dX1_addMatch_56 : decode cX1_addMatch 56 = .ok (.iload_n 2, 1) := by decide +kernel
theorem dX1_addMatch_57 : decode cX1_addMatch 57 = .ok (.iastore, 1) := by decide +kernel
theorem dX1_addMatch_58 : decode cX1_addMatch 58 = .ok (.aload_n 0, 1) := by decide +kernel
theorem dX1_addMatch_59 : decode cX1_addMatch 59 = .ok (.getfield 27, 3) := by decide +kernel
theorem dX1_addMatch_62 : decode cX1_addMatch 62 = .ok (.iload 4, 2) := by decide +kernel
theorem dX1_addMatch_64 : decode cX1_addMatch 64 = .ok (.iload_n 3, 1) := by decide +kernel
theorem dX1_addMatch_65 : decode cX1_addMatch 65 = .ok (.iastore, 1) := by decide +kernel
theorem dX1_addMatch_66 : decode cX1_addMatch 66 = .ok (.aload_n 0, 1) := by decide +kernel
theorem dX1_addMatch_67 : decode cX1_addMatch 67 = .ok (.getfield 30, 3) := by decide +kernel
theorem dX1_addMatch_70 : decode cX1_addMatch 70 = .ok (.iload 4, 2) := by decide +kernel
theorem dX1_addMatch_72 : decode cX1_addMatch 72 = .ok (.iconst (-1), 1) := by decide +kernel
theorem dX1_addMatch_73 : decode cX1_addMatch 73 = .ok (.iastore, 1) := by decide +kernel
theorem dX1_addMatch_74 : decode cX1_addMatch 74 = .ok (.aload_n 0, 1) := by decide +kernel
theorem dX1_addMatch_75 : decode cX1_addMatch 75 = .ok (.getfield 33, 3) := by decide +kernel
theorem dX1_addMatch_78 : decode cX1_addMatch 78 = .ok (.iload 4, 2) := by decide +kernel
theorem dX1_addMatch_80 : decode cX1_addMatch 80 = .ok (.iconst (-1), 1) := by decide +kernel
theorem dX1_addMatch_81 : decode cX1_addMatch 81 = .ok (.iastore, 1) := by decide +kernel
theorem dX1_addMatch_82 : decode cX1_addMatch 82 = .ok (.aload_n 0, 1) := by decide +kernel
theorem dX1_addMatch_83 : decode cX1_addMatch 83 = .ok (.getfield 36, 3) := by decide +kernel
theorem dX1_addMatch_86 : decode cX1_addMatch 86 = .ok (.iload 4, 2) := by decide +kernel
theorem dX1_addMatch_88 : decode cX1_addMatch 88 = .ok (.iconst 0, 1) := by decide +kernel
theorem dX1_addMatch_89 : decode cX1_addMatch 89 = .ok (.iastore, 1) := by decide +kernel
theorem dX1_addMatch_90 : decode cX1_addMatch 90 = .ok (.aload_n 0, 1) := by decide +kernel
theorem dX1_addMatch_91 : decode cX1_addMatch 91 = .ok (.getfield 39, 3) := by decide +kernel
theorem dX1_addMatch_94 : decode cX1_addMatch 94 = .ok (.iload 4, 2) := by decide +kernel
theorem dX1_addMatch_96 : decode cX1_addMatch 96 = .ok (.iconst 0, 1) := by decide +kernel
theorem dX1_addMatch_97 : decode cX1_addMatch 97 = .ok (.iastore, 1) := by decide +kernel
theorem dX1_addMatch_98 : decode cX1_addMatch 98 = .ok (.return_, 1) := by decide +kernel
theorem dX1_copyFrom_0 : decode cX1_copyFrom 0 = .ok (.aload_n 0, 1) := by decide +kernel
theorem dX1_copyFrom_1 : decode cX1_copyFrom 1 = .ok (.aload_n 1, 1) := by decide +kernel
theorem dX1_copyFrom_2 : decode cX1_copyFrom 2 = .ok (.getfield 61, 3) := by decide +kernel
theorem dX1_copyFrom_5 : decode cX1_copyFrom 5 = .ok (.putfield 61, 3) := by decide +kernel
theorem dX1_copyFrom_8 : decode cX1_copyFrom 8 = .ok (.aload_n 0, 1) := by decide +kernel
theorem dX1_copyFrom_9 : decode cX1_copyFrom 9 = .ok (.aload_n 1, 1) := by decide +kernel
theorem dX1_copyFrom_10 : decode cX1_copyFrom 10 = .ok (.getfield 65, 3) := by decide +kernel
theorem dX1_copyFrom_13 : decode cX1_copyFrom 13 = .ok (.putfield 65, 3) := by decide +kernel
theorem dX1_copyFrom_16 : decode cX1_copyFrom 16 = .ok (.aload_n 0, 1) := by decide +kernel
theorem dX1_copyFrom_17 : decode cX1_copyFrom 17 = .ok (.aload_n 1, 1) := by decide +kernel
theorem dX1_copyFrom_18 : decode cX1_copyFrom 18 = .ok (.getfield 68, 3) := by decide +kernel
theorem dX1_copyFrom_21 : decode cX1_copyFrom 21 = .ok (.putfield 68, 3) := by decide +kernel
theorem dX1_copyFrom_24 : decode cX1_copyFrom 24 = .ok (.aload_n 1, 1) := by decide +kernel
theorem dX1_copyFrom_25 : decode cX1_copyFrom 25 = .ok (.getfield 9, 3) := by decide +kernel
theorem dX1_copyFrom_28 : decode cX1_copyFrom 28 = .ok (.iconst 0, 1) := by decide +kernel
theorem dX1_copyFrom_29 : decode cX1_copyFrom 29 = .ok (.aload_n 0, 1) := by decide +kernel
theorem dX1_copyFrom_30 : decode cX1_copyFrom 30 = .ok (.getfield 9, 3) := by decide +kernel
theorem dX1_copyFrom_33 : decode cX1_copyFrom 33 = .ok (.iconst 0, 1) := by decide +kernel
theorem dX1_copyFrom_34 : decode cX1_copyFrom 34 = .ok (.iconst 4, 1) := by decide +kernel
theorem dX1_copyFrom_35 : decode cX1_copyFrom 35 = .ok (.invokestatic 51, 3) := by decide +kernel
theorem dX1_copyFrom_38 : decode cX1_copyFrom 38 = .ok (.aload_n 1, 1) := by decide +kernel
theorem dX1_copyFrom_39 : decode cX1_copyFrom 39 = .ok (.getfield 15, 3) := by decide +kernel
theorem dX1_copyFrom_42 : decode cX1_copyFrom 42 = .ok (.iconst 0, 1) := by decide +kernel
theorem dX1_copyFrom_43 : decode cX1_copyFrom 43 = .ok (.aload_n 0, 1) := by decide +kernel
theorem dX1_copyFrom_44 : decode cX1_copyFrom 44 = .ok (.getfield 15, 3) := by decide +kernel
theorem dX1_copyFrom_47 : decode cX1_copyFrom 47 = .ok (.iconst 0, 1) := by decide +kernel
theorem dX1_copyFrom_48 : decode cX1_copyFrom 48 = .ok (.bipush 6, 2) := by decide +kernel
theorem dX1_copyFrom_50 : decode cX1_copyFrom 50 = .ok (.invokestatic 51, 3) := by decide +kernel
theorem dX1_copyFrom_53 : decode cX1_copyFrom 53 = .ok (.aload_n 1, 1) := by decide +kernel
theorem dX1_copyFrom_54 : decode cX1_copyFrom 54 = .ok (.getfield 18, 3) := by decide +kernel
theorem dX1_copyFrom_57 : decode cX1_copyFrom 57 = .ok (.iconst 0, 1) := by decide +kernel
theorem dX1_copyFrom_58 : decode cX1_copyFrom 58 = .ok (.aload_n 0, 1) := by decide +kernel
theorem dX1_copyFrom_59 : decode cX1_copyFrom 59 = .ok (.getfield 18, 3) := by decide +kernel
theorem dX1_copyFrom_62 : decode cX1_copyFrom 62 = .ok (.iconst 0, 1) := by decide +kernel
theorem dX1_copyFrom_63 : decode cX1_copyFrom 63 = .ok (.bipush 6, 2) := by decide +kernel
theorem dX1_copyFrom_65 : decode cX1_copyFrom 65 = .ok (.invokestatic 51, 3) := by decide +kernel
theorem dX1_copyFrom_68 : decode cX1_copyFrom 68 = .ok (.aload_n 1, 1) := by decide +kernel
theorem dX1_copyFrom_69 : decode cX1_copyFrom 69 = .ok (.getfield 21, 3) := by decide +kernel
theorem dX1_copyFrom_72 : decode cX1_copyFrom 72 = .ok (.iconst 0, 1) := by decide +kernel
theorem dX1_copyFrom_73 : decode cX1_copyFrom 73 = .ok (.aload_n 0, 1) := by decide +kernel
theorem dX1_copyFrom_74 : decode cX1_copyFrom 74 = .ok (.getfield 21, 3) := by decide +kernel
theorem dX1_copyFrom_77 : decode cX1_copyFrom 77 = .ok (.iconst 0, 1) := by decide +kernel
theorem dX1_copyFrom_78 : decode cX1_copyFrom 78 = .ok (.bipush 28, 2) := by decide +kernel
theorem dX1_copyFrom_80 : decode cX1_copyFrom 80 = .ok (.invokestatic 51, 3) := by decide +kernel
theorem dX1_copyFrom_83 : decode cX1_copyFrom 83 = .ok (.aload_n 1, 1) := by decide +kernel
theorem dX1_copyFrom_84 : decode cX1_copyFrom 84 = .ok (.getfield 24, 3) := by decide +kernel
theorem dX1_copyFrom_87 : decode cX1_copyFrom 87 = .ok (.iconst 0, 1) := by decide +kernel
theorem dX1_copyFrom_88 : decode cX1_copyFrom 88 = .ok (.aload_n 0, 1) := by decide +kernel
theorem dX1_copyFrom_89 : decode cX1_copyFrom 89 = .ok (.getfield 24, 3) := by decide +kernel
theorem dX1_copyFrom_92 : decode cX1_copyFrom 92 = .ok (.iconst 0, 1) := by decide +kernel
theorem dX1_copyFrom_93 : decode cX1_copyFrom 93 = .ok (.bipush 28, 2) := by decide +kernel
theorem dX1_copyFrom_95 : decode cX1_copyFrom 95 = .ok (.invokestatic 51, 3) := by decide +kernel
theorem dX1_copyFrom_98 : decode cX1_copyFrom 98 = .ok (.aload_n 1, 1) := by decide +kernel
theorem dX1_copyFrom_99 : decode cX1_copyFrom 99 = .ok (.getfield 27, 3) := by decide +kernel
theorem dX1_copyFrom_102 : decode cX1_copyFrom 102 = .ok (.iconst 0, 1) := by decide +kernel
theorem dX1_copyFrom_103 : decode cX1_copyFrom 103 = .ok (.aload_n 0, 1) := by decide +kernel
theorem dX1_copyFrom_104 : decode cX1_copyFrom 104 = .ok (.getfield 27, 3) := by decide +kernel
theorem dX1_copyFrom_107 : decode cX1_copyFrom 107 = .ok (.iconst 0, 1) := by decide +kernel
theorem dX1_copyFrom_108 : decode cX1_copyFrom 108 = .ok (.bipush 28, 2) := by decide +kernel
theorem dX1_copyFrom_110 : decode cX1_copyFrom 110 = .ok (.invokestatic 51, 3) := by decide +kernel
theorem dX1_copyFrom_113 : decode cX1_copyFrom 113 = .ok (.aload_n 1, 1) := by decide +kernel
theorem dX1_copyFrom_114 : decode cX1_copyFrom 114 = .ok (.getfield 30, 3) := by decide +kernel
theorem dX1_copyFrom_117 : decode cX1_copyFrom 117 = .ok (.iconst 0, 1) := by decide +kernel
theorem dX1_copyFrom_118 : decode cX1_copyFrom 118 = .ok (.aload_n 0, 1) := by decide +kernel
theorem dX1_copyFrom_119 : decode cX1_copyFrom 119 = .ok (.getfield 30, 3) := by decide +kernel
theorem dX1_copyFrom_122 : decode cX1_copyFrom 122 = .ok (.iconst 0, 1) := by decide +kernel
theorem dX1_copyFrom_123 : decode cX1_copyFrom 123 = .ok (.bipush 28, 2) := by decide +kernel
theorem dX1_copyFrom_125 : decode cX1_copyFrom 125 = .ok (.invokestatic 51, 3) := by decide +kernel
theorem dX1_copyFrom_128 : decode cX1_copyFrom 128 = .ok (.aload_n 1, 1) := by decide +kernel
theorem dX1_copyFrom_129 : decode cX1_copyFrom 129 = .ok (.getfield 33, 3) := by decide +kernel
theorem dX1_copyFrom_132 : decode cX1_copyFrom 132 = .ok (.iconst 0, 1) := by decide +kernel
theorem dX1_copyFrom_133 : decode cX1_copyFrom 133 = .ok (.aload_n 0, 1) := by decide +kernel
theorem dX1_copyFrom_134 : decode cX1_copyFrom 134 = .ok (.getfield 33, 3) := by decide +kernel
theorem dX1_copyFrom_137 : decode cX1_copyFrom 137 = .ok (.iconst 0, 1) := by decide +kernel
theorem dX1_copyFrom_138 : decode cX1_copyFrom 138 = .ok (.bipush 28, 2) := by decide +kernel
theorem dX1_copyFrom_140 : decode cX1_copyFrom 140 = .ok (.invokestatic 51, 3) := by decide +kernel
theorem dX1_copyFrom_143 : decode cX1_copyFrom 143 = .ok (.aload_n 1, 1) := by decide +kernel
theorem dX1_copyFrom_144 : decode cX1_copyFrom 144 = .ok (.getfield 36, 3) := by decide +kernel
theorem dX1_copyFrom_147 : decode cX1_copyFrom 147 = .ok (.iconst 0, 1) := by decide +kernel
theorem dX1_copyFrom_148 : decode cX1_copyFrom 148 = .ok (.aload_n 0, 1) := by decide +kernel
theorem dX1_copyFrom_149 : decode cX1_copyFrom 149 = .ok (.getfield 36, 3) := by decide +kernel
theorem dX1_copyFrom_152 : decode cX1_copyFrom 152 = .ok (.iconst 0, 1) := by decide +kernel
theorem dX1_copyFrom_153 : decode cX1_copyFrom 153 = .ok (.bipush 28, 2) := by decide +kernel
theorem dX1_copyFrom_155 : decode cX1_copyFrom 155 = .ok (.invokestatic 51, 3) := by decide +kernel
theorem dX1_copyFrom_158 : decode cX1_copyFrom 158 = .ok (.aload_n 1, 1) := by decide +kernel
theorem dX1_copyFrom_159 : decode cX1_copyFrom 159 = .ok (.getfield 39, 3) := by decide +kernel
theorem dX1_copyFrom_162 : decode cX1_copyFrom 162 = .ok (.iconst 0, 1) := by decide +kernel
theorem dX1_copyFrom_163 : decode cX1_copyFrom 163 = .ok (.aload_n 0, 1) := by decide +kernel
theorem dX1_copyFrom_164 : decode cX1_copyFrom 164 = .ok (.getfield 39, 3) := by decide +kernel
theorem dX1_copyFrom_167 : decode cX1_copyFrom 167 = .ok (.iconst 0, 1) := by decide +kernel
theorem dX1_copyFrom_168 : decode cX1_copyFrom 168 = .ok (.bipush 28, 2) := by decide +kernel
theorem dX1_copyFrom_170 : decode cX1_copyFrom 170 = .ok (.invokestatic 51, 3) := by decide +kernel
theorem dX1_copyFrom_173 : decode cX1_copyFrom 173 = .ok (.aload_n 1, 1) := by decide +kernel
theorem dX1_copyFrom_174 : decode cX1_copyFrom 174 = .ok (.getfield 42, 3) := by decide +kernel
theorem dX1_copyFrom_177 : decode cX1_copyFrom 177 = .ok (.iconst 0, 1) := by decide +kernel
theorem dX1_copyFrom_178 : decode cX1_copyFrom 178 = .ok (.aload_n 0, 1) := by decide +kernel
theorem dX1_copyFrom_179 : decode cX1_copyFrom 179 = .ok (.getfield 42, 3) := by decide +kernel
theorem dX1_copyFrom_182 : decode cX1_copyFrom 182 = .ok (.iconst 0, 1) := by decide +kernel
theorem dX1_copyFrom_183 : decode cX1_copyFrom 183 = .ok (.bipush 28, 2) := by decide +kernel
theorem dX1_copyFrom_185 : decode cX1_copyFrom 185 = .ok (.invokestatic 51, 3) := by decide +kernel
theorem dX1_copyFrom_188 : decode cX1_copyFrom 188 = .ok (.aload_n 1, 1) := by decide +kernel
theorem dX1_copyFrom_189 : decode cX1_copyFrom 189 = .ok (.getfield 45, 3) := by decide +kernel
theorem dX1_copyFrom_192 : decode cX1_copyFrom 192 = .ok (.iconst 0, 1) := by decide +kernel
theorem dX1_copyFrom_193 : decode cX1_copyFrom 193 = .ok (.aload_n 0, 1) := by decide +kernel
theorem dX1_copyFrom_194 : decode cX1_copyFrom 194 = .ok (.getfield 45, 3) := by decide +kernel
theorem dX1_copyFrom_197 : decode cX1_copyFrom 197 = .ok (.iconst 0, 1) := by decide +kernel
theorem dX1_copyFrom_198 : decode cX1_copyFrom 198 = .ok (.bipush 28, 2) := by decide +kernel
theorem dX1_copyFrom_200 : decode cX1_copyFrom 200 = .ok (.invokestatic 51, 3) := by decide +kernel
theorem dX1_copyFrom_203 : decode cX1_copyFrom 203 = .ok (.return_, 1) := by decide +kernel
theorem dX1_hasMatch_0 : decode cX1_hasMatch 0 = .ok (.iload_n 1, 1) := by decide +kernel
theorem dX1_hasMatch_1 : decode cX1_hasMatch 1 = .ok (.ifCond .lt 15, 3) := by decide +kernel
theorem dX1_hasMatch_4 : decode cX1_hasMatch 4 = .ok (.iload_n 1, 1) := by decide +kernel
theorem dX1_hasMatch_5 : decode cX1_hasMatch 5 = .ok (.aload_n 0, 1) := by decide +kernel
theorem dX1_hasMatch_6 : decode cX1_hasMatch 6 = .ok (.getfield 68, 3) := by decide +kernel
theorem dX1_hasMatch_9 : decode cX1_hasMatch 9 = .ok (.if_icmp .ge 7, 3) := by decide +kernel
theorem dX1_hasMatch_12 : decode cX1_hasMatch 12 = .ok (.iconst 1, 1) := by decide +kernel
theorem dX1_hasMatch_13 : decode cX1_hasMatch 13 = .ok (.goto 4, 3) := by decide +kernel
theorem dX1_hasMatch_16 : decode cX1_hasMatch 16 = .ok (.iconst 0, 1) := by decide +kernel
theorem dX1_hasMatch_17 : decode cX1_hasMatch 17 = .ok (.ireturn, 1) := by decide +kernel
theorem dX1_hasTeam_0 : decode cX1_hasTeam 0 = .ok (.iload_n 1, 1) := by decide +kernel
theorem dX1_hasTeam_1 : decode cX1_hasTeam 1 = .ok (.ifCond .lt 15, 3) := by decide +kernel
theorem dX1_hasTeam_4 : decode cX1_hasTeam 4 = .ok (.iload_n 1, 1) := by decide +kernel
theorem dX1_hasTeam_5 : decode cX1_hasTeam 5 = .ok (.aload_n 0, 1) := by decide +kernel
theorem dX1_hasTeam_6 : decode cX1_hasTeam 6 = .ok (.getfield 61, 3) := by decide +kernel
theorem dX1_hasTeam_9 : decode cX1_hasTeam 9 = .ok (.if_icmp .ge 7, 3) := by decide +kernel
theorem dX1_hasTeam_12 : decode cX1_hasTeam 12 = .ok (.iconst 1, 1) := by decide +kernel
theorem dX1_hasTeam_13 : decode cX1_hasTeam 13 = .ok (.goto 4, 3) := by decide +kernel
theorem dX1_hasTeam_16 : decode cX1_hasTeam 16 = .ok (.iconst 0, 1) := by decide +kernel
theorem dX1_hasTeam_17 : decode cX1_hasTeam 17 = .ok (.ireturn, 1) := by decide +kernel
set_option maxRecDepth 20000 in
theorem ggX1_canHaveResult_X1_hasMatch : GoodIn wsX1_canHaveResult wsX1_hasMatch := goodIn_r _ [6, 7, 8, 9, 10, 11, 12, 13, 14, 15, 16, 17, 18, 19, 20, 21, 22] (by decide +kernel) (by decide +kernel)
set_option maxRecDepth 20000 in
theorem gX1_canHaveResult_X1_hasMatch : GoodIn wsX1_canHaveResult (wsV RX1 78 RX1 yX1_hasMatch wsX1_hasMatch) := goodIn_app (goodIn_of _ (by decide +kernel)) ggX1_canHaveResult_X1_hasMatch
theorem dX1_canHaveResult_0 : decode cX1_canHaveResult 0 = .ok (.aload_n 0, 1) := by decide +kernel
theorem dX1_canHaveResult_1 : decode cX1_canHaveResult 1 = .ok (.iload_n 1, 1) := by decide +kernel
theorem dX1_canHaveResult_2 : decode cX1_canHaveResult 2 = .ok (.invokevirtual 78, 3) := by decide +kernel
theorem dX1_canHaveResult_5 : decode cX1_canHaveResult 5 = .ok (.ifCond .eq 17, 3) := by decide +kernel
theorem dX1_canHaveResult_8 : decode cX1_canHaveResult 8 = .ok (.aload_n 0, 1) := by decide +kernel
theorem dX1_canHaveResult_9 : decode cX1_canHaveResult 9 = .ok (.getfield 30, 3) := by decide +kernel
theorem dX1_canHaveResult_12 : decode cX1_canHaveResult 12 = .ok (.iload_n 1, 1) := by decide +kernel
theorem dX1_canHaveResult_13 : decode cX1_canHaveResult 13 = .ok (.iaload, 1) := by decide +kernel
theorem dX1_canHaveResult_14 : decode cX1_canHaveResult 14 = .ok (.iconst (-1), 1) := by decide +kernel
theorem dX1_canHaveResult_15 : decode cX1_canHaveResult 15 = .ok (.if_icmp .eq 7, 3) := by decide +kernel
theorem dX1_canHaveResult_18 : decode cX1_canHaveResult 18 = .ok (.iconst 1, 1) := by decide +kernel
theorem dX1_canHaveResult_19 : decode cX1_canHaveResult 19 = .ok (.goto 4, 3) := by decide +kernel
theorem dX1_canHaveResult_22 : decode cX1_canHaveResult 22 = .ok (.iconst 0, 1) := by decide +kernel
theorem dX1_canHaveResult_23 : decode cX1_canHaveResult 23 = .ok (.ireturn, 1) := by decide +kernel
set_option maxRecDepth 20000 in
theorem ggX1_give_X1_hasMatch : GoodIn wsX1_give wsX1_hasMatch := goodIn_r _ [8, 9, 10, 11, 12, 13, 14, 15, 16, 17, 18, 19, 20, 21, 22, 23, 24] (by decide +kernel) (by decide +kernel)
set_option maxRecDepth 20000 in
theorem gX1_give_X1_hasMatch : GoodIn wsX1_give (wsV RX1 78 RX1 yX1_hasMatch wsX1_hasMatch) := goodIn_app (goodIn_of _ (by decide +kernel)) ggX1_give_X1_hasMatch
theorem dX1_give_0 : decode cX1_give 0 = .ok (.aload_n 0, 1) := by decide +kernel
theorem dX1_give_1 : decode cX1_give 1 = .ok (.iload_n 1, 1) := by decide +kernel
theorem dX1_give_2 : decode cX1_give 2 = .ok (.invokevirtual 78, 3) := by decide +kernel
theorem dX1_give_5 : decode cX1_give 5 = .ok (.ifCond .ne 4, 3) := by decide +kernel
theorem dX1_give_8 : decode cX1_give 8 = .ok (.return_, 1) := by decide +kernel
theorem dX1_give_9 : decode cX1_give 9 = .ok (.aload_n 0, 1) := by decide +kernel
theorem dX1_give_10 : decode cX1_give 10 = .ok (.getfield 39, 3) := by decide +kernel
theorem dX1_give_13 : decode cX1_give 13 = .ok (.iload_n 1, 1) := by decide +kernel
theorem dX1_give_14 : decode cX1_give 14 = .ok (.iload_n 2, 1) := by decide +kernel
theorem dX1_give_15 : decode cX1_give 15 = .ok (.iastore, 1) := by decide +kernel
theorem dX1_give_16 : decode cX1_give 16 = .ok (.aload_n 0, 1) := by decide +kernel
theorem dX1_give_17 : decode cX1_give 17 = .ok (.getfield 42, 3) := by decide +kernel
theorem dX1_give_20 : decode cX1_give 20 = .ok (.iload_n 1, 1) := by decide +kernel
theorem dX1_give_21 : decode cX1_give 21 = .ok (.iload_n 3, 1) := by decide +kernel
theorem dX1_give_22 : decode cX1_give 22 = .ok (.iastore, 1) := by decide +kernel
theorem dX1_give_23 : decode cX1_give 23 = .ok (.aload_n 0, 1) := by decide +kernel
theorem dX1_give_24 : decode cX1_give 24 = .ok (.getfield 45, 3) := by decide +kernel
theorem dX1_give_27 : decode cX1_give 27 = .ok (.iload_n 1, 1) := by decide +kernel
theorem dX1_give_28 : decode cX1_give 28 = .ok (.iload 4, 2) := by decide +kernel
theorem dX1_give_30 : decode cX1_give 30 = .ok (.iastore, 1) := by decide +kernel
theorem dX1_give_31 : decode cX1_give 31 = .ok (.return_, 1) := by decide +kernel
set_option maxRecDepth 20000 in
theorem ggX1_winAll_X1_give : GoodIn wsX1_winAll wsX1_give := goodIn_r _ [9, 2, 10, 11, 12, 13, 14, 8, 15, 1, 16, 17, 18, 19, 20, 21, 22, 23, 24, 25, 26, 27, 28, 29, 30] (by decide +kernel) (by decide +kernel)
set_option maxRecDepth 20000 in
theorem gX1_winAll_X1_give : GoodIn wsX1_winAll (wsV RX1 82 RX1 yX1_give wsX1_give) := goodIn_app (goodIn_of _ (by decide +kernel)) ggX1_winAll_X1_give
theorem dX1_winAll_0 : decode cX1_winAll 0 = .ok (.iconst 0, 1) := by decide +kernel
theorem dX1_winAll_1 : decode cX1_winAll 1 = .ok (.istore_n 2, 1) := by decide +kernel
theorem dX1_winAll_2 : decode cX1_winAll 2 = .ok (.iload_n 2, 1) := by decide +kernel
theorem dX1_winAll_3 : decode cX1_winAll 3 = .ok (.aload_n 0, 1) := by decide +kernel
theorem dX1_winAll_4 : decode cX1_winAll 4 = .ok (.getfield 68, 3) := by decide +kernel
theorem dX1_winAll_7 : decode cX1_winAll 7 = .ok (.if_icmp .ge 68, 3) := by decide +kernel
theorem dX1_winAll_10 : decode cX1_winAll 10 = .ok (.aload_n 0, 1) := by decide +kernel
theorem dX1_winAll_11 : decode cX1_winAll 11 = .ok (.getfield 39, 3) := by decide +kernel
theorem dX1_winAll_14 : decode cX1_winAll 14 = .ok (.iload_n 2, 1) := by decide +kernel
theorem dX1_winAll_15 : decode cX1_winAll 15 = .ok (.iaload, 1) := by decide +kernel
theorem dX1_winAll_16 : decode cX1_winAll 16 = .ok (.ifCond .ne 25, 3) := by decide +kernel
theorem dX1_winAll_19 : decode cX1_winAll 19 = .ok (.aload_n 0, 1) := by decide +kernel
theorem dX1_winAll_20 : decode cX1_winAll 20 = .ok (.getfield 24, 3) := by decide +kernel
theorem dX1_winAll_23 : decode cX1_winAll 23 = .ok (.iload_n 2, 1) := by decide +kernel
theorem dX1_winAll_24 : decode cX1_winAll 24 = .ok (.iaload, 1) := by decide +kernel
theorem dX1_winAll_25 : decode cX1_winAll 25 = .ok (.iload_n 1, 1) := by decide +kernel
theorem dX1_winAll_26 : decode cX1_winAll 26 = .ok (.if_icmp .ne 15, 3) := by decide +kernel
theorem dX1_winAll_29 : decode cX1_winAll 29 = .ok (.aload_n 0, 1) := by decide +kernel
theorem dX1_winAll_30 : decode cX1_winAll 30 = .ok (.iload_n 2, 1) := by decide +kernel
theorem dX1_winAll_31 : decode cX1_winAll 31 = .ok (.iconst 1, 1) := by decide +kernel
theorem dX1_winAll_32 : decode cX1_winAll 32 = .ok (.bipush 99, 2) := by decide +kernel
theorem dX1_winAll_34 : decode cX1_winAll 34 = .ok (.iconst 0, 1) := by decide +kernel
theorem dX1_winAll_35 : decode cX1_winAll 35 = .ok (.invokevirtual 82, 3) := by decide +kernel
theorem dX1_winAll_38 : decode cX1_winAll 38 = .ok (.goto 31, 3) := by decide +kernel
theorem dX1_winAll_41 : decode cX1_winAll 41 = .ok (.aload_n 0, 1) := by decide +kernel
theorem dX1_winAll_42 : decode cX1_winAll 42 = .ok (.getfield 39, 3) := by decide +kernel
theorem dX1_winAll_45 : decode cX1_winAll 45 = .ok (.iload_n 2, 1) := by decide +kernel
theorem dX1_winAll_46 : decode cX1_winAll 46 = .ok (.iaload, 1) := by decide +kernel
theorem dX1_winAll_47 : decode cX1_winAll 47 = .ok (.ifCond .ne 22, 3) := by decide +kernel
theorem dX1_winAll_50 : decode cX1_winAll 50 = .ok (.aload_n 0, 1) := by decide +kernel
theorem dX1_winAll_51 : decode cX1_winAll 51 = .ok (.getfield 27, 3) := by decide +kernel
theorem dX1_winAll_54 : decode cX1_winAll 54 = .ok (.iload_n 2, 1) := by decide +kernel
theorem dX1_winAll_55 : decode cX1_winAll 55 = .ok (.iaload, 1) := by decide +kernel
theorem dX1_winAll_56 : decode cX1_winAll 56 = .ok (.iload_n 1, 1) := by decide +kernel
theorem dX1_winAll_57 : decode cX1_winAll 57 = .ok (.if_icmp .ne 12, 3) := by decide +kernel
theorem dX1_winAll_60 : decode cX1_winAll 60 = .ok (.aload_n 0, 1) := by decide +kernel
theorem dX1_winAll_61 : decode cX1_winAll 61 = .ok (.iload_n 2, 1) := by decide +kernel
theorem dX1_winAll_62 : decode cX1_winAll 62 = .ok (.iconst 1, 1) := by decide +kernel
theorem dX1_winAll_63 : decode cX1_winAll 63 = .ok (.iconst 0, 1) := by decide +kernel
theorem dX1_winAll_64 : decode cX1_winAll 64 = .ok (.bipush 99, 2) := by decide +kernel
theorem dX1_winAll_66 : decode cX1_winAll 66 = .ok (.invokevirtual 82, 3) := by decide +kernel
theorem dX1_winAll_69 : decode cX1_winAll 69 = .ok (.iinc 2 1, 3) := by decide +kernel
theorem dX1_winAll_72 : decode cX1_winAll 72 = .ok (.goto (-70), 3) := by decide +kernel
theorem dX1_winAll_75 : decode cX1_winAll 75 = .ok (.return_, 1) := by decide +kernel
set_option maxRecDepth 20000 in
theorem ggX1_scoreOf_X1_hasMatch : GoodIn wsX1_scoreOf wsX1_hasMatch := goodIn_r _ [9, 10, 11, 12, 13, 14, 15, 16, 17, 18, 19, 20, 21, 22, 23, 24, 25] (by decide +kernel) (by decide +kernel)
set_option maxRecDepth 20000 in
theorem gX1_scoreOf_X1_hasMatch : GoodIn wsX1_scoreOf (wsV RX1 78 RX1 yX1_hasMatch wsX1_hasMatch) := goodIn_app (goodIn_of _ (by decide +kernel)) ggX1_scoreOf_X1_hasMatch
theorem dX1_scoreOf_0 : decode cX1_scoreOf 0 = .ok (.aload_n 0, 1) := by decide +kernel
theorem dX1_scoreOf_1 : decode cX1_scoreOf 1 = .ok (.iload_n 1, 1) := by decide +kernel
theorem dX1_scoreOf_2 : decode cX1_scoreOf 2 = .ok (.invokevirtual 78, 3) := by decide +kernel
theorem dX1_scoreOf_5 : decode cX1_scoreOf 5 = .ok (.ifCond .ne 5, 3) := by decide +kernel
theorem dX1_scoreOf_8 : decode cX1_scoreOf 8 = .ok (.iconst (-1), 1) := by decide +kernel
theorem dX1_scoreOf_9 : decode cX1_scoreOf 9 = .ok (.ireturn, 1) := by decide +kernel
theorem dX1_scoreOf_10 : decode cX1_scoreOf 10 = .ok (.aload_n 0, 1) := by decide +kernel
theorem dX1_scoreOf_11 : decode cX1_scoreOf 11 = .ok (.getfield 39, 3) := by decide +kernel
theorem dX1_scoreOf_14 : decode cX1_scoreOf 14 = .ok (.iload_n 1, 1) := by decide +kernel
theorem dX1_scoreOf_15 : decode cX1_scoreOf 15 = .ok (.iaload, 1) := by decide +kernel
theorem dX1_scoreOf_16 : decode cX1_scoreOf 16 = .ok (.tableswitch 78 1 3 #[28, 48, 63], 28) := by decide +kernel
theorem dX1_scoreOf_44 : decode cX1_scoreOf 44 = .ok (.iload_n 2, 1) := by decide +kernel
theorem dX1_scoreOf_45 : decode cX1_scoreOf 45 = .ok (.ifCond .eq 12, 3) := by decide +kernel
theorem dX1_scoreOf_48 : decode cX1_scoreOf 48 = .ok (.aload_n 0, 1) := by decide +kernel
theorem dX1_scoreOf_49 : decode cX1_scoreOf 49 = .ok (.getfield 45, 3) := by decide +kernel
theorem dX1_scoreOf_52 : decode cX1_scoreOf 52 = .ok (.iload_n 1, 1) := by decide +kernel
theorem dX1_scoreOf_53 : decode cX1_scoreOf 53 = .ok (.iaload, 1) := by decide +kernel
theorem dX1_scoreOf_54 : decode cX1_scoreOf 54 = .ok (.goto 9, 3) := by decide +kernel
theorem dX1_scoreOf_57 : decode cX1_scoreOf 57 = .ok (.aload_n 0, 1) := by decide +kernel
theorem dX1_scoreOf_58 : decode cX1_scoreOf 58 = .ok (.getfield 42, 3) := by decide +kernel
theorem dX1_scoreOf_61 : decode cX1_scoreOf 61 = .ok (.iload_n 1, 1) := by decide +kernel
theorem dX1_scoreOf_62 : decode cX1_scoreOf 62 = .ok (.iaload, 1) := by decide +kernel
theorem dX1_scoreOf_63 : decode cX1_scoreOf 63 = .ok (.ireturn, 1) := by decide +kernel
theorem dX1_scoreOf_64 : decode cX1_scoreOf 64 = .ok (.iload_n 2, 1) := by decide +kernel
theorem dX1_scoreOf_65 : decode cX1_scoreOf 65 = .ok (.ifCond .eq 12, 3) := by decide +kernel
theorem dX1_scoreOf_68 : decode cX1_scoreOf 68 = .ok (.aload_n 0, 1) := by decide +kernel
theorem dX1_scoreOf_69 : decode cX1_scoreOf 69 = .ok (.getfield 9, 3) := by decide +kernel
theorem dX1_scoreOf_72 : decode cX1_scoreOf 72 = .ok (.iconst 2, 1) := by decide +kernel
theorem dX1_scoreOf_73 : decode cX1_scoreOf 73 = .ok (.iaload, 1) := by decide +kernel
theorem dX1_scoreOf_74 : decode cX1_scoreOf 74 = .ok (.goto 4, 3) := by decide +kernel
theorem dX1_scoreOf_77 : decode cX1_scoreOf 77 = .ok (.iconst 0, 1) := by decide +kernel
theorem dX1_scoreOf_78 : decode cX1_scoreOf 78 = .ok (.ireturn, 1) := by decide +kernel
theorem dX1_scoreOf_79 : decode cX1_scoreOf 79 = .ok (.iload_n 2, 1) := by decide +kernel
theorem dX1_scoreOf_80 : decode cX1_scoreOf 80 = .ok (.ifCond .eq 7, 3) := by decide +kernel
theorem dX1_scoreOf_83 : decode cX1_scoreOf 83 = .ok (.iconst 0, 1) := by decide +kernel
theorem dX1_scoreOf_84 : decode cX1_scoreOf 84 = .ok (.goto 9, 3) := by decide +kernel
theorem dX1_scoreOf_87 : decode cX1_scoreOf 87 = .ok (.aload_n 0, 1) := by decide +kernel
theorem dX1_scoreOf_88 : decode cX1_scoreOf 88 = .ok (.getfield 9, 3) := by decide +kernel
theorem dX1_scoreOf_91 : decode cX1_scoreOf 91 = .ok (.iconst 2, 1) := by decide +kernel
theorem dX1_scoreOf_92 : decode cX1_scoreOf 92 = .ok (.iaload, 1) := by decide +kernel
theorem dX1_scoreOf_93 : decode cX1_scoreOf 93 = .ok (.ireturn, 1) := by decide +kernel
theorem dX1_scoreOf_94 : decode cX1_scoreOf 94 = .ok (.iconst (-1), 1) := by decide +kernel
theorem dX1_scoreOf_95 : decode cX1_scoreOf 95 = .ok (.ireturn, 1) := by decide +kernel
set_option maxRecDepth 20000 in
theorem ggX1_property_X1_hasMatch : GoodIn wsX1_property wsX1_hasMatch := goodIn_r _ [12, 13, 21, 22, 23, 24, 25, 26, 27, 28, 29, 30, 31, 32, 33, 34, 35] (by decide +kernel) (by decide +kernel)
set_option maxRecDepth 20000 in
theorem gX1_property_X1_hasMatch : GoodIn wsX1_property (wsV RX1 78 RX1 yX1_hasMatch wsX1_hasMatch) := goodIn_app (goodIn_of _ (by decide +kernel)) ggX1_property_X1_hasMatch
set_option maxRecDepth 20000 in
theorem ggX1_property_X1_scoreOf : GoodIn wsX1_property wsX1_scoreOf := goodIn_r _ [17, 7, 18, 19, 20, 8, 9, 10, 11, 12, 13, 21, 22, 23, 24, 25, 26, 27, 28, 29, 30, 31, 32, 33, 34, 35] (by decide +kernel) (by decide +kernel)
set_option maxRecDepth 20000 in
theorem gX1_property_X1_scoreOf : GoodIn wsX1_property (wsV RX1 86 RX1 yX1_scoreOf wsX1_scoreOf) := goodIn_app (goodIn_of _ (by decide +kernel)) ggX1_property_X1_scoreOf
theorem dX1_property_0 : decode cX1_property 0 = .ok (.aload_n 0, 1) := by decide +kernel
theorem dX1_property_1 : decode cX1_property 1 = .ok (.iload_n 1, 1) := by decide +kernel
theorem dX1_property_2 : decode cX1_property 2 = .ok (.invokevirtual 78, 3) := by decide +kernel
theorem dX1_property_5 : decode cX1_property 5 = .ok (.ifCond .ne 5, 3) := by decide +kernel
theorem dX1_property_8 : decode cX1_property 8 = .ok (.iconst (-1), 1) := by decide +kernel
theorem dX1_property_9 : decode cX1_property 9 = .ok (.ireturn, 1) := by decide +kernel
theorem dX1_property_10 : decode cX1_property 10 = .ok (.iload_n 2, 1) := by decide +kernel
theorem dX1_property_11 : decode cX1_property 11 = .ok (.tableswitch 101 0 7 #[45, 52, 59, 66, 73, 80, 87, 94], 45) := by decide +kernel
theorem dX1_property_56 : decode cX1_property 56 = .ok (.aload_n 0, 1) := by decide +kernel
theorem dX1_property_57 : decode cX1_property 57 = .ok (.getfield 21, 3) := by decide +kernel
theorem dX1_property_60 : decode cX1_property 60 = .ok (.iload_n 1, 1) := by decide +kernel
theorem dX1_property_61 : decode cX1_property 61 = .ok (.iaload, 1) := by decide +kernel
theorem dX1_property_62 : decode cX1_property 62 = .ok (.ireturn, 1) := by decide +kernel
theorem dX1_property_63 : decode cX1_property 63 = .ok (.aload_n 0, 1) := by decide +kernel
theorem dX1_property_64 : decode cX1_property 64 = .ok (.getfield 24, 3) := by decide +kernel
theorem dX1_property_67 : decode cX1_property 67 = .ok (.iload_n 1, 1) := by decide +kernel
theorem dX1_property_68 : decode cX1_property 68 = .ok (.iaload, 1) := by decide +kernel
theorem dX1_property_69 : decode cX1_property 69 = .ok (.ireturn, 1) := by decide +kernel
theorem dX1_property_70 : decode cX1_property 70 = .ok (.aload_n 0, 1) := by decide +kernel
theorem dX1_property_71 : decode cX1_property 71 = .ok (.getfield 27, 3) := by decide +kernel
theorem dX1_property_74 : decode cX1_property 74 = .ok (.iload_n 1, 1) := by decide +kernel
theorem dX1_property_75 : decode cX1_property 75 = .ok (.iaload, 1) := by decide +kernel
theorem dX1_property_76 : decode cX1_property 76 = .ok (.ireturn, 1) := by decide +kernel
theorem dX1_property_77 : decode cX1_property 77 = .ok (.aload_n 0, 1) := by decide +kernel
theorem dX1_property_78 : decode cX1_property 78 = .ok (.getfield 30, 3) := by decide +kernel
theorem dX1_property_81 : decode cX1_property 81 = .ok (.iload_n 1, 1) := by decide +kernel
theorem dX1_property_82 : decode cX1_property 82 = .ok (.iaload, 1) := by decide +kernel
theorem dX1_property_83 : decode cX1_property 83 = .ok (.ireturn, 1) := by decide +kernel
theorem dX1_property_84 : decode cX1_property 84 = .ok (.aload_n 0, 1) := by decide +kernel
theorem dX1_property_85 : decode cX1_property 85 = .ok (.getfield 33, 3) := by decide +kernel
theorem dX1_property_88 : decode cX1_property 88 = .ok (.iload_n 1, 1) := by decide +kernel
theorem dX1_property_89 : decode cX1_property 89 = .ok (.iaload, 1) := by decide +kernel
theorem dX1_property_90 : decode cX1_property 90 = .ok (.ireturn, 1) := by decide +kernel
theorem dX1_property_91 : decode cX1_property 91 = .ok (.aload_n 0, 1) := by decide +kernel
theorem dX1_property_92 : decode cX1_property 92 = .ok (.getfield 36, 3) := by decide +kernel
theorem dX1_property_95 : decode cX1_property 95 = .ok (.iload_n 1, 1) := by decide +kernel
theorem dX1_property_96 : decode cX1_property 96 = .ok (.iaload, 1) := by decide +kernel
theorem dX1_property_97 : decode cX1_property 97 = .ok (.ireturn, 1) := by decide +kernel
theorem dX1_property_98 : decode cX1_property 98 = .ok (.aload_n 0, 1) := by decide +kernel
theorem dX1_property_99 : decode cX1_property 99 = .ok (.iload_n 1, 1) := by decide +kernel
theorem dX1_property_100 : decode cX1_property 100 = .ok (.iconst 0, 1) := by decide +kernel
theorem dX1_property_101 : decode cX1_property 101 = .ok (.invokevirtual 86, 3) := by decide +kernel
theorem dX1_property_104 : decode cX1_property 104 = .ok (.ireturn, 1) := by decide +kernel
theorem dX1_property_105 : decode cX1_property 105 = .ok (.aload_n 0, 1) := by decide +kernel
theorem dX1_property_106 : decode cX1_property 106 = .ok (.iload_n 1, 1) := by decide +kernel
theorem dX1_property_107 : decode cX1_property 107 = .ok (.iconst 1, 1) := by decide +kernel
theorem dX1_property_108 : decode cX1_property 108 = .ok (.invokevirtual 86, 3) := by decide +kernel
theorem dX1_property_111 : decode cX1_property 111 = .ok (.ireturn, 1) := by decide +kernel
theorem dX1_property_112 : decode cX1_property 112 = .ok (.aload_n 0, 1) := by decide +kernel
theorem dX1_property_113 : decode cX1_property 113 = .ok (.getfield 39, 3) := by decide +kernel
theorem dX1_property_116 : decode cX1_property 116 = .ok (.iload_n 1, 1) := by decide +kernel
theorem dX1_property_117 : decode cX1_property 117 = .ok (.iaload, 1) := by decide +kernel
theorem dX1_property_118 : decode cX1_property 118 = .ok (.ireturn, 1) := by decide +kernel
theorem dX1_matchInRound_0 : decode cX1_matchInRound 0 = .ok (.iconst 0, 1) := by decide +kernel
theorem dX1_matchInRound_1 : decode cX1_matchInRound 1 = .ok (.istore 4, 2) := by decide +kernel
theorem dX1_matchInRound_3 : decode cX1_matchInRound 3 = .ok (.iload 4, 2) := by decide +kernel
theorem dX1_matchInRound_5 : decode cX1_matchInRound 5 = .ok (.aload_n 0, 1) := by decide +kernel
theorem dX1_matchInRound_6 : decode cX1_matchInRound 6 = .ok (.getfield 68, 3) := by decide +kernel
theorem dX1_matchInRound_9 : decode cX1_matchInRound 9 = .ok (.if_icmp .ge 38, 3) := by decide +kernel
theorem dX1_matchInRound_12 : decode cX1_matchInRound 12 = .ok (.iload 4, 2) := by decide +kernel
theorem dX1_matchInRound_14 : decode cX1_matchInRound 14 = .ok (.aload_n 2, 1) := by decide +kernel
theorem dX1_matchInRound_15 : decode cX1_matchInRound 15 = .ok (.arraylength, 1) := by decide +kernel
theorem dX1_matchInRound_16 : decode cX1_matchInRound 16 = .ok (.if_icmp .ge 31, 3) := by decide +kernel
theorem dX1_matchInRound_19 : decode cX1_matchInRound 19 = .ok (.aload_n 0, 1) := by decide +kernel
theorem dX1_matchInRound_20 : decode cX1_matchInRound 20 = .ok (.getfield 21, 3) := by decide +kernel
theorem dX1_matchInRound_23 : decode cX1_matchInRound 23 = .ok (.iload 4, 2) := by decide +kernel
theorem dX1_matchInRound_25 : decode cX1_matchInRound 25 = .ok (.iaload, 1) := by decide +kernel
theorem dX1_matchInRound_26 : decode cX1_matchInRound 26 = .ok (.iload_n 1, 1) := by decide +kernel
theorem dX1_matchInRound_27 : decode cX1_matchInRound 27 = .ok (.if_icmp .ne 14, 3) := by decide +kernel
theorem dX1_matchInRound_30 : decode cX1_matchInRound 30 = .ok (.aload_n 2, 1) := by decide +kernel
theorem dX1_matchInRound_31 : decode cX1_matchInRound 31 = .ok (.iload 4, 2) := by decide +kernel
theorem dX1_matchInRound_33 : decode cX1_matchInRound 33 = .ok (.iaload, 1) := by decide +kernel
theorem dX1_matchInRound_34 : decode cX1_matchInRound 34 = .ok (.iload_n 3, 1) := by decide +kernel
theorem dX1_matchInRound_35 : decode cX1_matchInRound 35 = .ok (.if_icmp .ne 6, 3) := by decide +kernel
theorem dX1_matchInRound_38 : decode cX1_matchInRound 38 = .ok (.iload 4, 2) := by decide +kernel
theorem dX1_matchInRound_40 : decode cX1_matchInRound 40 = .ok (.ireturn, 1) := by decide +kernel
theorem dX1_matchInRound_41 : decode cX1_matchInRound 41 = .ok (.iinc 4 1, 3) := by decide +kernel
theorem dX1_matchInRound_44 : decode cX1_matchInRound 44 = .ok (.goto (-41), 3) := by decide +kernel
theorem dX1_matchInRound_47 : decode cX1_matchInRound 47 = .ok (.iconst (-1), 1) := by decide +kernel
theorem dX1_matchInRound_48 : decode cX1_matchInRound 48 = .ok (.ireturn, 1) := by decide +kernel
theorem dX1_matchOfBoth_0 : decode cX1_matchOfBoth 0 = .ok (.iconst 0, 1) := by decide +kernel
theorem dX1_matchOfBoth_1 : decode cX1_matchOfBoth 1 = .ok (.istore_n 3, 1) := by decide +kernel
theorem dX1_matchOfBoth_2 : decode cX1_matchOfBoth 2 = .ok (.iload_n 3, 1) := by decide +kernel
theorem dX1_matchOfBoth_3 : decode cX1_matchOfBoth 3 = .ok (.aload_n 0, 1) := by decide +kernel
theorem dX1_matchOfBoth_4 : decode cX1_matchOfBoth 4 = .ok (.getfield 68, 3) := by decide +kernel
theorem dX1_matchOfBoth_7 : decode cX1_matchOfBoth 7 = .ok (.if_icmp .ge 51, 3) := by decide +kernel
theorem dX1_matchOfBoth_10 : decode cX1_matchOfBoth 10 = .ok (.aload_n 0, 1) := by decide +kernel
theorem dX1_matchOfBoth_11 : decode cX1_matchOfBoth 11 = .ok (.getfield 24, 3) := by decide +kernel
theorem dX1_matchOfBoth_14 : decode cX1_matchOfBoth 14 = .ok (.iload_n 3, 1) := by decide +kernel
theorem dX1_matchOfBoth_15 : decode cX1_matchOfBoth 15 = .ok (.iaload, 1) := by decide +kernel
theorem dX1_matchOfBoth_16 : decode cX1_matchOfBoth 16 = .ok (.iload_n 1, 1) := by decide +kernel
theorem dX1_matchOfBoth_17 : decode cX1_matchOfBoth 17 = .ok (.if_icmp .ne 13, 3) := by decide +kernel
theorem dX1_matchOfBoth_20 : decode cX1_matchOfBoth 20 = .ok (.aload_n 0, 1) := by decide +kernel
theorem dX1_matchOfBoth_21 : decode cX1_matchOfBoth 21 = .ok (.getfield 27, 3) := by decide +kernel
theorem dX1_matchOfBoth_24 : decode cX1_matchOfBoth 24 = .ok (.iload_n 3, 1) := by decide +kernel
theorem dX1_matchOfBoth_25 : decode cX1_matchOfBoth 25 = .ok (.iaload, 1) := by decide +kernel
theorem dX1_matchOfBoth_26 : decode cX1_matchOfBoth 26 = .ok (.iload_n 2, 1) := by decide +kernel
theorem dX1_matchOfBoth_27 : decode cX1_matchOfBoth 27 = .ok (.if_icmp .eq 23, 3) := by decide +kernel
theorem dX1_matchOfBoth_30 : decode cX1_matchOfBoth 30 = .ok (.aload_n 0, 1) := by decide +kernel
theorem dX1_matchOfBoth_31 : decode cX1_matchOfBoth 31 = .ok (.getfield 24, 3) := by decide +kernel
theorem dX1_matchOfBoth_34 : decode cX1_matchOfBoth 34 = .ok (.iload_n 3, 1) := by decide +kernel
theorem dX1_matchOfBoth_35 : decode cX1_matchOfBoth 35 = .ok (.iaload, 1) := by decide +kernel
theorem dX1_matchOfBoth_36 : decode cX1_matchOfBoth 36 = .ok (.iload_n 2, 1) := by decide +kernel
theorem dX1_matchOfBoth_37 : decode cX1_matchOfBoth 37 = .ok (.if_icmp .ne 15, 3) := by decide +kernel
theorem dX1_matchOfBoth_40 : decode cX1_matchOfBoth 40 = .ok (.aload_n 0, 1) := by decide +kernel
theorem dX1_matchOfBoth_41 : decode cX1_matchOfBoth 41 = .ok (.getfield 27, 3) := by decide +kernel
theorem dX1_matchOfBoth_44 : decode cX1_matchOfBoth 44 = .ok (.iload_n 3, 1) := by decide +kernel
theorem dX1_matchOfBoth_45 : decode cX1_matchOfBoth 45 = .ok (.iaload, 1) := by decide +kernel
theorem dX1_matchOfBoth_46 : decode cX1_matchOfBoth 46 = .ok (.iload_n 1, 1) := by decide +kernel
theorem dX1_matchOfBoth_47 : decode cX1_matchOfBoth 47 = .ok (.if_icmp .ne 5, 3) := by decide +kernel
theorem dX1_matchOfBoth_50 : decode cX1_matchOfBoth 50 = .ok (.iload_n 3, 1) := by decide +kernel
theorem dX1_matchOfBoth_51 : decode cX1_matchOfBoth 51 = .ok (.ireturn, 1) := by decide +kernel
theorem dX1_matchOfBoth_52 : decode cX1_matchOfBoth 52 = .ok (.iinc 3 1, 3) := by decide +kernel
theorem dX1_matchOfBoth_55 : decode cX1_matchOfBoth 55 = .ok (.goto (-53), 3) := by decide +kernel
theorem dX1_matchOfBoth_58 : decode cX1_matchOfBoth 58 = .ok (.iconst (-1), 1) := by decide +kernel
theorem dX1_matchOfBoth_59 : decode cX1_matchOfBoth 59 = .ok (.ireturn, 1) := by decide +kernel
theorem dX1_withVenue_0 : decode cX1_withVenue 0 = .ok (.iconst 0, 1) := by decide +kernel
theorem dX1_withVenue_1 : decode cX1_withVenue 1 = .ok (.istore_n 1, 1) := by decide +kernel
theorem dX1_withVenue_2 : decode cX1_withVenue 2 = .ok (.iconst 0, 1) := by decide +kernel
theorem dX1_withVenue_3 : decode cX1_withVenue 3 = .ok (.istore_n 2, 1) := by decide +kernel
theorem dX1_withVenue_4 : decode cX1_withVenue 4 = .ok (.iload_n 2, 1) := by decide +kernel
theorem dX1_withVenue_5 : decode cX1_withVenue 5 = .ok (.aload_n 0, 1) := by decide +kernel
theorem dX1_withVenue_6 : decode cX1_withVenue 6 = .ok (.getfield 68, 3) := by decide +kernel
theorem dX1_withVenue_9 : decode cX1_withVenue 9 = .ok (.if_icmp .ge 22, 3) := by decide +kernel
theorem dX1_withVenue_12 : decode cX1_withVenue 12 = .ok (.aload_n 0, 1) := by decide +kernel
theorem dX1_withVenue_13 : decode cX1_withVenue 13 = .ok (.getfield 30, 3) := by decide +kernel
theorem dX1_withVenue_16 : decode cX1_withVenue 16 = .ok (.iload_n 2, 1) := by decide +kernel
theorem dX1_withVenue_17 : decode cX1_withVenue 17 = .ok (.iaload, 1) := by decide +kernel
theorem dX1_withVenue_18 : decode cX1_withVenue 18 = .ok (.iconst (-1), 1) := by decide +kernel
theorem dX1_withVenue_19 : decode cX1_withVenue 19 = .ok (.if_icmp .eq 6, 3) := by decide +kernel
theorem dX1_withVenue_22 : decode cX1_withVenue 22 = .ok (.iinc 1 1, 3) := by decide +kernel
theorem dX1_withVenue_25 : decode cX1_withVenue 25 = .ok (.iinc 2 1, 3) := by decide +kernel
theorem dX1_withVenue_28 : decode cX1_withVenue 28 = .ok (.goto (-24), 3) := by decide +kernel
theorem dX1_withVenue_31 : decode cX1_withVenue 31 = .ok (.iload_n 1, 1) := by decide +kernel
theorem dX1_withVenue_32 : decode cX1_withVenue 32 = .ok (.ireturn, 1) := by decide +kernel
theorem dX1_withResult_0 : decode cX1_withResult 0 = .ok (.iconst 0, 1) := by decide +kernel
theorem dX1_withResult_1 : decode cX1_withResult 1 = .ok (.istore_n 1, 1) := by decide +kernel
theorem dX1_withResult_2 : decode cX1_withResult 2 = .ok (.iconst 0, 1) := by decide +kernel
theorem dX1_withResult_3 : decode cX1_withResult 3 = .ok (.istore_n 2, 1) := by decide +kernel
theorem dX1_withResult_4 : decode cX1_withResult 4 = .ok (.iload_n 2, 1) := by decide +kernel
theorem dX1_withResult_5 : decode cX1_withResult 5 = .ok (.aload_n 0, 1) := by decide +kernel
theorem dX1_withResult_6 : decode cX1_withResult 6 = .ok (.getfield 68, 3) := by decide +kernel
theorem dX1_withResult_9 : decode cX1_withResult 9 = .ok (.if_icmp .ge 21, 3) := by decide +kernel
theorem dX1_withResult_12 : decode cX1_withResult 12 = .ok (.aload_n 0, 1) := by decide +kernel
theorem dX1_withResult_13 : decode cX1_withResult 13 = .ok (.getfield 39, 3) := by decide +kernel
theorem dX1_withResult_16 : decode cX1_withResult 16 = .ok (.iload_n 2, 1) := by decide +kernel
theorem dX1_withResult_17 : decode cX1_withResult 17 = .ok (.iaload, 1) := by decide +kernel
theorem dX1_withResult_18 : decode cX1_withResult 18 = .ok (.ifCond .eq 6, 3) := by decide +kernel
theorem dX1_withResult_21 : decode cX1_withResult 21 = .ok (.iinc 1 1, 3) := by decide +kernel
theorem dX1_withResult_24 : decode cX1_withResult 24 = .ok (.iinc 2 1, 3) := by decide +kernel
theorem dX1_withResult_27 : decode cX1_withResult 27 = .ok (.goto (-23), 3) := by decide +kernel
theorem dX1_withResult_30 : decode cX1_withResult 30 = .ok (.iload_n 1, 1) := by decide +kernel
theorem dX1_withResult_31 : decode cX1_withResult 31 = .ok (.ireturn, 1) := by decide +kernel
theorem dX1_walkovers_0 : decode cX1_walkovers 0 = .ok (.iconst 0, 1) := by decide +kernel
theorem dX1_walkovers_1 : decode cX1_walkovers 1 = .ok (.istore_n 1, 1) := by decide +kernel
theorem dX1_walkovers_2 : decode cX1_walkovers 2 = .ok (.iconst 0, 1) := by decide +kernel
theorem dX1_walkovers_3 : decode cX1_walkovers 3 = .ok (.istore_n 2, 1) := by decide +kernel
theorem dX1_walkovers_4 : decode cX1_walkovers 4 = .ok (.iload_n 2, 1) := by decide +kernel
theorem dX1_walkovers_5 : decode cX1_walkovers 5 = .ok (.aload_n 0, 1) := by decide +kernel
theorem dX1_walkovers_6 : decode cX1_walkovers 6 = .ok (.getfield 68, 3) := by decide +kernel
theorem dX1_walkovers_9 : decode cX1_walkovers 9 = .ok (.if_icmp .ge 32, 3) := by decide +kernel
theorem dX1_walkovers_12 : decode cX1_walkovers 12 = .ok (.aload_n 0, 1) := by decide +kernel
theorem dX1_walkovers_13 : decode cX1_walkovers 13 = .ok (.getfield 39, 3) := by decide +kernel
theorem dX1_walkovers_16 : decode cX1_walkovers 16 = .ok (.iload_n 2, 1) := by decide +kernel
theorem dX1_walkovers_17 : decode cX1_walkovers 17 = .ok (.iaload, 1) := by decide +kernel
theorem dX1_walkovers_18 : decode cX1_walkovers 18 = .ok (.iconst 2, 1) := by decide +kernel
theorem dX1_walkovers_19 : decode cX1_walkovers 19 = .ok (.if_icmp .eq 13, 3) := by decide +kernel
theorem dX1_walkovers_22 : decode cX1_walkovers 22 = .ok (.aload_n 0, 1) := by decide +kernel
theorem dX1_walkovers_23 : decode cX1_walkovers 23 = .ok (.getfield 39, 3) := by decide +kernel
theorem dX1_walkovers_26 : decode cX1_walkovers 26 = .ok (.iload_n 2, 1) := by decide +kernel
theorem dX1_walkovers_27 : decode cX1_walkovers 27 = .ok (.iaload, 1) := by decide +kernel
theorem dX1_walkovers_28 : decode cX1_walkovers 28 = .ok (.iconst 3, 1) := by decide +kernel
theorem dX1_walkovers_29 : decode cX1_walkovers 29 = .ok (.if_icmp .ne 6, 3) := by decide +kernel
theorem dX1_walkovers_32 : decode cX1_walkovers 32 = .ok (.iinc 1 1, 3) := by decide +kernel
theorem dX1_walkovers_35 : decode cX1_walkovers 35 = .ok (.iinc 2 1, 3) := by decide +kernel
theorem dX1_walkovers_38 : decode cX1_walkovers 38 = .ok (.goto (-34), 3) := by decide +kernel
theorem dX1_walkovers_41 : decode cX1_walkovers 41 = .ok (.iload_n 1, 1) := by decide +kernel
theorem dX1_walkovers_42 : decode cX1_walkovers 42 = .ok (.ireturn, 1) := by decide +kernel
theorem dX1_mostOften_0 : decode cX1_mostOften 0 = .ok (.iconst 0, 1) := by decide +kernel
theorem dX1_mostOften_1 : decode cX1_mostOften 1 = .ok (.istore_n 3, 1) := by decide +kernel
theorem dX1_mostOften_2 : decode cX1_mostOften 2 = .ok (.iconst 0, 1) := by decide +kernel
theorem dX1_mostOften_3 : decode cX1_mostOften 3 = .ok (.istore 4, 2) := by decide +kernel
theorem dX1_mostOften_5 : decode cX1_mostOften 5 = .ok (.iload 4, 2) := by decide +kernel
theorem dX1_mostOften_7 : decode cX1_mostOften 7 = .ok (.iload_n 2, 1) := by decide +kernel
theorem dX1_mostOften_8 : decode cX1_mostOften 8 = .ok (.if_icmp .ge 56, 3) := by decide +kernel
theorem dX1_mostOften_11 : decode cX1_mostOften 11 = .ok (.iconst 0, 1) := by decide +kernel
theorem dX1_mostOften_12 : decode cX1_mostOften 12 = .ok (.istore 5, 2) := by decide +kernel
theorem dX1_mostOften_14 : decode cX1_mostOften 14 = .ok (.iconst 0, 1) := by decide +kernel
theorem dX1_mostOften_15 : decode cX1_mostOften 15 = .ok (.istore 6, 2) := by decide +kernel
theorem dX1_mostOften_17 : decode cX1_mostOften 17 = .ok (.iload 6, 2) := by decide +kernel
theorem dX1_mostOften_19 : decode cX1_mostOften 19 = .ok (.aload_n 0, 1) := by decide +kernel
theorem dX1_mostOften_20 : decode cX1_mostOften 20 = .ok (.getfield 68, 3) := by decide +kernel
theorem dX1_mostOften_23 : decode cX1_mostOften 23 = .ok (.if_icmp .ge 28, 3) := by decide +kernel
theorem dX1_mostOften_26 : decode cX1_mostOften 26 = .ok (.iload 6, 2) := by decide +kernel
theorem dX1_mostOften_28 : decode cX1_mostOften 28 = .ok (.aload_n 1, 1) := by decide +kernel
theorem dX1_mostOften_29 : decode cX1_mostOften 29 = .ok (.arraylength, 1) := by decide +kernel
theorem dX1_mostOften_30 : decode cX1_mostOften 30 = .ok (.if_icmp .ge 21, 3) := by decide +kernel
theorem dX1_mostOften_33 : decode cX1_mostOften 33 = .ok (.aload_n 1, 1) := by decide +kernel
theorem dX1_mostOften_34 : decode cX1_mostOften 34 = .ok (.iload 6, 2) := by decide +kernel
theorem dX1_mostOften_36 : decode cX1_mostOften 36 = .ok (.iaload, 1) := by decide +kernel
theorem dX1_mostOften_37 : decode cX1_mostOften 37 = .ok (.iload 4, 2) := by decide +kernel
theorem dX1_mostOften_39 : decode cX1_mostOften 39 = .ok (.if_icmp .ne 6, 3) := by decide +kernel
theorem dX1_mostOften_42 : decode cX1_mostOften 42 = .ok (.iinc 5 1, 3) := by decide +kernel
theorem dX1_mostOften_45 : decode cX1_mostOften 45 = .ok (.iinc 6 1, 3) := by decide +kernel
theorem dX1_mostOften_48 : decode cX1_mostOften 48 = .ok (.goto (-31), 3) := by decide +kernel
theorem dX1_mostOften_51 : decode cX1_mostOften 51 = .ok (.iload_n 3, 1) := by decide +kernel
theorem dX1_mostOften_52 : decode cX1_mostOften 52 = .ok (.iload 5, 2) := by decide +kernel
theorem dX1_mostOften_54 : decode cX1_mostOften 54 = .ok (.invokestatic 90, 3) := by decide +kernel
theorem dX1_mostOften_57 : decode cX1_mostOften 57 = .ok (.istore_n 3, 1) := by decide +kernel
theorem dX1_mostOften_58 : decode cX1_mostOften 58 = .ok (.iinc 4 1, 3) := by decide +kernel
theorem dX1_mostOften_61 : decode cX1_mostOften 61 = .ok (.goto (-56), 3) := by decide +kernel
theorem dX1_mostOften_64 : decode cX1_mostOften 64 = .ok (.iload_n 3, 1) := by decide +kernel
theorem dX1_mostOften_65 : decode cX1_mostOften 65 = .ok (.ireturn, 1) := by decide +kernel
theorem dX2_init_0 : decode cX2_init 0 = .ok (.aload_n 0, 1) := by decide +kernel
theorem dX2_init_1 : decode cX2_init 1 = .ok (.invokespecial 3, 3) := by decide +kernel
theorem dX2_init_4 : decode cX2_init 4 = .ok (.aload_n 0, 1) := by decide +kernel
theorem dX2_init_5 : decode cX2_init 5 = .ok (.bipush 60, 2) := by decide +kernel
theorem dX2_init_7 : decode cX2_init 7 = .ok (.newarray .int, 2) := by decide +kernel
theorem dX2_init_9 : decode cX2_init 9 = .ok (.putfield 11, 3) := by decide +kernel
theorem dX2_init_12 : decode cX2_init 12 = .ok (.aload_n 0, 1) := by decide +kernel
theorem dX2_init_13 : decode cX2_init 13 = .ok (.bipush 12, 2) := by decide +kernel
theorem dX2_init_15 : decode cX2_init 15 = .ok (.newarray .int, 2) := by decide +kernel
theorem dX2_init_17 : decode cX2_init 17 = .ok (.putfield 15, 3) := by decide +kernel
theorem dX2_init_20 : decode cX2_init 20 = .ok (.aload_n 0, 1) := by decide +kernel
theorem dX2_init_21 : decode cX2_init 21 = .ok (.bipush 12, 2) := by decide +kernel
theorem dX2_init_23 : decode cX2_init 23 = .ok (.newarray .int, 2) := by decide +kernel
theorem dX2_init_25 : decode cX2_init 25 = .ok (.putfield 18, 3) := by decide +kernel
theorem dX2_init_28 : decode cX2_init 28 = .ok (.aload_n 0, 1) := by decide +kernel
theorem dX2_init_29 : decode cX2_init 29 = .ok (.bipush 12, 2) := by decide +kernel
theorem dX2_init_31 : decode cX2_init 31 = .ok (.newarray .int, 2) := by decide +kernel
theorem dX2_init_33 : decode cX2_init 33 = .ok (.putfield 21, 3) := by decide +kernel
theorem dX2_init_36 : decode cX2_init 36 = .ok (.aload_n 0, 1) := by decide +kernel
theorem dX2_init_37 : decode cX2_init 37 = .ok (.bipush 12, 2) := by decide +kernel
theorem dX2_init_39 : decode cX2_init 39 = .ok (.newarray .int, 2) := by decide +kernel
theorem dX2_init_41 : decode cX2_init 41 = .ok (.putfield 24, 3) := by decide +kernel
theorem dX2_init_44 : decode cX2_init 44 = .ok (.return_, 1) := by decide +kernel
