set_option maxRecDepth 20000 in
theorem ggX6_init_X6_begins : GoodIn wsX6_init wsX6_begins := goodIn_r _ [14, 5, 15, 16, 17, 13, 18, 19, 20, 21, 22, 23, 24, 25, 26, 27, 28, 29, 30] (by decide +kernel) (by decide +kernel)
set_option maxRecDepth 20000 in
theorem gX6_init_X6_begins : GoodIn wsX6_init (wsV RX6 25 RX6 yX6_begins wsX6_begins) := goodIn_app (goodIn_of _ (by decide +kernel)) ggX6_init_X6_begins
theorem dX6_init_0 : decode cX6_init 0 = .ok (.aload_n 0, 1) := by decide +kernel
theorem dX6_init_1 : decode cX6_init 1 = .ok (.invokespecial 1, 3) := by decide +kernel
theorem dX6_init_4 : decode cX6_init 4 = .ok (.aload_n 0, 1) := by decide +kernel
theorem dX6_init_5 : decode cX6_init 5 = .ok (.sipush 270, 3) := by decide +kernel
theorem dX6_init_8 : decode cX6_init 8 = .ok (.newarray .int, 2) := by decide +kernel
theorem dX6_init_10 : decode cX6_init 10 = .ok (.putfield 7, 3) := by decide +kernel
theorem dX6_init_13 : decode cX6_init 13 = .ok (.aload_n 0, 1) := by decide +kernel
theorem dX6_init_14 : decode cX6_init 14 = .ok (.sipush 270, 3) := by decide +kernel
theorem dX6_init_17 : decode cX6_init 17 = .ok (.newarray .int, 2) := by decide +kernel
theorem dX6_init_19 : decode cX6_init 19 = .ok (.putfield 13, 3) := by decide +kernel
theorem dX6_init_22 : decode cX6_init 22 = .ok (.aload_n 0, 1) := by decide +kernel
theorem dX6_init_23 : decode cX6_init 23 = .ok (.sipush 1620, 3) := by decide +kernel
theorem dX6_init_26 : decode cX6_init 26 = .ok (.newarray .int, 2) := by decide +kernel
theorem dX6_init_28 : decode cX6_init 28 = .ok (.putfield 16, 3) := by decide +kernel
theorem dX6_init_31 : decode cX6_init 31 = .ok (.aload_n 0, 1) := by decide +kernel
theorem dX6_init_32 : decode cX6_init 32 = .ok (.bipush 60, 2) := by decide +kernel
theorem dX6_init_34 : decode cX6_init 34 = .ok (.newarray .int, 2) := by decide +kernel
theorem dX6_init_36 : decode cX6_init 36 = .ok (.putfield 19, 3) := by decide +kernel
theorem dX6_init_39 : decode cX6_init 39 = .ok (.aload_n 0, 1) := by decide +kernel
theorem dX6_init_40 : decode cX6_init 40 = .ok (.bipush 68, 2) := by decide +kernel
theorem dX6_init_42 : decode cX6_init 42 = .ok (.newarray .int, 2) := by decide +kernel
theorem dX6_init_44 : decode cX6_init 44 = .ok (.putfield 22, 3) := by decide +kernel
theorem dX6_init_47 : decode cX6_init 47 = .ok (.aload_n 0, 1) := by decide +kernel
theorem dX6_init_48 : decode cX6_init 48 = .ok (.getfield 7, 3) := by decide +kernel
theorem dX6_init_51 : decode cX6_init 51 = .ok (.iconst 0, 1) := by decide +kernel
theorem dX6_init_52 : decode cX6_init 52 = .ok (.iconst 2, 1) := by decide +kernel
theorem dX6_init_53 : decode cX6_init 53 = .ok (.iastore, 1) := by decide +kernel
theorem dX6_init_54 : decode cX6_init 54 = .ok (.aload_n 0, 1) := by decide +kernel
theorem dX6_init_55 : decode cX6_init 55 = .ok (.getfield 7, 3) := by decide +kernel
theorem dX6_init_58 : decode cX6_init 58 = .ok (.iconst 1, 1) := by decide +kernel
theorem dX6_init_59 : decode cX6_init 59 = .ok (.iconst 1, 1) := by decide +kernel
theorem dX6_init_60 : decode cX6_init 60 = .ok (.iastore, 1) := by decide +kernel
theorem dX6_init_61 : decode cX6_init 61 = .ok (.aload_n 0, 1) := by decide +kernel
theorem dX6_init_62 : decode cX6_init 62 = .ok (.getfield 7, 3) := by decide +kernel
theorem dX6_init_65 : decode cX6_init 65 = .ok (.iconst 2, 1) := by decide +kernel
theorem dX6_init_66 : decode cX6_init 66 = .ok (.bipush 20, 2) := by decide +kernel
theorem dX6_init_68 : decode cX6_init 68 = .ok (.iastore, 1) := by decide +kernel
theorem dX6_init_69 : decode cX6_init 69 = .ok (.aload_n 0, 1) := by decide +kernel
theorem dX6_init_70 : decode cX6_init 70 = .ok (.getfield 7, 3) := by decide +kernel
theorem dX6_init_73 : decode cX6_init 73 = .ok (.iconst 3, 1) := by decide +kernel
theorem dX6_init_74 : decode cX6_init 74 = .ok (.bipush 9, 2) := by decide +kernel
theorem dX6_init_76 : decode cX6_init 76 = .ok (.iastore, 1) := by decide +kernel
theorem dX6_init_77 : decode cX6_init 77 = .ok (.aload_n 0, 1) := by decide +kernel
theorem dX6_init_78 : decode cX6_init 78 = .ok (.iconst 4, 1) := by decide +kernel
theorem dX6_init_79 : decode cX6_init 79 = .ok (.invokevirtual 25, 3) := by decide +kernel
theorem dX6_init_82 : decode cX6_init 82 = .ok (.return_, 1) := by decide +kernel
theorem dX6_thrown_0 : decode cX6_thrown 0 = .ok (.aload_n 0, 1) := by decide +kernel
theorem dX6_thrown_1 : decode cX6_thrown 1 = .ok (.getfield 29, 3) := by decide +kernel
theorem dX6_thrown_4 : decode cX6_thrown 4 = .ok (.ireturn, 1) := by decide +kernel
theorem dX6_fails_0 : decode cX6_fails 0 = .ok (.aload_n 0, 1) := by decide +kernel
theorem dX6_fails_1 : decode cX6_fails 1 = .ok (.iload_n 1, 1) := by decide +kernel
theorem dX6_fails_2 : decode cX6_fails 2 = .ok (.putfield 29, 3) := by decide +kernel
theorem dX6_fails_5 : decode cX6_fails 5 = .ok (.iconst 0, 1) := by decide +kernel
theorem dX6_fails_6 : decode cX6_fails 6 = .ok (.ireturn, 1) := by decide +kernel
theorem dX6_in_0 : decode cX6_in 0 = .ok (.iload_n 0, 1) := by decide +kernel
theorem dX6_in_1 : decode cX6_in 1 = .ok (.iload_n 1, 1) := by decide +kernel
theorem dX6_in_2 : decode cX6_in 2 = .ok (.if_icmp .lt 12, 3) := by decide +kernel
theorem dX6_in_5 : decode cX6_in 5 = .ok (.iload_n 0, 1) := by decide +kernel
theorem dX6_in_6 : decode cX6_in 6 = .ok (.iload_n 2, 1) := by decide +kernel
theorem dX6_in_7 : decode cX6_in 7 = .ok (.if_icmp .gt 7, 3) := by decide +kernel
theorem dX6_in_10 : decode cX6_in 10 = .ok (.iconst 1, 1) := by decide +kernel
theorem dX6_in_11 : decode cX6_in 11 = .ok (.goto 4, 3) := by decide +kernel
theorem dX6_in_14 : decode cX6_in 14 = .ok (.iconst 0, 1) := by decide +kernel
theorem dX6_in_15 : decode cX6_in 15 = .ok (.ireturn, 1) := by decide +kernel
set_option maxRecDepth 20000 in
theorem ggX6_isMatch_X6_in : GoodIn wsX6_isMatch wsX6_in := goodIn_r _ [5] (by decide +kernel) (by decide +kernel)
set_option maxRecDepth 20000 in
theorem gX6_isMatch_X6_in : GoodIn wsX6_isMatch (va_wsS RX6 33 yX6_in wsX6_in) := goodIn_app (goodIn_of _ (by decide +kernel)) ggX6_isMatch_X6_in
theorem dX6_isMatch_0 : decode cX6_isMatch 0 = .ok (.iload_n 1, 1) := by decide +kernel
theorem dX6_isMatch_1 : decode cX6_isMatch 1 = .ok (.iconst 0, 1) := by decide +kernel
theorem dX6_isMatch_2 : decode cX6_isMatch 2 = .ok (.aload_n 0, 1) := by decide +kernel
theorem dX6_isMatch_3 : decode cX6_isMatch 3 = .ok (.getfield 7, 3) := by decide +kernel
theorem dX6_isMatch_6 : decode cX6_isMatch 6 = .ok (.iconst 5, 1) := by decide +kernel
theorem dX6_isMatch_7 : decode cX6_isMatch 7 = .ok (.iaload, 1) := by decide +kernel
theorem dX6_isMatch_8 : decode cX6_isMatch 8 = .ok (.iconst 1, 1) := by decide +kernel
theorem dX6_isMatch_9 : decode cX6_isMatch 9 = .ok (.isub, 1) := by decide +kernel
theorem dX6_isMatch_10 : decode cX6_isMatch 10 = .ok (.invokestatic 33, 3) := by decide +kernel
theorem dX6_isMatch_13 : decode cX6_isMatch 13 = .ok (.ireturn, 1) := by decide +kernel
set_option maxRecDepth 20000 in
theorem ggX6_isTeam_X6_in : GoodIn wsX6_isTeam wsX6_in := goodIn_r _ [5] (by decide +kernel) (by decide +kernel)
set_option maxRecDepth 20000 in
theorem gX6_isTeam_X6_in : GoodIn wsX6_isTeam (va_wsS RX6 33 yX6_in wsX6_in) := goodIn_app (goodIn_of _ (by decide +kernel)) ggX6_isTeam_X6_in
theorem dX6_isTeam_0 : decode cX6_isTeam 0 = .ok (.iload_n 1, 1) := by decide +kernel
theorem dX6_isTeam_1 : decode cX6_isTeam 1 = .ok (.iconst 0, 1) := by decide +kernel
theorem dX6_isTeam_2 : decode cX6_isTeam 2 = .ok (.aload_n 0, 1) := by decide +kernel
theorem dX6_isTeam_3 : decode cX6_isTeam 3 = .ok (.getfield 7, 3) := by decide +kernel
theorem dX6_isTeam_6 : decode cX6_isTeam 6 = .ok (.iconst 4, 1) := by decide +kernel
theorem dX6_isTeam_7 : decode cX6_isTeam 7 = .ok (.iaload, 1) := by decide +kernel
theorem dX6_isTeam_8 : decode cX6_isTeam 8 = .ok (.iconst 1, 1) := by decide +kernel
theorem dX6_isTeam_9 : decode cX6_isTeam 9 = .ok (.isub, 1) := by decide +kernel
theorem dX6_isTeam_10 : decode cX6_isTeam 10 = .ok (.invokestatic 33, 3) := by decide +kernel
theorem dX6_isTeam_13 : decode cX6_isTeam 13 = .ok (.ireturn, 1) := by decide +kernel
theorem dX6_of_0 : decode cX6_of 0 = .ok (.aload_n 0, 1) := by decide +kernel
theorem dX6_of_1 : decode cX6_of 1 = .ok (.bipush 18, 2) := by decide +kernel
theorem dX6_of_3 : decode cX6_of 3 = .ok (.bipush 9, 2) := by decide +kernel
theorem dX6_of_5 : decode cX6_of 5 = .ok (.iload_n 1, 1) := by decide +kernel
theorem dX6_of_6 : decode cX6_of 6 = .ok (.imul, 1) := by decide +kernel
theorem dX6_of_7 : decode cX6_of 7 = .ok (.iadd, 1) := by decide +kernel
theorem dX6_of_8 : decode cX6_of 8 = .ok (.iload_n 2, 1) := by decide +kernel
theorem dX6_of_9 : decode cX6_of 9 = .ok (.iadd, 1) := by decide +kernel
theorem dX6_of_10 : decode cX6_of 10 = .ok (.iaload, 1) := by decide +kernel
theorem dX6_of_11 : decode cX6_of 11 = .ok (.ireturn, 1) := by decide +kernel
theorem dX6_rounds_0 : decode cX6_rounds 0 = .ok (.aload_n 0, 1) := by decide +kernel
theorem dX6_rounds_1 : decode cX6_rounds 1 = .ok (.iconst 4, 1) := by decide +kernel
theorem dX6_rounds_2 : decode cX6_rounds 2 = .ok (.iaload, 1) := by decide +kernel
theorem dX6_rounds_3 : decode cX6_rounds 3 = .ok (.iconst 1, 1) := by decide +kernel
theorem dX6_rounds_4 : decode cX6_rounds 4 = .ok (.isub, 1) := by decide +kernel
theorem dX6_rounds_5 : decode cX6_rounds 5 = .ok (.aload_n 0, 1) := by decide +kernel
theorem dX6_rounds_6 : decode cX6_rounds 6 = .ok (.iconst 4, 1) := by decide +kernel
theorem dX6_rounds_7 : decode cX6_rounds 7 = .ok (.iaload, 1) := by decide +kernel
theorem dX6_rounds_8 : decode cX6_rounds 8 = .ok (.iconst 2, 1) := by decide +kernel
theorem dX6_rounds_9 : decode cX6_rounds 9 = .ok (.irem, 1) := by decide +kernel
theorem dX6_rounds_10 : decode cX6_rounds 10 = .ok (.iadd, 1) := by decide +kernel
theorem dX6_rounds_11 : decode cX6_rounds 11 = .ok (.ireturn, 1) := by decide +kernel
theorem dX6_copies_0 : decode cX6_copies 0 = .ok (.iconst 0, 1) := by decide +kernel
theorem dX6_copies_1 : decode cX6_copies 1 = .ok (.istore 4, 2) := by decide +kernel
theorem dX6_copies_3 : decode cX6_copies 3 = .ok (.iload 4, 2) := by decide +kernel
theorem dX6_copies_5 : decode cX6_copies 5 = .ok (.sipush 270, 3) := by decide +kernel
theorem dX6_copies_8 : decode cX6_copies 8 = .ok (.if_icmp .ge 21, 3) := by decide +kernel
theorem dX6_copies_11 : decode cX6_copies 11 = .ok (.aload_n 2, 1) := by decide +kernel
theorem dX6_copies_12 : decode cX6_copies 12 = .ok (.iload_n 3, 1) := by decide +kernel
theorem dX6_copies_13 : decode cX6_copies 13 = .ok (.iload 4, 2) := by decide +kernel
theorem dX6_copies_15 : decode cX6_copies 15 = .ok (.iadd, 1) := by decide +kernel
theorem dX6_copies_16 : decode cX6_copies 16 = .ok (.aload_n 0, 1) := by decide +kernel
theorem dX6_copies_17 : decode cX6_copies 17 = .ok (.iload_n 1, 1) := by decide +kernel
theorem dX6_copies_18 : decode cX6_copies 18 = .ok (.iload 4, 2) := by decide +kernel
theorem dX6_copies_20 : decode cX6_copies 20 = .ok (.iadd, 1) := by decide +kernel
theorem dX6_copies_21 : decode cX6_copies 21 = .ok (.iaload, 1) := by decide +kernel
theorem dX6_copies_22 : decode cX6_copies 22 = .ok (.iastore, 1) := by decide +kernel
theorem dX6_copies_23 : decode cX6_copies 23 = .ok (.iinc 4 1, 3) := by decide +kernel
theorem dX6_copies_26 : decode cX6_copies 26 = .ok (.goto (-23), 3) := by decide +kernel
theorem dX6_copies_29 : decode cX6_copies 29 = .ok (.return_, 1) := by decide +kernel
set_option maxRecDepth 20000 in
theorem ggX6_saves_X6_copies : GoodIn wsX6_saves wsX6_copies := goodIn_r _ [7] (by decide +kernel) (by decide +kernel)
set_option maxRecDepth 20000 in
theorem gX6_saves_X6_copies : GoodIn wsX6_saves (va_wsS RX6 40 yX6_copies wsX6_copies) := goodIn_app (goodIn_of _ (by decide +kernel)) ggX6_saves_X6_copies
theorem dX6_saves_0 : decode cX6_saves 0 = .ok (.aload_n 0, 1) := by decide +kernel
theorem dX6_saves_1 : decode cX6_saves 1 = .ok (.getfield 37, 3) := by decide +kernel
theorem dX6_saves_4 : decode cX6_saves 4 = .ok (.bipush 6, 2) := by decide +kernel
theorem dX6_saves_6 : decode cX6_saves 6 = .ok (.if_icmp .ne 44, 3) := by decide +kernel
theorem dX6_saves_9 : decode cX6_saves 9 = .ok (.iconst 0, 1) := by decide +kernel
theorem dX6_saves_10 : decode cX6_saves 10 = .ok (.istore_n 1, 1) := by decide +kernel
theorem dX6_saves_11 : decode cX6_saves 11 = .ok (.iload_n 1, 1) := by decide +kernel
theorem dX6_saves_12 : decode cX6_saves 12 = .ok (.sipush 1350, 3) := by decide +kernel
theorem dX6_saves_15 : decode cX6_saves 15 = .ok (.if_icmp .ge 25, 3) := by decide +kernel
theorem dX6_saves_18 : decode cX6_saves 18 = .ok (.aload_n 0, 1) := by decide +kernel
theorem dX6_saves_19 : decode cX6_saves 19 = .ok (.getfield 16, 3) := by decide +kernel
theorem dX6_saves_22 : decode cX6_saves 22 = .ok (.iload_n 1, 1) := by decide +kernel
theorem dX6_saves_23 : decode cX6_saves 23 = .ok (.aload_n 0, 1) := by decide +kernel
theorem dX6_saves_24 : decode cX6_saves 24 = .ok (.getfield 16, 3) := by decide +kernel
theorem dX6_saves_27 : decode cX6_saves 27 = .ok (.iload_n 1, 1) := by decide +kernel
theorem dX6_saves_28 : decode cX6_saves 28 = .ok (.sipush 270, 3) := by decide +kernel
theorem dX6_saves_31 : decode cX6_saves 31 = .ok (.iadd, 1) := by decide +kernel
theorem dX6_saves_32 : decode cX6_saves 32 = .ok (.iaload, 1) := by decide +kernel
theorem dX6_saves_33 : decode cX6_saves 33 = .ok (.iastore, 1) := by decide +kernel
theorem dX6_saves_34 : decode cX6_saves 34 = .ok (.iinc 1 1, 3) := by decide +kernel
theorem dX6_saves_37 : decode cX6_saves 37 = .ok (.goto (-26), 3) := by decide +kernel
theorem dX6_saves_40 : decode cX6_saves 40 = .ok (.aload_n 0, 1) := by decide +kernel
theorem dX6_saves_41 : decode cX6_saves 41 = .ok (.dup, 1) := by decide +kernel
theorem dX6_saves_42 : decode cX6_saves 42 = .ok (.getfield 37, 3) := by decide +kernel
theorem dX6_saves_45 : decode cX6_saves 45 = .ok (.iconst 1, 1) := by decide +kernel
theorem dX6_saves_46 : decode cX6_saves 46 = .ok (.isub, 1) := by decide +kernel
theorem dX6_saves_47 : decode cX6_saves 47 = .ok (.putfield 37, 3) := by decide +kernel
theorem dX6_saves_50 : decode cX6_saves 50 = .ok (.aload_n 0, 1) := by decide +kernel
theorem dX6_saves_51 : decode cX6_saves 51 = .ok (.getfield 7, 3) := by decide +kernel
theorem dX6_saves_54 : decode cX6_saves 54 = .ok (.iconst 0, 1) := by decide +kernel
theorem dX6_saves_55 : decode cX6_saves 55 = .ok (.aload_n 0, 1) := by decide +kernel
theorem dX6_saves_56 : decode cX6_saves 56 = .ok (.getfield 16, 3) := by decide +kernel
theorem dX6_saves_59 : decode cX6_saves 59 = .ok (.sipush 270, 3) := by decide +kernel
theorem dX6_saves_62 : decode cX6_saves 62 = .ok (.aload_n 0, 1) := by decide +kernel
theorem dX6_saves_63 : decode cX6_saves 63 = .ok (.getfield 37, 3) := by decide +kernel
theorem dX6_saves_66 : decode cX6_saves 66 = .ok (.imul, 1) := by decide +kernel
theorem dX6_saves_67 : decode cX6_saves 67 = .ok (.invokestatic 40, 3) := by decide +kernel
theorem dX6_saves_70 : decode cX6_saves 70 = .ok (.aload_n 0, 1) := by decide +kernel
theorem dX6_saves_71 : decode cX6_saves 71 = .ok (.dup, 1) := by decide +kernel
theorem dX6_saves_72 : decode cX6_saves 72 = .ok (.getfield 37, 3) := by decide +kernel
theorem dX6_saves_75 : decode cX6_saves 75 = .ok (.iconst 1, 1) := by decide +kernel
theorem dX6_saves_76 : decode cX6_saves 76 = .ok (.iadd, 1) := by decide +kernel
theorem dX6_saves_77 : decode cX6_saves 77 = .ok (.putfield 37, 3) := by decide +kernel
theorem dX6_saves_80 : decode cX6_saves 80 = .ok (.return_, 1) := by decide +kernel
set_option maxRecDepth 20000 in
theorem ggX6_undo_X6_fails : GoodIn wsX6_undo wsX6_fails := goodIn_r _ [9, 1, 13, 14, 15, 16, 17, 18, 19, 20, 21, 22, 23, 24] (by decide +kernel) (by decide +kernel)
set_option maxRecDepth 20000 in
theorem gX6_undo_X6_fails : GoodIn wsX6_undo (wsV RX6 44 RX6 yX6_fails wsX6_fails) := goodIn_app (goodIn_of _ (by decide +kernel)) ggX6_undo_X6_fails
set_option maxRecDepth 20000 in
theorem ggX6_undo_X6_copies : GoodIn wsX6_undo wsX6_copies := goodIn_r _ [12] (by decide +kernel) (by decide +kernel)
set_option maxRecDepth 20000 in
theorem gX6_undo_X6_copies : GoodIn wsX6_undo (va_wsS RX6 40 yX6_copies wsX6_copies) := goodIn_app (goodIn_of _ (by decide +kernel)) ggX6_undo_X6_copies
theorem dX6_undo_0 : decode cX6_undo 0 = .ok (.aload_n 0, 1) := by decide +kernel
theorem dX6_undo_1 : decode cX6_undo 1 = .ok (.iconst 0, 1) := by decide +kernel
theorem dX6_undo_2 : decode cX6_undo 2 = .ok (.putfield 29, 3) := by decide +kernel
theorem dX6_undo_5 : decode cX6_undo 5 = .ok (.aload_n 0, 1) := by decide +kernel
theorem dX6_undo_6 : decode cX6_undo 6 = .ok (.getfield 37, 3) := by decide +kernel
theorem dX6_undo_9 : decode cX6_undo 9 = .ok (.ifCond .ne 9, 3) := by decide +kernel
theorem dX6_undo_12 : decode cX6_undo 12 = .ok (.aload_n 0, 1) := by decide +kernel
theorem dX6_undo_13 : decode cX6_undo 13 = .ok (.iconst 1, 1) := by decide +kernel
theorem dX6_undo_14 : decode cX6_undo 14 = .ok (.invokevirtual 44, 3) := by decide +kernel
theorem dX6_undo_17 : decode cX6_undo 17 = .ok (.ireturn, 1) := by decide +kernel
theorem dX6_undo_18 : decode cX6_undo 18 = .ok (.aload_n 0, 1) := by decide +kernel
theorem dX6_undo_19 : decode cX6_undo 19 = .ok (.dup, 1) := by decide +kernel
theorem dX6_undo_20 : decode cX6_undo 20 = .ok (.getfield 37, 3) := by decide +kernel
theorem dX6_undo_23 : decode cX6_undo 23 = .ok (.iconst 1, 1) := by decide +kernel
theorem dX6_undo_24 : decode cX6_undo 24 = .ok (.isub, 1) := by decide +kernel
theorem dX6_undo_25 : decode cX6_undo 25 = .ok (.putfield 37, 3) := by decide +kernel
theorem dX6_undo_28 : decode cX6_undo 28 = .ok (.aload_n 0, 1) := by decide +kernel
theorem dX6_undo_29 : decode cX6_undo 29 = .ok (.getfield 16, 3) := by decide +kernel
theorem dX6_undo_32 : decode cX6_undo 32 = .ok (.sipush 270, 3) := by decide +kernel
theorem dX6_undo_35 : decode cX6_undo 35 = .ok (.aload_n 0, 1) := by decide +kernel
theorem dX6_undo_36 : decode cX6_undo 36 = .ok (.getfield 37, 3) := by decide +kernel
theorem dX6_undo_39 : decode cX6_undo 39 = .ok (.imul, 1) := by decide +kernel
theorem dX6_undo_40 : decode cX6_undo 40 = .ok (.aload_n 0, 1) := by decide +kernel
theorem dX6_undo_41 : decode cX6_undo 41 = .ok (.getfield 7, 3) := by decide +kernel
theorem dX6_undo_44 : decode cX6_undo 44 = .ok (.iconst 0, 1) := by decide +kernel
theorem dX6_undo_45 : decode cX6_undo 45 = .ok (.invokestatic 40, 3) := by decide +kernel
theorem dX6_undo_48 : decode cX6_undo 48 = .ok (.aload_n 0, 1) := by decide +kernel
theorem dX6_undo_49 : decode cX6_undo 49 = .ok (.getfield 37, 3) := by decide +kernel
theorem dX6_undo_52 : decode cX6_undo 52 = .ok (.ireturn, 1) := by decide +kernel
theorem dX6_pairs_0 : decode cX6_pairs 0 = .ok (.iload_n 2, 1) := by decide +kernel
theorem dX6_pairs_1 : decode cX6_pairs 1 = .ok (.aload_n 0, 1) := by decide +kernel
theorem dX6_pairs_2 : decode cX6_pairs 2 = .ok (.getfield 7, 3) := by decide +kernel
theorem dX6_pairs_5 : decode cX6_pairs 5 = .ok (.iconst 4, 1) := by decide +kernel
theorem dX6_pairs_6 : decode cX6_pairs 6 = .ok (.iaload, 1) := by decide +kernel
theorem dX6_pairs_7 : decode cX6_pairs 7 = .ok (.if_icmp .ge 85, 3) := by decide +kernel
theorem dX6_pairs_10 : decode cX6_pairs 10 = .ok (.iload_n 3, 1) := by decide +kernel
theorem dX6_pairs_11 : decode cX6_pairs 11 = .ok (.aload_n 0, 1) := by decide +kernel
theorem dX6_pairs_12 : decode cX6_pairs 12 = .ok (.getfield 7, 3) := by decide +kernel
theorem dX6_pairs_15 : decode cX6_pairs 15 = .ok (.iconst 4, 1) := by decide +kernel
theorem dX6_pairs_16 : decode cX6_pairs 16 = .ok (.iaload, 1) := by decide +kernel
theorem dX6_pairs_17 : decode cX6_pairs 17 = .ok (.if_icmp .ge 75, 3) := by decide +kernel
theorem dX6_pairs_20 : decode cX6_pairs 20 = .ok (.bipush 18, 2) := by decide +kernel
theorem dX6_pairs_22 : decode cX6_pairs 22 = .ok (.bipush 9, 2) := by decide +kernel
theorem dX6_pairs_24 : decode cX6_pairs 24 = .ok (.aload_n 0, 1) := by decide +kernel
theorem dX6_pairs_25 : decode cX6_pairs 25 = .ok (.getfield 7, 3) := by decide +kernel
theorem dX6_pairs_28 : decode cX6_pairs 28 = .ok (.iconst 5, 1) := by decide +kernel
theorem dX6_pairs_29 : decode cX6_pairs 29 = .ok (.iaload, 1) := by decide +kernel
theorem dX6_pairs_30 : decode cX6_pairs 30 = .ok (.imul, 1) := by decide +kernel
theorem dX6_pairs_31 : decode cX6_pairs 31 = .ok (.iadd, 1) := by decide +kernel
theorem dX6_pairs_32 : decode cX6_pairs 32 = .ok (.istore 4, 2) := by decide +kernel
theorem dX6_pairs_34 : decode cX6_pairs 34 = .ok (.aload_n 0, 1) := by decide +kernel
theorem dX6_pairs_35 : decode cX6_pairs 35 = .ok (.getfield 7, 3) := by decide +kernel
theorem dX6_pairs_38 : decode cX6_pairs 38 = .ok (.iload 4, 2) := by decide +kernel
theorem dX6_pairs_40 : decode cX6_pairs 40 = .ok (.iload_n 1, 1) := by decide +kernel
theorem dX6_pairs_41 : decode cX6_pairs 41 = .ok (.iastore, 1) := by decide +kernel
theorem dX6_pairs_42 : decode cX6_pairs 42 = .ok (.aload_n 0, 1) := by decide +kernel
theorem dX6_pairs_43 : decode cX6_pairs 43 = .ok (.getfield 7, 3) := by decide +kernel
theorem dX6_pairs_46 : decode cX6_pairs 46 = .ok (.iload 4, 2) := by decide +kernel
theorem dX6_pairs_48 : decode cX6_pairs 48 = .ok (.iconst 1, 1) := by decide +kernel
theorem dX6_pairs_49 : decode cX6_pairs 49 = .ok (.iadd, 1) := by decide +kernel
theorem dX6_pairs_50 : decode cX6_pairs 50 = .ok (.iload_n 2, 1) := by decide +kernel
theorem dX6_pairs_51 : decode cX6_pairs 51 = .ok (.iastore, 1) := by decide +kernel
theorem dX6_pairs_52 : decode cX6_pairs 52 = .ok (.aload_n 0, 1) := by decide +kernel
theorem dX6_pairs_53 : decode cX6_pairs 53 = .ok (.getfield 7, 3) := by decide +kernel
theorem dX6_pairs_56 : decode cX6_pairs 56 = .ok (.iload 4, 2) := by decide +kernel
theorem dX6_pairs_58 : decode cX6_pairs 58 = .ok (.iconst 2, 1) := by decide +kernel
theorem dX6_pairs_59 : decode cX6_pairs 59 = .ok (.iadd, 1) := by decide +kernel
theorem dX6_pairs_60 : decode cX6_pairs 60 = .ok (.iload_n 3, 1) := by decide +kernel
theorem dX6_pairs_61 : decode cX6_pairs 61 = .ok (.iastore, 1) := by decide +kernel
theorem dX6_pairs_62 : decode cX6_pairs 62 = .ok (.aload_n 0, 1) := by decide +kernel
theorem dX6_pairs_63 : decode cX6_pairs 63 = .ok (.getfield 7, 3) := by decide +kernel
theorem dX6_pairs_66 : decode cX6_pairs 66 = .ok (.iload 4, 2) := by decide +kernel
theorem dX6_pairs_68 : decode cX6_pairs 68 = .ok (.iconst 3, 1) := by decide +kernel
theorem dX6_pairs_69 : decode cX6_pairs 69 = .ok (.iadd, 1) := by decide +kernel
theorem dX6_pairs_70 : decode cX6_pairs 70 = .ok (.iconst (-1), 1) := by decide +kernel
theorem dX6_pairs_71 : decode cX6_pairs 71 = .ok (.iastore, 1) := by decide +kernel
theorem dX6_pairs_72 : decode cX6_pairs 72 = .ok (.aload_n 0, 1) := by decide +kernel
theorem dX6_pairs_73 : decode cX6_pairs 73 = .ok (.getfield 7, 3) := by decide +kernel
theorem dX6_pairs_76 : decode cX6_pairs 76 = .ok (.iload 4, 2) := by decide +kernel
theorem dX6_pairs_78 : decode cX6_pairs 78 = .ok (.iconst 4, 1) := by decide +kernel
theorem dX6_pairs_79 : decode cX6_pairs 79 = .ok (.iadd, 1) := by decide +kernel
theorem dX6_pairs_80 : decode cX6_pairs 80 = .ok (.iconst (-1), 1) := by decide +kernel
theorem dX6_pairs_81 : decode cX6_pairs 81 = .ok (.iastore, 1) := by decide +kernel
theorem dX6_pairs_82 : decode cX6_pairs 82 = .ok (.aload_n 0, 1) := by decide +kernel
theorem dX6_pairs_83 : decode cX6_pairs 83 = .ok (.getfield 7, 3) := by decide +kernel
theorem dX6_pairs_86 : decode cX6_pairs 86 = .ok (.iconst 5, 1) := by decide +kernel
theorem dX6_pairs_87 : decode cX6_pairs 87 = .ok (.dup2, 1) := by decide +kernel
theorem dX6_pairs_88 : decode cX6_pairs 88 = .ok (.iaload, 1) := by decide +kernel
theorem dX6_pairs_89 : decode cX6_pairs 89 = .ok (.iconst 1, 1) := by decide +kernel
theorem dX6_pairs_90 : decode cX6_pairs 90 = .ok (.iadd, 1) := by decide +kernel
theorem dX6_pairs_91 : decode cX6_pairs 91 = .ok (.iastore, 1) := by decide +kernel
theorem dX6_pairs_92 : decode cX6_pairs 92 = .ok (.return_, 1) := by decide +kernel
set_option maxRecDepth 20000 in
theorem ggX6_begins_X6_pairs : GoodIn wsX6_begins wsX6_pairs := goodIn_r _ [6, 1, 7, 8, 9, 10, 11, 12, 13, 14, 15, 16, 17, 18] (by decide +kernel) (by decide +kernel)
set_option maxRecDepth 20000 in
theorem gX6_begins_X6_pairs : GoodIn wsX6_begins (wsV RX6 48 RX6 yX6_pairs wsX6_pairs) := goodIn_app (goodIn_of _ (by decide +kernel)) ggX6_begins_X6_pairs
theorem dX6_begins_0 : decode cX6_begins 0 = .ok (.iconst 4, 1) := by decide +kernel
theorem dX6_begins_1 : decode cX6_begins 1 = .ok (.istore_n 2, 1) := by decide +kernel
theorem dX6_begins_2 : decode cX6_begins 2 = .ok (.iload_n 2, 1) := by decide +kernel
theorem dX6_begins_3 : decode cX6_begins 3 = .ok (.sipush 270, 3) := by decide +kernel
theorem dX6_begins_6 : decode cX6_begins 6 = .ok (.if_icmp .ge 16, 3) := by decide +kernel
theorem dX6_begins_9 : decode cX6_begins 9 = .ok (.aload_n 0, 1) := by decide +kernel
theorem dX6_begins_10 : decode cX6_begins 10 = .ok (.getfield 7, 3) := by decide +kernel
theorem dX6_begins_13 : decode cX6_begins 13 = .ok (.iload_n 2, 1) := by decide +kernel
theorem dX6_begins_14 : decode cX6_begins 14 = .ok (.iconst 0, 1) := by decide +kernel
theorem dX6_begins_15 : decode cX6_begins 15 = .ok (.iastore, 1) := by decide +kernel
theorem dX6_begins_16 : decode cX6_begins 16 = .ok (.iinc 2 1, 3) := by decide +kernel
theorem dX6_begins_19 : decode cX6_begins 19 = .ok (.goto (-17), 3) := by decide +kernel
theorem dX6_begins_22 : decode cX6_begins 22 = .ok (.aload_n 0, 1) := by decide +kernel
theorem dX6_begins_23 : decode cX6_begins 23 = .ok (.getfield 7, 3) := by decide +kernel
theorem dX6_begins_26 : decode cX6_begins 26 = .ok (.iconst 4, 1) := by decide +kernel
theorem dX6_begins_27 : decode cX6_begins 27 = .ok (.iload_n 1, 1) := by decide +kernel
theorem dX6_begins_28 : decode cX6_begins 28 = .ok (.iastore, 1) := by decide +kernel
theorem dX6_begins_29 : decode cX6_begins 29 = .ok (.iload_n 1, 1) := by decide +kernel
theorem dX6_begins_30 : decode cX6_begins 30 = .ok (.iload_n 1, 1) := by decide +kernel
theorem dX6_begins_31 : decode cX6_begins 31 = .ok (.iconst 2, 1) := by decide +kernel
theorem dX6_begins_32 : decode cX6_begins 32 = .ok (.irem, 1) := by decide +kernel
theorem dX6_begins_33 : decode cX6_begins 33 = .ok (.iadd, 1) := by decide +kernel
theorem dX6_begins_34 : decode cX6_begins 34 = .ok (.istore_n 2, 1) := by decide +kernel
theorem dX6_begins_35 : decode cX6_begins 35 = .ok (.iconst 0, 1) := by decide +kernel
theorem dX6_begins_36 : decode cX6_begins 36 = .ok (.istore_n 3, 1) := by decide +kernel
theorem dX6_begins_37 : decode cX6_begins 37 = .ok (.iload_n 3, 1) := by decide +kernel
theorem dX6_begins_38 : decode cX6_begins 38 = .ok (.iload_n 2, 1) := by decide +kernel
theorem dX6_begins_39 : decode cX6_begins 39 = .ok (.iconst 1, 1) := by decide +kernel
theorem dX6_begins_40 : decode cX6_begins 40 = .ok (.isub, 1) := by decide +kernel
theorem dX6_begins_41 : decode cX6_begins 41 = .ok (.if_icmp .ge 60, 3) := by decide +kernel
theorem dX6_begins_44 : decode cX6_begins 44 = .ok (.aload_n 0, 1) := by decide +kernel
theorem dX6_begins_45 : decode cX6_begins 45 = .ok (.iload_n 3, 1) := by decide +kernel
theorem dX6_begins_46 : decode cX6_begins 46 = .ok (.iload_n 2, 1) := by decide +kernel
theorem dX6_begins_47 : decode cX6_begins 47 = .ok (.iconst 1, 1) := by decide +kernel
theorem dX6_begins_48 : decode cX6_begins 48 = .ok (.isub, 1) := by decide +kernel
theorem dX6_begins_49 : decode cX6_begins 49 = .ok (.iload_n 3, 1) := by decide +kernel
theorem dX6_begins_50 : decode cX6_begins 50 = .ok (.invokevirtual 48, 3) := by decide +kernel
theorem dX6_begins_53 : decode cX6_begins 53 = .ok (.iconst 1, 1) := by decide +kernel
theorem dX6_begins_54 : decode cX6_begins 54 = .ok (.istore 4, 2) := by decide +kernel
theorem dX6_begins_56 : decode cX6_begins 56 = .ok (.iload 4, 2) := by decide +kernel
theorem dX6_begins_58 : decode cX6_begins 58 = .ok (.iload_n 2, 1) := by decide +kernel
theorem dX6_begins_59 : decode cX6_begins 59 = .ok (.iconst 2, 1) := by decide +kernel
theorem dX6_begins_60 : decode cX6_begins 60 = .ok (.idiv, 1) := by decide +kernel
theorem dX6_begins_61 : decode cX6_begins 61 = .ok (.if_icmp .ge 34, 3) := by decide +kernel
theorem dX6_begins_64 : decode cX6_begins 64 = .ok (.aload_n 0, 1) := by decide +kernel
theorem dX6_begins_65 : decode cX6_begins 65 = .ok (.iload_n 3, 1) := by decide +kernel
theorem dX6_begins_66 : decode cX6_begins 66 = .ok (.iload_n 3, 1) := by decide +kernel
theorem dX6_begins_67 : decode cX6_begins 67 = .ok (.iload 4, 2) := by decide +kernel
theorem dX6_begins_69 : decode cX6_begins 69 = .ok (.iadd, 1) := by decide +kernel
theorem dX6_begins_70 : decode cX6_begins 70 = .ok (.iload_n 2, 1) := by decide +kernel
theorem dX6_begins_71 : decode cX6_begins 71 = .ok (.iconst 1, 1) := by decide +kernel
theorem dX6_begins_72 : decode cX6_begins 72 = .ok (.isub, 1) := by decide +kernel
theorem dX6_begins_73 : decode cX6_begins 73 = .ok (.irem, 1) := by decide +kernel
theorem dX6_begins_74 : decode cX6_begins 74 = .ok (.iload_n 3, 1) := by decide +kernel
theorem dX6_begins_75 : decode cX6_begins 75 = .ok (.iload 4, 2) := by decide +kernel
theorem dX6_begins_77 : decode cX6_begins 77 = .ok (.isub, 1) := by decide +kernel
theorem dX6_begins_78 : decode cX6_begins 78 = .ok (.iload_n 2, 1) := by decide +kernel
theorem dX6_begins_79 : decode cX6_begins 79 = .ok (.iadd, 1) := by decide +kernel
theorem dX6_begins_80 : decode cX6_begins 80 = .ok (.iconst 1, 1) := by decide +kernel
theorem dX6_begins_81 : decode cX6_begins 81 = .ok (.isub, 1) := by decide +kernel
theorem dX6_begins_82 : decode cX6_begins 82 = .ok (.iload_n 2, 1) := by decide +kernel
theorem dX6_begins_83 : decode cX6_begins 83 = .ok (.iconst 1, 1) := by decide +kernel
theorem dX6_begins_84 : decode cX6_begins 84 = .ok (.isub, 1) := by decide +kernel
theorem dX6_begins_85 : decode cX6_begins 85 = .ok (.irem, 1) := by decide +kernel
theorem dX6_begins_86 : decode cX6_begins 86 = .ok (.invokevirtual 48, 3) := by decide +kernel
theorem dX6_begins_89 : decode cX6_begins 89 = .ok (.iinc 4 1, 3) := by decide +kernel
theorem dX6_begins_92 : decode cX6_begins 92 = .ok (.goto (-36), 3) := by decide +kernel
theorem dX6_begins_95 : decode cX6_begins 95 = .ok (.iinc 3 1, 3) := by decide +kernel
theorem dX6_begins_98 : decode cX6_begins 98 = .ok (.goto (-61), 3) := by decide +kernel
theorem dX6_begins_101 : decode cX6_begins 101 = .ok (.return_, 1) := by decide +kernel
set_option maxRecDepth 20000 in
theorem ggX6_begin_X6_in : GoodIn wsX6_begin wsX6_in := goodIn_r _ [6] (by decide +kernel) (by decide +kernel)
set_option maxRecDepth 20000 in
theorem gX6_begin_X6_in : GoodIn wsX6_begin (va_wsS RX6 33 yX6_in wsX6_in) := goodIn_app (goodIn_of _ (by decide +kernel)) ggX6_begin_X6_in
set_option maxRecDepth 20000 in
theorem ggX6_begin_X6_fails : GoodIn wsX6_begin wsX6_fails := goodIn_r _ [10, 1, 28, 29, 30, 31, 32, 33, 34, 35, 36, 37, 38, 39] (by decide +kernel) (by decide +kernel)
set_option maxRecDepth 20000 in
theorem gX6_begin_X6_fails : GoodIn wsX6_begin (wsV RX6 44 RX6 yX6_fails wsX6_fails) := goodIn_app (goodIn_of _ (by decide +kernel)) ggX6_begin_X6_fails
set_option maxRecDepth 20000 in
theorem ggX6_begin_X6_saves : GoodIn wsX6_begin wsX6_saves := goodIn_r _ [14, 15, 16, 2, 17, 18, 5, 19, 28, 29, 30, 31, 32, 33, 34, 35, 36, 37, 38, 39] (by decide +kernel) (by decide +kernel)
set_option maxRecDepth 20000 in
theorem gX6_begin_X6_saves : GoodIn wsX6_begin (wsV RX6 52 RX6 yX6_saves wsX6_saves) := goodIn_app (goodIn_of _ (by decide +kernel)) ggX6_begin_X6_saves
set_option maxRecDepth 20000 in
theorem ggX6_begin_X6_begins : GoodIn wsX6_begin wsX6_begins := goodIn_r _ [23, 2, 24, 25, 26, 5, 27, 28, 29, 30, 31, 32, 33, 34, 35, 36, 37, 38, 39] (by decide +kernel) (by decide +kernel)
set_option maxRecDepth 20000 in
theorem gX6_begin_X6_begins : GoodIn wsX6_begin (wsV RX6 25 RX6 yX6_begins wsX6_begins) := goodIn_app (goodIn_of _ (by decide +kernel)) ggX6_begin_X6_begins
theorem dX6_begin_0 : decode cX6_begin 0 = .ok (.aload_n 0, 1) := by decide +kernel
theorem dX6_begin_1 : decode cX6_begin 1 = .ok (.iconst 0, 1) := by decide +kernel
theorem dX6_begin_2 : decode cX6_begin 2 = .ok (.putfield 29, 3) := by decide +kernel
theorem dX6_begin_5 : decode cX6_begin 5 = .ok (.iload_n 1, 1) := by decide +kernel
theorem dX6_begin_6 : decode cX6_begin 6 = .ok (.iconst 3, 1) := by decide +kernel
theorem dX6_begin_7 : decode cX6_begin 7 = .ok (.bipush 8, 2) := by decide +kernel
theorem dX6_begin_9 : decode cX6_begin 9 = .ok (.invokestatic 33, 3) := by decide +kernel
theorem dX6_begin_12 : decode cX6_begin 12 = .ok (.ifCond .ne 9, 3) := by decide +kernel
theorem dX6_begin_15 : decode cX6_begin 15 = .ok (.aload_n 0, 1) := by decide +kernel
theorem dX6_begin_16 : decode cX6_begin 16 = .ok (.iconst 1, 1) := by decide +kernel
theorem dX6_begin_17 : decode cX6_begin 17 = .ok (.invokevirtual 44, 3) := by decide +kernel
theorem dX6_begin_20 : decode cX6_begin 20 = .ok (.ireturn, 1) := by decide +kernel
theorem dX6_begin_21 : decode cX6_begin 21 = .ok (.aload_n 0, 1) := by decide +kernel
theorem dX6_begin_22 : decode cX6_begin 22 = .ok (.invokevirtual 52, 3) := by decide +kernel
theorem dX6_begin_25 : decode cX6_begin 25 = .ok (.aload_n 0, 1) := by decide +kernel
theorem dX6_begin_26 : decode cX6_begin 26 = .ok (.iload_n 1, 1) := by decide +kernel
theorem dX6_begin_27 : decode cX6_begin 27 = .ok (.invokevirtual 25, 3) := by decide +kernel
theorem dX6_begin_30 : decode cX6_begin 30 = .ok (.aload_n 0, 1) := by decide +kernel
theorem dX6_begin_31 : decode cX6_begin 31 = .ok (.getfield 7, 3) := by decide +kernel
theorem dX6_begin_34 : decode cX6_begin 34 = .ok (.iconst 5, 1) := by decide +kernel
theorem dX6_begin_35 : decode cX6_begin 35 = .ok (.iaload, 1) := by decide +kernel
theorem dX6_begin_36 : decode cX6_begin 36 = .ok (.ireturn, 1) := by decide +kernel
set_option maxRecDepth 20000 in
theorem ggX6_having_X6_of : GoodIn wsX6_having wsX6_of := goodIn_r _ [4] (by decide +kernel) (by decide +kernel)
set_option maxRecDepth 20000 in
theorem gX6_having_X6_of : GoodIn wsX6_having (va_wsS RX6 55 yX6_of wsX6_of) := goodIn_app (goodIn_of _ (by decide +kernel)) ggX6_having_X6_of
theorem dX6_having_0 : decode cX6_having 0 = .ok (.iconst 0, 1) := by decide +kernel
theorem dX6_having_1 : decode cX6_having 1 = .ok (.istore 4, 2) := by decide +kernel
theorem dX6_having_3 : decode cX6_having 3 = .ok (.iconst 0, 1) := by decide +kernel
theorem dX6_having_4 : decode cX6_having 4 = .ok (.istore 5, 2) := by decide +kernel
theorem dX6_having_6 : decode cX6_having 6 = .ok (.iload 5, 2) := by decide +kernel
theorem dX6_having_8 : decode cX6_having 8 = .ok (.aload_n 0, 1) := by decide +kernel
theorem dX6_having_9 : decode cX6_having 9 = .ok (.iconst 5, 1) := by decide +kernel
theorem dX6_having_10 : decode cX6_having 10 = .ok (.iaload, 1) := by decide +kernel
theorem dX6_having_11 : decode cX6_having 11 = .ok (.if_icmp .ge 46, 3) := by decide +kernel
theorem dX6_having_14 : decode cX6_having 14 = .ok (.iload 4, 2) := by decide +kernel
theorem dX6_having_16 : decode cX6_having 16 = .ok (.aload_n 0, 1) := by decide +kernel
theorem dX6_having_17 : decode cX6_having 17 = .ok (.iload 5, 2) := by decide +kernel
theorem dX6_having_19 : decode cX6_having 19 = .ok (.iload_n 1, 1) := by decide +kernel
theorem dX6_having_20 : decode cX6_having 20 = .ok (.invokestatic 55, 3) := by decide +kernel
theorem dX6_having_23 : decode cX6_having 23 = .ok (.iload_n 2, 1) := by decide +kernel
theorem dX6_having_24 : decode cX6_having 24 = .ok (.if_icmp .ne 23, 3) := by decide +kernel
theorem dX6_having_27 : decode cX6_having 27 = .ok (.iload_n 3, 1) := by decide +kernel
theorem dX6_having_28 : decode cX6_having 28 = .ok (.iconst (-1), 1) := by decide +kernel
theorem dX6_having_29 : decode cX6_having 29 = .ok (.if_icmp .eq 14, 3) := by decide +kernel
theorem dX6_having_32 : decode cX6_having 32 = .ok (.aload_n 0, 1) := by decide +kernel
theorem dX6_having_33 : decode cX6_having 33 = .ok (.iload 5, 2) := by decide +kernel
theorem dX6_having_35 : decode cX6_having 35 = .ok (.iconst 0, 1) := by decide +kernel
theorem dX6_having_36 : decode cX6_having 36 = .ok (.invokestatic 55, 3) := by decide +kernel
theorem dX6_having_39 : decode cX6_having 39 = .ok (.iload_n 3, 1) := by decide +kernel
theorem dX6_having_40 : decode cX6_having 40 = .ok (.if_icmp .ne 7, 3) := by decide +kernel
theorem dX6_having_43 : decode cX6_having 43 = .ok (.iconst 1, 1) := by decide +kernel
theorem dX6_having_44 : decode cX6_having 44 = .ok (.goto 4, 3) := by decide +kernel
theorem dX6_having_47 : decode cX6_having 47 = .ok (.iconst 0, 1) := by decide +kernel
theorem dX6_having_48 : decode cX6_having 48 = .ok (.iadd, 1) := by decide +kernel
theorem dX6_having_49 : decode cX6_having 49 = .ok (.istore 4, 2) := by decide +kernel
theorem dX6_having_51 : decode cX6_having 51 = .ok (.iinc 5 1, 3) := by decide +kernel
theorem dX6_having_54 : decode cX6_having 54 = .ok (.goto (-48), 3) := by decide +kernel
theorem dX6_having_57 : decode cX6_having 57 = .ok (.iload 4, 2) := by decide +kernel
theorem dX6_having_59 : decode cX6_having 59 = .ok (.ireturn, 1) := by decide +kernel
set_option maxRecDepth 20000 in
theorem ggX6_isNeutral_X6_of : GoodIn wsX6_isNeutral wsX6_of := goodIn_r _ [4] (by decide +kernel) (by decide +kernel)
set_option maxRecDepth 20000 in
theorem gX6_isNeutral_X6_of : GoodIn wsX6_isNeutral (va_wsS RX6 55 yX6_of wsX6_of) := goodIn_app (goodIn_of _ (by decide +kernel)) ggX6_isNeutral_X6_of
theorem dX6_isNeutral_0 : decode cX6_isNeutral 0 = .ok (.aload_n 0, 1) := by decide +kernel
theorem dX6_isNeutral_1 : decode cX6_isNeutral 1 = .ok (.iload_n 1, 1) := by decide +kernel
theorem dX6_isNeutral_2 : decode cX6_isNeutral 2 = .ok (.iconst 1, 1) := by decide +kernel
theorem dX6_isNeutral_3 : decode cX6_isNeutral 3 = .ok (.invokestatic 55, 3) := by decide +kernel
theorem dX6_isNeutral_6 : decode cX6_isNeutral 6 = .ok (.bipush 6, 2) := by decide +kernel
theorem dX6_isNeutral_8 : decode cX6_isNeutral 8 = .ok (.irem, 1) := by decide +kernel
theorem dX6_isNeutral_9 : decode cX6_isNeutral 9 = .ok (.iload_n 2, 1) := by decide +kernel
theorem dX6_isNeutral_10 : decode cX6_isNeutral 10 = .ok (.if_icmp .eq 20, 3) := by decide +kernel
theorem dX6_isNeutral_13 : decode cX6_isNeutral 13 = .ok (.aload_n 0, 1) := by decide +kernel
theorem dX6_isNeutral_14 : decode cX6_isNeutral 14 = .ok (.iload_n 1, 1) := by decide +kernel
theorem dX6_isNeutral_15 : decode cX6_isNeutral 15 = .ok (.iconst 2, 1) := by decide +kernel
theorem dX6_isNeutral_16 : decode cX6_isNeutral 16 = .ok (.invokestatic 55, 3) := by decide +kernel
theorem dX6_isNeutral_19 : decode cX6_isNeutral 19 = .ok (.bipush 6, 2) := by decide +kernel
theorem dX6_isNeutral_21 : decode cX6_isNeutral 21 = .ok (.irem, 1) := by decide +kernel
theorem dX6_isNeutral_22 : decode cX6_isNeutral 22 = .ok (.iload_n 2, 1) := by decide +kernel
theorem dX6_isNeutral_23 : decode cX6_isNeutral 23 = .ok (.if_icmp .eq 7, 3) := by decide +kernel
theorem dX6_isNeutral_26 : decode cX6_isNeutral 26 = .ok (.iconst 1, 1) := by decide +kernel
theorem dX6_isNeutral_27 : decode cX6_isNeutral 27 = .ok (.goto 4, 3) := by decide +kernel
theorem dX6_isNeutral_30 : decode cX6_isNeutral 30 = .ok (.iconst 0, 1) := by decide +kernel
theorem dX6_isNeutral_31 : decode cX6_isNeutral 31 = .ok (.ireturn, 1) := by decide +kernel
set_option maxRecDepth 20000 in
theorem ggX6_maySet_X6_of : GoodIn wsX6_maySet wsX6_of := goodIn_r _ [4] (by decide +kernel) (by decide +kernel)
set_option maxRecDepth 20000 in
theorem gX6_maySet_X6_of : GoodIn wsX6_maySet (va_wsS RX6 55 yX6_of wsX6_of) := goodIn_app (goodIn_of _ (by decide +kernel)) ggX6_maySet_X6_of
set_option maxRecDepth 20000 in
theorem ggX6_maySet_X6_having : GoodIn wsX6_maySet wsX6_having := goodIn_r _ [7, 1, 2, 3, 4] (by decide +kernel) (by decide +kernel)
set_option maxRecDepth 20000 in
theorem gX6_maySet_X6_having : GoodIn wsX6_maySet (va_wsS RX6 59 yX6_having wsX6_having) := goodIn_app (goodIn_of _ (by decide +kernel)) ggX6_maySet_X6_having
theorem dX6_maySet_0 : decode cX6_maySet 0 = .ok (.iload_n 2, 1) := by decide +kernel
theorem dX6_maySet_1 : decode cX6_maySet 1 = .ok (.aload_n 0, 1) := by decide +kernel
theorem dX6_maySet_2 : decode cX6_maySet 2 = .ok (.iconst 4, 1) := by decide +kernel
theorem dX6_maySet_3 : decode cX6_maySet 3 = .ok (.iaload, 1) := by decide +kernel
theorem dX6_maySet_4 : decode cX6_maySet 4 = .ok (.irem, 1) := by decide +kernel
theorem dX6_maySet_5 : decode cX6_maySet 5 = .ok (.istore_n 3, 1) := by decide +kernel
theorem dX6_maySet_6 : decode cX6_maySet 6 = .ok (.aload_n 0, 1) := by decide +kernel
theorem dX6_maySet_7 : decode cX6_maySet 7 = .ok (.iload_n 1, 1) := by decide +kernel
theorem dX6_maySet_8 : decode cX6_maySet 8 = .ok (.iconst 1, 1) := by decide +kernel
theorem dX6_maySet_9 : decode cX6_maySet 9 = .ok (.invokestatic 55, 3) := by decide +kernel
theorem dX6_maySet_12 : decode cX6_maySet 12 = .ok (.iload_n 3, 1) := by decide +kernel
theorem dX6_maySet_13 : decode cX6_maySet 13 = .ok (.if_icmp .eq 30, 3) := by decide +kernel
theorem dX6_maySet_16 : decode cX6_maySet 16 = .ok (.aload_n 0, 1) := by decide +kernel
theorem dX6_maySet_17 : decode cX6_maySet 17 = .ok (.iload_n 1, 1) := by decide +kernel
theorem dX6_maySet_18 : decode cX6_maySet 18 = .ok (.iconst 2, 1) := by decide +kernel
theorem dX6_maySet_19 : decode cX6_maySet 19 = .ok (.invokestatic 55, 3) := by decide +kernel
theorem dX6_maySet_22 : decode cX6_maySet 22 = .ok (.iload_n 3, 1) := by decide +kernel
theorem dX6_maySet_23 : decode cX6_maySet 23 = .ok (.if_icmp .eq 20, 3) := by decide +kernel
theorem dX6_maySet_26 : decode cX6_maySet 26 = .ok (.aload_n 0, 1) := by decide +kernel
theorem dX6_maySet_27 : decode cX6_maySet 27 = .ok (.iconst 4, 1) := by decide +kernel
theorem dX6_maySet_28 : decode cX6_maySet 28 = .ok (.iload_n 2, 1) := by decide +kernel
theorem dX6_maySet_29 : decode cX6_maySet 29 = .ok (.iconst (-1), 1) := by decide +kernel
theorem dX6_maySet_30 : decode cX6_maySet 30 = .ok (.invokestatic 59, 3) := by decide +kernel
theorem dX6_maySet_33 : decode cX6_maySet 33 = .ok (.aload_n 0, 1) := by decide +kernel
theorem dX6_maySet_34 : decode cX6_maySet 34 = .ok (.iconst 3, 1) := by decide +kernel
theorem dX6_maySet_35 : decode cX6_maySet 35 = .ok (.iaload, 1) := by decide +kernel
theorem dX6_maySet_36 : decode cX6_maySet 36 = .ok (.if_icmp .ge 7, 3) := by decide +kernel
theorem dX6_maySet_39 : decode cX6_maySet 39 = .ok (.iconst 1, 1) := by decide +kernel
theorem dX6_maySet_40 : decode cX6_maySet 40 = .ok (.goto 4, 3) := by decide +kernel
theorem dX6_maySet_43 : decode cX6_maySet 43 = .ok (.iconst 0, 1) := by decide +kernel
theorem dX6_maySet_44 : decode cX6_maySet 44 = .ok (.ireturn, 1) := by decide +kernel
set_option maxRecDepth 20000 in
theorem ggX6_found_X6_of : GoodIn wsX6_found wsX6_of := goodIn_r _ [4] (by decide +kernel) (by decide +kernel)
set_option maxRecDepth 20000 in
theorem gX6_found_X6_of : GoodIn wsX6_found (va_wsS RX6 55 yX6_of wsX6_of) := goodIn_app (goodIn_of _ (by decide +kernel)) ggX6_found_X6_of
set_option maxRecDepth 20000 in
theorem ggX6_found_X6_isNeutral : GoodIn wsX6_found wsX6_isNeutral := goodIn_r _ [7, 1, 2, 3, 4] (by decide +kernel) (by decide +kernel)
set_option maxRecDepth 20000 in
theorem gX6_found_X6_isNeutral : GoodIn wsX6_found (va_wsS RX6 63 yX6_isNeutral wsX6_isNeutral) := goodIn_app (goodIn_of _ (by decide +kernel)) ggX6_found_X6_isNeutral
set_option maxRecDepth 20000 in
theorem ggX6_found_X6_maySet : GoodIn wsX6_found wsX6_maySet := goodIn_r _ [10, 1, 2, 3, 4, 11, 12, 13] (by decide +kernel) (by decide +kernel)
set_option maxRecDepth 20000 in
theorem gX6_found_X6_maySet : GoodIn wsX6_found (va_wsS RX6 67 yX6_maySet wsX6_maySet) := goodIn_app (goodIn_of _ (by decide +kernel)) ggX6_found_X6_maySet
set_option maxRecDepth 20000 in
theorem ggX6_found_X6_having : GoodIn wsX6_found wsX6_having := goodIn_r _ [13, 1, 2, 3, 4] (by decide +kernel) (by decide +kernel)
set_option maxRecDepth 20000 in
theorem gX6_found_X6_having : GoodIn wsX6_found (va_wsS RX6 59 yX6_having wsX6_having) := goodIn_app (goodIn_of _ (by decide +kernel)) ggX6_found_X6_having
theorem dX6_found_0 : decode cX6_found 0 = .ok (.iconst (-1), 1) := by decide +kernel
theorem dX6_found_1 : decode cX6_found 1 = .ok (.istore_n 3, 1) := by decide +kernel
theorem dX6_found_2 : decode cX6_found 2 = .ok (.iload_n 2, 1) := by decide +kernel
theorem dX6_found_3 : decode cX6_found 3 = .ok (.ifCond .eq 7, 3) := by decide +kernel
theorem dX6_found_6 : decode cX6_found 6 = .ok (.iconst 3, 1) := by decide +kernel
theorem dX6_found_7 : decode cX6_found 7 = .ok (.goto 4, 3) := by decide +kernel
theorem dX6_found_10 : decode cX6_found 10 = .ok (.iconst 4, 1) := by decide +kernel
theorem dX6_found_11 : decode cX6_found 11 = .ok (.istore 4, 2) := by decide +kernel
theorem dX6_found_13 : decode cX6_found 13 = .ok (.aload_n 0, 1) := by decide +kernel
theorem dX6_found_14 : decode cX6_found 14 = .ok (.iload_n 1, 1) := by decide +kernel
theorem dX6_found_15 : decode cX6_found 15 = .ok (.iconst 0, 1) := by decide +kernel
theorem dX6_found_16 : decode cX6_found 16 = .ok (.invokestatic 55, 3) := by decide +kernel
theorem dX6_found_19 : decode cX6_found 19 = .ok (.istore 5, 2) := by decide +kernel
theorem dX6_found_21 : decode cX6_found 21 = .ok (.iconst 0, 1) := by decide +kernel
theorem dX6_found_22 : decode cX6_found 22 = .ok (.istore 6, 2) := by decide +kernel
theorem dX6_found_24 : decode cX6_found 24 = .ok (.iload 6, 2) := by decide +kernel
theorem dX6_found_26 : decode cX6_found 26 = .ok (.bipush 6, 2) := by decide +kernel
theorem dX6_found_28 : decode cX6_found 28 = .ok (.if_icmp .ge 118, 3) := by decide +kernel
theorem dX6_found_31 : decode cX6_found 31 = .ok (.iload_n 2, 1) := by decide +kernel
theorem dX6_found_32 : decode cX6_found 32 = .ok (.ifCond .eq 13, 3) := by decide +kernel
theorem dX6_found_35 : decode cX6_found 35 = .ok (.aload_n 0, 1) := by decide +kernel
theorem dX6_found_36 : decode cX6_found 36 = .ok (.iload_n 1, 1) := by decide +kernel
theorem dX6_found_37 : decode cX6_found 37 = .ok (.iload 6, 2) := by decide +kernel
theorem dX6_found_39 : decode cX6_found 39 = .ok (.invokestatic 63, 3) := by decide +kernel
theorem dX6_found_42 : decode cX6_found 42 = .ok (.goto 10, 3) := by decide +kernel
theorem dX6_found_45 : decode cX6_found 45 = .ok (.aload_n 0, 1) := by decide +kernel
theorem dX6_found_46 : decode cX6_found 46 = .ok (.iload_n 1, 1) := by decide +kernel
theorem dX6_found_47 : decode cX6_found 47 = .ok (.iload 6, 2) := by decide +kernel
theorem dX6_found_49 : decode cX6_found 49 = .ok (.invokestatic 67, 3) := by decide +kernel
theorem dX6_found_52 : decode cX6_found 52 = .ok (.istore 7, 2) := by decide +kernel
theorem dX6_found_54 : decode cX6_found 54 = .ok (.iload 7, 2) := by decide +kernel
theorem dX6_found_56 : decode cX6_found 56 = .ok (.ifCond .eq 44, 3) := by decide +kernel
theorem dX6_found_59 : decode cX6_found 59 = .ok (.aload_n 0, 1) := by decide +kernel
theorem dX6_found_60 : decode cX6_found 60 = .ok (.iload_n 2, 1) := by decide +kernel
theorem dX6_found_61 : decode cX6_found 61 = .ok (.ifCond .eq 8, 3) := by decide +kernel
theorem dX6_found_64 : decode cX6_found 64 = .ok (.bipush 6, 2) := by decide +kernel
theorem dX6_found_66 : decode cX6_found 66 = .ok (.goto 5, 3) := by decide +kernel
theorem dX6_found_69 : decode cX6_found 69 = .ok (.bipush 12, 2) := by decide +kernel
theorem dX6_found_71 : decode cX6_found 71 = .ok (.iload 6, 2) := by decide +kernel
theorem dX6_found_73 : decode cX6_found 73 = .ok (.iadd, 1) := by decide +kernel
theorem dX6_found_74 : decode cX6_found 74 = .ok (.iaload, 1) := by decide +kernel
theorem dX6_found_75 : decode cX6_found 75 = .ok (.iload 5, 2) := by decide +kernel
theorem dX6_found_77 : decode cX6_found 77 = .ok (.ishr, 1) := by decide +kernel
theorem dX6_found_78 : decode cX6_found 78 = .ok (.iconst 1, 1) := by decide +kernel
theorem dX6_found_79 : decode cX6_found 79 = .ok (.iand, 1) := by decide +kernel
theorem dX6_found_80 : decode cX6_found 80 = .ok (.ifCond .ne 20, 3) := by decide +kernel
theorem dX6_found_83 : decode cX6_found 83 = .ok (.aload_n 0, 1) := by decide +kernel
theorem dX6_found_84 : decode cX6_found 84 = .ok (.iload 4, 2) := by decide +kernel
theorem dX6_found_86 : decode cX6_found 86 = .ok (.iload 6, 2) := by decide +kernel
theorem dX6_found_88 : decode cX6_found 88 = .ok (.iload 5, 2) := by decide +kernel
theorem dX6_found_90 : decode cX6_found 90 = .ok (.invokestatic 59, 3) := by decide +kernel
theorem dX6_found_93 : decode cX6_found 93 = .ok (.ifCond .ne 7, 3) := by decide +kernel
theorem dX6_found_96 : decode cX6_found 96 = .ok (.iconst 1, 1) := by decide +kernel
theorem dX6_found_97 : decode cX6_found 97 = .ok (.goto 4, 3) := by decide +kernel
theorem dX6_found_100 : decode cX6_found 100 = .ok (.iconst 0, 1) := by decide +kernel
theorem dX6_found_101 : decode cX6_found 101 = .ok (.istore 7, 2) := by decide +kernel
theorem dX6_found_103 : decode cX6_found 103 = .ok (.iload 7, 2) := by decide +kernel
theorem dX6_found_105 : decode cX6_found 105 = .ok (.ifCond .eq 33, 3) := by decide +kernel
theorem dX6_found_108 : decode cX6_found 108 = .ok (.iload_n 3, 1) := by decide +kernel
theorem dX6_found_109 : decode cX6_found 109 = .ok (.iconst (-1), 1) := by decide +kernel
theorem dX6_found_110 : decode cX6_found 110 = .ok (.if_icmp .eq 23, 3) := by decide +kernel
theorem dX6_found_113 : decode cX6_found 113 = .ok (.aload_n 0, 1) := by decide +kernel
theorem dX6_found_114 : decode cX6_found 114 = .ok (.iload 4, 2) := by decide +kernel
theorem dX6_found_116 : decode cX6_found 116 = .ok (.iload 6, 2) := by decide +kernel
theorem dX6_found_118 : decode cX6_found 118 = .ok (.iconst (-1), 1) := by decide +kernel
theorem dX6_found_119 : decode cX6_found 119 = .ok (.invokestatic 59, 3) := by decide +kernel
theorem dX6_found_122 : decode cX6_found 122 = .ok (.aload_n 0, 1) := by decide +kernel
theorem dX6_found_123 : decode cX6_found 123 = .ok (.iload 4, 2) := by decide +kernel
theorem dX6_found_125 : decode cX6_found 125 = .ok (.iload_n 3, 1) := by decide +kernel
theorem dX6_found_126 : decode cX6_found 126 = .ok (.iconst (-1), 1) := by decide +kernel
theorem dX6_found_127 : decode cX6_found 127 = .ok (.invokestatic 59, 3) := by decide +kernel
theorem dX6_found_130 : decode cX6_found 130 = .ok (.if_icmp .ge 8, 3) := by decide +kernel
theorem dX6_found_133 : decode cX6_found 133 = .ok (.iload 6, 2) := by decide +kernel
theorem dX6_found_135 : decode cX6_found 135 = .ok (.goto 4, 3) := by decide +kernel
theorem dX6_found_138 : decode cX6_found 138 = .ok (.iload_n 3, 1) := by decide +kernel
theorem dX6_found_139 : decode cX6_found 139 = .ok (.istore_n 3, 1) := by decide +kernel
theorem dX6_found_140 : decode cX6_found 140 = .ok (.iinc 6 1, 3) := by decide +kernel
theorem dX6_found_143 : decode cX6_found 143 = .ok (.goto (-119), 3) := by decide +kernel
theorem dX6_found_146 : decode cX6_found 146 = .ok (.iload_n 3, 1) := by decide +kernel
theorem dX6_found_147 : decode cX6_found 147 = .ok (.ireturn, 1) := by decide +kernel
set_option maxRecDepth 20000 in
theorem ggX6_stages_X6_of : GoodIn wsX6_stages wsX6_of := goodIn_r _ [4] (by decide +kernel) (by decide +kernel)
set_option maxRecDepth 20000 in
theorem gX6_stages_X6_of : GoodIn wsX6_stages (va_wsS RX6 55 yX6_of wsX6_of) := goodIn_app (goodIn_of _ (by decide +kernel)) ggX6_stages_X6_of
set_option maxRecDepth 20000 in
theorem ggX6_stages_X6_found : GoodIn wsX6_stages wsX6_found := goodIn_r _ [7, 1, 2, 3, 4, 8, 9, 10, 11, 12, 13, 14, 15, 16] (by decide +kernel) (by decide +kernel)
set_option maxRecDepth 20000 in
theorem gX6_stages_X6_found : GoodIn wsX6_stages (va_wsS RX6 70 yX6_found wsX6_found) := goodIn_app (goodIn_of _ (by decide +kernel)) ggX6_stages_X6_found
theorem dX6_stages_0 : decode cX6_stages 0 = .ok (.iconst 0, 1) := by decide +kernel
theorem dX6_stages_1 : decode cX6_stages 1 = .ok (.istore_n 1, 1) := by decide +kernel
theorem dX6_stages_2 : decode cX6_stages 2 = .ok (.iload_n 1, 1) := by decide +kernel
theorem dX6_stages_3 : decode cX6_stages 3 = .ok (.aload_n 0, 1) := by decide +kernel
theorem dX6_stages_4 : decode cX6_stages 4 = .ok (.iconst 5, 1) := by decide +kernel
theorem dX6_stages_5 : decode cX6_stages 5 = .ok (.iaload, 1) := by decide +kernel
theorem dX6_stages_6 : decode cX6_stages 6 = .ok (.if_icmp .ge 55, 3) := by decide +kernel
theorem dX6_stages_9 : decode cX6_stages 9 = .ok (.aload_n 0, 1) := by decide +kernel
theorem dX6_stages_10 : decode cX6_stages 10 = .ok (.iload_n 1, 1) := by decide +kernel
theorem dX6_stages_11 : decode cX6_stages 11 = .ok (.bipush 6, 2) := by decide +kernel
theorem dX6_stages_13 : decode cX6_stages 13 = .ok (.invokestatic 55, 3) := by decide +kernel
theorem dX6_stages_16 : decode cX6_stages 16 = .ok (.ifCond .ne 39, 3) := by decide +kernel
theorem dX6_stages_19 : decode cX6_stages 19 = .ok (.aload_n 0, 1) := by decide +kernel
theorem dX6_stages_20 : decode cX6_stages 20 = .ok (.bipush 18, 2) := by decide +kernel
theorem dX6_stages_22 : decode cX6_stages 22 = .ok (.bipush 9, 2) := by decide +kernel
theorem dX6_stages_24 : decode cX6_stages 24 = .ok (.iload_n 1, 1) := by decide +kernel
theorem dX6_stages_25 : decode cX6_stages 25 = .ok (.imul, 1) := by decide +kernel
theorem dX6_stages_26 : decode cX6_stages 26 = .ok (.iadd, 1) := by decide +kernel
theorem dX6_stages_27 : decode cX6_stages 27 = .ok (.iconst 3, 1) := by decide +kernel
theorem dX6_stages_28 : decode cX6_stages 28 = .ok (.iadd, 1) := by decide +kernel
theorem dX6_stages_29 : decode cX6_stages 29 = .ok (.iconst (-1), 1) := by decide +kernel
theorem dX6_stages_30 : decode cX6_stages 30 = .ok (.iastore, 1) := by decide +kernel
theorem dX6_stages_31 : decode cX6_stages 31 = .ok (.aload_n 0, 1) := by decide +kernel
theorem dX6_stages_32 : decode cX6_stages 32 = .ok (.bipush 18, 2) := by decide +kernel
theorem dX6_stages_34 : decode cX6_stages 34 = .ok (.bipush 9, 2) := by decide +kernel
theorem dX6_stages_36 : decode cX6_stages 36 = .ok (.iload_n 1, 1) := by decide +kernel
theorem dX6_stages_37 : decode cX6_stages 37 = .ok (.imul, 1) := by decide +kernel
theorem dX6_stages_38 : decode cX6_stages 38 = .ok (.iadd, 1) := by decide +kernel
theorem dX6_stages_39 : decode cX6_stages 39 = .ok (.iconst 4, 1) := by decide +kernel
theorem dX6_stages_40 : decode cX6_stages 40 = .ok (.iadd, 1) := by decide +kernel
theorem dX6_stages_41 : decode cX6_stages 41 = .ok (.iconst (-1), 1) := by decide +kernel
theorem dX6_stages_42 : decode cX6_stages 42 = .ok (.iastore, 1) := by decide +kernel
theorem dX6_stages_43 : decode cX6_stages 43 = .ok (.aload_n 0, 1) := by decide +kernel
theorem dX6_stages_44 : decode cX6_stages 44 = .ok (.bipush 18, 2) := by decide +kernel
theorem dX6_stages_46 : decode cX6_stages 46 = .ok (.bipush 9, 2) := by decide +kernel
theorem dX6_stages_48 : decode cX6_stages 48 = .ok (.iload_n 1, 1) := by decide +kernel
theorem dX6_stages_49 : decode cX6_stages 49 = .ok (.imul, 1) := by decide +kernel
theorem dX6_stages_50 : decode cX6_stages 50 = .ok (.iadd, 1) := by decide +kernel
theorem dX6_stages_51 : decode cX6_stages 51 = .ok (.iconst 5, 1) := by decide +kernel
theorem dX6_stages_52 : decode cX6_stages 52 = .ok (.iadd, 1) := by decide +kernel
theorem dX6_stages_53 : decode cX6_stages 53 = .ok (.iconst 0, 1) := by decide +kernel
theorem dX6_stages_54 : decode cX6_stages 54 = .ok (.iastore, 1) := by decide +kernel
theorem dX6_stages_55 : decode cX6_stages 55 = .ok (.iinc 1 1, 3) := by decide +kernel
theorem dX6_stages_58 : decode cX6_stages 58 = .ok (.goto (-56), 3) := by decide +kernel
theorem dX6_stages_61 : decode cX6_stages 61 = .ok (.iconst 0, 1) := by decide +kernel
theorem dX6_stages_62 : decode cX6_stages 62 = .ok (.istore_n 1, 1) := by decide +kernel
theorem dX6_stages_63 : decode cX6_stages 63 = .ok (.iconst 0, 1) := by decide +kernel
theorem dX6_stages_64 : decode cX6_stages 64 = .ok (.istore_n 2, 1) := by decide +kernel
theorem dX6_stages_65 : decode cX6_stages 65 = .ok (.iload_n 2, 1) := by decide +kernel
theorem dX6_stages_66 : decode cX6_stages 66 = .ok (.aload_n 0, 1) := by decide +kernel
theorem dX6_stages_67 : decode cX6_stages 67 = .ok (.iconst 5, 1) := by decide +kernel
theorem dX6_stages_68 : decode cX6_stages 68 = .ok (.iaload, 1) := by decide +kernel
theorem dX6_stages_69 : decode cX6_stages 69 = .ok (.if_icmp .ge 123, 3) := by decide +kernel
theorem dX6_stages_72 : decode cX6_stages 72 = .ok (.aload_n 0, 1) := by decide +kernel
theorem dX6_stages_73 : decode cX6_stages 73 = .ok (.iload_n 2, 1) := by decide +kernel
theorem dX6_stages_74 : decode cX6_stages 74 = .ok (.bipush 6, 2) := by decide +kernel
theorem dX6_stages_76 : decode cX6_stages 76 = .ok (.invokestatic 55, 3) := by decide +kernel
theorem dX6_stages_79 : decode cX6_stages 79 = .ok (.ifCond .ne 107, 3) := by decide +kernel
theorem dX6_stages_82 : decode cX6_stages 82 = .ok (.aload_n 0, 1) := by decide +kernel
theorem dX6_stages_83 : decode cX6_stages 83 = .ok (.iload_n 2, 1) := by decide +kernel
theorem dX6_stages_84 : decode cX6_stages 84 = .ok (.iconst 1, 1) := by decide +kernel
theorem dX6_stages_85 : decode cX6_stages 85 = .ok (.invokestatic 70, 3) := by decide +kernel
theorem dX6_stages_88 : decode cX6_stages 88 = .ok (.istore_n 3, 1) := by decide +kernel
theorem dX6_stages_89 : decode cX6_stages 89 = .ok (.iload_n 3, 1) := by decide +kernel
theorem dX6_stages_90 : decode cX6_stages 90 = .ok (.iconst (-1), 1) := by decide +kernel
theorem dX6_stages_91 : decode cX6_stages 91 = .ok (.if_icmp .ne 7, 3) := by decide +kernel
theorem dX6_stages_94 : decode cX6_stages 94 = .ok (.iconst (-1), 1) := by decide +kernel
theorem dX6_stages_95 : decode cX6_stages 95 = .ok (.goto 9, 3) := by decide +kernel
theorem dX6_stages_98 : decode cX6_stages 98 = .ok (.aload_n 0, 1) := by decide +kernel
theorem dX6_stages_99 : decode cX6_stages 99 = .ok (.iload_n 2, 1) := by decide +kernel
theorem dX6_stages_100 : decode cX6_stages 100 = .ok (.iconst 0, 1) := by decide +kernel
theorem dX6_stages_101 : decode cX6_stages 101 = .ok (.invokestatic 70, 3) := by decide +kernel
theorem dX6_stages_104 : decode cX6_stages 104 = .ok (.istore 4, 2) := by decide +kernel
theorem dX6_stages_106 : decode cX6_stages 106 = .ok (.aload_n 0, 1) := by decide +kernel
theorem dX6_stages_107 : decode cX6_stages 107 = .ok (.bipush 18, 2) := by decide +kernel
theorem dX6_stages_109 : decode cX6_stages 109 = .ok (.bipush 9, 2) := by decide +kernel
theorem dX6_stages_111 : decode cX6_stages 111 = .ok (.iload_n 2, 1) := by decide +kernel
theorem dX6_stages_112 : decode cX6_stages 112 = .ok (.imul, 1) := by decide +kernel
theorem dX6_stages_113 : decode cX6_stages 113 = .ok (.iadd, 1) := by decide +kernel
theorem dX6_stages_114 : decode cX6_stages 114 = .ok (.iconst 3, 1) := by decide +kernel
theorem dX6_stages_115 : decode cX6_stages 115 = .ok (.iadd, 1) := by decide +kernel
theorem dX6_stages_116 : decode cX6_stages 116 = .ok (.iload 4, 2) := by decide +kernel
theorem dX6_stages_118 : decode cX6_stages 118 = .ok (.iconst (-1), 1) := by decide +kernel
theorem dX6_stages_119 : decode cX6_stages 119 = .ok (.if_icmp .ne 7, 3) := by decide +kernel
theorem dX6_stages_122 : decode cX6_stages 122 = .ok (.iconst (-1), 1) := by decide +kernel
theorem dX6_stages_123 : decode cX6_stages 123 = .ok (.goto 4, 3) := by decide +kernel
theorem dX6_stages_126 : decode cX6_stages 126 = .ok (.iload_n 3, 1) := by decide +kernel
theorem dX6_stages_127 : decode cX6_stages 127 = .ok (.iastore, 1) := by decide +kernel
theorem dX6_stages_128 : decode cX6_stages 128 = .ok (.aload_n 0, 1) := by decide +kernel
theorem dX6_stages_129 : decode cX6_stages 129 = .ok (.bipush 18, 2) := by decide +kernel
theorem dX6_stages_131 : decode cX6_stages 131 = .ok (.bipush 9, 2) := by decide +kernel
theorem dX6_stages_133 : decode cX6_stages 133 = .ok (.iload_n 2, 1) := by decide +kernel
theorem dX6_stages_134 : decode cX6_stages 134 = .ok (.imul, 1) := by decide +kernel
theorem dX6_stages_135 : decode cX6_stages 135 = .ok (.iadd, 1) := by decide +kernel
theorem dX6_stages_136 : decode cX6_stages 136 = .ok (.iconst 4, 1) := by decide +kernel
theorem dX6_stages_137 : decode cX6_stages 137 = .ok (.iadd, 1) := by decide +kernel
theorem dX6_stages_138 : decode cX6_stages 138 = .ok (.iload 4, 2) := by decide +kernel
theorem dX6_stages_140 : decode cX6_stages 140 = .ok (.iastore, 1) := by decide +kernel
theorem dX6_stages_141 : decode cX6_stages 141 = .ok (.aload_n 0, 1) := by decide +kernel
theorem dX6_stages_142 : decode cX6_stages 142 = .ok (.bipush 18, 2) := by decide +kernel
theorem dX6_stages_144 : decode cX6_stages 144 = .ok (.bipush 9, 2) := by decide +kernel
theorem dX6_stages_146 : decode cX6_stages 146 = .ok (.iload_n 2, 1) := by decide +kernel
theorem dX6_stages_147 : decode cX6_stages 147 = .ok (.imul, 1) := by decide +kernel
theorem dX6_stages_148 : decode cX6_stages 148 = .ok (.iadd, 1) := by decide +kernel
theorem dX6_stages_149 : decode cX6_stages 149 = .ok (.iconst 5, 1) := by decide +kernel
theorem dX6_stages_150 : decode cX6_stages 150 = .ok (.iadd, 1) := by decide +kernel
theorem dX6_stages_151 : decode cX6_stages 151 = .ok (.iload_n 3, 1) := by decide +kernel
theorem dX6_stages_152 : decode cX6_stages 152 = .ok (.iconst (-1), 1) := by decide +kernel
theorem dX6_stages_153 : decode cX6_stages 153 = .ok (.if_icmp .ne 7, 3) := by decide +kernel
theorem dX6_stages_156 : decode cX6_stages 156 = .ok (.iconst 1, 1) := by decide +kernel
theorem dX6_stages_157 : decode cX6_stages 157 = .ok (.goto 14, 3) := by decide +kernel
theorem dX6_stages_160 : decode cX6_stages 160 = .ok (.iload 4, 2) := by decide +kernel
theorem dX6_stages_162 : decode cX6_stages 162 = .ok (.iconst (-1), 1) := by decide +kernel
theorem dX6_stages_163 : decode cX6_stages 163 = .ok (.if_icmp .ne 7, 3) := by decide +kernel
theorem dX6_stages_166 : decode cX6_stages 166 = .ok (.iconst 2, 1) := by decide +kernel
theorem dX6_stages_167 : decode cX6_stages 167 = .ok (.goto 4, 3) := by decide +kernel
theorem dX6_stages_170 : decode cX6_stages 170 = .ok (.iconst 0, 1) := by decide +kernel
theorem dX6_stages_171 : decode cX6_stages 171 = .ok (.iastore, 1) := by decide +kernel
theorem dX6_stages_172 : decode cX6_stages 172 = .ok (.iload_n 1, 1) := by decide +kernel
theorem dX6_stages_173 : decode cX6_stages 173 = .ok (.iload 4, 2) := by decide +kernel
theorem dX6_stages_175 : decode cX6_stages 175 = .ok (.iconst (-1), 1) := by decide +kernel
theorem dX6_stages_176 : decode cX6_stages 176 = .ok (.if_icmp .ne 7, 3) := by decide +kernel
theorem dX6_stages_179 : decode cX6_stages 179 = .ok (.iconst 0, 1) := by decide +kernel
theorem dX6_stages_180 : decode cX6_stages 180 = .ok (.goto 4, 3) := by decide +kernel
theorem dX6_stages_183 : decode cX6_stages 183 = .ok (.iconst 1, 1) := by decide +kernel
theorem dX6_stages_184 : decode cX6_stages 184 = .ok (.iadd, 1) := by decide +kernel
theorem dX6_stages_185 : decode cX6_stages 185 = .ok (.istore_n 1, 1) := by decide +kernel
theorem dX6_stages_186 : decode cX6_stages 186 = .ok (.iinc 2 1, 3) := by decide +kernel
theorem dX6_stages_189 : decode cX6_stages 189 = .ok (.goto (-124), 3) := by decide +kernel
theorem dX6_stages_192 : decode cX6_stages 192 = .ok (.iload_n 1, 1) := by decide +kernel
theorem dX6_stages_193 : decode cX6_stages 193 = .ok (.ireturn, 1) := by decide +kernel
theorem dX6_changes_0 : decode cX6_changes 0 = .ok (.aload_n 0, 1) := by decide +kernel
theorem dX6_changes_1 : decode cX6_changes 1 = .ok (.getfield 7, 3) := by decide +kernel
theorem dX6_changes_4 : decode cX6_changes 4 = .ok (.iload_n 1, 1) := by decide +kernel
theorem dX6_changes_5 : decode cX6_changes 5 = .ok (.iaload, 1) := by decide +kernel
theorem dX6_changes_6 : decode cX6_changes 6 = .ok (.istore_n 3, 1) := by decide +kernel
theorem dX6_changes_7 : decode cX6_changes 7 = .ok (.aload_n 0, 1) := by decide +kernel
theorem dX6_changes_8 : decode cX6_changes 8 = .ok (.getfield 7, 3) := by decide +kernel
theorem dX6_changes_11 : decode cX6_changes 11 = .ok (.iload_n 1, 1) := by decide +kernel
theorem dX6_changes_12 : decode cX6_changes 12 = .ok (.iload_n 2, 1) := by decide +kernel
theorem dX6_changes_13 : decode cX6_changes 13 = .ok (.iastore, 1) := by decide +kernel
theorem dX6_changes_14 : decode cX6_changes 14 = .ok (.iload_n 3, 1) := by decide +kernel
theorem dX6_changes_15 : decode cX6_changes 15 = .ok (.ireturn, 1) := by decide +kernel
set_option maxRecDepth 20000 in
theorem ggX6_masks_X6_in : GoodIn wsX6_masks wsX6_in := goodIn_r _ [5] (by decide +kernel) (by decide +kernel)
set_option maxRecDepth 20000 in
theorem gX6_masks_X6_in : GoodIn wsX6_masks (va_wsS RX6 33 yX6_in wsX6_in) := goodIn_app (goodIn_of _ (by decide +kernel)) ggX6_masks_X6_in
set_option maxRecDepth 20000 in
theorem ggX6_masks_X6_fails : GoodIn wsX6_masks wsX6_fails := goodIn_r _ [9, 1, 24, 25, 26, 27, 28, 29, 30, 31, 32, 33, 34, 35] (by decide +kernel) (by decide +kernel)
set_option maxRecDepth 20000 in
theorem gX6_masks_X6_fails : GoodIn wsX6_masks (wsV RX6 44 RX6 yX6_fails wsX6_fails) := goodIn_app (goodIn_of _ (by decide +kernel)) ggX6_masks_X6_fails
set_option maxRecDepth 20000 in
theorem ggX6_masks_X6_saves : GoodIn wsX6_masks wsX6_saves := goodIn_r _ [13, 14, 15, 16, 17, 18, 4, 19, 24, 25, 26, 27, 28, 29, 30, 31, 32, 33, 34, 35] (by decide +kernel) (by decide +kernel)
set_option maxRecDepth 20000 in
theorem gX6_masks_X6_saves : GoodIn wsX6_masks (wsV RX6 52 RX6 yX6_saves wsX6_saves) := goodIn_app (goodIn_of _ (by decide +kernel)) ggX6_masks_X6_saves
set_option maxRecDepth 20000 in
theorem ggX6_masks_X6_changes : GoodIn wsX6_masks wsX6_changes := goodIn_r _ [23, 16, 24, 25, 26, 27, 28, 29, 30, 31, 32, 33, 34, 35] (by decide +kernel) (by decide +kernel)
set_option maxRecDepth 20000 in
theorem gX6_masks_X6_changes : GoodIn wsX6_masks (wsV RX6 74 RX6 yX6_changes wsX6_changes) := goodIn_app (goodIn_of _ (by decide +kernel)) ggX6_masks_X6_changes
theorem dX6_masks_0 : decode cX6_masks 0 = .ok (.aload_n 0, 1) := by decide +kernel
theorem dX6_masks_1 : decode cX6_masks 1 = .ok (.iconst 0, 1) := by decide +kernel
theorem dX6_masks_2 : decode cX6_masks 2 = .ok (.putfield 29, 3) := by decide +kernel
theorem dX6_masks_5 : decode cX6_masks 5 = .ok (.iload_n 2, 1) := by decide +kernel
theorem dX6_masks_6 : decode cX6_masks 6 = .ok (.iconst 0, 1) := by decide +kernel
theorem dX6_masks_7 : decode cX6_masks 7 = .ok (.iconst 5, 1) := by decide +kernel
theorem dX6_masks_8 : decode cX6_masks 8 = .ok (.invokestatic 33, 3) := by decide +kernel
theorem dX6_masks_11 : decode cX6_masks 11 = .ok (.ifCond .ne 9, 3) := by decide +kernel
theorem dX6_masks_14 : decode cX6_masks 14 = .ok (.aload_n 0, 1) := by decide +kernel
theorem dX6_masks_15 : decode cX6_masks 15 = .ok (.iconst 1, 1) := by decide +kernel
theorem dX6_masks_16 : decode cX6_masks 16 = .ok (.invokevirtual 44, 3) := by decide +kernel
theorem dX6_masks_19 : decode cX6_masks 19 = .ok (.ireturn, 1) := by decide +kernel
theorem dX6_masks_20 : decode cX6_masks 20 = .ok (.iload_n 3, 1) := by decide +kernel
theorem dX6_masks_21 : decode cX6_masks 21 = .ok (.iconst 0, 1) := by decide +kernel
theorem dX6_masks_22 : decode cX6_masks 22 = .ok (.bipush 127, 2) := by decide +kernel
theorem dX6_masks_24 : decode cX6_masks 24 = .ok (.invokestatic 33, 3) := by decide +kernel
theorem dX6_masks_27 : decode cX6_masks 27 = .ok (.ifCond .ne 9, 3) := by decide +kernel
theorem dX6_masks_30 : decode cX6_masks 30 = .ok (.aload_n 0, 1) := by decide +kernel
theorem dX6_masks_31 : decode cX6_masks 31 = .ok (.iconst 2, 1) := by decide +kernel
theorem dX6_masks_32 : decode cX6_masks 32 = .ok (.invokevirtual 44, 3) := by decide +kernel
theorem dX6_masks_35 : decode cX6_masks 35 = .ok (.ireturn, 1) := by decide +kernel
theorem dX6_masks_36 : decode cX6_masks 36 = .ok (.aload_n 0, 1) := by decide +kernel
theorem dX6_masks_37 : decode cX6_masks 37 = .ok (.invokevirtual 52, 3) := by decide +kernel
theorem dX6_masks_40 : decode cX6_masks 40 = .ok (.aload_n 0, 1) := by decide +kernel
theorem dX6_masks_41 : decode cX6_masks 41 = .ok (.iload_n 1, 1) := by decide +kernel
theorem dX6_masks_42 : decode cX6_masks 42 = .ok (.iload_n 2, 1) := by decide +kernel
theorem dX6_masks_43 : decode cX6_masks 43 = .ok (.iadd, 1) := by decide +kernel
theorem dX6_masks_44 : decode cX6_masks 44 = .ok (.iload_n 3, 1) := by decide +kernel
theorem dX6_masks_45 : decode cX6_masks 45 = .ok (.invokevirtual 74, 3) := by decide +kernel
theorem dX6_masks_48 : decode cX6_masks 48 = .ok (.ireturn, 1) := by decide +kernel
set_option maxRecDepth 20000 in
theorem ggX6_close_X6_masks : GoodIn wsX6_close wsX6_masks := goodIn_r _ [5, 6, 7, 8, 4, 9, 10, 11, 12, 13, 14, 15, 16, 17, 18, 19, 20, 21, 22, 23, 24, 25, 26, 27, 28, 29, 30, 31, 32, 33, 34, 35, 36, 37, 38, 39] (by decide +kernel) (by decide +kernel)
set_option maxRecDepth 20000 in
theorem gX6_close_X6_masks : GoodIn wsX6_close (wsV RX6 78 RX6 yX6_masks wsX6_masks) := goodIn_app (goodIn_of _ (by decide +kernel)) ggX6_close_X6_masks
theorem dX6_close_0 : decode cX6_close 0 = .ok (.aload_n 0, 1) := by decide +kernel
theorem dX6_close_1 : decode cX6_close 1 = .ok (.bipush 6, 2) := by decide +kernel
theorem dX6_close_3 : decode cX6_close 3 = .ok (.iload_n 1, 1) := by decide +kernel
theorem dX6_close_4 : decode cX6_close 4 = .ok (.iload_n 2, 1) := by decide +kernel
theorem dX6_close_5 : decode cX6_close 5 = .ok (.invokevirtual 78, 3) := by decide +kernel
theorem dX6_close_8 : decode cX6_close 8 = .ok (.ireturn, 1) := by decide +kernel
set_option maxRecDepth 20000 in
theorem ggX6_away_X6_masks : GoodIn wsX6_away wsX6_masks := goodIn_r _ [5, 6, 7, 8, 4, 9, 10, 11, 12, 13, 14, 15, 16, 17, 18, 19, 20, 21, 22, 23, 24, 25, 26, 27, 28, 29, 30, 31, 32, 33, 34, 35, 36, 37, 38, 39] (by decide +kernel) (by decide +kernel)
set_option maxRecDepth 20000 in
theorem gX6_away_X6_masks : GoodIn wsX6_away (wsV RX6 78 RX6 yX6_masks wsX6_masks) := goodIn_app (goodIn_of _ (by decide +kernel)) ggX6_away_X6_masks
theorem dX6_away_0 : decode cX6_away 0 = .ok (.aload_n 0, 1) := by decide +kernel
theorem dX6_away_1 : decode cX6_away 1 = .ok (.bipush 12, 2) := by decide +kernel
theorem dX6_away_3 : decode cX6_away 3 = .ok (.iload_n 1, 1) := by decide +kernel
theorem dX6_away_4 : decode cX6_away 4 = .ok (.iload_n 2, 1) := by decide +kernel
theorem dX6_away_5 : decode cX6_away 5 = .ok (.invokevirtual 78, 3) := by decide +kernel
theorem dX6_away_8 : decode cX6_away 8 = .ok (.ireturn, 1) := by decide +kernel
set_option maxRecDepth 20000 in
theorem ggX6_stage_X6_saves : GoodIn wsX6_stage wsX6_saves := goodIn_r _ [7, 8, 9, 2, 10, 11, 6, 12, 31, 32, 33, 34, 35, 36, 37, 38, 39, 40, 41, 42] (by decide +kernel) (by decide +kernel)
set_option maxRecDepth 20000 in
theorem gX6_stage_X6_saves : GoodIn wsX6_stage (wsV RX6 52 RX6 yX6_saves wsX6_saves) := goodIn_app (goodIn_of _ (by decide +kernel)) ggX6_stage_X6_saves
set_option maxRecDepth 20000 in
theorem ggX6_stage_X6_stages : GoodIn wsX6_stage wsX6_stages := goodIn_r _ [15, 16, 17, 6, 18, 19, 20, 21, 22, 23, 24, 25, 26, 27, 28, 29, 30] (by decide +kernel) (by decide +kernel)
set_option maxRecDepth 20000 in
theorem gX6_stage_X6_stages : GoodIn wsX6_stage (va_wsS RX6 82 yX6_stages wsX6_stages) := goodIn_app (goodIn_of _ (by decide +kernel)) ggX6_stage_X6_stages
theorem dX6_stage_0 : decode cX6_stage 0 = .ok (.aload_n 0, 1) := by decide +kernel
theorem dX6_stage_1 : decode cX6_stage 1 = .ok (.iconst 0, 1) := by decide +kernel
theorem dX6_stage_2 : decode cX6_stage 2 = .ok (.putfield 29, 3) := by decide +kernel
theorem dX6_stage_5 : decode cX6_stage 5 = .ok (.aload_n 0, 1) := by decide +kernel
theorem dX6_stage_6 : decode cX6_stage 6 = .ok (.invokevirtual 52, 3) := by decide +kernel
theorem dX6_stage_9 : decode cX6_stage 9 = .ok (.aload_n 0, 1) := by decide +kernel
theorem dX6_stage_10 : decode cX6_stage 10 = .ok (.getfield 7, 3) := by decide +kernel
theorem dX6_stage_13 : decode cX6_stage 13 = .ok (.invokestatic 82, 3) := by decide +kernel
theorem dX6_stage_16 : decode cX6_stage 16 = .ok (.ireturn, 1) := by decide +kernel
set_option maxRecDepth 20000 in
theorem ggX6_scoreOf_X6_of : GoodIn wsX6_scoreOf wsX6_of := goodIn_r _ [4] (by decide +kernel) (by decide +kernel)
set_option maxRecDepth 20000 in
theorem gX6_scoreOf_X6_of : GoodIn wsX6_scoreOf (va_wsS RX6 55 yX6_of wsX6_of) := goodIn_app (goodIn_of _ (by decide +kernel)) ggX6_scoreOf_X6_of
theorem dX6_scoreOf_0 : decode cX6_scoreOf 0 = .ok (.aload_n 0, 1) := by decide +kernel
theorem dX6_scoreOf_1 : decode cX6_scoreOf 1 = .ok (.iload_n 1, 1) := by decide +kernel
theorem dX6_scoreOf_2 : decode cX6_scoreOf 2 = .ok (.bipush 6, 2) := by decide +kernel
theorem dX6_scoreOf_4 : decode cX6_scoreOf 4 = .ok (.invokestatic 55, 3) := by decide +kernel
theorem dX6_scoreOf_7 : decode cX6_scoreOf 7 = .ok (.istore_n 3, 1) := by decide +kernel
theorem dX6_scoreOf_8 : decode cX6_scoreOf 8 = .ok (.iload_n 3, 1) := by decide +kernel
theorem dX6_scoreOf_9 : decode cX6_scoreOf 9 = .ok (.iconst 1, 1) := by decide +kernel
theorem dX6_scoreOf_10 : decode cX6_scoreOf 10 = .ok (.if_icmp .ne 15, 3) := by decide +kernel
theorem dX6_scoreOf_13 : decode cX6_scoreOf 13 = .ok (.aload_n 0, 1) := by decide +kernel
theorem dX6_scoreOf_14 : decode cX6_scoreOf 14 = .ok (.iload_n 1, 1) := by decide +kernel
theorem dX6_scoreOf_15 : decode cX6_scoreOf 15 = .ok (.bipush 7, 2) := by decide +kernel
theorem dX6_scoreOf_17 : decode cX6_scoreOf 17 = .ok (.iload_n 2, 1) := by decide +kernel
theorem dX6_scoreOf_18 : decode cX6_scoreOf 18 = .ok (.iadd, 1) := by decide +kernel
theorem dX6_scoreOf_19 : decode cX6_scoreOf 19 = .ok (.invokestatic 55, 3) := by decide +kernel
theorem dX6_scoreOf_22 : decode cX6_scoreOf 22 = .ok (.goto 17, 3) := by decide +kernel
theorem dX6_scoreOf_25 : decode cX6_scoreOf 25 = .ok (.iload_n 3, 1) := by decide +kernel
theorem dX6_scoreOf_26 : decode cX6_scoreOf 26 = .ok (.iconst 2, 1) := by decide +kernel
theorem dX6_scoreOf_27 : decode cX6_scoreOf 27 = .ok (.iload_n 2, 1) := by decide +kernel
theorem dX6_scoreOf_28 : decode cX6_scoreOf 28 = .ok (.iadd, 1) := by decide +kernel
theorem dX6_scoreOf_29 : decode cX6_scoreOf 29 = .ok (.if_icmp .ne 7, 3) := by decide +kernel
theorem dX6_scoreOf_32 : decode cX6_scoreOf 32 = .ok (.iconst 0, 1) := by decide +kernel
theorem dX6_scoreOf_33 : decode cX6_scoreOf 33 = .ok (.goto 6, 3) := by decide +kernel
theorem dX6_scoreOf_36 : decode cX6_scoreOf 36 = .ok (.aload_n 0, 1) := by decide +kernel
theorem dX6_scoreOf_37 : decode cX6_scoreOf 37 = .ok (.iconst 2, 1) := by decide +kernel
theorem dX6_scoreOf_38 : decode cX6_scoreOf 38 = .ok (.iaload, 1) := by decide +kernel
theorem dX6_scoreOf_39 : decode cX6_scoreOf 39 = .ok (.ireturn, 1) := by decide +kernel
set_option maxRecDepth 20000 in
theorem ggX6_sideOf_X6_of : GoodIn wsX6_sideOf wsX6_of := goodIn_r _ [4] (by decide +kernel) (by decide +kernel)
set_option maxRecDepth 20000 in
theorem gX6_sideOf_X6_of : GoodIn wsX6_sideOf (va_wsS RX6 55 yX6_of wsX6_of) := goodIn_app (goodIn_of _ (by decide +kernel)) ggX6_sideOf_X6_of
theorem dX6_sideOf_0 : decode cX6_sideOf 0 = .ok (.aload_n 0, 1) := by decide +kernel
theorem dX6_sideOf_1 : decode cX6_sideOf 1 = .ok (.iload_n 1, 1) := by decide +kernel
theorem dX6_sideOf_2 : decode cX6_sideOf 2 = .ok (.iconst 1, 1) := by decide +kernel
theorem dX6_sideOf_3 : decode cX6_sideOf 3 = .ok (.invokestatic 55, 3) := by decide +kernel
theorem dX6_sideOf_6 : decode cX6_sideOf 6 = .ok (.iload_n 2, 1) := by decide +kernel
theorem dX6_sideOf_7 : decode cX6_sideOf 7 = .ok (.if_icmp .ne 7, 3) := by decide +kernel
theorem dX6_sideOf_10 : decode cX6_sideOf 10 = .ok (.iconst 0, 1) := by decide +kernel
theorem dX6_sideOf_11 : decode cX6_sideOf 11 = .ok (.goto 18, 3) := by decide +kernel
theorem dX6_sideOf_14 : decode cX6_sideOf 14 = .ok (.aload_n 0, 1) := by decide +kernel
theorem dX6_sideOf_15 : decode cX6_sideOf 15 = .ok (.iload_n 1, 1) := by decide +kernel
theorem dX6_sideOf_16 : decode cX6_sideOf 16 = .ok (.iconst 2, 1) := by decide +kernel
theorem dX6_sideOf_17 : decode cX6_sideOf 17 = .ok (.invokestatic 55, 3) := by decide +kernel
theorem dX6_sideOf_20 : decode cX6_sideOf 20 = .ok (.iload_n 2, 1) := by decide +kernel
theorem dX6_sideOf_21 : decode cX6_sideOf 21 = .ok (.if_icmp .ne 7, 3) := by decide +kernel
theorem dX6_sideOf_24 : decode cX6_sideOf 24 = .ok (.iconst 1, 1) := by decide +kernel
theorem dX6_sideOf_25 : decode cX6_sideOf 25 = .ok (.goto 4, 3) := by decide +kernel
theorem dX6_sideOf_28 : decode cX6_sideOf 28 = .ok (.iconst (-1), 1) := by decide +kernel
theorem dX6_sideOf_29 : decode cX6_sideOf 29 = .ok (.ireturn, 1) := by decide +kernel
set_option maxRecDepth 20000 in
theorem ggX6_sums_X6_sideOf : GoodIn wsX6_sums wsX6_sideOf := goodIn_r _ [4, 5, 6, 3, 7] (by decide +kernel) (by decide +kernel)
set_option maxRecDepth 20000 in
theorem gX6_sums_X6_sideOf : GoodIn wsX6_sums (va_wsS RX6 86 yX6_sideOf wsX6_sideOf) := goodIn_app (goodIn_of _ (by decide +kernel)) ggX6_sums_X6_sideOf
set_option maxRecDepth 20000 in
theorem ggX6_sums_X6_of : GoodIn wsX6_sums wsX6_of := goodIn_r _ [7] (by decide +kernel) (by decide +kernel)
set_option maxRecDepth 20000 in
theorem gX6_sums_X6_of : GoodIn wsX6_sums (va_wsS RX6 55 yX6_of wsX6_of) := goodIn_app (goodIn_of _ (by decide +kernel)) ggX6_sums_X6_of
set_option maxRecDepth 20000 in
theorem ggX6_sums_X6_scoreOf : GoodIn wsX6_sums wsX6_scoreOf := goodIn_r _ [10, 5, 6, 3, 7] (by decide +kernel) (by decide +kernel)
set_option maxRecDepth 20000 in
theorem gX6_sums_X6_scoreOf : GoodIn wsX6_sums (va_wsS RX6 89 yX6_scoreOf wsX6_scoreOf) := goodIn_app (goodIn_of _ (by decide +kernel)) ggX6_sums_X6_scoreOf
theorem dX6_sums_0 : decode cX6_sums 0 = .ok (.iconst 0, 1) := by decide +kernel
theorem dX6_sums_1 : decode cX6_sums 1 = .ok (.istore_n 3, 1) := by decide +kernel
theorem dX6_sums_2 : decode cX6_sums 2 = .ok (.iconst 0, 1) := by decide +kernel
theorem dX6_sums_3 : decode cX6_sums 3 = .ok (.istore 4, 2) := by decide +kernel
theorem dX6_sums_5 : decode cX6_sums 5 = .ok (.iload 4, 2) := by decide +kernel
theorem dX6_sums_7 : decode cX6_sums 7 = .ok (.aload_n 0, 1) := by decide +kernel
theorem dX6_sums_8 : decode cX6_sums 8 = .ok (.iconst 5, 1) := by decide +kernel
theorem dX6_sums_9 : decode cX6_sums 9 = .ok (.iaload, 1) := by decide +kernel
theorem dX6_sums_10 : decode cX6_sums 10 = .ok (.if_icmp .ge 156, 3) := by decide +kernel
theorem dX6_sums_13 : decode cX6_sums 13 = .ok (.aload_n 0, 1) := by decide +kernel
theorem dX6_sums_14 : decode cX6_sums 14 = .ok (.iload 4, 2) := by decide +kernel
theorem dX6_sums_16 : decode cX6_sums 16 = .ok (.iload_n 1, 1) := by decide +kernel
theorem dX6_sums_17 : decode cX6_sums 17 = .ok (.invokestatic 86, 3) := by decide +kernel
theorem dX6_sums_20 : decode cX6_sums 20 = .ok (.istore 5, 2) := by decide +kernel
theorem dX6_sums_22 : decode cX6_sums 22 = .ok (.aload_n 0, 1) := by decide +kernel
theorem dX6_sums_23 : decode cX6_sums 23 = .ok (.iload 4, 2) := by decide +kernel
theorem dX6_sums_25 : decode cX6_sums 25 = .ok (.bipush 6, 2) := by decide +kernel
theorem dX6_sums_27 : decode cX6_sums 27 = .ok (.invokestatic 55, 3) := by decide +kernel
theorem dX6_sums_30 : decode cX6_sums 30 = .ok (.istore 6, 2) := by decide +kernel
theorem dX6_sums_32 : decode cX6_sums 32 = .ok (.iload 5, 2) := by decide +kernel
theorem dX6_sums_34 : decode cX6_sums 34 = .ok (.iconst (-1), 1) := by decide +kernel
theorem dX6_sums_35 : decode cX6_sums 35 = .ok (.if_icmp .eq 25, 3) := by decide +kernel
theorem dX6_sums_38 : decode cX6_sums 38 = .ok (.iload 6, 2) := by decide +kernel
theorem dX6_sums_40 : decode cX6_sums 40 = .ok (.ifCond .ne 20, 3) := by decide +kernel
theorem dX6_sums_43 : decode cX6_sums 43 = .ok (.iload_n 3, 1) := by decide +kernel
theorem dX6_sums_44 : decode cX6_sums 44 = .ok (.iload_n 2, 1) := by decide +kernel
theorem dX6_sums_45 : decode cX6_sums 45 = .ok (.bipush 8, 2) := by decide +kernel
theorem dX6_sums_47 : decode cX6_sums 47 = .ok (.if_icmp .ne 7, 3) := by decide +kernel
theorem dX6_sums_50 : decode cX6_sums 50 = .ok (.iconst 1, 1) := by decide +kernel
theorem dX6_sums_51 : decode cX6_sums 51 = .ok (.goto 4, 3) := by decide +kernel
theorem dX6_sums_54 : decode cX6_sums 54 = .ok (.iconst 0, 1) := by decide +kernel
theorem dX6_sums_55 : decode cX6_sums 55 = .ok (.iadd, 1) := by decide +kernel
theorem dX6_sums_56 : decode cX6_sums 56 = .ok (.istore_n 3, 1) := by decide +kernel
theorem dX6_sums_57 : decode cX6_sums 57 = .ok (.goto 103, 3) := by decide +kernel
theorem dX6_sums_60 : decode cX6_sums 60 = .ok (.iload 5, 2) := by decide +kernel
theorem dX6_sums_62 : decode cX6_sums 62 = .ok (.iconst (-1), 1) := by decide +kernel
theorem dX6_sums_63 : decode cX6_sums 63 = .ok (.if_icmp .eq 97, 3) := by decide +kernel
theorem dX6_sums_66 : decode cX6_sums 66 = .ok (.aload_n 0, 1) := by decide +kernel
theorem dX6_sums_67 : decode cX6_sums 67 = .ok (.iload 4, 2) := by decide +kernel
theorem dX6_sums_69 : decode cX6_sums 69 = .ok (.iload 5, 2) := by decide +kernel
theorem dX6_sums_71 : decode cX6_sums 71 = .ok (.invokestatic 89, 3) := by decide +kernel
theorem dX6_sums_74 : decode cX6_sums 74 = .ok (.istore 7, 2) := by decide +kernel
theorem dX6_sums_76 : decode cX6_sums 76 = .ok (.aload_n 0, 1) := by decide +kernel
theorem dX6_sums_77 : decode cX6_sums 77 = .ok (.iload 4, 2) := by decide +kernel
theorem dX6_sums_79 : decode cX6_sums 79 = .ok (.iconst 1, 1) := by decide +kernel
theorem dX6_sums_80 : decode cX6_sums 80 = .ok (.iload 5, 2) := by decide +kernel
theorem dX6_sums_82 : decode cX6_sums 82 = .ok (.isub, 1) := by decide +kernel
theorem dX6_sums_83 : decode cX6_sums 83 = .ok (.invokestatic 89, 3) := by decide +kernel
theorem dX6_sums_86 : decode cX6_sums 86 = .ok (.istore 8, 2) := by decide +kernel
theorem dX6_sums_88 : decode cX6_sums 88 = .ok (.iload_n 3, 1) := by decide +kernel
theorem dX6_sums_89 : decode cX6_sums 89 = .ok (.iload_n 2, 1) := by decide +kernel
theorem dX6_sums_90 : decode cX6_sums 90 = .ok (.iconst 4, 1) := by decide +kernel
theorem dX6_sums_91 : decode cX6_sums 91 = .ok (.if_icmp .ne 8, 3) := by decide +kernel
theorem dX6_sums_94 : decode cX6_sums 94 = .ok (.iload 7, 2) := by decide +kernel
theorem dX6_sums_96 : decode cX6_sums 96 = .ok (.goto 62, 3) := by decide +kernel
theorem dX6_sums_99 : decode cX6_sums 99 = .ok (.iload_n 2, 1) := by decide +kernel
theorem dX6_sums_100 : decode cX6_sums 100 = .ok (.iconst 5, 1) := by decide +kernel
theorem dX6_sums_101 : decode cX6_sums 101 = .ok (.if_icmp .ne 8, 3) := by decide +kernel
theorem dX6_sums_104 : decode cX6_sums 104 = .ok (.iload 8, 2) := by decide +kernel
theorem dX6_sums_106 : decode cX6_sums 106 = .ok (.goto 52, 3) := by decide +kernel
theorem dX6_sums_109 : decode cX6_sums 109 = .ok (.iload_n 2, 1) := by decide +kernel
theorem dX6_sums_110 : decode cX6_sums 110 = .ok (.iconst 1, 1) := by decide +kernel
theorem dX6_sums_111 : decode cX6_sums 111 = .ok (.if_icmp .eq 42, 3) := by decide +kernel
theorem dX6_sums_114 : decode cX6_sums 114 = .ok (.iload_n 2, 1) := by decide +kernel
theorem dX6_sums_115 : decode cX6_sums 115 = .ok (.iconst 2, 1) := by decide +kernel
theorem dX6_sums_116 : decode cX6_sums 116 = .ok (.if_icmp .ne 10, 3) := by decide +kernel
theorem dX6_sums_119 : decode cX6_sums 119 = .ok (.iload 7, 2) := by decide +kernel
theorem dX6_sums_121 : decode cX6_sums 121 = .ok (.iload 8, 2) := by decide +kernel
theorem dX6_sums_123 : decode cX6_sums 123 = .ok (.if_icmp .gt 30, 3) := by decide +kernel
theorem dX6_sums_126 : decode cX6_sums 126 = .ok (.iload_n 2, 1) := by decide +kernel
theorem dX6_sums_127 : decode cX6_sums 127 = .ok (.iconst 3, 1) := by decide +kernel
theorem dX6_sums_128 : decode cX6_sums 128 = .ok (.if_icmp .ne 10, 3) := by decide +kernel
theorem dX6_sums_131 : decode cX6_sums 131 = .ok (.iload 7, 2) := by decide +kernel
theorem dX6_sums_133 : decode cX6_sums 133 = .ok (.iload 8, 2) := by decide +kernel
theorem dX6_sums_135 : decode cX6_sums 135 = .ok (.if_icmp .eq 18, 3) := by decide +kernel
theorem dX6_sums_138 : decode cX6_sums 138 = .ok (.iload_n 2, 1) := by decide +kernel
theorem dX6_sums_139 : decode cX6_sums 139 = .ok (.bipush 6, 2) := by decide +kernel
theorem dX6_sums_141 : decode cX6_sums 141 = .ok (.if_icmp .ne 16, 3) := by decide +kernel
theorem dX6_sums_144 : decode cX6_sums 144 = .ok (.iload 6, 2) := by decide +kernel
theorem dX6_sums_146 : decode cX6_sums 146 = .ok (.iconst 2, 1) := by decide +kernel
theorem dX6_sums_147 : decode cX6_sums 147 = .ok (.iload 5, 2) := by decide +kernel
theorem dX6_sums_149 : decode cX6_sums 149 = .ok (.iadd, 1) := by decide +kernel
theorem dX6_sums_150 : decode cX6_sums 150 = .ok (.if_icmp .ne 7, 3) := by decide +kernel
theorem dX6_sums_153 : decode cX6_sums 153 = .ok (.iconst 1, 1) := by decide +kernel
theorem dX6_sums_154 : decode cX6_sums 154 = .ok (.goto 4, 3) := by decide +kernel
theorem dX6_sums_157 : decode cX6_sums 157 = .ok (.iconst 0, 1) := by decide +kernel
theorem dX6_sums_158 : decode cX6_sums 158 = .ok (.iadd, 1) := by decide +kernel
theorem dX6_sums_159 : decode cX6_sums 159 = .ok (.istore_n 3, 1) := by decide +kernel
theorem dX6_sums_160 : decode cX6_sums 160 = .ok (.iinc 4 1, 3) := by decide +kernel
theorem dX6_sums_163 : decode cX6_sums 163 = .ok (.goto (-158), 3) := by decide +kernel
theorem dX6_sums_166 : decode cX6_sums 166 = .ok (.iload_n 3, 1) := by decide +kernel
theorem dX6_sums_167 : decode cX6_sums 167 = .ok (.ireturn, 1) := by decide +kernel
set_option maxRecDepth 20000 in
theorem ggX6_points_X6_sums : GoodIn wsX6_points wsX6_sums := goodIn_r _ [4, 5, 6, 3, 7, 8, 9, 10, 11, 12, 13] (by decide +kernel) (by decide +kernel)
set_option maxRecDepth 20000 in
theorem gX6_points_X6_sums : GoodIn wsX6_points (va_wsS RX6 92 yX6_sums wsX6_sums) := goodIn_app (goodIn_of _ (by decide +kernel)) ggX6_points_X6_sums
theorem dX6_points_0 : decode cX6_points 0 = .ok (.aload_n 0, 1) := by decide +kernel
theorem dX6_points_1 : decode cX6_points 1 = .ok (.iconst 0, 1) := by decide +kernel
theorem dX6_points_2 : decode cX6_points 2 = .ok (.iaload, 1) := by decide +kernel
theorem dX6_points_3 : decode cX6_points 3 = .ok (.aload_n 0, 1) := by decide +kernel
theorem dX6_points_4 : decode cX6_points 4 = .ok (.iload_n 1, 1) := by decide +kernel
theorem dX6_points_5 : decode cX6_points 5 = .ok (.iconst 2, 1) := by decide +kernel
theorem dX6_points_6 : decode cX6_points 6 = .ok (.invokestatic 92, 3) := by decide +kernel
theorem dX6_points_9 : decode cX6_points 9 = .ok (.imul, 1) := by decide +kernel
theorem dX6_points_10 : decode cX6_points 10 = .ok (.aload_n 0, 1) := by decide +kernel
theorem dX6_points_11 : decode cX6_points 11 = .ok (.iconst 1, 1) := by decide +kernel
theorem dX6_points_12 : decode cX6_points 12 = .ok (.iaload, 1) := by decide +kernel
theorem dX6_points_13 : decode cX6_points 13 = .ok (.aload_n 0, 1) := by decide +kernel
theorem dX6_points_14 : decode cX6_points 14 = .ok (.iload_n 1, 1) := by decide +kernel
theorem dX6_points_15 : decode cX6_points 15 = .ok (.iconst 3, 1) := by decide +kernel
theorem dX6_points_16 : decode cX6_points 16 = .ok (.invokestatic 92, 3) := by decide +kernel
theorem dX6_points_19 : decode cX6_points 19 = .ok (.imul, 1) := by decide +kernel
theorem dX6_points_20 : decode cX6_points 20 = .ok (.iadd, 1) := by decide +kernel
theorem dX6_points_21 : decode cX6_points 21 = .ok (.aload_n 0, 1) := by decide +kernel
theorem dX6_points_22 : decode cX6_points 22 = .ok (.iload_n 1, 1) := by decide +kernel
theorem dX6_points_23 : decode cX6_points 23 = .ok (.bipush 6, 2) := by decide +kernel
theorem dX6_points_25 : decode cX6_points 25 = .ok (.invokestatic 92, 3) := by decide +kernel
theorem dX6_points_28 : decode cX6_points 28 = .ok (.isub, 1) := by decide +kernel
theorem dX6_points_29 : decode cX6_points 29 = .ok (.ireturn, 1) := by decide +kernel
set_option maxRecDepth 20000 in
theorem ggX6_isAhead_X6_points : GoodIn wsX6_isAhead wsX6_points := goodIn_r _ [4, 5, 6, 3, 7, 8, 9, 10, 11, 12, 13, 14, 15, 16] (by decide +kernel) (by decide +kernel)
set_option maxRecDepth 20000 in
theorem gX6_isAhead_X6_points : GoodIn wsX6_isAhead (va_wsS RX6 95 yX6_points wsX6_points) := goodIn_app (goodIn_of _ (by decide +kernel)) ggX6_isAhead_X6_points
set_option maxRecDepth 20000 in
theorem ggX6_isAhead_X6_sums : GoodIn wsX6_isAhead wsX6_sums := goodIn_r _ [7, 8, 9, 3, 10, 11, 12, 13, 14, 15, 16] (by decide +kernel) (by decide +kernel)
set_option maxRecDepth 20000 in
theorem gX6_isAhead_X6_sums : GoodIn wsX6_isAhead (va_wsS RX6 92 yX6_sums wsX6_sums) := goodIn_app (goodIn_of _ (by decide +kernel)) ggX6_isAhead_X6_sums
theorem dX6_isAhead_0 : decode cX6_isAhead 0 = .ok (.aload_n 0, 1) := by decide +kernel
theorem dX6_isAhead_1 : decode cX6_isAhead 1 = .ok (.iload_n 1, 1) := by decide +kernel
theorem dX6_isAhead_2 : decode cX6_isAhead 2 = .ok (.invokestatic 95, 3) := by decide +kernel
theorem dX6_isAhead_5 : decode cX6_isAhead 5 = .ok (.aload_n 0, 1) := by decide +kernel
theorem dX6_isAhead_6 : decode cX6_isAhead 6 = .ok (.iload_n 2, 1) := by decide +kernel
theorem dX6_isAhead_7 : decode cX6_isAhead 7 = .ok (.invokestatic 95, 3) := by decide +kernel
theorem dX6_isAhead_10 : decode cX6_isAhead 10 = .ok (.isub, 1) := by decide +kernel
theorem dX6_isAhead_11 : decode cX6_isAhead 11 = .ok (.istore_n 3, 1) := by decide +kernel
theorem dX6_isAhead_12 : decode cX6_isAhead 12 = .ok (.aload_n 0, 1) := by decide +kernel
theorem dX6_isAhead_13 : decode cX6_isAhead 13 = .ok (.iload_n 1, 1) := by decide +kernel
theorem dX6_isAhead_14 : decode cX6_isAhead 14 = .ok (.iconst 4, 1) := by decide +kernel
theorem dX6_isAhead_15 : decode cX6_isAhead 15 = .ok (.invokestatic 92, 3) := by decide +kernel
theorem dX6_isAhead_18 : decode cX6_isAhead 18 = .ok (.aload_n 0, 1) := by decide +kernel
theorem dX6_isAhead_19 : decode cX6_isAhead 19 = .ok (.iload_n 1, 1) := by decide +kernel
theorem dX6_isAhead_20 : decode cX6_isAhead 20 = .ok (.iconst 5, 1) := by decide +kernel
theorem dX6_isAhead_21 : decode cX6_isAhead 21 = .ok (.invokestatic 92, 3) := by decide +kernel
theorem dX6_isAhead_24 : decode cX6_isAhead 24 = .ok (.isub, 1) := by decide +kernel
theorem dX6_isAhead_25 : decode cX6_isAhead 25 = .ok (.aload_n 0, 1) := by decide +kernel
theorem dX6_isAhead_26 : decode cX6_isAhead 26 = .ok (.iload_n 2, 1) := by decide +kernel
theorem dX6_isAhead_27 : decode cX6_isAhead 27 = .ok (.iconst 4, 1) := by decide +kernel
theorem dX6_isAhead_28 : decode cX6_isAhead 28 = .ok (.invokestatic 92, 3) := by decide +kernel
theorem dX6_isAhead_31 : decode cX6_isAhead 31 = .ok (.isub, 1) := by decide +kernel
theorem dX6_isAhead_32 : decode cX6_isAhead 32 = .ok (.aload_n 0, 1) := by decide +kernel
theorem dX6_isAhead_33 : decode cX6_isAhead 33 = .ok (.iload_n 2, 1) := by decide +kernel
theorem dX6_isAhead_34 : decode cX6_isAhead 34 = .ok (.iconst 5, 1) := by decide +kernel
theorem dX6_isAhead_35 : decode cX6_isAhead 35 = .ok (.invokestatic 92, 3) := by decide +kernel
theorem dX6_isAhead_38 : decode cX6_isAhead 38 = .ok (.iadd, 1) := by decide +kernel
theorem dX6_isAhead_39 : decode cX6_isAhead 39 = .ok (.istore 4, 2) := by decide +kernel
theorem dX6_isAhead_41 : decode cX6_isAhead 41 = .ok (.aload_n 0, 1) := by decide +kernel
theorem dX6_isAhead_42 : decode cX6_isAhead 42 = .ok (.iload_n 1, 1) := by decide +kernel
theorem dX6_isAhead_43 : decode cX6_isAhead 43 = .ok (.iconst 4, 1) := by decide +kernel
theorem dX6_isAhead_44 : decode cX6_isAhead 44 = .ok (.invokestatic 92, 3) := by decide +kernel
theorem dX6_isAhead_47 : decode cX6_isAhead 47 = .ok (.aload_n 0, 1) := by decide +kernel
theorem dX6_isAhead_48 : decode cX6_isAhead 48 = .ok (.iload_n 2, 1) := by decide +kernel
theorem dX6_isAhead_49 : decode cX6_isAhead 49 = .ok (.iconst 4, 1) := by decide +kernel
theorem dX6_isAhead_50 : decode cX6_isAhead 50 = .ok (.invokestatic 92, 3) := by decide +kernel
theorem dX6_isAhead_53 : decode cX6_isAhead 53 = .ok (.isub, 1) := by decide +kernel
theorem dX6_isAhead_54 : decode cX6_isAhead 54 = .ok (.istore 5, 2) := by decide +kernel
theorem dX6_isAhead_56 : decode cX6_isAhead 56 = .ok (.iload_n 3, 1) := by decide +kernel
theorem dX6_isAhead_57 : decode cX6_isAhead 57 = .ok (.ifCond .eq 15, 3) := by decide +kernel
theorem dX6_isAhead_60 : decode cX6_isAhead 60 = .ok (.iload_n 3, 1) := by decide +kernel
theorem dX6_isAhead_61 : decode cX6_isAhead 61 = .ok (.ifCond .le 7, 3) := by decide +kernel
theorem dX6_isAhead_64 : decode cX6_isAhead 64 = .ok (.iconst 1, 1) := by decide +kernel
theorem dX6_isAhead_65 : decode cX6_isAhead 65 = .ok (.goto 53, 3) := by decide +kernel
theorem dX6_isAhead_68 : decode cX6_isAhead 68 = .ok (.iconst 0, 1) := by decide +kernel
theorem dX6_isAhead_69 : decode cX6_isAhead 69 = .ok (.goto 49, 3) := by decide +kernel
theorem dX6_isAhead_72 : decode cX6_isAhead 72 = .ok (.iload 4, 2) := by decide +kernel
theorem dX6_isAhead_74 : decode cX6_isAhead 74 = .ok (.ifCond .eq 16, 3) := by decide +kernel
theorem dX6_isAhead_77 : decode cX6_isAhead 77 = .ok (.iload 4, 2) := by decide +kernel
theorem dX6_isAhead_79 : decode cX6_isAhead 79 = .ok (.ifCond .le 7, 3) := by decide +kernel
theorem dX6_isAhead_82 : decode cX6_isAhead 82 = .ok (.iconst 1, 1) := by decide +kernel
theorem dX6_isAhead_83 : decode cX6_isAhead 83 = .ok (.goto 35, 3) := by decide +kernel
theorem dX6_isAhead_86 : decode cX6_isAhead 86 = .ok (.iconst 0, 1) := by decide +kernel
theorem dX6_isAhead_87 : decode cX6_isAhead 87 = .ok (.goto 31, 3) := by decide +kernel
theorem dX6_isAhead_90 : decode cX6_isAhead 90 = .ok (.iload 5, 2) := by decide +kernel
theorem dX6_isAhead_92 : decode cX6_isAhead 92 = .ok (.ifCond .eq 16, 3) := by decide +kernel
theorem dX6_isAhead_95 : decode cX6_isAhead 95 = .ok (.iload 5, 2) := by decide +kernel
theorem dX6_isAhead_97 : decode cX6_isAhead 97 = .ok (.ifCond .le 7, 3) := by decide +kernel
theorem dX6_isAhead_100 : decode cX6_isAhead 100 = .ok (.iconst 1, 1) := by decide +kernel
theorem dX6_isAhead_101 : decode cX6_isAhead 101 = .ok (.goto 17, 3) := by decide +kernel
theorem dX6_isAhead_104 : decode cX6_isAhead 104 = .ok (.iconst 0, 1) := by decide +kernel
theorem dX6_isAhead_105 : decode cX6_isAhead 105 = .ok (.goto 13, 3) := by decide +kernel
theorem dX6_isAhead_108 : decode cX6_isAhead 108 = .ok (.iload_n 1, 1) := by decide +kernel
theorem dX6_isAhead_109 : decode cX6_isAhead 109 = .ok (.iload_n 2, 1) := by decide +kernel
theorem dX6_isAhead_110 : decode cX6_isAhead 110 = .ok (.if_icmp .ge 7, 3) := by decide +kernel
theorem dX6_isAhead_113 : decode cX6_isAhead 113 = .ok (.iconst 1, 1) := by decide +kernel
theorem dX6_isAhead_114 : decode cX6_isAhead 114 = .ok (.goto 4, 3) := by decide +kernel
theorem dX6_isAhead_117 : decode cX6_isAhead 117 = .ok (.iconst 0, 1) := by decide +kernel
theorem dX6_isAhead_118 : decode cX6_isAhead 118 = .ok (.ireturn, 1) := by decide +kernel
set_option maxRecDepth 20000 in
theorem ggX6_placeOf_X6_isAhead : GoodIn wsX6_placeOf wsX6_isAhead := goodIn_r _ [4, 5, 6, 3, 7, 8, 9, 10, 11, 12, 13, 14, 15, 16, 17, 18, 19] (by decide +kernel) (by decide +kernel)
set_option maxRecDepth 20000 in
theorem gX6_placeOf_X6_isAhead : GoodIn wsX6_placeOf (va_wsS RX6 99 yX6_isAhead wsX6_isAhead) := goodIn_app (goodIn_of _ (by decide +kernel)) ggX6_placeOf_X6_isAhead
theorem dX6_placeOf_0 : decode cX6_placeOf 0 = .ok (.iconst 0, 1) := by decide +kernel
theorem dX6_placeOf_1 : decode cX6_placeOf 1 = .ok (.istore_n 2, 1) := by decide +kernel
theorem dX6_placeOf_2 : decode cX6_placeOf 2 = .ok (.iconst 0, 1) := by decide +kernel
theorem dX6_placeOf_3 : decode cX6_placeOf 3 = .ok (.istore_n 3, 1) := by decide +kernel
theorem dX6_placeOf_4 : decode cX6_placeOf 4 = .ok (.iload_n 3, 1) := by decide +kernel
theorem dX6_placeOf_5 : decode cX6_placeOf 5 = .ok (.aload_n 0, 1) := by decide +kernel
theorem dX6_placeOf_6 : decode cX6_placeOf 6 = .ok (.iconst 4, 1) := by decide +kernel
theorem dX6_placeOf_7 : decode cX6_placeOf 7 = .ok (.iaload, 1) := by decide +kernel
theorem dX6_placeOf_8 : decode cX6_placeOf 8 = .ok (.if_icmp .ge 31, 3) := by decide +kernel
theorem dX6_placeOf_11 : decode cX6_placeOf 11 = .ok (.iload_n 2, 1) := by decide +kernel
theorem dX6_placeOf_12 : decode cX6_placeOf 12 = .ok (.iload_n 3, 1) := by decide +kernel
theorem dX6_placeOf_13 : decode cX6_placeOf 13 = .ok (.iload_n 1, 1) := by decide +kernel
theorem dX6_placeOf_14 : decode cX6_placeOf 14 = .ok (.if_icmp .eq 16, 3) := by decide +kernel
theorem dX6_placeOf_17 : decode cX6_placeOf 17 = .ok (.aload_n 0, 1) := by decide +kernel
theorem dX6_placeOf_18 : decode cX6_placeOf 18 = .ok (.iload_n 3, 1) := by decide +kernel
theorem dX6_placeOf_19 : decode cX6_placeOf 19 = .ok (.iload_n 1, 1) := by decide +kernel
theorem dX6_placeOf_20 : decode cX6_placeOf 20 = .ok (.invokestatic 99, 3) := by decide +kernel
theorem dX6_placeOf_23 : decode cX6_placeOf 23 = .ok (.ifCond .eq 7, 3) := by decide +kernel
theorem dX6_placeOf_26 : decode cX6_placeOf 26 = .ok (.iconst 1, 1) := by decide +kernel
theorem dX6_placeOf_27 : decode cX6_placeOf 27 = .ok (.goto 4, 3) := by decide +kernel
theorem dX6_placeOf_30 : decode cX6_placeOf 30 = .ok (.iconst 0, 1) := by decide +kernel
theorem dX6_placeOf_31 : decode cX6_placeOf 31 = .ok (.iadd, 1) := by decide +kernel
theorem dX6_placeOf_32 : decode cX6_placeOf 32 = .ok (.istore_n 2, 1) := by decide +kernel
theorem dX6_placeOf_33 : decode cX6_placeOf 33 = .ok (.iinc 3 1, 3) := by decide +kernel
theorem dX6_placeOf_36 : decode cX6_placeOf 36 = .ok (.goto (-32), 3) := by decide +kernel
theorem dX6_placeOf_39 : decode cX6_placeOf 39 = .ok (.iload_n 2, 1) := by decide +kernel
theorem dX6_placeOf_40 : decode cX6_placeOf 40 = .ok (.ireturn, 1) := by decide +kernel
set_option maxRecDepth 20000 in
theorem ggX6_teamAt_X6_placeOf : GoodIn wsX6_teamAt wsX6_placeOf := goodIn_r _ [4, 5, 6, 3, 7, 8, 9, 10, 11, 12, 13, 14, 15, 16, 17, 18, 19, 20, 21, 22] (by decide +kernel) (by decide +kernel)
set_option maxRecDepth 20000 in
theorem gX6_teamAt_X6_placeOf : GoodIn wsX6_teamAt (va_wsS RX6 102 yX6_placeOf wsX6_placeOf) := goodIn_app (goodIn_of _ (by decide +kernel)) ggX6_teamAt_X6_placeOf
theorem dX6_teamAt_0 : decode cX6_teamAt 0 = .ok (.iconst (-1), 1) := by decide +kernel
theorem dX6_teamAt_1 : decode cX6_teamAt 1 = .ok (.istore_n 2, 1) := by decide +kernel
theorem dX6_teamAt_2 : decode cX6_teamAt 2 = .ok (.iconst 0, 1) := by decide +kernel
theorem dX6_teamAt_3 : decode cX6_teamAt 3 = .ok (.istore_n 3, 1) := by decide +kernel
theorem dX6_teamAt_4 : decode cX6_teamAt 4 = .ok (.iload_n 3, 1) := by decide +kernel
theorem dX6_teamAt_5 : decode cX6_teamAt 5 = .ok (.aload_n 0, 1) := by decide +kernel
theorem dX6_teamAt_6 : decode cX6_teamAt 6 = .ok (.iconst 4, 1) := by decide +kernel
theorem dX6_teamAt_7 : decode cX6_teamAt 7 = .ok (.iaload, 1) := by decide +kernel
theorem dX6_teamAt_8 : decode cX6_teamAt 8 = .ok (.if_icmp .ge 24, 3) := by decide +kernel
theorem dX6_teamAt_11 : decode cX6_teamAt 11 = .ok (.aload_n 0, 1) := by decide +kernel
theorem dX6_teamAt_12 : decode cX6_teamAt 12 = .ok (.iload_n 3, 1) := by decide +kernel
theorem dX6_teamAt_13 : decode cX6_teamAt 13 = .ok (.invokestatic 102, 3) := by decide +kernel
theorem dX6_teamAt_16 : decode cX6_teamAt 16 = .ok (.iload_n 1, 1) := by decide +kernel
theorem dX6_teamAt_17 : decode cX6_teamAt 17 = .ok (.if_icmp .ne 7, 3) := by decide +kernel
theorem dX6_teamAt_20 : decode cX6_teamAt 20 = .ok (.iload_n 3, 1) := by decide +kernel
theorem dX6_teamAt_21 : decode cX6_teamAt 21 = .ok (.goto 4, 3) := by decide +kernel
theorem dX6_teamAt_24 : decode cX6_teamAt 24 = .ok (.iload_n 2, 1) := by decide +kernel
theorem dX6_teamAt_25 : decode cX6_teamAt 25 = .ok (.istore_n 2, 1) := by decide +kernel
theorem dX6_teamAt_26 : decode cX6_teamAt 26 = .ok (.iinc 3 1, 3) := by decide +kernel
theorem dX6_teamAt_29 : decode cX6_teamAt 29 = .ok (.goto (-25), 3) := by decide +kernel
theorem dX6_teamAt_32 : decode cX6_teamAt 32 = .ok (.iload_n 2, 1) := by decide +kernel
theorem dX6_teamAt_33 : decode cX6_teamAt 33 = .ok (.ireturn, 1) := by decide +kernel
theorem dX6_gives_0 : decode cX6_gives 0 = .ok (.bipush 18, 2) := by decide +kernel
theorem dX6_gives_2 : decode cX6_gives 2 = .ok (.bipush 9, 2) := by decide +kernel
theorem dX6_gives_4 : decode cX6_gives 4 = .ok (.iload_n 1, 1) := by decide +kernel
theorem dX6_gives_5 : decode cX6_gives 5 = .ok (.imul, 1) := by decide +kernel
theorem dX6_gives_6 : decode cX6_gives 6 = .ok (.iadd, 1) := by decide +kernel
theorem dX6_gives_7 : decode cX6_gives 7 = .ok (.istore 5, 2) := by decide +kernel
theorem dX6_gives_9 : decode cX6_gives 9 = .ok (.aload_n 0, 1) := by decide +kernel
theorem dX6_gives_10 : decode cX6_gives 10 = .ok (.iload 5, 2) := by decide +kernel
theorem dX6_gives_12 : decode cX6_gives 12 = .ok (.bipush 6, 2) := by decide +kernel
theorem dX6_gives_14 : decode cX6_gives 14 = .ok (.iadd, 1) := by decide +kernel
theorem dX6_gives_15 : decode cX6_gives 15 = .ok (.iload_n 2, 1) := by decide +kernel
theorem dX6_gives_16 : decode cX6_gives 16 = .ok (.iastore, 1) := by decide +kernel
theorem dX6_gives_17 : decode cX6_gives 17 = .ok (.aload_n 0, 1) := by decide +kernel
theorem dX6_gives_18 : decode cX6_gives 18 = .ok (.iload 5, 2) := by decide +kernel
theorem dX6_gives_20 : decode cX6_gives 20 = .ok (.bipush 7, 2) := by decide +kernel
theorem dX6_gives_22 : decode cX6_gives 22 = .ok (.iadd, 1) := by decide +kernel
theorem dX6_gives_23 : decode cX6_gives 23 = .ok (.iload_n 3, 1) := by decide +kernel
theorem dX6_gives_24 : decode cX6_gives 24 = .ok (.iastore, 1) := by decide +kernel
theorem dX6_gives_25 : decode cX6_gives 25 = .ok (.aload_n 0, 1) := by decide +kernel
theorem dX6_gives_26 : decode cX6_gives 26 = .ok (.iload 5, 2) := by decide +kernel
theorem dX6_gives_28 : decode cX6_gives 28 = .ok (.bipush 7, 2) := by decide +kernel
theorem dX6_gives_30 : decode cX6_gives 30 = .ok (.iadd, 1) := by decide +kernel
theorem dX6_gives_31 : decode cX6_gives 31 = .ok (.iconst 1, 1) := by decide +kernel
theorem dX6_gives_32 : decode cX6_gives 32 = .ok (.iadd, 1) := by decide +kernel
theorem dX6_gives_33 : decode cX6_gives 33 = .ok (.iload 4, 2) := by decide +kernel
theorem dX6_gives_35 : decode cX6_gives 35 = .ok (.iastore, 1) := by decide +kernel
theorem dX6_gives_36 : decode cX6_gives 36 = .ok (.return_, 1) := by decide +kernel
set_option maxRecDepth 20000 in
theorem ggX6_score_X6_isMatch : GoodIn wsX6_score wsX6_isMatch := goodIn_r _ [7, 2, 8, 9, 6, 10, 42, 43, 44, 45, 46, 47, 48, 49, 50, 51, 52, 53] (by decide +kernel) (by decide +kernel)
set_option maxRecDepth 20000 in
theorem gX6_score_X6_isMatch : GoodIn wsX6_score (wsV RX6 105 RX6 yX6_isMatch wsX6_isMatch) := goodIn_app (goodIn_of _ (by decide +kernel)) ggX6_score_X6_isMatch
set_option maxRecDepth 20000 in
theorem ggX6_score_X6_fails : GoodIn wsX6_score wsX6_fails := goodIn_r _ [14, 1, 42, 43, 44, 45, 46, 47, 48, 49, 50, 51, 52, 53] (by decide +kernel) (by decide +kernel)
set_option maxRecDepth 20000 in
theorem gX6_score_X6_fails : GoodIn wsX6_score (wsV RX6 44 RX6 yX6_fails wsX6_fails) := goodIn_app (goodIn_of _ (by decide +kernel)) ggX6_score_X6_fails
set_option maxRecDepth 20000 in
theorem ggX6_score_X6_in : GoodIn wsX6_score wsX6_in := goodIn_r _ [10] (by decide +kernel) (by decide +kernel)
set_option maxRecDepth 20000 in
theorem gX6_score_X6_in : GoodIn wsX6_score (va_wsS RX6 33 yX6_in wsX6_in) := goodIn_app (goodIn_of _ (by decide +kernel)) ggX6_score_X6_in
set_option maxRecDepth 20000 in
theorem ggX6_score_X6_of : GoodIn wsX6_score wsX6_of := goodIn_r _ [17] (by decide +kernel) (by decide +kernel)
set_option maxRecDepth 20000 in
theorem gX6_score_X6_of : GoodIn wsX6_score (va_wsS RX6 55 yX6_of wsX6_of) := goodIn_app (goodIn_of _ (by decide +kernel)) ggX6_score_X6_of
set_option maxRecDepth 20000 in
theorem ggX6_score_X6_saves : GoodIn wsX6_score wsX6_saves := goodIn_r _ [21, 22, 23, 2, 24, 25, 6, 26, 42, 43, 44, 45, 46, 47, 48, 49, 50, 51, 52, 53] (by decide +kernel) (by decide +kernel)
set_option maxRecDepth 20000 in
theorem gX6_score_X6_saves : GoodIn wsX6_score (wsV RX6 52 RX6 yX6_saves wsX6_saves) := goodIn_app (goodIn_of _ (by decide +kernel)) ggX6_score_X6_saves
set_option maxRecDepth 20000 in
theorem ggX6_score_X6_gives : GoodIn wsX6_score wsX6_gives := goodIn_r _ [29] (by decide +kernel) (by decide +kernel)
set_option maxRecDepth 20000 in
theorem gX6_score_X6_gives : GoodIn wsX6_score (va_wsS RX6 109 yX6_gives wsX6_gives) := goodIn_app (goodIn_of _ (by decide +kernel)) ggX6_score_X6_gives
set_option maxRecDepth 20000 in
theorem ggX6_score_X6_points : GoodIn wsX6_score wsX6_points := goodIn_r _ [32, 33, 34, 6, 35, 36, 37, 38, 15, 16, 17, 39, 40, 41] (by decide +kernel) (by decide +kernel)
set_option maxRecDepth 20000 in
theorem gX6_score_X6_points : GoodIn wsX6_score (va_wsS RX6 95 yX6_points wsX6_points) := goodIn_app (goodIn_of _ (by decide +kernel)) ggX6_score_X6_points
theorem dX6_score_0 : decode cX6_score 0 = .ok (.aload_n 0, 1) := by decide +kernel
theorem dX6_score_1 : decode cX6_score 1 = .ok (.iconst 0, 1) := by decide +kernel
theorem dX6_score_2 : decode cX6_score 2 = .ok (.putfield 29, 3) := by decide +kernel
theorem dX6_score_5 : decode cX6_score 5 = .ok (.aload_n 0, 1) := by decide +kernel
theorem dX6_score_6 : decode cX6_score 6 = .ok (.iload_n 1, 1) := by decide +kernel
theorem dX6_score_7 : decode cX6_score 7 = .ok (.invokevirtual 105, 3) := by decide +kernel
theorem dX6_score_10 : decode cX6_score 10 = .ok (.ifCond .ne 9, 3) := by decide +kernel
theorem dX6_score_13 : decode cX6_score 13 = .ok (.aload_n 0, 1) := by decide +kernel
theorem dX6_score_14 : decode cX6_score 14 = .ok (.iconst 1, 1) := by decide +kernel
theorem dX6_score_15 : decode cX6_score 15 = .ok (.invokevirtual 44, 3) := by decide +kernel
theorem dX6_score_18 : decode cX6_score 18 = .ok (.ireturn, 1) := by decide +kernel
theorem dX6_score_19 : decode cX6_score 19 = .ok (.iload_n 2, 1) := by decide +kernel
theorem dX6_score_20 : decode cX6_score 20 = .ok (.iconst 0, 1) := by decide +kernel
theorem dX6_score_21 : decode cX6_score 21 = .ok (.bipush 99, 2) := by decide +kernel
theorem dX6_score_23 : decode cX6_score 23 = .ok (.invokestatic 33, 3) := by decide +kernel
theorem dX6_score_26 : decode cX6_score 26 = .ok (.ifCond .eq 13, 3) := by decide +kernel
theorem dX6_score_29 : decode cX6_score 29 = .ok (.iload_n 3, 1) := by decide +kernel
theorem dX6_score_30 : decode cX6_score 30 = .ok (.iconst 0, 1) := by decide +kernel
theorem dX6_score_31 : decode cX6_score 31 = .ok (.bipush 99, 2) := by decide +kernel
theorem dX6_score_33 : decode cX6_score 33 = .ok (.invokestatic 33, 3) := by decide +kernel
theorem dX6_score_36 : decode cX6_score 36 = .ok (.ifCond .ne 9, 3) := by decide +kernel
theorem dX6_score_39 : decode cX6_score 39 = .ok (.aload_n 0, 1) := by decide +kernel
theorem dX6_score_40 : decode cX6_score 40 = .ok (.iconst 2, 1) := by decide +kernel
theorem dX6_score_41 : decode cX6_score 41 = .ok (.invokevirtual 44, 3) := by decide +kernel
theorem dX6_score_44 : decode cX6_score 44 = .ok (.ireturn, 1) := by decide +kernel
theorem dX6_score_45 : decode cX6_score 45 = .ok (.aload_n 0, 1) := by decide +kernel
theorem dX6_score_46 : decode cX6_score 46 = .ok (.getfield 7, 3) := by decide +kernel
theorem dX6_score_49 : decode cX6_score 49 = .ok (.iload_n 1, 1) := by decide +kernel
theorem dX6_score_50 : decode cX6_score 50 = .ok (.iconst 3, 1) := by decide +kernel
theorem dX6_score_51 : decode cX6_score 51 = .ok (.invokestatic 55, 3) := by decide +kernel
theorem dX6_score_54 : decode cX6_score 54 = .ok (.iconst (-1), 1) := by decide +kernel
theorem dX6_score_55 : decode cX6_score 55 = .ok (.if_icmp .ne 9, 3) := by decide +kernel
theorem dX6_score_58 : decode cX6_score 58 = .ok (.aload_n 0, 1) := by decide +kernel
theorem dX6_score_59 : decode cX6_score 59 = .ok (.iconst 3, 1) := by decide +kernel
theorem dX6_score_60 : decode cX6_score 60 = .ok (.invokevirtual 44, 3) := by decide +kernel
theorem dX6_score_63 : decode cX6_score 63 = .ok (.ireturn, 1) := by decide +kernel
theorem dX6_score_64 : decode cX6_score 64 = .ok (.aload_n 0, 1) := by decide +kernel
theorem dX6_score_65 : decode cX6_score 65 = .ok (.invokevirtual 52, 3) := by decide +kernel
theorem dX6_score_68 : decode cX6_score 68 = .ok (.aload_n 0, 1) := by decide +kernel
theorem dX6_score_69 : decode cX6_score 69 = .ok (.getfield 7, 3) := by decide +kernel
theorem dX6_score_72 : decode cX6_score 72 = .ok (.iload_n 1, 1) := by decide +kernel
theorem dX6_score_73 : decode cX6_score 73 = .ok (.iconst 1, 1) := by decide +kernel
theorem dX6_score_74 : decode cX6_score 74 = .ok (.iload_n 2, 1) := by decide +kernel
theorem dX6_score_75 : decode cX6_score 75 = .ok (.iload_n 3, 1) := by decide +kernel
theorem dX6_score_76 : decode cX6_score 76 = .ok (.invokestatic 109, 3) := by decide +kernel
theorem dX6_score_79 : decode cX6_score 79 = .ok (.aload_n 0, 1) := by decide +kernel
theorem dX6_score_80 : decode cX6_score 80 = .ok (.getfield 7, 3) := by decide +kernel
theorem dX6_score_83 : decode cX6_score 83 = .ok (.aload_n 0, 1) := by decide +kernel
theorem dX6_score_84 : decode cX6_score 84 = .ok (.getfield 7, 3) := by decide +kernel
theorem dX6_score_87 : decode cX6_score 87 = .ok (.iload_n 1, 1) := by decide +kernel
theorem dX6_score_88 : decode cX6_score 88 = .ok (.iconst 1, 1) := by decide +kernel
theorem dX6_score_89 : decode cX6_score 89 = .ok (.invokestatic 55, 3) := by decide +kernel
theorem dX6_score_92 : decode cX6_score 92 = .ok (.invokestatic 95, 3) := by decide +kernel
theorem dX6_score_95 : decode cX6_score 95 = .ok (.ireturn, 1) := by decide +kernel
set_option maxRecDepth 20000 in
theorem ggX6_walkover_X6_isMatch : GoodIn wsX6_walkover wsX6_isMatch := goodIn_r _ [7, 2, 8, 9, 6, 10, 42, 43, 44, 45, 46, 47, 48, 49, 50, 51, 52, 53] (by decide +kernel) (by decide +kernel)
set_option maxRecDepth 20000 in
theorem gX6_walkover_X6_isMatch : GoodIn wsX6_walkover (wsV RX6 105 RX6 yX6_isMatch wsX6_isMatch) := goodIn_app (goodIn_of _ (by decide +kernel)) ggX6_walkover_X6_isMatch
set_option maxRecDepth 20000 in
theorem ggX6_walkover_X6_fails : GoodIn wsX6_walkover wsX6_fails := goodIn_r _ [14, 1, 42, 43, 44, 45, 46, 47, 48, 49, 50, 51, 52, 53] (by decide +kernel) (by decide +kernel)
set_option maxRecDepth 20000 in
theorem gX6_walkover_X6_fails : GoodIn wsX6_walkover (wsV RX6 44 RX6 yX6_fails wsX6_fails) := goodIn_app (goodIn_of _ (by decide +kernel)) ggX6_walkover_X6_fails
set_option maxRecDepth 20000 in
theorem ggX6_walkover_X6_of : GoodIn wsX6_walkover wsX6_of := goodIn_r _ [17] (by decide +kernel) (by decide +kernel)
set_option maxRecDepth 20000 in
theorem gX6_walkover_X6_of : GoodIn wsX6_walkover (va_wsS RX6 55 yX6_of wsX6_of) := goodIn_app (goodIn_of _ (by decide +kernel)) ggX6_walkover_X6_of
set_option maxRecDepth 20000 in
theorem ggX6_walkover_X6_saves : GoodIn wsX6_walkover wsX6_saves := goodIn_r _ [21, 22, 23, 2, 24, 25, 6, 26, 42, 43, 44, 45, 46, 47, 48, 49, 50, 51, 52, 53] (by decide +kernel) (by decide +kernel)
set_option maxRecDepth 20000 in
theorem gX6_walkover_X6_saves : GoodIn wsX6_walkover (wsV RX6 52 RX6 yX6_saves wsX6_saves) := goodIn_app (goodIn_of _ (by decide +kernel)) ggX6_walkover_X6_saves
set_option maxRecDepth 20000 in
theorem ggX6_walkover_X6_gives : GoodIn wsX6_walkover wsX6_gives := goodIn_r _ [29] (by decide +kernel) (by decide +kernel)
set_option maxRecDepth 20000 in
theorem gX6_walkover_X6_gives : GoodIn wsX6_walkover (va_wsS RX6 109 yX6_gives wsX6_gives) := goodIn_app (goodIn_of _ (by decide +kernel)) ggX6_walkover_X6_gives
set_option maxRecDepth 20000 in
theorem ggX6_walkover_X6_points : GoodIn wsX6_walkover wsX6_points := goodIn_r _ [32, 33, 34, 6, 35, 36, 37, 38, 15, 16, 17, 39, 40, 41] (by decide +kernel) (by decide +kernel)
set_option maxRecDepth 20000 in
theorem gX6_walkover_X6_points : GoodIn wsX6_walkover (va_wsS RX6 95 yX6_points wsX6_points) := goodIn_app (goodIn_of _ (by decide +kernel)) ggX6_walkover_X6_points
theorem dX6_walkover_0 : decode cX6_walkover 0 = .ok (.aload_n 0, 1) := by decide +kernel
theorem dX6_walkover_1 : decode cX6_walkover 1 = .ok (.iconst 0, 1) := by decide +kernel
theorem dX6_walkover_2 : decode cX6_walkover 2 = .ok (.putfield 29, 3) := by decide +kernel
theorem dX6_walkover_5 : decode cX6_walkover 5 = .ok (.aload_n 0, 1) := by decide +kernel
theorem dX6_walkover_6 : decode cX6_walkover 6 = .ok (.iload_n 1, 1) := by decide +kernel
theorem dX6_walkover_7 : decode cX6_walkover 7 = .ok (.invokevirtual 105, 3) := by decide +kernel
theorem dX6_walkover_10 : decode cX6_walkover 10 = .ok (.ifCond .ne 9, 3) := by decide +kernel
theorem dX6_walkover_13 : decode cX6_walkover 13 = .ok (.aload_n 0, 1) := by decide +kernel
theorem dX6_walkover_14 : decode cX6_walkover 14 = .ok (.iconst 1, 1) := by decide +kernel
theorem dX6_walkover_15 : decode cX6_walkover 15 = .ok (.invokevirtual 44, 3) := by decide +kernel
theorem dX6_walkover_18 : decode cX6_walkover 18 = .ok (.ireturn, 1) := by decide +kernel
theorem dX6_walkover_19 : decode cX6_walkover 19 = .ok (.aload_n 0, 1) := by decide +kernel
theorem dX6_walkover_20 : decode cX6_walkover 20 = .ok (.getfield 7, 3) := by decide +kernel
theorem dX6_walkover_23 : decode cX6_walkover 23 = .ok (.iload_n 1, 1) := by decide +kernel
theorem dX6_walkover_24 : decode cX6_walkover 24 = .ok (.iconst 3, 1) := by decide +kernel
theorem dX6_walkover_25 : decode cX6_walkover 25 = .ok (.invokestatic 55, 3) := by decide +kernel
theorem dX6_walkover_28 : decode cX6_walkover 28 = .ok (.iconst (-1), 1) := by decide +kernel
theorem dX6_walkover_29 : decode cX6_walkover 29 = .ok (.if_icmp .ne 9, 3) := by decide +kernel
theorem dX6_walkover_32 : decode cX6_walkover 32 = .ok (.aload_n 0, 1) := by decide +kernel
theorem dX6_walkover_33 : decode cX6_walkover 33 = .ok (.iconst 2, 1) := by decide +kernel
theorem dX6_walkover_34 : decode cX6_walkover 34 = .ok (.invokevirtual 44, 3) := by decide +kernel
theorem dX6_walkover_37 : decode cX6_walkover 37 = .ok (.ireturn, 1) := by decide +kernel
theorem dX6_walkover_38 : decode cX6_walkover 38 = .ok (.aload_n 0, 1) := by decide +kernel
theorem dX6_walkover_39 : decode cX6_walkover 39 = .ok (.invokevirtual 52, 3) := by decide +kernel
theorem dX6_walkover_42 : decode cX6_walkover 42 = .ok (.aload_n 0, 1) := by decide +kernel
theorem dX6_walkover_43 : decode cX6_walkover 43 = .ok (.getfield 7, 3) := by decide +kernel
theorem dX6_walkover_46 : decode cX6_walkover 46 = .ok (.iload_n 1, 1) := by decide +kernel
theorem dX6_walkover_47 : decode cX6_walkover 47 = .ok (.iload_n 2, 1) := by decide +kernel
theorem dX6_walkover_48 : decode cX6_walkover 48 = .ok (.ifCond .eq 7, 3) := by decide +kernel
theorem dX6_walkover_51 : decode cX6_walkover 51 = .ok (.iconst 3, 1) := by decide +kernel
theorem dX6_walkover_52 : decode cX6_walkover 52 = .ok (.goto 4, 3) := by decide +kernel
theorem dX6_walkover_55 : decode cX6_walkover 55 = .ok (.iconst 2, 1) := by decide +kernel
theorem dX6_walkover_56 : decode cX6_walkover 56 = .ok (.iconst 0, 1) := by decide +kernel
theorem dX6_walkover_57 : decode cX6_walkover 57 = .ok (.iconst 0, 1) := by decide +kernel
theorem dX6_walkover_58 : decode cX6_walkover 58 = .ok (.invokestatic 109, 3) := by decide +kernel
theorem dX6_walkover_61 : decode cX6_walkover 61 = .ok (.aload_n 0, 1) := by decide +kernel
theorem dX6_walkover_62 : decode cX6_walkover 62 = .ok (.getfield 7, 3) := by decide +kernel
theorem dX6_walkover_65 : decode cX6_walkover 65 = .ok (.aload_n 0, 1) := by decide +kernel
theorem dX6_walkover_66 : decode cX6_walkover 66 = .ok (.getfield 7, 3) := by decide +kernel
theorem dX6_walkover_69 : decode cX6_walkover 69 = .ok (.iload_n 1, 1) := by decide +kernel
theorem dX6_walkover_70 : decode cX6_walkover 70 = .ok (.iload_n 2, 1) := by decide +kernel
theorem dX6_walkover_71 : decode cX6_walkover 71 = .ok (.ifCond .eq 7, 3) := by decide +kernel
theorem dX6_walkover_74 : decode cX6_walkover 74 = .ok (.iconst 2, 1) := by decide +kernel
theorem dX6_walkover_75 : decode cX6_walkover 75 = .ok (.goto 4, 3) := by decide +kernel
theorem dX6_walkover_78 : decode cX6_walkover 78 = .ok (.iconst 1, 1) := by decide +kernel
theorem dX6_walkover_79 : decode cX6_walkover 79 = .ok (.invokestatic 55, 3) := by decide +kernel
theorem dX6_walkover_82 : decode cX6_walkover 82 = .ok (.invokestatic 95, 3) := by decide +kernel
theorem dX6_walkover_85 : decode cX6_walkover 85 = .ok (.ireturn, 1) := by decide +kernel
set_option maxRecDepth 20000 in
theorem ggX6_annul_X6_isMatch : GoodIn wsX6_annul wsX6_isMatch := goodIn_r _ [7, 2, 8, 9, 6, 10, 30, 31, 32, 33, 34, 35, 36, 37, 38, 39, 40, 41] (by decide +kernel) (by decide +kernel)
set_option maxRecDepth 20000 in
theorem gX6_annul_X6_isMatch : GoodIn wsX6_annul (wsV RX6 105 RX6 yX6_isMatch wsX6_isMatch) := goodIn_app (goodIn_of _ (by decide +kernel)) ggX6_annul_X6_isMatch
set_option maxRecDepth 20000 in
theorem ggX6_annul_X6_fails : GoodIn wsX6_annul wsX6_fails := goodIn_r _ [14, 1, 30, 31, 32, 33, 34, 35, 36, 37, 38, 39, 40, 41] (by decide +kernel) (by decide +kernel)
set_option maxRecDepth 20000 in
theorem gX6_annul_X6_fails : GoodIn wsX6_annul (wsV RX6 44 RX6 yX6_fails wsX6_fails) := goodIn_app (goodIn_of _ (by decide +kernel)) ggX6_annul_X6_fails
set_option maxRecDepth 20000 in
theorem ggX6_annul_X6_saves : GoodIn wsX6_annul wsX6_saves := goodIn_r _ [18, 19, 20, 2, 21, 22, 6, 23, 30, 31, 32, 33, 34, 35, 36, 37, 38, 39, 40, 41] (by decide +kernel) (by decide +kernel)
set_option maxRecDepth 20000 in
theorem gX6_annul_X6_saves : GoodIn wsX6_annul (wsV RX6 52 RX6 yX6_saves wsX6_saves) := goodIn_app (goodIn_of _ (by decide +kernel)) ggX6_annul_X6_saves
set_option maxRecDepth 20000 in
theorem ggX6_annul_X6_of : GoodIn wsX6_annul wsX6_of := goodIn_r _ [26] (by decide +kernel) (by decide +kernel)
set_option maxRecDepth 20000 in
theorem gX6_annul_X6_of : GoodIn wsX6_annul (va_wsS RX6 55 yX6_of wsX6_of) := goodIn_app (goodIn_of _ (by decide +kernel)) ggX6_annul_X6_of
set_option maxRecDepth 20000 in
theorem ggX6_annul_X6_gives : GoodIn wsX6_annul wsX6_gives := goodIn_r _ [29] (by decide +kernel) (by decide +kernel)
set_option maxRecDepth 20000 in
theorem gX6_annul_X6_gives : GoodIn wsX6_annul (va_wsS RX6 109 yX6_gives wsX6_gives) := goodIn_app (goodIn_of _ (by decide +kernel)) ggX6_annul_X6_gives
theorem dX6_annul_0 : decode cX6_annul 0 = .ok (.aload_n 0, 1) := by decide +kernel
theorem dX6_annul_1 : decode cX6_annul 1 = .ok (.iconst 0, 1) := by decide +kernel
theorem dX6_annul_2 : decode cX6_annul 2 = .ok (.putfield 29, 3) := by decide +kernel
theorem dX6_annul_5 : decode cX6_annul 5 = .ok (.aload_n 0, 1) := by decide +kernel
theorem dX6_annul_6 : decode cX6_annul 6 = .ok (.iload_n 1, 1) := by decide +kernel
theorem dX6_annul_7 : decode cX6_annul 7 = .ok (.invokevirtual 105, 3) := by decide +kernel
theorem dX6_annul_10 : decode cX6_annul 10 = .ok (.ifCond .ne 9, 3) := by decide +kernel
theorem dX6_annul_13 : decode cX6_annul 13 = .ok (.aload_n 0, 1) := by decide +kernel
theorem dX6_annul_14 : decode cX6_annul 14 = .ok (.iconst 1, 1) := by decide +kernel
theorem dX6_annul_15 : decode cX6_annul 15 = .ok (.invokevirtual 44, 3) := by decide +kernel
theorem dX6_annul_18 : decode cX6_annul 18 = .ok (.ireturn, 1) := by decide +kernel
theorem dX6_annul_19 : decode cX6_annul 19 = .ok (.aload_n 0, 1) := by decide +kernel
theorem dX6_annul_20 : decode cX6_annul 20 = .ok (.invokevirtual 52, 3) := by decide +kernel
theorem dX6_annul_23 : decode cX6_annul 23 = .ok (.aload_n 0, 1) := by decide +kernel
theorem dX6_annul_24 : decode cX6_annul 24 = .ok (.getfield 7, 3) := by decide +kernel
theorem dX6_annul_27 : decode cX6_annul 27 = .ok (.iload_n 1, 1) := by decide +kernel
theorem dX6_annul_28 : decode cX6_annul 28 = .ok (.bipush 6, 2) := by decide +kernel
theorem dX6_annul_30 : decode cX6_annul 30 = .ok (.invokestatic 55, 3) := by decide +kernel
theorem dX6_annul_33 : decode cX6_annul 33 = .ok (.istore_n 2, 1) := by decide +kernel
theorem dX6_annul_34 : decode cX6_annul 34 = .ok (.aload_n 0, 1) := by decide +kernel
theorem dX6_annul_35 : decode cX6_annul 35 = .ok (.getfield 7, 3) := by decide +kernel
theorem dX6_annul_38 : decode cX6_annul 38 = .ok (.iload_n 1, 1) := by decide +kernel
theorem dX6_annul_39 : decode cX6_annul 39 = .ok (.iconst 0, 1) := by decide +kernel
theorem dX6_annul_40 : decode cX6_annul 40 = .ok (.iconst 0, 1) := by decide +kernel
theorem dX6_annul_41 : decode cX6_annul 41 = .ok (.iconst 0, 1) := by decide +kernel
theorem dX6_annul_42 : decode cX6_annul 42 = .ok (.invokestatic 109, 3) := by decide +kernel
theorem dX6_annul_45 : decode cX6_annul 45 = .ok (.iload_n 2, 1) := by decide +kernel
theorem dX6_annul_46 : decode cX6_annul 46 = .ok (.ifCond .ne 7, 3) := by decide +kernel
theorem dX6_annul_49 : decode cX6_annul 49 = .ok (.iconst 0, 1) := by decide +kernel
theorem dX6_annul_50 : decode cX6_annul 50 = .ok (.goto 4, 3) := by decide +kernel
theorem dX6_annul_53 : decode cX6_annul 53 = .ok (.iconst 1, 1) := by decide +kernel
theorem dX6_annul_54 : decode cX6_annul 54 = .ok (.ireturn, 1) := by decide +kernel
set_option maxRecDepth 20000 in
theorem ggX6_isFor_X6_in : GoodIn wsX6_isFor wsX6_in := goodIn_r _ [4] (by decide +kernel) (by decide +kernel)
set_option maxRecDepth 20000 in
theorem gX6_isFor_X6_in : GoodIn wsX6_isFor (va_wsS RX6 33 yX6_in wsX6_in) := goodIn_app (goodIn_of _ (by decide +kernel)) ggX6_isFor_X6_in
theorem dX6_isFor_0 : decode cX6_isFor 0 = .ok (.iload_n 1, 1) := by decide +kernel
theorem dX6_isFor_1 : decode cX6_isFor 1 = .ok (.iload_n 0, 1) := by decide +kernel
theorem dX6_isFor_2 : decode cX6_isFor 2 = .ok (.iconst 1, 1) := by decide +kernel
theorem dX6_isFor_3 : decode cX6_isFor 3 = .ok (.if_icmp .ne 7, 3) := by decide +kernel
theorem dX6_isFor_6 : decode cX6_isFor 6 = .ok (.iconst 0, 1) := by decide +kernel
theorem dX6_isFor_7 : decode cX6_isFor 7 = .ok (.goto 4, 3) := by decide +kernel
theorem dX6_isFor_10 : decode cX6_isFor 10 = .ok (.iconst 1, 1) := by decide +kernel
theorem dX6_isFor_11 : decode cX6_isFor 11 = .ok (.iload_n 0, 1) := by decide +kernel
theorem dX6_isFor_12 : decode cX6_isFor 12 = .ok (.ifCond .ne 7, 3) := by decide +kernel
theorem dX6_isFor_15 : decode cX6_isFor 15 = .ok (.iconst 5, 1) := by decide +kernel
theorem dX6_isFor_16 : decode cX6_isFor 16 = .ok (.goto 24, 3) := by decide +kernel
theorem dX6_isFor_19 : decode cX6_isFor 19 = .ok (.iload_n 0, 1) := by decide +kernel
theorem dX6_isFor_20 : decode cX6_isFor 20 = .ok (.iconst 1, 1) := by decide +kernel
theorem dX6_isFor_21 : decode cX6_isFor 21 = .ok (.if_icmp .ne 7, 3) := by decide +kernel
theorem dX6_isFor_24 : decode cX6_isFor 24 = .ok (.iconst 3, 1) := by decide +kernel
theorem dX6_isFor_25 : decode cX6_isFor 25 = .ok (.goto 15, 3) := by decide +kernel
theorem dX6_isFor_28 : decode cX6_isFor 28 = .ok (.iload_n 0, 1) := by decide +kernel
theorem dX6_isFor_29 : decode cX6_isFor 29 = .ok (.iconst 2, 1) := by decide +kernel
theorem dX6_isFor_30 : decode cX6_isFor 30 = .ok (.if_icmp .ne 8, 3) := by decide +kernel
theorem dX6_isFor_33 : decode cX6_isFor 33 = .ok (.bipush 50, 2) := by decide +kernel
theorem dX6_isFor_35 : decode cX6_isFor 35 = .ok (.goto 5, 3) := by decide +kernel
theorem dX6_isFor_38 : decode cX6_isFor 38 = .ok (.bipush 28, 2) := by decide +kernel
theorem dX6_isFor_40 : decode cX6_isFor 40 = .ok (.invokestatic 33, 3) := by decide +kernel
theorem dX6_isFor_43 : decode cX6_isFor 43 = .ok (.ireturn, 1) := by decide +kernel
set_option maxRecDepth 20000 in
theorem ggX6_set_X6_in : GoodIn wsX6_set wsX6_in := goodIn_r _ [5] (by decide +kernel) (by decide +kernel)
set_option maxRecDepth 20000 in
theorem gX6_set_X6_in : GoodIn wsX6_set (va_wsS RX6 33 yX6_in wsX6_in) := goodIn_app (goodIn_of _ (by decide +kernel)) ggX6_set_X6_in
set_option maxRecDepth 20000 in
theorem ggX6_set_X6_fails : GoodIn wsX6_set wsX6_fails := goodIn_r _ [9, 1, 27, 28, 29, 30, 31, 32, 33, 34, 35, 36, 37, 38] (by decide +kernel) (by decide +kernel)
set_option maxRecDepth 20000 in
theorem gX6_set_X6_fails : GoodIn wsX6_set (wsV RX6 44 RX6 yX6_fails wsX6_fails) := goodIn_app (goodIn_of _ (by decide +kernel)) ggX6_set_X6_fails
set_option maxRecDepth 20000 in
theorem ggX6_set_X6_isFor : GoodIn wsX6_set wsX6_isFor := goodIn_r _ [12, 2, 3, 4, 5] (by decide +kernel) (by decide +kernel)
set_option maxRecDepth 20000 in
theorem gX6_set_X6_isFor : GoodIn wsX6_set (va_wsS RX6 113 yX6_isFor wsX6_isFor) := goodIn_app (goodIn_of _ (by decide +kernel)) ggX6_set_X6_isFor
set_option maxRecDepth 20000 in
theorem ggX6_set_X6_saves : GoodIn wsX6_set wsX6_saves := goodIn_r _ [16, 17, 18, 19, 20, 21, 4, 22, 27, 28, 29, 30, 31, 32, 33, 34, 35, 36, 37, 38] (by decide +kernel) (by decide +kernel)
set_option maxRecDepth 20000 in
theorem gX6_set_X6_saves : GoodIn wsX6_set (wsV RX6 52 RX6 yX6_saves wsX6_saves) := goodIn_app (goodIn_of _ (by decide +kernel)) ggX6_set_X6_saves
set_option maxRecDepth 20000 in
theorem ggX6_set_X6_changes : GoodIn wsX6_set wsX6_changes := goodIn_r _ [26, 19, 27, 28, 29, 30, 31, 32, 33, 34, 35, 36, 37, 38] (by decide +kernel) (by decide +kernel)
set_option maxRecDepth 20000 in
theorem gX6_set_X6_changes : GoodIn wsX6_set (wsV RX6 74 RX6 yX6_changes wsX6_changes) := goodIn_app (goodIn_of _ (by decide +kernel)) ggX6_set_X6_changes
theorem dX6_set_0 : decode cX6_set 0 = .ok (.aload_n 0, 1) := by decide +kernel
theorem dX6_set_1 : decode cX6_set 1 = .ok (.iconst 0, 1) := by decide +kernel
theorem dX6_set_2 : decode cX6_set 2 = .ok (.putfield 29, 3) := by decide +kernel
theorem dX6_set_5 : decode cX6_set 5 = .ok (.iload_n 1, 1) := by decide +kernel
theorem dX6_set_6 : decode cX6_set 6 = .ok (.iconst 0, 1) := by decide +kernel
theorem dX6_set_7 : decode cX6_set 7 = .ok (.iconst 3, 1) := by decide +kernel
theorem dX6_set_8 : decode cX6_set 8 = .ok (.invokestatic 33, 3) := by decide +kernel
theorem dX6_set_11 : decode cX6_set 11 = .ok (.ifCond .ne 9, 3) := by decide +kernel
theorem dX6_set_14 : decode cX6_set 14 = .ok (.aload_n 0, 1) := by decide +kernel
theorem dX6_set_15 : decode cX6_set 15 = .ok (.iconst 1, 1) := by decide +kernel
theorem dX6_set_16 : decode cX6_set 16 = .ok (.invokevirtual 44, 3) := by decide +kernel
theorem dX6_set_19 : decode cX6_set 19 = .ok (.ireturn, 1) := by decide +kernel
theorem dX6_set_20 : decode cX6_set 20 = .ok (.iload_n 1, 1) := by decide +kernel
theorem dX6_set_21 : decode cX6_set 21 = .ok (.iload_n 2, 1) := by decide +kernel
theorem dX6_set_22 : decode cX6_set 22 = .ok (.invokestatic 113, 3) := by decide +kernel
theorem dX6_set_25 : decode cX6_set 25 = .ok (.ifCond .ne 9, 3) := by decide +kernel
theorem dX6_set_28 : decode cX6_set 28 = .ok (.aload_n 0, 1) := by decide +kernel
theorem dX6_set_29 : decode cX6_set 29 = .ok (.iconst 2, 1) := by decide +kernel
theorem dX6_set_30 : decode cX6_set 30 = .ok (.invokevirtual 44, 3) := by decide +kernel
theorem dX6_set_33 : decode cX6_set 33 = .ok (.ireturn, 1) := by decide +kernel
theorem dX6_set_34 : decode cX6_set 34 = .ok (.aload_n 0, 1) := by decide +kernel
theorem dX6_set_35 : decode cX6_set 35 = .ok (.invokevirtual 52, 3) := by decide +kernel
theorem dX6_set_38 : decode cX6_set 38 = .ok (.aload_n 0, 1) := by decide +kernel
theorem dX6_set_39 : decode cX6_set 39 = .ok (.iload_n 1, 1) := by decide +kernel
theorem dX6_set_40 : decode cX6_set 40 = .ok (.iload_n 2, 1) := by decide +kernel
theorem dX6_set_41 : decode cX6_set 41 = .ok (.invokevirtual 74, 3) := by decide +kernel
theorem dX6_set_44 : decode cX6_set 44 = .ok (.ireturn, 1) := by decide +kernel
set_option maxRecDepth 20000 in
theorem ggX6_append_X6_in : GoodIn wsX6_append wsX6_in := goodIn_r _ [7] (by decide +kernel) (by decide +kernel)
set_option maxRecDepth 20000 in
theorem gX6_append_X6_in : GoodIn wsX6_append (va_wsS RX6 33 yX6_in wsX6_in) := goodIn_app (goodIn_of _ (by decide +kernel)) ggX6_append_X6_in
set_option maxRecDepth 20000 in
theorem ggX6_append_X6_fails : GoodIn wsX6_append wsX6_fails := goodIn_r _ [11, 1, 12, 13, 14, 15, 16, 17, 18, 19, 20, 21, 22, 23] (by decide +kernel) (by decide +kernel)
set_option maxRecDepth 20000 in
theorem gX6_append_X6_fails : GoodIn wsX6_append (wsV RX6 44 RX6 yX6_fails wsX6_fails) := goodIn_app (goodIn_of _ (by decide +kernel)) ggX6_append_X6_fails
theorem dX6_append_0 : decode cX6_append 0 = .ok (.aload_n 0, 1) := by decide +kernel
theorem dX6_append_1 : decode cX6_append 1 = .ok (.iconst 0, 1) := by decide +kernel
theorem dX6_append_2 : decode cX6_append 2 = .ok (.putfield 29, 3) := by decide +kernel
theorem dX6_append_5 : decode cX6_append 5 = .ok (.iload_n 1, 1) := by decide +kernel
theorem dX6_append_6 : decode cX6_append 6 = .ok (.bipush 33, 2) := by decide +kernel
theorem dX6_append_8 : decode cX6_append 8 = .ok (.bipush 126, 2) := by decide +kernel
theorem dX6_append_10 : decode cX6_append 10 = .ok (.invokestatic 33, 3) := by decide +kernel
theorem dX6_append_13 : decode cX6_append 13 = .ok (.ifCond .ne 9, 3) := by decide +kernel
theorem dX6_append_16 : decode cX6_append 16 = .ok (.aload_n 0, 1) := by decide +kernel
theorem dX6_append_17 : decode cX6_append 17 = .ok (.iconst 1, 1) := by decide +kernel
theorem dX6_append_18 : decode cX6_append 18 = .ok (.invokevirtual 44, 3) := by decide +kernel
theorem dX6_append_21 : decode cX6_append 21 = .ok (.ireturn, 1) := by decide +kernel
theorem dX6_append_22 : decode cX6_append 22 = .ok (.aload_n 0, 1) := by decide +kernel
theorem dX6_append_23 : decode cX6_append 23 = .ok (.getfield 117, 3) := by decide +kernel
theorem dX6_append_26 : decode cX6_append 26 = .ok (.bipush 60, 2) := by decide +kernel
theorem dX6_append_28 : decode cX6_append 28 = .ok (.if_icmp .ne 9, 3) := by decide +kernel
theorem dX6_append_31 : decode cX6_append 31 = .ok (.aload_n 0, 1) := by decide +kernel
theorem dX6_append_32 : decode cX6_append 32 = .ok (.iconst 2, 1) := by decide +kernel
theorem dX6_append_33 : decode cX6_append 33 = .ok (.invokevirtual 44, 3) := by decide +kernel
theorem dX6_append_36 : decode cX6_append 36 = .ok (.ireturn, 1) := by decide +kernel
theorem dX6_append_37 : decode cX6_append 37 = .ok (.aload_n 0, 1) := by decide +kernel
theorem dX6_append_38 : decode cX6_append 38 = .ok (.getfield 19, 3) := by decide +kernel
theorem dX6_append_41 : decode cX6_append 41 = .ok (.aload_n 0, 1) := by decide +kernel
theorem dX6_append_42 : decode cX6_append 42 = .ok (.getfield 117, 3) := by decide +kernel
theorem dX6_append_45 : decode cX6_append 45 = .ok (.iload_n 1, 1) := by decide +kernel
theorem dX6_append_46 : decode cX6_append 46 = .ok (.iastore, 1) := by decide +kernel
theorem dX6_append_47 : decode cX6_append 47 = .ok (.aload_n 0, 1) := by decide +kernel
theorem dX6_append_48 : decode cX6_append 48 = .ok (.dup, 1) := by decide +kernel
theorem dX6_append_49 : decode cX6_append 49 = .ok (.getfield 117, 3) := by decide +kernel
theorem dX6_append_52 : decode cX6_append 52 = .ok (.iconst 1, 1) := by decide +kernel
theorem dX6_append_53 : decode cX6_append 53 = .ok (.iadd, 1) := by decide +kernel
theorem dX6_append_54 : decode cX6_append 54 = .ok (.putfield 117, 3) := by decide +kernel
theorem dX6_append_57 : decode cX6_append 57 = .ok (.aload_n 0, 1) := by decide +kernel
theorem dX6_append_58 : decode cX6_append 58 = .ok (.getfield 117, 3) := by decide +kernel
theorem dX6_append_61 : decode cX6_append 61 = .ok (.ireturn, 1) := by decide +kernel
theorem dX6_clearBuffer_0 : decode cX6_clearBuffer 0 = .ok (.aload_n 0, 1) := by decide +kernel
theorem dX6_clearBuffer_1 : decode cX6_clearBuffer 1 = .ok (.iconst 0, 1) := by decide +kernel
theorem dX6_clearBuffer_2 : decode cX6_clearBuffer 2 = .ok (.putfield 29, 3) := by decide +kernel
theorem dX6_clearBuffer_5 : decode cX6_clearBuffer 5 = .ok (.aload_n 0, 1) := by decide +kernel
theorem dX6_clearBuffer_6 : decode cX6_clearBuffer 6 = .ok (.getfield 117, 3) := by decide +kernel
theorem dX6_clearBuffer_9 : decode cX6_clearBuffer 9 = .ok (.istore_n 1, 1) := by decide +kernel
theorem dX6_clearBuffer_10 : decode cX6_clearBuffer 10 = .ok (.aload_n 0, 1) := by decide +kernel
theorem dX6_clearBuffer_11 : decode cX6_clearBuffer 11 = .ok (.iconst 0, 1) := by decide +kernel
theorem dX6_clearBuffer_12 : decode cX6_clearBuffer 12 = .ok (.putfield 117, 3) := by decide +kernel
theorem dX6_clearBuffer_15 : decode cX6_clearBuffer 15 = .ok (.iload_n 1, 1) := by decide +kernel
theorem dX6_clearBuffer_16 : decode cX6_clearBuffer 16 = .ok (.ireturn, 1) := by decide +kernel
set_option maxRecDepth 20000 in
theorem ggX6_isAt_X6_in : GoodIn wsX6_isAt wsX6_in := goodIn_r _ [7] (by decide +kernel) (by decide +kernel)
set_option maxRecDepth 20000 in
theorem gX6_isAt_X6_in : GoodIn wsX6_isAt (va_wsS RX6 33 yX6_in wsX6_in) := goodIn_app (goodIn_of _ (by decide +kernel)) ggX6_isAt_X6_in
theorem dX6_isAt_0 : decode cX6_isAt 0 = .ok (.aload_n 0, 1) := by decide +kernel
theorem dX6_isAt_1 : decode cX6_isAt 1 = .ok (.getfield 120, 3) := by decide +kernel
theorem dX6_isAt_4 : decode cX6_isAt 4 = .ok (.aload_n 0, 1) := by decide +kernel
theorem dX6_isAt_5 : decode cX6_isAt 5 = .ok (.getfield 117, 3) := by decide +kernel
theorem dX6_isAt_8 : decode cX6_isAt 8 = .ok (.if_icmp .ge 24, 3) := by decide +kernel
theorem dX6_isAt_11 : decode cX6_isAt 11 = .ok (.aload_n 0, 1) := by decide +kernel
theorem dX6_isAt_12 : decode cX6_isAt 12 = .ok (.getfield 19, 3) := by decide +kernel
theorem dX6_isAt_15 : decode cX6_isAt 15 = .ok (.aload_n 0, 1) := by decide +kernel
theorem dX6_isAt_16 : decode cX6_isAt 16 = .ok (.getfield 120, 3) := by decide +kernel
theorem dX6_isAt_19 : decode cX6_isAt 19 = .ok (.iaload, 1) := by decide +kernel
theorem dX6_isAt_20 : decode cX6_isAt 20 = .ok (.iload_n 1, 1) := by decide +kernel
theorem dX6_isAt_21 : decode cX6_isAt 21 = .ok (.iload_n 2, 1) := by decide +kernel
theorem dX6_isAt_22 : decode cX6_isAt 22 = .ok (.invokestatic 33, 3) := by decide +kernel
theorem dX6_isAt_25 : decode cX6_isAt 25 = .ok (.ifCond .eq 7, 3) := by decide +kernel
theorem dX6_isAt_28 : decode cX6_isAt 28 = .ok (.iconst 1, 1) := by decide +kernel
theorem dX6_isAt_29 : decode cX6_isAt 29 = .ok (.goto 4, 3) := by decide +kernel
theorem dX6_isAt_32 : decode cX6_isAt 32 = .ok (.iconst 0, 1) := by decide +kernel
theorem dX6_isAt_33 : decode cX6_isAt 33 = .ok (.ireturn, 1) := by decide +kernel
theorem dX6_stops_0 : decode cX6_stops 0 = .ok (.aload_n 0, 1) := by decide +kernel
theorem dX6_stops_1 : decode cX6_stops 1 = .ok (.aload_n 0, 1) := by decide +kernel
theorem dX6_stops_2 : decode cX6_stops 2 = .ok (.getfield 120, 3) := by decide +kernel
theorem dX6_stops_5 : decode cX6_stops 5 = .ok (.aload_n 0, 1) := by decide +kernel
theorem dX6_stops_6 : decode cX6_stops 6 = .ok (.getfield 117, 3) := by decide +kernel
theorem dX6_stops_9 : decode cX6_stops 9 = .ok (.if_icmp .ge 7, 3) := by decide +kernel
theorem dX6_stops_12 : decode cX6_stops 12 = .ok (.iconst 1, 1) := by decide +kernel
theorem dX6_stops_13 : decode cX6_stops 13 = .ok (.goto 4, 3) := by decide +kernel
theorem dX6_stops_16 : decode cX6_stops 16 = .ok (.iconst 0, 1) := by decide +kernel
theorem dX6_stops_17 : decode cX6_stops 17 = .ok (.putfield 123, 3) := by decide +kernel
theorem dX6_stops_20 : decode cX6_stops 20 = .ok (.iconst 0, 1) := by decide +kernel
theorem dX6_stops_21 : decode cX6_stops 21 = .ok (.ireturn, 1) := by decide +kernel
set_option maxRecDepth 20000 in
theorem ggX6_isNumber_X6_isAt : GoodIn wsX6_isNumber wsX6_isAt := goodIn_r _ [10, 2, 11, 1, 12, 13, 9, 14, 20, 21, 22, 23, 24, 25, 26, 27, 28, 29, 30, 31] (by decide +kernel) (by decide +kernel)
set_option maxRecDepth 20000 in
theorem gX6_isNumber_X6_isAt : GoodIn wsX6_isNumber (wsV RX6 127 RX6 yX6_isAt wsX6_isAt) := goodIn_app (goodIn_of _ (by decide +kernel)) ggX6_isNumber_X6_isAt
set_option maxRecDepth 20000 in
theorem ggX6_isNumber_X6_stops : GoodIn wsX6_isNumber wsX6_stops := goodIn_r _ [18, 2, 11, 19, 20, 21, 22, 23, 24, 25, 26, 27, 28, 29, 30, 31] (by decide +kernel) (by decide +kernel)
set_option maxRecDepth 20000 in
theorem gX6_isNumber_X6_stops : GoodIn wsX6_isNumber (wsV RX6 130 RX6 yX6_stops wsX6_stops) := goodIn_app (goodIn_of _ (by decide +kernel)) ggX6_isNumber_X6_stops
theorem dX6_isNumber_0 : decode cX6_isNumber 0 = .ok (.aload_n 0, 1) := by decide +kernel
theorem dX6_isNumber_1 : decode cX6_isNumber 1 = .ok (.bipush 48, 2) := by decide +kernel
theorem dX6_isNumber_3 : decode cX6_isNumber 3 = .ok (.bipush 57, 2) := by decide +kernel
theorem dX6_isNumber_5 : decode cX6_isNumber 5 = .ok (.invokevirtual 127, 3) := by decide +kernel
theorem dX6_isNumber_8 : decode cX6_isNumber 8 = .ok (.ifCond .ne 8, 3) := by decide +kernel
theorem dX6_isNumber_11 : decode cX6_isNumber 11 = .ok (.aload_n 0, 1) := by decide +kernel
theorem dX6_isNumber_12 : decode cX6_isNumber 12 = .ok (.invokevirtual 130, 3) := by decide +kernel
theorem dX6_isNumber_15 : decode cX6_isNumber 15 = .ok (.ireturn, 1) := by decide +kernel
theorem dX6_isNumber_16 : decode cX6_isNumber 16 = .ok (.aload_n 0, 1) := by decide +kernel
theorem dX6_isNumber_17 : decode cX6_isNumber 17 = .ok (.aload_n 0, 1) := by decide +kernel
theorem dX6_isNumber_18 : decode cX6_isNumber 18 = .ok (.getfield 19, 3) := by decide +kernel
theorem dX6_isNumber_21 : decode cX6_isNumber 21 = .ok (.aload_n 0, 1) := by decide +kernel
theorem dX6_isNumber_22 : decode cX6_isNumber 22 = .ok (.getfield 120, 3) := by decide +kernel
theorem dX6_isNumber_25 : decode cX6_isNumber 25 = .ok (.iaload, 1) := by decide +kernel
theorem dX6_isNumber_26 : decode cX6_isNumber 26 = .ok (.bipush 48, 2) := by decide +kernel
theorem dX6_isNumber_28 : decode cX6_isNumber 28 = .ok (.isub, 1) := by decide +kernel
theorem dX6_isNumber_29 : decode cX6_isNumber 29 = .ok (.putfield 134, 3) := by decide +kernel
theorem dX6_isNumber_32 : decode cX6_isNumber 32 = .ok (.aload_n 0, 1) := by decide +kernel
theorem dX6_isNumber_33 : decode cX6_isNumber 33 = .ok (.dup, 1) := by decide +kernel
theorem dX6_isNumber_34 : decode cX6_isNumber 34 = .ok (.getfield 120, 3) := by decide +kernel
theorem dX6_isNumber_37 : decode cX6_isNumber 37 = .ok (.iconst 1, 1) := by decide +kernel
theorem dX6_isNumber_38 : decode cX6_isNumber 38 = .ok (.iadd, 1) := by decide +kernel
theorem dX6_isNumber_39 : decode cX6_isNumber 39 = .ok (.putfield 120, 3) := by decide +kernel
theorem dX6_isNumber_42 : decode cX6_isNumber 42 = .ok (.aload_n 0, 1) := by decide +kernel
theorem dX6_isNumber_43 : decode cX6_isNumber 43 = .ok (.getfield 134, 3) := by decide +kernel
theorem dX6_isNumber_46 : decode cX6_isNumber 46 = .ok (.ifCond .le 75, 3) := by decide +kernel
theorem dX6_isNumber_49 : decode cX6_isNumber 49 = .ok (.aload_n 0, 1) := by decide +kernel
theorem dX6_isNumber_50 : decode cX6_isNumber 50 = .ok (.bipush 48, 2) := by decide +kernel
theorem dX6_isNumber_52 : decode cX6_isNumber 52 = .ok (.bipush 57, 2) := by decide +kernel
theorem dX6_isNumber_54 : decode cX6_isNumber 54 = .ok (.invokevirtual 127, 3) := by decide +kernel
theorem dX6_isNumber_57 : decode cX6_isNumber 57 = .ok (.ifCond .eq 64, 3) := by decide +kernel
theorem dX6_isNumber_60 : decode cX6_isNumber 60 = .ok (.bipush 10, 2) := by decide +kernel
theorem dX6_isNumber_62 : decode cX6_isNumber 62 = .ok (.aload_n 0, 1) := by decide +kernel
theorem dX6_isNumber_63 : decode cX6_isNumber 63 = .ok (.getfield 134, 3) := by decide +kernel
theorem dX6_isNumber_66 : decode cX6_isNumber 66 = .ok (.imul, 1) := by decide +kernel
theorem dX6_isNumber_67 : decode cX6_isNumber 67 = .ok (.aload_n 0, 1) := by decide +kernel
theorem dX6_isNumber_68 : decode cX6_isNumber 68 = .ok (.getfield 19, 3) := by decide +kernel
theorem dX6_isNumber_71 : decode cX6_isNumber 71 = .ok (.aload_n 0, 1) := by decide +kernel
theorem dX6_isNumber_72 : decode cX6_isNumber 72 = .ok (.getfield 120, 3) := by decide +kernel
theorem dX6_isNumber_75 : decode cX6_isNumber 75 = .ok (.iaload, 1) := by decide +kernel
theorem dX6_isNumber_76 : decode cX6_isNumber 76 = .ok (.iadd, 1) := by decide +kernel
theorem dX6_isNumber_77 : decode cX6_isNumber 77 = .ok (.bipush 48, 2) := by decide +kernel
theorem dX6_isNumber_79 : decode cX6_isNumber 79 = .ok (.isub, 1) := by decide +kernel
theorem dX6_isNumber_80 : decode cX6_isNumber 80 = .ok (.iload_n 2, 1) := by decide +kernel
theorem dX6_isNumber_81 : decode cX6_isNumber 81 = .ok (.if_icmp .gt 40, 3) := by decide +kernel
theorem dX6_isNumber_84 : decode cX6_isNumber 84 = .ok (.aload_n 0, 1) := by decide +kernel
theorem dX6_isNumber_85 : decode cX6_isNumber 85 = .ok (.bipush 10, 2) := by decide +kernel
theorem dX6_isNumber_87 : decode cX6_isNumber 87 = .ok (.aload_n 0, 1) := by decide +kernel
theorem dX6_isNumber_88 : decode cX6_isNumber 88 = .ok (.getfield 134, 3) := by decide +kernel
theorem dX6_isNumber_91 : decode cX6_isNumber 91 = .ok (.imul, 1) := by decide +kernel
theorem dX6_isNumber_92 : decode cX6_isNumber 92 = .ok (.aload_n 0, 1) := by decide +kernel
theorem dX6_isNumber_93 : decode cX6_isNumber 93 = .ok (.getfield 19, 3) := by decide +kernel
theorem dX6_isNumber_96 : decode cX6_isNumber 96 = .ok (.aload_n 0, 1) := by decide +kernel
theorem dX6_isNumber_97 : decode cX6_isNumber 97 = .ok (.getfield 120, 3) := by decide +kernel
theorem dX6_isNumber_100 : decode cX6_isNumber 100 = .ok (.iaload, 1) := by decide +kernel
theorem dX6_isNumber_101 : decode cX6_isNumber 101 = .ok (.iadd, 1) := by decide +kernel
theorem dX6_isNumber_102 : decode cX6_isNumber 102 = .ok (.bipush 48, 2) := by decide +kernel
theorem dX6_isNumber_104 : decode cX6_isNumber 104 = .ok (.isub, 1) := by decide +kernel
theorem dX6_isNumber_105 : decode cX6_isNumber 105 = .ok (.putfield 134, 3) := by decide +kernel
theorem dX6_isNumber_108 : decode cX6_isNumber 108 = .ok (.aload_n 0, 1) := by decide +kernel
theorem dX6_isNumber_109 : decode cX6_isNumber 109 = .ok (.dup, 1) := by decide +kernel
theorem dX6_isNumber_110 : decode cX6_isNumber 110 = .ok (.getfield 120, 3) := by decide +kernel
theorem dX6_isNumber_113 : decode cX6_isNumber 113 = .ok (.iconst 1, 1) := by decide +kernel
theorem dX6_isNumber_114 : decode cX6_isNumber 114 = .ok (.iadd, 1) := by decide +kernel
theorem dX6_isNumber_115 : decode cX6_isNumber 115 = .ok (.putfield 120, 3) := by decide +kernel
theorem dX6_isNumber_118 : decode cX6_isNumber 118 = .ok (.goto (-76), 3) := by decide +kernel
theorem dX6_isNumber_121 : decode cX6_isNumber 121 = .ok (.aload_n 0, 1) := by decide +kernel
theorem dX6_isNumber_122 : decode cX6_isNumber 122 = .ok (.getfield 22, 3) := by decide +kernel
theorem dX6_isNumber_125 : decode cX6_isNumber 125 = .ok (.iconst 4, 1) := by decide +kernel
theorem dX6_isNumber_126 : decode cX6_isNumber 126 = .ok (.aload_n 0, 1) := by decide +kernel
theorem dX6_isNumber_127 : decode cX6_isNumber 127 = .ok (.getfield 137, 3) := by decide +kernel
theorem dX6_isNumber_130 : decode cX6_isNumber 130 = .ok (.imul, 1) := by decide +kernel
theorem dX6_isNumber_131 : decode cX6_isNumber 131 = .ok (.iload_n 1, 1) := by decide +kernel
theorem dX6_isNumber_132 : decode cX6_isNumber 132 = .ok (.iadd, 1) := by decide +kernel
theorem dX6_isNumber_133 : decode cX6_isNumber 133 = .ok (.aload_n 0, 1) := by decide +kernel
theorem dX6_isNumber_134 : decode cX6_isNumber 134 = .ok (.getfield 134, 3) := by decide +kernel
theorem dX6_isNumber_137 : decode cX6_isNumber 137 = .ok (.iastore, 1) := by decide +kernel
theorem dX6_isNumber_138 : decode cX6_isNumber 138 = .ok (.iconst 1, 1) := by decide +kernel
theorem dX6_isNumber_139 : decode cX6_isNumber 139 = .ok (.ireturn, 1) := by decide +kernel
set_option maxRecDepth 20000 in
theorem ggX6_isSign_X6_isAt : GoodIn wsX6_isSign wsX6_isAt := goodIn_r _ [6, 1, 7, 8, 9, 10, 5, 11, 17, 18, 19, 20, 21, 22, 23, 24, 25, 26, 27, 28] (by decide +kernel) (by decide +kernel)
set_option maxRecDepth 20000 in
theorem gX6_isSign_X6_isAt : GoodIn wsX6_isSign (wsV RX6 127 RX6 yX6_isAt wsX6_isAt) := goodIn_app (goodIn_of _ (by decide +kernel)) ggX6_isSign_X6_isAt
set_option maxRecDepth 20000 in
theorem ggX6_isSign_X6_stops : GoodIn wsX6_isSign wsX6_stops := goodIn_r _ [15, 1, 7, 16, 17, 18, 19, 20, 21, 22, 23, 24, 25, 26, 27, 28] (by decide +kernel) (by decide +kernel)
set_option maxRecDepth 20000 in
theorem gX6_isSign_X6_stops : GoodIn wsX6_isSign (wsV RX6 130 RX6 yX6_stops wsX6_stops) := goodIn_app (goodIn_of _ (by decide +kernel)) ggX6_isSign_X6_stops
theorem dX6_isSign_0 : decode cX6_isSign 0 = .ok (.aload_n 0, 1) := by decide +kernel
theorem dX6_isSign_1 : decode cX6_isSign 1 = .ok (.iload_n 1, 1) := by decide +kernel
theorem dX6_isSign_2 : decode cX6_isSign 2 = .ok (.iload_n 1, 1) := by decide +kernel
theorem dX6_isSign_3 : decode cX6_isSign 3 = .ok (.invokevirtual 127, 3) := by decide +kernel
theorem dX6_isSign_6 : decode cX6_isSign 6 = .ok (.ifCond .ne 8, 3) := by decide +kernel
theorem dX6_isSign_9 : decode cX6_isSign 9 = .ok (.aload_n 0, 1) := by decide +kernel
theorem dX6_isSign_10 : decode cX6_isSign 10 = .ok (.invokevirtual 130, 3) := by decide +kernel
theorem dX6_isSign_13 : decode cX6_isSign 13 = .ok (.ireturn, 1) := by decide +kernel
theorem dX6_isSign_14 : decode cX6_isSign 14 = .ok (.aload_n 0, 1) := by decide +kernel
theorem dX6_isSign_15 : decode cX6_isSign 15 = .ok (.dup, 1) := by decide +kernel
theorem dX6_isSign_16 : decode cX6_isSign 16 = .ok (.getfield 120, 3) := by decide +kernel
theorem dX6_isSign_19 : decode cX6_isSign 19 = .ok (.iconst 1, 1) := by decide +kernel
theorem dX6_isSign_20 : decode cX6_isSign 20 = .ok (.iadd, 1) := by decide +kernel
theorem dX6_isSign_21 : decode cX6_isSign 21 = .ok (.putfield 120, 3) := by decide +kernel
theorem dX6_isSign_24 : decode cX6_isSign 24 = .ok (.iconst 1, 1) := by decide +kernel
theorem dX6_isSign_25 : decode cX6_isSign 25 = .ok (.ireturn, 1) := by decide +kernel
set_option maxRecDepth 20000 in
theorem ggX6_isPart_X6_isNumber : GoodIn wsX6_isPart wsX6_isNumber := goodIn_r _ [9, 4, 3, 10, 1, 2, 11, 12, 13, 8, 14, 15, 16, 17, 18, 19, 20, 21, 22, 23, 28, 29, 30, 31, 32, 33, 34, 35, 36, 37, 38, 39] (by decide +kernel) (by decide +kernel)
set_option maxRecDepth 20000 in
theorem gX6_isPart_X6_isNumber : GoodIn wsX6_isPart (wsV RX6 140 RX6 yX6_isNumber wsX6_isNumber) := goodIn_app (goodIn_of _ (by decide +kernel)) ggX6_isPart_X6_isNumber
set_option maxRecDepth 20000 in
theorem ggX6_isPart_X6_isSign : GoodIn wsX6_isPart wsX6_isSign := goodIn_r _ [27, 3, 11, 12, 13, 8, 14, 15, 4, 16, 17, 18, 19, 20, 21, 22, 23, 28, 29, 30, 31, 32, 33, 34, 35, 36, 37, 38, 39] (by decide +kernel) (by decide +kernel)
set_option maxRecDepth 20000 in
theorem gX6_isPart_X6_isSign : GoodIn wsX6_isPart (wsV RX6 143 RX6 yX6_isSign wsX6_isSign) := goodIn_app (goodIn_of _ (by decide +kernel)) ggX6_isPart_X6_isSign
set_option maxRecDepth 20000 in
theorem ggX6_isPart_X6_isAt : GoodIn wsX6_isPart wsX6_isAt := goodIn_r _ [14, 3, 15, 4, 16, 17, 8, 18, 28, 29, 30, 31, 32, 33, 34, 35, 36, 37, 38, 39] (by decide +kernel) (by decide +kernel)
set_option maxRecDepth 20000 in
theorem gX6_isPart_X6_isAt : GoodIn wsX6_isPart (wsV RX6 127 RX6 yX6_isAt wsX6_isAt) := goodIn_app (goodIn_of _ (by decide +kernel)) ggX6_isPart_X6_isAt
set_option maxRecDepth 20000 in
theorem ggX6_isPart_X6_stops : GoodIn wsX6_isPart wsX6_stops := goodIn_r _ [22, 3, 15, 23, 28, 29, 30, 31, 32, 33, 34, 35, 36, 37, 38, 39] (by decide +kernel) (by decide +kernel)
set_option maxRecDepth 20000 in
theorem gX6_isPart_X6_stops : GoodIn wsX6_isPart (wsV RX6 130 RX6 yX6_stops wsX6_stops) := goodIn_app (goodIn_of _ (by decide +kernel)) ggX6_isPart_X6_stops
theorem dX6_isPart_0 : decode cX6_isPart 0 = .ok (.aload_n 0, 1) := by decide +kernel
theorem dX6_isPart_1 : decode cX6_isPart 1 = .ok (.iconst 0, 1) := by decide +kernel
theorem dX6_isPart_2 : decode cX6_isPart 2 = .ok (.bipush 27, 2) := by decide +kernel
theorem dX6_isPart_4 : decode cX6_isPart 4 = .ok (.invokevirtual 140, 3) := by decide +kernel
theorem dX6_isPart_7 : decode cX6_isPart 7 = .ok (.ifCond .eq 12, 3) := by decide +kernel
theorem dX6_isPart_10 : decode cX6_isPart 10 = .ok (.aload_n 0, 1) := by decide +kernel
theorem dX6_isPart_11 : decode cX6_isPart 11 = .ok (.bipush 61, 2) := by decide +kernel
theorem dX6_isPart_13 : decode cX6_isPart 13 = .ok (.invokevirtual 143, 3) := by decide +kernel
theorem dX6_isPart_16 : decode cX6_isPart 16 = .ok (.ifCond .ne 5, 3) := by decide +kernel
theorem dX6_isPart_19 : decode cX6_isPart 19 = .ok (.iconst 0, 1) := by decide +kernel
theorem dX6_isPart_20 : decode cX6_isPart 20 = .ok (.ireturn, 1) := by decide +kernel
theorem dX6_isPart_21 : decode cX6_isPart 21 = .ok (.aload_n 0, 1) := by decide +kernel
theorem dX6_isPart_22 : decode cX6_isPart 22 = .ok (.getfield 22, 3) := by decide +kernel
theorem dX6_isPart_25 : decode cX6_isPart 25 = .ok (.iconst 4, 1) := by decide +kernel
theorem dX6_isPart_26 : decode cX6_isPart 26 = .ok (.aload_n 0, 1) := by decide +kernel
theorem dX6_isPart_27 : decode cX6_isPart 27 = .ok (.getfield 137, 3) := by decide +kernel
theorem dX6_isPart_30 : decode cX6_isPart 30 = .ok (.imul, 1) := by decide +kernel
theorem dX6_isPart_31 : decode cX6_isPart 31 = .ok (.iconst 1, 1) := by decide +kernel
theorem dX6_isPart_32 : decode cX6_isPart 32 = .ok (.iadd, 1) := by decide +kernel
theorem dX6_isPart_33 : decode cX6_isPart 33 = .ok (.iconst 1, 1) := by decide +kernel
theorem dX6_isPart_34 : decode cX6_isPart 34 = .ok (.iastore, 1) := by decide +kernel
theorem dX6_isPart_35 : decode cX6_isPart 35 = .ok (.aload_n 0, 1) := by decide +kernel
theorem dX6_isPart_36 : decode cX6_isPart 36 = .ok (.bipush 119, 2) := by decide +kernel
theorem dX6_isPart_38 : decode cX6_isPart 38 = .ok (.bipush 119, 2) := by decide +kernel
theorem dX6_isPart_40 : decode cX6_isPart 40 = .ok (.invokevirtual 127, 3) := by decide +kernel
theorem dX6_isPart_43 : decode cX6_isPart 43 = .ok (.ifCond .ne 38, 3) := by decide +kernel
theorem dX6_isPart_46 : decode cX6_isPart 46 = .ok (.aload_n 0, 1) := by decide +kernel
theorem dX6_isPart_47 : decode cX6_isPart 47 = .ok (.iconst 2, 1) := by decide +kernel
theorem dX6_isPart_48 : decode cX6_isPart 48 = .ok (.bipush 99, 2) := by decide +kernel
theorem dX6_isPart_50 : decode cX6_isPart 50 = .ok (.invokevirtual 140, 3) := by decide +kernel
theorem dX6_isPart_53 : decode cX6_isPart 53 = .ok (.ifCond .eq 26, 3) := by decide +kernel
theorem dX6_isPart_56 : decode cX6_isPart 56 = .ok (.aload_n 0, 1) := by decide +kernel
theorem dX6_isPart_57 : decode cX6_isPart 57 = .ok (.bipush 58, 2) := by decide +kernel
theorem dX6_isPart_59 : decode cX6_isPart 59 = .ok (.invokevirtual 143, 3) := by decide +kernel
theorem dX6_isPart_62 : decode cX6_isPart 62 = .ok (.ifCond .eq 17, 3) := by decide +kernel
theorem dX6_isPart_65 : decode cX6_isPart 65 = .ok (.aload_n 0, 1) := by decide +kernel
theorem dX6_isPart_66 : decode cX6_isPart 66 = .ok (.iconst 3, 1) := by decide +kernel
theorem dX6_isPart_67 : decode cX6_isPart 67 = .ok (.bipush 99, 2) := by decide +kernel
theorem dX6_isPart_69 : decode cX6_isPart 69 = .ok (.invokevirtual 140, 3) := by decide +kernel
theorem dX6_isPart_72 : decode cX6_isPart 72 = .ok (.ifCond .eq 7, 3) := by decide +kernel
theorem dX6_isPart_75 : decode cX6_isPart 75 = .ok (.iconst 1, 1) := by decide +kernel
theorem dX6_isPart_76 : decode cX6_isPart 76 = .ok (.goto 4, 3) := by decide +kernel
theorem dX6_isPart_79 : decode cX6_isPart 79 = .ok (.iconst 0, 1) := by decide +kernel
theorem dX6_isPart_80 : decode cX6_isPart 80 = .ok (.ireturn, 1) := by decide +kernel
theorem dX6_isPart_81 : decode cX6_isPart 81 = .ok (.aload_n 0, 1) := by decide +kernel
theorem dX6_isPart_82 : decode cX6_isPart 82 = .ok (.dup, 1) := by decide +kernel
theorem dX6_isPart_83 : decode cX6_isPart 83 = .ok (.getfield 120, 3) := by decide +kernel
theorem dX6_isPart_86 : decode cX6_isPart 86 = .ok (.iconst 1, 1) := by decide +kernel
theorem dX6_isPart_87 : decode cX6_isPart 87 = .ok (.iadd, 1) := by decide +kernel
theorem dX6_isPart_88 : decode cX6_isPart 88 = .ok (.putfield 120, 3) := by decide +kernel
theorem dX6_isPart_91 : decode cX6_isPart 91 = .ok (.aload_n 0, 1) := by decide +kernel
theorem dX6_isPart_92 : decode cX6_isPart 92 = .ok (.bipush 49, 2) := by decide +kernel
theorem dX6_isPart_94 : decode cX6_isPart 94 = .ok (.bipush 50, 2) := by decide +kernel
theorem dX6_isPart_96 : decode cX6_isPart 96 = .ok (.invokevirtual 127, 3) := by decide +kernel
theorem dX6_isPart_99 : decode cX6_isPart 99 = .ok (.ifCond .ne 8, 3) := by decide +kernel
theorem dX6_isPart_102 : decode cX6_isPart 102 = .ok (.aload_n 0, 1) := by decide +kernel
theorem dX6_isPart_103 : decode cX6_isPart 103 = .ok (.invokevirtual 130, 3) := by decide +kernel
theorem dX6_isPart_106 : decode cX6_isPart 106 = .ok (.ireturn, 1) := by decide +kernel
theorem dX6_isPart_107 : decode cX6_isPart 107 = .ok (.aload_n 0, 1) := by decide +kernel
theorem dX6_isPart_108 : decode cX6_isPart 108 = .ok (.getfield 22, 3) := by decide +kernel
theorem dX6_isPart_111 : decode cX6_isPart 111 = .ok (.iconst 4, 1) := by decide +kernel
theorem dX6_isPart_112 : decode cX6_isPart 112 = .ok (.aload_n 0, 1) := by decide +kernel
theorem dX6_isPart_113 : decode cX6_isPart 113 = .ok (.getfield 137, 3) := by decide +kernel
theorem dX6_isPart_116 : decode cX6_isPart 116 = .ok (.imul, 1) := by decide +kernel
theorem dX6_isPart_117 : decode cX6_isPart 117 = .ok (.iconst 1, 1) := by decide +kernel
theorem dX6_isPart_118 : decode cX6_isPart 118 = .ok (.iadd, 1) := by decide +kernel
theorem dX6_isPart_119 : decode cX6_isPart 119 = .ok (.iconst 1, 1) := by decide +kernel
theorem dX6_isPart_120 : decode cX6_isPart 120 = .ok (.aload_n 0, 1) := by decide +kernel
theorem dX6_isPart_121 : decode cX6_isPart 121 = .ok (.getfield 19, 3) := by decide +kernel
theorem dX6_isPart_124 : decode cX6_isPart 124 = .ok (.aload_n 0, 1) := by decide +kernel
theorem dX6_isPart_125 : decode cX6_isPart 125 = .ok (.getfield 120, 3) := by decide +kernel
theorem dX6_isPart_128 : decode cX6_isPart 128 = .ok (.iaload, 1) := by decide +kernel
theorem dX6_isPart_129 : decode cX6_isPart 129 = .ok (.iadd, 1) := by decide +kernel
theorem dX6_isPart_130 : decode cX6_isPart 130 = .ok (.bipush 48, 2) := by decide +kernel
theorem dX6_isPart_132 : decode cX6_isPart 132 = .ok (.isub, 1) := by decide +kernel
theorem dX6_isPart_133 : decode cX6_isPart 133 = .ok (.iastore, 1) := by decide +kernel
theorem dX6_isPart_134 : decode cX6_isPart 134 = .ok (.aload_n 0, 1) := by decide +kernel
theorem dX6_isPart_135 : decode cX6_isPart 135 = .ok (.getfield 22, 3) := by decide +kernel
theorem dX6_isPart_138 : decode cX6_isPart 138 = .ok (.iconst 4, 1) := by decide +kernel
theorem dX6_isPart_139 : decode cX6_isPart 139 = .ok (.aload_n 0, 1) := by decide +kernel
theorem dX6_isPart_140 : decode cX6_isPart 140 = .ok (.getfield 137, 3) := by decide +kernel
theorem dX6_isPart_143 : decode cX6_isPart 143 = .ok (.imul, 1) := by decide +kernel
theorem dX6_isPart_144 : decode cX6_isPart 144 = .ok (.iconst 2, 1) := by decide +kernel
theorem dX6_isPart_145 : decode cX6_isPart 145 = .ok (.iadd, 1) := by decide +kernel
theorem dX6_isPart_146 : decode cX6_isPart 146 = .ok (.iconst 0, 1) := by decide +kernel
theorem dX6_isPart_147 : decode cX6_isPart 147 = .ok (.iastore, 1) := by decide +kernel
theorem dX6_isPart_148 : decode cX6_isPart 148 = .ok (.aload_n 0, 1) := by decide +kernel
theorem dX6_isPart_149 : decode cX6_isPart 149 = .ok (.getfield 22, 3) := by decide +kernel
theorem dX6_isPart_152 : decode cX6_isPart 152 = .ok (.iconst 4, 1) := by decide +kernel
theorem dX6_isPart_153 : decode cX6_isPart 153 = .ok (.aload_n 0, 1) := by decide +kernel
theorem dX6_isPart_154 : decode cX6_isPart 154 = .ok (.getfield 137, 3) := by decide +kernel
theorem dX6_isPart_157 : decode cX6_isPart 157 = .ok (.imul, 1) := by decide +kernel
theorem dX6_isPart_158 : decode cX6_isPart 158 = .ok (.iconst 3, 1) := by decide +kernel
theorem dX6_isPart_159 : decode cX6_isPart 159 = .ok (.iadd, 1) := by decide +kernel
theorem dX6_isPart_160 : decode cX6_isPart 160 = .ok (.iconst 0, 1) := by decide +kernel
theorem dX6_isPart_161 : decode cX6_isPart 161 = .ok (.iastore, 1) := by decide +kernel
theorem dX6_isPart_162 : decode cX6_isPart 162 = .ok (.aload_n 0, 1) := by decide +kernel
theorem dX6_isPart_163 : decode cX6_isPart 163 = .ok (.dup, 1) := by decide +kernel
theorem dX6_isPart_164 : decode cX6_isPart 164 = .ok (.getfield 120, 3) := by decide +kernel
theorem dX6_isPart_167 : decode cX6_isPart 167 = .ok (.iconst 1, 1) := by decide +kernel
theorem dX6_isPart_168 : decode cX6_isPart 168 = .ok (.iadd, 1) := by decide +kernel
theorem dX6_isPart_169 : decode cX6_isPart 169 = .ok (.putfield 120, 3) := by decide +kernel
theorem dX6_isPart_172 : decode cX6_isPart 172 = .ok (.iconst 1, 1) := by decide +kernel
theorem dX6_isPart_173 : decode cX6_isPart 173 = .ok (.ireturn, 1) := by decide +kernel
set_option maxRecDepth 20000 in
theorem ggX6_isText_X6_isPart : GoodIn wsX6_isText wsX6_isPart := goodIn_r _ [9, 10, 2, 1, 11, 12, 13, 14, 8, 15, 16, 17, 18, 19, 20, 4, 21, 22, 23, 24, 25, 26, 27, 3, 28, 29, 30, 31, 32, 33, 34, 35, 36, 37, 38, 39, 40, 41, 42, 43] (by decide +kernel) (by decide +kernel)
set_option maxRecDepth 20000 in
theorem gX6_isText_X6_isPart : GoodIn wsX6_isText (wsV RX6 146 RX6 yX6_isPart wsX6_isPart) := goodIn_app (goodIn_of _ (by decide +kernel)) ggX6_isText_X6_isPart
set_option maxRecDepth 20000 in
theorem ggX6_isText_X6_isAt : GoodIn wsX6_isText wsX6_isAt := goodIn_r _ [20, 1, 4, 11, 21, 22, 8, 23, 32, 33, 34, 35, 36, 37, 38, 39, 40, 41, 42, 43] (by decide +kernel) (by decide +kernel)
set_option maxRecDepth 20000 in
theorem gX6_isText_X6_isAt : GoodIn wsX6_isText (wsV RX6 127 RX6 yX6_isAt wsX6_isAt) := goodIn_app (goodIn_of _ (by decide +kernel)) ggX6_isText_X6_isAt
theorem dX6_isText_0 : decode cX6_isText 0 = .ok (.aload_n 0, 1) := by decide +kernel
theorem dX6_isText_1 : decode cX6_isText 1 = .ok (.iconst 0, 1) := by decide +kernel
theorem dX6_isText_2 : decode cX6_isText 2 = .ok (.putfield 120, 3) := by decide +kernel
theorem dX6_isText_5 : decode cX6_isText 5 = .ok (.aload_n 0, 1) := by decide +kernel
theorem dX6_isText_6 : decode cX6_isText 6 = .ok (.iconst 0, 1) := by decide +kernel
theorem dX6_isText_7 : decode cX6_isText 7 = .ok (.putfield 137, 3) := by decide +kernel
theorem dX6_isText_10 : decode cX6_isText 10 = .ok (.aload_n 0, 1) := by decide +kernel
theorem dX6_isText_11 : decode cX6_isText 11 = .ok (.iconst 0, 1) := by decide +kernel
theorem dX6_isText_12 : decode cX6_isText 12 = .ok (.putfield 123, 3) := by decide +kernel
theorem dX6_isText_15 : decode cX6_isText 15 = .ok (.iconst 1, 1) := by decide +kernel
theorem dX6_isText_16 : decode cX6_isText 16 = .ok (.istore_n 1, 1) := by decide +kernel
theorem dX6_isText_17 : decode cX6_isText 17 = .ok (.iload_n 1, 1) := by decide +kernel
theorem dX6_isText_18 : decode cX6_isText 18 = .ok (.ifCond .eq 52, 3) := by decide +kernel
theorem dX6_isText_21 : decode cX6_isText 21 = .ok (.aload_n 0, 1) := by decide +kernel
theorem dX6_isText_22 : decode cX6_isText 22 = .ok (.invokevirtual 146, 3) := by decide +kernel
theorem dX6_isText_25 : decode cX6_isText 25 = .ok (.ifCond .ne 5, 3) := by decide +kernel
theorem dX6_isText_28 : decode cX6_isText 28 = .ok (.iconst 0, 1) := by decide +kernel
theorem dX6_isText_29 : decode cX6_isText 29 = .ok (.ireturn, 1) := by decide +kernel
theorem dX6_isText_30 : decode cX6_isText 30 = .ok (.aload_n 0, 1) := by decide +kernel
theorem dX6_isText_31 : decode cX6_isText 31 = .ok (.dup, 1) := by decide +kernel
theorem dX6_isText_32 : decode cX6_isText 32 = .ok (.getfield 137, 3) := by decide +kernel
theorem dX6_isText_35 : decode cX6_isText 35 = .ok (.iconst 1, 1) := by decide +kernel
theorem dX6_isText_36 : decode cX6_isText 36 = .ok (.iadd, 1) := by decide +kernel
theorem dX6_isText_37 : decode cX6_isText 37 = .ok (.putfield 137, 3) := by decide +kernel
theorem dX6_isText_40 : decode cX6_isText 40 = .ok (.aload_n 0, 1) := by decide +kernel
theorem dX6_isText_41 : decode cX6_isText 41 = .ok (.bipush 59, 2) := by decide +kernel
theorem dX6_isText_43 : decode cX6_isText 43 = .ok (.bipush 59, 2) := by decide +kernel
theorem dX6_isText_45 : decode cX6_isText 45 = .ok (.invokevirtual 127, 3) := by decide +kernel
theorem dX6_isText_48 : decode cX6_isText 48 = .ok (.istore_n 1, 1) := by decide +kernel
theorem dX6_isText_49 : decode cX6_isText 49 = .ok (.aload_n 0, 1) := by decide +kernel
theorem dX6_isText_50 : decode cX6_isText 50 = .ok (.dup, 1) := by decide +kernel
theorem dX6_isText_51 : decode cX6_isText 51 = .ok (.getfield 120, 3) := by decide +kernel
theorem dX6_isText_54 : decode cX6_isText 54 = .ok (.iload_n 1, 1) := by decide +kernel
theorem dX6_isText_55 : decode cX6_isText 55 = .ok (.ifCond .eq 7, 3) := by decide +kernel
theorem dX6_isText_58 : decode cX6_isText 58 = .ok (.iconst 1, 1) := by decide +kernel
theorem dX6_isText_59 : decode cX6_isText 59 = .ok (.goto 4, 3) := by decide +kernel
theorem dX6_isText_62 : decode cX6_isText 62 = .ok (.iconst 0, 1) := by decide +kernel
theorem dX6_isText_63 : decode cX6_isText 63 = .ok (.iadd, 1) := by decide +kernel
theorem dX6_isText_64 : decode cX6_isText 64 = .ok (.putfield 120, 3) := by decide +kernel
theorem dX6_isText_67 : decode cX6_isText 67 = .ok (.goto (-50), 3) := by decide +kernel
theorem dX6_isText_70 : decode cX6_isText 70 = .ok (.aload_n 0, 1) := by decide +kernel
theorem dX6_isText_71 : decode cX6_isText 71 = .ok (.aload_n 0, 1) := by decide +kernel
theorem dX6_isText_72 : decode cX6_isText 72 = .ok (.getfield 120, 3) := by decide +kernel
theorem dX6_isText_75 : decode cX6_isText 75 = .ok (.aload_n 0, 1) := by decide +kernel
theorem dX6_isText_76 : decode cX6_isText 76 = .ok (.getfield 117, 3) := by decide +kernel
theorem dX6_isText_79 : decode cX6_isText 79 = .ok (.if_icmp .ge 7, 3) := by decide +kernel
theorem dX6_isText_82 : decode cX6_isText 82 = .ok (.iconst 1, 1) := by decide +kernel
theorem dX6_isText_83 : decode cX6_isText 83 = .ok (.goto 4, 3) := by decide +kernel
theorem dX6_isText_86 : decode cX6_isText 86 = .ok (.iconst 0, 1) := by decide +kernel
theorem dX6_isText_87 : decode cX6_isText 87 = .ok (.putfield 123, 3) := by decide +kernel
theorem dX6_isText_90 : decode cX6_isText 90 = .ok (.aload_n 0, 1) := by decide +kernel
theorem dX6_isText_91 : decode cX6_isText 91 = .ok (.getfield 120, 3) := by decide +kernel
theorem dX6_isText_94 : decode cX6_isText 94 = .ok (.aload_n 0, 1) := by decide +kernel
theorem dX6_isText_95 : decode cX6_isText 95 = .ok (.getfield 117, 3) := by decide +kernel
theorem dX6_isText_98 : decode cX6_isText 98 = .ok (.if_icmp .ne 7, 3) := by decide +kernel
theorem dX6_isText_101 : decode cX6_isText 101 = .ok (.iconst 1, 1) := by decide +kernel
theorem dX6_isText_102 : decode cX6_isText 102 = .ok (.goto 4, 3) := by decide +kernel
theorem dX6_isText_105 : decode cX6_isText 105 = .ok (.iconst 0, 1) := by decide +kernel
theorem dX6_isText_106 : decode cX6_isText 106 = .ok (.ireturn, 1) := by decide +kernel
set_option maxRecDepth 20000 in
theorem ggX6_firstError_X6_isText : GoodIn wsX6_firstError wsX6_isText := goodIn_r _ [9, 3, 10, 2, 4, 11, 12, 13, 8, 14, 15, 16, 17, 18, 19, 20, 21, 22, 23, 24, 25, 26, 27, 28, 29, 30, 31, 32, 33, 34, 35, 36, 37, 38, 39, 40, 41, 42, 43, 44, 45, 46, 47, 48] (by decide +kernel) (by decide +kernel)
set_option maxRecDepth 20000 in
theorem gX6_firstError_X6_isText : GoodIn wsX6_firstError (wsV RX6 149 RX6 yX6_isText wsX6_isText) := goodIn_app (goodIn_of _ (by decide +kernel)) ggX6_firstError_X6_isText
theorem dX6_firstError_0 : decode cX6_firstError 0 = .ok (.aload_n 0, 1) := by decide +kernel
theorem dX6_firstError_1 : decode cX6_firstError 1 = .ok (.iconst 0, 1) := by decide +kernel
theorem dX6_firstError_2 : decode cX6_firstError 2 = .ok (.putfield 29, 3) := by decide +kernel
theorem dX6_firstError_5 : decode cX6_firstError 5 = .ok (.aload_n 0, 1) := by decide +kernel
theorem dX6_firstError_6 : decode cX6_firstError 6 = .ok (.invokevirtual 149, 3) := by decide +kernel
theorem dX6_firstError_9 : decode cX6_firstError 9 = .ok (.istore_n 1, 1) := by decide +kernel
theorem dX6_firstError_10 : decode cX6_firstError 10 = .ok (.iload_n 1, 1) := by decide +kernel
theorem dX6_firstError_11 : decode cX6_firstError 11 = .ok (.ifCond .ne 17, 3) := by decide +kernel
theorem dX6_firstError_14 : decode cX6_firstError 14 = .ok (.aload_n 0, 1) := by decide +kernel
theorem dX6_firstError_15 : decode cX6_firstError 15 = .ok (.getfield 123, 3) := by decide +kernel
theorem dX6_firstError_18 : decode cX6_firstError 18 = .ok (.ifCond .eq 10, 3) := by decide +kernel
theorem dX6_firstError_21 : decode cX6_firstError 21 = .ok (.aload_n 0, 1) := by decide +kernel
theorem dX6_firstError_22 : decode cX6_firstError 22 = .ok (.getfield 120, 3) := by decide +kernel
theorem dX6_firstError_25 : decode cX6_firstError 25 = .ok (.goto 7, 3) := by decide +kernel
theorem dX6_firstError_28 : decode cX6_firstError 28 = .ok (.aload_n 0, 1) := by decide +kernel
theorem dX6_firstError_29 : decode cX6_firstError 29 = .ok (.getfield 117, 3) := by decide +kernel
theorem dX6_firstError_32 : decode cX6_firstError 32 = .ok (.ireturn, 1) := by decide +kernel
set_option maxRecDepth 20000 in
theorem ggX6_withResult_X6_of : GoodIn wsX6_withResult wsX6_of := goodIn_r _ [5] (by decide +kernel) (by decide +kernel)
set_option maxRecDepth 20000 in
theorem gX6_withResult_X6_of : GoodIn wsX6_withResult (va_wsS RX6 55 yX6_of wsX6_of) := goodIn_app (goodIn_of _ (by decide +kernel)) ggX6_withResult_X6_of
theorem dX6_withResult_0 : decode cX6_withResult 0 = .ok (.iconst 0, 1) := by decide +kernel
theorem dX6_withResult_1 : decode cX6_withResult 1 = .ok (.istore_n 1, 1) := by decide +kernel
theorem dX6_withResult_2 : decode cX6_withResult 2 = .ok (.iconst 0, 1) := by decide +kernel
theorem dX6_withResult_3 : decode cX6_withResult 3 = .ok (.istore_n 2, 1) := by decide +kernel
theorem dX6_withResult_4 : decode cX6_withResult 4 = .ok (.iload_n 2, 1) := by decide +kernel
theorem dX6_withResult_5 : decode cX6_withResult 5 = .ok (.aload_n 0, 1) := by decide +kernel
theorem dX6_withResult_6 : decode cX6_withResult 6 = .ok (.getfield 7, 3) := by decide +kernel
theorem dX6_withResult_9 : decode cX6_withResult 9 = .ok (.iconst 5, 1) := by decide +kernel
theorem dX6_withResult_10 : decode cX6_withResult 10 = .ok (.iaload, 1) := by decide +kernel
theorem dX6_withResult_11 : decode cX6_withResult 11 = .ok (.if_icmp .ge 30, 3) := by decide +kernel
theorem dX6_withResult_14 : decode cX6_withResult 14 = .ok (.iload_n 1, 1) := by decide +kernel
theorem dX6_withResult_15 : decode cX6_withResult 15 = .ok (.aload_n 0, 1) := by decide +kernel
theorem dX6_withResult_16 : decode cX6_withResult 16 = .ok (.getfield 7, 3) := by decide +kernel
theorem dX6_withResult_19 : decode cX6_withResult 19 = .ok (.iload_n 2, 1) := by decide +kernel
theorem dX6_withResult_20 : decode cX6_withResult 20 = .ok (.bipush 6, 2) := by decide +kernel
theorem dX6_withResult_22 : decode cX6_withResult 22 = .ok (.invokestatic 55, 3) := by decide +kernel
theorem dX6_withResult_25 : decode cX6_withResult 25 = .ok (.ifCond .ne 7, 3) := by decide +kernel
theorem dX6_withResult_28 : decode cX6_withResult 28 = .ok (.iconst 0, 1) := by decide +kernel
theorem dX6_withResult_29 : decode cX6_withResult 29 = .ok (.goto 4, 3) := by decide +kernel
theorem dX6_withResult_32 : decode cX6_withResult 32 = .ok (.iconst 1, 1) := by decide +kernel
theorem dX6_withResult_33 : decode cX6_withResult 33 = .ok (.iadd, 1) := by decide +kernel
theorem dX6_withResult_34 : decode cX6_withResult 34 = .ok (.istore_n 1, 1) := by decide +kernel
theorem dX6_withResult_35 : decode cX6_withResult 35 = .ok (.iinc 2 1, 3) := by decide +kernel
theorem dX6_withResult_38 : decode cX6_withResult 38 = .ok (.goto (-34), 3) := by decide +kernel
theorem dX6_withResult_41 : decode cX6_withResult 41 = .ok (.iload_n 1, 1) := by decide +kernel
theorem dX6_withResult_42 : decode cX6_withResult 42 = .ok (.ireturn, 1) := by decide +kernel
set_option maxRecDepth 20000 in
theorem ggX6_report_X6_isText : GoodIn wsX6_report wsX6_isText := goodIn_r _ [10, 11, 2, 12, 5, 13, 14, 15, 9, 16, 3, 17, 18, 19, 20, 21, 22, 23, 24, 25, 26, 27, 28, 29, 30, 31, 32, 33, 34, 35, 36, 37, 65, 66, 67, 68, 69, 70, 71, 72, 73, 74, 75, 76] (by decide +kernel) (by decide +kernel)
set_option maxRecDepth 20000 in
theorem gX6_report_X6_isText : GoodIn wsX6_report (wsV RX6 149 RX6 yX6_isText wsX6_isText) := goodIn_app (goodIn_of _ (by decide +kernel)) ggX6_report_X6_isText
set_option maxRecDepth 20000 in
theorem ggX6_report_X6_fails : GoodIn wsX6_report wsX6_fails := goodIn_r _ [41, 1, 65, 66, 67, 68, 69, 70, 71, 72, 73, 74, 75, 76] (by decide +kernel) (by decide +kernel)
set_option maxRecDepth 20000 in
theorem gX6_report_X6_fails : GoodIn wsX6_report (wsV RX6 44 RX6 yX6_fails wsX6_fails) := goodIn_app (goodIn_of _ (by decide +kernel)) ggX6_report_X6_fails
set_option maxRecDepth 20000 in
theorem ggX6_report_X6_isMatch : GoodIn wsX6_report wsX6_isMatch := goodIn_r _ [45, 4, 27, 28, 9, 29, 65, 66, 67, 68, 69, 70, 71, 72, 73, 74, 75, 76] (by decide +kernel) (by decide +kernel)
set_option maxRecDepth 20000 in
theorem gX6_report_X6_isMatch : GoodIn wsX6_report (wsV RX6 105 RX6 yX6_isMatch wsX6_isMatch) := goodIn_app (goodIn_of _ (by decide +kernel)) ggX6_report_X6_isMatch
set_option maxRecDepth 20000 in
theorem ggX6_report_X6_of : GoodIn wsX6_report wsX6_of := goodIn_r _ [48] (by decide +kernel) (by decide +kernel)
set_option maxRecDepth 20000 in
theorem gX6_report_X6_of : GoodIn wsX6_report (va_wsS RX6 55 yX6_of wsX6_of) := goodIn_app (goodIn_of _ (by decide +kernel)) ggX6_report_X6_of
set_option maxRecDepth 20000 in
theorem ggX6_report_X6_saves : GoodIn wsX6_report wsX6_saves := goodIn_r _ [52, 53, 54, 4, 55, 56, 9, 57, 65, 66, 67, 68, 69, 70, 71, 72, 73, 74, 75, 76] (by decide +kernel) (by decide +kernel)
set_option maxRecDepth 20000 in
theorem gX6_report_X6_saves : GoodIn wsX6_report (wsV RX6 52 RX6 yX6_saves wsX6_saves) := goodIn_app (goodIn_of _ (by decide +kernel)) ggX6_report_X6_saves
set_option maxRecDepth 20000 in
theorem ggX6_report_X6_gives : GoodIn wsX6_report wsX6_gives := goodIn_r _ [60] (by decide +kernel) (by decide +kernel)
set_option maxRecDepth 20000 in
theorem gX6_report_X6_gives : GoodIn wsX6_report (va_wsS RX6 109 yX6_gives wsX6_gives) := goodIn_app (goodIn_of _ (by decide +kernel)) ggX6_report_X6_gives
set_option maxRecDepth 20000 in
theorem ggX6_report_X6_withResult : GoodIn wsX6_report wsX6_withResult := goodIn_r _ [64, 4, 46, 47, 9, 48, 65, 66, 67, 68, 69, 70, 71, 72, 73, 74, 75, 76] (by decide +kernel) (by decide +kernel)
set_option maxRecDepth 20000 in
theorem gX6_report_X6_withResult : GoodIn wsX6_report (wsV RX6 152 RX6 yX6_withResult wsX6_withResult) := goodIn_app (goodIn_of _ (by decide +kernel)) ggX6_report_X6_withResult
theorem dX6_report_0 : decode cX6_report 0 = .ok (.aload_n 0, 1) := by decide +kernel
theorem dX6_report_1 : decode cX6_report 1 = .ok (.iconst 0, 1) := by decide +kernel
theorem dX6_report_2 : decode cX6_report 2 = .ok (.putfield 29, 3) := by decide +kernel
theorem dX6_report_5 : decode cX6_report 5 = .ok (.aload_n 0, 1) := by decide +kernel
theorem dX6_report_6 : decode cX6_report 6 = .ok (.invokevirtual 149, 3) := by decide +kernel
theorem dX6_report_9 : decode cX6_report 9 = .ok (.ifCond .ne 9, 3) := by decide +kernel
theorem dX6_report_12 : decode cX6_report 12 = .ok (.aload_n 0, 1) := by decide +kernel
theorem dX6_report_13 : decode cX6_report 13 = .ok (.iconst 1, 1) := by decide +kernel
theorem dX6_report_14 : decode cX6_report 14 = .ok (.invokevirtual 44, 3) := by decide +kernel
theorem dX6_report_17 : decode cX6_report 17 = .ok (.ireturn, 1) := by decide +kernel
theorem dX6_report_18 : decode cX6_report 18 = .ok (.iconst 0, 1) := by decide +kernel
theorem dX6_report_19 : decode cX6_report 19 = .ok (.istore_n 1, 1) := by decide +kernel
theorem dX6_report_20 : decode cX6_report 20 = .ok (.iload_n 1, 1) := by decide +kernel
theorem dX6_report_21 : decode cX6_report 21 = .ok (.aload_n 0, 1) := by decide +kernel
theorem dX6_report_22 : decode cX6_report 22 = .ok (.getfield 137, 3) := by decide +kernel
theorem dX6_report_25 : decode cX6_report 25 = .ok (.if_icmp .ge 50, 3) := by decide +kernel
theorem dX6_report_28 : decode cX6_report 28 = .ok (.aload_n 0, 1) := by decide +kernel
theorem dX6_report_29 : decode cX6_report 29 = .ok (.aload_n 0, 1) := by decide +kernel
theorem dX6_report_30 : decode cX6_report 30 = .ok (.getfield 22, 3) := by decide +kernel
theorem dX6_report_33 : decode cX6_report 33 = .ok (.iconst 4, 1) := by decide +kernel
theorem dX6_report_34 : decode cX6_report 34 = .ok (.iload_n 1, 1) := by decide +kernel
theorem dX6_report_35 : decode cX6_report 35 = .ok (.imul, 1) := by decide +kernel
theorem dX6_report_36 : decode cX6_report 36 = .ok (.iaload, 1) := by decide +kernel
theorem dX6_report_37 : decode cX6_report 37 = .ok (.invokevirtual 105, 3) := by decide +kernel
theorem dX6_report_40 : decode cX6_report 40 = .ok (.ifCond .eq 23, 3) := by decide +kernel
theorem dX6_report_43 : decode cX6_report 43 = .ok (.aload_n 0, 1) := by decide +kernel
theorem dX6_report_44 : decode cX6_report 44 = .ok (.getfield 7, 3) := by decide +kernel
theorem dX6_report_47 : decode cX6_report 47 = .ok (.aload_n 0, 1) := by decide +kernel
theorem dX6_report_48 : decode cX6_report 48 = .ok (.getfield 22, 3) := by decide +kernel
theorem dX6_report_51 : decode cX6_report 51 = .ok (.iconst 4, 1) := by decide +kernel
theorem dX6_report_52 : decode cX6_report 52 = .ok (.iload_n 1, 1) := by decide +kernel
theorem dX6_report_53 : decode cX6_report 53 = .ok (.imul, 1) := by decide +kernel
theorem dX6_report_54 : decode cX6_report 54 = .ok (.iaload, 1) := by decide +kernel
theorem dX6_report_55 : decode cX6_report 55 = .ok (.iconst 3, 1) := by decide +kernel
theorem dX6_report_56 : decode cX6_report 56 = .ok (.invokestatic 55, 3) := by decide +kernel
theorem dX6_report_59 : decode cX6_report 59 = .ok (.iconst (-1), 1) := by decide +kernel
theorem dX6_report_60 : decode cX6_report 60 = .ok (.if_icmp .ne 9, 3) := by decide +kernel
theorem dX6_report_63 : decode cX6_report 63 = .ok (.aload_n 0, 1) := by decide +kernel
theorem dX6_report_64 : decode cX6_report 64 = .ok (.iconst 2, 1) := by decide +kernel
theorem dX6_report_65 : decode cX6_report 65 = .ok (.invokevirtual 44, 3) := by decide +kernel
theorem dX6_report_68 : decode cX6_report 68 = .ok (.ireturn, 1) := by decide +kernel
theorem dX6_report_69 : decode cX6_report 69 = .ok (.iinc 1 1, 3) := by decide +kernel
theorem dX6_report_72 : decode cX6_report 72 = .ok (.goto (-52), 3) := by decide +kernel
theorem dX6_report_75 : decode cX6_report 75 = .ok (.aload_n 0, 1) := by decide +kernel
theorem dX6_report_76 : decode cX6_report 76 = .ok (.invokevirtual 52, 3) := by decide +kernel
theorem dX6_report_79 : decode cX6_report 79 = .ok (.aload_n 0, 1) := by decide +kernel
theorem dX6_report_80 : decode cX6_report 80 = .ok (.iconst 0, 1) := by decide +kernel
theorem dX6_report_81 : decode cX6_report 81 = .ok (.putfield 117, 3) := by decide +kernel
theorem dX6_report_84 : decode cX6_report 84 = .ok (.iconst 0, 1) := by decide +kernel
theorem dX6_report_85 : decode cX6_report 85 = .ok (.istore_n 1, 1) := by decide +kernel
theorem dX6_report_86 : decode cX6_report 86 = .ok (.iload_n 1, 1) := by decide +kernel
theorem dX6_report_87 : decode cX6_report 87 = .ok (.aload_n 0, 1) := by decide +kernel
theorem dX6_report_88 : decode cX6_report 88 = .ok (.getfield 137, 3) := by decide +kernel
theorem dX6_report_91 : decode cX6_report 91 = .ok (.if_icmp .ge 54, 3) := by decide +kernel
theorem dX6_report_94 : decode cX6_report 94 = .ok (.aload_n 0, 1) := by decide +kernel
theorem dX6_report_95 : decode cX6_report 95 = .ok (.getfield 7, 3) := by decide +kernel
theorem dX6_report_98 : decode cX6_report 98 = .ok (.aload_n 0, 1) := by decide +kernel
theorem dX6_report_99 : decode cX6_report 99 = .ok (.getfield 22, 3) := by decide +kernel
theorem dX6_report_102 : decode cX6_report 102 = .ok (.iconst 4, 1) := by decide +kernel
theorem dX6_report_103 : decode cX6_report 103 = .ok (.iload_n 1, 1) := by decide +kernel
theorem dX6_report_104 : decode cX6_report 104 = .ok (.imul, 1) := by decide +kernel
theorem dX6_report_105 : decode cX6_report 105 = .ok (.iaload, 1) := by decide +kernel
theorem dX6_report_106 : decode cX6_report 106 = .ok (.aload_n 0, 1) := by decide +kernel
theorem dX6_report_107 : decode cX6_report 107 = .ok (.getfield 22, 3) := by decide +kernel
theorem dX6_report_110 : decode cX6_report 110 = .ok (.iconst 4, 1) := by decide +kernel
theorem dX6_report_111 : decode cX6_report 111 = .ok (.iload_n 1, 1) := by decide +kernel
theorem dX6_report_112 : decode cX6_report 112 = .ok (.imul, 1) := by decide +kernel
theorem dX6_report_113 : decode cX6_report 113 = .ok (.iconst 1, 1) := by decide +kernel
theorem dX6_report_114 : decode cX6_report 114 = .ok (.iadd, 1) := by decide +kernel
theorem dX6_report_115 : decode cX6_report 115 = .ok (.iaload, 1) := by decide +kernel
theorem dX6_report_116 : decode cX6_report 116 = .ok (.aload_n 0, 1) := by decide +kernel
theorem dX6_report_117 : decode cX6_report 117 = .ok (.getfield 22, 3) := by decide +kernel
theorem dX6_report_120 : decode cX6_report 120 = .ok (.iconst 4, 1) := by decide +kernel
theorem dX6_report_121 : decode cX6_report 121 = .ok (.iload_n 1, 1) := by decide +kernel
theorem dX6_report_122 : decode cX6_report 122 = .ok (.imul, 1) := by decide +kernel
theorem dX6_report_123 : decode cX6_report 123 = .ok (.iconst 2, 1) := by decide +kernel
theorem dX6_report_124 : decode cX6_report 124 = .ok (.iadd, 1) := by decide +kernel
theorem dX6_report_125 : decode cX6_report 125 = .ok (.iaload, 1) := by decide +kernel
theorem dX6_report_126 : decode cX6_report 126 = .ok (.aload_n 0, 1) := by decide +kernel
theorem dX6_report_127 : decode cX6_report 127 = .ok (.getfield 22, 3) := by decide +kernel
theorem dX6_report_130 : decode cX6_report 130 = .ok (.iconst 4, 1) := by decide +kernel
theorem dX6_report_131 : decode cX6_report 131 = .ok (.iload_n 1, 1) := by decide +kernel
theorem dX6_report_132 : decode cX6_report 132 = .ok (.imul, 1) := by decide +kernel
theorem dX6_report_133 : decode cX6_report 133 = .ok (.iconst 3, 1) := by decide +kernel
theorem dX6_report_134 : decode cX6_report 134 = .ok (.iadd, 1) := by decide +kernel
theorem dX6_report_135 : decode cX6_report 135 = .ok (.iaload, 1) := by decide +kernel
theorem dX6_report_136 : decode cX6_report 136 = .ok (.invokestatic 109, 3) := by decide +kernel
theorem dX6_report_139 : decode cX6_report 139 = .ok (.iinc 1 1, 3) := by decide +kernel
theorem dX6_report_142 : decode cX6_report 142 = .ok (.goto (-56), 3) := by decide +kernel
theorem dX6_report_145 : decode cX6_report 145 = .ok (.aload_n 0, 1) := by decide +kernel
theorem dX6_report_146 : decode cX6_report 146 = .ok (.invokevirtual 152, 3) := by decide +kernel
theorem dX6_report_149 : decode cX6_report 149 = .ok (.ireturn, 1) := by decide +kernel
set_option maxRecDepth 20000 in
theorem ggX6_ofMatch_X6_of : GoodIn wsX6_ofMatch wsX6_of := goodIn_r _ [5] (by decide +kernel) (by decide +kernel)
set_option maxRecDepth 20000 in
theorem gX6_ofMatch_X6_of : GoodIn wsX6_ofMatch (va_wsS RX6 55 yX6_of wsX6_of) := goodIn_app (goodIn_of _ (by decide +kernel)) ggX6_ofMatch_X6_of
set_option maxRecDepth 20000 in
theorem ggX6_ofMatch_X6_scoreOf : GoodIn wsX6_ofMatch wsX6_scoreOf := goodIn_r _ [8, 2, 3, 4, 5] (by decide +kernel) (by decide +kernel)
set_option maxRecDepth 20000 in
theorem gX6_ofMatch_X6_scoreOf : GoodIn wsX6_ofMatch (va_wsS RX6 89 yX6_scoreOf wsX6_scoreOf) := goodIn_app (goodIn_of _ (by decide +kernel)) ggX6_ofMatch_X6_scoreOf
theorem dX6_ofMatch_0 : decode cX6_ofMatch 0 = .ok (.iload_n 2, 1) := by decide +kernel
theorem dX6_ofMatch_1 : decode cX6_ofMatch 1 = .ok (.bipush 6, 2) := by decide +kernel
theorem dX6_ofMatch_3 : decode cX6_ofMatch 3 = .ok (.if_icmp .ge 13, 3) := by decide +kernel
theorem dX6_ofMatch_6 : decode cX6_ofMatch 6 = .ok (.aload_n 0, 1) := by decide +kernel
theorem dX6_ofMatch_7 : decode cX6_ofMatch 7 = .ok (.getfield 7, 3) := by decide +kernel
theorem dX6_ofMatch_10 : decode cX6_ofMatch 10 = .ok (.iload_n 1, 1) := by decide +kernel
theorem dX6_ofMatch_11 : decode cX6_ofMatch 11 = .ok (.iload_n 2, 1) := by decide +kernel
theorem dX6_ofMatch_12 : decode cX6_ofMatch 12 = .ok (.invokestatic 55, 3) := by decide +kernel
theorem dX6_ofMatch_15 : decode cX6_ofMatch 15 = .ok (.ireturn, 1) := by decide +kernel
theorem dX6_ofMatch_16 : decode cX6_ofMatch 16 = .ok (.aload_n 0, 1) := by decide +kernel
theorem dX6_ofMatch_17 : decode cX6_ofMatch 17 = .ok (.getfield 7, 3) := by decide +kernel
theorem dX6_ofMatch_20 : decode cX6_ofMatch 20 = .ok (.iload_n 1, 1) := by decide +kernel
theorem dX6_ofMatch_21 : decode cX6_ofMatch 21 = .ok (.bipush 6, 2) := by decide +kernel
theorem dX6_ofMatch_23 : decode cX6_ofMatch 23 = .ok (.invokestatic 55, 3) := by decide +kernel
theorem dX6_ofMatch_26 : decode cX6_ofMatch 26 = .ok (.istore_n 3, 1) := by decide +kernel
theorem dX6_ofMatch_27 : decode cX6_ofMatch 27 = .ok (.iload_n 2, 1) := by decide +kernel
theorem dX6_ofMatch_28 : decode cX6_ofMatch 28 = .ok (.bipush 8, 2) := by decide +kernel
theorem dX6_ofMatch_30 : decode cX6_ofMatch 30 = .ok (.if_icmp .ne 7, 3) := by decide +kernel
theorem dX6_ofMatch_33 : decode cX6_ofMatch 33 = .ok (.iload_n 3, 1) := by decide +kernel
theorem dX6_ofMatch_34 : decode cX6_ofMatch 34 = .ok (.goto 23, 3) := by decide +kernel
theorem dX6_ofMatch_37 : decode cX6_ofMatch 37 = .ok (.iload_n 3, 1) := by decide +kernel
theorem dX6_ofMatch_38 : decode cX6_ofMatch 38 = .ok (.ifCond .ne 7, 3) := by decide +kernel
theorem dX6_ofMatch_41 : decode cX6_ofMatch 41 = .ok (.iconst (-1), 1) := by decide +kernel
theorem dX6_ofMatch_42 : decode cX6_ofMatch 42 = .ok (.goto 15, 3) := by decide +kernel
theorem dX6_ofMatch_45 : decode cX6_ofMatch 45 = .ok (.aload_n 0, 1) := by decide +kernel
theorem dX6_ofMatch_46 : decode cX6_ofMatch 46 = .ok (.getfield 7, 3) := by decide +kernel
theorem dX6_ofMatch_49 : decode cX6_ofMatch 49 = .ok (.iload_n 1, 1) := by decide +kernel
theorem dX6_ofMatch_50 : decode cX6_ofMatch 50 = .ok (.iload_n 2, 1) := by decide +kernel
theorem dX6_ofMatch_51 : decode cX6_ofMatch 51 = .ok (.bipush 6, 2) := by decide +kernel
theorem dX6_ofMatch_53 : decode cX6_ofMatch 53 = .ok (.isub, 1) := by decide +kernel
theorem dX6_ofMatch_54 : decode cX6_ofMatch 54 = .ok (.invokestatic 89, 3) := by decide +kernel
theorem dX6_ofMatch_57 : decode cX6_ofMatch 57 = .ok (.ireturn, 1) := by decide +kernel
set_option maxRecDepth 20000 in
theorem ggX6_match_X6_isMatch : GoodIn wsX6_match wsX6_isMatch := goodIn_r _ [6, 7, 8, 9, 5, 10, 25, 26, 27, 28, 29, 30, 31, 32, 33, 34, 35, 36] (by decide +kernel) (by decide +kernel)
set_option maxRecDepth 20000 in
theorem gX6_match_X6_isMatch : GoodIn wsX6_match (wsV RX6 105 RX6 yX6_isMatch wsX6_isMatch) := goodIn_app (goodIn_of _ (by decide +kernel)) ggX6_match_X6_isMatch
set_option maxRecDepth 20000 in
theorem ggX6_match_X6_fails : GoodIn wsX6_match wsX6_fails := goodIn_r _ [14, 1, 25, 26, 27, 28, 29, 30, 31, 32, 33, 34, 35, 36] (by decide +kernel) (by decide +kernel)
set_option maxRecDepth 20000 in
theorem gX6_match_X6_fails : GoodIn wsX6_match (wsV RX6 44 RX6 yX6_fails wsX6_fails) := goodIn_app (goodIn_of _ (by decide +kernel)) ggX6_match_X6_fails
set_option maxRecDepth 20000 in
theorem ggX6_match_X6_in : GoodIn wsX6_match wsX6_in := goodIn_r _ [10] (by decide +kernel) (by decide +kernel)
set_option maxRecDepth 20000 in
theorem gX6_match_X6_in : GoodIn wsX6_match (va_wsS RX6 33 yX6_in wsX6_in) := goodIn_app (goodIn_of _ (by decide +kernel)) ggX6_match_X6_in
set_option maxRecDepth 20000 in
theorem ggX6_match_X6_ofMatch : GoodIn wsX6_match wsX6_ofMatch := goodIn_r _ [18, 7, 19, 20, 5, 21, 22, 23, 24, 25, 26, 27, 28, 29, 30, 31, 32, 33, 34, 35, 36] (by decide +kernel) (by decide +kernel)
set_option maxRecDepth 20000 in
theorem gX6_match_X6_ofMatch : GoodIn wsX6_match (wsV RX6 156 RX6 yX6_ofMatch wsX6_ofMatch) := goodIn_app (goodIn_of _ (by decide +kernel)) ggX6_match_X6_ofMatch
theorem dX6_match_0 : decode cX6_match 0 = .ok (.aload_n 0, 1) := by decide +kernel
theorem dX6_match_1 : decode cX6_match 1 = .ok (.iconst 0, 1) := by decide +kernel
theorem dX6_match_2 : decode cX6_match 2 = .ok (.putfield 29, 3) := by decide +kernel
theorem dX6_match_5 : decode cX6_match 5 = .ok (.aload_n 0, 1) := by decide +kernel
theorem dX6_match_6 : decode cX6_match 6 = .ok (.iload_n 1, 1) := by decide +kernel
theorem dX6_match_7 : decode cX6_match 7 = .ok (.invokevirtual 105, 3) := by decide +kernel
theorem dX6_match_10 : decode cX6_match 10 = .ok (.ifCond .ne 9, 3) := by decide +kernel
theorem dX6_match_13 : decode cX6_match 13 = .ok (.aload_n 0, 1) := by decide +kernel
theorem dX6_match_14 : decode cX6_match 14 = .ok (.iconst 1, 1) := by decide +kernel
theorem dX6_match_15 : decode cX6_match 15 = .ok (.invokevirtual 44, 3) := by decide +kernel
theorem dX6_match_18 : decode cX6_match 18 = .ok (.ireturn, 1) := by decide +kernel
theorem dX6_match_19 : decode cX6_match 19 = .ok (.iload_n 2, 1) := by decide +kernel
theorem dX6_match_20 : decode cX6_match 20 = .ok (.iconst 0, 1) := by decide +kernel
theorem dX6_match_21 : decode cX6_match 21 = .ok (.bipush 8, 2) := by decide +kernel
theorem dX6_match_23 : decode cX6_match 23 = .ok (.invokestatic 33, 3) := by decide +kernel
theorem dX6_match_26 : decode cX6_match 26 = .ok (.ifCond .eq 12, 3) := by decide +kernel
theorem dX6_match_29 : decode cX6_match 29 = .ok (.aload_n 0, 1) := by decide +kernel
theorem dX6_match_30 : decode cX6_match 30 = .ok (.iload_n 1, 1) := by decide +kernel
theorem dX6_match_31 : decode cX6_match 31 = .ok (.iload_n 2, 1) := by decide +kernel
theorem dX6_match_32 : decode cX6_match 32 = .ok (.invokevirtual 156, 3) := by decide +kernel
theorem dX6_match_35 : decode cX6_match 35 = .ok (.goto 8, 3) := by decide +kernel
theorem dX6_match_38 : decode cX6_match 38 = .ok (.aload_n 0, 1) := by decide +kernel
theorem dX6_match_39 : decode cX6_match 39 = .ok (.iconst 2, 1) := by decide +kernel
theorem dX6_match_40 : decode cX6_match 40 = .ok (.invokevirtual 44, 3) := by decide +kernel
theorem dX6_match_43 : decode cX6_match 43 = .ok (.ireturn, 1) := by decide +kernel
set_option maxRecDepth 20000 in
theorem ggX6_ofTeam_X6_points : GoodIn wsX6_ofTeam wsX6_points := goodIn_r _ [5, 6, 7, 4, 8, 9, 10, 11, 12, 13, 14, 15, 16, 17] (by decide +kernel) (by decide +kernel)
set_option maxRecDepth 20000 in
theorem gX6_ofTeam_X6_points : GoodIn wsX6_ofTeam (va_wsS RX6 95 yX6_points wsX6_points) := goodIn_app (goodIn_of _ (by decide +kernel)) ggX6_ofTeam_X6_points
set_option maxRecDepth 20000 in
theorem ggX6_ofTeam_X6_placeOf : GoodIn wsX6_ofTeam wsX6_placeOf := goodIn_r _ [20, 21, 22, 4, 23, 2, 3, 5, 6, 7, 8, 9, 10, 11, 12, 13, 14, 15, 16, 17] (by decide +kernel) (by decide +kernel)
set_option maxRecDepth 20000 in
theorem gX6_ofTeam_X6_placeOf : GoodIn wsX6_ofTeam (va_wsS RX6 102 yX6_placeOf wsX6_placeOf) := goodIn_app (goodIn_of _ (by decide +kernel)) ggX6_ofTeam_X6_placeOf
set_option maxRecDepth 20000 in
theorem ggX6_ofTeam_X6_sums : GoodIn wsX6_ofTeam wsX6_sums := goodIn_r _ [8, 9, 10, 4, 11, 12, 13, 14, 15, 16, 17] (by decide +kernel) (by decide +kernel)
set_option maxRecDepth 20000 in
theorem gX6_ofTeam_X6_sums : GoodIn wsX6_ofTeam (va_wsS RX6 92 yX6_sums wsX6_sums) := goodIn_app (goodIn_of _ (by decide +kernel)) ggX6_ofTeam_X6_sums
theorem dX6_ofTeam_0 : decode cX6_ofTeam 0 = .ok (.iload_n 2, 1) := by decide +kernel
theorem dX6_ofTeam_1 : decode cX6_ofTeam 1 = .ok (.ifCond .ne 14, 3) := by decide +kernel
theorem dX6_ofTeam_4 : decode cX6_ofTeam 4 = .ok (.aload_n 0, 1) := by decide +kernel
theorem dX6_ofTeam_5 : decode cX6_ofTeam 5 = .ok (.getfield 7, 3) := by decide +kernel
theorem dX6_ofTeam_8 : decode cX6_ofTeam 8 = .ok (.iload_n 1, 1) := by decide +kernel
theorem dX6_ofTeam_9 : decode cX6_ofTeam 9 = .ok (.invokestatic 95, 3) := by decide +kernel
theorem dX6_ofTeam_12 : decode cX6_ofTeam 12 = .ok (.goto 29, 3) := by decide +kernel
theorem dX6_ofTeam_15 : decode cX6_ofTeam 15 = .ok (.iload_n 2, 1) := by decide +kernel
theorem dX6_ofTeam_16 : decode cX6_ofTeam 16 = .ok (.bipush 7, 2) := by decide +kernel
theorem dX6_ofTeam_18 : decode cX6_ofTeam 18 = .ok (.if_icmp .ne 14, 3) := by decide +kernel
theorem dX6_ofTeam_21 : decode cX6_ofTeam 21 = .ok (.aload_n 0, 1) := by decide +kernel
theorem dX6_ofTeam_22 : decode cX6_ofTeam 22 = .ok (.getfield 7, 3) := by decide +kernel
theorem dX6_ofTeam_25 : decode cX6_ofTeam 25 = .ok (.iload_n 1, 1) := by decide +kernel
theorem dX6_ofTeam_26 : decode cX6_ofTeam 26 = .ok (.invokestatic 102, 3) := by decide +kernel
theorem dX6_ofTeam_29 : decode cX6_ofTeam 29 = .ok (.goto 12, 3) := by decide +kernel
theorem dX6_ofTeam_32 : decode cX6_ofTeam 32 = .ok (.aload_n 0, 1) := by decide +kernel
theorem dX6_ofTeam_33 : decode cX6_ofTeam 33 = .ok (.getfield 7, 3) := by decide +kernel
theorem dX6_ofTeam_36 : decode cX6_ofTeam 36 = .ok (.iload_n 1, 1) := by decide +kernel
theorem dX6_ofTeam_37 : decode cX6_ofTeam 37 = .ok (.iload_n 2, 1) := by decide +kernel
theorem dX6_ofTeam_38 : decode cX6_ofTeam 38 = .ok (.invokestatic 92, 3) := by decide +kernel
theorem dX6_ofTeam_41 : decode cX6_ofTeam 41 = .ok (.ireturn, 1) := by decide +kernel
set_option maxRecDepth 20000 in
theorem ggX6_team_X6_isTeam : GoodIn wsX6_team wsX6_isTeam := goodIn_r _ [6, 7, 8, 9, 5, 10, 40, 41, 42, 43, 44, 45, 46, 47, 48, 49, 50, 51] (by decide +kernel) (by decide +kernel)
set_option maxRecDepth 20000 in
theorem gX6_team_X6_isTeam : GoodIn wsX6_team (wsV RX6 159 RX6 yX6_isTeam wsX6_isTeam) := goodIn_app (goodIn_of _ (by decide +kernel)) ggX6_team_X6_isTeam
set_option maxRecDepth 20000 in
theorem ggX6_team_X6_fails : GoodIn wsX6_team wsX6_fails := goodIn_r _ [14, 1, 40, 41, 42, 43, 44, 45, 46, 47, 48, 49, 50, 51] (by decide +kernel) (by decide +kernel)
set_option maxRecDepth 20000 in
theorem gX6_team_X6_fails : GoodIn wsX6_team (wsV RX6 44 RX6 yX6_fails wsX6_fails) := goodIn_app (goodIn_of _ (by decide +kernel)) ggX6_team_X6_fails
set_option maxRecDepth 20000 in
theorem ggX6_team_X6_in : GoodIn wsX6_team wsX6_in := goodIn_r _ [10] (by decide +kernel) (by decide +kernel)
set_option maxRecDepth 20000 in
theorem gX6_team_X6_in : GoodIn wsX6_team (va_wsS RX6 33 yX6_in wsX6_in) := goodIn_app (goodIn_of _ (by decide +kernel)) ggX6_team_X6_in
set_option maxRecDepth 20000 in
theorem ggX6_team_X6_ofTeam : GoodIn wsX6_team wsX6_ofTeam := goodIn_r _ [18, 7, 19, 20, 5, 21, 22, 23, 24, 25, 26, 27, 28, 29, 30, 31, 32, 33, 34, 35, 36, 37, 38, 39, 40, 41, 42, 43, 44, 45, 46, 47, 48, 49, 50, 51] (by decide +kernel) (by decide +kernel)
set_option maxRecDepth 20000 in
theorem gX6_team_X6_ofTeam : GoodIn wsX6_team (wsV RX6 162 RX6 yX6_ofTeam wsX6_ofTeam) := goodIn_app (goodIn_of _ (by decide +kernel)) ggX6_team_X6_ofTeam
theorem dX6_team_0 : decode cX6_team 0 = .ok (.aload_n 0, 1) := by decide +kernel
theorem dX6_team_1 : decode cX6_team 1 = .ok (.iconst 0, 1) := by decide +kernel
theorem dX6_team_2 : decode cX6_team 2 = .ok (.putfield 29, 3) := by decide +kernel
theorem dX6_team_5 : decode cX6_team 5 = .ok (.aload_n 0, 1) := by decide +kernel
theorem dX6_team_6 : decode cX6_team 6 = .ok (.iload_n 1, 1) := by decide +kernel
theorem dX6_team_7 : decode cX6_team 7 = .ok (.invokevirtual 159, 3) := by decide +kernel
theorem dX6_team_10 : decode cX6_team 10 = .ok (.ifCond .ne 9, 3) := by decide +kernel
theorem dX6_team_13 : decode cX6_team 13 = .ok (.aload_n 0, 1) := by decide +kernel
theorem dX6_team_14 : decode cX6_team 14 = .ok (.iconst 1, 1) := by decide +kernel
theorem dX6_team_15 : decode cX6_team 15 = .ok (.invokevirtual 44, 3) := by decide +kernel
theorem dX6_team_18 : decode cX6_team 18 = .ok (.ireturn, 1) := by decide +kernel
theorem dX6_team_19 : decode cX6_team 19 = .ok (.iload_n 2, 1) := by decide +kernel
theorem dX6_team_20 : decode cX6_team 20 = .ok (.iconst 0, 1) := by decide +kernel
theorem dX6_team_21 : decode cX6_team 21 = .ok (.bipush 8, 2) := by decide +kernel
theorem dX6_team_23 : decode cX6_team 23 = .ok (.invokestatic 33, 3) := by decide +kernel
theorem dX6_team_26 : decode cX6_team 26 = .ok (.ifCond .eq 12, 3) := by decide +kernel
theorem dX6_team_29 : decode cX6_team 29 = .ok (.aload_n 0, 1) := by decide +kernel
theorem dX6_team_30 : decode cX6_team 30 = .ok (.iload_n 1, 1) := by decide +kernel
theorem dX6_team_31 : decode cX6_team 31 = .ok (.iload_n 2, 1) := by decide +kernel
theorem dX6_team_32 : decode cX6_team 32 = .ok (.invokevirtual 162, 3) := by decide +kernel
theorem dX6_team_35 : decode cX6_team 35 = .ok (.goto 8, 3) := by decide +kernel
theorem dX6_team_38 : decode cX6_team 38 = .ok (.aload_n 0, 1) := by decide +kernel
theorem dX6_team_39 : decode cX6_team 39 = .ok (.iconst 2, 1) := by decide +kernel
theorem dX6_team_40 : decode cX6_team 40 = .ok (.invokevirtual 44, 3) := by decide +kernel
theorem dX6_team_43 : decode cX6_team 43 = .ok (.ireturn, 1) := by decide +kernel
set_option maxRecDepth 20000 in
theorem ggX6_table_X6_fails : GoodIn wsX6_table wsX6_fails := goodIn_r _ [7, 1, 32, 33, 34, 35, 36, 37, 38, 39, 40, 41, 42, 43] (by decide +kernel) (by decide +kernel)
set_option maxRecDepth 20000 in
theorem gX6_table_X6_fails : GoodIn wsX6_table (wsV RX6 44 RX6 yX6_fails wsX6_fails) := goodIn_app (goodIn_of _ (by decide +kernel)) ggX6_table_X6_fails
set_option maxRecDepth 20000 in
theorem ggX6_table_X6_teamAt : GoodIn wsX6_table wsX6_teamAt := goodIn_r _ [10, 11, 12, 6, 13, 14, 15, 16, 17, 18, 19, 20, 21, 22, 23, 24, 25, 26, 27, 28, 29, 30, 31] (by decide +kernel) (by decide +kernel)
set_option maxRecDepth 20000 in
theorem gX6_table_X6_teamAt : GoodIn wsX6_table (va_wsS RX6 165 yX6_teamAt wsX6_teamAt) := goodIn_app (goodIn_of _ (by decide +kernel)) ggX6_table_X6_teamAt
theorem dX6_table_0 : decode cX6_table 0 = .ok (.aload_n 0, 1) := by decide +kernel
theorem dX6_table_1 : decode cX6_table 1 = .ok (.iconst 0, 1) := by decide +kernel
theorem dX6_table_2 : decode cX6_table 2 = .ok (.putfield 29, 3) := by decide +kernel
theorem dX6_table_5 : decode cX6_table 5 = .ok (.iload_n 1, 1) := by decide +kernel
theorem dX6_table_6 : decode cX6_table 6 = .ok (.ifCond .ge 9, 3) := by decide +kernel
theorem dX6_table_9 : decode cX6_table 9 = .ok (.aload_n 0, 1) := by decide +kernel
theorem dX6_table_10 : decode cX6_table 10 = .ok (.iconst 1, 1) := by decide +kernel
theorem dX6_table_11 : decode cX6_table 11 = .ok (.invokevirtual 44, 3) := by decide +kernel
theorem dX6_table_14 : decode cX6_table 14 = .ok (.ireturn, 1) := by decide +kernel
theorem dX6_table_15 : decode cX6_table 15 = .ok (.iload_n 1, 1) := by decide +kernel
theorem dX6_table_16 : decode cX6_table 16 = .ok (.aload_n 0, 1) := by decide +kernel
theorem dX6_table_17 : decode cX6_table 17 = .ok (.getfield 7, 3) := by decide +kernel
theorem dX6_table_20 : decode cX6_table 20 = .ok (.iconst 4, 1) := by decide +kernel
theorem dX6_table_21 : decode cX6_table 21 = .ok (.iaload, 1) := by decide +kernel
theorem dX6_table_22 : decode cX6_table 22 = .ok (.if_icmp .ge 14, 3) := by decide +kernel
theorem dX6_table_25 : decode cX6_table 25 = .ok (.aload_n 0, 1) := by decide +kernel
theorem dX6_table_26 : decode cX6_table 26 = .ok (.getfield 7, 3) := by decide +kernel
theorem dX6_table_29 : decode cX6_table 29 = .ok (.iload_n 1, 1) := by decide +kernel
theorem dX6_table_30 : decode cX6_table 30 = .ok (.invokestatic 165, 3) := by decide +kernel
theorem dX6_table_33 : decode cX6_table 33 = .ok (.goto 4, 3) := by decide +kernel
theorem dX6_table_36 : decode cX6_table 36 = .ok (.iconst (-1), 1) := by decide +kernel
theorem dX6_table_37 : decode cX6_table 37 = .ok (.ireturn, 1) := by decide +kernel
set_option maxRecDepth 20000 in
theorem ggX6_busyWith_X6_of : GoodIn wsX6_busyWith wsX6_of := goodIn_r _ [5] (by decide +kernel) (by decide +kernel)
set_option maxRecDepth 20000 in
theorem gX6_busyWith_X6_of : GoodIn wsX6_busyWith (va_wsS RX6 55 yX6_of wsX6_of) := goodIn_app (goodIn_of _ (by decide +kernel)) ggX6_busyWith_X6_of
theorem dX6_busyWith_0 : decode cX6_busyWith 0 = .ok (.iconst (-1), 1) := by decide +kernel
theorem dX6_busyWith_1 : decode cX6_busyWith 1 = .ok (.istore_n 3, 1) := by decide +kernel
theorem dX6_busyWith_2 : decode cX6_busyWith 2 = .ok (.iconst 0, 1) := by decide +kernel
theorem dX6_busyWith_3 : decode cX6_busyWith 3 = .ok (.istore 4, 2) := by decide +kernel
theorem dX6_busyWith_5 : decode cX6_busyWith 5 = .ok (.iload 4, 2) := by decide +kernel
theorem dX6_busyWith_7 : decode cX6_busyWith 7 = .ok (.aload_n 0, 1) := by decide +kernel
theorem dX6_busyWith_8 : decode cX6_busyWith 8 = .ok (.getfield 7, 3) := by decide +kernel
theorem dX6_busyWith_11 : decode cX6_busyWith 11 = .ok (.iconst 5, 1) := by decide +kernel
theorem dX6_busyWith_12 : decode cX6_busyWith 12 = .ok (.iaload, 1) := by decide +kernel
theorem dX6_busyWith_13 : decode cX6_busyWith 13 = .ok (.if_icmp .ge 61, 3) := by decide +kernel
theorem dX6_busyWith_16 : decode cX6_busyWith 16 = .ok (.aload_n 0, 1) := by decide +kernel
theorem dX6_busyWith_17 : decode cX6_busyWith 17 = .ok (.getfield 7, 3) := by decide +kernel
theorem dX6_busyWith_20 : decode cX6_busyWith 20 = .ok (.iload 4, 2) := by decide +kernel
theorem dX6_busyWith_22 : decode cX6_busyWith 22 = .ok (.iload_n 2, 1) := by decide +kernel
theorem dX6_busyWith_23 : decode cX6_busyWith 23 = .ok (.bipush 6, 2) := by decide +kernel
theorem dX6_busyWith_25 : decode cX6_busyWith 25 = .ok (.if_icmp .ge 7, 3) := by decide +kernel
theorem dX6_busyWith_28 : decode cX6_busyWith 28 = .ok (.iconst 3, 1) := by decide +kernel
theorem dX6_busyWith_29 : decode cX6_busyWith 29 = .ok (.goto 4, 3) := by decide +kernel
theorem dX6_busyWith_32 : decode cX6_busyWith 32 = .ok (.iconst 4, 1) := by decide +kernel
theorem dX6_busyWith_33 : decode cX6_busyWith 33 = .ok (.invokestatic 55, 3) := by decide +kernel
theorem dX6_busyWith_36 : decode cX6_busyWith 36 = .ok (.istore 5, 2) := by decide +kernel
theorem dX6_busyWith_38 : decode cX6_busyWith 38 = .ok (.aload_n 0, 1) := by decide +kernel
theorem dX6_busyWith_39 : decode cX6_busyWith 39 = .ok (.getfield 7, 3) := by decide +kernel
theorem dX6_busyWith_42 : decode cX6_busyWith 42 = .ok (.iload 4, 2) := by decide +kernel
theorem dX6_busyWith_44 : decode cX6_busyWith 44 = .ok (.iconst 0, 1) := by decide +kernel
theorem dX6_busyWith_45 : decode cX6_busyWith 45 = .ok (.invokestatic 55, 3) := by decide +kernel
theorem dX6_busyWith_48 : decode cX6_busyWith 48 = .ok (.iload_n 1, 1) := by decide +kernel
theorem dX6_busyWith_49 : decode cX6_busyWith 49 = .ok (.if_icmp .ne 17, 3) := by decide +kernel
theorem dX6_busyWith_52 : decode cX6_busyWith 52 = .ok (.iload 5, 2) := by decide +kernel
theorem dX6_busyWith_54 : decode cX6_busyWith 54 = .ok (.iload_n 2, 1) := by decide +kernel
theorem dX6_busyWith_55 : decode cX6_busyWith 55 = .ok (.bipush 6, 2) := by decide +kernel
theorem dX6_busyWith_57 : decode cX6_busyWith 57 = .ok (.irem, 1) := by decide +kernel
theorem dX6_busyWith_58 : decode cX6_busyWith 58 = .ok (.if_icmp .ne 8, 3) := by decide +kernel
theorem dX6_busyWith_61 : decode cX6_busyWith 61 = .ok (.iload 4, 2) := by decide +kernel
theorem dX6_busyWith_63 : decode cX6_busyWith 63 = .ok (.goto 4, 3) := by decide +kernel
theorem dX6_busyWith_66 : decode cX6_busyWith 66 = .ok (.iload_n 3, 1) := by decide +kernel
theorem dX6_busyWith_67 : decode cX6_busyWith 67 = .ok (.istore_n 3, 1) := by decide +kernel
theorem dX6_busyWith_68 : decode cX6_busyWith 68 = .ok (.iinc 4 1, 3) := by decide +kernel
theorem dX6_busyWith_71 : decode cX6_busyWith 71 = .ok (.goto (-66), 3) := by decide +kernel
theorem dX6_busyWith_74 : decode cX6_busyWith 74 = .ok (.iload_n 3, 1) := by decide +kernel
theorem dX6_busyWith_75 : decode cX6_busyWith 75 = .ok (.ireturn, 1) := by decide +kernel
set_option maxRecDepth 20000 in
theorem ggX6_busy_X6_rounds : GoodIn wsX6_busy wsX6_rounds := goodIn_r _ [6] (by decide +kernel) (by decide +kernel)
set_option maxRecDepth 20000 in
theorem gX6_busy_X6_rounds : GoodIn wsX6_busy (va_wsS RX6 168 yX6_rounds wsX6_rounds) := goodIn_app (goodIn_of _ (by decide +kernel)) ggX6_busy_X6_rounds
set_option maxRecDepth 20000 in
theorem ggX6_busy_X6_in : GoodIn wsX6_busy wsX6_in := goodIn_r _ [9] (by decide +kernel) (by decide +kernel)
set_option maxRecDepth 20000 in
theorem gX6_busy_X6_in : GoodIn wsX6_busy (va_wsS RX6 33 yX6_in wsX6_in) := goodIn_app (goodIn_of _ (by decide +kernel)) ggX6_busy_X6_in
set_option maxRecDepth 20000 in
theorem ggX6_busy_X6_fails : GoodIn wsX6_busy wsX6_fails := goodIn_r _ [13, 1, 21, 22, 23, 24, 25, 26, 27, 28, 29, 30, 31, 32] (by decide +kernel) (by decide +kernel)
set_option maxRecDepth 20000 in
theorem gX6_busy_X6_fails : GoodIn wsX6_busy (wsV RX6 44 RX6 yX6_fails wsX6_fails) := goodIn_app (goodIn_of _ (by decide +kernel)) ggX6_busy_X6_fails
set_option maxRecDepth 20000 in
theorem ggX6_busy_X6_busyWith : GoodIn wsX6_busy wsX6_busyWith := goodIn_r _ [17, 2, 18, 19, 5, 20, 21, 22, 23, 24, 25, 26, 27, 28, 29, 30, 31, 32] (by decide +kernel) (by decide +kernel)
set_option maxRecDepth 20000 in
theorem gX6_busy_X6_busyWith : GoodIn wsX6_busy (wsV RX6 171 RX6 yX6_busyWith wsX6_busyWith) := goodIn_app (goodIn_of _ (by decide +kernel)) ggX6_busy_X6_busyWith
theorem dX6_busy_0 : decode cX6_busy 0 = .ok (.aload_n 0, 1) := by decide +kernel
theorem dX6_busy_1 : decode cX6_busy 1 = .ok (.iconst 0, 1) := by decide +kernel
theorem dX6_busy_2 : decode cX6_busy 2 = .ok (.putfield 29, 3) := by decide +kernel
theorem dX6_busy_5 : decode cX6_busy 5 = .ok (.iload_n 1, 1) := by decide +kernel
theorem dX6_busy_6 : decode cX6_busy 6 = .ok (.iconst 0, 1) := by decide +kernel
theorem dX6_busy_7 : decode cX6_busy 7 = .ok (.aload_n 0, 1) := by decide +kernel
theorem dX6_busy_8 : decode cX6_busy 8 = .ok (.getfield 7, 3) := by decide +kernel
theorem dX6_busy_11 : decode cX6_busy 11 = .ok (.invokestatic 168, 3) := by decide +kernel
theorem dX6_busy_14 : decode cX6_busy 14 = .ok (.iconst 1, 1) := by decide +kernel
theorem dX6_busy_15 : decode cX6_busy 15 = .ok (.isub, 1) := by decide +kernel
theorem dX6_busy_16 : decode cX6_busy 16 = .ok (.invokestatic 33, 3) := by decide +kernel
theorem dX6_busy_19 : decode cX6_busy 19 = .ok (.ifCond .ne 9, 3) := by decide +kernel
theorem dX6_busy_22 : decode cX6_busy 22 = .ok (.aload_n 0, 1) := by decide +kernel
theorem dX6_busy_23 : decode cX6_busy 23 = .ok (.iconst 1, 1) := by decide +kernel
theorem dX6_busy_24 : decode cX6_busy 24 = .ok (.invokevirtual 44, 3) := by decide +kernel
theorem dX6_busy_27 : decode cX6_busy 27 = .ok (.ireturn, 1) := by decide +kernel
theorem dX6_busy_28 : decode cX6_busy 28 = .ok (.iload_n 2, 1) := by decide +kernel
theorem dX6_busy_29 : decode cX6_busy 29 = .ok (.iconst 0, 1) := by decide +kernel
theorem dX6_busy_30 : decode cX6_busy 30 = .ok (.bipush 11, 2) := by decide +kernel
theorem dX6_busy_32 : decode cX6_busy 32 = .ok (.invokestatic 33, 3) := by decide +kernel
theorem dX6_busy_35 : decode cX6_busy 35 = .ok (.ifCond .eq 12, 3) := by decide +kernel
theorem dX6_busy_38 : decode cX6_busy 38 = .ok (.aload_n 0, 1) := by decide +kernel
theorem dX6_busy_39 : decode cX6_busy 39 = .ok (.iload_n 1, 1) := by decide +kernel
theorem dX6_busy_40 : decode cX6_busy 40 = .ok (.iload_n 2, 1) := by decide +kernel
theorem dX6_busy_41 : decode cX6_busy 41 = .ok (.invokevirtual 171, 3) := by decide +kernel
theorem dX6_busy_44 : decode cX6_busy 44 = .ok (.goto 8, 3) := by decide +kernel
theorem dX6_busy_47 : decode cX6_busy 47 = .ok (.aload_n 0, 1) := by decide +kernel
theorem dX6_busy_48 : decode cX6_busy 48 = .ok (.iconst 2, 1) := by decide +kernel
theorem dX6_busy_49 : decode cX6_busy 49 = .ok (.invokevirtual 44, 3) := by decide +kernel
theorem dX6_busy_52 : decode cX6_busy 52 = .ok (.ireturn, 1) := by decide +kernel
set_option maxRecDepth 20000 in
theorem ggX6_most_X6_having : GoodIn wsX6_most wsX6_having := goodIn_r _ [5, 6, 7, 4, 8] (by decide +kernel) (by decide +kernel)
set_option maxRecDepth 20000 in
theorem gX6_most_X6_having : GoodIn wsX6_most (va_wsS RX6 59 yX6_having wsX6_having) := goodIn_app (goodIn_of _ (by decide +kernel)) ggX6_most_X6_having
theorem dX6_most_0 : decode cX6_most 0 = .ok (.iconst 0, 1) := by decide +kernel
theorem dX6_most_1 : decode cX6_most 1 = .ok (.istore_n 2, 1) := by decide +kernel
theorem dX6_most_2 : decode cX6_most 2 = .ok (.iconst 0, 1) := by decide +kernel
theorem dX6_most_3 : decode cX6_most 3 = .ok (.istore_n 3, 1) := by decide +kernel
theorem dX6_most_4 : decode cX6_most 4 = .ok (.iload_n 3, 1) := by decide +kernel
theorem dX6_most_5 : decode cX6_most 5 = .ok (.bipush 6, 2) := by decide +kernel
theorem dX6_most_7 : decode cX6_most 7 = .ok (.if_icmp .ge 34, 3) := by decide +kernel
theorem dX6_most_10 : decode cX6_most 10 = .ok (.aload_n 0, 1) := by decide +kernel
theorem dX6_most_11 : decode cX6_most 11 = .ok (.getfield 7, 3) := by decide +kernel
theorem dX6_most_14 : decode cX6_most 14 = .ok (.iload_n 1, 1) := by decide +kernel
theorem dX6_most_15 : decode cX6_most 15 = .ok (.iload_n 3, 1) := by decide +kernel
theorem dX6_most_16 : decode cX6_most 16 = .ok (.iconst (-1), 1) := by decide +kernel
theorem dX6_most_17 : decode cX6_most 17 = .ok (.invokestatic 59, 3) := by decide +kernel
theorem dX6_most_20 : decode cX6_most 20 = .ok (.istore 4, 2) := by decide +kernel
theorem dX6_most_22 : decode cX6_most 22 = .ok (.iload 4, 2) := by decide +kernel
theorem dX6_most_24 : decode cX6_most 24 = .ok (.iload_n 2, 1) := by decide +kernel
theorem dX6_most_25 : decode cX6_most 25 = .ok (.if_icmp .le 8, 3) := by decide +kernel
theorem dX6_most_28 : decode cX6_most 28 = .ok (.iload 4, 2) := by decide +kernel
theorem dX6_most_30 : decode cX6_most 30 = .ok (.goto 4, 3) := by decide +kernel
theorem dX6_most_33 : decode cX6_most 33 = .ok (.iload_n 2, 1) := by decide +kernel
theorem dX6_most_34 : decode cX6_most 34 = .ok (.istore_n 2, 1) := by decide +kernel
theorem dX6_most_35 : decode cX6_most 35 = .ok (.iinc 3 1, 3) := by decide +kernel
theorem dX6_most_38 : decode cX6_most 38 = .ok (.goto (-34), 3) := by decide +kernel
theorem dX6_most_41 : decode cX6_most 41 = .ok (.iload_n 2, 1) := by decide +kernel
theorem dX6_most_42 : decode cX6_most 42 = .ok (.ireturn, 1) := by decide +kernel
set_option maxRecDepth 20000 in
theorem ggX6_overTeams_X6_ofTeam : GoodIn wsX6_overTeams wsX6_ofTeam := goodIn_r _ [6, 1, 7, 8, 5, 9, 10, 11, 12, 13, 14, 15, 16, 17, 18, 19, 20, 21, 22, 23, 24, 25, 26, 27, 28, 29, 30, 31, 32, 33, 34, 35, 36, 37, 38, 39] (by decide +kernel) (by decide +kernel)
set_option maxRecDepth 20000 in
theorem gX6_overTeams_X6_ofTeam : GoodIn wsX6_overTeams (wsV RX6 162 RX6 yX6_ofTeam wsX6_ofTeam) := goodIn_app (goodIn_of _ (by decide +kernel)) ggX6_overTeams_X6_ofTeam
theorem dX6_overTeams_0 : decode cX6_overTeams 0 = .ok (.iconst 0, 1) := by decide +kernel
theorem dX6_overTeams_1 : decode cX6_overTeams 1 = .ok (.istore_n 2, 1) := by decide +kernel
theorem dX6_overTeams_2 : decode cX6_overTeams 2 = .ok (.iconst 0, 1) := by decide +kernel
theorem dX6_overTeams_3 : decode cX6_overTeams 3 = .ok (.istore_n 3, 1) := by decide +kernel
theorem dX6_overTeams_4 : decode cX6_overTeams 4 = .ok (.iload_n 3, 1) := by decide +kernel
theorem dX6_overTeams_5 : decode cX6_overTeams 5 = .ok (.aload_n 0, 1) := by decide +kernel
theorem dX6_overTeams_6 : decode cX6_overTeams 6 = .ok (.getfield 7, 3) := by decide +kernel
theorem dX6_overTeams_9 : decode cX6_overTeams 9 = .ok (.iconst 4, 1) := by decide +kernel
theorem dX6_overTeams_10 : decode cX6_overTeams 10 = .ok (.iaload, 1) := by decide +kernel
theorem dX6_overTeams_11 : decode cX6_overTeams 11 = .ok (.if_icmp .ge 18, 3) := by decide +kernel
theorem dX6_overTeams_14 : decode cX6_overTeams 14 = .ok (.iload_n 2, 1) := by decide +kernel
theorem dX6_overTeams_15 : decode cX6_overTeams 15 = .ok (.aload_n 0, 1) := by decide +kernel
theorem dX6_overTeams_16 : decode cX6_overTeams 16 = .ok (.iload_n 3, 1) := by decide +kernel
theorem dX6_overTeams_17 : decode cX6_overTeams 17 = .ok (.iload_n 1, 1) := by decide +kernel
theorem dX6_overTeams_18 : decode cX6_overTeams 18 = .ok (.invokevirtual 162, 3) := by decide +kernel
theorem dX6_overTeams_21 : decode cX6_overTeams 21 = .ok (.iadd, 1) := by decide +kernel
theorem dX6_overTeams_22 : decode cX6_overTeams 22 = .ok (.istore_n 2, 1) := by decide +kernel
theorem dX6_overTeams_23 : decode cX6_overTeams 23 = .ok (.iinc 3 1, 3) := by decide +kernel
theorem dX6_overTeams_26 : decode cX6_overTeams 26 = .ok (.goto (-22), 3) := by decide +kernel
theorem dX6_overTeams_29 : decode cX6_overTeams 29 = .ok (.iload_n 2, 1) := by decide +kernel
theorem dX6_overTeams_30 : decode cX6_overTeams 30 = .ok (.ireturn, 1) := by decide +kernel
set_option maxRecDepth 20000 in
theorem ggX6_counted_X6_rounds : GoodIn wsX6_counted wsX6_rounds := goodIn_r _ [6] (by decide +kernel) (by decide +kernel)
set_option maxRecDepth 20000 in
theorem gX6_counted_X6_rounds : GoodIn wsX6_counted (va_wsS RX6 168 yX6_rounds wsX6_rounds) := goodIn_app (goodIn_of _ (by decide +kernel)) ggX6_counted_X6_rounds
set_option maxRecDepth 20000 in
theorem ggX6_counted_X6_having : GoodIn wsX6_counted wsX6_having := goodIn_r _ [9, 10, 11, 5, 12] (by decide +kernel) (by decide +kernel)
set_option maxRecDepth 20000 in
theorem gX6_counted_X6_having : GoodIn wsX6_counted (va_wsS RX6 59 yX6_having wsX6_having) := goodIn_app (goodIn_of _ (by decide +kernel)) ggX6_counted_X6_having
set_option maxRecDepth 20000 in
theorem ggX6_counted_X6_withResult : GoodIn wsX6_counted wsX6_withResult := goodIn_r _ [16, 1, 10, 11, 5, 12, 47, 48, 49, 50, 51, 52, 53, 54, 55, 56, 57, 58] (by decide +kernel) (by decide +kernel)
set_option maxRecDepth 20000 in
theorem gX6_counted_X6_withResult : GoodIn wsX6_counted (wsV RX6 152 RX6 yX6_withResult wsX6_withResult) := goodIn_app (goodIn_of _ (by decide +kernel)) ggX6_counted_X6_withResult
set_option maxRecDepth 20000 in
theorem ggX6_counted_X6_overTeams : GoodIn wsX6_counted wsX6_overTeams := goodIn_r _ [20, 1, 21, 22, 23, 5, 24, 25, 26, 27, 28, 29, 30, 31, 32, 33, 10, 11, 12, 34, 35, 36, 37, 38, 39, 40, 41, 42, 47, 48, 49, 50, 51, 52, 53, 54, 55, 56, 57, 58] (by decide +kernel) (by decide +kernel)
set_option maxRecDepth 20000 in
theorem gX6_counted_X6_overTeams : GoodIn wsX6_counted (wsV RX6 174 RX6 yX6_overTeams wsX6_overTeams) := goodIn_app (goodIn_of _ (by decide +kernel)) ggX6_counted_X6_overTeams
set_option maxRecDepth 20000 in
theorem ggX6_counted_X6_most : GoodIn wsX6_counted wsX6_most := goodIn_r _ [46, 1, 7, 8, 5, 9, 10, 11, 12, 47, 48, 49, 50, 51, 52, 53, 54, 55, 56, 57, 58] (by decide +kernel) (by decide +kernel)
set_option maxRecDepth 20000 in
theorem gX6_counted_X6_most : GoodIn wsX6_counted (wsV RX6 177 RX6 yX6_most wsX6_most) := goodIn_app (goodIn_of _ (by decide +kernel)) ggX6_counted_X6_most
theorem dX6_counted_0 : decode cX6_counted 0 = .ok (.iload_n 1, 1) := by decide +kernel
theorem dX6_counted_1 : decode cX6_counted 1 = .ok (.tableswitch 121 0 8 #[51, 58, 66, 73, 91, 96, 103, 109, 115], 51) := by decide +kernel
theorem dX6_counted_52 : decode cX6_counted 52 = .ok (.aload_n 0, 1) := by decide +kernel
theorem dX6_counted_53 : decode cX6_counted 53 = .ok (.getfield 7, 3) := by decide +kernel
theorem dX6_counted_56 : decode cX6_counted 56 = .ok (.iconst 4, 1) := by decide +kernel
theorem dX6_counted_57 : decode cX6_counted 57 = .ok (.iaload, 1) := by decide +kernel
theorem dX6_counted_58 : decode cX6_counted 58 = .ok (.ireturn, 1) := by decide +kernel
theorem dX6_counted_59 : decode cX6_counted 59 = .ok (.aload_n 0, 1) := by decide +kernel
theorem dX6_counted_60 : decode cX6_counted 60 = .ok (.getfield 7, 3) := by decide +kernel
theorem dX6_counted_63 : decode cX6_counted 63 = .ok (.invokestatic 168, 3) := by decide +kernel
theorem dX6_counted_66 : decode cX6_counted 66 = .ok (.ireturn, 1) := by decide +kernel
theorem dX6_counted_67 : decode cX6_counted 67 = .ok (.aload_n 0, 1) := by decide +kernel
theorem dX6_counted_68 : decode cX6_counted 68 = .ok (.getfield 7, 3) := by decide +kernel
theorem dX6_counted_71 : decode cX6_counted 71 = .ok (.iconst 5, 1) := by decide +kernel
theorem dX6_counted_72 : decode cX6_counted 72 = .ok (.iaload, 1) := by decide +kernel
theorem dX6_counted_73 : decode cX6_counted 73 = .ok (.ireturn, 1) := by decide +kernel
theorem dX6_counted_74 : decode cX6_counted 74 = .ok (.aload_n 0, 1) := by decide +kernel
theorem dX6_counted_75 : decode cX6_counted 75 = .ok (.getfield 7, 3) := by decide +kernel
theorem dX6_counted_78 : decode cX6_counted 78 = .ok (.iconst 5, 1) := by decide +kernel
theorem dX6_counted_79 : decode cX6_counted 79 = .ok (.iaload, 1) := by decide +kernel
theorem dX6_counted_80 : decode cX6_counted 80 = .ok (.aload_n 0, 1) := by decide +kernel
theorem dX6_counted_81 : decode cX6_counted 81 = .ok (.getfield 7, 3) := by decide +kernel
theorem dX6_counted_84 : decode cX6_counted 84 = .ok (.iconst 3, 1) := by decide +kernel
theorem dX6_counted_85 : decode cX6_counted 85 = .ok (.iconst (-1), 1) := by decide +kernel
theorem dX6_counted_86 : decode cX6_counted 86 = .ok (.iconst (-1), 1) := by decide +kernel
theorem dX6_counted_87 : decode cX6_counted 87 = .ok (.invokestatic 59, 3) := by decide +kernel
theorem dX6_counted_90 : decode cX6_counted 90 = .ok (.isub, 1) := by decide +kernel
theorem dX6_counted_91 : decode cX6_counted 91 = .ok (.ireturn, 1) := by decide +kernel
theorem dX6_counted_92 : decode cX6_counted 92 = .ok (.aload_n 0, 1) := by decide +kernel
theorem dX6_counted_93 : decode cX6_counted 93 = .ok (.invokevirtual 152, 3) := by decide +kernel
theorem dX6_counted_96 : decode cX6_counted 96 = .ok (.ireturn, 1) := by decide +kernel
theorem dX6_counted_97 : decode cX6_counted 97 = .ok (.aload_n 0, 1) := by decide +kernel
theorem dX6_counted_98 : decode cX6_counted 98 = .ok (.bipush 6, 2) := by decide +kernel
theorem dX6_counted_100 : decode cX6_counted 100 = .ok (.invokevirtual 174, 3) := by decide +kernel
theorem dX6_counted_103 : decode cX6_counted 103 = .ok (.ireturn, 1) := by decide +kernel
theorem dX6_counted_104 : decode cX6_counted 104 = .ok (.aload_n 0, 1) := by decide +kernel
theorem dX6_counted_105 : decode cX6_counted 105 = .ok (.iconst 0, 1) := by decide +kernel
theorem dX6_counted_106 : decode cX6_counted 106 = .ok (.invokevirtual 174, 3) := by decide +kernel
theorem dX6_counted_109 : decode cX6_counted 109 = .ok (.ireturn, 1) := by decide +kernel
theorem dX6_counted_110 : decode cX6_counted 110 = .ok (.aload_n 0, 1) := by decide +kernel
theorem dX6_counted_111 : decode cX6_counted 111 = .ok (.iconst 4, 1) := by decide +kernel
theorem dX6_counted_112 : decode cX6_counted 112 = .ok (.invokevirtual 177, 3) := by decide +kernel
theorem dX6_counted_115 : decode cX6_counted 115 = .ok (.ireturn, 1) := by decide +kernel
theorem dX6_counted_116 : decode cX6_counted 116 = .ok (.aload_n 0, 1) := by decide +kernel
theorem dX6_counted_117 : decode cX6_counted 117 = .ok (.iconst 3, 1) := by decide +kernel
theorem dX6_counted_118 : decode cX6_counted 118 = .ok (.invokevirtual 177, 3) := by decide +kernel
theorem dX6_counted_121 : decode cX6_counted 121 = .ok (.ireturn, 1) := by decide +kernel
theorem dX6_counted_122 : decode cX6_counted 122 = .ok (.aload_n 0, 1) := by decide +kernel
theorem dX6_counted_123 : decode cX6_counted 123 = .ok (.getfield 37, 3) := by decide +kernel
theorem dX6_counted_126 : decode cX6_counted 126 = .ok (.ireturn, 1) := by decide +kernel
set_option maxRecDepth 20000 in
theorem ggX6_count_X6_in : GoodIn wsX6_count wsX6_in := goodIn_r _ [5] (by decide +kernel) (by decide +kernel)
set_option maxRecDepth 20000 in
theorem gX6_count_X6_in : GoodIn wsX6_count (va_wsS RX6 33 yX6_in wsX6_in) := goodIn_app (goodIn_of _ (by decide +kernel)) ggX6_count_X6_in
set_option maxRecDepth 20000 in
theorem ggX6_count_X6_counted : GoodIn wsX6_count wsX6_counted := goodIn_r _ [9, 10, 11, 12, 13, 4, 14, 15, 16, 17, 18, 19, 20, 21, 22, 23, 24, 25, 26, 27, 28, 29, 30, 31, 32, 33, 34, 35, 36, 37, 38, 39, 40, 41, 42, 43, 44, 45, 46, 47, 48, 49, 50, 51, 52, 53, 54, 59, 60, 61, 62, 63, 64, 65, 66, 67, 68, 69, 70] (by decide +kernel) (by decide +kernel)
set_option maxRecDepth 20000 in
theorem gX6_count_X6_counted : GoodIn wsX6_count (wsV RX6 180 RX6 yX6_counted wsX6_counted) := goodIn_app (goodIn_of _ (by decide +kernel)) ggX6_count_X6_counted
set_option maxRecDepth 20000 in
theorem ggX6_count_X6_fails : GoodIn wsX6_count wsX6_fails := goodIn_r _ [58, 1, 59, 60, 61, 62, 63, 64, 65, 66, 67, 68, 69, 70] (by decide +kernel) (by decide +kernel)
set_option maxRecDepth 20000 in
theorem gX6_count_X6_fails : GoodIn wsX6_count (wsV RX6 44 RX6 yX6_fails wsX6_fails) := goodIn_app (goodIn_of _ (by decide +kernel)) ggX6_count_X6_fails
theorem dX6_count_0 : decode cX6_count 0 = .ok (.aload_n 0, 1) := by decide +kernel
theorem dX6_count_1 : decode cX6_count 1 = .ok (.iconst 0, 1) := by decide +kernel
theorem dX6_count_2 : decode cX6_count 2 = .ok (.putfield 29, 3) := by decide +kernel
theorem dX6_count_5 : decode cX6_count 5 = .ok (.iload_n 1, 1) := by decide +kernel
theorem dX6_count_6 : decode cX6_count 6 = .ok (.iconst 0, 1) := by decide +kernel
theorem dX6_count_7 : decode cX6_count 7 = .ok (.bipush 9, 2) := by decide +kernel
theorem dX6_count_9 : decode cX6_count 9 = .ok (.invokestatic 33, 3) := by decide +kernel
theorem dX6_count_12 : decode cX6_count 12 = .ok (.ifCond .eq 11, 3) := by decide +kernel
theorem dX6_count_15 : decode cX6_count 15 = .ok (.aload_n 0, 1) := by decide +kernel
theorem dX6_count_16 : decode cX6_count 16 = .ok (.iload_n 1, 1) := by decide +kernel
theorem dX6_count_17 : decode cX6_count 17 = .ok (.invokevirtual 180, 3) := by decide +kernel
theorem dX6_count_20 : decode cX6_count 20 = .ok (.goto 8, 3) := by decide +kernel
theorem dX6_count_23 : decode cX6_count 23 = .ok (.aload_n 0, 1) := by decide +kernel
theorem dX6_count_24 : decode cX6_count 24 = .ok (.iconst 1, 1) := by decide +kernel
theorem dX6_count_25 : decode cX6_count 25 = .ok (.invokevirtual 44, 3) := by decide +kernel
theorem dX6_count_28 : decode cX6_count 28 = .ok (.ireturn, 1) := by decide +kernel
set_option maxRecDepth 20000 in
theorem ggX6_setting_X6_in : GoodIn wsX6_setting wsX6_in := goodIn_r _ [6] (by decide +kernel) (by decide +kernel)
set_option maxRecDepth 20000 in
theorem gX6_setting_X6_in : GoodIn wsX6_setting (va_wsS RX6 33 yX6_in wsX6_in) := goodIn_app (goodIn_of _ (by decide +kernel)) ggX6_setting_X6_in
set_option maxRecDepth 20000 in
theorem ggX6_setting_X6_fails : GoodIn wsX6_setting wsX6_fails := goodIn_r _ [10, 1, 11, 12, 13, 14, 15, 16, 17, 18, 19, 20, 21, 22] (by decide +kernel) (by decide +kernel)
set_option maxRecDepth 20000 in
theorem gX6_setting_X6_fails : GoodIn wsX6_setting (wsV RX6 44 RX6 yX6_fails wsX6_fails) := goodIn_app (goodIn_of _ (by decide +kernel)) ggX6_setting_X6_fails
theorem dX6_setting_0 : decode cX6_setting 0 = .ok (.aload_n 0, 1) := by decide +kernel
theorem dX6_setting_1 : decode cX6_setting 1 = .ok (.iconst 0, 1) := by decide +kernel
theorem dX6_setting_2 : decode cX6_setting 2 = .ok (.putfield 29, 3) := by decide +kernel
theorem dX6_setting_5 : decode cX6_setting 5 = .ok (.iload_n 1, 1) := by decide +kernel
theorem dX6_setting_6 : decode cX6_setting 6 = .ok (.iconst 0, 1) := by decide +kernel
theorem dX6_setting_7 : decode cX6_setting 7 = .ok (.iconst 3, 1) := by decide +kernel
theorem dX6_setting_8 : decode cX6_setting 8 = .ok (.invokestatic 33, 3) := by decide +kernel
theorem dX6_setting_11 : decode cX6_setting 11 = .ok (.ifCond .eq 12, 3) := by decide +kernel
theorem dX6_setting_14 : decode cX6_setting 14 = .ok (.aload_n 0, 1) := by decide +kernel
theorem dX6_setting_15 : decode cX6_setting 15 = .ok (.getfield 7, 3) := by decide +kernel
theorem dX6_setting_18 : decode cX6_setting 18 = .ok (.iload_n 1, 1) := by decide +kernel
theorem dX6_setting_19 : decode cX6_setting 19 = .ok (.iaload, 1) := by decide +kernel
theorem dX6_setting_20 : decode cX6_setting 20 = .ok (.goto 8, 3) := by decide +kernel
theorem dX6_setting_23 : decode cX6_setting 23 = .ok (.aload_n 0, 1) := by decide +kernel
theorem dX6_setting_24 : decode cX6_setting 24 = .ok (.iconst 1, 1) := by decide +kernel
theorem dX6_setting_25 : decode cX6_setting 25 = .ok (.invokevirtual 44, 3) := by decide +kernel
theorem dX6_setting_28 : decode cX6_setting 28 = .ok (.ireturn, 1) := by decide +kernel
set_option maxRecDepth 20000 in
theorem ggX6_meeting_X6_isTeam : GoodIn wsX6_meeting wsX6_isTeam := goodIn_r _ [7, 2, 8, 9, 6, 10, 21, 22, 23, 24, 25, 26, 27, 28, 29, 30, 31, 32] (by decide +kernel) (by decide +kernel)
set_option maxRecDepth 20000 in
theorem gX6_meeting_X6_isTeam : GoodIn wsX6_meeting (wsV RX6 159 RX6 yX6_isTeam wsX6_isTeam) := goodIn_app (goodIn_of _ (by decide +kernel)) ggX6_meeting_X6_isTeam
set_option maxRecDepth 20000 in
theorem ggX6_meeting_X6_fails : GoodIn wsX6_meeting wsX6_fails := goodIn_r _ [14, 1, 21, 22, 23, 24, 25, 26, 27, 28, 29, 30, 31, 32] (by decide +kernel) (by decide +kernel)
set_option maxRecDepth 20000 in
theorem gX6_meeting_X6_fails : GoodIn wsX6_meeting (wsV RX6 44 RX6 yX6_fails wsX6_fails) := goodIn_app (goodIn_of _ (by decide +kernel)) ggX6_meeting_X6_fails
set_option maxRecDepth 20000 in
theorem ggX6_meeting_X6_sideOf : GoodIn wsX6_meeting wsX6_sideOf := goodIn_r _ [17, 18, 19, 6, 20] (by decide +kernel) (by decide +kernel)
set_option maxRecDepth 20000 in
theorem gX6_meeting_X6_sideOf : GoodIn wsX6_meeting (va_wsS RX6 86 yX6_sideOf wsX6_sideOf) := goodIn_app (goodIn_of _ (by decide +kernel)) ggX6_meeting_X6_sideOf
theorem dX6_meeting_0 : decode cX6_meeting 0 = .ok (.aload_n 0, 1) := by decide +kernel
theorem dX6_meeting_1 : decode cX6_meeting 1 = .ok (.iconst 0, 1) := by decide +kernel
theorem dX6_meeting_2 : decode cX6_meeting 2 = .ok (.putfield 29, 3) := by decide +kernel
theorem dX6_meeting_5 : decode cX6_meeting 5 = .ok (.aload_n 0, 1) := by decide +kernel
theorem dX6_meeting_6 : decode cX6_meeting 6 = .ok (.iload_n 1, 1) := by decide +kernel
theorem dX6_meeting_7 : decode cX6_meeting 7 = .ok (.invokevirtual 159, 3) := by decide +kernel
theorem dX6_meeting_10 : decode cX6_meeting 10 = .ok (.ifCond .eq 11, 3) := by decide +kernel
theorem dX6_meeting_13 : decode cX6_meeting 13 = .ok (.aload_n 0, 1) := by decide +kernel
theorem dX6_meeting_14 : decode cX6_meeting 14 = .ok (.iload_n 2, 1) := by decide +kernel
theorem dX6_meeting_15 : decode cX6_meeting 15 = .ok (.invokevirtual 159, 3) := by decide +kernel
theorem dX6_meeting_18 : decode cX6_meeting 18 = .ok (.ifCond .ne 9, 3) := by decide +kernel
theorem dX6_meeting_21 : decode cX6_meeting 21 = .ok (.aload_n 0, 1) := by decide +kernel
theorem dX6_meeting_22 : decode cX6_meeting 22 = .ok (.iconst 1, 1) := by decide +kernel
theorem dX6_meeting_23 : decode cX6_meeting 23 = .ok (.invokevirtual 44, 3) := by decide +kernel
theorem dX6_meeting_26 : decode cX6_meeting 26 = .ok (.ireturn, 1) := by decide +kernel
theorem dX6_meeting_27 : decode cX6_meeting 27 = .ok (.iload_n 1, 1) := by decide +kernel
theorem dX6_meeting_28 : decode cX6_meeting 28 = .ok (.iload_n 2, 1) := by decide +kernel
theorem dX6_meeting_29 : decode cX6_meeting 29 = .ok (.if_icmp .ne 9, 3) := by decide +kernel
theorem dX6_meeting_32 : decode cX6_meeting 32 = .ok (.aload_n 0, 1) := by decide +kernel
theorem dX6_meeting_33 : decode cX6_meeting 33 = .ok (.iconst 2, 1) := by decide +kernel
theorem dX6_meeting_34 : decode cX6_meeting 34 = .ok (.invokevirtual 44, 3) := by decide +kernel
theorem dX6_meeting_37 : decode cX6_meeting 37 = .ok (.ireturn, 1) := by decide +kernel
theorem dX6_meeting_38 : decode cX6_meeting 38 = .ok (.iconst 0, 1) := by decide +kernel
theorem dX6_meeting_39 : decode cX6_meeting 39 = .ok (.istore_n 3, 1) := by decide +kernel
theorem dX6_meeting_40 : decode cX6_meeting 40 = .ok (.iconst 0, 1) := by decide +kernel
theorem dX6_meeting_41 : decode cX6_meeting 41 = .ok (.istore 4, 2) := by decide +kernel
theorem dX6_meeting_43 : decode cX6_meeting 43 = .ok (.iload 4, 2) := by decide +kernel
theorem dX6_meeting_45 : decode cX6_meeting 45 = .ok (.aload_n 0, 1) := by decide +kernel
theorem dX6_meeting_46 : decode cX6_meeting 46 = .ok (.getfield 7, 3) := by decide +kernel
theorem dX6_meeting_49 : decode cX6_meeting 49 = .ok (.iconst 5, 1) := by decide +kernel
theorem dX6_meeting_50 : decode cX6_meeting 50 = .ok (.iaload, 1) := by decide +kernel
theorem dX6_meeting_51 : decode cX6_meeting 51 = .ok (.if_icmp .ge 44, 3) := by decide +kernel
theorem dX6_meeting_54 : decode cX6_meeting 54 = .ok (.aload_n 0, 1) := by decide +kernel
theorem dX6_meeting_55 : decode cX6_meeting 55 = .ok (.getfield 7, 3) := by decide +kernel
theorem dX6_meeting_58 : decode cX6_meeting 58 = .ok (.iload 4, 2) := by decide +kernel
theorem dX6_meeting_60 : decode cX6_meeting 60 = .ok (.iload_n 1, 1) := by decide +kernel
theorem dX6_meeting_61 : decode cX6_meeting 61 = .ok (.invokestatic 86, 3) := by decide +kernel
theorem dX6_meeting_64 : decode cX6_meeting 64 = .ok (.iconst (-1), 1) := by decide +kernel
theorem dX6_meeting_65 : decode cX6_meeting 65 = .ok (.if_icmp .eq 22, 3) := by decide +kernel
theorem dX6_meeting_68 : decode cX6_meeting 68 = .ok (.aload_n 0, 1) := by decide +kernel
theorem dX6_meeting_69 : decode cX6_meeting 69 = .ok (.getfield 7, 3) := by decide +kernel
theorem dX6_meeting_72 : decode cX6_meeting 72 = .ok (.iload 4, 2) := by decide +kernel
theorem dX6_meeting_74 : decode cX6_meeting 74 = .ok (.iload_n 2, 1) := by decide +kernel
theorem dX6_meeting_75 : decode cX6_meeting 75 = .ok (.invokestatic 86, 3) := by decide +kernel
theorem dX6_meeting_78 : decode cX6_meeting 78 = .ok (.iconst (-1), 1) := by decide +kernel
theorem dX6_meeting_79 : decode cX6_meeting 79 = .ok (.if_icmp .eq 8, 3) := by decide +kernel
theorem dX6_meeting_82 : decode cX6_meeting 82 = .ok (.iload 4, 2) := by decide +kernel
theorem dX6_meeting_84 : decode cX6_meeting 84 = .ok (.goto 4, 3) := by decide +kernel
theorem dX6_meeting_87 : decode cX6_meeting 87 = .ok (.iload_n 3, 1) := by decide +kernel
theorem dX6_meeting_88 : decode cX6_meeting 88 = .ok (.istore_n 3, 1) := by decide +kernel
theorem dX6_meeting_89 : decode cX6_meeting 89 = .ok (.iinc 4 1, 3) := by decide +kernel
theorem dX6_meeting_92 : decode cX6_meeting 92 = .ok (.goto (-49), 3) := by decide +kernel
theorem dX6_meeting_95 : decode cX6_meeting 95 = .ok (.iload_n 3, 1) := by decide +kernel
theorem dX6_meeting_96 : decode cX6_meeting 96 = .ok (.ireturn, 1) := by decide +kernel
set_option maxRecDepth 20000 in
theorem ggX6_best_X6_copies : GoodIn wsX6_best wsX6_copies := goodIn_r _ [6] (by decide +kernel) (by decide +kernel)
set_option maxRecDepth 20000 in
theorem gX6_best_X6_copies : GoodIn wsX6_best (va_wsS RX6 40 yX6_copies wsX6_copies) := goodIn_app (goodIn_of _ (by decide +kernel)) ggX6_best_X6_copies
set_option maxRecDepth 20000 in
theorem ggX6_best_X6_sideOf : GoodIn wsX6_best wsX6_sideOf := goodIn_r _ [9, 10, 11, 5, 12] (by decide +kernel) (by decide +kernel)
set_option maxRecDepth 20000 in
theorem gX6_best_X6_sideOf : GoodIn wsX6_best (va_wsS RX6 86 yX6_sideOf wsX6_sideOf) := goodIn_app (goodIn_of _ (by decide +kernel)) ggX6_best_X6_sideOf
set_option maxRecDepth 20000 in
theorem ggX6_best_X6_of : GoodIn wsX6_best wsX6_of := goodIn_r _ [12] (by decide +kernel) (by decide +kernel)
set_option maxRecDepth 20000 in
theorem gX6_best_X6_of : GoodIn wsX6_best (va_wsS RX6 55 yX6_of wsX6_of) := goodIn_app (goodIn_of _ (by decide +kernel)) ggX6_best_X6_of
set_option maxRecDepth 20000 in
theorem ggX6_best_X6_gives : GoodIn wsX6_best wsX6_gives := goodIn_r _ [15] (by decide +kernel) (by decide +kernel)
set_option maxRecDepth 20000 in
theorem gX6_best_X6_gives : GoodIn wsX6_best (va_wsS RX6 109 yX6_gives wsX6_gives) := goodIn_app (goodIn_of _ (by decide +kernel)) ggX6_best_X6_gives
set_option maxRecDepth 20000 in
theorem ggX6_best_X6_placeOf : GoodIn wsX6_best wsX6_placeOf := goodIn_r _ [18, 19, 20, 5, 21, 22, 23, 24, 25, 26, 27, 7, 8, 9, 10, 11, 12, 28, 29, 30] (by decide +kernel) (by decide +kernel)
set_option maxRecDepth 20000 in
theorem gX6_best_X6_placeOf : GoodIn wsX6_best (va_wsS RX6 102 yX6_placeOf wsX6_placeOf) := goodIn_app (goodIn_of _ (by decide +kernel)) ggX6_best_X6_placeOf
theorem dX6_best_0 : decode cX6_best 0 = .ok (.aload_n 0, 1) := by decide +kernel
theorem dX6_best_1 : decode cX6_best 1 = .ok (.getfield 7, 3) := by decide +kernel
theorem dX6_best_4 : decode cX6_best 4 = .ok (.iconst 0, 1) := by decide +kernel
theorem dX6_best_5 : decode cX6_best 5 = .ok (.aload_n 0, 1) := by decide +kernel
theorem dX6_best_6 : decode cX6_best 6 = .ok (.getfield 13, 3) := by decide +kernel
theorem dX6_best_9 : decode cX6_best 9 = .ok (.iconst 0, 1) := by decide +kernel
theorem dX6_best_10 : decode cX6_best 10 = .ok (.invokestatic 40, 3) := by decide +kernel
theorem dX6_best_13 : decode cX6_best 13 = .ok (.iconst 0, 1) := by decide +kernel
theorem dX6_best_14 : decode cX6_best 14 = .ok (.istore_n 2, 1) := by decide +kernel
theorem dX6_best_15 : decode cX6_best 15 = .ok (.iload_n 2, 1) := by decide +kernel
theorem dX6_best_16 : decode cX6_best 16 = .ok (.aload_n 0, 1) := by decide +kernel
theorem dX6_best_17 : decode cX6_best 17 = .ok (.getfield 13, 3) := by decide +kernel
theorem dX6_best_20 : decode cX6_best 20 = .ok (.iconst 5, 1) := by decide +kernel
theorem dX6_best_21 : decode cX6_best 21 = .ok (.iaload, 1) := by decide +kernel
theorem dX6_best_22 : decode cX6_best 22 = .ok (.if_icmp .ge 66, 3) := by decide +kernel
theorem dX6_best_25 : decode cX6_best 25 = .ok (.aload_n 0, 1) := by decide +kernel
theorem dX6_best_26 : decode cX6_best 26 = .ok (.getfield 13, 3) := by decide +kernel
theorem dX6_best_29 : decode cX6_best 29 = .ok (.iload_n 2, 1) := by decide +kernel
theorem dX6_best_30 : decode cX6_best 30 = .ok (.iload_n 1, 1) := by decide +kernel
theorem dX6_best_31 : decode cX6_best 31 = .ok (.invokestatic 86, 3) := by decide +kernel
theorem dX6_best_34 : decode cX6_best 34 = .ok (.istore_n 3, 1) := by decide +kernel
theorem dX6_best_35 : decode cX6_best 35 = .ok (.iload_n 3, 1) := by decide +kernel
theorem dX6_best_36 : decode cX6_best 36 = .ok (.iconst (-1), 1) := by decide +kernel
theorem dX6_best_37 : decode cX6_best 37 = .ok (.if_icmp .eq 45, 3) := by decide +kernel
theorem dX6_best_40 : decode cX6_best 40 = .ok (.aload_n 0, 1) := by decide +kernel
theorem dX6_best_41 : decode cX6_best 41 = .ok (.getfield 13, 3) := by decide +kernel
theorem dX6_best_44 : decode cX6_best 44 = .ok (.iload_n 2, 1) := by decide +kernel
theorem dX6_best_45 : decode cX6_best 45 = .ok (.bipush 6, 2) := by decide +kernel
theorem dX6_best_47 : decode cX6_best 47 = .ok (.invokestatic 55, 3) := by decide +kernel
theorem dX6_best_50 : decode cX6_best 50 = .ok (.ifCond .ne 32, 3) := by decide +kernel
theorem dX6_best_53 : decode cX6_best 53 = .ok (.aload_n 0, 1) := by decide +kernel
theorem dX6_best_54 : decode cX6_best 54 = .ok (.getfield 13, 3) := by decide +kernel
theorem dX6_best_57 : decode cX6_best 57 = .ok (.iload_n 2, 1) := by decide +kernel
theorem dX6_best_58 : decode cX6_best 58 = .ok (.iconst 1, 1) := by decide +kernel
theorem dX6_best_59 : decode cX6_best 59 = .ok (.iload_n 3, 1) := by decide +kernel
theorem dX6_best_60 : decode cX6_best 60 = .ok (.ifCond .ne 8, 3) := by decide +kernel
theorem dX6_best_63 : decode cX6_best 63 = .ok (.bipush 99, 2) := by decide +kernel
theorem dX6_best_65 : decode cX6_best 65 = .ok (.goto 4, 3) := by decide +kernel
theorem dX6_best_68 : decode cX6_best 68 = .ok (.iconst 0, 1) := by decide +kernel
theorem dX6_best_69 : decode cX6_best 69 = .ok (.iload_n 3, 1) := by decide +kernel
theorem dX6_best_70 : decode cX6_best 70 = .ok (.ifCond .ne 7, 3) := by decide +kernel
theorem dX6_best_73 : decode cX6_best 73 = .ok (.iconst 0, 1) := by decide +kernel
theorem dX6_best_74 : decode cX6_best 74 = .ok (.goto 5, 3) := by decide +kernel
theorem dX6_best_77 : decode cX6_best 77 = .ok (.bipush 99, 2) := by decide +kernel
theorem dX6_best_79 : decode cX6_best 79 = .ok (.invokestatic 109, 3) := by decide +kernel
theorem dX6_best_82 : decode cX6_best 82 = .ok (.iinc 2 1, 3) := by decide +kernel
theorem dX6_best_85 : decode cX6_best 85 = .ok (.goto (-70), 3) := by decide +kernel
theorem dX6_best_88 : decode cX6_best 88 = .ok (.aload_n 0, 1) := by decide +kernel
theorem dX6_best_89 : decode cX6_best 89 = .ok (.getfield 13, 3) := by decide +kernel
theorem dX6_best_92 : decode cX6_best 92 = .ok (.iload_n 1, 1) := by decide +kernel
theorem dX6_best_93 : decode cX6_best 93 = .ok (.invokestatic 102, 3) := by decide +kernel
theorem dX6_best_96 : decode cX6_best 96 = .ok (.ireturn, 1) := by decide +kernel
set_option maxRecDepth 20000 in
theorem ggX6_bestPlace_X6_isTeam : GoodIn wsX6_bestPlace wsX6_isTeam := goodIn_r _ [6, 7, 8, 9, 5, 10, 47, 48, 49, 50, 51, 52, 53, 54, 55, 56, 57, 58] (by decide +kernel) (by decide +kernel)
set_option maxRecDepth 20000 in
theorem gX6_bestPlace_X6_isTeam : GoodIn wsX6_bestPlace (wsV RX6 159 RX6 yX6_isTeam wsX6_isTeam) := goodIn_app (goodIn_of _ (by decide +kernel)) ggX6_bestPlace_X6_isTeam
set_option maxRecDepth 20000 in
theorem ggX6_bestPlace_X6_best : GoodIn wsX6_bestPlace wsX6_best := goodIn_r _ [14, 7, 15, 16, 17, 5, 18, 19, 20, 21, 22, 23, 24, 25, 26, 27, 28, 29, 30, 31, 32, 33, 34, 35, 36, 37, 38, 39, 40, 41, 42, 47, 48, 49, 50, 51, 52, 53, 54, 55, 56, 57, 58] (by decide +kernel) (by decide +kernel)
set_option maxRecDepth 20000 in
theorem gX6_bestPlace_X6_best : GoodIn wsX6_bestPlace (wsV RX6 183 RX6 yX6_best wsX6_best) := goodIn_app (goodIn_of _ (by decide +kernel)) ggX6_bestPlace_X6_best
set_option maxRecDepth 20000 in
theorem ggX6_bestPlace_X6_fails : GoodIn wsX6_bestPlace wsX6_fails := goodIn_r _ [46, 1, 47, 48, 49, 50, 51, 52, 53, 54, 55, 56, 57, 58] (by decide +kernel) (by decide +kernel)
set_option maxRecDepth 20000 in
theorem gX6_bestPlace_X6_fails : GoodIn wsX6_bestPlace (wsV RX6 44 RX6 yX6_fails wsX6_fails) := goodIn_app (goodIn_of _ (by decide +kernel)) ggX6_bestPlace_X6_fails
theorem dX6_bestPlace_0 : decode cX6_bestPlace 0 = .ok (.aload_n 0, 1) := by decide +kernel
theorem dX6_bestPlace_1 : decode cX6_bestPlace 1 = .ok (.iconst 0, 1) := by decide +kernel
theorem dX6_bestPlace_2 : decode cX6_bestPlace 2 = .ok (.putfield 29, 3) := by decide +kernel
theorem dX6_bestPlace_5 : decode cX6_bestPlace 5 = .ok (.aload_n 0, 1) := by decide +kernel
theorem dX6_bestPlace_6 : decode cX6_bestPlace 6 = .ok (.iload_n 1, 1) := by decide +kernel
theorem dX6_bestPlace_7 : decode cX6_bestPlace 7 = .ok (.invokevirtual 159, 3) := by decide +kernel
theorem dX6_bestPlace_10 : decode cX6_bestPlace 10 = .ok (.ifCond .eq 11, 3) := by decide +kernel
theorem dX6_bestPlace_13 : decode cX6_bestPlace 13 = .ok (.aload_n 0, 1) := by decide +kernel
theorem dX6_bestPlace_14 : decode cX6_bestPlace 14 = .ok (.iload_n 1, 1) := by decide +kernel
theorem dX6_bestPlace_15 : decode cX6_bestPlace 15 = .ok (.invokevirtual 183, 3) := by decide +kernel
theorem dX6_bestPlace_18 : decode cX6_bestPlace 18 = .ok (.goto 8, 3) := by decide +kernel
theorem dX6_bestPlace_21 : decode cX6_bestPlace 21 = .ok (.aload_n 0, 1) := by decide +kernel
theorem dX6_bestPlace_22 : decode cX6_bestPlace 22 = .ok (.iconst 1, 1) := by decide +kernel
theorem dX6_bestPlace_23 : decode cX6_bestPlace 23 = .ok (.invokevirtual 44, 3) := by decide +kernel
theorem dX6_bestPlace_26 : decode cX6_bestPlace 26 = .ok (.ireturn, 1) := by decide +kernel
set_option maxRecDepth 20000 in
theorem ggX6_sure_X6_points : GoodIn wsX6_sure wsX6_points := goodIn_r _ [5, 6, 7, 4, 8, 9, 10, 11, 12, 13, 14, 15, 16, 17] (by decide +kernel) (by decide +kernel)
set_option maxRecDepth 20000 in
theorem gX6_sure_X6_points : GoodIn wsX6_sure (va_wsS RX6 95 yX6_points wsX6_points) := goodIn_app (goodIn_of _ (by decide +kernel)) ggX6_sure_X6_points
set_option maxRecDepth 20000 in
theorem ggX6_sure_X6_sums : GoodIn wsX6_sure wsX6_sums := goodIn_r _ [8, 9, 10, 4, 11, 12, 13, 14, 15, 16, 17] (by decide +kernel) (by decide +kernel)
set_option maxRecDepth 20000 in
theorem gX6_sure_X6_sums : GoodIn wsX6_sure (va_wsS RX6 92 yX6_sums wsX6_sums) := goodIn_app (goodIn_of _ (by decide +kernel)) ggX6_sure_X6_sums
theorem dX6_sure_0 : decode cX6_sure 0 = .ok (.iconst 1, 1) := by decide +kernel
theorem dX6_sure_1 : decode cX6_sure 1 = .ok (.istore_n 2, 1) := by decide +kernel
theorem dX6_sure_2 : decode cX6_sure 2 = .ok (.iconst 0, 1) := by decide +kernel
theorem dX6_sure_3 : decode cX6_sure 3 = .ok (.istore_n 3, 1) := by decide +kernel
theorem dX6_sure_4 : decode cX6_sure 4 = .ok (.iload_n 3, 1) := by decide +kernel
theorem dX6_sure_5 : decode cX6_sure 5 = .ok (.aload_n 0, 1) := by decide +kernel
theorem dX6_sure_6 : decode cX6_sure 6 = .ok (.getfield 7, 3) := by decide +kernel
theorem dX6_sure_9 : decode cX6_sure 9 = .ok (.iconst 4, 1) := by decide +kernel
theorem dX6_sure_10 : decode cX6_sure 10 = .ok (.iaload, 1) := by decide +kernel
theorem dX6_sure_11 : decode cX6_sure 11 = .ok (.if_icmp .ge 61, 3) := by decide +kernel
theorem dX6_sure_14 : decode cX6_sure 14 = .ok (.iload_n 2, 1) := by decide +kernel
theorem dX6_sure_15 : decode cX6_sure 15 = .ok (.ifCond .eq 49, 3) := by decide +kernel
theorem dX6_sure_18 : decode cX6_sure 18 = .ok (.iload_n 3, 1) := by decide +kernel
theorem dX6_sure_19 : decode cX6_sure 19 = .ok (.iload_n 1, 1) := by decide +kernel
theorem dX6_sure_20 : decode cX6_sure 20 = .ok (.if_icmp .eq 40, 3) := by decide +kernel
theorem dX6_sure_23 : decode cX6_sure 23 = .ok (.aload_n 0, 1) := by decide +kernel
theorem dX6_sure_24 : decode cX6_sure 24 = .ok (.getfield 7, 3) := by decide +kernel
theorem dX6_sure_27 : decode cX6_sure 27 = .ok (.iload_n 3, 1) := by decide +kernel
theorem dX6_sure_28 : decode cX6_sure 28 = .ok (.invokestatic 95, 3) := by decide +kernel
theorem dX6_sure_31 : decode cX6_sure 31 = .ok (.aload_n 0, 1) := by decide +kernel
theorem dX6_sure_32 : decode cX6_sure 32 = .ok (.getfield 7, 3) := by decide +kernel
theorem dX6_sure_35 : decode cX6_sure 35 = .ok (.iconst 0, 1) := by decide +kernel
theorem dX6_sure_36 : decode cX6_sure 36 = .ok (.iaload, 1) := by decide +kernel
theorem dX6_sure_37 : decode cX6_sure 37 = .ok (.aload_n 0, 1) := by decide +kernel
theorem dX6_sure_38 : decode cX6_sure 38 = .ok (.getfield 7, 3) := by decide +kernel
theorem dX6_sure_41 : decode cX6_sure 41 = .ok (.iload_n 3, 1) := by decide +kernel
theorem dX6_sure_42 : decode cX6_sure 42 = .ok (.bipush 8, 2) := by decide +kernel
theorem dX6_sure_44 : decode cX6_sure 44 = .ok (.invokestatic 92, 3) := by decide +kernel
theorem dX6_sure_47 : decode cX6_sure 47 = .ok (.imul, 1) := by decide +kernel
theorem dX6_sure_48 : decode cX6_sure 48 = .ok (.iadd, 1) := by decide +kernel
theorem dX6_sure_49 : decode cX6_sure 49 = .ok (.aload_n 0, 1) := by decide +kernel
theorem dX6_sure_50 : decode cX6_sure 50 = .ok (.getfield 7, 3) := by decide +kernel
theorem dX6_sure_53 : decode cX6_sure 53 = .ok (.iload_n 1, 1) := by decide +kernel
theorem dX6_sure_54 : decode cX6_sure 54 = .ok (.invokestatic 95, 3) := by decide +kernel
theorem dX6_sure_57 : decode cX6_sure 57 = .ok (.if_icmp .ge 7, 3) := by decide +kernel
theorem dX6_sure_60 : decode cX6_sure 60 = .ok (.iconst 1, 1) := by decide +kernel
theorem dX6_sure_61 : decode cX6_sure 61 = .ok (.goto 4, 3) := by decide +kernel
theorem dX6_sure_64 : decode cX6_sure 64 = .ok (.iconst 0, 1) := by decide +kernel
theorem dX6_sure_65 : decode cX6_sure 65 = .ok (.istore_n 2, 1) := by decide +kernel
theorem dX6_sure_66 : decode cX6_sure 66 = .ok (.iinc 3 1, 3) := by decide +kernel
theorem dX6_sure_69 : decode cX6_sure 69 = .ok (.goto (-65), 3) := by decide +kernel
theorem dX6_sure_72 : decode cX6_sure 72 = .ok (.iload_n 2, 1) := by decide +kernel
theorem dX6_sure_73 : decode cX6_sure 73 = .ok (.ifCond .eq 7, 3) := by decide +kernel
theorem dX6_sure_76 : decode cX6_sure 76 = .ok (.iconst 1, 1) := by decide +kernel
theorem dX6_sure_77 : decode cX6_sure 77 = .ok (.goto 4, 3) := by decide +kernel
theorem dX6_sure_80 : decode cX6_sure 80 = .ok (.iconst 0, 1) := by decide +kernel
theorem dX6_sure_81 : decode cX6_sure 81 = .ok (.ireturn, 1) := by decide +kernel
set_option maxRecDepth 20000 in
theorem ggX6_isSure_X6_isTeam : GoodIn wsX6_isSure wsX6_isTeam := goodIn_r _ [6, 7, 8, 9, 5, 10, 34, 35, 36, 37, 38, 39, 40, 41, 42, 43, 44, 45] (by decide +kernel) (by decide +kernel)
set_option maxRecDepth 20000 in
theorem gX6_isSure_X6_isTeam : GoodIn wsX6_isSure (wsV RX6 159 RX6 yX6_isTeam wsX6_isTeam) := goodIn_app (goodIn_of _ (by decide +kernel)) ggX6_isSure_X6_isTeam
set_option maxRecDepth 20000 in
theorem ggX6_isSure_X6_sure : GoodIn wsX6_isSure wsX6_sure := goodIn_r _ [14, 7, 15, 16, 5, 17, 18, 19, 20, 21, 22, 23, 24, 25, 26, 27, 28, 29, 34, 35, 36, 37, 38, 39, 40, 41, 42, 43, 44, 45] (by decide +kernel) (by decide +kernel)
set_option maxRecDepth 20000 in
theorem gX6_isSure_X6_sure : GoodIn wsX6_isSure (wsV RX6 186 RX6 yX6_sure wsX6_sure) := goodIn_app (goodIn_of _ (by decide +kernel)) ggX6_isSure_X6_sure
set_option maxRecDepth 20000 in
theorem ggX6_isSure_X6_fails : GoodIn wsX6_isSure wsX6_fails := goodIn_r _ [33, 1, 34, 35, 36, 37, 38, 39, 40, 41, 42, 43, 44, 45] (by decide +kernel) (by decide +kernel)
set_option maxRecDepth 20000 in
theorem gX6_isSure_X6_fails : GoodIn wsX6_isSure (wsV RX6 44 RX6 yX6_fails wsX6_fails) := goodIn_app (goodIn_of _ (by decide +kernel)) ggX6_isSure_X6_fails
theorem dX6_isSure_0 : decode cX6_isSure 0 = .ok (.aload_n 0, 1) := by decide +kernel
theorem dX6_isSure_1 : decode cX6_isSure 1 = .ok (.iconst 0, 1) := by decide +kernel
theorem dX6_isSure_2 : decode cX6_isSure 2 = .ok (.putfield 29, 3) := by decide +kernel
theorem dX6_isSure_5 : decode cX6_isSure 5 = .ok (.aload_n 0, 1) := by decide +kernel
theorem dX6_isSure_6 : decode cX6_isSure 6 = .ok (.iload_n 1, 1) := by decide +kernel
theorem dX6_isSure_7 : decode cX6_isSure 7 = .ok (.invokevirtual 159, 3) := by decide +kernel
theorem dX6_isSure_10 : decode cX6_isSure 10 = .ok (.ifCond .eq 11, 3) := by decide +kernel
theorem dX6_isSure_13 : decode cX6_isSure 13 = .ok (.aload_n 0, 1) := by decide +kernel
theorem dX6_isSure_14 : decode cX6_isSure 14 = .ok (.iload_n 1, 1) := by decide +kernel
theorem dX6_isSure_15 : decode cX6_isSure 15 = .ok (.invokevirtual 186, 3) := by decide +kernel
theorem dX6_isSure_18 : decode cX6_isSure 18 = .ok (.goto 8, 3) := by decide +kernel
theorem dX6_isSure_21 : decode cX6_isSure 21 = .ok (.aload_n 0, 1) := by decide +kernel
theorem dX6_isSure_22 : decode cX6_isSure 22 = .ok (.iconst 1, 1) := by decide +kernel
theorem dX6_isSure_23 : decode cX6_isSure 23 = .ok (.invokevirtual 44, 3) := by decide +kernel
theorem dX6_isSure_26 : decode cX6_isSure 26 = .ok (.ireturn, 1) := by decide +kernel
set_option maxRecDepth 20000 in
theorem ggX6_without_X6_copies : GoodIn wsX6_without wsX6_copies := goodIn_r _ [6] (by decide +kernel) (by decide +kernel)
set_option maxRecDepth 20000 in
theorem gX6_without_X6_copies : GoodIn wsX6_without (va_wsS RX6 40 yX6_copies wsX6_copies) := goodIn_app (goodIn_of _ (by decide +kernel)) ggX6_without_X6_copies
set_option maxRecDepth 20000 in
theorem ggX6_without_X6_stages : GoodIn wsX6_without wsX6_stages := goodIn_r _ [9, 10, 11, 5, 12, 13, 14, 15, 16, 17, 18, 19, 20, 21, 22, 23, 24] (by decide +kernel) (by decide +kernel)
set_option maxRecDepth 20000 in
theorem gX6_without_X6_stages : GoodIn wsX6_without (va_wsS RX6 82 yX6_stages wsX6_stages) := goodIn_app (goodIn_of _ (by decide +kernel)) ggX6_without_X6_stages
theorem dX6_without_0 : decode cX6_without 0 = .ok (.aload_n 0, 1) := by decide +kernel
theorem dX6_without_1 : decode cX6_without 1 = .ok (.getfield 7, 3) := by decide +kernel
theorem dX6_without_4 : decode cX6_without 4 = .ok (.iconst 0, 1) := by decide +kernel
theorem dX6_without_5 : decode cX6_without 5 = .ok (.aload_n 0, 1) := by decide +kernel
theorem dX6_without_6 : decode cX6_without 6 = .ok (.getfield 13, 3) := by decide +kernel
theorem dX6_without_9 : decode cX6_without 9 = .ok (.iconst 0, 1) := by decide +kernel
theorem dX6_without_10 : decode cX6_without 10 = .ok (.invokestatic 40, 3) := by decide +kernel
theorem dX6_without_13 : decode cX6_without 13 = .ok (.aload_n 0, 1) := by decide +kernel
theorem dX6_without_14 : decode cX6_without 14 = .ok (.getfield 13, 3) := by decide +kernel
theorem dX6_without_17 : decode cX6_without 17 = .ok (.bipush 6, 2) := by decide +kernel
theorem dX6_without_19 : decode cX6_without 19 = .ok (.iload_n 1, 1) := by decide +kernel
theorem dX6_without_20 : decode cX6_without 20 = .ok (.iadd, 1) := by decide +kernel
theorem dX6_without_21 : decode cX6_without 21 = .ok (.bipush 127, 2) := by decide +kernel
theorem dX6_without_23 : decode cX6_without 23 = .ok (.iastore, 1) := by decide +kernel
theorem dX6_without_24 : decode cX6_without 24 = .ok (.aload_n 0, 1) := by decide +kernel
theorem dX6_without_25 : decode cX6_without 25 = .ok (.getfield 13, 3) := by decide +kernel
theorem dX6_without_28 : decode cX6_without 28 = .ok (.invokestatic 82, 3) := by decide +kernel
theorem dX6_without_31 : decode cX6_without 31 = .ok (.ireturn, 1) := by decide +kernel
set_option maxRecDepth 20000 in
theorem ggX6_ifMissing_X6_in : GoodIn wsX6_ifMissing wsX6_in := goodIn_r _ [5] (by decide +kernel) (by decide +kernel)
set_option maxRecDepth 20000 in
theorem gX6_ifMissing_X6_in : GoodIn wsX6_ifMissing (va_wsS RX6 33 yX6_in wsX6_in) := goodIn_app (goodIn_of _ (by decide +kernel)) ggX6_ifMissing_X6_in
set_option maxRecDepth 20000 in
theorem ggX6_ifMissing_X6_without : GoodIn wsX6_ifMissing wsX6_without := goodIn_r _ [9, 10, 11, 12, 13, 4, 14, 15, 16, 17, 18, 19, 20, 21, 22, 23, 24, 25, 26, 27, 28, 29, 30, 31, 32, 37, 38, 39, 40, 41, 42, 43, 44, 45, 46, 47, 48] (by decide +kernel) (by decide +kernel)
set_option maxRecDepth 20000 in
theorem gX6_ifMissing_X6_without : GoodIn wsX6_ifMissing (wsV RX6 189 RX6 yX6_without wsX6_without) := goodIn_app (goodIn_of _ (by decide +kernel)) ggX6_ifMissing_X6_without
set_option maxRecDepth 20000 in
theorem ggX6_ifMissing_X6_fails : GoodIn wsX6_ifMissing wsX6_fails := goodIn_r _ [36, 1, 37, 38, 39, 40, 41, 42, 43, 44, 45, 46, 47, 48] (by decide +kernel) (by decide +kernel)
set_option maxRecDepth 20000 in
theorem gX6_ifMissing_X6_fails : GoodIn wsX6_ifMissing (wsV RX6 44 RX6 yX6_fails wsX6_fails) := goodIn_app (goodIn_of _ (by decide +kernel)) ggX6_ifMissing_X6_fails
theorem dX6_ifMissing_0 : decode cX6_ifMissing 0 = .ok (.aload_n 0, 1) := by decide +kernel
theorem dX6_ifMissing_1 : decode cX6_ifMissing 1 = .ok (.iconst 0, 1) := by decide +kernel
theorem dX6_ifMissing_2 : decode cX6_ifMissing 2 = .ok (.putfield 29, 3) := by decide +kernel
theorem dX6_ifMissing_5 : decode cX6_ifMissing 5 = .ok (.iload_n 1, 1) := by decide +kernel
theorem dX6_ifMissing_6 : decode cX6_ifMissing 6 = .ok (.iconst 0, 1) := by decide +kernel
theorem dX6_ifMissing_7 : decode cX6_ifMissing 7 = .ok (.bipush 11, 2) := by decide +kernel
theorem dX6_ifMissing_9 : decode cX6_ifMissing 9 = .ok (.invokestatic 33, 3) := by decide +kernel
theorem dX6_ifMissing_12 : decode cX6_ifMissing 12 = .ok (.ifCond .eq 11, 3) := by decide +kernel
theorem dX6_ifMissing_15 : decode cX6_ifMissing 15 = .ok (.aload_n 0, 1) := by decide +kernel
theorem dX6_ifMissing_16 : decode cX6_ifMissing 16 = .ok (.iload_n 1, 1) := by decide +kernel
theorem dX6_ifMissing_17 : decode cX6_ifMissing 17 = .ok (.invokevirtual 189, 3) := by decide +kernel
theorem dX6_ifMissing_20 : decode cX6_ifMissing 20 = .ok (.goto 8, 3) := by decide +kernel
theorem dX6_ifMissing_23 : decode cX6_ifMissing 23 = .ok (.aload_n 0, 1) := by decide +kernel
theorem dX6_ifMissing_24 : decode cX6_ifMissing 24 = .ok (.iconst 1, 1) := by decide +kernel
theorem dX6_ifMissing_25 : decode cX6_ifMissing 25 = .ok (.invokevirtual 44, 3) := by decide +kernel
theorem dX6_ifMissing_28 : decode cX6_ifMissing 28 = .ok (.ireturn, 1) := by decide +kernel
set_option maxRecDepth 20000 in
theorem ggX6_nearness_X6_teamAt : GoodIn wsX6_nearness wsX6_teamAt := goodIn_r _ [5, 6, 7, 4, 8, 9, 10, 11, 12, 13, 14, 15, 16, 17, 18, 19, 20, 21, 22, 23, 24, 25, 26] (by decide +kernel) (by decide +kernel)
set_option maxRecDepth 20000 in
theorem gX6_nearness_X6_teamAt : GoodIn wsX6_nearness (va_wsS RX6 165 yX6_teamAt wsX6_teamAt) := goodIn_app (goodIn_of _ (by decide +kernel)) ggX6_nearness_X6_teamAt
set_option maxRecDepth 20000 in
theorem ggX6_nearness_X6_points : GoodIn wsX6_nearness wsX6_points := goodIn_r _ [14, 15, 16, 4, 17, 18, 19, 20, 21, 22, 23, 24, 25, 26] (by decide +kernel) (by decide +kernel)
set_option maxRecDepth 20000 in
theorem gX6_nearness_X6_points : GoodIn wsX6_nearness (va_wsS RX6 95 yX6_points wsX6_points) := goodIn_app (goodIn_of _ (by decide +kernel)) ggX6_nearness_X6_points
theorem dX6_nearness_0 : decode cX6_nearness 0 = .ok (.aload_n 0, 1) := by decide +kernel
theorem dX6_nearness_1 : decode cX6_nearness 1 = .ok (.getfield 7, 3) := by decide +kernel
theorem dX6_nearness_4 : decode cX6_nearness 4 = .ok (.aload_n 0, 1) := by decide +kernel
theorem dX6_nearness_5 : decode cX6_nearness 5 = .ok (.getfield 7, 3) := by decide +kernel
theorem dX6_nearness_8 : decode cX6_nearness 8 = .ok (.iconst 0, 1) := by decide +kernel
theorem dX6_nearness_9 : decode cX6_nearness 9 = .ok (.invokestatic 165, 3) := by decide +kernel
theorem dX6_nearness_12 : decode cX6_nearness 12 = .ok (.invokestatic 95, 3) := by decide +kernel
theorem dX6_nearness_15 : decode cX6_nearness 15 = .ok (.istore_n 1, 1) := by decide +kernel
theorem dX6_nearness_16 : decode cX6_nearness 16 = .ok (.aload_n 0, 1) := by decide +kernel
theorem dX6_nearness_17 : decode cX6_nearness 17 = .ok (.getfield 7, 3) := by decide +kernel
theorem dX6_nearness_20 : decode cX6_nearness 20 = .ok (.aload_n 0, 1) := by decide +kernel
theorem dX6_nearness_21 : decode cX6_nearness 21 = .ok (.getfield 7, 3) := by decide +kernel
theorem dX6_nearness_24 : decode cX6_nearness 24 = .ok (.aload_n 0, 1) := by decide +kernel
theorem dX6_nearness_25 : decode cX6_nearness 25 = .ok (.getfield 7, 3) := by decide +kernel
theorem dX6_nearness_28 : decode cX6_nearness 28 = .ok (.iconst 4, 1) := by decide +kernel
theorem dX6_nearness_29 : decode cX6_nearness 29 = .ok (.iaload, 1) := by decide +kernel
theorem dX6_nearness_30 : decode cX6_nearness 30 = .ok (.iconst 1, 1) := by decide +kernel
theorem dX6_nearness_31 : decode cX6_nearness 31 = .ok (.isub, 1) := by decide +kernel
theorem dX6_nearness_32 : decode cX6_nearness 32 = .ok (.invokestatic 165, 3) := by decide +kernel
theorem dX6_nearness_35 : decode cX6_nearness 35 = .ok (.invokestatic 95, 3) := by decide +kernel
theorem dX6_nearness_38 : decode cX6_nearness 38 = .ok (.istore_n 2, 1) := by decide +kernel
theorem dX6_nearness_39 : decode cX6_nearness 39 = .ok (.iload_n 1, 1) := by decide +kernel
theorem dX6_nearness_40 : decode cX6_nearness 40 = .ok (.ifCond .gt 7, 3) := by decide +kernel
theorem dX6_nearness_43 : decode cX6_nearness 43 = .ok (.dconst 1, 1) := by decide +kernel
theorem dX6_nearness_44 : decode cX6_nearness 44 = .ok (.goto 8, 3) := by decide +kernel
theorem dX6_nearness_47 : decode cX6_nearness 47 = .ok (.iload_n 2, 1) := by decide +kernel
theorem dX6_nearness_48 : decode cX6_nearness 48 = .ok (.i2d, 1) := by decide +kernel
theorem dX6_nearness_49 : decode cX6_nearness 49 = .ok (.iload_n 1, 1) := by decide +kernel
theorem dX6_nearness_50 : decode cX6_nearness 50 = .ok (.i2d, 1) := by decide +kernel
theorem dX6_nearness_51 : decode cX6_nearness 51 = .ok (.ddiv, 1) := by decide +kernel
theorem dX6_nearness_52 : decode cX6_nearness 52 = .ok (.dreturn, 1) := by decide +kernel
set_option maxRecDepth 20000 in
theorem ggX6_closeness_X6_nearness : GoodIn wsX6_closeness wsX6_nearness := goodIn_r _ [6, 7, 8, 9, 5, 10, 11, 12, 13, 14, 15, 16, 17, 18, 19, 20, 21, 22, 23, 24, 25, 26, 27, 28, 29, 30, 31, 32, 33, 34, 35, 36, 37, 38, 39, 40, 41, 42, 43] (by decide +kernel) (by decide +kernel)
set_option maxRecDepth 20000 in
theorem gX6_closeness_X6_nearness : GoodIn wsX6_closeness (wsV RX6 192 RX6 yX6_nearness wsX6_nearness) := goodIn_app (goodIn_of _ (by decide +kernel)) ggX6_closeness_X6_nearness
theorem dX6_closeness_0 : decode cX6_closeness 0 = .ok (.aload_n 0, 1) := by decide +kernel
theorem dX6_closeness_1 : decode cX6_closeness 1 = .ok (.iconst 0, 1) := by decide +kernel
theorem dX6_closeness_2 : decode cX6_closeness 2 = .ok (.putfield 29, 3) := by decide +kernel
theorem dX6_closeness_5 : decode cX6_closeness 5 = .ok (.aload_n 0, 1) := by decide +kernel
theorem dX6_closeness_6 : decode cX6_closeness 6 = .ok (.invokevirtual 192, 3) := by decide +kernel
theorem dX6_closeness_9 : decode cX6_closeness 9 = .ok (.dreturn, 1) := by decide +kernel
set_option maxRecDepth 20000 in
theorem ggX6_digest_X6_counted : GoodIn wsX6_digest wsX6_counted := goodIn_r _ [11, 4, 12, 13, 14, 10, 15, 16, 17, 18, 19, 20, 21, 22, 23, 24, 25, 26, 27, 28, 29, 30, 31, 32, 33, 34, 35, 36, 37, 38, 39, 40, 41, 42, 43, 44, 45, 46, 47, 48, 49, 50, 51, 52, 53, 54, 55, 110, 111, 112, 113, 114, 115, 116, 117, 118, 119, 120, 121] (by decide +kernel) (by decide +kernel)
set_option maxRecDepth 20000 in
theorem gX6_digest_X6_counted : GoodIn wsX6_digest (wsV RX6 180 RX6 yX6_counted wsX6_counted) := goodIn_app (goodIn_of _ (by decide +kernel)) ggX6_digest_X6_counted
set_option maxRecDepth 20000 in
theorem ggX6_digest_X6_ofMatch : GoodIn wsX6_digest wsX6_ofMatch := goodIn_r _ [59, 4, 19, 20, 10, 21, 43, 44, 45, 110, 111, 112, 113, 114, 115, 116, 117, 118, 119, 120, 121] (by decide +kernel) (by decide +kernel)
set_option maxRecDepth 20000 in
theorem gX6_digest_X6_ofMatch : GoodIn wsX6_digest (wsV RX6 156 RX6 yX6_ofMatch wsX6_ofMatch) := goodIn_app (goodIn_of _ (by decide +kernel)) ggX6_digest_X6_ofMatch
set_option maxRecDepth 20000 in
theorem ggX6_digest_X6_ofTeam : GoodIn wsX6_digest wsX6_ofTeam := goodIn_r _ [33, 4, 34, 35, 10, 36, 37, 38, 39, 40, 41, 42, 19, 20, 21, 43, 44, 45, 46, 47, 48, 49, 50, 51, 110, 111, 112, 113, 114, 115, 116, 117, 118, 119, 120, 121] (by decide +kernel) (by decide +kernel)
set_option maxRecDepth 20000 in
theorem gX6_digest_X6_ofTeam : GoodIn wsX6_digest (wsV RX6 162 RX6 yX6_ofTeam wsX6_ofTeam) := goodIn_app (goodIn_of _ (by decide +kernel)) ggX6_digest_X6_ofTeam
set_option maxRecDepth 20000 in
theorem ggX6_digest_X6_best : GoodIn wsX6_digest wsX6_best := goodIn_r _ [63, 4, 64, 65, 66, 10, 67, 40, 41, 42, 19, 20, 21, 68, 69, 70, 46, 47, 48, 49, 50, 51, 34, 35, 36, 37, 38, 39, 43, 44, 45, 110, 111, 112, 113, 114, 115, 116, 117, 118, 119, 120, 121] (by decide +kernel) (by decide +kernel)
set_option maxRecDepth 20000 in
theorem gX6_digest_X6_best : GoodIn wsX6_digest (wsV RX6 183 RX6 yX6_best wsX6_best) := goodIn_app (goodIn_of _ (by decide +kernel)) ggX6_digest_X6_best
set_option maxRecDepth 20000 in
theorem ggX6_digest_X6_sure : GoodIn wsX6_digest wsX6_sure := goodIn_r _ [74, 4, 34, 35, 10, 36, 37, 38, 39, 40, 41, 42, 19, 20, 21, 43, 44, 45, 110, 111, 112, 113, 114, 115, 116, 117, 118, 119, 120, 121] (by decide +kernel) (by decide +kernel)
set_option maxRecDepth 20000 in
theorem gX6_digest_X6_sure : GoodIn wsX6_digest (wsV RX6 186 RX6 yX6_sure wsX6_sure) := goodIn_app (goodIn_of _ (by decide +kernel)) ggX6_digest_X6_sure
set_option maxRecDepth 20000 in
theorem ggX6_digest_X6_teamAt : GoodIn wsX6_digest wsX6_teamAt := goodIn_r _ [77, 46, 47, 10, 48, 49, 50, 51, 34, 35, 36, 37, 38, 39, 40, 41, 42, 19, 20, 21, 43, 44, 45] (by decide +kernel) (by decide +kernel)
set_option maxRecDepth 20000 in
theorem gX6_digest_X6_teamAt : GoodIn wsX6_digest (va_wsS RX6 165 yX6_teamAt wsX6_teamAt) := goodIn_app (goodIn_of _ (by decide +kernel)) ggX6_digest_X6_teamAt
set_option maxRecDepth 20000 in
theorem ggX6_digest_X6_without : GoodIn wsX6_digest wsX6_without := goodIn_r _ [81, 4, 64, 65, 66, 10, 67, 82, 83, 84, 19, 20, 21, 85, 86, 87, 88, 89, 90, 91, 92, 93, 16, 17, 18, 110, 111, 112, 113, 114, 115, 116, 117, 118, 119, 120, 121] (by decide +kernel) (by decide +kernel)
set_option maxRecDepth 20000 in
theorem gX6_digest_X6_without : GoodIn wsX6_digest (wsV RX6 189 RX6 yX6_without wsX6_without) := goodIn_app (goodIn_of _ (by decide +kernel)) ggX6_digest_X6_without
set_option maxRecDepth 20000 in
theorem ggX6_digest_X6_nearness : GoodIn wsX6_digest wsX6_nearness := goodIn_r _ [97, 4, 75, 76, 10, 77, 46, 47, 48, 49, 50, 51, 34, 35, 36, 37, 38, 39, 40, 41, 42, 19, 20, 21, 43, 44, 45, 110, 111, 112, 113, 114, 115, 116, 117, 118, 119, 120, 121] (by decide +kernel) (by decide +kernel)
set_option maxRecDepth 20000 in
theorem gX6_digest_X6_nearness : GoodIn wsX6_digest (wsV RX6 192 RX6 yX6_nearness wsX6_nearness) := goodIn_app (goodIn_of _ (by decide +kernel)) ggX6_digest_X6_nearness
set_option maxRecDepth 20000 in
theorem ggX6_digest_Jxe99ae_doubleToLongBits_ccdee : GoodIn wsX6_digest wsJxe99ae_doubleToLongBits_ccdee := goodIn_r _ [101, 102, 103, 104, 105, 106, 107, 108, 100, 109] (by decide +kernel) (by decide +kernel)
set_option maxRecDepth 20000 in
theorem gX6_digest_Jxe99ae_doubleToLongBits_ccdee : GoodIn wsX6_digest (va_wsS RX6 200 yJxe99ae_doubleToLongBits_ccdee wsJxe99ae_doubleToLongBits_ccdee) := goodIn_app (goodIn_of _ (by decide +kernel)) ggX6_digest_Jxe99ae_doubleToLongBits_ccdee
theorem dX6_digest_0 : decode cX6_digest 0 = .ok (.aload_n 0, 1) := by decide +kernel
theorem dX6_digest_1 : decode cX6_digest 1 = .ok (.iconst 0, 1) := by decide +kernel
theorem dX6_digest_2 : decode cX6_digest 2 = .ok (.putfield 29, 3) := by decide +kernel
theorem dX6_digest_5 : decode cX6_digest 5 = .ok (.ldc2_w 196, 3) := by decide +kernel
theorem dX6_digest_8 : decode cX6_digest 8 = .ok (.lstore_n 1, 1) := by decide +kernel
theorem dX6_digest_9 : decode cX6_digest 9 = .ok (.iconst 0, 1) := by decide +kernel
theorem dX6_digest_10 : decode cX6_digest 10 = .ok (.istore_n 3, 1) := by decide +kernel
theorem dX6_digest_11 : decode cX6_digest 11 = .ok (.iload_n 3, 1) := by decide +kernel
theorem dX6_digest_12 : decode cX6_digest 12 = .ok (.bipush 10, 2) := by decide +kernel
theorem dX6_digest_14 : decode cX6_digest 14 = .ok (.if_icmp .ge 22, 3) := by decide +kernel
theorem dX6_digest_17 : decode cX6_digest 17 = .ok (.ldc2_w 198, 3) := by decide +kernel
theorem dX6_digest_20 : decode cX6_digest 20 = .ok (.lload_n 1, 1) := by decide +kernel
theorem dX6_digest_21 : decode cX6_digest 21 = .ok (.lmul, 1) := by decide +kernel
theorem dX6_digest_22 : decode cX6_digest 22 = .ok (.aload_n 0, 1) := by decide +kernel
theorem dX6_digest_23 : decode cX6_digest 23 = .ok (.iload_n 3, 1) := by decide +kernel
theorem dX6_digest_24 : decode cX6_digest 24 = .ok (.invokevirtual 180, 3) := by decide +kernel
theorem dX6_digest_27 : decode cX6_digest 27 = .ok (.i2l, 1) := by decide +kernel
theorem dX6_digest_28 : decode cX6_digest 28 = .ok (.ladd, 1) := by decide +kernel
theorem dX6_digest_29 : decode cX6_digest 29 = .ok (.lstore_n 1, 1) := by decide +kernel
theorem dX6_digest_30 : decode cX6_digest 30 = .ok (.iinc 3 1, 3) := by decide +kernel
theorem dX6_digest_33 : decode cX6_digest 33 = .ok (.goto (-22), 3) := by decide +kernel
theorem dX6_digest_36 : decode cX6_digest 36 = .ok (.iconst 0, 1) := by decide +kernel
theorem dX6_digest_37 : decode cX6_digest 37 = .ok (.istore_n 3, 1) := by decide +kernel
theorem dX6_digest_38 : decode cX6_digest 38 = .ok (.iload_n 3, 1) := by decide +kernel
theorem dX6_digest_39 : decode cX6_digest 39 = .ok (.iconst 4, 1) := by decide +kernel
theorem dX6_digest_40 : decode cX6_digest 40 = .ok (.if_icmp .ge 23, 3) := by decide +kernel
theorem dX6_digest_43 : decode cX6_digest 43 = .ok (.ldc2_w 198, 3) := by decide +kernel
theorem dX6_digest_46 : decode cX6_digest 46 = .ok (.lload_n 1, 1) := by decide +kernel
theorem dX6_digest_47 : decode cX6_digest 47 = .ok (.lmul, 1) := by decide +kernel
theorem dX6_digest_48 : decode cX6_digest 48 = .ok (.aload_n 0, 1) := by decide +kernel
theorem dX6_digest_49 : decode cX6_digest 49 = .ok (.getfield 7, 3) := by decide +kernel
theorem dX6_digest_52 : decode cX6_digest 52 = .ok (.iload_n 3, 1) := by decide +kernel
theorem dX6_digest_53 : decode cX6_digest 53 = .ok (.iaload, 1) := by decide +kernel
theorem dX6_digest_54 : decode cX6_digest 54 = .ok (.i2l, 1) := by decide +kernel
theorem dX6_digest_55 : decode cX6_digest 55 = .ok (.ladd, 1) := by decide +kernel
theorem dX6_digest_56 : decode cX6_digest 56 = .ok (.lstore_n 1, 1) := by decide +kernel
theorem dX6_digest_57 : decode cX6_digest 57 = .ok (.iinc 3 1, 3) := by decide +kernel
theorem dX6_digest_60 : decode cX6_digest 60 = .ok (.goto (-22), 3) := by decide +kernel
theorem dX6_digest_63 : decode cX6_digest 63 = .ok (.iconst 0, 1) := by decide +kernel
theorem dX6_digest_64 : decode cX6_digest 64 = .ok (.istore_n 3, 1) := by decide +kernel
theorem dX6_digest_65 : decode cX6_digest 65 = .ok (.iload_n 3, 1) := by decide +kernel
theorem dX6_digest_66 : decode cX6_digest 66 = .ok (.bipush 12, 2) := by decide +kernel
theorem dX6_digest_68 : decode cX6_digest 68 = .ok (.if_icmp .ge 26, 3) := by decide +kernel
theorem dX6_digest_71 : decode cX6_digest 71 = .ok (.ldc2_w 198, 3) := by decide +kernel
theorem dX6_digest_74 : decode cX6_digest 74 = .ok (.lload_n 1, 1) := by decide +kernel
theorem dX6_digest_75 : decode cX6_digest 75 = .ok (.lmul, 1) := by decide +kernel
theorem dX6_digest_76 : decode cX6_digest 76 = .ok (.aload_n 0, 1) := by decide +kernel
theorem dX6_digest_77 : decode cX6_digest 77 = .ok (.getfield 7, 3) := by decide +kernel
theorem dX6_digest_80 : decode cX6_digest 80 = .ok (.bipush 6, 2) := by decide +kernel
theorem dX6_digest_82 : decode cX6_digest 82 = .ok (.iload_n 3, 1) := by decide +kernel
theorem dX6_digest_83 : decode cX6_digest 83 = .ok (.iadd, 1) := by decide +kernel
theorem dX6_digest_84 : decode cX6_digest 84 = .ok (.iaload, 1) := by decide +kernel
theorem dX6_digest_85 : decode cX6_digest 85 = .ok (.i2l, 1) := by decide +kernel
theorem dX6_digest_86 : decode cX6_digest 86 = .ok (.ladd, 1) := by decide +kernel
theorem dX6_digest_87 : decode cX6_digest 87 = .ok (.lstore_n 1, 1) := by decide +kernel
theorem dX6_digest_88 : decode cX6_digest 88 = .ok (.iinc 3 1, 3) := by decide +kernel
theorem dX6_digest_91 : decode cX6_digest 91 = .ok (.goto (-26), 3) := by decide +kernel
theorem dX6_digest_94 : decode cX6_digest 94 = .ok (.iconst 0, 1) := by decide +kernel
theorem dX6_digest_95 : decode cX6_digest 95 = .ok (.istore_n 3, 1) := by decide +kernel
theorem dX6_digest_96 : decode cX6_digest 96 = .ok (.iload_n 3, 1) := by decide +kernel
theorem dX6_digest_97 : decode cX6_digest 97 = .ok (.aload_n 0, 1) := by decide +kernel
theorem dX6_digest_98 : decode cX6_digest 98 = .ok (.getfield 7, 3) := by decide +kernel
theorem dX6_digest_101 : decode cX6_digest 101 = .ok (.iconst 5, 1) := by decide +kernel
theorem dX6_digest_102 : decode cX6_digest 102 = .ok (.iaload, 1) := by decide +kernel
theorem dX6_digest_103 : decode cX6_digest 103 = .ok (.if_icmp .ge 40, 3) := by decide +kernel
theorem dX6_digest_106 : decode cX6_digest 106 = .ok (.iconst 0, 1) := by decide +kernel
theorem dX6_digest_107 : decode cX6_digest 107 = .ok (.istore 4, 2) := by decide +kernel
theorem dX6_digest_109 : decode cX6_digest 109 = .ok (.iload 4, 2) := by decide +kernel
theorem dX6_digest_111 : decode cX6_digest 111 = .ok (.bipush 9, 2) := by decide +kernel
theorem dX6_digest_113 : decode cX6_digest 113 = .ok (.if_icmp .ge 24, 3) := by decide +kernel
theorem dX6_digest_116 : decode cX6_digest 116 = .ok (.ldc2_w 198, 3) := by decide +kernel
theorem dX6_digest_119 : decode cX6_digest 119 = .ok (.lload_n 1, 1) := by decide +kernel
theorem dX6_digest_120 : decode cX6_digest 120 = .ok (.lmul, 1) := by decide +kernel
theorem dX6_digest_121 : decode cX6_digest 121 = .ok (.aload_n 0, 1) := by decide +kernel
theorem dX6_digest_122 : decode cX6_digest 122 = .ok (.iload_n 3, 1) := by decide +kernel
theorem dX6_digest_123 : decode cX6_digest 123 = .ok (.iload 4, 2) := by decide +kernel
theorem dX6_digest_125 : decode cX6_digest 125 = .ok (.invokevirtual 156, 3) := by decide +kernel
theorem dX6_digest_128 : decode cX6_digest 128 = .ok (.i2l, 1) := by decide +kernel
theorem dX6_digest_129 : decode cX6_digest 129 = .ok (.ladd, 1) := by decide +kernel
theorem dX6_digest_130 : decode cX6_digest 130 = .ok (.lstore_n 1, 1) := by decide +kernel
theorem dX6_digest_131 : decode cX6_digest 131 = .ok (.iinc 4 1, 3) := by decide +kernel
theorem dX6_digest_134 : decode cX6_digest 134 = .ok (.goto (-25), 3) := by decide +kernel
theorem dX6_digest_137 : decode cX6_digest 137 = .ok (.iinc 3 1, 3) := by decide +kernel
theorem dX6_digest_140 : decode cX6_digest 140 = .ok (.goto (-44), 3) := by decide +kernel
theorem dX6_digest_143 : decode cX6_digest 143 = .ok (.iconst 0, 1) := by decide +kernel
theorem dX6_digest_144 : decode cX6_digest 144 = .ok (.istore_n 3, 1) := by decide +kernel
theorem dX6_digest_145 : decode cX6_digest 145 = .ok (.iload_n 3, 1) := by decide +kernel
theorem dX6_digest_146 : decode cX6_digest 146 = .ok (.aload_n 0, 1) := by decide +kernel
theorem dX6_digest_147 : decode cX6_digest 147 = .ok (.getfield 7, 3) := by decide +kernel
theorem dX6_digest_150 : decode cX6_digest 150 = .ok (.iconst 4, 1) := by decide +kernel
theorem dX6_digest_151 : decode cX6_digest 151 = .ok (.iaload, 1) := by decide +kernel
theorem dX6_digest_152 : decode cX6_digest 152 = .ok (.if_icmp .ge 64, 3) := by decide +kernel
theorem dX6_digest_155 : decode cX6_digest 155 = .ok (.iconst 0, 1) := by decide +kernel
theorem dX6_digest_156 : decode cX6_digest 156 = .ok (.istore 4, 2) := by decide +kernel
theorem dX6_digest_158 : decode cX6_digest 158 = .ok (.iload 4, 2) := by decide +kernel
theorem dX6_digest_160 : decode cX6_digest 160 = .ok (.bipush 9, 2) := by decide +kernel
theorem dX6_digest_162 : decode cX6_digest 162 = .ok (.if_icmp .ge 24, 3) := by decide +kernel
theorem dX6_digest_165 : decode cX6_digest 165 = .ok (.ldc2_w 198, 3) := by decide +kernel
theorem dX6_digest_168 : decode cX6_digest 168 = .ok (.lload_n 1, 1) := by decide +kernel
theorem dX6_digest_169 : decode cX6_digest 169 = .ok (.lmul, 1) := by decide +kernel
theorem dX6_digest_170 : decode cX6_digest 170 = .ok (.aload_n 0, 1) := by decide +kernel
theorem dX6_digest_171 : decode cX6_digest 171 = .ok (.iload_n 3, 1) := by decide +kernel
theorem dX6_digest_172 : decode cX6_digest 172 = .ok (.iload 4, 2) := by decide +kernel
theorem dX6_digest_174 : decode cX6_digest 174 = .ok (.invokevirtual 162, 3) := by decide +kernel
theorem dX6_digest_177 : decode cX6_digest 177 = .ok (.i2l, 1) := by decide +kernel
theorem dX6_digest_178 : decode cX6_digest 178 = .ok (.ladd, 1) := by decide +kernel
theorem dX6_digest_179 : decode cX6_digest 179 = .ok (.lstore_n 1, 1) := by decide +kernel
theorem dX6_digest_180 : decode cX6_digest 180 = .ok (.iinc 4 1, 3) := by decide +kernel
theorem dX6_digest_183 : decode cX6_digest 183 = .ok (.goto (-25), 3) := by decide +kernel
theorem dX6_digest_186 : decode cX6_digest 186 = .ok (.ldc2_w 198, 3) := by decide +kernel
theorem dX6_digest_189 : decode cX6_digest 189 = .ok (.ldc2_w 198, 3) := by decide +kernel
theorem dX6_digest_192 : decode cX6_digest 192 = .ok (.lload_n 1, 1) := by decide +kernel
theorem dX6_digest_193 : decode cX6_digest 193 = .ok (.lmul, 1) := by decide +kernel
theorem dX6_digest_194 : decode cX6_digest 194 = .ok (.aload_n 0, 1) := by decide +kernel
theorem dX6_digest_195 : decode cX6_digest 195 = .ok (.iload_n 3, 1) := by decide +kernel
theorem dX6_digest_196 : decode cX6_digest 196 = .ok (.invokevirtual 183, 3) := by decide +kernel
theorem dX6_digest_199 : decode cX6_digest 199 = .ok (.i2l, 1) := by decide +kernel
theorem dX6_digest_200 : decode cX6_digest 200 = .ok (.ladd, 1) := by decide +kernel
theorem dX6_digest_201 : decode cX6_digest 201 = .ok (.lmul, 1) := by decide +kernel
theorem dX6_digest_202 : decode cX6_digest 202 = .ok (.aload_n 0, 1) := by decide +kernel
theorem dX6_digest_203 : decode cX6_digest 203 = .ok (.iload_n 3, 1) := by decide +kernel
theorem dX6_digest_204 : decode cX6_digest 204 = .ok (.invokevirtual 186, 3) := by decide +kernel
theorem dX6_digest_207 : decode cX6_digest 207 = .ok (.i2l, 1) := by decide +kernel
theorem dX6_digest_208 : decode cX6_digest 208 = .ok (.ladd, 1) := by decide +kernel
theorem dX6_digest_209 : decode cX6_digest 209 = .ok (.lstore_n 1, 1) := by decide +kernel
theorem dX6_digest_210 : decode cX6_digest 210 = .ok (.iinc 3 1, 3) := by decide +kernel
theorem dX6_digest_213 : decode cX6_digest 213 = .ok (.goto (-68), 3) := by decide +kernel
theorem dX6_digest_216 : decode cX6_digest 216 = .ok (.iconst 0, 1) := by decide +kernel
theorem dX6_digest_217 : decode cX6_digest 217 = .ok (.istore_n 3, 1) := by decide +kernel
theorem dX6_digest_218 : decode cX6_digest 218 = .ok (.iload_n 3, 1) := by decide +kernel
theorem dX6_digest_219 : decode cX6_digest 219 = .ok (.aload_n 0, 1) := by decide +kernel
theorem dX6_digest_220 : decode cX6_digest 220 = .ok (.getfield 7, 3) := by decide +kernel
theorem dX6_digest_223 : decode cX6_digest 223 = .ok (.iconst 4, 1) := by decide +kernel
theorem dX6_digest_224 : decode cX6_digest 224 = .ok (.iaload, 1) := by decide +kernel
theorem dX6_digest_225 : decode cX6_digest 225 = .ok (.if_icmp .ge 25, 3) := by decide +kernel
theorem dX6_digest_228 : decode cX6_digest 228 = .ok (.ldc2_w 198, 3) := by decide +kernel
theorem dX6_digest_231 : decode cX6_digest 231 = .ok (.lload_n 1, 1) := by decide +kernel
theorem dX6_digest_232 : decode cX6_digest 232 = .ok (.lmul, 1) := by decide +kernel
theorem dX6_digest_233 : decode cX6_digest 233 = .ok (.aload_n 0, 1) := by decide +kernel
theorem dX6_digest_234 : decode cX6_digest 234 = .ok (.getfield 7, 3) := by decide +kernel
theorem dX6_digest_237 : decode cX6_digest 237 = .ok (.iload_n 3, 1) := by decide +kernel
theorem dX6_digest_238 : decode cX6_digest 238 = .ok (.invokestatic 165, 3) := by decide +kernel
theorem dX6_digest_241 : decode cX6_digest 241 = .ok (.i2l, 1) := by decide +kernel
theorem dX6_digest_242 : decode cX6_digest 242 = .ok (.ladd, 1) := by decide +kernel
theorem dX6_digest_243 : decode cX6_digest 243 = .ok (.lstore_n 1, 1) := by decide +kernel
theorem dX6_digest_244 : decode cX6_digest 244 = .ok (.iinc 3 1, 3) := by decide +kernel
theorem dX6_digest_247 : decode cX6_digest 247 = .ok (.goto (-29), 3) := by decide +kernel
theorem dX6_digest_250 : decode cX6_digest 250 = .ok (.iconst 0, 1) := by decide +kernel
theorem dX6_digest_251 : decode cX6_digest 251 = .ok (.istore_n 3, 1) := by decide +kernel
theorem dX6_digest_252 : decode cX6_digest 252 = .ok (.iload_n 3, 1) := by decide +kernel
theorem dX6_digest_253 : decode cX6_digest 253 = .ok (.bipush 12, 2) := by decide +kernel
theorem dX6_digest_255 : decode cX6_digest 255 = .ok (.if_icmp .ge 22, 3) := by decide +kernel
theorem dX6_digest_258 : decode cX6_digest 258 = .ok (.ldc2_w 198, 3) := by decide +kernel
theorem dX6_digest_261 : decode cX6_digest 261 = .ok (.lload_n 1, 1) := by decide +kernel
theorem dX6_digest_262 : decode cX6_digest 262 = .ok (.lmul, 1) := by decide +kernel
theorem dX6_digest_263 : decode cX6_digest 263 = .ok (.aload_n 0, 1) := by decide +kernel
theorem dX6_digest_264 : decode cX6_digest 264 = .ok (.iload_n 3, 1) := by decide +kernel
theorem dX6_digest_265 : decode cX6_digest 265 = .ok (.invokevirtual 189, 3) := by decide +kernel
theorem dX6_digest_268 : decode cX6_digest 268 = .ok (.i2l, 1) := by decide +kernel
theorem dX6_digest_269 : decode cX6_digest 269 = .ok (.ladd, 1) := by decide +kernel
theorem dX6_digest_270 : decode cX6_digest 270 = .ok (.lstore_n 1, 1) := by decide +kernel
theorem dX6_digest_271 : decode cX6_digest 271 = .ok (.iinc 3 1, 3) := by decide +kernel
theorem dX6_digest_274 : decode cX6_digest 274 = .ok (.goto (-22), 3) := by decide +kernel
theorem dX6_digest_277 : decode cX6_digest 277 = .ok (.ldc2_w 198, 3) := by decide +kernel
theorem dX6_digest_280 : decode cX6_digest 280 = .ok (.ldc2_w 198, 3) := by decide +kernel
theorem dX6_digest_283 : decode cX6_digest 283 = .ok (.lload_n 1, 1) := by decide +kernel
theorem dX6_digest_284 : decode cX6_digest 284 = .ok (.lmul, 1) := by decide +kernel
theorem dX6_digest_285 : decode cX6_digest 285 = .ok (.aload_n 0, 1) := by decide +kernel
theorem dX6_digest_286 : decode cX6_digest 286 = .ok (.invokevirtual 192, 3) := by decide +kernel
theorem dX6_digest_289 : decode cX6_digest 289 = .ok (.invokestatic 200, 3) := by decide +kernel
theorem dX6_digest_292 : decode cX6_digest 292 = .ok (.ladd, 1) := by decide +kernel
theorem dX6_digest_293 : decode cX6_digest 293 = .ok (.lmul, 1) := by decide +kernel
theorem dX6_digest_294 : decode cX6_digest 294 = .ok (.aload_n 0, 1) := by decide +kernel
theorem dX6_digest_295 : decode cX6_digest 295 = .ok (.getfield 117, 3) := by decide +kernel
theorem dX6_digest_298 : decode cX6_digest 298 = .ok (.i2l, 1) := by decide +kernel
theorem dX6_digest_299 : decode cX6_digest 299 = .ok (.ladd, 1) := by decide +kernel
theorem dX6_digest_300 : decode cX6_digest 300 = .ok (.lstore_n 1, 1) := by decide +kernel
theorem dX6_digest_301 : decode cX6_digest 301 = .ok (.iconst 0, 1) := by decide +kernel
theorem dX6_digest_302 : decode cX6_digest 302 = .ok (.istore_n 3, 1) := by decide +kernel
theorem dX6_digest_303 : decode cX6_digest 303 = .ok (.iload_n 3, 1) := by decide +kernel
theorem dX6_digest_304 : decode cX6_digest 304 = .ok (.aload_n 0, 1) := by decide +kernel
theorem dX6_digest_305 : decode cX6_digest 305 = .ok (.getfield 117, 3) := by decide +kernel
theorem dX6_digest_308 : decode cX6_digest 308 = .ok (.if_icmp .ge 23, 3) := by decide +kernel
theorem dX6_digest_311 : decode cX6_digest 311 = .ok (.ldc2_w 198, 3) := by decide +kernel
theorem dX6_digest_314 : decode cX6_digest 314 = .ok (.lload_n 1, 1) := by decide +kernel
theorem dX6_digest_315 : decode cX6_digest 315 = .ok (.lmul, 1) := by decide +kernel
theorem dX6_digest_316 : decode cX6_digest 316 = .ok (.aload_n 0, 1) := by decide +kernel
theorem dX6_digest_317 : decode cX6_digest 317 = .ok (.getfield 19, 3) := by decide +kernel
theorem dX6_digest_320 : decode cX6_digest 320 = .ok (.iload_n 3, 1) := by decide +kernel
theorem dX6_digest_321 : decode cX6_digest 321 = .ok (.iaload, 1) := by decide +kernel
theorem dX6_digest_322 : decode cX6_digest 322 = .ok (.i2l, 1) := by decide +kernel
theorem dX6_digest_323 : decode cX6_digest 323 = .ok (.ladd, 1) := by decide +kernel
theorem dX6_digest_324 : decode cX6_digest 324 = .ok (.lstore_n 1, 1) := by decide +kernel
theorem dX6_digest_325 : decode cX6_digest 325 = .ok (.iinc 3 1, 3) := by decide +kernel
theorem dX6_digest_328 : decode cX6_digest 328 = .ok (.goto (-25), 3) := by decide +kernel
theorem dX6_digest_331 : decode cX6_digest 331 = .ok (.lload_n 1, 1) := by decide +kernel
theorem dX6_digest_332 : decode cX6_digest 332 = .ok (.lreturn, 1) := by decide +kernel
theorem dJxe99ae_isNaN_b9ae7_0 : decode cJxe99ae_isNaN_b9ae7 0 = .ok (.dload_n 0, 1) := by decide +kernel
theorem dJxe99ae_isNaN_b9ae7_1 : decode cJxe99ae_isNaN_b9ae7 1 = .ok (.dload_n 0, 1) := by decide +kernel
theorem dJxe99ae_isNaN_b9ae7_2 : decode cJxe99ae_isNaN_b9ae7 2 = .ok (.dcmp .l, 1) := by decide +kernel
theorem dJxe99ae_isNaN_b9ae7_3 : decode cJxe99ae_isNaN_b9ae7 3 = .ok (.ifCond .eq 7, 3) := by decide +kernel
theorem dJxe99ae_isNaN_b9ae7_6 : decode cJxe99ae_isNaN_b9ae7 6 = .ok (.iconst 1, 1) := by decide +kernel
theorem dJxe99ae_isNaN_b9ae7_7 : decode cJxe99ae_isNaN_b9ae7 7 = .ok (.goto 4, 3) := by decide +kernel
theorem dJxe99ae_isNaN_b9ae7_10 : decode cJxe99ae_isNaN_b9ae7 10 = .ok (.iconst 0, 1) := by decide +kernel
theorem dJxe99ae_isNaN_b9ae7_11 : decode cJxe99ae_isNaN_b9ae7 11 = .ok (.ireturn, 1) := by decide +kernel
set_option maxRecDepth 20000 in
theorem ggJxe99ae_doubleToLongBits_ccdee_Jxe99ae_isNaN_b9ae7 : GoodIn wsJxe99ae_doubleToLongBits_ccdee wsJxe99ae_isNaN_b9ae7 := goodIn_r _ [9] (by decide +kernel) (by decide +kernel)
set_option maxRecDepth 20000 in
theorem gJxe99ae_doubleToLongBits_ccdee_Jxe99ae_isNaN_b9ae7 : GoodIn wsJxe99ae_doubleToLongBits_ccdee (va_wsS RJxe99ae 122 yJxe99ae_isNaN_b9ae7 wsJxe99ae_isNaN_b9ae7) := goodIn_app (goodIn_of _ (by decide +kernel)) ggJxe99ae_doubleToLongBits_ccdee_Jxe99ae_isNaN_b9ae7
theorem dJxe99ae_doubleToLongBits_ccdee_0 : decode cJxe99ae_doubleToLongBits_ccdee 0 = .ok (.dload_n 0, 1) := by decide +kernel
theorem dJxe99ae_doubleToLongBits_ccdee_1 : decode cJxe99ae_doubleToLongBits_ccdee 1 = .ok (.invokestatic 122, 3) := by decide +kernel
theorem dJxe99ae_doubleToLongBits_ccdee_4 : decode cJxe99ae_doubleToLongBits_ccdee 4 = .ok (.ifCond .ne 8, 3) := by decide +kernel
theorem dJxe99ae_doubleToLongBits_ccdee_7 : decode cJxe99ae_doubleToLongBits_ccdee 7 = .ok (.dload_n 0, 1) := by decide +kernel
theorem dJxe99ae_doubleToLongBits_ccdee_8 : decode cJxe99ae_doubleToLongBits_ccdee 8 = .ok (.invokestatic 134, 3) := by decide +kernel
theorem dJxe99ae_doubleToLongBits_ccdee_11 : decode cJxe99ae_doubleToLongBits_ccdee 11 = .ok (.lreturn, 1) := by decide +kernel
theorem dJxe99ae_doubleToLongBits_ccdee_12 : decode cJxe99ae_doubleToLongBits_ccdee 12 = .ok (.ldc2_w 137, 3) := by decide +kernel
theorem dJxe99ae_doubleToLongBits_ccdee_15 : decode cJxe99ae_doubleToLongBits_ccdee 15 = .ok (.lreturn, 1) := by decide +kernel
theorem dJ9_max_7cf53_0 : decode cJ9_max_7cf53 0 = .ok (.iload_n 0, 1) := by decide +kernel
theorem dJ9_max_7cf53_1 : decode cJ9_max_7cf53 1 = .ok (.iload_n 1, 1) := by decide +kernel
theorem dJ9_max_7cf53_2 : decode cJ9_max_7cf53 2 = .ok (.if_icmp .lt 7, 3) := by decide +kernel
theorem dJ9_max_7cf53_5 : decode cJ9_max_7cf53 5 = .ok (.iload_n 0, 1) := by decide +kernel
theorem dJ9_max_7cf53_6 : decode cJ9_max_7cf53 6 = .ok (.goto 4, 3) := by decide +kernel
theorem dJ9_max_7cf53_9 : decode cJ9_max_7cf53 9 = .ok (.iload_n 1, 1) := by decide +kernel
theorem dJ9_max_7cf53_10 : decode cJ9_max_7cf53 10 = .ok (.ireturn, 1) := by decide +kernel
theorem dJ9_min_7cf53_0 : decode cJ9_min_7cf53 0 = .ok (.iload_n 0, 1) := by decide +kernel
theorem dJ9_min_7cf53_1 : decode cJ9_min_7cf53 1 = .ok (.iload_n 1, 1) := by decide +kernel
theorem dJ9_min_7cf53_2 : decode cJ9_min_7cf53 2 = .ok (.if_icmp .gt 7, 3) := by decide +kernel
theorem dJ9_min_7cf53_5 : decode cJ9_min_7cf53 5 = .ok (.iload_n 0, 1) := by decide +kernel
theorem dJ9_min_7cf53_6 : decode cJ9_min_7cf53 6 = .ok (.goto 4, 3) := by decide +kernel
theorem dJ9_min_7cf53_9 : decode cJ9_min_7cf53 9 = .ok (.iload_n 1, 1) := by decide +kernel
theorem dJ9_min_7cf53_10 : decode cJ9_min_7cf53 10 = .ok (.ireturn, 1) := by decide +kernel
