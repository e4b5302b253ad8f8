theorem dX3_init_0 : decode cX3_init 0 = .ok (.aload_n 0, 1) := by decide +kernel
theorem dX3_init_1 : decode cX3_init 1 = .ok (.invokespecial 3, 3) := by decide +kernel
theorem dX3_init_4 : decode cX3_init 4 = .ok (.aload_n 0, 1) := by decide +kernel
theorem dX3_init_5 : decode cX3_init 5 = .ok (.bipush 6, 2) := by decide +kernel
theorem dX3_init_7 : decode cX3_init 7 = .ok (.newarray .int, 2) := by decide +kernel
theorem dX3_init_9 : decode cX3_init 9 = .ok (.putfield 9, 3) := by decide +kernel
theorem dX3_init_12 : decode cX3_init 12 = .ok (.aload_n 0, 1) := by decide +kernel
theorem dX3_init_13 : decode cX3_init 13 = .ok (.bipush 6, 2) := by decide +kernel
theorem dX3_init_15 : decode cX3_init 15 = .ok (.newarray .int, 2) := by decide +kernel
theorem dX3_init_17 : decode cX3_init 17 = .ok (.putfield 15, 3) := by decide +kernel
theorem dX3_init_20 : decode cX3_init 20 = .ok (.aload_n 0, 1) := by decide +kernel
theorem dX3_init_21 : decode cX3_init 21 = .ok (.bipush 6, 2) := by decide +kernel
theorem dX3_init_23 : decode cX3_init 23 = .ok (.newarray .int, 2) := by decide +kernel
theorem dX3_init_25 : decode cX3_init 25 = .ok (.putfield 18, 3) := by decide +kernel
theorem dX3_init_28 : decode cX3_init 28 = .ok (.aload_n 0, 1) := by decide +kernel
theorem dX3_init_29 : decode cX3_init 29 = .ok (.bipush 6, 2) := by decide +kernel
theorem dX3_init_31 : decode cX3_init 31 = .ok (.newarray .int, 2) := by decide +kernel
theorem dX3_init_33 : decode cX3_init 33 = .ok (.putfield 21, 3) := by decide +kernel
theorem dX3_init_36 : decode cX3_init 36 = .ok (.return_, 1) := by decide +kernel
set_option maxRecDepth 20000 in
theorem ggX3_assign_X3_forgetLoads : GoodIn wsX3_assign wsX3_forgetLoads := goodIn_r _ [10, 11, 12, 13, 14, 53, 54, 55, 56] (by decide +kernel) (by decide +kernel)
set_option maxRecDepth 20000 in
theorem gX3_assign_X3_forgetLoads : GoodIn wsX3_assign (wsV RX3 24 RX3 yX3_forgetLoads wsX3_forgetLoads) := goodIn_app (goodIn_of _ (by decide +kernel)) ggX3_assign_X3_forgetLoads
set_option maxRecDepth 20000 in
theorem ggX3_assign_X3_load : GoodIn wsX3_assign wsX3_load := goodIn_r _ [18, 11, 12, 13, 14, 53, 54, 55, 56] (by decide +kernel) (by decide +kernel)
set_option maxRecDepth 20000 in
theorem gX3_assign_X3_load : GoodIn wsX3_assign (wsV RX3 45 RX3 yX3_load wsX3_load) := goodIn_app (goodIn_of _ (by decide +kernel)) ggX3_assign_X3_load
set_option maxRecDepth 20000 in
theorem ggX3_assign_X3_assignOne : GoodIn wsX3_assign wsX3_assignOne := goodIn_r _ [22, 23, 3, 4, 5, 24, 25, 26, 9, 27, 28, 29, 30, 12, 11, 31, 32, 33, 34, 35, 36, 37, 14, 13, 15, 16, 17, 18, 38, 39, 40, 41, 42, 43, 44, 45, 46, 47, 48, 49, 50, 51, 52, 53, 54, 55, 56] (by decide +kernel) (by decide +kernel)
set_option maxRecDepth 20000 in
theorem gX3_assign_X3_assignOne : GoodIn wsX3_assign (wsV RX3 49 RX3 yX3_assignOne wsX3_assignOne) := goodIn_app (goodIn_of _ (by decide +kernel)) ggX3_assign_X3_assignOne
theorem dX3_assign_0 : decode cX3_assign 0 = .ok (.aload_n 0, 1) := by decide +kernel
theorem dX3_assign_1 : decode cX3_assign 1 = .ok (.invokevirtual 24, 3) := by decide +kernel
theorem dX3_assign_4 : decode cX3_assign 4 = .ok (.iconst 0, 1) := by decide +kernel
theorem dX3_assign_5 : decode cX3_assign 5 = .ok (.istore_n 2, 1) := by decide +kernel
theorem dX3_assign_6 : decode cX3_assign 6 = .ok (.iload_n 2, 1) := by decide +kernel
theorem dX3_assign_7 : decode cX3_assign 7 = .ok (.aload_n 1, 1) := by decide +kernel
theorem dX3_assign_8 : decode cX3_assign 8 = .ok (.getfield 27, 3) := by decide +kernel
theorem dX3_assign_11 : decode cX3_assign 11 = .ok (.if_icmp .ge 57, 3) := by decide +kernel
theorem dX3_assign_14 : decode cX3_assign 14 = .ok (.aload_n 1, 1) := by decide +kernel
theorem dX3_assign_15 : decode cX3_assign 15 = .ok (.getfield 33, 3) := by decide +kernel
theorem dX3_assign_18 : decode cX3_assign 18 = .ok (.iload_n 2, 1) := by decide +kernel
theorem dX3_assign_19 : decode cX3_assign 19 = .ok (.iaload, 1) := by decide +kernel
theorem dX3_assign_20 : decode cX3_assign 20 = .ok (.ifCond .ne 20, 3) := by decide +kernel
theorem dX3_assign_23 : decode cX3_assign 23 = .ok (.aload_n 1, 1) := by decide +kernel
theorem dX3_assign_24 : decode cX3_assign 24 = .ok (.getfield 36, 3) := by decide +kernel
theorem dX3_assign_27 : decode cX3_assign 27 = .ok (.iload_n 2, 1) := by decide +kernel
theorem dX3_assign_28 : decode cX3_assign 28 = .ok (.iconst (-1), 1) := by decide +kernel
theorem dX3_assign_29 : decode cX3_assign 29 = .ok (.iastore, 1) := by decide +kernel
theorem dX3_assign_30 : decode cX3_assign 30 = .ok (.aload_n 1, 1) := by decide +kernel
theorem dX3_assign_31 : decode cX3_assign 31 = .ok (.getfield 39, 3) := by decide +kernel
theorem dX3_assign_34 : decode cX3_assign 34 = .ok (.iload_n 2, 1) := by decide +kernel
theorem dX3_assign_35 : decode cX3_assign 35 = .ok (.iconst (-1), 1) := by decide +kernel
theorem dX3_assign_36 : decode cX3_assign 36 = .ok (.iastore, 1) := by decide +kernel
theorem dX3_assign_37 : decode cX3_assign 37 = .ok (.goto 25, 3) := by decide +kernel
theorem dX3_assign_40 : decode cX3_assign 40 = .ok (.aload_n 0, 1) := by decide +kernel
theorem dX3_assign_41 : decode cX3_assign 41 = .ok (.aload_n 1, 1) := by decide +kernel
theorem dX3_assign_42 : decode cX3_assign 42 = .ok (.getfield 36, 3) := by decide +kernel
theorem dX3_assign_45 : decode cX3_assign 45 = .ok (.iload_n 2, 1) := by decide +kernel
theorem dX3_assign_46 : decode cX3_assign 46 = .ok (.iaload, 1) := by decide +kernel
theorem dX3_assign_47 : decode cX3_assign 47 = .ok (.aload_n 1, 1) := by decide +kernel
theorem dX3_assign_48 : decode cX3_assign 48 = .ok (.getfield 39, 3) := by decide +kernel
theorem dX3_assign_51 : decode cX3_assign 51 = .ok (.iload_n 2, 1) := by decide +kernel
theorem dX3_assign_52 : decode cX3_assign 52 = .ok (.iaload, 1) := by decide +kernel
theorem dX3_assign_53 : decode cX3_assign 53 = .ok (.aload_n 1, 1) := by decide +kernel
theorem dX3_assign_54 : decode cX3_assign 54 = .ok (.getfield 42, 3) := by decide +kernel
theorem dX3_assign_57 : decode cX3_assign 57 = .ok (.iload_n 2, 1) := by decide +kernel
theorem dX3_assign_58 : decode cX3_assign 58 = .ok (.iaload, 1) := by decide +kernel
theorem dX3_assign_59 : decode cX3_assign 59 = .ok (.invokevirtual 45, 3) := by decide +kernel
theorem dX3_assign_62 : decode cX3_assign 62 = .ok (.iinc 2 1, 3) := by decide +kernel
theorem dX3_assign_65 : decode cX3_assign 65 = .ok (.goto (-59), 3) := by decide +kernel
theorem dX3_assign_68 : decode cX3_assign 68 = .ok (.iconst 0, 1) := by decide +kernel
theorem dX3_assign_69 : decode cX3_assign 69 = .ok (.istore_n 2, 1) := by decide +kernel
theorem dX3_assign_70 : decode cX3_assign 70 = .ok (.iconst 0, 1) := by decide +kernel
theorem dX3_assign_71 : decode cX3_assign 71 = .ok (.istore_n 3, 1) := by decide +kernel
theorem dX3_assign_72 : decode cX3_assign 72 = .ok (.iload_n 3, 1) := by decide +kernel
theorem dX3_assign_73 : decode cX3_assign 73 = .ok (.aload_n 1, 1) := by decide +kernel
theorem dX3_assign_74 : decode cX3_assign 74 = .ok (.getfield 27, 3) := by decide +kernel
theorem dX3_assign_77 : decode cX3_assign 77 = .ok (.if_icmp .ge 30, 3) := by decide +kernel
theorem dX3_assign_80 : decode cX3_assign 80 = .ok (.aload_n 1, 1) := by decide +kernel
theorem dX3_assign_81 : decode cX3_assign 81 = .ok (.getfield 33, 3) := by decide +kernel
theorem dX3_assign_84 : decode cX3_assign 84 = .ok (.iload_n 3, 1) := by decide +kernel
theorem dX3_assign_85 : decode cX3_assign 85 = .ok (.iaload, 1) := by decide +kernel
theorem dX3_assign_86 : decode cX3_assign 86 = .ok (.ifCond .ne 15, 3) := by decide +kernel
theorem dX3_assign_89 : decode cX3_assign 89 = .ok (.aload_n 0, 1) := by decide +kernel
theorem dX3_assign_90 : decode cX3_assign 90 = .ok (.aload_n 1, 1) := by decide +kernel
theorem dX3_assign_91 : decode cX3_assign 91 = .ok (.iload_n 3, 1) := by decide +kernel
theorem dX3_assign_92 : decode cX3_assign 92 = .ok (.invokevirtual 49, 3) := by decide +kernel
theorem dX3_assign_95 : decode cX3_assign 95 = .ok (.ifCond .eq 6, 3) := by decide +kernel
theorem dX3_assign_98 : decode cX3_assign 98 = .ok (.iinc 2 1, 3) := by decide +kernel
theorem dX3_assign_101 : decode cX3_assign 101 = .ok (.iinc 3 1, 3) := by decide +kernel
theorem dX3_assign_104 : decode cX3_assign 104 = .ok (.goto (-32), 3) := by decide +kernel
theorem dX3_assign_107 : decode cX3_assign 107 = .ok (.iload_n 2, 1) := by decide +kernel
theorem dX3_assign_108 : decode cX3_assign 108 = .ok (.ireturn, 1) := by decide +kernel
set_option maxRecDepth 20000 in
theorem ggX3_assignOne_X3_freeVenue : GoodIn wsX3_assignOne wsX3_freeVenue := goodIn_r _ [9, 10, 11, 4, 12, 13, 14, 28, 29, 30, 31, 32, 33, 34, 35, 36, 37, 38, 39, 40, 41, 42, 43, 44, 45, 46] (by decide +kernel) (by decide +kernel)
set_option maxRecDepth 20000 in
theorem gX3_assignOne_X3_freeVenue : GoodIn wsX3_assignOne (wsV RX3 53 RX3 yX3_freeVenue wsX3_freeVenue) := goodIn_app (goodIn_of _ (by decide +kernel)) ggX3_assignOne_X3_freeVenue
set_option maxRecDepth 20000 in
theorem ggX3_assignOne_X3_freeSetter : GoodIn wsX3_assignOne wsX3_freeSetter := goodIn_r _ [18, 4, 19, 20, 10, 11, 21, 22, 23, 28, 29, 30, 31, 32, 33, 34, 35, 36, 37, 38, 39, 40, 41, 42, 43, 44, 45, 46] (by decide +kernel) (by decide +kernel)
set_option maxRecDepth 20000 in
theorem gX3_assignOne_X3_freeSetter : GoodIn wsX3_assignOne (wsV RX3 60 RX3 yX3_freeSetter wsX3_freeSetter) := goodIn_app (goodIn_of _ (by decide +kernel)) ggX3_assignOne_X3_freeSetter
set_option maxRecDepth 20000 in
theorem ggX3_assignOne_X3_load : GoodIn wsX3_assignOne wsX3_load := goodIn_r _ [27, 14, 13, 23, 22, 43, 44, 45, 46] (by decide +kernel) (by decide +kernel)
set_option maxRecDepth 20000 in
theorem gX3_assignOne_X3_load : GoodIn wsX3_assignOne (wsV RX3 45 RX3 yX3_load wsX3_load) := goodIn_app (goodIn_of _ (by decide +kernel)) ggX3_assignOne_X3_load
theorem dX3_assignOne_0 : decode cX3_assignOne 0 = .ok (.aload_n 0, 1) := by decide +kernel
theorem dX3_assignOne_1 : decode cX3_assignOne 1 = .ok (.aload_n 1, 1) := by decide +kernel
theorem dX3_assignOne_2 : decode cX3_assignOne 2 = .ok (.iload_n 2, 1) := by decide +kernel
theorem dX3_assignOne_3 : decode cX3_assignOne 3 = .ok (.invokevirtual 53, 3) := by decide +kernel
theorem dX3_assignOne_6 : decode cX3_assignOne 6 = .ok (.istore_n 3, 1) := by decide +kernel
theorem dX3_assignOne_7 : decode cX3_assignOne 7 = .ok (.iload_n 3, 1) := by decide +kernel
theorem dX3_assignOne_8 : decode cX3_assignOne 8 = .ok (.iconst (-1), 1) := by decide +kernel
theorem dX3_assignOne_9 : decode cX3_assignOne 9 = .ok (.if_icmp .ne 12, 3) := by decide +kernel
theorem dX3_assignOne_12 : decode cX3_assignOne 12 = .ok (.aload_n 1, 1) := by decide +kernel
theorem dX3_assignOne_13 : decode cX3_assignOne 13 = .ok (.getfield 57, 3) := by decide +kernel
theorem dX3_assignOne_16 : decode cX3_assignOne 16 = .ok (.iload_n 2, 1) := by decide +kernel
theorem dX3_assignOne_17 : decode cX3_assignOne 17 = .ok (.iconst 1, 1) := by decide +kernel
theorem dX3_assignOne_18 : decode cX3_assignOne 18 = .ok (.iastore, 1) := by decide +kernel
theorem dX3_assignOne_19 : decode cX3_assignOne 19 = .ok (.iconst 0, 1) := by decide +kernel
theorem dX3_assignOne_20 : decode cX3_assignOne 20 = .ok (.ireturn, 1) := by decide +kernel
theorem dX3_assignOne_21 : decode cX3_assignOne 21 = .ok (.aload_n 0, 1) := by decide +kernel
theorem dX3_assignOne_22 : decode cX3_assignOne 22 = .ok (.aload_n 1, 1) := by decide +kernel
theorem dX3_assignOne_23 : decode cX3_assignOne 23 = .ok (.iload_n 2, 1) := by decide +kernel
theorem dX3_assignOne_24 : decode cX3_assignOne 24 = .ok (.invokevirtual 60, 3) := by decide +kernel
theorem dX3_assignOne_27 : decode cX3_assignOne 27 = .ok (.istore 4, 2) := by decide +kernel
theorem dX3_assignOne_29 : decode cX3_assignOne 29 = .ok (.iload 4, 2) := by decide +kernel
theorem dX3_assignOne_31 : decode cX3_assignOne 31 = .ok (.iconst (-1), 1) := by decide +kernel
theorem dX3_assignOne_32 : decode cX3_assignOne 32 = .ok (.if_icmp .ne 12, 3) := by decide +kernel
theorem dX3_assignOne_35 : decode cX3_assignOne 35 = .ok (.aload_n 1, 1) := by decide +kernel
theorem dX3_assignOne_36 : decode cX3_assignOne 36 = .ok (.getfield 57, 3) := by decide +kernel
theorem dX3_assignOne_39 : decode cX3_assignOne 39 = .ok (.iload_n 2, 1) := by decide +kernel
theorem dX3_assignOne_40 : decode cX3_assignOne 40 = .ok (.iconst 2, 1) := by decide +kernel
theorem dX3_assignOne_41 : decode cX3_assignOne 41 = .ok (.iastore, 1) := by decide +kernel
theorem dX3_assignOne_42 : decode cX3_assignOne 42 = .ok (.iconst 0, 1) := by decide +kernel
theorem dX3_assignOne_43 : decode cX3_assignOne 43 = .ok (.ireturn, 1) := by decide +kernel
theorem dX3_assignOne_44 : decode cX3_assignOne 44 = .ok (.aload_n 1, 1) := by decide +kernel
theorem dX3_assignOne_45 : decode cX3_assignOne 45 = .ok (.getfield 36, 3) := by decide +kernel
theorem dX3_assignOne_48 : decode cX3_assignOne 48 = .ok (.iload_n 2, 1) := by decide +kernel
theorem dX3_assignOne_49 : decode cX3_assignOne 49 = .ok (.iload_n 3, 1) := by decide +kernel
theorem dX3_assignOne_50 : decode cX3_assignOne 50 = .ok (.iastore, 1) := by decide +kernel
theorem dX3_assignOne_51 : decode cX3_assignOne 51 = .ok (.aload_n 1, 1) := by decide +kernel
theorem dX3_assignOne_52 : decode cX3_assignOne 52 = .ok (.getfield 39, 3) := by decide +kernel
theorem dX3_assignOne_55 : decode cX3_assignOne 55 = .ok (.iload_n 2, 1) := by decide +kernel
theorem dX3_assignOne_56 : decode cX3_assignOne 56 = .ok (.iload 4, 2) := by decide +kernel
theorem dX3_assignOne_58 : decode cX3_assignOne 58 = .ok (.iastore, 1) := by decide +kernel
theorem dX3_assignOne_59 : decode cX3_assignOne 59 = .ok (.aload_n 1, 1) := by decide +kernel
theorem dX3_assignOne_60 : decode cX3_assignOne 60 = .ok (.getfield 57, 3) := by decide +kernel
theorem dX3_assignOne_63 : decode cX3_assignOne 63 = .ok (.iload_n 2, 1) := by decide +kernel
theorem dX3_assignOne_64 : decode cX3_assignOne 64 = .ok (.iconst 0, 1) := by decide +kernel
theorem dX3_assignOne_65 : decode cX3_assignOne 65 = .ok (.iastore, 1) := by decide +kernel
theorem dX3_assignOne_66 : decode cX3_assignOne 66 = .ok (.aload_n 0, 1) := by decide +kernel
theorem dX3_assignOne_67 : decode cX3_assignOne 67 = .ok (.iload_n 3, 1) := by decide +kernel
theorem dX3_assignOne_68 : decode cX3_assignOne 68 = .ok (.iload 4, 2) := by decide +kernel
theorem dX3_assignOne_70 : decode cX3_assignOne 70 = .ok (.aload_n 1, 1) := by decide +kernel
theorem dX3_assignOne_71 : decode cX3_assignOne 71 = .ok (.getfield 42, 3) := by decide +kernel
theorem dX3_assignOne_74 : decode cX3_assignOne 74 = .ok (.iload_n 2, 1) := by decide +kernel
theorem dX3_assignOne_75 : decode cX3_assignOne 75 = .ok (.iaload, 1) := by decide +kernel
theorem dX3_assignOne_76 : decode cX3_assignOne 76 = .ok (.invokevirtual 45, 3) := by decide +kernel
theorem dX3_assignOne_79 : decode cX3_assignOne 79 = .ok (.iconst 1, 1) := by decide +kernel
theorem dX3_assignOne_80 : decode cX3_assignOne 80 = .ok (.ireturn, 1) := by decide +kernel
theorem dX3_freeVenue_0 : decode cX3_freeVenue 0 = .ok (.aload_n 1, 1) := by decide +kernel
theorem dX3_freeVenue_1 : decode cX3_freeVenue 1 = .ok (.getfield 63, 3) := by decide +kernel
theorem dX3_freeVenue_4 : decode cX3_freeVenue 4 = .ok (.iload_n 2, 1) := by decide +kernel
theorem dX3_freeVenue_5 : decode cX3_freeVenue 5 = .ok (.iaload, 1) := by decide +kernel
theorem dX3_freeVenue_6 : decode cX3_freeVenue 6 = .ok (.bipush 6, 2) := by decide +kernel
theorem dX3_freeVenue_8 : decode cX3_freeVenue 8 = .ok (.irem, 1) := by decide +kernel
theorem dX3_freeVenue_9 : decode cX3_freeVenue 9 = .ok (.istore_n 3, 1) := by decide +kernel
theorem dX3_freeVenue_10 : decode cX3_freeVenue 10 = .ok (.aload_n 1, 1) := by decide +kernel
theorem dX3_freeVenue_11 : decode cX3_freeVenue 11 = .ok (.getfield 66, 3) := by decide +kernel
theorem dX3_freeVenue_14 : decode cX3_freeVenue 14 = .ok (.iload_n 2, 1) := by decide +kernel
theorem dX3_freeVenue_15 : decode cX3_freeVenue 15 = .ok (.iaload, 1) := by decide +kernel
theorem dX3_freeVenue_16 : decode cX3_freeVenue 16 = .ok (.bipush 6, 2) := by decide +kernel
theorem dX3_freeVenue_18 : decode cX3_freeVenue 18 = .ok (.irem, 1) := by decide +kernel
theorem dX3_freeVenue_19 : decode cX3_freeVenue 19 = .ok (.istore 4, 2) := by decide +kernel
theorem dX3_freeVenue_21 : decode cX3_freeVenue 21 = .ok (.iconst 1, 1) := by decide +kernel
theorem dX3_freeVenue_22 : decode cX3_freeVenue 22 = .ok (.aload_n 1, 1) := by decide +kernel
theorem dX3_freeVenue_23 : decode cX3_freeVenue 23 = .ok (.getfield 42, 3) := by decide +kernel
theorem dX3_freeVenue_26 : decode cX3_freeVenue 26 = .ok (.iload_n 2, 1) := by decide +kernel
theorem dX3_freeVenue_27 : decode cX3_freeVenue 27 = .ok (.iaload, 1) := by decide +kernel
theorem dX3_freeVenue_28 : decode cX3_freeVenue 28 = .ok (.ishl, 1) := by decide +kernel
theorem dX3_freeVenue_29 : decode cX3_freeVenue 29 = .ok (.istore 5, 2) := by decide +kernel
theorem dX3_freeVenue_31 : decode cX3_freeVenue 31 = .ok (.iconst (-1), 1) := by decide +kernel
theorem dX3_freeVenue_32 : decode cX3_freeVenue 32 = .ok (.istore 6, 2) := by decide +kernel
theorem dX3_freeVenue_34 : decode cX3_freeVenue 34 = .ok (.bipush 29, 2) := by decide +kernel
theorem dX3_freeVenue_36 : decode cX3_freeVenue 36 = .ok (.istore 7, 2) := by decide +kernel
theorem dX3_freeVenue_38 : decode cX3_freeVenue 38 = .ok (.iconst 0, 1) := by decide +kernel
theorem dX3_freeVenue_39 : decode cX3_freeVenue 39 = .ok (.istore 8, 2) := by decide +kernel
theorem dX3_freeVenue_41 : decode cX3_freeVenue 41 = .ok (.iload 8, 2) := by decide +kernel
theorem dX3_freeVenue_43 : decode cX3_freeVenue 43 = .ok (.bipush 6, 2) := by decide +kernel
theorem dX3_freeVenue_45 : decode cX3_freeVenue 45 = .ok (.if_icmp .ge 92, 3) := by decide +kernel
theorem dX3_freeVenue_48 : decode cX3_freeVenue 48 = .ok (.iload 8, 2) := by decide +kernel
theorem dX3_freeVenue_50 : decode cX3_freeVenue 50 = .ok (.iload_n 3, 1) := by decide +kernel
theorem dX3_freeVenue_51 : decode cX3_freeVenue 51 = .ok (.if_icmp .eq 14, 3) := by decide +kernel
theorem dX3_freeVenue_54 : decode cX3_freeVenue 54 = .ok (.iload 8, 2) := by decide +kernel
theorem dX3_freeVenue_56 : decode cX3_freeVenue 56 = .ok (.iload 4, 2) := by decide +kernel
theorem dX3_freeVenue_58 : decode cX3_freeVenue 58 = .ok (.if_icmp .eq 7, 3) := by decide +kernel
theorem dX3_freeVenue_61 : decode cX3_freeVenue 61 = .ok (.iconst 1, 1) := by decide +kernel
theorem dX3_freeVenue_62 : decode cX3_freeVenue 62 = .ok (.goto 4, 3) := by decide +kernel
theorem dX3_freeVenue_65 : decode cX3_freeVenue 65 = .ok (.iconst 0, 1) := by decide +kernel
theorem dX3_freeVenue_66 : decode cX3_freeVenue 66 = .ok (.istore 9, 2) := by decide +kernel
theorem dX3_freeVenue_68 : decode cX3_freeVenue 68 = .ok (.aload_n 1, 1) := by decide +kernel
theorem dX3_freeVenue_69 : decode cX3_freeVenue 69 = .ok (.getfield 69, 3) := by decide +kernel
theorem dX3_freeVenue_72 : decode cX3_freeVenue 72 = .ok (.iload 8, 2) := by decide +kernel
theorem dX3_freeVenue_74 : decode cX3_freeVenue 74 = .ok (.iaload, 1) := by decide +kernel
theorem dX3_freeVenue_75 : decode cX3_freeVenue 75 = .ok (.aload_n 0, 1) := by decide +kernel
theorem dX3_freeVenue_76 : decode cX3_freeVenue 76 = .ok (.getfield 15, 3) := by decide +kernel
theorem dX3_freeVenue_79 : decode cX3_freeVenue 79 = .ok (.iload 8, 2) := by decide +kernel
theorem dX3_freeVenue_81 : decode cX3_freeVenue 81 = .ok (.iaload, 1) := by decide +kernel
theorem dX3_freeVenue_82 : decode cX3_freeVenue 82 = .ok (.ior, 1) := by decide +kernel
theorem dX3_freeVenue_83 : decode cX3_freeVenue 83 = .ok (.iload 5, 2) := by decide +kernel
theorem dX3_freeVenue_85 : decode cX3_freeVenue 85 = .ok (.iand, 1) := by decide +kernel
theorem dX3_freeVenue_86 : decode cX3_freeVenue 86 = .ok (.ifCond .ne 7, 3) := by decide +kernel
theorem dX3_freeVenue_89 : decode cX3_freeVenue 89 = .ok (.iconst 1, 1) := by decide +kernel
theorem dX3_freeVenue_90 : decode cX3_freeVenue 90 = .ok (.goto 4, 3) := by decide +kernel
theorem dX3_freeVenue_93 : decode cX3_freeVenue 93 = .ok (.iconst 0, 1) := by decide +kernel
theorem dX3_freeVenue_94 : decode cX3_freeVenue 94 = .ok (.istore 10, 2) := by decide +kernel
theorem dX3_freeVenue_96 : decode cX3_freeVenue 96 = .ok (.iload 9, 2) := by decide +kernel
theorem dX3_freeVenue_98 : decode cX3_freeVenue 98 = .ok (.ifCond .eq 33, 3) := by decide +kernel
theorem dX3_freeVenue_101 : decode cX3_freeVenue 101 = .ok (.iload 10, 2) := by decide +kernel
theorem dX3_freeVenue_103 : decode cX3_freeVenue 103 = .ok (.ifCond .eq 28, 3) := by decide +kernel
theorem dX3_freeVenue_106 : decode cX3_freeVenue 106 = .ok (.aload_n 0, 1) := by decide +kernel
theorem dX3_freeVenue_107 : decode cX3_freeVenue 107 = .ok (.getfield 9, 3) := by decide +kernel
theorem dX3_freeVenue_110 : decode cX3_freeVenue 110 = .ok (.iload 8, 2) := by decide +kernel
theorem dX3_freeVenue_112 : decode cX3_freeVenue 112 = .ok (.iaload, 1) := by decide +kernel
theorem dX3_freeVenue_113 : decode cX3_freeVenue 113 = .ok (.iload 7, 2) := by decide +kernel
theorem dX3_freeVenue_115 : decode cX3_freeVenue 115 = .ok (.if_icmp .ge 16, 3) := by decide +kernel
theorem dX3_freeVenue_118 : decode cX3_freeVenue 118 = .ok (.iload 8, 2) := by decide +kernel
theorem dX3_freeVenue_120 : decode cX3_freeVenue 120 = .ok (.istore 6, 2) := by decide +kernel
theorem dX3_freeVenue_122 : decode cX3_freeVenue 122 = .ok (.aload_n 0, 1) := by decide +kernel
theorem dX3_freeVenue_123 : decode cX3_freeVenue 123 = .ok (.getfield 9, 3) := by decide +kernel
theorem dX3_freeVenue_126 : decode cX3_freeVenue 126 = .ok (.iload 8, 2) := by decide +kernel
theorem dX3_freeVenue_128 : decode cX3_freeVenue 128 = .ok (.iaload, 1) := by decide +kernel
theorem dX3_freeVenue_129 : decode cX3_freeVenue 129 = .ok (.istore 7, 2) := by decide +kernel
theorem dX3_freeVenue_131 : decode cX3_freeVenue 131 = .ok (.iinc 8 1, 3) := by decide +kernel
theorem dX3_freeVenue_134 : decode cX3_freeVenue 134 = .ok (.goto (-93), 3) := by decide +kernel
theorem dX3_freeVenue_137 : decode cX3_freeVenue 137 = .ok (.iload 6, 2) := by decide +kernel
theorem dX3_freeVenue_139 : decode cX3_freeVenue 139 = .ok (.ireturn, 1) := by decide +kernel
theorem dX3_freeSetter_0 : decode cX3_freeSetter 0 = .ok (.iconst 1, 1) := by decide +kernel
theorem dX3_freeSetter_1 : decode cX3_freeSetter 1 = .ok (.aload_n 1, 1) := by decide +kernel
theorem dX3_freeSetter_2 : decode cX3_freeSetter 2 = .ok (.getfield 42, 3) := by decide +kernel
theorem dX3_freeSetter_5 : decode cX3_freeSetter 5 = .ok (.iload_n 2, 1) := by decide +kernel
theorem dX3_freeSetter_6 : decode cX3_freeSetter 6 = .ok (.iaload, 1) := by decide +kernel
theorem dX3_freeSetter_7 : decode cX3_freeSetter 7 = .ok (.ishl, 1) := by decide +kernel
theorem dX3_freeSetter_8 : decode cX3_freeSetter 8 = .ok (.istore_n 3, 1) := by decide +kernel
theorem dX3_freeSetter_9 : decode cX3_freeSetter 9 = .ok (.iconst (-1), 1) := by decide +kernel
theorem dX3_freeSetter_10 : decode cX3_freeSetter 10 = .ok (.istore 4, 2) := by decide +kernel
theorem dX3_freeSetter_12 : decode cX3_freeSetter 12 = .ok (.aload_n 1, 1) := by decide +kernel
theorem dX3_freeSetter_13 : decode cX3_freeSetter 13 = .ok (.getfield 72, 3) := by decide +kernel
theorem dX3_freeSetter_16 : decode cX3_freeSetter 16 = .ok (.iconst 3, 1) := by decide +kernel
theorem dX3_freeSetter_17 : decode cX3_freeSetter 17 = .ok (.iaload, 1) := by decide +kernel
theorem dX3_freeSetter_18 : decode cX3_freeSetter 18 = .ok (.istore 5, 2) := by decide +kernel
theorem dX3_freeSetter_20 : decode cX3_freeSetter 20 = .ok (.iconst 0, 1) := by decide +kernel
theorem dX3_freeSetter_21 : decode cX3_freeSetter 21 = .ok (.istore 6, 2) := by decide +kernel
theorem dX3_freeSetter_23 : decode cX3_freeSetter 23 = .ok (.iload 6, 2) := by decide +kernel
theorem dX3_freeSetter_25 : decode cX3_freeSetter 25 = .ok (.bipush 6, 2) := by decide +kernel
theorem dX3_freeSetter_27 : decode cX3_freeSetter 27 = .ok (.if_icmp .ge 120, 3) := by decide +kernel
theorem dX3_freeSetter_30 : decode cX3_freeSetter 30 = .ok (.aload_n 1, 1) := by decide +kernel
theorem dX3_freeSetter_31 : decode cX3_freeSetter 31 = .ok (.getfield 75, 3) := by decide +kernel
theorem dX3_freeSetter_34 : decode cX3_freeSetter 34 = .ok (.ifCond .le 13, 3) := by decide +kernel
theorem dX3_freeSetter_37 : decode cX3_freeSetter 37 = .ok (.iload 6, 2) := by decide +kernel
theorem dX3_freeSetter_39 : decode cX3_freeSetter 39 = .ok (.aload_n 1, 1) := by decide +kernel
theorem dX3_freeSetter_40 : decode cX3_freeSetter 40 = .ok (.getfield 75, 3) := by decide +kernel
theorem dX3_freeSetter_43 : decode cX3_freeSetter 43 = .ok (.irem, 1) := by decide +kernel
theorem dX3_freeSetter_44 : decode cX3_freeSetter 44 = .ok (.goto 4, 3) := by decide +kernel
theorem dX3_freeSetter_47 : decode cX3_freeSetter 47 = .ok (.iconst (-1), 1) := by decide +kernel
theorem dX3_freeSetter_48 : decode cX3_freeSetter 48 = .ok (.istore 7, 2) := by decide +kernel
theorem dX3_freeSetter_50 : decode cX3_freeSetter 50 = .ok (.iload 7, 2) := by decide +kernel
theorem dX3_freeSetter_52 : decode cX3_freeSetter 52 = .ok (.aload_n 1, 1) := by decide +kernel
theorem dX3_freeSetter_53 : decode cX3_freeSetter 53 = .ok (.getfield 63, 3) := by decide +kernel
theorem dX3_freeSetter_56 : decode cX3_freeSetter 56 = .ok (.iload_n 2, 1) := by decide +kernel
theorem dX3_freeSetter_57 : decode cX3_freeSetter 57 = .ok (.iaload, 1) := by decide +kernel
theorem dX3_freeSetter_58 : decode cX3_freeSetter 58 = .ok (.if_icmp .eq 18, 3) := by decide +kernel
theorem dX3_freeSetter_61 : decode cX3_freeSetter 61 = .ok (.iload 7, 2) := by decide +kernel
theorem dX3_freeSetter_63 : decode cX3_freeSetter 63 = .ok (.aload_n 1, 1) := by decide +kernel
theorem dX3_freeSetter_64 : decode cX3_freeSetter 64 = .ok (.getfield 66, 3) := by decide +kernel
theorem dX3_freeSetter_67 : decode cX3_freeSetter 67 = .ok (.iload_n 2, 1) := by decide +kernel
theorem dX3_freeSetter_68 : decode cX3_freeSetter 68 = .ok (.iaload, 1) := by decide +kernel
theorem dX3_freeSetter_69 : decode cX3_freeSetter 69 = .ok (.if_icmp .eq 7, 3) := by decide +kernel
theorem dX3_freeSetter_72 : decode cX3_freeSetter 72 = .ok (.iconst 1, 1) := by decide +kernel
theorem dX3_freeSetter_73 : decode cX3_freeSetter 73 = .ok (.goto 4, 3) := by decide +kernel
theorem dX3_freeSetter_76 : decode cX3_freeSetter 76 = .ok (.iconst 0, 1) := by decide +kernel
theorem dX3_freeSetter_77 : decode cX3_freeSetter 77 = .ok (.istore 8, 2) := by decide +kernel
theorem dX3_freeSetter_79 : decode cX3_freeSetter 79 = .ok (.aload_n 1, 1) := by decide +kernel
theorem dX3_freeSetter_80 : decode cX3_freeSetter 80 = .ok (.getfield 78, 3) := by decide +kernel
theorem dX3_freeSetter_83 : decode cX3_freeSetter 83 = .ok (.iload 6, 2) := by decide +kernel
theorem dX3_freeSetter_85 : decode cX3_freeSetter 85 = .ok (.iaload, 1) := by decide +kernel
theorem dX3_freeSetter_86 : decode cX3_freeSetter 86 = .ok (.aload_n 0, 1) := by decide +kernel
theorem dX3_freeSetter_87 : decode cX3_freeSetter 87 = .ok (.getfield 21, 3) := by decide +kernel
theorem dX3_freeSetter_90 : decode cX3_freeSetter 90 = .ok (.iload 6, 2) := by decide +kernel
theorem dX3_freeSetter_92 : decode cX3_freeSetter 92 = .ok (.iaload, 1) := by decide +kernel
theorem dX3_freeSetter_93 : decode cX3_freeSetter 93 = .ok (.ior, 1) := by decide +kernel
theorem dX3_freeSetter_94 : decode cX3_freeSetter 94 = .ok (.iload_n 3, 1) := by decide +kernel
theorem dX3_freeSetter_95 : decode cX3_freeSetter 95 = .ok (.iand, 1) := by decide +kernel
theorem dX3_freeSetter_96 : decode cX3_freeSetter 96 = .ok (.ifCond .ne 7, 3) := by decide +kernel
theorem dX3_freeSetter_99 : decode cX3_freeSetter 99 = .ok (.iconst 1, 1) := by decide +kernel
theorem dX3_freeSetter_100 : decode cX3_freeSetter 100 = .ok (.goto 4, 3) := by decide +kernel
theorem dX3_freeSetter_103 : decode cX3_freeSetter 103 = .ok (.iconst 0, 1) := by decide +kernel
theorem dX3_freeSetter_104 : decode cX3_freeSetter 104 = .ok (.istore 9, 2) := by decide +kernel
theorem dX3_freeSetter_106 : decode cX3_freeSetter 106 = .ok (.iload 8, 2) := by decide +kernel
theorem dX3_freeSetter_108 : decode cX3_freeSetter 108 = .ok (.ifCond .eq 33, 3) := by decide +kernel
theorem dX3_freeSetter_111 : decode cX3_freeSetter 111 = .ok (.iload 9, 2) := by decide +kernel
theorem dX3_freeSetter_113 : decode cX3_freeSetter 113 = .ok (.ifCond .eq 28, 3) := by decide +kernel
theorem dX3_freeSetter_116 : decode cX3_freeSetter 116 = .ok (.aload_n 0, 1) := by decide +kernel
theorem dX3_freeSetter_117 : decode cX3_freeSetter 117 = .ok (.getfield 18, 3) := by decide +kernel
theorem dX3_freeSetter_120 : decode cX3_freeSetter 120 = .ok (.iload 6, 2) := by decide +kernel
theorem dX3_freeSetter_122 : decode cX3_freeSetter 122 = .ok (.iaload, 1) := by decide +kernel
theorem dX3_freeSetter_123 : decode cX3_freeSetter 123 = .ok (.iload 5, 2) := by decide +kernel
theorem dX3_freeSetter_125 : decode cX3_freeSetter 125 = .ok (.if_icmp .ge 16, 3) := by decide +kernel
theorem dX3_freeSetter_128 : decode cX3_freeSetter 128 = .ok (.iload 6, 2) := by decide +kernel
theorem dX3_freeSetter_130 : decode cX3_freeSetter 130 = .ok (.istore 4, 2) := by decide +kernel
theorem dX3_freeSetter_132 : decode cX3_freeSetter 132 = .ok (.aload_n 0, 1) := by decide +kernel
theorem dX3_freeSetter_133 : decode cX3_freeSetter 133 = .ok (.getfield 18, 3) := by decide +kernel
theorem dX3_freeSetter_136 : decode cX3_freeSetter 136 = .ok (.iload 6, 2) := by decide +kernel
theorem dX3_freeSetter_138 : decode cX3_freeSetter 138 = .ok (.iaload, 1) := by decide +kernel
theorem dX3_freeSetter_139 : decode cX3_freeSetter 139 = .ok (.istore 5, 2) := by decide +kernel
theorem dX3_freeSetter_141 : decode cX3_freeSetter 141 = .ok (.iinc 6 1, 3) := by decide +kernel
theorem dX3_freeSetter_144 : decode cX3_freeSetter 144 = .ok (.goto (-121), 3) := by decide +kernel
theorem dX3_freeSetter_147 : decode cX3_freeSetter 147 = .ok (.iload 4, 2) := by decide +kernel
theorem dX3_freeSetter_149 : decode cX3_freeSetter 149 = .ok (.ireturn, 1) := by decide +kernel
theorem dX3_forgetLoads_0 : decode cX3_forgetLoads 0 = .ok (.iconst 0, 1) := by decide +kernel
theorem dX3_forgetLoads_1 : decode cX3_forgetLoads 1 = .ok (.istore_n 1, 1) := by decide +kernel
theorem dX3_forgetLoads_2 : decode cX3_forgetLoads 2 = .ok (.iload_n 1, 1) := by decide +kernel
theorem dX3_forgetLoads_3 : decode cX3_forgetLoads 3 = .ok (.bipush 6, 2) := by decide +kernel
theorem dX3_forgetLoads_5 : decode cX3_forgetLoads 5 = .ok (.if_icmp .ge 23, 3) := by decide +kernel
theorem dX3_forgetLoads_8 : decode cX3_forgetLoads 8 = .ok (.aload_n 0, 1) := by decide +kernel
theorem dX3_forgetLoads_9 : decode cX3_forgetLoads 9 = .ok (.getfield 9, 3) := by decide +kernel
theorem dX3_forgetLoads_12 : decode cX3_forgetLoads 12 = .ok (.iload_n 1, 1) := by decide +kernel
theorem dX3_forgetLoads_13 : decode cX3_forgetLoads 13 = .ok (.iconst 0, 1) := by decide +kernel
theorem dX3_forgetLoads_14 : decode cX3_forgetLoads 14 = .ok (.iastore, 1) := by decide +kernel
theorem dX3_forgetLoads_15 : decode cX3_forgetLoads 15 = .ok (.aload_n 0, 1) := by decide +kernel
theorem dX3_forgetLoads_16 : decode cX3_forgetLoads 16 = .ok (.getfield 15, 3) := by decide +kernel
theorem dX3_forgetLoads_19 : decode cX3_forgetLoads 19 = .ok (.iload_n 1, 1) := by decide +kernel
theorem dX3_forgetLoads_20 : decode cX3_forgetLoads 20 = .ok (.iconst 0, 1) := by decide +kernel
theorem dX3_forgetLoads_21 : decode cX3_forgetLoads 21 = .ok (.iastore, 1) := by decide +kernel
theorem dX3_forgetLoads_22 : decode cX3_forgetLoads 22 = .ok (.iinc 1 1, 3) := by decide +kernel
theorem dX3_forgetLoads_25 : decode cX3_forgetLoads 25 = .ok (.goto (-23), 3) := by decide +kernel
theorem dX3_forgetLoads_28 : decode cX3_forgetLoads 28 = .ok (.iconst 0, 1) := by decide +kernel
theorem dX3_forgetLoads_29 : decode cX3_forgetLoads 29 = .ok (.istore_n 1, 1) := by decide +kernel
theorem dX3_forgetLoads_30 : decode cX3_forgetLoads 30 = .ok (.iload_n 1, 1) := by decide +kernel
theorem dX3_forgetLoads_31 : decode cX3_forgetLoads 31 = .ok (.bipush 6, 2) := by decide +kernel
theorem dX3_forgetLoads_33 : decode cX3_forgetLoads 33 = .ok (.if_icmp .ge 23, 3) := by decide +kernel
theorem dX3_forgetLoads_36 : decode cX3_forgetLoads 36 = .ok (.aload_n 0, 1) := by decide +kernel
theorem dX3_forgetLoads_37 : decode cX3_forgetLoads 37 = .ok (.getfield 18, 3) := by decide +kernel
theorem dX3_forgetLoads_40 : decode cX3_forgetLoads 40 = .ok (.iload_n 1, 1) := by decide +kernel
theorem dX3_forgetLoads_41 : decode cX3_forgetLoads 41 = .ok (.iconst 0, 1) := by decide +kernel
theorem dX3_forgetLoads_42 : decode cX3_forgetLoads 42 = .ok (.iastore, 1) := by decide +kernel
theorem dX3_forgetLoads_43 : decode cX3_forgetLoads 43 = .ok (.aload_n 0, 1) := by decide +kernel
theorem dX3_forgetLoads_44 : decode cX3_forgetLoads 44 = .ok (.getfield 21, 3) := by decide +kernel
theorem dX3_forgetLoads_47 : decode cX3_forgetLoads 47 = .ok (.iload_n 1, 1) := by decide +kernel
theorem dX3_forgetLoads_48 : decode cX3_forgetLoads 48 = .ok (.iconst 0, 1) := by decide +kernel
theorem dX3_forgetLoads_49 : decode cX3_forgetLoads 49 = .ok (.iastore, 1) := by decide +kernel
theorem dX3_forgetLoads_50 : decode cX3_forgetLoads 50 = .ok (.iinc 1 1, 3) := by decide +kernel
theorem dX3_forgetLoads_53 : decode cX3_forgetLoads 53 = .ok (.goto (-23), 3) := by decide +kernel
theorem dX3_forgetLoads_56 : decode cX3_forgetLoads 56 = .ok (.return_, 1) := by decide +kernel
theorem dX3_load_0 : decode cX3_load 0 = .ok (.iload_n 1, 1) := by decide +kernel
theorem dX3_load_1 : decode cX3_load 1 = .ok (.ifCond .lt 19, 3) := by decide +kernel
theorem dX3_load_4 : decode cX3_load 4 = .ok (.iload_n 1, 1) := by decide +kernel
theorem dX3_load_5 : decode cX3_load 5 = .ok (.bipush 6, 2) := by decide +kernel
theorem dX3_load_7 : decode cX3_load 7 = .ok (.if_icmp .ge 13, 3) := by decide +kernel
theorem dX3_load_10 : decode cX3_load 10 = .ok (.iload_n 2, 1) := by decide +kernel
theorem dX3_load_11 : decode cX3_load 11 = .ok (.ifCond .lt 9, 3) := by decide +kernel
theorem dX3_load_14 : decode cX3_load 14 = .ok (.iload_n 2, 1) := by decide +kernel
theorem dX3_load_15 : decode cX3_load 15 = .ok (.bipush 6, 2) := by decide +kernel
theorem dX3_load_17 : decode cX3_load 17 = .ok (.if_icmp .lt 4, 3) := by decide +kernel
theorem dX3_load_20 : decode cX3_load 20 = .ok (.return_, 1) := by decide +kernel
theorem dX3_load_21 : decode cX3_load 21 = .ok (.aload_n 0, 1) := by decide +kernel
theorem dX3_load_22 : decode cX3_load 22 = .ok (.getfield 9, 3) := by decide +kernel
theorem dX3_load_25 : decode cX3_load 25 = .ok (.iload_n 1, 1) := by decide +kernel
theorem dX3_load_26 : decode cX3_load 26 = .ok (.dup2, 1) := by decide +kernel
theorem dX3_load_27 : decode cX3_load 27 = .ok (.iaload, 1) := by decide +kernel
theorem dX3_load_28 : decode cX3_load 28 = .ok (.iconst 1, 1) := by decide +kernel
theorem dX3_load_29 : decode cX3_load 29 = .ok (.iadd, 1) := by decide +kernel
theorem dX3_load_30 : decode cX3_load 30 = .ok (.iastore, 1) := by decide +kernel
theorem dX3_load_31 : decode cX3_load 31 = .ok (.aload_n 0, 1) := by decide +kernel
theorem dX3_load_32 : decode cX3_load 32 = .ok (.getfield 15, 3) := by decide +kernel
theorem dX3_load_35 : decode cX3_load 35 = .ok (.iload_n 1, 1) := by decide +kernel
theorem dX3_load_36 : decode cX3_load 36 = .ok (.dup2, 1) := by decide +kernel
theorem dX3_load_37 : decode cX3_load 37 = .ok (.iaload, 1) := by decide +kernel
theorem dX3_load_38 : decode cX3_load 38 = .ok (.iconst 1, 1) := by decide +kernel
theorem dX3_load_39 : decode cX3_load 39 = .ok (.iload_n 3, 1) := by decide +kernel
theorem dX3_load_40 : decode cX3_load 40 = .ok (.ishl, 1) := by decide +kernel
theorem dX3_load_41 : decode cX3_load 41 = .ok (.ior, 1) := by decide +kernel
theorem dX3_load_42 : decode cX3_load 42 = .ok (.iastore, 1) := by decide +kernel
theorem dX3_load_43 : decode cX3_load 43 = .ok (.aload_n 0, 1) := by decide +kernel
theorem dX3_load_44 : decode cX3_load 44 = .ok (.getfield 18, 3) := by decide +kernel
theorem dX3_load_47 : decode cX3_load 47 = .ok (.iload_n 2, 1) := by decide +kernel
theorem dX3_load_48 : decode cX3_load 48 = .ok (.dup2, 1) := by decide +kernel
theorem dX3_load_49 : decode cX3_load 49 = .ok (.iaload, 1) := by decide +kernel
theorem dX3_load_50 : decode cX3_load 50 = .ok (.iconst 1, 1) := by decide +kernel
theorem dX3_load_51 : decode cX3_load 51 = .ok (.iadd, 1) := by decide +kernel
theorem dX3_load_52 : decode cX3_load 52 = .ok (.iastore, 1) := by decide +kernel
theorem dX3_load_53 : decode cX3_load 53 = .ok (.aload_n 0, 1) := by decide +kernel
theorem dX3_load_54 : decode cX3_load 54 = .ok (.getfield 21, 3) := by decide +kernel
theorem dX3_load_57 : decode cX3_load 57 = .ok (.iload_n 2, 1) := by decide +kernel
theorem dX3_load_58 : decode cX3_load 58 = .ok (.dup2, 1) := by decide +kernel
theorem dX3_load_59 : decode cX3_load 59 = .ok (.iaload, 1) := by decide +kernel
theorem dX3_load_60 : decode cX3_load 60 = .ok (.iconst 1, 1) := by decide +kernel
theorem dX3_load_61 : decode cX3_load 61 = .ok (.iload_n 3, 1) := by decide +kernel
theorem dX3_load_62 : decode cX3_load 62 = .ok (.ishl, 1) := by decide +kernel
theorem dX3_load_63 : decode cX3_load 63 = .ok (.ior, 1) := by decide +kernel
theorem dX3_load_64 : decode cX3_load 64 = .ok (.iastore, 1) := by decide +kernel
theorem dX3_load_65 : decode cX3_load 65 = .ok (.return_, 1) := by decide +kernel
theorem dX4_init_0 : decode cX4_init 0 = .ok (.aload_n 0, 1) := by decide +kernel
theorem dX4_init_1 : decode cX4_init 1 = .ok (.invokespecial 3, 3) := by decide +kernel
theorem dX4_init_4 : decode cX4_init 4 = .ok (.aload_n 0, 1) := by decide +kernel
theorem dX4_init_5 : decode cX4_init 5 = .ok (.bipush 8, 2) := by decide +kernel
theorem dX4_init_7 : decode cX4_init 7 = .ok (.newarray .int, 2) := by decide +kernel
theorem dX4_init_9 : decode cX4_init 9 = .ok (.putfield 9, 3) := by decide +kernel
theorem dX4_init_12 : decode cX4_init 12 = .ok (.aload_n 0, 1) := by decide +kernel
theorem dX4_init_13 : decode cX4_init 13 = .ok (.bipush 8, 2) := by decide +kernel
theorem dX4_init_15 : decode cX4_init 15 = .ok (.newarray .int, 2) := by decide +kernel
theorem dX4_init_17 : decode cX4_init 17 = .ok (.putfield 15, 3) := by decide +kernel
theorem dX4_init_20 : decode cX4_init 20 = .ok (.aload_n 0, 1) := by decide +kernel
theorem dX4_init_21 : decode cX4_init 21 = .ok (.bipush 8, 2) := by decide +kernel
theorem dX4_init_23 : decode cX4_init 23 = .ok (.newarray .int, 2) := by decide +kernel
theorem dX4_init_25 : decode cX4_init 25 = .ok (.putfield 18, 3) := by decide +kernel
theorem dX4_init_28 : decode cX4_init 28 = .ok (.aload_n 0, 1) := by decide +kernel
theorem dX4_init_29 : decode cX4_init 29 = .ok (.bipush 8, 2) := by decide +kernel
theorem dX4_init_31 : decode cX4_init 31 = .ok (.newarray .int, 2) := by decide +kernel
theorem dX4_init_33 : decode cX4_init 33 = .ok (.putfield 21, 3) := by decide +kernel
theorem dX4_init_36 : decode cX4_init 36 = .ok (.aload_n 0, 1) := by decide +kernel
theorem dX4_init_37 : decode cX4_init 37 = .ok (.bipush 8, 2) := by decide +kernel
theorem dX4_init_39 : decode cX4_init 39 = .ok (.newarray .int, 2) := by decide +kernel
theorem dX4_init_41 : decode cX4_init 41 = .ok (.putfield 24, 3) := by decide +kernel
theorem dX4_init_44 : decode cX4_init 44 = .ok (.aload_n 0, 1) := by decide +kernel
theorem dX4_init_45 : decode cX4_init 45 = .ok (.bipush 8, 2) := by decide +kernel
theorem dX4_init_47 : decode cX4_init 47 = .ok (.newarray .int, 2) := by decide +kernel
theorem dX4_init_49 : decode cX4_init 49 = .ok (.putfield 27, 3) := by decide +kernel
theorem dX4_init_52 : decode cX4_init 52 = .ok (.aload_n 0, 1) := by decide +kernel
theorem dX4_init_53 : decode cX4_init 53 = .ok (.bipush 8, 2) := by decide +kernel
theorem dX4_init_55 : decode cX4_init 55 = .ok (.newarray .int, 2) := by decide +kernel
theorem dX4_init_57 : decode cX4_init 57 = .ok (.putfield 30, 3) := by decide +kernel
theorem dX4_init_60 : decode cX4_init 60 = .ok (.aload_n 0, 1) := by decide +kernel
theorem dX4_init_61 : decode cX4_init 61 = .ok (.bipush 8, 2) := by decide +kernel
theorem dX4_init_63 : decode cX4_init 63 = .ok (.newarray .int, 2) := by decide +kernel
theorem dX4_init_65 : decode cX4_init 65 = .ok (.putfield 33, 3) := by decide +kernel
theorem dX4_init_68 : decode cX4_init 68 = .ok (.return_, 1) := by decide +kernel
set_option maxRecDepth 20000 in
theorem ggX4_countUp_X4_addOneSide : GoodIn wsX4_countUp wsX4_addOneSide := goodIn_r _ [20, 21, 22, 23, 14, 13, 7, 24, 25, 26, 19, 27, 6, 28, 29, 30, 31, 32, 33, 34, 35, 36, 37, 38, 39, 40, 41, 42, 43, 44, 45, 8, 11, 12, 9, 46, 10, 47, 48, 49, 50, 51, 52, 53, 54, 55, 56, 57, 58, 59, 60, 61, 62, 63, 64, 65, 66, 67, 68, 69, 70] (by decide +kernel) (by decide +kernel)
set_option maxRecDepth 20000 in
theorem gX4_countUp_X4_addOneSide : GoodIn wsX4_countUp (wsV RX4 52 RX4 yX4_addOneSide wsX4_addOneSide) := goodIn_app (goodIn_of _ (by decide +kernel)) ggX4_countUp_X4_addOneSide
theorem dX4_countUp_0 : decode cX4_countUp 0 = .ok (.aload_n 0, 1) := by decide +kernel
theorem dX4_countUp_1 : decode cX4_countUp 1 = .ok (.aload_n 1, 1) := by decide +kernel
theorem dX4_countUp_2 : decode cX4_countUp 2 = .ok (.getfield 36, 3) := by decide +kernel
theorem dX4_countUp_5 : decode cX4_countUp 5 = .ok (.bipush 8, 2) := by decide +kernel
theorem dX4_countUp_7 : decode cX4_countUp 7 = .ok (.invokestatic 42, 3) := by decide +kernel
theorem dX4_countUp_10 : decode cX4_countUp 10 = .ok (.putfield 48, 3) := by decide +kernel
theorem dX4_countUp_13 : decode cX4_countUp 13 = .ok (.iconst 0, 1) := by decide +kernel
theorem dX4_countUp_14 : decode cX4_countUp 14 = .ok (.istore_n 2, 1) := by decide +kernel
theorem dX4_countUp_15 : decode cX4_countUp 15 = .ok (.iload_n 2, 1) := by decide +kernel
theorem dX4_countUp_16 : decode cX4_countUp 16 = .ok (.aload_n 0, 1) := by decide +kernel
theorem dX4_countUp_17 : decode cX4_countUp 17 = .ok (.getfield 48, 3) := by decide +kernel
theorem dX4_countUp_20 : decode cX4_countUp 20 = .ok (.if_icmp .ge 65, 3) := by decide +kernel
theorem dX4_countUp_23 : decode cX4_countUp 23 = .ok (.aload_n 0, 1) := by decide +kernel
theorem dX4_countUp_24 : decode cX4_countUp 24 = .ok (.getfield 9, 3) := by decide +kernel
theorem dX4_countUp_27 : decode cX4_countUp 27 = .ok (.iload_n 2, 1) := by decide +kernel
theorem dX4_countUp_28 : decode cX4_countUp 28 = .ok (.iconst 0, 1) := by decide +kernel
theorem dX4_countUp_29 : decode cX4_countUp 29 = .ok (.iastore, 1) := by decide +kernel
theorem dX4_countUp_30 : decode cX4_countUp 30 = .ok (.aload_n 0, 1) := by decide +kernel
theorem dX4_countUp_31 : decode cX4_countUp 31 = .ok (.getfield 15, 3) := by decide +kernel
theorem dX4_countUp_34 : decode cX4_countUp 34 = .ok (.iload_n 2, 1) := by decide +kernel
theorem dX4_countUp_35 : decode cX4_countUp 35 = .ok (.iconst 0, 1) := by decide +kernel
theorem dX4_countUp_36 : decode cX4_countUp 36 = .ok (.iastore, 1) := by decide +kernel
theorem dX4_countUp_37 : decode cX4_countUp 37 = .ok (.aload_n 0, 1) := by decide +kernel
theorem dX4_countUp_38 : decode cX4_countUp 38 = .ok (.getfield 18, 3) := by decide +kernel
theorem dX4_countUp_41 : decode cX4_countUp 41 = .ok (.iload_n 2, 1) := by decide +kernel
theorem dX4_countUp_42 : decode cX4_countUp 42 = .ok (.iconst 0, 1) := by decide +kernel
theorem dX4_countUp_43 : decode cX4_countUp 43 = .ok (.iastore, 1) := by decide +kernel
theorem dX4_countUp_44 : decode cX4_countUp 44 = .ok (.aload_n 0, 1) := by decide +kernel
theorem dX4_countUp_45 : decode cX4_countUp 45 = .ok (.getfield 21, 3) := by decide +kernel
theorem dX4_countUp_48 : decode cX4_countUp 48 = .ok (.iload_n 2, 1) := by decide +kernel
theorem dX4_countUp_49 : decode cX4_countUp 49 = .ok (.iconst 0, 1) := by decide +kernel
theorem dX4_countUp_50 : decode cX4_countUp 50 = .ok (.iastore, 1) := by decide +kernel
theorem dX4_countUp_51 : decode cX4_countUp 51 = .ok (.aload_n 0, 1) := by decide +kernel
theorem dX4_countUp_52 : decode cX4_countUp 52 = .ok (.getfield 24, 3) := by decide +kernel
theorem dX4_countUp_55 : decode cX4_countUp 55 = .ok (.iload_n 2, 1) := by decide +kernel
theorem dX4_countUp_56 : decode cX4_countUp 56 = .ok (.iconst 0, 1) := by decide +kernel
theorem dX4_countUp_57 : decode cX4_countUp 57 = .ok (.iastore, 1) := by decide +kernel
theorem dX4_countUp_58 : decode cX4_countUp 58 = .ok (.aload_n 0, 1) := by decide +kernel
theorem dX4_countUp_59 : decode cX4_countUp 59 = .ok (.getfield 27, 3) := by decide +kernel
theorem dX4_countUp_62 : decode cX4_countUp 62 = .ok (.iload_n 2, 1) := by decide +kernel
theorem dX4_countUp_63 : decode cX4_countUp 63 = .ok (.iconst 0, 1) := by decide +kernel
theorem dX4_countUp_64 : decode cX4_countUp 64 = .ok (.iastore, 1) := by decide +kernel
theorem dX4_countUp_65 : decode cX4_countUp 65 = .ok (.aload_n 0, 1) := by decide +kernel
theorem dX4_countUp_66 : decode cX4_countUp 66 = .ok (.getfield 30, 3) := by decide +kernel
theorem dX4_countUp_69 : decode cX4_countUp 69 = .ok (.iload_n 2, 1) := by decide +kernel
theorem dX4_countUp_70 : decode cX4_countUp 70 = .ok (.iconst 0, 1) := by decide +kernel
theorem dX4_countUp_71 : decode cX4_countUp 71 = .ok (.iastore, 1) := by decide +kernel
theorem dX4_countUp_72 : decode cX4_countUp 72 = .ok (.aload_n 0, 1) := by decide +kernel
theorem dX4_countUp_73 : decode cX4_countUp 73 = .ok (.getfield 33, 3) := by decide +kernel
theorem dX4_countUp_76 : decode cX4_countUp 76 = .ok (.iload_n 2, 1) := by decide +kernel
theorem dX4_countUp_77 : decode cX4_countUp 77 = .ok (.iconst 0, 1) := by decide +kernel
theorem dX4_countUp_78 : decode cX4_countUp 78 = .ok (.iastore, 1) := by decide +kernel
theorem dX4_countUp_79 : decode cX4_countUp 79 = .ok (.iinc 2 1, 3) := by decide +kernel
theorem dX4_countUp_82 : decode cX4_countUp 82 = .ok (.goto (-67), 3) := by decide +kernel
theorem dX4_countUp_85 : decode cX4_countUp 85 = .ok (.iconst 0, 1) := by decide +kernel
theorem dX4_countUp_86 : decode cX4_countUp 86 = .ok (.istore_n 2, 1) := by decide +kernel
theorem dX4_countUp_87 : decode cX4_countUp 87 = .ok (.iload_n 2, 1) := by decide +kernel
theorem dX4_countUp_88 : decode cX4_countUp 88 = .ok (.aload_n 1, 1) := by decide +kernel
theorem dX4_countUp_89 : decode cX4_countUp 89 = .ok (.getfield 49, 3) := by decide +kernel
theorem dX4_countUp_92 : decode cX4_countUp 92 = .ok (.if_icmp .ge 23, 3) := by decide +kernel
theorem dX4_countUp_95 : decode cX4_countUp 95 = .ok (.aload_n 0, 1) := by decide +kernel
theorem dX4_countUp_96 : decode cX4_countUp 96 = .ok (.aload_n 1, 1) := by decide +kernel
theorem dX4_countUp_97 : decode cX4_countUp 97 = .ok (.iload_n 2, 1) := by decide +kernel
theorem dX4_countUp_98 : decode cX4_countUp 98 = .ok (.iconst 0, 1) := by decide +kernel
theorem dX4_countUp_99 : decode cX4_countUp 99 = .ok (.invokevirtual 52, 3) := by decide +kernel
theorem dX4_countUp_102 : decode cX4_countUp 102 = .ok (.aload_n 0, 1) := by decide +kernel
theorem dX4_countUp_103 : decode cX4_countUp 103 = .ok (.aload_n 1, 1) := by decide +kernel
theorem dX4_countUp_104 : decode cX4_countUp 104 = .ok (.iload_n 2, 1) := by decide +kernel
theorem dX4_countUp_105 : decode cX4_countUp 105 = .ok (.iconst 1, 1) := by decide +kernel
theorem dX4_countUp_106 : decode cX4_countUp 106 = .ok (.invokevirtual 52, 3) := by decide +kernel
theorem dX4_countUp_109 : decode cX4_countUp 109 = .ok (.iinc 2 1, 3) := by decide +kernel
theorem dX4_countUp_112 : decode cX4_countUp 112 = .ok (.goto (-25), 3) := by decide +kernel
theorem dX4_countUp_115 : decode cX4_countUp 115 = .ok (.return_, 1) := by decide +kernel
set_option maxRecDepth 20000 in
theorem ggX4_addOneSide_X4_hasTeam : GoodIn wsX4_addOneSide wsX4_hasTeam := goodIn_r _ [11, 12, 52, 53, 54, 55, 56, 57, 58, 59, 60] (by decide +kernel) (by decide +kernel)
set_option maxRecDepth 20000 in
theorem gX4_addOneSide_X4_hasTeam : GoodIn wsX4_addOneSide (wsV RX4 62 RX4 yX4_hasTeam wsX4_hasTeam) := goodIn_app (goodIn_of _ (by decide +kernel)) ggX4_addOneSide_X4_hasTeam
set_option maxRecDepth 20000 in
theorem ggX4_addOneSide_X1_scoreOf : GoodIn wsX4_addOneSide wsX1_scoreOf := goodIn_r _ [17, 18, 19, 20, 21, 22, 23, 24, 16, 25, 26, 37, 38, 39, 40, 41, 42, 43, 44, 45, 46, 47, 48, 49, 50, 51] (by decide +kernel) (by decide +kernel)
set_option maxRecDepth 20000 in
theorem gX4_addOneSide_X1_scoreOf : GoodIn wsX4_addOneSide (wsV RX4 69 RX1 yX1_scoreOf wsX1_scoreOf) := goodIn_app (goodIn_of _ (by decide +kernel)) ggX4_addOneSide_X1_scoreOf
set_option maxRecDepth 20000 in
theorem ggX4_addOneSide_X4_addScores : GoodIn wsX4_addOneSide wsX4_addScores := goodIn_r _ [30, 31, 32, 33, 34, 6, 35, 36, 7, 8, 9, 10, 11, 12, 52, 53, 54, 55, 56, 57, 58, 59, 60, 37, 38, 39, 40, 41, 42, 43, 44, 45, 46, 47, 48, 49, 50, 51] (by decide +kernel) (by decide +kernel)
set_option maxRecDepth 20000 in
theorem gX4_addOneSide_X4_addScores : GoodIn wsX4_addOneSide (wsV RX4 73 RX4 yX4_addScores wsX4_addScores) := goodIn_app (goodIn_of _ (by decide +kernel)) ggX4_addOneSide_X4_addScores
theorem dX4_addOneSide_0 : decode cX4_addOneSide 0 = .ok (.iload_n 3, 1) := by decide +kernel
theorem dX4_addOneSide_1 : decode cX4_addOneSide 1 = .ok (.ifCond .eq 12, 3) := by decide +kernel
theorem dX4_addOneSide_4 : decode cX4_addOneSide 4 = .ok (.aload_n 1, 1) := by decide +kernel
theorem dX4_addOneSide_5 : decode cX4_addOneSide 5 = .ok (.getfield 56, 3) := by decide +kernel
theorem dX4_addOneSide_8 : decode cX4_addOneSide 8 = .ok (.iload_n 2, 1) := by decide +kernel
theorem dX4_addOneSide_9 : decode cX4_addOneSide 9 = .ok (.iaload, 1) := by decide +kernel
theorem dX4_addOneSide_10 : decode cX4_addOneSide 10 = .ok (.goto 9, 3) := by decide +kernel
theorem dX4_addOneSide_13 : decode cX4_addOneSide 13 = .ok (.aload_n 1, 1) := by decide +kernel
theorem dX4_addOneSide_14 : decode cX4_addOneSide 14 = .ok (.getfield 59, 3) := by decide +kernel
theorem dX4_addOneSide_17 : decode cX4_addOneSide 17 = .ok (.iload_n 2, 1) := by decide +kernel
theorem dX4_addOneSide_18 : decode cX4_addOneSide 18 = .ok (.iaload, 1) := by decide +kernel
theorem dX4_addOneSide_19 : decode cX4_addOneSide 19 = .ok (.istore 4, 2) := by decide +kernel
theorem dX4_addOneSide_21 : decode cX4_addOneSide 21 = .ok (.aload_n 0, 1) := by decide +kernel
theorem dX4_addOneSide_22 : decode cX4_addOneSide 22 = .ok (.iload 4, 2) := by decide +kernel
theorem dX4_addOneSide_24 : decode cX4_addOneSide 24 = .ok (.invokevirtual 62, 3) := by decide +kernel
theorem dX4_addOneSide_27 : decode cX4_addOneSide 27 = .ok (.ifCond .ne 4, 3) := by decide +kernel
theorem dX4_addOneSide_30 : decode cX4_addOneSide 30 = .ok (.return_, 1) := by decide +kernel
theorem dX4_addOneSide_31 : decode cX4_addOneSide 31 = .ok (.aload_n 1, 1) := by decide +kernel
theorem dX4_addOneSide_32 : decode cX4_addOneSide 32 = .ok (.getfield 66, 3) := by decide +kernel
theorem dX4_addOneSide_35 : decode cX4_addOneSide 35 = .ok (.iload_n 2, 1) := by decide +kernel
theorem dX4_addOneSide_36 : decode cX4_addOneSide 36 = .ok (.iaload, 1) := by decide +kernel
theorem dX4_addOneSide_37 : decode cX4_addOneSide 37 = .ok (.istore 5, 2) := by decide +kernel
theorem dX4_addOneSide_39 : decode cX4_addOneSide 39 = .ok (.iload 5, 2) := by decide +kernel
theorem dX4_addOneSide_41 : decode cX4_addOneSide 41 = .ok (.ifCond .ne 15, 3) := by decide +kernel
theorem dX4_addOneSide_44 : decode cX4_addOneSide 44 = .ok (.aload_n 0, 1) := by decide +kernel
theorem dX4_addOneSide_45 : decode cX4_addOneSide 45 = .ok (.getfield 33, 3) := by decide +kernel
theorem dX4_addOneSide_48 : decode cX4_addOneSide 48 = .ok (.iload 4, 2) := by decide +kernel
theorem dX4_addOneSide_50 : decode cX4_addOneSide 50 = .ok (.dup2, 1) := by decide +kernel
theorem dX4_addOneSide_51 : decode cX4_addOneSide 51 = .ok (.iaload, 1) := by decide +kernel
theorem dX4_addOneSide_52 : decode cX4_addOneSide 52 = .ok (.iconst 1, 1) := by decide +kernel
theorem dX4_addOneSide_53 : decode cX4_addOneSide 53 = .ok (.iadd, 1) := by decide +kernel
theorem dX4_addOneSide_54 : decode cX4_addOneSide 54 = .ok (.iastore, 1) := by decide +kernel
theorem dX4_addOneSide_55 : decode cX4_addOneSide 55 = .ok (.return_, 1) := by decide +kernel
theorem dX4_addOneSide_56 : decode cX4_addOneSide 56 = .ok (.aload_n 0, 1) := by decide +kernel
theorem dX4_addOneSide_57 : decode cX4_addOneSide 57 = .ok (.aload_n 1, 1) := by decide +kernel
theorem dX4_addOneSide_58 : decode cX4_addOneSide 58 = .ok (.iload 4, 2) := by decide +kernel
theorem dX4_addOneSide_60 : decode cX4_addOneSide 60 = .ok (.aload_n 1, 1) := by decide +kernel
theorem dX4_addOneSide_61 : decode cX4_addOneSide 61 = .ok (.iload_n 2, 1) := by decide +kernel
theorem dX4_addOneSide_62 : decode cX4_addOneSide 62 = .ok (.iload_n 3, 1) := by decide +kernel
theorem dX4_addOneSide_63 : decode cX4_addOneSide 63 = .ok (.invokevirtual 69, 3) := by decide +kernel
theorem dX4_addOneSide_66 : decode cX4_addOneSide 66 = .ok (.aload_n 1, 1) := by decide +kernel
theorem dX4_addOneSide_67 : decode cX4_addOneSide 67 = .ok (.iload_n 2, 1) := by decide +kernel
theorem dX4_addOneSide_68 : decode cX4_addOneSide 68 = .ok (.iload_n 3, 1) := by decide +kernel
theorem dX4_addOneSide_69 : decode cX4_addOneSide 69 = .ok (.ifCond .ne 7, 3) := by decide +kernel
theorem dX4_addOneSide_72 : decode cX4_addOneSide 72 = .ok (.iconst 1, 1) := by decide +kernel
theorem dX4_addOneSide_73 : decode cX4_addOneSide 73 = .ok (.goto 4, 3) := by decide +kernel
theorem dX4_addOneSide_76 : decode cX4_addOneSide 76 = .ok (.iconst 0, 1) := by decide +kernel
theorem dX4_addOneSide_77 : decode cX4_addOneSide 77 = .ok (.invokevirtual 69, 3) := by decide +kernel
theorem dX4_addOneSide_80 : decode cX4_addOneSide 80 = .ok (.invokevirtual 73, 3) := by decide +kernel
theorem dX4_addOneSide_83 : decode cX4_addOneSide 83 = .ok (.iload 5, 2) := by decide +kernel
theorem dX4_addOneSide_85 : decode cX4_addOneSide 85 = .ok (.iload_n 3, 1) := by decide +kernel
theorem dX4_addOneSide_86 : decode cX4_addOneSide 86 = .ok (.ifCond .eq 7, 3) := by decide +kernel
theorem dX4_addOneSide_89 : decode cX4_addOneSide 89 = .ok (.iconst 3, 1) := by decide +kernel
theorem dX4_addOneSide_90 : decode cX4_addOneSide 90 = .ok (.goto 4, 3) := by decide +kernel
theorem dX4_addOneSide_93 : decode cX4_addOneSide 93 = .ok (.iconst 2, 1) := by decide +kernel
theorem dX4_addOneSide_94 : decode cX4_addOneSide 94 = .ok (.if_icmp .ne 25, 3) := by decide +kernel
theorem dX4_addOneSide_97 : decode cX4_addOneSide 97 = .ok (.aload_n 0, 1) := by decide +kernel
theorem dX4_addOneSide_98 : decode cX4_addOneSide 98 = .ok (.getfield 30, 3) := by decide +kernel
theorem dX4_addOneSide_101 : decode cX4_addOneSide 101 = .ok (.iload 4, 2) := by decide +kernel
theorem dX4_addOneSide_103 : decode cX4_addOneSide 103 = .ok (.dup2, 1) := by decide +kernel
theorem dX4_addOneSide_104 : decode cX4_addOneSide 104 = .ok (.iaload, 1) := by decide +kernel
theorem dX4_addOneSide_105 : decode cX4_addOneSide 105 = .ok (.iconst 1, 1) := by decide +kernel
theorem dX4_addOneSide_106 : decode cX4_addOneSide 106 = .ok (.iadd, 1) := by decide +kernel
theorem dX4_addOneSide_107 : decode cX4_addOneSide 107 = .ok (.iastore, 1) := by decide +kernel
theorem dX4_addOneSide_108 : decode cX4_addOneSide 108 = .ok (.aload_n 0, 1) := by decide +kernel
theorem dX4_addOneSide_109 : decode cX4_addOneSide 109 = .ok (.getfield 9, 3) := by decide +kernel
theorem dX4_addOneSide_112 : decode cX4_addOneSide 112 = .ok (.iload 4, 2) := by decide +kernel
theorem dX4_addOneSide_114 : decode cX4_addOneSide 114 = .ok (.dup2, 1) := by decide +kernel
theorem dX4_addOneSide_115 : decode cX4_addOneSide 115 = .ok (.iaload, 1) := by decide +kernel
theorem dX4_addOneSide_116 : decode cX4_addOneSide 116 = .ok (.iconst 1, 1) := by decide +kernel
theorem dX4_addOneSide_117 : decode cX4_addOneSide 117 = .ok (.isub, 1) := by decide +kernel
theorem dX4_addOneSide_118 : decode cX4_addOneSide 118 = .ok (.iastore, 1) := by decide +kernel
theorem dX4_addOneSide_119 : decode cX4_addOneSide 119 = .ok (.return_, 1) := by decide +kernel
set_option maxRecDepth 20000 in
theorem ggX4_addScores_X4_hasTeam : GoodIn wsX4_addScores wsX4_hasTeam := goodIn_r _ [12, 13, 14, 15, 16, 17, 18, 19, 20, 21, 22] (by decide +kernel) (by decide +kernel)
set_option maxRecDepth 20000 in
theorem gX4_addScores_X4_hasTeam : GoodIn wsX4_addScores (wsV RX4 62 RX4 yX4_hasTeam wsX4_hasTeam) := goodIn_app (goodIn_of _ (by decide +kernel)) ggX4_addScores_X4_hasTeam
theorem dX4_addScores_0 : decode cX4_addScores 0 = .ok (.aload_n 0, 1) := by decide +kernel
theorem dX4_addScores_1 : decode cX4_addScores 1 = .ok (.iload_n 2, 1) := by decide +kernel
theorem dX4_addScores_2 : decode cX4_addScores 2 = .ok (.invokevirtual 62, 3) := by decide +kernel
theorem dX4_addScores_5 : decode cX4_addScores 5 = .ok (.ifCond .ne 4, 3) := by decide +kernel
theorem dX4_addScores_8 : decode cX4_addScores 8 = .ok (.return_, 1) := by decide +kernel
theorem dX4_addScores_9 : decode cX4_addScores 9 = .ok (.aload_n 0, 1) := by decide +kernel
theorem dX4_addScores_10 : decode cX4_addScores 10 = .ok (.getfield 15, 3) := by decide +kernel
theorem dX4_addScores_13 : decode cX4_addScores 13 = .ok (.iload_n 2, 1) := by decide +kernel
theorem dX4_addScores_14 : decode cX4_addScores 14 = .ok (.dup2, 1) := by decide +kernel
theorem dX4_addScores_15 : decode cX4_addScores 15 = .ok (.iaload, 1) := by decide +kernel
theorem dX4_addScores_16 : decode cX4_addScores 16 = .ok (.iconst 1, 1) := by decide +kernel
theorem dX4_addScores_17 : decode cX4_addScores 17 = .ok (.iadd, 1) := by decide +kernel
theorem dX4_addScores_18 : decode cX4_addScores 18 = .ok (.iastore, 1) := by decide +kernel
theorem dX4_addScores_19 : decode cX4_addScores 19 = .ok (.aload_n 0, 1) := by decide +kernel
theorem dX4_addScores_20 : decode cX4_addScores 20 = .ok (.getfield 24, 3) := by decide +kernel
theorem dX4_addScores_23 : decode cX4_addScores 23 = .ok (.iload_n 2, 1) := by decide +kernel
theorem dX4_addScores_24 : decode cX4_addScores 24 = .ok (.dup2, 1) := by decide +kernel
theorem dX4_addScores_25 : decode cX4_addScores 25 = .ok (.iaload, 1) := by decide +kernel
theorem dX4_addScores_26 : decode cX4_addScores 26 = .ok (.iload_n 3, 1) := by decide +kernel
theorem dX4_addScores_27 : decode cX4_addScores 27 = .ok (.iadd, 1) := by decide +kernel
theorem dX4_addScores_28 : decode cX4_addScores 28 = .ok (.iastore, 1) := by decide +kernel
theorem dX4_addScores_29 : decode cX4_addScores 29 = .ok (.aload_n 0, 1) := by decide +kernel
theorem dX4_addScores_30 : decode cX4_addScores 30 = .ok (.getfield 27, 3) := by decide +kernel
theorem dX4_addScores_33 : decode cX4_addScores 33 = .ok (.iload_n 2, 1) := by decide +kernel
theorem dX4_addScores_34 : decode cX4_addScores 34 = .ok (.dup2, 1) := by decide +kernel
theorem dX4_addScores_35 : decode cX4_addScores 35 = .ok (.iaload, 1) := by decide +kernel
theorem dX4_addScores_36 : decode cX4_addScores 36 = .ok (.iload 4, 2) := by decide +kernel
theorem dX4_addScores_38 : decode cX4_addScores 38 = .ok (.iadd, 1) := by decide +kernel
theorem dX4_addScores_39 : decode cX4_addScores 39 = .ok (.iastore, 1) := by decide +kernel
theorem dX4_addScores_40 : decode cX4_addScores 40 = .ok (.iload_n 3, 1) := by decide +kernel
theorem dX4_addScores_41 : decode cX4_addScores 41 = .ok (.iload 4, 2) := by decide +kernel
theorem dX4_addScores_43 : decode cX4_addScores 43 = .ok (.if_icmp .le 31, 3) := by decide +kernel
theorem dX4_addScores_46 : decode cX4_addScores 46 = .ok (.aload_n 0, 1) := by decide +kernel
theorem dX4_addScores_47 : decode cX4_addScores 47 = .ok (.getfield 18, 3) := by decide +kernel
theorem dX4_addScores_50 : decode cX4_addScores 50 = .ok (.iload_n 2, 1) := by decide +kernel
theorem dX4_addScores_51 : decode cX4_addScores 51 = .ok (.dup2, 1) := by decide +kernel
theorem dX4_addScores_52 : decode cX4_addScores 52 = .ok (.iaload, 1) := by decide +kernel
theorem dX4_addScores_53 : decode cX4_addScores 53 = .ok (.iconst 1, 1) := by decide +kernel
theorem dX4_addScores_54 : decode cX4_addScores 54 = .ok (.iadd, 1) := by decide +kernel
theorem dX4_addScores_55 : decode cX4_addScores 55 = .ok (.iastore, 1) := by decide +kernel
theorem dX4_addScores_56 : decode cX4_addScores 56 = .ok (.aload_n 0, 1) := by decide +kernel
theorem dX4_addScores_57 : decode cX4_addScores 57 = .ok (.getfield 9, 3) := by decide +kernel
theorem dX4_addScores_60 : decode cX4_addScores 60 = .ok (.iload_n 2, 1) := by decide +kernel
theorem dX4_addScores_61 : decode cX4_addScores 61 = .ok (.dup2, 1) := by decide +kernel
theorem dX4_addScores_62 : decode cX4_addScores 62 = .ok (.iaload, 1) := by decide +kernel
theorem dX4_addScores_63 : decode cX4_addScores 63 = .ok (.aload_n 1, 1) := by decide +kernel
theorem dX4_addScores_64 : decode cX4_addScores 64 = .ok (.getfield 77, 3) := by decide +kernel
theorem dX4_addScores_67 : decode cX4_addScores 67 = .ok (.iconst 0, 1) := by decide +kernel
theorem dX4_addScores_68 : decode cX4_addScores 68 = .ok (.iaload, 1) := by decide +kernel
theorem dX4_addScores_69 : decode cX4_addScores 69 = .ok (.iadd, 1) := by decide +kernel
theorem dX4_addScores_70 : decode cX4_addScores 70 = .ok (.iastore, 1) := by decide +kernel
theorem dX4_addScores_71 : decode cX4_addScores 71 = .ok (.goto 34, 3) := by decide +kernel
theorem dX4_addScores_74 : decode cX4_addScores 74 = .ok (.iload_n 3, 1) := by decide +kernel
theorem dX4_addScores_75 : decode cX4_addScores 75 = .ok (.iload 4, 2) := by decide +kernel
theorem dX4_addScores_77 : decode cX4_addScores 77 = .ok (.if_icmp .ne 28, 3) := by decide +kernel
theorem dX4_addScores_80 : decode cX4_addScores 80 = .ok (.aload_n 0, 1) := by decide +kernel
theorem dX4_addScores_81 : decode cX4_addScores 81 = .ok (.getfield 21, 3) := by decide +kernel
theorem dX4_addScores_84 : decode cX4_addScores 84 = .ok (.iload_n 2, 1) := by decide +kernel
theorem dX4_addScores_85 : decode cX4_addScores 85 = .ok (.dup2, 1) := by decide +kernel
theorem dX4_addScores_86 : decode cX4_addScores 86 = .ok (.iaload, 1) := by decide +kernel
theorem dX4_addScores_87 : decode cX4_addScores 87 = .ok (.iconst 1, 1) := by decide +kernel
theorem dX4_addScores_88 : decode cX4_addScores 88 = .ok (.iadd, 1) := by decide +kernel
theorem dX4_addScores_89 : decode cX4_addScores 89 = .ok (.iastore, 1) := by decide +kernel
theorem dX4_addScores_90 : decode cX4_addScores 90 = .ok (.aload_n 0, 1) := by decide +kernel
theorem dX4_addScores_91 : decode cX4_addScores 91 = .ok (.getfield 9, 3) := by decide +kernel
theorem dX4_addScores_94 : decode cX4_addScores 94 = .ok (.iload_n 2, 1) := by decide +kernel
theorem dX4_addScores_95 : decode cX4_addScores 95 = .ok (.dup2, 1) := by decide +kernel
theorem dX4_addScores_96 : decode cX4_addScores 96 = .ok (.iaload, 1) := by decide +kernel
theorem dX4_addScores_97 : decode cX4_addScores 97 = .ok (.aload_n 1, 1) := by decide +kernel
theorem dX4_addScores_98 : decode cX4_addScores 98 = .ok (.getfield 77, 3) := by decide +kernel
theorem dX4_addScores_101 : decode cX4_addScores 101 = .ok (.iconst 1, 1) := by decide +kernel
theorem dX4_addScores_102 : decode cX4_addScores 102 = .ok (.iaload, 1) := by decide +kernel
theorem dX4_addScores_103 : decode cX4_addScores 103 = .ok (.iadd, 1) := by decide +kernel
theorem dX4_addScores_104 : decode cX4_addScores 104 = .ok (.iastore, 1) := by decide +kernel
theorem dX4_addScores_105 : decode cX4_addScores 105 = .ok (.return_, 1) := by decide +kernel
theorem dX4_hasTeam_0 : decode cX4_hasTeam 0 = .ok (.iload_n 1, 1) := by decide +kernel
theorem dX4_hasTeam_1 : decode cX4_hasTeam 1 = .ok (.ifCond .lt 15, 3) := by decide +kernel
theorem dX4_hasTeam_4 : decode cX4_hasTeam 4 = .ok (.iload_n 1, 1) := by decide +kernel
theorem dX4_hasTeam_5 : decode cX4_hasTeam 5 = .ok (.aload_n 0, 1) := by decide +kernel
theorem dX4_hasTeam_6 : decode cX4_hasTeam 6 = .ok (.getfield 48, 3) := by decide +kernel
theorem dX4_hasTeam_9 : decode cX4_hasTeam 9 = .ok (.if_icmp .ge 7, 3) := by decide +kernel
theorem dX4_hasTeam_12 : decode cX4_hasTeam 12 = .ok (.iconst 1, 1) := by decide +kernel
theorem dX4_hasTeam_13 : decode cX4_hasTeam 13 = .ok (.goto 4, 3) := by decide +kernel
theorem dX4_hasTeam_16 : decode cX4_hasTeam 16 = .ok (.iconst 0, 1) := by decide +kernel
theorem dX4_hasTeam_17 : decode cX4_hasTeam 17 = .ok (.ireturn, 1) := by decide +kernel
set_option maxRecDepth 20000 in
theorem ggX4_property_X4_hasTeam : GoodIn wsX4_property wsX4_hasTeam := goodIn_r _ [13, 14, 23, 24, 25, 26, 27, 28, 29, 30, 31] (by decide +kernel) (by decide +kernel)
set_option maxRecDepth 20000 in
theorem gX4_property_X4_hasTeam : GoodIn wsX4_property (wsV RX4 62 RX4 yX4_hasTeam wsX4_hasTeam) := goodIn_app (goodIn_of _ (by decide +kernel)) ggX4_property_X4_hasTeam
set_option maxRecDepth 20000 in
theorem ggX4_property_X4_placeOf : GoodIn wsX4_property wsX4_placeOf := goodIn_r _ [18, 14, 19, 20, 21, 12, 22, 1, 5, 6, 9, 10, 11, 13, 23, 24, 25, 26, 27, 28, 29, 30, 31] (by decide +kernel) (by decide +kernel)
set_option maxRecDepth 20000 in
theorem gX4_property_X4_placeOf : GoodIn wsX4_property (wsV RX4 80 RX4 yX4_placeOf wsX4_placeOf) := goodIn_app (goodIn_of _ (by decide +kernel)) ggX4_property_X4_placeOf
theorem dX4_property_0 : decode cX4_property 0 = .ok (.aload_n 0, 1) := by decide +kernel
theorem dX4_property_1 : decode cX4_property 1 = .ok (.iload_n 1, 1) := by decide +kernel
theorem dX4_property_2 : decode cX4_property 2 = .ok (.invokevirtual 62, 3) := by decide +kernel
theorem dX4_property_5 : decode cX4_property 5 = .ok (.ifCond .ne 5, 3) := by decide +kernel
theorem dX4_property_8 : decode cX4_property 8 = .ok (.iconst (-1), 1) := by decide +kernel
theorem dX4_property_9 : decode cX4_property 9 = .ok (.ireturn, 1) := by decide +kernel
theorem dX4_property_10 : decode cX4_property 10 = .ok (.iload_n 2, 1) := by decide +kernel
theorem dX4_property_11 : decode cX4_property 11 = .ok (.tableswitch 100 0 7 #[45, 52, 59, 66, 73, 80, 87, 94], 45) := by decide +kernel
theorem dX4_property_56 : decode cX4_property 56 = .ok (.aload_n 0, 1) := by decide +kernel
theorem dX4_property_57 : decode cX4_property 57 = .ok (.getfield 9, 3) := by decide +kernel
theorem dX4_property_60 : decode cX4_property 60 = .ok (.iload_n 1, 1) := by decide +kernel
theorem dX4_property_61 : decode cX4_property 61 = .ok (.iaload, 1) := by decide +kernel
theorem dX4_property_62 : decode cX4_property 62 = .ok (.ireturn, 1) := by decide +kernel
theorem dX4_property_63 : decode cX4_property 63 = .ok (.aload_n 0, 1) := by decide +kernel
theorem dX4_property_64 : decode cX4_property 64 = .ok (.getfield 15, 3) := by decide +kernel
theorem dX4_property_67 : decode cX4_property 67 = .ok (.iload_n 1, 1) := by decide +kernel
theorem dX4_property_68 : decode cX4_property 68 = .ok (.iaload, 1) := by decide +kernel
theorem dX4_property_69 : decode cX4_property 69 = .ok (.ireturn, 1) := by decide +kernel
theorem dX4_property_70 : decode cX4_property 70 = .ok (.aload_n 0, 1) := by decide +kernel
theorem dX4_property_71 : decode cX4_property 71 = .ok (.getfield 18, 3) := by decide +kernel
theorem dX4_property_74 : decode cX4_property 74 = .ok (.iload_n 1, 1) := by decide +kernel
theorem dX4_property_75 : decode cX4_property 75 = .ok (.iaload, 1) := by decide +kernel
theorem dX4_property_76 : decode cX4_property 76 = .ok (.ireturn, 1) := by decide +kernel
theorem dX4_property_77 : decode cX4_property 77 = .ok (.aload_n 0, 1) := by decide +kernel
theorem dX4_property_78 : decode cX4_property 78 = .ok (.getfield 21, 3) := by decide +kernel
theorem dX4_property_81 : decode cX4_property 81 = .ok (.iload_n 1, 1) := by decide +kernel
theorem dX4_property_82 : decode cX4_property 82 = .ok (.iaload, 1) := by decide +kernel
theorem dX4_property_83 : decode cX4_property 83 = .ok (.ireturn, 1) := by decide +kernel
theorem dX4_property_84 : decode cX4_property 84 = .ok (.aload_n 0, 1) := by decide +kernel
theorem dX4_property_85 : decode cX4_property 85 = .ok (.getfield 24, 3) := by decide +kernel
theorem dX4_property_88 : decode cX4_property 88 = .ok (.iload_n 1, 1) := by decide +kernel
theorem dX4_property_89 : decode cX4_property 89 = .ok (.iaload, 1) := by decide +kernel
theorem dX4_property_90 : decode cX4_property 90 = .ok (.ireturn, 1) := by decide +kernel
theorem dX4_property_91 : decode cX4_property 91 = .ok (.aload_n 0, 1) := by decide +kernel
theorem dX4_property_92 : decode cX4_property 92 = .ok (.getfield 27, 3) := by decide +kernel
theorem dX4_property_95 : decode cX4_property 95 = .ok (.iload_n 1, 1) := by decide +kernel
theorem dX4_property_96 : decode cX4_property 96 = .ok (.iaload, 1) := by decide +kernel
theorem dX4_property_97 : decode cX4_property 97 = .ok (.ireturn, 1) := by decide +kernel
theorem dX4_property_98 : decode cX4_property 98 = .ok (.aload_n 0, 1) := by decide +kernel
theorem dX4_property_99 : decode cX4_property 99 = .ok (.getfield 30, 3) := by decide +kernel
theorem dX4_property_102 : decode cX4_property 102 = .ok (.iload_n 1, 1) := by decide +kernel
theorem dX4_property_103 : decode cX4_property 103 = .ok (.iaload, 1) := by decide +kernel
theorem dX4_property_104 : decode cX4_property 104 = .ok (.ireturn, 1) := by decide +kernel
theorem dX4_property_105 : decode cX4_property 105 = .ok (.aload_n 0, 1) := by decide +kernel
theorem dX4_property_106 : decode cX4_property 106 = .ok (.iload_n 1, 1) := by decide +kernel
theorem dX4_property_107 : decode cX4_property 107 = .ok (.invokevirtual 80, 3) := by decide +kernel
theorem dX4_property_110 : decode cX4_property 110 = .ok (.ireturn, 1) := by decide +kernel
theorem dX4_property_111 : decode cX4_property 111 = .ok (.aload_n 0, 1) := by decide +kernel
theorem dX4_property_112 : decode cX4_property 112 = .ok (.getfield 33, 3) := by decide +kernel
theorem dX4_property_115 : decode cX4_property 115 = .ok (.iload_n 1, 1) := by decide +kernel
theorem dX4_property_116 : decode cX4_property 116 = .ok (.iaload, 1) := by decide +kernel
theorem dX4_property_117 : decode cX4_property 117 = .ok (.ireturn, 1) := by decide +kernel
theorem dX4_allPoints_0 : decode cX4_allPoints 0 = .ok (.iconst 0, 1) := by decide +kernel
theorem dX4_allPoints_1 : decode cX4_allPoints 1 = .ok (.istore_n 1, 1) := by decide +kernel
theorem dX4_allPoints_2 : decode cX4_allPoints 2 = .ok (.iconst 0, 1) := by decide +kernel
theorem dX4_allPoints_3 : decode cX4_allPoints 3 = .ok (.istore_n 2, 1) := by decide +kernel
theorem dX4_allPoints_4 : decode cX4_allPoints 4 = .ok (.iload_n 2, 1) := by decide +kernel
theorem dX4_allPoints_5 : decode cX4_allPoints 5 = .ok (.aload_n 0, 1) := by decide +kernel
theorem dX4_allPoints_6 : decode cX4_allPoints 6 = .ok (.getfield 48, 3) := by decide +kernel
theorem dX4_allPoints_9 : decode cX4_allPoints 9 = .ok (.if_icmp .ge 18, 3) := by decide +kernel
theorem dX4_allPoints_12 : decode cX4_allPoints 12 = .ok (.iload_n 1, 1) := by decide +kernel
theorem dX4_allPoints_13 : decode cX4_allPoints 13 = .ok (.aload_n 0, 1) := by decide +kernel
theorem dX4_allPoints_14 : decode cX4_allPoints 14 = .ok (.getfield 9, 3) := by decide +kernel
theorem dX4_allPoints_17 : decode cX4_allPoints 17 = .ok (.iload_n 2, 1) := by decide +kernel
theorem dX4_allPoints_18 : decode cX4_allPoints 18 = .ok (.iaload, 1) := by decide +kernel
theorem dX4_allPoints_19 : decode cX4_allPoints 19 = .ok (.iadd, 1) := by decide +kernel
theorem dX4_allPoints_20 : decode cX4_allPoints 20 = .ok (.istore_n 1, 1) := by decide +kernel
theorem dX4_allPoints_21 : decode cX4_allPoints 21 = .ok (.iinc 2 1, 3) := by decide +kernel
theorem dX4_allPoints_24 : decode cX4_allPoints 24 = .ok (.goto (-20), 3) := by decide +kernel
theorem dX4_allPoints_27 : decode cX4_allPoints 27 = .ok (.iload_n 1, 1) := by decide +kernel
theorem dX4_allPoints_28 : decode cX4_allPoints 28 = .ok (.ireturn, 1) := by decide +kernel
set_option maxRecDepth 20000 in
theorem ggX4_placeOf_X4_isAhead : GoodIn wsX4_placeOf wsX4_isAhead := goodIn_r _ [6, 7, 8, 9, 10, 11, 12, 5, 13, 1, 14, 15, 16, 17, 18, 19, 20, 21, 22] (by decide +kernel) (by decide +kernel)
set_option maxRecDepth 20000 in
theorem gX4_placeOf_X4_isAhead : GoodIn wsX4_placeOf (wsV RX4 84 RX4 yX4_isAhead wsX4_isAhead) := goodIn_app (goodIn_of _ (by decide +kernel)) ggX4_placeOf_X4_isAhead
theorem dX4_placeOf_0 : decode cX4_placeOf 0 = .ok (.iconst 0, 1) := by decide +kernel
theorem dX4_placeOf_1 : decode cX4_placeOf 1 = .ok (.istore_n 2, 1) := by decide +kernel
theorem dX4_placeOf_2 : decode cX4_placeOf 2 = .ok (.iconst 0, 1) := by decide +kernel
theorem dX4_placeOf_3 : decode cX4_placeOf 3 = .ok (.istore_n 3, 1) := by decide +kernel
theorem dX4_placeOf_4 : decode cX4_placeOf 4 = .ok (.iload_n 3, 1) := by decide +kernel
theorem dX4_placeOf_5 : decode cX4_placeOf 5 = .ok (.aload_n 0, 1) := by decide +kernel
theorem dX4_placeOf_6 : decode cX4_placeOf 6 = .ok (.getfield 48, 3) := by decide +kernel
theorem dX4_placeOf_9 : decode cX4_placeOf 9 = .ok (.if_icmp .ge 26, 3) := by decide +kernel
theorem dX4_placeOf_12 : decode cX4_placeOf 12 = .ok (.iload_n 3, 1) := by decide +kernel
theorem dX4_placeOf_13 : decode cX4_placeOf 13 = .ok (.iload_n 1, 1) := by decide +kernel
theorem dX4_placeOf_14 : decode cX4_placeOf 14 = .ok (.if_icmp .eq 15, 3) := by decide +kernel
theorem dX4_placeOf_17 : decode cX4_placeOf 17 = .ok (.aload_n 0, 1) := by decide +kernel
theorem dX4_placeOf_18 : decode cX4_placeOf 18 = .ok (.iload_n 3, 1) := by decide +kernel
theorem dX4_placeOf_19 : decode cX4_placeOf 19 = .ok (.iload_n 1, 1) := by decide +kernel
theorem dX4_placeOf_20 : decode cX4_placeOf 20 = .ok (.invokevirtual 84, 3) := by decide +kernel
theorem dX4_placeOf_23 : decode cX4_placeOf 23 = .ok (.ifCond .eq 6, 3) := by decide +kernel
theorem dX4_placeOf_26 : decode cX4_placeOf 26 = .ok (.iinc 2 1, 3) := by decide +kernel
theorem dX4_placeOf_29 : decode cX4_placeOf 29 = .ok (.iinc 3 1, 3) := by decide +kernel
theorem dX4_placeOf_32 : decode cX4_placeOf 32 = .ok (.goto (-28), 3) := by decide +kernel
theorem dX4_placeOf_35 : decode cX4_placeOf 35 = .ok (.iload_n 2, 1) := by decide +kernel
theorem dX4_placeOf_36 : decode cX4_placeOf 36 = .ok (.ireturn, 1) := by decide +kernel
set_option maxRecDepth 20000 in
theorem ggX4_teamAt_X4_placeOf : GoodIn wsX4_teamAt wsX4_placeOf := goodIn_r _ [6, 1, 7, 8, 9, 5, 10, 11, 12, 13, 14, 15, 16, 17, 18, 19, 20, 21, 22, 23, 24, 25, 26] (by decide +kernel) (by decide +kernel)
set_option maxRecDepth 20000 in
theorem gX4_teamAt_X4_placeOf : GoodIn wsX4_teamAt (wsV RX4 80 RX4 yX4_placeOf wsX4_placeOf) := goodIn_app (goodIn_of _ (by decide +kernel)) ggX4_teamAt_X4_placeOf
theorem dX4_teamAt_0 : decode cX4_teamAt 0 = .ok (.iconst 0, 1) := by decide +kernel
theorem dX4_teamAt_1 : decode cX4_teamAt 1 = .ok (.istore_n 2, 1) := by decide +kernel
theorem dX4_teamAt_2 : decode cX4_teamAt 2 = .ok (.iload_n 2, 1) := by decide +kernel
theorem dX4_teamAt_3 : decode cX4_teamAt 3 = .ok (.aload_n 0, 1) := by decide +kernel
theorem dX4_teamAt_4 : decode cX4_teamAt 4 = .ok (.getfield 48, 3) := by decide +kernel
theorem dX4_teamAt_7 : decode cX4_teamAt 7 = .ok (.if_icmp .ge 20, 3) := by decide +kernel
theorem dX4_teamAt_10 : decode cX4_teamAt 10 = .ok (.aload_n 0, 1) := by decide +kernel
theorem dX4_teamAt_11 : decode cX4_teamAt 11 = .ok (.iload_n 2, 1) := by decide +kernel
theorem dX4_teamAt_12 : decode cX4_teamAt 12 = .ok (.invokevirtual 80, 3) := by decide +kernel
theorem dX4_teamAt_15 : decode cX4_teamAt 15 = .ok (.iload_n 1, 1) := by decide +kernel
theorem dX4_teamAt_16 : decode cX4_teamAt 16 = .ok (.if_icmp .ne 5, 3) := by decide +kernel
theorem dX4_teamAt_19 : decode cX4_teamAt 19 = .ok (.iload_n 2, 1) := by decide +kernel
theorem dX4_teamAt_20 : decode cX4_teamAt 20 = .ok (.ireturn, 1) := by decide +kernel
theorem dX4_teamAt_21 : decode cX4_teamAt 21 = .ok (.iinc 2 1, 3) := by decide +kernel
theorem dX4_teamAt_24 : decode cX4_teamAt 24 = .ok (.goto (-22), 3) := by decide +kernel
theorem dX4_teamAt_27 : decode cX4_teamAt 27 = .ok (.iconst (-1), 1) := by decide +kernel
theorem dX4_teamAt_28 : decode cX4_teamAt 28 = .ok (.ireturn, 1) := by decide +kernel
set_option maxRecDepth 20000 in
theorem ggX4_isAhead_X4_hasTeam : GoodIn wsX4_isAhead wsX4_hasTeam := goodIn_r _ [8, 9, 10, 11, 12, 13, 14, 15, 16, 17, 18] (by decide +kernel) (by decide +kernel)
set_option maxRecDepth 20000 in
theorem gX4_isAhead_X4_hasTeam : GoodIn wsX4_isAhead (wsV RX4 62 RX4 yX4_hasTeam wsX4_hasTeam) := goodIn_app (goodIn_of _ (by decide +kernel)) ggX4_isAhead_X4_hasTeam
theorem dX4_isAhead_0 : decode cX4_isAhead 0 = .ok (.aload_n 0, 1) := by decide +kernel
theorem dX4_isAhead_1 : decode cX4_isAhead 1 = .ok (.iload_n 1, 1) := by decide +kernel
theorem dX4_isAhead_2 : decode cX4_isAhead 2 = .ok (.invokevirtual 62, 3) := by decide +kernel
theorem dX4_isAhead_5 : decode cX4_isAhead 5 = .ok (.ifCond .eq 11, 3) := by decide +kernel
theorem dX4_isAhead_8 : decode cX4_isAhead 8 = .ok (.aload_n 0, 1) := by decide +kernel
theorem dX4_isAhead_9 : decode cX4_isAhead 9 = .ok (.iload_n 2, 1) := by decide +kernel
theorem dX4_isAhead_10 : decode cX4_isAhead 10 = .ok (.invokevirtual 62, 3) := by decide +kernel
theorem dX4_isAhead_13 : decode cX4_isAhead 13 = .ok (.ifCond .ne 5, 3) := by decide +kernel
theorem dX4_isAhead_16 : decode cX4_isAhead 16 = .ok (.iconst 0, 1) := by decide +kernel
theorem dX4_isAhead_17 : decode cX4_isAhead 17 = .ok (.ireturn, 1) := by decide +kernel
theorem dX4_isAhead_18 : decode cX4_isAhead 18 = .ok (.aload_n 0, 1) := by decide +kernel
theorem dX4_isAhead_19 : decode cX4_isAhead 19 = .ok (.getfield 9, 3) := by decide +kernel
theorem dX4_isAhead_22 : decode cX4_isAhead 22 = .ok (.iload_n 1, 1) := by decide +kernel
theorem dX4_isAhead_23 : decode cX4_isAhead 23 = .ok (.iaload, 1) := by decide +kernel
theorem dX4_isAhead_24 : decode cX4_isAhead 24 = .ok (.aload_n 0, 1) := by decide +kernel
theorem dX4_isAhead_25 : decode cX4_isAhead 25 = .ok (.getfield 9, 3) := by decide +kernel
theorem dX4_isAhead_28 : decode cX4_isAhead 28 = .ok (.iload_n 2, 1) := by decide +kernel
theorem dX4_isAhead_29 : decode cX4_isAhead 29 = .ok (.iaload, 1) := by decide +kernel
theorem dX4_isAhead_30 : decode cX4_isAhead 30 = .ok (.if_icmp .eq 24, 3) := by decide +kernel
theorem dX4_isAhead_33 : decode cX4_isAhead 33 = .ok (.aload_n 0, 1) := by decide +kernel
theorem dX4_isAhead_34 : decode cX4_isAhead 34 = .ok (.getfield 9, 3) := by decide +kernel
theorem dX4_isAhead_37 : decode cX4_isAhead 37 = .ok (.iload_n 1, 1) := by decide +kernel
theorem dX4_isAhead_38 : decode cX4_isAhead 38 = .ok (.iaload, 1) := by decide +kernel
theorem dX4_isAhead_39 : decode cX4_isAhead 39 = .ok (.aload_n 0, 1) := by decide +kernel
theorem dX4_isAhead_40 : decode cX4_isAhead 40 = .ok (.getfield 9, 3) := by decide +kernel
theorem dX4_isAhead_43 : decode cX4_isAhead 43 = .ok (.iload_n 2, 1) := by decide +kernel
theorem dX4_isAhead_44 : decode cX4_isAhead 44 = .ok (.iaload, 1) := by decide +kernel
theorem dX4_isAhead_45 : decode cX4_isAhead 45 = .ok (.if_icmp .le 7, 3) := by decide +kernel
theorem dX4_isAhead_48 : decode cX4_isAhead 48 = .ok (.iconst 1, 1) := by decide +kernel
theorem dX4_isAhead_49 : decode cX4_isAhead 49 = .ok (.goto 4, 3) := by decide +kernel
theorem dX4_isAhead_52 : decode cX4_isAhead 52 = .ok (.iconst 0, 1) := by decide +kernel
theorem dX4_isAhead_53 : decode cX4_isAhead 53 = .ok (.ireturn, 1) := by decide +kernel
theorem dX4_isAhead_54 : decode cX4_isAhead 54 = .ok (.aload_n 0, 1) := by decide +kernel
theorem dX4_isAhead_55 : decode cX4_isAhead 55 = .ok (.getfield 24, 3) := by decide +kernel
theorem dX4_isAhead_58 : decode cX4_isAhead 58 = .ok (.iload_n 1, 1) := by decide +kernel
theorem dX4_isAhead_59 : decode cX4_isAhead 59 = .ok (.iaload, 1) := by decide +kernel
theorem dX4_isAhead_60 : decode cX4_isAhead 60 = .ok (.aload_n 0, 1) := by decide +kernel
theorem dX4_isAhead_61 : decode cX4_isAhead 61 = .ok (.getfield 27, 3) := by decide +kernel
theorem dX4_isAhead_64 : decode cX4_isAhead 64 = .ok (.iload_n 1, 1) := by decide +kernel
theorem dX4_isAhead_65 : decode cX4_isAhead 65 = .ok (.iaload, 1) := by decide +kernel
theorem dX4_isAhead_66 : decode cX4_isAhead 66 = .ok (.isub, 1) := by decide +kernel
theorem dX4_isAhead_67 : decode cX4_isAhead 67 = .ok (.istore_n 3, 1) := by decide +kernel
theorem dX4_isAhead_68 : decode cX4_isAhead 68 = .ok (.aload_n 0, 1) := by decide +kernel
theorem dX4_isAhead_69 : decode cX4_isAhead 69 = .ok (.getfield 24, 3) := by decide +kernel
theorem dX4_isAhead_72 : decode cX4_isAhead 72 = .ok (.iload_n 2, 1) := by decide +kernel
theorem dX4_isAhead_73 : decode cX4_isAhead 73 = .ok (.iaload, 1) := by decide +kernel
theorem dX4_isAhead_74 : decode cX4_isAhead 74 = .ok (.aload_n 0, 1) := by decide +kernel
theorem dX4_isAhead_75 : decode cX4_isAhead 75 = .ok (.getfield 27, 3) := by decide +kernel
theorem dX4_isAhead_78 : decode cX4_isAhead 78 = .ok (.iload_n 2, 1) := by decide +kernel
theorem dX4_isAhead_79 : decode cX4_isAhead 79 = .ok (.iaload, 1) := by decide +kernel
theorem dX4_isAhead_80 : decode cX4_isAhead 80 = .ok (.isub, 1) := by decide +kernel
theorem dX4_isAhead_81 : decode cX4_isAhead 81 = .ok (.istore 4, 2) := by decide +kernel
theorem dX4_isAhead_83 : decode cX4_isAhead 83 = .ok (.iload_n 3, 1) := by decide +kernel
theorem dX4_isAhead_84 : decode cX4_isAhead 84 = .ok (.iload 4, 2) := by decide +kernel
theorem dX4_isAhead_86 : decode cX4_isAhead 86 = .ok (.if_icmp .eq 15, 3) := by decide +kernel
theorem dX4_isAhead_89 : decode cX4_isAhead 89 = .ok (.iload_n 3, 1) := by decide +kernel
theorem dX4_isAhead_90 : decode cX4_isAhead 90 = .ok (.iload 4, 2) := by decide +kernel
theorem dX4_isAhead_92 : decode cX4_isAhead 92 = .ok (.if_icmp .le 7, 3) := by decide +kernel
theorem dX4_isAhead_95 : decode cX4_isAhead 95 = .ok (.iconst 1, 1) := by decide +kernel
theorem dX4_isAhead_96 : decode cX4_isAhead 96 = .ok (.goto 4, 3) := by decide +kernel
theorem dX4_isAhead_99 : decode cX4_isAhead 99 = .ok (.iconst 0, 1) := by decide +kernel
theorem dX4_isAhead_100 : decode cX4_isAhead 100 = .ok (.ireturn, 1) := by decide +kernel
theorem dX4_isAhead_101 : decode cX4_isAhead 101 = .ok (.aload_n 0, 1) := by decide +kernel
theorem dX4_isAhead_102 : decode cX4_isAhead 102 = .ok (.getfield 24, 3) := by decide +kernel
theorem dX4_isAhead_105 : decode cX4_isAhead 105 = .ok (.iload_n 1, 1) := by decide +kernel
theorem dX4_isAhead_106 : decode cX4_isAhead 106 = .ok (.iaload, 1) := by decide +kernel
theorem dX4_isAhead_107 : decode cX4_isAhead 107 = .ok (.aload_n 0, 1) := by decide +kernel
theorem dX4_isAhead_108 : decode cX4_isAhead 108 = .ok (.getfield 24, 3) := by decide +kernel
theorem dX4_isAhead_111 : decode cX4_isAhead 111 = .ok (.iload_n 2, 1) := by decide +kernel
theorem dX4_isAhead_112 : decode cX4_isAhead 112 = .ok (.iaload, 1) := by decide +kernel
theorem dX4_isAhead_113 : decode cX4_isAhead 113 = .ok (.if_icmp .eq 24, 3) := by decide +kernel
theorem dX4_isAhead_116 : decode cX4_isAhead 116 = .ok (.aload_n 0, 1) := by decide +kernel
theorem dX4_isAhead_117 : decode cX4_isAhead 117 = .ok (.getfield 24, 3) := by decide +kernel
theorem dX4_isAhead_120 : decode cX4_isAhead 120 = .ok (.iload_n 1, 1) := by decide +kernel
theorem dX4_isAhead_121 : decode cX4_isAhead 121 = .ok (.iaload, 1) := by decide +kernel
theorem dX4_isAhead_122 : decode cX4_isAhead 122 = .ok (.aload_n 0, 1) := by decide +kernel
theorem dX4_isAhead_123 : decode cX4_isAhead 123 = .ok (.getfield 24, 3) := by decide +kernel
theorem dX4_isAhead_126 : decode cX4_isAhead 126 = .ok (.iload_n 2, 1) := by decide +kernel
theorem dX4_isAhead_127 : decode cX4_isAhead 127 = .ok (.iaload, 1) := by decide +kernel
theorem dX4_isAhead_128 : decode cX4_isAhead 128 = .ok (.if_icmp .le 7, 3) := by decide +kernel
theorem dX4_isAhead_131 : decode cX4_isAhead 131 = .ok (.iconst 1, 1) := by decide +kernel
theorem dX4_isAhead_132 : decode cX4_isAhead 132 = .ok (.goto 4, 3) := by decide +kernel
theorem dX4_isAhead_135 : decode cX4_isAhead 135 = .ok (.iconst 0, 1) := by decide +kernel
theorem dX4_isAhead_136 : decode cX4_isAhead 136 = .ok (.ireturn, 1) := by decide +kernel
theorem dX4_isAhead_137 : decode cX4_isAhead 137 = .ok (.iload_n 1, 1) := by decide +kernel
theorem dX4_isAhead_138 : decode cX4_isAhead 138 = .ok (.iload_n 2, 1) := by decide +kernel
theorem dX4_isAhead_139 : decode cX4_isAhead 139 = .ok (.if_icmp .ge 7, 3) := by decide +kernel
theorem dX4_isAhead_142 : decode cX4_isAhead 142 = .ok (.iconst 1, 1) := by decide +kernel
theorem dX4_isAhead_143 : decode cX4_isAhead 143 = .ok (.goto 4, 3) := by decide +kernel
theorem dX4_isAhead_146 : decode cX4_isAhead 146 = .ok (.iconst 0, 1) := by decide +kernel
theorem dX4_isAhead_147 : decode cX4_isAhead 147 = .ok (.ireturn, 1) := by decide +kernel
set_option maxRecDepth 20000 in
theorem ggX4_isOutOfReach_X4_hasTeam : GoodIn wsX4_isOutOfReach wsX4_hasTeam := goodIn_r _ [8, 1, 9, 10, 11, 12, 13, 14, 15, 16, 17] (by decide +kernel) (by decide +kernel)
set_option maxRecDepth 20000 in
theorem gX4_isOutOfReach_X4_hasTeam : GoodIn wsX4_isOutOfReach (wsV RX4 62 RX4 yX4_hasTeam wsX4_hasTeam) := goodIn_app (goodIn_of _ (by decide +kernel)) ggX4_isOutOfReach_X4_hasTeam
theorem dX4_isOutOfReach_0 : decode cX4_isOutOfReach 0 = .ok (.aload_n 0, 1) := by decide +kernel
theorem dX4_isOutOfReach_1 : decode cX4_isOutOfReach 1 = .ok (.iload_n 1, 1) := by decide +kernel
theorem dX4_isOutOfReach_2 : decode cX4_isOutOfReach 2 = .ok (.invokevirtual 62, 3) := by decide +kernel
theorem dX4_isOutOfReach_5 : decode cX4_isOutOfReach 5 = .ok (.ifCond .ne 5, 3) := by decide +kernel
theorem dX4_isOutOfReach_8 : decode cX4_isOutOfReach 8 = .ok (.iconst 0, 1) := by decide +kernel
theorem dX4_isOutOfReach_9 : decode cX4_isOutOfReach 9 = .ok (.ireturn, 1) := by decide +kernel
theorem dX4_isOutOfReach_10 : decode cX4_isOutOfReach 10 = .ok (.iconst 0, 1) := by decide +kernel
theorem dX4_isOutOfReach_11 : decode cX4_isOutOfReach 11 = .ok (.istore_n 3, 1) := by decide +kernel
theorem dX4_isOutOfReach_12 : decode cX4_isOutOfReach 12 = .ok (.iload_n 3, 1) := by decide +kernel
theorem dX4_isOutOfReach_13 : decode cX4_isOutOfReach 13 = .ok (.aload_n 0, 1) := by decide +kernel
theorem dX4_isOutOfReach_14 : decode cX4_isOutOfReach 14 = .ok (.getfield 48, 3) := by decide +kernel
theorem dX4_isOutOfReach_17 : decode cX4_isOutOfReach 17 = .ok (.if_icmp .ge 40, 3) := by decide +kernel
theorem dX4_isOutOfReach_20 : decode cX4_isOutOfReach 20 = .ok (.iload_n 3, 1) := by decide +kernel
theorem dX4_isOutOfReach_21 : decode cX4_isOutOfReach 21 = .ok (.iload_n 1, 1) := by decide +kernel
theorem dX4_isOutOfReach_22 : decode cX4_isOutOfReach 22 = .ok (.if_icmp .eq 29, 3) := by decide +kernel
theorem dX4_isOutOfReach_25 : decode cX4_isOutOfReach 25 = .ok (.aload_n 0, 1) := by decide +kernel
theorem dX4_isOutOfReach_26 : decode cX4_isOutOfReach 26 = .ok (.getfield 9, 3) := by decide +kernel
theorem dX4_isOutOfReach_29 : decode cX4_isOutOfReach 29 = .ok (.iload_n 3, 1) := by decide +kernel
theorem dX4_isOutOfReach_30 : decode cX4_isOutOfReach 30 = .ok (.iaload, 1) := by decide +kernel
theorem dX4_isOutOfReach_31 : decode cX4_isOutOfReach 31 = .ok (.aload_n 0, 1) := by decide +kernel
theorem dX4_isOutOfReach_32 : decode cX4_isOutOfReach 32 = .ok (.getfield 33, 3) := by decide +kernel
theorem dX4_isOutOfReach_35 : decode cX4_isOutOfReach 35 = .ok (.iload_n 3, 1) := by decide +kernel
theorem dX4_isOutOfReach_36 : decode cX4_isOutOfReach 36 = .ok (.iaload, 1) := by decide +kernel
theorem dX4_isOutOfReach_37 : decode cX4_isOutOfReach 37 = .ok (.iload_n 2, 1) := by decide +kernel
theorem dX4_isOutOfReach_38 : decode cX4_isOutOfReach 38 = .ok (.imul, 1) := by decide +kernel
theorem dX4_isOutOfReach_39 : decode cX4_isOutOfReach 39 = .ok (.iadd, 1) := by decide +kernel
theorem dX4_isOutOfReach_40 : decode cX4_isOutOfReach 40 = .ok (.aload_n 0, 1) := by decide +kernel
theorem dX4_isOutOfReach_41 : decode cX4_isOutOfReach 41 = .ok (.getfield 9, 3) := by decide +kernel
theorem dX4_isOutOfReach_44 : decode cX4_isOutOfReach 44 = .ok (.iload_n 1, 1) := by decide +kernel
theorem dX4_isOutOfReach_45 : decode cX4_isOutOfReach 45 = .ok (.iaload, 1) := by decide +kernel
theorem dX4_isOutOfReach_46 : decode cX4_isOutOfReach 46 = .ok (.if_icmp .lt 5, 3) := by decide +kernel
theorem dX4_isOutOfReach_49 : decode cX4_isOutOfReach 49 = .ok (.iconst 0, 1) := by decide +kernel
theorem dX4_isOutOfReach_50 : decode cX4_isOutOfReach 50 = .ok (.ireturn, 1) := by decide +kernel
theorem dX4_isOutOfReach_51 : decode cX4_isOutOfReach 51 = .ok (.iinc 3 1, 3) := by decide +kernel
theorem dX4_isOutOfReach_54 : decode cX4_isOutOfReach 54 = .ok (.goto (-42), 3) := by decide +kernel
theorem dX4_isOutOfReach_57 : decode cX4_isOutOfReach 57 = .ok (.iconst 1, 1) := by decide +kernel
theorem dX4_isOutOfReach_58 : decode cX4_isOutOfReach 58 = .ok (.ireturn, 1) := by decide +kernel
set_option maxRecDepth 20000 in
theorem ggX4_shareOfLast_X4_teamAt : GoodIn wsX4_shareOfLast wsX4_teamAt := goodIn_r _ [6, 1, 7, 8, 9, 5, 10, 11, 12, 13, 14, 15, 16, 17, 18, 19, 20, 21, 31, 32, 33, 34, 35, 36, 37, 38, 39] (by decide +kernel) (by decide +kernel)
set_option maxRecDepth 20000 in
theorem gX4_shareOfLast_X4_teamAt : GoodIn wsX4_shareOfLast (wsV RX4 88 RX4 yX4_teamAt wsX4_teamAt) := goodIn_app (goodIn_of _ (by decide +kernel)) ggX4_shareOfLast_X4_teamAt
set_option maxRecDepth 20000 in
theorem ggX4_shareOfLast_X4_property : GoodIn wsX4_shareOfLast wsX4_property := goodIn_r _ [25, 15, 26, 27, 28, 16, 17, 29, 30, 18, 19, 20, 5, 21, 1, 7, 8, 9, 10, 11, 12, 13, 14, 31, 32, 33, 34, 35, 36, 37, 38, 39] (by decide +kernel) (by decide +kernel)
set_option maxRecDepth 20000 in
theorem gX4_shareOfLast_X4_property : GoodIn wsX4_shareOfLast (wsV RX4 91 RX4 yX4_property wsX4_property) := goodIn_app (goodIn_of _ (by decide +kernel)) ggX4_shareOfLast_X4_property
theorem dX4_shareOfLast_0 : decode cX4_shareOfLast 0 = .ok (.aload_n 0, 1) := by decide +kernel
theorem dX4_shareOfLast_1 : decode cX4_shareOfLast 1 = .ok (.aload_n 0, 1) := by decide +kernel
theorem dX4_shareOfLast_2 : decode cX4_shareOfLast 2 = .ok (.iconst 0, 1) := by decide +kernel
theorem dX4_shareOfLast_3 : decode cX4_shareOfLast 3 = .ok (.invokevirtual 88, 3) := by decide +kernel
theorem dX4_shareOfLast_6 : decode cX4_shareOfLast 6 = .ok (.iconst 0, 1) := by decide +kernel
theorem dX4_shareOfLast_7 : decode cX4_shareOfLast 7 = .ok (.invokevirtual 91, 3) := by decide +kernel
theorem dX4_shareOfLast_10 : decode cX4_shareOfLast 10 = .ok (.istore_n 1, 1) := by decide +kernel
theorem dX4_shareOfLast_11 : decode cX4_shareOfLast 11 = .ok (.aload_n 0, 1) := by decide +kernel
theorem dX4_shareOfLast_12 : decode cX4_shareOfLast 12 = .ok (.aload_n 0, 1) := by decide +kernel
theorem dX4_shareOfLast_13 : decode cX4_shareOfLast 13 = .ok (.aload_n 0, 1) := by decide +kernel
theorem dX4_shareOfLast_14 : decode cX4_shareOfLast 14 = .ok (.getfield 48, 3) := by decide +kernel
theorem dX4_shareOfLast_17 : decode cX4_shareOfLast 17 = .ok (.iconst 1, 1) := by decide +kernel
theorem dX4_shareOfLast_18 : decode cX4_shareOfLast 18 = .ok (.isub, 1) := by decide +kernel
theorem dX4_shareOfLast_19 : decode cX4_shareOfLast 19 = .ok (.invokevirtual 88, 3) := by decide +kernel
theorem dX4_shareOfLast_22 : decode cX4_shareOfLast 22 = .ok (.iconst 0, 1) := by decide +kernel
theorem dX4_shareOfLast_23 : decode cX4_shareOfLast 23 = .ok (.invokevirtual 91, 3) := by decide +kernel
theorem dX4_shareOfLast_26 : decode cX4_shareOfLast 26 = .ok (.istore_n 2, 1) := by decide +kernel
theorem dX4_shareOfLast_27 : decode cX4_shareOfLast 27 = .ok (.iload_n 1, 1) := by decide +kernel
theorem dX4_shareOfLast_28 : decode cX4_shareOfLast 28 = .ok (.ifCond .gt 7, 3) := by decide +kernel
theorem dX4_shareOfLast_31 : decode cX4_shareOfLast 31 = .ok (.dconst 1, 1) := by decide +kernel
theorem dX4_shareOfLast_32 : decode cX4_shareOfLast 32 = .ok (.goto 8, 3) := by decide +kernel
theorem dX4_shareOfLast_35 : decode cX4_shareOfLast 35 = .ok (.iload_n 2, 1) := by decide +kernel
theorem dX4_shareOfLast_36 : decode cX4_shareOfLast 36 = .ok (.i2d, 1) := by decide +kernel
theorem dX4_shareOfLast_37 : decode cX4_shareOfLast 37 = .ok (.iload_n 1, 1) := by decide +kernel
theorem dX4_shareOfLast_38 : decode cX4_shareOfLast 38 = .ok (.i2d, 1) := by decide +kernel
theorem dX4_shareOfLast_39 : decode cX4_shareOfLast 39 = .ok (.ddiv, 1) := by decide +kernel
theorem dX4_shareOfLast_40 : decode cX4_shareOfLast 40 = .ok (.dreturn, 1) := by decide +kernel
