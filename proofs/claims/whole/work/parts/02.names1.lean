theorem dX0_init_0 : decode cX0_init 0 = .ok (.aload_n 0, 1) := by decide +kernel
theorem dX0_init_1 : decode cX0_init 1 = .ok (.invokespecial 5, 3) := by decide +kernel
theorem dX0_init_4 : decode cX0_init 4 = .ok (.aload_n 0, 1) := by decide +kernel
theorem dX0_init_5 : decode cX0_init 5 = .ok (.bipush 21, 2) := by decide +kernel
theorem dX0_init_7 : decode cX0_init 7 = .ok (.newarray .boolean, 2) := by decide +kernel
theorem dX0_init_9 : decode cX0_init 9 = .ok (.putfield 11, 3) := by decide +kernel
theorem dX0_init_12 : decode cX0_init 12 = .ok (.aload_n 0, 1) := by decide +kernel
theorem dX0_init_13 : decode cX0_init 13 = .ok (.bipush 21, 2) := by decide +kernel
theorem dX0_init_15 : decode cX0_init 15 = .ok (.newarray .int, 2) := by decide +kernel
theorem dX0_init_17 : decode cX0_init 17 = .ok (.putfield 15, 3) := by decide +kernel
theorem dX0_init_20 : decode cX0_init 20 = .ok (.aload_n 0, 1) := by decide +kernel
theorem dX0_init_21 : decode cX0_init 21 = .ok (.bipush 126, 2) := by decide +kernel
theorem dX0_init_23 : decode cX0_init 23 = .ok (.newarray .int, 2) := by decide +kernel
theorem dX0_init_25 : decode cX0_init 25 = .ok (.putfield 19, 3) := by decide +kernel
theorem dX0_init_28 : decode cX0_init 28 = .ok (.aload_n 0, 1) := by decide +kernel
theorem dX0_init_29 : decode cX0_init 29 = .ok (.bipush 6, 2) := by decide +kernel
theorem dX0_init_31 : decode cX0_init 31 = .ok (.newarray .int, 2) := by decide +kernel
theorem dX0_init_33 : decode cX0_init 33 = .ok (.putfield 22, 3) := by decide +kernel
theorem dX0_init_36 : decode cX0_init 36 = .ok (.return_, 1) := by decide +kernel
set_option maxRecDepth 20000 in
theorem ggX0_find_X0_setOut : GoodIn wsX0_find wsX0_setOut := goodIn_r _ [7, 2, 8, 9, 1, 66, 67, 68, 69, 70, 71] (by decide +kernel) (by decide +kernel)
set_option maxRecDepth 20000 in
theorem gX0_find_X0_setOut : GoodIn wsX0_find (wsV RX0 31 RX0 yX0_setOut wsX0_setOut) := goodIn_app (goodIn_of _ (by decide +kernel)) ggX0_find_X0_setOut
set_option maxRecDepth 20000 in
theorem ggX0_find_X0_pass : GoodIn wsX0_find wsX0_pass := goodIn_r _ [13, 8, 14, 15, 16, 17, 18, 9, 19, 20, 21, 22, 23, 24, 25, 26, 27, 28, 29, 30, 31, 32, 6, 33, 34, 35, 36, 37, 2, 1, 38, 39, 40, 41, 42, 43, 44, 45, 46, 47, 48, 49, 50, 51, 52, 53, 54, 55, 56, 57, 58, 59, 60, 66, 67, 68, 69, 70, 71, 61, 62, 63, 64, 65] (by decide +kernel) (by decide +kernel)
set_option maxRecDepth 20000 in
theorem gX0_find_X0_pass : GoodIn wsX0_find (wsV RX0 42 RX0 yX0_pass wsX0_pass) := goodIn_app (goodIn_of _ (by decide +kernel)) ggX0_find_X0_pass
theorem dX0_find_0 : decode cX0_find 0 = .ok (.aload_n 0, 1) := by decide +kernel
theorem dX0_find_1 : decode cX0_find 1 = .ok (.aload_n 1, 1) := by decide +kernel
theorem dX0_find_2 : decode cX0_find 2 = .ok (.getfield 25, 3) := by decide +kernel
theorem dX0_find_5 : decode cX0_find 5 = .ok (.invokevirtual 31, 3) := by decide +kernel
theorem dX0_find_8 : decode cX0_find 8 = .ok (.iconst 0, 1) := by decide +kernel
theorem dX0_find_9 : decode cX0_find 9 = .ok (.istore_n 2, 1) := by decide +kernel
theorem dX0_find_10 : decode cX0_find 10 = .ok (.aload_n 0, 1) := by decide +kernel
theorem dX0_find_11 : decode cX0_find 11 = .ok (.getfield 35, 3) := by decide +kernel
theorem dX0_find_14 : decode cX0_find 14 = .ok (.ifCond .eq 52, 3) := by decide +kernel
theorem dX0_find_17 : decode cX0_find 17 = .ok (.iload_n 2, 1) := by decide +kernel
theorem dX0_find_18 : decode cX0_find 18 = .ok (.sipush 274, 3) := by decide +kernel
theorem dX0_find_21 : decode cX0_find 21 = .ok (.if_icmp .ge 45, 3) := by decide +kernel
theorem dX0_find_24 : decode cX0_find 24 = .ok (.aload_n 0, 1) := by decide +kernel
theorem dX0_find_25 : decode cX0_find 25 = .ok (.iconst 0, 1) := by decide +kernel
theorem dX0_find_26 : decode cX0_find 26 = .ok (.putfield 35, 3) := by decide +kernel
theorem dX0_find_29 : decode cX0_find 29 = .ok (.iconst 0, 1) := by decide +kernel
theorem dX0_find_30 : decode cX0_find 30 = .ok (.istore_n 3, 1) := by decide +kernel
theorem dX0_find_31 : decode cX0_find 31 = .ok (.iload_n 3, 1) := by decide +kernel
theorem dX0_find_32 : decode cX0_find 32 = .ok (.aload_n 1, 1) := by decide +kernel
theorem dX0_find_33 : decode cX0_find 33 = .ok (.getfield 39, 3) := by decide +kernel
theorem dX0_find_36 : decode cX0_find 36 = .ok (.if_icmp .ge 24, 3) := by decide +kernel
theorem dX0_find_39 : decode cX0_find 39 = .ok (.aload_n 0, 1) := by decide +kernel
theorem dX0_find_40 : decode cX0_find 40 = .ok (.getfield 11, 3) := by decide +kernel
theorem dX0_find_43 : decode cX0_find 43 = .ok (.iload_n 3, 1) := by decide +kernel
theorem dX0_find_44 : decode cX0_find 44 = .ok (.baload, 1) := by decide +kernel
theorem dX0_find_45 : decode cX0_find 45 = .ok (.ifCond .eq 9, 3) := by decide +kernel
theorem dX0_find_48 : decode cX0_find 48 = .ok (.aload_n 0, 1) := by decide +kernel
theorem dX0_find_49 : decode cX0_find 49 = .ok (.aload_n 1, 1) := by decide +kernel
theorem dX0_find_50 : decode cX0_find 50 = .ok (.iload_n 3, 1) := by decide +kernel
theorem dX0_find_51 : decode cX0_find 51 = .ok (.invokevirtual 42, 3) := by decide +kernel
theorem dX0_find_54 : decode cX0_find 54 = .ok (.iinc 3 1, 3) := by decide +kernel
theorem dX0_find_57 : decode cX0_find 57 = .ok (.goto (-26), 3) := by decide +kernel
theorem dX0_find_60 : decode cX0_find 60 = .ok (.iinc 2 1, 3) := by decide +kernel
theorem dX0_find_63 : decode cX0_find 63 = .ok (.goto (-53), 3) := by decide +kernel
theorem dX0_find_66 : decode cX0_find 66 = .ok (.return_, 1) := by decide +kernel
theorem dX0_setOut_0 : decode cX0_setOut 0 = .ok (.iconst 0, 1) := by decide +kernel
theorem dX0_setOut_1 : decode cX0_setOut 1 = .ok (.istore_n 2, 1) := by decide +kernel
theorem dX0_setOut_2 : decode cX0_setOut 2 = .ok (.iload_n 2, 1) := by decide +kernel
theorem dX0_setOut_3 : decode cX0_setOut 3 = .ok (.bipush 21, 2) := by decide +kernel
theorem dX0_setOut_5 : decode cX0_setOut 5 = .ok (.if_icmp .ge 24, 3) := by decide +kernel
theorem dX0_setOut_8 : decode cX0_setOut 8 = .ok (.aload_n 0, 1) := by decide +kernel
theorem dX0_setOut_9 : decode cX0_setOut 9 = .ok (.getfield 11, 3) := by decide +kernel
theorem dX0_setOut_12 : decode cX0_setOut 12 = .ok (.iload_n 2, 1) := by decide +kernel
theorem dX0_setOut_13 : decode cX0_setOut 13 = .ok (.iload_n 2, 1) := by decide +kernel
theorem dX0_setOut_14 : decode cX0_setOut 14 = .ok (.ifCond .ne 7, 3) := by decide +kernel
theorem dX0_setOut_17 : decode cX0_setOut 17 = .ok (.iconst 1, 1) := by decide +kernel
theorem dX0_setOut_18 : decode cX0_setOut 18 = .ok (.goto 4, 3) := by decide +kernel
theorem dX0_setOut_21 : decode cX0_setOut 21 = .ok (.iconst 0, 1) := by decide +kernel
theorem dX0_setOut_22 : decode cX0_setOut 22 = .ok (.bastore, 1) := by decide +kernel
theorem dX0_setOut_23 : decode cX0_setOut 23 = .ok (.iinc 2 1, 3) := by decide +kernel
theorem dX0_setOut_26 : decode cX0_setOut 26 = .ok (.goto (-24), 3) := by decide +kernel
theorem dX0_setOut_29 : decode cX0_setOut 29 = .ok (.iconst 0, 1) := by decide +kernel
theorem dX0_setOut_30 : decode cX0_setOut 30 = .ok (.istore_n 2, 1) := by decide +kernel
theorem dX0_setOut_31 : decode cX0_setOut 31 = .ok (.iload_n 2, 1) := by decide +kernel
theorem dX0_setOut_32 : decode cX0_setOut 32 = .ok (.bipush 6, 2) := by decide +kernel
theorem dX0_setOut_34 : decode cX0_setOut 34 = .ok (.if_icmp .ge 16, 3) := by decide +kernel
theorem dX0_setOut_37 : decode cX0_setOut 37 = .ok (.aload_n 0, 1) := by decide +kernel
theorem dX0_setOut_38 : decode cX0_setOut 38 = .ok (.getfield 19, 3) := by decide +kernel
theorem dX0_setOut_41 : decode cX0_setOut 41 = .ok (.iload_n 2, 1) := by decide +kernel
theorem dX0_setOut_42 : decode cX0_setOut 42 = .ok (.iconst (-1), 1) := by decide +kernel
theorem dX0_setOut_43 : decode cX0_setOut 43 = .ok (.iastore, 1) := by decide +kernel
theorem dX0_setOut_44 : decode cX0_setOut 44 = .ok (.iinc 2 1, 3) := by decide +kernel
theorem dX0_setOut_47 : decode cX0_setOut 47 = .ok (.goto (-16), 3) := by decide +kernel
theorem dX0_setOut_50 : decode cX0_setOut 50 = .ok (.aload_n 0, 1) := by decide +kernel
theorem dX0_setOut_51 : decode cX0_setOut 51 = .ok (.getfield 15, 3) := by decide +kernel
theorem dX0_setOut_54 : decode cX0_setOut 54 = .ok (.iconst 0, 1) := by decide +kernel
theorem dX0_setOut_55 : decode cX0_setOut 55 = .ok (.iload_n 1, 1) := by decide +kernel
theorem dX0_setOut_56 : decode cX0_setOut 56 = .ok (.iastore, 1) := by decide +kernel
theorem dX0_setOut_57 : decode cX0_setOut 57 = .ok (.aload_n 0, 1) := by decide +kernel
theorem dX0_setOut_58 : decode cX0_setOut 58 = .ok (.iconst 1, 1) := by decide +kernel
theorem dX0_setOut_59 : decode cX0_setOut 59 = .ok (.putfield 35, 3) := by decide +kernel
theorem dX0_setOut_62 : decode cX0_setOut 62 = .ok (.return_, 1) := by decide +kernel
set_option maxRecDepth 20000 in
theorem ggX0_pass_X2_partOf : GoodIn wsX0_pass wsX2_partOf := goodIn_r _ [17, 18, 59, 60, 61, 62, 63] (by decide +kernel) (by decide +kernel)
set_option maxRecDepth 20000 in
theorem gX0_pass_X2_partOf : GoodIn wsX0_pass (wsV RX0 55 RX2 yX2_partOf wsX2_partOf) := goodIn_app (goodIn_of _ (by decide +kernel)) ggX0_pass_X2_partOf
set_option maxRecDepth 20000 in
theorem ggX0_pass_X0_passJump : GoodIn wsX0_pass wsX0_passJump := goodIn_r _ [23, 24, 25, 26, 22, 27, 28, 7, 8, 2, 1, 3, 4, 5, 6, 29, 53, 54, 55, 56, 57, 58] (by decide +kernel) (by decide +kernel)
set_option maxRecDepth 20000 in
theorem gX0_pass_X0_passJump : GoodIn wsX0_pass (wsV RX0 64 RX0 yX0_passJump wsX0_passJump) := goodIn_app (goodIn_of _ (by decide +kernel)) ggX0_pass_X0_passJump
set_option maxRecDepth 20000 in
theorem ggX0_pass_X0_change : GoodIn wsX0_pass wsX0_change := goodIn_r _ [33, 2, 34, 35, 36, 22, 37, 8, 38, 39, 40, 41, 42, 43, 44, 45, 46, 47, 48, 49, 50, 51, 52, 53, 54, 55, 56, 57, 58, 59, 60, 61, 62, 63] (by decide +kernel) (by decide +kernel)
set_option maxRecDepth 20000 in
theorem gX0_pass_X0_change : GoodIn wsX0_pass (wsV RX0 68 RX0 yX0_change wsX0_change) := goodIn_app (goodIn_of _ (by decide +kernel)) ggX0_pass_X0_change
set_option maxRecDepth 20000 in
theorem ggX0_pass_X0_join : GoodIn wsX0_pass wsX0_join := goodIn_r _ [27, 28, 7, 8, 2, 1, 3, 4, 5, 6, 29, 53, 54, 55, 56, 57, 58] (by decide +kernel) (by decide +kernel)
set_option maxRecDepth 20000 in
theorem gX0_pass_X0_join : GoodIn wsX0_pass (wsV RX0 72 RX0 yX0_join wsX0_join) := goodIn_app (goodIn_of _ (by decide +kernel)) ggX0_pass_X0_join
theorem dX0_pass_0 : decode cX0_pass 0 = .ok (.aload_n 0, 1) := by decide +kernel
theorem dX0_pass_1 : decode cX0_pass 1 = .ok (.getfield 19, 3) := by decide +kernel
theorem dX0_pass_4 : decode cX0_pass 4 = .ok (.iload_n 2, 1) := by decide +kernel
theorem dX0_pass_5 : decode cX0_pass 5 = .ok (.bipush 6, 2) := by decide +kernel
theorem dX0_pass_7 : decode cX0_pass 7 = .ok (.imul, 1) := by decide +kernel
theorem dX0_pass_8 : decode cX0_pass 8 = .ok (.aload_n 0, 1) := by decide +kernel
theorem dX0_pass_9 : decode cX0_pass 9 = .ok (.getfield 22, 3) := by decide +kernel
theorem dX0_pass_12 : decode cX0_pass 12 = .ok (.iconst 0, 1) := by decide +kernel
theorem dX0_pass_13 : decode cX0_pass 13 = .ok (.bipush 6, 2) := by decide +kernel
theorem dX0_pass_15 : decode cX0_pass 15 = .ok (.invokestatic 46, 3) := by decide +kernel
theorem dX0_pass_18 : decode cX0_pass 18 = .ok (.aload_n 0, 1) := by decide +kernel
theorem dX0_pass_19 : decode cX0_pass 19 = .ok (.aload_n 0, 1) := by decide +kernel
theorem dX0_pass_20 : decode cX0_pass 20 = .ok (.getfield 15, 3) := by decide +kernel
theorem dX0_pass_23 : decode cX0_pass 23 = .ok (.iload_n 2, 1) := by decide +kernel
theorem dX0_pass_24 : decode cX0_pass 24 = .ok (.iaload, 1) := by decide +kernel
theorem dX0_pass_25 : decode cX0_pass 25 = .ok (.putfield 52, 3) := by decide +kernel
theorem dX0_pass_28 : decode cX0_pass 28 = .ok (.aload_n 1, 1) := by decide +kernel
theorem dX0_pass_29 : decode cX0_pass 29 = .ok (.iload_n 2, 1) := by decide +kernel
theorem dX0_pass_30 : decode cX0_pass 30 = .ok (.iconst 0, 1) := by decide +kernel
theorem dX0_pass_31 : decode cX0_pass 31 = .ok (.invokevirtual 55, 3) := by decide +kernel
theorem dX0_pass_34 : decode cX0_pass 34 = .ok (.istore_n 3, 1) := by decide +kernel
theorem dX0_pass_35 : decode cX0_pass 35 = .ok (.aload_n 1, 1) := by decide +kernel
theorem dX0_pass_36 : decode cX0_pass 36 = .ok (.iload_n 2, 1) := by decide +kernel
theorem dX0_pass_37 : decode cX0_pass 37 = .ok (.iconst 1, 1) := by decide +kernel
theorem dX0_pass_38 : decode cX0_pass 38 = .ok (.invokevirtual 55, 3) := by decide +kernel
theorem dX0_pass_41 : decode cX0_pass 41 = .ok (.istore 4, 2) := by decide +kernel
theorem dX0_pass_43 : decode cX0_pass 43 = .ok (.aload_n 1, 1) := by decide +kernel
theorem dX0_pass_44 : decode cX0_pass 44 = .ok (.iload_n 2, 1) := by decide +kernel
theorem dX0_pass_45 : decode cX0_pass 45 = .ok (.iconst 2, 1) := by decide +kernel
theorem dX0_pass_46 : decode cX0_pass 46 = .ok (.invokevirtual 55, 3) := by decide +kernel
theorem dX0_pass_49 : decode cX0_pass 49 = .ok (.istore 5, 2) := by decide +kernel
theorem dX0_pass_51 : decode cX0_pass 51 = .ok (.iload_n 3, 1) := by decide +kernel
theorem dX0_pass_52 : decode cX0_pass 52 = .ok (.bipush 7, 2) := by decide +kernel
theorem dX0_pass_54 : decode cX0_pass 54 = .ok (.if_icmp .ne 27, 3) := by decide +kernel
theorem dX0_pass_57 : decode cX0_pass 57 = .ok (.aload_n 0, 1) := by decide +kernel
theorem dX0_pass_58 : decode cX0_pass 58 = .ok (.aload_n 0, 1) := by decide +kernel
theorem dX0_pass_59 : decode cX0_pass 59 = .ok (.getfield 22, 3) := by decide +kernel
theorem dX0_pass_62 : decode cX0_pass 62 = .ok (.iload 4, 2) := by decide +kernel
theorem dX0_pass_64 : decode cX0_pass 64 = .ok (.iaload, 1) := by decide +kernel
theorem dX0_pass_65 : decode cX0_pass 65 = .ok (.iload_n 2, 1) := by decide +kernel
theorem dX0_pass_66 : decode cX0_pass 66 = .ok (.iconst 1, 1) := by decide +kernel
theorem dX0_pass_67 : decode cX0_pass 67 = .ok (.iadd, 1) := by decide +kernel
theorem dX0_pass_68 : decode cX0_pass 68 = .ok (.iload 5, 2) := by decide +kernel
theorem dX0_pass_70 : decode cX0_pass 70 = .ok (.aload_n 1, 1) := by decide +kernel
theorem dX0_pass_71 : decode cX0_pass 71 = .ok (.getfield 39, 3) := by decide +kernel
theorem dX0_pass_74 : decode cX0_pass 74 = .ok (.invokestatic 59, 3) := by decide +kernel
theorem dX0_pass_77 : decode cX0_pass 77 = .ok (.invokevirtual 64, 3) := by decide +kernel
theorem dX0_pass_80 : decode cX0_pass 80 = .ok (.return_, 1) := by decide +kernel
theorem dX0_pass_81 : decode cX0_pass 81 = .ok (.aload_n 0, 1) := by decide +kernel
theorem dX0_pass_82 : decode cX0_pass 82 = .ok (.aload_n 1, 1) := by decide +kernel
theorem dX0_pass_83 : decode cX0_pass 83 = .ok (.iload_n 3, 1) := by decide +kernel
theorem dX0_pass_84 : decode cX0_pass 84 = .ok (.iload 4, 2) := by decide +kernel
theorem dX0_pass_86 : decode cX0_pass 86 = .ok (.iload 5, 2) := by decide +kernel
theorem dX0_pass_88 : decode cX0_pass 88 = .ok (.aload_n 1, 1) := by decide +kernel
theorem dX0_pass_89 : decode cX0_pass 89 = .ok (.iload_n 2, 1) := by decide +kernel
theorem dX0_pass_90 : decode cX0_pass 90 = .ok (.iconst 3, 1) := by decide +kernel
theorem dX0_pass_91 : decode cX0_pass 91 = .ok (.invokevirtual 55, 3) := by decide +kernel
theorem dX0_pass_94 : decode cX0_pass 94 = .ok (.invokevirtual 68, 3) := by decide +kernel
theorem dX0_pass_97 : decode cX0_pass 97 = .ok (.aload_n 0, 1) := by decide +kernel
theorem dX0_pass_98 : decode cX0_pass 98 = .ok (.iload_n 2, 1) := by decide +kernel
theorem dX0_pass_99 : decode cX0_pass 99 = .ok (.iconst 1, 1) := by decide +kernel
theorem dX0_pass_100 : decode cX0_pass 100 = .ok (.iadd, 1) := by decide +kernel
theorem dX0_pass_101 : decode cX0_pass 101 = .ok (.invokevirtual 72, 3) := by decide +kernel
theorem dX0_pass_104 : decode cX0_pass 104 = .ok (.return_, 1) := by decide +kernel
set_option maxRecDepth 20000 in
theorem ggX0_passJump_X0_join : GoodIn wsX0_passJump wsX0_join := goodIn_r _ [5, 6, 7, 8, 9, 10, 11, 12, 13, 14, 15, 16, 17, 18, 19, 20, 21] (by decide +kernel) (by decide +kernel)
set_option maxRecDepth 20000 in
theorem gX0_passJump_X0_join : GoodIn wsX0_passJump (wsV RX0 72 RX0 yX0_join wsX0_join) := goodIn_app (goodIn_of _ (by decide +kernel)) ggX0_passJump_X0_join
theorem dX0_passJump_0 : decode cX0_passJump 0 = .ok (.iload_n 1, 1) := by decide +kernel
theorem dX0_passJump_1 : decode cX0_passJump 1 = .ok (.ifCond .eq 8, 3) := by decide +kernel
theorem dX0_passJump_4 : decode cX0_passJump 4 = .ok (.aload_n 0, 1) := by decide +kernel
theorem dX0_passJump_5 : decode cX0_passJump 5 = .ok (.iload_n 3, 1) := by decide +kernel
theorem dX0_passJump_6 : decode cX0_passJump 6 = .ok (.invokevirtual 72, 3) := by decide +kernel
theorem dX0_passJump_9 : decode cX0_passJump 9 = .ok (.iload_n 1, 1) := by decide +kernel
theorem dX0_passJump_10 : decode cX0_passJump 10 = .ok (.iconst (-1), 1) := by decide +kernel
theorem dX0_passJump_11 : decode cX0_passJump 11 = .ok (.if_icmp .eq 7, 3) := by decide +kernel
theorem dX0_passJump_14 : decode cX0_passJump 14 = .ok (.iload_n 1, 1) := by decide +kernel
theorem dX0_passJump_15 : decode cX0_passJump 15 = .ok (.ifCond .ne 8, 3) := by decide +kernel
theorem dX0_passJump_18 : decode cX0_passJump 18 = .ok (.aload_n 0, 1) := by decide +kernel
theorem dX0_passJump_19 : decode cX0_passJump 19 = .ok (.iload_n 2, 1) := by decide +kernel
theorem dX0_passJump_20 : decode cX0_passJump 20 = .ok (.invokevirtual 72, 3) := by decide +kernel
theorem dX0_passJump_23 : decode cX0_passJump 23 = .ok (.return_, 1) := by decide +kernel
set_option maxRecDepth 20000 in
theorem ggX0_change_X0_become : GoodIn wsX0_change wsX0_become := goodIn_r _ [6, 7, 1, 23, 24, 25, 26, 27, 28] (by decide +kernel) (by decide +kernel)
set_option maxRecDepth 20000 in
theorem gX0_change_X0_become : GoodIn wsX0_change (wsV RX0 75 RX0 yX0_become wsX0_become) := goodIn_app (goodIn_of _ (by decide +kernel)) ggX0_change_X0_become
set_option maxRecDepth 20000 in
theorem ggX0_change_X0_tainted : GoodIn wsX0_change wsX0_tainted := goodIn_r _ [11, 7, 23, 24, 25, 26, 27, 28] (by decide +kernel) (by decide +kernel)
set_option maxRecDepth 20000 in
theorem gX0_change_X0_tainted : GoodIn wsX0_change (wsV RX0 79 RX0 yX0_tainted wsX0_tainted) := goodIn_app (goodIn_of _ (by decide +kernel)) ggX0_change_X0_tainted
set_option maxRecDepth 20000 in
theorem ggX0_change_X0_pick : GoodIn wsX0_change wsX0_pick := goodIn_r _ [15, 1, 8, 9, 10, 5, 11, 7, 2, 3, 4, 6, 23, 24, 25, 26, 27, 28] (by decide +kernel) (by decide +kernel)
set_option maxRecDepth 20000 in
theorem gX0_change_X0_pick : GoodIn wsX0_change (wsV RX0 86 RX0 yX0_pick wsX0_pick) := goodIn_app (goodIn_of _ (by decide +kernel)) ggX0_change_X0_pick
set_option maxRecDepth 20000 in
theorem ggX0_change_X0_combine : GoodIn wsX0_change wsX0_combine := goodIn_r _ [19, 1, 2, 3, 4, 5, 6, 7, 8, 9, 10, 11, 20, 21, 22, 23, 24, 25, 26, 27, 28] (by decide +kernel) (by decide +kernel)
set_option maxRecDepth 20000 in
theorem gX0_change_X0_combine : GoodIn wsX0_change (wsV RX0 89 RX0 yX0_combine wsX0_combine) := goodIn_app (goodIn_of _ (by decide +kernel)) ggX0_change_X0_combine
theorem dX0_change_0 : decode cX0_change 0 = .ok (.iload_n 2, 1) := by decide +kernel
theorem dX0_change_1 : decode cX0_change 1 = .ok (.tableswitch 136 0 8 #[51, 62, 136, 136, 136, 83, 136, 136, 124], 51) := by decide +kernel
theorem dX0_change_52 : decode cX0_change 52 = .ok (.aload_n 0, 1) := by decide +kernel
theorem dX0_change_53 : decode cX0_change 53 = .ok (.iload_n 3, 1) := by decide +kernel
theorem dX0_change_54 : decode cX0_change 54 = .ok (.iconst 0, 1) := by decide +kernel
theorem dX0_change_55 : decode cX0_change 55 = .ok (.iload 4, 2) := by decide +kernel
theorem dX0_change_57 : decode cX0_change 57 = .ok (.invokevirtual 75, 3) := by decide +kernel
theorem dX0_change_60 : decode cX0_change 60 = .ok (.goto 85, 3) := by decide +kernel
theorem dX0_change_63 : decode cX0_change 63 = .ok (.aload_n 0, 1) := by decide +kernel
theorem dX0_change_64 : decode cX0_change 64 = .ok (.iload_n 3, 1) := by decide +kernel
theorem dX0_change_65 : decode cX0_change 65 = .ok (.aload_n 0, 1) := by decide +kernel
theorem dX0_change_66 : decode cX0_change 66 = .ok (.iload 4, 2) := by decide +kernel
theorem dX0_change_68 : decode cX0_change 68 = .ok (.invokevirtual 79, 3) := by decide +kernel
theorem dX0_change_71 : decode cX0_change 71 = .ok (.aload_n 0, 1) := by decide +kernel
theorem dX0_change_72 : decode cX0_change 72 = .ok (.getfield 22, 3) := by decide +kernel
theorem dX0_change_75 : decode cX0_change 75 = .ok (.iload 4, 2) := by decide +kernel
theorem dX0_change_77 : decode cX0_change 77 = .ok (.iaload, 1) := by decide +kernel
theorem dX0_change_78 : decode cX0_change 78 = .ok (.invokevirtual 75, 3) := by decide +kernel
theorem dX0_change_81 : decode cX0_change 81 = .ok (.goto 64, 3) := by decide +kernel
theorem dX0_change_84 : decode cX0_change 84 = .ok (.aload_n 0, 1) := by decide +kernel
theorem dX0_change_85 : decode cX0_change 85 = .ok (.iload_n 3, 1) := by decide +kernel
theorem dX0_change_86 : decode cX0_change 86 = .ok (.aload_n 0, 1) := by decide +kernel
theorem dX0_change_87 : decode cX0_change 87 = .ok (.iload 4, 2) := by decide +kernel
theorem dX0_change_89 : decode cX0_change 89 = .ok (.invokevirtual 79, 3) := by decide +kernel
theorem dX0_change_92 : decode cX0_change 92 = .ok (.aload_n 0, 1) := by decide +kernel
theorem dX0_change_93 : decode cX0_change 93 = .ok (.getfield 22, 3) := by decide +kernel
theorem dX0_change_96 : decode cX0_change 96 = .ok (.iload 4, 2) := by decide +kernel
theorem dX0_change_98 : decode cX0_change 98 = .ok (.iaload, 1) := by decide +kernel
theorem dX0_change_99 : decode cX0_change 99 = .ok (.iconst (-1), 1) := by decide +kernel
theorem dX0_change_100 : decode cX0_change 100 = .ok (.if_icmp .ne 7, 3) := by decide +kernel
theorem dX0_change_103 : decode cX0_change 103 = .ok (.iconst (-1), 1) := by decide +kernel
theorem dX0_change_104 : decode cX0_change 104 = .ok (.goto 15, 3) := by decide +kernel
theorem dX0_change_107 : decode cX0_change 107 = .ok (.aload_n 1, 1) := by decide +kernel
theorem dX0_change_108 : decode cX0_change 108 = .ok (.getfield 83, 3) := by decide +kernel
theorem dX0_change_111 : decode cX0_change 111 = .ok (.aload_n 0, 1) := by decide +kernel
theorem dX0_change_112 : decode cX0_change 112 = .ok (.getfield 22, 3) := by decide +kernel
theorem dX0_change_115 : decode cX0_change 115 = .ok (.iload 4, 2) := by decide +kernel
theorem dX0_change_117 : decode cX0_change 117 = .ok (.iaload, 1) := by decide +kernel
theorem dX0_change_118 : decode cX0_change 118 = .ok (.iaload, 1) := by decide +kernel
theorem dX0_change_119 : decode cX0_change 119 = .ok (.invokevirtual 75, 3) := by decide +kernel
theorem dX0_change_122 : decode cX0_change 122 = .ok (.goto 23, 3) := by decide +kernel
theorem dX0_change_125 : decode cX0_change 125 = .ok (.aload_n 0, 1) := by decide +kernel
theorem dX0_change_126 : decode cX0_change 126 = .ok (.iload_n 3, 1) := by decide +kernel
theorem dX0_change_127 : decode cX0_change 127 = .ok (.iload 4, 2) := by decide +kernel
theorem dX0_change_129 : decode cX0_change 129 = .ok (.iload 5, 2) := by decide +kernel
theorem dX0_change_131 : decode cX0_change 131 = .ok (.invokevirtual 86, 3) := by decide +kernel
theorem dX0_change_134 : decode cX0_change 134 = .ok (.goto 11, 3) := by decide +kernel
theorem dX0_change_137 : decode cX0_change 137 = .ok (.aload_n 0, 1) := by decide +kernel
theorem dX0_change_138 : decode cX0_change 138 = .ok (.iload_n 2, 1) := by decide +kernel
theorem dX0_change_139 : decode cX0_change 139 = .ok (.iload_n 3, 1) := by decide +kernel
theorem dX0_change_140 : decode cX0_change 140 = .ok (.iload 4, 2) := by decide +kernel
theorem dX0_change_142 : decode cX0_change 142 = .ok (.invokevirtual 89, 3) := by decide +kernel
theorem dX0_change_145 : decode cX0_change 145 = .ok (.return_, 1) := by decide +kernel
set_option maxRecDepth 20000 in
theorem ggX0_combine_X0_become : GoodIn wsX0_combine wsX0_become := goodIn_r _ [6, 7, 1, 15, 16, 17, 18, 19, 20] (by decide +kernel) (by decide +kernel)
set_option maxRecDepth 20000 in
theorem gX0_combine_X0_become : GoodIn wsX0_combine (wsV RX0 75 RX0 yX0_become wsX0_become) := goodIn_app (goodIn_of _ (by decide +kernel)) ggX0_combine_X0_become
set_option maxRecDepth 20000 in
theorem ggX0_combine_X0_tainted : GoodIn wsX0_combine wsX0_tainted := goodIn_r _ [11, 7, 15, 16, 17, 18, 19, 20] (by decide +kernel) (by decide +kernel)
set_option maxRecDepth 20000 in
theorem gX0_combine_X0_tainted : GoodIn wsX0_combine (wsV RX0 79 RX0 yX0_tainted wsX0_tainted) := goodIn_app (goodIn_of _ (by decide +kernel)) ggX0_combine_X0_tainted
set_option maxRecDepth 20000 in
theorem ggX0_combine_X6_combined : GoodIn wsX0_combine wsX6_combined := goodIn_r _ [14] (by decide +kernel) (by decide +kernel)
set_option maxRecDepth 20000 in
theorem gX0_combine_X6_combined_n92 : GoodIn wsX0_combine (wsX6_combined) := ggX0_combine_X6_combined
theorem dX0_combine_0 : decode cX0_combine 0 = .ok (.aload_n 0, 1) := by decide +kernel
theorem dX0_combine_1 : decode cX0_combine 1 = .ok (.getfield 22, 3) := by decide +kernel
theorem dX0_combine_4 : decode cX0_combine 4 = .ok (.iload_n 2, 1) := by decide +kernel
theorem dX0_combine_5 : decode cX0_combine 5 = .ok (.iaload, 1) := by decide +kernel
theorem dX0_combine_6 : decode cX0_combine 6 = .ok (.istore 4, 2) := by decide +kernel
theorem dX0_combine_8 : decode cX0_combine 8 = .ok (.aload_n 0, 1) := by decide +kernel
theorem dX0_combine_9 : decode cX0_combine 9 = .ok (.getfield 22, 3) := by decide +kernel
theorem dX0_combine_12 : decode cX0_combine 12 = .ok (.iload_n 3, 1) := by decide +kernel
theorem dX0_combine_13 : decode cX0_combine 13 = .ok (.iaload, 1) := by decide +kernel
theorem dX0_combine_14 : decode cX0_combine 14 = .ok (.istore 5, 2) := by decide +kernel
theorem dX0_combine_16 : decode cX0_combine 16 = .ok (.iload_n 1, 1) := by decide +kernel
theorem dX0_combine_17 : decode cX0_combine 17 = .ok (.iconst 4, 1) := by decide +kernel
theorem dX0_combine_18 : decode cX0_combine 18 = .ok (.if_icmp .ne 8, 3) := by decide +kernel
theorem dX0_combine_21 : decode cX0_combine 21 = .ok (.iload_n 2, 1) := by decide +kernel
theorem dX0_combine_22 : decode cX0_combine 22 = .ok (.iload_n 3, 1) := by decide +kernel
theorem dX0_combine_23 : decode cX0_combine 23 = .ok (.if_icmp .eq 18, 3) := by decide +kernel
theorem dX0_combine_26 : decode cX0_combine 26 = .ok (.iload_n 1, 1) := by decide +kernel
theorem dX0_combine_27 : decode cX0_combine 27 = .ok (.iconst 3, 1) := by decide +kernel
theorem dX0_combine_28 : decode cX0_combine 28 = .ok (.if_icmp .ne 21, 3) := by decide +kernel
theorem dX0_combine_31 : decode cX0_combine 31 = .ok (.iload 4, 2) := by decide +kernel
theorem dX0_combine_33 : decode cX0_combine 33 = .ok (.ifCond .eq 8, 3) := by decide +kernel
theorem dX0_combine_36 : decode cX0_combine 36 = .ok (.iload 5, 2) := by decide +kernel
theorem dX0_combine_38 : decode cX0_combine 38 = .ok (.ifCond .ne 11, 3) := by decide +kernel
theorem dX0_combine_41 : decode cX0_combine 41 = .ok (.aload_n 0, 1) := by decide +kernel
theorem dX0_combine_42 : decode cX0_combine 42 = .ok (.iload_n 2, 1) := by decide +kernel
theorem dX0_combine_43 : decode cX0_combine 43 = .ok (.iconst 0, 1) := by decide +kernel
theorem dX0_combine_44 : decode cX0_combine 44 = .ok (.iconst 0, 1) := by decide +kernel
theorem dX0_combine_45 : decode cX0_combine 45 = .ok (.invokevirtual 75, 3) := by decide +kernel
theorem dX0_combine_48 : decode cX0_combine 48 = .ok (.return_, 1) := by decide +kernel
theorem dX0_combine_49 : decode cX0_combine 49 = .ok (.iload 4, 2) := by decide +kernel
theorem dX0_combine_51 : decode cX0_combine 51 = .ok (.iconst (-1), 1) := by decide +kernel
theorem dX0_combine_52 : decode cX0_combine 52 = .ok (.if_icmp .eq 13, 3) := by decide +kernel
theorem dX0_combine_55 : decode cX0_combine 55 = .ok (.iload 5, 2) := by decide +kernel
theorem dX0_combine_57 : decode cX0_combine 57 = .ok (.iconst (-1), 1) := by decide +kernel
theorem dX0_combine_58 : decode cX0_combine 58 = .ok (.if_icmp .eq 7, 3) := by decide +kernel
theorem dX0_combine_61 : decode cX0_combine 61 = .ok (.iconst 1, 1) := by decide +kernel
theorem dX0_combine_62 : decode cX0_combine 62 = .ok (.goto 4, 3) := by decide +kernel
theorem dX0_combine_65 : decode cX0_combine 65 = .ok (.iconst 0, 1) := by decide +kernel
theorem dX0_combine_66 : decode cX0_combine 66 = .ok (.istore 6, 2) := by decide +kernel
theorem dX0_combine_68 : decode cX0_combine 68 = .ok (.aload_n 0, 1) := by decide +kernel
theorem dX0_combine_69 : decode cX0_combine 69 = .ok (.iload_n 2, 1) := by decide +kernel
theorem dX0_combine_70 : decode cX0_combine 70 = .ok (.aload_n 0, 1) := by decide +kernel
theorem dX0_combine_71 : decode cX0_combine 71 = .ok (.iload_n 2, 1) := by decide +kernel
theorem dX0_combine_72 : decode cX0_combine 72 = .ok (.invokevirtual 79, 3) := by decide +kernel
theorem dX0_combine_75 : decode cX0_combine 75 = .ok (.ifCond .ne 11, 3) := by decide +kernel
theorem dX0_combine_78 : decode cX0_combine 78 = .ok (.aload_n 0, 1) := by decide +kernel
theorem dX0_combine_79 : decode cX0_combine 79 = .ok (.iload_n 3, 1) := by decide +kernel
theorem dX0_combine_80 : decode cX0_combine 80 = .ok (.invokevirtual 79, 3) := by decide +kernel
theorem dX0_combine_83 : decode cX0_combine 83 = .ok (.ifCond .eq 7, 3) := by decide +kernel
theorem dX0_combine_86 : decode cX0_combine 86 = .ok (.iconst 1, 1) := by decide +kernel
theorem dX0_combine_87 : decode cX0_combine 87 = .ok (.goto 4, 3) := by decide +kernel
theorem dX0_combine_90 : decode cX0_combine 90 = .ok (.iconst 0, 1) := by decide +kernel
theorem dX0_combine_91 : decode cX0_combine 91 = .ok (.iload 6, 2) := by decide +kernel
theorem dX0_combine_93 : decode cX0_combine 93 = .ok (.ifCond .eq 14, 3) := by decide +kernel
theorem dX0_combine_96 : decode cX0_combine 96 = .ok (.iload_n 1, 1) := by decide +kernel
theorem dX0_combine_97 : decode cX0_combine 97 = .ok (.iload 4, 2) := by decide +kernel
theorem dX0_combine_99 : decode cX0_combine 99 = .ok (.iload 5, 2) := by decide +kernel
theorem dX0_combine_101 : decode cX0_combine 101 = .ok (.invokestatic 92, 3) := by decide +kernel
theorem dX0_combine_104 : decode cX0_combine 104 = .ok (.goto 4, 3) := by decide +kernel
theorem dX0_combine_107 : decode cX0_combine 107 = .ok (.iconst (-1), 1) := by decide +kernel
theorem dX0_combine_108 : decode cX0_combine 108 = .ok (.invokevirtual 75, 3) := by decide +kernel
theorem dX0_combine_111 : decode cX0_combine 111 = .ok (.return_, 1) := by decide +kernel
set_option maxRecDepth 20000 in
theorem ggX0_pick_X0_tainted : GoodIn wsX0_pick wsX0_tainted := goodIn_r _ [6, 7, 12, 13, 14, 15, 16, 17] (by decide +kernel) (by decide +kernel)
set_option maxRecDepth 20000 in
theorem gX0_pick_X0_tainted : GoodIn wsX0_pick (wsV RX0 79 RX0 yX0_tainted wsX0_tainted) := goodIn_app (goodIn_of _ (by decide +kernel)) ggX0_pick_X0_tainted
set_option maxRecDepth 20000 in
theorem ggX0_pick_X0_become : GoodIn wsX0_pick wsX0_become := goodIn_r _ [11, 7, 1, 12, 13, 14, 15, 16, 17] (by decide +kernel) (by decide +kernel)
set_option maxRecDepth 20000 in
theorem gX0_pick_X0_become : GoodIn wsX0_pick (wsV RX0 75 RX0 yX0_become wsX0_become) := goodIn_app (goodIn_of _ (by decide +kernel)) ggX0_pick_X0_become
theorem dX0_pick_0 : decode cX0_pick 0 = .ok (.aload_n 0, 1) := by decide +kernel
theorem dX0_pick_1 : decode cX0_pick 1 = .ok (.getfield 22, 3) := by decide +kernel
theorem dX0_pick_4 : decode cX0_pick 4 = .ok (.iload_n 1, 1) := by decide +kernel
theorem dX0_pick_5 : decode cX0_pick 5 = .ok (.iaload, 1) := by decide +kernel
theorem dX0_pick_6 : decode cX0_pick 6 = .ok (.istore 4, 2) := by decide +kernel
theorem dX0_pick_8 : decode cX0_pick 8 = .ok (.iload 4, 2) := by decide +kernel
theorem dX0_pick_10 : decode cX0_pick 10 = .ok (.iconst (-1), 1) := by decide +kernel
theorem dX0_pick_11 : decode cX0_pick 11 = .ok (.if_icmp .eq 36, 3) := by decide +kernel
theorem dX0_pick_14 : decode cX0_pick 14 = .ok (.iload 4, 2) := by decide +kernel
theorem dX0_pick_16 : decode cX0_pick 16 = .ok (.ifCond .eq 7, 3) := by decide +kernel
theorem dX0_pick_19 : decode cX0_pick 19 = .ok (.iload_n 2, 1) := by decide +kernel
theorem dX0_pick_20 : decode cX0_pick 20 = .ok (.goto 4, 3) := by decide +kernel
theorem dX0_pick_23 : decode cX0_pick 23 = .ok (.iload_n 3, 1) := by decide +kernel
theorem dX0_pick_24 : decode cX0_pick 24 = .ok (.istore 5, 2) := by decide +kernel
theorem dX0_pick_26 : decode cX0_pick 26 = .ok (.aload_n 0, 1) := by decide +kernel
theorem dX0_pick_27 : decode cX0_pick 27 = .ok (.iload_n 1, 1) := by decide +kernel
theorem dX0_pick_28 : decode cX0_pick 28 = .ok (.aload_n 0, 1) := by decide +kernel
theorem dX0_pick_29 : decode cX0_pick 29 = .ok (.iload 5, 2) := by decide +kernel
theorem dX0_pick_31 : decode cX0_pick 31 = .ok (.invokevirtual 79, 3) := by decide +kernel
theorem dX0_pick_34 : decode cX0_pick 34 = .ok (.aload_n 0, 1) := by decide +kernel
theorem dX0_pick_35 : decode cX0_pick 35 = .ok (.getfield 22, 3) := by decide +kernel
theorem dX0_pick_38 : decode cX0_pick 38 = .ok (.iload 5, 2) := by decide +kernel
theorem dX0_pick_40 : decode cX0_pick 40 = .ok (.iaload, 1) := by decide +kernel
theorem dX0_pick_41 : decode cX0_pick 41 = .ok (.invokevirtual 75, 3) := by decide +kernel
theorem dX0_pick_44 : decode cX0_pick 44 = .ok (.goto 78, 3) := by decide +kernel
theorem dX0_pick_47 : decode cX0_pick 47 = .ok (.aload_n 0, 1) := by decide +kernel
theorem dX0_pick_48 : decode cX0_pick 48 = .ok (.getfield 22, 3) := by decide +kernel
theorem dX0_pick_51 : decode cX0_pick 51 = .ok (.iload_n 2, 1) := by decide +kernel
theorem dX0_pick_52 : decode cX0_pick 52 = .ok (.iaload, 1) := by decide +kernel
theorem dX0_pick_53 : decode cX0_pick 53 = .ok (.iconst (-1), 1) := by decide +kernel
theorem dX0_pick_54 : decode cX0_pick 54 = .ok (.if_icmp .eq 33, 3) := by decide +kernel
theorem dX0_pick_57 : decode cX0_pick 57 = .ok (.aload_n 0, 1) := by decide +kernel
theorem dX0_pick_58 : decode cX0_pick 58 = .ok (.getfield 22, 3) := by decide +kernel
theorem dX0_pick_61 : decode cX0_pick 61 = .ok (.iload_n 2, 1) := by decide +kernel
theorem dX0_pick_62 : decode cX0_pick 62 = .ok (.iaload, 1) := by decide +kernel
theorem dX0_pick_63 : decode cX0_pick 63 = .ok (.aload_n 0, 1) := by decide +kernel
theorem dX0_pick_64 : decode cX0_pick 64 = .ok (.getfield 22, 3) := by decide +kernel
theorem dX0_pick_67 : decode cX0_pick 67 = .ok (.iload_n 3, 1) := by decide +kernel
theorem dX0_pick_68 : decode cX0_pick 68 = .ok (.iaload, 1) := by decide +kernel
theorem dX0_pick_69 : decode cX0_pick 69 = .ok (.if_icmp .ne 18, 3) := by decide +kernel
theorem dX0_pick_72 : decode cX0_pick 72 = .ok (.aload_n 0, 1) := by decide +kernel
theorem dX0_pick_73 : decode cX0_pick 73 = .ok (.iload_n 1, 1) := by decide +kernel
theorem dX0_pick_74 : decode cX0_pick 74 = .ok (.iconst 0, 1) := by decide +kernel
theorem dX0_pick_75 : decode cX0_pick 75 = .ok (.aload_n 0, 1) := by decide +kernel
theorem dX0_pick_76 : decode cX0_pick 76 = .ok (.getfield 22, 3) := by decide +kernel
theorem dX0_pick_79 : decode cX0_pick 79 = .ok (.iload_n 2, 1) := by decide +kernel
theorem dX0_pick_80 : decode cX0_pick 80 = .ok (.iaload, 1) := by decide +kernel
theorem dX0_pick_81 : decode cX0_pick 81 = .ok (.invokevirtual 75, 3) := by decide +kernel
theorem dX0_pick_84 : decode cX0_pick 84 = .ok (.goto 38, 3) := by decide +kernel
theorem dX0_pick_87 : decode cX0_pick 87 = .ok (.aload_n 0, 1) := by decide +kernel
theorem dX0_pick_88 : decode cX0_pick 88 = .ok (.iload_n 1, 1) := by decide +kernel
theorem dX0_pick_89 : decode cX0_pick 89 = .ok (.aload_n 0, 1) := by decide +kernel
theorem dX0_pick_90 : decode cX0_pick 90 = .ok (.iload_n 1, 1) := by decide +kernel
theorem dX0_pick_91 : decode cX0_pick 91 = .ok (.invokevirtual 79, 3) := by decide +kernel
theorem dX0_pick_94 : decode cX0_pick 94 = .ok (.ifCond .ne 19, 3) := by decide +kernel
theorem dX0_pick_97 : decode cX0_pick 97 = .ok (.aload_n 0, 1) := by decide +kernel
theorem dX0_pick_98 : decode cX0_pick 98 = .ok (.iload_n 2, 1) := by decide +kernel
theorem dX0_pick_99 : decode cX0_pick 99 = .ok (.invokevirtual 79, 3) := by decide +kernel
theorem dX0_pick_102 : decode cX0_pick 102 = .ok (.ifCond .ne 11, 3) := by decide +kernel
theorem dX0_pick_105 : decode cX0_pick 105 = .ok (.aload_n 0, 1) := by decide +kernel
theorem dX0_pick_106 : decode cX0_pick 106 = .ok (.iload_n 3, 1) := by decide +kernel
theorem dX0_pick_107 : decode cX0_pick 107 = .ok (.invokevirtual 79, 3) := by decide +kernel
theorem dX0_pick_110 : decode cX0_pick 110 = .ok (.ifCond .eq 7, 3) := by decide +kernel
theorem dX0_pick_113 : decode cX0_pick 113 = .ok (.iconst 1, 1) := by decide +kernel
theorem dX0_pick_114 : decode cX0_pick 114 = .ok (.goto 4, 3) := by decide +kernel
theorem dX0_pick_117 : decode cX0_pick 117 = .ok (.iconst 0, 1) := by decide +kernel
theorem dX0_pick_118 : decode cX0_pick 118 = .ok (.iconst (-1), 1) := by decide +kernel
theorem dX0_pick_119 : decode cX0_pick 119 = .ok (.invokevirtual 75, 3) := by decide +kernel
theorem dX0_pick_122 : decode cX0_pick 122 = .ok (.return_, 1) := by decide +kernel
theorem dX0_tainted_0 : decode cX0_tainted 0 = .ok (.aload_n 0, 1) := by decide +kernel
theorem dX0_tainted_1 : decode cX0_tainted 1 = .ok (.getfield 52, 3) := by decide +kernel
theorem dX0_tainted_4 : decode cX0_tainted 4 = .ok (.iload_n 1, 1) := by decide +kernel
theorem dX0_tainted_5 : decode cX0_tainted 5 = .ok (.ishr, 1) := by decide +kernel
theorem dX0_tainted_6 : decode cX0_tainted 6 = .ok (.iconst 1, 1) := by decide +kernel
theorem dX0_tainted_7 : decode cX0_tainted 7 = .ok (.iand, 1) := by decide +kernel
theorem dX0_tainted_8 : decode cX0_tainted 8 = .ok (.iconst 1, 1) := by decide +kernel
theorem dX0_tainted_9 : decode cX0_tainted 9 = .ok (.if_icmp .ne 7, 3) := by decide +kernel
theorem dX0_tainted_12 : decode cX0_tainted 12 = .ok (.iconst 1, 1) := by decide +kernel
theorem dX0_tainted_13 : decode cX0_tainted 13 = .ok (.goto 4, 3) := by decide +kernel
theorem dX0_tainted_16 : decode cX0_tainted 16 = .ok (.iconst 0, 1) := by decide +kernel
theorem dX0_tainted_17 : decode cX0_tainted 17 = .ok (.ireturn, 1) := by decide +kernel
theorem dX0_become_0 : decode cX0_become 0 = .ok (.aload_n 0, 1) := by decide +kernel
theorem dX0_become_1 : decode cX0_become 1 = .ok (.getfield 52, 3) := by decide +kernel
theorem dX0_become_4 : decode cX0_become 4 = .ok (.iconst 1, 1) := by decide +kernel
theorem dX0_become_5 : decode cX0_become 5 = .ok (.iload_n 1, 1) := by decide +kernel
theorem dX0_become_6 : decode cX0_become 6 = .ok (.ishl, 1) := by decide +kernel
theorem dX0_become_7 : decode cX0_become 7 = .ok (.iconst (-1), 1) := by decide +kernel
theorem dX0_become_8 : decode cX0_become 8 = .ok (.ixor, 1) := by decide +kernel
theorem dX0_become_9 : decode cX0_become 9 = .ok (.iand, 1) := by decide +kernel
theorem dX0_become_10 : decode cX0_become 10 = .ok (.istore 4, 2) := by decide +kernel
theorem dX0_become_12 : decode cX0_become 12 = .ok (.aload_n 0, 1) := by decide +kernel
theorem dX0_become_13 : decode cX0_become 13 = .ok (.iload_n 2, 1) := by decide +kernel
theorem dX0_become_14 : decode cX0_become 14 = .ok (.ifCond .eq 12, 3) := by decide +kernel
theorem dX0_become_17 : decode cX0_become 17 = .ok (.iload 4, 2) := by decide +kernel
theorem dX0_become_19 : decode cX0_become 19 = .ok (.iconst 1, 1) := by decide +kernel
theorem dX0_become_20 : decode cX0_become 20 = .ok (.iload_n 1, 1) := by decide +kernel
theorem dX0_become_21 : decode cX0_become 21 = .ok (.ishl, 1) := by decide +kernel
theorem dX0_become_22 : decode cX0_become 22 = .ok (.ior, 1) := by decide +kernel
theorem dX0_become_23 : decode cX0_become 23 = .ok (.goto 5, 3) := by decide +kernel
theorem dX0_become_26 : decode cX0_become 26 = .ok (.iload 4, 2) := by decide +kernel
theorem dX0_become_28 : decode cX0_become 28 = .ok (.putfield 52, 3) := by decide +kernel
theorem dX0_become_31 : decode cX0_become 31 = .ok (.aload_n 0, 1) := by decide +kernel
theorem dX0_become_32 : decode cX0_become 32 = .ok (.getfield 22, 3) := by decide +kernel
theorem dX0_become_35 : decode cX0_become 35 = .ok (.iload_n 1, 1) := by decide +kernel
theorem dX0_become_36 : decode cX0_become 36 = .ok (.iload_n 3, 1) := by decide +kernel
theorem dX0_become_37 : decode cX0_become 37 = .ok (.iastore, 1) := by decide +kernel
theorem dX0_become_38 : decode cX0_become 38 = .ok (.return_, 1) := by decide +kernel
theorem dX0_join_0 : decode cX0_join 0 = .ok (.iload_n 1, 1) := by decide +kernel
theorem dX0_join_1 : decode cX0_join 1 = .ok (.bipush 6, 2) := by decide +kernel
theorem dX0_join_3 : decode cX0_join 3 = .ok (.imul, 1) := by decide +kernel
theorem dX0_join_4 : decode cX0_join 4 = .ok (.istore_n 2, 1) := by decide +kernel
theorem dX0_join_5 : decode cX0_join 5 = .ok (.aload_n 0, 1) := by decide +kernel
theorem dX0_join_6 : decode cX0_join 6 = .ok (.getfield 11, 3) := by decide +kernel
theorem dX0_join_9 : decode cX0_join 9 = .ok (.iload_n 1, 1) := by decide +kernel
theorem dX0_join_10 : decode cX0_join 10 = .ok (.baload, 1) := by decide +kernel
theorem dX0_join_11 : decode cX0_join 11 = .ok (.ifCond .ne 41, 3) := by decide +kernel
theorem dX0_join_14 : decode cX0_join 14 = .ok (.aload_n 0, 1) := by decide +kernel
theorem dX0_join_15 : decode cX0_join 15 = .ok (.getfield 11, 3) := by decide +kernel
theorem dX0_join_18 : decode cX0_join 18 = .ok (.iload_n 1, 1) := by decide +kernel
theorem dX0_join_19 : decode cX0_join 19 = .ok (.iconst 1, 1) := by decide +kernel
theorem dX0_join_20 : decode cX0_join 20 = .ok (.bastore, 1) := by decide +kernel
theorem dX0_join_21 : decode cX0_join 21 = .ok (.aload_n 0, 1) := by decide +kernel
theorem dX0_join_22 : decode cX0_join 22 = .ok (.getfield 15, 3) := by decide +kernel
theorem dX0_join_25 : decode cX0_join 25 = .ok (.iload_n 1, 1) := by decide +kernel
theorem dX0_join_26 : decode cX0_join 26 = .ok (.aload_n 0, 1) := by decide +kernel
theorem dX0_join_27 : decode cX0_join 27 = .ok (.getfield 52, 3) := by decide +kernel
theorem dX0_join_30 : decode cX0_join 30 = .ok (.iastore, 1) := by decide +kernel
theorem dX0_join_31 : decode cX0_join 31 = .ok (.aload_n 0, 1) := by decide +kernel
theorem dX0_join_32 : decode cX0_join 32 = .ok (.getfield 22, 3) := by decide +kernel
theorem dX0_join_35 : decode cX0_join 35 = .ok (.iconst 0, 1) := by decide +kernel
theorem dX0_join_36 : decode cX0_join 36 = .ok (.aload_n 0, 1) := by decide +kernel
theorem dX0_join_37 : decode cX0_join 37 = .ok (.getfield 19, 3) := by decide +kernel
theorem dX0_join_40 : decode cX0_join 40 = .ok (.iload_n 2, 1) := by decide +kernel
theorem dX0_join_41 : decode cX0_join 41 = .ok (.bipush 6, 2) := by decide +kernel
theorem dX0_join_43 : decode cX0_join 43 = .ok (.invokestatic 46, 3) := by decide +kernel
theorem dX0_join_46 : decode cX0_join 46 = .ok (.aload_n 0, 1) := by decide +kernel
theorem dX0_join_47 : decode cX0_join 47 = .ok (.iconst 1, 1) := by decide +kernel
theorem dX0_join_48 : decode cX0_join 48 = .ok (.putfield 35, 3) := by decide +kernel
theorem dX0_join_51 : decode cX0_join 51 = .ok (.return_, 1) := by decide +kernel
theorem dX0_join_52 : decode cX0_join 52 = .ok (.aload_n 0, 1) := by decide +kernel
theorem dX0_join_53 : decode cX0_join 53 = .ok (.getfield 15, 3) := by decide +kernel
theorem dX0_join_56 : decode cX0_join 56 = .ok (.iload_n 1, 1) := by decide +kernel
theorem dX0_join_57 : decode cX0_join 57 = .ok (.iaload, 1) := by decide +kernel
theorem dX0_join_58 : decode cX0_join 58 = .ok (.aload_n 0, 1) := by decide +kernel
theorem dX0_join_59 : decode cX0_join 59 = .ok (.getfield 52, 3) := by decide +kernel
theorem dX0_join_62 : decode cX0_join 62 = .ok (.ior, 1) := by decide +kernel
theorem dX0_join_63 : decode cX0_join 63 = .ok (.aload_n 0, 1) := by decide +kernel
theorem dX0_join_64 : decode cX0_join 64 = .ok (.getfield 15, 3) := by decide +kernel
theorem dX0_join_67 : decode cX0_join 67 = .ok (.iload_n 1, 1) := by decide +kernel
theorem dX0_join_68 : decode cX0_join 68 = .ok (.iaload, 1) := by decide +kernel
theorem dX0_join_69 : decode cX0_join 69 = .ok (.if_icmp .eq 21, 3) := by decide +kernel
theorem dX0_join_72 : decode cX0_join 72 = .ok (.aload_n 0, 1) := by decide +kernel
theorem dX0_join_73 : decode cX0_join 73 = .ok (.getfield 15, 3) := by decide +kernel
theorem dX0_join_76 : decode cX0_join 76 = .ok (.iload_n 1, 1) := by decide +kernel
theorem dX0_join_77 : decode cX0_join 77 = .ok (.dup2, 1) := by decide +kernel
theorem dX0_join_78 : decode cX0_join 78 = .ok (.iaload, 1) := by decide +kernel
theorem dX0_join_79 : decode cX0_join 79 = .ok (.aload_n 0, 1) := by decide +kernel
theorem dX0_join_80 : decode cX0_join 80 = .ok (.getfield 52, 3) := by decide +kernel
theorem dX0_join_83 : decode cX0_join 83 = .ok (.ior, 1) := by decide +kernel
theorem dX0_join_84 : decode cX0_join 84 = .ok (.iastore, 1) := by decide +kernel
theorem dX0_join_85 : decode cX0_join 85 = .ok (.aload_n 0, 1) := by decide +kernel
theorem dX0_join_86 : decode cX0_join 86 = .ok (.iconst 1, 1) := by decide +kernel
theorem dX0_join_87 : decode cX0_join 87 = .ok (.putfield 35, 3) := by decide +kernel
theorem dX0_join_90 : decode cX0_join 90 = .ok (.iconst 0, 1) := by decide +kernel
theorem dX0_join_91 : decode cX0_join 91 = .ok (.istore_n 3, 1) := by decide +kernel
theorem dX0_join_92 : decode cX0_join 92 = .ok (.iload_n 3, 1) := by decide +kernel
theorem dX0_join_93 : decode cX0_join 93 = .ok (.bipush 6, 2) := by decide +kernel
theorem dX0_join_95 : decode cX0_join 95 = .ok (.if_icmp .ge 52, 3) := by decide +kernel
theorem dX0_join_98 : decode cX0_join 98 = .ok (.aload_n 0, 1) := by decide +kernel
theorem dX0_join_99 : decode cX0_join 99 = .ok (.getfield 19, 3) := by decide +kernel
theorem dX0_join_102 : decode cX0_join 102 = .ok (.iload_n 2, 1) := by decide +kernel
theorem dX0_join_103 : decode cX0_join 103 = .ok (.iload_n 3, 1) := by decide +kernel
theorem dX0_join_104 : decode cX0_join 104 = .ok (.iadd, 1) := by decide +kernel
theorem dX0_join_105 : decode cX0_join 105 = .ok (.iaload, 1) := by decide +kernel
theorem dX0_join_106 : decode cX0_join 106 = .ok (.iconst (-1), 1) := by decide +kernel
theorem dX0_join_107 : decode cX0_join 107 = .ok (.if_icmp .eq 34, 3) := by decide +kernel
theorem dX0_join_110 : decode cX0_join 110 = .ok (.aload_n 0, 1) := by decide +kernel
theorem dX0_join_111 : decode cX0_join 111 = .ok (.getfield 19, 3) := by decide +kernel
theorem dX0_join_114 : decode cX0_join 114 = .ok (.iload_n 2, 1) := by decide +kernel
theorem dX0_join_115 : decode cX0_join 115 = .ok (.iload_n 3, 1) := by decide +kernel
theorem dX0_join_116 : decode cX0_join 116 = .ok (.iadd, 1) := by decide +kernel
theorem dX0_join_117 : decode cX0_join 117 = .ok (.iaload, 1) := by decide +kernel
theorem dX0_join_118 : decode cX0_join 118 = .ok (.aload_n 0, 1) := by decide +kernel
theorem dX0_join_119 : decode cX0_join 119 = .ok (.getfield 22, 3) := by decide +kernel
theorem dX0_join_122 : decode cX0_join 122 = .ok (.iload_n 3, 1) := by decide +kernel
theorem dX0_join_123 : decode cX0_join 123 = .ok (.iaload, 1) := by decide +kernel
theorem dX0_join_124 : decode cX0_join 124 = .ok (.if_icmp .eq 17, 3) := by decide +kernel
theorem dX0_join_127 : decode cX0_join 127 = .ok (.aload_n 0, 1) := by decide +kernel
theorem dX0_join_128 : decode cX0_join 128 = .ok (.getfield 19, 3) := by decide +kernel
theorem dX0_join_131 : decode cX0_join 131 = .ok (.iload_n 2, 1) := by decide +kernel
theorem dX0_join_132 : decode cX0_join 132 = .ok (.iload_n 3, 1) := by decide +kernel
theorem dX0_join_133 : decode cX0_join 133 = .ok (.iadd, 1) := by decide +kernel
theorem dX0_join_134 : decode cX0_join 134 = .ok (.iconst (-1), 1) := by decide +kernel
theorem dX0_join_135 : decode cX0_join 135 = .ok (.iastore, 1) := by decide +kernel
theorem dX0_join_136 : decode cX0_join 136 = .ok (.aload_n 0, 1) := by decide +kernel
theorem dX0_join_137 : decode cX0_join 137 = .ok (.iconst 1, 1) := by decide +kernel
theorem dX0_join_138 : decode cX0_join 138 = .ok (.putfield 35, 3) := by decide +kernel
theorem dX0_join_141 : decode cX0_join 141 = .ok (.iinc 3 1, 3) := by decide +kernel
theorem dX0_join_144 : decode cX0_join 144 = .ok (.goto (-52), 3) := by decide +kernel
theorem dX0_join_147 : decode cX0_join 147 = .ok (.return_, 1) := by decide +kernel
theorem dX0_comesTo_0 : decode cX0_comesTo 0 = .ok (.aload_n 0, 1) := by decide +kernel
theorem dX0_comesTo_1 : decode cX0_comesTo 1 = .ok (.getfield 11, 3) := by decide +kernel
theorem dX0_comesTo_4 : decode cX0_comesTo 4 = .ok (.iload_n 1, 1) := by decide +kernel
theorem dX0_comesTo_5 : decode cX0_comesTo 5 = .ok (.baload, 1) := by decide +kernel
theorem dX0_comesTo_6 : decode cX0_comesTo 6 = .ok (.ireturn, 1) := by decide +kernel
theorem dX0_taintOf_0 : decode cX0_taintOf 0 = .ok (.aload_n 0, 1) := by decide +kernel
theorem dX0_taintOf_1 : decode cX0_taintOf 1 = .ok (.getfield 15, 3) := by decide +kernel
theorem dX0_taintOf_4 : decode cX0_taintOf 4 = .ok (.iload_n 1, 1) := by decide +kernel
theorem dX0_taintOf_5 : decode cX0_taintOf 5 = .ok (.iaload, 1) := by decide +kernel
theorem dX0_taintOf_6 : decode cX0_taintOf 6 = .ok (.iload_n 2, 1) := by decide +kernel
theorem dX0_taintOf_7 : decode cX0_taintOf 7 = .ok (.ishr, 1) := by decide +kernel
theorem dX0_taintOf_8 : decode cX0_taintOf 8 = .ok (.iconst 1, 1) := by decide +kernel
theorem dX0_taintOf_9 : decode cX0_taintOf 9 = .ok (.iand, 1) := by decide +kernel
theorem dX0_taintOf_10 : decode cX0_taintOf 10 = .ok (.ireturn, 1) := by decide +kernel
theorem dX0_knownOf_0 : decode cX0_knownOf 0 = .ok (.aload_n 0, 1) := by decide +kernel
theorem dX0_knownOf_1 : decode cX0_knownOf 1 = .ok (.getfield 19, 3) := by decide +kernel
theorem dX0_knownOf_4 : decode cX0_knownOf 4 = .ok (.iload_n 1, 1) := by decide +kernel
theorem dX0_knownOf_5 : decode cX0_knownOf 5 = .ok (.bipush 6, 2) := by decide +kernel
theorem dX0_knownOf_7 : decode cX0_knownOf 7 = .ok (.imul, 1) := by decide +kernel
theorem dX0_knownOf_8 : decode cX0_knownOf 8 = .ok (.iload_n 2, 1) := by decide +kernel
theorem dX0_knownOf_9 : decode cX0_knownOf 9 = .ok (.iadd, 1) := by decide +kernel
theorem dX0_knownOf_10 : decode cX0_knownOf 10 = .ok (.iaload, 1) := by decide +kernel
theorem dX0_knownOf_11 : decode cX0_knownOf 11 = .ok (.ireturn, 1) := by decide +kernel
set_option maxRecDepth 20000 in
theorem ggX0_alarmAt_X0_givesAlarm : GoodIn wsX0_alarmAt wsX0_givesAlarm := goodIn_r _ [5, 6, 7, 8, 9, 10, 11, 12, 13, 14, 15, 4, 16, 17, 23, 24, 25, 26, 27, 28, 18, 19, 20, 21, 22] (by decide +kernel) (by decide +kernel)
set_option maxRecDepth 20000 in
theorem gX0_alarmAt_X0_givesAlarm : GoodIn wsX0_alarmAt (wsV RX0 96 RX0 yX0_givesAlarm wsX0_givesAlarm) := goodIn_app (goodIn_of _ (by decide +kernel)) ggX0_alarmAt_X0_givesAlarm
theorem dX0_alarmAt_0 : decode cX0_alarmAt 0 = .ok (.iload_n 2, 1) := by decide +kernel
theorem dX0_alarmAt_1 : decode cX0_alarmAt 1 = .ok (.istore_n 3, 1) := by decide +kernel
theorem dX0_alarmAt_2 : decode cX0_alarmAt 2 = .ok (.iconst 0, 1) := by decide +kernel
theorem dX0_alarmAt_3 : decode cX0_alarmAt 3 = .ok (.istore 4, 2) := by decide +kernel
theorem dX0_alarmAt_5 : decode cX0_alarmAt 5 = .ok (.iload 4, 2) := by decide +kernel
theorem dX0_alarmAt_7 : decode cX0_alarmAt 7 = .ok (.aload_n 1, 1) := by decide +kernel
theorem dX0_alarmAt_8 : decode cX0_alarmAt 8 = .ok (.getfield 39, 3) := by decide +kernel
theorem dX0_alarmAt_11 : decode cX0_alarmAt 11 = .ok (.if_icmp .ge 29, 3) := by decide +kernel
theorem dX0_alarmAt_14 : decode cX0_alarmAt 14 = .ok (.aload_n 0, 1) := by decide +kernel
theorem dX0_alarmAt_15 : decode cX0_alarmAt 15 = .ok (.aload_n 1, 1) := by decide +kernel
theorem dX0_alarmAt_16 : decode cX0_alarmAt 16 = .ok (.iload 4, 2) := by decide +kernel
theorem dX0_alarmAt_18 : decode cX0_alarmAt 18 = .ok (.invokevirtual 96, 3) := by decide +kernel
theorem dX0_alarmAt_21 : decode cX0_alarmAt 21 = .ok (.ifCond .eq 13, 3) := by decide +kernel
theorem dX0_alarmAt_24 : decode cX0_alarmAt 24 = .ok (.iload_n 3, 1) := by decide +kernel
theorem dX0_alarmAt_25 : decode cX0_alarmAt 25 = .ok (.ifCond .ne 6, 3) := by decide +kernel
theorem dX0_alarmAt_28 : decode cX0_alarmAt 28 = .ok (.iload 4, 2) := by decide +kernel
theorem dX0_alarmAt_30 : decode cX0_alarmAt 30 = .ok (.ireturn, 1) := by decide +kernel
theorem dX0_alarmAt_31 : decode cX0_alarmAt 31 = .ok (.iinc 3 (-1), 3) := by decide +kernel
theorem dX0_alarmAt_34 : decode cX0_alarmAt 34 = .ok (.iinc 4 1, 3) := by decide +kernel
theorem dX0_alarmAt_37 : decode cX0_alarmAt 37 = .ok (.goto (-32), 3) := by decide +kernel
theorem dX0_alarmAt_40 : decode cX0_alarmAt 40 = .ok (.iconst (-1), 1) := by decide +kernel
theorem dX0_alarmAt_41 : decode cX0_alarmAt 41 = .ok (.ireturn, 1) := by decide +kernel
set_option maxRecDepth 20000 in
theorem ggX0_accepts_X0_alarmAt : GoodIn wsX0_accepts wsX0_alarmAt := goodIn_r _ [5, 6, 7, 8, 4, 9, 10, 11, 12, 13, 14, 15, 16, 17, 18, 19, 20, 21, 22, 23, 24, 25, 26, 27, 28, 29, 30, 31, 32] (by decide +kernel) (by decide +kernel)
set_option maxRecDepth 20000 in
theorem gX0_accepts_X0_alarmAt : GoodIn wsX0_accepts (wsV RX0 100 RX0 yX0_alarmAt wsX0_alarmAt) := goodIn_app (goodIn_of _ (by decide +kernel)) ggX0_accepts_X0_alarmAt
theorem dX0_accepts_0 : decode cX0_accepts 0 = .ok (.aload_n 0, 1) := by decide +kernel
theorem dX0_accepts_1 : decode cX0_accepts 1 = .ok (.aload_n 1, 1) := by decide +kernel
theorem dX0_accepts_2 : decode cX0_accepts 2 = .ok (.iconst 0, 1) := by decide +kernel
theorem dX0_accepts_3 : decode cX0_accepts 3 = .ok (.invokevirtual 100, 3) := by decide +kernel
theorem dX0_accepts_6 : decode cX0_accepts 6 = .ok (.iconst (-1), 1) := by decide +kernel
theorem dX0_accepts_7 : decode cX0_accepts 7 = .ok (.if_icmp .ne 7, 3) := by decide +kernel
theorem dX0_accepts_10 : decode cX0_accepts 10 = .ok (.iconst 1, 1) := by decide +kernel
theorem dX0_accepts_11 : decode cX0_accepts 11 = .ok (.goto 4, 3) := by decide +kernel
theorem dX0_accepts_14 : decode cX0_accepts 14 = .ok (.iconst 0, 1) := by decide +kernel
theorem dX0_accepts_15 : decode cX0_accepts 15 = .ok (.ireturn, 1) := by decide +kernel
set_option maxRecDepth 20000 in
theorem ggX0_givesAlarm_X2_partOf : GoodIn wsX0_givesAlarm wsX2_partOf := goodIn_r _ [6, 7, 20, 21, 22, 23, 24] (by decide +kernel) (by decide +kernel)
set_option maxRecDepth 20000 in
theorem gX0_givesAlarm_X2_partOf : GoodIn wsX0_givesAlarm (wsV RX0 55 RX2 yX2_partOf wsX2_partOf) := goodIn_app (goodIn_of _ (by decide +kernel)) ggX0_givesAlarm_X2_partOf
set_option maxRecDepth 20000 in
theorem ggX0_givesAlarm_X0_taintOf : GoodIn wsX0_givesAlarm wsX0_taintOf := goodIn_r _ [12, 13, 14, 15, 16, 17, 18, 19] (by decide +kernel) (by decide +kernel)
set_option maxRecDepth 20000 in
theorem gX0_givesAlarm_X0_taintOf : GoodIn wsX0_givesAlarm (wsV RX0 104 RX0 yX0_taintOf wsX0_taintOf) := goodIn_app (goodIn_of _ (by decide +kernel)) ggX0_givesAlarm_X0_taintOf
theorem dX0_givesAlarm_0 : decode cX0_givesAlarm 0 = .ok (.aload_n 0, 1) := by decide +kernel
theorem dX0_givesAlarm_1 : decode cX0_givesAlarm 1 = .ok (.getfield 11, 3) := by decide +kernel
theorem dX0_givesAlarm_4 : decode cX0_givesAlarm 4 = .ok (.iload_n 2, 1) := by decide +kernel
theorem dX0_givesAlarm_5 : decode cX0_givesAlarm 5 = .ok (.baload, 1) := by decide +kernel
theorem dX0_givesAlarm_6 : decode cX0_givesAlarm 6 = .ok (.ifCond .ne 5, 3) := by decide +kernel
theorem dX0_givesAlarm_9 : decode cX0_givesAlarm 9 = .ok (.iconst 0, 1) := by decide +kernel
theorem dX0_givesAlarm_10 : decode cX0_givesAlarm 10 = .ok (.ireturn, 1) := by decide +kernel
theorem dX0_givesAlarm_11 : decode cX0_givesAlarm 11 = .ok (.aload_n 0, 1) := by decide +kernel
theorem dX0_givesAlarm_12 : decode cX0_givesAlarm 12 = .ok (.iload_n 2, 1) := by decide +kernel
theorem dX0_givesAlarm_13 : decode cX0_givesAlarm 13 = .ok (.aload_n 1, 1) := by decide +kernel
theorem dX0_givesAlarm_14 : decode cX0_givesAlarm 14 = .ok (.iload_n 2, 1) := by decide +kernel
theorem dX0_givesAlarm_15 : decode cX0_givesAlarm 15 = .ok (.iconst 1, 1) := by decide +kernel
theorem dX0_givesAlarm_16 : decode cX0_givesAlarm 16 = .ok (.invokevirtual 55, 3) := by decide +kernel
theorem dX0_givesAlarm_19 : decode cX0_givesAlarm 19 = .ok (.invokevirtual 104, 3) := by decide +kernel
theorem dX0_givesAlarm_22 : decode cX0_givesAlarm 22 = .ok (.istore_n 3, 1) := by decide +kernel
theorem dX0_givesAlarm_23 : decode cX0_givesAlarm 23 = .ok (.aload_n 1, 1) := by decide +kernel
theorem dX0_givesAlarm_24 : decode cX0_givesAlarm 24 = .ok (.iload_n 2, 1) := by decide +kernel
theorem dX0_givesAlarm_25 : decode cX0_givesAlarm 25 = .ok (.iconst 0, 1) := by decide +kernel
theorem dX0_givesAlarm_26 : decode cX0_givesAlarm 26 = .ok (.invokevirtual 55, 3) := by decide +kernel
theorem dX0_givesAlarm_29 : decode cX0_givesAlarm 29 = .ok (.tableswitch 85 5 7 #[27, 48, 74], 27) := by decide +kernel
theorem dX0_givesAlarm_56 : decode cX0_givesAlarm 56 = .ok (.aload_n 0, 1) := by decide +kernel
theorem dX0_givesAlarm_57 : decode cX0_givesAlarm 57 = .ok (.iload_n 2, 1) := by decide +kernel
theorem dX0_givesAlarm_58 : decode cX0_givesAlarm 58 = .ok (.aload_n 1, 1) := by decide +kernel
theorem dX0_givesAlarm_59 : decode cX0_givesAlarm 59 = .ok (.iload_n 2, 1) := by decide +kernel
theorem dX0_givesAlarm_60 : decode cX0_givesAlarm 60 = .ok (.iconst 2, 1) := by decide +kernel
theorem dX0_givesAlarm_61 : decode cX0_givesAlarm 61 = .ok (.invokevirtual 55, 3) := by decide +kernel
theorem dX0_givesAlarm_64 : decode cX0_givesAlarm 64 = .ok (.invokevirtual 104, 3) := by decide +kernel
theorem dX0_givesAlarm_67 : decode cX0_givesAlarm 67 = .ok (.iconst 1, 1) := by decide +kernel
theorem dX0_givesAlarm_68 : decode cX0_givesAlarm 68 = .ok (.if_icmp .ne 7, 3) := by decide +kernel
theorem dX0_givesAlarm_71 : decode cX0_givesAlarm 71 = .ok (.iconst 1, 1) := by decide +kernel
theorem dX0_givesAlarm_72 : decode cX0_givesAlarm 72 = .ok (.goto 4, 3) := by decide +kernel
theorem dX0_givesAlarm_75 : decode cX0_givesAlarm 75 = .ok (.iconst 0, 1) := by decide +kernel
theorem dX0_givesAlarm_76 : decode cX0_givesAlarm 76 = .ok (.ireturn, 1) := by decide +kernel
theorem dX0_givesAlarm_77 : decode cX0_givesAlarm 77 = .ok (.iload_n 3, 1) := by decide +kernel
theorem dX0_givesAlarm_78 : decode cX0_givesAlarm 78 = .ok (.iconst 1, 1) := by decide +kernel
theorem dX0_givesAlarm_79 : decode cX0_givesAlarm 79 = .ok (.if_icmp .eq 18, 3) := by decide +kernel
theorem dX0_givesAlarm_82 : decode cX0_givesAlarm 82 = .ok (.aload_n 0, 1) := by decide +kernel
theorem dX0_givesAlarm_83 : decode cX0_givesAlarm 83 = .ok (.iload_n 2, 1) := by decide +kernel
theorem dX0_givesAlarm_84 : decode cX0_givesAlarm 84 = .ok (.aload_n 1, 1) := by decide +kernel
theorem dX0_givesAlarm_85 : decode cX0_givesAlarm 85 = .ok (.iload_n 2, 1) := by decide +kernel
theorem dX0_givesAlarm_86 : decode cX0_givesAlarm 86 = .ok (.iconst 2, 1) := by decide +kernel
theorem dX0_givesAlarm_87 : decode cX0_givesAlarm 87 = .ok (.invokevirtual 55, 3) := by decide +kernel
theorem dX0_givesAlarm_90 : decode cX0_givesAlarm 90 = .ok (.invokevirtual 104, 3) := by decide +kernel
theorem dX0_givesAlarm_93 : decode cX0_givesAlarm 93 = .ok (.iconst 1, 1) := by decide +kernel
theorem dX0_givesAlarm_94 : decode cX0_givesAlarm 94 = .ok (.if_icmp .ne 7, 3) := by decide +kernel
theorem dX0_givesAlarm_97 : decode cX0_givesAlarm 97 = .ok (.iconst 1, 1) := by decide +kernel
theorem dX0_givesAlarm_98 : decode cX0_givesAlarm 98 = .ok (.goto 4, 3) := by decide +kernel
theorem dX0_givesAlarm_101 : decode cX0_givesAlarm 101 = .ok (.iconst 0, 1) := by decide +kernel
theorem dX0_givesAlarm_102 : decode cX0_givesAlarm 102 = .ok (.ireturn, 1) := by decide +kernel
theorem dX0_givesAlarm_103 : decode cX0_givesAlarm 103 = .ok (.iload_n 3, 1) := by decide +kernel
theorem dX0_givesAlarm_104 : decode cX0_givesAlarm 104 = .ok (.iconst 1, 1) := by decide +kernel
theorem dX0_givesAlarm_105 : decode cX0_givesAlarm 105 = .ok (.if_icmp .ne 7, 3) := by decide +kernel
theorem dX0_givesAlarm_108 : decode cX0_givesAlarm 108 = .ok (.iconst 1, 1) := by decide +kernel
theorem dX0_givesAlarm_109 : decode cX0_givesAlarm 109 = .ok (.goto 4, 3) := by decide +kernel
theorem dX0_givesAlarm_112 : decode cX0_givesAlarm 112 = .ok (.iconst 0, 1) := by decide +kernel
theorem dX0_givesAlarm_113 : decode cX0_givesAlarm 113 = .ok (.ireturn, 1) := by decide +kernel
theorem dX0_givesAlarm_114 : decode cX0_givesAlarm 114 = .ok (.iconst 0, 1) := by decide +kernel
theorem dX0_givesAlarm_115 : decode cX0_givesAlarm 115 = .ok (.ireturn, 1) := by decide +kernel
set_option maxRecDepth 20000 in
theorem ggX0_mixInto_X0_taintOf : GoodIn wsX0_mixInto wsX0_taintOf := goodIn_r _ [7, 8, 14, 15, 16, 17, 18, 19] (by decide +kernel) (by decide +kernel)
set_option maxRecDepth 20000 in
theorem gX0_mixInto_X0_taintOf : GoodIn wsX0_mixInto (wsV RX0 104 RX0 yX0_taintOf wsX0_taintOf) := goodIn_app (goodIn_of _ (by decide +kernel)) ggX0_mixInto_X0_taintOf
set_option maxRecDepth 20000 in
theorem ggX0_mixInto_X0_knownOf : GoodIn wsX0_mixInto wsX0_knownOf := goodIn_r _ [12, 13, 14, 15, 16, 17, 18, 19] (by decide +kernel) (by decide +kernel)
set_option maxRecDepth 20000 in
theorem gX0_mixInto_X0_knownOf : GoodIn wsX0_mixInto (wsV RX0 109 RX0 yX0_knownOf wsX0_knownOf) := goodIn_app (goodIn_of _ (by decide +kernel)) ggX0_mixInto_X0_knownOf
theorem dX0_mixInto_0 : decode cX0_mixInto 0 = .ok (.iconst 0, 1) := by decide +kernel
theorem dX0_mixInto_1 : decode cX0_mixInto 1 = .ok (.istore 4, 2) := by decide +kernel
theorem dX0_mixInto_3 : decode cX0_mixInto 3 = .ok (.iload 4, 2) := by decide +kernel
theorem dX0_mixInto_5 : decode cX0_mixInto 5 = .ok (.iload_n 3, 1) := by decide +kernel
theorem dX0_mixInto_6 : decode cX0_mixInto 6 = .ok (.if_icmp .gt 77, 3) := by decide +kernel
theorem dX0_mixInto_9 : decode cX0_mixInto 9 = .ok (.aload_n 0, 1) := by decide +kernel
theorem dX0_mixInto_10 : decode cX0_mixInto 10 = .ok (.getfield 11, 3) := by decide +kernel
theorem dX0_mixInto_13 : decode cX0_mixInto 13 = .ok (.iload 4, 2) := by decide +kernel
theorem dX0_mixInto_15 : decode cX0_mixInto 15 = .ok (.baload, 1) := by decide +kernel
theorem dX0_mixInto_16 : decode cX0_mixInto 16 = .ok (.ifCond .eq 61, 3) := by decide +kernel
theorem dX0_mixInto_19 : decode cX0_mixInto 19 = .ok (.ldc2_w 107, 3) := by decide +kernel
theorem dX0_mixInto_22 : decode cX0_mixInto 22 = .ok (.lload_n 1, 1) := by decide +kernel
theorem dX0_mixInto_23 : decode cX0_mixInto 23 = .ok (.lmul, 1) := by decide +kernel
theorem dX0_mixInto_24 : decode cX0_mixInto 24 = .ok (.iload 4, 2) := by decide +kernel
theorem dX0_mixInto_26 : decode cX0_mixInto 26 = .ok (.i2l, 1) := by decide +kernel
theorem dX0_mixInto_27 : decode cX0_mixInto 27 = .ok (.ladd, 1) := by decide +kernel
theorem dX0_mixInto_28 : decode cX0_mixInto 28 = .ok (.lstore_n 1, 1) := by decide +kernel
theorem dX0_mixInto_29 : decode cX0_mixInto 29 = .ok (.iconst 0, 1) := by decide +kernel
theorem dX0_mixInto_30 : decode cX0_mixInto 30 = .ok (.istore 5, 2) := by decide +kernel
theorem dX0_mixInto_32 : decode cX0_mixInto 32 = .ok (.iload 5, 2) := by decide +kernel
theorem dX0_mixInto_34 : decode cX0_mixInto 34 = .ok (.bipush 6, 2) := by decide +kernel
theorem dX0_mixInto_36 : decode cX0_mixInto 36 = .ok (.if_icmp .ge 41, 3) := by decide +kernel
theorem dX0_mixInto_39 : decode cX0_mixInto 39 = .ok (.ldc2_w 107, 3) := by decide +kernel
theorem dX0_mixInto_42 : decode cX0_mixInto 42 = .ok (.lload_n 1, 1) := by decide +kernel
theorem dX0_mixInto_43 : decode cX0_mixInto 43 = .ok (.lmul, 1) := by decide +kernel
theorem dX0_mixInto_44 : decode cX0_mixInto 44 = .ok (.aload_n 0, 1) := by decide +kernel
theorem dX0_mixInto_45 : decode cX0_mixInto 45 = .ok (.iload 4, 2) := by decide +kernel
theorem dX0_mixInto_47 : decode cX0_mixInto 47 = .ok (.iload 5, 2) := by decide +kernel
theorem dX0_mixInto_49 : decode cX0_mixInto 49 = .ok (.invokevirtual 104, 3) := by decide +kernel
theorem dX0_mixInto_52 : decode cX0_mixInto 52 = .ok (.i2l, 1) := by decide +kernel
theorem dX0_mixInto_53 : decode cX0_mixInto 53 = .ok (.ladd, 1) := by decide +kernel
theorem dX0_mixInto_54 : decode cX0_mixInto 54 = .ok (.lstore_n 1, 1) := by decide +kernel
theorem dX0_mixInto_55 : decode cX0_mixInto 55 = .ok (.ldc2_w 107, 3) := by decide +kernel
theorem dX0_mixInto_58 : decode cX0_mixInto 58 = .ok (.lload_n 1, 1) := by decide +kernel
theorem dX0_mixInto_59 : decode cX0_mixInto 59 = .ok (.lmul, 1) := by decide +kernel
theorem dX0_mixInto_60 : decode cX0_mixInto 60 = .ok (.aload_n 0, 1) := by decide +kernel
theorem dX0_mixInto_61 : decode cX0_mixInto 61 = .ok (.iload 4, 2) := by decide +kernel
theorem dX0_mixInto_63 : decode cX0_mixInto 63 = .ok (.iload 5, 2) := by decide +kernel
theorem dX0_mixInto_65 : decode cX0_mixInto 65 = .ok (.invokevirtual 109, 3) := by decide +kernel
theorem dX0_mixInto_68 : decode cX0_mixInto 68 = .ok (.i2l, 1) := by decide +kernel
theorem dX0_mixInto_69 : decode cX0_mixInto 69 = .ok (.ladd, 1) := by decide +kernel
theorem dX0_mixInto_70 : decode cX0_mixInto 70 = .ok (.lstore_n 1, 1) := by decide +kernel
theorem dX0_mixInto_71 : decode cX0_mixInto 71 = .ok (.iinc 5 1, 3) := by decide +kernel
theorem dX0_mixInto_74 : decode cX0_mixInto 74 = .ok (.goto (-42), 3) := by decide +kernel
theorem dX0_mixInto_77 : decode cX0_mixInto 77 = .ok (.iinc 4 1, 3) := by decide +kernel
theorem dX0_mixInto_80 : decode cX0_mixInto 80 = .ok (.goto (-77), 3) := by decide +kernel
theorem dX0_mixInto_83 : decode cX0_mixInto 83 = .ok (.lload_n 1, 1) := by decide +kernel
theorem dX0_mixInto_84 : decode cX0_mixInto 84 = .ok (.lreturn, 1) := by decide +kernel
set_option maxRecDepth 20000 in
theorem ggX1_init_X2_init : GoodIn wsX1_init wsX2_init := goodIn_r _ [10, 11, 2, 3, 12, 13, 14, 15, 19, 20, 21, 22, 23] (by decide +kernel) (by decide +kernel)
set_option maxRecDepth 20000 in
theorem gX1_init_X2_init : GoodIn wsX1_init (wsX2_init) := ggX1_init_X2_init
theorem dX1_init_0 : decode cX1_init 0 = .ok (.aload_n 0, 1) := by decide +kernel
theorem dX1_init_1 : decode cX1_init 1 = .ok (.invokespecial 3, 3) := by decide +kernel
theorem dX1_init_4 : decode cX1_init 4 = .ok (.aload_n 0, 1) := by decide +kernel
theorem dX1_init_5 : decode cX1_init 5 = .ok (.iconst 5, 1) := by decide +kernel
theorem dX1_init_6 : decode cX1_init 6 = .ok (.anewarray 9, 3) := by decide +kernel
theorem dX1_init_9 : decode cX1_init 9 = .ok (.putfield 11, 3) := by decide +kernel
theorem dX1_init_12 : decode cX1_init 12 = .ok (.iconst 0, 1) := by decide +kernel
theorem dX1_init_13 : decode cX1_init 13 = .ok (.istore_n 1, 1) := by decide +kernel
theorem dX1_init_14 : decode cX1_init 14 = .ok (.iload_n 1, 1) := by decide +kernel
theorem dX1_init_15 : decode cX1_init 15 = .ok (.iconst 5, 1) := by decide +kernel
theorem dX1_init_16 : decode cX1_init 16 = .ok (.if_icmp .ge 22, 3) := by decide +kernel
theorem dX1_init_19 : decode cX1_init 19 = .ok (.aload_n 0, 1) := by decide +kernel
theorem dX1_init_20 : decode cX1_init 20 = .ok (.getfield 11, 3) := by decide +kernel
theorem dX1_init_23 : decode cX1_init 23 = .ok (.iload_n 1, 1) := by decide +kernel
theorem dX1_init_24 : decode cX1_init 24 = .ok (.new 9, 3) := by decide +kernel
theorem dX1_init_27 : decode cX1_init 27 = .ok (.dup, 1) := by decide +kernel
theorem dX1_init_28 : decode cX1_init 28 = .ok (.invokespecial 17, 3) := by decide +kernel
theorem dX1_init_31 : decode cX1_init 31 = .ok (.aastore, 1) := by decide +kernel
theorem dX1_init_32 : decode cX1_init 32 = .ok (.iinc 1 1, 3) := by decide +kernel
theorem dX1_init_35 : decode cX1_init 35 = .ok (.goto (-21), 3) := by decide +kernel
theorem dX1_init_38 : decode cX1_init 38 = .ok (.return_, 1) := by decide +kernel
set_option maxRecDepth 20000 in
theorem ggX1_keep_X1_copy : GoodIn wsX1_keep wsX1_copy := goodIn_r _ [7, 8, 9, 10, 11, 12, 13, 14, 15, 16, 17, 18, 19, 20, 21, 25, 26, 27, 28, 29] (by decide +kernel) (by decide +kernel)
set_option maxRecDepth 20000 in
theorem gX1_keep_X1_copy : GoodIn wsX1_keep (va_wsS RX1 25 yX1_copy wsX1_copy) := goodIn_app (goodIn_of _ (by decide +kernel)) ggX1_keep_X1_copy
theorem dX1_keep_0 : decode cX1_keep 0 = .ok (.aload_n 1, 1) := by decide +kernel
theorem dX1_keep_1 : decode cX1_keep 1 = .ok (.aload_n 0, 1) := by decide +kernel
theorem dX1_keep_2 : decode cX1_keep 2 = .ok (.getfield 11, 3) := by decide +kernel
theorem dX1_keep_5 : decode cX1_keep 5 = .ok (.aload_n 0, 1) := by decide +kernel
theorem dX1_keep_6 : decode cX1_keep 6 = .ok (.getfield 18, 3) := by decide +kernel
theorem dX1_keep_9 : decode cX1_keep 9 = .ok (.aload_n 0, 1) := by decide +kernel
theorem dX1_keep_10 : decode cX1_keep 10 = .ok (.getfield 22, 3) := by decide +kernel
theorem dX1_keep_13 : decode cX1_keep 13 = .ok (.iadd, 1) := by decide +kernel
theorem dX1_keep_14 : decode cX1_keep 14 = .ok (.iconst 5, 1) := by decide +kernel
theorem dX1_keep_15 : decode cX1_keep 15 = .ok (.irem, 1) := by decide +kernel
theorem dX1_keep_16 : decode cX1_keep 16 = .ok (.aaload, 1) := by decide +kernel
theorem dX1_keep_17 : decode cX1_keep 17 = .ok (.invokestatic 25, 3) := by decide +kernel
theorem dX1_keep_20 : decode cX1_keep 20 = .ok (.aload_n 0, 1) := by decide +kernel
theorem dX1_keep_21 : decode cX1_keep 21 = .ok (.getfield 22, 3) := by decide +kernel
theorem dX1_keep_24 : decode cX1_keep 24 = .ok (.iconst 5, 1) := by decide +kernel
theorem dX1_keep_25 : decode cX1_keep 25 = .ok (.if_icmp .ge 16, 3) := by decide +kernel
theorem dX1_keep_28 : decode cX1_keep 28 = .ok (.aload_n 0, 1) := by decide +kernel
theorem dX1_keep_29 : decode cX1_keep 29 = .ok (.dup, 1) := by decide +kernel
theorem dX1_keep_30 : decode cX1_keep 30 = .ok (.getfield 22, 3) := by decide +kernel
theorem dX1_keep_33 : decode cX1_keep 33 = .ok (.iconst 1, 1) := by decide +kernel
theorem dX1_keep_34 : decode cX1_keep 34 = .ok (.iadd, 1) := by decide +kernel
theorem dX1_keep_35 : decode cX1_keep 35 = .ok (.putfield 22, 3) := by decide +kernel
theorem dX1_keep_38 : decode cX1_keep 38 = .ok (.goto 15, 3) := by decide +kernel
theorem dX1_keep_41 : decode cX1_keep 41 = .ok (.aload_n 0, 1) := by decide +kernel
theorem dX1_keep_42 : decode cX1_keep 42 = .ok (.aload_n 0, 1) := by decide +kernel
theorem dX1_keep_43 : decode cX1_keep 43 = .ok (.getfield 18, 3) := by decide +kernel
theorem dX1_keep_46 : decode cX1_keep 46 = .ok (.iconst 1, 1) := by decide +kernel
theorem dX1_keep_47 : decode cX1_keep 47 = .ok (.iadd, 1) := by decide +kernel
theorem dX1_keep_48 : decode cX1_keep 48 = .ok (.iconst 5, 1) := by decide +kernel
theorem dX1_keep_49 : decode cX1_keep 49 = .ok (.irem, 1) := by decide +kernel
theorem dX1_keep_50 : decode cX1_keep 50 = .ok (.putfield 18, 3) := by decide +kernel
theorem dX1_keep_53 : decode cX1_keep 53 = .ok (.return_, 1) := by decide +kernel
set_option maxRecDepth 20000 in
theorem ggX1_restore_X1_copy : GoodIn wsX1_restore wsX1_copy := goodIn_r _ [7, 8, 9, 10, 11, 12, 13, 14, 15, 16, 17, 18, 19, 20, 21, 25, 26, 27, 28, 29] (by decide +kernel) (by decide +kernel)
set_option maxRecDepth 20000 in
theorem gX1_restore_X1_copy : GoodIn wsX1_restore (va_wsS RX1 25 yX1_copy wsX1_copy) := goodIn_app (goodIn_of _ (by decide +kernel)) ggX1_restore_X1_copy
theorem dX1_restore_0 : decode cX1_restore 0 = .ok (.aload_n 0, 1) := by decide +kernel
theorem dX1_restore_1 : decode cX1_restore 1 = .ok (.getfield 22, 3) := by decide +kernel
theorem dX1_restore_4 : decode cX1_restore 4 = .ok (.ifCond .ne 4, 3) := by decide +kernel
theorem dX1_restore_7 : decode cX1_restore 7 = .ok (.return_, 1) := by decide +kernel
theorem dX1_restore_8 : decode cX1_restore 8 = .ok (.aload_n 0, 1) := by decide +kernel
theorem dX1_restore_9 : decode cX1_restore 9 = .ok (.dup, 1) := by decide +kernel
theorem dX1_restore_10 : decode cX1_restore 10 = .ok (.getfield 22, 3) := by decide +kernel
theorem dX1_restore_13 : decode cX1_restore 13 = .ok (.iconst 1, 1) := by decide +kernel
theorem dX1_restore_14 : decode cX1_restore 14 = .ok (.isub, 1) := by decide +kernel
theorem dX1_restore_15 : decode cX1_restore 15 = .ok (.putfield 22, 3) := by decide +kernel
theorem dX1_restore_18 : decode cX1_restore 18 = .ok (.aload_n 0, 1) := by decide +kernel
theorem dX1_restore_19 : decode cX1_restore 19 = .ok (.getfield 11, 3) := by decide +kernel
theorem dX1_restore_22 : decode cX1_restore 22 = .ok (.aload_n 0, 1) := by decide +kernel
theorem dX1_restore_23 : decode cX1_restore 23 = .ok (.getfield 18, 3) := by decide +kernel
theorem dX1_restore_26 : decode cX1_restore 26 = .ok (.aload_n 0, 1) := by decide +kernel
theorem dX1_restore_27 : decode cX1_restore 27 = .ok (.getfield 22, 3) := by decide +kernel
theorem dX1_restore_30 : decode cX1_restore 30 = .ok (.iadd, 1) := by decide +kernel
theorem dX1_restore_31 : decode cX1_restore 31 = .ok (.iconst 5, 1) := by decide +kernel
theorem dX1_restore_32 : decode cX1_restore 32 = .ok (.irem, 1) := by decide +kernel
theorem dX1_restore_33 : decode cX1_restore 33 = .ok (.aaload, 1) := by decide +kernel
theorem dX1_restore_34 : decode cX1_restore 34 = .ok (.aload_n 1, 1) := by decide +kernel
theorem dX1_restore_35 : decode cX1_restore 35 = .ok (.invokestatic 25, 3) := by decide +kernel
theorem dX1_restore_38 : decode cX1_restore 38 = .ok (.return_, 1) := by decide +kernel
set_option maxRecDepth 20000 in
theorem ggX1_copy_X2_copyFrom : GoodIn wsX1_copy wsX2_copyFrom := goodIn_r _ [5, 6, 7, 8, 9, 10, 11, 12, 13, 14, 15, 16, 17, 18, 19] (by decide +kernel) (by decide +kernel)
set_option maxRecDepth 20000 in
theorem gX1_copy_X2_copyFrom : GoodIn wsX1_copy (wsV RX1 29 RX2 yX2_copyFrom wsX2_copyFrom) := goodIn_app (goodIn_of _ (by decide +kernel)) ggX1_copy_X2_copyFrom
theorem dX1_copy_0 : decode cX1_copy 0 = .ok (.aload_n 0, 1) := by decide +kernel
theorem dX1_copy_1 : decode cX1_copy 1 = .ok (.ifnull 12, 3) := by decide +kernel
theorem dX1_copy_4 : decode cX1_copy 4 = .ok (.aload_n 1, 1) := by decide +kernel
theorem dX1_copy_5 : decode cX1_copy 5 = .ok (.ifnull 8, 3) := by decide +kernel
theorem dX1_copy_8 : decode cX1_copy 8 = .ok (.aload_n 1, 1) := by decide +kernel
theorem dX1_copy_9 : decode cX1_copy 9 = .ok (.aload_n 0, 1) := by decide +kernel
theorem dX1_copy_10 : decode cX1_copy 10 = .ok (.invokevirtual 29, 3) := by decide +kernel
theorem dX1_copy_13 : decode cX1_copy 13 = .ok (.return_, 1) := by decide +kernel
theorem dX2_init_0 : decode cX2_init 0 = .ok (.aload_n 0, 1) := by decide +kernel
theorem dX2_init_1 : decode cX2_init 1 = .ok (.invokespecial 3, 3) := by decide +kernel
theorem dX2_init_4 : decode cX2_init 4 = .ok (.aload_n 0, 1) := by decide +kernel
theorem dX2_init_5 : decode cX2_init 5 = .ok (.bipush 80, 2) := by decide +kernel
theorem dX2_init_7 : decode cX2_init 7 = .ok (.newarray .int, 2) := by decide +kernel
theorem dX2_init_9 : decode cX2_init 9 = .ok (.putfield 9, 3) := by decide +kernel
theorem dX2_init_12 : decode cX2_init 12 = .ok (.aload_n 0, 1) := by decide +kernel
theorem dX2_init_13 : decode cX2_init 13 = .ok (.bipush 16, 2) := by decide +kernel
theorem dX2_init_15 : decode cX2_init 15 = .ok (.newarray .int, 2) := by decide +kernel
theorem dX2_init_17 : decode cX2_init 17 = .ok (.putfield 15, 3) := by decide +kernel
theorem dX2_init_20 : decode cX2_init 20 = .ok (.aload_n 0, 1) := by decide +kernel
theorem dX2_init_21 : decode cX2_init 21 = .ok (.bipush 6, 2) := by decide +kernel
theorem dX2_init_23 : decode cX2_init 23 = .ok (.newarray .int, 2) := by decide +kernel
theorem dX2_init_25 : decode cX2_init 25 = .ok (.putfield 18, 3) := by decide +kernel
theorem dX2_init_28 : decode cX2_init 28 = .ok (.iconst 0, 1) := by decide +kernel
theorem dX2_init_29 : decode cX2_init 29 = .ok (.istore_n 1, 1) := by decide +kernel
theorem dX2_init_30 : decode cX2_init 30 = .ok (.iload_n 1, 1) := by decide +kernel
theorem dX2_init_31 : decode cX2_init 31 = .ok (.bipush 16, 2) := by decide +kernel
theorem dX2_init_33 : decode cX2_init 33 = .ok (.if_icmp .ge 16, 3) := by decide +kernel
theorem dX2_init_36 : decode cX2_init 36 = .ok (.aload_n 0, 1) := by decide +kernel
theorem dX2_init_37 : decode cX2_init 37 = .ok (.getfield 15, 3) := by decide +kernel
theorem dX2_init_40 : decode cX2_init 40 = .ok (.iload_n 1, 1) := by decide +kernel
theorem dX2_init_41 : decode cX2_init 41 = .ok (.iload_n 1, 1) := by decide +kernel
theorem dX2_init_42 : decode cX2_init 42 = .ok (.iastore, 1) := by decide +kernel
theorem dX2_init_43 : decode cX2_init 43 = .ok (.iinc 1 1, 3) := by decide +kernel
theorem dX2_init_46 : decode cX2_init 46 = .ok (.goto (-16), 3) := by decide +kernel
theorem dX2_init_49 : decode cX2_init 49 = .ok (.return_, 1) := by decide +kernel
theorem dX2_copyFrom_0 : decode cX2_copyFrom 0 = .ok (.aload_n 1, 1) := by decide +kernel
theorem dX2_copyFrom_1 : decode cX2_copyFrom 1 = .ok (.getfield 9, 3) := by decide +kernel
theorem dX2_copyFrom_4 : decode cX2_copyFrom 4 = .ok (.iconst 0, 1) := by decide +kernel
theorem dX2_copyFrom_5 : decode cX2_copyFrom 5 = .ok (.aload_n 0, 1) := by decide +kernel
theorem dX2_copyFrom_6 : decode cX2_copyFrom 6 = .ok (.getfield 9, 3) := by decide +kernel
theorem dX2_copyFrom_9 : decode cX2_copyFrom 9 = .ok (.iconst 0, 1) := by decide +kernel
theorem dX2_copyFrom_10 : decode cX2_copyFrom 10 = .ok (.bipush 80, 2) := by decide +kernel
theorem dX2_copyFrom_12 : decode cX2_copyFrom 12 = .ok (.invokestatic 21, 3) := by decide +kernel
theorem dX2_copyFrom_15 : decode cX2_copyFrom 15 = .ok (.aload_n 1, 1) := by decide +kernel
theorem dX2_copyFrom_16 : decode cX2_copyFrom 16 = .ok (.getfield 15, 3) := by decide +kernel
theorem dX2_copyFrom_19 : decode cX2_copyFrom 19 = .ok (.iconst 0, 1) := by decide +kernel
theorem dX2_copyFrom_20 : decode cX2_copyFrom 20 = .ok (.aload_n 0, 1) := by decide +kernel
theorem dX2_copyFrom_21 : decode cX2_copyFrom 21 = .ok (.getfield 15, 3) := by decide +kernel
theorem dX2_copyFrom_24 : decode cX2_copyFrom 24 = .ok (.iconst 0, 1) := by decide +kernel
theorem dX2_copyFrom_25 : decode cX2_copyFrom 25 = .ok (.bipush 16, 2) := by decide +kernel
theorem dX2_copyFrom_27 : decode cX2_copyFrom 27 = .ok (.invokestatic 21, 3) := by decide +kernel
theorem dX2_copyFrom_30 : decode cX2_copyFrom 30 = .ok (.aload_n 1, 1) := by decide +kernel
theorem dX2_copyFrom_31 : decode cX2_copyFrom 31 = .ok (.getfield 18, 3) := by decide +kernel
theorem dX2_copyFrom_34 : decode cX2_copyFrom 34 = .ok (.iconst 0, 1) := by decide +kernel
theorem dX2_copyFrom_35 : decode cX2_copyFrom 35 = .ok (.aload_n 0, 1) := by decide +kernel
theorem dX2_copyFrom_36 : decode cX2_copyFrom 36 = .ok (.getfield 18, 3) := by decide +kernel
theorem dX2_copyFrom_39 : decode cX2_copyFrom 39 = .ok (.iconst 0, 1) := by decide +kernel
theorem dX2_copyFrom_40 : decode cX2_copyFrom 40 = .ok (.bipush 6, 2) := by decide +kernel
theorem dX2_copyFrom_42 : decode cX2_copyFrom 42 = .ok (.invokestatic 21, 3) := by decide +kernel
theorem dX2_copyFrom_45 : decode cX2_copyFrom 45 = .ok (.aload_n 0, 1) := by decide +kernel
theorem dX2_copyFrom_46 : decode cX2_copyFrom 46 = .ok (.aload_n 1, 1) := by decide +kernel
theorem dX2_copyFrom_47 : decode cX2_copyFrom 47 = .ok (.getfield 27, 3) := by decide +kernel
theorem dX2_copyFrom_50 : decode cX2_copyFrom 50 = .ok (.putfield 27, 3) := by decide +kernel
theorem dX2_copyFrom_53 : decode cX2_copyFrom 53 = .ok (.aload_n 0, 1) := by decide +kernel
theorem dX2_copyFrom_54 : decode cX2_copyFrom 54 = .ok (.aload_n 1, 1) := by decide +kernel
theorem dX2_copyFrom_55 : decode cX2_copyFrom 55 = .ok (.getfield 31, 3) := by decide +kernel
theorem dX2_copyFrom_58 : decode cX2_copyFrom 58 = .ok (.putfield 31, 3) := by decide +kernel
theorem dX2_copyFrom_61 : decode cX2_copyFrom 61 = .ok (.return_, 1) := by decide +kernel
set_option maxRecDepth 20000 in
theorem ggX2_addLine_X2_fits : GoodIn wsX2_addLine wsX2_fits := goodIn_r _ [6, 7, 8, 9, 10, 11, 5, 12] (by decide +kernel) (by decide +kernel)
set_option maxRecDepth 20000 in
theorem gX2_addLine_X2_fits : GoodIn wsX2_addLine (va_wsS RX2 34 yX2_fits wsX2_fits) := goodIn_app (goodIn_of _ (by decide +kernel)) ggX2_addLine_X2_fits
theorem dX2_addLine_0 : decode cX2_addLine 0 = .ok (.iload_n 1, 1) := by decide +kernel
theorem dX2_addLine_1 : decode cX2_addLine 1 = .ok (.iload_n 2, 1) := by decide +kernel
theorem dX2_addLine_2 : decode cX2_addLine 2 = .ok (.iload_n 3, 1) := by decide +kernel
theorem dX2_addLine_3 : decode cX2_addLine 3 = .ok (.iload 4, 2) := by decide +kernel
theorem dX2_addLine_5 : decode cX2_addLine 5 = .ok (.invokestatic 34, 3) := by decide +kernel
theorem dX2_addLine_8 : decode cX2_addLine 8 = .ok (.ifCond .ne 6, 3) := by decide +kernel
theorem dX2_addLine_11 : decode cX2_addLine 11 = .ok (.bipush (-2), 2) := by decide +kernel
theorem dX2_addLine_13 : decode cX2_addLine 13 = .ok (.ireturn, 1) := by decide +kernel
theorem dX2_addLine_14 : decode cX2_addLine 14 = .ok (.aload_n 0, 1) := by decide +kernel
theorem dX2_addLine_15 : decode cX2_addLine 15 = .ok (.getfield 27, 3) := by decide +kernel
theorem dX2_addLine_18 : decode cX2_addLine 18 = .ok (.bipush 20, 2) := by decide +kernel
theorem dX2_addLine_20 : decode cX2_addLine 20 = .ok (.if_icmp .lt 6, 3) := by decide +kernel
theorem dX2_addLine_23 : decode cX2_addLine 23 = .ok (.bipush (-4), 2) := by decide +kernel
theorem dX2_addLine_25 : decode cX2_addLine 25 = .ok (.ireturn, 1) := by decide +kernel
theorem dX2_addLine_26 : decode cX2_addLine 26 = .ok (.aload_n 0, 1) := by decide +kernel
theorem dX2_addLine_27 : decode cX2_addLine 27 = .ok (.getfield 27, 3) := by decide +kernel
theorem dX2_addLine_30 : decode cX2_addLine 30 = .ok (.iconst 4, 1) := by decide +kernel
theorem dX2_addLine_31 : decode cX2_addLine 31 = .ok (.imul, 1) := by decide +kernel
theorem dX2_addLine_32 : decode cX2_addLine 32 = .ok (.istore 5, 2) := by decide +kernel
theorem dX2_addLine_34 : decode cX2_addLine 34 = .ok (.aload_n 0, 1) := by decide +kernel
theorem dX2_addLine_35 : decode cX2_addLine 35 = .ok (.getfield 9, 3) := by decide +kernel
theorem dX2_addLine_38 : decode cX2_addLine 38 = .ok (.iload 5, 2) := by decide +kernel
theorem dX2_addLine_40 : decode cX2_addLine 40 = .ok (.iload_n 1, 1) := by decide +kernel
theorem dX2_addLine_41 : decode cX2_addLine 41 = .ok (.iastore, 1) := by decide +kernel
theorem dX2_addLine_42 : decode cX2_addLine 42 = .ok (.aload_n 0, 1) := by decide +kernel
theorem dX2_addLine_43 : decode cX2_addLine 43 = .ok (.getfield 9, 3) := by decide +kernel
theorem dX2_addLine_46 : decode cX2_addLine 46 = .ok (.iload 5, 2) := by decide +kernel
theorem dX2_addLine_48 : decode cX2_addLine 48 = .ok (.iconst 1, 1) := by decide +kernel
theorem dX2_addLine_49 : decode cX2_addLine 49 = .ok (.iadd, 1) := by decide +kernel
theorem dX2_addLine_50 : decode cX2_addLine 50 = .ok (.iload_n 2, 1) := by decide +kernel
theorem dX2_addLine_51 : decode cX2_addLine 51 = .ok (.iastore, 1) := by decide +kernel
theorem dX2_addLine_52 : decode cX2_addLine 52 = .ok (.aload_n 0, 1) := by decide +kernel
theorem dX2_addLine_53 : decode cX2_addLine 53 = .ok (.getfield 9, 3) := by decide +kernel
theorem dX2_addLine_56 : decode cX2_addLine 56 = .ok (.iload 5, 2) := by decide +kernel
theorem dX2_addLine_58 : decode cX2_addLine 58 = .ok (.iconst 2, 1) := by decide +kernel
theorem dX2_addLine_59 : decode cX2_addLine 59 = .ok (.iadd, 1) := by decide +kernel
theorem dX2_addLine_60 : decode cX2_addLine 60 = .ok (.iload_n 3, 1) := by decide +kernel
theorem dX2_addLine_61 : decode cX2_addLine 61 = .ok (.iastore, 1) := by decide +kernel
theorem dX2_addLine_62 : decode cX2_addLine 62 = .ok (.aload_n 0, 1) := by decide +kernel
theorem dX2_addLine_63 : decode cX2_addLine 63 = .ok (.getfield 9, 3) := by decide +kernel
theorem dX2_addLine_66 : decode cX2_addLine 66 = .ok (.iload 5, 2) := by decide +kernel
theorem dX2_addLine_68 : decode cX2_addLine 68 = .ok (.iconst 3, 1) := by decide +kernel
theorem dX2_addLine_69 : decode cX2_addLine 69 = .ok (.iadd, 1) := by decide +kernel
theorem dX2_addLine_70 : decode cX2_addLine 70 = .ok (.iload 4, 2) := by decide +kernel
theorem dX2_addLine_72 : decode cX2_addLine 72 = .ok (.iastore, 1) := by decide +kernel
theorem dX2_addLine_73 : decode cX2_addLine 73 = .ok (.aload_n 0, 1) := by decide +kernel
theorem dX2_addLine_74 : decode cX2_addLine 74 = .ok (.dup, 1) := by decide +kernel
theorem dX2_addLine_75 : decode cX2_addLine 75 = .ok (.getfield 27, 3) := by decide +kernel
theorem dX2_addLine_78 : decode cX2_addLine 78 = .ok (.iconst 1, 1) := by decide +kernel
theorem dX2_addLine_79 : decode cX2_addLine 79 = .ok (.iadd, 1) := by decide +kernel
theorem dX2_addLine_80 : decode cX2_addLine 80 = .ok (.putfield 27, 3) := by decide +kernel
theorem dX2_addLine_83 : decode cX2_addLine 83 = .ok (.aload_n 0, 1) := by decide +kernel
theorem dX2_addLine_84 : decode cX2_addLine 84 = .ok (.getfield 27, 3) := by decide +kernel
theorem dX2_addLine_87 : decode cX2_addLine 87 = .ok (.iconst 1, 1) := by decide +kernel
theorem dX2_addLine_88 : decode cX2_addLine 88 = .ok (.isub, 1) := by decide +kernel
theorem dX2_addLine_89 : decode cX2_addLine 89 = .ok (.ireturn, 1) := by decide +kernel
set_option maxRecDepth 20000 in
theorem ggX2_fits_X6_within : GoodIn wsX2_fits wsX6_within := goodIn_r _ [3] (by decide +kernel) (by decide +kernel)
set_option maxRecDepth 20000 in
theorem gX2_fits_X6_within_n38 : GoodIn wsX2_fits (wsX6_within) := ggX2_fits_X6_within
set_option maxRecDepth 20000 in
theorem ggX2_fits_X2_endOfY : GoodIn wsX2_fits wsX2_endOfY := goodIn_r _ [7] (by decide +kernel) (by decide +kernel)
set_option maxRecDepth 20000 in
theorem gX2_fits_X2_endOfY : GoodIn wsX2_fits (va_wsS RX2 42 yX2_endOfY wsX2_endOfY) := goodIn_app (goodIn_of _ (by decide +kernel)) ggX2_fits_X2_endOfY
theorem dX2_fits_0 : decode cX2_fits 0 = .ok (.iload_n 0, 1) := by decide +kernel
theorem dX2_fits_1 : decode cX2_fits 1 = .ok (.bipush 9, 2) := by decide +kernel
theorem dX2_fits_3 : decode cX2_fits 3 = .ok (.invokestatic 38, 3) := by decide +kernel
theorem dX2_fits_6 : decode cX2_fits 6 = .ok (.ifCond .eq 12, 3) := by decide +kernel
theorem dX2_fits_9 : decode cX2_fits 9 = .ok (.iload_n 1, 1) := by decide +kernel
theorem dX2_fits_10 : decode cX2_fits 10 = .ok (.bipush 6, 2) := by decide +kernel
theorem dX2_fits_12 : decode cX2_fits 12 = .ok (.invokestatic 38, 3) := by decide +kernel
theorem dX2_fits_15 : decode cX2_fits 15 = .ok (.ifCond .ne 5, 3) := by decide +kernel
theorem dX2_fits_18 : decode cX2_fits 18 = .ok (.iconst 0, 1) := by decide +kernel
theorem dX2_fits_19 : decode cX2_fits 19 = .ok (.ireturn, 1) := by decide +kernel
theorem dX2_fits_20 : decode cX2_fits 20 = .ok (.iload_n 2, 1) := by decide +kernel
theorem dX2_fits_21 : decode cX2_fits 21 = .ok (.iload_n 0, 1) := by decide +kernel
theorem dX2_fits_22 : decode cX2_fits 22 = .ok (.invokestatic 42, 3) := by decide +kernel
theorem dX2_fits_25 : decode cX2_fits 25 = .ok (.invokestatic 38, 3) := by decide +kernel
theorem dX2_fits_28 : decode cX2_fits 28 = .ok (.ifCond .eq 26, 3) := by decide +kernel
theorem dX2_fits_31 : decode cX2_fits 31 = .ok (.iload_n 3, 1) := by decide +kernel
theorem dX2_fits_32 : decode cX2_fits 32 = .ok (.iload_n 0, 1) := by decide +kernel
theorem dX2_fits_33 : decode cX2_fits 33 = .ok (.bipush 8, 2) := by decide +kernel
theorem dX2_fits_35 : decode cX2_fits 35 = .ok (.if_icmp .ne 8, 3) := by decide +kernel
theorem dX2_fits_38 : decode cX2_fits 38 = .ok (.bipush 6, 2) := by decide +kernel
theorem dX2_fits_40 : decode cX2_fits 40 = .ok (.goto 4, 3) := by decide +kernel
theorem dX2_fits_43 : decode cX2_fits 43 = .ok (.iconst 1, 1) := by decide +kernel
theorem dX2_fits_44 : decode cX2_fits 44 = .ok (.invokestatic 38, 3) := by decide +kernel
theorem dX2_fits_47 : decode cX2_fits 47 = .ok (.ifCond .eq 7, 3) := by decide +kernel
theorem dX2_fits_50 : decode cX2_fits 50 = .ok (.iconst 1, 1) := by decide +kernel
theorem dX2_fits_51 : decode cX2_fits 51 = .ok (.goto 4, 3) := by decide +kernel
theorem dX2_fits_54 : decode cX2_fits 54 = .ok (.iconst 0, 1) := by decide +kernel
theorem dX2_fits_55 : decode cX2_fits 55 = .ok (.ireturn, 1) := by decide +kernel
theorem dX2_endOfY_0 : decode cX2_endOfY 0 = .ok (.iload_n 0, 1) := by decide +kernel
theorem dX2_endOfY_1 : decode cX2_endOfY 1 = .ok (.ifCond .ne 6, 3) := by decide +kernel
theorem dX2_endOfY_4 : decode cX2_endOfY 4 = .ok (.bipush 16, 2) := by decide +kernel
theorem dX2_endOfY_6 : decode cX2_endOfY 6 = .ok (.ireturn, 1) := by decide +kernel
theorem dX2_endOfY_7 : decode cX2_endOfY 7 = .ok (.iload_n 0, 1) := by decide +kernel
theorem dX2_endOfY_8 : decode cX2_endOfY 8 = .ok (.bipush 7, 2) := by decide +kernel
theorem dX2_endOfY_10 : decode cX2_endOfY 10 = .ok (.if_icmp .ne 8, 3) := by decide +kernel
theorem dX2_endOfY_13 : decode cX2_endOfY 13 = .ok (.bipush 21, 2) := by decide +kernel
theorem dX2_endOfY_15 : decode cX2_endOfY 15 = .ok (.goto 5, 3) := by decide +kernel
theorem dX2_endOfY_18 : decode cX2_endOfY 18 = .ok (.bipush 6, 2) := by decide +kernel
theorem dX2_endOfY_20 : decode cX2_endOfY 20 = .ok (.ireturn, 1) := by decide +kernel
set_option maxRecDepth 20000 in
theorem ggX2_dropLine_X6_within : GoodIn wsX2_dropLine wsX6_within := goodIn_r _ [5] (by decide +kernel) (by decide +kernel)
set_option maxRecDepth 20000 in
theorem gX2_dropLine_X6_within_n38 : GoodIn wsX2_dropLine (wsX6_within) := ggX2_dropLine_X6_within
theorem dX2_dropLine_0 : decode cX2_dropLine 0 = .ok (.iload_n 1, 1) := by decide +kernel
theorem dX2_dropLine_1 : decode cX2_dropLine 1 = .ok (.aload_n 0, 1) := by decide +kernel
theorem dX2_dropLine_2 : decode cX2_dropLine 2 = .ok (.getfield 27, 3) := by decide +kernel
theorem dX2_dropLine_5 : decode cX2_dropLine 5 = .ok (.invokestatic 38, 3) := by decide +kernel
theorem dX2_dropLine_8 : decode cX2_dropLine 8 = .ok (.ifCond .ne 6, 3) := by decide +kernel
theorem dX2_dropLine_11 : decode cX2_dropLine 11 = .ok (.bipush (-2), 2) := by decide +kernel
theorem dX2_dropLine_13 : decode cX2_dropLine 13 = .ok (.ireturn, 1) := by decide +kernel
theorem dX2_dropLine_14 : decode cX2_dropLine 14 = .ok (.aload_n 0, 1) := by decide +kernel
theorem dX2_dropLine_15 : decode cX2_dropLine 15 = .ok (.dup, 1) := by decide +kernel
theorem dX2_dropLine_16 : decode cX2_dropLine 16 = .ok (.getfield 27, 3) := by decide +kernel
theorem dX2_dropLine_19 : decode cX2_dropLine 19 = .ok (.iconst 1, 1) := by decide +kernel
theorem dX2_dropLine_20 : decode cX2_dropLine 20 = .ok (.isub, 1) := by decide +kernel
theorem dX2_dropLine_21 : decode cX2_dropLine 21 = .ok (.putfield 27, 3) := by decide +kernel
theorem dX2_dropLine_24 : decode cX2_dropLine 24 = .ok (.iload_n 1, 1) := by decide +kernel
theorem dX2_dropLine_25 : decode cX2_dropLine 25 = .ok (.iconst 4, 1) := by decide +kernel
theorem dX2_dropLine_26 : decode cX2_dropLine 26 = .ok (.imul, 1) := by decide +kernel
theorem dX2_dropLine_27 : decode cX2_dropLine 27 = .ok (.istore_n 2, 1) := by decide +kernel
theorem dX2_dropLine_28 : decode cX2_dropLine 28 = .ok (.iload_n 2, 1) := by decide +kernel
theorem dX2_dropLine_29 : decode cX2_dropLine 29 = .ok (.aload_n 0, 1) := by decide +kernel
theorem dX2_dropLine_30 : decode cX2_dropLine 30 = .ok (.getfield 27, 3) := by decide +kernel
theorem dX2_dropLine_33 : decode cX2_dropLine 33 = .ok (.iconst 4, 1) := by decide +kernel
theorem dX2_dropLine_34 : decode cX2_dropLine 34 = .ok (.imul, 1) := by decide +kernel
theorem dX2_dropLine_35 : decode cX2_dropLine 35 = .ok (.if_icmp .ge 23, 3) := by decide +kernel
theorem dX2_dropLine_38 : decode cX2_dropLine 38 = .ok (.aload_n 0, 1) := by decide +kernel
theorem dX2_dropLine_39 : decode cX2_dropLine 39 = .ok (.getfield 9, 3) := by decide +kernel
theorem dX2_dropLine_42 : decode cX2_dropLine 42 = .ok (.iload_n 2, 1) := by decide +kernel
theorem dX2_dropLine_43 : decode cX2_dropLine 43 = .ok (.aload_n 0, 1) := by decide +kernel
theorem dX2_dropLine_44 : decode cX2_dropLine 44 = .ok (.getfield 9, 3) := by decide +kernel
theorem dX2_dropLine_47 : decode cX2_dropLine 47 = .ok (.iload_n 2, 1) := by decide +kernel
theorem dX2_dropLine_48 : decode cX2_dropLine 48 = .ok (.iconst 4, 1) := by decide +kernel
theorem dX2_dropLine_49 : decode cX2_dropLine 49 = .ok (.iadd, 1) := by decide +kernel
theorem dX2_dropLine_50 : decode cX2_dropLine 50 = .ok (.iaload, 1) := by decide +kernel
theorem dX2_dropLine_51 : decode cX2_dropLine 51 = .ok (.iastore, 1) := by decide +kernel
theorem dX2_dropLine_52 : decode cX2_dropLine 52 = .ok (.iinc 2 1, 3) := by decide +kernel
theorem dX2_dropLine_55 : decode cX2_dropLine 55 = .ok (.goto (-27), 3) := by decide +kernel
theorem dX2_dropLine_58 : decode cX2_dropLine 58 = .ok (.aload_n 0, 1) := by decide +kernel
theorem dX2_dropLine_59 : decode cX2_dropLine 59 = .ok (.getfield 27, 3) := by decide +kernel
theorem dX2_dropLine_62 : decode cX2_dropLine 62 = .ok (.ireturn, 1) := by decide +kernel
set_option maxRecDepth 20000 in
theorem ggX2_putCell_X6_within : GoodIn wsX2_putCell wsX6_within := goodIn_r _ [4] (by decide +kernel) (by decide +kernel)
set_option maxRecDepth 20000 in
theorem gX2_putCell_X6_within_n38 : GoodIn wsX2_putCell (wsX6_within) := ggX2_putCell_X6_within
theorem dX2_putCell_0 : decode cX2_putCell 0 = .ok (.iload_n 1, 1) := by decide +kernel
theorem dX2_putCell_1 : decode cX2_putCell 1 = .ok (.bipush 16, 2) := by decide +kernel
theorem dX2_putCell_3 : decode cX2_putCell 3 = .ok (.invokestatic 38, 3) := by decide +kernel
theorem dX2_putCell_6 : decode cX2_putCell 6 = .ok (.ifCond .eq 12, 3) := by decide +kernel
theorem dX2_putCell_9 : decode cX2_putCell 9 = .ok (.iload_n 2, 1) := by decide +kernel
theorem dX2_putCell_10 : decode cX2_putCell 10 = .ok (.bipush 16, 2) := by decide +kernel
theorem dX2_putCell_12 : decode cX2_putCell 12 = .ok (.invokestatic 38, 3) := by decide +kernel
theorem dX2_putCell_15 : decode cX2_putCell 15 = .ok (.ifCond .ne 6, 3) := by decide +kernel
theorem dX2_putCell_18 : decode cX2_putCell 18 = .ok (.bipush (-2), 2) := by decide +kernel
theorem dX2_putCell_20 : decode cX2_putCell 20 = .ok (.ireturn, 1) := by decide +kernel
theorem dX2_putCell_21 : decode cX2_putCell 21 = .ok (.aload_n 0, 1) := by decide +kernel
theorem dX2_putCell_22 : decode cX2_putCell 22 = .ok (.getfield 15, 3) := by decide +kernel
theorem dX2_putCell_25 : decode cX2_putCell 25 = .ok (.iload_n 1, 1) := by decide +kernel
theorem dX2_putCell_26 : decode cX2_putCell 26 = .ok (.iaload, 1) := by decide +kernel
theorem dX2_putCell_27 : decode cX2_putCell 27 = .ok (.istore_n 3, 1) := by decide +kernel
theorem dX2_putCell_28 : decode cX2_putCell 28 = .ok (.aload_n 0, 1) := by decide +kernel
theorem dX2_putCell_29 : decode cX2_putCell 29 = .ok (.getfield 15, 3) := by decide +kernel
theorem dX2_putCell_32 : decode cX2_putCell 32 = .ok (.iload_n 1, 1) := by decide +kernel
theorem dX2_putCell_33 : decode cX2_putCell 33 = .ok (.iload_n 2, 1) := by decide +kernel
theorem dX2_putCell_34 : decode cX2_putCell 34 = .ok (.iastore, 1) := by decide +kernel
theorem dX2_putCell_35 : decode cX2_putCell 35 = .ok (.iload_n 3, 1) := by decide +kernel
theorem dX2_putCell_36 : decode cX2_putCell 36 = .ok (.ireturn, 1) := by decide +kernel
set_option maxRecDepth 20000 in
theorem ggX2_putStart_X6_within : GoodIn wsX2_putStart wsX6_within := goodIn_r _ [4] (by decide +kernel) (by decide +kernel)
set_option maxRecDepth 20000 in
theorem gX2_putStart_X6_within_n38 : GoodIn wsX2_putStart (wsX6_within) := ggX2_putStart_X6_within
theorem dX2_putStart_0 : decode cX2_putStart 0 = .ok (.iload_n 1, 1) := by decide +kernel
theorem dX2_putStart_1 : decode cX2_putStart 1 = .ok (.bipush 6, 2) := by decide +kernel
theorem dX2_putStart_3 : decode cX2_putStart 3 = .ok (.invokestatic 38, 3) := by decide +kernel
theorem dX2_putStart_6 : decode cX2_putStart 6 = .ok (.ifCond .eq 12, 3) := by decide +kernel
theorem dX2_putStart_9 : decode cX2_putStart 9 = .ok (.iload_n 2, 1) := by decide +kernel
theorem dX2_putStart_10 : decode cX2_putStart 10 = .ok (.bipush 16, 2) := by decide +kernel
theorem dX2_putStart_12 : decode cX2_putStart 12 = .ok (.invokestatic 38, 3) := by decide +kernel
theorem dX2_putStart_15 : decode cX2_putStart 15 = .ok (.ifCond .ne 6, 3) := by decide +kernel
theorem dX2_putStart_18 : decode cX2_putStart 18 = .ok (.bipush (-2), 2) := by decide +kernel
theorem dX2_putStart_20 : decode cX2_putStart 20 = .ok (.ireturn, 1) := by decide +kernel
theorem dX2_putStart_21 : decode cX2_putStart 21 = .ok (.aload_n 0, 1) := by decide +kernel
theorem dX2_putStart_22 : decode cX2_putStart 22 = .ok (.getfield 18, 3) := by decide +kernel
theorem dX2_putStart_25 : decode cX2_putStart 25 = .ok (.iload_n 1, 1) := by decide +kernel
theorem dX2_putStart_26 : decode cX2_putStart 26 = .ok (.iaload, 1) := by decide +kernel
theorem dX2_putStart_27 : decode cX2_putStart 27 = .ok (.istore_n 3, 1) := by decide +kernel
theorem dX2_putStart_28 : decode cX2_putStart 28 = .ok (.aload_n 0, 1) := by decide +kernel
theorem dX2_putStart_29 : decode cX2_putStart 29 = .ok (.getfield 18, 3) := by decide +kernel
theorem dX2_putStart_32 : decode cX2_putStart 32 = .ok (.iload_n 1, 1) := by decide +kernel
theorem dX2_putStart_33 : decode cX2_putStart 33 = .ok (.iload_n 2, 1) := by decide +kernel
theorem dX2_putStart_34 : decode cX2_putStart 34 = .ok (.iastore, 1) := by decide +kernel
theorem dX2_putStart_35 : decode cX2_putStart 35 = .ok (.iload_n 3, 1) := by decide +kernel
theorem dX2_putStart_36 : decode cX2_putStart 36 = .ok (.ireturn, 1) := by decide +kernel
set_option maxRecDepth 20000 in
theorem ggX2_putSecret_X6_within : GoodIn wsX2_putSecret wsX6_within := goodIn_r _ [4] (by decide +kernel) (by decide +kernel)
set_option maxRecDepth 20000 in
theorem gX2_putSecret_X6_within_n38 : GoodIn wsX2_putSecret (wsX6_within) := ggX2_putSecret_X6_within
set_option maxRecDepth 20000 in
theorem ggX2_putSecret_J6_bitCount_0f7a4 : GoodIn wsX2_putSecret wsJ6_bitCount_0f7a4 := goodIn_r _ [8, 9, 10, 11] (by decide +kernel) (by decide +kernel)
set_option maxRecDepth 20000 in
theorem gX2_putSecret_J6_bitCount_0f7a4 : GoodIn wsX2_putSecret (va_wsS RX2 46 yJ6_bitCount_0f7a4 wsJ6_bitCount_0f7a4) := goodIn_app (goodIn_of _ (by decide +kernel)) ggX2_putSecret_J6_bitCount_0f7a4
theorem dX2_putSecret_0 : decode cX2_putSecret 0 = .ok (.iload_n 1, 1) := by decide +kernel
theorem dX2_putSecret_1 : decode cX2_putSecret 1 = .ok (.bipush 6, 2) := by decide +kernel
theorem dX2_putSecret_3 : decode cX2_putSecret 3 = .ok (.invokestatic 38, 3) := by decide +kernel
theorem dX2_putSecret_6 : decode cX2_putSecret 6 = .ok (.ifCond .eq 11, 3) := by decide +kernel
theorem dX2_putSecret_9 : decode cX2_putSecret 9 = .ok (.iload_n 2, 1) := by decide +kernel
theorem dX2_putSecret_10 : decode cX2_putSecret 10 = .ok (.iconst 2, 1) := by decide +kernel
theorem dX2_putSecret_11 : decode cX2_putSecret 11 = .ok (.invokestatic 38, 3) := by decide +kernel
theorem dX2_putSecret_14 : decode cX2_putSecret 14 = .ok (.ifCond .ne 6, 3) := by decide +kernel
theorem dX2_putSecret_17 : decode cX2_putSecret 17 = .ok (.bipush (-2), 2) := by decide +kernel
theorem dX2_putSecret_19 : decode cX2_putSecret 19 = .ok (.ireturn, 1) := by decide +kernel
theorem dX2_putSecret_20 : decode cX2_putSecret 20 = .ok (.aload_n 0, 1) := by decide +kernel
theorem dX2_putSecret_21 : decode cX2_putSecret 21 = .ok (.getfield 31, 3) := by decide +kernel
theorem dX2_putSecret_24 : decode cX2_putSecret 24 = .ok (.iconst 1, 1) := by decide +kernel
theorem dX2_putSecret_25 : decode cX2_putSecret 25 = .ok (.iload_n 1, 1) := by decide +kernel
theorem dX2_putSecret_26 : decode cX2_putSecret 26 = .ok (.ishl, 1) := by decide +kernel
theorem dX2_putSecret_27 : decode cX2_putSecret 27 = .ok (.iconst (-1), 1) := by decide +kernel
theorem dX2_putSecret_28 : decode cX2_putSecret 28 = .ok (.ixor, 1) := by decide +kernel
theorem dX2_putSecret_29 : decode cX2_putSecret 29 = .ok (.iand, 1) := by decide +kernel
theorem dX2_putSecret_30 : decode cX2_putSecret 30 = .ok (.istore_n 3, 1) := by decide +kernel
theorem dX2_putSecret_31 : decode cX2_putSecret 31 = .ok (.iload_n 2, 1) := by decide +kernel
theorem dX2_putSecret_32 : decode cX2_putSecret 32 = .ok (.iconst 1, 1) := by decide +kernel
theorem dX2_putSecret_33 : decode cX2_putSecret 33 = .ok (.if_icmp .ne 14, 3) := by decide +kernel
theorem dX2_putSecret_36 : decode cX2_putSecret 36 = .ok (.iload_n 3, 1) := by decide +kernel
theorem dX2_putSecret_37 : decode cX2_putSecret 37 = .ok (.invokestatic 46, 3) := by decide +kernel
theorem dX2_putSecret_40 : decode cX2_putSecret 40 = .ok (.iconst 2, 1) := by decide +kernel
theorem dX2_putSecret_41 : decode cX2_putSecret 41 = .ok (.if_icmp .lt 6, 3) := by decide +kernel
theorem dX2_putSecret_44 : decode cX2_putSecret 44 = .ok (.bipush (-4), 2) := by decide +kernel
theorem dX2_putSecret_46 : decode cX2_putSecret 46 = .ok (.ireturn, 1) := by decide +kernel
theorem dX2_putSecret_47 : decode cX2_putSecret 47 = .ok (.aload_n 0, 1) := by decide +kernel
theorem dX2_putSecret_48 : decode cX2_putSecret 48 = .ok (.getfield 31, 3) := by decide +kernel
theorem dX2_putSecret_51 : decode cX2_putSecret 51 = .ok (.iload_n 1, 1) := by decide +kernel
theorem dX2_putSecret_52 : decode cX2_putSecret 52 = .ok (.ishr, 1) := by decide +kernel
theorem dX2_putSecret_53 : decode cX2_putSecret 53 = .ok (.iconst 1, 1) := by decide +kernel
theorem dX2_putSecret_54 : decode cX2_putSecret 54 = .ok (.iand, 1) := by decide +kernel
theorem dX2_putSecret_55 : decode cX2_putSecret 55 = .ok (.istore 4, 2) := by decide +kernel
theorem dX2_putSecret_57 : decode cX2_putSecret 57 = .ok (.aload_n 0, 1) := by decide +kernel
theorem dX2_putSecret_58 : decode cX2_putSecret 58 = .ok (.iload_n 3, 1) := by decide +kernel
theorem dX2_putSecret_59 : decode cX2_putSecret 59 = .ok (.iload_n 2, 1) := by decide +kernel
theorem dX2_putSecret_60 : decode cX2_putSecret 60 = .ok (.iload_n 1, 1) := by decide +kernel
theorem dX2_putSecret_61 : decode cX2_putSecret 61 = .ok (.ishl, 1) := by decide +kernel
theorem dX2_putSecret_62 : decode cX2_putSecret 62 = .ok (.ior, 1) := by decide +kernel
theorem dX2_putSecret_63 : decode cX2_putSecret 63 = .ok (.putfield 31, 3) := by decide +kernel
theorem dX2_putSecret_66 : decode cX2_putSecret 66 = .ok (.iload 4, 2) := by decide +kernel
theorem dX2_putSecret_68 : decode cX2_putSecret 68 = .ok (.ireturn, 1) := by decide +kernel
set_option maxRecDepth 20000 in
theorem ggX2_secretsEnd_J6_bitCount_0f7a4 : GoodIn wsX2_secretsEnd wsJ6_bitCount_0f7a4 := goodIn_r _ [5, 6, 7, 8] (by decide +kernel) (by decide +kernel)
set_option maxRecDepth 20000 in
theorem gX2_secretsEnd_J6_bitCount_0f7a4 : GoodIn wsX2_secretsEnd (va_wsS RX2 46 yJ6_bitCount_0f7a4 wsJ6_bitCount_0f7a4) := goodIn_app (goodIn_of _ (by decide +kernel)) ggX2_secretsEnd_J6_bitCount_0f7a4
theorem dX2_secretsEnd_0 : decode cX2_secretsEnd 0 = .ok (.iconst 1, 1) := by decide +kernel
