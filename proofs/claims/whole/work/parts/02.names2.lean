theorem dX2_secretsEnd_1 : decode cX2_secretsEnd 1 = .ok (.iconst 4, 1) := by decide +kernel
theorem dX2_secretsEnd_2 : decode cX2_secretsEnd 2 = .ok (.aload_n 0, 1) := by decide +kernel
theorem dX2_secretsEnd_3 : decode cX2_secretsEnd 3 = .ok (.getfield 31, 3) := by decide +kernel
theorem dX2_secretsEnd_6 : decode cX2_secretsEnd 6 = .ok (.invokestatic 46, 3) := by decide +kernel
theorem dX2_secretsEnd_9 : decode cX2_secretsEnd 9 = .ok (.imul, 1) := by decide +kernel
theorem dX2_secretsEnd_10 : decode cX2_secretsEnd 10 = .ok (.ishl, 1) := by decide +kernel
theorem dX2_secretsEnd_11 : decode cX2_secretsEnd 11 = .ok (.ireturn, 1) := by decide +kernel
set_option maxRecDepth 20000 in
theorem ggX2_hasSecrets_X2_secretsEnd : GoodIn wsX2_hasSecrets wsX2_secretsEnd := goodIn_r _ [5, 6, 7, 8, 9, 10, 11, 12, 13, 17, 18, 19, 20, 21] (by decide +kernel) (by decide +kernel)
set_option maxRecDepth 20000 in
theorem gX2_hasSecrets_X2_secretsEnd : GoodIn wsX2_hasSecrets (wsV RX2 51 RX2 yX2_secretsEnd wsX2_secretsEnd) := goodIn_app (goodIn_of _ (by decide +kernel)) ggX2_hasSecrets_X2_secretsEnd
set_option maxRecDepth 20000 in
theorem ggX2_hasSecrets_X6_within : GoodIn wsX2_hasSecrets wsX6_within := goodIn_r _ [16] (by decide +kernel) (by decide +kernel)
set_option maxRecDepth 20000 in
theorem gX2_hasSecrets_X6_within_n38 : GoodIn wsX2_hasSecrets (wsX6_within) := ggX2_hasSecrets_X6_within
theorem dX2_hasSecrets_0 : decode cX2_hasSecrets 0 = .ok (.iload_n 1, 1) := by decide +kernel
theorem dX2_hasSecrets_1 : decode cX2_hasSecrets 1 = .ok (.aload_n 0, 1) := by decide +kernel
theorem dX2_hasSecrets_2 : decode cX2_hasSecrets 2 = .ok (.invokevirtual 51, 3) := by decide +kernel
theorem dX2_hasSecrets_5 : decode cX2_hasSecrets 5 = .ok (.invokestatic 38, 3) := by decide +kernel
theorem dX2_hasSecrets_8 : decode cX2_hasSecrets 8 = .ok (.ireturn, 1) := by decide +kernel
theorem dX2_partOf_0 : decode cX2_partOf 0 = .ok (.aload_n 0, 1) := by decide +kernel
theorem dX2_partOf_1 : decode cX2_partOf 1 = .ok (.getfield 9, 3) := by decide +kernel
theorem dX2_partOf_4 : decode cX2_partOf 4 = .ok (.iload_n 1, 1) := by decide +kernel
theorem dX2_partOf_5 : decode cX2_partOf 5 = .ok (.iconst 4, 1) := by decide +kernel
theorem dX2_partOf_6 : decode cX2_partOf 6 = .ok (.imul, 1) := by decide +kernel
theorem dX2_partOf_7 : decode cX2_partOf 7 = .ok (.iload_n 2, 1) := by decide +kernel
theorem dX2_partOf_8 : decode cX2_partOf 8 = .ok (.iadd, 1) := by decide +kernel
theorem dX2_partOf_9 : decode cX2_partOf 9 = .ok (.iaload, 1) := by decide +kernel
theorem dX2_partOf_10 : decode cX2_partOf 10 = .ok (.ireturn, 1) := by decide +kernel
theorem dX2_fact_0 : decode cX2_fact 0 = .ok (.iload_n 1, 1) := by decide +kernel
theorem dX2_fact_1 : decode cX2_fact 1 = .ok (.ifCond .ne 8, 3) := by decide +kernel
theorem dX2_fact_4 : decode cX2_fact 4 = .ok (.aload_n 0, 1) := by decide +kernel
theorem dX2_fact_5 : decode cX2_fact 5 = .ok (.getfield 27, 3) := by decide +kernel
theorem dX2_fact_8 : decode cX2_fact 8 = .ok (.ireturn, 1) := by decide +kernel
theorem dX2_fact_9 : decode cX2_fact 9 = .ok (.iload_n 1, 1) := by decide +kernel
theorem dX2_fact_10 : decode cX2_fact 10 = .ok (.iconst 1, 1) := by decide +kernel
theorem dX2_fact_11 : decode cX2_fact 11 = .ok (.if_icmp .ne 8, 3) := by decide +kernel
theorem dX2_fact_14 : decode cX2_fact 14 = .ok (.aload_n 0, 1) := by decide +kernel
theorem dX2_fact_15 : decode cX2_fact 15 = .ok (.getfield 31, 3) := by decide +kernel
theorem dX2_fact_18 : decode cX2_fact 18 = .ok (.ireturn, 1) := by decide +kernel
theorem dX2_fact_19 : decode cX2_fact 19 = .ok (.iload_n 1, 1) := by decide +kernel
theorem dX2_fact_20 : decode cX2_fact 20 = .ok (.iconst 2, 1) := by decide +kernel
theorem dX2_fact_21 : decode cX2_fact 21 = .ok (.isub, 1) := by decide +kernel
theorem dX2_fact_22 : decode cX2_fact 22 = .ok (.istore_n 2, 1) := by decide +kernel
theorem dX2_fact_23 : decode cX2_fact 23 = .ok (.iload_n 2, 1) := by decide +kernel
theorem dX2_fact_24 : decode cX2_fact 24 = .ok (.bipush 6, 2) := by decide +kernel
theorem dX2_fact_26 : decode cX2_fact 26 = .ok (.if_icmp .ge 12, 3) := by decide +kernel
theorem dX2_fact_29 : decode cX2_fact 29 = .ok (.aload_n 0, 1) := by decide +kernel
theorem dX2_fact_30 : decode cX2_fact 30 = .ok (.getfield 18, 3) := by decide +kernel
theorem dX2_fact_33 : decode cX2_fact 33 = .ok (.iload_n 2, 1) := by decide +kernel
theorem dX2_fact_34 : decode cX2_fact 34 = .ok (.iaload, 1) := by decide +kernel
theorem dX2_fact_35 : decode cX2_fact 35 = .ok (.goto 12, 3) := by decide +kernel
theorem dX2_fact_38 : decode cX2_fact 38 = .ok (.aload_n 0, 1) := by decide +kernel
theorem dX2_fact_39 : decode cX2_fact 39 = .ok (.getfield 15, 3) := by decide +kernel
theorem dX2_fact_42 : decode cX2_fact 42 = .ok (.iload_n 2, 1) := by decide +kernel
theorem dX2_fact_43 : decode cX2_fact 43 = .ok (.bipush 6, 2) := by decide +kernel
theorem dX2_fact_45 : decode cX2_fact 45 = .ok (.isub, 1) := by decide +kernel
theorem dX2_fact_46 : decode cX2_fact 46 = .ok (.iaload, 1) := by decide +kernel
theorem dX2_fact_47 : decode cX2_fact 47 = .ok (.ireturn, 1) := by decide +kernel
set_option maxRecDepth 20000 in
theorem ggX2_mixInto_X2_fact : GoodIn wsX2_mixInto wsX2_fact := goodIn_r _ [8, 2, 9, 10, 11, 12, 13, 14, 15, 16] (by decide +kernel) (by decide +kernel)
set_option maxRecDepth 20000 in
theorem gX2_mixInto_X2_fact : GoodIn wsX2_mixInto (wsV RX2 57 RX2 yX2_fact wsX2_fact) := goodIn_app (goodIn_of _ (by decide +kernel)) ggX2_mixInto_X2_fact
theorem dX2_mixInto_0 : decode cX2_mixInto 0 = .ok (.iconst 0, 1) := by decide +kernel
theorem dX2_mixInto_1 : decode cX2_mixInto 1 = .ok (.istore_n 3, 1) := by decide +kernel
theorem dX2_mixInto_2 : decode cX2_mixInto 2 = .ok (.iload_n 3, 1) := by decide +kernel
theorem dX2_mixInto_3 : decode cX2_mixInto 3 = .ok (.bipush 24, 2) := by decide +kernel
theorem dX2_mixInto_5 : decode cX2_mixInto 5 = .ok (.if_icmp .ge 22, 3) := by decide +kernel
theorem dX2_mixInto_8 : decode cX2_mixInto 8 = .ok (.ldc2_w 55, 3) := by decide +kernel
theorem dX2_mixInto_11 : decode cX2_mixInto 11 = .ok (.lload_n 1, 1) := by decide +kernel
theorem dX2_mixInto_12 : decode cX2_mixInto 12 = .ok (.lmul, 1) := by decide +kernel
theorem dX2_mixInto_13 : decode cX2_mixInto 13 = .ok (.aload_n 0, 1) := by decide +kernel
theorem dX2_mixInto_14 : decode cX2_mixInto 14 = .ok (.iload_n 3, 1) := by decide +kernel
theorem dX2_mixInto_15 : decode cX2_mixInto 15 = .ok (.invokevirtual 57, 3) := by decide +kernel
theorem dX2_mixInto_18 : decode cX2_mixInto 18 = .ok (.i2l, 1) := by decide +kernel
theorem dX2_mixInto_19 : decode cX2_mixInto 19 = .ok (.ladd, 1) := by decide +kernel
theorem dX2_mixInto_20 : decode cX2_mixInto 20 = .ok (.lstore_n 1, 1) := by decide +kernel
theorem dX2_mixInto_21 : decode cX2_mixInto 21 = .ok (.iinc 3 1, 3) := by decide +kernel
theorem dX2_mixInto_24 : decode cX2_mixInto 24 = .ok (.goto (-22), 3) := by decide +kernel
theorem dX2_mixInto_27 : decode cX2_mixInto 27 = .ok (.iconst 0, 1) := by decide +kernel
theorem dX2_mixInto_28 : decode cX2_mixInto 28 = .ok (.istore_n 3, 1) := by decide +kernel
theorem dX2_mixInto_29 : decode cX2_mixInto 29 = .ok (.iload_n 3, 1) := by decide +kernel
theorem dX2_mixInto_30 : decode cX2_mixInto 30 = .ok (.aload_n 0, 1) := by decide +kernel
theorem dX2_mixInto_31 : decode cX2_mixInto 31 = .ok (.getfield 27, 3) := by decide +kernel
theorem dX2_mixInto_34 : decode cX2_mixInto 34 = .ok (.iconst 4, 1) := by decide +kernel
theorem dX2_mixInto_35 : decode cX2_mixInto 35 = .ok (.imul, 1) := by decide +kernel
theorem dX2_mixInto_36 : decode cX2_mixInto 36 = .ok (.if_icmp .ge 23, 3) := by decide +kernel
theorem dX2_mixInto_39 : decode cX2_mixInto 39 = .ok (.ldc2_w 55, 3) := by decide +kernel
theorem dX2_mixInto_42 : decode cX2_mixInto 42 = .ok (.lload_n 1, 1) := by decide +kernel
theorem dX2_mixInto_43 : decode cX2_mixInto 43 = .ok (.lmul, 1) := by decide +kernel
theorem dX2_mixInto_44 : decode cX2_mixInto 44 = .ok (.aload_n 0, 1) := by decide +kernel
theorem dX2_mixInto_45 : decode cX2_mixInto 45 = .ok (.getfield 9, 3) := by decide +kernel
theorem dX2_mixInto_48 : decode cX2_mixInto 48 = .ok (.iload_n 3, 1) := by decide +kernel
theorem dX2_mixInto_49 : decode cX2_mixInto 49 = .ok (.iaload, 1) := by decide +kernel
theorem dX2_mixInto_50 : decode cX2_mixInto 50 = .ok (.i2l, 1) := by decide +kernel
theorem dX2_mixInto_51 : decode cX2_mixInto 51 = .ok (.ladd, 1) := by decide +kernel
theorem dX2_mixInto_52 : decode cX2_mixInto 52 = .ok (.lstore_n 1, 1) := by decide +kernel
theorem dX2_mixInto_53 : decode cX2_mixInto 53 = .ok (.iinc 3 1, 3) := by decide +kernel
theorem dX2_mixInto_56 : decode cX2_mixInto 56 = .ok (.goto (-27), 3) := by decide +kernel
theorem dX2_mixInto_59 : decode cX2_mixInto 59 = .ok (.lload_n 1, 1) := by decide +kernel
theorem dX2_mixInto_60 : decode cX2_mixInto 60 = .ok (.lreturn, 1) := by decide +kernel
theorem dX3_init_0 : decode cX3_init 0 = .ok (.aload_n 0, 1) := by decide +kernel
theorem dX3_init_1 : decode cX3_init 1 = .ok (.invokespecial 3, 3) := by decide +kernel
theorem dX3_init_4 : decode cX3_init 4 = .ok (.aload_n 0, 1) := by decide +kernel
theorem dX3_init_5 : decode cX3_init 5 = .ok (.bipush 6, 2) := by decide +kernel
theorem dX3_init_7 : decode cX3_init 7 = .ok (.newarray .int, 2) := by decide +kernel
theorem dX3_init_9 : decode cX3_init 9 = .ok (.putfield 9, 3) := by decide +kernel
theorem dX3_init_12 : decode cX3_init 12 = .ok (.aload_n 0, 1) := by decide +kernel
theorem dX3_init_13 : decode cX3_init 13 = .ok (.bipush 61, 2) := by decide +kernel
theorem dX3_init_15 : decode cX3_init 15 = .ok (.newarray .int, 2) := by decide +kernel
theorem dX3_init_17 : decode cX3_init 17 = .ok (.putfield 15, 3) := by decide +kernel
theorem dX3_init_20 : decode cX3_init 20 = .ok (.return_, 1) := by decide +kernel
set_option maxRecDepth 20000 in
theorem ggX3_follow_X3_setOut : GoodIn wsX3_follow wsX3_setOut := goodIn_r _ [7, 8, 1, 9, 22, 23, 24, 25, 26, 27, 28, 29, 30, 31] (by decide +kernel) (by decide +kernel)
set_option maxRecDepth 20000 in
theorem gX3_follow_X3_setOut : GoodIn wsX3_follow (wsV RX3 18 RX3 yX3_setOut wsX3_setOut) := goodIn_app (goodIn_of _ (by decide +kernel)) ggX3_follow_X3_setOut
set_option maxRecDepth 20000 in
theorem ggX3_follow_X3_doLine : GoodIn wsX3_follow wsX3_doLine := goodIn_r _ [13, 9, 14, 15, 16, 6, 17, 8, 18, 19, 20, 21, 27, 28, 29, 30, 31, 22, 23, 24, 25, 26] (by decide +kernel) (by decide +kernel)
set_option maxRecDepth 20000 in
theorem gX3_follow_X3_doLine : GoodIn wsX3_follow (wsV RX3 31 RX3 yX3_doLine wsX3_doLine) := goodIn_app (goodIn_of _ (by decide +kernel)) ggX3_follow_X3_doLine
set_option maxRecDepth 20000 in
theorem ggX3_follow_X3_see : GoodIn wsX3_follow wsX3_see := goodIn_r _ [17, 8, 18, 22, 23, 24, 25, 26] (by decide +kernel) (by decide +kernel)
set_option maxRecDepth 20000 in
theorem gX3_follow_X3_see : GoodIn wsX3_follow (wsV RX3 39 RX3 yX3_see wsX3_see) := goodIn_app (goodIn_of _ (by decide +kernel)) ggX3_follow_X3_see
theorem dX3_follow_0 : decode cX3_follow 0 = .ok (.aload_n 0, 1) := by decide +kernel
theorem dX3_follow_1 : decode cX3_follow 1 = .ok (.aload_n 1, 1) := by decide +kernel
theorem dX3_follow_2 : decode cX3_follow 2 = .ok (.iload_n 2, 1) := by decide +kernel
theorem dX3_follow_3 : decode cX3_follow 3 = .ok (.invokevirtual 18, 3) := by decide +kernel
theorem dX3_follow_6 : decode cX3_follow 6 = .ok (.iconst 0, 1) := by decide +kernel
theorem dX3_follow_7 : decode cX3_follow 7 = .ok (.istore_n 3, 1) := by decide +kernel
theorem dX3_follow_8 : decode cX3_follow 8 = .ok (.aload_n 0, 1) := by decide +kernel
theorem dX3_follow_9 : decode cX3_follow 9 = .ok (.getfield 22, 3) := by decide +kernel
theorem dX3_follow_12 : decode cX3_follow 12 = .ok (.bipush 60, 2) := by decide +kernel
theorem dX3_follow_14 : decode cX3_follow 14 = .ok (.if_icmp .ge 31, 3) := by decide +kernel
theorem dX3_follow_17 : decode cX3_follow 17 = .ok (.iload_n 3, 1) := by decide +kernel
theorem dX3_follow_18 : decode cX3_follow 18 = .ok (.aload_n 1, 1) := by decide +kernel
theorem dX3_follow_19 : decode cX3_follow 19 = .ok (.getfield 26, 3) := by decide +kernel
theorem dX3_follow_22 : decode cX3_follow 22 = .ok (.if_icmp .ge 23, 3) := by decide +kernel
theorem dX3_follow_25 : decode cX3_follow 25 = .ok (.aload_n 0, 1) := by decide +kernel
theorem dX3_follow_26 : decode cX3_follow 26 = .ok (.aload_n 1, 1) := by decide +kernel
theorem dX3_follow_27 : decode cX3_follow 27 = .ok (.iload_n 3, 1) := by decide +kernel
theorem dX3_follow_28 : decode cX3_follow 28 = .ok (.invokevirtual 31, 3) := by decide +kernel
theorem dX3_follow_31 : decode cX3_follow 31 = .ok (.istore_n 3, 1) := by decide +kernel
theorem dX3_follow_32 : decode cX3_follow 32 = .ok (.aload_n 0, 1) := by decide +kernel
theorem dX3_follow_33 : decode cX3_follow 33 = .ok (.dup, 1) := by decide +kernel
theorem dX3_follow_34 : decode cX3_follow 34 = .ok (.getfield 22, 3) := by decide +kernel
theorem dX3_follow_37 : decode cX3_follow 37 = .ok (.iconst 1, 1) := by decide +kernel
theorem dX3_follow_38 : decode cX3_follow 38 = .ok (.iadd, 1) := by decide +kernel
theorem dX3_follow_39 : decode cX3_follow 39 = .ok (.putfield 22, 3) := by decide +kernel
theorem dX3_follow_42 : decode cX3_follow 42 = .ok (.goto (-34), 3) := by decide +kernel
theorem dX3_follow_45 : decode cX3_follow 45 = .ok (.aload_n 0, 1) := by decide +kernel
theorem dX3_follow_46 : decode cX3_follow 46 = .ok (.iload_n 3, 1) := by decide +kernel
theorem dX3_follow_47 : decode cX3_follow 47 = .ok (.aload_n 1, 1) := by decide +kernel
theorem dX3_follow_48 : decode cX3_follow 48 = .ok (.getfield 26, 3) := by decide +kernel
theorem dX3_follow_51 : decode cX3_follow 51 = .ok (.if_icmp .ge 7, 3) := by decide +kernel
theorem dX3_follow_54 : decode cX3_follow 54 = .ok (.iconst 1, 1) := by decide +kernel
theorem dX3_follow_55 : decode cX3_follow 55 = .ok (.goto 4, 3) := by decide +kernel
theorem dX3_follow_58 : decode cX3_follow 58 = .ok (.iconst 0, 1) := by decide +kernel
theorem dX3_follow_59 : decode cX3_follow 59 = .ok (.putfield 35, 3) := by decide +kernel
theorem dX3_follow_62 : decode cX3_follow 62 = .ok (.aload_n 0, 1) := by decide +kernel
theorem dX3_follow_63 : decode cX3_follow 63 = .ok (.sipush 600, 3) := by decide +kernel
theorem dX3_follow_66 : decode cX3_follow 66 = .ok (.aload_n 0, 1) := by decide +kernel
theorem dX3_follow_67 : decode cX3_follow 67 = .ok (.getfield 22, 3) := by decide +kernel
theorem dX3_follow_70 : decode cX3_follow 70 = .ok (.iadd, 1) := by decide +kernel
theorem dX3_follow_71 : decode cX3_follow 71 = .ok (.invokevirtual 39, 3) := by decide +kernel
theorem dX3_follow_74 : decode cX3_follow 74 = .ok (.return_, 1) := by decide +kernel
theorem dX3_setOut_0 : decode cX3_setOut 0 = .ok (.aload_n 0, 1) := by decide +kernel
theorem dX3_setOut_1 : decode cX3_setOut 1 = .ok (.iconst 0, 1) := by decide +kernel
theorem dX3_setOut_2 : decode cX3_setOut 2 = .ok (.putfield 43, 3) := by decide +kernel
theorem dX3_setOut_5 : decode cX3_setOut 5 = .ok (.aload_n 0, 1) := by decide +kernel
theorem dX3_setOut_6 : decode cX3_setOut 6 = .ok (.iconst 0, 1) := by decide +kernel
theorem dX3_setOut_7 : decode cX3_setOut 7 = .ok (.putfield 22, 3) := by decide +kernel
theorem dX3_setOut_10 : decode cX3_setOut 10 = .ok (.iload_n 2, 1) := by decide +kernel
theorem dX3_setOut_11 : decode cX3_setOut 11 = .ok (.istore_n 3, 1) := by decide +kernel
theorem dX3_setOut_12 : decode cX3_setOut 12 = .ok (.iconst 0, 1) := by decide +kernel
theorem dX3_setOut_13 : decode cX3_setOut 13 = .ok (.istore 4, 2) := by decide +kernel
theorem dX3_setOut_15 : decode cX3_setOut 15 = .ok (.iload 4, 2) := by decide +kernel
theorem dX3_setOut_17 : decode cX3_setOut 17 = .ok (.bipush 6, 2) := by decide +kernel
theorem dX3_setOut_19 : decode cX3_setOut 19 = .ok (.if_icmp .ge 55, 3) := by decide +kernel
theorem dX3_setOut_22 : decode cX3_setOut 22 = .ok (.aload_n 1, 1) := by decide +kernel
theorem dX3_setOut_23 : decode cX3_setOut 23 = .ok (.getfield 46, 3) := by decide +kernel
theorem dX3_setOut_26 : decode cX3_setOut 26 = .ok (.iload 4, 2) := by decide +kernel
theorem dX3_setOut_28 : decode cX3_setOut 28 = .ok (.ishr, 1) := by decide +kernel
theorem dX3_setOut_29 : decode cX3_setOut 29 = .ok (.iconst 1, 1) := by decide +kernel
theorem dX3_setOut_30 : decode cX3_setOut 30 = .ok (.iand, 1) := by decide +kernel
theorem dX3_setOut_31 : decode cX3_setOut 31 = .ok (.iconst 1, 1) := by decide +kernel
theorem dX3_setOut_32 : decode cX3_setOut 32 = .ok (.if_icmp .ne 22, 3) := by decide +kernel
theorem dX3_setOut_35 : decode cX3_setOut 35 = .ok (.aload_n 0, 1) := by decide +kernel
theorem dX3_setOut_36 : decode cX3_setOut 36 = .ok (.getfield 9, 3) := by decide +kernel
theorem dX3_setOut_39 : decode cX3_setOut 39 = .ok (.iload 4, 2) := by decide +kernel
theorem dX3_setOut_41 : decode cX3_setOut 41 = .ok (.iload_n 3, 1) := by decide +kernel
theorem dX3_setOut_42 : decode cX3_setOut 42 = .ok (.bipush 16, 2) := by decide +kernel
theorem dX3_setOut_44 : decode cX3_setOut 44 = .ok (.irem, 1) := by decide +kernel
theorem dX3_setOut_45 : decode cX3_setOut 45 = .ok (.iastore, 1) := by decide +kernel
theorem dX3_setOut_46 : decode cX3_setOut 46 = .ok (.iload_n 3, 1) := by decide +kernel
theorem dX3_setOut_47 : decode cX3_setOut 47 = .ok (.bipush 16, 2) := by decide +kernel
theorem dX3_setOut_49 : decode cX3_setOut 49 = .ok (.idiv, 1) := by decide +kernel
theorem dX3_setOut_50 : decode cX3_setOut 50 = .ok (.istore_n 3, 1) := by decide +kernel
theorem dX3_setOut_51 : decode cX3_setOut 51 = .ok (.goto 17, 3) := by decide +kernel
theorem dX3_setOut_54 : decode cX3_setOut 54 = .ok (.aload_n 0, 1) := by decide +kernel
theorem dX3_setOut_55 : decode cX3_setOut 55 = .ok (.getfield 9, 3) := by decide +kernel
theorem dX3_setOut_58 : decode cX3_setOut 58 = .ok (.iload 4, 2) := by decide +kernel
theorem dX3_setOut_60 : decode cX3_setOut 60 = .ok (.aload_n 1, 1) := by decide +kernel
theorem dX3_setOut_61 : decode cX3_setOut 61 = .ok (.getfield 49, 3) := by decide +kernel
theorem dX3_setOut_64 : decode cX3_setOut 64 = .ok (.iload 4, 2) := by decide +kernel
theorem dX3_setOut_66 : decode cX3_setOut 66 = .ok (.iaload, 1) := by decide +kernel
theorem dX3_setOut_67 : decode cX3_setOut 67 = .ok (.iastore, 1) := by decide +kernel
theorem dX3_setOut_68 : decode cX3_setOut 68 = .ok (.iinc 4 1, 3) := by decide +kernel
theorem dX3_setOut_71 : decode cX3_setOut 71 = .ok (.goto (-56), 3) := by decide +kernel
theorem dX3_setOut_74 : decode cX3_setOut 74 = .ok (.return_, 1) := by decide +kernel
set_option maxRecDepth 20000 in
theorem ggX3_doLine_X3_see : GoodIn wsX3_doLine wsX3_see := goodIn_r _ [6, 7, 8, 17, 18, 19, 20, 21] (by decide +kernel) (by decide +kernel)
set_option maxRecDepth 20000 in
theorem gX3_doLine_X3_see : GoodIn wsX3_doLine (wsV RX3 39 RX3 yX3_see wsX3_see) := goodIn_app (goodIn_of _ (by decide +kernel)) ggX3_doLine_X3_see
set_option maxRecDepth 20000 in
theorem ggX3_doLine_X6_combined : GoodIn wsX3_doLine wsX6_combined := goodIn_r _ [11] (by decide +kernel) (by decide +kernel)
set_option maxRecDepth 20000 in
theorem gX3_doLine_X6_combined_n58 : GoodIn wsX3_doLine (wsX6_combined) := ggX3_doLine_X6_combined
theorem dX3_doLine_0 : decode cX3_doLine 0 = .ok (.aload_n 1, 1) := by decide +kernel
theorem dX3_doLine_1 : decode cX3_doLine 1 = .ok (.getfield 52, 3) := by decide +kernel
theorem dX3_doLine_4 : decode cX3_doLine 4 = .ok (.astore_n 3, 1) := by decide +kernel
theorem dX3_doLine_5 : decode cX3_doLine 5 = .ok (.iload_n 2, 1) := by decide +kernel
theorem dX3_doLine_6 : decode cX3_doLine 6 = .ok (.iconst 4, 1) := by decide +kernel
theorem dX3_doLine_7 : decode cX3_doLine 7 = .ok (.imul, 1) := by decide +kernel
theorem dX3_doLine_8 : decode cX3_doLine 8 = .ok (.istore 4, 2) := by decide +kernel
theorem dX3_doLine_10 : decode cX3_doLine 10 = .ok (.aload_n 3, 1) := by decide +kernel
theorem dX3_doLine_11 : decode cX3_doLine 11 = .ok (.iload 4, 2) := by decide +kernel
theorem dX3_doLine_13 : decode cX3_doLine 13 = .ok (.iaload, 1) := by decide +kernel
theorem dX3_doLine_14 : decode cX3_doLine 14 = .ok (.istore 5, 2) := by decide +kernel
theorem dX3_doLine_16 : decode cX3_doLine 16 = .ok (.aload_n 3, 1) := by decide +kernel
theorem dX3_doLine_17 : decode cX3_doLine 17 = .ok (.iload 4, 2) := by decide +kernel
theorem dX3_doLine_19 : decode cX3_doLine 19 = .ok (.iconst 1, 1) := by decide +kernel
theorem dX3_doLine_20 : decode cX3_doLine 20 = .ok (.iadd, 1) := by decide +kernel
theorem dX3_doLine_21 : decode cX3_doLine 21 = .ok (.iaload, 1) := by decide +kernel
theorem dX3_doLine_22 : decode cX3_doLine 22 = .ok (.istore 6, 2) := by decide +kernel
theorem dX3_doLine_24 : decode cX3_doLine 24 = .ok (.aload_n 3, 1) := by decide +kernel
theorem dX3_doLine_25 : decode cX3_doLine 25 = .ok (.iload 4, 2) := by decide +kernel
theorem dX3_doLine_27 : decode cX3_doLine 27 = .ok (.iconst 2, 1) := by decide +kernel
theorem dX3_doLine_28 : decode cX3_doLine 28 = .ok (.iadd, 1) := by decide +kernel
theorem dX3_doLine_29 : decode cX3_doLine 29 = .ok (.iaload, 1) := by decide +kernel
theorem dX3_doLine_30 : decode cX3_doLine 30 = .ok (.istore 7, 2) := by decide +kernel
theorem dX3_doLine_32 : decode cX3_doLine 32 = .ok (.iload 5, 2) := by decide +kernel
theorem dX3_doLine_34 : decode cX3_doLine 34 = .ok (.tableswitch 257 0 8 #[50, 62, 257, 257, 257, 79, 115, 170, 216], 50) := by decide +kernel
theorem dX3_doLine_84 : decode cX3_doLine 84 = .ok (.aload_n 0, 1) := by decide +kernel
theorem dX3_doLine_85 : decode cX3_doLine 85 = .ok (.getfield 9, 3) := by decide +kernel
theorem dX3_doLine_88 : decode cX3_doLine 88 = .ok (.iload 6, 2) := by decide +kernel
theorem dX3_doLine_90 : decode cX3_doLine 90 = .ok (.iload 7, 2) := by decide +kernel
theorem dX3_doLine_92 : decode cX3_doLine 92 = .ok (.iastore, 1) := by decide +kernel
theorem dX3_doLine_93 : decode cX3_doLine 93 = .ok (.goto 224, 3) := by decide +kernel
theorem dX3_doLine_96 : decode cX3_doLine 96 = .ok (.aload_n 0, 1) := by decide +kernel
theorem dX3_doLine_97 : decode cX3_doLine 97 = .ok (.getfield 9, 3) := by decide +kernel
theorem dX3_doLine_100 : decode cX3_doLine 100 = .ok (.iload 6, 2) := by decide +kernel
theorem dX3_doLine_102 : decode cX3_doLine 102 = .ok (.aload_n 0, 1) := by decide +kernel
theorem dX3_doLine_103 : decode cX3_doLine 103 = .ok (.getfield 9, 3) := by decide +kernel
theorem dX3_doLine_106 : decode cX3_doLine 106 = .ok (.iload 7, 2) := by decide +kernel
theorem dX3_doLine_108 : decode cX3_doLine 108 = .ok (.iaload, 1) := by decide +kernel
theorem dX3_doLine_109 : decode cX3_doLine 109 = .ok (.iastore, 1) := by decide +kernel
theorem dX3_doLine_110 : decode cX3_doLine 110 = .ok (.goto 207, 3) := by decide +kernel
theorem dX3_doLine_113 : decode cX3_doLine 113 = .ok (.aload_n 0, 1) := by decide +kernel
theorem dX3_doLine_114 : decode cX3_doLine 114 = .ok (.bipush 100, 2) := by decide +kernel
theorem dX3_doLine_116 : decode cX3_doLine 116 = .ok (.aload_n 0, 1) := by decide +kernel
theorem dX3_doLine_117 : decode cX3_doLine 117 = .ok (.getfield 9, 3) := by decide +kernel
theorem dX3_doLine_120 : decode cX3_doLine 120 = .ok (.iload 7, 2) := by decide +kernel
theorem dX3_doLine_122 : decode cX3_doLine 122 = .ok (.iaload, 1) := by decide +kernel
theorem dX3_doLine_123 : decode cX3_doLine 123 = .ok (.iadd, 1) := by decide +kernel
theorem dX3_doLine_124 : decode cX3_doLine 124 = .ok (.invokevirtual 39, 3) := by decide +kernel
theorem dX3_doLine_127 : decode cX3_doLine 127 = .ok (.aload_n 0, 1) := by decide +kernel
theorem dX3_doLine_128 : decode cX3_doLine 128 = .ok (.getfield 9, 3) := by decide +kernel
theorem dX3_doLine_131 : decode cX3_doLine 131 = .ok (.iload 6, 2) := by decide +kernel
theorem dX3_doLine_133 : decode cX3_doLine 133 = .ok (.aload_n 1, 1) := by decide +kernel
theorem dX3_doLine_134 : decode cX3_doLine 134 = .ok (.getfield 55, 3) := by decide +kernel
theorem dX3_doLine_137 : decode cX3_doLine 137 = .ok (.aload_n 0, 1) := by decide +kernel
theorem dX3_doLine_138 : decode cX3_doLine 138 = .ok (.getfield 9, 3) := by decide +kernel
theorem dX3_doLine_141 : decode cX3_doLine 141 = .ok (.iload 7, 2) := by decide +kernel
theorem dX3_doLine_143 : decode cX3_doLine 143 = .ok (.iaload, 1) := by decide +kernel
theorem dX3_doLine_144 : decode cX3_doLine 144 = .ok (.iaload, 1) := by decide +kernel
theorem dX3_doLine_145 : decode cX3_doLine 145 = .ok (.iastore, 1) := by decide +kernel
theorem dX3_doLine_146 : decode cX3_doLine 146 = .ok (.goto 171, 3) := by decide +kernel
theorem dX3_doLine_149 : decode cX3_doLine 149 = .ok (.aload_n 0, 1) := by decide +kernel
theorem dX3_doLine_150 : decode cX3_doLine 150 = .ok (.sipush 200, 3) := by decide +kernel
theorem dX3_doLine_153 : decode cX3_doLine 153 = .ok (.bipush 16, 2) := by decide +kernel
theorem dX3_doLine_155 : decode cX3_doLine 155 = .ok (.aload_n 0, 1) := by decide +kernel
theorem dX3_doLine_156 : decode cX3_doLine 156 = .ok (.getfield 9, 3) := by decide +kernel
theorem dX3_doLine_159 : decode cX3_doLine 159 = .ok (.iload 6, 2) := by decide +kernel
theorem dX3_doLine_161 : decode cX3_doLine 161 = .ok (.iaload, 1) := by decide +kernel
theorem dX3_doLine_162 : decode cX3_doLine 162 = .ok (.imul, 1) := by decide +kernel
theorem dX3_doLine_163 : decode cX3_doLine 163 = .ok (.iadd, 1) := by decide +kernel
theorem dX3_doLine_164 : decode cX3_doLine 164 = .ok (.aload_n 0, 1) := by decide +kernel
theorem dX3_doLine_165 : decode cX3_doLine 165 = .ok (.getfield 9, 3) := by decide +kernel
theorem dX3_doLine_168 : decode cX3_doLine 168 = .ok (.iload 7, 2) := by decide +kernel
theorem dX3_doLine_170 : decode cX3_doLine 170 = .ok (.iaload, 1) := by decide +kernel
theorem dX3_doLine_171 : decode cX3_doLine 171 = .ok (.iadd, 1) := by decide +kernel
theorem dX3_doLine_172 : decode cX3_doLine 172 = .ok (.invokevirtual 39, 3) := by decide +kernel
theorem dX3_doLine_175 : decode cX3_doLine 175 = .ok (.aload_n 0, 1) := by decide +kernel
theorem dX3_doLine_176 : decode cX3_doLine 176 = .ok (.getfield 9, 3) := by decide +kernel
theorem dX3_doLine_179 : decode cX3_doLine 179 = .ok (.iload 6, 2) := by decide +kernel
theorem dX3_doLine_181 : decode cX3_doLine 181 = .ok (.bipush 6, 2) := by decide +kernel
theorem dX3_doLine_183 : decode cX3_doLine 183 = .ok (.aload_n 0, 1) := by decide +kernel
theorem dX3_doLine_184 : decode cX3_doLine 184 = .ok (.getfield 9, 3) := by decide +kernel
theorem dX3_doLine_187 : decode cX3_doLine 187 = .ok (.iload 6, 2) := by decide +kernel
theorem dX3_doLine_189 : decode cX3_doLine 189 = .ok (.iaload, 1) := by decide +kernel
theorem dX3_doLine_190 : decode cX3_doLine 190 = .ok (.aload_n 0, 1) := by decide +kernel
theorem dX3_doLine_191 : decode cX3_doLine 191 = .ok (.getfield 9, 3) := by decide +kernel
theorem dX3_doLine_194 : decode cX3_doLine 194 = .ok (.iload 7, 2) := by decide +kernel
theorem dX3_doLine_196 : decode cX3_doLine 196 = .ok (.iaload, 1) := by decide +kernel
theorem dX3_doLine_197 : decode cX3_doLine 197 = .ok (.invokestatic 58, 3) := by decide +kernel
theorem dX3_doLine_200 : decode cX3_doLine 200 = .ok (.iastore, 1) := by decide +kernel
theorem dX3_doLine_201 : decode cX3_doLine 201 = .ok (.goto 116, 3) := by decide +kernel
theorem dX3_doLine_204 : decode cX3_doLine 204 = .ok (.aload_n 0, 1) := by decide +kernel
theorem dX3_doLine_205 : decode cX3_doLine 205 = .ok (.sipush 500, 3) := by decide +kernel
theorem dX3_doLine_208 : decode cX3_doLine 208 = .ok (.iconst 2, 1) := by decide +kernel
theorem dX3_doLine_209 : decode cX3_doLine 209 = .ok (.iload_n 2, 1) := by decide +kernel
theorem dX3_doLine_210 : decode cX3_doLine 210 = .ok (.imul, 1) := by decide +kernel
theorem dX3_doLine_211 : decode cX3_doLine 211 = .ok (.iadd, 1) := by decide +kernel
theorem dX3_doLine_212 : decode cX3_doLine 212 = .ok (.aload_n 0, 1) := by decide +kernel
theorem dX3_doLine_213 : decode cX3_doLine 213 = .ok (.getfield 9, 3) := by decide +kernel
theorem dX3_doLine_216 : decode cX3_doLine 216 = .ok (.iload 6, 2) := by decide +kernel
theorem dX3_doLine_218 : decode cX3_doLine 218 = .ok (.iaload, 1) := by decide +kernel
theorem dX3_doLine_219 : decode cX3_doLine 219 = .ok (.ifCond .eq 7, 3) := by decide +kernel
theorem dX3_doLine_222 : decode cX3_doLine 222 = .ok (.iconst 1, 1) := by decide +kernel
theorem dX3_doLine_223 : decode cX3_doLine 223 = .ok (.goto 4, 3) := by decide +kernel
theorem dX3_doLine_226 : decode cX3_doLine 226 = .ok (.iconst 0, 1) := by decide +kernel
theorem dX3_doLine_227 : decode cX3_doLine 227 = .ok (.iadd, 1) := by decide +kernel
theorem dX3_doLine_228 : decode cX3_doLine 228 = .ok (.invokevirtual 39, 3) := by decide +kernel
theorem dX3_doLine_231 : decode cX3_doLine 231 = .ok (.aload_n 0, 1) := by decide +kernel
theorem dX3_doLine_232 : decode cX3_doLine 232 = .ok (.getfield 9, 3) := by decide +kernel
theorem dX3_doLine_235 : decode cX3_doLine 235 = .ok (.iload 6, 2) := by decide +kernel
theorem dX3_doLine_237 : decode cX3_doLine 237 = .ok (.iaload, 1) := by decide +kernel
theorem dX3_doLine_238 : decode cX3_doLine 238 = .ok (.ifCond .eq 8, 3) := by decide +kernel
theorem dX3_doLine_241 : decode cX3_doLine 241 = .ok (.iload 7, 2) := by decide +kernel
theorem dX3_doLine_243 : decode cX3_doLine 243 = .ok (.goto 6, 3) := by decide +kernel
theorem dX3_doLine_246 : decode cX3_doLine 246 = .ok (.iload_n 2, 1) := by decide +kernel
theorem dX3_doLine_247 : decode cX3_doLine 247 = .ok (.iconst 1, 1) := by decide +kernel
theorem dX3_doLine_248 : decode cX3_doLine 248 = .ok (.iadd, 1) := by decide +kernel
theorem dX3_doLine_249 : decode cX3_doLine 249 = .ok (.ireturn, 1) := by decide +kernel
theorem dX3_doLine_250 : decode cX3_doLine 250 = .ok (.aload_n 0, 1) := by decide +kernel
theorem dX3_doLine_251 : decode cX3_doLine 251 = .ok (.getfield 9, 3) := by decide +kernel
theorem dX3_doLine_254 : decode cX3_doLine 254 = .ok (.iload 6, 2) := by decide +kernel
theorem dX3_doLine_256 : decode cX3_doLine 256 = .ok (.aload_n 0, 1) := by decide +kernel
theorem dX3_doLine_257 : decode cX3_doLine 257 = .ok (.getfield 9, 3) := by decide +kernel
theorem dX3_doLine_260 : decode cX3_doLine 260 = .ok (.iload 6, 2) := by decide +kernel
theorem dX3_doLine_262 : decode cX3_doLine 262 = .ok (.iaload, 1) := by decide +kernel
theorem dX3_doLine_263 : decode cX3_doLine 263 = .ok (.ifCond .eq 13, 3) := by decide +kernel
theorem dX3_doLine_266 : decode cX3_doLine 266 = .ok (.aload_n 0, 1) := by decide +kernel
theorem dX3_doLine_267 : decode cX3_doLine 267 = .ok (.getfield 9, 3) := by decide +kernel
theorem dX3_doLine_270 : decode cX3_doLine 270 = .ok (.iload 7, 2) := by decide +kernel
theorem dX3_doLine_272 : decode cX3_doLine 272 = .ok (.iaload, 1) := by decide +kernel
theorem dX3_doLine_273 : decode cX3_doLine 273 = .ok (.goto 14, 3) := by decide +kernel
theorem dX3_doLine_276 : decode cX3_doLine 276 = .ok (.aload_n 0, 1) := by decide +kernel
theorem dX3_doLine_277 : decode cX3_doLine 277 = .ok (.getfield 9, 3) := by decide +kernel
theorem dX3_doLine_280 : decode cX3_doLine 280 = .ok (.aload_n 3, 1) := by decide +kernel
theorem dX3_doLine_281 : decode cX3_doLine 281 = .ok (.iload 4, 2) := by decide +kernel
theorem dX3_doLine_283 : decode cX3_doLine 283 = .ok (.iconst 3, 1) := by decide +kernel
theorem dX3_doLine_284 : decode cX3_doLine 284 = .ok (.iadd, 1) := by decide +kernel
theorem dX3_doLine_285 : decode cX3_doLine 285 = .ok (.iaload, 1) := by decide +kernel
theorem dX3_doLine_286 : decode cX3_doLine 286 = .ok (.iaload, 1) := by decide +kernel
theorem dX3_doLine_287 : decode cX3_doLine 287 = .ok (.iastore, 1) := by decide +kernel
theorem dX3_doLine_288 : decode cX3_doLine 288 = .ok (.goto 29, 3) := by decide +kernel
theorem dX3_doLine_291 : decode cX3_doLine 291 = .ok (.aload_n 0, 1) := by decide +kernel
theorem dX3_doLine_292 : decode cX3_doLine 292 = .ok (.getfield 9, 3) := by decide +kernel
theorem dX3_doLine_295 : decode cX3_doLine 295 = .ok (.iload 6, 2) := by decide +kernel
theorem dX3_doLine_297 : decode cX3_doLine 297 = .ok (.iload 5, 2) := by decide +kernel
theorem dX3_doLine_299 : decode cX3_doLine 299 = .ok (.aload_n 0, 1) := by decide +kernel
theorem dX3_doLine_300 : decode cX3_doLine 300 = .ok (.getfield 9, 3) := by decide +kernel
theorem dX3_doLine_303 : decode cX3_doLine 303 = .ok (.iload 6, 2) := by decide +kernel
theorem dX3_doLine_305 : decode cX3_doLine 305 = .ok (.iaload, 1) := by decide +kernel
theorem dX3_doLine_306 : decode cX3_doLine 306 = .ok (.aload_n 0, 1) := by decide +kernel
theorem dX3_doLine_307 : decode cX3_doLine 307 = .ok (.getfield 9, 3) := by decide +kernel
theorem dX3_doLine_310 : decode cX3_doLine 310 = .ok (.iload 7, 2) := by decide +kernel
theorem dX3_doLine_312 : decode cX3_doLine 312 = .ok (.iaload, 1) := by decide +kernel
theorem dX3_doLine_313 : decode cX3_doLine 313 = .ok (.invokestatic 58, 3) := by decide +kernel
theorem dX3_doLine_316 : decode cX3_doLine 316 = .ok (.iastore, 1) := by decide +kernel
theorem dX3_doLine_317 : decode cX3_doLine 317 = .ok (.iload_n 2, 1) := by decide +kernel
theorem dX3_doLine_318 : decode cX3_doLine 318 = .ok (.iconst 1, 1) := by decide +kernel
theorem dX3_doLine_319 : decode cX3_doLine 319 = .ok (.iadd, 1) := by decide +kernel
theorem dX3_doLine_320 : decode cX3_doLine 320 = .ok (.ireturn, 1) := by decide +kernel
theorem dX3_see_0 : decode cX3_see 0 = .ok (.aload_n 0, 1) := by decide +kernel
theorem dX3_see_1 : decode cX3_see 1 = .ok (.getfield 43, 3) := by decide +kernel
theorem dX3_see_4 : decode cX3_see 4 = .ok (.bipush 61, 2) := by decide +kernel
theorem dX3_see_6 : decode cX3_see 6 = .ok (.if_icmp .ge 23, 3) := by decide +kernel
theorem dX3_see_9 : decode cX3_see 9 = .ok (.aload_n 0, 1) := by decide +kernel
theorem dX3_see_10 : decode cX3_see 10 = .ok (.getfield 15, 3) := by decide +kernel
theorem dX3_see_13 : decode cX3_see 13 = .ok (.aload_n 0, 1) := by decide +kernel
theorem dX3_see_14 : decode cX3_see 14 = .ok (.getfield 43, 3) := by decide +kernel
theorem dX3_see_17 : decode cX3_see 17 = .ok (.iload_n 1, 1) := by decide +kernel
theorem dX3_see_18 : decode cX3_see 18 = .ok (.iastore, 1) := by decide +kernel
theorem dX3_see_19 : decode cX3_see 19 = .ok (.aload_n 0, 1) := by decide +kernel
theorem dX3_see_20 : decode cX3_see 20 = .ok (.dup, 1) := by decide +kernel
theorem dX3_see_21 : decode cX3_see 21 = .ok (.getfield 43, 3) := by decide +kernel
theorem dX3_see_24 : decode cX3_see 24 = .ok (.iconst 1, 1) := by decide +kernel
theorem dX3_see_25 : decode cX3_see 25 = .ok (.iadd, 1) := by decide +kernel
theorem dX3_see_26 : decode cX3_see 26 = .ok (.putfield 43, 3) := by decide +kernel
theorem dX3_see_29 : decode cX3_see 29 = .ok (.return_, 1) := by decide +kernel
set_option maxRecDepth 20000 in
theorem ggX3_seen_X6_within : GoodIn wsX3_seen wsX6_within := goodIn_r _ [5] (by decide +kernel) (by decide +kernel)
set_option maxRecDepth 20000 in
theorem gX3_seen_X6_within_n62 : GoodIn wsX3_seen (wsX6_within) := ggX3_seen_X6_within
theorem dX3_seen_0 : decode cX3_seen 0 = .ok (.iload_n 1, 1) := by decide +kernel
theorem dX3_seen_1 : decode cX3_seen 1 = .ok (.aload_n 0, 1) := by decide +kernel
theorem dX3_seen_2 : decode cX3_seen 2 = .ok (.getfield 43, 3) := by decide +kernel
theorem dX3_seen_5 : decode cX3_seen 5 = .ok (.invokestatic 62, 3) := by decide +kernel
theorem dX3_seen_8 : decode cX3_seen 8 = .ok (.ifCond .eq 12, 3) := by decide +kernel
theorem dX3_seen_11 : decode cX3_seen 11 = .ok (.aload_n 0, 1) := by decide +kernel
theorem dX3_seen_12 : decode cX3_seen 12 = .ok (.getfield 15, 3) := by decide +kernel
theorem dX3_seen_15 : decode cX3_seen 15 = .ok (.iload_n 1, 1) := by decide +kernel
theorem dX3_seen_16 : decode cX3_seen 16 = .ok (.iaload, 1) := by decide +kernel
theorem dX3_seen_17 : decode cX3_seen 17 = .ok (.goto 4, 3) := by decide +kernel
theorem dX3_seen_20 : decode cX3_seen 20 = .ok (.iconst (-1), 1) := by decide +kernel
theorem dX3_seen_21 : decode cX3_seen 21 = .ok (.ireturn, 1) := by decide +kernel
theorem dX3_outcome_0 : decode cX3_outcome 0 = .ok (.iload_n 1, 1) := by decide +kernel
theorem dX3_outcome_1 : decode cX3_outcome 1 = .ok (.tableswitch 50 0 2 #[27, 32, 45], 27) := by decide +kernel
theorem dX3_outcome_28 : decode cX3_outcome 28 = .ok (.aload_n 0, 1) := by decide +kernel
theorem dX3_outcome_29 : decode cX3_outcome 29 = .ok (.getfield 22, 3) := by decide +kernel
theorem dX3_outcome_32 : decode cX3_outcome 32 = .ok (.ireturn, 1) := by decide +kernel
theorem dX3_outcome_33 : decode cX3_outcome 33 = .ok (.aload_n 0, 1) := by decide +kernel
theorem dX3_outcome_34 : decode cX3_outcome 34 = .ok (.getfield 35, 3) := by decide +kernel
theorem dX3_outcome_37 : decode cX3_outcome 37 = .ok (.ifCond .eq 7, 3) := by decide +kernel
theorem dX3_outcome_40 : decode cX3_outcome 40 = .ok (.iconst 1, 1) := by decide +kernel
theorem dX3_outcome_41 : decode cX3_outcome 41 = .ok (.goto 4, 3) := by decide +kernel
theorem dX3_outcome_44 : decode cX3_outcome 44 = .ok (.iconst 0, 1) := by decide +kernel
theorem dX3_outcome_45 : decode cX3_outcome 45 = .ok (.ireturn, 1) := by decide +kernel
theorem dX3_outcome_46 : decode cX3_outcome 46 = .ok (.aload_n 0, 1) := by decide +kernel
theorem dX3_outcome_47 : decode cX3_outcome 47 = .ok (.getfield 43, 3) := by decide +kernel
theorem dX3_outcome_50 : decode cX3_outcome 50 = .ok (.ireturn, 1) := by decide +kernel
theorem dX3_outcome_51 : decode cX3_outcome 51 = .ok (.aload_n 0, 1) := by decide +kernel
theorem dX3_outcome_52 : decode cX3_outcome 52 = .ok (.getfield 9, 3) := by decide +kernel
theorem dX3_outcome_55 : decode cX3_outcome 55 = .ok (.iload_n 1, 1) := by decide +kernel
theorem dX3_outcome_56 : decode cX3_outcome 56 = .ok (.iconst 3, 1) := by decide +kernel
theorem dX3_outcome_57 : decode cX3_outcome 57 = .ok (.isub, 1) := by decide +kernel
theorem dX3_outcome_58 : decode cX3_outcome 58 = .ok (.iaload, 1) := by decide +kernel
theorem dX3_outcome_59 : decode cX3_outcome 59 = .ok (.ireturn, 1) := by decide +kernel
set_option maxRecDepth 20000 in
theorem ggX3_partsFrom_X3_seen : GoodIn wsX3_partsFrom wsX3_seen := goodIn_r _ [10, 1, 11, 12, 13, 14, 15, 16, 17, 18, 19] (by decide +kernel) (by decide +kernel)
set_option maxRecDepth 20000 in
theorem gX3_partsFrom_X3_seen : GoodIn wsX3_partsFrom (wsV RX3 72 RX3 yX3_seen wsX3_seen) := goodIn_app (goodIn_of _ (by decide +kernel)) ggX3_partsFrom_X3_seen
theorem dX3_partsFrom_0 : decode cX3_partsFrom 0 = .ok (.aload_n 0, 1) := by decide +kernel
theorem dX3_partsFrom_1 : decode cX3_partsFrom 1 = .ok (.getfield 43, 3) := by decide +kernel
theorem dX3_partsFrom_4 : decode cX3_partsFrom 4 = .ok (.aload_n 1, 1) := by decide +kernel
theorem dX3_partsFrom_5 : decode cX3_partsFrom 5 = .ok (.getfield 43, 3) := by decide +kernel
theorem dX3_partsFrom_8 : decode cX3_partsFrom 8 = .ok (.invokestatic 66, 3) := by decide +kernel
theorem dX3_partsFrom_11 : decode cX3_partsFrom 11 = .ok (.istore_n 2, 1) := by decide +kernel
theorem dX3_partsFrom_12 : decode cX3_partsFrom 12 = .ok (.iconst 0, 1) := by decide +kernel
theorem dX3_partsFrom_13 : decode cX3_partsFrom 13 = .ok (.istore_n 3, 1) := by decide +kernel
theorem dX3_partsFrom_14 : decode cX3_partsFrom 14 = .ok (.iload_n 3, 1) := by decide +kernel
theorem dX3_partsFrom_15 : decode cX3_partsFrom 15 = .ok (.iload_n 2, 1) := by decide +kernel
theorem dX3_partsFrom_16 : decode cX3_partsFrom 16 = .ok (.if_icmp .ge 24, 3) := by decide +kernel
theorem dX3_partsFrom_19 : decode cX3_partsFrom 19 = .ok (.aload_n 0, 1) := by decide +kernel
theorem dX3_partsFrom_20 : decode cX3_partsFrom 20 = .ok (.iload_n 3, 1) := by decide +kernel
theorem dX3_partsFrom_21 : decode cX3_partsFrom 21 = .ok (.invokevirtual 72, 3) := by decide +kernel
theorem dX3_partsFrom_24 : decode cX3_partsFrom 24 = .ok (.aload_n 1, 1) := by decide +kernel
theorem dX3_partsFrom_25 : decode cX3_partsFrom 25 = .ok (.iload_n 3, 1) := by decide +kernel
theorem dX3_partsFrom_26 : decode cX3_partsFrom 26 = .ok (.invokevirtual 72, 3) := by decide +kernel
theorem dX3_partsFrom_29 : decode cX3_partsFrom 29 = .ok (.if_icmp .eq 5, 3) := by decide +kernel
theorem dX3_partsFrom_32 : decode cX3_partsFrom 32 = .ok (.iload_n 3, 1) := by decide +kernel
theorem dX3_partsFrom_33 : decode cX3_partsFrom 33 = .ok (.ireturn, 1) := by decide +kernel
theorem dX3_partsFrom_34 : decode cX3_partsFrom 34 = .ok (.iinc 3 1, 3) := by decide +kernel
theorem dX3_partsFrom_37 : decode cX3_partsFrom 37 = .ok (.goto (-23), 3) := by decide +kernel
theorem dX3_partsFrom_40 : decode cX3_partsFrom 40 = .ok (.iconst (-1), 1) := by decide +kernel
theorem dX3_partsFrom_41 : decode cX3_partsFrom 41 = .ok (.ireturn, 1) := by decide +kernel
theorem dX4_init_0 : decode cX4_init 0 = .ok (.aload_n 0, 1) := by decide +kernel
theorem dX4_init_1 : decode cX4_init 1 = .ok (.invokespecial 5, 3) := by decide +kernel
theorem dX4_init_4 : decode cX4_init 4 = .ok (.aload_n 0, 1) := by decide +kernel
theorem dX4_init_5 : decode cX4_init 5 = .ok (.sipush 2816, 3) := by decide +kernel
theorem dX4_init_8 : decode cX4_init 8 = .ok (.newarray .long, 2) := by decide +kernel
theorem dX4_init_10 : decode cX4_init 10 = .ok (.putfield 11, 3) := by decide +kernel
theorem dX4_init_13 : decode cX4_init 13 = .ok (.return_, 1) := by decide +kernel
set_option maxRecDepth 20000 in
theorem ggX4_take_X2_secretsEnd : GoodIn wsX4_take wsX2_secretsEnd := goodIn_r _ [11, 12, 13, 14, 15, 16, 17, 18, 19, 62, 63, 64, 65, 66] (by decide +kernel) (by decide +kernel)
set_option maxRecDepth 20000 in
theorem gX4_take_X2_secretsEnd : GoodIn wsX4_take (wsV RX4 22 RX2 yX2_secretsEnd wsX2_secretsEnd) := goodIn_app (goodIn_of _ (by decide +kernel)) ggX4_take_X2_secretsEnd
set_option maxRecDepth 20000 in
theorem ggX4_take_X3_follow : GoodIn wsX4_take wsX3_follow := goodIn_r _ [24, 25, 26, 27, 28, 29, 23, 30, 31, 32, 33, 34, 35, 36, 37, 38, 39, 40, 41, 42, 43, 44, 67, 68, 69, 70, 71, 62, 63, 64, 65, 66] (by decide +kernel) (by decide +kernel)
set_option maxRecDepth 20000 in
theorem gX4_take_X3_follow : GoodIn wsX4_take (wsV RX4 34 RX3 yX3_follow wsX3_follow) := goodIn_app (goodIn_of _ (by decide +kernel)) ggX4_take_X3_follow
set_option maxRecDepth 20000 in
theorem ggX4_take_X4_pack : GoodIn wsX4_take wsX4_pack := goodIn_r _ [49, 50, 67, 68, 69, 70, 71, 59, 60, 61] (by decide +kernel) (by decide +kernel)
set_option maxRecDepth 20000 in
theorem gX4_take_X4_pack : GoodIn wsX4_take (wsV RX4 40 RX4 yX4_pack wsX4_pack) := goodIn_app (goodIn_of _ (by decide +kernel)) ggX4_take_X4_pack
set_option maxRecDepth 20000 in
theorem ggX4_take_X4_isNew : GoodIn wsX4_take wsX4_isNew := goodIn_r _ [54, 55, 56, 57, 48, 58, 50, 59, 60, 61] (by decide +kernel) (by decide +kernel)
set_option maxRecDepth 20000 in
theorem gX4_take_X4_isNew : GoodIn wsX4_take (wsV RX4 44 RX4 yX4_isNew wsX4_isNew) := goodIn_app (goodIn_of _ (by decide +kernel)) ggX4_take_X4_isNew
theorem dX4_take_0 : decode cX4_take 0 = .ok (.aload_n 0, 1) := by decide +kernel
theorem dX4_take_1 : decode cX4_take 1 = .ok (.iconst 0, 1) := by decide +kernel
theorem dX4_take_2 : decode cX4_take 2 = .ok (.putfield 15, 3) := by decide +kernel
theorem dX4_take_5 : decode cX4_take 5 = .ok (.aload_n 0, 1) := by decide +kernel
theorem dX4_take_6 : decode cX4_take 6 = .ok (.iconst (-1), 1) := by decide +kernel
theorem dX4_take_7 : decode cX4_take 7 = .ok (.putfield 19, 3) := by decide +kernel
theorem dX4_take_10 : decode cX4_take 10 = .ok (.aload_n 1, 1) := by decide +kernel
theorem dX4_take_11 : decode cX4_take 11 = .ok (.invokevirtual 22, 3) := by decide +kernel
theorem dX4_take_14 : decode cX4_take 14 = .ok (.sipush 256, 3) := by decide +kernel
theorem dX4_take_17 : decode cX4_take 17 = .ok (.invokestatic 28, 3) := by decide +kernel
theorem dX4_take_20 : decode cX4_take 20 = .ok (.istore_n 3, 1) := by decide +kernel
theorem dX4_take_21 : decode cX4_take 21 = .ok (.iconst 0, 1) := by decide +kernel
theorem dX4_take_22 : decode cX4_take 22 = .ok (.istore 4, 2) := by decide +kernel
theorem dX4_take_24 : decode cX4_take 24 = .ok (.iload 4, 2) := by decide +kernel
theorem dX4_take_26 : decode cX4_take 26 = .ok (.iload_n 3, 1) := by decide +kernel
theorem dX4_take_27 : decode cX4_take 27 = .ok (.if_icmp .ge 60, 3) := by decide +kernel
theorem dX4_take_30 : decode cX4_take 30 = .ok (.aload_n 2, 1) := by decide +kernel
theorem dX4_take_31 : decode cX4_take 31 = .ok (.aload_n 1, 1) := by decide +kernel
theorem dX4_take_32 : decode cX4_take 32 = .ok (.iload 4, 2) := by decide +kernel
theorem dX4_take_34 : decode cX4_take 34 = .ok (.invokevirtual 34, 3) := by decide +kernel
theorem dX4_take_37 : decode cX4_take 37 = .ok (.aload_n 0, 1) := by decide +kernel
theorem dX4_take_38 : decode cX4_take 38 = .ok (.aload_n 2, 1) := by decide +kernel
theorem dX4_take_39 : decode cX4_take 39 = .ok (.aload_n 0, 1) := by decide +kernel
theorem dX4_take_40 : decode cX4_take 40 = .ok (.getfield 15, 3) := by decide +kernel
theorem dX4_take_43 : decode cX4_take 43 = .ok (.invokevirtual 40, 3) := by decide +kernel
theorem dX4_take_46 : decode cX4_take 46 = .ok (.aload_n 0, 1) := by decide +kernel
theorem dX4_take_47 : decode cX4_take 47 = .ok (.aload_n 0, 1) := by decide +kernel
theorem dX4_take_48 : decode cX4_take 48 = .ok (.getfield 15, 3) := by decide +kernel
theorem dX4_take_51 : decode cX4_take 51 = .ok (.invokevirtual 44, 3) := by decide +kernel
theorem dX4_take_54 : decode cX4_take 54 = .ok (.ifCond .eq 27, 3) := by decide +kernel
theorem dX4_take_57 : decode cX4_take 57 = .ok (.aload_n 0, 1) := by decide +kernel
theorem dX4_take_58 : decode cX4_take 58 = .ok (.getfield 15, 3) := by decide +kernel
theorem dX4_take_61 : decode cX4_take 61 = .ok (.iconst 1, 1) := by decide +kernel
theorem dX4_take_62 : decode cX4_take 62 = .ok (.if_icmp .ne 9, 3) := by decide +kernel
theorem dX4_take_65 : decode cX4_take 65 = .ok (.aload_n 0, 1) := by decide +kernel
theorem dX4_take_66 : decode cX4_take 66 = .ok (.iload 4, 2) := by decide +kernel
theorem dX4_take_68 : decode cX4_take 68 = .ok (.putfield 19, 3) := by decide +kernel
theorem dX4_take_71 : decode cX4_take 71 = .ok (.aload_n 0, 1) := by decide +kernel
theorem dX4_take_72 : decode cX4_take 72 = .ok (.dup, 1) := by decide +kernel
theorem dX4_take_73 : decode cX4_take 73 = .ok (.getfield 15, 3) := by decide +kernel
theorem dX4_take_76 : decode cX4_take 76 = .ok (.iconst 1, 1) := by decide +kernel
theorem dX4_take_77 : decode cX4_take 77 = .ok (.iadd, 1) := by decide +kernel
theorem dX4_take_78 : decode cX4_take 78 = .ok (.putfield 15, 3) := by decide +kernel
theorem dX4_take_81 : decode cX4_take 81 = .ok (.iinc 4 1, 3) := by decide +kernel
theorem dX4_take_84 : decode cX4_take 84 = .ok (.goto (-60), 3) := by decide +kernel
theorem dX4_take_87 : decode cX4_take 87 = .ok (.return_, 1) := by decide +kernel
theorem dX4_pack_0 : decode cX4_pack 0 = .ok (.iconst 0, 1) := by decide +kernel
theorem dX4_pack_1 : decode cX4_pack 1 = .ok (.istore_n 3, 1) := by decide +kernel
theorem dX4_pack_2 : decode cX4_pack 2 = .ok (.iload_n 2, 1) := by decide +kernel
theorem dX4_pack_3 : decode cX4_pack 3 = .ok (.bipush 11, 2) := by decide +kernel
theorem dX4_pack_5 : decode cX4_pack 5 = .ok (.imul, 1) := by decide +kernel
theorem dX4_pack_6 : decode cX4_pack 6 = .ok (.istore 4, 2) := by decide +kernel
theorem dX4_pack_8 : decode cX4_pack 8 = .ok (.iload 4, 2) := by decide +kernel
theorem dX4_pack_10 : decode cX4_pack 10 = .ok (.iload_n 2, 1) := by decide +kernel
theorem dX4_pack_11 : decode cX4_pack 11 = .ok (.iconst 1, 1) := by decide +kernel
theorem dX4_pack_12 : decode cX4_pack 12 = .ok (.iadd, 1) := by decide +kernel
theorem dX4_pack_13 : decode cX4_pack 13 = .ok (.bipush 11, 2) := by decide +kernel
theorem dX4_pack_15 : decode cX4_pack 15 = .ok (.imul, 1) := by decide +kernel
theorem dX4_pack_16 : decode cX4_pack 16 = .ok (.if_icmp .ge 66, 3) := by decide +kernel
theorem dX4_pack_19 : decode cX4_pack 19 = .ok (.lconst 0, 1) := by decide +kernel
theorem dX4_pack_20 : decode cX4_pack 20 = .ok (.lstore 5, 2) := by decide +kernel
theorem dX4_pack_22 : decode cX4_pack 22 = .ok (.iload_n 3, 1) := by decide +kernel
theorem dX4_pack_23 : decode cX4_pack 23 = .ok (.bipush 6, 2) := by decide +kernel
theorem dX4_pack_25 : decode cX4_pack 25 = .ok (.iadd, 1) := by decide +kernel
theorem dX4_pack_26 : decode cX4_pack 26 = .ok (.istore 7, 2) := by decide +kernel
theorem dX4_pack_28 : decode cX4_pack 28 = .ok (.iload_n 3, 1) := by decide +kernel
theorem dX4_pack_29 : decode cX4_pack 29 = .ok (.iload 7, 2) := by decide +kernel
theorem dX4_pack_31 : decode cX4_pack 31 = .ok (.if_icmp .ge 36, 3) := by decide +kernel
theorem dX4_pack_34 : decode cX4_pack 34 = .ok (.lload 5, 2) := by decide +kernel
theorem dX4_pack_36 : decode cX4_pack 36 = .ok (.bipush 10, 2) := by decide +kernel
theorem dX4_pack_38 : decode cX4_pack 38 = .ok (.lshl, 1) := by decide +kernel
theorem dX4_pack_39 : decode cX4_pack 39 = .ok (.iload_n 3, 1) := by decide +kernel
theorem dX4_pack_40 : decode cX4_pack 40 = .ok (.aload_n 1, 1) := by decide +kernel
theorem dX4_pack_41 : decode cX4_pack 41 = .ok (.getfield 48, 3) := by decide +kernel
theorem dX4_pack_44 : decode cX4_pack 44 = .ok (.if_icmp .ge 12, 3) := by decide +kernel
theorem dX4_pack_47 : decode cX4_pack 47 = .ok (.aload_n 1, 1) := by decide +kernel
theorem dX4_pack_48 : decode cX4_pack 48 = .ok (.getfield 51, 3) := by decide +kernel
theorem dX4_pack_51 : decode cX4_pack 51 = .ok (.iload_n 3, 1) := by decide +kernel
theorem dX4_pack_52 : decode cX4_pack 52 = .ok (.iaload, 1) := by decide +kernel
theorem dX4_pack_53 : decode cX4_pack 53 = .ok (.goto 4, 3) := by decide +kernel
theorem dX4_pack_56 : decode cX4_pack 56 = .ok (.iconst 0, 1) := by decide +kernel
theorem dX4_pack_57 : decode cX4_pack 57 = .ok (.i2l, 1) := by decide +kernel
theorem dX4_pack_58 : decode cX4_pack 58 = .ok (.lor, 1) := by decide +kernel
theorem dX4_pack_59 : decode cX4_pack 59 = .ok (.lstore 5, 2) := by decide +kernel
theorem dX4_pack_61 : decode cX4_pack 61 = .ok (.iinc 3 1, 3) := by decide +kernel
theorem dX4_pack_64 : decode cX4_pack 64 = .ok (.goto (-36), 3) := by decide +kernel
theorem dX4_pack_67 : decode cX4_pack 67 = .ok (.aload_n 0, 1) := by decide +kernel
theorem dX4_pack_68 : decode cX4_pack 68 = .ok (.getfield 11, 3) := by decide +kernel
theorem dX4_pack_71 : decode cX4_pack 71 = .ok (.iload 4, 2) := by decide +kernel
theorem dX4_pack_73 : decode cX4_pack 73 = .ok (.lload 5, 2) := by decide +kernel
theorem dX4_pack_75 : decode cX4_pack 75 = .ok (.lastore, 1) := by decide +kernel
theorem dX4_pack_76 : decode cX4_pack 76 = .ok (.iinc 4 1, 3) := by decide +kernel
theorem dX4_pack_79 : decode cX4_pack 79 = .ok (.goto (-71), 3) := by decide +kernel
theorem dX4_pack_82 : decode cX4_pack 82 = .ok (.return_, 1) := by decide +kernel
set_option maxRecDepth 20000 in
theorem ggX4_isNew_X4_alike : GoodIn wsX4_isNew wsX4_alike := goodIn_r _ [5, 6, 7, 8, 9] (by decide +kernel) (by decide +kernel)
set_option maxRecDepth 20000 in
theorem gX4_isNew_X4_alike : GoodIn wsX4_isNew (wsV RX4 55 RX4 yX4_alike wsX4_alike) := goodIn_app (goodIn_of _ (by decide +kernel)) ggX4_isNew_X4_alike
theorem dX4_isNew_0 : decode cX4_isNew 0 = .ok (.iconst 0, 1) := by decide +kernel
theorem dX4_isNew_1 : decode cX4_isNew 1 = .ok (.istore_n 2, 1) := by decide +kernel
theorem dX4_isNew_2 : decode cX4_isNew 2 = .ok (.iload_n 2, 1) := by decide +kernel
theorem dX4_isNew_3 : decode cX4_isNew 3 = .ok (.iload_n 1, 1) := by decide +kernel
theorem dX4_isNew_4 : decode cX4_isNew 4 = .ok (.if_icmp .ge 20, 3) := by decide +kernel
theorem dX4_isNew_7 : decode cX4_isNew 7 = .ok (.aload_n 0, 1) := by decide +kernel
theorem dX4_isNew_8 : decode cX4_isNew 8 = .ok (.iload_n 2, 1) := by decide +kernel
theorem dX4_isNew_9 : decode cX4_isNew 9 = .ok (.iload_n 1, 1) := by decide +kernel
theorem dX4_isNew_10 : decode cX4_isNew 10 = .ok (.invokevirtual 55, 3) := by decide +kernel
theorem dX4_isNew_13 : decode cX4_isNew 13 = .ok (.ifCond .eq 5, 3) := by decide +kernel
theorem dX4_isNew_16 : decode cX4_isNew 16 = .ok (.iconst 0, 1) := by decide +kernel
theorem dX4_isNew_17 : decode cX4_isNew 17 = .ok (.ireturn, 1) := by decide +kernel
theorem dX4_isNew_18 : decode cX4_isNew 18 = .ok (.iinc 2 1, 3) := by decide +kernel
theorem dX4_isNew_21 : decode cX4_isNew 21 = .ok (.goto (-19), 3) := by decide +kernel
theorem dX4_isNew_24 : decode cX4_isNew 24 = .ok (.iconst 1, 1) := by decide +kernel
theorem dX4_isNew_25 : decode cX4_isNew 25 = .ok (.ireturn, 1) := by decide +kernel
theorem dX4_alike_0 : decode cX4_alike 0 = .ok (.iconst 0, 1) := by decide +kernel
theorem dX4_alike_1 : decode cX4_alike 1 = .ok (.istore_n 3, 1) := by decide +kernel
theorem dX4_alike_2 : decode cX4_alike 2 = .ok (.iload_n 3, 1) := by decide +kernel
theorem dX4_alike_3 : decode cX4_alike 3 = .ok (.bipush 11, 2) := by decide +kernel
theorem dX4_alike_5 : decode cX4_alike 5 = .ok (.if_icmp .ge 37, 3) := by decide +kernel
theorem dX4_alike_8 : decode cX4_alike 8 = .ok (.aload_n 0, 1) := by decide +kernel
theorem dX4_alike_9 : decode cX4_alike 9 = .ok (.getfield 11, 3) := by decide +kernel
theorem dX4_alike_12 : decode cX4_alike 12 = .ok (.iload_n 1, 1) := by decide +kernel
theorem dX4_alike_13 : decode cX4_alike 13 = .ok (.bipush 11, 2) := by decide +kernel
theorem dX4_alike_15 : decode cX4_alike 15 = .ok (.imul, 1) := by decide +kernel
theorem dX4_alike_16 : decode cX4_alike 16 = .ok (.iload_n 3, 1) := by decide +kernel
theorem dX4_alike_17 : decode cX4_alike 17 = .ok (.iadd, 1) := by decide +kernel
theorem dX4_alike_18 : decode cX4_alike 18 = .ok (.laload, 1) := by decide +kernel
theorem dX4_alike_19 : decode cX4_alike 19 = .ok (.aload_n 0, 1) := by decide +kernel
theorem dX4_alike_20 : decode cX4_alike 20 = .ok (.getfield 11, 3) := by decide +kernel
theorem dX4_alike_23 : decode cX4_alike 23 = .ok (.iload_n 2, 1) := by decide +kernel
theorem dX4_alike_24 : decode cX4_alike 24 = .ok (.bipush 11, 2) := by decide +kernel
theorem dX4_alike_26 : decode cX4_alike 26 = .ok (.imul, 1) := by decide +kernel
theorem dX4_alike_27 : decode cX4_alike 27 = .ok (.iload_n 3, 1) := by decide +kernel
theorem dX4_alike_28 : decode cX4_alike 28 = .ok (.iadd, 1) := by decide +kernel
theorem dX4_alike_29 : decode cX4_alike 29 = .ok (.laload, 1) := by decide +kernel
theorem dX4_alike_30 : decode cX4_alike 30 = .ok (.lcmp, 1) := by decide +kernel
theorem dX4_alike_31 : decode cX4_alike 31 = .ok (.ifCond .eq 5, 3) := by decide +kernel
theorem dX4_alike_34 : decode cX4_alike 34 = .ok (.iconst 0, 1) := by decide +kernel
theorem dX4_alike_35 : decode cX4_alike 35 = .ok (.ireturn, 1) := by decide +kernel
theorem dX4_alike_36 : decode cX4_alike 36 = .ok (.iinc 3 1, 3) := by decide +kernel
theorem dX4_alike_39 : decode cX4_alike 39 = .ok (.goto (-37), 3) := by decide +kernel
theorem dX4_alike_42 : decode cX4_alike 42 = .ok (.iconst 1, 1) := by decide +kernel
theorem dX4_alike_43 : decode cX4_alike 43 = .ok (.ireturn, 1) := by decide +kernel
theorem dX5_init_0 : decode cX5_init 0 = .ok (.aload_n 0, 1) := by decide +kernel
theorem dX5_init_1 : decode cX5_init 1 = .ok (.invokespecial 3, 3) := by decide +kernel
theorem dX5_init_4 : decode cX5_init 4 = .ok (.aload_n 0, 1) := by decide +kernel
theorem dX5_init_5 : decode cX5_init 5 = .ok (.bipush 120, 2) := by decide +kernel
theorem dX5_init_7 : decode cX5_init 7 = .ok (.newarray .int, 2) := by decide +kernel
theorem dX5_init_9 : decode cX5_init 9 = .ok (.putfield 9, 3) := by decide +kernel
theorem dX5_init_12 : decode cX5_init 12 = .ok (.aload_n 0, 1) := by decide +kernel
theorem dX5_init_13 : decode cX5_init 13 = .ok (.bipush 40, 2) := by decide +kernel
theorem dX5_init_15 : decode cX5_init 15 = .ok (.newarray .int, 2) := by decide +kernel
theorem dX5_init_17 : decode cX5_init 17 = .ok (.putfield 15, 3) := by decide +kernel
theorem dX5_init_20 : decode cX5_init 20 = .ok (.aload_n 0, 1) := by decide +kernel
theorem dX5_init_21 : decode cX5_init 21 = .ok (.sipush 160, 3) := by decide +kernel
theorem dX5_init_24 : decode cX5_init 24 = .ok (.newarray .int, 2) := by decide +kernel
theorem dX5_init_26 : decode cX5_init 26 = .ok (.putfield 18, 3) := by decide +kernel
theorem dX5_init_29 : decode cX5_init 29 = .ok (.return_, 1) := by decide +kernel
theorem dX5_append_0 : decode cX5_append 0 = .ok (.aload_n 0, 1) := by decide +kernel
theorem dX5_append_1 : decode cX5_append 1 = .ok (.getfield 21, 3) := by decide +kernel
theorem dX5_append_4 : decode cX5_append 4 = .ok (.bipush 120, 2) := by decide +kernel
theorem dX5_append_6 : decode cX5_append 6 = .ok (.if_icmp .lt 6, 3) := by decide +kernel
theorem dX5_append_9 : decode cX5_append 9 = .ok (.bipush (-4), 2) := by decide +kernel
theorem dX5_append_11 : decode cX5_append 11 = .ok (.ireturn, 1) := by decide +kernel
theorem dX5_append_12 : decode cX5_append 12 = .ok (.aload_n 0, 1) := by decide +kernel
theorem dX5_append_13 : decode cX5_append 13 = .ok (.getfield 9, 3) := by decide +kernel
theorem dX5_append_16 : decode cX5_append 16 = .ok (.aload_n 0, 1) := by decide +kernel
theorem dX5_append_17 : decode cX5_append 17 = .ok (.getfield 21, 3) := by decide +kernel
theorem dX5_append_20 : decode cX5_append 20 = .ok (.iload_n 1, 1) := by decide +kernel
theorem dX5_append_21 : decode cX5_append 21 = .ok (.iastore, 1) := by decide +kernel
theorem dX5_append_22 : decode cX5_append 22 = .ok (.aload_n 0, 1) := by decide +kernel
theorem dX5_append_23 : decode cX5_append 23 = .ok (.dup, 1) := by decide +kernel
theorem dX5_append_24 : decode cX5_append 24 = .ok (.getfield 21, 3) := by decide +kernel
theorem dX5_append_27 : decode cX5_append 27 = .ok (.iconst 1, 1) := by decide +kernel
theorem dX5_append_28 : decode cX5_append 28 = .ok (.iadd, 1) := by decide +kernel
theorem dX5_append_29 : decode cX5_append 29 = .ok (.putfield 21, 3) := by decide +kernel
theorem dX5_append_32 : decode cX5_append 32 = .ok (.aload_n 0, 1) := by decide +kernel
theorem dX5_append_33 : decode cX5_append 33 = .ok (.getfield 21, 3) := by decide +kernel
theorem dX5_append_36 : decode cX5_append 36 = .ok (.ireturn, 1) := by decide +kernel
theorem dX5_empty_0 : decode cX5_empty 0 = .ok (.aload_n 0, 1) := by decide +kernel
theorem dX5_empty_1 : decode cX5_empty 1 = .ok (.getfield 21, 3) := by decide +kernel
theorem dX5_empty_4 : decode cX5_empty 4 = .ok (.istore_n 1, 1) := by decide +kernel
theorem dX5_empty_5 : decode cX5_empty 5 = .ok (.aload_n 0, 1) := by decide +kernel
theorem dX5_empty_6 : decode cX5_empty 6 = .ok (.iconst 0, 1) := by decide +kernel
theorem dX5_empty_7 : decode cX5_empty 7 = .ok (.putfield 21, 3) := by decide +kernel
theorem dX5_empty_10 : decode cX5_empty 10 = .ok (.iload_n 1, 1) := by decide +kernel
theorem dX5_empty_11 : decode cX5_empty 11 = .ok (.ireturn, 1) := by decide +kernel
set_option maxRecDepth 20000 in
theorem ggX5_read_X5_takes : GoodIn wsX5_read wsX5_takes := goodIn_r _ [9, 10, 2, 11, 12, 13, 8, 14, 1, 15, 16, 17, 18, 19, 20, 21, 22, 23, 24, 25, 26, 27, 28, 29, 30, 31, 32, 33, 34, 35, 36] (by decide +kernel) (by decide +kernel)
set_option maxRecDepth 20000 in
theorem gX5_read_X5_takes : GoodIn wsX5_read (wsV RX5 32 RX5 yX5_takes wsX5_takes) := goodIn_app (goodIn_of _ (by decide +kernel)) ggX5_read_X5_takes
theorem dX5_read_0 : decode cX5_read 0 = .ok (.aload_n 0, 1) := by decide +kernel
theorem dX5_read_1 : decode cX5_read 1 = .ok (.iconst 0, 1) := by decide +kernel
theorem dX5_read_2 : decode cX5_read 2 = .ok (.putfield 25, 3) := by decide +kernel
theorem dX5_read_5 : decode cX5_read 5 = .ok (.aload_n 0, 1) := by decide +kernel
theorem dX5_read_6 : decode cX5_read 6 = .ok (.iconst 0, 1) := by decide +kernel
theorem dX5_read_7 : decode cX5_read 7 = .ok (.putfield 28, 3) := by decide +kernel
theorem dX5_read_10 : decode cX5_read 10 = .ok (.iconst 0, 1) := by decide +kernel
theorem dX5_read_11 : decode cX5_read 11 = .ok (.istore_n 1, 1) := by decide +kernel
theorem dX5_read_12 : decode cX5_read 12 = .ok (.iload_n 1, 1) := by decide +kernel
theorem dX5_read_13 : decode cX5_read 13 = .ok (.aload_n 0, 1) := by decide +kernel
theorem dX5_read_14 : decode cX5_read 14 = .ok (.getfield 21, 3) := by decide +kernel
theorem dX5_read_17 : decode cX5_read 17 = .ok (.if_icmp .ge 24, 3) := by decide +kernel
theorem dX5_read_20 : decode cX5_read 20 = .ok (.aload_n 0, 1) := by decide +kernel
theorem dX5_read_21 : decode cX5_read 21 = .ok (.aload_n 0, 1) := by decide +kernel
theorem dX5_read_22 : decode cX5_read 22 = .ok (.getfield 9, 3) := by decide +kernel
theorem dX5_read_25 : decode cX5_read 25 = .ok (.iload_n 1, 1) := by decide +kernel
theorem dX5_read_26 : decode cX5_read 26 = .ok (.iaload, 1) := by decide +kernel
theorem dX5_read_27 : decode cX5_read 27 = .ok (.invokevirtual 32, 3) := by decide +kernel
theorem dX5_read_30 : decode cX5_read 30 = .ok (.ifCond .ne 5, 3) := by decide +kernel
theorem dX5_read_33 : decode cX5_read 33 = .ok (.iload_n 1, 1) := by decide +kernel
theorem dX5_read_34 : decode cX5_read 34 = .ok (.ireturn, 1) := by decide +kernel
theorem dX5_read_35 : decode cX5_read 35 = .ok (.iinc 1 1, 3) := by decide +kernel
theorem dX5_read_38 : decode cX5_read 38 = .ok (.goto (-26), 3) := by decide +kernel
theorem dX5_read_41 : decode cX5_read 41 = .ok (.aload_n 0, 1) := by decide +kernel
theorem dX5_read_42 : decode cX5_read 42 = .ok (.getfield 28, 3) := by decide +kernel
theorem dX5_read_45 : decode cX5_read 45 = .ok (.ifCond .ne 10, 3) := by decide +kernel
theorem dX5_read_48 : decode cX5_read 48 = .ok (.aload_n 0, 1) := by decide +kernel
theorem dX5_read_49 : decode cX5_read 49 = .ok (.getfield 25, 3) := by decide +kernel
theorem dX5_read_52 : decode cX5_read 52 = .ok (.ifCond .ne 10, 3) := by decide +kernel
theorem dX5_read_55 : decode cX5_read 55 = .ok (.aload_n 0, 1) := by decide +kernel
theorem dX5_read_56 : decode cX5_read 56 = .ok (.getfield 21, 3) := by decide +kernel
theorem dX5_read_59 : decode cX5_read 59 = .ok (.goto 4, 3) := by decide +kernel
theorem dX5_read_62 : decode cX5_read 62 = .ok (.iconst (-1), 1) := by decide +kernel
theorem dX5_read_63 : decode cX5_read 63 = .ok (.ireturn, 1) := by decide +kernel
set_option maxRecDepth 20000 in
theorem ggX5_takes_X5_begins : GoodIn wsX5_takes wsX5_begins := goodIn_r _ [7, 8, 9, 2, 10, 1, 11, 12, 6, 13, 23, 24, 25, 26, 27, 28, 29, 30] (by decide +kernel) (by decide +kernel)
set_option maxRecDepth 20000 in
theorem gX5_takes_X5_begins : GoodIn wsX5_takes (wsV RX5 39 RX5 yX5_begins wsX5_begins) := goodIn_app (goodIn_of _ (by decide +kernel)) ggX5_takes_X5_begins
set_option maxRecDepth 20000 in
theorem ggX5_takes_X5_ends : GoodIn wsX5_takes wsX5_ends := goodIn_r _ [17, 10, 9, 8, 2, 11, 12, 6, 13, 23, 24, 25, 26, 27, 28, 29, 30] (by decide +kernel) (by decide +kernel)
set_option maxRecDepth 20000 in
theorem gX5_takes_X5_ends : GoodIn wsX5_takes (wsV RX5 42 RX5 yX5_ends wsX5_ends) := goodIn_app (goodIn_of _ (by decide +kernel)) ggX5_takes_X5_ends
set_option maxRecDepth 20000 in
theorem ggX5_takes_X5_takesFigure : GoodIn wsX5_takes wsX5_takesFigure := goodIn_r _ [21, 8, 10, 1, 22, 9, 11, 12, 6, 13, 23, 24, 25, 26, 27, 28, 29, 30] (by decide +kernel) (by decide +kernel)
set_option maxRecDepth 20000 in
theorem gX5_takes_X5_takesFigure : GoodIn wsX5_takes (wsV RX5 46 RX5 yX5_takesFigure wsX5_takesFigure) := goodIn_app (goodIn_of _ (by decide +kernel)) ggX5_takes_X5_takesFigure
theorem dX5_takes_0 : decode cX5_takes 0 = .ok (.iload_n 1, 1) := by decide +kernel
theorem dX5_takes_1 : decode cX5_takes 1 = .ok (.bipush 32, 2) := by decide +kernel
theorem dX5_takes_3 : decode cX5_takes 3 = .ok (.if_icmp .ne 10, 3) := by decide +kernel
theorem dX5_takes_6 : decode cX5_takes 6 = .ok (.aload_n 0, 1) := by decide +kernel
theorem dX5_takes_7 : decode cX5_takes 7 = .ok (.iconst 0, 1) := by decide +kernel
theorem dX5_takes_8 : decode cX5_takes 8 = .ok (.putfield 36, 3) := by decide +kernel
theorem dX5_takes_11 : decode cX5_takes 11 = .ok (.iconst 1, 1) := by decide +kernel
theorem dX5_takes_12 : decode cX5_takes 12 = .ok (.ireturn, 1) := by decide +kernel
theorem dX5_takes_13 : decode cX5_takes 13 = .ok (.aload_n 0, 1) := by decide +kernel
theorem dX5_takes_14 : decode cX5_takes 14 = .ok (.getfield 28, 3) := by decide +kernel
theorem dX5_takes_17 : decode cX5_takes 17 = .ok (.ifCond .ne 9, 3) := by decide +kernel
theorem dX5_takes_20 : decode cX5_takes 20 = .ok (.aload_n 0, 1) := by decide +kernel
theorem dX5_takes_21 : decode cX5_takes 21 = .ok (.iload_n 1, 1) := by decide +kernel
theorem dX5_takes_22 : decode cX5_takes 22 = .ok (.invokevirtual 39, 3) := by decide +kernel
theorem dX5_takes_25 : decode cX5_takes 25 = .ok (.ireturn, 1) := by decide +kernel
theorem dX5_takes_26 : decode cX5_takes 26 = .ok (.iload_n 1, 1) := by decide +kernel
theorem dX5_takes_27 : decode cX5_takes 27 = .ok (.bipush 59, 2) := by decide +kernel
theorem dX5_takes_29 : decode cX5_takes 29 = .ok (.if_icmp .ne 8, 3) := by decide +kernel
theorem dX5_takes_32 : decode cX5_takes 32 = .ok (.aload_n 0, 1) := by decide +kernel
theorem dX5_takes_33 : decode cX5_takes 33 = .ok (.invokevirtual 42, 3) := by decide +kernel
theorem dX5_takes_36 : decode cX5_takes 36 = .ok (.ireturn, 1) := by decide +kernel
theorem dX5_takes_37 : decode cX5_takes 37 = .ok (.iload_n 1, 1) := by decide +kernel
theorem dX5_takes_38 : decode cX5_takes 38 = .ok (.bipush 48, 2) := by decide +kernel
theorem dX5_takes_40 : decode cX5_takes 40 = .ok (.if_icmp .lt 24, 3) := by decide +kernel
theorem dX5_takes_43 : decode cX5_takes 43 = .ok (.iload_n 1, 1) := by decide +kernel
theorem dX5_takes_44 : decode cX5_takes 44 = .ok (.bipush 57, 2) := by decide +kernel
theorem dX5_takes_46 : decode cX5_takes 46 = .ok (.if_icmp .gt 18, 3) := by decide +kernel
theorem dX5_takes_49 : decode cX5_takes 49 = .ok (.aload_n 0, 1) := by decide +kernel
theorem dX5_takes_50 : decode cX5_takes 50 = .ok (.iload_n 1, 1) := by decide +kernel
theorem dX5_takes_51 : decode cX5_takes 51 = .ok (.bipush 48, 2) := by decide +kernel
theorem dX5_takes_53 : decode cX5_takes 53 = .ok (.isub, 1) := by decide +kernel
theorem dX5_takes_54 : decode cX5_takes 54 = .ok (.invokevirtual 46, 3) := by decide +kernel
theorem dX5_takes_57 : decode cX5_takes 57 = .ok (.ifCond .eq 7, 3) := by decide +kernel
theorem dX5_takes_60 : decode cX5_takes 60 = .ok (.iconst 1, 1) := by decide +kernel
theorem dX5_takes_61 : decode cX5_takes 61 = .ok (.goto 4, 3) := by decide +kernel
theorem dX5_takes_64 : decode cX5_takes 64 = .ok (.iconst 0, 1) := by decide +kernel
theorem dX5_takes_65 : decode cX5_takes 65 = .ok (.ireturn, 1) := by decide +kernel
set_option maxRecDepth 20000 in
theorem ggX5_begins_X5_numbersOf : GoodIn wsX5_begins wsX5_numbersOf := goodIn_r _ [9] (by decide +kernel) (by decide +kernel)
set_option maxRecDepth 20000 in
theorem gX5_begins_X5_numbersOf : GoodIn wsX5_begins (va_wsS RX5 49 yX5_numbersOf wsX5_numbersOf) := goodIn_app (goodIn_of _ (by decide +kernel)) ggX5_begins_X5_numbersOf
theorem dX5_begins_0 : decode cX5_begins 0 = .ok (.iload_n 1, 1) := by decide +kernel
theorem dX5_begins_1 : decode cX5_begins 1 = .ok (.invokestatic 49, 3) := by decide +kernel
theorem dX5_begins_4 : decode cX5_begins 4 = .ok (.ifCond .eq 12, 3) := by decide +kernel
theorem dX5_begins_7 : decode cX5_begins 7 = .ok (.aload_n 0, 1) := by decide +kernel
theorem dX5_begins_8 : decode cX5_begins 8 = .ok (.getfield 25, 3) := by decide +kernel
theorem dX5_begins_11 : decode cX5_begins 11 = .ok (.bipush 40, 2) := by decide +kernel
theorem dX5_begins_13 : decode cX5_begins 13 = .ok (.if_icmp .lt 5, 3) := by decide +kernel
theorem dX5_begins_16 : decode cX5_begins 16 = .ok (.iconst 0, 1) := by decide +kernel
theorem dX5_begins_17 : decode cX5_begins 17 = .ok (.ireturn, 1) := by decide +kernel
theorem dX5_begins_18 : decode cX5_begins 18 = .ok (.aload_n 0, 1) := by decide +kernel
theorem dX5_begins_19 : decode cX5_begins 19 = .ok (.getfield 15, 3) := by decide +kernel
theorem dX5_begins_22 : decode cX5_begins 22 = .ok (.aload_n 0, 1) := by decide +kernel
theorem dX5_begins_23 : decode cX5_begins 23 = .ok (.getfield 25, 3) := by decide +kernel
theorem dX5_begins_26 : decode cX5_begins 26 = .ok (.iload_n 1, 1) := by decide +kernel
theorem dX5_begins_27 : decode cX5_begins 27 = .ok (.iastore, 1) := by decide +kernel
theorem dX5_begins_28 : decode cX5_begins 28 = .ok (.aload_n 0, 1) := by decide +kernel
theorem dX5_begins_29 : decode cX5_begins 29 = .ok (.iconst 1, 1) := by decide +kernel
theorem dX5_begins_30 : decode cX5_begins 30 = .ok (.putfield 28, 3) := by decide +kernel
theorem dX5_begins_33 : decode cX5_begins 33 = .ok (.aload_n 0, 1) := by decide +kernel
theorem dX5_begins_34 : decode cX5_begins 34 = .ok (.iconst 0, 1) := by decide +kernel
theorem dX5_begins_35 : decode cX5_begins 35 = .ok (.putfield 53, 3) := by decide +kernel
theorem dX5_begins_38 : decode cX5_begins 38 = .ok (.aload_n 0, 1) := by decide +kernel
theorem dX5_begins_39 : decode cX5_begins 39 = .ok (.iconst 0, 1) := by decide +kernel
theorem dX5_begins_40 : decode cX5_begins 40 = .ok (.putfield 36, 3) := by decide +kernel
theorem dX5_begins_43 : decode cX5_begins 43 = .ok (.iconst 1, 1) := by decide +kernel
theorem dX5_begins_44 : decode cX5_begins 44 = .ok (.ireturn, 1) := by decide +kernel
set_option maxRecDepth 20000 in
theorem ggX5_ends_X5_numbersOf : GoodIn wsX5_ends wsX5_numbersOf := goodIn_r _ [8] (by decide +kernel) (by decide +kernel)
set_option maxRecDepth 20000 in
theorem gX5_ends_X5_numbersOf : GoodIn wsX5_ends (va_wsS RX5 49 yX5_numbersOf wsX5_numbersOf) := goodIn_app (goodIn_of _ (by decide +kernel)) ggX5_ends_X5_numbersOf
theorem dX5_ends_0 : decode cX5_ends 0 = .ok (.aload_n 0, 1) := by decide +kernel
theorem dX5_ends_1 : decode cX5_ends 1 = .ok (.getfield 53, 3) := by decide +kernel
theorem dX5_ends_4 : decode cX5_ends 4 = .ok (.aload_n 0, 1) := by decide +kernel
theorem dX5_ends_5 : decode cX5_ends 5 = .ok (.getfield 15, 3) := by decide +kernel
theorem dX5_ends_8 : decode cX5_ends 8 = .ok (.aload_n 0, 1) := by decide +kernel
theorem dX5_ends_9 : decode cX5_ends 9 = .ok (.getfield 25, 3) := by decide +kernel
theorem dX5_ends_12 : decode cX5_ends 12 = .ok (.iaload, 1) := by decide +kernel
theorem dX5_ends_13 : decode cX5_ends 13 = .ok (.invokestatic 49, 3) := by decide +kernel
theorem dX5_ends_16 : decode cX5_ends 16 = .ok (.if_icmp .eq 5, 3) := by decide +kernel
theorem dX5_ends_19 : decode cX5_ends 19 = .ok (.iconst 0, 1) := by decide +kernel
theorem dX5_ends_20 : decode cX5_ends 20 = .ok (.ireturn, 1) := by decide +kernel
theorem dX5_ends_21 : decode cX5_ends 21 = .ok (.aload_n 0, 1) := by decide +kernel
theorem dX5_ends_22 : decode cX5_ends 22 = .ok (.dup, 1) := by decide +kernel
theorem dX5_ends_23 : decode cX5_ends 23 = .ok (.getfield 25, 3) := by decide +kernel
theorem dX5_ends_26 : decode cX5_ends 26 = .ok (.iconst 1, 1) := by decide +kernel
theorem dX5_ends_27 : decode cX5_ends 27 = .ok (.iadd, 1) := by decide +kernel
theorem dX5_ends_28 : decode cX5_ends 28 = .ok (.putfield 25, 3) := by decide +kernel
theorem dX5_ends_31 : decode cX5_ends 31 = .ok (.aload_n 0, 1) := by decide +kernel
theorem dX5_ends_32 : decode cX5_ends 32 = .ok (.iconst 0, 1) := by decide +kernel
theorem dX5_ends_33 : decode cX5_ends 33 = .ok (.putfield 28, 3) := by decide +kernel
theorem dX5_ends_36 : decode cX5_ends 36 = .ok (.iconst 1, 1) := by decide +kernel
theorem dX5_ends_37 : decode cX5_ends 37 = .ok (.ireturn, 1) := by decide +kernel
set_option maxRecDepth 20000 in
theorem ggX5_takesFigure_X5_numbersOf : GoodIn wsX5_takesFigure wsX5_numbersOf := goodIn_r _ [9] (by decide +kernel) (by decide +kernel)
set_option maxRecDepth 20000 in
theorem gX5_takesFigure_X5_numbersOf : GoodIn wsX5_takesFigure (va_wsS RX5 49 yX5_numbersOf wsX5_numbersOf) := goodIn_app (goodIn_of _ (by decide +kernel)) ggX5_takesFigure_X5_numbersOf
theorem dX5_takesFigure_0 : decode cX5_takesFigure 0 = .ok (.aload_n 0, 1) := by decide +kernel
theorem dX5_takesFigure_1 : decode cX5_takesFigure 1 = .ok (.getfield 25, 3) := by decide +kernel
theorem dX5_takesFigure_4 : decode cX5_takesFigure 4 = .ok (.iconst 4, 1) := by decide +kernel
theorem dX5_takesFigure_5 : decode cX5_takesFigure 5 = .ok (.imul, 1) := by decide +kernel
theorem dX5_takesFigure_6 : decode cX5_takesFigure 6 = .ok (.aload_n 0, 1) := by decide +kernel
theorem dX5_takesFigure_7 : decode cX5_takesFigure 7 = .ok (.getfield 53, 3) := by decide +kernel
theorem dX5_takesFigure_10 : decode cX5_takesFigure 10 = .ok (.iadd, 1) := by decide +kernel
theorem dX5_takesFigure_11 : decode cX5_takesFigure 11 = .ok (.istore_n 2, 1) := by decide +kernel
theorem dX5_takesFigure_12 : decode cX5_takesFigure 12 = .ok (.aload_n 0, 1) := by decide +kernel
theorem dX5_takesFigure_13 : decode cX5_takesFigure 13 = .ok (.getfield 36, 3) := by decide +kernel
theorem dX5_takesFigure_16 : decode cX5_takesFigure 16 = .ok (.iconst 1, 1) := by decide +kernel
theorem dX5_takesFigure_17 : decode cX5_takesFigure 17 = .ok (.if_icmp .ne 31, 3) := by decide +kernel
theorem dX5_takesFigure_20 : decode cX5_takesFigure 20 = .ok (.aload_n 0, 1) := by decide +kernel
theorem dX5_takesFigure_21 : decode cX5_takesFigure 21 = .ok (.getfield 18, 3) := by decide +kernel
theorem dX5_takesFigure_24 : decode cX5_takesFigure 24 = .ok (.iload_n 2, 1) := by decide +kernel
theorem dX5_takesFigure_25 : decode cX5_takesFigure 25 = .ok (.iconst 1, 1) := by decide +kernel
theorem dX5_takesFigure_26 : decode cX5_takesFigure 26 = .ok (.isub, 1) := by decide +kernel
theorem dX5_takesFigure_27 : decode cX5_takesFigure 27 = .ok (.bipush 10, 2) := by decide +kernel
theorem dX5_takesFigure_29 : decode cX5_takesFigure 29 = .ok (.aload_n 0, 1) := by decide +kernel
theorem dX5_takesFigure_30 : decode cX5_takesFigure 30 = .ok (.getfield 18, 3) := by decide +kernel
theorem dX5_takesFigure_33 : decode cX5_takesFigure 33 = .ok (.iload_n 2, 1) := by decide +kernel
theorem dX5_takesFigure_34 : decode cX5_takesFigure 34 = .ok (.iconst 1, 1) := by decide +kernel
theorem dX5_takesFigure_35 : decode cX5_takesFigure 35 = .ok (.isub, 1) := by decide +kernel
theorem dX5_takesFigure_36 : decode cX5_takesFigure 36 = .ok (.iaload, 1) := by decide +kernel
theorem dX5_takesFigure_37 : decode cX5_takesFigure 37 = .ok (.imul, 1) := by decide +kernel
theorem dX5_takesFigure_38 : decode cX5_takesFigure 38 = .ok (.iload_n 1, 1) := by decide +kernel
theorem dX5_takesFigure_39 : decode cX5_takesFigure 39 = .ok (.iadd, 1) := by decide +kernel
theorem dX5_takesFigure_40 : decode cX5_takesFigure 40 = .ok (.iastore, 1) := by decide +kernel
theorem dX5_takesFigure_41 : decode cX5_takesFigure 41 = .ok (.aload_n 0, 1) := by decide +kernel
theorem dX5_takesFigure_42 : decode cX5_takesFigure 42 = .ok (.iconst 2, 1) := by decide +kernel
theorem dX5_takesFigure_43 : decode cX5_takesFigure 43 = .ok (.putfield 36, 3) := by decide +kernel
theorem dX5_takesFigure_46 : decode cX5_takesFigure 46 = .ok (.iconst 1, 1) := by decide +kernel
theorem dX5_takesFigure_47 : decode cX5_takesFigure 47 = .ok (.ireturn, 1) := by decide +kernel
theorem dX5_takesFigure_48 : decode cX5_takesFigure 48 = .ok (.aload_n 0, 1) := by decide +kernel
theorem dX5_takesFigure_49 : decode cX5_takesFigure 49 = .ok (.getfield 36, 3) := by decide +kernel
theorem dX5_takesFigure_52 : decode cX5_takesFigure 52 = .ok (.iconst 2, 1) := by decide +kernel
theorem dX5_takesFigure_53 : decode cX5_takesFigure 53 = .ok (.if_icmp .eq 22, 3) := by decide +kernel
theorem dX5_takesFigure_56 : decode cX5_takesFigure 56 = .ok (.aload_n 0, 1) := by decide +kernel
theorem dX5_takesFigure_57 : decode cX5_takesFigure 57 = .ok (.getfield 53, 3) := by decide +kernel
theorem dX5_takesFigure_60 : decode cX5_takesFigure 60 = .ok (.aload_n 0, 1) := by decide +kernel
theorem dX5_takesFigure_61 : decode cX5_takesFigure 61 = .ok (.getfield 15, 3) := by decide +kernel
theorem dX5_takesFigure_64 : decode cX5_takesFigure 64 = .ok (.aload_n 0, 1) := by decide +kernel
theorem dX5_takesFigure_65 : decode cX5_takesFigure 65 = .ok (.getfield 25, 3) := by decide +kernel
theorem dX5_takesFigure_68 : decode cX5_takesFigure 68 = .ok (.iaload, 1) := by decide +kernel
theorem dX5_takesFigure_69 : decode cX5_takesFigure 69 = .ok (.invokestatic 49, 3) := by decide +kernel
theorem dX5_takesFigure_72 : decode cX5_takesFigure 72 = .ok (.if_icmp .ne 5, 3) := by decide +kernel
theorem dX5_takesFigure_75 : decode cX5_takesFigure 75 = .ok (.iconst 0, 1) := by decide +kernel
theorem dX5_takesFigure_76 : decode cX5_takesFigure 76 = .ok (.ireturn, 1) := by decide +kernel
theorem dX5_takesFigure_77 : decode cX5_takesFigure 77 = .ok (.aload_n 0, 1) := by decide +kernel
theorem dX5_takesFigure_78 : decode cX5_takesFigure 78 = .ok (.getfield 18, 3) := by decide +kernel
theorem dX5_takesFigure_81 : decode cX5_takesFigure 81 = .ok (.iload_n 2, 1) := by decide +kernel
theorem dX5_takesFigure_82 : decode cX5_takesFigure 82 = .ok (.iload_n 1, 1) := by decide +kernel
theorem dX5_takesFigure_83 : decode cX5_takesFigure 83 = .ok (.iastore, 1) := by decide +kernel
theorem dX5_takesFigure_84 : decode cX5_takesFigure 84 = .ok (.aload_n 0, 1) := by decide +kernel
theorem dX5_takesFigure_85 : decode cX5_takesFigure 85 = .ok (.dup, 1) := by decide +kernel
theorem dX5_takesFigure_86 : decode cX5_takesFigure 86 = .ok (.getfield 53, 3) := by decide +kernel
theorem dX5_takesFigure_89 : decode cX5_takesFigure 89 = .ok (.iconst 1, 1) := by decide +kernel
theorem dX5_takesFigure_90 : decode cX5_takesFigure 90 = .ok (.iadd, 1) := by decide +kernel
theorem dX5_takesFigure_91 : decode cX5_takesFigure 91 = .ok (.putfield 53, 3) := by decide +kernel
theorem dX5_takesFigure_94 : decode cX5_takesFigure 94 = .ok (.aload_n 0, 1) := by decide +kernel
theorem dX5_takesFigure_95 : decode cX5_takesFigure 95 = .ok (.iconst 1, 1) := by decide +kernel
theorem dX5_takesFigure_96 : decode cX5_takesFigure 96 = .ok (.putfield 36, 3) := by decide +kernel
theorem dX5_takesFigure_99 : decode cX5_takesFigure 99 = .ok (.iconst 1, 1) := by decide +kernel
theorem dX5_takesFigure_100 : decode cX5_takesFigure 100 = .ok (.ireturn, 1) := by decide +kernel
theorem dX5_numbersOf_0 : decode cX5_numbersOf 0 = .ok (.iload_n 0, 1) := by decide +kernel
theorem dX5_numbersOf_1 : decode cX5_numbersOf 1 = .ok (.lookupswitch 57 #[(100, 53), (108, 51), (112, 55), (116, 55), (118, 55)], 51) := by decide +kernel
theorem dX5_numbersOf_52 : decode cX5_numbersOf 52 = .ok (.iconst 4, 1) := by decide +kernel
theorem dX5_numbersOf_53 : decode cX5_numbersOf 53 = .ok (.ireturn, 1) := by decide +kernel
theorem dX5_numbersOf_54 : decode cX5_numbersOf 54 = .ok (.iconst 1, 1) := by decide +kernel
theorem dX5_numbersOf_55 : decode cX5_numbersOf 55 = .ok (.ireturn, 1) := by decide +kernel
theorem dX5_numbersOf_56 : decode cX5_numbersOf 56 = .ok (.iconst 2, 1) := by decide +kernel
theorem dX5_numbersOf_57 : decode cX5_numbersOf 57 = .ok (.ireturn, 1) := by decide +kernel
theorem dX5_numbersOf_58 : decode cX5_numbersOf 58 = .ok (.iconst 0, 1) := by decide +kernel
theorem dX5_numbersOf_59 : decode cX5_numbersOf 59 = .ok (.ireturn, 1) := by decide +kernel
set_option maxRecDepth 20000 in
theorem ggX5_giveOrder_X2_addLine : GoodIn wsX5_giveOrder wsX2_addLine := goodIn_r _ [7, 8, 9, 10, 11, 6, 12, 13, 14, 15, 16, 17, 18, 53, 54, 55, 56, 57] (by decide +kernel) (by decide +kernel)
set_option maxRecDepth 20000 in
theorem gX5_giveOrder_X2_addLine : GoodIn wsX5_giveOrder (wsV RX5 56 RX2 yX2_addLine wsX2_addLine) := goodIn_app (goodIn_of _ (by decide +kernel)) ggX5_giveOrder_X2_addLine
set_option maxRecDepth 20000 in
theorem ggX5_giveOrder_X2_dropLine : GoodIn wsX5_giveOrder wsX2_dropLine := goodIn_r _ [22, 8, 9, 13, 14, 15, 53, 54, 55, 56, 57] (by decide +kernel) (by decide +kernel)
set_option maxRecDepth 20000 in
theorem gX5_giveOrder_X2_dropLine : GoodIn wsX5_giveOrder (wsV RX5 62 RX2 yX2_dropLine wsX2_dropLine) := goodIn_app (goodIn_of _ (by decide +kernel)) ggX5_giveOrder_X2_dropLine
set_option maxRecDepth 20000 in
theorem ggX5_giveOrder_X2_putCell : GoodIn wsX5_giveOrder wsX2_putCell := goodIn_r _ [26, 27, 13, 14, 15, 53, 54, 55, 56, 57] (by decide +kernel) (by decide +kernel)
set_option maxRecDepth 20000 in
theorem gX5_giveOrder_X2_putCell : GoodIn wsX5_giveOrder (wsV RX5 65 RX2 yX2_putCell wsX2_putCell) := goodIn_app (goodIn_of _ (by decide +kernel)) ggX5_giveOrder_X2_putCell
set_option maxRecDepth 20000 in
theorem ggX5_giveOrder_X2_putStart : GoodIn wsX5_giveOrder wsX2_putStart := goodIn_r _ [31, 32, 13, 14, 15, 53, 54, 55, 56, 57] (by decide +kernel) (by decide +kernel)
set_option maxRecDepth 20000 in
theorem gX5_giveOrder_X2_putStart : GoodIn wsX5_giveOrder (wsV RX5 69 RX2 yX2_putStart wsX2_putStart) := goodIn_app (goodIn_of _ (by decide +kernel)) ggX5_giveOrder_X2_putStart
set_option maxRecDepth 20000 in
theorem ggX5_giveOrder_X2_putSecret : GoodIn wsX5_giveOrder wsX2_putSecret := goodIn_r _ [36, 37, 13, 14, 15, 38, 39, 40, 41, 42, 43, 44, 53, 54, 55, 56, 57] (by decide +kernel) (by decide +kernel)
set_option maxRecDepth 20000 in
theorem gX5_giveOrder_X2_putSecret : GoodIn wsX5_giveOrder (wsV RX5 72 RX2 yX2_putSecret wsX2_putSecret) := goodIn_app (goodIn_of _ (by decide +kernel)) ggX5_giveOrder_X2_putSecret
theorem dX5_giveOrder_0 : decode cX5_giveOrder 0 = .ok (.iload_n 1, 1) := by decide +kernel
theorem dX5_giveOrder_1 : decode cX5_giveOrder 1 = .ok (.iconst 4, 1) := by decide +kernel
theorem dX5_giveOrder_2 : decode cX5_giveOrder 2 = .ok (.imul, 1) := by decide +kernel
theorem dX5_giveOrder_3 : decode cX5_giveOrder 3 = .ok (.istore_n 3, 1) := by decide +kernel
theorem dX5_giveOrder_4 : decode cX5_giveOrder 4 = .ok (.aload_n 0, 1) := by decide +kernel
theorem dX5_giveOrder_5 : decode cX5_giveOrder 5 = .ok (.getfield 18, 3) := by decide +kernel
theorem dX5_giveOrder_8 : decode cX5_giveOrder 8 = .ok (.iload_n 3, 1) := by decide +kernel
theorem dX5_giveOrder_9 : decode cX5_giveOrder 9 = .ok (.iaload, 1) := by decide +kernel
theorem dX5_giveOrder_10 : decode cX5_giveOrder 10 = .ok (.istore 4, 2) := by decide +kernel
theorem dX5_giveOrder_12 : decode cX5_giveOrder 12 = .ok (.aload_n 0, 1) := by decide +kernel
theorem dX5_giveOrder_13 : decode cX5_giveOrder 13 = .ok (.getfield 18, 3) := by decide +kernel
theorem dX5_giveOrder_16 : decode cX5_giveOrder 16 = .ok (.iload_n 3, 1) := by decide +kernel
theorem dX5_giveOrder_17 : decode cX5_giveOrder 17 = .ok (.iconst 1, 1) := by decide +kernel
theorem dX5_giveOrder_18 : decode cX5_giveOrder 18 = .ok (.iadd, 1) := by decide +kernel
theorem dX5_giveOrder_19 : decode cX5_giveOrder 19 = .ok (.iaload, 1) := by decide +kernel
theorem dX5_giveOrder_20 : decode cX5_giveOrder 20 = .ok (.istore 5, 2) := by decide +kernel
theorem dX5_giveOrder_22 : decode cX5_giveOrder 22 = .ok (.aload_n 0, 1) := by decide +kernel
theorem dX5_giveOrder_23 : decode cX5_giveOrder 23 = .ok (.getfield 15, 3) := by decide +kernel
theorem dX5_giveOrder_26 : decode cX5_giveOrder 26 = .ok (.iload_n 1, 1) := by decide +kernel
theorem dX5_giveOrder_27 : decode cX5_giveOrder 27 = .ok (.iaload, 1) := by decide +kernel
theorem dX5_giveOrder_28 : decode cX5_giveOrder 28 = .ok (.lookupswitch 94 #[(100, 69), (108, 44), (116, 76), (118, 85)], 44) := by decide +kernel
theorem dX5_giveOrder_72 : decode cX5_giveOrder 72 = .ok (.aload_n 2, 1) := by decide +kernel
theorem dX5_giveOrder_73 : decode cX5_giveOrder 73 = .ok (.iload 4, 2) := by decide +kernel
theorem dX5_giveOrder_75 : decode cX5_giveOrder 75 = .ok (.iload 5, 2) := by decide +kernel
theorem dX5_giveOrder_77 : decode cX5_giveOrder 77 = .ok (.aload_n 0, 1) := by decide +kernel
theorem dX5_giveOrder_78 : decode cX5_giveOrder 78 = .ok (.getfield 18, 3) := by decide +kernel
theorem dX5_giveOrder_81 : decode cX5_giveOrder 81 = .ok (.iload_n 3, 1) := by decide +kernel
theorem dX5_giveOrder_82 : decode cX5_giveOrder 82 = .ok (.iconst 2, 1) := by decide +kernel
theorem dX5_giveOrder_83 : decode cX5_giveOrder 83 = .ok (.iadd, 1) := by decide +kernel
theorem dX5_giveOrder_84 : decode cX5_giveOrder 84 = .ok (.iaload, 1) := by decide +kernel
theorem dX5_giveOrder_85 : decode cX5_giveOrder 85 = .ok (.aload_n 0, 1) := by decide +kernel
theorem dX5_giveOrder_86 : decode cX5_giveOrder 86 = .ok (.getfield 18, 3) := by decide +kernel
theorem dX5_giveOrder_89 : decode cX5_giveOrder 89 = .ok (.iload_n 3, 1) := by decide +kernel
theorem dX5_giveOrder_90 : decode cX5_giveOrder 90 = .ok (.iconst 3, 1) := by decide +kernel
theorem dX5_giveOrder_91 : decode cX5_giveOrder 91 = .ok (.iadd, 1) := by decide +kernel
theorem dX5_giveOrder_92 : decode cX5_giveOrder 92 = .ok (.iaload, 1) := by decide +kernel
theorem dX5_giveOrder_93 : decode cX5_giveOrder 93 = .ok (.invokevirtual 56, 3) := by decide +kernel
theorem dX5_giveOrder_96 : decode cX5_giveOrder 96 = .ok (.ireturn, 1) := by decide +kernel
theorem dX5_giveOrder_97 : decode cX5_giveOrder 97 = .ok (.aload_n 2, 1) := by decide +kernel
theorem dX5_giveOrder_98 : decode cX5_giveOrder 98 = .ok (.iload 4, 2) := by decide +kernel
theorem dX5_giveOrder_100 : decode cX5_giveOrder 100 = .ok (.invokevirtual 62, 3) := by decide +kernel
theorem dX5_giveOrder_103 : decode cX5_giveOrder 103 = .ok (.ireturn, 1) := by decide +kernel
theorem dX5_giveOrder_104 : decode cX5_giveOrder 104 = .ok (.aload_n 2, 1) := by decide +kernel
theorem dX5_giveOrder_105 : decode cX5_giveOrder 105 = .ok (.iload 4, 2) := by decide +kernel
theorem dX5_giveOrder_107 : decode cX5_giveOrder 107 = .ok (.iload 5, 2) := by decide +kernel
theorem dX5_giveOrder_109 : decode cX5_giveOrder 109 = .ok (.invokevirtual 65, 3) := by decide +kernel
theorem dX5_giveOrder_112 : decode cX5_giveOrder 112 = .ok (.ireturn, 1) := by decide +kernel
theorem dX5_giveOrder_113 : decode cX5_giveOrder 113 = .ok (.aload_n 2, 1) := by decide +kernel
theorem dX5_giveOrder_114 : decode cX5_giveOrder 114 = .ok (.iload 4, 2) := by decide +kernel
theorem dX5_giveOrder_116 : decode cX5_giveOrder 116 = .ok (.iload 5, 2) := by decide +kernel
theorem dX5_giveOrder_118 : decode cX5_giveOrder 118 = .ok (.invokevirtual 69, 3) := by decide +kernel
theorem dX5_giveOrder_121 : decode cX5_giveOrder 121 = .ok (.ireturn, 1) := by decide +kernel
theorem dX5_giveOrder_122 : decode cX5_giveOrder 122 = .ok (.aload_n 2, 1) := by decide +kernel
theorem dX5_giveOrder_123 : decode cX5_giveOrder 123 = .ok (.iload 4, 2) := by decide +kernel
theorem dX5_giveOrder_125 : decode cX5_giveOrder 125 = .ok (.iload 5, 2) := by decide +kernel
theorem dX5_giveOrder_127 : decode cX5_giveOrder 127 = .ok (.invokevirtual 72, 3) := by decide +kernel
theorem dX5_giveOrder_130 : decode cX5_giveOrder 130 = .ok (.ireturn, 1) := by decide +kernel
set_option maxRecDepth 20000 in
theorem ggX6_init_X2_init : GoodIn wsX6_init wsX2_init := goodIn_r _ [32, 33, 2, 3, 34, 35, 36, 37, 69, 70, 71, 72, 73] (by decide +kernel) (by decide +kernel)
set_option maxRecDepth 20000 in
theorem gX6_init_X2_init : GoodIn wsX6_init (wsX2_init) := ggX6_init_X2_init
set_option maxRecDepth 20000 in
theorem ggX6_init_X1_init : GoodIn wsX6_init wsX1_init := goodIn_r _ [40, 41, 2, 3, 42, 43, 5, 6, 44, 31, 32, 33, 34, 35, 36, 37, 87, 88, 89, 69, 70, 71, 72, 73] (by decide +kernel) (by decide +kernel)
set_option maxRecDepth 20000 in
theorem gX6_init_X1_init : GoodIn wsX6_init (wsX1_init) := ggX6_init_X1_init
set_option maxRecDepth 20000 in
theorem ggX6_init_X5_init : GoodIn wsX6_init wsX5_init := goodIn_r _ [46, 47, 2, 3, 34, 48, 49, 50, 90, 91, 92, 93, 94, 95, 96, 97] (by decide +kernel) (by decide +kernel)
set_option maxRecDepth 20000 in
theorem gX6_init_X5_init_n28 : GoodIn wsX6_init (wsX5_init) := ggX6_init_X5_init
set_option maxRecDepth 20000 in
theorem ggX6_init_X3_init : GoodIn wsX6_init wsX3_init := goodIn_r _ [52, 53, 2, 3, 34, 54, 55, 98, 99, 100, 101, 102] (by decide +kernel) (by decide +kernel)
set_option maxRecDepth 20000 in
theorem gX6_init_X3_init_n35 : GoodIn wsX6_init (wsX3_init) := ggX6_init_X3_init
set_option maxRecDepth 20000 in
theorem ggX6_init_X0_init : GoodIn wsX6_init wsX0_init := goodIn_r _ [57, 58, 2, 3, 59, 60, 34, 61, 62, 63, 103, 104, 105, 106, 107, 108] (by decide +kernel) (by decide +kernel)
set_option maxRecDepth 20000 in
theorem gX6_init_X0_init_n45 : GoodIn wsX6_init (wsX0_init) := ggX6_init_X0_init
set_option maxRecDepth 20000 in
theorem ggX6_init_X4_init : GoodIn wsX6_init wsX4_init := goodIn_r _ [65, 66, 2, 3, 67, 68, 109, 110, 111] (by decide +kernel) (by decide +kernel)
set_option maxRecDepth 20000 in
theorem gX6_init_X4_init_n52 : GoodIn wsX6_init (wsX4_init) := ggX6_init_X4_init
theorem dX6_init_0 : decode cX6_init 0 = .ok (.aload_n 0, 1) := by decide +kernel
theorem dX6_init_1 : decode cX6_init 1 = .ok (.invokespecial 3, 3) := by decide +kernel
theorem dX6_init_4 : decode cX6_init 4 = .ok (.aload_n 0, 1) := by decide +kernel
theorem dX6_init_5 : decode cX6_init 5 = .ok (.new 9, 3) := by decide +kernel
theorem dX6_init_8 : decode cX6_init 8 = .ok (.dup, 1) := by decide +kernel
theorem dX6_init_9 : decode cX6_init 9 = .ok (.invokespecial 11, 3) := by decide +kernel
theorem dX6_init_12 : decode cX6_init 12 = .ok (.putfield 12, 3) := by decide +kernel
theorem dX6_init_15 : decode cX6_init 15 = .ok (.aload_n 0, 1) := by decide +kernel
theorem dX6_init_16 : decode cX6_init 16 = .ok (.new 9, 3) := by decide +kernel
theorem dX6_init_19 : decode cX6_init 19 = .ok (.dup, 1) := by decide +kernel
theorem dX6_init_20 : decode cX6_init 20 = .ok (.invokespecial 11, 3) := by decide +kernel
theorem dX6_init_23 : decode cX6_init 23 = .ok (.putfield 16, 3) := by decide +kernel
theorem dX6_init_26 : decode cX6_init 26 = .ok (.aload_n 0, 1) := by decide +kernel
theorem dX6_init_27 : decode cX6_init 27 = .ok (.new 19, 3) := by decide +kernel
theorem dX6_init_30 : decode cX6_init 30 = .ok (.dup, 1) := by decide +kernel
theorem dX6_init_31 : decode cX6_init 31 = .ok (.invokespecial 21, 3) := by decide +kernel
theorem dX6_init_34 : decode cX6_init 34 = .ok (.putfield 22, 3) := by decide +kernel
theorem dX6_init_37 : decode cX6_init 37 = .ok (.aload_n 0, 1) := by decide +kernel
theorem dX6_init_38 : decode cX6_init 38 = .ok (.new 26, 3) := by decide +kernel
theorem dX6_init_41 : decode cX6_init 41 = .ok (.dup, 1) := by decide +kernel
theorem dX6_init_42 : decode cX6_init 42 = .ok (.invokespecial 28, 3) := by decide +kernel
theorem dX6_init_45 : decode cX6_init 45 = .ok (.putfield 29, 3) := by decide +kernel
theorem dX6_init_48 : decode cX6_init 48 = .ok (.aload_n 0, 1) := by decide +kernel
theorem dX6_init_49 : decode cX6_init 49 = .ok (.new 33, 3) := by decide +kernel
theorem dX6_init_52 : decode cX6_init 52 = .ok (.dup, 1) := by decide +kernel
theorem dX6_init_53 : decode cX6_init 53 = .ok (.invokespecial 35, 3) := by decide +kernel
theorem dX6_init_56 : decode cX6_init 56 = .ok (.putfield 36, 3) := by decide +kernel
theorem dX6_init_59 : decode cX6_init 59 = .ok (.aload_n 0, 1) := by decide +kernel
theorem dX6_init_60 : decode cX6_init 60 = .ok (.new 33, 3) := by decide +kernel
theorem dX6_init_63 : decode cX6_init 63 = .ok (.dup, 1) := by decide +kernel
theorem dX6_init_64 : decode cX6_init 64 = .ok (.invokespecial 35, 3) := by decide +kernel
theorem dX6_init_67 : decode cX6_init 67 = .ok (.putfield 40, 3) := by decide +kernel
theorem dX6_init_70 : decode cX6_init 70 = .ok (.aload_n 0, 1) := by decide +kernel
theorem dX6_init_71 : decode cX6_init 71 = .ok (.new 43, 3) := by decide +kernel
theorem dX6_init_74 : decode cX6_init 74 = .ok (.dup, 1) := by decide +kernel
theorem dX6_init_75 : decode cX6_init 75 = .ok (.invokespecial 45, 3) := by decide +kernel
theorem dX6_init_78 : decode cX6_init 78 = .ok (.putfield 46, 3) := by decide +kernel
theorem dX6_init_81 : decode cX6_init 81 = .ok (.aload_n 0, 1) := by decide +kernel
theorem dX6_init_82 : decode cX6_init 82 = .ok (.new 50, 3) := by decide +kernel
theorem dX6_init_85 : decode cX6_init 85 = .ok (.dup, 1) := by decide +kernel
theorem dX6_init_86 : decode cX6_init 86 = .ok (.invokespecial 52, 3) := by decide +kernel
theorem dX6_init_89 : decode cX6_init 89 = .ok (.putfield 53, 3) := by decide +kernel
theorem dX6_init_92 : decode cX6_init 92 = .ok (.return_, 1) := by decide +kernel
set_option maxRecDepth 20000 in
theorem ggX6_line_X6_sketched : GoodIn wsX6_line wsX6_sketched := goodIn_r _ [5, 6, 7, 8, 9, 10, 11, 12, 13, 14, 15, 16, 17, 18, 19, 20, 21, 68, 69, 70, 71, 72, 73, 74, 75, 76, 77, 78, 79, 80, 81, 82, 83, 84, 85] (by decide +kernel) (by decide +kernel)
set_option maxRecDepth 20000 in
theorem gX6_line_X6_sketched : GoodIn wsX6_line (wsV RX6 57 RX6 yX6_sketched wsX6_sketched) := goodIn_app (goodIn_of _ (by decide +kernel)) ggX6_line_X6_sketched
set_option maxRecDepth 20000 in
theorem ggX6_line_X2_addLine : GoodIn wsX6_line wsX2_addLine := goodIn_r _ [25, 20, 13, 26, 27, 11, 28, 29, 4, 30, 31, 32, 33, 81, 82, 83, 84, 85] (by decide +kernel) (by decide +kernel)
set_option maxRecDepth 20000 in
theorem gX6_line_X2_addLine : GoodIn wsX6_line (wsV RX6 61 RX2 yX2_addLine wsX2_addLine) := goodIn_app (goodIn_of _ (by decide +kernel)) ggX6_line_X2_addLine
set_option maxRecDepth 20000 in
theorem ggX6_line_X6_settled : GoodIn wsX6_line wsX6_settled := goodIn_r _ [37, 38, 39, 40, 4, 41, 42, 43, 44, 45, 46, 47, 48, 49, 7, 6, 50, 51, 52, 53, 54, 55, 56, 57, 58, 59, 60, 61, 9, 10, 11, 12, 13, 14, 15, 16, 17, 18, 19, 20, 21, 8, 62, 63, 64, 65, 66, 67, 68, 69, 70, 71, 72, 73, 74, 75, 76, 77, 78, 79, 80, 86, 87, 88, 81, 82, 83, 84, 85] (by decide +kernel) (by decide +kernel)
set_option maxRecDepth 20000 in
theorem gX6_line_X6_settled : GoodIn wsX6_line (wsV RX6 65 RX6 yX6_settled wsX6_settled) := goodIn_app (goodIn_of _ (by decide +kernel)) ggX6_line_X6_settled
theorem dX6_line_0 : decode cX6_line 0 = .ok (.aload_n 0, 1) := by decide +kernel
theorem dX6_line_1 : decode cX6_line 1 = .ok (.aload_n 0, 1) := by decide +kernel
theorem dX6_line_2 : decode cX6_line 2 = .ok (.invokevirtual 57, 3) := by decide +kernel
theorem dX6_line_5 : decode cX6_line 5 = .ok (.iload_n 1, 1) := by decide +kernel
theorem dX6_line_6 : decode cX6_line 6 = .ok (.iload_n 2, 1) := by decide +kernel
theorem dX6_line_7 : decode cX6_line 7 = .ok (.iload_n 3, 1) := by decide +kernel
theorem dX6_line_8 : decode cX6_line 8 = .ok (.iload 4, 2) := by decide +kernel
theorem dX6_line_10 : decode cX6_line 10 = .ok (.invokevirtual 61, 3) := by decide +kernel
theorem dX6_line_13 : decode cX6_line 13 = .ok (.invokevirtual 65, 3) := by decide +kernel
theorem dX6_line_16 : decode cX6_line 16 = .ok (.ireturn, 1) := by decide +kernel
set_option maxRecDepth 20000 in
theorem ggX6_drops_X6_sketched : GoodIn wsX6_drops wsX6_sketched := goodIn_r _ [5, 6, 7, 8, 9, 10, 11, 12, 13, 14, 15, 16, 17, 18, 19, 20, 21, 62, 63, 64, 65, 66, 67, 68, 69, 70, 71, 72, 73, 74, 75, 76, 77, 78, 79] (by decide +kernel) (by decide +kernel)
set_option maxRecDepth 20000 in
theorem gX6_drops_X6_sketched : GoodIn wsX6_drops (wsV RX6 57 RX6 yX6_sketched wsX6_sketched) := goodIn_app (goodIn_of _ (by decide +kernel)) ggX6_drops_X6_sketched
set_option maxRecDepth 20000 in
theorem ggX6_drops_X2_dropLine : GoodIn wsX6_drops wsX2_dropLine := goodIn_r _ [25, 20, 13, 26, 4, 27, 75, 76, 77, 78, 79] (by decide +kernel) (by decide +kernel)
set_option maxRecDepth 20000 in
theorem gX6_drops_X2_dropLine : GoodIn wsX6_drops (wsV RX6 69 RX2 yX2_dropLine wsX2_dropLine) := goodIn_app (goodIn_of _ (by decide +kernel)) ggX6_drops_X2_dropLine
set_option maxRecDepth 20000 in
theorem ggX6_drops_X6_settled : GoodIn wsX6_drops wsX6_settled := goodIn_r _ [31, 32, 33, 34, 4, 35, 36, 37, 38, 39, 40, 41, 42, 43, 7, 6, 44, 45, 46, 47, 48, 49, 50, 51, 52, 53, 54, 55, 9, 10, 11, 12, 13, 14, 15, 16, 17, 18, 19, 20, 21, 8, 56, 57, 58, 59, 60, 61, 62, 63, 64, 65, 66, 67, 68, 69, 70, 71, 72, 73, 74, 80, 81, 82, 75, 76, 77, 78, 79] (by decide +kernel) (by decide +kernel)
set_option maxRecDepth 20000 in
theorem gX6_drops_X6_settled : GoodIn wsX6_drops (wsV RX6 65 RX6 yX6_settled wsX6_settled) := goodIn_app (goodIn_of _ (by decide +kernel)) ggX6_drops_X6_settled
theorem dX6_drops_0 : decode cX6_drops 0 = .ok (.aload_n 0, 1) := by decide +kernel
theorem dX6_drops_1 : decode cX6_drops 1 = .ok (.aload_n 0, 1) := by decide +kernel
theorem dX6_drops_2 : decode cX6_drops 2 = .ok (.invokevirtual 57, 3) := by decide +kernel
theorem dX6_drops_5 : decode cX6_drops 5 = .ok (.iload_n 1, 1) := by decide +kernel
theorem dX6_drops_6 : decode cX6_drops 6 = .ok (.invokevirtual 69, 3) := by decide +kernel
theorem dX6_drops_9 : decode cX6_drops 9 = .ok (.invokevirtual 65, 3) := by decide +kernel
theorem dX6_drops_12 : decode cX6_drops 12 = .ok (.ireturn, 1) := by decide +kernel
set_option maxRecDepth 20000 in
theorem ggX6_table_X6_sketched : GoodIn wsX6_table wsX6_sketched := goodIn_r _ [5, 6, 7, 8, 9, 10, 11, 12, 13, 14, 15, 16, 17, 18, 19, 20, 21, 62, 63, 64, 65, 66, 67, 68, 69, 70, 71, 72, 73, 74, 75, 76, 77, 78, 79] (by decide +kernel) (by decide +kernel)
set_option maxRecDepth 20000 in
theorem gX6_table_X6_sketched : GoodIn wsX6_table (wsV RX6 57 RX6 yX6_sketched wsX6_sketched) := goodIn_app (goodIn_of _ (by decide +kernel)) ggX6_table_X6_sketched
set_option maxRecDepth 20000 in
theorem ggX6_table_X2_putCell : GoodIn wsX6_table wsX2_putCell := goodIn_r _ [25, 18, 26, 4, 27, 75, 76, 77, 78, 79] (by decide +kernel) (by decide +kernel)
set_option maxRecDepth 20000 in
theorem gX6_table_X2_putCell : GoodIn wsX6_table (wsV RX6 72 RX2 yX2_putCell wsX2_putCell) := goodIn_app (goodIn_of _ (by decide +kernel)) ggX6_table_X2_putCell
set_option maxRecDepth 20000 in
theorem ggX6_table_X6_settled : GoodIn wsX6_table wsX6_settled := goodIn_r _ [31, 32, 33, 34, 4, 35, 36, 37, 38, 39, 40, 41, 42, 43, 7, 6, 44, 45, 46, 47, 48, 49, 50, 51, 52, 53, 54, 55, 9, 10, 11, 12, 13, 14, 15, 16, 17, 18, 19, 20, 21, 8, 56, 57, 58, 59, 60, 61, 62, 63, 64, 65, 66, 67, 68, 69, 70, 71, 72, 73, 74, 80, 81, 82, 75, 76, 77, 78, 79] (by decide +kernel) (by decide +kernel)
set_option maxRecDepth 20000 in
theorem gX6_table_X6_settled : GoodIn wsX6_table (wsV RX6 65 RX6 yX6_settled wsX6_settled) := goodIn_app (goodIn_of _ (by decide +kernel)) ggX6_table_X6_settled
theorem dX6_table_0 : decode cX6_table 0 = .ok (.aload_n 0, 1) := by decide +kernel
theorem dX6_table_1 : decode cX6_table 1 = .ok (.aload_n 0, 1) := by decide +kernel
theorem dX6_table_2 : decode cX6_table 2 = .ok (.invokevirtual 57, 3) := by decide +kernel
theorem dX6_table_5 : decode cX6_table 5 = .ok (.iload_n 1, 1) := by decide +kernel
theorem dX6_table_6 : decode cX6_table 6 = .ok (.iload_n 2, 1) := by decide +kernel
theorem dX6_table_7 : decode cX6_table 7 = .ok (.invokevirtual 72, 3) := by decide +kernel
theorem dX6_table_10 : decode cX6_table 10 = .ok (.invokevirtual 65, 3) := by decide +kernel
theorem dX6_table_13 : decode cX6_table 13 = .ok (.ireturn, 1) := by decide +kernel
set_option maxRecDepth 20000 in
theorem ggX6_start_X6_sketched : GoodIn wsX6_start wsX6_sketched := goodIn_r _ [5, 6, 7, 8, 9, 10, 11, 12, 13, 14, 15, 16, 17, 18, 19, 20, 21, 62, 63, 64, 65, 66, 67, 68, 69, 70, 71, 72, 73, 74, 75, 76, 77, 78, 79] (by decide +kernel) (by decide +kernel)
set_option maxRecDepth 20000 in
theorem gX6_start_X6_sketched : GoodIn wsX6_start (wsV RX6 57 RX6 yX6_sketched wsX6_sketched) := goodIn_app (goodIn_of _ (by decide +kernel)) ggX6_start_X6_sketched
set_option maxRecDepth 20000 in
theorem ggX6_start_X2_putStart : GoodIn wsX6_start wsX2_putStart := goodIn_r _ [25, 19, 26, 4, 27, 75, 76, 77, 78, 79] (by decide +kernel) (by decide +kernel)
set_option maxRecDepth 20000 in
theorem gX6_start_X2_putStart : GoodIn wsX6_start (wsV RX6 76 RX2 yX2_putStart wsX2_putStart) := goodIn_app (goodIn_of _ (by decide +kernel)) ggX6_start_X2_putStart
set_option maxRecDepth 20000 in
theorem ggX6_start_X6_settled : GoodIn wsX6_start wsX6_settled := goodIn_r _ [31, 32, 33, 34, 4, 35, 36, 37, 38, 39, 40, 41, 42, 43, 7, 6, 44, 45, 46, 47, 48, 49, 50, 51, 52, 53, 54, 55, 9, 10, 11, 12, 13, 14, 15, 16, 17, 18, 19, 20, 21, 8, 56, 57, 58, 59, 60, 61, 62, 63, 64, 65, 66, 67, 68, 69, 70, 71, 72, 73, 74, 80, 81, 82, 75, 76, 77, 78, 79] (by decide +kernel) (by decide +kernel)
set_option maxRecDepth 20000 in
theorem gX6_start_X6_settled : GoodIn wsX6_start (wsV RX6 65 RX6 yX6_settled wsX6_settled) := goodIn_app (goodIn_of _ (by decide +kernel)) ggX6_start_X6_settled
theorem dX6_start_0 : decode cX6_start 0 = .ok (.aload_n 0, 1) := by decide +kernel
theorem dX6_start_1 : decode cX6_start 1 = .ok (.aload_n 0, 1) := by decide +kernel
theorem dX6_start_2 : decode cX6_start 2 = .ok (.invokevirtual 57, 3) := by decide +kernel
theorem dX6_start_5 : decode cX6_start 5 = .ok (.iload_n 1, 1) := by decide +kernel
theorem dX6_start_6 : decode cX6_start 6 = .ok (.iload_n 2, 1) := by decide +kernel
theorem dX6_start_7 : decode cX6_start 7 = .ok (.invokevirtual 76, 3) := by decide +kernel
theorem dX6_start_10 : decode cX6_start 10 = .ok (.invokevirtual 65, 3) := by decide +kernel
theorem dX6_start_13 : decode cX6_start 13 = .ok (.ireturn, 1) := by decide +kernel
set_option maxRecDepth 20000 in
theorem ggX6_secret_X6_sketched : GoodIn wsX6_secret wsX6_sketched := goodIn_r _ [5, 6, 7, 8, 9, 10, 11, 12, 13, 14, 15, 16, 17, 18, 19, 20, 21, 69, 70, 71, 72, 73, 74, 75, 76, 77, 78, 79, 80, 81, 82, 83, 84, 85, 86] (by decide +kernel) (by decide +kernel)
set_option maxRecDepth 20000 in
theorem gX6_secret_X6_sketched : GoodIn wsX6_secret (wsV RX6 57 RX6 yX6_sketched wsX6_sketched) := goodIn_app (goodIn_of _ (by decide +kernel)) ggX6_secret_X6_sketched
set_option maxRecDepth 20000 in
theorem ggX6_secret_X2_putSecret : GoodIn wsX6_secret wsX2_putSecret := goodIn_r _ [25, 21, 26, 4, 27, 28, 29, 30, 31, 32, 33, 34, 82, 83, 84, 85, 86] (by decide +kernel) (by decide +kernel)
set_option maxRecDepth 20000 in
theorem gX6_secret_X2_putSecret : GoodIn wsX6_secret (wsV RX6 79 RX2 yX2_putSecret wsX2_putSecret) := goodIn_app (goodIn_of _ (by decide +kernel)) ggX6_secret_X2_putSecret
set_option maxRecDepth 20000 in
theorem ggX6_secret_X6_settled : GoodIn wsX6_secret wsX6_settled := goodIn_r _ [38, 39, 40, 41, 4, 42, 43, 44, 45, 46, 47, 48, 49, 50, 7, 6, 51, 52, 53, 54, 55, 56, 57, 58, 59, 60, 61, 62, 9, 10, 11, 12, 13, 14, 15, 16, 17, 18, 19, 20, 21, 8, 63, 64, 65, 66, 67, 68, 69, 70, 71, 72, 73, 74, 75, 76, 77, 78, 79, 80, 81, 87, 88, 89, 82, 83, 84, 85, 86] (by decide +kernel) (by decide +kernel)
set_option maxRecDepth 20000 in
theorem gX6_secret_X6_settled : GoodIn wsX6_secret (wsV RX6 65 RX6 yX6_settled wsX6_settled) := goodIn_app (goodIn_of _ (by decide +kernel)) ggX6_secret_X6_settled
theorem dX6_secret_0 : decode cX6_secret 0 = .ok (.aload_n 0, 1) := by decide +kernel
theorem dX6_secret_1 : decode cX6_secret 1 = .ok (.aload_n 0, 1) := by decide +kernel
theorem dX6_secret_2 : decode cX6_secret 2 = .ok (.invokevirtual 57, 3) := by decide +kernel
theorem dX6_secret_5 : decode cX6_secret 5 = .ok (.iload_n 1, 1) := by decide +kernel
theorem dX6_secret_6 : decode cX6_secret 6 = .ok (.iload_n 2, 1) := by decide +kernel
theorem dX6_secret_7 : decode cX6_secret 7 = .ok (.invokevirtual 79, 3) := by decide +kernel
theorem dX6_secret_10 : decode cX6_secret 10 = .ok (.invokevirtual 65, 3) := by decide +kernel
theorem dX6_secret_13 : decode cX6_secret 13 = .ok (.ireturn, 1) := by decide +kernel
set_option maxRecDepth 20000 in
theorem ggX6_run_X2_hasSecrets : GoodIn wsX6_run wsX2_hasSecrets := goodIn_r _ [7, 8, 9, 10, 6, 11, 12, 13, 14, 15, 16, 17, 18, 19, 20, 21, 22, 72, 73, 74, 75, 76] (by decide +kernel) (by decide +kernel)
set_option maxRecDepth 20000 in
theorem gX6_run_X2_hasSecrets : GoodIn wsX6_run (wsV RX6 82 RX2 yX2_hasSecrets wsX2_hasSecrets) := goodIn_app (goodIn_of _ (by decide +kernel)) ggX6_run_X2_hasSecrets
set_option maxRecDepth 20000 in
theorem ggX6_run_X6_within : GoodIn wsX6_run wsX6_within := goodIn_r _ [22] (by decide +kernel) (by decide +kernel)
set_option maxRecDepth 20000 in
theorem gX6_run_X6_within : GoodIn wsX6_run (va_wsS RX6 86 yX6_within wsX6_within) := goodIn_app (goodIn_of _ (by decide +kernel)) ggX6_run_X6_within
set_option maxRecDepth 20000 in
theorem ggX6_run_X6_counted : GoodIn wsX6_run wsX6_counted := goodIn_r _ [27, 28, 29, 30, 59, 60, 61, 62, 63, 64, 65, 66, 67, 68, 69, 70, 71] (by decide +kernel) (by decide +kernel)
set_option maxRecDepth 20000 in
theorem gX6_run_X6_counted : GoodIn wsX6_run (wsV RX6 90 RX6 yX6_counted wsX6_counted) := goodIn_app (goodIn_of _ (by decide +kernel)) ggX6_run_X6_counted
set_option maxRecDepth 20000 in
theorem ggX6_run_X3_follow : GoodIn wsX6_run wsX3_follow := goodIn_r _ [35, 36, 37, 38, 39, 40, 34, 41, 42, 43, 44, 45, 46, 47, 48, 49, 50, 51, 52, 53, 21, 54, 77, 78, 79, 80, 81, 72, 73, 74, 75, 76] (by decide +kernel) (by decide +kernel)
set_option maxRecDepth 20000 in
theorem gX6_run_X3_follow : GoodIn wsX6_run (wsV RX6 93 RX3 yX3_follow wsX3_follow) := goodIn_app (goodIn_of _ (by decide +kernel)) ggX6_run_X3_follow
set_option maxRecDepth 20000 in
theorem ggX6_run_X3_outcome : GoodIn wsX6_run wsX3_outcome := goodIn_r _ [58, 36, 37, 42, 43, 77, 78, 79, 80, 81] (by decide +kernel) (by decide +kernel)
set_option maxRecDepth 20000 in
theorem gX6_run_X3_outcome : GoodIn wsX6_run (wsV RX6 97 RX3 yX3_outcome wsX3_outcome) := goodIn_app (goodIn_of _ (by decide +kernel)) ggX6_run_X3_outcome
theorem dX6_run_0 : decode cX6_run 0 = .ok (.aload_n 0, 1) := by decide +kernel
