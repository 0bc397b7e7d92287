theorem dX7_does_1 : decode cX7_does 1 = .ok (.invokevirtual 241, 3) := by decide +kernel
theorem dX7_does_4 : decode cX7_does 4 = .ok (.ifCond .ne 11, 3) := by decide +kernel
theorem dX7_does_7 : decode cX7_does 7 = .ok (.bipush (-10), 2) := by decide +kernel
theorem dX7_does_9 : decode cX7_does 9 = .ok (.aload_n 0, 1) := by decide +kernel
theorem dX7_does_10 : decode cX7_does 10 = .ok (.getfield 217, 3) := by decide +kernel
theorem dX7_does_13 : decode cX7_does 13 = .ok (.isub, 1) := by decide +kernel
theorem dX7_does_14 : decode cX7_does 14 = .ok (.ireturn, 1) := by decide +kernel
theorem dX7_does_15 : decode cX7_does 15 = .ok (.aload_n 0, 1) := by decide +kernel
theorem dX7_does_16 : decode cX7_does 16 = .ok (.invokevirtual 93, 3) := by decide +kernel
theorem dX7_does_19 : decode cX7_does 19 = .ok (.iconst 0, 1) := by decide +kernel
theorem dX7_does_20 : decode cX7_does 20 = .ok (.istore_n 1, 1) := by decide +kernel
theorem dX7_does_21 : decode cX7_does 21 = .ok (.iload_n 1, 1) := by decide +kernel
theorem dX7_does_22 : decode cX7_does 22 = .ok (.aload_n 0, 1) := by decide +kernel
theorem dX7_does_23 : decode cX7_does 23 = .ok (.getfield 232, 3) := by decide +kernel
theorem dX7_does_26 : decode cX7_does 26 = .ok (.if_icmp .ge 49, 3) := by decide +kernel
theorem dX7_does_29 : decode cX7_does 29 = .ok (.aload_n 0, 1) := by decide +kernel
theorem dX7_does_30 : decode cX7_does 30 = .ok (.iload_n 1, 1) := by decide +kernel
theorem dX7_does_31 : decode cX7_does 31 = .ok (.invokevirtual 245, 3) := by decide +kernel
theorem dX7_does_34 : decode cX7_does 34 = .ok (.ifCond .ge 35, 3) := by decide +kernel
theorem dX7_does_37 : decode cX7_does 37 = .ok (.iconst 0, 1) := by decide +kernel
theorem dX7_does_38 : decode cX7_does 38 = .ok (.istore_n 2, 1) := by decide +kernel
theorem dX7_does_39 : decode cX7_does 39 = .ok (.iload_n 2, 1) := by decide +kernel
theorem dX7_does_40 : decode cX7_does 40 = .ok (.bipush 104, 2) := by decide +kernel
theorem dX7_does_42 : decode cX7_does 42 = .ok (.if_icmp .ge 21, 3) := by decide +kernel
theorem dX7_does_45 : decode cX7_does 45 = .ok (.aload_n 0, 1) := by decide +kernel
theorem dX7_does_46 : decode cX7_does 46 = .ok (.getfield 7, 3) := by decide +kernel
theorem dX7_does_49 : decode cX7_does 49 = .ok (.iload_n 2, 1) := by decide +kernel
theorem dX7_does_50 : decode cX7_does 50 = .ok (.aload_n 0, 1) := by decide +kernel
theorem dX7_does_51 : decode cX7_does 51 = .ok (.getfield 13, 3) := by decide +kernel
theorem dX7_does_54 : decode cX7_does 54 = .ok (.iload_n 2, 1) := by decide +kernel
theorem dX7_does_55 : decode cX7_does 55 = .ok (.iaload, 1) := by decide +kernel
theorem dX7_does_56 : decode cX7_does 56 = .ok (.iastore, 1) := by decide +kernel
theorem dX7_does_57 : decode cX7_does 57 = .ok (.iinc 2 1, 3) := by decide +kernel
theorem dX7_does_60 : decode cX7_does 60 = .ok (.goto (-21), 3) := by decide +kernel
theorem dX7_does_63 : decode cX7_does 63 = .ok (.sipush (-1000), 3) := by decide +kernel
theorem dX7_does_66 : decode cX7_does 66 = .ok (.iload_n 1, 1) := by decide +kernel
theorem dX7_does_67 : decode cX7_does 67 = .ok (.isub, 1) := by decide +kernel
theorem dX7_does_68 : decode cX7_does 68 = .ok (.ireturn, 1) := by decide +kernel
theorem dX7_does_69 : decode cX7_does 69 = .ok (.iinc 1 1, 3) := by decide +kernel
theorem dX7_does_72 : decode cX7_does 72 = .ok (.goto (-51), 3) := by decide +kernel
theorem dX7_does_75 : decode cX7_does 75 = .ok (.aload_n 0, 1) := by decide +kernel
theorem dX7_does_76 : decode cX7_does 76 = .ok (.invokevirtual 62, 3) := by decide +kernel
theorem dX7_does_79 : decode cX7_does 79 = .ok (.aload_n 0, 1) := by decide +kernel
theorem dX7_does_80 : decode cX7_does 80 = .ok (.getfield 232, 3) := by decide +kernel
theorem dX7_does_83 : decode cX7_does 83 = .ok (.ireturn, 1) := by decide +kernel
theorem dX7_refusedOf_0 : decode cX7_refusedOf 0 = .ok (.iload_n 1, 1) := by decide +kernel
theorem dX7_refusedOf_1 : decode cX7_refusedOf 1 = .ok (.iconst 3, 1) := by decide +kernel
theorem dX7_refusedOf_2 : decode cX7_refusedOf 2 = .ok (.if_icmp .ge 12, 3) := by decide +kernel
theorem dX7_refusedOf_5 : decode cX7_refusedOf 5 = .ok (.aload_n 0, 1) := by decide +kernel
theorem dX7_refusedOf_6 : decode cX7_refusedOf 6 = .ok (.getfield 19, 3) := by decide +kernel
theorem dX7_refusedOf_9 : decode cX7_refusedOf 9 = .ok (.iload_n 1, 1) := by decide +kernel
theorem dX7_refusedOf_10 : decode cX7_refusedOf 10 = .ok (.iaload, 1) := by decide +kernel
theorem dX7_refusedOf_11 : decode cX7_refusedOf 11 = .ok (.goto 19, 3) := by decide +kernel
theorem dX7_refusedOf_14 : decode cX7_refusedOf 14 = .ok (.iload_n 1, 1) := by decide +kernel
theorem dX7_refusedOf_15 : decode cX7_refusedOf 15 = .ok (.iconst 3, 1) := by decide +kernel
theorem dX7_refusedOf_16 : decode cX7_refusedOf 16 = .ok (.if_icmp .ne 10, 3) := by decide +kernel
theorem dX7_refusedOf_19 : decode cX7_refusedOf 19 = .ok (.aload_n 0, 1) := by decide +kernel
theorem dX7_refusedOf_20 : decode cX7_refusedOf 20 = .ok (.getfield 214, 3) := by decide +kernel
theorem dX7_refusedOf_23 : decode cX7_refusedOf 23 = .ok (.goto 7, 3) := by decide +kernel
theorem dX7_refusedOf_26 : decode cX7_refusedOf 26 = .ok (.aload_n 0, 1) := by decide +kernel
theorem dX7_refusedOf_27 : decode cX7_refusedOf 27 = .ok (.getfield 54, 3) := by decide +kernel
theorem dX7_refusedOf_30 : decode cX7_refusedOf 30 = .ok (.ireturn, 1) := by decide +kernel
set_option maxRecDepth 20000 in
theorem ggX7_refused_X7_within : GoodIn wsX7_refused wsX7_within := goodIn_r _ [4] (by decide +kernel) (by decide +kernel)
set_option maxRecDepth 20000 in
theorem gX7_refused_X7_within : GoodIn wsX7_refused (va_wsS RX7 50 yX7_within wsX7_within) := goodIn_app (goodIn_of _ (by decide +kernel)) ggX7_refused_X7_within
set_option maxRecDepth 20000 in
theorem ggX7_refused_X7_refusedOf : GoodIn wsX7_refused wsX7_refusedOf := goodIn_r _ [8, 9, 10, 11, 16, 17, 18, 19, 20, 21, 22, 23, 24, 25, 26, 27, 28, 29, 30, 31, 32, 33, 34, 35, 36, 37, 38, 39] (by decide +kernel) (by decide +kernel)
set_option maxRecDepth 20000 in
theorem gX7_refused_X7_refusedOf : GoodIn wsX7_refused (wsV RX7 248 RX7 yX7_refusedOf wsX7_refusedOf) := goodIn_app (goodIn_of _ (by decide +kernel)) ggX7_refused_X7_refusedOf
set_option maxRecDepth 20000 in
theorem ggX7_refused_X7_bad : GoodIn wsX7_refused wsX7_bad := goodIn_r _ [15, 9, 16, 17, 18, 19, 20, 21, 22, 23, 24, 25, 26, 27, 28, 29, 30, 31, 32, 33, 34, 35, 36, 37, 38, 39] (by decide +kernel) (by decide +kernel)
set_option maxRecDepth 20000 in
theorem gX7_refused_X7_bad : GoodIn wsX7_refused (wsV RX7 68 RX7 yX7_bad wsX7_bad) := goodIn_app (goodIn_of _ (by decide +kernel)) ggX7_refused_X7_bad
theorem dX7_refused_0 : decode cX7_refused 0 = .ok (.iload_n 1, 1) := by decide +kernel
theorem dX7_refused_1 : decode cX7_refused 1 = .ok (.iconst 0, 1) := by decide +kernel
theorem dX7_refused_2 : decode cX7_refused 2 = .ok (.iconst 4, 1) := by decide +kernel
theorem dX7_refused_3 : decode cX7_refused 3 = .ok (.invokestatic 50, 3) := by decide +kernel
theorem dX7_refused_6 : decode cX7_refused 6 = .ok (.ifCond .eq 11, 3) := by decide +kernel
theorem dX7_refused_9 : decode cX7_refused 9 = .ok (.aload_n 0, 1) := by decide +kernel
theorem dX7_refused_10 : decode cX7_refused 10 = .ok (.iload_n 1, 1) := by decide +kernel
theorem dX7_refused_11 : decode cX7_refused 11 = .ok (.invokevirtual 248, 3) := by decide +kernel
theorem dX7_refused_14 : decode cX7_refused 14 = .ok (.goto 7, 3) := by decide +kernel
theorem dX7_refused_17 : decode cX7_refused 17 = .ok (.aload_n 0, 1) := by decide +kernel
theorem dX7_refused_18 : decode cX7_refused 18 = .ok (.invokevirtual 68, 3) := by decide +kernel
theorem dX7_refused_21 : decode cX7_refused 21 = .ok (.ireturn, 1) := by decide +kernel
theorem dX7_mix_0 : decode cX7_mix 0 = .ok (.aload_n 0, 1) := by decide +kernel
theorem dX7_mix_1 : decode cX7_mix 1 = .ok (.ldc2_w 251, 3) := by decide +kernel
theorem dX7_mix_4 : decode cX7_mix 4 = .ok (.aload_n 0, 1) := by decide +kernel
theorem dX7_mix_5 : decode cX7_mix 5 = .ok (.getfield 253, 3) := by decide +kernel
theorem dX7_mix_8 : decode cX7_mix 8 = .ok (.lmul, 1) := by decide +kernel
theorem dX7_mix_9 : decode cX7_mix 9 = .ok (.iload_n 1, 1) := by decide +kernel
theorem dX7_mix_10 : decode cX7_mix 10 = .ok (.i2l, 1) := by decide +kernel
theorem dX7_mix_11 : decode cX7_mix 11 = .ok (.ladd, 1) := by decide +kernel
theorem dX7_mix_12 : decode cX7_mix 12 = .ok (.putfield 253, 3) := by decide +kernel
theorem dX7_mix_15 : decode cX7_mix 15 = .ok (.return_, 1) := by decide +kernel
set_option maxRecDepth 20000 in
theorem ggX7_mixLine_X7_mix : GoodIn wsX7_mixLine wsX7_mix := goodIn_r _ [7, 8, 9, 10, 11, 12, 13, 14, 15, 16, 17, 18, 19, 20, 21, 22, 23, 24, 25, 26, 27, 28, 29, 30, 31, 32, 33] (by decide +kernel) (by decide +kernel)
set_option maxRecDepth 20000 in
theorem gX7_mixLine_X7_mix : GoodIn wsX7_mixLine (wsV RX7 257 RX7 yX7_mix wsX7_mix) := goodIn_app (goodIn_of _ (by decide +kernel)) ggX7_mixLine_X7_mix
theorem dX7_mixLine_0 : decode cX7_mixLine 0 = .ok (.aload_n 0, 1) := by decide +kernel
theorem dX7_mixLine_1 : decode cX7_mixLine 1 = .ok (.iload_n 1, 1) := by decide +kernel
theorem dX7_mixLine_2 : decode cX7_mixLine 2 = .ok (.invokevirtual 257, 3) := by decide +kernel
theorem dX7_mixLine_5 : decode cX7_mixLine 5 = .ok (.iconst 0, 1) := by decide +kernel
theorem dX7_mixLine_6 : decode cX7_mixLine 6 = .ok (.istore_n 2, 1) := by decide +kernel
theorem dX7_mixLine_7 : decode cX7_mixLine 7 = .ok (.iload_n 2, 1) := by decide +kernel
theorem dX7_mixLine_8 : decode cX7_mixLine 8 = .ok (.bipush 6, 2) := by decide +kernel
theorem dX7_mixLine_10 : decode cX7_mixLine 10 = .ok (.if_icmp .ge 38, 3) := by decide +kernel
theorem dX7_mixLine_13 : decode cX7_mixLine 13 = .ok (.aload_n 0, 1) := by decide +kernel
theorem dX7_mixLine_14 : decode cX7_mixLine 14 = .ok (.aload_n 0, 1) := by decide +kernel
theorem dX7_mixLine_15 : decode cX7_mixLine 15 = .ok (.getfield 35, 3) := by decide +kernel
theorem dX7_mixLine_18 : decode cX7_mixLine 18 = .ok (.iload_n 1, 1) := by decide +kernel
theorem dX7_mixLine_19 : decode cX7_mixLine 19 = .ok (.iaload, 1) := by decide +kernel
theorem dX7_mixLine_20 : decode cX7_mixLine 20 = .ok (.iload_n 2, 1) := by decide +kernel
theorem dX7_mixLine_21 : decode cX7_mixLine 21 = .ok (.ishr, 1) := by decide +kernel
theorem dX7_mixLine_22 : decode cX7_mixLine 22 = .ok (.iconst 1, 1) := by decide +kernel
theorem dX7_mixLine_23 : decode cX7_mixLine 23 = .ok (.iand, 1) := by decide +kernel
theorem dX7_mixLine_24 : decode cX7_mixLine 24 = .ok (.invokevirtual 257, 3) := by decide +kernel
theorem dX7_mixLine_27 : decode cX7_mixLine 27 = .ok (.aload_n 0, 1) := by decide +kernel
theorem dX7_mixLine_28 : decode cX7_mixLine 28 = .ok (.aload_n 0, 1) := by decide +kernel
theorem dX7_mixLine_29 : decode cX7_mixLine 29 = .ok (.getfield 38, 3) := by decide +kernel
theorem dX7_mixLine_32 : decode cX7_mixLine 32 = .ok (.bipush 6, 2) := by decide +kernel
theorem dX7_mixLine_34 : decode cX7_mixLine 34 = .ok (.iload_n 1, 1) := by decide +kernel
theorem dX7_mixLine_35 : decode cX7_mixLine 35 = .ok (.imul, 1) := by decide +kernel
theorem dX7_mixLine_36 : decode cX7_mixLine 36 = .ok (.iload_n 2, 1) := by decide +kernel
theorem dX7_mixLine_37 : decode cX7_mixLine 37 = .ok (.iadd, 1) := by decide +kernel
theorem dX7_mixLine_38 : decode cX7_mixLine 38 = .ok (.iaload, 1) := by decide +kernel
theorem dX7_mixLine_39 : decode cX7_mixLine 39 = .ok (.invokevirtual 257, 3) := by decide +kernel
theorem dX7_mixLine_42 : decode cX7_mixLine 42 = .ok (.iinc 2 1, 3) := by decide +kernel
theorem dX7_mixLine_45 : decode cX7_mixLine 45 = .ok (.goto (-38), 3) := by decide +kernel
theorem dX7_mixLine_48 : decode cX7_mixLine 48 = .ok (.return_, 1) := by decide +kernel
set_option maxRecDepth 20000 in
theorem ggX7_digest_X7_refusedOf : GoodIn wsX7_digest wsX7_refusedOf := goodIn_r _ [9, 10, 11, 12, 129, 130, 131, 132, 133, 134, 135, 136, 137, 138, 139, 140, 141, 142, 143, 144, 145, 146, 147, 148, 149, 150, 151, 152] (by decide +kernel) (by decide +kernel)
set_option maxRecDepth 20000 in
theorem gX7_digest_X7_refusedOf : GoodIn wsX7_digest (wsV RX7 248 RX7 yX7_refusedOf wsX7_refusedOf) := goodIn_app (goodIn_of _ (by decide +kernel)) ggX7_digest_X7_refusedOf
set_option maxRecDepth 20000 in
theorem ggX7_digest_X7_mix : GoodIn wsX7_digest wsX7_mix := goodIn_r _ [16, 17, 2, 129, 130, 131, 132, 133, 134, 135, 136, 137, 138, 139, 140, 141, 142, 143, 144, 145, 146, 147, 148, 149, 150, 151, 152] (by decide +kernel) (by decide +kernel)
set_option maxRecDepth 20000 in
theorem gX7_digest_X7_mix : GoodIn wsX7_digest (wsV RX7 257 RX7 yX7_mix wsX7_mix) := goodIn_app (goodIn_of _ (by decide +kernel)) ggX7_digest_X7_mix
set_option maxRecDepth 20000 in
theorem ggX7_digest_X7_laysLines : GoodIn wsX7_digest wsX7_laysLines := goodIn_r _ [21, 3, 4, 22, 23, 24, 25, 26, 27, 28, 8, 29, 30, 31, 32, 33, 34, 35, 36, 37, 38, 39, 40, 41, 42, 43, 44, 45, 46, 47, 48, 49, 50, 51, 52, 53, 54, 55, 56, 57, 58, 59, 60, 61, 62, 63, 64, 65, 66, 67, 68, 129, 130, 131, 132, 133, 134, 135, 136, 137, 138, 139, 140, 141, 142, 143, 144, 145, 146, 147, 148, 149, 150, 151, 152] (by decide +kernel) (by decide +kernel)
set_option maxRecDepth 20000 in
theorem gX7_digest_X7_laysLines : GoodIn wsX7_digest (wsV RX7 202 RX7 yX7_laysLines wsX7_laysLines) := goodIn_app (goodIn_of _ (by decide +kernel)) ggX7_digest_X7_laysLines
set_option maxRecDepth 20000 in
theorem ggX7_digest_X7_mixLine : GoodIn wsX7_digest wsX7_mixLine := goodIn_r _ [72, 22, 30, 13, 14, 15, 8, 16, 17, 2, 129, 130, 131, 132, 133, 134, 135, 136, 137, 138, 139, 140, 141, 142, 143, 144, 145, 146, 147, 148, 149, 150, 151, 152] (by decide +kernel) (by decide +kernel)
set_option maxRecDepth 20000 in
theorem gX7_digest_X7_mixLine : GoodIn wsX7_digest (wsV RX7 262 RX7 yX7_mixLine wsX7_mixLine) := goodIn_app (goodIn_of _ (by decide +kernel)) ggX7_digest_X7_mixLine
set_option maxRecDepth 20000 in
theorem ggX7_digest_X7_acceptedNow : GoodIn wsX7_digest wsX7_acceptedNow := goodIn_r _ [76, 77, 78, 79, 8, 80, 3, 18, 19, 20, 21, 4, 22, 23, 24, 25, 26, 27, 28, 29, 30, 31, 32, 33, 34, 35, 36, 37, 38, 39, 40, 41, 42, 43, 44, 45, 46, 47, 48, 49, 50, 51, 52, 53, 54, 55, 56, 57, 58, 59, 60, 61, 62, 63, 64, 65, 66, 67, 68, 81, 82, 83, 84, 129, 130, 131, 132, 133, 134, 135, 136, 137, 138, 139, 140, 141, 142, 143, 144, 145, 146, 147, 148, 149, 150, 151, 152] (by decide +kernel) (by decide +kernel)
set_option maxRecDepth 20000 in
theorem gX7_digest_X7_acceptedNow : GoodIn wsX7_digest (wsV RX7 211 RX7 yX7_acceptedNow wsX7_acceptedNow) := goodIn_app (goodIn_of _ (by decide +kernel)) ggX7_digest_X7_acceptedNow
set_option maxRecDepth 20000 in
theorem ggX7_digest_X7_leakNow : GoodIn wsX7_digest wsX7_leakNow := goodIn_r _ [88, 89, 90, 91, 8, 92, 93, 94, 3, 95, 96, 97, 98, 99, 100, 101, 51, 52, 53, 102, 103, 104, 105, 39, 40, 41, 42, 106, 107, 108, 109, 62, 63, 64, 65, 66, 67, 68, 110, 111, 112, 113, 114, 115, 116, 117, 118, 119, 120, 129, 130, 131, 132, 133, 134, 135, 136, 137, 138, 139, 140, 141, 142, 143, 144, 145, 146, 147, 148, 149, 150, 151, 152] (by decide +kernel) (by decide +kernel)
set_option maxRecDepth 20000 in
theorem gX7_digest_X7_leakNow : GoodIn wsX7_digest (wsV RX7 164 RX7 yX7_leakNow wsX7_leakNow) := goodIn_app (goodIn_of _ (by decide +kernel)) ggX7_digest_X7_leakNow
set_option maxRecDepth 20000 in
theorem ggX7_digest_X7_rowsNow : GoodIn wsX7_digest wsX7_rowsNow := goodIn_r _ [124, 110, 111, 112, 8, 113, 3, 114, 115, 116, 89, 90, 91, 92, 93, 94, 95, 96, 97, 98, 99, 100, 101, 51, 52, 53, 102, 103, 104, 105, 39, 40, 41, 42, 106, 107, 108, 109, 62, 63, 64, 65, 66, 67, 68, 117, 118, 119, 120, 129, 130, 131, 132, 133, 134, 135, 136, 137, 138, 139, 140, 141, 142, 143, 144, 145, 146, 147, 148, 149, 150, 151, 152] (by decide +kernel) (by decide +kernel)
set_option maxRecDepth 20000 in
theorem gX7_digest_X7_rowsNow : GoodIn wsX7_digest (wsV RX7 167 RX7 yX7_rowsNow wsX7_rowsNow) := goodIn_app (goodIn_of _ (by decide +kernel)) ggX7_digest_X7_rowsNow
set_option maxRecDepth 20000 in
theorem ggX7_digest_X7_goes : GoodIn wsX7_digest wsX7_goes := goodIn_r _ [92, 93, 94, 3, 95, 96, 97, 98, 99, 8, 100, 101, 51, 52, 53, 102, 103, 104, 105, 39, 40, 41, 42, 106, 107, 108, 109, 62, 63, 64, 65, 66, 67, 68, 129, 130, 131, 132, 133, 134, 135, 136, 137, 138, 139, 140, 141, 142, 143, 144, 145, 146, 147, 148, 149, 150, 151, 152] (by decide +kernel) (by decide +kernel)
set_option maxRecDepth 20000 in
theorem gX7_digest_X7_goes : GoodIn wsX7_digest (wsV RX7 155 RX7 yX7_goes wsX7_goes) := goodIn_app (goodIn_of _ (by decide +kernel)) ggX7_digest_X7_goes
set_option maxRecDepth 20000 in
theorem ggX7_digest_X7_tellRun : GoodIn wsX7_digest wsX7_tellRun := goodIn_r _ [128, 94, 95, 93, 101, 129, 130, 131, 132, 133, 134, 135, 136, 137, 138, 139, 140, 141, 142, 143, 144, 145, 146, 147, 148, 149, 150, 151, 152] (by decide +kernel) (by decide +kernel)
set_option maxRecDepth 20000 in
theorem gX7_digest_X7_tellRun : GoodIn wsX7_digest (wsV RX7 158 RX7 yX7_tellRun wsX7_tellRun) := goodIn_app (goodIn_of _ (by decide +kernel)) ggX7_digest_X7_tellRun
theorem dX7_digest_0 : decode cX7_digest 0 = .ok (.aload_n 0, 1) := by decide +kernel
theorem dX7_digest_1 : decode cX7_digest 1 = .ok (.ldc2_w 260, 3) := by decide +kernel
theorem dX7_digest_4 : decode cX7_digest 4 = .ok (.putfield 253, 3) := by decide +kernel
theorem dX7_digest_7 : decode cX7_digest 7 = .ok (.iconst 0, 1) := by decide +kernel
theorem dX7_digest_8 : decode cX7_digest 8 = .ok (.istore_n 1, 1) := by decide +kernel
theorem dX7_digest_9 : decode cX7_digest 9 = .ok (.iload_n 1, 1) := by decide +kernel
theorem dX7_digest_10 : decode cX7_digest 10 = .ok (.iconst 5, 1) := by decide +kernel
theorem dX7_digest_11 : decode cX7_digest 11 = .ok (.if_icmp .ge 18, 3) := by decide +kernel
theorem dX7_digest_14 : decode cX7_digest 14 = .ok (.aload_n 0, 1) := by decide +kernel
theorem dX7_digest_15 : decode cX7_digest 15 = .ok (.aload_n 0, 1) := by decide +kernel
theorem dX7_digest_16 : decode cX7_digest 16 = .ok (.iload_n 1, 1) := by decide +kernel
theorem dX7_digest_17 : decode cX7_digest 17 = .ok (.invokevirtual 248, 3) := by decide +kernel
theorem dX7_digest_20 : decode cX7_digest 20 = .ok (.invokevirtual 257, 3) := by decide +kernel
theorem dX7_digest_23 : decode cX7_digest 23 = .ok (.iinc 1 1, 3) := by decide +kernel
theorem dX7_digest_26 : decode cX7_digest 26 = .ok (.goto (-17), 3) := by decide +kernel
theorem dX7_digest_29 : decode cX7_digest 29 = .ok (.iconst 0, 1) := by decide +kernel
theorem dX7_digest_30 : decode cX7_digest 30 = .ok (.istore_n 1, 1) := by decide +kernel
theorem dX7_digest_31 : decode cX7_digest 31 = .ok (.iload_n 1, 1) := by decide +kernel
theorem dX7_digest_32 : decode cX7_digest 32 = .ok (.bipush 24, 2) := by decide +kernel
theorem dX7_digest_34 : decode cX7_digest 34 = .ok (.if_icmp .ge 19, 3) := by decide +kernel
theorem dX7_digest_37 : decode cX7_digest 37 = .ok (.aload_n 0, 1) := by decide +kernel
theorem dX7_digest_38 : decode cX7_digest 38 = .ok (.aload_n 0, 1) := by decide +kernel
theorem dX7_digest_39 : decode cX7_digest 39 = .ok (.getfield 7, 3) := by decide +kernel
theorem dX7_digest_42 : decode cX7_digest 42 = .ok (.iload_n 1, 1) := by decide +kernel
theorem dX7_digest_43 : decode cX7_digest 43 = .ok (.iaload, 1) := by decide +kernel
theorem dX7_digest_44 : decode cX7_digest 44 = .ok (.invokevirtual 257, 3) := by decide +kernel
theorem dX7_digest_47 : decode cX7_digest 47 = .ok (.iinc 1 1, 3) := by decide +kernel
theorem dX7_digest_50 : decode cX7_digest 50 = .ok (.goto (-19), 3) := by decide +kernel
theorem dX7_digest_53 : decode cX7_digest 53 = .ok (.iconst 0, 1) := by decide +kernel
theorem dX7_digest_54 : decode cX7_digest 54 = .ok (.istore_n 1, 1) := by decide +kernel
theorem dX7_digest_55 : decode cX7_digest 55 = .ok (.iload_n 1, 1) := by decide +kernel
theorem dX7_digest_56 : decode cX7_digest 56 = .ok (.iconst 4, 1) := by decide +kernel
theorem dX7_digest_57 : decode cX7_digest 57 = .ok (.aload_n 0, 1) := by decide +kernel
theorem dX7_digest_58 : decode cX7_digest 58 = .ok (.getfield 7, 3) := by decide +kernel
theorem dX7_digest_61 : decode cX7_digest 61 = .ok (.iconst 0, 1) := by decide +kernel
theorem dX7_digest_62 : decode cX7_digest 62 = .ok (.iaload, 1) := by decide +kernel
theorem dX7_digest_63 : decode cX7_digest 63 = .ok (.imul, 1) := by decide +kernel
theorem dX7_digest_64 : decode cX7_digest 64 = .ok (.if_icmp .ge 22, 3) := by decide +kernel
theorem dX7_digest_67 : decode cX7_digest 67 = .ok (.aload_n 0, 1) := by decide +kernel
theorem dX7_digest_68 : decode cX7_digest 68 = .ok (.aload_n 0, 1) := by decide +kernel
theorem dX7_digest_69 : decode cX7_digest 69 = .ok (.getfield 7, 3) := by decide +kernel
theorem dX7_digest_72 : decode cX7_digest 72 = .ok (.bipush 24, 2) := by decide +kernel
theorem dX7_digest_74 : decode cX7_digest 74 = .ok (.iload_n 1, 1) := by decide +kernel
theorem dX7_digest_75 : decode cX7_digest 75 = .ok (.iadd, 1) := by decide +kernel
theorem dX7_digest_76 : decode cX7_digest 76 = .ok (.iaload, 1) := by decide +kernel
theorem dX7_digest_77 : decode cX7_digest 77 = .ok (.invokevirtual 257, 3) := by decide +kernel
theorem dX7_digest_80 : decode cX7_digest 80 = .ok (.iinc 1 1, 3) := by decide +kernel
theorem dX7_digest_83 : decode cX7_digest 83 = .ok (.goto (-28), 3) := by decide +kernel
theorem dX7_digest_86 : decode cX7_digest 86 = .ok (.aload_n 0, 1) := by decide +kernel
theorem dX7_digest_87 : decode cX7_digest 87 = .ok (.invokevirtual 202, 3) := by decide +kernel
theorem dX7_digest_90 : decode cX7_digest 90 = .ok (.iconst 0, 1) := by decide +kernel
theorem dX7_digest_91 : decode cX7_digest 91 = .ok (.istore_n 1, 1) := by decide +kernel
theorem dX7_digest_92 : decode cX7_digest 92 = .ok (.iload_n 1, 1) := by decide +kernel
theorem dX7_digest_93 : decode cX7_digest 93 = .ok (.aload_n 0, 1) := by decide +kernel
theorem dX7_digest_94 : decode cX7_digest 94 = .ok (.getfield 7, 3) := by decide +kernel
theorem dX7_digest_97 : decode cX7_digest 97 = .ok (.iconst 0, 1) := by decide +kernel
theorem dX7_digest_98 : decode cX7_digest 98 = .ok (.iaload, 1) := by decide +kernel
theorem dX7_digest_99 : decode cX7_digest 99 = .ok (.if_icmp .gt 23, 3) := by decide +kernel
theorem dX7_digest_102 : decode cX7_digest 102 = .ok (.aload_n 0, 1) := by decide +kernel
theorem dX7_digest_103 : decode cX7_digest 103 = .ok (.getfield 31, 3) := by decide +kernel
theorem dX7_digest_106 : decode cX7_digest 106 = .ok (.iload_n 1, 1) := by decide +kernel
theorem dX7_digest_107 : decode cX7_digest 107 = .ok (.baload, 1) := by decide +kernel
theorem dX7_digest_108 : decode cX7_digest 108 = .ok (.ifCond .eq 8, 3) := by decide +kernel
theorem dX7_digest_111 : decode cX7_digest 111 = .ok (.aload_n 0, 1) := by decide +kernel
theorem dX7_digest_112 : decode cX7_digest 112 = .ok (.iload_n 1, 1) := by decide +kernel
theorem dX7_digest_113 : decode cX7_digest 113 = .ok (.invokevirtual 262, 3) := by decide +kernel
theorem dX7_digest_116 : decode cX7_digest 116 = .ok (.iinc 1 1, 3) := by decide +kernel
theorem dX7_digest_119 : decode cX7_digest 119 = .ok (.goto (-27), 3) := by decide +kernel
theorem dX7_digest_122 : decode cX7_digest 122 = .ok (.aload_n 0, 1) := by decide +kernel
theorem dX7_digest_123 : decode cX7_digest 123 = .ok (.aload_n 0, 1) := by decide +kernel
theorem dX7_digest_124 : decode cX7_digest 124 = .ok (.invokevirtual 211, 3) := by decide +kernel
theorem dX7_digest_127 : decode cX7_digest 127 = .ok (.invokevirtual 257, 3) := by decide +kernel
theorem dX7_digest_130 : decode cX7_digest 130 = .ok (.aload_n 0, 1) := by decide +kernel
theorem dX7_digest_131 : decode cX7_digest 131 = .ok (.aload_n 0, 1) := by decide +kernel
theorem dX7_digest_132 : decode cX7_digest 132 = .ok (.invokevirtual 164, 3) := by decide +kernel
theorem dX7_digest_135 : decode cX7_digest 135 = .ok (.invokevirtual 257, 3) := by decide +kernel
theorem dX7_digest_138 : decode cX7_digest 138 = .ok (.aload_n 0, 1) := by decide +kernel
theorem dX7_digest_139 : decode cX7_digest 139 = .ok (.aload_n 0, 1) := by decide +kernel
theorem dX7_digest_140 : decode cX7_digest 140 = .ok (.invokevirtual 167, 3) := by decide +kernel
theorem dX7_digest_143 : decode cX7_digest 143 = .ok (.invokevirtual 257, 3) := by decide +kernel
theorem dX7_digest_146 : decode cX7_digest 146 = .ok (.aload_n 0, 1) := by decide +kernel
theorem dX7_digest_147 : decode cX7_digest 147 = .ok (.iconst 0, 1) := by decide +kernel
theorem dX7_digest_148 : decode cX7_digest 148 = .ok (.iconst 0, 1) := by decide +kernel
theorem dX7_digest_149 : decode cX7_digest 149 = .ok (.invokevirtual 155, 3) := by decide +kernel
theorem dX7_digest_152 : decode cX7_digest 152 = .ok (.iconst 0, 1) := by decide +kernel
theorem dX7_digest_153 : decode cX7_digest 153 = .ok (.istore_n 1, 1) := by decide +kernel
theorem dX7_digest_154 : decode cX7_digest 154 = .ok (.iload_n 1, 1) := by decide +kernel
theorem dX7_digest_155 : decode cX7_digest 155 = .ok (.bipush 9, 2) := by decide +kernel
theorem dX7_digest_157 : decode cX7_digest 157 = .ok (.if_icmp .ge 18, 3) := by decide +kernel
theorem dX7_digest_160 : decode cX7_digest 160 = .ok (.aload_n 0, 1) := by decide +kernel
theorem dX7_digest_161 : decode cX7_digest 161 = .ok (.aload_n 0, 1) := by decide +kernel
theorem dX7_digest_162 : decode cX7_digest 162 = .ok (.iload_n 1, 1) := by decide +kernel
theorem dX7_digest_163 : decode cX7_digest 163 = .ok (.invokevirtual 158, 3) := by decide +kernel
theorem dX7_digest_166 : decode cX7_digest 166 = .ok (.invokevirtual 257, 3) := by decide +kernel
theorem dX7_digest_169 : decode cX7_digest 169 = .ok (.iinc 1 1, 3) := by decide +kernel
theorem dX7_digest_172 : decode cX7_digest 172 = .ok (.goto (-18), 3) := by decide +kernel
theorem dX7_digest_175 : decode cX7_digest 175 = .ok (.aload_n 0, 1) := by decide +kernel
theorem dX7_digest_176 : decode cX7_digest 176 = .ok (.getfield 253, 3) := by decide +kernel
theorem dX7_digest_179 : decode cX7_digest 179 = .ok (.lreturn, 1) := by decide +kernel
theorem dJ6_bitCount_0f7a4_0 : decode cJ6_bitCount_0f7a4 0 = .ok (.iload_n 0, 1) := by decide +kernel
theorem dJ6_bitCount_0f7a4_1 : decode cJ6_bitCount_0f7a4 1 = .ok (.iload_n 0, 1) := by decide +kernel
theorem dJ6_bitCount_0f7a4_2 : decode cJ6_bitCount_0f7a4 2 = .ok (.iconst 1, 1) := by decide +kernel
theorem dJ6_bitCount_0f7a4_3 : decode cJ6_bitCount_0f7a4 3 = .ok (.iushr, 1) := by decide +kernel
theorem dJ6_bitCount_0f7a4_4 : decode cJ6_bitCount_0f7a4 4 = .ok (.ldc_w 265, 3) := by decide +kernel
theorem dJ6_bitCount_0f7a4_7 : decode cJ6_bitCount_0f7a4 7 = .ok (.iand, 1) := by decide +kernel
theorem dJ6_bitCount_0f7a4_8 : decode cJ6_bitCount_0f7a4 8 = .ok (.isub, 1) := by decide +kernel
theorem dJ6_bitCount_0f7a4_9 : decode cJ6_bitCount_0f7a4 9 = .ok (.istore_n 0, 1) := by decide +kernel
theorem dJ6_bitCount_0f7a4_10 : decode cJ6_bitCount_0f7a4 10 = .ok (.iload_n 0, 1) := by decide +kernel
theorem dJ6_bitCount_0f7a4_11 : decode cJ6_bitCount_0f7a4 11 = .ok (.ldc_w 266, 3) := by decide +kernel
theorem dJ6_bitCount_0f7a4_14 : decode cJ6_bitCount_0f7a4 14 = .ok (.iand, 1) := by decide +kernel
theorem dJ6_bitCount_0f7a4_15 : decode cJ6_bitCount_0f7a4 15 = .ok (.iload_n 0, 1) := by decide +kernel
theorem dJ6_bitCount_0f7a4_16 : decode cJ6_bitCount_0f7a4 16 = .ok (.iconst 2, 1) := by decide +kernel
theorem dJ6_bitCount_0f7a4_17 : decode cJ6_bitCount_0f7a4 17 = .ok (.iushr, 1) := by decide +kernel
theorem dJ6_bitCount_0f7a4_18 : decode cJ6_bitCount_0f7a4 18 = .ok (.ldc_w 266, 3) := by decide +kernel
theorem dJ6_bitCount_0f7a4_21 : decode cJ6_bitCount_0f7a4 21 = .ok (.iand, 1) := by decide +kernel
theorem dJ6_bitCount_0f7a4_22 : decode cJ6_bitCount_0f7a4 22 = .ok (.iadd, 1) := by decide +kernel
theorem dJ6_bitCount_0f7a4_23 : decode cJ6_bitCount_0f7a4 23 = .ok (.istore_n 0, 1) := by decide +kernel
theorem dJ6_bitCount_0f7a4_24 : decode cJ6_bitCount_0f7a4 24 = .ok (.iload_n 0, 1) := by decide +kernel
theorem dJ6_bitCount_0f7a4_25 : decode cJ6_bitCount_0f7a4 25 = .ok (.iload_n 0, 1) := by decide +kernel
theorem dJ6_bitCount_0f7a4_26 : decode cJ6_bitCount_0f7a4 26 = .ok (.iconst 4, 1) := by decide +kernel
theorem dJ6_bitCount_0f7a4_27 : decode cJ6_bitCount_0f7a4 27 = .ok (.iushr, 1) := by decide +kernel
theorem dJ6_bitCount_0f7a4_28 : decode cJ6_bitCount_0f7a4 28 = .ok (.iadd, 1) := by decide +kernel
theorem dJ6_bitCount_0f7a4_29 : decode cJ6_bitCount_0f7a4 29 = .ok (.ldc_w 267, 3) := by decide +kernel
theorem dJ6_bitCount_0f7a4_32 : decode cJ6_bitCount_0f7a4 32 = .ok (.iand, 1) := by decide +kernel
theorem dJ6_bitCount_0f7a4_33 : decode cJ6_bitCount_0f7a4 33 = .ok (.istore_n 0, 1) := by decide +kernel
theorem dJ6_bitCount_0f7a4_34 : decode cJ6_bitCount_0f7a4 34 = .ok (.iload_n 0, 1) := by decide +kernel
theorem dJ6_bitCount_0f7a4_35 : decode cJ6_bitCount_0f7a4 35 = .ok (.iload_n 0, 1) := by decide +kernel
theorem dJ6_bitCount_0f7a4_36 : decode cJ6_bitCount_0f7a4 36 = .ok (.bipush 8, 2) := by decide +kernel
theorem dJ6_bitCount_0f7a4_38 : decode cJ6_bitCount_0f7a4 38 = .ok (.iushr, 1) := by decide +kernel
theorem dJ6_bitCount_0f7a4_39 : decode cJ6_bitCount_0f7a4 39 = .ok (.iadd, 1) := by decide +kernel
theorem dJ6_bitCount_0f7a4_40 : decode cJ6_bitCount_0f7a4 40 = .ok (.istore_n 0, 1) := by decide +kernel
theorem dJ6_bitCount_0f7a4_41 : decode cJ6_bitCount_0f7a4 41 = .ok (.iload_n 0, 1) := by decide +kernel
theorem dJ6_bitCount_0f7a4_42 : decode cJ6_bitCount_0f7a4 42 = .ok (.iload_n 0, 1) := by decide +kernel
theorem dJ6_bitCount_0f7a4_43 : decode cJ6_bitCount_0f7a4 43 = .ok (.bipush 16, 2) := by decide +kernel
theorem dJ6_bitCount_0f7a4_45 : decode cJ6_bitCount_0f7a4 45 = .ok (.iushr, 1) := by decide +kernel
theorem dJ6_bitCount_0f7a4_46 : decode cJ6_bitCount_0f7a4 46 = .ok (.iadd, 1) := by decide +kernel
theorem dJ6_bitCount_0f7a4_47 : decode cJ6_bitCount_0f7a4 47 = .ok (.istore_n 0, 1) := by decide +kernel
theorem dJ6_bitCount_0f7a4_48 : decode cJ6_bitCount_0f7a4 48 = .ok (.iload_n 0, 1) := by decide +kernel
theorem dJ6_bitCount_0f7a4_49 : decode cJ6_bitCount_0f7a4 49 = .ok (.bipush 63, 2) := by decide +kernel
theorem dJ6_bitCount_0f7a4_51 : decode cJ6_bitCount_0f7a4 51 = .ok (.iand, 1) := by decide +kernel
theorem dJ6_bitCount_0f7a4_52 : decode cJ6_bitCount_0f7a4 52 = .ok (.ireturn, 1) := by decide +kernel
theorem dJ9_max_7cf53_0 : decode cJ9_max_7cf53 0 = .ok (.iload_n 0, 1) := by decide +kernel
theorem dJ9_max_7cf53_1 : decode cJ9_max_7cf53 1 = .ok (.iload_n 1, 1) := by decide +kernel
theorem dJ9_max_7cf53_2 : decode cJ9_max_7cf53 2 = .ok (.if_icmp .lt 7, 3) := by decide +kernel
theorem dJ9_max_7cf53_5 : decode cJ9_max_7cf53 5 = .ok (.iload_n 0, 1) := by decide +kernel
theorem dJ9_max_7cf53_6 : decode cJ9_max_7cf53 6 = .ok (.goto 4, 3) := by decide +kernel
theorem dJ9_max_7cf53_9 : decode cJ9_max_7cf53 9 = .ok (.iload_n 1, 1) := by decide +kernel
theorem dJ9_max_7cf53_10 : decode cJ9_max_7cf53 10 = .ok (.ireturn, 1) := by decide +kernel
theorem dJ9_min_7cf53_0 : decode cJ9_min_7cf53 0 = .ok (.iload_n 0, 1) := by decide +kernel
theorem dJ9_min_7cf53_1 : decode cJ9_min_7cf53 1 = .ok (.iload_n 1, 1) := by decide +kernel
theorem dJ9_min_7cf53_2 : decode cJ9_min_7cf53 2 = .ok (.if_icmp .gt 7, 3) := by decide +kernel
theorem dJ9_min_7cf53_5 : decode cJ9_min_7cf53 5 = .ok (.iload_n 0, 1) := by decide +kernel
theorem dJ9_min_7cf53_6 : decode cJ9_min_7cf53 6 = .ok (.goto 4, 3) := by decide +kernel
theorem dJ9_min_7cf53_9 : decode cJ9_min_7cf53 9 = .ok (.iload_n 1, 1) := by decide +kernel
theorem dJ9_min_7cf53_10 : decode cJ9_min_7cf53 10 = .ok (.ireturn, 1) := by decide +kernel
abbrev vwCl : List vw_C := [(RX0, TX0, 6), (RX1, TX1, 3), (RX2, TX2, 5), (RX3, TX3, 5), (RX4, TX4, 3), (RX5, TX5, 8), (RX6, TX6, 13), (RX7, TX7, 24)]
