theorem dX6_run_1 : decode cX6_run 1 = .ok (.getfield 12, 3) := by decide +kernel
theorem dX6_run_4 : decode cX6_run 4 = .ok (.iload_n 1, 1) := by decide +kernel
theorem dX6_run_5 : decode cX6_run 5 = .ok (.invokevirtual 82, 3) := by decide +kernel
theorem dX6_run_8 : decode cX6_run 8 = .ok (.ifCond .eq 12, 3) := by decide +kernel
theorem dX6_run_11 : decode cX6_run 11 = .ok (.iload_n 2, 1) := by decide +kernel
theorem dX6_run_12 : decode cX6_run 12 = .ok (.bipush 9, 2) := by decide +kernel
theorem dX6_run_14 : decode cX6_run 14 = .ok (.invokestatic 86, 3) := by decide +kernel
theorem dX6_run_17 : decode cX6_run 17 = .ok (.ifCond .ne 10, 3) := by decide +kernel
theorem dX6_run_20 : decode cX6_run 20 = .ok (.aload_n 0, 1) := by decide +kernel
theorem dX6_run_21 : decode cX6_run 21 = .ok (.bipush (-2), 2) := by decide +kernel
theorem dX6_run_23 : decode cX6_run 23 = .ok (.invokevirtual 90, 3) := by decide +kernel
theorem dX6_run_26 : decode cX6_run 26 = .ok (.ireturn, 1) := by decide +kernel
theorem dX6_run_27 : decode cX6_run 27 = .ok (.aload_n 0, 1) := by decide +kernel
theorem dX6_run_28 : decode cX6_run 28 = .ok (.getfield 36, 3) := by decide +kernel
theorem dX6_run_31 : decode cX6_run 31 = .ok (.aload_n 0, 1) := by decide +kernel
theorem dX6_run_32 : decode cX6_run 32 = .ok (.getfield 12, 3) := by decide +kernel
theorem dX6_run_35 : decode cX6_run 35 = .ok (.iload_n 1, 1) := by decide +kernel
theorem dX6_run_36 : decode cX6_run 36 = .ok (.invokevirtual 93, 3) := by decide +kernel
theorem dX6_run_39 : decode cX6_run 39 = .ok (.aload_n 0, 1) := by decide +kernel
theorem dX6_run_40 : decode cX6_run 40 = .ok (.getfield 36, 3) := by decide +kernel
theorem dX6_run_43 : decode cX6_run 43 = .ok (.iload_n 2, 1) := by decide +kernel
theorem dX6_run_44 : decode cX6_run 44 = .ok (.invokevirtual 97, 3) := by decide +kernel
theorem dX6_run_47 : decode cX6_run 47 = .ok (.ireturn, 1) := by decide +kernel
set_option maxRecDepth 20000 in
theorem ggX6_sight_X2_hasSecrets : GoodIn wsX6_sight wsX2_hasSecrets := goodIn_r _ [7, 8, 9, 10, 6, 11, 12, 13, 14, 15, 16, 17, 18, 19, 20, 21, 22, 71, 72, 73, 74, 75] (by decide +kernel) (by decide +kernel)
set_option maxRecDepth 20000 in
theorem gX6_sight_X2_hasSecrets : GoodIn wsX6_sight (wsV RX6 82 RX2 yX2_hasSecrets wsX2_hasSecrets) := goodIn_app (goodIn_of _ (by decide +kernel)) ggX6_sight_X2_hasSecrets
set_option maxRecDepth 20000 in
theorem ggX6_sight_X6_counted : GoodIn wsX6_sight wsX6_counted := goodIn_r _ [26, 27, 28, 29, 58, 59, 60, 61, 62, 63, 64, 65, 66, 67, 68, 69, 70] (by decide +kernel) (by decide +kernel)
set_option maxRecDepth 20000 in
theorem gX6_sight_X6_counted : GoodIn wsX6_sight (wsV RX6 90 RX6 yX6_counted wsX6_counted) := goodIn_app (goodIn_of _ (by decide +kernel)) ggX6_sight_X6_counted
set_option maxRecDepth 20000 in
theorem ggX6_sight_X3_follow : GoodIn wsX6_sight wsX3_follow := goodIn_r _ [34, 35, 36, 37, 38, 39, 33, 40, 41, 42, 43, 44, 45, 46, 47, 48, 49, 50, 51, 52, 21, 53, 76, 77, 78, 79, 80, 71, 72, 73, 74, 75] (by decide +kernel) (by decide +kernel)
set_option maxRecDepth 20000 in
theorem gX6_sight_X3_follow : GoodIn wsX6_sight (wsV RX6 93 RX3 yX3_follow wsX3_follow) := goodIn_app (goodIn_of _ (by decide +kernel)) ggX6_sight_X3_follow
set_option maxRecDepth 20000 in
theorem ggX6_sight_X3_seen : GoodIn wsX6_sight wsX3_seen := goodIn_r _ [57, 41, 51, 20, 21, 22, 76, 77, 78, 79, 80] (by decide +kernel) (by decide +kernel)
set_option maxRecDepth 20000 in
theorem gX6_sight_X3_seen : GoodIn wsX6_sight (wsV RX6 100 RX3 yX3_seen wsX3_seen) := goodIn_app (goodIn_of _ (by decide +kernel)) ggX6_sight_X3_seen
theorem dX6_sight_0 : decode cX6_sight 0 = .ok (.aload_n 0, 1) := by decide +kernel
theorem dX6_sight_1 : decode cX6_sight 1 = .ok (.getfield 12, 3) := by decide +kernel
theorem dX6_sight_4 : decode cX6_sight 4 = .ok (.iload_n 1, 1) := by decide +kernel
theorem dX6_sight_5 : decode cX6_sight 5 = .ok (.invokevirtual 82, 3) := by decide +kernel
theorem dX6_sight_8 : decode cX6_sight 8 = .ok (.ifCond .eq 7, 3) := by decide +kernel
theorem dX6_sight_11 : decode cX6_sight 11 = .ok (.iload_n 2, 1) := by decide +kernel
theorem dX6_sight_12 : decode cX6_sight 12 = .ok (.ifCond .ge 10, 3) := by decide +kernel
theorem dX6_sight_15 : decode cX6_sight 15 = .ok (.aload_n 0, 1) := by decide +kernel
theorem dX6_sight_16 : decode cX6_sight 16 = .ok (.bipush (-2), 2) := by decide +kernel
theorem dX6_sight_18 : decode cX6_sight 18 = .ok (.invokevirtual 90, 3) := by decide +kernel
theorem dX6_sight_21 : decode cX6_sight 21 = .ok (.ireturn, 1) := by decide +kernel
theorem dX6_sight_22 : decode cX6_sight 22 = .ok (.aload_n 0, 1) := by decide +kernel
theorem dX6_sight_23 : decode cX6_sight 23 = .ok (.getfield 36, 3) := by decide +kernel
theorem dX6_sight_26 : decode cX6_sight 26 = .ok (.aload_n 0, 1) := by decide +kernel
theorem dX6_sight_27 : decode cX6_sight 27 = .ok (.getfield 12, 3) := by decide +kernel
theorem dX6_sight_30 : decode cX6_sight 30 = .ok (.iload_n 1, 1) := by decide +kernel
theorem dX6_sight_31 : decode cX6_sight 31 = .ok (.invokevirtual 93, 3) := by decide +kernel
theorem dX6_sight_34 : decode cX6_sight 34 = .ok (.aload_n 0, 1) := by decide +kernel
theorem dX6_sight_35 : decode cX6_sight 35 = .ok (.getfield 36, 3) := by decide +kernel
theorem dX6_sight_38 : decode cX6_sight 38 = .ok (.iload_n 2, 1) := by decide +kernel
theorem dX6_sight_39 : decode cX6_sight 39 = .ok (.invokevirtual 100, 3) := by decide +kernel
theorem dX6_sight_42 : decode cX6_sight 42 = .ok (.ireturn, 1) := by decide +kernel
set_option maxRecDepth 20000 in
theorem ggX6_parts_X2_hasSecrets : GoodIn wsX6_parts wsX2_hasSecrets := goodIn_r _ [8, 9, 10, 11, 7, 12, 13, 14, 15, 16, 17, 18, 19, 20, 21, 22, 23, 80, 81, 82, 83, 84] (by decide +kernel) (by decide +kernel)
set_option maxRecDepth 20000 in
theorem gX6_parts_X2_hasSecrets : GoodIn wsX6_parts (wsV RX6 82 RX2 yX2_hasSecrets wsX2_hasSecrets) := goodIn_app (goodIn_of _ (by decide +kernel)) ggX6_parts_X2_hasSecrets
set_option maxRecDepth 20000 in
theorem ggX6_parts_X6_counted : GoodIn wsX6_parts wsX6_counted := goodIn_r _ [27, 28, 29, 30, 67, 68, 69, 70, 71, 72, 73, 74, 75, 76, 77, 78, 79] (by decide +kernel) (by decide +kernel)
set_option maxRecDepth 20000 in
theorem gX6_parts_X6_counted : GoodIn wsX6_parts (wsV RX6 90 RX6 yX6_counted wsX6_counted) := goodIn_app (goodIn_of _ (by decide +kernel)) ggX6_parts_X6_counted
set_option maxRecDepth 20000 in
theorem ggX6_parts_X3_follow : GoodIn wsX6_parts wsX3_follow := goodIn_r _ [35, 36, 37, 38, 39, 40, 34, 41, 42, 43, 44, 45, 46, 47, 48, 49, 50, 51, 52, 53, 22, 54, 85, 86, 87, 88, 89, 80, 81, 82, 83, 84] (by decide +kernel) (by decide +kernel)
set_option maxRecDepth 20000 in
theorem gX6_parts_X3_follow : GoodIn wsX6_parts (wsV RX6 93 RX3 yX3_follow wsX3_follow) := goodIn_app (goodIn_of _ (by decide +kernel)) ggX6_parts_X3_follow
set_option maxRecDepth 20000 in
theorem ggX6_parts_X3_partsFrom : GoodIn wsX6_parts wsX3_partsFrom := goodIn_r _ [58, 42, 59, 60, 61, 62, 63, 64, 65, 34, 66, 52, 21, 22, 23, 85, 86, 87, 88, 89] (by decide +kernel) (by decide +kernel)
set_option maxRecDepth 20000 in
theorem gX6_parts_X3_partsFrom : GoodIn wsX6_parts (wsV RX6 103 RX3 yX3_partsFrom wsX3_partsFrom) := goodIn_app (goodIn_of _ (by decide +kernel)) ggX6_parts_X3_partsFrom
theorem dX6_parts_0 : decode cX6_parts 0 = .ok (.aload_n 0, 1) := by decide +kernel
theorem dX6_parts_1 : decode cX6_parts 1 = .ok (.getfield 12, 3) := by decide +kernel
theorem dX6_parts_4 : decode cX6_parts 4 = .ok (.iload_n 1, 1) := by decide +kernel
theorem dX6_parts_5 : decode cX6_parts 5 = .ok (.invokevirtual 82, 3) := by decide +kernel
theorem dX6_parts_8 : decode cX6_parts 8 = .ok (.ifCond .eq 14, 3) := by decide +kernel
theorem dX6_parts_11 : decode cX6_parts 11 = .ok (.aload_n 0, 1) := by decide +kernel
theorem dX6_parts_12 : decode cX6_parts 12 = .ok (.getfield 12, 3) := by decide +kernel
theorem dX6_parts_15 : decode cX6_parts 15 = .ok (.iload_n 2, 1) := by decide +kernel
theorem dX6_parts_16 : decode cX6_parts 16 = .ok (.invokevirtual 82, 3) := by decide +kernel
theorem dX6_parts_19 : decode cX6_parts 19 = .ok (.ifCond .ne 10, 3) := by decide +kernel
theorem dX6_parts_22 : decode cX6_parts 22 = .ok (.aload_n 0, 1) := by decide +kernel
theorem dX6_parts_23 : decode cX6_parts 23 = .ok (.bipush (-2), 2) := by decide +kernel
theorem dX6_parts_25 : decode cX6_parts 25 = .ok (.invokevirtual 90, 3) := by decide +kernel
theorem dX6_parts_28 : decode cX6_parts 28 = .ok (.ireturn, 1) := by decide +kernel
theorem dX6_parts_29 : decode cX6_parts 29 = .ok (.aload_n 0, 1) := by decide +kernel
theorem dX6_parts_30 : decode cX6_parts 30 = .ok (.getfield 36, 3) := by decide +kernel
theorem dX6_parts_33 : decode cX6_parts 33 = .ok (.aload_n 0, 1) := by decide +kernel
theorem dX6_parts_34 : decode cX6_parts 34 = .ok (.getfield 12, 3) := by decide +kernel
theorem dX6_parts_37 : decode cX6_parts 37 = .ok (.iload_n 1, 1) := by decide +kernel
theorem dX6_parts_38 : decode cX6_parts 38 = .ok (.invokevirtual 93, 3) := by decide +kernel
theorem dX6_parts_41 : decode cX6_parts 41 = .ok (.aload_n 0, 1) := by decide +kernel
theorem dX6_parts_42 : decode cX6_parts 42 = .ok (.getfield 40, 3) := by decide +kernel
theorem dX6_parts_45 : decode cX6_parts 45 = .ok (.aload_n 0, 1) := by decide +kernel
theorem dX6_parts_46 : decode cX6_parts 46 = .ok (.getfield 12, 3) := by decide +kernel
theorem dX6_parts_49 : decode cX6_parts 49 = .ok (.iload_n 2, 1) := by decide +kernel
theorem dX6_parts_50 : decode cX6_parts 50 = .ok (.invokevirtual 93, 3) := by decide +kernel
theorem dX6_parts_53 : decode cX6_parts 53 = .ok (.aload_n 0, 1) := by decide +kernel
theorem dX6_parts_54 : decode cX6_parts 54 = .ok (.getfield 36, 3) := by decide +kernel
theorem dX6_parts_57 : decode cX6_parts 57 = .ok (.aload_n 0, 1) := by decide +kernel
theorem dX6_parts_58 : decode cX6_parts 58 = .ok (.getfield 40, 3) := by decide +kernel
theorem dX6_parts_61 : decode cX6_parts 61 = .ok (.invokevirtual 103, 3) := by decide +kernel
theorem dX6_parts_64 : decode cX6_parts 64 = .ok (.ireturn, 1) := by decide +kernel
set_option maxRecDepth 20000 in
theorem ggX6_leak_X6_surveyNow : GoodIn wsX6_leak wsX6_surveyNow := goodIn_r _ [5, 6, 7, 8, 9, 10, 11, 12, 13, 14, 15, 16, 17, 18, 19, 20, 21, 22, 23, 24, 25, 26, 27, 28, 29, 30, 31, 32, 33, 34, 35, 36, 37, 38, 39, 40, 41, 42, 43, 44, 45, 46, 47, 48, 49, 50, 51, 52, 53, 54, 55, 56, 4, 57, 58, 59, 60, 61, 62, 63, 64, 65, 66, 67, 68, 69, 70, 74, 75, 76, 77, 78, 79, 80, 81, 82, 83, 84, 85, 86, 71, 72, 73, 87, 88, 89, 90, 91, 92, 93, 94, 95, 96] (by decide +kernel) (by decide +kernel)
set_option maxRecDepth 20000 in
theorem gX6_leak_X6_surveyNow : GoodIn wsX6_leak (wsV RX6 107 RX6 yX6_surveyNow wsX6_surveyNow) := goodIn_app (goodIn_of _ (by decide +kernel)) ggX6_leak_X6_surveyNow
theorem dX6_leak_0 : decode cX6_leak 0 = .ok (.aload_n 0, 1) := by decide +kernel
theorem dX6_leak_1 : decode cX6_leak 1 = .ok (.invokevirtual 107, 3) := by decide +kernel
theorem dX6_leak_4 : decode cX6_leak 4 = .ok (.getfield 111, 3) := by decide +kernel
theorem dX6_leak_7 : decode cX6_leak 7 = .ok (.ireturn, 1) := by decide +kernel
set_option maxRecDepth 20000 in
theorem ggX6_rows_X6_surveyNow : GoodIn wsX6_rows wsX6_surveyNow := goodIn_r _ [5, 6, 7, 8, 9, 10, 11, 12, 13, 14, 15, 16, 17, 18, 19, 20, 21, 22, 23, 24, 25, 26, 27, 28, 29, 30, 31, 32, 33, 34, 35, 36, 37, 38, 39, 40, 41, 42, 43, 44, 45, 46, 47, 48, 49, 50, 51, 52, 53, 54, 55, 56, 4, 57, 58, 59, 60, 61, 62, 63, 64, 65, 66, 67, 68, 69, 70, 74, 75, 76, 77, 78, 79, 80, 81, 82, 83, 84, 85, 86, 71, 72, 73, 87, 88, 89, 90, 91, 92, 93, 94, 95, 96] (by decide +kernel) (by decide +kernel)
set_option maxRecDepth 20000 in
theorem gX6_rows_X6_surveyNow : GoodIn wsX6_rows (wsV RX6 107 RX6 yX6_surveyNow wsX6_surveyNow) := goodIn_app (goodIn_of _ (by decide +kernel)) ggX6_rows_X6_surveyNow
theorem dX6_rows_0 : decode cX6_rows 0 = .ok (.aload_n 0, 1) := by decide +kernel
theorem dX6_rows_1 : decode cX6_rows 1 = .ok (.invokevirtual 107, 3) := by decide +kernel
theorem dX6_rows_4 : decode cX6_rows 4 = .ok (.getfield 115, 3) := by decide +kernel
theorem dX6_rows_7 : decode cX6_rows 7 = .ok (.ireturn, 1) := by decide +kernel
set_option maxRecDepth 20000 in
theorem ggX6_ahead_X6_within : GoodIn wsX6_ahead wsX6_within := goodIn_r _ [5] (by decide +kernel) (by decide +kernel)
set_option maxRecDepth 20000 in
theorem gX6_ahead_X6_within : GoodIn wsX6_ahead (va_wsS RX6 86 yX6_within wsX6_within) := goodIn_app (goodIn_of _ (by decide +kernel)) ggX6_ahead_X6_within
set_option maxRecDepth 20000 in
theorem ggX6_ahead_X6_counted : GoodIn wsX6_ahead wsX6_counted := goodIn_r _ [9, 10, 11, 12, 94, 95, 96, 97, 98, 99, 100, 101, 102, 103, 104, 105, 106] (by decide +kernel) (by decide +kernel)
set_option maxRecDepth 20000 in
theorem gX6_ahead_X6_counted : GoodIn wsX6_ahead (wsV RX6 90 RX6 yX6_counted wsX6_counted) := goodIn_app (goodIn_of _ (by decide +kernel)) ggX6_ahead_X6_counted
set_option maxRecDepth 20000 in
theorem ggX6_ahead_X6_flowNow : GoodIn wsX6_ahead wsX6_flowNow := goodIn_r _ [16, 17, 18, 1, 19, 20, 21, 22, 23, 24, 25, 26, 27, 28, 29, 30, 31, 32, 33, 34, 35, 36, 37, 38, 39, 40, 41, 42, 43, 44, 45, 46, 47, 48, 49, 50, 51, 52, 53, 54, 55, 56, 57, 58, 59, 60, 61, 62, 63, 64, 65, 66, 67, 68, 69, 70, 71, 72, 73, 74, 75, 76, 77, 78, 79, 80, 4, 81, 94, 95, 96, 97, 98, 99, 100, 101, 102, 103, 104, 105, 106, 107, 108, 109, 110, 111, 112, 113, 114, 115, 116, 117] (by decide +kernel) (by decide +kernel)
set_option maxRecDepth 20000 in
theorem gX6_ahead_X6_flowNow : GoodIn wsX6_ahead (wsV RX6 121 RX6 yX6_flowNow wsX6_flowNow) := goodIn_app (goodIn_of _ (by decide +kernel)) ggX6_ahead_X6_flowNow
set_option maxRecDepth 20000 in
theorem ggX6_ahead_X0_comesTo : GoodIn wsX6_ahead wsX0_comesTo := goodIn_r _ [85, 25, 112, 113, 114, 115, 116, 117] (by decide +kernel) (by decide +kernel)
set_option maxRecDepth 20000 in
theorem gX6_ahead_X0_comesTo : GoodIn wsX6_ahead (wsV RX6 125 RX0 yX0_comesTo wsX0_comesTo) := goodIn_app (goodIn_of _ (by decide +kernel)) ggX6_ahead_X0_comesTo
set_option maxRecDepth 20000 in
theorem ggX6_ahead_X0_taintOf : GoodIn wsX6_ahead wsX0_taintOf := goodIn_r _ [89, 31, 112, 113, 114, 115, 116, 117] (by decide +kernel) (by decide +kernel)
set_option maxRecDepth 20000 in
theorem gX6_ahead_X0_taintOf : GoodIn wsX6_ahead (wsV RX6 128 RX0 yX0_taintOf wsX0_taintOf) := goodIn_app (goodIn_of _ (by decide +kernel)) ggX6_ahead_X0_taintOf
set_option maxRecDepth 20000 in
theorem ggX6_ahead_X0_knownOf : GoodIn wsX6_ahead wsX0_knownOf := goodIn_r _ [93, 30, 112, 113, 114, 115, 116, 117] (by decide +kernel) (by decide +kernel)
set_option maxRecDepth 20000 in
theorem gX6_ahead_X0_knownOf : GoodIn wsX6_ahead (wsV RX6 131 RX0 yX0_knownOf wsX0_knownOf) := goodIn_app (goodIn_of _ (by decide +kernel)) ggX6_ahead_X0_knownOf
theorem dX6_ahead_0 : decode cX6_ahead 0 = .ok (.iload_n 1, 1) := by decide +kernel
theorem dX6_ahead_1 : decode cX6_ahead 1 = .ok (.aload_n 0, 1) := by decide +kernel
theorem dX6_ahead_2 : decode cX6_ahead 2 = .ok (.getfield 12, 3) := by decide +kernel
theorem dX6_ahead_5 : decode cX6_ahead 5 = .ok (.getfield 118, 3) := by decide +kernel
theorem dX6_ahead_8 : decode cX6_ahead 8 = .ok (.iconst 1, 1) := by decide +kernel
theorem dX6_ahead_9 : decode cX6_ahead 9 = .ok (.iadd, 1) := by decide +kernel
theorem dX6_ahead_10 : decode cX6_ahead 10 = .ok (.invokestatic 86, 3) := by decide +kernel
theorem dX6_ahead_13 : decode cX6_ahead 13 = .ok (.ifCond .eq 20, 3) := by decide +kernel
theorem dX6_ahead_16 : decode cX6_ahead 16 = .ok (.iload_n 2, 1) := by decide +kernel
theorem dX6_ahead_17 : decode cX6_ahead 17 = .ok (.bipush 6, 2) := by decide +kernel
theorem dX6_ahead_19 : decode cX6_ahead 19 = .ok (.invokestatic 86, 3) := by decide +kernel
theorem dX6_ahead_22 : decode cX6_ahead 22 = .ok (.ifCond .eq 11, 3) := by decide +kernel
theorem dX6_ahead_25 : decode cX6_ahead 25 = .ok (.iload_n 3, 1) := by decide +kernel
theorem dX6_ahead_26 : decode cX6_ahead 26 = .ok (.iconst 2, 1) := by decide +kernel
theorem dX6_ahead_27 : decode cX6_ahead 27 = .ok (.invokestatic 86, 3) := by decide +kernel
theorem dX6_ahead_30 : decode cX6_ahead 30 = .ok (.ifCond .ne 10, 3) := by decide +kernel
theorem dX6_ahead_33 : decode cX6_ahead 33 = .ok (.aload_n 0, 1) := by decide +kernel
theorem dX6_ahead_34 : decode cX6_ahead 34 = .ok (.bipush (-2), 2) := by decide +kernel
theorem dX6_ahead_36 : decode cX6_ahead 36 = .ok (.invokevirtual 90, 3) := by decide +kernel
theorem dX6_ahead_39 : decode cX6_ahead 39 = .ok (.ireturn, 1) := by decide +kernel
theorem dX6_ahead_40 : decode cX6_ahead 40 = .ok (.aload_n 0, 1) := by decide +kernel
theorem dX6_ahead_41 : decode cX6_ahead 41 = .ok (.invokevirtual 121, 3) := by decide +kernel
theorem dX6_ahead_44 : decode cX6_ahead 44 = .ok (.astore 4, 2) := by decide +kernel
theorem dX6_ahead_46 : decode cX6_ahead 46 = .ok (.aload 4, 2) := by decide +kernel
theorem dX6_ahead_48 : decode cX6_ahead 48 = .ok (.iload_n 1, 1) := by decide +kernel
theorem dX6_ahead_49 : decode cX6_ahead 49 = .ok (.invokevirtual 125, 3) := by decide +kernel
theorem dX6_ahead_52 : decode cX6_ahead 52 = .ok (.ifCond .ne 10, 3) := by decide +kernel
theorem dX6_ahead_55 : decode cX6_ahead 55 = .ok (.aload_n 0, 1) := by decide +kernel
theorem dX6_ahead_56 : decode cX6_ahead 56 = .ok (.bipush (-3), 2) := by decide +kernel
theorem dX6_ahead_58 : decode cX6_ahead 58 = .ok (.invokevirtual 90, 3) := by decide +kernel
theorem dX6_ahead_61 : decode cX6_ahead 61 = .ok (.ireturn, 1) := by decide +kernel
theorem dX6_ahead_62 : decode cX6_ahead 62 = .ok (.iload_n 3, 1) := by decide +kernel
theorem dX6_ahead_63 : decode cX6_ahead 63 = .ok (.ifCond .ne 13, 3) := by decide +kernel
theorem dX6_ahead_66 : decode cX6_ahead 66 = .ok (.aload 4, 2) := by decide +kernel
theorem dX6_ahead_68 : decode cX6_ahead 68 = .ok (.iload_n 1, 1) := by decide +kernel
theorem dX6_ahead_69 : decode cX6_ahead 69 = .ok (.iload_n 2, 1) := by decide +kernel
theorem dX6_ahead_70 : decode cX6_ahead 70 = .ok (.invokevirtual 128, 3) := by decide +kernel
theorem dX6_ahead_73 : decode cX6_ahead 73 = .ok (.goto 10, 3) := by decide +kernel
theorem dX6_ahead_76 : decode cX6_ahead 76 = .ok (.aload 4, 2) := by decide +kernel
theorem dX6_ahead_78 : decode cX6_ahead 78 = .ok (.iload_n 1, 1) := by decide +kernel
theorem dX6_ahead_79 : decode cX6_ahead 79 = .ok (.iload_n 2, 1) := by decide +kernel
theorem dX6_ahead_80 : decode cX6_ahead 80 = .ok (.invokevirtual 131, 3) := by decide +kernel
theorem dX6_ahead_83 : decode cX6_ahead 83 = .ok (.ireturn, 1) := by decide +kernel
set_option maxRecDepth 20000 in
theorem ggX6_reached_X6_within : GoodIn wsX6_reached wsX6_within := goodIn_r _ [5] (by decide +kernel) (by decide +kernel)
set_option maxRecDepth 20000 in
theorem gX6_reached_X6_within : GoodIn wsX6_reached (va_wsS RX6 86 yX6_within wsX6_within) := goodIn_app (goodIn_of _ (by decide +kernel)) ggX6_reached_X6_within
set_option maxRecDepth 20000 in
theorem ggX6_reached_X6_counted : GoodIn wsX6_reached wsX6_counted := goodIn_r _ [9, 10, 11, 12, 86, 87, 88, 89, 90, 91, 92, 93, 94, 95, 96, 97, 98] (by decide +kernel) (by decide +kernel)
set_option maxRecDepth 20000 in
theorem gX6_reached_X6_counted : GoodIn wsX6_reached (wsV RX6 90 RX6 yX6_counted wsX6_counted) := goodIn_app (goodIn_of _ (by decide +kernel)) ggX6_reached_X6_counted
set_option maxRecDepth 20000 in
theorem ggX6_reached_X6_flowNow : GoodIn wsX6_reached wsX6_flowNow := goodIn_r _ [16, 17, 18, 1, 19, 20, 21, 22, 23, 24, 25, 26, 27, 28, 29, 30, 31, 32, 33, 34, 35, 36, 37, 38, 39, 40, 41, 42, 43, 44, 45, 46, 47, 48, 49, 50, 51, 52, 53, 54, 55, 56, 57, 58, 59, 60, 61, 62, 63, 64, 65, 66, 67, 68, 69, 70, 71, 72, 73, 74, 75, 76, 77, 78, 79, 80, 4, 81, 86, 87, 88, 89, 90, 91, 92, 93, 94, 95, 96, 97, 98, 99, 100, 101, 102, 103, 104, 105, 106, 107, 108, 109] (by decide +kernel) (by decide +kernel)
set_option maxRecDepth 20000 in
theorem gX6_reached_X6_flowNow : GoodIn wsX6_reached (wsV RX6 121 RX6 yX6_flowNow wsX6_flowNow) := goodIn_app (goodIn_of _ (by decide +kernel)) ggX6_reached_X6_flowNow
set_option maxRecDepth 20000 in
theorem ggX6_reached_X0_comesTo : GoodIn wsX6_reached wsX0_comesTo := goodIn_r _ [85, 25, 104, 105, 106, 107, 108, 109] (by decide +kernel) (by decide +kernel)
set_option maxRecDepth 20000 in
theorem gX6_reached_X0_comesTo : GoodIn wsX6_reached (wsV RX6 125 RX0 yX0_comesTo wsX0_comesTo) := goodIn_app (goodIn_of _ (by decide +kernel)) ggX6_reached_X0_comesTo
theorem dX6_reached_0 : decode cX6_reached 0 = .ok (.iload_n 1, 1) := by decide +kernel
theorem dX6_reached_1 : decode cX6_reached 1 = .ok (.aload_n 0, 1) := by decide +kernel
theorem dX6_reached_2 : decode cX6_reached 2 = .ok (.getfield 12, 3) := by decide +kernel
theorem dX6_reached_5 : decode cX6_reached 5 = .ok (.getfield 118, 3) := by decide +kernel
theorem dX6_reached_8 : decode cX6_reached 8 = .ok (.iconst 1, 1) := by decide +kernel
theorem dX6_reached_9 : decode cX6_reached 9 = .ok (.iadd, 1) := by decide +kernel
theorem dX6_reached_10 : decode cX6_reached 10 = .ok (.invokestatic 86, 3) := by decide +kernel
theorem dX6_reached_13 : decode cX6_reached 13 = .ok (.ifCond .ne 10, 3) := by decide +kernel
theorem dX6_reached_16 : decode cX6_reached 16 = .ok (.aload_n 0, 1) := by decide +kernel
theorem dX6_reached_17 : decode cX6_reached 17 = .ok (.bipush (-2), 2) := by decide +kernel
theorem dX6_reached_19 : decode cX6_reached 19 = .ok (.invokevirtual 90, 3) := by decide +kernel
theorem dX6_reached_22 : decode cX6_reached 22 = .ok (.ireturn, 1) := by decide +kernel
theorem dX6_reached_23 : decode cX6_reached 23 = .ok (.aload_n 0, 1) := by decide +kernel
theorem dX6_reached_24 : decode cX6_reached 24 = .ok (.invokevirtual 121, 3) := by decide +kernel
theorem dX6_reached_27 : decode cX6_reached 27 = .ok (.iload_n 1, 1) := by decide +kernel
theorem dX6_reached_28 : decode cX6_reached 28 = .ok (.invokevirtual 125, 3) := by decide +kernel
theorem dX6_reached_31 : decode cX6_reached 31 = .ok (.ifCond .eq 7, 3) := by decide +kernel
theorem dX6_reached_34 : decode cX6_reached 34 = .ok (.iconst 1, 1) := by decide +kernel
theorem dX6_reached_35 : decode cX6_reached 35 = .ok (.goto 4, 3) := by decide +kernel
theorem dX6_reached_38 : decode cX6_reached 38 = .ok (.iconst 0, 1) := by decide +kernel
theorem dX6_reached_39 : decode cX6_reached 39 = .ok (.ireturn, 1) := by decide +kernel
set_option maxRecDepth 20000 in
theorem ggX6_alarm_X6_counted : GoodIn wsX6_alarm wsX6_counted := goodIn_r _ [6, 7, 8, 9, 91, 92, 93, 94, 95, 96, 97, 98, 99, 100, 101, 102, 103] (by decide +kernel) (by decide +kernel)
set_option maxRecDepth 20000 in
theorem gX6_alarm_X6_counted : GoodIn wsX6_alarm (wsV RX6 90 RX6 yX6_counted wsX6_counted) := goodIn_app (goodIn_of _ (by decide +kernel)) ggX6_alarm_X6_counted
set_option maxRecDepth 20000 in
theorem ggX6_alarm_X6_flowNow : GoodIn wsX6_alarm wsX6_flowNow := goodIn_r _ [13, 14, 15, 1, 16, 17, 18, 19, 20, 21, 22, 23, 24, 25, 26, 27, 28, 29, 30, 31, 32, 33, 34, 35, 36, 37, 38, 39, 40, 41, 42, 43, 44, 45, 46, 47, 48, 49, 50, 51, 52, 53, 54, 55, 56, 57, 58, 59, 60, 61, 62, 63, 64, 65, 66, 67, 68, 69, 70, 71, 72, 73, 74, 75, 76, 77, 5, 78, 91, 92, 93, 94, 95, 96, 97, 98, 99, 100, 101, 102, 103, 104, 105, 106, 107, 108, 109, 110, 111, 112, 113, 114] (by decide +kernel) (by decide +kernel)
set_option maxRecDepth 20000 in
theorem gX6_alarm_X6_flowNow : GoodIn wsX6_alarm (wsV RX6 121 RX6 yX6_flowNow wsX6_flowNow) := goodIn_app (goodIn_of _ (by decide +kernel)) ggX6_alarm_X6_flowNow
set_option maxRecDepth 20000 in
theorem ggX6_alarm_X0_alarmAt : GoodIn wsX6_alarm wsX0_alarmAt := goodIn_r _ [82, 83, 84, 85, 19, 86, 22, 43, 44, 45, 46, 47, 48, 87, 88, 89, 90, 28, 104, 105, 106, 107, 108, 109, 110, 111, 112, 113, 114] (by decide +kernel) (by decide +kernel)
set_option maxRecDepth 20000 in
theorem gX6_alarm_X0_alarmAt : GoodIn wsX6_alarm (wsV RX6 134 RX0 yX0_alarmAt wsX0_alarmAt) := goodIn_app (goodIn_of _ (by decide +kernel)) ggX6_alarm_X0_alarmAt
theorem dX6_alarm_0 : decode cX6_alarm 0 = .ok (.iload_n 1, 1) := by decide +kernel
theorem dX6_alarm_1 : decode cX6_alarm 1 = .ok (.ifCond .ge 10, 3) := by decide +kernel
theorem dX6_alarm_4 : decode cX6_alarm 4 = .ok (.aload_n 0, 1) := by decide +kernel
theorem dX6_alarm_5 : decode cX6_alarm 5 = .ok (.bipush (-2), 2) := by decide +kernel
theorem dX6_alarm_7 : decode cX6_alarm 7 = .ok (.invokevirtual 90, 3) := by decide +kernel
theorem dX6_alarm_10 : decode cX6_alarm 10 = .ok (.ireturn, 1) := by decide +kernel
theorem dX6_alarm_11 : decode cX6_alarm 11 = .ok (.aload_n 0, 1) := by decide +kernel
theorem dX6_alarm_12 : decode cX6_alarm 12 = .ok (.invokevirtual 121, 3) := by decide +kernel
theorem dX6_alarm_15 : decode cX6_alarm 15 = .ok (.aload_n 0, 1) := by decide +kernel
theorem dX6_alarm_16 : decode cX6_alarm 16 = .ok (.getfield 12, 3) := by decide +kernel
theorem dX6_alarm_19 : decode cX6_alarm 19 = .ok (.iload_n 1, 1) := by decide +kernel
theorem dX6_alarm_20 : decode cX6_alarm 20 = .ok (.invokevirtual 134, 3) := by decide +kernel
theorem dX6_alarm_23 : decode cX6_alarm 23 = .ok (.ireturn, 1) := by decide +kernel
set_option maxRecDepth 20000 in
theorem ggX6_accepted_X6_flowNow : GoodIn wsX6_accepted wsX6_flowNow := goodIn_r _ [6, 7, 8, 1, 9, 10, 11, 12, 13, 14, 15, 16, 17, 18, 19, 20, 21, 22, 23, 24, 25, 26, 27, 28, 29, 30, 31, 32, 33, 34, 35, 36, 37, 38, 39, 40, 41, 42, 43, 44, 45, 46, 47, 48, 49, 50, 51, 52, 53, 54, 55, 56, 57, 58, 59, 60, 61, 62, 63, 64, 65, 66, 67, 68, 69, 70, 5, 71, 88, 89, 90, 91, 92, 93, 94, 95, 96, 97, 98, 99, 100, 101, 102, 103, 104, 105, 106, 107, 108, 109, 110, 111] (by decide +kernel) (by decide +kernel)
set_option maxRecDepth 20000 in
theorem gX6_accepted_X6_flowNow : GoodIn wsX6_accepted (wsV RX6 121 RX6 yX6_flowNow wsX6_flowNow) := goodIn_app (goodIn_of _ (by decide +kernel)) ggX6_accepted_X6_flowNow
set_option maxRecDepth 20000 in
theorem ggX6_accepted_X0_accepts : GoodIn wsX6_accepted wsX0_accepts := goodIn_r _ [75, 76, 77, 78, 12, 79, 80, 81, 82, 83, 15, 36, 37, 38, 39, 40, 41, 84, 85, 86, 87, 21, 101, 102, 103, 104, 105, 106, 107, 108, 109, 110, 111] (by decide +kernel) (by decide +kernel)
set_option maxRecDepth 20000 in
theorem gX6_accepted_X0_accepts : GoodIn wsX6_accepted (wsV RX6 138 RX0 yX0_accepts wsX0_accepts) := goodIn_app (goodIn_of _ (by decide +kernel)) ggX6_accepted_X0_accepts
theorem dX6_accepted_0 : decode cX6_accepted 0 = .ok (.aload_n 0, 1) := by decide +kernel
theorem dX6_accepted_1 : decode cX6_accepted 1 = .ok (.invokevirtual 121, 3) := by decide +kernel
theorem dX6_accepted_4 : decode cX6_accepted 4 = .ok (.aload_n 0, 1) := by decide +kernel
theorem dX6_accepted_5 : decode cX6_accepted 5 = .ok (.getfield 12, 3) := by decide +kernel
theorem dX6_accepted_8 : decode cX6_accepted 8 = .ok (.invokevirtual 138, 3) := by decide +kernel
theorem dX6_accepted_11 : decode cX6_accepted 11 = .ok (.ireturn, 1) := by decide +kernel
set_option maxRecDepth 20000 in
theorem ggX6_of_X6_within : GoodIn wsX6_of wsX6_within := goodIn_r _ [5] (by decide +kernel) (by decide +kernel)
set_option maxRecDepth 20000 in
theorem gX6_of_X6_within : GoodIn wsX6_of (va_wsS RX6 86 yX6_within wsX6_within) := goodIn_app (goodIn_of _ (by decide +kernel)) ggX6_of_X6_within
set_option maxRecDepth 20000 in
theorem ggX6_of_X6_counted : GoodIn wsX6_of wsX6_counted := goodIn_r _ [9, 10, 11, 12, 19, 20, 21, 22, 23, 24, 25, 26, 27, 28, 29, 30, 31] (by decide +kernel) (by decide +kernel)
set_option maxRecDepth 20000 in
theorem gX6_of_X6_counted : GoodIn wsX6_of (wsV RX6 90 RX6 yX6_counted wsX6_counted) := goodIn_app (goodIn_of _ (by decide +kernel)) ggX6_of_X6_counted
set_option maxRecDepth 20000 in
theorem ggX6_of_X2_partOf : GoodIn wsX6_of wsX2_partOf := goodIn_r _ [17, 18, 32, 33, 34, 35, 36] (by decide +kernel) (by decide +kernel)
set_option maxRecDepth 20000 in
theorem gX6_of_X2_partOf : GoodIn wsX6_of (wsV RX6 142 RX2 yX2_partOf wsX2_partOf) := goodIn_app (goodIn_of _ (by decide +kernel)) ggX6_of_X2_partOf
theorem dX6_of_0 : decode cX6_of 0 = .ok (.iload_n 1, 1) := by decide +kernel
theorem dX6_of_1 : decode cX6_of 1 = .ok (.aload_n 0, 1) := by decide +kernel
theorem dX6_of_2 : decode cX6_of 2 = .ok (.getfield 12, 3) := by decide +kernel
theorem dX6_of_5 : decode cX6_of 5 = .ok (.getfield 118, 3) := by decide +kernel
theorem dX6_of_8 : decode cX6_of 8 = .ok (.invokestatic 86, 3) := by decide +kernel
theorem dX6_of_11 : decode cX6_of 11 = .ok (.ifCond .eq 11, 3) := by decide +kernel
theorem dX6_of_14 : decode cX6_of 14 = .ok (.iload_n 2, 1) := by decide +kernel
theorem dX6_of_15 : decode cX6_of 15 = .ok (.iconst 4, 1) := by decide +kernel
theorem dX6_of_16 : decode cX6_of 16 = .ok (.invokestatic 86, 3) := by decide +kernel
theorem dX6_of_19 : decode cX6_of 19 = .ok (.ifCond .ne 10, 3) := by decide +kernel
theorem dX6_of_22 : decode cX6_of 22 = .ok (.aload_n 0, 1) := by decide +kernel
theorem dX6_of_23 : decode cX6_of 23 = .ok (.bipush (-2), 2) := by decide +kernel
theorem dX6_of_25 : decode cX6_of 25 = .ok (.invokevirtual 90, 3) := by decide +kernel
theorem dX6_of_28 : decode cX6_of 28 = .ok (.ireturn, 1) := by decide +kernel
theorem dX6_of_29 : decode cX6_of 29 = .ok (.aload_n 0, 1) := by decide +kernel
theorem dX6_of_30 : decode cX6_of 30 = .ok (.getfield 12, 3) := by decide +kernel
theorem dX6_of_33 : decode cX6_of 33 = .ok (.iload_n 1, 1) := by decide +kernel
theorem dX6_of_34 : decode cX6_of 34 = .ok (.iload_n 2, 1) := by decide +kernel
theorem dX6_of_35 : decode cX6_of 35 = .ok (.invokevirtual 142, 3) := by decide +kernel
theorem dX6_of_38 : decode cX6_of 38 = .ok (.ireturn, 1) := by decide +kernel
set_option maxRecDepth 20000 in
theorem ggX6_told_X6_within : GoodIn wsX6_told wsX6_within := goodIn_r _ [5] (by decide +kernel) (by decide +kernel)
set_option maxRecDepth 20000 in
theorem gX6_told_X6_within : GoodIn wsX6_told (va_wsS RX6 86 yX6_within wsX6_within) := goodIn_app (goodIn_of _ (by decide +kernel)) ggX6_told_X6_within
set_option maxRecDepth 20000 in
theorem ggX6_told_X6_counted : GoodIn wsX6_told wsX6_counted := goodIn_r _ [9, 10, 11, 12, 22, 23, 24, 25, 26, 27, 28, 29, 30, 31, 32, 33, 34] (by decide +kernel) (by decide +kernel)
set_option maxRecDepth 20000 in
theorem gX6_told_X6_counted : GoodIn wsX6_told (wsV RX6 90 RX6 yX6_counted wsX6_counted) := goodIn_app (goodIn_of _ (by decide +kernel)) ggX6_told_X6_counted
set_option maxRecDepth 20000 in
theorem ggX6_told_X2_fact : GoodIn wsX6_told wsX2_fact := goodIn_r _ [17, 18, 19, 20, 21, 35, 36, 37, 38, 39] (by decide +kernel) (by decide +kernel)
set_option maxRecDepth 20000 in
theorem gX6_told_X2_fact : GoodIn wsX6_told (wsV RX6 145 RX2 yX2_fact wsX2_fact) := goodIn_app (goodIn_of _ (by decide +kernel)) ggX6_told_X2_fact
theorem dX6_told_0 : decode cX6_told 0 = .ok (.iload_n 1, 1) := by decide +kernel
theorem dX6_told_1 : decode cX6_told 1 = .ok (.bipush 24, 2) := by decide +kernel
theorem dX6_told_3 : decode cX6_told 3 = .ok (.invokestatic 86, 3) := by decide +kernel
theorem dX6_told_6 : decode cX6_told 6 = .ok (.ifCond .ne 10, 3) := by decide +kernel
theorem dX6_told_9 : decode cX6_told 9 = .ok (.aload_n 0, 1) := by decide +kernel
theorem dX6_told_10 : decode cX6_told 10 = .ok (.bipush (-2), 2) := by decide +kernel
theorem dX6_told_12 : decode cX6_told 12 = .ok (.invokevirtual 90, 3) := by decide +kernel
theorem dX6_told_15 : decode cX6_told 15 = .ok (.ireturn, 1) := by decide +kernel
theorem dX6_told_16 : decode cX6_told 16 = .ok (.aload_n 0, 1) := by decide +kernel
theorem dX6_told_17 : decode cX6_told 17 = .ok (.getfield 12, 3) := by decide +kernel
theorem dX6_told_20 : decode cX6_told 20 = .ok (.iload_n 1, 1) := by decide +kernel
theorem dX6_told_21 : decode cX6_told 21 = .ok (.invokevirtual 145, 3) := by decide +kernel
theorem dX6_told_24 : decode cX6_told 24 = .ok (.ireturn, 1) := by decide +kernel
set_option maxRecDepth 20000 in
theorem ggX6_type_X6_within : GoodIn wsX6_type wsX6_within := goodIn_r _ [5] (by decide +kernel) (by decide +kernel)
set_option maxRecDepth 20000 in
theorem gX6_type_X6_within : GoodIn wsX6_type (va_wsS RX6 86 yX6_within wsX6_within) := goodIn_app (goodIn_of _ (by decide +kernel)) ggX6_type_X6_within
set_option maxRecDepth 20000 in
theorem ggX6_type_X6_counted : GoodIn wsX6_type wsX6_counted := goodIn_r _ [9, 10, 11, 12, 20, 21, 22, 23, 24, 25, 26, 27, 28, 29, 30, 31, 32] (by decide +kernel) (by decide +kernel)
set_option maxRecDepth 20000 in
theorem gX6_type_X6_counted : GoodIn wsX6_type (wsV RX6 90 RX6 yX6_counted wsX6_counted) := goodIn_app (goodIn_of _ (by decide +kernel)) ggX6_type_X6_counted
set_option maxRecDepth 20000 in
theorem ggX6_type_X5_append : GoodIn wsX6_type wsX5_append := goodIn_r _ [17, 18, 19, 33, 34, 35, 36, 37, 38, 39, 40] (by decide +kernel) (by decide +kernel)
set_option maxRecDepth 20000 in
theorem gX6_type_X5_append : GoodIn wsX6_type (wsV RX6 148 RX5 yX5_append wsX5_append) := goodIn_app (goodIn_of _ (by decide +kernel)) ggX6_type_X5_append
theorem dX6_type_0 : decode cX6_type 0 = .ok (.iload_n 1, 1) := by decide +kernel
theorem dX6_type_1 : decode cX6_type 1 = .ok (.sipush 128, 3) := by decide +kernel
theorem dX6_type_4 : decode cX6_type 4 = .ok (.invokestatic 86, 3) := by decide +kernel
theorem dX6_type_7 : decode cX6_type 7 = .ok (.ifCond .ne 10, 3) := by decide +kernel
theorem dX6_type_10 : decode cX6_type 10 = .ok (.aload_n 0, 1) := by decide +kernel
theorem dX6_type_11 : decode cX6_type 11 = .ok (.bipush (-2), 2) := by decide +kernel
theorem dX6_type_13 : decode cX6_type 13 = .ok (.invokevirtual 90, 3) := by decide +kernel
theorem dX6_type_16 : decode cX6_type 16 = .ok (.ireturn, 1) := by decide +kernel
theorem dX6_type_17 : decode cX6_type 17 = .ok (.aload_n 0, 1) := by decide +kernel
theorem dX6_type_18 : decode cX6_type 18 = .ok (.getfield 29, 3) := by decide +kernel
theorem dX6_type_21 : decode cX6_type 21 = .ok (.iload_n 1, 1) := by decide +kernel
theorem dX6_type_22 : decode cX6_type 22 = .ok (.invokevirtual 148, 3) := by decide +kernel
theorem dX6_type_25 : decode cX6_type 25 = .ok (.istore_n 2, 1) := by decide +kernel
theorem dX6_type_26 : decode cX6_type 26 = .ok (.iload_n 2, 1) := by decide +kernel
theorem dX6_type_27 : decode cX6_type 27 = .ok (.ifCond .ge 11, 3) := by decide +kernel
theorem dX6_type_30 : decode cX6_type 30 = .ok (.aload_n 0, 1) := by decide +kernel
theorem dX6_type_31 : decode cX6_type 31 = .ok (.iload_n 2, 1) := by decide +kernel
theorem dX6_type_32 : decode cX6_type 32 = .ok (.invokevirtual 90, 3) := by decide +kernel
theorem dX6_type_35 : decode cX6_type 35 = .ok (.goto 4, 3) := by decide +kernel
theorem dX6_type_38 : decode cX6_type 38 = .ok (.iload_n 2, 1) := by decide +kernel
theorem dX6_type_39 : decode cX6_type 39 = .ok (.ireturn, 1) := by decide +kernel
set_option maxRecDepth 20000 in
theorem ggX6_clear_X5_empty : GoodIn wsX6_clear wsX5_empty := goodIn_r _ [6, 7, 21, 22, 23, 24, 25, 26, 27, 28] (by decide +kernel) (by decide +kernel)
set_option maxRecDepth 20000 in
theorem gX6_clear_X5_empty : GoodIn wsX6_clear (wsV RX6 151 RX5 yX5_empty wsX5_empty) := goodIn_app (goodIn_of _ (by decide +kernel)) ggX6_clear_X5_empty
theorem dX6_clear_0 : decode cX6_clear 0 = .ok (.aload_n 0, 1) := by decide +kernel
theorem dX6_clear_1 : decode cX6_clear 1 = .ok (.getfield 29, 3) := by decide +kernel
theorem dX6_clear_4 : decode cX6_clear 4 = .ok (.invokevirtual 151, 3) := by decide +kernel
theorem dX6_clear_7 : decode cX6_clear 7 = .ok (.ireturn, 1) := by decide +kernel
set_option maxRecDepth 20000 in
theorem ggX6_does_X5_read : GoodIn wsX6_does wsX5_read := goodIn_r _ [8, 9, 10, 11, 12, 13, 14, 15, 7, 16, 17, 18, 19, 20, 21, 22, 23, 24, 25, 26, 27, 28, 29, 30, 31, 32, 33, 34, 35, 126, 127, 128, 129, 130, 131, 132, 133] (by decide +kernel) (by decide +kernel)
set_option maxRecDepth 20000 in
theorem gX6_does_X5_read : GoodIn wsX6_does (wsV RX6 155 RX5 yX5_read wsX5_read) := goodIn_app (goodIn_of _ (by decide +kernel)) ggX6_does_X5_read
set_option maxRecDepth 20000 in
theorem ggX6_does_X2_copyFrom : GoodIn wsX6_does wsX2_copyFrom := goodIn_r _ [40, 41, 42, 43, 44, 45, 46, 47, 48, 49, 134, 135, 136, 137, 138] (by decide +kernel) (by decide +kernel)
set_option maxRecDepth 20000 in
theorem gX6_does_X2_copyFrom : GoodIn wsX6_does (wsV RX6 158 RX2 yX2_copyFrom wsX2_copyFrom) := goodIn_app (goodIn_of _ (by decide +kernel)) ggX6_does_X2_copyFrom
set_option maxRecDepth 20000 in
theorem ggX6_does_X5_giveOrder : GoodIn wsX6_does wsX5_giveOrder := goodIn_r _ [53, 35, 22, 54, 55, 56, 39, 57, 48, 41, 58, 59, 60, 61, 62, 63, 64, 65, 66, 67, 68, 69, 70, 71, 72, 73, 74, 46, 75, 76, 77, 78, 47, 79, 80, 81, 82, 49, 83, 84, 85, 86, 87, 88, 89, 126, 127, 128, 129, 130, 131, 132, 133, 134, 135, 136, 137, 138] (by decide +kernel) (by decide +kernel)
set_option maxRecDepth 20000 in
theorem gX6_does_X5_giveOrder : GoodIn wsX6_does (wsV RX6 165 RX5 yX5_giveOrder wsX5_giveOrder) := goodIn_app (goodIn_of _ (by decide +kernel)) ggX6_does_X5_giveOrder
set_option maxRecDepth 20000 in
theorem ggX6_does_X6_adoptSketch : GoodIn wsX6_does wsX6_adoptSketch := goodIn_r _ [93, 94, 3, 2, 95, 96, 97, 98, 99, 100, 101, 102, 103, 104, 105, 106, 37, 38, 39, 40, 41, 42, 43, 44, 45, 46, 47, 48, 49, 36, 107, 108, 109, 62, 110, 111, 112, 113, 114, 115, 116, 117, 118, 119, 120, 121, 122, 123, 124, 125, 139, 140, 141, 134, 135, 136, 137, 138] (by decide +kernel) (by decide +kernel)
set_option maxRecDepth 20000 in
theorem gX6_does_X6_adoptSketch : GoodIn wsX6_does (wsV RX6 169 RX6 yX6_adoptSketch wsX6_adoptSketch) := goodIn_app (goodIn_of _ (by decide +kernel)) ggX6_does_X6_adoptSketch
theorem dX6_does_0 : decode cX6_does 0 = .ok (.aload_n 0, 1) := by decide +kernel
theorem dX6_does_1 : decode cX6_does 1 = .ok (.getfield 29, 3) := by decide +kernel
theorem dX6_does_4 : decode cX6_does 4 = .ok (.invokevirtual 155, 3) := by decide +kernel
theorem dX6_does_7 : decode cX6_does 7 = .ok (.istore_n 1, 1) := by decide +kernel
theorem dX6_does_8 : decode cX6_does 8 = .ok (.iload_n 1, 1) := by decide +kernel
theorem dX6_does_9 : decode cX6_does 9 = .ok (.iconst (-1), 1) := by decide +kernel
theorem dX6_does_10 : decode cX6_does 10 = .ok (.if_icmp .eq 8, 3) := by decide +kernel
theorem dX6_does_13 : decode cX6_does 13 = .ok (.bipush (-10), 2) := by decide +kernel
theorem dX6_does_15 : decode cX6_does 15 = .ok (.iload_n 1, 1) := by decide +kernel
theorem dX6_does_16 : decode cX6_does 16 = .ok (.isub, 1) := by decide +kernel
theorem dX6_does_17 : decode cX6_does 17 = .ok (.ireturn, 1) := by decide +kernel
theorem dX6_does_18 : decode cX6_does 18 = .ok (.aload_n 0, 1) := by decide +kernel
theorem dX6_does_19 : decode cX6_does 19 = .ok (.getfield 16, 3) := by decide +kernel
theorem dX6_does_22 : decode cX6_does 22 = .ok (.aload_n 0, 1) := by decide +kernel
theorem dX6_does_23 : decode cX6_does 23 = .ok (.getfield 12, 3) := by decide +kernel
theorem dX6_does_26 : decode cX6_does 26 = .ok (.invokevirtual 158, 3) := by decide +kernel
theorem dX6_does_29 : decode cX6_does 29 = .ok (.iconst 0, 1) := by decide +kernel
theorem dX6_does_30 : decode cX6_does 30 = .ok (.istore_n 2, 1) := by decide +kernel
theorem dX6_does_31 : decode cX6_does 31 = .ok (.iload_n 2, 1) := by decide +kernel
theorem dX6_does_32 : decode cX6_does 32 = .ok (.aload_n 0, 1) := by decide +kernel
theorem dX6_does_33 : decode cX6_does 33 = .ok (.getfield 29, 3) := by decide +kernel
theorem dX6_does_36 : decode cX6_does 36 = .ok (.getfield 162, 3) := by decide +kernel
theorem dX6_does_39 : decode cX6_does 39 = .ok (.if_icmp .ge 30, 3) := by decide +kernel
theorem dX6_does_42 : decode cX6_does 42 = .ok (.aload_n 0, 1) := by decide +kernel
theorem dX6_does_43 : decode cX6_does 43 = .ok (.getfield 29, 3) := by decide +kernel
theorem dX6_does_46 : decode cX6_does 46 = .ok (.iload_n 2, 1) := by decide +kernel
theorem dX6_does_47 : decode cX6_does 47 = .ok (.aload_n 0, 1) := by decide +kernel
theorem dX6_does_48 : decode cX6_does 48 = .ok (.getfield 16, 3) := by decide +kernel
theorem dX6_does_51 : decode cX6_does 51 = .ok (.invokevirtual 165, 3) := by decide +kernel
theorem dX6_does_54 : decode cX6_does 54 = .ok (.ifCond .ge 9, 3) := by decide +kernel
theorem dX6_does_57 : decode cX6_does 57 = .ok (.sipush (-1000), 3) := by decide +kernel
theorem dX6_does_60 : decode cX6_does 60 = .ok (.iload_n 2, 1) := by decide +kernel
theorem dX6_does_61 : decode cX6_does 61 = .ok (.isub, 1) := by decide +kernel
theorem dX6_does_62 : decode cX6_does 62 = .ok (.ireturn, 1) := by decide +kernel
theorem dX6_does_63 : decode cX6_does 63 = .ok (.iinc 2 1, 3) := by decide +kernel
theorem dX6_does_66 : decode cX6_does 66 = .ok (.goto (-35), 3) := by decide +kernel
theorem dX6_does_69 : decode cX6_does 69 = .ok (.aload_n 0, 1) := by decide +kernel
theorem dX6_does_70 : decode cX6_does 70 = .ok (.invokevirtual 169, 3) := by decide +kernel
theorem dX6_does_73 : decode cX6_does 73 = .ok (.aload_n 0, 1) := by decide +kernel
theorem dX6_does_74 : decode cX6_does 74 = .ok (.getfield 29, 3) := by decide +kernel
theorem dX6_does_77 : decode cX6_does 77 = .ok (.getfield 162, 3) := by decide +kernel
theorem dX6_does_80 : decode cX6_does 80 = .ok (.ireturn, 1) := by decide +kernel
set_option maxRecDepth 20000 in
theorem ggX6_back_X6_counted : GoodIn wsX6_back wsX6_counted := goodIn_r _ [7, 8, 9, 10, 42, 43, 44, 45, 46, 47, 48, 49, 50, 51, 52, 53, 54] (by decide +kernel) (by decide +kernel)
set_option maxRecDepth 20000 in
theorem gX6_back_X6_counted : GoodIn wsX6_back (wsV RX6 90 RX6 yX6_counted wsX6_counted) := goodIn_app (goodIn_of _ (by decide +kernel)) ggX6_back_X6_counted
set_option maxRecDepth 20000 in
theorem ggX6_back_X1_restore : GoodIn wsX6_back wsX1_restore := goodIn_r _ [15, 16, 17, 18, 19, 20, 14, 21, 22, 23, 24, 25, 26, 27, 28, 29, 30, 31, 32, 33, 34, 35, 55, 56, 57, 58, 59, 60, 61, 62] (by decide +kernel) (by decide +kernel)
set_option maxRecDepth 20000 in
theorem gX6_back_X1_restore : GoodIn wsX6_back (wsV RX6 175 RX1 yX1_restore wsX1_restore) := goodIn_app (goodIn_of _ (by decide +kernel)) ggX6_back_X1_restore
set_option maxRecDepth 20000 in
theorem ggX6_back_X6_forget : GoodIn wsX6_back wsX6_forget := goodIn_r _ [39, 40, 41, 42, 43, 44, 45, 46, 47, 48, 49, 50, 51, 52, 53, 54] (by decide +kernel) (by decide +kernel)
set_option maxRecDepth 20000 in
theorem gX6_back_X6_forget : GoodIn wsX6_back (wsV RX6 178 RX6 yX6_forget wsX6_forget) := goodIn_app (goodIn_of _ (by decide +kernel)) ggX6_back_X6_forget
theorem dX6_back_0 : decode cX6_back 0 = .ok (.aload_n 0, 1) := by decide +kernel
theorem dX6_back_1 : decode cX6_back 1 = .ok (.getfield 22, 3) := by decide +kernel
theorem dX6_back_4 : decode cX6_back 4 = .ok (.getfield 172, 3) := by decide +kernel
theorem dX6_back_7 : decode cX6_back 7 = .ok (.ifCond .ne 10, 3) := by decide +kernel
theorem dX6_back_10 : decode cX6_back 10 = .ok (.aload_n 0, 1) := by decide +kernel
theorem dX6_back_11 : decode cX6_back 11 = .ok (.bipush (-3), 2) := by decide +kernel
theorem dX6_back_13 : decode cX6_back 13 = .ok (.invokevirtual 90, 3) := by decide +kernel
theorem dX6_back_16 : decode cX6_back 16 = .ok (.ireturn, 1) := by decide +kernel
theorem dX6_back_17 : decode cX6_back 17 = .ok (.aload_n 0, 1) := by decide +kernel
theorem dX6_back_18 : decode cX6_back 18 = .ok (.getfield 22, 3) := by decide +kernel
theorem dX6_back_21 : decode cX6_back 21 = .ok (.aload_n 0, 1) := by decide +kernel
theorem dX6_back_22 : decode cX6_back 22 = .ok (.getfield 12, 3) := by decide +kernel
theorem dX6_back_25 : decode cX6_back 25 = .ok (.invokevirtual 175, 3) := by decide +kernel
theorem dX6_back_28 : decode cX6_back 28 = .ok (.aload_n 0, 1) := by decide +kernel
theorem dX6_back_29 : decode cX6_back 29 = .ok (.invokevirtual 178, 3) := by decide +kernel
theorem dX6_back_32 : decode cX6_back 32 = .ok (.aload_n 0, 1) := by decide +kernel
theorem dX6_back_33 : decode cX6_back 33 = .ok (.getfield 22, 3) := by decide +kernel
theorem dX6_back_36 : decode cX6_back 36 = .ok (.getfield 172, 3) := by decide +kernel
theorem dX6_back_39 : decode cX6_back 39 = .ok (.ireturn, 1) := by decide +kernel
set_option maxRecDepth 20000 in
theorem ggX6_refused_X6_within : GoodIn wsX6_refused wsX6_within := goodIn_r _ [4] (by decide +kernel) (by decide +kernel)
set_option maxRecDepth 20000 in
theorem gX6_refused_X6_within : GoodIn wsX6_refused (va_wsS RX6 86 yX6_within wsX6_within) := goodIn_app (goodIn_of _ (by decide +kernel)) ggX6_refused_X6_within
set_option maxRecDepth 20000 in
theorem ggX6_refused_X6_counted : GoodIn wsX6_refused wsX6_counted := goodIn_r _ [8, 9, 10, 11, 18, 19, 20, 21, 22, 23, 24, 25, 26, 27, 28, 29, 30] (by decide +kernel) (by decide +kernel)
set_option maxRecDepth 20000 in
theorem gX6_refused_X6_counted : GoodIn wsX6_refused (wsV RX6 90 RX6 yX6_counted wsX6_counted) := goodIn_app (goodIn_of _ (by decide +kernel)) ggX6_refused_X6_counted
set_option maxRecDepth 20000 in
theorem ggX6_refused_X6_tally : GoodIn wsX6_refused wsX6_tally := goodIn_r _ [15, 9, 10, 11, 16, 17, 18, 19, 20, 21, 22, 23, 24, 25, 26, 27, 28, 29, 30, 31, 32, 33, 34, 35, 36, 37, 38, 39, 40, 41] (by decide +kernel) (by decide +kernel)
set_option maxRecDepth 20000 in
theorem gX6_refused_X6_tally : GoodIn wsX6_refused (wsV RX6 181 RX6 yX6_tally wsX6_tally) := goodIn_app (goodIn_of _ (by decide +kernel)) ggX6_refused_X6_tally
theorem dX6_refused_0 : decode cX6_refused 0 = .ok (.iload_n 1, 1) := by decide +kernel
theorem dX6_refused_1 : decode cX6_refused 1 = .ok (.iconst 5, 1) := by decide +kernel
theorem dX6_refused_2 : decode cX6_refused 2 = .ok (.invokestatic 86, 3) := by decide +kernel
theorem dX6_refused_5 : decode cX6_refused 5 = .ok (.ifCond .ne 10, 3) := by decide +kernel
theorem dX6_refused_8 : decode cX6_refused 8 = .ok (.aload_n 0, 1) := by decide +kernel
theorem dX6_refused_9 : decode cX6_refused 9 = .ok (.bipush (-2), 2) := by decide +kernel
theorem dX6_refused_11 : decode cX6_refused 11 = .ok (.invokevirtual 90, 3) := by decide +kernel
theorem dX6_refused_14 : decode cX6_refused 14 = .ok (.ireturn, 1) := by decide +kernel
theorem dX6_refused_15 : decode cX6_refused 15 = .ok (.aload_n 0, 1) := by decide +kernel
theorem dX6_refused_16 : decode cX6_refused 16 = .ok (.iload_n 1, 1) := by decide +kernel
theorem dX6_refused_17 : decode cX6_refused 17 = .ok (.invokevirtual 181, 3) := by decide +kernel
theorem dX6_refused_20 : decode cX6_refused 20 = .ok (.ireturn, 1) := by decide +kernel
set_option maxRecDepth 20000 in
theorem ggX6_digest_X6_tally : GoodIn wsX6_digest wsX6_tally := goodIn_r _ [9, 10, 11, 12, 13, 14, 187, 188, 189, 190, 191, 192, 193, 194, 195, 196, 197, 198, 199, 208, 209, 210, 211, 212, 213, 214, 215, 216, 217, 218] (by decide +kernel) (by decide +kernel)
set_option maxRecDepth 20000 in
theorem gX6_digest_X6_tally : GoodIn wsX6_digest (wsV RX6 181 RX6 yX6_tally wsX6_tally) := goodIn_app (goodIn_of _ (by decide +kernel)) ggX6_digest_X6_tally
set_option maxRecDepth 20000 in
theorem ggX6_digest_X2_mixInto : GoodIn wsX6_digest wsX2_mixInto := goodIn_r _ [19, 20, 21, 22, 23, 24, 25, 18, 26, 27, 28, 29, 200, 201, 202, 203, 204] (by decide +kernel) (by decide +kernel)
set_option maxRecDepth 20000 in
theorem gX6_digest_X2_mixInto : GoodIn wsX6_digest (wsV RX6 188 RX2 yX2_mixInto wsX2_mixInto) := goodIn_app (goodIn_of _ (by decide +kernel)) ggX6_digest_X2_mixInto
set_option maxRecDepth 20000 in
theorem ggX6_digest_X6_flowNow : GoodIn wsX6_digest wsX6_flowNow := goodIn_r _ [33, 34, 35, 3, 36, 37, 38, 39, 40, 41, 42, 43, 44, 45, 46, 47, 48, 49, 50, 51, 52, 53, 54, 55, 56, 57, 58, 59, 60, 61, 62, 63, 64, 65, 18, 66, 22, 67, 68, 69, 70, 71, 72, 73, 74, 75, 76, 77, 78, 79, 80, 81, 82, 83, 84, 85, 86, 87, 88, 89, 90, 91, 92, 93, 94, 95, 8, 96, 187, 188, 189, 190, 191, 192, 193, 194, 195, 196, 197, 198, 199, 200, 201, 202, 203, 204, 219, 220, 221, 222, 223, 224] (by decide +kernel) (by decide +kernel)
set_option maxRecDepth 20000 in
theorem gX6_digest_X6_flowNow : GoodIn wsX6_digest (wsV RX6 121 RX6 yX6_flowNow wsX6_flowNow) := goodIn_app (goodIn_of _ (by decide +kernel)) ggX6_digest_X6_flowNow
set_option maxRecDepth 20000 in
theorem ggX6_digest_X0_mixInto : GoodIn wsX6_digest wsX0_mixInto := goodIn_r _ [100, 42, 101, 102, 103, 104, 39, 105, 48, 106, 107, 108, 109, 47, 219, 220, 221, 222, 223, 224] (by decide +kernel) (by decide +kernel)
set_option maxRecDepth 20000 in
theorem gX6_digest_X0_mixInto : GoodIn wsX6_digest (wsV RX6 192 RX0 yX0_mixInto wsX0_mixInto) := goodIn_app (goodIn_of _ (by decide +kernel)) ggX6_digest_X0_mixInto
set_option maxRecDepth 20000 in
theorem ggX6_digest_X0_accepts : GoodIn wsX6_digest wsX0_accepts := goodIn_r _ [113, 114, 115, 116, 39, 117, 118, 119, 120, 121, 42, 63, 64, 65, 18, 66, 22, 102, 103, 104, 105, 48, 200, 201, 202, 203, 204, 219, 220, 221, 222, 223, 224] (by decide +kernel) (by decide +kernel)
set_option maxRecDepth 20000 in
theorem gX6_digest_X0_accepts : GoodIn wsX6_digest (wsV RX6 138 RX0 yX0_accepts wsX0_accepts) := goodIn_app (goodIn_of _ (by decide +kernel)) ggX6_digest_X0_accepts
set_option maxRecDepth 20000 in
theorem ggX6_digest_X6_surveyNow : GoodIn wsX6_digest wsX6_surveyNow := goodIn_r _ [125, 126, 127, 3, 4, 128, 129, 130, 131, 132, 133, 134, 135, 60, 61, 62, 136, 137, 138, 18, 139, 27, 140, 141, 142, 143, 144, 145, 146, 147, 148, 149, 150, 151, 152, 153, 154, 155, 156, 157, 158, 159, 160, 161, 162, 163, 164, 165, 166, 167, 168, 95, 8, 96, 169, 170, 171, 172, 173, 174, 175, 176, 177, 178, 179, 180, 181, 187, 188, 189, 190, 191, 192, 193, 194, 195, 196, 197, 198, 199, 205, 206, 207, 200, 201, 202, 203, 204, 225, 226, 227, 228, 229] (by decide +kernel) (by decide +kernel)
set_option maxRecDepth 20000 in
theorem gX6_digest_X6_surveyNow : GoodIn wsX6_digest (wsV RX6 107 RX6 yX6_surveyNow wsX6_surveyNow) := goodIn_app (goodIn_of _ (by decide +kernel)) ggX6_digest_X6_surveyNow
set_option maxRecDepth 20000 in
theorem ggX6_digest_X3_follow : GoodIn wsX6_digest wsX3_follow := goodIn_r _ [151, 152, 153, 154, 155, 156, 150, 157, 158, 159, 160, 161, 162, 163, 164, 165, 166, 167, 168, 95, 8, 96, 225, 226, 227, 228, 229, 200, 201, 202, 203, 204] (by decide +kernel) (by decide +kernel)
set_option maxRecDepth 20000 in
theorem gX6_digest_X3_follow : GoodIn wsX6_digest (wsV RX6 93 RX3 yX3_follow wsX3_follow) := goodIn_app (goodIn_of _ (by decide +kernel)) ggX6_digest_X3_follow
set_option maxRecDepth 20000 in
theorem ggX6_digest_X3_outcome : GoodIn wsX6_digest wsX3_outcome := goodIn_r _ [186, 152, 153, 158, 159, 225, 226, 227, 228, 229] (by decide +kernel) (by decide +kernel)
set_option maxRecDepth 20000 in
theorem gX6_digest_X3_outcome : GoodIn wsX6_digest (wsV RX6 97 RX3 yX3_outcome wsX3_outcome) := goodIn_app (goodIn_of _ (by decide +kernel)) ggX6_digest_X3_outcome
theorem dX6_digest_0 : decode cX6_digest 0 = .ok (.ldc2_w 184, 3) := by decide +kernel
theorem dX6_digest_3 : decode cX6_digest 3 = .ok (.lstore_n 1, 1) := by decide +kernel
theorem dX6_digest_4 : decode cX6_digest 4 = .ok (.iconst 0, 1) := by decide +kernel
theorem dX6_digest_5 : decode cX6_digest 5 = .ok (.istore_n 3, 1) := by decide +kernel
theorem dX6_digest_6 : decode cX6_digest 6 = .ok (.iload_n 3, 1) := by decide +kernel
theorem dX6_digest_7 : decode cX6_digest 7 = .ok (.iconst 5, 1) := by decide +kernel
theorem dX6_digest_8 : decode cX6_digest 8 = .ok (.if_icmp .ge 22, 3) := by decide +kernel
theorem dX6_digest_11 : decode cX6_digest 11 = .ok (.ldc2_w 186, 3) := by decide +kernel
theorem dX6_digest_14 : decode cX6_digest 14 = .ok (.lload_n 1, 1) := by decide +kernel
theorem dX6_digest_15 : decode cX6_digest 15 = .ok (.lmul, 1) := by decide +kernel
theorem dX6_digest_16 : decode cX6_digest 16 = .ok (.aload_n 0, 1) := by decide +kernel
theorem dX6_digest_17 : decode cX6_digest 17 = .ok (.iload_n 3, 1) := by decide +kernel
theorem dX6_digest_18 : decode cX6_digest 18 = .ok (.invokevirtual 181, 3) := by decide +kernel
theorem dX6_digest_21 : decode cX6_digest 21 = .ok (.i2l, 1) := by decide +kernel
theorem dX6_digest_22 : decode cX6_digest 22 = .ok (.ladd, 1) := by decide +kernel
theorem dX6_digest_23 : decode cX6_digest 23 = .ok (.lstore_n 1, 1) := by decide +kernel
theorem dX6_digest_24 : decode cX6_digest 24 = .ok (.iinc 3 1, 3) := by decide +kernel
theorem dX6_digest_27 : decode cX6_digest 27 = .ok (.goto (-21), 3) := by decide +kernel
theorem dX6_digest_30 : decode cX6_digest 30 = .ok (.aload_n 0, 1) := by decide +kernel
theorem dX6_digest_31 : decode cX6_digest 31 = .ok (.getfield 12, 3) := by decide +kernel
theorem dX6_digest_34 : decode cX6_digest 34 = .ok (.lload_n 1, 1) := by decide +kernel
theorem dX6_digest_35 : decode cX6_digest 35 = .ok (.invokevirtual 188, 3) := by decide +kernel
theorem dX6_digest_38 : decode cX6_digest 38 = .ok (.lstore_n 1, 1) := by decide +kernel
theorem dX6_digest_39 : decode cX6_digest 39 = .ok (.aload_n 0, 1) := by decide +kernel
theorem dX6_digest_40 : decode cX6_digest 40 = .ok (.invokevirtual 121, 3) := by decide +kernel
theorem dX6_digest_43 : decode cX6_digest 43 = .ok (.astore_n 3, 1) := by decide +kernel
theorem dX6_digest_44 : decode cX6_digest 44 = .ok (.aload_n 3, 1) := by decide +kernel
theorem dX6_digest_45 : decode cX6_digest 45 = .ok (.lload_n 1, 1) := by decide +kernel
theorem dX6_digest_46 : decode cX6_digest 46 = .ok (.aload_n 0, 1) := by decide +kernel
theorem dX6_digest_47 : decode cX6_digest 47 = .ok (.getfield 12, 3) := by decide +kernel
theorem dX6_digest_50 : decode cX6_digest 50 = .ok (.getfield 118, 3) := by decide +kernel
theorem dX6_digest_53 : decode cX6_digest 53 = .ok (.invokevirtual 192, 3) := by decide +kernel
theorem dX6_digest_56 : decode cX6_digest 56 = .ok (.lstore_n 1, 1) := by decide +kernel
theorem dX6_digest_57 : decode cX6_digest 57 = .ok (.ldc2_w 186, 3) := by decide +kernel
theorem dX6_digest_60 : decode cX6_digest 60 = .ok (.lload_n 1, 1) := by decide +kernel
theorem dX6_digest_61 : decode cX6_digest 61 = .ok (.lmul, 1) := by decide +kernel
theorem dX6_digest_62 : decode cX6_digest 62 = .ok (.aload_n 3, 1) := by decide +kernel
theorem dX6_digest_63 : decode cX6_digest 63 = .ok (.aload_n 0, 1) := by decide +kernel
theorem dX6_digest_64 : decode cX6_digest 64 = .ok (.getfield 12, 3) := by decide +kernel
theorem dX6_digest_67 : decode cX6_digest 67 = .ok (.invokevirtual 138, 3) := by decide +kernel
theorem dX6_digest_70 : decode cX6_digest 70 = .ok (.i2l, 1) := by decide +kernel
theorem dX6_digest_71 : decode cX6_digest 71 = .ok (.ladd, 1) := by decide +kernel
theorem dX6_digest_72 : decode cX6_digest 72 = .ok (.lstore_n 1, 1) := by decide +kernel
theorem dX6_digest_73 : decode cX6_digest 73 = .ok (.aload_n 0, 1) := by decide +kernel
theorem dX6_digest_74 : decode cX6_digest 74 = .ok (.invokevirtual 107, 3) := by decide +kernel
theorem dX6_digest_77 : decode cX6_digest 77 = .ok (.astore 4, 2) := by decide +kernel
theorem dX6_digest_79 : decode cX6_digest 79 = .ok (.ldc2_w 186, 3) := by decide +kernel
theorem dX6_digest_82 : decode cX6_digest 82 = .ok (.lload_n 1, 1) := by decide +kernel
theorem dX6_digest_83 : decode cX6_digest 83 = .ok (.lmul, 1) := by decide +kernel
theorem dX6_digest_84 : decode cX6_digest 84 = .ok (.aload 4, 2) := by decide +kernel
theorem dX6_digest_86 : decode cX6_digest 86 = .ok (.getfield 111, 3) := by decide +kernel
theorem dX6_digest_89 : decode cX6_digest 89 = .ok (.i2l, 1) := by decide +kernel
theorem dX6_digest_90 : decode cX6_digest 90 = .ok (.ladd, 1) := by decide +kernel
theorem dX6_digest_91 : decode cX6_digest 91 = .ok (.lstore_n 1, 1) := by decide +kernel
theorem dX6_digest_92 : decode cX6_digest 92 = .ok (.ldc2_w 186, 3) := by decide +kernel
theorem dX6_digest_95 : decode cX6_digest 95 = .ok (.lload_n 1, 1) := by decide +kernel
theorem dX6_digest_96 : decode cX6_digest 96 = .ok (.lmul, 1) := by decide +kernel
theorem dX6_digest_97 : decode cX6_digest 97 = .ok (.aload 4, 2) := by decide +kernel
theorem dX6_digest_99 : decode cX6_digest 99 = .ok (.getfield 115, 3) := by decide +kernel
theorem dX6_digest_102 : decode cX6_digest 102 = .ok (.i2l, 1) := by decide +kernel
theorem dX6_digest_103 : decode cX6_digest 103 = .ok (.ladd, 1) := by decide +kernel
theorem dX6_digest_104 : decode cX6_digest 104 = .ok (.lstore_n 1, 1) := by decide +kernel
theorem dX6_digest_105 : decode cX6_digest 105 = .ok (.aload_n 0, 1) := by decide +kernel
theorem dX6_digest_106 : decode cX6_digest 106 = .ok (.getfield 36, 3) := by decide +kernel
theorem dX6_digest_109 : decode cX6_digest 109 = .ok (.aload_n 0, 1) := by decide +kernel
theorem dX6_digest_110 : decode cX6_digest 110 = .ok (.getfield 12, 3) := by decide +kernel
theorem dX6_digest_113 : decode cX6_digest 113 = .ok (.iconst 0, 1) := by decide +kernel
theorem dX6_digest_114 : decode cX6_digest 114 = .ok (.invokevirtual 93, 3) := by decide +kernel
theorem dX6_digest_117 : decode cX6_digest 117 = .ok (.iconst 0, 1) := by decide +kernel
theorem dX6_digest_118 : decode cX6_digest 118 = .ok (.istore 5, 2) := by decide +kernel
theorem dX6_digest_120 : decode cX6_digest 120 = .ok (.iload 5, 2) := by decide +kernel
theorem dX6_digest_122 : decode cX6_digest 122 = .ok (.bipush 9, 2) := by decide +kernel
theorem dX6_digest_124 : decode cX6_digest 124 = .ok (.if_icmp .ge 26, 3) := by decide +kernel
theorem dX6_digest_127 : decode cX6_digest 127 = .ok (.ldc2_w 186, 3) := by decide +kernel
theorem dX6_digest_130 : decode cX6_digest 130 = .ok (.lload_n 1, 1) := by decide +kernel
theorem dX6_digest_131 : decode cX6_digest 131 = .ok (.lmul, 1) := by decide +kernel
theorem dX6_digest_132 : decode cX6_digest 132 = .ok (.aload_n 0, 1) := by decide +kernel
theorem dX6_digest_133 : decode cX6_digest 133 = .ok (.getfield 36, 3) := by decide +kernel
theorem dX6_digest_136 : decode cX6_digest 136 = .ok (.iload 5, 2) := by decide +kernel
theorem dX6_digest_138 : decode cX6_digest 138 = .ok (.invokevirtual 97, 3) := by decide +kernel
theorem dX6_digest_141 : decode cX6_digest 141 = .ok (.i2l, 1) := by decide +kernel
theorem dX6_digest_142 : decode cX6_digest 142 = .ok (.ladd, 1) := by decide +kernel
theorem dX6_digest_143 : decode cX6_digest 143 = .ok (.lstore_n 1, 1) := by decide +kernel
theorem dX6_digest_144 : decode cX6_digest 144 = .ok (.iinc 5 1, 3) := by decide +kernel
theorem dX6_digest_147 : decode cX6_digest 147 = .ok (.goto (-27), 3) := by decide +kernel
theorem dX6_digest_150 : decode cX6_digest 150 = .ok (.lload_n 1, 1) := by decide +kernel
theorem dX6_digest_151 : decode cX6_digest 151 = .ok (.lreturn, 1) := by decide +kernel
theorem dX6_within_0 : decode cX6_within 0 = .ok (.iload_n 0, 1) := by decide +kernel
theorem dX6_within_1 : decode cX6_within 1 = .ok (.ifCond .lt 12, 3) := by decide +kernel
theorem dX6_within_4 : decode cX6_within 4 = .ok (.iload_n 0, 1) := by decide +kernel
theorem dX6_within_5 : decode cX6_within 5 = .ok (.iload_n 1, 1) := by decide +kernel
theorem dX6_within_6 : decode cX6_within 6 = .ok (.if_icmp .ge 7, 3) := by decide +kernel
theorem dX6_within_9 : decode cX6_within 9 = .ok (.iconst 1, 1) := by decide +kernel
theorem dX6_within_10 : decode cX6_within 10 = .ok (.goto 4, 3) := by decide +kernel
theorem dX6_within_13 : decode cX6_within 13 = .ok (.iconst 0, 1) := by decide +kernel
theorem dX6_within_14 : decode cX6_within 14 = .ok (.ireturn, 1) := by decide +kernel
theorem dX6_combined_0 : decode cX6_combined 0 = .ok (.iload_n 0, 1) := by decide +kernel
theorem dX6_combined_1 : decode cX6_combined 1 = .ok (.tableswitch 42 2 4 #[27, 34, 38], 27) := by decide +kernel
theorem dX6_combined_28 : decode cX6_combined 28 = .ok (.iload_n 1, 1) := by decide +kernel
theorem dX6_combined_29 : decode cX6_combined 29 = .ok (.iload_n 2, 1) := by decide +kernel
theorem dX6_combined_30 : decode cX6_combined 30 = .ok (.iadd, 1) := by decide +kernel
theorem dX6_combined_31 : decode cX6_combined 31 = .ok (.bipush 16, 2) := by decide +kernel
theorem dX6_combined_33 : decode cX6_combined 33 = .ok (.irem, 1) := by decide +kernel
theorem dX6_combined_34 : decode cX6_combined 34 = .ok (.ireturn, 1) := by decide +kernel
theorem dX6_combined_35 : decode cX6_combined 35 = .ok (.iload_n 1, 1) := by decide +kernel
theorem dX6_combined_36 : decode cX6_combined 36 = .ok (.iload_n 2, 1) := by decide +kernel
theorem dX6_combined_37 : decode cX6_combined 37 = .ok (.iand, 1) := by decide +kernel
theorem dX6_combined_38 : decode cX6_combined 38 = .ok (.ireturn, 1) := by decide +kernel
theorem dX6_combined_39 : decode cX6_combined 39 = .ok (.iload_n 1, 1) := by decide +kernel
theorem dX6_combined_40 : decode cX6_combined 40 = .ok (.iload_n 2, 1) := by decide +kernel
theorem dX6_combined_41 : decode cX6_combined 41 = .ok (.ixor, 1) := by decide +kernel
theorem dX6_combined_42 : decode cX6_combined 42 = .ok (.ireturn, 1) := by decide +kernel
theorem dX6_combined_43 : decode cX6_combined 43 = .ok (.iload_n 2, 1) := by decide +kernel
theorem dX6_combined_44 : decode cX6_combined 44 = .ok (.ifCond .ne 8, 3) := by decide +kernel
theorem dX6_combined_47 : decode cX6_combined 47 = .ok (.bipush 15, 2) := by decide +kernel
theorem dX6_combined_49 : decode cX6_combined 49 = .ok (.goto 6, 3) := by decide +kernel
theorem dX6_combined_52 : decode cX6_combined 52 = .ok (.iload_n 1, 1) := by decide +kernel
theorem dX6_combined_53 : decode cX6_combined 53 = .ok (.iload_n 2, 1) := by decide +kernel
theorem dX6_combined_54 : decode cX6_combined 54 = .ok (.idiv, 1) := by decide +kernel
theorem dX6_combined_55 : decode cX6_combined 55 = .ok (.ireturn, 1) := by decide +kernel
set_option maxRecDepth 20000 in
theorem ggX6_sketched_X2_copyFrom : GoodIn wsX6_sketched wsX2_copyFrom := goodIn_r _ [7, 8, 9, 10, 11, 12, 13, 14, 15, 16, 30, 31, 32, 33, 34] (by decide +kernel) (by decide +kernel)
set_option maxRecDepth 20000 in
theorem gX6_sketched_X2_copyFrom : GoodIn wsX6_sketched (wsV RX6 158 RX2 yX2_copyFrom wsX2_copyFrom) := goodIn_app (goodIn_of _ (by decide +kernel)) ggX6_sketched_X2_copyFrom
theorem dX6_sketched_0 : decode cX6_sketched 0 = .ok (.aload_n 0, 1) := by decide +kernel
theorem dX6_sketched_1 : decode cX6_sketched 1 = .ok (.getfield 16, 3) := by decide +kernel
theorem dX6_sketched_4 : decode cX6_sketched 4 = .ok (.aload_n 0, 1) := by decide +kernel
theorem dX6_sketched_5 : decode cX6_sketched 5 = .ok (.getfield 12, 3) := by decide +kernel
theorem dX6_sketched_8 : decode cX6_sketched 8 = .ok (.invokevirtual 158, 3) := by decide +kernel
theorem dX6_sketched_11 : decode cX6_sketched 11 = .ok (.aload_n 0, 1) := by decide +kernel
theorem dX6_sketched_12 : decode cX6_sketched 12 = .ok (.getfield 16, 3) := by decide +kernel
theorem dX6_sketched_15 : decode cX6_sketched 15 = .ok (.areturn, 1) := by decide +kernel
set_option maxRecDepth 20000 in
theorem ggX6_settled_X6_counted : GoodIn wsX6_settled wsX6_counted := goodIn_r _ [5, 6, 7, 8, 48, 49, 50, 51, 52, 53, 54, 55, 56, 57, 58, 59, 60] (by decide +kernel) (by decide +kernel)
set_option maxRecDepth 20000 in
theorem gX6_settled_X6_counted : GoodIn wsX6_settled (wsV RX6 90 RX6 yX6_counted wsX6_counted) := goodIn_app (goodIn_of _ (by decide +kernel)) ggX6_settled_X6_counted
set_option maxRecDepth 20000 in
theorem ggX6_settled_X6_adoptSketch : GoodIn wsX6_settled wsX6_adoptSketch := goodIn_r _ [12, 13, 14, 15, 16, 17, 18, 19, 20, 21, 22, 23, 24, 25, 26, 27, 28, 29, 30, 31, 32, 33, 34, 35, 36, 37, 38, 39, 40, 41, 42, 43, 44, 4, 45, 46, 47, 48, 49, 50, 51, 52, 53, 54, 55, 56, 57, 58, 59, 60, 61, 62, 63, 64, 65, 66, 67, 68] (by decide +kernel) (by decide +kernel)
set_option maxRecDepth 20000 in
theorem gX6_settled_X6_adoptSketch : GoodIn wsX6_settled (wsV RX6 169 RX6 yX6_adoptSketch wsX6_adoptSketch) := goodIn_app (goodIn_of _ (by decide +kernel)) ggX6_settled_X6_adoptSketch
theorem dX6_settled_0 : decode cX6_settled 0 = .ok (.iload_n 1, 1) := by decide +kernel
theorem dX6_settled_1 : decode cX6_settled 1 = .ok (.ifCond .ge 9, 3) := by decide +kernel
theorem dX6_settled_4 : decode cX6_settled 4 = .ok (.aload_n 0, 1) := by decide +kernel
theorem dX6_settled_5 : decode cX6_settled 5 = .ok (.iload_n 1, 1) := by decide +kernel
theorem dX6_settled_6 : decode cX6_settled 6 = .ok (.invokevirtual 90, 3) := by decide +kernel
theorem dX6_settled_9 : decode cX6_settled 9 = .ok (.ireturn, 1) := by decide +kernel
theorem dX6_settled_10 : decode cX6_settled 10 = .ok (.aload_n 0, 1) := by decide +kernel
theorem dX6_settled_11 : decode cX6_settled 11 = .ok (.invokevirtual 169, 3) := by decide +kernel
theorem dX6_settled_14 : decode cX6_settled 14 = .ok (.iload_n 1, 1) := by decide +kernel
theorem dX6_settled_15 : decode cX6_settled 15 = .ok (.ireturn, 1) := by decide +kernel
set_option maxRecDepth 20000 in
theorem ggX6_adoptSketch_X1_keep : GoodIn wsX6_adoptSketch wsX1_keep := goodIn_r _ [8, 9, 10, 11, 12, 13, 7, 14, 15, 16, 17, 18, 19, 20, 21, 22, 23, 24, 25, 26, 27, 28, 50, 51, 52, 53, 54, 55, 56, 57] (by decide +kernel) (by decide +kernel)
set_option maxRecDepth 20000 in
theorem gX6_adoptSketch_X1_keep : GoodIn wsX6_adoptSketch (wsV RX6 195 RX1 yX1_keep wsX1_keep) := goodIn_app (goodIn_of _ (by decide +kernel)) ggX6_adoptSketch_X1_keep
set_option maxRecDepth 20000 in
theorem ggX6_adoptSketch_X2_copyFrom : GoodIn wsX6_adoptSketch wsX2_copyFrom := goodIn_r _ [19, 20, 21, 22, 23, 24, 25, 26, 27, 28, 53, 54, 55, 56, 57] (by decide +kernel) (by decide +kernel)
set_option maxRecDepth 20000 in
theorem gX6_adoptSketch_X2_copyFrom : GoodIn wsX6_adoptSketch (wsV RX6 158 RX2 yX2_copyFrom wsX2_copyFrom) := goodIn_app (goodIn_of _ (by decide +kernel)) ggX6_adoptSketch_X2_copyFrom
set_option maxRecDepth 20000 in
theorem ggX6_adoptSketch_X6_forget : GoodIn wsX6_adoptSketch wsX6_forget := goodIn_r _ [34, 35, 36, 37, 38, 39, 40, 41, 42, 43, 44, 45, 46, 47, 48, 49] (by decide +kernel) (by decide +kernel)
set_option maxRecDepth 20000 in
theorem gX6_adoptSketch_X6_forget : GoodIn wsX6_adoptSketch (wsV RX6 178 RX6 yX6_forget wsX6_forget) := goodIn_app (goodIn_of _ (by decide +kernel)) ggX6_adoptSketch_X6_forget
theorem dX6_adoptSketch_0 : decode cX6_adoptSketch 0 = .ok (.aload_n 0, 1) := by decide +kernel
theorem dX6_adoptSketch_1 : decode cX6_adoptSketch 1 = .ok (.getfield 22, 3) := by decide +kernel
theorem dX6_adoptSketch_4 : decode cX6_adoptSketch 4 = .ok (.aload_n 0, 1) := by decide +kernel
theorem dX6_adoptSketch_5 : decode cX6_adoptSketch 5 = .ok (.getfield 12, 3) := by decide +kernel
theorem dX6_adoptSketch_8 : decode cX6_adoptSketch 8 = .ok (.invokevirtual 195, 3) := by decide +kernel
theorem dX6_adoptSketch_11 : decode cX6_adoptSketch 11 = .ok (.aload_n 0, 1) := by decide +kernel
theorem dX6_adoptSketch_12 : decode cX6_adoptSketch 12 = .ok (.getfield 12, 3) := by decide +kernel
theorem dX6_adoptSketch_15 : decode cX6_adoptSketch 15 = .ok (.aload_n 0, 1) := by decide +kernel
theorem dX6_adoptSketch_16 : decode cX6_adoptSketch 16 = .ok (.getfield 16, 3) := by decide +kernel
theorem dX6_adoptSketch_19 : decode cX6_adoptSketch 19 = .ok (.invokevirtual 158, 3) := by decide +kernel
theorem dX6_adoptSketch_22 : decode cX6_adoptSketch 22 = .ok (.aload_n 0, 1) := by decide +kernel
theorem dX6_adoptSketch_23 : decode cX6_adoptSketch 23 = .ok (.invokevirtual 178, 3) := by decide +kernel
theorem dX6_adoptSketch_26 : decode cX6_adoptSketch 26 = .ok (.return_, 1) := by decide +kernel
theorem dX6_forget_0 : decode cX6_forget 0 = .ok (.aload_n 0, 1) := by decide +kernel
theorem dX6_forget_1 : decode cX6_forget 1 = .ok (.iconst 0, 1) := by decide +kernel
theorem dX6_forget_2 : decode cX6_forget 2 = .ok (.putfield 198, 3) := by decide +kernel
theorem dX6_forget_5 : decode cX6_forget 5 = .ok (.aload_n 0, 1) := by decide +kernel
theorem dX6_forget_6 : decode cX6_forget 6 = .ok (.iconst 0, 1) := by decide +kernel
theorem dX6_forget_7 : decode cX6_forget 7 = .ok (.putfield 202, 3) := by decide +kernel
theorem dX6_forget_10 : decode cX6_forget 10 = .ok (.return_, 1) := by decide +kernel
theorem dX6_counted_0 : decode cX6_counted 0 = .ok (.iload_n 1, 1) := by decide +kernel
theorem dX6_counted_1 : decode cX6_counted 1 = .ok (.bipush (-2), 2) := by decide +kernel
theorem dX6_counted_3 : decode cX6_counted 3 = .ok (.if_icmp .ne 16, 3) := by decide +kernel
theorem dX6_counted_6 : decode cX6_counted 6 = .ok (.aload_n 0, 1) := by decide +kernel
theorem dX6_counted_7 : decode cX6_counted 7 = .ok (.dup, 1) := by decide +kernel
theorem dX6_counted_8 : decode cX6_counted 8 = .ok (.getfield 205, 3) := by decide +kernel
theorem dX6_counted_11 : decode cX6_counted 11 = .ok (.iconst 1, 1) := by decide +kernel
theorem dX6_counted_12 : decode cX6_counted 12 = .ok (.iadd, 1) := by decide +kernel
theorem dX6_counted_13 : decode cX6_counted 13 = .ok (.putfield 205, 3) := by decide +kernel
theorem dX6_counted_16 : decode cX6_counted 16 = .ok (.goto 32, 3) := by decide +kernel
theorem dX6_counted_19 : decode cX6_counted 19 = .ok (.iload_n 1, 1) := by decide +kernel
theorem dX6_counted_20 : decode cX6_counted 20 = .ok (.bipush (-3), 2) := by decide +kernel
theorem dX6_counted_22 : decode cX6_counted 22 = .ok (.if_icmp .ne 16, 3) := by decide +kernel
theorem dX6_counted_25 : decode cX6_counted 25 = .ok (.aload_n 0, 1) := by decide +kernel
theorem dX6_counted_26 : decode cX6_counted 26 = .ok (.dup, 1) := by decide +kernel
theorem dX6_counted_27 : decode cX6_counted 27 = .ok (.getfield 208, 3) := by decide +kernel
theorem dX6_counted_30 : decode cX6_counted 30 = .ok (.iconst 1, 1) := by decide +kernel
theorem dX6_counted_31 : decode cX6_counted 31 = .ok (.iadd, 1) := by decide +kernel
theorem dX6_counted_32 : decode cX6_counted 32 = .ok (.putfield 208, 3) := by decide +kernel
theorem dX6_counted_35 : decode cX6_counted 35 = .ok (.goto 13, 3) := by decide +kernel
theorem dX6_counted_38 : decode cX6_counted 38 = .ok (.aload_n 0, 1) := by decide +kernel
theorem dX6_counted_39 : decode cX6_counted 39 = .ok (.dup, 1) := by decide +kernel
theorem dX6_counted_40 : decode cX6_counted 40 = .ok (.getfield 211, 3) := by decide +kernel
theorem dX6_counted_43 : decode cX6_counted 43 = .ok (.iconst 1, 1) := by decide +kernel
theorem dX6_counted_44 : decode cX6_counted 44 = .ok (.iadd, 1) := by decide +kernel
theorem dX6_counted_45 : decode cX6_counted 45 = .ok (.putfield 211, 3) := by decide +kernel
theorem dX6_counted_48 : decode cX6_counted 48 = .ok (.iload_n 1, 1) := by decide +kernel
theorem dX6_counted_49 : decode cX6_counted 49 = .ok (.ireturn, 1) := by decide +kernel
theorem dX6_tally_0 : decode cX6_tally 0 = .ok (.iload_n 1, 1) := by decide +kernel
theorem dX6_tally_1 : decode cX6_tally 1 = .ok (.tableswitch 54 0 3 #[31, 36, 41, 46], 31) := by decide +kernel
theorem dX6_tally_32 : decode cX6_tally 32 = .ok (.aload_n 0, 1) := by decide +kernel
theorem dX6_tally_33 : decode cX6_tally 33 = .ok (.getfield 205, 3) := by decide +kernel
theorem dX6_tally_36 : decode cX6_tally 36 = .ok (.ireturn, 1) := by decide +kernel
theorem dX6_tally_37 : decode cX6_tally 37 = .ok (.aload_n 0, 1) := by decide +kernel
theorem dX6_tally_38 : decode cX6_tally 38 = .ok (.getfield 208, 3) := by decide +kernel
theorem dX6_tally_41 : decode cX6_tally 41 = .ok (.ireturn, 1) := by decide +kernel
theorem dX6_tally_42 : decode cX6_tally 42 = .ok (.aload_n 0, 1) := by decide +kernel
theorem dX6_tally_43 : decode cX6_tally 43 = .ok (.getfield 211, 3) := by decide +kernel
theorem dX6_tally_46 : decode cX6_tally 46 = .ok (.ireturn, 1) := by decide +kernel
theorem dX6_tally_47 : decode cX6_tally 47 = .ok (.aload_n 0, 1) := by decide +kernel
theorem dX6_tally_48 : decode cX6_tally 48 = .ok (.getfield 29, 3) := by decide +kernel
theorem dX6_tally_51 : decode cX6_tally 51 = .ok (.getfield 214, 3) := by decide +kernel
theorem dX6_tally_54 : decode cX6_tally 54 = .ok (.ireturn, 1) := by decide +kernel
theorem dX6_tally_55 : decode cX6_tally 55 = .ok (.aload_n 0, 1) := by decide +kernel
theorem dX6_tally_56 : decode cX6_tally 56 = .ok (.getfield 22, 3) := by decide +kernel
theorem dX6_tally_59 : decode cX6_tally 59 = .ok (.getfield 172, 3) := by decide +kernel
theorem dX6_tally_62 : decode cX6_tally 62 = .ok (.ireturn, 1) := by decide +kernel
set_option maxRecDepth 20000 in
theorem ggX6_flowNow_X0_find : GoodIn wsX6_flowNow wsX0_find := goodIn_r _ [8, 9, 10, 11, 12, 13, 7, 14, 15, 16, 17, 18, 19, 20, 21, 22, 23, 24, 25, 26, 27, 28, 29, 30, 31, 32, 33, 34, 35, 36, 37, 38, 39, 40, 41, 42, 43, 44, 45, 46, 47, 48, 49, 50, 51, 52, 53, 54, 55, 56, 57, 58, 59, 60, 61, 62, 63, 64, 65, 66, 67, 81, 82, 83, 84, 85, 86, 87, 88, 89, 90, 91] (by decide +kernel) (by decide +kernel)
set_option maxRecDepth 20000 in
theorem gX6_flowNow_X0_find : GoodIn wsX6_flowNow (wsV RX6 217 RX0 yX0_find wsX0_find) := goodIn_app (goodIn_of _ (by decide +kernel)) ggX6_flowNow_X0_find
theorem dX6_flowNow_0 : decode cX6_flowNow 0 = .ok (.aload_n 0, 1) := by decide +kernel
theorem dX6_flowNow_1 : decode cX6_flowNow 1 = .ok (.getfield 198, 3) := by decide +kernel
theorem dX6_flowNow_4 : decode cX6_flowNow 4 = .ok (.ifCond .ne 19, 3) := by decide +kernel
theorem dX6_flowNow_7 : decode cX6_flowNow 7 = .ok (.aload_n 0, 1) := by decide +kernel
theorem dX6_flowNow_8 : decode cX6_flowNow 8 = .ok (.getfield 46, 3) := by decide +kernel
theorem dX6_flowNow_11 : decode cX6_flowNow 11 = .ok (.aload_n 0, 1) := by decide +kernel
theorem dX6_flowNow_12 : decode cX6_flowNow 12 = .ok (.getfield 12, 3) := by decide +kernel
theorem dX6_flowNow_15 : decode cX6_flowNow 15 = .ok (.invokevirtual 217, 3) := by decide +kernel
theorem dX6_flowNow_18 : decode cX6_flowNow 18 = .ok (.aload_n 0, 1) := by decide +kernel
theorem dX6_flowNow_19 : decode cX6_flowNow 19 = .ok (.iconst 1, 1) := by decide +kernel
theorem dX6_flowNow_20 : decode cX6_flowNow 20 = .ok (.putfield 198, 3) := by decide +kernel
theorem dX6_flowNow_23 : decode cX6_flowNow 23 = .ok (.aload_n 0, 1) := by decide +kernel
theorem dX6_flowNow_24 : decode cX6_flowNow 24 = .ok (.getfield 46, 3) := by decide +kernel
theorem dX6_flowNow_27 : decode cX6_flowNow 27 = .ok (.areturn, 1) := by decide +kernel
set_option maxRecDepth 20000 in
theorem ggX6_surveyNow_X4_take : GoodIn wsX6_surveyNow wsX4_take := goodIn_r _ [9, 10, 11, 12, 13, 14, 15, 16, 17, 18, 19, 20, 21, 22, 23, 24, 25, 26, 27, 28, 29, 30, 31, 32, 33, 34, 35, 36, 37, 38, 39, 40, 41, 42, 43, 44, 45, 46, 47, 48, 49, 50, 51, 52, 53, 54, 55, 56, 8, 57, 58, 59, 60, 61, 62, 63, 64, 65, 66, 80, 81, 82, 83, 84, 85, 86, 87, 88, 89, 90, 91, 92] (by decide +kernel) (by decide +kernel)
set_option maxRecDepth 20000 in
theorem gX6_surveyNow_X4_take : GoodIn wsX6_surveyNow (wsV RX6 220 RX4 yX4_take wsX4_take) := goodIn_app (goodIn_of _ (by decide +kernel)) ggX6_surveyNow_X4_take
theorem dX6_surveyNow_0 : decode cX6_surveyNow 0 = .ok (.aload_n 0, 1) := by decide +kernel
theorem dX6_surveyNow_1 : decode cX6_surveyNow 1 = .ok (.getfield 202, 3) := by decide +kernel
theorem dX6_surveyNow_4 : decode cX6_surveyNow 4 = .ok (.ifCond .ne 23, 3) := by decide +kernel
theorem dX6_surveyNow_7 : decode cX6_surveyNow 7 = .ok (.aload_n 0, 1) := by decide +kernel
theorem dX6_surveyNow_8 : decode cX6_surveyNow 8 = .ok (.getfield 53, 3) := by decide +kernel
theorem dX6_surveyNow_11 : decode cX6_surveyNow 11 = .ok (.aload_n 0, 1) := by decide +kernel
theorem dX6_surveyNow_12 : decode cX6_surveyNow 12 = .ok (.getfield 12, 3) := by decide +kernel
theorem dX6_surveyNow_15 : decode cX6_surveyNow 15 = .ok (.aload_n 0, 1) := by decide +kernel
theorem dX6_surveyNow_16 : decode cX6_surveyNow 16 = .ok (.getfield 36, 3) := by decide +kernel
theorem dX6_surveyNow_19 : decode cX6_surveyNow 19 = .ok (.invokevirtual 220, 3) := by decide +kernel
theorem dX6_surveyNow_22 : decode cX6_surveyNow 22 = .ok (.aload_n 0, 1) := by decide +kernel
theorem dX6_surveyNow_23 : decode cX6_surveyNow 23 = .ok (.iconst 1, 1) := by decide +kernel
theorem dX6_surveyNow_24 : decode cX6_surveyNow 24 = .ok (.putfield 202, 3) := by decide +kernel
theorem dX6_surveyNow_27 : decode cX6_surveyNow 27 = .ok (.aload_n 0, 1) := by decide +kernel
theorem dX6_surveyNow_28 : decode cX6_surveyNow 28 = .ok (.getfield 53, 3) := by decide +kernel
theorem dX6_surveyNow_31 : decode cX6_surveyNow 31 = .ok (.areturn, 1) := by decide +kernel
theorem dX7_init_0 : decode cX7_init 0 = .ok (.aload_n 0, 1) := by decide +kernel
theorem dX7_init_1 : decode cX7_init 1 = .ok (.invokespecial 1, 3) := by decide +kernel
theorem dX7_init_4 : decode cX7_init 4 = .ok (.aload_n 0, 1) := by decide +kernel
theorem dX7_init_5 : decode cX7_init 5 = .ok (.bipush 104, 2) := by decide +kernel
theorem dX7_init_7 : decode cX7_init 7 = .ok (.newarray .int, 2) := by decide +kernel
theorem dX7_init_9 : decode cX7_init 9 = .ok (.putfield 7, 3) := by decide +kernel
theorem dX7_init_12 : decode cX7_init 12 = .ok (.aload_n 0, 1) := by decide +kernel
theorem dX7_init_13 : decode cX7_init 13 = .ok (.bipush 104, 2) := by decide +kernel
theorem dX7_init_15 : decode cX7_init 15 = .ok (.newarray .int, 2) := by decide +kernel
theorem dX7_init_17 : decode cX7_init 17 = .ok (.putfield 13, 3) := by decide +kernel
theorem dX7_init_20 : decode cX7_init 20 = .ok (.aload_n 0, 1) := by decide +kernel
theorem dX7_init_21 : decode cX7_init 21 = .ok (.sipush 520, 3) := by decide +kernel
theorem dX7_init_24 : decode cX7_init 24 = .ok (.newarray .int, 2) := by decide +kernel
theorem dX7_init_26 : decode cX7_init 26 = .ok (.putfield 16, 3) := by decide +kernel
theorem dX7_init_29 : decode cX7_init 29 = .ok (.aload_n 0, 1) := by decide +kernel
theorem dX7_init_30 : decode cX7_init 30 = .ok (.iconst 3, 1) := by decide +kernel
theorem dX7_init_31 : decode cX7_init 31 = .ok (.newarray .int, 2) := by decide +kernel
theorem dX7_init_33 : decode cX7_init 33 = .ok (.putfield 19, 3) := by decide +kernel
theorem dX7_init_36 : decode cX7_init 36 = .ok (.aload_n 0, 1) := by decide +kernel
theorem dX7_init_37 : decode cX7_init 37 = .ok (.bipush 120, 2) := by decide +kernel
theorem dX7_init_39 : decode cX7_init 39 = .ok (.newarray .int, 2) := by decide +kernel
theorem dX7_init_41 : decode cX7_init 41 = .ok (.putfield 22, 3) := by decide +kernel
theorem dX7_init_44 : decode cX7_init 44 = .ok (.aload_n 0, 1) := by decide +kernel
theorem dX7_init_45 : decode cX7_init 45 = .ok (.bipush 6, 2) := by decide +kernel
theorem dX7_init_47 : decode cX7_init 47 = .ok (.newarray .int, 2) := by decide +kernel
theorem dX7_init_49 : decode cX7_init 49 = .ok (.putfield 25, 3) := by decide +kernel
theorem dX7_init_52 : decode cX7_init 52 = .ok (.aload_n 0, 1) := by decide +kernel
theorem dX7_init_53 : decode cX7_init 53 = .ok (.sipush 15616, 3) := by decide +kernel
theorem dX7_init_56 : decode cX7_init 56 = .ok (.newarray .int, 2) := by decide +kernel
theorem dX7_init_58 : decode cX7_init 58 = .ok (.putfield 28, 3) := by decide +kernel
theorem dX7_init_61 : decode cX7_init 61 = .ok (.aload_n 0, 1) := by decide +kernel
theorem dX7_init_62 : decode cX7_init 62 = .ok (.bipush 21, 2) := by decide +kernel
theorem dX7_init_64 : decode cX7_init 64 = .ok (.newarray .boolean, 2) := by decide +kernel
theorem dX7_init_66 : decode cX7_init 66 = .ok (.putfield 31, 3) := by decide +kernel
theorem dX7_init_69 : decode cX7_init 69 = .ok (.aload_n 0, 1) := by decide +kernel
theorem dX7_init_70 : decode cX7_init 70 = .ok (.bipush 21, 2) := by decide +kernel
theorem dX7_init_72 : decode cX7_init 72 = .ok (.newarray .int, 2) := by decide +kernel
theorem dX7_init_74 : decode cX7_init 74 = .ok (.putfield 35, 3) := by decide +kernel
theorem dX7_init_77 : decode cX7_init 77 = .ok (.aload_n 0, 1) := by decide +kernel
theorem dX7_init_78 : decode cX7_init 78 = .ok (.bipush 126, 2) := by decide +kernel
theorem dX7_init_80 : decode cX7_init 80 = .ok (.newarray .int, 2) := by decide +kernel
theorem dX7_init_82 : decode cX7_init 82 = .ok (.putfield 38, 3) := by decide +kernel
theorem dX7_init_85 : decode cX7_init 85 = .ok (.aload_n 0, 1) := by decide +kernel
theorem dX7_init_86 : decode cX7_init 86 = .ok (.bipush 6, 2) := by decide +kernel
theorem dX7_init_88 : decode cX7_init 88 = .ok (.newarray .int, 2) := by decide +kernel
theorem dX7_init_90 : decode cX7_init 90 = .ok (.putfield 41, 3) := by decide +kernel
theorem dX7_init_93 : decode cX7_init 93 = .ok (.aload_n 0, 1) := by decide +kernel
theorem dX7_init_94 : decode cX7_init 94 = .ok (.bipush 41, 2) := by decide +kernel
theorem dX7_init_96 : decode cX7_init 96 = .ok (.newarray .int, 2) := by decide +kernel
theorem dX7_init_98 : decode cX7_init 98 = .ok (.putfield 44, 3) := by decide +kernel
theorem dX7_init_101 : decode cX7_init 101 = .ok (.aload_n 0, 1) := by decide +kernel
theorem dX7_init_102 : decode cX7_init 102 = .ok (.sipush 164, 3) := by decide +kernel
theorem dX7_init_105 : decode cX7_init 105 = .ok (.newarray .int, 2) := by decide +kernel
theorem dX7_init_107 : decode cX7_init 107 = .ok (.putfield 47, 3) := by decide +kernel
theorem dX7_init_110 : decode cX7_init 110 = .ok (.iconst 0, 1) := by decide +kernel
theorem dX7_init_111 : decode cX7_init 111 = .ok (.istore_n 1, 1) := by decide +kernel
theorem dX7_init_112 : decode cX7_init 112 = .ok (.iload_n 1, 1) := by decide +kernel
theorem dX7_init_113 : decode cX7_init 113 = .ok (.bipush 16, 2) := by decide +kernel
theorem dX7_init_115 : decode cX7_init 115 = .ok (.if_icmp .ge 19, 3) := by decide +kernel
theorem dX7_init_118 : decode cX7_init 118 = .ok (.aload_n 0, 1) := by decide +kernel
theorem dX7_init_119 : decode cX7_init 119 = .ok (.getfield 7, 3) := by decide +kernel
theorem dX7_init_122 : decode cX7_init 122 = .ok (.bipush 8, 2) := by decide +kernel
theorem dX7_init_124 : decode cX7_init 124 = .ok (.iload_n 1, 1) := by decide +kernel
theorem dX7_init_125 : decode cX7_init 125 = .ok (.iadd, 1) := by decide +kernel
theorem dX7_init_126 : decode cX7_init 126 = .ok (.iload_n 1, 1) := by decide +kernel
theorem dX7_init_127 : decode cX7_init 127 = .ok (.iastore, 1) := by decide +kernel
theorem dX7_init_128 : decode cX7_init 128 = .ok (.iinc 1 1, 3) := by decide +kernel
theorem dX7_init_131 : decode cX7_init 131 = .ok (.goto (-19), 3) := by decide +kernel
theorem dX7_init_134 : decode cX7_init 134 = .ok (.return_, 1) := by decide +kernel
theorem dX7_bad_0 : decode cX7_bad 0 = .ok (.aload_n 0, 1) := by decide +kernel
theorem dX7_bad_1 : decode cX7_bad 1 = .ok (.getfield 19, 3) := by decide +kernel
theorem dX7_bad_4 : decode cX7_bad 4 = .ok (.iconst 0, 1) := by decide +kernel
theorem dX7_bad_5 : decode cX7_bad 5 = .ok (.dup2, 1) := by decide +kernel
theorem dX7_bad_6 : decode cX7_bad 6 = .ok (.iaload, 1) := by decide +kernel
theorem dX7_bad_7 : decode cX7_bad 7 = .ok (.iconst 1, 1) := by decide +kernel
theorem dX7_bad_8 : decode cX7_bad 8 = .ok (.iadd, 1) := by decide +kernel
theorem dX7_bad_9 : decode cX7_bad 9 = .ok (.iastore, 1) := by decide +kernel
theorem dX7_bad_10 : decode cX7_bad 10 = .ok (.bipush (-2), 2) := by decide +kernel
theorem dX7_bad_12 : decode cX7_bad 12 = .ok (.ireturn, 1) := by decide +kernel
theorem dX7_no_0 : decode cX7_no 0 = .ok (.aload_n 0, 1) := by decide +kernel
theorem dX7_no_1 : decode cX7_no 1 = .ok (.getfield 19, 3) := by decide +kernel
theorem dX7_no_4 : decode cX7_no 4 = .ok (.iconst 1, 1) := by decide +kernel
theorem dX7_no_5 : decode cX7_no 5 = .ok (.dup2, 1) := by decide +kernel
theorem dX7_no_6 : decode cX7_no 6 = .ok (.iaload, 1) := by decide +kernel
theorem dX7_no_7 : decode cX7_no 7 = .ok (.iconst 1, 1) := by decide +kernel
theorem dX7_no_8 : decode cX7_no 8 = .ok (.iadd, 1) := by decide +kernel
theorem dX7_no_9 : decode cX7_no 9 = .ok (.iastore, 1) := by decide +kernel
theorem dX7_no_10 : decode cX7_no 10 = .ok (.bipush (-3), 2) := by decide +kernel
theorem dX7_no_12 : decode cX7_no 12 = .ok (.ireturn, 1) := by decide +kernel
theorem dX7_full_0 : decode cX7_full 0 = .ok (.aload_n 0, 1) := by decide +kernel
theorem dX7_full_1 : decode cX7_full 1 = .ok (.getfield 19, 3) := by decide +kernel
theorem dX7_full_4 : decode cX7_full 4 = .ok (.iconst 2, 1) := by decide +kernel
theorem dX7_full_5 : decode cX7_full 5 = .ok (.dup2, 1) := by decide +kernel
theorem dX7_full_6 : decode cX7_full 6 = .ok (.iaload, 1) := by decide +kernel
theorem dX7_full_7 : decode cX7_full 7 = .ok (.iconst 1, 1) := by decide +kernel
theorem dX7_full_8 : decode cX7_full 8 = .ok (.iadd, 1) := by decide +kernel
theorem dX7_full_9 : decode cX7_full 9 = .ok (.iastore, 1) := by decide +kernel
theorem dX7_full_10 : decode cX7_full 10 = .ok (.bipush (-4), 2) := by decide +kernel
theorem dX7_full_12 : decode cX7_full 12 = .ok (.ireturn, 1) := by decide +kernel
theorem dX7_within_0 : decode cX7_within 0 = .ok (.iload_n 0, 1) := by decide +kernel
theorem dX7_within_1 : decode cX7_within 1 = .ok (.iload_n 1, 1) := by decide +kernel
theorem dX7_within_2 : decode cX7_within 2 = .ok (.if_icmp .lt 12, 3) := by decide +kernel
theorem dX7_within_5 : decode cX7_within 5 = .ok (.iload_n 0, 1) := by decide +kernel
theorem dX7_within_6 : decode cX7_within 6 = .ok (.iload_n 2, 1) := by decide +kernel
theorem dX7_within_7 : decode cX7_within 7 = .ok (.if_icmp .gt 7, 3) := by decide +kernel
theorem dX7_within_10 : decode cX7_within 10 = .ok (.iconst 1, 1) := by decide +kernel
theorem dX7_within_11 : decode cX7_within 11 = .ok (.goto 4, 3) := by decide +kernel
theorem dX7_within_14 : decode cX7_within 14 = .ok (.iconst 0, 1) := by decide +kernel
theorem dX7_within_15 : decode cX7_within 15 = .ok (.ireturn, 1) := by decide +kernel
theorem dX7_has_0 : decode cX7_has 0 = .ok (.iload_n 0, 1) := by decide +kernel
theorem dX7_has_1 : decode cX7_has 1 = .ok (.iload_n 1, 1) := by decide +kernel
theorem dX7_has_2 : decode cX7_has 2 = .ok (.ishr, 1) := by decide +kernel
theorem dX7_has_3 : decode cX7_has 3 = .ok (.iconst 1, 1) := by decide +kernel
theorem dX7_has_4 : decode cX7_has 4 = .ok (.iand, 1) := by decide +kernel
theorem dX7_has_5 : decode cX7_has 5 = .ok (.iconst 1, 1) := by decide +kernel
theorem dX7_has_6 : decode cX7_has 6 = .ok (.if_icmp .ne 7, 3) := by decide +kernel
theorem dX7_has_9 : decode cX7_has 9 = .ok (.iconst 1, 1) := by decide +kernel
theorem dX7_has_10 : decode cX7_has 10 = .ok (.goto 4, 3) := by decide +kernel
theorem dX7_has_13 : decode cX7_has 13 = .ok (.iconst 0, 1) := by decide +kernel
theorem dX7_has_14 : decode cX7_has 14 = .ok (.ireturn, 1) := by decide +kernel
set_option maxRecDepth 20000 in
theorem ggX7_isVariable_X7_within : GoodIn wsX7_isVariable wsX7_within := goodIn_r _ [4] (by decide +kernel) (by decide +kernel)
set_option maxRecDepth 20000 in
theorem gX7_isVariable_X7_within : GoodIn wsX7_isVariable (va_wsS RX7 50 yX7_within wsX7_within) := goodIn_app (goodIn_of _ (by decide +kernel)) ggX7_isVariable_X7_within
theorem dX7_isVariable_0 : decode cX7_isVariable 0 = .ok (.iload_n 0, 1) := by decide +kernel
theorem dX7_isVariable_1 : decode cX7_isVariable 1 = .ok (.iconst 0, 1) := by decide +kernel
theorem dX7_isVariable_2 : decode cX7_isVariable 2 = .ok (.iconst 5, 1) := by decide +kernel
theorem dX7_isVariable_3 : decode cX7_isVariable 3 = .ok (.invokestatic 50, 3) := by decide +kernel
theorem dX7_isVariable_6 : decode cX7_isVariable 6 = .ok (.ireturn, 1) := by decide +kernel
set_option maxRecDepth 20000 in
theorem ggX7_isNumber_X7_within : GoodIn wsX7_isNumber wsX7_within := goodIn_r _ [4] (by decide +kernel) (by decide +kernel)
set_option maxRecDepth 20000 in
theorem gX7_isNumber_X7_within : GoodIn wsX7_isNumber (va_wsS RX7 50 yX7_within wsX7_within) := goodIn_app (goodIn_of _ (by decide +kernel)) ggX7_isNumber_X7_within
theorem dX7_isNumber_0 : decode cX7_isNumber 0 = .ok (.iload_n 0, 1) := by decide +kernel
theorem dX7_isNumber_1 : decode cX7_isNumber 1 = .ok (.iconst 0, 1) := by decide +kernel
theorem dX7_isNumber_2 : decode cX7_isNumber 2 = .ok (.bipush 15, 2) := by decide +kernel
theorem dX7_isNumber_4 : decode cX7_isNumber 4 = .ok (.invokestatic 50, 3) := by decide +kernel
theorem dX7_isNumber_7 : decode cX7_isNumber 7 = .ok (.ireturn, 1) := by decide +kernel
set_option maxRecDepth 20000 in
theorem ggX7_isLine_X7_within : GoodIn wsX7_isLine wsX7_within := goodIn_r _ [5] (by decide +kernel) (by decide +kernel)
set_option maxRecDepth 20000 in
theorem gX7_isLine_X7_within : GoodIn wsX7_isLine (va_wsS RX7 50 yX7_within wsX7_within) := goodIn_app (goodIn_of _ (by decide +kernel)) ggX7_isLine_X7_within
theorem dX7_isLine_0 : decode cX7_isLine 0 = .ok (.iload_n 1, 1) := by decide +kernel
theorem dX7_isLine_1 : decode cX7_isLine 1 = .ok (.iconst 0, 1) := by decide +kernel
theorem dX7_isLine_2 : decode cX7_isLine 2 = .ok (.aload_n 0, 1) := by decide +kernel
theorem dX7_isLine_3 : decode cX7_isLine 3 = .ok (.getfield 7, 3) := by decide +kernel
theorem dX7_isLine_6 : decode cX7_isLine 6 = .ok (.iconst 0, 1) := by decide +kernel
theorem dX7_isLine_7 : decode cX7_isLine 7 = .ok (.iaload, 1) := by decide +kernel
theorem dX7_isLine_8 : decode cX7_isLine 8 = .ok (.iconst 1, 1) := by decide +kernel
theorem dX7_isLine_9 : decode cX7_isLine 9 = .ok (.isub, 1) := by decide +kernel
theorem dX7_isLine_10 : decode cX7_isLine 10 = .ok (.invokestatic 50, 3) := by decide +kernel
theorem dX7_isLine_13 : decode cX7_isLine 13 = .ok (.ireturn, 1) := by decide +kernel
theorem dX7_partOf_0 : decode cX7_partOf 0 = .ok (.aload_n 0, 1) := by decide +kernel
theorem dX7_partOf_1 : decode cX7_partOf 1 = .ok (.getfield 7, 3) := by decide +kernel
theorem dX7_partOf_4 : decode cX7_partOf 4 = .ok (.bipush 24, 2) := by decide +kernel
theorem dX7_partOf_6 : decode cX7_partOf 6 = .ok (.iconst 4, 1) := by decide +kernel
theorem dX7_partOf_7 : decode cX7_partOf 7 = .ok (.iload_n 1, 1) := by decide +kernel
theorem dX7_partOf_8 : decode cX7_partOf 8 = .ok (.imul, 1) := by decide +kernel
theorem dX7_partOf_9 : decode cX7_partOf 9 = .ok (.iadd, 1) := by decide +kernel
theorem dX7_partOf_10 : decode cX7_partOf 10 = .ok (.iload_n 2, 1) := by decide +kernel
theorem dX7_partOf_11 : decode cX7_partOf 11 = .ok (.iadd, 1) := by decide +kernel
theorem dX7_partOf_12 : decode cX7_partOf 12 = .ok (.iaload, 1) := by decide +kernel
theorem dX7_partOf_13 : decode cX7_partOf 13 = .ok (.ireturn, 1) := by decide +kernel
theorem dX7_laysAside_0 : decode cX7_laysAside 0 = .ok (.iconst 0, 1) := by decide +kernel
theorem dX7_laysAside_1 : decode cX7_laysAside 1 = .ok (.istore_n 1, 1) := by decide +kernel
theorem dX7_laysAside_2 : decode cX7_laysAside 2 = .ok (.iload_n 1, 1) := by decide +kernel
theorem dX7_laysAside_3 : decode cX7_laysAside 3 = .ok (.bipush 104, 2) := by decide +kernel
theorem dX7_laysAside_5 : decode cX7_laysAside 5 = .ok (.if_icmp .ge 21, 3) := by decide +kernel
theorem dX7_laysAside_8 : decode cX7_laysAside 8 = .ok (.aload_n 0, 1) := by decide +kernel
theorem dX7_laysAside_9 : decode cX7_laysAside 9 = .ok (.getfield 13, 3) := by decide +kernel
theorem dX7_laysAside_12 : decode cX7_laysAside 12 = .ok (.iload_n 1, 1) := by decide +kernel
theorem dX7_laysAside_13 : decode cX7_laysAside 13 = .ok (.aload_n 0, 1) := by decide +kernel
theorem dX7_laysAside_14 : decode cX7_laysAside 14 = .ok (.getfield 7, 3) := by decide +kernel
theorem dX7_laysAside_17 : decode cX7_laysAside 17 = .ok (.iload_n 1, 1) := by decide +kernel
theorem dX7_laysAside_18 : decode cX7_laysAside 18 = .ok (.iaload, 1) := by decide +kernel
theorem dX7_laysAside_19 : decode cX7_laysAside 19 = .ok (.iastore, 1) := by decide +kernel
theorem dX7_laysAside_20 : decode cX7_laysAside 20 = .ok (.iinc 1 1, 3) := by decide +kernel
theorem dX7_laysAside_23 : decode cX7_laysAside 23 = .ok (.goto (-21), 3) := by decide +kernel
theorem dX7_laysAside_26 : decode cX7_laysAside 26 = .ok (.return_, 1) := by decide +kernel
theorem dX7_leaves_0 : decode cX7_leaves 0 = .ok (.aload_n 0, 1) := by decide +kernel
theorem dX7_leaves_1 : decode cX7_leaves 1 = .ok (.getfield 54, 3) := by decide +kernel
theorem dX7_leaves_4 : decode cX7_leaves 4 = .ok (.iconst 5, 1) := by decide +kernel
theorem dX7_leaves_5 : decode cX7_leaves 5 = .ok (.if_icmp .ne 43, 3) := by decide +kernel
theorem dX7_leaves_8 : decode cX7_leaves 8 = .ok (.iconst 0, 1) := by decide +kernel
theorem dX7_leaves_9 : decode cX7_leaves 9 = .ok (.istore_n 1, 1) := by decide +kernel
theorem dX7_leaves_10 : decode cX7_leaves 10 = .ok (.iload_n 1, 1) := by decide +kernel
theorem dX7_leaves_11 : decode cX7_leaves 11 = .ok (.sipush 416, 3) := by decide +kernel
theorem dX7_leaves_14 : decode cX7_leaves 14 = .ok (.if_icmp .ge 24, 3) := by decide +kernel
theorem dX7_leaves_17 : decode cX7_leaves 17 = .ok (.aload_n 0, 1) := by decide +kernel
theorem dX7_leaves_18 : decode cX7_leaves 18 = .ok (.getfield 16, 3) := by decide +kernel
theorem dX7_leaves_21 : decode cX7_leaves 21 = .ok (.iload_n 1, 1) := by decide +kernel
theorem dX7_leaves_22 : decode cX7_leaves 22 = .ok (.aload_n 0, 1) := by decide +kernel
theorem dX7_leaves_23 : decode cX7_leaves 23 = .ok (.getfield 16, 3) := by decide +kernel
theorem dX7_leaves_26 : decode cX7_leaves 26 = .ok (.iload_n 1, 1) := by decide +kernel
theorem dX7_leaves_27 : decode cX7_leaves 27 = .ok (.bipush 104, 2) := by decide +kernel
theorem dX7_leaves_29 : decode cX7_leaves 29 = .ok (.iadd, 1) := by decide +kernel
theorem dX7_leaves_30 : decode cX7_leaves 30 = .ok (.iaload, 1) := by decide +kernel
theorem dX7_leaves_31 : decode cX7_leaves 31 = .ok (.iastore, 1) := by decide +kernel
theorem dX7_leaves_32 : decode cX7_leaves 32 = .ok (.iinc 1 1, 3) := by decide +kernel
theorem dX7_leaves_35 : decode cX7_leaves 35 = .ok (.goto (-25), 3) := by decide +kernel
theorem dX7_leaves_38 : decode cX7_leaves 38 = .ok (.aload_n 0, 1) := by decide +kernel
theorem dX7_leaves_39 : decode cX7_leaves 39 = .ok (.dup, 1) := by decide +kernel
theorem dX7_leaves_40 : decode cX7_leaves 40 = .ok (.getfield 54, 3) := by decide +kernel
theorem dX7_leaves_43 : decode cX7_leaves 43 = .ok (.iconst 1, 1) := by decide +kernel
theorem dX7_leaves_44 : decode cX7_leaves 44 = .ok (.isub, 1) := by decide +kernel
theorem dX7_leaves_45 : decode cX7_leaves 45 = .ok (.putfield 54, 3) := by decide +kernel
theorem dX7_leaves_48 : decode cX7_leaves 48 = .ok (.iconst 0, 1) := by decide +kernel
theorem dX7_leaves_49 : decode cX7_leaves 49 = .ok (.istore_n 1, 1) := by decide +kernel
theorem dX7_leaves_50 : decode cX7_leaves 50 = .ok (.iload_n 1, 1) := by decide +kernel
theorem dX7_leaves_51 : decode cX7_leaves 51 = .ok (.bipush 104, 2) := by decide +kernel
theorem dX7_leaves_53 : decode cX7_leaves 53 = .ok (.if_icmp .ge 29, 3) := by decide +kernel
theorem dX7_leaves_56 : decode cX7_leaves 56 = .ok (.aload_n 0, 1) := by decide +kernel
theorem dX7_leaves_57 : decode cX7_leaves 57 = .ok (.getfield 16, 3) := by decide +kernel
theorem dX7_leaves_60 : decode cX7_leaves 60 = .ok (.bipush 104, 2) := by decide +kernel
theorem dX7_leaves_62 : decode cX7_leaves 62 = .ok (.aload_n 0, 1) := by decide +kernel
theorem dX7_leaves_63 : decode cX7_leaves 63 = .ok (.getfield 54, 3) := by decide +kernel
theorem dX7_leaves_66 : decode cX7_leaves 66 = .ok (.imul, 1) := by decide +kernel
theorem dX7_leaves_67 : decode cX7_leaves 67 = .ok (.iload_n 1, 1) := by decide +kernel
theorem dX7_leaves_68 : decode cX7_leaves 68 = .ok (.iadd, 1) := by decide +kernel
theorem dX7_leaves_69 : decode cX7_leaves 69 = .ok (.aload_n 0, 1) := by decide +kernel
theorem dX7_leaves_70 : decode cX7_leaves 70 = .ok (.getfield 13, 3) := by decide +kernel
theorem dX7_leaves_73 : decode cX7_leaves 73 = .ok (.iload_n 1, 1) := by decide +kernel
theorem dX7_leaves_74 : decode cX7_leaves 74 = .ok (.iaload, 1) := by decide +kernel
theorem dX7_leaves_75 : decode cX7_leaves 75 = .ok (.iastore, 1) := by decide +kernel
theorem dX7_leaves_76 : decode cX7_leaves 76 = .ok (.iinc 1 1, 3) := by decide +kernel
theorem dX7_leaves_79 : decode cX7_leaves 79 = .ok (.goto (-29), 3) := by decide +kernel
theorem dX7_leaves_82 : decode cX7_leaves 82 = .ok (.aload_n 0, 1) := by decide +kernel
theorem dX7_leaves_83 : decode cX7_leaves 83 = .ok (.dup, 1) := by decide +kernel
theorem dX7_leaves_84 : decode cX7_leaves 84 = .ok (.getfield 54, 3) := by decide +kernel
theorem dX7_leaves_87 : decode cX7_leaves 87 = .ok (.iconst 1, 1) := by decide +kernel
theorem dX7_leaves_88 : decode cX7_leaves 88 = .ok (.iadd, 1) := by decide +kernel
theorem dX7_leaves_89 : decode cX7_leaves 89 = .ok (.putfield 54, 3) := by decide +kernel
theorem dX7_leaves_92 : decode cX7_leaves 92 = .ok (.return_, 1) := by decide +kernel
set_option maxRecDepth 20000 in
theorem ggX7_back_X7_no : GoodIn wsX7_back wsX7_no := goodIn_r _ [8, 9, 10, 11, 12, 13, 14, 15, 16, 17, 18, 19, 20, 21, 22, 23, 24, 25, 26, 27, 28, 29, 30, 31, 32, 33] (by decide +kernel) (by decide +kernel)
set_option maxRecDepth 20000 in
theorem gX7_back_X7_no : GoodIn wsX7_back (wsV RX7 58 RX7 yX7_no wsX7_no) := goodIn_app (goodIn_of _ (by decide +kernel)) ggX7_back_X7_no
theorem dX7_back_0 : decode cX7_back 0 = .ok (.aload_n 0, 1) := by decide +kernel
theorem dX7_back_1 : decode cX7_back 1 = .ok (.getfield 54, 3) := by decide +kernel
theorem dX7_back_4 : decode cX7_back 4 = .ok (.ifCond .ne 8, 3) := by decide +kernel
theorem dX7_back_7 : decode cX7_back 7 = .ok (.aload_n 0, 1) := by decide +kernel
theorem dX7_back_8 : decode cX7_back 8 = .ok (.invokevirtual 58, 3) := by decide +kernel
theorem dX7_back_11 : decode cX7_back 11 = .ok (.ireturn, 1) := by decide +kernel
theorem dX7_back_12 : decode cX7_back 12 = .ok (.aload_n 0, 1) := by decide +kernel
theorem dX7_back_13 : decode cX7_back 13 = .ok (.dup, 1) := by decide +kernel
theorem dX7_back_14 : decode cX7_back 14 = .ok (.getfield 54, 3) := by decide +kernel
theorem dX7_back_17 : decode cX7_back 17 = .ok (.iconst 1, 1) := by decide +kernel
theorem dX7_back_18 : decode cX7_back 18 = .ok (.isub, 1) := by decide +kernel
theorem dX7_back_19 : decode cX7_back 19 = .ok (.putfield 54, 3) := by decide +kernel
theorem dX7_back_22 : decode cX7_back 22 = .ok (.iconst 0, 1) := by decide +kernel
theorem dX7_back_23 : decode cX7_back 23 = .ok (.istore_n 1, 1) := by decide +kernel
theorem dX7_back_24 : decode cX7_back 24 = .ok (.iload_n 1, 1) := by decide +kernel
theorem dX7_back_25 : decode cX7_back 25 = .ok (.bipush 104, 2) := by decide +kernel
theorem dX7_back_27 : decode cX7_back 27 = .ok (.if_icmp .ge 29, 3) := by decide +kernel
theorem dX7_back_30 : decode cX7_back 30 = .ok (.aload_n 0, 1) := by decide +kernel
theorem dX7_back_31 : decode cX7_back 31 = .ok (.getfield 7, 3) := by decide +kernel
theorem dX7_back_34 : decode cX7_back 34 = .ok (.iload_n 1, 1) := by decide +kernel
theorem dX7_back_35 : decode cX7_back 35 = .ok (.aload_n 0, 1) := by decide +kernel
theorem dX7_back_36 : decode cX7_back 36 = .ok (.getfield 16, 3) := by decide +kernel
theorem dX7_back_39 : decode cX7_back 39 = .ok (.bipush 104, 2) := by decide +kernel
theorem dX7_back_41 : decode cX7_back 41 = .ok (.aload_n 0, 1) := by decide +kernel
theorem dX7_back_42 : decode cX7_back 42 = .ok (.getfield 54, 3) := by decide +kernel
theorem dX7_back_45 : decode cX7_back 45 = .ok (.imul, 1) := by decide +kernel
theorem dX7_back_46 : decode cX7_back 46 = .ok (.iload_n 1, 1) := by decide +kernel
theorem dX7_back_47 : decode cX7_back 47 = .ok (.iadd, 1) := by decide +kernel
theorem dX7_back_48 : decode cX7_back 48 = .ok (.iaload, 1) := by decide +kernel
theorem dX7_back_49 : decode cX7_back 49 = .ok (.iastore, 1) := by decide +kernel
theorem dX7_back_50 : decode cX7_back 50 = .ok (.iinc 1 1, 3) := by decide +kernel
theorem dX7_back_53 : decode cX7_back 53 = .ok (.goto (-29), 3) := by decide +kernel
theorem dX7_back_56 : decode cX7_back 56 = .ok (.aload_n 0, 1) := by decide +kernel
theorem dX7_back_57 : decode cX7_back 57 = .ok (.getfield 54, 3) := by decide +kernel
theorem dX7_back_60 : decode cX7_back 60 = .ok (.ireturn, 1) := by decide +kernel
set_option maxRecDepth 20000 in
theorem ggX7_answers_X7_leaves : GoodIn wsX7_answers wsX7_leaves := goodIn_r _ [5, 6, 7, 8, 18, 19, 20, 21, 22, 23, 24, 25, 26, 27, 28, 29, 30, 31, 32, 33, 34, 35, 36, 37, 38, 39, 40, 41] (by decide +kernel) (by decide +kernel)
set_option maxRecDepth 20000 in
theorem gX7_answers_X7_leaves : GoodIn wsX7_answers (wsV RX7 62 RX7 yX7_leaves wsX7_leaves) := goodIn_app (goodIn_of _ (by decide +kernel)) ggX7_answers_X7_leaves
set_option maxRecDepth 20000 in
theorem ggX7_answers_X7_full : GoodIn wsX7_answers wsX7_full := goodIn_r _ [12, 13, 18, 19, 20, 21, 22, 23, 24, 25, 26, 27, 28, 29, 30, 31, 32, 33, 34, 35, 36, 37, 38, 39, 40, 41] (by decide +kernel) (by decide +kernel)
set_option maxRecDepth 20000 in
theorem gX7_answers_X7_full : GoodIn wsX7_answers (wsV RX7 65 RX7 yX7_full wsX7_full) := goodIn_app (goodIn_of _ (by decide +kernel)) ggX7_answers_X7_full
set_option maxRecDepth 20000 in
theorem ggX7_answers_X7_bad : GoodIn wsX7_answers wsX7_bad := goodIn_r _ [17, 13, 18, 19, 20, 21, 22, 23, 24, 25, 26, 27, 28, 29, 30, 31, 32, 33, 34, 35, 36, 37, 38, 39, 40, 41] (by decide +kernel) (by decide +kernel)
set_option maxRecDepth 20000 in
theorem gX7_answers_X7_bad : GoodIn wsX7_answers (wsV RX7 68 RX7 yX7_bad wsX7_bad) := goodIn_app (goodIn_of _ (by decide +kernel)) ggX7_answers_X7_bad
theorem dX7_answers_0 : decode cX7_answers 0 = .ok (.iload_n 1, 1) := by decide +kernel
theorem dX7_answers_1 : decode cX7_answers 1 = .ok (.ifCond .lt 9, 3) := by decide +kernel
theorem dX7_answers_4 : decode cX7_answers 4 = .ok (.aload_n 0, 1) := by decide +kernel
theorem dX7_answers_5 : decode cX7_answers 5 = .ok (.invokevirtual 62, 3) := by decide +kernel
theorem dX7_answers_8 : decode cX7_answers 8 = .ok (.iload_n 1, 1) := by decide +kernel
theorem dX7_answers_9 : decode cX7_answers 9 = .ok (.ireturn, 1) := by decide +kernel
theorem dX7_answers_10 : decode cX7_answers 10 = .ok (.iload_n 1, 1) := by decide +kernel
theorem dX7_answers_11 : decode cX7_answers 11 = .ok (.bipush (-4), 2) := by decide +kernel
theorem dX7_answers_13 : decode cX7_answers 13 = .ok (.if_icmp .ne 10, 3) := by decide +kernel
theorem dX7_answers_16 : decode cX7_answers 16 = .ok (.aload_n 0, 1) := by decide +kernel
theorem dX7_answers_17 : decode cX7_answers 17 = .ok (.invokevirtual 65, 3) := by decide +kernel
theorem dX7_answers_20 : decode cX7_answers 20 = .ok (.goto 7, 3) := by decide +kernel
theorem dX7_answers_23 : decode cX7_answers 23 = .ok (.aload_n 0, 1) := by decide +kernel
theorem dX7_answers_24 : decode cX7_answers 24 = .ok (.invokevirtual 68, 3) := by decide +kernel
theorem dX7_answers_27 : decode cX7_answers 27 = .ok (.ireturn, 1) := by decide +kernel
set_option maxRecDepth 20000 in
theorem ggX7_isY_X7_isNumber : GoodIn wsX7_isY wsX7_isNumber := goodIn_r _ [4, 5, 6, 3, 7] (by decide +kernel) (by decide +kernel)
set_option maxRecDepth 20000 in
theorem gX7_isY_X7_isNumber : GoodIn wsX7_isY (va_wsS RX7 71 yX7_isNumber wsX7_isNumber) := goodIn_app (goodIn_of _ (by decide +kernel)) ggX7_isY_X7_isNumber
set_option maxRecDepth 20000 in
theorem ggX7_isY_X7_within : GoodIn wsX7_isY wsX7_within := goodIn_r _ [7] (by decide +kernel) (by decide +kernel)
set_option maxRecDepth 20000 in
theorem gX7_isY_X7_within : GoodIn wsX7_isY (va_wsS RX7 50 yX7_within wsX7_within) := goodIn_app (goodIn_of _ (by decide +kernel)) ggX7_isY_X7_within
set_option maxRecDepth 20000 in
theorem ggX7_isY_X7_isVariable : GoodIn wsX7_isY wsX7_isVariable := goodIn_r _ [10, 5, 6, 3, 7] (by decide +kernel) (by decide +kernel)
set_option maxRecDepth 20000 in
theorem gX7_isY_X7_isVariable : GoodIn wsX7_isY (va_wsS RX7 75 yX7_isVariable wsX7_isVariable) := goodIn_app (goodIn_of _ (by decide +kernel)) ggX7_isY_X7_isVariable
theorem dX7_isY_0 : decode cX7_isY 0 = .ok (.iload_n 0, 1) := by decide +kernel
theorem dX7_isY_1 : decode cX7_isY 1 = .ok (.ifCond .ne 10, 3) := by decide +kernel
theorem dX7_isY_4 : decode cX7_isY 4 = .ok (.iload_n 1, 1) := by decide +kernel
theorem dX7_isY_5 : decode cX7_isY 5 = .ok (.invokestatic 71, 3) := by decide +kernel
theorem dX7_isY_8 : decode cX7_isY 8 = .ok (.goto 23, 3) := by decide +kernel
theorem dX7_isY_11 : decode cX7_isY 11 = .ok (.iload_n 0, 1) := by decide +kernel
theorem dX7_isY_12 : decode cX7_isY 12 = .ok (.bipush 7, 2) := by decide +kernel
theorem dX7_isY_14 : decode cX7_isY 14 = .ok (.if_icmp .ne 13, 3) := by decide +kernel
theorem dX7_isY_17 : decode cX7_isY 17 = .ok (.iload_n 1, 1) := by decide +kernel
theorem dX7_isY_18 : decode cX7_isY 18 = .ok (.iconst 0, 1) := by decide +kernel
theorem dX7_isY_19 : decode cX7_isY 19 = .ok (.bipush 20, 2) := by decide +kernel
theorem dX7_isY_21 : decode cX7_isY 21 = .ok (.invokestatic 50, 3) := by decide +kernel
theorem dX7_isY_24 : decode cX7_isY 24 = .ok (.goto 7, 3) := by decide +kernel
theorem dX7_isY_27 : decode cX7_isY 27 = .ok (.iload_n 1, 1) := by decide +kernel
theorem dX7_isY_28 : decode cX7_isY 28 = .ok (.invokestatic 75, 3) := by decide +kernel
theorem dX7_isY_31 : decode cX7_isY 31 = .ok (.ireturn, 1) := by decide +kernel
set_option maxRecDepth 20000 in
theorem ggX7_addsLine_X7_within : GoodIn wsX7_addsLine wsX7_within := goodIn_r _ [5] (by decide +kernel) (by decide +kernel)
set_option maxRecDepth 20000 in
theorem gX7_addsLine_X7_within : GoodIn wsX7_addsLine (va_wsS RX7 50 yX7_within wsX7_within) := goodIn_app (goodIn_of _ (by decide +kernel)) ggX7_addsLine_X7_within
set_option maxRecDepth 20000 in
theorem ggX7_addsLine_X7_isVariable : GoodIn wsX7_addsLine wsX7_isVariable := goodIn_r _ [8, 2, 3, 4, 5] (by decide +kernel) (by decide +kernel)
set_option maxRecDepth 20000 in
theorem gX7_addsLine_X7_isVariable : GoodIn wsX7_addsLine (va_wsS RX7 75 yX7_isVariable wsX7_isVariable) := goodIn_app (goodIn_of _ (by decide +kernel)) ggX7_addsLine_X7_isVariable
set_option maxRecDepth 20000 in
theorem ggX7_addsLine_X7_isY : GoodIn wsX7_addsLine wsX7_isY := goodIn_r _ [11, 12, 13, 4, 14, 2, 3, 5, 6, 7, 8] (by decide +kernel) (by decide +kernel)
set_option maxRecDepth 20000 in
theorem gX7_addsLine_X7_isY : GoodIn wsX7_addsLine (va_wsS RX7 78 yX7_isY wsX7_isY) := goodIn_app (goodIn_of _ (by decide +kernel)) ggX7_addsLine_X7_isY
theorem dX7_addsLine_0 : decode cX7_addsLine 0 = .ok (.iload_n 1, 1) := by decide +kernel
theorem dX7_addsLine_1 : decode cX7_addsLine 1 = .ok (.iconst 0, 1) := by decide +kernel
theorem dX7_addsLine_2 : decode cX7_addsLine 2 = .ok (.bipush 8, 2) := by decide +kernel
theorem dX7_addsLine_4 : decode cX7_addsLine 4 = .ok (.invokestatic 50, 3) := by decide +kernel
theorem dX7_addsLine_7 : decode cX7_addsLine 7 = .ok (.ifCond .eq 22, 3) := by decide +kernel
theorem dX7_addsLine_10 : decode cX7_addsLine 10 = .ok (.iload_n 2, 1) := by decide +kernel
theorem dX7_addsLine_11 : decode cX7_addsLine 11 = .ok (.invokestatic 75, 3) := by decide +kernel
theorem dX7_addsLine_14 : decode cX7_addsLine 14 = .ok (.ifCond .eq 15, 3) := by decide +kernel
theorem dX7_addsLine_17 : decode cX7_addsLine 17 = .ok (.iload_n 1, 1) := by decide +kernel
theorem dX7_addsLine_18 : decode cX7_addsLine 18 = .ok (.iload_n 3, 1) := by decide +kernel
theorem dX7_addsLine_19 : decode cX7_addsLine 19 = .ok (.invokestatic 78, 3) := by decide +kernel
theorem dX7_addsLine_22 : decode cX7_addsLine 22 = .ok (.ifCond .eq 7, 3) := by decide +kernel
theorem dX7_addsLine_25 : decode cX7_addsLine 25 = .ok (.iconst 1, 1) := by decide +kernel
theorem dX7_addsLine_26 : decode cX7_addsLine 26 = .ok (.goto 4, 3) := by decide +kernel
theorem dX7_addsLine_29 : decode cX7_addsLine 29 = .ok (.iconst 0, 1) := by decide +kernel
theorem dX7_addsLine_30 : decode cX7_addsLine 30 = .ok (.istore 5, 2) := by decide +kernel
theorem dX7_addsLine_32 : decode cX7_addsLine 32 = .ok (.iload 5, 2) := by decide +kernel
theorem dX7_addsLine_34 : decode cX7_addsLine 34 = .ok (.ifCond .eq 25, 3) := by decide +kernel
theorem dX7_addsLine_37 : decode cX7_addsLine 37 = .ok (.iload_n 1, 1) := by decide +kernel
theorem dX7_addsLine_38 : decode cX7_addsLine 38 = .ok (.bipush 8, 2) := by decide +kernel
theorem dX7_addsLine_40 : decode cX7_addsLine 40 = .ok (.if_icmp .ne 14, 3) := by decide +kernel
theorem dX7_addsLine_43 : decode cX7_addsLine 43 = .ok (.iload 4, 2) := by decide +kernel
theorem dX7_addsLine_45 : decode cX7_addsLine 45 = .ok (.invokestatic 75, 3) := by decide +kernel
theorem dX7_addsLine_48 : decode cX7_addsLine 48 = .ok (.ifCond .ne 14, 3) := by decide +kernel
theorem dX7_addsLine_51 : decode cX7_addsLine 51 = .ok (.goto 8, 3) := by decide +kernel
theorem dX7_addsLine_54 : decode cX7_addsLine 54 = .ok (.iload 4, 2) := by decide +kernel
theorem dX7_addsLine_56 : decode cX7_addsLine 56 = .ok (.ifCond .eq 6, 3) := by decide +kernel
theorem dX7_addsLine_59 : decode cX7_addsLine 59 = .ok (.bipush (-2), 2) := by decide +kernel
theorem dX7_addsLine_61 : decode cX7_addsLine 61 = .ok (.ireturn, 1) := by decide +kernel
theorem dX7_addsLine_62 : decode cX7_addsLine 62 = .ok (.aload_n 0, 1) := by decide +kernel
theorem dX7_addsLine_63 : decode cX7_addsLine 63 = .ok (.getfield 7, 3) := by decide +kernel
theorem dX7_addsLine_66 : decode cX7_addsLine 66 = .ok (.iconst 0, 1) := by decide +kernel
theorem dX7_addsLine_67 : decode cX7_addsLine 67 = .ok (.iaload, 1) := by decide +kernel
