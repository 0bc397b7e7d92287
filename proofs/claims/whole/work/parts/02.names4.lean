theorem dX7_addsLine_68 : decode cX7_addsLine 68 = .ok (.bipush 20, 2) := by decide +kernel
theorem dX7_addsLine_70 : decode cX7_addsLine 70 = .ok (.if_icmp .ne 6, 3) := by decide +kernel
theorem dX7_addsLine_73 : decode cX7_addsLine 73 = .ok (.bipush (-4), 2) := by decide +kernel
theorem dX7_addsLine_75 : decode cX7_addsLine 75 = .ok (.ireturn, 1) := by decide +kernel
theorem dX7_addsLine_76 : decode cX7_addsLine 76 = .ok (.bipush 24, 2) := by decide +kernel
theorem dX7_addsLine_78 : decode cX7_addsLine 78 = .ok (.iconst 4, 1) := by decide +kernel
theorem dX7_addsLine_79 : decode cX7_addsLine 79 = .ok (.aload_n 0, 1) := by decide +kernel
theorem dX7_addsLine_80 : decode cX7_addsLine 80 = .ok (.getfield 7, 3) := by decide +kernel
theorem dX7_addsLine_83 : decode cX7_addsLine 83 = .ok (.iconst 0, 1) := by decide +kernel
theorem dX7_addsLine_84 : decode cX7_addsLine 84 = .ok (.iaload, 1) := by decide +kernel
theorem dX7_addsLine_85 : decode cX7_addsLine 85 = .ok (.imul, 1) := by decide +kernel
theorem dX7_addsLine_86 : decode cX7_addsLine 86 = .ok (.iadd, 1) := by decide +kernel
theorem dX7_addsLine_87 : decode cX7_addsLine 87 = .ok (.istore 6, 2) := by decide +kernel
theorem dX7_addsLine_89 : decode cX7_addsLine 89 = .ok (.aload_n 0, 1) := by decide +kernel
theorem dX7_addsLine_90 : decode cX7_addsLine 90 = .ok (.getfield 7, 3) := by decide +kernel
theorem dX7_addsLine_93 : decode cX7_addsLine 93 = .ok (.iload 6, 2) := by decide +kernel
theorem dX7_addsLine_95 : decode cX7_addsLine 95 = .ok (.iload_n 1, 1) := by decide +kernel
theorem dX7_addsLine_96 : decode cX7_addsLine 96 = .ok (.iastore, 1) := by decide +kernel
theorem dX7_addsLine_97 : decode cX7_addsLine 97 = .ok (.aload_n 0, 1) := by decide +kernel
theorem dX7_addsLine_98 : decode cX7_addsLine 98 = .ok (.getfield 7, 3) := by decide +kernel
theorem dX7_addsLine_101 : decode cX7_addsLine 101 = .ok (.iload 6, 2) := by decide +kernel
theorem dX7_addsLine_103 : decode cX7_addsLine 103 = .ok (.iconst 1, 1) := by decide +kernel
theorem dX7_addsLine_104 : decode cX7_addsLine 104 = .ok (.iadd, 1) := by decide +kernel
theorem dX7_addsLine_105 : decode cX7_addsLine 105 = .ok (.iload_n 2, 1) := by decide +kernel
theorem dX7_addsLine_106 : decode cX7_addsLine 106 = .ok (.iastore, 1) := by decide +kernel
theorem dX7_addsLine_107 : decode cX7_addsLine 107 = .ok (.aload_n 0, 1) := by decide +kernel
theorem dX7_addsLine_108 : decode cX7_addsLine 108 = .ok (.getfield 7, 3) := by decide +kernel
theorem dX7_addsLine_111 : decode cX7_addsLine 111 = .ok (.iload 6, 2) := by decide +kernel
theorem dX7_addsLine_113 : decode cX7_addsLine 113 = .ok (.iconst 2, 1) := by decide +kernel
theorem dX7_addsLine_114 : decode cX7_addsLine 114 = .ok (.iadd, 1) := by decide +kernel
theorem dX7_addsLine_115 : decode cX7_addsLine 115 = .ok (.iload_n 3, 1) := by decide +kernel
theorem dX7_addsLine_116 : decode cX7_addsLine 116 = .ok (.iastore, 1) := by decide +kernel
theorem dX7_addsLine_117 : decode cX7_addsLine 117 = .ok (.aload_n 0, 1) := by decide +kernel
theorem dX7_addsLine_118 : decode cX7_addsLine 118 = .ok (.getfield 7, 3) := by decide +kernel
theorem dX7_addsLine_121 : decode cX7_addsLine 121 = .ok (.iload 6, 2) := by decide +kernel
theorem dX7_addsLine_123 : decode cX7_addsLine 123 = .ok (.iconst 3, 1) := by decide +kernel
theorem dX7_addsLine_124 : decode cX7_addsLine 124 = .ok (.iadd, 1) := by decide +kernel
theorem dX7_addsLine_125 : decode cX7_addsLine 125 = .ok (.iload 4, 2) := by decide +kernel
theorem dX7_addsLine_127 : decode cX7_addsLine 127 = .ok (.iastore, 1) := by decide +kernel
theorem dX7_addsLine_128 : decode cX7_addsLine 128 = .ok (.aload_n 0, 1) := by decide +kernel
theorem dX7_addsLine_129 : decode cX7_addsLine 129 = .ok (.getfield 7, 3) := by decide +kernel
theorem dX7_addsLine_132 : decode cX7_addsLine 132 = .ok (.iconst 0, 1) := by decide +kernel
theorem dX7_addsLine_133 : decode cX7_addsLine 133 = .ok (.dup2, 1) := by decide +kernel
theorem dX7_addsLine_134 : decode cX7_addsLine 134 = .ok (.iaload, 1) := by decide +kernel
theorem dX7_addsLine_135 : decode cX7_addsLine 135 = .ok (.iconst 1, 1) := by decide +kernel
theorem dX7_addsLine_136 : decode cX7_addsLine 136 = .ok (.iadd, 1) := by decide +kernel
theorem dX7_addsLine_137 : decode cX7_addsLine 137 = .ok (.iastore, 1) := by decide +kernel
theorem dX7_addsLine_138 : decode cX7_addsLine 138 = .ok (.aload_n 0, 1) := by decide +kernel
theorem dX7_addsLine_139 : decode cX7_addsLine 139 = .ok (.getfield 7, 3) := by decide +kernel
theorem dX7_addsLine_142 : decode cX7_addsLine 142 = .ok (.iconst 0, 1) := by decide +kernel
theorem dX7_addsLine_143 : decode cX7_addsLine 143 = .ok (.iaload, 1) := by decide +kernel
theorem dX7_addsLine_144 : decode cX7_addsLine 144 = .ok (.iconst 1, 1) := by decide +kernel
theorem dX7_addsLine_145 : decode cX7_addsLine 145 = .ok (.isub, 1) := by decide +kernel
theorem dX7_addsLine_146 : decode cX7_addsLine 146 = .ok (.ireturn, 1) := by decide +kernel
set_option maxRecDepth 20000 in
theorem ggX7_dropsLine_X7_isLine : GoodIn wsX7_dropsLine wsX7_isLine := goodIn_r _ [6, 1, 7, 8, 5, 9, 10, 11, 12, 13, 14, 15, 16, 17, 18, 19, 20, 21, 22, 23, 24, 25, 26, 27, 28, 29, 30, 31, 32, 33] (by decide +kernel) (by decide +kernel)
set_option maxRecDepth 20000 in
theorem gX7_dropsLine_X7_isLine : GoodIn wsX7_dropsLine (wsV RX7 82 RX7 yX7_isLine wsX7_isLine) := goodIn_app (goodIn_of _ (by decide +kernel)) ggX7_dropsLine_X7_isLine
theorem dX7_dropsLine_0 : decode cX7_dropsLine 0 = .ok (.aload_n 0, 1) := by decide +kernel
theorem dX7_dropsLine_1 : decode cX7_dropsLine 1 = .ok (.iload_n 1, 1) := by decide +kernel
theorem dX7_dropsLine_2 : decode cX7_dropsLine 2 = .ok (.invokevirtual 82, 3) := by decide +kernel
theorem dX7_dropsLine_5 : decode cX7_dropsLine 5 = .ok (.ifCond .ne 6, 3) := by decide +kernel
theorem dX7_dropsLine_8 : decode cX7_dropsLine 8 = .ok (.bipush (-2), 2) := by decide +kernel
theorem dX7_dropsLine_10 : decode cX7_dropsLine 10 = .ok (.ireturn, 1) := by decide +kernel
theorem dX7_dropsLine_11 : decode cX7_dropsLine 11 = .ok (.aload_n 0, 1) := by decide +kernel
theorem dX7_dropsLine_12 : decode cX7_dropsLine 12 = .ok (.getfield 7, 3) := by decide +kernel
theorem dX7_dropsLine_15 : decode cX7_dropsLine 15 = .ok (.iconst 0, 1) := by decide +kernel
theorem dX7_dropsLine_16 : decode cX7_dropsLine 16 = .ok (.dup2, 1) := by decide +kernel
theorem dX7_dropsLine_17 : decode cX7_dropsLine 17 = .ok (.iaload, 1) := by decide +kernel
theorem dX7_dropsLine_18 : decode cX7_dropsLine 18 = .ok (.iconst 1, 1) := by decide +kernel
theorem dX7_dropsLine_19 : decode cX7_dropsLine 19 = .ok (.isub, 1) := by decide +kernel
theorem dX7_dropsLine_20 : decode cX7_dropsLine 20 = .ok (.iastore, 1) := by decide +kernel
theorem dX7_dropsLine_21 : decode cX7_dropsLine 21 = .ok (.bipush 24, 2) := by decide +kernel
theorem dX7_dropsLine_23 : decode cX7_dropsLine 23 = .ok (.iconst 4, 1) := by decide +kernel
theorem dX7_dropsLine_24 : decode cX7_dropsLine 24 = .ok (.iload_n 1, 1) := by decide +kernel
theorem dX7_dropsLine_25 : decode cX7_dropsLine 25 = .ok (.imul, 1) := by decide +kernel
theorem dX7_dropsLine_26 : decode cX7_dropsLine 26 = .ok (.iadd, 1) := by decide +kernel
theorem dX7_dropsLine_27 : decode cX7_dropsLine 27 = .ok (.istore_n 2, 1) := by decide +kernel
theorem dX7_dropsLine_28 : decode cX7_dropsLine 28 = .ok (.iload_n 2, 1) := by decide +kernel
theorem dX7_dropsLine_29 : decode cX7_dropsLine 29 = .ok (.bipush 24, 2) := by decide +kernel
theorem dX7_dropsLine_31 : decode cX7_dropsLine 31 = .ok (.iconst 4, 1) := by decide +kernel
theorem dX7_dropsLine_32 : decode cX7_dropsLine 32 = .ok (.aload_n 0, 1) := by decide +kernel
theorem dX7_dropsLine_33 : decode cX7_dropsLine 33 = .ok (.getfield 7, 3) := by decide +kernel
theorem dX7_dropsLine_36 : decode cX7_dropsLine 36 = .ok (.iconst 0, 1) := by decide +kernel
theorem dX7_dropsLine_37 : decode cX7_dropsLine 37 = .ok (.iaload, 1) := by decide +kernel
theorem dX7_dropsLine_38 : decode cX7_dropsLine 38 = .ok (.imul, 1) := by decide +kernel
theorem dX7_dropsLine_39 : decode cX7_dropsLine 39 = .ok (.iadd, 1) := by decide +kernel
theorem dX7_dropsLine_40 : decode cX7_dropsLine 40 = .ok (.if_icmp .ge 23, 3) := by decide +kernel
theorem dX7_dropsLine_43 : decode cX7_dropsLine 43 = .ok (.aload_n 0, 1) := by decide +kernel
theorem dX7_dropsLine_44 : decode cX7_dropsLine 44 = .ok (.getfield 7, 3) := by decide +kernel
theorem dX7_dropsLine_47 : decode cX7_dropsLine 47 = .ok (.iload_n 2, 1) := by decide +kernel
theorem dX7_dropsLine_48 : decode cX7_dropsLine 48 = .ok (.aload_n 0, 1) := by decide +kernel
theorem dX7_dropsLine_49 : decode cX7_dropsLine 49 = .ok (.getfield 7, 3) := by decide +kernel
theorem dX7_dropsLine_52 : decode cX7_dropsLine 52 = .ok (.iload_n 2, 1) := by decide +kernel
theorem dX7_dropsLine_53 : decode cX7_dropsLine 53 = .ok (.iconst 4, 1) := by decide +kernel
theorem dX7_dropsLine_54 : decode cX7_dropsLine 54 = .ok (.iadd, 1) := by decide +kernel
theorem dX7_dropsLine_55 : decode cX7_dropsLine 55 = .ok (.iaload, 1) := by decide +kernel
theorem dX7_dropsLine_56 : decode cX7_dropsLine 56 = .ok (.iastore, 1) := by decide +kernel
theorem dX7_dropsLine_57 : decode cX7_dropsLine 57 = .ok (.iinc 2 1, 3) := by decide +kernel
theorem dX7_dropsLine_60 : decode cX7_dropsLine 60 = .ok (.goto (-32), 3) := by decide +kernel
theorem dX7_dropsLine_63 : decode cX7_dropsLine 63 = .ok (.aload_n 0, 1) := by decide +kernel
theorem dX7_dropsLine_64 : decode cX7_dropsLine 64 = .ok (.getfield 7, 3) := by decide +kernel
theorem dX7_dropsLine_67 : decode cX7_dropsLine 67 = .ok (.iconst 0, 1) := by decide +kernel
theorem dX7_dropsLine_68 : decode cX7_dropsLine 68 = .ok (.iaload, 1) := by decide +kernel
theorem dX7_dropsLine_69 : decode cX7_dropsLine 69 = .ok (.ireturn, 1) := by decide +kernel
theorem dX7_becomes_0 : decode cX7_becomes 0 = .ok (.aload_n 0, 1) := by decide +kernel
theorem dX7_becomes_1 : decode cX7_becomes 1 = .ok (.getfield 7, 3) := by decide +kernel
theorem dX7_becomes_4 : decode cX7_becomes 4 = .ok (.iload_n 1, 1) := by decide +kernel
theorem dX7_becomes_5 : decode cX7_becomes 5 = .ok (.iaload, 1) := by decide +kernel
theorem dX7_becomes_6 : decode cX7_becomes 6 = .ok (.istore_n 3, 1) := by decide +kernel
theorem dX7_becomes_7 : decode cX7_becomes 7 = .ok (.aload_n 0, 1) := by decide +kernel
theorem dX7_becomes_8 : decode cX7_becomes 8 = .ok (.getfield 7, 3) := by decide +kernel
theorem dX7_becomes_11 : decode cX7_becomes 11 = .ok (.iload_n 1, 1) := by decide +kernel
theorem dX7_becomes_12 : decode cX7_becomes 12 = .ok (.iload_n 2, 1) := by decide +kernel
theorem dX7_becomes_13 : decode cX7_becomes 13 = .ok (.iastore, 1) := by decide +kernel
theorem dX7_becomes_14 : decode cX7_becomes 14 = .ok (.iload_n 3, 1) := by decide +kernel
theorem dX7_becomes_15 : decode cX7_becomes 15 = .ok (.ireturn, 1) := by decide +kernel
set_option maxRecDepth 20000 in
theorem ggX7_setsTable_X7_isNumber : GoodIn wsX7_setsTable wsX7_isNumber := goodIn_r _ [4, 5, 6, 3, 7] (by decide +kernel) (by decide +kernel)
set_option maxRecDepth 20000 in
theorem gX7_setsTable_X7_isNumber : GoodIn wsX7_setsTable (va_wsS RX7 71 yX7_isNumber wsX7_isNumber) := goodIn_app (goodIn_of _ (by decide +kernel)) ggX7_setsTable_X7_isNumber
set_option maxRecDepth 20000 in
theorem ggX7_setsTable_X7_becomes : GoodIn wsX7_setsTable wsX7_becomes := goodIn_r _ [11, 12, 13, 14, 15, 16, 17, 18, 19, 20, 21, 22, 23, 24, 25, 26, 27, 28, 29, 30, 31, 32, 33, 34, 35, 36] (by decide +kernel) (by decide +kernel)
set_option maxRecDepth 20000 in
theorem gX7_setsTable_X7_becomes : GoodIn wsX7_setsTable (wsV RX7 85 RX7 yX7_becomes wsX7_becomes) := goodIn_app (goodIn_of _ (by decide +kernel)) ggX7_setsTable_X7_becomes
theorem dX7_setsTable_0 : decode cX7_setsTable 0 = .ok (.iload_n 1, 1) := by decide +kernel
theorem dX7_setsTable_1 : decode cX7_setsTable 1 = .ok (.invokestatic 71, 3) := by decide +kernel
theorem dX7_setsTable_4 : decode cX7_setsTable 4 = .ok (.ifCond .eq 22, 3) := by decide +kernel
theorem dX7_setsTable_7 : decode cX7_setsTable 7 = .ok (.iload_n 2, 1) := by decide +kernel
theorem dX7_setsTable_8 : decode cX7_setsTable 8 = .ok (.invokestatic 71, 3) := by decide +kernel
theorem dX7_setsTable_11 : decode cX7_setsTable 11 = .ok (.ifCond .eq 15, 3) := by decide +kernel
theorem dX7_setsTable_14 : decode cX7_setsTable 14 = .ok (.aload_n 0, 1) := by decide +kernel
theorem dX7_setsTable_15 : decode cX7_setsTable 15 = .ok (.bipush 8, 2) := by decide +kernel
theorem dX7_setsTable_17 : decode cX7_setsTable 17 = .ok (.iload_n 1, 1) := by decide +kernel
theorem dX7_setsTable_18 : decode cX7_setsTable 18 = .ok (.iadd, 1) := by decide +kernel
theorem dX7_setsTable_19 : decode cX7_setsTable 19 = .ok (.iload_n 2, 1) := by decide +kernel
theorem dX7_setsTable_20 : decode cX7_setsTable 20 = .ok (.invokevirtual 85, 3) := by decide +kernel
theorem dX7_setsTable_23 : decode cX7_setsTable 23 = .ok (.goto 5, 3) := by decide +kernel
theorem dX7_setsTable_26 : decode cX7_setsTable 26 = .ok (.bipush (-2), 2) := by decide +kernel
theorem dX7_setsTable_28 : decode cX7_setsTable 28 = .ok (.ireturn, 1) := by decide +kernel
set_option maxRecDepth 20000 in
theorem ggX7_setsStart_X7_isVariable : GoodIn wsX7_setsStart wsX7_isVariable := goodIn_r _ [4, 5, 6, 3, 7] (by decide +kernel) (by decide +kernel)
set_option maxRecDepth 20000 in
theorem gX7_setsStart_X7_isVariable : GoodIn wsX7_setsStart (va_wsS RX7 75 yX7_isVariable wsX7_isVariable) := goodIn_app (goodIn_of _ (by decide +kernel)) ggX7_setsStart_X7_isVariable
set_option maxRecDepth 20000 in
theorem ggX7_setsStart_X7_isNumber : GoodIn wsX7_setsStart wsX7_isNumber := goodIn_r _ [10, 5, 6, 3, 7] (by decide +kernel) (by decide +kernel)
set_option maxRecDepth 20000 in
theorem gX7_setsStart_X7_isNumber : GoodIn wsX7_setsStart (va_wsS RX7 71 yX7_isNumber wsX7_isNumber) := goodIn_app (goodIn_of _ (by decide +kernel)) ggX7_setsStart_X7_isNumber
set_option maxRecDepth 20000 in
theorem ggX7_setsStart_X7_becomes : GoodIn wsX7_setsStart wsX7_becomes := goodIn_r _ [14, 15, 16, 17, 18, 19, 20, 21, 22, 23, 24, 25, 26, 27, 28, 29, 30, 31, 32, 33, 34, 35, 36, 37, 38, 39] (by decide +kernel) (by decide +kernel)
set_option maxRecDepth 20000 in
theorem gX7_setsStart_X7_becomes : GoodIn wsX7_setsStart (wsV RX7 85 RX7 yX7_becomes wsX7_becomes) := goodIn_app (goodIn_of _ (by decide +kernel)) ggX7_setsStart_X7_becomes
theorem dX7_setsStart_0 : decode cX7_setsStart 0 = .ok (.iload_n 1, 1) := by decide +kernel
theorem dX7_setsStart_1 : decode cX7_setsStart 1 = .ok (.invokestatic 75, 3) := by decide +kernel
theorem dX7_setsStart_4 : decode cX7_setsStart 4 = .ok (.ifCond .eq 21, 3) := by decide +kernel
theorem dX7_setsStart_7 : decode cX7_setsStart 7 = .ok (.iload_n 2, 1) := by decide +kernel
theorem dX7_setsStart_8 : decode cX7_setsStart 8 = .ok (.invokestatic 71, 3) := by decide +kernel
theorem dX7_setsStart_11 : decode cX7_setsStart 11 = .ok (.ifCond .eq 14, 3) := by decide +kernel
theorem dX7_setsStart_14 : decode cX7_setsStart 14 = .ok (.aload_n 0, 1) := by decide +kernel
theorem dX7_setsStart_15 : decode cX7_setsStart 15 = .ok (.iconst 2, 1) := by decide +kernel
theorem dX7_setsStart_16 : decode cX7_setsStart 16 = .ok (.iload_n 1, 1) := by decide +kernel
theorem dX7_setsStart_17 : decode cX7_setsStart 17 = .ok (.iadd, 1) := by decide +kernel
theorem dX7_setsStart_18 : decode cX7_setsStart 18 = .ok (.iload_n 2, 1) := by decide +kernel
theorem dX7_setsStart_19 : decode cX7_setsStart 19 = .ok (.invokevirtual 85, 3) := by decide +kernel
theorem dX7_setsStart_22 : decode cX7_setsStart 22 = .ok (.goto 5, 3) := by decide +kernel
theorem dX7_setsStart_25 : decode cX7_setsStart 25 = .ok (.bipush (-2), 2) := by decide +kernel
theorem dX7_setsStart_27 : decode cX7_setsStart 27 = .ok (.ireturn, 1) := by decide +kernel
theorem dX7_ones_0 : decode cX7_ones 0 = .ok (.iconst 0, 1) := by decide +kernel
theorem dX7_ones_1 : decode cX7_ones 1 = .ok (.istore_n 1, 1) := by decide +kernel
theorem dX7_ones_2 : decode cX7_ones 2 = .ok (.iconst 0, 1) := by decide +kernel
theorem dX7_ones_3 : decode cX7_ones 3 = .ok (.istore_n 2, 1) := by decide +kernel
theorem dX7_ones_4 : decode cX7_ones 4 = .ok (.iload_n 2, 1) := by decide +kernel
theorem dX7_ones_5 : decode cX7_ones 5 = .ok (.bipush 6, 2) := by decide +kernel
theorem dX7_ones_7 : decode cX7_ones 7 = .ok (.if_icmp .ge 17, 3) := by decide +kernel
theorem dX7_ones_10 : decode cX7_ones 10 = .ok (.iload_n 1, 1) := by decide +kernel
theorem dX7_ones_11 : decode cX7_ones 11 = .ok (.iload_n 0, 1) := by decide +kernel
theorem dX7_ones_12 : decode cX7_ones 12 = .ok (.iload_n 2, 1) := by decide +kernel
theorem dX7_ones_13 : decode cX7_ones 13 = .ok (.ishr, 1) := by decide +kernel
theorem dX7_ones_14 : decode cX7_ones 14 = .ok (.iconst 1, 1) := by decide +kernel
theorem dX7_ones_15 : decode cX7_ones 15 = .ok (.iand, 1) := by decide +kernel
theorem dX7_ones_16 : decode cX7_ones 16 = .ok (.iadd, 1) := by decide +kernel
theorem dX7_ones_17 : decode cX7_ones 17 = .ok (.istore_n 1, 1) := by decide +kernel
theorem dX7_ones_18 : decode cX7_ones 18 = .ok (.iinc 2 1, 3) := by decide +kernel
theorem dX7_ones_21 : decode cX7_ones 21 = .ok (.goto (-17), 3) := by decide +kernel
theorem dX7_ones_24 : decode cX7_ones 24 = .ok (.iload_n 1, 1) := by decide +kernel
theorem dX7_ones_25 : decode cX7_ones 25 = .ok (.ireturn, 1) := by decide +kernel
set_option maxRecDepth 20000 in
theorem ggX7_setsSecret_X7_isVariable : GoodIn wsX7_setsSecret wsX7_isVariable := goodIn_r _ [5, 6, 7, 4, 8] (by decide +kernel) (by decide +kernel)
set_option maxRecDepth 20000 in
theorem gX7_setsSecret_X7_isVariable : GoodIn wsX7_setsSecret (va_wsS RX7 75 yX7_isVariable wsX7_isVariable) := goodIn_app (goodIn_of _ (by decide +kernel)) ggX7_setsSecret_X7_isVariable
set_option maxRecDepth 20000 in
theorem ggX7_setsSecret_X7_within : GoodIn wsX7_setsSecret wsX7_within := goodIn_r _ [8] (by decide +kernel) (by decide +kernel)
set_option maxRecDepth 20000 in
theorem gX7_setsSecret_X7_within : GoodIn wsX7_setsSecret (va_wsS RX7 50 yX7_within wsX7_within) := goodIn_app (goodIn_of _ (by decide +kernel)) ggX7_setsSecret_X7_within
set_option maxRecDepth 20000 in
theorem ggX7_setsSecret_X7_ones : GoodIn wsX7_setsSecret wsX7_ones := goodIn_r _ [11] (by decide +kernel) (by decide +kernel)
set_option maxRecDepth 20000 in
theorem gX7_setsSecret_X7_ones : GoodIn wsX7_setsSecret (va_wsS RX7 89 yX7_ones wsX7_ones) := goodIn_app (goodIn_of _ (by decide +kernel)) ggX7_setsSecret_X7_ones
theorem dX7_setsSecret_0 : decode cX7_setsSecret 0 = .ok (.iload_n 1, 1) := by decide +kernel
theorem dX7_setsSecret_1 : decode cX7_setsSecret 1 = .ok (.invokestatic 75, 3) := by decide +kernel
theorem dX7_setsSecret_4 : decode cX7_setsSecret 4 = .ok (.ifCond .eq 12, 3) := by decide +kernel
theorem dX7_setsSecret_7 : decode cX7_setsSecret 7 = .ok (.iload_n 2, 1) := by decide +kernel
theorem dX7_setsSecret_8 : decode cX7_setsSecret 8 = .ok (.iconst 0, 1) := by decide +kernel
theorem dX7_setsSecret_9 : decode cX7_setsSecret 9 = .ok (.iconst 1, 1) := by decide +kernel
theorem dX7_setsSecret_10 : decode cX7_setsSecret 10 = .ok (.invokestatic 50, 3) := by decide +kernel
theorem dX7_setsSecret_13 : decode cX7_setsSecret 13 = .ok (.ifCond .ne 6, 3) := by decide +kernel
theorem dX7_setsSecret_16 : decode cX7_setsSecret 16 = .ok (.bipush (-2), 2) := by decide +kernel
theorem dX7_setsSecret_18 : decode cX7_setsSecret 18 = .ok (.ireturn, 1) := by decide +kernel
theorem dX7_setsSecret_19 : decode cX7_setsSecret 19 = .ok (.aload_n 0, 1) := by decide +kernel
theorem dX7_setsSecret_20 : decode cX7_setsSecret 20 = .ok (.getfield 7, 3) := by decide +kernel
theorem dX7_setsSecret_23 : decode cX7_setsSecret 23 = .ok (.iconst 1, 1) := by decide +kernel
theorem dX7_setsSecret_24 : decode cX7_setsSecret 24 = .ok (.iaload, 1) := by decide +kernel
theorem dX7_setsSecret_25 : decode cX7_setsSecret 25 = .ok (.iconst 1, 1) := by decide +kernel
theorem dX7_setsSecret_26 : decode cX7_setsSecret 26 = .ok (.iload_n 1, 1) := by decide +kernel
theorem dX7_setsSecret_27 : decode cX7_setsSecret 27 = .ok (.ishl, 1) := by decide +kernel
theorem dX7_setsSecret_28 : decode cX7_setsSecret 28 = .ok (.iconst (-1), 1) := by decide +kernel
theorem dX7_setsSecret_29 : decode cX7_setsSecret 29 = .ok (.ixor, 1) := by decide +kernel
theorem dX7_setsSecret_30 : decode cX7_setsSecret 30 = .ok (.iand, 1) := by decide +kernel
theorem dX7_setsSecret_31 : decode cX7_setsSecret 31 = .ok (.istore_n 3, 1) := by decide +kernel
theorem dX7_setsSecret_32 : decode cX7_setsSecret 32 = .ok (.iload_n 2, 1) := by decide +kernel
theorem dX7_setsSecret_33 : decode cX7_setsSecret 33 = .ok (.iconst 1, 1) := by decide +kernel
theorem dX7_setsSecret_34 : decode cX7_setsSecret 34 = .ok (.if_icmp .ne 14, 3) := by decide +kernel
theorem dX7_setsSecret_37 : decode cX7_setsSecret 37 = .ok (.iload_n 3, 1) := by decide +kernel
theorem dX7_setsSecret_38 : decode cX7_setsSecret 38 = .ok (.invokestatic 89, 3) := by decide +kernel
theorem dX7_setsSecret_41 : decode cX7_setsSecret 41 = .ok (.iconst 2, 1) := by decide +kernel
theorem dX7_setsSecret_42 : decode cX7_setsSecret 42 = .ok (.if_icmp .ne 6, 3) := by decide +kernel
theorem dX7_setsSecret_45 : decode cX7_setsSecret 45 = .ok (.bipush (-4), 2) := by decide +kernel
theorem dX7_setsSecret_47 : decode cX7_setsSecret 47 = .ok (.ireturn, 1) := by decide +kernel
theorem dX7_setsSecret_48 : decode cX7_setsSecret 48 = .ok (.aload_n 0, 1) := by decide +kernel
theorem dX7_setsSecret_49 : decode cX7_setsSecret 49 = .ok (.getfield 7, 3) := by decide +kernel
theorem dX7_setsSecret_52 : decode cX7_setsSecret 52 = .ok (.iconst 1, 1) := by decide +kernel
theorem dX7_setsSecret_53 : decode cX7_setsSecret 53 = .ok (.iaload, 1) := by decide +kernel
theorem dX7_setsSecret_54 : decode cX7_setsSecret 54 = .ok (.iload_n 1, 1) := by decide +kernel
theorem dX7_setsSecret_55 : decode cX7_setsSecret 55 = .ok (.ishr, 1) := by decide +kernel
theorem dX7_setsSecret_56 : decode cX7_setsSecret 56 = .ok (.iconst 1, 1) := by decide +kernel
theorem dX7_setsSecret_57 : decode cX7_setsSecret 57 = .ok (.iand, 1) := by decide +kernel
theorem dX7_setsSecret_58 : decode cX7_setsSecret 58 = .ok (.istore 4, 2) := by decide +kernel
theorem dX7_setsSecret_60 : decode cX7_setsSecret 60 = .ok (.aload_n 0, 1) := by decide +kernel
theorem dX7_setsSecret_61 : decode cX7_setsSecret 61 = .ok (.getfield 7, 3) := by decide +kernel
theorem dX7_setsSecret_64 : decode cX7_setsSecret 64 = .ok (.iconst 1, 1) := by decide +kernel
theorem dX7_setsSecret_65 : decode cX7_setsSecret 65 = .ok (.iload_n 3, 1) := by decide +kernel
theorem dX7_setsSecret_66 : decode cX7_setsSecret 66 = .ok (.iload_n 2, 1) := by decide +kernel
theorem dX7_setsSecret_67 : decode cX7_setsSecret 67 = .ok (.iload_n 1, 1) := by decide +kernel
theorem dX7_setsSecret_68 : decode cX7_setsSecret 68 = .ok (.ishl, 1) := by decide +kernel
theorem dX7_setsSecret_69 : decode cX7_setsSecret 69 = .ok (.ior, 1) := by decide +kernel
theorem dX7_setsSecret_70 : decode cX7_setsSecret 70 = .ok (.iastore, 1) := by decide +kernel
theorem dX7_setsSecret_71 : decode cX7_setsSecret 71 = .ok (.iload 4, 2) := by decide +kernel
theorem dX7_setsSecret_73 : decode cX7_setsSecret 73 = .ok (.ireturn, 1) := by decide +kernel
set_option maxRecDepth 20000 in
theorem ggX7_line_X7_laysAside : GoodIn wsX7_line wsX7_laysAside := goodIn_r _ [5, 6, 7, 43, 44, 45, 46, 47, 48, 49, 50, 51, 52, 53, 54, 55, 56, 57, 58, 59, 60, 61, 62, 63, 64, 65, 66] (by decide +kernel) (by decide +kernel)
set_option maxRecDepth 20000 in
theorem gX7_line_X7_laysAside : GoodIn wsX7_line (wsV RX7 93 RX7 yX7_laysAside wsX7_laysAside) := goodIn_app (goodIn_of _ (by decide +kernel)) ggX7_line_X7_laysAside
set_option maxRecDepth 20000 in
theorem ggX7_line_X7_addsLine : GoodIn wsX7_line wsX7_addsLine := goodIn_r _ [11, 7, 12, 13, 4, 14, 15, 16, 17, 18, 19, 20, 21, 22, 23, 43, 44, 45, 46, 47, 48, 49, 50, 51, 52, 53, 54, 55, 56, 57, 58, 59, 60, 61, 62, 63, 64, 65, 66] (by decide +kernel) (by decide +kernel)
set_option maxRecDepth 20000 in
theorem gX7_line_X7_addsLine : GoodIn wsX7_line (wsV RX7 96 RX7 yX7_addsLine wsX7_addsLine) := goodIn_app (goodIn_of _ (by decide +kernel)) ggX7_line_X7_addsLine
set_option maxRecDepth 20000 in
theorem ggX7_line_X7_answers : GoodIn wsX7_line wsX7_answers := goodIn_r _ [27, 28, 29, 30, 4, 31, 32, 33, 6, 34, 35, 36, 37, 38, 39, 40, 41, 42, 43, 44, 45, 46, 47, 48, 49, 50, 51, 52, 53, 54, 55, 56, 57, 58, 59, 60, 61, 62, 63, 64, 65, 66] (by decide +kernel) (by decide +kernel)
set_option maxRecDepth 20000 in
theorem gX7_line_X7_answers : GoodIn wsX7_line (wsV RX7 100 RX7 yX7_answers wsX7_answers) := goodIn_app (goodIn_of _ (by decide +kernel)) ggX7_line_X7_answers
theorem dX7_line_0 : decode cX7_line 0 = .ok (.aload_n 0, 1) := by decide +kernel
theorem dX7_line_1 : decode cX7_line 1 = .ok (.invokevirtual 93, 3) := by decide +kernel
theorem dX7_line_4 : decode cX7_line 4 = .ok (.aload_n 0, 1) := by decide +kernel
theorem dX7_line_5 : decode cX7_line 5 = .ok (.aload_n 0, 1) := by decide +kernel
theorem dX7_line_6 : decode cX7_line 6 = .ok (.iload_n 1, 1) := by decide +kernel
theorem dX7_line_7 : decode cX7_line 7 = .ok (.iload_n 2, 1) := by decide +kernel
theorem dX7_line_8 : decode cX7_line 8 = .ok (.iload_n 3, 1) := by decide +kernel
theorem dX7_line_9 : decode cX7_line 9 = .ok (.iload 4, 2) := by decide +kernel
theorem dX7_line_11 : decode cX7_line 11 = .ok (.invokevirtual 96, 3) := by decide +kernel
theorem dX7_line_14 : decode cX7_line 14 = .ok (.invokevirtual 100, 3) := by decide +kernel
theorem dX7_line_17 : decode cX7_line 17 = .ok (.ireturn, 1) := by decide +kernel
set_option maxRecDepth 20000 in
theorem ggX7_drops_X7_laysAside : GoodIn wsX7_drops wsX7_laysAside := goodIn_r _ [5, 6, 7, 38, 39, 40, 41, 42, 43, 44, 45, 46, 47, 48, 49, 50, 51, 52, 53, 54, 55, 56, 57, 58, 59, 60, 61] (by decide +kernel) (by decide +kernel)
set_option maxRecDepth 20000 in
theorem gX7_drops_X7_laysAside : GoodIn wsX7_drops (wsV RX7 93 RX7 yX7_laysAside wsX7_laysAside) := goodIn_app (goodIn_of _ (by decide +kernel)) ggX7_drops_X7_laysAside
set_option maxRecDepth 20000 in
theorem ggX7_drops_X7_dropsLine : GoodIn wsX7_drops wsX7_dropsLine := goodIn_r _ [11, 7, 12, 13, 14, 4, 15, 16, 17, 18, 38, 39, 40, 41, 42, 43, 44, 45, 46, 47, 48, 49, 50, 51, 52, 53, 54, 55, 56, 57, 58, 59, 60, 61] (by decide +kernel) (by decide +kernel)
set_option maxRecDepth 20000 in
theorem gX7_drops_X7_dropsLine : GoodIn wsX7_drops (wsV RX7 103 RX7 yX7_dropsLine wsX7_dropsLine) := goodIn_app (goodIn_of _ (by decide +kernel)) ggX7_drops_X7_dropsLine
set_option maxRecDepth 20000 in
theorem ggX7_drops_X7_answers : GoodIn wsX7_drops wsX7_answers := goodIn_r _ [22, 23, 24, 25, 4, 26, 27, 28, 6, 29, 30, 31, 32, 33, 34, 35, 36, 37, 38, 39, 40, 41, 42, 43, 44, 45, 46, 47, 48, 49, 50, 51, 52, 53, 54, 55, 56, 57, 58, 59, 60, 61] (by decide +kernel) (by decide +kernel)
set_option maxRecDepth 20000 in
theorem gX7_drops_X7_answers : GoodIn wsX7_drops (wsV RX7 100 RX7 yX7_answers wsX7_answers) := goodIn_app (goodIn_of _ (by decide +kernel)) ggX7_drops_X7_answers
theorem dX7_drops_0 : decode cX7_drops 0 = .ok (.aload_n 0, 1) := by decide +kernel
theorem dX7_drops_1 : decode cX7_drops 1 = .ok (.invokevirtual 93, 3) := by decide +kernel
theorem dX7_drops_4 : decode cX7_drops 4 = .ok (.aload_n 0, 1) := by decide +kernel
theorem dX7_drops_5 : decode cX7_drops 5 = .ok (.aload_n 0, 1) := by decide +kernel
theorem dX7_drops_6 : decode cX7_drops 6 = .ok (.iload_n 1, 1) := by decide +kernel
theorem dX7_drops_7 : decode cX7_drops 7 = .ok (.invokevirtual 103, 3) := by decide +kernel
theorem dX7_drops_10 : decode cX7_drops 10 = .ok (.invokevirtual 100, 3) := by decide +kernel
theorem dX7_drops_13 : decode cX7_drops 13 = .ok (.ireturn, 1) := by decide +kernel
set_option maxRecDepth 20000 in
theorem ggX7_table_X7_laysAside : GoodIn wsX7_table wsX7_laysAside := goodIn_r _ [5, 6, 7, 41, 42, 43, 44, 45, 46, 47, 48, 49, 50, 51, 52, 53, 54, 55, 56, 57, 58, 59, 60, 61, 62, 63, 64] (by decide +kernel) (by decide +kernel)
set_option maxRecDepth 20000 in
theorem gX7_table_X7_laysAside : GoodIn wsX7_table (wsV RX7 93 RX7 yX7_laysAside wsX7_laysAside) := goodIn_app (goodIn_of _ (by decide +kernel)) ggX7_table_X7_laysAside
set_option maxRecDepth 20000 in
theorem ggX7_table_X7_setsTable : GoodIn wsX7_table wsX7_setsTable := goodIn_r _ [11, 12, 13, 4, 14, 15, 16, 17, 18, 19, 20, 21, 7, 41, 42, 43, 44, 45, 46, 47, 48, 49, 50, 51, 52, 53, 54, 55, 56, 57, 58, 59, 60, 61, 62, 63, 64] (by decide +kernel) (by decide +kernel)
set_option maxRecDepth 20000 in
theorem gX7_table_X7_setsTable : GoodIn wsX7_table (wsV RX7 106 RX7 yX7_setsTable wsX7_setsTable) := goodIn_app (goodIn_of _ (by decide +kernel)) ggX7_table_X7_setsTable
set_option maxRecDepth 20000 in
theorem ggX7_table_X7_answers : GoodIn wsX7_table wsX7_answers := goodIn_r _ [25, 26, 27, 28, 4, 29, 30, 31, 6, 32, 33, 34, 35, 36, 37, 38, 39, 40, 41, 42, 43, 44, 45, 46, 47, 48, 49, 50, 51, 52, 53, 54, 55, 56, 57, 58, 59, 60, 61, 62, 63, 64] (by decide +kernel) (by decide +kernel)
set_option maxRecDepth 20000 in
theorem gX7_table_X7_answers : GoodIn wsX7_table (wsV RX7 100 RX7 yX7_answers wsX7_answers) := goodIn_app (goodIn_of _ (by decide +kernel)) ggX7_table_X7_answers
theorem dX7_table_0 : decode cX7_table 0 = .ok (.aload_n 0, 1) := by decide +kernel
theorem dX7_table_1 : decode cX7_table 1 = .ok (.invokevirtual 93, 3) := by decide +kernel
theorem dX7_table_4 : decode cX7_table 4 = .ok (.aload_n 0, 1) := by decide +kernel
theorem dX7_table_5 : decode cX7_table 5 = .ok (.aload_n 0, 1) := by decide +kernel
theorem dX7_table_6 : decode cX7_table 6 = .ok (.iload_n 1, 1) := by decide +kernel
theorem dX7_table_7 : decode cX7_table 7 = .ok (.iload_n 2, 1) := by decide +kernel
theorem dX7_table_8 : decode cX7_table 8 = .ok (.invokevirtual 106, 3) := by decide +kernel
theorem dX7_table_11 : decode cX7_table 11 = .ok (.invokevirtual 100, 3) := by decide +kernel
theorem dX7_table_14 : decode cX7_table 14 = .ok (.ireturn, 1) := by decide +kernel
set_option maxRecDepth 20000 in
theorem ggX7_start_X7_laysAside : GoodIn wsX7_start wsX7_laysAside := goodIn_r _ [5, 6, 7, 44, 45, 46, 47, 48, 49, 50, 51, 52, 53, 54, 55, 56, 57, 58, 59, 60, 61, 62, 63, 64, 65, 66, 67] (by decide +kernel) (by decide +kernel)
set_option maxRecDepth 20000 in
theorem gX7_start_X7_laysAside : GoodIn wsX7_start (wsV RX7 93 RX7 yX7_laysAside wsX7_laysAside) := goodIn_app (goodIn_of _ (by decide +kernel)) ggX7_start_X7_laysAside
set_option maxRecDepth 20000 in
theorem ggX7_start_X7_setsStart : GoodIn wsX7_start wsX7_setsStart := goodIn_r _ [11, 12, 13, 4, 14, 15, 16, 17, 18, 19, 20, 21, 22, 23, 24, 7, 44, 45, 46, 47, 48, 49, 50, 51, 52, 53, 54, 55, 56, 57, 58, 59, 60, 61, 62, 63, 64, 65, 66, 67] (by decide +kernel) (by decide +kernel)
set_option maxRecDepth 20000 in
theorem gX7_start_X7_setsStart : GoodIn wsX7_start (wsV RX7 109 RX7 yX7_setsStart wsX7_setsStart) := goodIn_app (goodIn_of _ (by decide +kernel)) ggX7_start_X7_setsStart
set_option maxRecDepth 20000 in
theorem ggX7_start_X7_answers : GoodIn wsX7_start wsX7_answers := goodIn_r _ [28, 29, 30, 31, 4, 32, 33, 34, 6, 35, 36, 37, 38, 39, 40, 41, 42, 43, 44, 45, 46, 47, 48, 49, 50, 51, 52, 53, 54, 55, 56, 57, 58, 59, 60, 61, 62, 63, 64, 65, 66, 67] (by decide +kernel) (by decide +kernel)
set_option maxRecDepth 20000 in
theorem gX7_start_X7_answers : GoodIn wsX7_start (wsV RX7 100 RX7 yX7_answers wsX7_answers) := goodIn_app (goodIn_of _ (by decide +kernel)) ggX7_start_X7_answers
theorem dX7_start_0 : decode cX7_start 0 = .ok (.aload_n 0, 1) := by decide +kernel
theorem dX7_start_1 : decode cX7_start 1 = .ok (.invokevirtual 93, 3) := by decide +kernel
theorem dX7_start_4 : decode cX7_start 4 = .ok (.aload_n 0, 1) := by decide +kernel
theorem dX7_start_5 : decode cX7_start 5 = .ok (.aload_n 0, 1) := by decide +kernel
theorem dX7_start_6 : decode cX7_start 6 = .ok (.iload_n 1, 1) := by decide +kernel
theorem dX7_start_7 : decode cX7_start 7 = .ok (.iload_n 2, 1) := by decide +kernel
theorem dX7_start_8 : decode cX7_start 8 = .ok (.invokevirtual 109, 3) := by decide +kernel
theorem dX7_start_11 : decode cX7_start 11 = .ok (.invokevirtual 100, 3) := by decide +kernel
theorem dX7_start_14 : decode cX7_start 14 = .ok (.ireturn, 1) := by decide +kernel
set_option maxRecDepth 20000 in
theorem ggX7_secret_X7_laysAside : GoodIn wsX7_secret wsX7_laysAside := goodIn_r _ [5, 6, 7, 40, 41, 42, 43, 44, 45, 46, 47, 48, 49, 50, 51, 52, 53, 54, 55, 56, 57, 58, 59, 60, 61, 62, 63] (by decide +kernel) (by decide +kernel)
set_option maxRecDepth 20000 in
theorem gX7_secret_X7_laysAside : GoodIn wsX7_secret (wsV RX7 93 RX7 yX7_laysAside wsX7_laysAside) := goodIn_app (goodIn_of _ (by decide +kernel)) ggX7_secret_X7_laysAside
set_option maxRecDepth 20000 in
theorem ggX7_secret_X7_setsSecret : GoodIn wsX7_secret wsX7_setsSecret := goodIn_r _ [11, 7, 12, 13, 4, 14, 15, 16, 17, 18, 19, 20, 40, 41, 42, 43, 44, 45, 46, 47, 48, 49, 50, 51, 52, 53, 54, 55, 56, 57, 58, 59, 60, 61, 62, 63] (by decide +kernel) (by decide +kernel)
set_option maxRecDepth 20000 in
theorem gX7_secret_X7_setsSecret : GoodIn wsX7_secret (wsV RX7 112 RX7 yX7_setsSecret wsX7_setsSecret) := goodIn_app (goodIn_of _ (by decide +kernel)) ggX7_secret_X7_setsSecret
set_option maxRecDepth 20000 in
theorem ggX7_secret_X7_answers : GoodIn wsX7_secret wsX7_answers := goodIn_r _ [24, 25, 26, 27, 4, 28, 29, 30, 6, 31, 32, 33, 34, 35, 36, 37, 38, 39, 40, 41, 42, 43, 44, 45, 46, 47, 48, 49, 50, 51, 52, 53, 54, 55, 56, 57, 58, 59, 60, 61, 62, 63] (by decide +kernel) (by decide +kernel)
set_option maxRecDepth 20000 in
theorem gX7_secret_X7_answers : GoodIn wsX7_secret (wsV RX7 100 RX7 yX7_answers wsX7_answers) := goodIn_app (goodIn_of _ (by decide +kernel)) ggX7_secret_X7_answers
theorem dX7_secret_0 : decode cX7_secret 0 = .ok (.aload_n 0, 1) := by decide +kernel
theorem dX7_secret_1 : decode cX7_secret 1 = .ok (.invokevirtual 93, 3) := by decide +kernel
theorem dX7_secret_4 : decode cX7_secret 4 = .ok (.aload_n 0, 1) := by decide +kernel
theorem dX7_secret_5 : decode cX7_secret 5 = .ok (.aload_n 0, 1) := by decide +kernel
theorem dX7_secret_6 : decode cX7_secret 6 = .ok (.iload_n 1, 1) := by decide +kernel
theorem dX7_secret_7 : decode cX7_secret 7 = .ok (.iload_n 2, 1) := by decide +kernel
theorem dX7_secret_8 : decode cX7_secret 8 = .ok (.invokevirtual 112, 3) := by decide +kernel
theorem dX7_secret_11 : decode cX7_secret 11 = .ok (.invokevirtual 100, 3) := by decide +kernel
theorem dX7_secret_14 : decode cX7_secret 14 = .ok (.ireturn, 1) := by decide +kernel
set_option maxRecDepth 20000 in
theorem ggX7_secrets_X7_ones : GoodIn wsX7_secrets wsX7_ones := goodIn_r _ [5] (by decide +kernel) (by decide +kernel)
set_option maxRecDepth 20000 in
theorem gX7_secrets_X7_ones : GoodIn wsX7_secrets (va_wsS RX7 89 yX7_ones wsX7_ones) := goodIn_app (goodIn_of _ (by decide +kernel)) ggX7_secrets_X7_ones
theorem dX7_secrets_0 : decode cX7_secrets 0 = .ok (.aload_n 0, 1) := by decide +kernel
theorem dX7_secrets_1 : decode cX7_secrets 1 = .ok (.getfield 7, 3) := by decide +kernel
theorem dX7_secrets_4 : decode cX7_secrets 4 = .ok (.iconst 1, 1) := by decide +kernel
theorem dX7_secrets_5 : decode cX7_secrets 5 = .ok (.iaload, 1) := by decide +kernel
theorem dX7_secrets_6 : decode cX7_secrets 6 = .ok (.invokestatic 89, 3) := by decide +kernel
theorem dX7_secrets_9 : decode cX7_secrets 9 = .ok (.istore_n 1, 1) := by decide +kernel
theorem dX7_secrets_10 : decode cX7_secrets 10 = .ok (.iload_n 1, 1) := by decide +kernel
theorem dX7_secrets_11 : decode cX7_secrets 11 = .ok (.ifCond .ne 7, 3) := by decide +kernel
theorem dX7_secrets_14 : decode cX7_secrets 14 = .ok (.iconst 1, 1) := by decide +kernel
theorem dX7_secrets_15 : decode cX7_secrets 15 = .ok (.goto 16, 3) := by decide +kernel
theorem dX7_secrets_18 : decode cX7_secrets 18 = .ok (.iload_n 1, 1) := by decide +kernel
theorem dX7_secrets_19 : decode cX7_secrets 19 = .ok (.iconst 1, 1) := by decide +kernel
theorem dX7_secrets_20 : decode cX7_secrets 20 = .ok (.if_icmp .ne 8, 3) := by decide +kernel
theorem dX7_secrets_23 : decode cX7_secrets 23 = .ok (.bipush 16, 2) := by decide +kernel
theorem dX7_secrets_25 : decode cX7_secrets 25 = .ok (.goto 6, 3) := by decide +kernel
theorem dX7_secrets_28 : decode cX7_secrets 28 = .ok (.sipush 256, 3) := by decide +kernel
theorem dX7_secrets_31 : decode cX7_secrets 31 = .ok (.ireturn, 1) := by decide +kernel
set_option maxRecDepth 20000 in
theorem ggX7_isSecrets_X7_secrets : GoodIn wsX7_isSecrets wsX7_secrets := goodIn_r _ [5, 6, 7, 8, 4, 9, 13, 14, 15, 16, 17, 18, 19, 20, 21, 22, 23, 24, 25, 26, 27, 28, 29, 30, 31, 32, 33, 34, 35, 36] (by decide +kernel) (by decide +kernel)
set_option maxRecDepth 20000 in
theorem gX7_isSecrets_X7_secrets : GoodIn wsX7_isSecrets (wsV RX7 115 RX7 yX7_secrets wsX7_secrets) := goodIn_app (goodIn_of _ (by decide +kernel)) ggX7_isSecrets_X7_secrets
set_option maxRecDepth 20000 in
theorem ggX7_isSecrets_X7_within : GoodIn wsX7_isSecrets wsX7_within := goodIn_r _ [12] (by decide +kernel) (by decide +kernel)
set_option maxRecDepth 20000 in
theorem gX7_isSecrets_X7_within : GoodIn wsX7_isSecrets (va_wsS RX7 50 yX7_within wsX7_within) := goodIn_app (goodIn_of _ (by decide +kernel)) ggX7_isSecrets_X7_within
theorem dX7_isSecrets_0 : decode cX7_isSecrets 0 = .ok (.iload_n 1, 1) := by decide +kernel
theorem dX7_isSecrets_1 : decode cX7_isSecrets 1 = .ok (.iconst 0, 1) := by decide +kernel
theorem dX7_isSecrets_2 : decode cX7_isSecrets 2 = .ok (.aload_n 0, 1) := by decide +kernel
theorem dX7_isSecrets_3 : decode cX7_isSecrets 3 = .ok (.invokevirtual 115, 3) := by decide +kernel
theorem dX7_isSecrets_6 : decode cX7_isSecrets 6 = .ok (.iconst 1, 1) := by decide +kernel
theorem dX7_isSecrets_7 : decode cX7_isSecrets 7 = .ok (.isub, 1) := by decide +kernel
theorem dX7_isSecrets_8 : decode cX7_isSecrets 8 = .ok (.invokestatic 50, 3) := by decide +kernel
theorem dX7_isSecrets_11 : decode cX7_isSecrets 11 = .ok (.ireturn, 1) := by decide +kernel
set_option maxRecDepth 20000 in
theorem ggX7_begins_X7_has : GoodIn wsX7_begins wsX7_has := goodIn_r _ [6] (by decide +kernel) (by decide +kernel)
set_option maxRecDepth 20000 in
theorem gX7_begins_X7_has : GoodIn wsX7_begins (va_wsS RX7 118 yX7_has wsX7_has) := goodIn_app (goodIn_of _ (by decide +kernel)) ggX7_begins_X7_has
theorem dX7_begins_0 : decode cX7_begins 0 = .ok (.iload_n 1, 1) := by decide +kernel
theorem dX7_begins_1 : decode cX7_begins 1 = .ok (.istore_n 2, 1) := by decide +kernel
theorem dX7_begins_2 : decode cX7_begins 2 = .ok (.iconst 0, 1) := by decide +kernel
theorem dX7_begins_3 : decode cX7_begins 3 = .ok (.istore_n 3, 1) := by decide +kernel
theorem dX7_begins_4 : decode cX7_begins 4 = .ok (.iload_n 3, 1) := by decide +kernel
theorem dX7_begins_5 : decode cX7_begins 5 = .ok (.bipush 6, 2) := by decide +kernel
theorem dX7_begins_7 : decode cX7_begins 7 = .ok (.if_icmp .ge 61, 3) := by decide +kernel
theorem dX7_begins_10 : decode cX7_begins 10 = .ok (.aload_n 0, 1) := by decide +kernel
theorem dX7_begins_11 : decode cX7_begins 11 = .ok (.getfield 7, 3) := by decide +kernel
theorem dX7_begins_14 : decode cX7_begins 14 = .ok (.iconst 1, 1) := by decide +kernel
theorem dX7_begins_15 : decode cX7_begins 15 = .ok (.iaload, 1) := by decide +kernel
theorem dX7_begins_16 : decode cX7_begins 16 = .ok (.iload_n 3, 1) := by decide +kernel
theorem dX7_begins_17 : decode cX7_begins 17 = .ok (.invokestatic 118, 3) := by decide +kernel
theorem dX7_begins_20 : decode cX7_begins 20 = .ok (.istore 4, 2) := by decide +kernel
theorem dX7_begins_22 : decode cX7_begins 22 = .ok (.aload_n 0, 1) := by decide +kernel
theorem dX7_begins_23 : decode cX7_begins 23 = .ok (.getfield 25, 3) := by decide +kernel
theorem dX7_begins_26 : decode cX7_begins 26 = .ok (.iload_n 3, 1) := by decide +kernel
theorem dX7_begins_27 : decode cX7_begins 27 = .ok (.iload 4, 2) := by decide +kernel
theorem dX7_begins_29 : decode cX7_begins 29 = .ok (.ifCond .eq 10, 3) := by decide +kernel
theorem dX7_begins_32 : decode cX7_begins 32 = .ok (.iload_n 2, 1) := by decide +kernel
theorem dX7_begins_33 : decode cX7_begins 33 = .ok (.bipush 16, 2) := by decide +kernel
theorem dX7_begins_35 : decode cX7_begins 35 = .ok (.irem, 1) := by decide +kernel
theorem dX7_begins_36 : decode cX7_begins 36 = .ok (.goto 11, 3) := by decide +kernel
theorem dX7_begins_39 : decode cX7_begins 39 = .ok (.aload_n 0, 1) := by decide +kernel
theorem dX7_begins_40 : decode cX7_begins 40 = .ok (.getfield 7, 3) := by decide +kernel
theorem dX7_begins_43 : decode cX7_begins 43 = .ok (.iconst 2, 1) := by decide +kernel
theorem dX7_begins_44 : decode cX7_begins 44 = .ok (.iload_n 3, 1) := by decide +kernel
theorem dX7_begins_45 : decode cX7_begins 45 = .ok (.iadd, 1) := by decide +kernel
theorem dX7_begins_46 : decode cX7_begins 46 = .ok (.iaload, 1) := by decide +kernel
theorem dX7_begins_47 : decode cX7_begins 47 = .ok (.iastore, 1) := by decide +kernel
theorem dX7_begins_48 : decode cX7_begins 48 = .ok (.iload 4, 2) := by decide +kernel
theorem dX7_begins_50 : decode cX7_begins 50 = .ok (.ifCond .eq 10, 3) := by decide +kernel
theorem dX7_begins_53 : decode cX7_begins 53 = .ok (.iload_n 2, 1) := by decide +kernel
theorem dX7_begins_54 : decode cX7_begins 54 = .ok (.bipush 16, 2) := by decide +kernel
theorem dX7_begins_56 : decode cX7_begins 56 = .ok (.idiv, 1) := by decide +kernel
theorem dX7_begins_57 : decode cX7_begins 57 = .ok (.goto 4, 3) := by decide +kernel
theorem dX7_begins_60 : decode cX7_begins 60 = .ok (.iload_n 2, 1) := by decide +kernel
theorem dX7_begins_61 : decode cX7_begins 61 = .ok (.istore_n 2, 1) := by decide +kernel
theorem dX7_begins_62 : decode cX7_begins 62 = .ok (.iinc 3 1, 3) := by decide +kernel
theorem dX7_begins_65 : decode cX7_begins 65 = .ok (.goto (-61), 3) := by decide +kernel
theorem dX7_begins_68 : decode cX7_begins 68 = .ok (.return_, 1) := by decide +kernel
theorem dX7_sees_0 : decode cX7_sees 0 = .ok (.aload_n 0, 1) := by decide +kernel
theorem dX7_sees_1 : decode cX7_sees 1 = .ok (.getfield 28, 3) := by decide +kernel
theorem dX7_sees_4 : decode cX7_sees 4 = .ok (.bipush 61, 2) := by decide +kernel
theorem dX7_sees_6 : decode cX7_sees 6 = .ok (.iload_n 1, 1) := by decide +kernel
theorem dX7_sees_7 : decode cX7_sees 7 = .ok (.imul, 1) := by decide +kernel
theorem dX7_sees_8 : decode cX7_sees 8 = .ok (.aload_n 0, 1) := by decide +kernel
theorem dX7_sees_9 : decode cX7_sees 9 = .ok (.getfield 121, 3) := by decide +kernel
theorem dX7_sees_12 : decode cX7_sees 12 = .ok (.iadd, 1) := by decide +kernel
theorem dX7_sees_13 : decode cX7_sees 13 = .ok (.iload_n 2, 1) := by decide +kernel
theorem dX7_sees_14 : decode cX7_sees 14 = .ok (.iastore, 1) := by decide +kernel
theorem dX7_sees_15 : decode cX7_sees 15 = .ok (.aload_n 0, 1) := by decide +kernel
theorem dX7_sees_16 : decode cX7_sees 16 = .ok (.dup, 1) := by decide +kernel
theorem dX7_sees_17 : decode cX7_sees 17 = .ok (.getfield 121, 3) := by decide +kernel
theorem dX7_sees_20 : decode cX7_sees 20 = .ok (.iconst 1, 1) := by decide +kernel
theorem dX7_sees_21 : decode cX7_sees 21 = .ok (.iadd, 1) := by decide +kernel
theorem dX7_sees_22 : decode cX7_sees 22 = .ok (.putfield 121, 3) := by decide +kernel
theorem dX7_sees_25 : decode cX7_sees 25 = .ok (.return_, 1) := by decide +kernel
theorem dX7_divided_0 : decode cX7_divided 0 = .ok (.iload_n 1, 1) := by decide +kernel
theorem dX7_divided_1 : decode cX7_divided 1 = .ok (.ifCond .ne 8, 3) := by decide +kernel
theorem dX7_divided_4 : decode cX7_divided 4 = .ok (.bipush 15, 2) := by decide +kernel
theorem dX7_divided_6 : decode cX7_divided 6 = .ok (.goto 6, 3) := by decide +kernel
theorem dX7_divided_9 : decode cX7_divided 9 = .ok (.iload_n 0, 1) := by decide +kernel
theorem dX7_divided_10 : decode cX7_divided 10 = .ok (.iload_n 1, 1) := by decide +kernel
theorem dX7_divided_11 : decode cX7_divided 11 = .ok (.idiv, 1) := by decide +kernel
theorem dX7_divided_12 : decode cX7_divided 12 = .ok (.ireturn, 1) := by decide +kernel
set_option maxRecDepth 20000 in
theorem ggX7_comesOut_X7_divided : GoodIn wsX7_comesOut wsX7_divided := goodIn_r _ [5] (by decide +kernel) (by decide +kernel)
set_option maxRecDepth 20000 in
theorem gX7_comesOut_X7_divided : GoodIn wsX7_comesOut (va_wsS RX7 124 yX7_divided wsX7_divided) := goodIn_app (goodIn_of _ (by decide +kernel)) ggX7_comesOut_X7_divided
theorem dX7_comesOut_0 : decode cX7_comesOut 0 = .ok (.iload_n 1, 1) := by decide +kernel
theorem dX7_comesOut_1 : decode cX7_comesOut 1 = .ok (.tableswitch 66 2 6 #[35, 42, 46, 56, 50], 35) := by decide +kernel
theorem dX7_comesOut_36 : decode cX7_comesOut 36 = .ok (.iload_n 2, 1) := by decide +kernel
theorem dX7_comesOut_37 : decode cX7_comesOut 37 = .ok (.iload_n 3, 1) := by decide +kernel
theorem dX7_comesOut_38 : decode cX7_comesOut 38 = .ok (.iadd, 1) := by decide +kernel
theorem dX7_comesOut_39 : decode cX7_comesOut 39 = .ok (.bipush 16, 2) := by decide +kernel
theorem dX7_comesOut_41 : decode cX7_comesOut 41 = .ok (.irem, 1) := by decide +kernel
theorem dX7_comesOut_42 : decode cX7_comesOut 42 = .ok (.ireturn, 1) := by decide +kernel
theorem dX7_comesOut_43 : decode cX7_comesOut 43 = .ok (.iload_n 2, 1) := by decide +kernel
theorem dX7_comesOut_44 : decode cX7_comesOut 44 = .ok (.iload_n 3, 1) := by decide +kernel
theorem dX7_comesOut_45 : decode cX7_comesOut 45 = .ok (.iand, 1) := by decide +kernel
theorem dX7_comesOut_46 : decode cX7_comesOut 46 = .ok (.ireturn, 1) := by decide +kernel
theorem dX7_comesOut_47 : decode cX7_comesOut 47 = .ok (.iload_n 2, 1) := by decide +kernel
theorem dX7_comesOut_48 : decode cX7_comesOut 48 = .ok (.iload_n 3, 1) := by decide +kernel
theorem dX7_comesOut_49 : decode cX7_comesOut 49 = .ok (.ixor, 1) := by decide +kernel
theorem dX7_comesOut_50 : decode cX7_comesOut 50 = .ok (.ireturn, 1) := by decide +kernel
theorem dX7_comesOut_51 : decode cX7_comesOut 51 = .ok (.iload_n 2, 1) := by decide +kernel
theorem dX7_comesOut_52 : decode cX7_comesOut 52 = .ok (.iload_n 3, 1) := by decide +kernel
theorem dX7_comesOut_53 : decode cX7_comesOut 53 = .ok (.invokestatic 124, 3) := by decide +kernel
theorem dX7_comesOut_56 : decode cX7_comesOut 56 = .ok (.ireturn, 1) := by decide +kernel
theorem dX7_comesOut_57 : decode cX7_comesOut 57 = .ok (.aload_n 0, 1) := by decide +kernel
theorem dX7_comesOut_58 : decode cX7_comesOut 58 = .ok (.getfield 7, 3) := by decide +kernel
theorem dX7_comesOut_61 : decode cX7_comesOut 61 = .ok (.bipush 8, 2) := by decide +kernel
theorem dX7_comesOut_63 : decode cX7_comesOut 63 = .ok (.iload_n 3, 1) := by decide +kernel
theorem dX7_comesOut_64 : decode cX7_comesOut 64 = .ok (.iadd, 1) := by decide +kernel
theorem dX7_comesOut_65 : decode cX7_comesOut 65 = .ok (.iaload, 1) := by decide +kernel
theorem dX7_comesOut_66 : decode cX7_comesOut 66 = .ok (.ireturn, 1) := by decide +kernel
theorem dX7_comesOut_67 : decode cX7_comesOut 67 = .ok (.iload_n 3, 1) := by decide +kernel
theorem dX7_comesOut_68 : decode cX7_comesOut 68 = .ok (.ireturn, 1) := by decide +kernel
set_option maxRecDepth 20000 in
theorem ggX7_stepsOn_X7_partOf : GoodIn wsX7_stepsOn wsX7_partOf := goodIn_r _ [6, 7, 21, 22, 23, 24, 25, 26, 27, 28, 29, 30, 31, 32, 33, 34, 35, 36, 37, 38, 39, 40, 41, 42, 43, 44] (by decide +kernel) (by decide +kernel)
set_option maxRecDepth 20000 in
theorem gX7_stepsOn_X7_partOf : GoodIn wsX7_stepsOn (wsV RX7 127 RX7 yX7_partOf wsX7_partOf) := goodIn_app (goodIn_of _ (by decide +kernel)) ggX7_stepsOn_X7_partOf
set_option maxRecDepth 20000 in
theorem ggX7_stepsOn_X7_sees : GoodIn wsX7_stepsOn wsX7_sees := goodIn_r _ [11, 12, 13, 21, 22, 23, 24, 25, 26, 27, 28, 29, 30, 31, 32, 33, 34, 35, 36, 37, 38, 39, 40, 41, 42, 43, 44] (by decide +kernel) (by decide +kernel)
set_option maxRecDepth 20000 in
theorem gX7_stepsOn_X7_sees : GoodIn wsX7_stepsOn (wsV RX7 130 RX7 yX7_sees wsX7_sees) := goodIn_app (goodIn_of _ (by decide +kernel)) ggX7_stepsOn_X7_sees
set_option maxRecDepth 20000 in
theorem ggX7_stepsOn_X7_comesOut : GoodIn wsX7_stepsOn wsX7_comesOut := goodIn_r _ [17, 7, 18, 19, 5, 20, 21, 22, 23, 24, 25, 26, 27, 28, 29, 30, 31, 32, 33, 34, 35, 36, 37, 38, 39, 40, 41, 42, 43, 44] (by decide +kernel) (by decide +kernel)
set_option maxRecDepth 20000 in
theorem gX7_stepsOn_X7_comesOut : GoodIn wsX7_stepsOn (wsV RX7 134 RX7 yX7_comesOut wsX7_comesOut) := goodIn_app (goodIn_of _ (by decide +kernel)) ggX7_stepsOn_X7_comesOut
theorem dX7_stepsOn_0 : decode cX7_stepsOn 0 = .ok (.aload_n 0, 1) := by decide +kernel
theorem dX7_stepsOn_1 : decode cX7_stepsOn 1 = .ok (.iload_n 2, 1) := by decide +kernel
theorem dX7_stepsOn_2 : decode cX7_stepsOn 2 = .ok (.iconst 0, 1) := by decide +kernel
theorem dX7_stepsOn_3 : decode cX7_stepsOn 3 = .ok (.invokevirtual 127, 3) := by decide +kernel
theorem dX7_stepsOn_6 : decode cX7_stepsOn 6 = .ok (.istore_n 3, 1) := by decide +kernel
theorem dX7_stepsOn_7 : decode cX7_stepsOn 7 = .ok (.aload_n 0, 1) := by decide +kernel
theorem dX7_stepsOn_8 : decode cX7_stepsOn 8 = .ok (.iload_n 2, 1) := by decide +kernel
theorem dX7_stepsOn_9 : decode cX7_stepsOn 9 = .ok (.iconst 1, 1) := by decide +kernel
theorem dX7_stepsOn_10 : decode cX7_stepsOn 10 = .ok (.invokevirtual 127, 3) := by decide +kernel
theorem dX7_stepsOn_13 : decode cX7_stepsOn 13 = .ok (.istore 4, 2) := by decide +kernel
theorem dX7_stepsOn_15 : decode cX7_stepsOn 15 = .ok (.aload_n 0, 1) := by decide +kernel
theorem dX7_stepsOn_16 : decode cX7_stepsOn 16 = .ok (.iload_n 2, 1) := by decide +kernel
theorem dX7_stepsOn_17 : decode cX7_stepsOn 17 = .ok (.iconst 2, 1) := by decide +kernel
theorem dX7_stepsOn_18 : decode cX7_stepsOn 18 = .ok (.invokevirtual 127, 3) := by decide +kernel
theorem dX7_stepsOn_21 : decode cX7_stepsOn 21 = .ok (.istore 5, 2) := by decide +kernel
theorem dX7_stepsOn_23 : decode cX7_stepsOn 23 = .ok (.iload_n 3, 1) := by decide +kernel
theorem dX7_stepsOn_24 : decode cX7_stepsOn 24 = .ok (.bipush 7, 2) := by decide +kernel
theorem dX7_stepsOn_26 : decode cX7_stepsOn 26 = .ok (.if_icmp .ne 57, 3) := by decide +kernel
theorem dX7_stepsOn_29 : decode cX7_stepsOn 29 = .ok (.aload_n 0, 1) := by decide +kernel
theorem dX7_stepsOn_30 : decode cX7_stepsOn 30 = .ok (.getfield 25, 3) := by decide +kernel
theorem dX7_stepsOn_33 : decode cX7_stepsOn 33 = .ok (.iload 4, 2) := by decide +kernel
theorem dX7_stepsOn_35 : decode cX7_stepsOn 35 = .ok (.iaload, 1) := by decide +kernel
theorem dX7_stepsOn_36 : decode cX7_stepsOn 36 = .ok (.ifCond .eq 7, 3) := by decide +kernel
theorem dX7_stepsOn_39 : decode cX7_stepsOn 39 = .ok (.iconst 1, 1) := by decide +kernel
theorem dX7_stepsOn_40 : decode cX7_stepsOn 40 = .ok (.goto 4, 3) := by decide +kernel
theorem dX7_stepsOn_43 : decode cX7_stepsOn 43 = .ok (.iconst 0, 1) := by decide +kernel
theorem dX7_stepsOn_44 : decode cX7_stepsOn 44 = .ok (.istore 6, 2) := by decide +kernel
theorem dX7_stepsOn_46 : decode cX7_stepsOn 46 = .ok (.aload_n 0, 1) := by decide +kernel
theorem dX7_stepsOn_47 : decode cX7_stepsOn 47 = .ok (.iload_n 1, 1) := by decide +kernel
theorem dX7_stepsOn_48 : decode cX7_stepsOn 48 = .ok (.sipush 500, 3) := by decide +kernel
theorem dX7_stepsOn_51 : decode cX7_stepsOn 51 = .ok (.iconst 2, 1) := by decide +kernel
theorem dX7_stepsOn_52 : decode cX7_stepsOn 52 = .ok (.iload_n 2, 1) := by decide +kernel
theorem dX7_stepsOn_53 : decode cX7_stepsOn 53 = .ok (.imul, 1) := by decide +kernel
theorem dX7_stepsOn_54 : decode cX7_stepsOn 54 = .ok (.iadd, 1) := by decide +kernel
theorem dX7_stepsOn_55 : decode cX7_stepsOn 55 = .ok (.iload 6, 2) := by decide +kernel
theorem dX7_stepsOn_57 : decode cX7_stepsOn 57 = .ok (.ifCond .eq 7, 3) := by decide +kernel
theorem dX7_stepsOn_60 : decode cX7_stepsOn 60 = .ok (.iconst 1, 1) := by decide +kernel
theorem dX7_stepsOn_61 : decode cX7_stepsOn 61 = .ok (.goto 4, 3) := by decide +kernel
theorem dX7_stepsOn_64 : decode cX7_stepsOn 64 = .ok (.iconst 0, 1) := by decide +kernel
theorem dX7_stepsOn_65 : decode cX7_stepsOn 65 = .ok (.iadd, 1) := by decide +kernel
theorem dX7_stepsOn_66 : decode cX7_stepsOn 66 = .ok (.invokevirtual 130, 3) := by decide +kernel
theorem dX7_stepsOn_69 : decode cX7_stepsOn 69 = .ok (.iload 6, 2) := by decide +kernel
theorem dX7_stepsOn_71 : decode cX7_stepsOn 71 = .ok (.ifCond .eq 8, 3) := by decide +kernel
theorem dX7_stepsOn_74 : decode cX7_stepsOn 74 = .ok (.iload 5, 2) := by decide +kernel
theorem dX7_stepsOn_76 : decode cX7_stepsOn 76 = .ok (.goto 6, 3) := by decide +kernel
theorem dX7_stepsOn_79 : decode cX7_stepsOn 79 = .ok (.iload_n 2, 1) := by decide +kernel
theorem dX7_stepsOn_80 : decode cX7_stepsOn 80 = .ok (.iconst 1, 1) := by decide +kernel
theorem dX7_stepsOn_81 : decode cX7_stepsOn 81 = .ok (.iadd, 1) := by decide +kernel
theorem dX7_stepsOn_82 : decode cX7_stepsOn 82 = .ok (.ireturn, 1) := by decide +kernel
theorem dX7_stepsOn_83 : decode cX7_stepsOn 83 = .ok (.iload_n 3, 1) := by decide +kernel
theorem dX7_stepsOn_84 : decode cX7_stepsOn 84 = .ok (.ifCond .ne 16, 3) := by decide +kernel
theorem dX7_stepsOn_87 : decode cX7_stepsOn 87 = .ok (.aload_n 0, 1) := by decide +kernel
theorem dX7_stepsOn_88 : decode cX7_stepsOn 88 = .ok (.getfield 25, 3) := by decide +kernel
theorem dX7_stepsOn_91 : decode cX7_stepsOn 91 = .ok (.iload 4, 2) := by decide +kernel
theorem dX7_stepsOn_93 : decode cX7_stepsOn 93 = .ok (.iload 5, 2) := by decide +kernel
theorem dX7_stepsOn_95 : decode cX7_stepsOn 95 = .ok (.iastore, 1) := by decide +kernel
theorem dX7_stepsOn_96 : decode cX7_stepsOn 96 = .ok (.iload_n 2, 1) := by decide +kernel
theorem dX7_stepsOn_97 : decode cX7_stepsOn 97 = .ok (.iconst 1, 1) := by decide +kernel
theorem dX7_stepsOn_98 : decode cX7_stepsOn 98 = .ok (.iadd, 1) := by decide +kernel
theorem dX7_stepsOn_99 : decode cX7_stepsOn 99 = .ok (.ireturn, 1) := by decide +kernel
theorem dX7_stepsOn_100 : decode cX7_stepsOn 100 = .ok (.iload_n 3, 1) := by decide +kernel
theorem dX7_stepsOn_101 : decode cX7_stepsOn 101 = .ok (.bipush 8, 2) := by decide +kernel
theorem dX7_stepsOn_103 : decode cX7_stepsOn 103 = .ok (.if_icmp .ne 45, 3) := by decide +kernel
theorem dX7_stepsOn_106 : decode cX7_stepsOn 106 = .ok (.aload_n 0, 1) := by decide +kernel
theorem dX7_stepsOn_107 : decode cX7_stepsOn 107 = .ok (.getfield 25, 3) := by decide +kernel
theorem dX7_stepsOn_110 : decode cX7_stepsOn 110 = .ok (.iload 4, 2) := by decide +kernel
theorem dX7_stepsOn_112 : decode cX7_stepsOn 112 = .ok (.aload_n 0, 1) := by decide +kernel
theorem dX7_stepsOn_113 : decode cX7_stepsOn 113 = .ok (.getfield 25, 3) := by decide +kernel
theorem dX7_stepsOn_116 : decode cX7_stepsOn 116 = .ok (.iload 4, 2) := by decide +kernel
theorem dX7_stepsOn_118 : decode cX7_stepsOn 118 = .ok (.iaload, 1) := by decide +kernel
theorem dX7_stepsOn_119 : decode cX7_stepsOn 119 = .ok (.ifCond .eq 13, 3) := by decide +kernel
theorem dX7_stepsOn_122 : decode cX7_stepsOn 122 = .ok (.aload_n 0, 1) := by decide +kernel
theorem dX7_stepsOn_123 : decode cX7_stepsOn 123 = .ok (.getfield 25, 3) := by decide +kernel
theorem dX7_stepsOn_126 : decode cX7_stepsOn 126 = .ok (.iload 5, 2) := by decide +kernel
theorem dX7_stepsOn_128 : decode cX7_stepsOn 128 = .ok (.iaload, 1) := by decide +kernel
theorem dX7_stepsOn_129 : decode cX7_stepsOn 129 = .ok (.goto 14, 3) := by decide +kernel
theorem dX7_stepsOn_132 : decode cX7_stepsOn 132 = .ok (.aload_n 0, 1) := by decide +kernel
theorem dX7_stepsOn_133 : decode cX7_stepsOn 133 = .ok (.getfield 25, 3) := by decide +kernel
theorem dX7_stepsOn_136 : decode cX7_stepsOn 136 = .ok (.aload_n 0, 1) := by decide +kernel
theorem dX7_stepsOn_137 : decode cX7_stepsOn 137 = .ok (.iload_n 2, 1) := by decide +kernel
theorem dX7_stepsOn_138 : decode cX7_stepsOn 138 = .ok (.iconst 3, 1) := by decide +kernel
theorem dX7_stepsOn_139 : decode cX7_stepsOn 139 = .ok (.invokevirtual 127, 3) := by decide +kernel
theorem dX7_stepsOn_142 : decode cX7_stepsOn 142 = .ok (.iaload, 1) := by decide +kernel
theorem dX7_stepsOn_143 : decode cX7_stepsOn 143 = .ok (.iastore, 1) := by decide +kernel
theorem dX7_stepsOn_144 : decode cX7_stepsOn 144 = .ok (.iload_n 2, 1) := by decide +kernel
theorem dX7_stepsOn_145 : decode cX7_stepsOn 145 = .ok (.iconst 1, 1) := by decide +kernel
theorem dX7_stepsOn_146 : decode cX7_stepsOn 146 = .ok (.iadd, 1) := by decide +kernel
theorem dX7_stepsOn_147 : decode cX7_stepsOn 147 = .ok (.ireturn, 1) := by decide +kernel
theorem dX7_stepsOn_148 : decode cX7_stepsOn 148 = .ok (.iload_n 3, 1) := by decide +kernel
theorem dX7_stepsOn_149 : decode cX7_stepsOn 149 = .ok (.iconst 5, 1) := by decide +kernel
theorem dX7_stepsOn_150 : decode cX7_stepsOn 150 = .ok (.if_icmp .ne 21, 3) := by decide +kernel
theorem dX7_stepsOn_153 : decode cX7_stepsOn 153 = .ok (.aload_n 0, 1) := by decide +kernel
theorem dX7_stepsOn_154 : decode cX7_stepsOn 154 = .ok (.iload_n 1, 1) := by decide +kernel
theorem dX7_stepsOn_155 : decode cX7_stepsOn 155 = .ok (.bipush 100, 2) := by decide +kernel
theorem dX7_stepsOn_157 : decode cX7_stepsOn 157 = .ok (.aload_n 0, 1) := by decide +kernel
theorem dX7_stepsOn_158 : decode cX7_stepsOn 158 = .ok (.getfield 25, 3) := by decide +kernel
theorem dX7_stepsOn_161 : decode cX7_stepsOn 161 = .ok (.iload 5, 2) := by decide +kernel
theorem dX7_stepsOn_163 : decode cX7_stepsOn 163 = .ok (.iaload, 1) := by decide +kernel
theorem dX7_stepsOn_164 : decode cX7_stepsOn 164 = .ok (.iadd, 1) := by decide +kernel
theorem dX7_stepsOn_165 : decode cX7_stepsOn 165 = .ok (.invokevirtual 130, 3) := by decide +kernel
theorem dX7_stepsOn_168 : decode cX7_stepsOn 168 = .ok (.goto 36, 3) := by decide +kernel
theorem dX7_stepsOn_171 : decode cX7_stepsOn 171 = .ok (.iload_n 3, 1) := by decide +kernel
theorem dX7_stepsOn_172 : decode cX7_stepsOn 172 = .ok (.bipush 6, 2) := by decide +kernel
theorem dX7_stepsOn_174 : decode cX7_stepsOn 174 = .ok (.if_icmp .ne 30, 3) := by decide +kernel
theorem dX7_stepsOn_177 : decode cX7_stepsOn 177 = .ok (.aload_n 0, 1) := by decide +kernel
theorem dX7_stepsOn_178 : decode cX7_stepsOn 178 = .ok (.iload_n 1, 1) := by decide +kernel
theorem dX7_stepsOn_179 : decode cX7_stepsOn 179 = .ok (.sipush 200, 3) := by decide +kernel
theorem dX7_stepsOn_182 : decode cX7_stepsOn 182 = .ok (.bipush 16, 2) := by decide +kernel
theorem dX7_stepsOn_184 : decode cX7_stepsOn 184 = .ok (.aload_n 0, 1) := by decide +kernel
theorem dX7_stepsOn_185 : decode cX7_stepsOn 185 = .ok (.getfield 25, 3) := by decide +kernel
theorem dX7_stepsOn_188 : decode cX7_stepsOn 188 = .ok (.iload 4, 2) := by decide +kernel
theorem dX7_stepsOn_190 : decode cX7_stepsOn 190 = .ok (.iaload, 1) := by decide +kernel
theorem dX7_stepsOn_191 : decode cX7_stepsOn 191 = .ok (.imul, 1) := by decide +kernel
theorem dX7_stepsOn_192 : decode cX7_stepsOn 192 = .ok (.iadd, 1) := by decide +kernel
theorem dX7_stepsOn_193 : decode cX7_stepsOn 193 = .ok (.aload_n 0, 1) := by decide +kernel
theorem dX7_stepsOn_194 : decode cX7_stepsOn 194 = .ok (.getfield 25, 3) := by decide +kernel
theorem dX7_stepsOn_197 : decode cX7_stepsOn 197 = .ok (.iload 5, 2) := by decide +kernel
theorem dX7_stepsOn_199 : decode cX7_stepsOn 199 = .ok (.iaload, 1) := by decide +kernel
theorem dX7_stepsOn_200 : decode cX7_stepsOn 200 = .ok (.iadd, 1) := by decide +kernel
theorem dX7_stepsOn_201 : decode cX7_stepsOn 201 = .ok (.invokevirtual 130, 3) := by decide +kernel
theorem dX7_stepsOn_204 : decode cX7_stepsOn 204 = .ok (.aload_n 0, 1) := by decide +kernel
theorem dX7_stepsOn_205 : decode cX7_stepsOn 205 = .ok (.getfield 25, 3) := by decide +kernel
theorem dX7_stepsOn_208 : decode cX7_stepsOn 208 = .ok (.iload 4, 2) := by decide +kernel
theorem dX7_stepsOn_210 : decode cX7_stepsOn 210 = .ok (.aload_n 0, 1) := by decide +kernel
theorem dX7_stepsOn_211 : decode cX7_stepsOn 211 = .ok (.iload_n 3, 1) := by decide +kernel
theorem dX7_stepsOn_212 : decode cX7_stepsOn 212 = .ok (.aload_n 0, 1) := by decide +kernel
theorem dX7_stepsOn_213 : decode cX7_stepsOn 213 = .ok (.getfield 25, 3) := by decide +kernel
theorem dX7_stepsOn_216 : decode cX7_stepsOn 216 = .ok (.iload 4, 2) := by decide +kernel
theorem dX7_stepsOn_218 : decode cX7_stepsOn 218 = .ok (.iaload, 1) := by decide +kernel
theorem dX7_stepsOn_219 : decode cX7_stepsOn 219 = .ok (.aload_n 0, 1) := by decide +kernel
theorem dX7_stepsOn_220 : decode cX7_stepsOn 220 = .ok (.getfield 25, 3) := by decide +kernel
theorem dX7_stepsOn_223 : decode cX7_stepsOn 223 = .ok (.iload 5, 2) := by decide +kernel
theorem dX7_stepsOn_225 : decode cX7_stepsOn 225 = .ok (.iaload, 1) := by decide +kernel
theorem dX7_stepsOn_226 : decode cX7_stepsOn 226 = .ok (.invokevirtual 134, 3) := by decide +kernel
theorem dX7_stepsOn_229 : decode cX7_stepsOn 229 = .ok (.iastore, 1) := by decide +kernel
theorem dX7_stepsOn_230 : decode cX7_stepsOn 230 = .ok (.iload_n 2, 1) := by decide +kernel
theorem dX7_stepsOn_231 : decode cX7_stepsOn 231 = .ok (.iconst 1, 1) := by decide +kernel
theorem dX7_stepsOn_232 : decode cX7_stepsOn 232 = .ok (.iadd, 1) := by decide +kernel
theorem dX7_stepsOn_233 : decode cX7_stepsOn 233 = .ok (.ireturn, 1) := by decide +kernel
set_option maxRecDepth 20000 in
theorem ggX7_goes_X7_begins : GoodIn wsX7_goes wsX7_begins := goodIn_r _ [10, 3, 11, 12, 13, 9, 14, 34, 35, 36, 37, 38, 39, 40, 41, 42, 43, 44, 45, 46, 47, 48, 49, 50, 51, 52, 53, 54, 55, 56, 57] (by decide +kernel) (by decide +kernel)
set_option maxRecDepth 20000 in
theorem gX7_goes_X7_begins : GoodIn wsX7_goes (wsV RX7 138 RX7 yX7_begins wsX7_begins) := goodIn_app (goodIn_of _ (by decide +kernel)) ggX7_goes_X7_begins
set_option maxRecDepth 20000 in
theorem ggX7_goes_X7_stepsOn : GoodIn wsX7_goes wsX7_stepsOn := goodIn_r _ [18, 11, 19, 20, 21, 9, 22, 3, 23, 24, 25, 26, 5, 1, 27, 28, 29, 30, 31, 32, 33, 34, 35, 36, 37, 38, 39, 40, 41, 42, 43, 44, 45, 46, 47, 48, 49, 50, 51, 52, 53, 54, 55, 56, 57] (by decide +kernel) (by decide +kernel)
set_option maxRecDepth 20000 in
theorem gX7_goes_X7_stepsOn : GoodIn wsX7_goes (wsV RX7 145 RX7 yX7_stepsOn wsX7_stepsOn) := goodIn_app (goodIn_of _ (by decide +kernel)) ggX7_goes_X7_stepsOn
set_option maxRecDepth 20000 in
theorem ggX7_goes_X7_sees : GoodIn wsX7_goes wsX7_sees := goodIn_r _ [26, 5, 1, 34, 35, 36, 37, 38, 39, 40, 41, 42, 43, 44, 45, 46, 47, 48, 49, 50, 51, 52, 53, 54, 55, 56, 57] (by decide +kernel) (by decide +kernel)
set_option maxRecDepth 20000 in
theorem gX7_goes_X7_sees : GoodIn wsX7_goes (wsV RX7 130 RX7 yX7_sees wsX7_sees) := goodIn_app (goodIn_of _ (by decide +kernel)) ggX7_goes_X7_sees
theorem dX7_goes_0 : decode cX7_goes 0 = .ok (.aload_n 0, 1) := by decide +kernel
theorem dX7_goes_1 : decode cX7_goes 1 = .ok (.iload_n 2, 1) := by decide +kernel
theorem dX7_goes_2 : decode cX7_goes 2 = .ok (.invokevirtual 138, 3) := by decide +kernel
theorem dX7_goes_5 : decode cX7_goes 5 = .ok (.aload_n 0, 1) := by decide +kernel
theorem dX7_goes_6 : decode cX7_goes 6 = .ok (.iconst 0, 1) := by decide +kernel
theorem dX7_goes_7 : decode cX7_goes 7 = .ok (.putfield 121, 3) := by decide +kernel
theorem dX7_goes_10 : decode cX7_goes 10 = .ok (.aload_n 0, 1) := by decide +kernel
theorem dX7_goes_11 : decode cX7_goes 11 = .ok (.iconst 0, 1) := by decide +kernel
theorem dX7_goes_12 : decode cX7_goes 12 = .ok (.putfield 142, 3) := by decide +kernel
theorem dX7_goes_15 : decode cX7_goes 15 = .ok (.iconst 0, 1) := by decide +kernel
theorem dX7_goes_16 : decode cX7_goes 16 = .ok (.istore_n 3, 1) := by decide +kernel
theorem dX7_goes_17 : decode cX7_goes 17 = .ok (.iload_n 3, 1) := by decide +kernel
theorem dX7_goes_18 : decode cX7_goes 18 = .ok (.aload_n 0, 1) := by decide +kernel
theorem dX7_goes_19 : decode cX7_goes 19 = .ok (.getfield 7, 3) := by decide +kernel
theorem dX7_goes_22 : decode cX7_goes 22 = .ok (.iconst 0, 1) := by decide +kernel
theorem dX7_goes_23 : decode cX7_goes 23 = .ok (.iaload, 1) := by decide +kernel
theorem dX7_goes_24 : decode cX7_goes 24 = .ok (.if_icmp .ge 32, 3) := by decide +kernel
theorem dX7_goes_27 : decode cX7_goes 27 = .ok (.aload_n 0, 1) := by decide +kernel
theorem dX7_goes_28 : decode cX7_goes 28 = .ok (.getfield 142, 3) := by decide +kernel
theorem dX7_goes_31 : decode cX7_goes 31 = .ok (.bipush 60, 2) := by decide +kernel
theorem dX7_goes_33 : decode cX7_goes 33 = .ok (.if_icmp .ge 23, 3) := by decide +kernel
theorem dX7_goes_36 : decode cX7_goes 36 = .ok (.aload_n 0, 1) := by decide +kernel
theorem dX7_goes_37 : decode cX7_goes 37 = .ok (.iload_n 1, 1) := by decide +kernel
theorem dX7_goes_38 : decode cX7_goes 38 = .ok (.iload_n 3, 1) := by decide +kernel
theorem dX7_goes_39 : decode cX7_goes 39 = .ok (.invokevirtual 145, 3) := by decide +kernel
theorem dX7_goes_42 : decode cX7_goes 42 = .ok (.istore_n 3, 1) := by decide +kernel
theorem dX7_goes_43 : decode cX7_goes 43 = .ok (.aload_n 0, 1) := by decide +kernel
theorem dX7_goes_44 : decode cX7_goes 44 = .ok (.dup, 1) := by decide +kernel
theorem dX7_goes_45 : decode cX7_goes 45 = .ok (.getfield 142, 3) := by decide +kernel
theorem dX7_goes_48 : decode cX7_goes 48 = .ok (.iconst 1, 1) := by decide +kernel
theorem dX7_goes_49 : decode cX7_goes 49 = .ok (.iadd, 1) := by decide +kernel
theorem dX7_goes_50 : decode cX7_goes 50 = .ok (.putfield 142, 3) := by decide +kernel
theorem dX7_goes_53 : decode cX7_goes 53 = .ok (.goto (-36), 3) := by decide +kernel
theorem dX7_goes_56 : decode cX7_goes 56 = .ok (.aload_n 0, 1) := by decide +kernel
theorem dX7_goes_57 : decode cX7_goes 57 = .ok (.iload_n 3, 1) := by decide +kernel
theorem dX7_goes_58 : decode cX7_goes 58 = .ok (.aload_n 0, 1) := by decide +kernel
theorem dX7_goes_59 : decode cX7_goes 59 = .ok (.getfield 7, 3) := by decide +kernel
theorem dX7_goes_62 : decode cX7_goes 62 = .ok (.iconst 0, 1) := by decide +kernel
theorem dX7_goes_63 : decode cX7_goes 63 = .ok (.iaload, 1) := by decide +kernel
theorem dX7_goes_64 : decode cX7_goes 64 = .ok (.if_icmp .ge 7, 3) := by decide +kernel
theorem dX7_goes_67 : decode cX7_goes 67 = .ok (.iconst 1, 1) := by decide +kernel
theorem dX7_goes_68 : decode cX7_goes 68 = .ok (.goto 4, 3) := by decide +kernel
theorem dX7_goes_71 : decode cX7_goes 71 = .ok (.iconst 0, 1) := by decide +kernel
theorem dX7_goes_72 : decode cX7_goes 72 = .ok (.putfield 148, 3) := by decide +kernel
theorem dX7_goes_75 : decode cX7_goes 75 = .ok (.aload_n 0, 1) := by decide +kernel
theorem dX7_goes_76 : decode cX7_goes 76 = .ok (.iload_n 1, 1) := by decide +kernel
theorem dX7_goes_77 : decode cX7_goes 77 = .ok (.sipush 600, 3) := by decide +kernel
theorem dX7_goes_80 : decode cX7_goes 80 = .ok (.aload_n 0, 1) := by decide +kernel
theorem dX7_goes_81 : decode cX7_goes 81 = .ok (.getfield 142, 3) := by decide +kernel
theorem dX7_goes_84 : decode cX7_goes 84 = .ok (.iadd, 1) := by decide +kernel
theorem dX7_goes_85 : decode cX7_goes 85 = .ok (.invokevirtual 130, 3) := by decide +kernel
theorem dX7_goes_88 : decode cX7_goes 88 = .ok (.aload_n 0, 1) := by decide +kernel
theorem dX7_goes_89 : decode cX7_goes 89 = .ok (.getfield 121, 3) := by decide +kernel
theorem dX7_goes_92 : decode cX7_goes 92 = .ok (.istore 4, 2) := by decide +kernel
theorem dX7_goes_94 : decode cX7_goes 94 = .ok (.iload 4, 2) := by decide +kernel
theorem dX7_goes_96 : decode cX7_goes 96 = .ok (.bipush 61, 2) := by decide +kernel
theorem dX7_goes_98 : decode cX7_goes 98 = .ok (.if_icmp .ge 22, 3) := by decide +kernel
theorem dX7_goes_101 : decode cX7_goes 101 = .ok (.aload_n 0, 1) := by decide +kernel
theorem dX7_goes_102 : decode cX7_goes 102 = .ok (.getfield 28, 3) := by decide +kernel
theorem dX7_goes_105 : decode cX7_goes 105 = .ok (.bipush 61, 2) := by decide +kernel
theorem dX7_goes_107 : decode cX7_goes 107 = .ok (.iload_n 1, 1) := by decide +kernel
theorem dX7_goes_108 : decode cX7_goes 108 = .ok (.imul, 1) := by decide +kernel
theorem dX7_goes_109 : decode cX7_goes 109 = .ok (.iload 4, 2) := by decide +kernel
theorem dX7_goes_111 : decode cX7_goes 111 = .ok (.iadd, 1) := by decide +kernel
theorem dX7_goes_112 : decode cX7_goes 112 = .ok (.iconst (-1), 1) := by decide +kernel
theorem dX7_goes_113 : decode cX7_goes 113 = .ok (.iastore, 1) := by decide +kernel
theorem dX7_goes_114 : decode cX7_goes 114 = .ok (.iinc 4 1, 3) := by decide +kernel
theorem dX7_goes_117 : decode cX7_goes 117 = .ok (.goto (-23), 3) := by decide +kernel
theorem dX7_goes_120 : decode cX7_goes 120 = .ok (.return_, 1) := by decide +kernel
theorem dX7_tellRun_0 : decode cX7_tellRun 0 = .ok (.iload_n 1, 1) := by decide +kernel
theorem dX7_tellRun_1 : decode cX7_tellRun 1 = .ok (.tableswitch 50 0 2 #[27, 32, 45], 27) := by decide +kernel
theorem dX7_tellRun_28 : decode cX7_tellRun 28 = .ok (.aload_n 0, 1) := by decide +kernel
theorem dX7_tellRun_29 : decode cX7_tellRun 29 = .ok (.getfield 142, 3) := by decide +kernel
theorem dX7_tellRun_32 : decode cX7_tellRun 32 = .ok (.ireturn, 1) := by decide +kernel
theorem dX7_tellRun_33 : decode cX7_tellRun 33 = .ok (.aload_n 0, 1) := by decide +kernel
theorem dX7_tellRun_34 : decode cX7_tellRun 34 = .ok (.getfield 148, 3) := by decide +kernel
theorem dX7_tellRun_37 : decode cX7_tellRun 37 = .ok (.ifCond .eq 7, 3) := by decide +kernel
theorem dX7_tellRun_40 : decode cX7_tellRun 40 = .ok (.iconst 1, 1) := by decide +kernel
theorem dX7_tellRun_41 : decode cX7_tellRun 41 = .ok (.goto 4, 3) := by decide +kernel
theorem dX7_tellRun_44 : decode cX7_tellRun 44 = .ok (.iconst 0, 1) := by decide +kernel
theorem dX7_tellRun_45 : decode cX7_tellRun 45 = .ok (.ireturn, 1) := by decide +kernel
theorem dX7_tellRun_46 : decode cX7_tellRun 46 = .ok (.aload_n 0, 1) := by decide +kernel
theorem dX7_tellRun_47 : decode cX7_tellRun 47 = .ok (.getfield 121, 3) := by decide +kernel
theorem dX7_tellRun_50 : decode cX7_tellRun 50 = .ok (.ireturn, 1) := by decide +kernel
theorem dX7_tellRun_51 : decode cX7_tellRun 51 = .ok (.aload_n 0, 1) := by decide +kernel
theorem dX7_tellRun_52 : decode cX7_tellRun 52 = .ok (.getfield 25, 3) := by decide +kernel
theorem dX7_tellRun_55 : decode cX7_tellRun 55 = .ok (.iload_n 1, 1) := by decide +kernel
theorem dX7_tellRun_56 : decode cX7_tellRun 56 = .ok (.iconst 3, 1) := by decide +kernel
theorem dX7_tellRun_57 : decode cX7_tellRun 57 = .ok (.isub, 1) := by decide +kernel
theorem dX7_tellRun_58 : decode cX7_tellRun 58 = .ok (.iaload, 1) := by decide +kernel
theorem dX7_tellRun_59 : decode cX7_tellRun 59 = .ok (.ireturn, 1) := by decide +kernel
set_option maxRecDepth 20000 in
theorem ggX7_run_X7_isSecrets : GoodIn wsX7_run wsX7_isSecrets := goodIn_r _ [5, 6, 7, 8, 4, 9, 10, 11, 12, 13, 14, 15, 16, 61, 62, 63, 64, 65, 66, 67, 68, 69, 70, 71, 72, 73, 74, 75, 76, 77, 78, 79, 80, 81, 82, 83, 84] (by decide +kernel) (by decide +kernel)
set_option maxRecDepth 20000 in
theorem gX7_run_X7_isSecrets : GoodIn wsX7_run (wsV RX7 152 RX7 yX7_isSecrets wsX7_isSecrets) := goodIn_app (goodIn_of _ (by decide +kernel)) ggX7_run_X7_isSecrets
set_option maxRecDepth 20000 in
theorem ggX7_run_X7_within : GoodIn wsX7_run wsX7_within := goodIn_r _ [16] (by decide +kernel) (by decide +kernel)
set_option maxRecDepth 20000 in
theorem gX7_run_X7_within : GoodIn wsX7_run (va_wsS RX7 50 yX7_within wsX7_within) := goodIn_app (goodIn_of _ (by decide +kernel)) ggX7_run_X7_within
set_option maxRecDepth 20000 in
theorem ggX7_run_X7_bad : GoodIn wsX7_run wsX7_bad := goodIn_r _ [20, 21, 61, 62, 63, 64, 65, 66, 67, 68, 69, 70, 71, 72, 73, 74, 75, 76, 77, 78, 79, 80, 81, 82, 83, 84] (by decide +kernel) (by decide +kernel)
set_option maxRecDepth 20000 in
theorem gX7_run_X7_bad : GoodIn wsX7_run (wsV RX7 68 RX7 yX7_bad wsX7_bad) := goodIn_app (goodIn_of _ (by decide +kernel)) ggX7_run_X7_bad
set_option maxRecDepth 20000 in
theorem ggX7_run_X7_goes : GoodIn wsX7_run wsX7_goes := goodIn_r _ [25, 26, 27, 10, 28, 29, 30, 31, 32, 4, 33, 34, 35, 36, 37, 38, 39, 40, 41, 42, 43, 44, 45, 46, 47, 48, 49, 50, 51, 52, 53, 54, 55, 56, 61, 62, 63, 64, 65, 66, 67, 68, 69, 70, 71, 72, 73, 74, 75, 76, 77, 78, 79, 80, 81, 82, 83, 84] (by decide +kernel) (by decide +kernel)
set_option maxRecDepth 20000 in
theorem gX7_run_X7_goes : GoodIn wsX7_run (wsV RX7 155 RX7 yX7_goes wsX7_goes) := goodIn_app (goodIn_of _ (by decide +kernel)) ggX7_run_X7_goes
set_option maxRecDepth 20000 in
theorem ggX7_run_X7_tellRun : GoodIn wsX7_run wsX7_tellRun := goodIn_r _ [60, 27, 28, 26, 34, 61, 62, 63, 64, 65, 66, 67, 68, 69, 70, 71, 72, 73, 74, 75, 76, 77, 78, 79, 80, 81, 82, 83, 84] (by decide +kernel) (by decide +kernel)
set_option maxRecDepth 20000 in
theorem gX7_run_X7_tellRun : GoodIn wsX7_run (wsV RX7 158 RX7 yX7_tellRun wsX7_tellRun) := goodIn_app (goodIn_of _ (by decide +kernel)) ggX7_run_X7_tellRun
theorem dX7_run_0 : decode cX7_run 0 = .ok (.aload_n 0, 1) := by decide +kernel
theorem dX7_run_1 : decode cX7_run 1 = .ok (.iload_n 1, 1) := by decide +kernel
theorem dX7_run_2 : decode cX7_run 2 = .ok (.invokevirtual 152, 3) := by decide +kernel
theorem dX7_run_5 : decode cX7_run 5 = .ok (.ifCond .eq 13, 3) := by decide +kernel
theorem dX7_run_8 : decode cX7_run 8 = .ok (.iload_n 2, 1) := by decide +kernel
theorem dX7_run_9 : decode cX7_run 9 = .ok (.iconst 0, 1) := by decide +kernel
theorem dX7_run_10 : decode cX7_run 10 = .ok (.bipush 8, 2) := by decide +kernel
theorem dX7_run_12 : decode cX7_run 12 = .ok (.invokestatic 50, 3) := by decide +kernel
theorem dX7_run_15 : decode cX7_run 15 = .ok (.ifCond .ne 8, 3) := by decide +kernel
theorem dX7_run_18 : decode cX7_run 18 = .ok (.aload_n 0, 1) := by decide +kernel
theorem dX7_run_19 : decode cX7_run 19 = .ok (.invokevirtual 68, 3) := by decide +kernel
theorem dX7_run_22 : decode cX7_run 22 = .ok (.ireturn, 1) := by decide +kernel
theorem dX7_run_23 : decode cX7_run 23 = .ok (.aload_n 0, 1) := by decide +kernel
theorem dX7_run_24 : decode cX7_run 24 = .ok (.iconst 0, 1) := by decide +kernel
theorem dX7_run_25 : decode cX7_run 25 = .ok (.iload_n 1, 1) := by decide +kernel
theorem dX7_run_26 : decode cX7_run 26 = .ok (.invokevirtual 155, 3) := by decide +kernel
theorem dX7_run_29 : decode cX7_run 29 = .ok (.aload_n 0, 1) := by decide +kernel
theorem dX7_run_30 : decode cX7_run 30 = .ok (.iload_n 2, 1) := by decide +kernel
theorem dX7_run_31 : decode cX7_run 31 = .ok (.invokevirtual 158, 3) := by decide +kernel
theorem dX7_run_34 : decode cX7_run 34 = .ok (.ireturn, 1) := by decide +kernel
set_option maxRecDepth 20000 in
theorem ggX7_sight_X7_isSecrets : GoodIn wsX7_sight wsX7_isSecrets := goodIn_r _ [7, 8, 9, 10, 6, 11, 12, 13, 14, 15, 16, 17, 18, 57, 58, 59, 60, 61, 62, 63, 64, 65, 66, 67, 68, 69, 70, 71, 72, 73, 74, 75, 76, 77, 78, 79, 80] (by decide +kernel) (by decide +kernel)
set_option maxRecDepth 20000 in
theorem gX7_sight_X7_isSecrets : GoodIn wsX7_sight (wsV RX7 152 RX7 yX7_isSecrets wsX7_isSecrets) := goodIn_app (goodIn_of _ (by decide +kernel)) ggX7_sight_X7_isSecrets
set_option maxRecDepth 20000 in
theorem ggX7_sight_X7_bad : GoodIn wsX7_sight wsX7_bad := goodIn_r _ [22, 23, 57, 58, 59, 60, 61, 62, 63, 64, 65, 66, 67, 68, 69, 70, 71, 72, 73, 74, 75, 76, 77, 78, 79, 80] (by decide +kernel) (by decide +kernel)
set_option maxRecDepth 20000 in
theorem gX7_sight_X7_bad : GoodIn wsX7_sight (wsV RX7 68 RX7 yX7_bad wsX7_bad) := goodIn_app (goodIn_of _ (by decide +kernel)) ggX7_sight_X7_bad
set_option maxRecDepth 20000 in
theorem ggX7_sight_X7_goes : GoodIn wsX7_sight wsX7_goes := goodIn_r _ [27, 1, 28, 12, 29, 2, 30, 31, 32, 6, 33, 34, 35, 36, 37, 38, 39, 40, 41, 42, 43, 44, 45, 46, 47, 48, 49, 50, 51, 52, 53, 54, 55, 56, 57, 58, 59, 60, 61, 62, 63, 64, 65, 66, 67, 68, 69, 70, 71, 72, 73, 74, 75, 76, 77, 78, 79, 80] (by decide +kernel) (by decide +kernel)
set_option maxRecDepth 20000 in
theorem gX7_sight_X7_goes : GoodIn wsX7_sight (wsV RX7 155 RX7 yX7_goes wsX7_goes) := goodIn_app (goodIn_of _ (by decide +kernel)) ggX7_sight_X7_goes
theorem dX7_sight_0 : decode cX7_sight 0 = .ok (.aload_n 0, 1) := by decide +kernel
theorem dX7_sight_1 : decode cX7_sight 1 = .ok (.iload_n 1, 1) := by decide +kernel
theorem dX7_sight_2 : decode cX7_sight 2 = .ok (.invokevirtual 152, 3) := by decide +kernel
theorem dX7_sight_5 : decode cX7_sight 5 = .ok (.ifCond .eq 7, 3) := by decide +kernel
theorem dX7_sight_8 : decode cX7_sight 8 = .ok (.iload_n 2, 1) := by decide +kernel
theorem dX7_sight_9 : decode cX7_sight 9 = .ok (.ifCond .ge 8, 3) := by decide +kernel
theorem dX7_sight_12 : decode cX7_sight 12 = .ok (.aload_n 0, 1) := by decide +kernel
theorem dX7_sight_13 : decode cX7_sight 13 = .ok (.invokevirtual 68, 3) := by decide +kernel
theorem dX7_sight_16 : decode cX7_sight 16 = .ok (.ireturn, 1) := by decide +kernel
theorem dX7_sight_17 : decode cX7_sight 17 = .ok (.aload_n 0, 1) := by decide +kernel
theorem dX7_sight_18 : decode cX7_sight 18 = .ok (.iconst 0, 1) := by decide +kernel
theorem dX7_sight_19 : decode cX7_sight 19 = .ok (.iload_n 1, 1) := by decide +kernel
theorem dX7_sight_20 : decode cX7_sight 20 = .ok (.invokevirtual 155, 3) := by decide +kernel
theorem dX7_sight_23 : decode cX7_sight 23 = .ok (.iload_n 2, 1) := by decide +kernel
theorem dX7_sight_24 : decode cX7_sight 24 = .ok (.aload_n 0, 1) := by decide +kernel
theorem dX7_sight_25 : decode cX7_sight 25 = .ok (.getfield 121, 3) := by decide +kernel
theorem dX7_sight_28 : decode cX7_sight 28 = .ok (.if_icmp .ge 12, 3) := by decide +kernel
theorem dX7_sight_31 : decode cX7_sight 31 = .ok (.aload_n 0, 1) := by decide +kernel
theorem dX7_sight_32 : decode cX7_sight 32 = .ok (.getfield 28, 3) := by decide +kernel
theorem dX7_sight_35 : decode cX7_sight 35 = .ok (.iload_n 2, 1) := by decide +kernel
theorem dX7_sight_36 : decode cX7_sight 36 = .ok (.iaload, 1) := by decide +kernel
theorem dX7_sight_37 : decode cX7_sight 37 = .ok (.goto 4, 3) := by decide +kernel
theorem dX7_sight_40 : decode cX7_sight 40 = .ok (.iconst (-1), 1) := by decide +kernel
theorem dX7_sight_41 : decode cX7_sight 41 = .ok (.ireturn, 1) := by decide +kernel
theorem dX7_partsAt_0 : decode cX7_partsAt 0 = .ok (.iconst 0, 1) := by decide +kernel
theorem dX7_partsAt_1 : decode cX7_partsAt 1 = .ok (.istore_n 3, 1) := by decide +kernel
theorem dX7_partsAt_2 : decode cX7_partsAt 2 = .ok (.iload_n 3, 1) := by decide +kernel
theorem dX7_partsAt_3 : decode cX7_partsAt 3 = .ok (.bipush 61, 2) := by decide +kernel
theorem dX7_partsAt_5 : decode cX7_partsAt 5 = .ok (.if_icmp .ge 36, 3) := by decide +kernel
theorem dX7_partsAt_8 : decode cX7_partsAt 8 = .ok (.aload_n 0, 1) := by decide +kernel
theorem dX7_partsAt_9 : decode cX7_partsAt 9 = .ok (.getfield 28, 3) := by decide +kernel
theorem dX7_partsAt_12 : decode cX7_partsAt 12 = .ok (.bipush 61, 2) := by decide +kernel
theorem dX7_partsAt_14 : decode cX7_partsAt 14 = .ok (.iload_n 1, 1) := by decide +kernel
theorem dX7_partsAt_15 : decode cX7_partsAt 15 = .ok (.imul, 1) := by decide +kernel
theorem dX7_partsAt_16 : decode cX7_partsAt 16 = .ok (.iload_n 3, 1) := by decide +kernel
theorem dX7_partsAt_17 : decode cX7_partsAt 17 = .ok (.iadd, 1) := by decide +kernel
theorem dX7_partsAt_18 : decode cX7_partsAt 18 = .ok (.iaload, 1) := by decide +kernel
theorem dX7_partsAt_19 : decode cX7_partsAt 19 = .ok (.aload_n 0, 1) := by decide +kernel
theorem dX7_partsAt_20 : decode cX7_partsAt 20 = .ok (.getfield 28, 3) := by decide +kernel
theorem dX7_partsAt_23 : decode cX7_partsAt 23 = .ok (.bipush 61, 2) := by decide +kernel
theorem dX7_partsAt_25 : decode cX7_partsAt 25 = .ok (.iload_n 2, 1) := by decide +kernel
theorem dX7_partsAt_26 : decode cX7_partsAt 26 = .ok (.imul, 1) := by decide +kernel
theorem dX7_partsAt_27 : decode cX7_partsAt 27 = .ok (.iload_n 3, 1) := by decide +kernel
theorem dX7_partsAt_28 : decode cX7_partsAt 28 = .ok (.iadd, 1) := by decide +kernel
theorem dX7_partsAt_29 : decode cX7_partsAt 29 = .ok (.iaload, 1) := by decide +kernel
theorem dX7_partsAt_30 : decode cX7_partsAt 30 = .ok (.if_icmp .eq 5, 3) := by decide +kernel
theorem dX7_partsAt_33 : decode cX7_partsAt 33 = .ok (.iload_n 3, 1) := by decide +kernel
theorem dX7_partsAt_34 : decode cX7_partsAt 34 = .ok (.ireturn, 1) := by decide +kernel
theorem dX7_partsAt_35 : decode cX7_partsAt 35 = .ok (.iinc 3 1, 3) := by decide +kernel
theorem dX7_partsAt_38 : decode cX7_partsAt 38 = .ok (.goto (-36), 3) := by decide +kernel
theorem dX7_partsAt_41 : decode cX7_partsAt 41 = .ok (.iconst (-1), 1) := by decide +kernel
theorem dX7_partsAt_42 : decode cX7_partsAt 42 = .ok (.ireturn, 1) := by decide +kernel
set_option maxRecDepth 20000 in
theorem ggX7_parts_X7_isSecrets : GoodIn wsX7_parts wsX7_isSecrets := goodIn_r _ [5, 6, 7, 8, 4, 9, 10, 11, 12, 13, 14, 15, 16, 61, 62, 63, 64, 65, 66, 67, 68, 69, 70, 71, 72, 73, 74, 75, 76, 77, 78, 79, 80, 81, 82, 83, 84] (by decide +kernel) (by decide +kernel)
set_option maxRecDepth 20000 in
theorem gX7_parts_X7_isSecrets : GoodIn wsX7_parts (wsV RX7 152 RX7 yX7_isSecrets wsX7_isSecrets) := goodIn_app (goodIn_of _ (by decide +kernel)) ggX7_parts_X7_isSecrets
set_option maxRecDepth 20000 in
theorem ggX7_parts_X7_bad : GoodIn wsX7_parts wsX7_bad := goodIn_r _ [20, 21, 61, 62, 63, 64, 65, 66, 67, 68, 69, 70, 71, 72, 73, 74, 75, 76, 77, 78, 79, 80, 81, 82, 83, 84] (by decide +kernel) (by decide +kernel)
set_option maxRecDepth 20000 in
theorem gX7_parts_X7_bad : GoodIn wsX7_parts (wsV RX7 68 RX7 yX7_bad wsX7_bad) := goodIn_app (goodIn_of _ (by decide +kernel)) ggX7_parts_X7_bad
set_option maxRecDepth 20000 in
theorem ggX7_parts_X7_goes : GoodIn wsX7_parts wsX7_goes := goodIn_r _ [25, 26, 27, 10, 28, 29, 30, 31, 32, 4, 33, 34, 35, 36, 37, 38, 39, 40, 41, 42, 43, 44, 45, 46, 47, 48, 49, 50, 51, 52, 53, 54, 55, 56, 61, 62, 63, 64, 65, 66, 67, 68, 69, 70, 71, 72, 73, 74, 75, 76, 77, 78, 79, 80, 81, 82, 83, 84] (by decide +kernel) (by decide +kernel)
set_option maxRecDepth 20000 in
theorem gX7_parts_X7_goes : GoodIn wsX7_parts (wsV RX7 155 RX7 yX7_goes wsX7_goes) := goodIn_app (goodIn_of _ (by decide +kernel)) ggX7_parts_X7_goes
set_option maxRecDepth 20000 in
theorem ggX7_parts_X7_partsAt : GoodIn wsX7_parts wsX7_partsAt := goodIn_r _ [60, 29, 61, 62, 63, 64, 65, 66, 67, 68, 69, 70, 71, 72, 73, 74, 75, 76, 77, 78, 79, 80, 81, 82, 83, 84] (by decide +kernel) (by decide +kernel)
set_option maxRecDepth 20000 in
theorem gX7_parts_X7_partsAt : GoodIn wsX7_parts (wsV RX7 161 RX7 yX7_partsAt wsX7_partsAt) := goodIn_app (goodIn_of _ (by decide +kernel)) ggX7_parts_X7_partsAt
theorem dX7_parts_0 : decode cX7_parts 0 = .ok (.aload_n 0, 1) := by decide +kernel
theorem dX7_parts_1 : decode cX7_parts 1 = .ok (.iload_n 1, 1) := by decide +kernel
theorem dX7_parts_2 : decode cX7_parts 2 = .ok (.invokevirtual 152, 3) := by decide +kernel
theorem dX7_parts_5 : decode cX7_parts 5 = .ok (.ifCond .eq 11, 3) := by decide +kernel
theorem dX7_parts_8 : decode cX7_parts 8 = .ok (.aload_n 0, 1) := by decide +kernel
theorem dX7_parts_9 : decode cX7_parts 9 = .ok (.iload_n 2, 1) := by decide +kernel
theorem dX7_parts_10 : decode cX7_parts 10 = .ok (.invokevirtual 152, 3) := by decide +kernel
theorem dX7_parts_13 : decode cX7_parts 13 = .ok (.ifCond .ne 8, 3) := by decide +kernel
theorem dX7_parts_16 : decode cX7_parts 16 = .ok (.aload_n 0, 1) := by decide +kernel
theorem dX7_parts_17 : decode cX7_parts 17 = .ok (.invokevirtual 68, 3) := by decide +kernel
theorem dX7_parts_20 : decode cX7_parts 20 = .ok (.ireturn, 1) := by decide +kernel
theorem dX7_parts_21 : decode cX7_parts 21 = .ok (.aload_n 0, 1) := by decide +kernel
theorem dX7_parts_22 : decode cX7_parts 22 = .ok (.iconst 0, 1) := by decide +kernel
theorem dX7_parts_23 : decode cX7_parts 23 = .ok (.iload_n 1, 1) := by decide +kernel
theorem dX7_parts_24 : decode cX7_parts 24 = .ok (.invokevirtual 155, 3) := by decide +kernel
theorem dX7_parts_27 : decode cX7_parts 27 = .ok (.aload_n 0, 1) := by decide +kernel
theorem dX7_parts_28 : decode cX7_parts 28 = .ok (.iconst 1, 1) := by decide +kernel
theorem dX7_parts_29 : decode cX7_parts 29 = .ok (.iload_n 2, 1) := by decide +kernel
theorem dX7_parts_30 : decode cX7_parts 30 = .ok (.invokevirtual 155, 3) := by decide +kernel
theorem dX7_parts_33 : decode cX7_parts 33 = .ok (.aload_n 0, 1) := by decide +kernel
theorem dX7_parts_34 : decode cX7_parts 34 = .ok (.iconst 0, 1) := by decide +kernel
theorem dX7_parts_35 : decode cX7_parts 35 = .ok (.iconst 1, 1) := by decide +kernel
theorem dX7_parts_36 : decode cX7_parts 36 = .ok (.invokevirtual 161, 3) := by decide +kernel
theorem dX7_parts_39 : decode cX7_parts 39 = .ok (.ireturn, 1) := by decide +kernel
set_option maxRecDepth 20000 in
theorem ggX7_leakNow_X7_goes : GoodIn wsX7_leakNow wsX7_goes := goodIn_r _ [5, 6, 7, 8, 9, 10, 11, 12, 13, 4, 14, 15, 16, 17, 18, 19, 20, 21, 22, 23, 24, 25, 26, 27, 28, 29, 30, 31, 32, 33, 34, 35, 36, 37, 49, 50, 51, 52, 53, 54, 55, 56, 57, 58, 59, 60, 61, 62, 63, 64, 65, 66, 67, 68, 69, 70, 71, 72] (by decide +kernel) (by decide +kernel)
set_option maxRecDepth 20000 in
theorem gX7_leakNow_X7_goes : GoodIn wsX7_leakNow (wsV RX7 155 RX7 yX7_goes wsX7_goes) := goodIn_app (goodIn_of _ (by decide +kernel)) ggX7_leakNow_X7_goes
set_option maxRecDepth 20000 in
theorem ggX7_leakNow_X7_secrets : GoodIn wsX7_leakNow wsX7_secrets := goodIn_r _ [41, 8, 42, 43, 4, 44, 49, 50, 51, 52, 53, 54, 55, 56, 57, 58, 59, 60, 61, 62, 63, 64, 65, 66, 67, 68, 69, 70, 71, 72] (by decide +kernel) (by decide +kernel)
set_option maxRecDepth 20000 in
theorem gX7_leakNow_X7_secrets : GoodIn wsX7_leakNow (wsV RX7 115 RX7 yX7_secrets wsX7_secrets) := goodIn_app (goodIn_of _ (by decide +kernel)) ggX7_leakNow_X7_secrets
set_option maxRecDepth 20000 in
theorem ggX7_leakNow_X7_partsAt : GoodIn wsX7_leakNow wsX7_partsAt := goodIn_r _ [48, 10, 49, 50, 51, 52, 53, 54, 55, 56, 57, 58, 59, 60, 61, 62, 63, 64, 65, 66, 67, 68, 69, 70, 71, 72] (by decide +kernel) (by decide +kernel)
set_option maxRecDepth 20000 in
theorem gX7_leakNow_X7_partsAt : GoodIn wsX7_leakNow (wsV RX7 161 RX7 yX7_partsAt wsX7_partsAt) := goodIn_app (goodIn_of _ (by decide +kernel)) ggX7_leakNow_X7_partsAt
theorem dX7_leakNow_0 : decode cX7_leakNow 0 = .ok (.aload_n 0, 1) := by decide +kernel
theorem dX7_leakNow_1 : decode cX7_leakNow 1 = .ok (.iconst 0, 1) := by decide +kernel
theorem dX7_leakNow_2 : decode cX7_leakNow 2 = .ok (.iconst 0, 1) := by decide +kernel
theorem dX7_leakNow_3 : decode cX7_leakNow 3 = .ok (.invokevirtual 155, 3) := by decide +kernel
theorem dX7_leakNow_6 : decode cX7_leakNow 6 = .ok (.iconst 1, 1) := by decide +kernel
theorem dX7_leakNow_7 : decode cX7_leakNow 7 = .ok (.istore_n 1, 1) := by decide +kernel
theorem dX7_leakNow_8 : decode cX7_leakNow 8 = .ok (.iload_n 1, 1) := by decide +kernel
theorem dX7_leakNow_9 : decode cX7_leakNow 9 = .ok (.aload_n 0, 1) := by decide +kernel
theorem dX7_leakNow_10 : decode cX7_leakNow 10 = .ok (.invokevirtual 115, 3) := by decide +kernel
theorem dX7_leakNow_13 : decode cX7_leakNow 13 = .ok (.if_icmp .ge 27, 3) := by decide +kernel
theorem dX7_leakNow_16 : decode cX7_leakNow 16 = .ok (.aload_n 0, 1) := by decide +kernel
theorem dX7_leakNow_17 : decode cX7_leakNow 17 = .ok (.iconst 1, 1) := by decide +kernel
theorem dX7_leakNow_18 : decode cX7_leakNow 18 = .ok (.iload_n 1, 1) := by decide +kernel
theorem dX7_leakNow_19 : decode cX7_leakNow 19 = .ok (.invokevirtual 155, 3) := by decide +kernel
theorem dX7_leakNow_22 : decode cX7_leakNow 22 = .ok (.aload_n 0, 1) := by decide +kernel
theorem dX7_leakNow_23 : decode cX7_leakNow 23 = .ok (.iconst 0, 1) := by decide +kernel
theorem dX7_leakNow_24 : decode cX7_leakNow 24 = .ok (.iconst 1, 1) := by decide +kernel
theorem dX7_leakNow_25 : decode cX7_leakNow 25 = .ok (.invokevirtual 161, 3) := by decide +kernel
theorem dX7_leakNow_28 : decode cX7_leakNow 28 = .ok (.iconst (-1), 1) := by decide +kernel
theorem dX7_leakNow_29 : decode cX7_leakNow 29 = .ok (.if_icmp .eq 5, 3) := by decide +kernel
theorem dX7_leakNow_32 : decode cX7_leakNow 32 = .ok (.iload_n 1, 1) := by decide +kernel
theorem dX7_leakNow_33 : decode cX7_leakNow 33 = .ok (.ireturn, 1) := by decide +kernel
theorem dX7_leakNow_34 : decode cX7_leakNow 34 = .ok (.iinc 1 1, 3) := by decide +kernel
theorem dX7_leakNow_37 : decode cX7_leakNow 37 = .ok (.goto (-29), 3) := by decide +kernel
theorem dX7_leakNow_40 : decode cX7_leakNow 40 = .ok (.iconst (-1), 1) := by decide +kernel
theorem dX7_leakNow_41 : decode cX7_leakNow 41 = .ok (.ireturn, 1) := by decide +kernel
set_option maxRecDepth 20000 in
theorem ggX7_leak_X7_leakNow : GoodIn wsX7_leak wsX7_leakNow := goodIn_r _ [5, 6, 7, 8, 4, 9, 10, 11, 12, 13, 14, 15, 16, 17, 18, 19, 20, 21, 22, 23, 24, 25, 26, 27, 28, 29, 30, 31, 32, 33, 34, 35, 36, 37, 38, 39, 40, 41, 42, 43, 44, 45, 46, 47, 48, 49, 50, 51, 52, 53, 54, 55, 56, 57, 58, 59, 60, 61, 62, 63, 64, 65, 66, 67, 68, 69, 70, 71, 72, 73, 74, 75, 76] (by decide +kernel) (by decide +kernel)
set_option maxRecDepth 20000 in
theorem gX7_leak_X7_leakNow : GoodIn wsX7_leak (wsV RX7 164 RX7 yX7_leakNow wsX7_leakNow) := goodIn_app (goodIn_of _ (by decide +kernel)) ggX7_leak_X7_leakNow
theorem dX7_leak_0 : decode cX7_leak 0 = .ok (.aload_n 0, 1) := by decide +kernel
theorem dX7_leak_1 : decode cX7_leak 1 = .ok (.invokevirtual 164, 3) := by decide +kernel
theorem dX7_leak_4 : decode cX7_leak 4 = .ok (.ireturn, 1) := by decide +kernel
set_option maxRecDepth 20000 in
theorem ggX7_rowsNow_X7_secrets : GoodIn wsX7_rowsNow wsX7_secrets := goodIn_r _ [5, 6, 7, 8, 4, 9, 49, 50, 51, 52, 53, 54, 55, 56, 57, 58, 59, 60, 61, 62, 63, 64, 65, 66, 67, 68, 69, 70, 71, 72] (by decide +kernel) (by decide +kernel)
set_option maxRecDepth 20000 in
theorem gX7_rowsNow_X7_secrets : GoodIn wsX7_rowsNow (wsV RX7 115 RX7 yX7_secrets wsX7_secrets) := goodIn_app (goodIn_of _ (by decide +kernel)) ggX7_rowsNow_X7_secrets
set_option maxRecDepth 20000 in
theorem ggX7_rowsNow_X7_goes : GoodIn wsX7_rowsNow wsX7_goes := goodIn_r _ [13, 14, 15, 6, 16, 17, 18, 19, 20, 4, 21, 22, 23, 24, 25, 26, 27, 28, 29, 30, 31, 32, 33, 34, 35, 36, 37, 38, 39, 40, 41, 42, 43, 44, 49, 50, 51, 52, 53, 54, 55, 56, 57, 58, 59, 60, 61, 62, 63, 64, 65, 66, 67, 68, 69, 70, 71, 72] (by decide +kernel) (by decide +kernel)
set_option maxRecDepth 20000 in
theorem gX7_rowsNow_X7_goes : GoodIn wsX7_rowsNow (wsV RX7 155 RX7 yX7_goes wsX7_goes) := goodIn_app (goodIn_of _ (by decide +kernel)) ggX7_rowsNow_X7_goes
set_option maxRecDepth 20000 in
theorem ggX7_rowsNow_X7_partsAt : GoodIn wsX7_rowsNow wsX7_partsAt := goodIn_r _ [48, 17, 49, 50, 51, 52, 53, 54, 55, 56, 57, 58, 59, 60, 61, 62, 63, 64, 65, 66, 67, 68, 69, 70, 71, 72] (by decide +kernel) (by decide +kernel)
set_option maxRecDepth 20000 in
theorem gX7_rowsNow_X7_partsAt : GoodIn wsX7_rowsNow (wsV RX7 161 RX7 yX7_partsAt wsX7_partsAt) := goodIn_app (goodIn_of _ (by decide +kernel)) ggX7_rowsNow_X7_partsAt
theorem dX7_rowsNow_0 : decode cX7_rowsNow 0 = .ok (.iconst 0, 1) := by decide +kernel
theorem dX7_rowsNow_1 : decode cX7_rowsNow 1 = .ok (.istore_n 1, 1) := by decide +kernel
theorem dX7_rowsNow_2 : decode cX7_rowsNow 2 = .ok (.iconst 0, 1) := by decide +kernel
theorem dX7_rowsNow_3 : decode cX7_rowsNow 3 = .ok (.istore_n 2, 1) := by decide +kernel
theorem dX7_rowsNow_4 : decode cX7_rowsNow 4 = .ok (.iload_n 2, 1) := by decide +kernel
theorem dX7_rowsNow_5 : decode cX7_rowsNow 5 = .ok (.aload_n 0, 1) := by decide +kernel
theorem dX7_rowsNow_6 : decode cX7_rowsNow 6 = .ok (.invokevirtual 115, 3) := by decide +kernel
theorem dX7_rowsNow_9 : decode cX7_rowsNow 9 = .ok (.if_icmp .ge 65, 3) := by decide +kernel
theorem dX7_rowsNow_12 : decode cX7_rowsNow 12 = .ok (.aload_n 0, 1) := by decide +kernel
theorem dX7_rowsNow_13 : decode cX7_rowsNow 13 = .ok (.iload_n 1, 1) := by decide +kernel
theorem dX7_rowsNow_14 : decode cX7_rowsNow 14 = .ok (.iload_n 2, 1) := by decide +kernel
theorem dX7_rowsNow_15 : decode cX7_rowsNow 15 = .ok (.invokevirtual 155, 3) := by decide +kernel
theorem dX7_rowsNow_18 : decode cX7_rowsNow 18 = .ok (.iconst 1, 1) := by decide +kernel
theorem dX7_rowsNow_19 : decode cX7_rowsNow 19 = .ok (.istore_n 3, 1) := by decide +kernel
theorem dX7_rowsNow_20 : decode cX7_rowsNow 20 = .ok (.iconst 0, 1) := by decide +kernel
theorem dX7_rowsNow_21 : decode cX7_rowsNow 21 = .ok (.istore 4, 2) := by decide +kernel
theorem dX7_rowsNow_23 : decode cX7_rowsNow 23 = .ok (.iload 4, 2) := by decide +kernel
theorem dX7_rowsNow_25 : decode cX7_rowsNow 25 = .ok (.iload_n 1, 1) := by decide +kernel
theorem dX7_rowsNow_26 : decode cX7_rowsNow 26 = .ok (.if_icmp .ge 30, 3) := by decide +kernel
theorem dX7_rowsNow_29 : decode cX7_rowsNow 29 = .ok (.iload_n 3, 1) := by decide +kernel
theorem dX7_rowsNow_30 : decode cX7_rowsNow 30 = .ok (.ifCond .eq 26, 3) := by decide +kernel
theorem dX7_rowsNow_33 : decode cX7_rowsNow 33 = .ok (.aload_n 0, 1) := by decide +kernel
theorem dX7_rowsNow_34 : decode cX7_rowsNow 34 = .ok (.iload 4, 2) := by decide +kernel
theorem dX7_rowsNow_36 : decode cX7_rowsNow 36 = .ok (.iload_n 1, 1) := by decide +kernel
theorem dX7_rowsNow_37 : decode cX7_rowsNow 37 = .ok (.invokevirtual 161, 3) := by decide +kernel
theorem dX7_rowsNow_40 : decode cX7_rowsNow 40 = .ok (.iconst (-1), 1) := by decide +kernel
theorem dX7_rowsNow_41 : decode cX7_rowsNow 41 = .ok (.if_icmp .eq 7, 3) := by decide +kernel
theorem dX7_rowsNow_44 : decode cX7_rowsNow 44 = .ok (.iconst 1, 1) := by decide +kernel
theorem dX7_rowsNow_45 : decode cX7_rowsNow 45 = .ok (.goto 4, 3) := by decide +kernel
theorem dX7_rowsNow_48 : decode cX7_rowsNow 48 = .ok (.iconst 0, 1) := by decide +kernel
theorem dX7_rowsNow_49 : decode cX7_rowsNow 49 = .ok (.istore_n 3, 1) := by decide +kernel
theorem dX7_rowsNow_50 : decode cX7_rowsNow 50 = .ok (.iinc 4 1, 3) := by decide +kernel
theorem dX7_rowsNow_53 : decode cX7_rowsNow 53 = .ok (.goto (-30), 3) := by decide +kernel
theorem dX7_rowsNow_56 : decode cX7_rowsNow 56 = .ok (.iload_n 1, 1) := by decide +kernel
theorem dX7_rowsNow_57 : decode cX7_rowsNow 57 = .ok (.iload_n 3, 1) := by decide +kernel
theorem dX7_rowsNow_58 : decode cX7_rowsNow 58 = .ok (.ifCond .eq 7, 3) := by decide +kernel
theorem dX7_rowsNow_61 : decode cX7_rowsNow 61 = .ok (.iconst 1, 1) := by decide +kernel
theorem dX7_rowsNow_62 : decode cX7_rowsNow 62 = .ok (.goto 4, 3) := by decide +kernel
theorem dX7_rowsNow_65 : decode cX7_rowsNow 65 = .ok (.iconst 0, 1) := by decide +kernel
theorem dX7_rowsNow_66 : decode cX7_rowsNow 66 = .ok (.iadd, 1) := by decide +kernel
theorem dX7_rowsNow_67 : decode cX7_rowsNow 67 = .ok (.istore_n 1, 1) := by decide +kernel
theorem dX7_rowsNow_68 : decode cX7_rowsNow 68 = .ok (.iinc 2 1, 3) := by decide +kernel
theorem dX7_rowsNow_71 : decode cX7_rowsNow 71 = .ok (.goto (-67), 3) := by decide +kernel
theorem dX7_rowsNow_74 : decode cX7_rowsNow 74 = .ok (.iload_n 1, 1) := by decide +kernel
theorem dX7_rowsNow_75 : decode cX7_rowsNow 75 = .ok (.ireturn, 1) := by decide +kernel
set_option maxRecDepth 20000 in
theorem ggX7_rows_X7_rowsNow : GoodIn wsX7_rows wsX7_rowsNow := goodIn_r _ [5, 6, 7, 8, 4, 9, 10, 11, 12, 13, 14, 15, 16, 17, 18, 19, 20, 21, 22, 23, 24, 25, 26, 27, 28, 29, 30, 31, 32, 33, 34, 35, 36, 37, 38, 39, 40, 41, 42, 43, 44, 45, 46, 47, 48, 49, 50, 51, 52, 53, 54, 55, 56, 57, 58, 59, 60, 61, 62, 63, 64, 65, 66, 67, 68, 69, 70, 71, 72, 73, 74, 75, 76] (by decide +kernel) (by decide +kernel)
set_option maxRecDepth 20000 in
theorem gX7_rows_X7_rowsNow : GoodIn wsX7_rows (wsV RX7 167 RX7 yX7_rowsNow wsX7_rowsNow) := goodIn_app (goodIn_of _ (by decide +kernel)) ggX7_rows_X7_rowsNow
theorem dX7_rows_0 : decode cX7_rows 0 = .ok (.aload_n 0, 1) := by decide +kernel
theorem dX7_rows_1 : decode cX7_rows 1 = .ok (.invokevirtual 167, 3) := by decide +kernel
theorem dX7_rows_4 : decode cX7_rows 4 = .ok (.ireturn, 1) := by decide +kernel
theorem dX7_comesTo_0 : decode cX7_comesTo 0 = .ok (.iload_n 1, 1) := by decide +kernel
theorem dX7_comesTo_1 : decode cX7_comesTo 1 = .ok (.aload_n 0, 1) := by decide +kernel
theorem dX7_comesTo_2 : decode cX7_comesTo 2 = .ok (.getfield 7, 3) := by decide +kernel
theorem dX7_comesTo_5 : decode cX7_comesTo 5 = .ok (.iconst 0, 1) := by decide +kernel
theorem dX7_comesTo_6 : decode cX7_comesTo 6 = .ok (.iaload, 1) := by decide +kernel
theorem dX7_comesTo_7 : decode cX7_comesTo 7 = .ok (.if_icmp .ge 7, 3) := by decide +kernel
theorem dX7_comesTo_10 : decode cX7_comesTo 10 = .ok (.iload_n 1, 1) := by decide +kernel
theorem dX7_comesTo_11 : decode cX7_comesTo 11 = .ok (.goto 9, 3) := by decide +kernel
theorem dX7_comesTo_14 : decode cX7_comesTo 14 = .ok (.aload_n 0, 1) := by decide +kernel
theorem dX7_comesTo_15 : decode cX7_comesTo 15 = .ok (.getfield 7, 3) := by decide +kernel
theorem dX7_comesTo_18 : decode cX7_comesTo 18 = .ok (.iconst 0, 1) := by decide +kernel
theorem dX7_comesTo_19 : decode cX7_comesTo 19 = .ok (.iaload, 1) := by decide +kernel
theorem dX7_comesTo_20 : decode cX7_comesTo 20 = .ok (.istore_n 2, 1) := by decide +kernel
theorem dX7_comesTo_21 : decode cX7_comesTo 21 = .ok (.iconst 0, 1) := by decide +kernel
theorem dX7_comesTo_22 : decode cX7_comesTo 22 = .ok (.istore_n 3, 1) := by decide +kernel
theorem dX7_comesTo_23 : decode cX7_comesTo 23 = .ok (.iload_n 3, 1) := by decide +kernel
theorem dX7_comesTo_24 : decode cX7_comesTo 24 = .ok (.bipush 6, 2) := by decide +kernel
theorem dX7_comesTo_26 : decode cX7_comesTo 26 = .ok (.if_icmp .ge 100, 3) := by decide +kernel
theorem dX7_comesTo_29 : decode cX7_comesTo 29 = .ok (.bipush 6, 2) := by decide +kernel
theorem dX7_comesTo_31 : decode cX7_comesTo 31 = .ok (.iload_n 2, 1) := by decide +kernel
theorem dX7_comesTo_32 : decode cX7_comesTo 32 = .ok (.imul, 1) := by decide +kernel
theorem dX7_comesTo_33 : decode cX7_comesTo 33 = .ok (.iload_n 3, 1) := by decide +kernel
theorem dX7_comesTo_34 : decode cX7_comesTo 34 = .ok (.iadd, 1) := by decide +kernel
theorem dX7_comesTo_35 : decode cX7_comesTo 35 = .ok (.istore 4, 2) := by decide +kernel
theorem dX7_comesTo_37 : decode cX7_comesTo 37 = .ok (.aload_n 0, 1) := by decide +kernel
theorem dX7_comesTo_38 : decode cX7_comesTo 38 = .ok (.getfield 31, 3) := by decide +kernel
theorem dX7_comesTo_41 : decode cX7_comesTo 41 = .ok (.iload_n 2, 1) := by decide +kernel
theorem dX7_comesTo_42 : decode cX7_comesTo 42 = .ok (.baload, 1) := by decide +kernel
theorem dX7_comesTo_43 : decode cX7_comesTo 43 = .ok (.ifCond .eq 23, 3) := by decide +kernel
theorem dX7_comesTo_46 : decode cX7_comesTo 46 = .ok (.aload_n 0, 1) := by decide +kernel
theorem dX7_comesTo_47 : decode cX7_comesTo 47 = .ok (.getfield 38, 3) := by decide +kernel
theorem dX7_comesTo_50 : decode cX7_comesTo 50 = .ok (.iload 4, 2) := by decide +kernel
theorem dX7_comesTo_52 : decode cX7_comesTo 52 = .ok (.iaload, 1) := by decide +kernel
theorem dX7_comesTo_53 : decode cX7_comesTo 53 = .ok (.aload_n 0, 1) := by decide +kernel
theorem dX7_comesTo_54 : decode cX7_comesTo 54 = .ok (.getfield 41, 3) := by decide +kernel
theorem dX7_comesTo_57 : decode cX7_comesTo 57 = .ok (.iload_n 3, 1) := by decide +kernel
theorem dX7_comesTo_58 : decode cX7_comesTo 58 = .ok (.iaload, 1) := by decide +kernel
theorem dX7_comesTo_59 : decode cX7_comesTo 59 = .ok (.if_icmp .eq 7, 3) := by decide +kernel
theorem dX7_comesTo_62 : decode cX7_comesTo 62 = .ok (.iconst (-1), 1) := by decide +kernel
theorem dX7_comesTo_63 : decode cX7_comesTo 63 = .ok (.goto 9, 3) := by decide +kernel
theorem dX7_comesTo_66 : decode cX7_comesTo 66 = .ok (.aload_n 0, 1) := by decide +kernel
theorem dX7_comesTo_67 : decode cX7_comesTo 67 = .ok (.getfield 41, 3) := by decide +kernel
theorem dX7_comesTo_70 : decode cX7_comesTo 70 = .ok (.iload_n 3, 1) := by decide +kernel
theorem dX7_comesTo_71 : decode cX7_comesTo 71 = .ok (.iaload, 1) := by decide +kernel
theorem dX7_comesTo_72 : decode cX7_comesTo 72 = .ok (.istore 5, 2) := by decide +kernel
theorem dX7_comesTo_74 : decode cX7_comesTo 74 = .ok (.aload_n 0, 1) := by decide +kernel
theorem dX7_comesTo_75 : decode cX7_comesTo 75 = .ok (.aload_n 0, 1) := by decide +kernel
theorem dX7_comesTo_76 : decode cX7_comesTo 76 = .ok (.getfield 170, 3) := by decide +kernel
theorem dX7_comesTo_79 : decode cX7_comesTo 79 = .ok (.ifCond .ne 24, 3) := by decide +kernel
theorem dX7_comesTo_82 : decode cX7_comesTo 82 = .ok (.aload_n 0, 1) := by decide +kernel
theorem dX7_comesTo_83 : decode cX7_comesTo 83 = .ok (.getfield 31, 3) := by decide +kernel
theorem dX7_comesTo_86 : decode cX7_comesTo 86 = .ok (.iload_n 2, 1) := by decide +kernel
theorem dX7_comesTo_87 : decode cX7_comesTo 87 = .ok (.baload, 1) := by decide +kernel
theorem dX7_comesTo_88 : decode cX7_comesTo 88 = .ok (.ifCond .eq 15, 3) := by decide +kernel
theorem dX7_comesTo_91 : decode cX7_comesTo 91 = .ok (.iload 5, 2) := by decide +kernel
theorem dX7_comesTo_93 : decode cX7_comesTo 93 = .ok (.aload_n 0, 1) := by decide +kernel
theorem dX7_comesTo_94 : decode cX7_comesTo 94 = .ok (.getfield 38, 3) := by decide +kernel
theorem dX7_comesTo_97 : decode cX7_comesTo 97 = .ok (.iload 4, 2) := by decide +kernel
theorem dX7_comesTo_99 : decode cX7_comesTo 99 = .ok (.iaload, 1) := by decide +kernel
theorem dX7_comesTo_100 : decode cX7_comesTo 100 = .ok (.if_icmp .eq 7, 3) := by decide +kernel
theorem dX7_comesTo_103 : decode cX7_comesTo 103 = .ok (.iconst 1, 1) := by decide +kernel
theorem dX7_comesTo_104 : decode cX7_comesTo 104 = .ok (.goto 4, 3) := by decide +kernel
theorem dX7_comesTo_107 : decode cX7_comesTo 107 = .ok (.iconst 0, 1) := by decide +kernel
theorem dX7_comesTo_108 : decode cX7_comesTo 108 = .ok (.putfield 170, 3) := by decide +kernel
theorem dX7_comesTo_111 : decode cX7_comesTo 111 = .ok (.aload_n 0, 1) := by decide +kernel
theorem dX7_comesTo_112 : decode cX7_comesTo 112 = .ok (.getfield 38, 3) := by decide +kernel
theorem dX7_comesTo_115 : decode cX7_comesTo 115 = .ok (.iload 4, 2) := by decide +kernel
theorem dX7_comesTo_117 : decode cX7_comesTo 117 = .ok (.iload 5, 2) := by decide +kernel
theorem dX7_comesTo_119 : decode cX7_comesTo 119 = .ok (.iastore, 1) := by decide +kernel
theorem dX7_comesTo_120 : decode cX7_comesTo 120 = .ok (.iinc 3 1, 3) := by decide +kernel
theorem dX7_comesTo_123 : decode cX7_comesTo 123 = .ok (.goto (-100), 3) := by decide +kernel
theorem dX7_comesTo_126 : decode cX7_comesTo 126 = .ok (.aload_n 0, 1) := by decide +kernel
theorem dX7_comesTo_127 : decode cX7_comesTo 127 = .ok (.getfield 31, 3) := by decide +kernel
theorem dX7_comesTo_130 : decode cX7_comesTo 130 = .ok (.iload_n 2, 1) := by decide +kernel
theorem dX7_comesTo_131 : decode cX7_comesTo 131 = .ok (.baload, 1) := by decide +kernel
theorem dX7_comesTo_132 : decode cX7_comesTo 132 = .ok (.ifCond .eq 17, 3) := by decide +kernel
theorem dX7_comesTo_135 : decode cX7_comesTo 135 = .ok (.aload_n 0, 1) := by decide +kernel
theorem dX7_comesTo_136 : decode cX7_comesTo 136 = .ok (.getfield 35, 3) := by decide +kernel
theorem dX7_comesTo_139 : decode cX7_comesTo 139 = .ok (.iload_n 2, 1) := by decide +kernel
theorem dX7_comesTo_140 : decode cX7_comesTo 140 = .ok (.iaload, 1) := by decide +kernel
theorem dX7_comesTo_141 : decode cX7_comesTo 141 = .ok (.aload_n 0, 1) := by decide +kernel
theorem dX7_comesTo_142 : decode cX7_comesTo 142 = .ok (.getfield 173, 3) := by decide +kernel
theorem dX7_comesTo_145 : decode cX7_comesTo 145 = .ok (.ior, 1) := by decide +kernel
theorem dX7_comesTo_146 : decode cX7_comesTo 146 = .ok (.goto 7, 3) := by decide +kernel
theorem dX7_comesTo_149 : decode cX7_comesTo 149 = .ok (.aload_n 0, 1) := by decide +kernel
theorem dX7_comesTo_150 : decode cX7_comesTo 150 = .ok (.getfield 173, 3) := by decide +kernel
theorem dX7_comesTo_153 : decode cX7_comesTo 153 = .ok (.istore_n 3, 1) := by decide +kernel
theorem dX7_comesTo_154 : decode cX7_comesTo 154 = .ok (.aload_n 0, 1) := by decide +kernel
theorem dX7_comesTo_155 : decode cX7_comesTo 155 = .ok (.aload_n 0, 1) := by decide +kernel
theorem dX7_comesTo_156 : decode cX7_comesTo 156 = .ok (.getfield 170, 3) := by decide +kernel
theorem dX7_comesTo_159 : decode cX7_comesTo 159 = .ok (.ifCond .ne 13, 3) := by decide +kernel
theorem dX7_comesTo_162 : decode cX7_comesTo 162 = .ok (.iload_n 3, 1) := by decide +kernel
theorem dX7_comesTo_163 : decode cX7_comesTo 163 = .ok (.aload_n 0, 1) := by decide +kernel
theorem dX7_comesTo_164 : decode cX7_comesTo 164 = .ok (.getfield 35, 3) := by decide +kernel
theorem dX7_comesTo_167 : decode cX7_comesTo 167 = .ok (.iload_n 2, 1) := by decide +kernel
theorem dX7_comesTo_168 : decode cX7_comesTo 168 = .ok (.iaload, 1) := by decide +kernel
theorem dX7_comesTo_169 : decode cX7_comesTo 169 = .ok (.if_icmp .eq 7, 3) := by decide +kernel
theorem dX7_comesTo_172 : decode cX7_comesTo 172 = .ok (.iconst 1, 1) := by decide +kernel
theorem dX7_comesTo_173 : decode cX7_comesTo 173 = .ok (.goto 4, 3) := by decide +kernel
theorem dX7_comesTo_176 : decode cX7_comesTo 176 = .ok (.iconst 0, 1) := by decide +kernel
theorem dX7_comesTo_177 : decode cX7_comesTo 177 = .ok (.putfield 170, 3) := by decide +kernel
theorem dX7_comesTo_180 : decode cX7_comesTo 180 = .ok (.aload_n 0, 1) := by decide +kernel
theorem dX7_comesTo_181 : decode cX7_comesTo 181 = .ok (.getfield 35, 3) := by decide +kernel
theorem dX7_comesTo_184 : decode cX7_comesTo 184 = .ok (.iload_n 2, 1) := by decide +kernel
theorem dX7_comesTo_185 : decode cX7_comesTo 185 = .ok (.iload_n 3, 1) := by decide +kernel
theorem dX7_comesTo_186 : decode cX7_comesTo 186 = .ok (.iastore, 1) := by decide +kernel
theorem dX7_comesTo_187 : decode cX7_comesTo 187 = .ok (.aload_n 0, 1) := by decide +kernel
theorem dX7_comesTo_188 : decode cX7_comesTo 188 = .ok (.getfield 31, 3) := by decide +kernel
theorem dX7_comesTo_191 : decode cX7_comesTo 191 = .ok (.iload_n 2, 1) := by decide +kernel
theorem dX7_comesTo_192 : decode cX7_comesTo 192 = .ok (.iconst 1, 1) := by decide +kernel
theorem dX7_comesTo_193 : decode cX7_comesTo 193 = .ok (.bastore, 1) := by decide +kernel
theorem dX7_comesTo_194 : decode cX7_comesTo 194 = .ok (.return_, 1) := by decide +kernel
theorem dX7_takes_0 : decode cX7_takes 0 = .ok (.aload_n 0, 1) := by decide +kernel
theorem dX7_takes_1 : decode cX7_takes 1 = .ok (.aload_n 0, 1) := by decide +kernel
theorem dX7_takes_2 : decode cX7_takes 2 = .ok (.getfield 35, 3) := by decide +kernel
theorem dX7_takes_5 : decode cX7_takes 5 = .ok (.iload_n 1, 1) := by decide +kernel
theorem dX7_takes_6 : decode cX7_takes 6 = .ok (.iaload, 1) := by decide +kernel
theorem dX7_takes_7 : decode cX7_takes 7 = .ok (.putfield 173, 3) := by decide +kernel
theorem dX7_takes_10 : decode cX7_takes 10 = .ok (.iconst 0, 1) := by decide +kernel
theorem dX7_takes_11 : decode cX7_takes 11 = .ok (.istore_n 2, 1) := by decide +kernel
theorem dX7_takes_12 : decode cX7_takes 12 = .ok (.iload_n 2, 1) := by decide +kernel
theorem dX7_takes_13 : decode cX7_takes 13 = .ok (.bipush 6, 2) := by decide +kernel
theorem dX7_takes_15 : decode cX7_takes 15 = .ok (.if_icmp .ge 26, 3) := by decide +kernel
theorem dX7_takes_18 : decode cX7_takes 18 = .ok (.aload_n 0, 1) := by decide +kernel
theorem dX7_takes_19 : decode cX7_takes 19 = .ok (.getfield 41, 3) := by decide +kernel
theorem dX7_takes_22 : decode cX7_takes 22 = .ok (.iload_n 2, 1) := by decide +kernel
theorem dX7_takes_23 : decode cX7_takes 23 = .ok (.aload_n 0, 1) := by decide +kernel
theorem dX7_takes_24 : decode cX7_takes 24 = .ok (.getfield 38, 3) := by decide +kernel
theorem dX7_takes_27 : decode cX7_takes 27 = .ok (.bipush 6, 2) := by decide +kernel
theorem dX7_takes_29 : decode cX7_takes 29 = .ok (.iload_n 1, 1) := by decide +kernel
theorem dX7_takes_30 : decode cX7_takes 30 = .ok (.imul, 1) := by decide +kernel
theorem dX7_takes_31 : decode cX7_takes 31 = .ok (.iload_n 2, 1) := by decide +kernel
theorem dX7_takes_32 : decode cX7_takes 32 = .ok (.iadd, 1) := by decide +kernel
theorem dX7_takes_33 : decode cX7_takes 33 = .ok (.iaload, 1) := by decide +kernel
theorem dX7_takes_34 : decode cX7_takes 34 = .ok (.iastore, 1) := by decide +kernel
theorem dX7_takes_35 : decode cX7_takes 35 = .ok (.iinc 2 1, 3) := by decide +kernel
theorem dX7_takes_38 : decode cX7_takes 38 = .ok (.goto (-26), 3) := by decide +kernel
theorem dX7_takes_41 : decode cX7_takes 41 = .ok (.return_, 1) := by decide +kernel
theorem dX7_tells_0 : decode cX7_tells 0 = .ok (.aload_n 0, 1) := by decide +kernel
theorem dX7_tells_1 : decode cX7_tells 1 = .ok (.iload_n 2, 1) := by decide +kernel
theorem dX7_tells_2 : decode cX7_tells 2 = .ok (.ifCond .eq 14, 3) := by decide +kernel
theorem dX7_tells_5 : decode cX7_tells 5 = .ok (.aload_n 0, 1) := by decide +kernel
theorem dX7_tells_6 : decode cX7_tells 6 = .ok (.getfield 173, 3) := by decide +kernel
theorem dX7_tells_9 : decode cX7_tells 9 = .ok (.iconst 1, 1) := by decide +kernel
theorem dX7_tells_10 : decode cX7_tells 10 = .ok (.iload_n 1, 1) := by decide +kernel
theorem dX7_tells_11 : decode cX7_tells 11 = .ok (.ishl, 1) := by decide +kernel
theorem dX7_tells_12 : decode cX7_tells 12 = .ok (.ior, 1) := by decide +kernel
theorem dX7_tells_13 : decode cX7_tells 13 = .ok (.goto 13, 3) := by decide +kernel
theorem dX7_tells_16 : decode cX7_tells 16 = .ok (.aload_n 0, 1) := by decide +kernel
