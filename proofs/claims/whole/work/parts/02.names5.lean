theorem dX7_tells_17 : decode cX7_tells 17 = .ok (.getfield 173, 3) := by decide +kernel
theorem dX7_tells_20 : decode cX7_tells 20 = .ok (.iconst 1, 1) := by decide +kernel
theorem dX7_tells_21 : decode cX7_tells 21 = .ok (.iload_n 1, 1) := by decide +kernel
theorem dX7_tells_22 : decode cX7_tells 22 = .ok (.ishl, 1) := by decide +kernel
theorem dX7_tells_23 : decode cX7_tells 23 = .ok (.iconst (-1), 1) := by decide +kernel
theorem dX7_tells_24 : decode cX7_tells 24 = .ok (.ixor, 1) := by decide +kernel
theorem dX7_tells_25 : decode cX7_tells 25 = .ok (.iand, 1) := by decide +kernel
theorem dX7_tells_26 : decode cX7_tells 26 = .ok (.putfield 173, 3) := by decide +kernel
theorem dX7_tells_29 : decode cX7_tells 29 = .ok (.aload_n 0, 1) := by decide +kernel
theorem dX7_tells_30 : decode cX7_tells 30 = .ok (.getfield 41, 3) := by decide +kernel
theorem dX7_tells_33 : decode cX7_tells 33 = .ok (.iload_n 1, 1) := by decide +kernel
theorem dX7_tells_34 : decode cX7_tells 34 = .ok (.iload_n 3, 1) := by decide +kernel
theorem dX7_tells_35 : decode cX7_tells 35 = .ok (.iastore, 1) := by decide +kernel
theorem dX7_tells_36 : decode cX7_tells 36 = .ok (.return_, 1) := by decide +kernel
set_option maxRecDepth 20000 in
theorem ggX7_tellsPick_X7_has : GoodIn wsX7_tellsPick wsX7_has := goodIn_r _ [6] (by decide +kernel) (by decide +kernel)
set_option maxRecDepth 20000 in
theorem gX7_tellsPick_X7_has : GoodIn wsX7_tellsPick (va_wsS RX7 118 yX7_has wsX7_has) := goodIn_app (goodIn_of _ (by decide +kernel)) ggX7_tellsPick_X7_has
set_option maxRecDepth 20000 in
theorem ggX7_tellsPick_X7_tells : GoodIn wsX7_tellsPick wsX7_tells := goodIn_r _ [10, 2, 1, 11, 12, 13, 14, 15, 16, 17, 18, 19, 20, 21, 22, 23, 24, 25, 26, 27, 28, 29, 30, 31, 32, 33, 34] (by decide +kernel) (by decide +kernel)
set_option maxRecDepth 20000 in
theorem gX7_tellsPick_X7_tells : GoodIn wsX7_tellsPick (wsV RX7 176 RX7 yX7_tells wsX7_tells) := goodIn_app (goodIn_of _ (by decide +kernel)) ggX7_tellsPick_X7_tells
theorem dX7_tellsPick_0 : decode cX7_tellsPick 0 = .ok (.aload_n 0, 1) := by decide +kernel
theorem dX7_tellsPick_1 : decode cX7_tellsPick 1 = .ok (.getfield 41, 3) := by decide +kernel
theorem dX7_tellsPick_4 : decode cX7_tellsPick 4 = .ok (.iload_n 1, 1) := by decide +kernel
theorem dX7_tellsPick_5 : decode cX7_tellsPick 5 = .ok (.iaload, 1) := by decide +kernel
theorem dX7_tellsPick_6 : decode cX7_tellsPick 6 = .ok (.iconst (-1), 1) := by decide +kernel
theorem dX7_tellsPick_7 : decode cX7_tellsPick 7 = .ok (.if_icmp .eq 41, 3) := by decide +kernel
theorem dX7_tellsPick_10 : decode cX7_tellsPick 10 = .ok (.aload_n 0, 1) := by decide +kernel
theorem dX7_tellsPick_11 : decode cX7_tellsPick 11 = .ok (.getfield 41, 3) := by decide +kernel
theorem dX7_tellsPick_14 : decode cX7_tellsPick 14 = .ok (.iload_n 1, 1) := by decide +kernel
theorem dX7_tellsPick_15 : decode cX7_tellsPick 15 = .ok (.iaload, 1) := by decide +kernel
theorem dX7_tellsPick_16 : decode cX7_tellsPick 16 = .ok (.ifCond .eq 7, 3) := by decide +kernel
theorem dX7_tellsPick_19 : decode cX7_tellsPick 19 = .ok (.iload_n 2, 1) := by decide +kernel
theorem dX7_tellsPick_20 : decode cX7_tellsPick 20 = .ok (.goto 4, 3) := by decide +kernel
theorem dX7_tellsPick_23 : decode cX7_tellsPick 23 = .ok (.iload_n 3, 1) := by decide +kernel
theorem dX7_tellsPick_24 : decode cX7_tellsPick 24 = .ok (.istore 4, 2) := by decide +kernel
theorem dX7_tellsPick_26 : decode cX7_tellsPick 26 = .ok (.aload_n 0, 1) := by decide +kernel
theorem dX7_tellsPick_27 : decode cX7_tellsPick 27 = .ok (.iload_n 1, 1) := by decide +kernel
theorem dX7_tellsPick_28 : decode cX7_tellsPick 28 = .ok (.aload_n 0, 1) := by decide +kernel
theorem dX7_tellsPick_29 : decode cX7_tellsPick 29 = .ok (.getfield 173, 3) := by decide +kernel
theorem dX7_tellsPick_32 : decode cX7_tellsPick 32 = .ok (.iload 4, 2) := by decide +kernel
theorem dX7_tellsPick_34 : decode cX7_tellsPick 34 = .ok (.invokestatic 118, 3) := by decide +kernel
theorem dX7_tellsPick_37 : decode cX7_tellsPick 37 = .ok (.aload_n 0, 1) := by decide +kernel
theorem dX7_tellsPick_38 : decode cX7_tellsPick 38 = .ok (.getfield 41, 3) := by decide +kernel
theorem dX7_tellsPick_41 : decode cX7_tellsPick 41 = .ok (.iload 4, 2) := by decide +kernel
theorem dX7_tellsPick_43 : decode cX7_tellsPick 43 = .ok (.iaload, 1) := by decide +kernel
theorem dX7_tellsPick_44 : decode cX7_tellsPick 44 = .ok (.invokevirtual 176, 3) := by decide +kernel
theorem dX7_tellsPick_47 : decode cX7_tellsPick 47 = .ok (.return_, 1) := by decide +kernel
theorem dX7_tellsPick_48 : decode cX7_tellsPick 48 = .ok (.aload_n 0, 1) := by decide +kernel
theorem dX7_tellsPick_49 : decode cX7_tellsPick 49 = .ok (.getfield 41, 3) := by decide +kernel
theorem dX7_tellsPick_52 : decode cX7_tellsPick 52 = .ok (.iload_n 2, 1) := by decide +kernel
theorem dX7_tellsPick_53 : decode cX7_tellsPick 53 = .ok (.iaload, 1) := by decide +kernel
theorem dX7_tellsPick_54 : decode cX7_tellsPick 54 = .ok (.iconst (-1), 1) := by decide +kernel
theorem dX7_tellsPick_55 : decode cX7_tellsPick 55 = .ok (.if_icmp .eq 22, 3) := by decide +kernel
theorem dX7_tellsPick_58 : decode cX7_tellsPick 58 = .ok (.aload_n 0, 1) := by decide +kernel
theorem dX7_tellsPick_59 : decode cX7_tellsPick 59 = .ok (.getfield 41, 3) := by decide +kernel
theorem dX7_tellsPick_62 : decode cX7_tellsPick 62 = .ok (.iload_n 2, 1) := by decide +kernel
theorem dX7_tellsPick_63 : decode cX7_tellsPick 63 = .ok (.iaload, 1) := by decide +kernel
theorem dX7_tellsPick_64 : decode cX7_tellsPick 64 = .ok (.aload_n 0, 1) := by decide +kernel
theorem dX7_tellsPick_65 : decode cX7_tellsPick 65 = .ok (.getfield 41, 3) := by decide +kernel
theorem dX7_tellsPick_68 : decode cX7_tellsPick 68 = .ok (.iload_n 3, 1) := by decide +kernel
theorem dX7_tellsPick_69 : decode cX7_tellsPick 69 = .ok (.iaload, 1) := by decide +kernel
theorem dX7_tellsPick_70 : decode cX7_tellsPick 70 = .ok (.if_icmp .ne 7, 3) := by decide +kernel
theorem dX7_tellsPick_73 : decode cX7_tellsPick 73 = .ok (.iconst 1, 1) := by decide +kernel
theorem dX7_tellsPick_74 : decode cX7_tellsPick 74 = .ok (.goto 4, 3) := by decide +kernel
theorem dX7_tellsPick_77 : decode cX7_tellsPick 77 = .ok (.iconst 0, 1) := by decide +kernel
theorem dX7_tellsPick_78 : decode cX7_tellsPick 78 = .ok (.istore 4, 2) := by decide +kernel
theorem dX7_tellsPick_80 : decode cX7_tellsPick 80 = .ok (.aload_n 0, 1) := by decide +kernel
theorem dX7_tellsPick_81 : decode cX7_tellsPick 81 = .ok (.iload_n 1, 1) := by decide +kernel
theorem dX7_tellsPick_82 : decode cX7_tellsPick 82 = .ok (.iload 4, 2) := by decide +kernel
theorem dX7_tellsPick_84 : decode cX7_tellsPick 84 = .ok (.ifCond .ne 40, 3) := by decide +kernel
theorem dX7_tellsPick_87 : decode cX7_tellsPick 87 = .ok (.aload_n 0, 1) := by decide +kernel
theorem dX7_tellsPick_88 : decode cX7_tellsPick 88 = .ok (.getfield 173, 3) := by decide +kernel
theorem dX7_tellsPick_91 : decode cX7_tellsPick 91 = .ok (.iload_n 1, 1) := by decide +kernel
theorem dX7_tellsPick_92 : decode cX7_tellsPick 92 = .ok (.invokestatic 118, 3) := by decide +kernel
theorem dX7_tellsPick_95 : decode cX7_tellsPick 95 = .ok (.ifCond .ne 25, 3) := by decide +kernel
theorem dX7_tellsPick_98 : decode cX7_tellsPick 98 = .ok (.aload_n 0, 1) := by decide +kernel
theorem dX7_tellsPick_99 : decode cX7_tellsPick 99 = .ok (.getfield 173, 3) := by decide +kernel
theorem dX7_tellsPick_102 : decode cX7_tellsPick 102 = .ok (.iload_n 2, 1) := by decide +kernel
theorem dX7_tellsPick_103 : decode cX7_tellsPick 103 = .ok (.invokestatic 118, 3) := by decide +kernel
theorem dX7_tellsPick_106 : decode cX7_tellsPick 106 = .ok (.ifCond .ne 14, 3) := by decide +kernel
theorem dX7_tellsPick_109 : decode cX7_tellsPick 109 = .ok (.aload_n 0, 1) := by decide +kernel
theorem dX7_tellsPick_110 : decode cX7_tellsPick 110 = .ok (.getfield 173, 3) := by decide +kernel
theorem dX7_tellsPick_113 : decode cX7_tellsPick 113 = .ok (.iload_n 3, 1) := by decide +kernel
theorem dX7_tellsPick_114 : decode cX7_tellsPick 114 = .ok (.invokestatic 118, 3) := by decide +kernel
theorem dX7_tellsPick_117 : decode cX7_tellsPick 117 = .ok (.ifCond .eq 7, 3) := by decide +kernel
theorem dX7_tellsPick_120 : decode cX7_tellsPick 120 = .ok (.iconst 1, 1) := by decide +kernel
theorem dX7_tellsPick_121 : decode cX7_tellsPick 121 = .ok (.goto 4, 3) := by decide +kernel
theorem dX7_tellsPick_124 : decode cX7_tellsPick 124 = .ok (.iconst 0, 1) := by decide +kernel
theorem dX7_tellsPick_125 : decode cX7_tellsPick 125 = .ok (.iload 4, 2) := by decide +kernel
theorem dX7_tellsPick_127 : decode cX7_tellsPick 127 = .ok (.ifCond .eq 12, 3) := by decide +kernel
theorem dX7_tellsPick_130 : decode cX7_tellsPick 130 = .ok (.aload_n 0, 1) := by decide +kernel
theorem dX7_tellsPick_131 : decode cX7_tellsPick 131 = .ok (.getfield 41, 3) := by decide +kernel
theorem dX7_tellsPick_134 : decode cX7_tellsPick 134 = .ok (.iload_n 2, 1) := by decide +kernel
theorem dX7_tellsPick_135 : decode cX7_tellsPick 135 = .ok (.iaload, 1) := by decide +kernel
theorem dX7_tellsPick_136 : decode cX7_tellsPick 136 = .ok (.goto 4, 3) := by decide +kernel
theorem dX7_tellsPick_139 : decode cX7_tellsPick 139 = .ok (.iconst (-1), 1) := by decide +kernel
theorem dX7_tellsPick_140 : decode cX7_tellsPick 140 = .ok (.invokevirtual 176, 3) := by decide +kernel
theorem dX7_tellsPick_143 : decode cX7_tellsPick 143 = .ok (.return_, 1) := by decide +kernel
set_option maxRecDepth 20000 in
theorem ggX7_tellsTwo_X7_tells : GoodIn wsX7_tellsTwo wsX7_tells := goodIn_r _ [7, 2, 1, 19, 20, 21, 22, 23, 24, 25, 26, 27, 28, 29, 30, 31, 32, 33, 34, 35, 36, 37, 38, 39, 40, 41, 42] (by decide +kernel) (by decide +kernel)
set_option maxRecDepth 20000 in
theorem gX7_tellsTwo_X7_tells : GoodIn wsX7_tellsTwo (wsV RX7 176 RX7 yX7_tells wsX7_tells) := goodIn_app (goodIn_of _ (by decide +kernel)) ggX7_tellsTwo_X7_tells
set_option maxRecDepth 20000 in
theorem ggX7_tellsTwo_X7_has : GoodIn wsX7_tellsTwo wsX7_has := goodIn_r _ [10] (by decide +kernel) (by decide +kernel)
set_option maxRecDepth 20000 in
theorem gX7_tellsTwo_X7_has : GoodIn wsX7_tellsTwo (va_wsS RX7 118 yX7_has wsX7_has) := goodIn_app (goodIn_of _ (by decide +kernel)) ggX7_tellsTwo_X7_has
set_option maxRecDepth 20000 in
theorem ggX7_tellsTwo_X7_comesOut : GoodIn wsX7_tellsTwo wsX7_comesOut := goodIn_r _ [14, 15, 16, 17, 6, 18, 19, 20, 21, 22, 23, 24, 25, 26, 27, 28, 29, 30, 31, 32, 33, 34, 35, 36, 37, 38, 39, 40, 41, 42] (by decide +kernel) (by decide +kernel)
set_option maxRecDepth 20000 in
theorem gX7_tellsTwo_X7_comesOut : GoodIn wsX7_tellsTwo (wsV RX7 134 RX7 yX7_comesOut wsX7_comesOut) := goodIn_app (goodIn_of _ (by decide +kernel)) ggX7_tellsTwo_X7_comesOut
theorem dX7_tellsTwo_0 : decode cX7_tellsTwo 0 = .ok (.iload_n 1, 1) := by decide +kernel
theorem dX7_tellsTwo_1 : decode cX7_tellsTwo 1 = .ok (.iconst 4, 1) := by decide +kernel
theorem dX7_tellsTwo_2 : decode cX7_tellsTwo 2 = .ok (.if_icmp .ne 8, 3) := by decide +kernel
theorem dX7_tellsTwo_5 : decode cX7_tellsTwo 5 = .ok (.iload_n 2, 1) := by decide +kernel
theorem dX7_tellsTwo_6 : decode cX7_tellsTwo 6 = .ok (.iload_n 3, 1) := by decide +kernel
theorem dX7_tellsTwo_7 : decode cX7_tellsTwo 7 = .ok (.if_icmp .eq 26, 3) := by decide +kernel
theorem dX7_tellsTwo_10 : decode cX7_tellsTwo 10 = .ok (.iload_n 1, 1) := by decide +kernel
theorem dX7_tellsTwo_11 : decode cX7_tellsTwo 11 = .ok (.iconst 3, 1) := by decide +kernel
theorem dX7_tellsTwo_12 : decode cX7_tellsTwo 12 = .ok (.if_icmp .ne 25, 3) := by decide +kernel
theorem dX7_tellsTwo_15 : decode cX7_tellsTwo 15 = .ok (.aload_n 0, 1) := by decide +kernel
theorem dX7_tellsTwo_16 : decode cX7_tellsTwo 16 = .ok (.getfield 41, 3) := by decide +kernel
theorem dX7_tellsTwo_19 : decode cX7_tellsTwo 19 = .ok (.iload_n 2, 1) := by decide +kernel
theorem dX7_tellsTwo_20 : decode cX7_tellsTwo 20 = .ok (.iaload, 1) := by decide +kernel
theorem dX7_tellsTwo_21 : decode cX7_tellsTwo 21 = .ok (.ifCond .eq 12, 3) := by decide +kernel
theorem dX7_tellsTwo_24 : decode cX7_tellsTwo 24 = .ok (.aload_n 0, 1) := by decide +kernel
theorem dX7_tellsTwo_25 : decode cX7_tellsTwo 25 = .ok (.getfield 41, 3) := by decide +kernel
theorem dX7_tellsTwo_28 : decode cX7_tellsTwo 28 = .ok (.iload_n 3, 1) := by decide +kernel
theorem dX7_tellsTwo_29 : decode cX7_tellsTwo 29 = .ok (.iaload, 1) := by decide +kernel
theorem dX7_tellsTwo_30 : decode cX7_tellsTwo 30 = .ok (.ifCond .ne 7, 3) := by decide +kernel
theorem dX7_tellsTwo_33 : decode cX7_tellsTwo 33 = .ok (.iconst 1, 1) := by decide +kernel
theorem dX7_tellsTwo_34 : decode cX7_tellsTwo 34 = .ok (.goto 4, 3) := by decide +kernel
theorem dX7_tellsTwo_37 : decode cX7_tellsTwo 37 = .ok (.iconst 0, 1) := by decide +kernel
theorem dX7_tellsTwo_38 : decode cX7_tellsTwo 38 = .ok (.istore 4, 2) := by decide +kernel
theorem dX7_tellsTwo_40 : decode cX7_tellsTwo 40 = .ok (.iload 4, 2) := by decide +kernel
theorem dX7_tellsTwo_42 : decode cX7_tellsTwo 42 = .ok (.ifCond .eq 11, 3) := by decide +kernel
theorem dX7_tellsTwo_45 : decode cX7_tellsTwo 45 = .ok (.aload_n 0, 1) := by decide +kernel
theorem dX7_tellsTwo_46 : decode cX7_tellsTwo 46 = .ok (.iload_n 2, 1) := by decide +kernel
theorem dX7_tellsTwo_47 : decode cX7_tellsTwo 47 = .ok (.iconst 0, 1) := by decide +kernel
theorem dX7_tellsTwo_48 : decode cX7_tellsTwo 48 = .ok (.iconst 0, 1) := by decide +kernel
theorem dX7_tellsTwo_49 : decode cX7_tellsTwo 49 = .ok (.invokevirtual 176, 3) := by decide +kernel
theorem dX7_tellsTwo_52 : decode cX7_tellsTwo 52 = .ok (.return_, 1) := by decide +kernel
theorem dX7_tellsTwo_53 : decode cX7_tellsTwo 53 = .ok (.aload_n 0, 1) := by decide +kernel
theorem dX7_tellsTwo_54 : decode cX7_tellsTwo 54 = .ok (.getfield 41, 3) := by decide +kernel
theorem dX7_tellsTwo_57 : decode cX7_tellsTwo 57 = .ok (.iload_n 2, 1) := by decide +kernel
theorem dX7_tellsTwo_58 : decode cX7_tellsTwo 58 = .ok (.iaload, 1) := by decide +kernel
theorem dX7_tellsTwo_59 : decode cX7_tellsTwo 59 = .ok (.iconst (-1), 1) := by decide +kernel
theorem dX7_tellsTwo_60 : decode cX7_tellsTwo 60 = .ok (.if_icmp .eq 17, 3) := by decide +kernel
theorem dX7_tellsTwo_63 : decode cX7_tellsTwo 63 = .ok (.aload_n 0, 1) := by decide +kernel
theorem dX7_tellsTwo_64 : decode cX7_tellsTwo 64 = .ok (.getfield 41, 3) := by decide +kernel
theorem dX7_tellsTwo_67 : decode cX7_tellsTwo 67 = .ok (.iload_n 3, 1) := by decide +kernel
theorem dX7_tellsTwo_68 : decode cX7_tellsTwo 68 = .ok (.iaload, 1) := by decide +kernel
theorem dX7_tellsTwo_69 : decode cX7_tellsTwo 69 = .ok (.iconst (-1), 1) := by decide +kernel
theorem dX7_tellsTwo_70 : decode cX7_tellsTwo 70 = .ok (.if_icmp .eq 7, 3) := by decide +kernel
theorem dX7_tellsTwo_73 : decode cX7_tellsTwo 73 = .ok (.iconst 1, 1) := by decide +kernel
theorem dX7_tellsTwo_74 : decode cX7_tellsTwo 74 = .ok (.goto 4, 3) := by decide +kernel
theorem dX7_tellsTwo_77 : decode cX7_tellsTwo 77 = .ok (.iconst 0, 1) := by decide +kernel
theorem dX7_tellsTwo_78 : decode cX7_tellsTwo 78 = .ok (.istore 5, 2) := by decide +kernel
theorem dX7_tellsTwo_80 : decode cX7_tellsTwo 80 = .ok (.aload_n 0, 1) := by decide +kernel
theorem dX7_tellsTwo_81 : decode cX7_tellsTwo 81 = .ok (.iload_n 2, 1) := by decide +kernel
theorem dX7_tellsTwo_82 : decode cX7_tellsTwo 82 = .ok (.aload_n 0, 1) := by decide +kernel
theorem dX7_tellsTwo_83 : decode cX7_tellsTwo 83 = .ok (.getfield 173, 3) := by decide +kernel
theorem dX7_tellsTwo_86 : decode cX7_tellsTwo 86 = .ok (.iload_n 2, 1) := by decide +kernel
theorem dX7_tellsTwo_87 : decode cX7_tellsTwo 87 = .ok (.invokestatic 118, 3) := by decide +kernel
theorem dX7_tellsTwo_90 : decode cX7_tellsTwo 90 = .ok (.ifCond .ne 14, 3) := by decide +kernel
theorem dX7_tellsTwo_93 : decode cX7_tellsTwo 93 = .ok (.aload_n 0, 1) := by decide +kernel
theorem dX7_tellsTwo_94 : decode cX7_tellsTwo 94 = .ok (.getfield 173, 3) := by decide +kernel
theorem dX7_tellsTwo_97 : decode cX7_tellsTwo 97 = .ok (.iload_n 3, 1) := by decide +kernel
theorem dX7_tellsTwo_98 : decode cX7_tellsTwo 98 = .ok (.invokestatic 118, 3) := by decide +kernel
theorem dX7_tellsTwo_101 : decode cX7_tellsTwo 101 = .ok (.ifCond .eq 7, 3) := by decide +kernel
theorem dX7_tellsTwo_104 : decode cX7_tellsTwo 104 = .ok (.iconst 1, 1) := by decide +kernel
theorem dX7_tellsTwo_105 : decode cX7_tellsTwo 105 = .ok (.goto 4, 3) := by decide +kernel
theorem dX7_tellsTwo_108 : decode cX7_tellsTwo 108 = .ok (.iconst 0, 1) := by decide +kernel
theorem dX7_tellsTwo_109 : decode cX7_tellsTwo 109 = .ok (.iload 5, 2) := by decide +kernel
theorem dX7_tellsTwo_111 : decode cX7_tellsTwo 111 = .ok (.ifCond .eq 23, 3) := by decide +kernel
theorem dX7_tellsTwo_114 : decode cX7_tellsTwo 114 = .ok (.aload_n 0, 1) := by decide +kernel
theorem dX7_tellsTwo_115 : decode cX7_tellsTwo 115 = .ok (.iload_n 1, 1) := by decide +kernel
theorem dX7_tellsTwo_116 : decode cX7_tellsTwo 116 = .ok (.aload_n 0, 1) := by decide +kernel
theorem dX7_tellsTwo_117 : decode cX7_tellsTwo 117 = .ok (.getfield 41, 3) := by decide +kernel
theorem dX7_tellsTwo_120 : decode cX7_tellsTwo 120 = .ok (.iload_n 2, 1) := by decide +kernel
theorem dX7_tellsTwo_121 : decode cX7_tellsTwo 121 = .ok (.iaload, 1) := by decide +kernel
theorem dX7_tellsTwo_122 : decode cX7_tellsTwo 122 = .ok (.aload_n 0, 1) := by decide +kernel
theorem dX7_tellsTwo_123 : decode cX7_tellsTwo 123 = .ok (.getfield 41, 3) := by decide +kernel
theorem dX7_tellsTwo_126 : decode cX7_tellsTwo 126 = .ok (.iload_n 3, 1) := by decide +kernel
theorem dX7_tellsTwo_127 : decode cX7_tellsTwo 127 = .ok (.iaload, 1) := by decide +kernel
theorem dX7_tellsTwo_128 : decode cX7_tellsTwo 128 = .ok (.invokevirtual 134, 3) := by decide +kernel
theorem dX7_tellsTwo_131 : decode cX7_tellsTwo 131 = .ok (.goto 4, 3) := by decide +kernel
theorem dX7_tellsTwo_134 : decode cX7_tellsTwo 134 = .ok (.iconst (-1), 1) := by decide +kernel
theorem dX7_tellsTwo_135 : decode cX7_tellsTwo 135 = .ok (.invokevirtual 176, 3) := by decide +kernel
theorem dX7_tellsTwo_138 : decode cX7_tellsTwo 138 = .ok (.return_, 1) := by decide +kernel
set_option maxRecDepth 20000 in
theorem ggX7_tellsLine_X7_partOf : GoodIn wsX7_tellsLine wsX7_partOf := goodIn_r _ [8, 3, 31, 32, 33, 34, 35, 36, 37, 38, 39, 40, 41, 42, 43, 44, 45, 46, 47, 48, 49, 50, 51, 52, 53, 54] (by decide +kernel) (by decide +kernel)
set_option maxRecDepth 20000 in
theorem gX7_tellsLine_X7_partOf : GoodIn wsX7_tellsLine (wsV RX7 127 RX7 yX7_partOf wsX7_partOf) := goodIn_app (goodIn_of _ (by decide +kernel)) ggX7_tellsLine_X7_partOf
set_option maxRecDepth 20000 in
theorem ggX7_tellsLine_X7_tells : GoodIn wsX7_tellsLine wsX7_tells := goodIn_r _ [12, 1, 2, 31, 32, 33, 34, 35, 36, 37, 38, 39, 40, 41, 42, 43, 44, 45, 46, 47, 48, 49, 50, 51, 52, 53, 54] (by decide +kernel) (by decide +kernel)
set_option maxRecDepth 20000 in
theorem gX7_tellsLine_X7_tells : GoodIn wsX7_tellsLine (wsV RX7 176 RX7 yX7_tells wsX7_tells) := goodIn_app (goodIn_of _ (by decide +kernel)) ggX7_tellsLine_X7_tells
set_option maxRecDepth 20000 in
theorem ggX7_tellsLine_X7_has : GoodIn wsX7_tellsLine wsX7_has := goodIn_r _ [15] (by decide +kernel) (by decide +kernel)
set_option maxRecDepth 20000 in
theorem gX7_tellsLine_X7_has : GoodIn wsX7_tellsLine (va_wsS RX7 118 yX7_has wsX7_has) := goodIn_app (goodIn_of _ (by decide +kernel)) ggX7_tellsLine_X7_has
set_option maxRecDepth 20000 in
theorem ggX7_tellsLine_X7_tellsPick : GoodIn wsX7_tellsLine wsX7_tellsPick := goodIn_r _ [19, 2, 1, 13, 14, 7, 15, 9, 10, 11, 12, 31, 32, 33, 34, 35, 36, 37, 38, 39, 40, 41, 42, 43, 44, 45, 46, 47, 48, 49, 50, 51, 52, 53, 54] (by decide +kernel) (by decide +kernel)
set_option maxRecDepth 20000 in
theorem gX7_tellsLine_X7_tellsPick : GoodIn wsX7_tellsLine (wsV RX7 180 RX7 yX7_tellsPick wsX7_tellsPick) := goodIn_app (goodIn_of _ (by decide +kernel)) ggX7_tellsLine_X7_tellsPick
set_option maxRecDepth 20000 in
theorem ggX7_tellsLine_X7_tellsTwo : GoodIn wsX7_tellsLine wsX7_tellsTwo := goodIn_r _ [23, 2, 1, 9, 10, 11, 7, 12, 13, 14, 15, 24, 25, 26, 27, 3, 28, 29, 30, 31, 32, 33, 34, 35, 36, 37, 38, 39, 40, 41, 42, 43, 44, 45, 46, 47, 48, 49, 50, 51, 52, 53, 54] (by decide +kernel) (by decide +kernel)
set_option maxRecDepth 20000 in
theorem gX7_tellsLine_X7_tellsTwo : GoodIn wsX7_tellsLine (wsV RX7 184 RX7 yX7_tellsTwo wsX7_tellsTwo) := goodIn_app (goodIn_of _ (by decide +kernel)) ggX7_tellsLine_X7_tellsTwo
theorem dX7_tellsLine_0 : decode cX7_tellsLine 0 = .ok (.aload_n 0, 1) := by decide +kernel
theorem dX7_tellsLine_1 : decode cX7_tellsLine 1 = .ok (.iload_n 1, 1) := by decide +kernel
theorem dX7_tellsLine_2 : decode cX7_tellsLine 2 = .ok (.iconst 0, 1) := by decide +kernel
theorem dX7_tellsLine_3 : decode cX7_tellsLine 3 = .ok (.invokevirtual 127, 3) := by decide +kernel
theorem dX7_tellsLine_6 : decode cX7_tellsLine 6 = .ok (.istore_n 2, 1) := by decide +kernel
theorem dX7_tellsLine_7 : decode cX7_tellsLine 7 = .ok (.aload_n 0, 1) := by decide +kernel
theorem dX7_tellsLine_8 : decode cX7_tellsLine 8 = .ok (.iload_n 1, 1) := by decide +kernel
theorem dX7_tellsLine_9 : decode cX7_tellsLine 9 = .ok (.iconst 1, 1) := by decide +kernel
theorem dX7_tellsLine_10 : decode cX7_tellsLine 10 = .ok (.invokevirtual 127, 3) := by decide +kernel
theorem dX7_tellsLine_13 : decode cX7_tellsLine 13 = .ok (.istore_n 3, 1) := by decide +kernel
theorem dX7_tellsLine_14 : decode cX7_tellsLine 14 = .ok (.aload_n 0, 1) := by decide +kernel
theorem dX7_tellsLine_15 : decode cX7_tellsLine 15 = .ok (.iload_n 1, 1) := by decide +kernel
theorem dX7_tellsLine_16 : decode cX7_tellsLine 16 = .ok (.iconst 2, 1) := by decide +kernel
theorem dX7_tellsLine_17 : decode cX7_tellsLine 17 = .ok (.invokevirtual 127, 3) := by decide +kernel
theorem dX7_tellsLine_20 : decode cX7_tellsLine 20 = .ok (.istore 4, 2) := by decide +kernel
theorem dX7_tellsLine_22 : decode cX7_tellsLine 22 = .ok (.iload_n 2, 1) := by decide +kernel
theorem dX7_tellsLine_23 : decode cX7_tellsLine 23 = .ok (.ifCond .ne 14, 3) := by decide +kernel
theorem dX7_tellsLine_26 : decode cX7_tellsLine 26 = .ok (.aload_n 0, 1) := by decide +kernel
theorem dX7_tellsLine_27 : decode cX7_tellsLine 27 = .ok (.iload_n 3, 1) := by decide +kernel
theorem dX7_tellsLine_28 : decode cX7_tellsLine 28 = .ok (.iconst 0, 1) := by decide +kernel
theorem dX7_tellsLine_29 : decode cX7_tellsLine 29 = .ok (.iload 4, 2) := by decide +kernel
theorem dX7_tellsLine_31 : decode cX7_tellsLine 31 = .ok (.invokevirtual 176, 3) := by decide +kernel
theorem dX7_tellsLine_34 : decode cX7_tellsLine 34 = .ok (.goto 114, 3) := by decide +kernel
theorem dX7_tellsLine_37 : decode cX7_tellsLine 37 = .ok (.iload_n 2, 1) := by decide +kernel
theorem dX7_tellsLine_38 : decode cX7_tellsLine 38 = .ok (.iconst 1, 1) := by decide +kernel
theorem dX7_tellsLine_39 : decode cX7_tellsLine 39 = .ok (.if_icmp .ne 27, 3) := by decide +kernel
theorem dX7_tellsLine_42 : decode cX7_tellsLine 42 = .ok (.aload_n 0, 1) := by decide +kernel
theorem dX7_tellsLine_43 : decode cX7_tellsLine 43 = .ok (.iload_n 3, 1) := by decide +kernel
theorem dX7_tellsLine_44 : decode cX7_tellsLine 44 = .ok (.aload_n 0, 1) := by decide +kernel
theorem dX7_tellsLine_45 : decode cX7_tellsLine 45 = .ok (.getfield 173, 3) := by decide +kernel
theorem dX7_tellsLine_48 : decode cX7_tellsLine 48 = .ok (.iload 4, 2) := by decide +kernel
theorem dX7_tellsLine_50 : decode cX7_tellsLine 50 = .ok (.invokestatic 118, 3) := by decide +kernel
theorem dX7_tellsLine_53 : decode cX7_tellsLine 53 = .ok (.aload_n 0, 1) := by decide +kernel
theorem dX7_tellsLine_54 : decode cX7_tellsLine 54 = .ok (.getfield 41, 3) := by decide +kernel
theorem dX7_tellsLine_57 : decode cX7_tellsLine 57 = .ok (.iload 4, 2) := by decide +kernel
theorem dX7_tellsLine_59 : decode cX7_tellsLine 59 = .ok (.iaload, 1) := by decide +kernel
theorem dX7_tellsLine_60 : decode cX7_tellsLine 60 = .ok (.invokevirtual 176, 3) := by decide +kernel
theorem dX7_tellsLine_63 : decode cX7_tellsLine 63 = .ok (.goto 85, 3) := by decide +kernel
theorem dX7_tellsLine_66 : decode cX7_tellsLine 66 = .ok (.iload_n 2, 1) := by decide +kernel
theorem dX7_tellsLine_67 : decode cX7_tellsLine 67 = .ok (.iconst 5, 1) := by decide +kernel
theorem dX7_tellsLine_68 : decode cX7_tellsLine 68 = .ok (.if_icmp .ne 50, 3) := by decide +kernel
theorem dX7_tellsLine_71 : decode cX7_tellsLine 71 = .ok (.aload_n 0, 1) := by decide +kernel
theorem dX7_tellsLine_72 : decode cX7_tellsLine 72 = .ok (.iload_n 3, 1) := by decide +kernel
theorem dX7_tellsLine_73 : decode cX7_tellsLine 73 = .ok (.aload_n 0, 1) := by decide +kernel
theorem dX7_tellsLine_74 : decode cX7_tellsLine 74 = .ok (.getfield 173, 3) := by decide +kernel
theorem dX7_tellsLine_77 : decode cX7_tellsLine 77 = .ok (.iload 4, 2) := by decide +kernel
theorem dX7_tellsLine_79 : decode cX7_tellsLine 79 = .ok (.invokestatic 118, 3) := by decide +kernel
theorem dX7_tellsLine_82 : decode cX7_tellsLine 82 = .ok (.aload_n 0, 1) := by decide +kernel
theorem dX7_tellsLine_83 : decode cX7_tellsLine 83 = .ok (.getfield 41, 3) := by decide +kernel
theorem dX7_tellsLine_86 : decode cX7_tellsLine 86 = .ok (.iload 4, 2) := by decide +kernel
theorem dX7_tellsLine_88 : decode cX7_tellsLine 88 = .ok (.iaload, 1) := by decide +kernel
theorem dX7_tellsLine_89 : decode cX7_tellsLine 89 = .ok (.iconst (-1), 1) := by decide +kernel
theorem dX7_tellsLine_90 : decode cX7_tellsLine 90 = .ok (.if_icmp .ne 7, 3) := by decide +kernel
theorem dX7_tellsLine_93 : decode cX7_tellsLine 93 = .ok (.iconst (-1), 1) := by decide +kernel
theorem dX7_tellsLine_94 : decode cX7_tellsLine 94 = .ok (.goto 18, 3) := by decide +kernel
theorem dX7_tellsLine_97 : decode cX7_tellsLine 97 = .ok (.aload_n 0, 1) := by decide +kernel
theorem dX7_tellsLine_98 : decode cX7_tellsLine 98 = .ok (.getfield 7, 3) := by decide +kernel
theorem dX7_tellsLine_101 : decode cX7_tellsLine 101 = .ok (.bipush 8, 2) := by decide +kernel
theorem dX7_tellsLine_103 : decode cX7_tellsLine 103 = .ok (.aload_n 0, 1) := by decide +kernel
theorem dX7_tellsLine_104 : decode cX7_tellsLine 104 = .ok (.getfield 41, 3) := by decide +kernel
theorem dX7_tellsLine_107 : decode cX7_tellsLine 107 = .ok (.iload 4, 2) := by decide +kernel
theorem dX7_tellsLine_109 : decode cX7_tellsLine 109 = .ok (.iaload, 1) := by decide +kernel
theorem dX7_tellsLine_110 : decode cX7_tellsLine 110 = .ok (.iadd, 1) := by decide +kernel
theorem dX7_tellsLine_111 : decode cX7_tellsLine 111 = .ok (.iaload, 1) := by decide +kernel
theorem dX7_tellsLine_112 : decode cX7_tellsLine 112 = .ok (.invokevirtual 176, 3) := by decide +kernel
theorem dX7_tellsLine_115 : decode cX7_tellsLine 115 = .ok (.goto 33, 3) := by decide +kernel
theorem dX7_tellsLine_118 : decode cX7_tellsLine 118 = .ok (.iload_n 2, 1) := by decide +kernel
theorem dX7_tellsLine_119 : decode cX7_tellsLine 119 = .ok (.bipush 8, 2) := by decide +kernel
theorem dX7_tellsLine_121 : decode cX7_tellsLine 121 = .ok (.if_icmp .ne 19, 3) := by decide +kernel
theorem dX7_tellsLine_124 : decode cX7_tellsLine 124 = .ok (.aload_n 0, 1) := by decide +kernel
theorem dX7_tellsLine_125 : decode cX7_tellsLine 125 = .ok (.iload_n 3, 1) := by decide +kernel
theorem dX7_tellsLine_126 : decode cX7_tellsLine 126 = .ok (.iload 4, 2) := by decide +kernel
theorem dX7_tellsLine_128 : decode cX7_tellsLine 128 = .ok (.aload_n 0, 1) := by decide +kernel
theorem dX7_tellsLine_129 : decode cX7_tellsLine 129 = .ok (.iload_n 1, 1) := by decide +kernel
theorem dX7_tellsLine_130 : decode cX7_tellsLine 130 = .ok (.iconst 3, 1) := by decide +kernel
theorem dX7_tellsLine_131 : decode cX7_tellsLine 131 = .ok (.invokevirtual 127, 3) := by decide +kernel
theorem dX7_tellsLine_134 : decode cX7_tellsLine 134 = .ok (.invokevirtual 180, 3) := by decide +kernel
theorem dX7_tellsLine_137 : decode cX7_tellsLine 137 = .ok (.goto 11, 3) := by decide +kernel
theorem dX7_tellsLine_140 : decode cX7_tellsLine 140 = .ok (.aload_n 0, 1) := by decide +kernel
theorem dX7_tellsLine_141 : decode cX7_tellsLine 141 = .ok (.iload_n 2, 1) := by decide +kernel
theorem dX7_tellsLine_142 : decode cX7_tellsLine 142 = .ok (.iload_n 3, 1) := by decide +kernel
theorem dX7_tellsLine_143 : decode cX7_tellsLine 143 = .ok (.iload 4, 2) := by decide +kernel
theorem dX7_tellsLine_145 : decode cX7_tellsLine 145 = .ok (.invokevirtual 184, 3) := by decide +kernel
theorem dX7_tellsLine_148 : decode cX7_tellsLine 148 = .ok (.return_, 1) := by decide +kernel
set_option maxRecDepth 20000 in
theorem ggX7_asks_X7_takes : GoodIn wsX7_asks wsX7_takes := goodIn_r _ [6, 7, 8, 1, 9, 47, 48, 49, 50, 51, 52, 53, 54, 55, 56, 57, 58, 59, 60, 61, 62, 63, 64, 65, 66, 67, 68, 69, 70] (by decide +kernel) (by decide +kernel)
set_option maxRecDepth 20000 in
theorem gX7_asks_X7_takes : GoodIn wsX7_asks (wsV RX7 187 RX7 yX7_takes wsX7_takes) := goodIn_app (goodIn_of _ (by decide +kernel)) ggX7_asks_X7_takes
set_option maxRecDepth 20000 in
theorem ggX7_asks_X7_partOf : GoodIn wsX7_asks wsX7_partOf := goodIn_r _ [13, 14, 47, 48, 49, 50, 51, 52, 53, 54, 55, 56, 57, 58, 59, 60, 61, 62, 63, 64, 65, 66, 67, 68, 69, 70] (by decide +kernel) (by decide +kernel)
set_option maxRecDepth 20000 in
theorem gX7_asks_X7_partOf : GoodIn wsX7_asks (wsV RX7 127 RX7 yX7_partOf wsX7_partOf) := goodIn_app (goodIn_of _ (by decide +kernel)) ggX7_asks_X7_partOf
set_option maxRecDepth 20000 in
theorem ggX7_asks_X7_tellsLine : GoodIn wsX7_asks wsX7_tellsLine := goodIn_r _ [18, 8, 1, 14, 10, 11, 12, 5, 13, 19, 20, 21, 22, 23, 24, 25, 26, 27, 28, 29, 30, 31, 32, 33, 34, 35, 36, 37, 38, 39, 40, 47, 48, 49, 50, 51, 52, 53, 54, 55, 56, 57, 58, 59, 60, 61, 62, 63, 64, 65, 66, 67, 68, 69, 70] (by decide +kernel) (by decide +kernel)
set_option maxRecDepth 20000 in
theorem gX7_asks_X7_tellsLine : GoodIn wsX7_asks (wsV RX7 190 RX7 yX7_tellsLine wsX7_tellsLine) := goodIn_app (goodIn_of _ (by decide +kernel)) ggX7_asks_X7_tellsLine
set_option maxRecDepth 20000 in
theorem ggX7_asks_X7_comesTo : GoodIn wsX7_asks wsX7_comesTo := goodIn_r _ [44, 14, 45, 9, 1, 46, 7, 8, 47, 48, 49, 50, 51, 52, 53, 54, 55, 56, 57, 58, 59, 60, 61, 62, 63, 64, 65, 66, 67, 68, 69, 70] (by decide +kernel) (by decide +kernel)
set_option maxRecDepth 20000 in
theorem gX7_asks_X7_comesTo : GoodIn wsX7_asks (wsV RX7 193 RX7 yX7_comesTo wsX7_comesTo) := goodIn_app (goodIn_of _ (by decide +kernel)) ggX7_asks_X7_comesTo
theorem dX7_asks_0 : decode cX7_asks 0 = .ok (.aload_n 0, 1) := by decide +kernel
theorem dX7_asks_1 : decode cX7_asks 1 = .ok (.iload_n 1, 1) := by decide +kernel
theorem dX7_asks_2 : decode cX7_asks 2 = .ok (.invokevirtual 187, 3) := by decide +kernel
theorem dX7_asks_5 : decode cX7_asks 5 = .ok (.aload_n 0, 1) := by decide +kernel
theorem dX7_asks_6 : decode cX7_asks 6 = .ok (.iload_n 1, 1) := by decide +kernel
theorem dX7_asks_7 : decode cX7_asks 7 = .ok (.iconst 0, 1) := by decide +kernel
theorem dX7_asks_8 : decode cX7_asks 8 = .ok (.invokevirtual 127, 3) := by decide +kernel
theorem dX7_asks_11 : decode cX7_asks 11 = .ok (.bipush 7, 2) := by decide +kernel
theorem dX7_asks_13 : decode cX7_asks 13 = .ok (.if_icmp .eq 16, 3) := by decide +kernel
theorem dX7_asks_16 : decode cX7_asks 16 = .ok (.aload_n 0, 1) := by decide +kernel
theorem dX7_asks_17 : decode cX7_asks 17 = .ok (.iload_n 1, 1) := by decide +kernel
theorem dX7_asks_18 : decode cX7_asks 18 = .ok (.invokevirtual 190, 3) := by decide +kernel
theorem dX7_asks_21 : decode cX7_asks 21 = .ok (.aload_n 0, 1) := by decide +kernel
theorem dX7_asks_22 : decode cX7_asks 22 = .ok (.iload_n 1, 1) := by decide +kernel
theorem dX7_asks_23 : decode cX7_asks 23 = .ok (.iconst 1, 1) := by decide +kernel
theorem dX7_asks_24 : decode cX7_asks 24 = .ok (.iadd, 1) := by decide +kernel
theorem dX7_asks_25 : decode cX7_asks 25 = .ok (.invokevirtual 193, 3) := by decide +kernel
theorem dX7_asks_28 : decode cX7_asks 28 = .ok (.return_, 1) := by decide +kernel
theorem dX7_asks_29 : decode cX7_asks 29 = .ok (.aload_n 0, 1) := by decide +kernel
theorem dX7_asks_30 : decode cX7_asks 30 = .ok (.iload_n 1, 1) := by decide +kernel
theorem dX7_asks_31 : decode cX7_asks 31 = .ok (.iconst 1, 1) := by decide +kernel
theorem dX7_asks_32 : decode cX7_asks 32 = .ok (.invokevirtual 127, 3) := by decide +kernel
theorem dX7_asks_35 : decode cX7_asks 35 = .ok (.istore_n 2, 1) := by decide +kernel
theorem dX7_asks_36 : decode cX7_asks 36 = .ok (.aload_n 0, 1) := by decide +kernel
theorem dX7_asks_37 : decode cX7_asks 37 = .ok (.getfield 41, 3) := by decide +kernel
theorem dX7_asks_40 : decode cX7_asks 40 = .ok (.iload_n 2, 1) := by decide +kernel
theorem dX7_asks_41 : decode cX7_asks 41 = .ok (.iaload, 1) := by decide +kernel
theorem dX7_asks_42 : decode cX7_asks 42 = .ok (.ifCond .eq 13, 3) := by decide +kernel
theorem dX7_asks_45 : decode cX7_asks 45 = .ok (.aload_n 0, 1) := by decide +kernel
theorem dX7_asks_46 : decode cX7_asks 46 = .ok (.aload_n 0, 1) := by decide +kernel
theorem dX7_asks_47 : decode cX7_asks 47 = .ok (.iload_n 1, 1) := by decide +kernel
theorem dX7_asks_48 : decode cX7_asks 48 = .ok (.iconst 2, 1) := by decide +kernel
theorem dX7_asks_49 : decode cX7_asks 49 = .ok (.invokevirtual 127, 3) := by decide +kernel
theorem dX7_asks_52 : decode cX7_asks 52 = .ok (.invokevirtual 193, 3) := by decide +kernel
theorem dX7_asks_55 : decode cX7_asks 55 = .ok (.aload_n 0, 1) := by decide +kernel
theorem dX7_asks_56 : decode cX7_asks 56 = .ok (.getfield 41, 3) := by decide +kernel
theorem dX7_asks_59 : decode cX7_asks 59 = .ok (.iload_n 2, 1) := by decide +kernel
theorem dX7_asks_60 : decode cX7_asks 60 = .ok (.iaload, 1) := by decide +kernel
theorem dX7_asks_61 : decode cX7_asks 61 = .ok (.iconst (-1), 1) := by decide +kernel
theorem dX7_asks_62 : decode cX7_asks 62 = .ok (.if_icmp .eq 12, 3) := by decide +kernel
theorem dX7_asks_65 : decode cX7_asks 65 = .ok (.aload_n 0, 1) := by decide +kernel
theorem dX7_asks_66 : decode cX7_asks 66 = .ok (.getfield 41, 3) := by decide +kernel
theorem dX7_asks_69 : decode cX7_asks 69 = .ok (.iload_n 2, 1) := by decide +kernel
theorem dX7_asks_70 : decode cX7_asks 70 = .ok (.iaload, 1) := by decide +kernel
theorem dX7_asks_71 : decode cX7_asks 71 = .ok (.ifCond .ne 10, 3) := by decide +kernel
theorem dX7_asks_74 : decode cX7_asks 74 = .ok (.aload_n 0, 1) := by decide +kernel
theorem dX7_asks_75 : decode cX7_asks 75 = .ok (.iload_n 1, 1) := by decide +kernel
theorem dX7_asks_76 : decode cX7_asks 76 = .ok (.iconst 1, 1) := by decide +kernel
theorem dX7_asks_77 : decode cX7_asks 77 = .ok (.iadd, 1) := by decide +kernel
theorem dX7_asks_78 : decode cX7_asks 78 = .ok (.invokevirtual 193, 3) := by decide +kernel
theorem dX7_asks_81 : decode cX7_asks 81 = .ok (.return_, 1) := by decide +kernel
set_option maxRecDepth 20000 in
theorem ggX7_laysLines_X7_comesTo : GoodIn wsX7_laysLines wsX7_comesTo := goodIn_r _ [11, 1, 2, 12, 5, 6, 3, 4, 51, 52, 53, 54, 55, 56, 57, 58, 59, 60, 61, 62, 63, 64, 65, 66, 67, 68, 69, 70, 71, 72, 73, 74] (by decide +kernel) (by decide +kernel)
set_option maxRecDepth 20000 in
theorem gX7_laysLines_X7_comesTo : GoodIn wsX7_laysLines (wsV RX7 193 RX7 yX7_comesTo wsX7_comesTo) := goodIn_app (goodIn_of _ (by decide +kernel)) ggX7_laysLines_X7_comesTo
set_option maxRecDepth 20000 in
theorem ggX7_laysLines_X7_asks : GoodIn wsX7_laysLines wsX7_asks := goodIn_r _ [16, 5, 17, 18, 19, 10, 20, 3, 4, 12, 21, 22, 23, 24, 1, 25, 26, 27, 28, 29, 30, 31, 32, 33, 34, 35, 36, 37, 38, 39, 40, 41, 42, 43, 44, 45, 46, 47, 48, 49, 50, 7, 8, 9, 11, 2, 6, 51, 52, 53, 54, 55, 56, 57, 58, 59, 60, 61, 62, 63, 64, 65, 66, 67, 68, 69, 70, 71, 72, 73, 74] (by decide +kernel) (by decide +kernel)
set_option maxRecDepth 20000 in
theorem gX7_laysLines_X7_asks : GoodIn wsX7_laysLines (wsV RX7 196 RX7 yX7_asks wsX7_asks) := goodIn_app (goodIn_of _ (by decide +kernel)) ggX7_laysLines_X7_asks
theorem dX7_laysLines_0 : decode cX7_laysLines 0 = .ok (.iconst 0, 1) := by decide +kernel
theorem dX7_laysLines_1 : decode cX7_laysLines 1 = .ok (.istore_n 1, 1) := by decide +kernel
theorem dX7_laysLines_2 : decode cX7_laysLines 2 = .ok (.iload_n 1, 1) := by decide +kernel
theorem dX7_laysLines_3 : decode cX7_laysLines 3 = .ok (.aload_n 0, 1) := by decide +kernel
theorem dX7_laysLines_4 : decode cX7_laysLines 4 = .ok (.getfield 7, 3) := by decide +kernel
theorem dX7_laysLines_7 : decode cX7_laysLines 7 = .ok (.iconst 0, 1) := by decide +kernel
theorem dX7_laysLines_8 : decode cX7_laysLines 8 = .ok (.iaload, 1) := by decide +kernel
theorem dX7_laysLines_9 : decode cX7_laysLines 9 = .ok (.if_icmp .gt 23, 3) := by decide +kernel
theorem dX7_laysLines_12 : decode cX7_laysLines 12 = .ok (.aload_n 0, 1) := by decide +kernel
theorem dX7_laysLines_13 : decode cX7_laysLines 13 = .ok (.getfield 31, 3) := by decide +kernel
theorem dX7_laysLines_16 : decode cX7_laysLines 16 = .ok (.iload_n 1, 1) := by decide +kernel
theorem dX7_laysLines_17 : decode cX7_laysLines 17 = .ok (.iconst 0, 1) := by decide +kernel
theorem dX7_laysLines_18 : decode cX7_laysLines 18 = .ok (.bastore, 1) := by decide +kernel
theorem dX7_laysLines_19 : decode cX7_laysLines 19 = .ok (.aload_n 0, 1) := by decide +kernel
theorem dX7_laysLines_20 : decode cX7_laysLines 20 = .ok (.getfield 35, 3) := by decide +kernel
theorem dX7_laysLines_23 : decode cX7_laysLines 23 = .ok (.iload_n 1, 1) := by decide +kernel
theorem dX7_laysLines_24 : decode cX7_laysLines 24 = .ok (.iconst 0, 1) := by decide +kernel
theorem dX7_laysLines_25 : decode cX7_laysLines 25 = .ok (.iastore, 1) := by decide +kernel
theorem dX7_laysLines_26 : decode cX7_laysLines 26 = .ok (.iinc 1 1, 3) := by decide +kernel
theorem dX7_laysLines_29 : decode cX7_laysLines 29 = .ok (.goto (-27), 3) := by decide +kernel
theorem dX7_laysLines_32 : decode cX7_laysLines 32 = .ok (.aload_n 0, 1) := by decide +kernel
theorem dX7_laysLines_33 : decode cX7_laysLines 33 = .ok (.aload_n 0, 1) := by decide +kernel
theorem dX7_laysLines_34 : decode cX7_laysLines 34 = .ok (.getfield 7, 3) := by decide +kernel
theorem dX7_laysLines_37 : decode cX7_laysLines 37 = .ok (.iconst 1, 1) := by decide +kernel
theorem dX7_laysLines_38 : decode cX7_laysLines 38 = .ok (.iaload, 1) := by decide +kernel
theorem dX7_laysLines_39 : decode cX7_laysLines 39 = .ok (.putfield 173, 3) := by decide +kernel
theorem dX7_laysLines_42 : decode cX7_laysLines 42 = .ok (.iconst 0, 1) := by decide +kernel
theorem dX7_laysLines_43 : decode cX7_laysLines 43 = .ok (.istore_n 1, 1) := by decide +kernel
theorem dX7_laysLines_44 : decode cX7_laysLines 44 = .ok (.iload_n 1, 1) := by decide +kernel
theorem dX7_laysLines_45 : decode cX7_laysLines 45 = .ok (.bipush 6, 2) := by decide +kernel
theorem dX7_laysLines_47 : decode cX7_laysLines 47 = .ok (.if_icmp .ge 16, 3) := by decide +kernel
theorem dX7_laysLines_50 : decode cX7_laysLines 50 = .ok (.aload_n 0, 1) := by decide +kernel
theorem dX7_laysLines_51 : decode cX7_laysLines 51 = .ok (.getfield 41, 3) := by decide +kernel
theorem dX7_laysLines_54 : decode cX7_laysLines 54 = .ok (.iload_n 1, 1) := by decide +kernel
theorem dX7_laysLines_55 : decode cX7_laysLines 55 = .ok (.iconst (-1), 1) := by decide +kernel
theorem dX7_laysLines_56 : decode cX7_laysLines 56 = .ok (.iastore, 1) := by decide +kernel
theorem dX7_laysLines_57 : decode cX7_laysLines 57 = .ok (.iinc 1 1, 3) := by decide +kernel
theorem dX7_laysLines_60 : decode cX7_laysLines 60 = .ok (.goto (-16), 3) := by decide +kernel
theorem dX7_laysLines_63 : decode cX7_laysLines 63 = .ok (.aload_n 0, 1) := by decide +kernel
theorem dX7_laysLines_64 : decode cX7_laysLines 64 = .ok (.iconst 0, 1) := by decide +kernel
theorem dX7_laysLines_65 : decode cX7_laysLines 65 = .ok (.invokevirtual 193, 3) := by decide +kernel
theorem dX7_laysLines_68 : decode cX7_laysLines 68 = .ok (.aload_n 0, 1) := by decide +kernel
theorem dX7_laysLines_69 : decode cX7_laysLines 69 = .ok (.iconst 1, 1) := by decide +kernel
theorem dX7_laysLines_70 : decode cX7_laysLines 70 = .ok (.putfield 170, 3) := by decide +kernel
theorem dX7_laysLines_73 : decode cX7_laysLines 73 = .ok (.aload_n 0, 1) := by decide +kernel
theorem dX7_laysLines_74 : decode cX7_laysLines 74 = .ok (.getfield 170, 3) := by decide +kernel
theorem dX7_laysLines_77 : decode cX7_laysLines 77 = .ok (.ifCond .eq 43, 3) := by decide +kernel
theorem dX7_laysLines_80 : decode cX7_laysLines 80 = .ok (.aload_n 0, 1) := by decide +kernel
theorem dX7_laysLines_81 : decode cX7_laysLines 81 = .ok (.iconst 0, 1) := by decide +kernel
theorem dX7_laysLines_82 : decode cX7_laysLines 82 = .ok (.putfield 170, 3) := by decide +kernel
theorem dX7_laysLines_85 : decode cX7_laysLines 85 = .ok (.iconst 0, 1) := by decide +kernel
theorem dX7_laysLines_86 : decode cX7_laysLines 86 = .ok (.istore_n 1, 1) := by decide +kernel
theorem dX7_laysLines_87 : decode cX7_laysLines 87 = .ok (.iload_n 1, 1) := by decide +kernel
theorem dX7_laysLines_88 : decode cX7_laysLines 88 = .ok (.aload_n 0, 1) := by decide +kernel
theorem dX7_laysLines_89 : decode cX7_laysLines 89 = .ok (.getfield 7, 3) := by decide +kernel
theorem dX7_laysLines_92 : decode cX7_laysLines 92 = .ok (.iconst 0, 1) := by decide +kernel
theorem dX7_laysLines_93 : decode cX7_laysLines 93 = .ok (.iaload, 1) := by decide +kernel
theorem dX7_laysLines_94 : decode cX7_laysLines 94 = .ok (.if_icmp .ge 23, 3) := by decide +kernel
theorem dX7_laysLines_97 : decode cX7_laysLines 97 = .ok (.aload_n 0, 1) := by decide +kernel
theorem dX7_laysLines_98 : decode cX7_laysLines 98 = .ok (.getfield 31, 3) := by decide +kernel
theorem dX7_laysLines_101 : decode cX7_laysLines 101 = .ok (.iload_n 1, 1) := by decide +kernel
theorem dX7_laysLines_102 : decode cX7_laysLines 102 = .ok (.baload, 1) := by decide +kernel
theorem dX7_laysLines_103 : decode cX7_laysLines 103 = .ok (.ifCond .eq 8, 3) := by decide +kernel
theorem dX7_laysLines_106 : decode cX7_laysLines 106 = .ok (.aload_n 0, 1) := by decide +kernel
theorem dX7_laysLines_107 : decode cX7_laysLines 107 = .ok (.iload_n 1, 1) := by decide +kernel
theorem dX7_laysLines_108 : decode cX7_laysLines 108 = .ok (.invokevirtual 196, 3) := by decide +kernel
theorem dX7_laysLines_111 : decode cX7_laysLines 111 = .ok (.iinc 1 1, 3) := by decide +kernel
theorem dX7_laysLines_114 : decode cX7_laysLines 114 = .ok (.goto (-27), 3) := by decide +kernel
theorem dX7_laysLines_117 : decode cX7_laysLines 117 = .ok (.goto (-44), 3) := by decide +kernel
theorem dX7_laysLines_120 : decode cX7_laysLines 120 = .ok (.return_, 1) := by decide +kernel
set_option maxRecDepth 20000 in
theorem ggX7_isEndToo_X7_within : GoodIn wsX7_isEndToo wsX7_within := goodIn_r _ [5] (by decide +kernel) (by decide +kernel)
set_option maxRecDepth 20000 in
theorem gX7_isEndToo_X7_within : GoodIn wsX7_isEndToo (va_wsS RX7 50 yX7_within wsX7_within) := goodIn_app (goodIn_of _ (by decide +kernel)) ggX7_isEndToo_X7_within
theorem dX7_isEndToo_0 : decode cX7_isEndToo 0 = .ok (.iload_n 1, 1) := by decide +kernel
theorem dX7_isEndToo_1 : decode cX7_isEndToo 1 = .ok (.iconst 0, 1) := by decide +kernel
theorem dX7_isEndToo_2 : decode cX7_isEndToo 2 = .ok (.aload_n 0, 1) := by decide +kernel
theorem dX7_isEndToo_3 : decode cX7_isEndToo 3 = .ok (.getfield 7, 3) := by decide +kernel
theorem dX7_isEndToo_6 : decode cX7_isEndToo 6 = .ok (.iconst 0, 1) := by decide +kernel
theorem dX7_isEndToo_7 : decode cX7_isEndToo 7 = .ok (.iaload, 1) := by decide +kernel
theorem dX7_isEndToo_8 : decode cX7_isEndToo 8 = .ok (.invokestatic 50, 3) := by decide +kernel
theorem dX7_isEndToo_11 : decode cX7_isEndToo 11 = .ok (.ireturn, 1) := by decide +kernel
set_option maxRecDepth 20000 in
theorem ggX7_ahead_X7_isEndToo : GoodIn wsX7_ahead wsX7_isEndToo := goodIn_r _ [8, 9, 10, 11, 7, 12, 74, 75, 76, 77, 78, 79, 80, 81, 82, 83, 84, 85, 86, 87, 88, 89, 90, 91, 92, 93, 94, 95, 96, 97] (by decide +kernel) (by decide +kernel)
set_option maxRecDepth 20000 in
theorem gX7_ahead_X7_isEndToo : GoodIn wsX7_ahead (wsV RX7 199 RX7 yX7_isEndToo wsX7_isEndToo) := goodIn_app (goodIn_of _ (by decide +kernel)) ggX7_ahead_X7_isEndToo
set_option maxRecDepth 20000 in
theorem ggX7_ahead_X7_isVariable : GoodIn wsX7_ahead wsX7_isVariable := goodIn_r _ [15, 10, 11, 7, 12] (by decide +kernel) (by decide +kernel)
set_option maxRecDepth 20000 in
theorem gX7_ahead_X7_isVariable : GoodIn wsX7_ahead (va_wsS RX7 75 yX7_isVariable wsX7_isVariable) := goodIn_app (goodIn_of _ (by decide +kernel)) ggX7_ahead_X7_isVariable
set_option maxRecDepth 20000 in
theorem ggX7_ahead_X7_within : GoodIn wsX7_ahead wsX7_within := goodIn_r _ [12] (by decide +kernel) (by decide +kernel)
set_option maxRecDepth 20000 in
theorem gX7_ahead_X7_within : GoodIn wsX7_ahead (va_wsS RX7 50 yX7_within wsX7_within) := goodIn_app (goodIn_of _ (by decide +kernel)) ggX7_ahead_X7_within
set_option maxRecDepth 20000 in
theorem ggX7_ahead_X7_bad : GoodIn wsX7_ahead wsX7_bad := goodIn_r _ [19, 20, 74, 75, 76, 77, 78, 79, 80, 81, 82, 83, 84, 85, 86, 87, 88, 89, 90, 91, 92, 93, 94, 95, 96, 97] (by decide +kernel) (by decide +kernel)
set_option maxRecDepth 20000 in
theorem gX7_ahead_X7_bad : GoodIn wsX7_ahead (wsV RX7 68 RX7 yX7_bad wsX7_bad) := goodIn_app (goodIn_of _ (by decide +kernel)) ggX7_ahead_X7_bad
set_option maxRecDepth 20000 in
theorem ggX7_ahead_X7_laysLines : GoodIn wsX7_ahead wsX7_laysLines := goodIn_r _ [24, 9, 1, 2, 25, 26, 27, 28, 29, 30, 7, 31, 3, 32, 33, 34, 35, 36, 37, 38, 39, 40, 41, 42, 43, 44, 45, 46, 47, 48, 49, 50, 51, 52, 53, 54, 55, 56, 57, 58, 59, 60, 61, 62, 63, 64, 65, 66, 67, 68, 69, 74, 75, 76, 77, 78, 79, 80, 81, 82, 83, 84, 85, 86, 87, 88, 89, 90, 91, 92, 93, 94, 95, 96, 97] (by decide +kernel) (by decide +kernel)
set_option maxRecDepth 20000 in
theorem gX7_ahead_X7_laysLines : GoodIn wsX7_ahead (wsV RX7 202 RX7 yX7_laysLines wsX7_laysLines) := goodIn_app (goodIn_of _ (by decide +kernel)) ggX7_ahead_X7_laysLines
set_option maxRecDepth 20000 in
theorem ggX7_ahead_X7_no : GoodIn wsX7_ahead wsX7_no := goodIn_r _ [73, 20, 74, 75, 76, 77, 78, 79, 80, 81, 82, 83, 84, 85, 86, 87, 88, 89, 90, 91, 92, 93, 94, 95, 96, 97] (by decide +kernel) (by decide +kernel)
set_option maxRecDepth 20000 in
theorem gX7_ahead_X7_no : GoodIn wsX7_ahead (wsV RX7 58 RX7 yX7_no wsX7_no) := goodIn_app (goodIn_of _ (by decide +kernel)) ggX7_ahead_X7_no
theorem dX7_ahead_0 : decode cX7_ahead 0 = .ok (.aload_n 0, 1) := by decide +kernel
theorem dX7_ahead_1 : decode cX7_ahead 1 = .ok (.iload_n 1, 1) := by decide +kernel
theorem dX7_ahead_2 : decode cX7_ahead 2 = .ok (.invokevirtual 199, 3) := by decide +kernel
theorem dX7_ahead_5 : decode cX7_ahead 5 = .ok (.ifCond .eq 19, 3) := by decide +kernel
theorem dX7_ahead_8 : decode cX7_ahead 8 = .ok (.iload_n 2, 1) := by decide +kernel
theorem dX7_ahead_9 : decode cX7_ahead 9 = .ok (.invokestatic 75, 3) := by decide +kernel
theorem dX7_ahead_12 : decode cX7_ahead 12 = .ok (.ifCond .eq 12, 3) := by decide +kernel
theorem dX7_ahead_15 : decode cX7_ahead 15 = .ok (.iload_n 3, 1) := by decide +kernel
theorem dX7_ahead_16 : decode cX7_ahead 16 = .ok (.iconst 0, 1) := by decide +kernel
theorem dX7_ahead_17 : decode cX7_ahead 17 = .ok (.iconst 1, 1) := by decide +kernel
theorem dX7_ahead_18 : decode cX7_ahead 18 = .ok (.invokestatic 50, 3) := by decide +kernel
theorem dX7_ahead_21 : decode cX7_ahead 21 = .ok (.ifCond .ne 8, 3) := by decide +kernel
theorem dX7_ahead_24 : decode cX7_ahead 24 = .ok (.aload_n 0, 1) := by decide +kernel
theorem dX7_ahead_25 : decode cX7_ahead 25 = .ok (.invokevirtual 68, 3) := by decide +kernel
theorem dX7_ahead_28 : decode cX7_ahead 28 = .ok (.ireturn, 1) := by decide +kernel
theorem dX7_ahead_29 : decode cX7_ahead 29 = .ok (.aload_n 0, 1) := by decide +kernel
theorem dX7_ahead_30 : decode cX7_ahead 30 = .ok (.invokevirtual 202, 3) := by decide +kernel
theorem dX7_ahead_33 : decode cX7_ahead 33 = .ok (.aload_n 0, 1) := by decide +kernel
theorem dX7_ahead_34 : decode cX7_ahead 34 = .ok (.getfield 31, 3) := by decide +kernel
theorem dX7_ahead_37 : decode cX7_ahead 37 = .ok (.iload_n 1, 1) := by decide +kernel
theorem dX7_ahead_38 : decode cX7_ahead 38 = .ok (.baload, 1) := by decide +kernel
theorem dX7_ahead_39 : decode cX7_ahead 39 = .ok (.ifCond .ne 8, 3) := by decide +kernel
theorem dX7_ahead_42 : decode cX7_ahead 42 = .ok (.aload_n 0, 1) := by decide +kernel
theorem dX7_ahead_43 : decode cX7_ahead 43 = .ok (.invokevirtual 58, 3) := by decide +kernel
theorem dX7_ahead_46 : decode cX7_ahead 46 = .ok (.ireturn, 1) := by decide +kernel
theorem dX7_ahead_47 : decode cX7_ahead 47 = .ok (.iload_n 3, 1) := by decide +kernel
theorem dX7_ahead_48 : decode cX7_ahead 48 = .ok (.ifCond .ne 16, 3) := by decide +kernel
theorem dX7_ahead_51 : decode cX7_ahead 51 = .ok (.aload_n 0, 1) := by decide +kernel
theorem dX7_ahead_52 : decode cX7_ahead 52 = .ok (.getfield 35, 3) := by decide +kernel
theorem dX7_ahead_55 : decode cX7_ahead 55 = .ok (.iload_n 1, 1) := by decide +kernel
theorem dX7_ahead_56 : decode cX7_ahead 56 = .ok (.iaload, 1) := by decide +kernel
theorem dX7_ahead_57 : decode cX7_ahead 57 = .ok (.iload_n 2, 1) := by decide +kernel
theorem dX7_ahead_58 : decode cX7_ahead 58 = .ok (.ishr, 1) := by decide +kernel
theorem dX7_ahead_59 : decode cX7_ahead 59 = .ok (.iconst 1, 1) := by decide +kernel
theorem dX7_ahead_60 : decode cX7_ahead 60 = .ok (.iand, 1) := by decide +kernel
theorem dX7_ahead_61 : decode cX7_ahead 61 = .ok (.goto 14, 3) := by decide +kernel
theorem dX7_ahead_64 : decode cX7_ahead 64 = .ok (.aload_n 0, 1) := by decide +kernel
theorem dX7_ahead_65 : decode cX7_ahead 65 = .ok (.getfield 38, 3) := by decide +kernel
theorem dX7_ahead_68 : decode cX7_ahead 68 = .ok (.bipush 6, 2) := by decide +kernel
theorem dX7_ahead_70 : decode cX7_ahead 70 = .ok (.iload_n 1, 1) := by decide +kernel
theorem dX7_ahead_71 : decode cX7_ahead 71 = .ok (.imul, 1) := by decide +kernel
theorem dX7_ahead_72 : decode cX7_ahead 72 = .ok (.iload_n 2, 1) := by decide +kernel
theorem dX7_ahead_73 : decode cX7_ahead 73 = .ok (.iadd, 1) := by decide +kernel
theorem dX7_ahead_74 : decode cX7_ahead 74 = .ok (.iaload, 1) := by decide +kernel
theorem dX7_ahead_75 : decode cX7_ahead 75 = .ok (.ireturn, 1) := by decide +kernel
set_option maxRecDepth 20000 in
theorem ggX7_reached_X7_isEndToo : GoodIn wsX7_reached wsX7_isEndToo := goodIn_r _ [6, 7, 8, 9, 5, 10, 67, 68, 69, 70, 71, 72, 73, 74, 75, 76, 77, 78, 79, 80, 81, 82, 83, 84, 85, 86, 87, 88, 89, 90] (by decide +kernel) (by decide +kernel)
set_option maxRecDepth 20000 in
theorem gX7_reached_X7_isEndToo : GoodIn wsX7_reached (wsV RX7 199 RX7 yX7_isEndToo wsX7_isEndToo) := goodIn_app (goodIn_of _ (by decide +kernel)) ggX7_reached_X7_isEndToo
set_option maxRecDepth 20000 in
theorem ggX7_reached_X7_bad : GoodIn wsX7_reached wsX7_bad := goodIn_r _ [14, 15, 67, 68, 69, 70, 71, 72, 73, 74, 75, 76, 77, 78, 79, 80, 81, 82, 83, 84, 85, 86, 87, 88, 89, 90] (by decide +kernel) (by decide +kernel)
set_option maxRecDepth 20000 in
theorem gX7_reached_X7_bad : GoodIn wsX7_reached (wsV RX7 68 RX7 yX7_bad wsX7_bad) := goodIn_app (goodIn_of _ (by decide +kernel)) ggX7_reached_X7_bad
set_option maxRecDepth 20000 in
theorem ggX7_reached_X7_laysLines : GoodIn wsX7_reached wsX7_laysLines := goodIn_r _ [19, 7, 1, 20, 21, 22, 23, 24, 25, 26, 5, 27, 28, 29, 30, 31, 32, 33, 34, 35, 36, 37, 38, 39, 40, 41, 42, 43, 44, 45, 46, 47, 48, 49, 50, 51, 52, 53, 54, 55, 56, 57, 58, 59, 60, 61, 62, 63, 64, 65, 66, 67, 68, 69, 70, 71, 72, 73, 74, 75, 76, 77, 78, 79, 80, 81, 82, 83, 84, 85, 86, 87, 88, 89, 90] (by decide +kernel) (by decide +kernel)
set_option maxRecDepth 20000 in
theorem gX7_reached_X7_laysLines : GoodIn wsX7_reached (wsV RX7 202 RX7 yX7_laysLines wsX7_laysLines) := goodIn_app (goodIn_of _ (by decide +kernel)) ggX7_reached_X7_laysLines
theorem dX7_reached_0 : decode cX7_reached 0 = .ok (.aload_n 0, 1) := by decide +kernel
theorem dX7_reached_1 : decode cX7_reached 1 = .ok (.iload_n 1, 1) := by decide +kernel
theorem dX7_reached_2 : decode cX7_reached 2 = .ok (.invokevirtual 199, 3) := by decide +kernel
theorem dX7_reached_5 : decode cX7_reached 5 = .ok (.ifCond .ne 8, 3) := by decide +kernel
theorem dX7_reached_8 : decode cX7_reached 8 = .ok (.aload_n 0, 1) := by decide +kernel
theorem dX7_reached_9 : decode cX7_reached 9 = .ok (.invokevirtual 68, 3) := by decide +kernel
theorem dX7_reached_12 : decode cX7_reached 12 = .ok (.ireturn, 1) := by decide +kernel
theorem dX7_reached_13 : decode cX7_reached 13 = .ok (.aload_n 0, 1) := by decide +kernel
theorem dX7_reached_14 : decode cX7_reached 14 = .ok (.invokevirtual 202, 3) := by decide +kernel
theorem dX7_reached_17 : decode cX7_reached 17 = .ok (.aload_n 0, 1) := by decide +kernel
theorem dX7_reached_18 : decode cX7_reached 18 = .ok (.getfield 31, 3) := by decide +kernel
theorem dX7_reached_21 : decode cX7_reached 21 = .ok (.iload_n 1, 1) := by decide +kernel
theorem dX7_reached_22 : decode cX7_reached 22 = .ok (.baload, 1) := by decide +kernel
theorem dX7_reached_23 : decode cX7_reached 23 = .ok (.ifCond .eq 7, 3) := by decide +kernel
theorem dX7_reached_26 : decode cX7_reached 26 = .ok (.iconst 1, 1) := by decide +kernel
theorem dX7_reached_27 : decode cX7_reached 27 = .ok (.goto 4, 3) := by decide +kernel
theorem dX7_reached_30 : decode cX7_reached 30 = .ok (.iconst 0, 1) := by decide +kernel
theorem dX7_reached_31 : decode cX7_reached 31 = .ok (.ireturn, 1) := by decide +kernel
set_option maxRecDepth 20000 in
theorem ggX7_isAlarm_X7_partOf : GoodIn wsX7_isAlarm wsX7_partOf := goodIn_r _ [7, 8, 12, 13, 14, 15, 16, 17, 18, 19, 20, 21, 22, 23, 24, 25, 26, 27, 28, 29, 30, 31, 32, 33, 34, 35] (by decide +kernel) (by decide +kernel)
set_option maxRecDepth 20000 in
theorem gX7_isAlarm_X7_partOf : GoodIn wsX7_isAlarm (wsV RX7 127 RX7 yX7_partOf wsX7_partOf) := goodIn_app (goodIn_of _ (by decide +kernel)) ggX7_isAlarm_X7_partOf
set_option maxRecDepth 20000 in
theorem ggX7_isAlarm_X7_has : GoodIn wsX7_isAlarm wsX7_has := goodIn_r _ [11] (by decide +kernel) (by decide +kernel)
set_option maxRecDepth 20000 in
theorem gX7_isAlarm_X7_has : GoodIn wsX7_isAlarm (va_wsS RX7 118 yX7_has wsX7_has) := goodIn_app (goodIn_of _ (by decide +kernel)) ggX7_isAlarm_X7_has
theorem dX7_isAlarm_0 : decode cX7_isAlarm 0 = .ok (.aload_n 0, 1) := by decide +kernel
theorem dX7_isAlarm_1 : decode cX7_isAlarm 1 = .ok (.iload_n 1, 1) := by decide +kernel
theorem dX7_isAlarm_2 : decode cX7_isAlarm 2 = .ok (.iconst 0, 1) := by decide +kernel
theorem dX7_isAlarm_3 : decode cX7_isAlarm 3 = .ok (.invokevirtual 127, 3) := by decide +kernel
theorem dX7_isAlarm_6 : decode cX7_isAlarm 6 = .ok (.istore_n 2, 1) := by decide +kernel
theorem dX7_isAlarm_7 : decode cX7_isAlarm 7 = .ok (.aload_n 0, 1) := by decide +kernel
theorem dX7_isAlarm_8 : decode cX7_isAlarm 8 = .ok (.getfield 35, 3) := by decide +kernel
theorem dX7_isAlarm_11 : decode cX7_isAlarm 11 = .ok (.iload_n 1, 1) := by decide +kernel
theorem dX7_isAlarm_12 : decode cX7_isAlarm 12 = .ok (.iaload, 1) := by decide +kernel
theorem dX7_isAlarm_13 : decode cX7_isAlarm 13 = .ok (.aload_n 0, 1) := by decide +kernel
theorem dX7_isAlarm_14 : decode cX7_isAlarm 14 = .ok (.iload_n 1, 1) := by decide +kernel
theorem dX7_isAlarm_15 : decode cX7_isAlarm 15 = .ok (.iconst 1, 1) := by decide +kernel
theorem dX7_isAlarm_16 : decode cX7_isAlarm 16 = .ok (.invokevirtual 127, 3) := by decide +kernel
theorem dX7_isAlarm_19 : decode cX7_isAlarm 19 = .ok (.invokestatic 118, 3) := by decide +kernel
theorem dX7_isAlarm_22 : decode cX7_isAlarm 22 = .ok (.ifCond .eq 19, 3) := by decide +kernel
theorem dX7_isAlarm_25 : decode cX7_isAlarm 25 = .ok (.iload_n 2, 1) := by decide +kernel
theorem dX7_isAlarm_26 : decode cX7_isAlarm 26 = .ok (.bipush 6, 2) := by decide +kernel
theorem dX7_isAlarm_28 : decode cX7_isAlarm 28 = .ok (.if_icmp .eq 9, 3) := by decide +kernel
theorem dX7_isAlarm_31 : decode cX7_isAlarm 31 = .ok (.iload_n 2, 1) := by decide +kernel
theorem dX7_isAlarm_32 : decode cX7_isAlarm 32 = .ok (.bipush 7, 2) := by decide +kernel
theorem dX7_isAlarm_34 : decode cX7_isAlarm 34 = .ok (.if_icmp .ne 7, 3) := by decide +kernel
theorem dX7_isAlarm_37 : decode cX7_isAlarm 37 = .ok (.iconst 1, 1) := by decide +kernel
theorem dX7_isAlarm_38 : decode cX7_isAlarm 38 = .ok (.goto 4, 3) := by decide +kernel
theorem dX7_isAlarm_41 : decode cX7_isAlarm 41 = .ok (.iconst 0, 1) := by decide +kernel
theorem dX7_isAlarm_42 : decode cX7_isAlarm 42 = .ok (.istore_n 3, 1) := by decide +kernel
theorem dX7_isAlarm_43 : decode cX7_isAlarm 43 = .ok (.iload_n 2, 1) := by decide +kernel
theorem dX7_isAlarm_44 : decode cX7_isAlarm 44 = .ok (.iconst 5, 1) := by decide +kernel
theorem dX7_isAlarm_45 : decode cX7_isAlarm 45 = .ok (.if_icmp .eq 9, 3) := by decide +kernel
theorem dX7_isAlarm_48 : decode cX7_isAlarm 48 = .ok (.iload_n 2, 1) := by decide +kernel
theorem dX7_isAlarm_49 : decode cX7_isAlarm 49 = .ok (.bipush 6, 2) := by decide +kernel
theorem dX7_isAlarm_51 : decode cX7_isAlarm 51 = .ok (.if_icmp .ne 25, 3) := by decide +kernel
theorem dX7_isAlarm_54 : decode cX7_isAlarm 54 = .ok (.aload_n 0, 1) := by decide +kernel
theorem dX7_isAlarm_55 : decode cX7_isAlarm 55 = .ok (.getfield 35, 3) := by decide +kernel
theorem dX7_isAlarm_58 : decode cX7_isAlarm 58 = .ok (.iload_n 1, 1) := by decide +kernel
theorem dX7_isAlarm_59 : decode cX7_isAlarm 59 = .ok (.iaload, 1) := by decide +kernel
theorem dX7_isAlarm_60 : decode cX7_isAlarm 60 = .ok (.aload_n 0, 1) := by decide +kernel
theorem dX7_isAlarm_61 : decode cX7_isAlarm 61 = .ok (.iload_n 1, 1) := by decide +kernel
theorem dX7_isAlarm_62 : decode cX7_isAlarm 62 = .ok (.iconst 2, 1) := by decide +kernel
theorem dX7_isAlarm_63 : decode cX7_isAlarm 63 = .ok (.invokevirtual 127, 3) := by decide +kernel
theorem dX7_isAlarm_66 : decode cX7_isAlarm 66 = .ok (.invokestatic 118, 3) := by decide +kernel
theorem dX7_isAlarm_69 : decode cX7_isAlarm 69 = .ok (.ifCond .eq 7, 3) := by decide +kernel
theorem dX7_isAlarm_72 : decode cX7_isAlarm 72 = .ok (.iconst 1, 1) := by decide +kernel
theorem dX7_isAlarm_73 : decode cX7_isAlarm 73 = .ok (.goto 4, 3) := by decide +kernel
theorem dX7_isAlarm_76 : decode cX7_isAlarm 76 = .ok (.iconst 0, 1) := by decide +kernel
theorem dX7_isAlarm_77 : decode cX7_isAlarm 77 = .ok (.istore 4, 2) := by decide +kernel
theorem dX7_isAlarm_79 : decode cX7_isAlarm 79 = .ok (.aload_n 0, 1) := by decide +kernel
theorem dX7_isAlarm_80 : decode cX7_isAlarm 80 = .ok (.getfield 31, 3) := by decide +kernel
theorem dX7_isAlarm_83 : decode cX7_isAlarm 83 = .ok (.iload_n 1, 1) := by decide +kernel
theorem dX7_isAlarm_84 : decode cX7_isAlarm 84 = .ok (.baload, 1) := by decide +kernel
theorem dX7_isAlarm_85 : decode cX7_isAlarm 85 = .ok (.ifCond .eq 16, 3) := by decide +kernel
theorem dX7_isAlarm_88 : decode cX7_isAlarm 88 = .ok (.iload_n 3, 1) := by decide +kernel
theorem dX7_isAlarm_89 : decode cX7_isAlarm 89 = .ok (.ifCond .ne 8, 3) := by decide +kernel
theorem dX7_isAlarm_92 : decode cX7_isAlarm 92 = .ok (.iload 4, 2) := by decide +kernel
theorem dX7_isAlarm_94 : decode cX7_isAlarm 94 = .ok (.ifCond .eq 7, 3) := by decide +kernel
theorem dX7_isAlarm_97 : decode cX7_isAlarm 97 = .ok (.iconst 1, 1) := by decide +kernel
theorem dX7_isAlarm_98 : decode cX7_isAlarm 98 = .ok (.goto 4, 3) := by decide +kernel
theorem dX7_isAlarm_101 : decode cX7_isAlarm 101 = .ok (.iconst 0, 1) := by decide +kernel
theorem dX7_isAlarm_102 : decode cX7_isAlarm 102 = .ok (.ireturn, 1) := by decide +kernel
set_option maxRecDepth 20000 in
theorem ggX7_alarmNow_X7_laysLines : GoodIn wsX7_alarmNow wsX7_laysLines := goodIn_r _ [6, 1, 7, 8, 9, 10, 11, 12, 13, 14, 5, 15, 16, 17, 18, 19, 20, 21, 22, 23, 24, 25, 26, 27, 28, 29, 30, 31, 32, 33, 34, 35, 36, 37, 38, 39, 40, 41, 42, 43, 44, 45, 46, 47, 48, 49, 50, 51, 52, 53, 54, 59, 60, 61, 62, 63, 64, 65, 66, 67, 68, 69, 70, 71, 72, 73, 74, 75, 76, 77, 78, 79, 80, 81, 82] (by decide +kernel) (by decide +kernel)
set_option maxRecDepth 20000 in
theorem gX7_alarmNow_X7_laysLines : GoodIn wsX7_alarmNow (wsV RX7 202 RX7 yX7_laysLines wsX7_laysLines) := goodIn_app (goodIn_of _ (by decide +kernel)) ggX7_alarmNow_X7_laysLines
set_option maxRecDepth 20000 in
theorem ggX7_alarmNow_X7_isAlarm : GoodIn wsX7_alarmNow wsX7_isAlarm := goodIn_r _ [58, 8, 7, 25, 26, 27, 5, 28, 1, 37, 38, 39, 59, 60, 61, 62, 63, 64, 65, 66, 67, 68, 69, 70, 71, 72, 73, 74, 75, 76, 77, 78, 79, 80, 81, 82] (by decide +kernel) (by decide +kernel)
set_option maxRecDepth 20000 in
theorem gX7_alarmNow_X7_isAlarm : GoodIn wsX7_alarmNow (wsV RX7 205 RX7 yX7_isAlarm wsX7_isAlarm) := goodIn_app (goodIn_of _ (by decide +kernel)) ggX7_alarmNow_X7_isAlarm
theorem dX7_alarmNow_0 : decode cX7_alarmNow 0 = .ok (.aload_n 0, 1) := by decide +kernel
theorem dX7_alarmNow_1 : decode cX7_alarmNow 1 = .ok (.invokevirtual 202, 3) := by decide +kernel
theorem dX7_alarmNow_4 : decode cX7_alarmNow 4 = .ok (.iconst 0, 1) := by decide +kernel
theorem dX7_alarmNow_5 : decode cX7_alarmNow 5 = .ok (.istore_n 2, 1) := by decide +kernel
theorem dX7_alarmNow_6 : decode cX7_alarmNow 6 = .ok (.iconst 0, 1) := by decide +kernel
theorem dX7_alarmNow_7 : decode cX7_alarmNow 7 = .ok (.istore_n 3, 1) := by decide +kernel
theorem dX7_alarmNow_8 : decode cX7_alarmNow 8 = .ok (.iload_n 3, 1) := by decide +kernel
theorem dX7_alarmNow_9 : decode cX7_alarmNow 9 = .ok (.aload_n 0, 1) := by decide +kernel
theorem dX7_alarmNow_10 : decode cX7_alarmNow 10 = .ok (.getfield 7, 3) := by decide +kernel
theorem dX7_alarmNow_13 : decode cX7_alarmNow 13 = .ok (.iconst 0, 1) := by decide +kernel
theorem dX7_alarmNow_14 : decode cX7_alarmNow 14 = .ok (.iaload, 1) := by decide +kernel
theorem dX7_alarmNow_15 : decode cX7_alarmNow 15 = .ok (.if_icmp .ge 27, 3) := by decide +kernel
theorem dX7_alarmNow_18 : decode cX7_alarmNow 18 = .ok (.aload_n 0, 1) := by decide +kernel
theorem dX7_alarmNow_19 : decode cX7_alarmNow 19 = .ok (.iload_n 3, 1) := by decide +kernel
theorem dX7_alarmNow_20 : decode cX7_alarmNow 20 = .ok (.invokevirtual 205, 3) := by decide +kernel
theorem dX7_alarmNow_23 : decode cX7_alarmNow 23 = .ok (.ifCond .eq 13, 3) := by decide +kernel
theorem dX7_alarmNow_26 : decode cX7_alarmNow 26 = .ok (.iload_n 2, 1) := by decide +kernel
theorem dX7_alarmNow_27 : decode cX7_alarmNow 27 = .ok (.iload_n 1, 1) := by decide +kernel
theorem dX7_alarmNow_28 : decode cX7_alarmNow 28 = .ok (.if_icmp .ne 5, 3) := by decide +kernel
theorem dX7_alarmNow_31 : decode cX7_alarmNow 31 = .ok (.iload_n 3, 1) := by decide +kernel
theorem dX7_alarmNow_32 : decode cX7_alarmNow 32 = .ok (.ireturn, 1) := by decide +kernel
theorem dX7_alarmNow_33 : decode cX7_alarmNow 33 = .ok (.iinc 2 1, 3) := by decide +kernel
theorem dX7_alarmNow_36 : decode cX7_alarmNow 36 = .ok (.iinc 3 1, 3) := by decide +kernel
theorem dX7_alarmNow_39 : decode cX7_alarmNow 39 = .ok (.goto (-31), 3) := by decide +kernel
theorem dX7_alarmNow_42 : decode cX7_alarmNow 42 = .ok (.iconst (-1), 1) := by decide +kernel
theorem dX7_alarmNow_43 : decode cX7_alarmNow 43 = .ok (.ireturn, 1) := by decide +kernel
set_option maxRecDepth 20000 in
theorem ggX7_alarm_X7_bad : GoodIn wsX7_alarm wsX7_bad := goodIn_r _ [5, 6, 68, 69, 70, 71, 72, 73, 74, 75, 76, 77, 78, 79, 80, 81, 82, 83, 84, 85, 86, 87, 88, 89, 90, 91] (by decide +kernel) (by decide +kernel)
set_option maxRecDepth 20000 in
theorem gX7_alarm_X7_bad : GoodIn wsX7_alarm (wsV RX7 68 RX7 yX7_bad wsX7_bad) := goodIn_app (goodIn_of _ (by decide +kernel)) ggX7_alarm_X7_bad
set_option maxRecDepth 20000 in
theorem ggX7_alarm_X7_alarmNow : GoodIn wsX7_alarm wsX7_alarmNow := goodIn_r _ [10, 11, 12, 13, 14, 4, 15, 16, 17, 18, 19, 20, 21, 22, 23, 24, 25, 26, 27, 28, 29, 30, 31, 32, 33, 34, 35, 36, 37, 38, 39, 40, 41, 42, 43, 44, 45, 46, 47, 48, 49, 50, 51, 52, 53, 54, 55, 56, 57, 58, 59, 60, 61, 62, 63, 64, 65, 66, 67, 68, 69, 70, 71, 72, 73, 74, 75, 76, 77, 78, 79, 80, 81, 82, 83, 84, 85, 86, 87, 88, 89, 90, 91] (by decide +kernel) (by decide +kernel)
set_option maxRecDepth 20000 in
theorem gX7_alarm_X7_alarmNow : GoodIn wsX7_alarm (wsV RX7 208 RX7 yX7_alarmNow wsX7_alarmNow) := goodIn_app (goodIn_of _ (by decide +kernel)) ggX7_alarm_X7_alarmNow
theorem dX7_alarm_0 : decode cX7_alarm 0 = .ok (.iload_n 1, 1) := by decide +kernel
theorem dX7_alarm_1 : decode cX7_alarm 1 = .ok (.ifCond .ge 10, 3) := by decide +kernel
theorem dX7_alarm_4 : decode cX7_alarm 4 = .ok (.aload_n 0, 1) := by decide +kernel
theorem dX7_alarm_5 : decode cX7_alarm 5 = .ok (.invokevirtual 68, 3) := by decide +kernel
theorem dX7_alarm_8 : decode cX7_alarm 8 = .ok (.goto 8, 3) := by decide +kernel
theorem dX7_alarm_11 : decode cX7_alarm 11 = .ok (.aload_n 0, 1) := by decide +kernel
theorem dX7_alarm_12 : decode cX7_alarm 12 = .ok (.iload_n 1, 1) := by decide +kernel
theorem dX7_alarm_13 : decode cX7_alarm 13 = .ok (.invokevirtual 208, 3) := by decide +kernel
theorem dX7_alarm_16 : decode cX7_alarm 16 = .ok (.ireturn, 1) := by decide +kernel
set_option maxRecDepth 20000 in
theorem ggX7_acceptedNow_X7_alarmNow : GoodIn wsX7_acceptedNow wsX7_alarmNow := goodIn_r _ [5, 6, 7, 8, 9, 4, 10, 11, 12, 13, 14, 15, 16, 17, 18, 19, 20, 21, 22, 23, 24, 25, 26, 27, 28, 29, 30, 31, 32, 33, 34, 35, 36, 37, 38, 39, 40, 41, 42, 43, 44, 45, 46, 47, 48, 49, 50, 51, 52, 53, 54, 55, 56, 57, 58, 59, 60, 61, 62, 63, 64, 65, 66, 67, 68, 69, 70, 71, 72, 73, 74, 75, 76, 77, 78, 79, 80, 81, 82, 83, 84, 85, 86] (by decide +kernel) (by decide +kernel)
set_option maxRecDepth 20000 in
theorem gX7_acceptedNow_X7_alarmNow : GoodIn wsX7_acceptedNow (wsV RX7 208 RX7 yX7_alarmNow wsX7_alarmNow) := goodIn_app (goodIn_of _ (by decide +kernel)) ggX7_acceptedNow_X7_alarmNow
theorem dX7_acceptedNow_0 : decode cX7_acceptedNow 0 = .ok (.aload_n 0, 1) := by decide +kernel
theorem dX7_acceptedNow_1 : decode cX7_acceptedNow 1 = .ok (.iconst 0, 1) := by decide +kernel
theorem dX7_acceptedNow_2 : decode cX7_acceptedNow 2 = .ok (.invokevirtual 208, 3) := by decide +kernel
theorem dX7_acceptedNow_5 : decode cX7_acceptedNow 5 = .ok (.iconst (-1), 1) := by decide +kernel
theorem dX7_acceptedNow_6 : decode cX7_acceptedNow 6 = .ok (.if_icmp .ne 7, 3) := by decide +kernel
theorem dX7_acceptedNow_9 : decode cX7_acceptedNow 9 = .ok (.iconst 1, 1) := by decide +kernel
theorem dX7_acceptedNow_10 : decode cX7_acceptedNow 10 = .ok (.goto 4, 3) := by decide +kernel
theorem dX7_acceptedNow_13 : decode cX7_acceptedNow 13 = .ok (.iconst 0, 1) := by decide +kernel
theorem dX7_acceptedNow_14 : decode cX7_acceptedNow 14 = .ok (.ireturn, 1) := by decide +kernel
set_option maxRecDepth 20000 in
theorem ggX7_accepted_X7_acceptedNow : GoodIn wsX7_accepted wsX7_acceptedNow := goodIn_r _ [5, 6, 7, 8, 4, 9, 10, 11, 12, 13, 14, 15, 16, 17, 18, 19, 20, 21, 22, 23, 24, 25, 26, 27, 28, 29, 30, 31, 32, 33, 34, 35, 36, 37, 38, 39, 40, 41, 42, 43, 44, 45, 46, 47, 48, 49, 50, 51, 52, 53, 54, 55, 56, 57, 58, 59, 60, 61, 62, 63, 64, 65, 66, 67, 68, 69, 70, 71, 72, 73, 74, 75, 76, 77, 78, 79, 80, 81, 82, 83, 84, 85, 86, 87, 88, 89, 90] (by decide +kernel) (by decide +kernel)
set_option maxRecDepth 20000 in
theorem gX7_accepted_X7_acceptedNow : GoodIn wsX7_accepted (wsV RX7 211 RX7 yX7_acceptedNow wsX7_acceptedNow) := goodIn_app (goodIn_of _ (by decide +kernel)) ggX7_accepted_X7_acceptedNow
theorem dX7_accepted_0 : decode cX7_accepted 0 = .ok (.aload_n 0, 1) := by decide +kernel
theorem dX7_accepted_1 : decode cX7_accepted 1 = .ok (.invokevirtual 211, 3) := by decide +kernel
theorem dX7_accepted_4 : decode cX7_accepted 4 = .ok (.ireturn, 1) := by decide +kernel
set_option maxRecDepth 20000 in
theorem ggX7_of_X7_isLine : GoodIn wsX7_of wsX7_isLine := goodIn_r _ [5, 6, 7, 8, 4, 9, 19, 20, 21, 22, 23, 24, 25, 26, 27, 28, 29, 30, 31, 32, 33, 34, 35, 36, 37, 38, 39, 40, 41, 42] (by decide +kernel) (by decide +kernel)
set_option maxRecDepth 20000 in
theorem gX7_of_X7_isLine : GoodIn wsX7_of (wsV RX7 82 RX7 yX7_isLine wsX7_isLine) := goodIn_app (goodIn_of _ (by decide +kernel)) ggX7_of_X7_isLine
set_option maxRecDepth 20000 in
theorem ggX7_of_X7_within : GoodIn wsX7_of wsX7_within := goodIn_r _ [9] (by decide +kernel) (by decide +kernel)
set_option maxRecDepth 20000 in
theorem gX7_of_X7_within : GoodIn wsX7_of (va_wsS RX7 50 yX7_within wsX7_within) := goodIn_app (goodIn_of _ (by decide +kernel)) ggX7_of_X7_within
set_option maxRecDepth 20000 in
theorem ggX7_of_X7_partOf : GoodIn wsX7_of wsX7_partOf := goodIn_r _ [13, 6, 19, 20, 21, 22, 23, 24, 25, 26, 27, 28, 29, 30, 31, 32, 33, 34, 35, 36, 37, 38, 39, 40, 41, 42] (by decide +kernel) (by decide +kernel)
set_option maxRecDepth 20000 in
theorem gX7_of_X7_partOf : GoodIn wsX7_of (wsV RX7 127 RX7 yX7_partOf wsX7_partOf) := goodIn_app (goodIn_of _ (by decide +kernel)) ggX7_of_X7_partOf
set_option maxRecDepth 20000 in
theorem ggX7_of_X7_bad : GoodIn wsX7_of wsX7_bad := goodIn_r _ [17, 18, 19, 20, 21, 22, 23, 24, 25, 26, 27, 28, 29, 30, 31, 32, 33, 34, 35, 36, 37, 38, 39, 40, 41, 42] (by decide +kernel) (by decide +kernel)
set_option maxRecDepth 20000 in
theorem gX7_of_X7_bad : GoodIn wsX7_of (wsV RX7 68 RX7 yX7_bad wsX7_bad) := goodIn_app (goodIn_of _ (by decide +kernel)) ggX7_of_X7_bad
theorem dX7_of_0 : decode cX7_of 0 = .ok (.aload_n 0, 1) := by decide +kernel
theorem dX7_of_1 : decode cX7_of 1 = .ok (.iload_n 1, 1) := by decide +kernel
theorem dX7_of_2 : decode cX7_of 2 = .ok (.invokevirtual 82, 3) := by decide +kernel
theorem dX7_of_5 : decode cX7_of 5 = .ok (.ifCond .eq 21, 3) := by decide +kernel
theorem dX7_of_8 : decode cX7_of 8 = .ok (.iload_n 2, 1) := by decide +kernel
theorem dX7_of_9 : decode cX7_of 9 = .ok (.iconst 0, 1) := by decide +kernel
theorem dX7_of_10 : decode cX7_of 10 = .ok (.iconst 3, 1) := by decide +kernel
theorem dX7_of_11 : decode cX7_of 11 = .ok (.invokestatic 50, 3) := by decide +kernel
theorem dX7_of_14 : decode cX7_of 14 = .ok (.ifCond .eq 12, 3) := by decide +kernel
theorem dX7_of_17 : decode cX7_of 17 = .ok (.aload_n 0, 1) := by decide +kernel
theorem dX7_of_18 : decode cX7_of 18 = .ok (.iload_n 1, 1) := by decide +kernel
theorem dX7_of_19 : decode cX7_of 19 = .ok (.iload_n 2, 1) := by decide +kernel
theorem dX7_of_20 : decode cX7_of 20 = .ok (.invokevirtual 127, 3) := by decide +kernel
theorem dX7_of_23 : decode cX7_of 23 = .ok (.goto 7, 3) := by decide +kernel
theorem dX7_of_26 : decode cX7_of 26 = .ok (.aload_n 0, 1) := by decide +kernel
theorem dX7_of_27 : decode cX7_of 27 = .ok (.invokevirtual 68, 3) := by decide +kernel
theorem dX7_of_30 : decode cX7_of 30 = .ok (.ireturn, 1) := by decide +kernel
set_option maxRecDepth 20000 in
theorem ggX7_told_X7_within : GoodIn wsX7_told wsX7_within := goodIn_r _ [5] (by decide +kernel) (by decide +kernel)
set_option maxRecDepth 20000 in
theorem gX7_told_X7_within : GoodIn wsX7_told (va_wsS RX7 50 yX7_within wsX7_within) := goodIn_app (goodIn_of _ (by decide +kernel)) ggX7_told_X7_within
set_option maxRecDepth 20000 in
theorem ggX7_told_X7_bad : GoodIn wsX7_told wsX7_bad := goodIn_r _ [9, 10, 11, 12, 13, 14, 15, 16, 17, 18, 19, 20, 21, 22, 23, 24, 25, 26, 27, 28, 29, 30, 31, 32, 33, 34] (by decide +kernel) (by decide +kernel)
set_option maxRecDepth 20000 in
theorem gX7_told_X7_bad : GoodIn wsX7_told (wsV RX7 68 RX7 yX7_bad wsX7_bad) := goodIn_app (goodIn_of _ (by decide +kernel)) ggX7_told_X7_bad
theorem dX7_told_0 : decode cX7_told 0 = .ok (.iload_n 1, 1) := by decide +kernel
theorem dX7_told_1 : decode cX7_told 1 = .ok (.iconst 0, 1) := by decide +kernel
theorem dX7_told_2 : decode cX7_told 2 = .ok (.bipush 23, 2) := by decide +kernel
theorem dX7_told_4 : decode cX7_told 4 = .ok (.invokestatic 50, 3) := by decide +kernel
theorem dX7_told_7 : decode cX7_told 7 = .ok (.ifCond .eq 12, 3) := by decide +kernel
theorem dX7_told_10 : decode cX7_told 10 = .ok (.aload_n 0, 1) := by decide +kernel
theorem dX7_told_11 : decode cX7_told 11 = .ok (.getfield 7, 3) := by decide +kernel
theorem dX7_told_14 : decode cX7_told 14 = .ok (.iload_n 1, 1) := by decide +kernel
theorem dX7_told_15 : decode cX7_told 15 = .ok (.iaload, 1) := by decide +kernel
theorem dX7_told_16 : decode cX7_told 16 = .ok (.goto 7, 3) := by decide +kernel
theorem dX7_told_19 : decode cX7_told 19 = .ok (.aload_n 0, 1) := by decide +kernel
theorem dX7_told_20 : decode cX7_told 20 = .ok (.invokevirtual 68, 3) := by decide +kernel
theorem dX7_told_23 : decode cX7_told 23 = .ok (.ireturn, 1) := by decide +kernel
set_option maxRecDepth 20000 in
theorem ggX7_type_X7_within : GoodIn wsX7_type wsX7_within := goodIn_r _ [6] (by decide +kernel) (by decide +kernel)
set_option maxRecDepth 20000 in
theorem gX7_type_X7_within : GoodIn wsX7_type (va_wsS RX7 50 yX7_within wsX7_within) := goodIn_app (goodIn_of _ (by decide +kernel)) ggX7_type_X7_within
set_option maxRecDepth 20000 in
theorem ggX7_type_X7_bad : GoodIn wsX7_type wsX7_bad := goodIn_r _ [10, 11, 16, 17, 18, 19, 20, 21, 22, 23, 24, 25, 26, 27, 28, 29, 30, 31, 32, 33, 34, 35, 36, 37, 38, 39] (by decide +kernel) (by decide +kernel)
set_option maxRecDepth 20000 in
theorem gX7_type_X7_bad : GoodIn wsX7_type (wsV RX7 68 RX7 yX7_bad wsX7_bad) := goodIn_app (goodIn_of _ (by decide +kernel)) ggX7_type_X7_bad
set_option maxRecDepth 20000 in
theorem ggX7_type_X7_full : GoodIn wsX7_type wsX7_full := goodIn_r _ [15, 11, 16, 17, 18, 19, 20, 21, 22, 23, 24, 25, 26, 27, 28, 29, 30, 31, 32, 33, 34, 35, 36, 37, 38, 39] (by decide +kernel) (by decide +kernel)
set_option maxRecDepth 20000 in
theorem gX7_type_X7_full : GoodIn wsX7_type (wsV RX7 65 RX7 yX7_full wsX7_full) := goodIn_app (goodIn_of _ (by decide +kernel)) ggX7_type_X7_full
theorem dX7_type_0 : decode cX7_type 0 = .ok (.iload_n 1, 1) := by decide +kernel
theorem dX7_type_1 : decode cX7_type 1 = .ok (.iconst 0, 1) := by decide +kernel
theorem dX7_type_2 : decode cX7_type 2 = .ok (.bipush 127, 2) := by decide +kernel
theorem dX7_type_4 : decode cX7_type 4 = .ok (.invokestatic 50, 3) := by decide +kernel
theorem dX7_type_7 : decode cX7_type 7 = .ok (.ifCond .ne 8, 3) := by decide +kernel
theorem dX7_type_10 : decode cX7_type 10 = .ok (.aload_n 0, 1) := by decide +kernel
theorem dX7_type_11 : decode cX7_type 11 = .ok (.invokevirtual 68, 3) := by decide +kernel
theorem dX7_type_14 : decode cX7_type 14 = .ok (.ireturn, 1) := by decide +kernel
theorem dX7_type_15 : decode cX7_type 15 = .ok (.aload_n 0, 1) := by decide +kernel
theorem dX7_type_16 : decode cX7_type 16 = .ok (.getfield 214, 3) := by decide +kernel
theorem dX7_type_19 : decode cX7_type 19 = .ok (.bipush 120, 2) := by decide +kernel
theorem dX7_type_21 : decode cX7_type 21 = .ok (.if_icmp .ne 8, 3) := by decide +kernel
theorem dX7_type_24 : decode cX7_type 24 = .ok (.aload_n 0, 1) := by decide +kernel
theorem dX7_type_25 : decode cX7_type 25 = .ok (.invokevirtual 65, 3) := by decide +kernel
theorem dX7_type_28 : decode cX7_type 28 = .ok (.ireturn, 1) := by decide +kernel
theorem dX7_type_29 : decode cX7_type 29 = .ok (.aload_n 0, 1) := by decide +kernel
theorem dX7_type_30 : decode cX7_type 30 = .ok (.getfield 22, 3) := by decide +kernel
theorem dX7_type_33 : decode cX7_type 33 = .ok (.aload_n 0, 1) := by decide +kernel
theorem dX7_type_34 : decode cX7_type 34 = .ok (.getfield 214, 3) := by decide +kernel
theorem dX7_type_37 : decode cX7_type 37 = .ok (.iload_n 1, 1) := by decide +kernel
theorem dX7_type_38 : decode cX7_type 38 = .ok (.iastore, 1) := by decide +kernel
theorem dX7_type_39 : decode cX7_type 39 = .ok (.aload_n 0, 1) := by decide +kernel
theorem dX7_type_40 : decode cX7_type 40 = .ok (.dup, 1) := by decide +kernel
theorem dX7_type_41 : decode cX7_type 41 = .ok (.getfield 214, 3) := by decide +kernel
theorem dX7_type_44 : decode cX7_type 44 = .ok (.iconst 1, 1) := by decide +kernel
theorem dX7_type_45 : decode cX7_type 45 = .ok (.iadd, 1) := by decide +kernel
theorem dX7_type_46 : decode cX7_type 46 = .ok (.putfield 214, 3) := by decide +kernel
theorem dX7_type_49 : decode cX7_type 49 = .ok (.aload_n 0, 1) := by decide +kernel
theorem dX7_type_50 : decode cX7_type 50 = .ok (.getfield 214, 3) := by decide +kernel
theorem dX7_type_53 : decode cX7_type 53 = .ok (.ireturn, 1) := by decide +kernel
theorem dX7_clear_0 : decode cX7_clear 0 = .ok (.aload_n 0, 1) := by decide +kernel
theorem dX7_clear_1 : decode cX7_clear 1 = .ok (.getfield 214, 3) := by decide +kernel
theorem dX7_clear_4 : decode cX7_clear 4 = .ok (.istore_n 1, 1) := by decide +kernel
theorem dX7_clear_5 : decode cX7_clear 5 = .ok (.aload_n 0, 1) := by decide +kernel
theorem dX7_clear_6 : decode cX7_clear 6 = .ok (.iconst 0, 1) := by decide +kernel
theorem dX7_clear_7 : decode cX7_clear 7 = .ok (.putfield 214, 3) := by decide +kernel
theorem dX7_clear_10 : decode cX7_clear 10 = .ok (.iload_n 1, 1) := by decide +kernel
theorem dX7_clear_11 : decode cX7_clear 11 = .ok (.ireturn, 1) := by decide +kernel
set_option maxRecDepth 20000 in
theorem ggX7_isAt_X7_within : GoodIn wsX7_isAt wsX7_within := goodIn_r _ [7] (by decide +kernel) (by decide +kernel)
set_option maxRecDepth 20000 in
theorem gX7_isAt_X7_within : GoodIn wsX7_isAt (va_wsS RX7 50 yX7_within wsX7_within) := goodIn_app (goodIn_of _ (by decide +kernel)) ggX7_isAt_X7_within
theorem dX7_isAt_0 : decode cX7_isAt 0 = .ok (.aload_n 0, 1) := by decide +kernel
theorem dX7_isAt_1 : decode cX7_isAt 1 = .ok (.getfield 217, 3) := by decide +kernel
theorem dX7_isAt_4 : decode cX7_isAt 4 = .ok (.aload_n 0, 1) := by decide +kernel
theorem dX7_isAt_5 : decode cX7_isAt 5 = .ok (.getfield 214, 3) := by decide +kernel
theorem dX7_isAt_8 : decode cX7_isAt 8 = .ok (.if_icmp .ge 24, 3) := by decide +kernel
theorem dX7_isAt_11 : decode cX7_isAt 11 = .ok (.aload_n 0, 1) := by decide +kernel
theorem dX7_isAt_12 : decode cX7_isAt 12 = .ok (.getfield 22, 3) := by decide +kernel
theorem dX7_isAt_15 : decode cX7_isAt 15 = .ok (.aload_n 0, 1) := by decide +kernel
theorem dX7_isAt_16 : decode cX7_isAt 16 = .ok (.getfield 217, 3) := by decide +kernel
theorem dX7_isAt_19 : decode cX7_isAt 19 = .ok (.iaload, 1) := by decide +kernel
theorem dX7_isAt_20 : decode cX7_isAt 20 = .ok (.iload_n 1, 1) := by decide +kernel
theorem dX7_isAt_21 : decode cX7_isAt 21 = .ok (.iload_n 2, 1) := by decide +kernel
theorem dX7_isAt_22 : decode cX7_isAt 22 = .ok (.invokestatic 50, 3) := by decide +kernel
theorem dX7_isAt_25 : decode cX7_isAt 25 = .ok (.ifCond .eq 7, 3) := by decide +kernel
theorem dX7_isAt_28 : decode cX7_isAt 28 = .ok (.iconst 1, 1) := by decide +kernel
theorem dX7_isAt_29 : decode cX7_isAt 29 = .ok (.goto 4, 3) := by decide +kernel
theorem dX7_isAt_32 : decode cX7_isAt 32 = .ok (.iconst 0, 1) := by decide +kernel
theorem dX7_isAt_33 : decode cX7_isAt 33 = .ok (.ireturn, 1) := by decide +kernel
set_option maxRecDepth 20000 in
theorem ggX7_blanks_X7_isAt : GoodIn wsX7_blanks wsX7_isAt := goodIn_r _ [6, 1, 7, 8, 9, 10, 5, 11, 12, 13, 14, 15, 16, 17, 18, 19, 20, 21, 22, 23, 24, 25, 26, 27, 28, 29, 30, 31, 32, 33, 34, 35] (by decide +kernel) (by decide +kernel)
set_option maxRecDepth 20000 in
theorem gX7_blanks_X7_isAt : GoodIn wsX7_blanks (wsV RX7 220 RX7 yX7_isAt wsX7_isAt) := goodIn_app (goodIn_of _ (by decide +kernel)) ggX7_blanks_X7_isAt
theorem dX7_blanks_0 : decode cX7_blanks 0 = .ok (.aload_n 0, 1) := by decide +kernel
theorem dX7_blanks_1 : decode cX7_blanks 1 = .ok (.bipush 32, 2) := by decide +kernel
theorem dX7_blanks_3 : decode cX7_blanks 3 = .ok (.bipush 32, 2) := by decide +kernel
theorem dX7_blanks_5 : decode cX7_blanks 5 = .ok (.invokevirtual 220, 3) := by decide +kernel
theorem dX7_blanks_8 : decode cX7_blanks 8 = .ok (.ifCond .eq 16, 3) := by decide +kernel
theorem dX7_blanks_11 : decode cX7_blanks 11 = .ok (.aload_n 0, 1) := by decide +kernel
theorem dX7_blanks_12 : decode cX7_blanks 12 = .ok (.dup, 1) := by decide +kernel
theorem dX7_blanks_13 : decode cX7_blanks 13 = .ok (.getfield 217, 3) := by decide +kernel
theorem dX7_blanks_16 : decode cX7_blanks 16 = .ok (.iconst 1, 1) := by decide +kernel
theorem dX7_blanks_17 : decode cX7_blanks 17 = .ok (.iadd, 1) := by decide +kernel
theorem dX7_blanks_18 : decode cX7_blanks 18 = .ok (.putfield 217, 3) := by decide +kernel
theorem dX7_blanks_21 : decode cX7_blanks 21 = .ok (.goto (-21), 3) := by decide +kernel
theorem dX7_blanks_24 : decode cX7_blanks 24 = .ok (.return_, 1) := by decide +kernel
set_option maxRecDepth 20000 in
theorem ggX7_number_X7_blanks : GoodIn wsX7_number wsX7_blanks := goodIn_r _ [8, 3, 9, 10, 11, 7, 12, 13, 2, 14, 15, 16, 17, 18, 19, 20, 21, 22, 23, 24, 25, 26, 27, 28, 29, 30, 31, 32, 33, 34, 35, 36, 37, 38, 39, 40] (by decide +kernel) (by decide +kernel)
set_option maxRecDepth 20000 in
theorem gX7_number_X7_blanks : GoodIn wsX7_number (wsV RX7 223 RX7 yX7_blanks wsX7_blanks) := goodIn_app (goodIn_of _ (by decide +kernel)) ggX7_number_X7_blanks
set_option maxRecDepth 20000 in
theorem ggX7_number_X7_isAt : GoodIn wsX7_number wsX7_isAt := goodIn_r _ [12, 3, 13, 2, 14, 15, 7, 16, 17, 18, 19, 20, 21, 22, 23, 24, 25, 26, 27, 28, 29, 30, 31, 32, 33, 34, 35, 36, 37, 38, 39, 40] (by decide +kernel) (by decide +kernel)
set_option maxRecDepth 20000 in
theorem gX7_number_X7_isAt : GoodIn wsX7_number (wsV RX7 220 RX7 yX7_isAt wsX7_isAt) := goodIn_app (goodIn_of _ (by decide +kernel)) ggX7_number_X7_isAt
theorem dX7_number_0 : decode cX7_number 0 = .ok (.aload_n 0, 1) := by decide +kernel
theorem dX7_number_1 : decode cX7_number 1 = .ok (.invokevirtual 223, 3) := by decide +kernel
theorem dX7_number_4 : decode cX7_number 4 = .ok (.iconst 0, 1) := by decide +kernel
theorem dX7_number_5 : decode cX7_number 5 = .ok (.istore_n 1, 1) := by decide +kernel
theorem dX7_number_6 : decode cX7_number 6 = .ok (.iconst 0, 1) := by decide +kernel
theorem dX7_number_7 : decode cX7_number 7 = .ok (.istore_n 2, 1) := by decide +kernel
theorem dX7_number_8 : decode cX7_number 8 = .ok (.aload_n 0, 1) := by decide +kernel
theorem dX7_number_9 : decode cX7_number 9 = .ok (.aload_n 0, 1) := by decide +kernel
theorem dX7_number_10 : decode cX7_number 10 = .ok (.bipush 48, 2) := by decide +kernel
theorem dX7_number_12 : decode cX7_number 12 = .ok (.bipush 57, 2) := by decide +kernel
theorem dX7_number_14 : decode cX7_number 14 = .ok (.invokevirtual 220, 3) := by decide +kernel
theorem dX7_number_17 : decode cX7_number 17 = .ok (.ifCond .ne 7, 3) := by decide +kernel
theorem dX7_number_20 : decode cX7_number 20 = .ok (.iconst 1, 1) := by decide +kernel
theorem dX7_number_21 : decode cX7_number 21 = .ok (.goto 4, 3) := by decide +kernel
theorem dX7_number_24 : decode cX7_number 24 = .ok (.iconst 0, 1) := by decide +kernel
theorem dX7_number_25 : decode cX7_number 25 = .ok (.putfield 226, 3) := by decide +kernel
theorem dX7_number_28 : decode cX7_number 28 = .ok (.aload_n 0, 1) := by decide +kernel
theorem dX7_number_29 : decode cX7_number 29 = .ok (.getfield 226, 3) := by decide +kernel
theorem dX7_number_32 : decode cX7_number 32 = .ok (.ifCond .ne 84, 3) := by decide +kernel
theorem dX7_number_35 : decode cX7_number 35 = .ok (.aload_n 0, 1) := by decide +kernel
theorem dX7_number_36 : decode cX7_number 36 = .ok (.bipush 48, 2) := by decide +kernel
theorem dX7_number_38 : decode cX7_number 38 = .ok (.bipush 57, 2) := by decide +kernel
theorem dX7_number_40 : decode cX7_number 40 = .ok (.invokevirtual 220, 3) := by decide +kernel
theorem dX7_number_43 : decode cX7_number 43 = .ok (.ifCond .eq 73, 3) := by decide +kernel
theorem dX7_number_46 : decode cX7_number 46 = .ok (.iinc 2 1, 3) := by decide +kernel
theorem dX7_number_49 : decode cX7_number 49 = .ok (.aload_n 0, 1) := by decide +kernel
theorem dX7_number_50 : decode cX7_number 50 = .ok (.iload_n 2, 1) := by decide +kernel
theorem dX7_number_51 : decode cX7_number 51 = .ok (.iconst 2, 1) := by decide +kernel
theorem dX7_number_52 : decode cX7_number 52 = .ok (.if_icmp .le 7, 3) := by decide +kernel
theorem dX7_number_55 : decode cX7_number 55 = .ok (.iconst 1, 1) := by decide +kernel
theorem dX7_number_56 : decode cX7_number 56 = .ok (.goto 4, 3) := by decide +kernel
theorem dX7_number_59 : decode cX7_number 59 = .ok (.iconst 0, 1) := by decide +kernel
theorem dX7_number_60 : decode cX7_number 60 = .ok (.putfield 226, 3) := by decide +kernel
theorem dX7_number_63 : decode cX7_number 63 = .ok (.aload_n 0, 1) := by decide +kernel
theorem dX7_number_64 : decode cX7_number 64 = .ok (.getfield 226, 3) := by decide +kernel
theorem dX7_number_67 : decode cX7_number 67 = .ok (.ifCond .eq 7, 3) := by decide +kernel
theorem dX7_number_70 : decode cX7_number 70 = .ok (.iload_n 1, 1) := by decide +kernel
theorem dX7_number_71 : decode cX7_number 71 = .ok (.goto 20, 3) := by decide +kernel
theorem dX7_number_74 : decode cX7_number 74 = .ok (.bipush 10, 2) := by decide +kernel
theorem dX7_number_76 : decode cX7_number 76 = .ok (.iload_n 1, 1) := by decide +kernel
theorem dX7_number_77 : decode cX7_number 77 = .ok (.imul, 1) := by decide +kernel
theorem dX7_number_78 : decode cX7_number 78 = .ok (.aload_n 0, 1) := by decide +kernel
theorem dX7_number_79 : decode cX7_number 79 = .ok (.getfield 22, 3) := by decide +kernel
theorem dX7_number_82 : decode cX7_number 82 = .ok (.aload_n 0, 1) := by decide +kernel
theorem dX7_number_83 : decode cX7_number 83 = .ok (.getfield 217, 3) := by decide +kernel
theorem dX7_number_86 : decode cX7_number 86 = .ok (.iaload, 1) := by decide +kernel
theorem dX7_number_87 : decode cX7_number 87 = .ok (.iadd, 1) := by decide +kernel
theorem dX7_number_88 : decode cX7_number 88 = .ok (.bipush 48, 2) := by decide +kernel
theorem dX7_number_90 : decode cX7_number 90 = .ok (.isub, 1) := by decide +kernel
theorem dX7_number_91 : decode cX7_number 91 = .ok (.istore_n 1, 1) := by decide +kernel
theorem dX7_number_92 : decode cX7_number 92 = .ok (.aload_n 0, 1) := by decide +kernel
theorem dX7_number_93 : decode cX7_number 93 = .ok (.dup, 1) := by decide +kernel
theorem dX7_number_94 : decode cX7_number 94 = .ok (.getfield 217, 3) := by decide +kernel
theorem dX7_number_97 : decode cX7_number 97 = .ok (.aload_n 0, 1) := by decide +kernel
theorem dX7_number_98 : decode cX7_number 98 = .ok (.getfield 226, 3) := by decide +kernel
theorem dX7_number_101 : decode cX7_number 101 = .ok (.ifCond .eq 7, 3) := by decide +kernel
theorem dX7_number_104 : decode cX7_number 104 = .ok (.iconst 0, 1) := by decide +kernel
theorem dX7_number_105 : decode cX7_number 105 = .ok (.goto 4, 3) := by decide +kernel
theorem dX7_number_108 : decode cX7_number 108 = .ok (.iconst 1, 1) := by decide +kernel
theorem dX7_number_109 : decode cX7_number 109 = .ok (.iadd, 1) := by decide +kernel
theorem dX7_number_110 : decode cX7_number 110 = .ok (.putfield 217, 3) := by decide +kernel
theorem dX7_number_113 : decode cX7_number 113 = .ok (.goto (-85), 3) := by decide +kernel
theorem dX7_number_116 : decode cX7_number 116 = .ok (.iload_n 1, 1) := by decide +kernel
theorem dX7_number_117 : decode cX7_number 117 = .ok (.ireturn, 1) := by decide +kernel
theorem dX7_manyOf_0 : decode cX7_manyOf 0 = .ok (.iload_n 0, 1) := by decide +kernel
theorem dX7_manyOf_1 : decode cX7_manyOf 1 = .ok (.lookupswitch 57 #[(100, 53), (108, 51), (112, 55), (116, 55), (118, 55)], 51) := by decide +kernel
theorem dX7_manyOf_52 : decode cX7_manyOf 52 = .ok (.iconst 4, 1) := by decide +kernel
theorem dX7_manyOf_53 : decode cX7_manyOf 53 = .ok (.ireturn, 1) := by decide +kernel
theorem dX7_manyOf_54 : decode cX7_manyOf 54 = .ok (.iconst 1, 1) := by decide +kernel
theorem dX7_manyOf_55 : decode cX7_manyOf 55 = .ok (.ireturn, 1) := by decide +kernel
theorem dX7_manyOf_56 : decode cX7_manyOf 56 = .ok (.iconst 2, 1) := by decide +kernel
theorem dX7_manyOf_57 : decode cX7_manyOf 57 = .ok (.ireturn, 1) := by decide +kernel
theorem dX7_manyOf_58 : decode cX7_manyOf 58 = .ok (.iconst 0, 1) := by decide +kernel
theorem dX7_manyOf_59 : decode cX7_manyOf 59 = .ok (.ireturn, 1) := by decide +kernel
set_option maxRecDepth 20000 in
theorem ggX7_readsOrder_X7_manyOf : GoodIn wsX7_readsOrder wsX7_manyOf := goodIn_r _ [10] (by decide +kernel) (by decide +kernel)
set_option maxRecDepth 20000 in
theorem gX7_readsOrder_X7_manyOf : GoodIn wsX7_readsOrder (va_wsS RX7 229 yX7_manyOf wsX7_manyOf) := goodIn_app (goodIn_of _ (by decide +kernel)) ggX7_readsOrder_X7_manyOf
set_option maxRecDepth 20000 in
theorem ggX7_readsOrder_X7_number : GoodIn wsX7_readsOrder wsX7_number := goodIn_r _ [14, 3, 1, 2, 15, 16, 17, 9, 18, 19, 20, 21, 22, 23, 24, 25, 26, 27, 28, 29, 30, 31, 32, 33, 34, 35, 36, 37, 38, 39, 40, 41, 42, 43, 44, 45, 46, 47, 48, 49, 50] (by decide +kernel) (by decide +kernel)
set_option maxRecDepth 20000 in
theorem gX7_readsOrder_X7_number : GoodIn wsX7_readsOrder (wsV RX7 235 RX7 yX7_number wsX7_number) := goodIn_app (goodIn_of _ (by decide +kernel)) ggX7_readsOrder_X7_number
set_option maxRecDepth 20000 in
theorem ggX7_readsOrder_X7_blanks : GoodIn wsX7_readsOrder wsX7_blanks := goodIn_r _ [18, 2, 19, 20, 21, 9, 22, 23, 1, 24, 25, 26, 27, 28, 29, 30, 31, 32, 33, 34, 35, 36, 37, 38, 39, 40, 41, 42, 43, 44, 45, 46, 47, 48, 49, 50] (by decide +kernel) (by decide +kernel)
set_option maxRecDepth 20000 in
theorem gX7_readsOrder_X7_blanks : GoodIn wsX7_readsOrder (wsV RX7 223 RX7 yX7_blanks wsX7_blanks) := goodIn_app (goodIn_of _ (by decide +kernel)) ggX7_readsOrder_X7_blanks
set_option maxRecDepth 20000 in
theorem ggX7_readsOrder_X7_isAt : GoodIn wsX7_readsOrder wsX7_isAt := goodIn_r _ [22, 2, 23, 1, 24, 25, 9, 26, 27, 28, 29, 30, 31, 32, 33, 34, 35, 36, 37, 38, 39, 40, 41, 42, 43, 44, 45, 46, 47, 48, 49, 50] (by decide +kernel) (by decide +kernel)
set_option maxRecDepth 20000 in
theorem gX7_readsOrder_X7_isAt : GoodIn wsX7_readsOrder (wsV RX7 220 RX7 yX7_isAt wsX7_isAt) := goodIn_app (goodIn_of _ (by decide +kernel)) ggX7_readsOrder_X7_isAt
theorem dX7_readsOrder_0 : decode cX7_readsOrder 0 = .ok (.aload_n 0, 1) := by decide +kernel
theorem dX7_readsOrder_1 : decode cX7_readsOrder 1 = .ok (.getfield 22, 3) := by decide +kernel
theorem dX7_readsOrder_4 : decode cX7_readsOrder 4 = .ok (.aload_n 0, 1) := by decide +kernel
theorem dX7_readsOrder_5 : decode cX7_readsOrder 5 = .ok (.getfield 217, 3) := by decide +kernel
theorem dX7_readsOrder_8 : decode cX7_readsOrder 8 = .ok (.iaload, 1) := by decide +kernel
theorem dX7_readsOrder_9 : decode cX7_readsOrder 9 = .ok (.istore_n 1, 1) := by decide +kernel
theorem dX7_readsOrder_10 : decode cX7_readsOrder 10 = .ok (.iload_n 1, 1) := by decide +kernel
theorem dX7_readsOrder_11 : decode cX7_readsOrder 11 = .ok (.invokestatic 229, 3) := by decide +kernel
theorem dX7_readsOrder_14 : decode cX7_readsOrder 14 = .ok (.istore_n 2, 1) := by decide +kernel
theorem dX7_readsOrder_15 : decode cX7_readsOrder 15 = .ok (.aload_n 0, 1) := by decide +kernel
theorem dX7_readsOrder_16 : decode cX7_readsOrder 16 = .ok (.iload_n 2, 1) := by decide +kernel
theorem dX7_readsOrder_17 : decode cX7_readsOrder 17 = .ok (.ifCond .ne 7, 3) := by decide +kernel
theorem dX7_readsOrder_20 : decode cX7_readsOrder 20 = .ok (.iconst 1, 1) := by decide +kernel
theorem dX7_readsOrder_21 : decode cX7_readsOrder 21 = .ok (.goto 4, 3) := by decide +kernel
theorem dX7_readsOrder_24 : decode cX7_readsOrder 24 = .ok (.iconst 0, 1) := by decide +kernel
theorem dX7_readsOrder_25 : decode cX7_readsOrder 25 = .ok (.putfield 226, 3) := by decide +kernel
theorem dX7_readsOrder_28 : decode cX7_readsOrder 28 = .ok (.aload_n 0, 1) := by decide +kernel
theorem dX7_readsOrder_29 : decode cX7_readsOrder 29 = .ok (.dup, 1) := by decide +kernel
theorem dX7_readsOrder_30 : decode cX7_readsOrder 30 = .ok (.getfield 217, 3) := by decide +kernel
theorem dX7_readsOrder_33 : decode cX7_readsOrder 33 = .ok (.aload_n 0, 1) := by decide +kernel
theorem dX7_readsOrder_34 : decode cX7_readsOrder 34 = .ok (.getfield 226, 3) := by decide +kernel
theorem dX7_readsOrder_37 : decode cX7_readsOrder 37 = .ok (.ifCond .eq 7, 3) := by decide +kernel
theorem dX7_readsOrder_40 : decode cX7_readsOrder 40 = .ok (.iconst 0, 1) := by decide +kernel
theorem dX7_readsOrder_41 : decode cX7_readsOrder 41 = .ok (.goto 4, 3) := by decide +kernel
theorem dX7_readsOrder_44 : decode cX7_readsOrder 44 = .ok (.iconst 1, 1) := by decide +kernel
theorem dX7_readsOrder_45 : decode cX7_readsOrder 45 = .ok (.iadd, 1) := by decide +kernel
theorem dX7_readsOrder_46 : decode cX7_readsOrder 46 = .ok (.putfield 217, 3) := by decide +kernel
theorem dX7_readsOrder_49 : decode cX7_readsOrder 49 = .ok (.iconst 0, 1) := by decide +kernel
theorem dX7_readsOrder_50 : decode cX7_readsOrder 50 = .ok (.istore_n 3, 1) := by decide +kernel
theorem dX7_readsOrder_51 : decode cX7_readsOrder 51 = .ok (.iload_n 3, 1) := by decide +kernel
theorem dX7_readsOrder_52 : decode cX7_readsOrder 52 = .ok (.iload_n 2, 1) := by decide +kernel
theorem dX7_readsOrder_53 : decode cX7_readsOrder 53 = .ok (.if_icmp .ge 33, 3) := by decide +kernel
theorem dX7_readsOrder_56 : decode cX7_readsOrder 56 = .ok (.aload_n 0, 1) := by decide +kernel
theorem dX7_readsOrder_57 : decode cX7_readsOrder 57 = .ok (.getfield 226, 3) := by decide +kernel
theorem dX7_readsOrder_60 : decode cX7_readsOrder 60 = .ok (.ifCond .ne 26, 3) := by decide +kernel
theorem dX7_readsOrder_63 : decode cX7_readsOrder 63 = .ok (.aload_n 0, 1) := by decide +kernel
theorem dX7_readsOrder_64 : decode cX7_readsOrder 64 = .ok (.getfield 47, 3) := by decide +kernel
theorem dX7_readsOrder_67 : decode cX7_readsOrder 67 = .ok (.iconst 4, 1) := by decide +kernel
theorem dX7_readsOrder_68 : decode cX7_readsOrder 68 = .ok (.aload_n 0, 1) := by decide +kernel
theorem dX7_readsOrder_69 : decode cX7_readsOrder 69 = .ok (.getfield 232, 3) := by decide +kernel
theorem dX7_readsOrder_72 : decode cX7_readsOrder 72 = .ok (.imul, 1) := by decide +kernel
theorem dX7_readsOrder_73 : decode cX7_readsOrder 73 = .ok (.iload_n 3, 1) := by decide +kernel
theorem dX7_readsOrder_74 : decode cX7_readsOrder 74 = .ok (.iadd, 1) := by decide +kernel
theorem dX7_readsOrder_75 : decode cX7_readsOrder 75 = .ok (.aload_n 0, 1) := by decide +kernel
theorem dX7_readsOrder_76 : decode cX7_readsOrder 76 = .ok (.invokevirtual 235, 3) := by decide +kernel
theorem dX7_readsOrder_79 : decode cX7_readsOrder 79 = .ok (.iastore, 1) := by decide +kernel
theorem dX7_readsOrder_80 : decode cX7_readsOrder 80 = .ok (.iinc 3 1, 3) := by decide +kernel
theorem dX7_readsOrder_83 : decode cX7_readsOrder 83 = .ok (.goto (-32), 3) := by decide +kernel
theorem dX7_readsOrder_86 : decode cX7_readsOrder 86 = .ok (.aload_n 0, 1) := by decide +kernel
theorem dX7_readsOrder_87 : decode cX7_readsOrder 87 = .ok (.getfield 226, 3) := by decide +kernel
theorem dX7_readsOrder_90 : decode cX7_readsOrder 90 = .ok (.ifCond .ne 48, 3) := by decide +kernel
theorem dX7_readsOrder_93 : decode cX7_readsOrder 93 = .ok (.aload_n 0, 1) := by decide +kernel
theorem dX7_readsOrder_94 : decode cX7_readsOrder 94 = .ok (.invokevirtual 223, 3) := by decide +kernel
theorem dX7_readsOrder_97 : decode cX7_readsOrder 97 = .ok (.aload_n 0, 1) := by decide +kernel
theorem dX7_readsOrder_98 : decode cX7_readsOrder 98 = .ok (.aload_n 0, 1) := by decide +kernel
theorem dX7_readsOrder_99 : decode cX7_readsOrder 99 = .ok (.bipush 59, 2) := by decide +kernel
theorem dX7_readsOrder_101 : decode cX7_readsOrder 101 = .ok (.bipush 59, 2) := by decide +kernel
theorem dX7_readsOrder_103 : decode cX7_readsOrder 103 = .ok (.invokevirtual 220, 3) := by decide +kernel
theorem dX7_readsOrder_106 : decode cX7_readsOrder 106 = .ok (.ifCond .ne 7, 3) := by decide +kernel
theorem dX7_readsOrder_109 : decode cX7_readsOrder 109 = .ok (.iconst 1, 1) := by decide +kernel
theorem dX7_readsOrder_110 : decode cX7_readsOrder 110 = .ok (.goto 4, 3) := by decide +kernel
theorem dX7_readsOrder_113 : decode cX7_readsOrder 113 = .ok (.iconst 0, 1) := by decide +kernel
theorem dX7_readsOrder_114 : decode cX7_readsOrder 114 = .ok (.putfield 226, 3) := by decide +kernel
theorem dX7_readsOrder_117 : decode cX7_readsOrder 117 = .ok (.aload_n 0, 1) := by decide +kernel
theorem dX7_readsOrder_118 : decode cX7_readsOrder 118 = .ok (.dup, 1) := by decide +kernel
theorem dX7_readsOrder_119 : decode cX7_readsOrder 119 = .ok (.getfield 217, 3) := by decide +kernel
theorem dX7_readsOrder_122 : decode cX7_readsOrder 122 = .ok (.aload_n 0, 1) := by decide +kernel
theorem dX7_readsOrder_123 : decode cX7_readsOrder 123 = .ok (.getfield 226, 3) := by decide +kernel
theorem dX7_readsOrder_126 : decode cX7_readsOrder 126 = .ok (.ifCond .eq 7, 3) := by decide +kernel
theorem dX7_readsOrder_129 : decode cX7_readsOrder 129 = .ok (.iconst 0, 1) := by decide +kernel
theorem dX7_readsOrder_130 : decode cX7_readsOrder 130 = .ok (.goto 4, 3) := by decide +kernel
theorem dX7_readsOrder_133 : decode cX7_readsOrder 133 = .ok (.iconst 1, 1) := by decide +kernel
theorem dX7_readsOrder_134 : decode cX7_readsOrder 134 = .ok (.iadd, 1) := by decide +kernel
theorem dX7_readsOrder_135 : decode cX7_readsOrder 135 = .ok (.putfield 217, 3) := by decide +kernel
theorem dX7_readsOrder_138 : decode cX7_readsOrder 138 = .ok (.aload_n 0, 1) := by decide +kernel
theorem dX7_readsOrder_139 : decode cX7_readsOrder 139 = .ok (.getfield 226, 3) := by decide +kernel
theorem dX7_readsOrder_142 : decode cX7_readsOrder 142 = .ok (.ifCond .ne 23, 3) := by decide +kernel
theorem dX7_readsOrder_145 : decode cX7_readsOrder 145 = .ok (.aload_n 0, 1) := by decide +kernel
theorem dX7_readsOrder_146 : decode cX7_readsOrder 146 = .ok (.getfield 44, 3) := by decide +kernel
theorem dX7_readsOrder_149 : decode cX7_readsOrder 149 = .ok (.aload_n 0, 1) := by decide +kernel
theorem dX7_readsOrder_150 : decode cX7_readsOrder 150 = .ok (.getfield 232, 3) := by decide +kernel
theorem dX7_readsOrder_153 : decode cX7_readsOrder 153 = .ok (.iload_n 1, 1) := by decide +kernel
theorem dX7_readsOrder_154 : decode cX7_readsOrder 154 = .ok (.iastore, 1) := by decide +kernel
theorem dX7_readsOrder_155 : decode cX7_readsOrder 155 = .ok (.aload_n 0, 1) := by decide +kernel
theorem dX7_readsOrder_156 : decode cX7_readsOrder 156 = .ok (.dup, 1) := by decide +kernel
theorem dX7_readsOrder_157 : decode cX7_readsOrder 157 = .ok (.getfield 232, 3) := by decide +kernel
theorem dX7_readsOrder_160 : decode cX7_readsOrder 160 = .ok (.iconst 1, 1) := by decide +kernel
theorem dX7_readsOrder_161 : decode cX7_readsOrder 161 = .ok (.iadd, 1) := by decide +kernel
theorem dX7_readsOrder_162 : decode cX7_readsOrder 162 = .ok (.putfield 232, 3) := by decide +kernel
theorem dX7_readsOrder_165 : decode cX7_readsOrder 165 = .ok (.return_, 1) := by decide +kernel
set_option maxRecDepth 20000 in
theorem ggX7_isRead_X7_blanks : GoodIn wsX7_isRead wsX7_blanks := goodIn_r _ [9, 1, 10, 11, 12, 8, 13, 3, 14, 15, 16, 17, 31, 32, 33, 34, 35, 36, 37, 38, 39, 40, 41, 42, 43, 44, 45, 46, 47, 48, 49, 50, 51, 52, 53, 54] (by decide +kernel) (by decide +kernel)
set_option maxRecDepth 20000 in
theorem gX7_isRead_X7_blanks : GoodIn wsX7_isRead (wsV RX7 223 RX7 yX7_blanks wsX7_blanks) := goodIn_app (goodIn_of _ (by decide +kernel)) ggX7_isRead_X7_blanks
set_option maxRecDepth 20000 in
theorem ggX7_isRead_X7_readsOrder : GoodIn wsX7_isRead wsX7_readsOrder := goodIn_r _ [21, 14, 1, 4, 22, 2, 23, 24, 25, 8, 26, 27, 28, 29, 30, 5, 6, 7, 9, 10, 11, 12, 13, 3, 15, 16, 17, 31, 32, 33, 34, 35, 36, 37, 38, 39, 40, 41, 42, 43, 44, 45, 46, 47, 48, 49, 50, 51, 52, 53, 54] (by decide +kernel) (by decide +kernel)
set_option maxRecDepth 20000 in
theorem gX7_isRead_X7_readsOrder : GoodIn wsX7_isRead (wsV RX7 238 RX7 yX7_readsOrder wsX7_readsOrder) := goodIn_app (goodIn_of _ (by decide +kernel)) ggX7_isRead_X7_readsOrder
theorem dX7_isRead_0 : decode cX7_isRead 0 = .ok (.aload_n 0, 1) := by decide +kernel
theorem dX7_isRead_1 : decode cX7_isRead 1 = .ok (.iconst 0, 1) := by decide +kernel
theorem dX7_isRead_2 : decode cX7_isRead 2 = .ok (.putfield 217, 3) := by decide +kernel
theorem dX7_isRead_5 : decode cX7_isRead 5 = .ok (.aload_n 0, 1) := by decide +kernel
theorem dX7_isRead_6 : decode cX7_isRead 6 = .ok (.iconst 0, 1) := by decide +kernel
theorem dX7_isRead_7 : decode cX7_isRead 7 = .ok (.putfield 232, 3) := by decide +kernel
theorem dX7_isRead_10 : decode cX7_isRead 10 = .ok (.aload_n 0, 1) := by decide +kernel
theorem dX7_isRead_11 : decode cX7_isRead 11 = .ok (.invokevirtual 223, 3) := by decide +kernel
theorem dX7_isRead_14 : decode cX7_isRead 14 = .ok (.aload_n 0, 1) := by decide +kernel
theorem dX7_isRead_15 : decode cX7_isRead 15 = .ok (.aload_n 0, 1) := by decide +kernel
theorem dX7_isRead_16 : decode cX7_isRead 16 = .ok (.getfield 217, 3) := by decide +kernel
theorem dX7_isRead_19 : decode cX7_isRead 19 = .ok (.aload_n 0, 1) := by decide +kernel
theorem dX7_isRead_20 : decode cX7_isRead 20 = .ok (.getfield 214, 3) := by decide +kernel
theorem dX7_isRead_23 : decode cX7_isRead 23 = .ok (.if_icmp .ne 7, 3) := by decide +kernel
theorem dX7_isRead_26 : decode cX7_isRead 26 = .ok (.iconst 1, 1) := by decide +kernel
theorem dX7_isRead_27 : decode cX7_isRead 27 = .ok (.goto 4, 3) := by decide +kernel
theorem dX7_isRead_30 : decode cX7_isRead 30 = .ok (.iconst 0, 1) := by decide +kernel
theorem dX7_isRead_31 : decode cX7_isRead 31 = .ok (.putfield 226, 3) := by decide +kernel
theorem dX7_isRead_34 : decode cX7_isRead 34 = .ok (.aload_n 0, 1) := by decide +kernel
theorem dX7_isRead_35 : decode cX7_isRead 35 = .ok (.getfield 226, 3) := by decide +kernel
theorem dX7_isRead_38 : decode cX7_isRead 38 = .ok (.ifCond .ne 32, 3) := by decide +kernel
theorem dX7_isRead_41 : decode cX7_isRead 41 = .ok (.aload_n 0, 1) := by decide +kernel
theorem dX7_isRead_42 : decode cX7_isRead 42 = .ok (.getfield 217, 3) := by decide +kernel
theorem dX7_isRead_45 : decode cX7_isRead 45 = .ok (.aload_n 0, 1) := by decide +kernel
theorem dX7_isRead_46 : decode cX7_isRead 46 = .ok (.getfield 214, 3) := by decide +kernel
theorem dX7_isRead_49 : decode cX7_isRead 49 = .ok (.if_icmp .ge 21, 3) := by decide +kernel
theorem dX7_isRead_52 : decode cX7_isRead 52 = .ok (.aload_n 0, 1) := by decide +kernel
theorem dX7_isRead_53 : decode cX7_isRead 53 = .ok (.invokevirtual 238, 3) := by decide +kernel
theorem dX7_isRead_56 : decode cX7_isRead 56 = .ok (.aload_n 0, 1) := by decide +kernel
theorem dX7_isRead_57 : decode cX7_isRead 57 = .ok (.getfield 226, 3) := by decide +kernel
theorem dX7_isRead_60 : decode cX7_isRead 60 = .ok (.ifCond .ne (-26), 3) := by decide +kernel
theorem dX7_isRead_63 : decode cX7_isRead 63 = .ok (.aload_n 0, 1) := by decide +kernel
theorem dX7_isRead_64 : decode cX7_isRead 64 = .ok (.invokevirtual 223, 3) := by decide +kernel
theorem dX7_isRead_67 : decode cX7_isRead 67 = .ok (.goto (-33), 3) := by decide +kernel
theorem dX7_isRead_70 : decode cX7_isRead 70 = .ok (.aload_n 0, 1) := by decide +kernel
theorem dX7_isRead_71 : decode cX7_isRead 71 = .ok (.getfield 226, 3) := by decide +kernel
theorem dX7_isRead_74 : decode cX7_isRead 74 = .ok (.ifCond .ne 7, 3) := by decide +kernel
theorem dX7_isRead_77 : decode cX7_isRead 77 = .ok (.iconst 1, 1) := by decide +kernel
theorem dX7_isRead_78 : decode cX7_isRead 78 = .ok (.goto 4, 3) := by decide +kernel
theorem dX7_isRead_81 : decode cX7_isRead 81 = .ok (.iconst 0, 1) := by decide +kernel
theorem dX7_isRead_82 : decode cX7_isRead 82 = .ok (.ireturn, 1) := by decide +kernel
set_option maxRecDepth 20000 in
theorem ggX7_doesOrder_X7_addsLine : GoodIn wsX7_doesOrder wsX7_addsLine := goodIn_r _ [7, 8, 9, 10, 6, 11, 12, 13, 14, 15, 16, 17, 18, 19, 20, 48, 49, 50, 51, 52, 53, 54, 55, 56, 57, 58, 59, 60, 61, 62, 63, 64, 65, 66, 67, 68, 69, 70, 71] (by decide +kernel) (by decide +kernel)
set_option maxRecDepth 20000 in
theorem gX7_doesOrder_X7_addsLine : GoodIn wsX7_doesOrder (wsV RX7 96 RX7 yX7_addsLine wsX7_addsLine) := goodIn_app (goodIn_of _ (by decide +kernel)) ggX7_doesOrder_X7_addsLine
set_option maxRecDepth 20000 in
theorem ggX7_doesOrder_X7_dropsLine : GoodIn wsX7_doesOrder wsX7_dropsLine := goodIn_r _ [24, 8, 25, 26, 27, 6, 28, 9, 10, 11, 48, 49, 50, 51, 52, 53, 54, 55, 56, 57, 58, 59, 60, 61, 62, 63, 64, 65, 66, 67, 68, 69, 70, 71] (by decide +kernel) (by decide +kernel)
set_option maxRecDepth 20000 in
theorem gX7_doesOrder_X7_dropsLine : GoodIn wsX7_doesOrder (wsV RX7 103 RX7 yX7_dropsLine wsX7_dropsLine) := goodIn_app (goodIn_of _ (by decide +kernel)) ggX7_doesOrder_X7_dropsLine
set_option maxRecDepth 20000 in
theorem ggX7_doesOrder_X7_setsTable : GoodIn wsX7_doesOrder wsX7_setsTable := goodIn_r _ [32, 18, 19, 6, 20, 9, 10, 11, 33, 34, 35, 36, 8, 48, 49, 50, 51, 52, 53, 54, 55, 56, 57, 58, 59, 60, 61, 62, 63, 64, 65, 66, 67, 68, 69, 70, 71] (by decide +kernel) (by decide +kernel)
set_option maxRecDepth 20000 in
theorem gX7_doesOrder_X7_setsTable : GoodIn wsX7_doesOrder (wsV RX7 106 RX7 yX7_setsTable wsX7_setsTable) := goodIn_app (goodIn_of _ (by decide +kernel)) ggX7_doesOrder_X7_setsTable
set_option maxRecDepth 20000 in
theorem ggX7_doesOrder_X7_setsStart : GoodIn wsX7_doesOrder wsX7_setsStart := goodIn_r _ [40, 12, 13, 6, 14, 9, 10, 11, 18, 19, 20, 33, 34, 35, 36, 8, 48, 49, 50, 51, 52, 53, 54, 55, 56, 57, 58, 59, 60, 61, 62, 63, 64, 65, 66, 67, 68, 69, 70, 71] (by decide +kernel) (by decide +kernel)
set_option maxRecDepth 20000 in
theorem gX7_doesOrder_X7_setsStart : GoodIn wsX7_doesOrder (wsV RX7 109 RX7 yX7_setsStart wsX7_setsStart) := goodIn_app (goodIn_of _ (by decide +kernel)) ggX7_doesOrder_X7_setsStart
set_option maxRecDepth 20000 in
theorem ggX7_doesOrder_X7_setsSecret : GoodIn wsX7_doesOrder wsX7_setsSecret := goodIn_r _ [44, 8, 12, 13, 6, 14, 9, 10, 11, 45, 46, 47, 48, 49, 50, 51, 52, 53, 54, 55, 56, 57, 58, 59, 60, 61, 62, 63, 64, 65, 66, 67, 68, 69, 70, 71] (by decide +kernel) (by decide +kernel)
set_option maxRecDepth 20000 in
theorem gX7_doesOrder_X7_setsSecret : GoodIn wsX7_doesOrder (wsV RX7 112 RX7 yX7_setsSecret wsX7_setsSecret) := goodIn_app (goodIn_of _ (by decide +kernel)) ggX7_doesOrder_X7_setsSecret
theorem dX7_doesOrder_0 : decode cX7_doesOrder 0 = .ok (.aload_n 0, 1) := by decide +kernel
theorem dX7_doesOrder_1 : decode cX7_doesOrder 1 = .ok (.getfield 47, 3) := by decide +kernel
theorem dX7_doesOrder_4 : decode cX7_doesOrder 4 = .ok (.iconst 4, 1) := by decide +kernel
theorem dX7_doesOrder_5 : decode cX7_doesOrder 5 = .ok (.iload_n 1, 1) := by decide +kernel
theorem dX7_doesOrder_6 : decode cX7_doesOrder 6 = .ok (.imul, 1) := by decide +kernel
theorem dX7_doesOrder_7 : decode cX7_doesOrder 7 = .ok (.iaload, 1) := by decide +kernel
theorem dX7_doesOrder_8 : decode cX7_doesOrder 8 = .ok (.istore_n 2, 1) := by decide +kernel
theorem dX7_doesOrder_9 : decode cX7_doesOrder 9 = .ok (.aload_n 0, 1) := by decide +kernel
theorem dX7_doesOrder_10 : decode cX7_doesOrder 10 = .ok (.getfield 47, 3) := by decide +kernel
theorem dX7_doesOrder_13 : decode cX7_doesOrder 13 = .ok (.iconst 4, 1) := by decide +kernel
theorem dX7_doesOrder_14 : decode cX7_doesOrder 14 = .ok (.iload_n 1, 1) := by decide +kernel
theorem dX7_doesOrder_15 : decode cX7_doesOrder 15 = .ok (.imul, 1) := by decide +kernel
theorem dX7_doesOrder_16 : decode cX7_doesOrder 16 = .ok (.iconst 1, 1) := by decide +kernel
theorem dX7_doesOrder_17 : decode cX7_doesOrder 17 = .ok (.iadd, 1) := by decide +kernel
theorem dX7_doesOrder_18 : decode cX7_doesOrder 18 = .ok (.iaload, 1) := by decide +kernel
theorem dX7_doesOrder_19 : decode cX7_doesOrder 19 = .ok (.istore_n 3, 1) := by decide +kernel
theorem dX7_doesOrder_20 : decode cX7_doesOrder 20 = .ok (.aload_n 0, 1) := by decide +kernel
theorem dX7_doesOrder_21 : decode cX7_doesOrder 21 = .ok (.getfield 44, 3) := by decide +kernel
theorem dX7_doesOrder_24 : decode cX7_doesOrder 24 = .ok (.iload_n 1, 1) := by decide +kernel
theorem dX7_doesOrder_25 : decode cX7_doesOrder 25 = .ok (.iaload, 1) := by decide +kernel
theorem dX7_doesOrder_26 : decode cX7_doesOrder 26 = .ok (.lookupswitch 89 #[(100, 69), (108, 42), (116, 75), (118, 82)], 42) := by decide +kernel
theorem dX7_doesOrder_68 : decode cX7_doesOrder 68 = .ok (.aload_n 0, 1) := by decide +kernel
theorem dX7_doesOrder_69 : decode cX7_doesOrder 69 = .ok (.iload_n 2, 1) := by decide +kernel
theorem dX7_doesOrder_70 : decode cX7_doesOrder 70 = .ok (.iload_n 3, 1) := by decide +kernel
theorem dX7_doesOrder_71 : decode cX7_doesOrder 71 = .ok (.aload_n 0, 1) := by decide +kernel
theorem dX7_doesOrder_72 : decode cX7_doesOrder 72 = .ok (.getfield 47, 3) := by decide +kernel
theorem dX7_doesOrder_75 : decode cX7_doesOrder 75 = .ok (.iconst 4, 1) := by decide +kernel
theorem dX7_doesOrder_76 : decode cX7_doesOrder 76 = .ok (.iload_n 1, 1) := by decide +kernel
theorem dX7_doesOrder_77 : decode cX7_doesOrder 77 = .ok (.imul, 1) := by decide +kernel
theorem dX7_doesOrder_78 : decode cX7_doesOrder 78 = .ok (.iconst 2, 1) := by decide +kernel
theorem dX7_doesOrder_79 : decode cX7_doesOrder 79 = .ok (.iadd, 1) := by decide +kernel
theorem dX7_doesOrder_80 : decode cX7_doesOrder 80 = .ok (.iaload, 1) := by decide +kernel
theorem dX7_doesOrder_81 : decode cX7_doesOrder 81 = .ok (.aload_n 0, 1) := by decide +kernel
theorem dX7_doesOrder_82 : decode cX7_doesOrder 82 = .ok (.getfield 47, 3) := by decide +kernel
theorem dX7_doesOrder_85 : decode cX7_doesOrder 85 = .ok (.iconst 4, 1) := by decide +kernel
theorem dX7_doesOrder_86 : decode cX7_doesOrder 86 = .ok (.iload_n 1, 1) := by decide +kernel
theorem dX7_doesOrder_87 : decode cX7_doesOrder 87 = .ok (.imul, 1) := by decide +kernel
theorem dX7_doesOrder_88 : decode cX7_doesOrder 88 = .ok (.iconst 3, 1) := by decide +kernel
theorem dX7_doesOrder_89 : decode cX7_doesOrder 89 = .ok (.iadd, 1) := by decide +kernel
theorem dX7_doesOrder_90 : decode cX7_doesOrder 90 = .ok (.iaload, 1) := by decide +kernel
theorem dX7_doesOrder_91 : decode cX7_doesOrder 91 = .ok (.invokevirtual 96, 3) := by decide +kernel
theorem dX7_doesOrder_94 : decode cX7_doesOrder 94 = .ok (.ireturn, 1) := by decide +kernel
theorem dX7_doesOrder_95 : decode cX7_doesOrder 95 = .ok (.aload_n 0, 1) := by decide +kernel
theorem dX7_doesOrder_96 : decode cX7_doesOrder 96 = .ok (.iload_n 2, 1) := by decide +kernel
theorem dX7_doesOrder_97 : decode cX7_doesOrder 97 = .ok (.invokevirtual 103, 3) := by decide +kernel
theorem dX7_doesOrder_100 : decode cX7_doesOrder 100 = .ok (.ireturn, 1) := by decide +kernel
theorem dX7_doesOrder_101 : decode cX7_doesOrder 101 = .ok (.aload_n 0, 1) := by decide +kernel
theorem dX7_doesOrder_102 : decode cX7_doesOrder 102 = .ok (.iload_n 2, 1) := by decide +kernel
theorem dX7_doesOrder_103 : decode cX7_doesOrder 103 = .ok (.iload_n 3, 1) := by decide +kernel
theorem dX7_doesOrder_104 : decode cX7_doesOrder 104 = .ok (.invokevirtual 106, 3) := by decide +kernel
theorem dX7_doesOrder_107 : decode cX7_doesOrder 107 = .ok (.ireturn, 1) := by decide +kernel
theorem dX7_doesOrder_108 : decode cX7_doesOrder 108 = .ok (.aload_n 0, 1) := by decide +kernel
theorem dX7_doesOrder_109 : decode cX7_doesOrder 109 = .ok (.iload_n 2, 1) := by decide +kernel
theorem dX7_doesOrder_110 : decode cX7_doesOrder 110 = .ok (.iload_n 3, 1) := by decide +kernel
theorem dX7_doesOrder_111 : decode cX7_doesOrder 111 = .ok (.invokevirtual 109, 3) := by decide +kernel
theorem dX7_doesOrder_114 : decode cX7_doesOrder 114 = .ok (.ireturn, 1) := by decide +kernel
theorem dX7_doesOrder_115 : decode cX7_doesOrder 115 = .ok (.aload_n 0, 1) := by decide +kernel
theorem dX7_doesOrder_116 : decode cX7_doesOrder 116 = .ok (.iload_n 2, 1) := by decide +kernel
theorem dX7_doesOrder_117 : decode cX7_doesOrder 117 = .ok (.iload_n 3, 1) := by decide +kernel
theorem dX7_doesOrder_118 : decode cX7_doesOrder 118 = .ok (.invokevirtual 112, 3) := by decide +kernel
theorem dX7_doesOrder_121 : decode cX7_doesOrder 121 = .ok (.ireturn, 1) := by decide +kernel
set_option maxRecDepth 20000 in
theorem ggX7_does_X7_isRead : GoodIn wsX7_does wsX7_isRead := goodIn_r _ [9, 1, 2, 10, 11, 12, 13, 14, 8, 15, 16, 17, 18, 19, 20, 21, 22, 23, 24, 25, 26, 27, 28, 29, 30, 31, 32, 33, 34, 35, 36, 91, 92, 93, 94, 95, 96, 97, 98, 99, 100, 101, 102, 103, 104, 105, 106, 107, 108, 109, 110, 111, 112, 113, 114] (by decide +kernel) (by decide +kernel)
set_option maxRecDepth 20000 in
theorem gX7_does_X7_isRead : GoodIn wsX7_does (wsV RX7 241 RX7 yX7_isRead wsX7_isRead) := goodIn_app (goodIn_of _ (by decide +kernel)) ggX7_does_X7_isRead
set_option maxRecDepth 20000 in
theorem ggX7_does_X7_laysAside : GoodIn wsX7_does wsX7_laysAside := goodIn_r _ [40, 4, 3, 91, 92, 93, 94, 95, 96, 97, 98, 99, 100, 101, 102, 103, 104, 105, 106, 107, 108, 109, 110, 111, 112, 113, 114] (by decide +kernel) (by decide +kernel)
set_option maxRecDepth 20000 in
theorem gX7_does_X7_laysAside : GoodIn wsX7_does (wsV RX7 93 RX7 yX7_laysAside wsX7_laysAside) := goodIn_app (goodIn_of _ (by decide +kernel)) ggX7_does_X7_laysAside
set_option maxRecDepth 20000 in
theorem ggX7_does_X7_doesOrder : GoodIn wsX7_does wsX7_doesOrder := goodIn_r _ [44, 28, 29, 45, 46, 47, 8, 48, 3, 21, 22, 23, 49, 50, 51, 52, 53, 54, 55, 56, 57, 58, 59, 60, 61, 62, 63, 64, 65, 66, 67, 68, 69, 70, 71, 72, 73, 74, 75, 76, 77, 78, 79, 80, 81, 82, 83, 84, 91, 92, 93, 94, 95, 96, 97, 98, 99, 100, 101, 102, 103, 104, 105, 106, 107, 108, 109, 110, 111, 112, 113, 114] (by decide +kernel) (by decide +kernel)
set_option maxRecDepth 20000 in
theorem gX7_does_X7_doesOrder : GoodIn wsX7_does (wsV RX7 245 RX7 yX7_doesOrder wsX7_doesOrder) := goodIn_app (goodIn_of _ (by decide +kernel)) ggX7_does_X7_doesOrder
set_option maxRecDepth 20000 in
theorem ggX7_does_X7_leaves : GoodIn wsX7_does wsX7_leaves := goodIn_r _ [88, 89, 90, 4, 91, 92, 93, 94, 95, 96, 97, 98, 99, 100, 101, 102, 103, 104, 105, 106, 107, 108, 109, 110, 111, 112, 113, 114] (by decide +kernel) (by decide +kernel)
set_option maxRecDepth 20000 in
theorem gX7_does_X7_leaves : GoodIn wsX7_does (wsV RX7 62 RX7 yX7_leaves wsX7_leaves) := goodIn_app (goodIn_of _ (by decide +kernel)) ggX7_does_X7_leaves
theorem dX7_does_0 : decode cX7_does 0 = .ok (.aload_n 0, 1) := by decide +kernel
