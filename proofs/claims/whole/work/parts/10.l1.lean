/-! the law calls -/
set_option maxRecDepth 20000 in
theorem ggL_law_X6_init : GoodIn wsL_law wsX6_init := goodIn_r _ [8, 9, 10, 11, 12, 13, 14, 15, 16, 17, 18, 19, 20, 21, 22, 23, 24, 25, 26, 27, 28, 29, 30, 31, 32, 33, 34, 35, 36, 37, 38, 39, 40, 41, 42, 43, 44, 45, 46, 47, 48, 49, 50, 51, 52, 53, 54, 55, 56, 57, 58, 59, 60, 61, 62, 63, 64, 65, 66, 67, 68, 69, 70, 71, 72, 73, 74, 75, 76, 832, 833, 834, 835, 836, 795, 796, 797, 798, 799, 800, 801, 802, 803, 804, 805, 806, 807, 837, 838, 839, 840, 841, 842, 843, 844, 845, 846, 847, 848, 849, 850, 851, 852, 853, 854, 855, 856, 857, 858, 859, 860, 861] (by decide +kernel) (by decide +kernel)
set_option maxRecDepth 20000 in
theorem gL_law_X6_init : GoodIn wsL_law (wsX6_init) := ggL_law_X6_init
set_option maxRecDepth 20000 in
theorem ggL_law_X7_init : GoodIn wsL_law wsX7_init := goodIn_r _ [79, 80, 10, 11, 42, 81, 82, 83, 84, 85, 86, 87, 67, 88, 89, 90, 91, 92, 93, 808, 809, 810, 811, 812, 813, 814, 815, 816, 817, 818, 819, 820, 821, 822, 823, 824, 825, 826, 827, 828, 829, 830, 831] (by decide +kernel) (by decide +kernel)
set_option maxRecDepth 20000 in
theorem gL_law_X7_init : GoodIn wsL_law (wsX7_init) := ggL_law_X7_init
set_option maxRecDepth 20000 in
theorem ggL_law_X6_line : GoodIn wsL_law wsX6_line := goodIn_r _ [97, 98, 99, 100, 2, 101, 16, 15, 102, 103, 104, 14, 105, 43, 106, 107, 108, 109, 44, 45, 110, 111, 112, 113, 114, 115, 116, 117, 118, 119, 120, 121, 122, 123, 124, 125, 126, 127, 128, 129, 130, 131, 132, 133, 134, 135, 136, 137, 138, 20, 139, 140, 141, 19, 142, 51, 143, 144, 145, 146, 147, 148, 149, 150, 151, 152, 153, 154, 795, 796, 797, 798, 799, 800, 801, 802, 803, 804, 805, 806, 807, 832, 833, 834, 835, 836, 837, 838, 839] (by decide +kernel) (by decide +kernel)
set_option maxRecDepth 20000 in
theorem gL_law_X6_line : GoodIn wsL_law (wsV RL 13 RX6 yX6_line wsX6_line) := goodIn_app (goodIn_of _ (by decide +kernel)) ggL_law_X6_line
set_option maxRecDepth 20000 in
theorem ggL_law_X7_line : GoodIn wsL_law wsX7_line := goodIn_r _ [158, 159, 160, 161, 5, 162, 82, 81, 163, 164, 165, 166, 167, 168, 169, 170, 171, 172, 173, 174, 175, 176, 177, 178, 179, 180, 181, 182, 183, 184, 185, 186, 187, 83, 188, 189, 190, 191, 84, 192, 193, 194, 195, 808, 809, 810, 811, 812, 813, 814, 815, 816, 817, 818, 819, 820, 821, 822, 823, 824, 825, 826, 827, 828, 829, 830, 831] (by decide +kernel) (by decide +kernel)
set_option maxRecDepth 20000 in
theorem gL_law_X7_line : GoodIn wsL_law (wsV RL 17 RX7 yX7_line wsX7_line) := goodIn_app (goodIn_of _ (by decide +kernel)) ggL_law_X7_line
set_option maxRecDepth 20000 in
theorem ggL_law_X6_drops : GoodIn wsL_law wsX6_drops := goodIn_r _ [199, 98, 99, 100, 2, 101, 16, 15, 102, 103, 104, 14, 105, 43, 106, 107, 108, 109, 44, 45, 110, 111, 200, 201, 202, 203, 119, 120, 124, 125, 126, 127, 128, 129, 130, 131, 132, 133, 134, 135, 136, 137, 138, 20, 139, 140, 141, 19, 142, 51, 143, 144, 145, 146, 147, 148, 149, 150, 151, 152, 153, 154, 795, 796, 797, 798, 799, 800, 801, 802, 803, 804, 805, 806, 807, 832, 833, 834, 835, 836, 837, 838, 839] (by decide +kernel) (by decide +kernel)
set_option maxRecDepth 20000 in
theorem gL_law_X6_drops : GoodIn wsL_law (wsV RL 18 RX6 yX6_drops wsX6_drops) := goodIn_app (goodIn_of _ (by decide +kernel)) ggL_law_X6_drops
set_option maxRecDepth 20000 in
theorem ggL_law_X7_drops : GoodIn wsL_law wsX7_drops := goodIn_r _ [207, 159, 160, 161, 5, 162, 82, 81, 208, 209, 210, 211, 212, 213, 214, 215, 167, 168, 169, 179, 180, 181, 182, 183, 184, 185, 186, 187, 83, 188, 189, 190, 191, 84, 192, 193, 194, 195, 808, 809, 810, 811, 812, 813, 814, 815, 816, 817, 818, 819, 820, 821, 822, 823, 824, 825, 826, 827, 828, 829, 830, 831] (by decide +kernel) (by decide +kernel)
set_option maxRecDepth 20000 in
theorem gL_law_X7_drops : GoodIn wsL_law (wsV RL 22 RX7 yX7_drops wsX7_drops) := goodIn_app (goodIn_of _ (by decide +kernel)) ggL_law_X7_drops
set_option maxRecDepth 20000 in
theorem ggL_law_X6_table : GoodIn wsL_law wsX6_table := goodIn_r _ [219, 98, 99, 100, 2, 101, 16, 15, 102, 103, 104, 14, 105, 43, 106, 107, 108, 109, 44, 45, 110, 111, 220, 221, 222, 223, 119, 120, 124, 125, 126, 127, 128, 129, 130, 131, 132, 133, 134, 135, 136, 137, 138, 20, 139, 140, 141, 19, 142, 51, 143, 144, 145, 146, 147, 148, 149, 150, 151, 152, 153, 154, 795, 796, 797, 798, 799, 800, 801, 802, 803, 804, 805, 806, 807, 832, 833, 834, 835, 836, 837, 838, 839] (by decide +kernel) (by decide +kernel)
set_option maxRecDepth 20000 in
theorem gL_law_X6_table : GoodIn wsL_law (wsV RL 23 RX6 yX6_table wsX6_table) := goodIn_app (goodIn_of _ (by decide +kernel)) ggL_law_X6_table
set_option maxRecDepth 20000 in
theorem ggL_law_X7_table : GoodIn wsL_law wsX7_table := goodIn_r _ [227, 159, 160, 161, 5, 162, 82, 81, 228, 229, 230, 231, 176, 177, 178, 167, 168, 169, 232, 233, 234, 235, 179, 180, 181, 182, 183, 184, 185, 186, 187, 83, 188, 189, 190, 191, 84, 192, 193, 194, 195, 808, 809, 810, 811, 812, 813, 814, 815, 816, 817, 818, 819, 820, 821, 822, 823, 824, 825, 826, 827, 828, 829, 830, 831] (by decide +kernel) (by decide +kernel)
set_option maxRecDepth 20000 in
theorem gL_law_X7_table : GoodIn wsL_law (wsV RL 27 RX7 yX7_table wsX7_table) := goodIn_app (goodIn_of _ (by decide +kernel)) ggL_law_X7_table
set_option maxRecDepth 20000 in
theorem ggL_law_X6_start : GoodIn wsL_law wsX6_start := goodIn_r _ [239, 98, 99, 100, 2, 101, 16, 15, 102, 103, 104, 14, 105, 43, 106, 107, 108, 109, 44, 45, 110, 111, 240, 241, 242, 243, 119, 120, 124, 125, 126, 127, 128, 129, 130, 131, 132, 133, 134, 135, 136, 137, 138, 20, 139, 140, 141, 19, 142, 51, 143, 144, 145, 146, 147, 148, 149, 150, 151, 152, 153, 154, 795, 796, 797, 798, 799, 800, 801, 802, 803, 804, 805, 806, 807, 832, 833, 834, 835, 836, 837, 838, 839] (by decide +kernel) (by decide +kernel)
set_option maxRecDepth 20000 in
theorem gL_law_X6_start : GoodIn wsL_law (wsV RL 28 RX6 yX6_start wsX6_start) := goodIn_app (goodIn_of _ (by decide +kernel)) ggL_law_X6_start
set_option maxRecDepth 20000 in
theorem ggL_law_X7_start : GoodIn wsL_law wsX7_start := goodIn_r _ [247, 159, 160, 161, 5, 162, 82, 81, 248, 249, 250, 251, 170, 171, 172, 167, 168, 169, 176, 177, 178, 232, 233, 234, 235, 179, 180, 181, 182, 183, 184, 185, 186, 187, 83, 188, 189, 190, 191, 84, 192, 193, 194, 195, 808, 809, 810, 811, 812, 813, 814, 815, 816, 817, 818, 819, 820, 821, 822, 823, 824, 825, 826, 827, 828, 829, 830, 831] (by decide +kernel) (by decide +kernel)
set_option maxRecDepth 20000 in
theorem gL_law_X7_start : GoodIn wsL_law (wsV RL 31 RX7 yX7_start wsX7_start) := goodIn_app (goodIn_of _ (by decide +kernel)) ggL_law_X7_start
set_option maxRecDepth 20000 in
theorem ggL_law_X6_secret : GoodIn wsL_law wsX6_secret := goodIn_r _ [255, 98, 99, 100, 2, 101, 16, 15, 102, 103, 104, 14, 105, 43, 106, 107, 108, 109, 44, 45, 110, 111, 256, 257, 258, 259, 119, 120, 260, 261, 262, 263, 264, 265, 266, 124, 125, 126, 127, 128, 129, 130, 131, 132, 133, 134, 135, 136, 137, 138, 20, 139, 140, 141, 19, 142, 51, 143, 144, 145, 146, 147, 148, 149, 150, 151, 152, 153, 154, 795, 796, 797, 798, 799, 800, 801, 802, 803, 804, 805, 806, 807, 832, 833, 834, 835, 836, 837, 838, 839] (by decide +kernel) (by decide +kernel)
set_option maxRecDepth 20000 in
theorem gL_law_X6_secret : GoodIn wsL_law (wsV RL 32 RX6 yX6_secret wsX6_secret) := goodIn_app (goodIn_of _ (by decide +kernel)) ggL_law_X6_secret
set_option maxRecDepth 20000 in
theorem ggL_law_X7_secret : GoodIn wsL_law wsX7_secret := goodIn_r _ [270, 159, 160, 161, 5, 162, 82, 81, 271, 272, 273, 274, 170, 171, 172, 167, 168, 169, 275, 276, 277, 179, 180, 181, 182, 183, 184, 185, 186, 187, 83, 188, 189, 190, 191, 84, 192, 193, 194, 195, 808, 809, 810, 811, 812, 813, 814, 815, 816, 817, 818, 819, 820, 821, 822, 823, 824, 825, 826, 827, 828, 829, 830, 831] (by decide +kernel) (by decide +kernel)
set_option maxRecDepth 20000 in
theorem gL_law_X7_secret : GoodIn wsL_law (wsV RL 35 RX7 yX7_secret wsX7_secret) := goodIn_app (goodIn_of _ (by decide +kernel)) ggL_law_X7_secret
