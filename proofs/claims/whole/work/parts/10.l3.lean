/-! the law calls -/
set_option maxRecDepth 20000 in
theorem ggL_law_X6_reached : GoodIn wsL_law wsX6_reached := goodIn_r _ [566, 15, 290, 119, 2, 120, 128, 129, 130, 131, 132, 133, 134, 453, 454, 455, 456, 153, 33, 457, 458, 459, 32, 460, 461, 68, 462, 463, 464, 465, 70, 69, 466, 467, 468, 469, 71, 470, 107, 108, 109, 471, 472, 413, 387, 414, 473, 474, 475, 14, 476, 43, 477, 478, 479, 480, 481, 482, 483, 484, 485, 486, 487, 488, 489, 490, 491, 492, 493, 494, 495, 496, 497, 498, 499, 500, 501, 502, 503, 504, 310, 311, 505, 506, 507, 508, 795, 796, 797, 798, 799, 800, 801, 802, 803, 804, 805, 806, 807, 832, 833, 834, 835, 836, 853, 854, 855, 856, 857, 858] (by decide +kernel) (by decide +kernel)
set_option maxRecDepth 20000 in
theorem gL_law_X6_reached : GoodIn wsL_law (wsV RL 62 RX6 yX6_reached wsX6_reached) := goodIn_app (goodIn_of _ (by decide +kernel)) ggL_law_X6_reached
set_option maxRecDepth 20000 in
theorem ggL_law_X7_reached : GoodIn wsL_law wsX7_reached := goodIn_r _ [570, 88, 521, 522, 523, 5, 524, 81, 167, 168, 169, 192, 193, 194, 195, 84, 525, 526, 527, 528, 89, 529, 91, 530, 531, 532, 533, 534, 90, 535, 536, 537, 538, 539, 540, 541, 542, 346, 347, 348, 349, 543, 544, 545, 546, 547, 548, 549, 550, 339, 340, 341, 551, 552, 553, 554, 555, 556, 557, 558, 354, 355, 356, 357, 358, 359, 360, 808, 809, 810, 811, 812, 813, 814, 815, 816, 817, 818, 819, 820, 821, 822, 823, 824, 825, 826, 827, 828, 829, 830, 831] (by decide +kernel) (by decide +kernel)
set_option maxRecDepth 20000 in
theorem gL_law_X7_reached : GoodIn wsL_law (wsV RL 65 RX7 yX7_reached wsX7_reached) := goodIn_app (goodIn_of _ (by decide +kernel)) ggL_law_X7_reached
set_option maxRecDepth 20000 in
theorem ggL_law_X6_alarm : GoodIn wsL_law wsX6_alarm := goodIn_r _ [574, 15, 128, 129, 130, 2, 131, 132, 133, 134, 453, 454, 455, 456, 153, 33, 457, 458, 459, 32, 460, 461, 68, 462, 463, 464, 465, 70, 69, 466, 467, 468, 469, 71, 470, 107, 108, 109, 471, 472, 413, 387, 414, 473, 474, 475, 14, 476, 43, 477, 478, 479, 480, 481, 482, 483, 484, 485, 486, 487, 488, 489, 490, 491, 492, 493, 494, 495, 496, 497, 498, 499, 500, 501, 502, 503, 504, 310, 311, 575, 576, 577, 578, 579, 580, 581, 582, 583, 510, 511, 512, 795, 796, 797, 798, 799, 800, 801, 802, 803, 804, 805, 806, 807, 832, 833, 834, 835, 836, 853, 854, 855, 856, 857, 858] (by decide +kernel) (by decide +kernel)
set_option maxRecDepth 20000 in
theorem gL_law_X6_alarm : GoodIn wsL_law (wsV RL 66 RX6 yX6_alarm wsX6_alarm) := goodIn_app (goodIn_of _ (by decide +kernel)) ggL_law_X6_alarm
set_option maxRecDepth 20000 in
theorem ggL_law_X7_alarm : GoodIn wsL_law wsX7_alarm := goodIn_r _ [587, 192, 193, 194, 5, 195, 84, 588, 589, 590, 591, 81, 525, 526, 527, 528, 88, 89, 529, 91, 530, 531, 532, 533, 534, 90, 535, 536, 537, 538, 539, 540, 541, 542, 346, 347, 348, 349, 543, 544, 545, 546, 547, 548, 549, 550, 339, 340, 341, 551, 552, 553, 554, 555, 556, 557, 558, 354, 355, 356, 357, 358, 359, 360, 592, 593, 594, 595, 808, 809, 810, 811, 812, 813, 814, 815, 816, 817, 818, 819, 820, 821, 822, 823, 824, 825, 826, 827, 828, 829, 830, 831] (by decide +kernel) (by decide +kernel)
set_option maxRecDepth 20000 in
theorem gL_law_X7_alarm : GoodIn wsL_law (wsV RL 69 RX7 yX7_alarm wsX7_alarm) := goodIn_app (goodIn_of _ (by decide +kernel)) ggL_law_X7_alarm
set_option maxRecDepth 20000 in
theorem ggL_law_X6_accepted : GoodIn wsL_law wsX6_accepted := goodIn_r _ [599, 15, 453, 454, 455, 2, 456, 153, 33, 457, 458, 459, 32, 460, 461, 68, 462, 463, 464, 465, 70, 69, 466, 467, 468, 469, 71, 470, 107, 108, 109, 471, 472, 413, 387, 414, 473, 474, 475, 14, 476, 43, 477, 478, 479, 480, 481, 482, 483, 484, 485, 486, 487, 488, 489, 490, 491, 492, 493, 494, 495, 496, 497, 498, 499, 500, 501, 502, 503, 504, 310, 311, 600, 601, 602, 603, 604, 576, 577, 578, 579, 580, 581, 582, 583, 510, 511, 512, 795, 796, 797, 798, 799, 800, 801, 802, 803, 804, 805, 806, 807, 832, 833, 834, 835, 836, 853, 854, 855, 856, 857, 858] (by decide +kernel) (by decide +kernel)
set_option maxRecDepth 20000 in
theorem gL_law_X6_accepted : GoodIn wsL_law (wsV RL 70 RX6 yX6_accepted wsX6_accepted) := goodIn_app (goodIn_of _ (by decide +kernel)) ggL_law_X6_accepted
set_option maxRecDepth 20000 in
theorem ggL_law_X7_accepted : GoodIn wsL_law wsX7_accepted := goodIn_r _ [608, 609, 610, 611, 5, 612, 588, 589, 590, 591, 81, 525, 526, 527, 528, 88, 89, 529, 91, 530, 531, 532, 533, 534, 90, 535, 536, 537, 538, 539, 540, 541, 542, 346, 347, 348, 349, 543, 544, 545, 546, 547, 548, 549, 550, 339, 340, 341, 551, 552, 553, 554, 555, 556, 557, 558, 354, 355, 356, 357, 358, 359, 360, 592, 593, 594, 595, 808, 809, 810, 811, 812, 813, 814, 815, 816, 817, 818, 819, 820, 821, 822, 823, 824, 825, 826, 827, 828, 829, 830, 831] (by decide +kernel) (by decide +kernel)
set_option maxRecDepth 20000 in
theorem gL_law_X7_accepted : GoodIn wsL_law (wsV RL 73 RX7 yX7_accepted wsX7_accepted) := goodIn_app (goodIn_of _ (by decide +kernel)) ggL_law_X7_accepted
set_option maxRecDepth 20000 in
theorem ggL_law_X6_of : GoodIn wsL_law wsX6_of := goodIn_r _ [616, 15, 290, 119, 2, 120, 128, 129, 130, 131, 132, 133, 134, 617, 474, 475, 14, 476, 43, 795, 796, 797, 798, 799, 800, 801, 802, 803, 804, 805, 806, 807, 832, 833, 834, 835, 836] (by decide +kernel) (by decide +kernel)
set_option maxRecDepth 20000 in
theorem gL_law_X6_of : GoodIn wsL_law (wsV RL 74 RX6 yX6_of wsX6_of) := goodIn_app (goodIn_of _ (by decide +kernel)) ggL_law_X6_of
set_option maxRecDepth 20000 in
theorem ggL_law_X7_of : GoodIn wsL_law wsX7_of := goodIn_r _ [621, 212, 213, 214, 5, 215, 81, 167, 168, 169, 346, 347, 348, 349, 192, 193, 194, 195, 84, 808, 809, 810, 811, 812, 813, 814, 815, 816, 817, 818, 819, 820, 821, 822, 823, 824, 825, 826, 827, 828, 829, 830, 831] (by decide +kernel) (by decide +kernel)
set_option maxRecDepth 20000 in
theorem gL_law_X7_of : GoodIn wsL_law (wsV RL 77 RX7 yX7_of wsX7_of) := goodIn_app (goodIn_of _ (by decide +kernel)) ggL_law_X7_of
set_option maxRecDepth 20000 in
theorem ggL_law_X6_told : GoodIn wsL_law wsX6_told := goodIn_r _ [625, 15, 290, 119, 2, 120, 128, 129, 130, 131, 132, 133, 134, 626, 627, 628, 14, 629, 110, 111, 45, 44, 795, 796, 797, 798, 799, 800, 801, 802, 803, 804, 805, 806, 807, 832, 833, 834, 835, 836] (by decide +kernel) (by decide +kernel)
set_option maxRecDepth 20000 in
theorem gL_law_X6_told : GoodIn wsL_law (wsV RL 78 RX6 yX6_told wsX6_told) := goodIn_app (goodIn_of _ (by decide +kernel)) ggL_law_X6_told
set_option maxRecDepth 20000 in
theorem ggL_law_X7_told : GoodIn wsL_law wsX7_told := goodIn_r _ [633, 81, 167, 168, 5, 169, 192, 193, 194, 195, 84, 808, 809, 810, 811, 812, 813, 814, 815, 816, 817, 818, 819, 820, 821, 822, 823, 824, 825, 826, 827, 828, 829, 830, 831] (by decide +kernel) (by decide +kernel)
set_option maxRecDepth 20000 in
theorem gL_law_X7_told : GoodIn wsL_law (wsV RL 81 RX7 yX7_told wsX7_told) := goodIn_app (goodIn_of _ (by decide +kernel)) ggL_law_X7_told
set_option maxRecDepth 20000 in
theorem ggL_law_X6_type : GoodIn wsL_law wsX6_type := goodIn_r _ [637, 24, 290, 119, 2, 120, 128, 129, 130, 131, 132, 133, 134, 638, 639, 640, 23, 641, 642, 56, 795, 796, 797, 798, 799, 800, 801, 802, 803, 804, 805, 806, 807, 840, 841, 842, 843, 844, 845, 846, 847] (by decide +kernel) (by decide +kernel)
set_option maxRecDepth 20000 in
theorem gL_law_X6_type : GoodIn wsL_law (wsV RL 82 RX6 yX6_type wsX6_type) := goodIn_app (goodIn_of _ (by decide +kernel)) ggL_law_X6_type
set_option maxRecDepth 20000 in
theorem ggL_law_X7_type : GoodIn wsL_law wsX7_type := goodIn_r _ [646, 647, 85, 167, 168, 5, 169, 192, 193, 194, 195, 84, 188, 189, 190, 191, 808, 809, 810, 811, 812, 813, 814, 815, 816, 817, 818, 819, 820, 821, 822, 823, 824, 825, 826, 827, 828, 829, 830, 831] (by decide +kernel) (by decide +kernel)
set_option maxRecDepth 20000 in
theorem gL_law_X7_type : GoodIn wsL_law (wsV RL 85 RX7 yX7_type wsX7_type) := goodIn_app (goodIn_of _ (by decide +kernel)) ggL_law_X7_type
